abbrev P_X12_isWord_17 (ad : Nat → Nat) (cy : Nat → ClassId) (B : Int) (qr : Nat) (s1 : Int)  (w0 : va_W) : Int32 → va_W → Prop := fun r u => TW ksM ad cy B qr 12 u ∧ FE ksM [(12, 14, 14)] w0 u ∧ ((r = 0 ∧ (∃ y : Int32, gi u 0 1 = y ∧ 0 ≤ y.toInt ∧ y.toInt ≤ 400) ∧ (((gi u 0 14).toInt = (gi w0 0 14).toInt ∨ (gi w0 1 ((gi w0 0 14).toInt).toNat).toInt = 32))) ∨ (r = 1 ∧ (∃ y : Int32, gi u 0 1 = y ∧ 0 ≤ y.toInt ∧ y.toInt ≤ 400) ∧ (((gi u 0 14).toInt = (gi w0 0 14).toInt ∨ (gi w0 1 ((gi w0 0 14).toInt).toNat).toInt = 32))))
set_option maxHeartbeats 4000000 in
set_option maxRecDepth 100000 in
theorem k_X12_isWord_17 (l : Launch) (adK adV : Nat → Nat) (dC : Nat → ClassId) (dI : Nat → Nat → Nat) (cy : Nat → ClassId) (ad : Nat → Nat) (B : Int) (hB0 : 100000 ≤ B) (hB1 : B ≤ 1073741824) (qr : Nat) (s1 : Int)   (w0 : va_W) (sz : Nat) (hT : TW ksM ad cy B qr 12 w0) (f0_ : Int32) (cf0_ : gi w0 0 14 = f0_) (rf0_ : 0 ≤ f0_.toInt) (tf0_ : f0_.toInt ≤ 400) : Met l yX12_isWord wsX12_isWord ({ frames := 2, cells := 0, slots := 0, locals := 33 }) (va_Pc [.ref (ad 0), .long 418548245860] (wpreS adK adV dC dI cy sz w0)) (va_Qi (P_X12_isWord_17 ad cy B qr s1  w0) (fun u : va_W => wpost dC dI cy (va_A w0 sz) u) (va_A w0 sz)) 0 0 (va_A w0 sz) := by
  refine Met.ofW (cc := cX12_isWord) (maxL := 6) (ret := (some .boolean)) (by decide) rfl ?_
  intro p e s m args below meth c s₁ Bk hml hv
  obtain ⟨rfl, ⟨hsz, hP, hK, hD0⟩, hE, hSR⟩ := hv
  have hx := Bk.exec
  have hb := Bk.bytes
  have hr := Bk.returns
  have hlocks := Bk.notSynchronized
  have hC : CallFix p m c cX12_isWord 6 s _ wsX12_isWord RX12 := ⟨hx, hb, hml, findClass_of_methodNamed Bk.named, atoms_spec (ws := wsX12_isWord) Bk.pre⟩
  subst hsz
  have hD := hD0.self (sz := s.heap.size)
  generalize hAe : va_A w0 s.heap.size = A at hD hE ⊢
  have hA : ∀ q : Nat, s.heap.size ≤ q → A q := fun q h => by rw [← hAe]; exact Or.inr h
  have hw : Wd dC dI A s.heap s.heap [] w0 := ⟨hP, hD, va_S.rf⟩
  have hF : FE ksM [(12, 14, 14)] w0 w0 := FE.rf
  have hl := lv_entry ([.ref (ad 0), .long 418548245860]) (n := 6) (Nat.le_of_ble_eq_true rfl)
  rw [lg_entry_eq]
  generalize (lg_sl ([.ref (ad 0), .long 418548245860]) ++ List.replicate (6 - (lg_sl ([.ref (ad 0), .long 418548245860])).length) Slot.unset).toArray = ls at hl ⊢
  have hl : lv_has ls 6 [(0, .ref (ad 0)), (1, .long 418548245860)] := hl
  generalize hloc : ([] : List Loc) = locs at hw ⊢
  have hinX12 : ∀ w ∈ u_ws RX12 TX12 42, w ∈ wsX12_isWord := fun _ h => List.mem_cons_of_mem _ (List.mem_append_right _ (h))
  have J78 : ∀ (v78_3 : Int64) (v78_5 : Int32) (f78_0_1 : Int32) (f78_0_14 : Int32) (H : Heap) (locs : List Loc) (ls : Array Slot) (w1 : va_W), 0 ≤ v78_5.toInt → v78_5.toInt ≤ 400 → 0 ≤ f78_0_1.toInt → f78_0_1.toInt ≤ 400 → 0 ≤ f78_0_14.toInt → f78_0_14.toInt ≤ 400 → ((f78_0_14.toInt = f0_.toInt ∨ (gi w0 1 (f0_.toInt).toNat).toInt = 32)) → Wd dC dI A s.heap H locs w1 → TW ksM ad cy B qr 12 w1 → FE ksM [(12, 14, 14)] w0 w1 → gi w1 0 1 = f78_0_1 → gi w1 0 14 = f78_0_14 → lv_has ls 6 [(0, .ref (ad 0)), (1, .long 418548245860), (3, .long v78_3), (5, .int v78_5)] → W p l e ({ frames := 2, cells := 0, slots := 0, locals := 33 }) s m (List.toArray [.ref (ad 0), .long 418548245860]) below meth c H locs 0 0 (MQ below (va_Qi (P_X12_isWord_17 ad cy B qr s1  w0) (fun u : va_W => wpost dC dI cy A u) A) (List.toArray [.ref (ad 0), .long 418548245860]) s 0 0 A) (F0 m 78 ls []) := by
    intro v78_3 v78_5 f78_0_1 f78_0_14 H locs ls w1 r2 t3 r4 t5 r7 t8 hcr78_0 hw hT hF c6 c9 hl
    refine lv_iconst (v := 0) hx hb dX12_isWord_78 (by decide) ?_
    exact tk_zret hC hr rfl hlocks hK ⟨hT, hF, (Or.inl ⟨rfl, ⟨f78_0_1, c6, (show 0 ≤ f78_0_1.toInt by omega), (show f78_0_1.toInt ≤ 400 by omega)⟩, (by simp only [cf0_, c9]; omega)⟩)⟩ hw dX12_isWord_79
  have L10 : ∀ (n10 : Nat) (v10_3 : Int64) (v10_5 : Int32) (f10_0_1 : Int32) (f10_0_14 : Int32) (H : Heap) (locs : List Loc) (ls : Array Slot) (w10 : va_W), 0 ≤ v10_5.toInt → v10_5.toInt ≤ 400 → 0 ≤ f10_0_1.toInt → f10_0_1.toInt ≤ 400 → 0 ≤ f10_0_14.toInt → f10_0_14.toInt ≤ 400 → ((f10_0_14.toInt = f0_.toInt ∨ (gi w0 1 (f0_.toInt).toNat).toInt = 32)) → (400 - v10_5.toInt).toNat < n10 → Wd dC dI A s.heap H locs w10 → TW ksM ad cy B qr 12 w10 → FE ksM [(12, 14, 14)] w0 w10 → gi w10 0 1 = f10_0_1 → gi w10 0 14 = f10_0_14 → lv_has ls 6 [(0, .ref (ad 0)), (1, .long 418548245860), (3, .long v10_3), (5, .int v10_5)] → W p l e ({ frames := 2, cells := 0, slots := 0, locals := 33 }) s m (List.toArray [.ref (ad 0), .long 418548245860]) below meth c H locs 0 0 (MQ below (va_Qi (P_X12_isWord_17 ad cy B qr s1  w0) (fun u : va_W => wpost dC dI cy A u) A) (List.toArray [.ref (ad 0), .long 418548245860]) s 0 0 A) (F0 m 10 ls []) := by
    intro n10
    induction n10 with
    | zero => intro v10_3 v10_5 f10_0_1 f10_0_14 H locs ls w10 r11 t12 r13 t14 r16 t17 hcr10_0 hm10 hw hT hF c15 c18 hl; omega
    | succ n10 ih10 =>
      intro v10_3 v10_5 f10_0_1 f10_0_14 H locs ls w10 r11 t12 r13 t14 r16 t17 hcr10_0 hm10 hw hT hF c15 c18 hl
      have J50 : ∀ (v50_3 : Int64) (H : Heap) (locs : List Loc) (ls : Array Slot) (w19 : va_W), 0 ≤ v10_5.toInt → v10_5.toInt ≤ 399 → 1 ≤ f10_0_1.toInt → f10_0_1.toInt ≤ 400 → 0 ≤ f10_0_14.toInt → f10_0_14.toInt ≤ 399 → ((f10_0_14.toInt = f0_.toInt ∨ (gi w0 1 (f0_.toInt).toNat).toInt = 32)) → Wd dC dI A s.heap H locs w19 → TW ksM ad cy B qr 12 w19 → FE ksM [(12, 14, 14)] w0 w19 → gi w19 0 1 = f10_0_1 → gi w19 0 14 = f10_0_14 → lv_has ls 6 [(0, .ref (ad 0)), (1, .long 418548245860), (3, .long v50_3), (5, .int v10_5)] → W p l e ({ frames := 2, cells := 0, slots := 0, locals := 33 }) s m (List.toArray [.ref (ad 0), .long 418548245860]) below meth c H locs 0 0 (MQ below (va_Qi (P_X12_isWord_17 ad cy B qr s1  w0) (fun u : va_W => wpost dC dI cy A u) A) (List.toArray [.ref (ad 0), .long 418548245860]) s 0 0 A) (F0 m 50 ls []) := by
        intro v50_3 H locs ls w19 r20 t21 r22 t23 r25 t26 hcr50_0 hw hT hF c24 c27 hl
        obtain ⟨x28, ex28⟩ : ∃ y : Int32, y = v10_5 + Int32.ofInt 1 := ⟨_, rfl⟩
        refine lv_iinc (v := x28) (lv' := [(5, .int x28), (0, .ref (ad 0)), (1, .long 418548245860), (3, .long v50_3)]) hx hb dX12_isWord_50 hl (k := 3) rfl ex28.symm (by decide) rfl (fun ls hl => ?_)
        have ex28 : x28.toInt = v10_5.toInt + 1 := by rw [ex28]; exact wk_add (y := 1) (show -2147483648 ≤ v10_5.toInt + 1 by omega) (show v10_5.toInt + 1 ≤ 2147483647 by omega)
        refine lv_goto (tgt := 10) hx hb dX12_isWord_53 (by decide) ?_
        exact ih10 v50_3 x28 f10_0_1 f10_0_14 H locs ls w19 (show 0 ≤ x28.toInt by omega) (show x28.toInt ≤ 400 by omega) (show 0 ≤ f10_0_1.toInt by omega) (show f10_0_1.toInt ≤ 400 by omega) (show 0 ≤ f10_0_14.toInt by omega) (show f10_0_14.toInt ≤ 400 by omega) (show (f10_0_14.toInt = f0_.toInt ∨ (gi w0 1 (f0_.toInt).toNat).toInt = 32) by first | omega | assumption | (left; omega) | (left; decide) | (right; assumption)) (show (400 - x28.toInt).toNat < n10 by omega) hw hT hF c24 c27 (lv_sub hl [1, 2, 3, 0] rfl)
      refine lv_aload_n hx hb dX12_isWord_10 rfl (lv_at hl 0 rfl) ?_
      refine lv_aload_n hx hb dX12_isWord_11 rfl (lv_at hl 0 rfl) ?_
      refine tk_geti hC hK hw hT hinX12 kM_at0 (by decide) rfl 14 (by decide) (List.mem_of_getElem? (i := 1) rfl) rfl rfl dX12_isWord_12 (fun x29 c30 rx29 tx29 => ?_)
      refine wk_top f10_0_14 (c30.symm.trans c18) ?_
      refine lv_iload hx hb dX12_isWord_15 (lv_at hl 3 rfl) ?_
      refine lv_iadd hx hb dX12_isWord_17 ?_
      refine lv_topi (fun x31 ex31 => ?_)
      have ex31 : x31.toInt = f10_0_14.toInt + v10_5.toInt := by rw [ex31]; exact wk_add (show (-2147483648) ≤ f10_0_14.toInt + v10_5.toInt by omega) (show f10_0_14.toInt + v10_5.toInt ≤ 2147483647 by omega)
      refine tk_Vi hC hK hw hT hA hE hSR kM_at0 (by decide) rfl (k_X12_isLetter_1 l adK adV dC dI cy ad B (by omega) (by omega) qr s1   x31 (show 0 ≤ x31.toInt by omega) (show x31.toInt ≤ 800 by omega) w10 H.size hT ) (cwV 1 hC.2.2.2.2 gX12_isWord_X12_isLetter rfl rfl rfl (by decide +kernel) ⟨Nat.le_of_ble_eq_true rfl, Nat.le_of_ble_eq_true rfl⟩) rfl hl.1 rfl (Nat.le_of_ble_eq_true rfl) dX12_isWord_18 (fun r32 w34 H locs hp33 hw => ?_)
      obtain ⟨rfl, hg41⟩ := hp33
      rcases hg41 with ⟨rfl, ⟨x36, c37, rx36, tx36⟩⟩ | ⟨rfl, g38, ⟨x39, c40, rx39, tx39⟩⟩
      · have ex36 : x36.toInt = f10_0_1.toInt := by rw [← c15.symm.trans c37]
        refine lv_if_eq (tgt := 56) hx hb dX12_isWord_21 (by decide) (fun _ => ?_) (fun c => absurd (by decide) c)
        refine lv_iload hx hb dX12_isWord_56 (lv_at hl 3 rfl) ?_
        refine lv_if_le (tgt := 78) hx hb dX12_isWord_58 (by decide) (fun c42 => ?_) (fun c42 => ?_)
        · have c42 : v10_5.toInt ≤ (0 : Int) := wk_le.mp c42
          exact J78 v10_3 v10_5 f10_0_1 f10_0_14 H locs ls w10 (show 0 ≤ v10_5.toInt by omega) (show v10_5.toInt ≤ 400 by omega) (show 0 ≤ f10_0_1.toInt by omega) (show f10_0_1.toInt ≤ 400 by omega) (show 0 ≤ f10_0_14.toInt by omega) (show f10_0_14.toInt ≤ 400 by omega) (show (f10_0_14.toInt = f0_.toInt ∨ (gi w0 1 (f0_.toInt).toNat).toInt = 32) by first | omega | assumption | (left; omega) | (left; decide) | (right; assumption))  hw hT hF c15 c18 (lv_sub hl [0, 1, 2, 3] rfl)
        · have c42 : (0 : Int) < v10_5.toInt := wk_leF c42
          refine lv_iload hx hb dX12_isWord_61 (lv_at hl 3 rfl) ?_
          refine lv_bipush (v := 8) hx hb dX12_isWord_63 (by decide) ?_
          refine lv_icmp_ge (tgt := 78) hx hb dX12_isWord_65 (by decide) (fun c43 => ?_) (fun c43 => ?_)
          · have c43 : (8 : Int) ≤ v10_5.toInt := wk_le.mp c43
            exact J78 v10_3 v10_5 f10_0_1 f10_0_14 H locs ls w10 (show 0 ≤ v10_5.toInt by omega) (show v10_5.toInt ≤ 400 by omega) (show 0 ≤ f10_0_1.toInt by omega) (show f10_0_1.toInt ≤ 400 by omega) (show 0 ≤ f10_0_14.toInt by omega) (show f10_0_14.toInt ≤ 400 by omega) (show (f10_0_14.toInt = f0_.toInt ∨ (gi w0 1 (f0_.toInt).toNat).toInt = 32) by first | omega | assumption | (left; omega) | (left; decide) | (right; assumption))  hw hT hF c15 c18 (lv_sub hl [0, 1, 2, 3] rfl)
          · have c43 : v10_5.toInt < (8 : Int) := wk_leF c43
            refine lv_lload_n hx hb dX12_isWord_68 rfl (lv_at hl 2 rfl) ?_
            refine lv_lload_n hx hb dX12_isWord_69 rfl (lv_at hl 1 rfl) ?_
            refine W.lcmp hx hb dX12_isWord_70 ?_
            refine lv_if_ne (tgt := 78) hx hb dX12_isWord_71 (by decide) (fun c44 => ?_) (fun c44 => ?_)
            · have c44 : ¬ v10_3.toInt = (418548245860 : Int) := wk_ceF c44
              exact J78 v10_3 v10_5 f10_0_1 f10_0_14 H locs ls w10 (show 0 ≤ v10_5.toInt by omega) (show v10_5.toInt ≤ 400 by omega) (show 0 ≤ f10_0_1.toInt by omega) (show f10_0_1.toInt ≤ 400 by omega) (show 0 ≤ f10_0_14.toInt by omega) (show f10_0_14.toInt ≤ 400 by omega) (show (f10_0_14.toInt = f0_.toInt ∨ (gi w0 1 (f0_.toInt).toNat).toInt = 32) by first | omega | assumption | (left; omega) | (left; decide) | (right; assumption))  hw hT hF c15 c18 (lv_sub hl [0, 1, 2, 3] rfl)
            · have c44 : v10_3.toInt = (418548245860 : Int) := wk_ceT c44
              refine lv_iconst (v := 1) hx hb dX12_isWord_74 (by decide) ?_
              refine lv_goto (tgt := 79) hx hb dX12_isWord_75 (by decide) ?_
              exact tk_zret hC hr rfl hlocks hK ⟨hT, hF, (Or.inr ⟨rfl, ⟨f10_0_1, c15, (show 0 ≤ f10_0_1.toInt by omega), (show f10_0_1.toInt ≤ 400 by omega)⟩, (by simp only [cf0_, c18]; omega)⟩)⟩ hw dX12_isWord_79
      · have ex39 : x39.toInt = f10_0_1.toInt := by rw [← c15.symm.trans c40]
        refine lv_if_eq (tgt := 56) hx hb dX12_isWord_21 (by decide) (fun c => absurd c (by decide)) (fun _ => ?_)
        refine lv_iload hx hb dX12_isWord_24 (lv_at hl 3 rfl) ?_
        refine lv_bipush (v := 8) hx hb dX12_isWord_26 (by decide) ?_
        refine lv_icmp_ge (tgt := 50) hx hb dX12_isWord_28 (by decide) (fun c45 => ?_) (fun c45 => ?_)
        · have c45 : (8 : Int) ≤ v10_5.toInt := wk_le.mp c45
          exact J50 v10_3 H locs ls w10 (show 0 ≤ v10_5.toInt by omega) (show v10_5.toInt ≤ 399 by omega) (show 1 ≤ f10_0_1.toInt by omega) (show f10_0_1.toInt ≤ 400 by omega) (show 0 ≤ f10_0_14.toInt by omega) (show f10_0_14.toInt ≤ 399 by omega) (show (f10_0_14.toInt = f0_.toInt ∨ (gi w0 1 (f0_.toInt).toNat).toInt = 32) by first | omega | assumption | (left; omega) | (left; decide) | (right; assumption))  hw hT hF c15 c18 (lv_sub hl [0, 1, 2, 3] rfl)
        · have c45 : v10_5.toInt < (8 : Int) := wk_leF c45
          refine lv_lload_n hx hb dX12_isWord_31 rfl (lv_at hl 2 rfl) ?_
          refine lv_bipush (v := 8) hx hb dX12_isWord_32 (by decide) ?_
          refine lv_lshl hx hb dX12_isWord_34 rfl ?_
          refine lv_topl (fun x46 ex46 => ?_)
          refine lv_aload_n hx hb dX12_isWord_35 rfl (lv_at hl 0 rfl) ?_
          refine tk_getA hC hK hw hT hinX12 kM_at0 (by decide) rfl 0 (by decide) (List.mem_of_getElem? (i := 2) rfl) rfl rfl dX12_isWord_36 ?_
          refine lv_aload_n hx hb dX12_isWord_39 rfl (lv_at hl 0 rfl) ?_
          refine tk_geti hC hK hw hT hinX12 kM_at0 (by decide) rfl 14 (by decide) (List.mem_of_getElem? (i := 1) rfl) rfl rfl dX12_isWord_40 (fun x47 c48 rx47 tx47 => ?_)
          refine wk_top f10_0_14 (c48.symm.trans c18) ?_
          refine lv_iload hx hb dX12_isWord_43 (lv_at hl 3 rfl) ?_
          refine lv_iadd hx hb dX12_isWord_45 ?_
          refine lv_topi (fun x49 ex49 => ?_)
          have ex49 : x49.toInt = f10_0_14.toInt + v10_5.toInt := by rw [ex49]; exact wk_add (show (-2147483648) ≤ f10_0_14.toInt + v10_5.toInt by omega) (show f10_0_14.toInt + v10_5.toInt ≤ 2147483647 by omega)
          refine tk_bald hC hK hw hT kM_at1 rfl rfl (show 0 ≤ x49.toInt by omega) (show x49.toInt < 400 by omega) dX12_isWord_46 (fun x50 c51 rx50 tx50 => ?_)
          have c51 : gi w10 1 (1 * f10_0_14.toInt + 1 * v10_5.toInt + 0).toNat = x50 := (congrArg (gi w10 1) (congrArg Int.toNat (show 1 * f10_0_14.toInt + 1 * v10_5.toInt + 0 = x49.toInt by omega))).trans c51
          refine lv_i2l hx hb dX12_isWord_47 rfl ?_
          refine lv_topl (fun x52 ex52 => ?_)
          have ex52 : x52.toInt = x50.toInt := by rw [ex52]; exact wk_i2l _
          have bx52 := wk_i32 x50
          refine lv_lor hx hb dX12_isWord_48 ?_
          refine lv_topl (fun x53 ex53 => ?_)
          refine lv_lstore_n (lv' := [(3, .long x53), (0, .ref (ad 0)), (1, .long 418548245860), (5, .int v10_5)]) hx hb dX12_isWord_49 rfl hl (by decide) rfl (fun ls hl => ?_)
          exact J50 x53 H locs ls w10 (show 0 ≤ v10_5.toInt by omega) (show v10_5.toInt ≤ 399 by omega) (show 1 ≤ f10_0_1.toInt by omega) (show f10_0_1.toInt ≤ 400 by omega) (show 0 ≤ f10_0_14.toInt by omega) (show f10_0_14.toInt ≤ 399 by omega) (show (f10_0_14.toInt = f0_.toInt ∨ (gi w0 1 (f0_.toInt).toNat).toInt = 32) by first | omega | assumption | (left; omega) | (left; decide) | (right; assumption) | (right; rw [c51]; omega) | (right; rw [c51]; decide))  hw hT hF c15 c18 (lv_sub hl [1, 2, 0, 3] rfl)
  refine lv_aload_n hx hb dX12_isWord_0 rfl (lv_at hl 0 rfl) ?_
  refine tk_Vi hC hK hw hT hA hE hSR kM_at0 (by decide) rfl (k_X12_see_1 l adK adV dC dI cy ad B (by omega) (by omega) qr s1    w0 s.heap.size hT f0_ cf0_ (show 0 ≤ f0_.toInt by omega) (show f0_.toInt ≤ 400 by omega)) (cwV 0 hC.2.2.2.2 gX12_isWord_X12_see rfl rfl rfl (by decide +kernel) ⟨Nat.le_of_ble_eq_true rfl, Nat.le_of_ble_eq_true rfl⟩) rfl hl.1 rfl (Nat.le_of_ble_eq_true rfl) dX12_isWord_1 (fun r54 w56 H locs hp55 hw => ?_)
  obtain ⟨hT, k57, hg74⟩ := hp55
  have hF := hF.tr k57 (by decide)
  rcases hg74 with ⟨g58, g59, ⟨x60, c61, rx60, tx60⟩, ⟨x62, c63, rx62, tx62⟩, g64, g65⟩ | ⟨rfl, ⟨x66, c67, rx66, tx66⟩, ⟨x68, c69, rx68, tx68⟩, g70⟩ | ⟨rfl, ⟨x71, c72, rx71, tx71⟩, g73⟩
  · have g64 : (gi w56 1 (x62.toInt).toNat).toInt ≠ 32 := by have q := g64; simp only [c63] at q; omega
    have g65 : (x62.toInt = f0_.toInt ∨ (gi w0 1 (f0_.toInt).toNat).toInt = 32) := by have q := g65; simp only [cf0_, c63] at q; omega
    refine lv_pop hx hb dX12_isWord_4 rfl ?_
    refine lv_lconst (v := 0) hx hb dX12_isWord_5 (by decide) ?_
    refine lv_lstore_n (lv' := [(3, .long 0), (0, .ref (ad 0)), (1, .long 418548245860)]) hx hb dX12_isWord_6 rfl hl (by decide) rfl (fun ls hl => ?_)
    refine lv_iconst (v := 0) hx hb dX12_isWord_7 (by decide) ?_
    refine lv_istore (lv' := [(5, .int 0), (3, .long 0), (0, .ref (ad 0)), (1, .long 418548245860)]) hx hb dX12_isWord_8 hl (by decide) rfl (fun ls hl => ?_)
    exact L10 ((400 - (0 : Int)).toNat + 1) 0 0 x60 x62 H locs ls w56 (by decide) (by decide) (show 0 ≤ x60.toInt by omega) (show x60.toInt ≤ 400 by omega) (show 0 ≤ x62.toInt by omega) (show x62.toInt ≤ 400 by omega) (show (x62.toInt = f0_.toInt ∨ (gi w0 1 (f0_.toInt).toNat).toInt = 32) by first | omega | assumption | (left; omega) | (left; decide) | (right; assumption)) (Nat.lt_succ_self _) hw hT hF c61 c63 (lv_sub hl [2, 3, 1, 0] rfl)
  · have g70 : (x68.toInt = f0_.toInt ∨ (gi w0 1 (f0_.toInt).toNat).toInt = 32) := by have q := g70; simp only [cf0_, c69] at q; omega
    refine lv_pop hx hb dX12_isWord_4 rfl ?_
    refine lv_lconst (v := 0) hx hb dX12_isWord_5 (by decide) ?_
    refine lv_lstore_n (lv' := [(3, .long 0), (0, .ref (ad 0)), (1, .long 418548245860)]) hx hb dX12_isWord_6 rfl hl (by decide) rfl (fun ls hl => ?_)
    refine lv_iconst (v := 0) hx hb dX12_isWord_7 (by decide) ?_
    refine lv_istore (lv' := [(5, .int 0), (3, .long 0), (0, .ref (ad 0)), (1, .long 418548245860)]) hx hb dX12_isWord_8 hl (by decide) rfl (fun ls hl => ?_)
    exact L10 ((400 - (0 : Int)).toNat + 1) 0 0 x66 x68 H locs ls w56 (by decide) (by decide) (show 0 ≤ x66.toInt by omega) (show x66.toInt ≤ 400 by omega) (show 0 ≤ x68.toInt by omega) (show x68.toInt ≤ 400 by omega) (show (x68.toInt = f0_.toInt ∨ (gi w0 1 (f0_.toInt).toNat).toInt = 32) by first | omega | assumption | (left; omega) | (left; decide) | (right; assumption)) (Nat.lt_succ_self _) hw hT hF c67 c69 (lv_sub hl [2, 3, 1, 0] rfl)
  · obtain ⟨x75, c76, rx75, tx75⟩ := hT.rdi (lo := 0) (hi := 400) (k := 14) kM_at0 (by decide) rfl
    have g73 : (x75.toInt = f0_.toInt ∨ (gi w0 1 (f0_.toInt).toNat).toInt = 32) := by have q := g73; simp only [cf0_, c76] at q; omega
    refine lv_pop hx hb dX12_isWord_4 rfl ?_
    refine lv_lconst (v := 0) hx hb dX12_isWord_5 (by decide) ?_
    refine lv_lstore_n (lv' := [(3, .long 0), (0, .ref (ad 0)), (1, .long 418548245860)]) hx hb dX12_isWord_6 rfl hl (by decide) rfl (fun ls hl => ?_)
    refine lv_iconst (v := 0) hx hb dX12_isWord_7 (by decide) ?_
    refine lv_istore (lv' := [(5, .int 0), (3, .long 0), (0, .ref (ad 0)), (1, .long 418548245860)]) hx hb dX12_isWord_8 hl (by decide) rfl (fun ls hl => ?_)
    exact L10 ((400 - (0 : Int)).toNat + 1) 0 0 x71 x75 H locs ls w56 (by decide) (by decide) (show 0 ≤ x71.toInt by omega) (show x71.toInt ≤ 400 by omega) (show 0 ≤ x75.toInt by omega) (show x75.toInt ≤ 400 by omega) (show (x75.toInt = f0_.toInt ∨ (gi w0 1 (f0_.toInt).toNat).toInt = 32) by first | omega | assumption | (left; omega) | (left; decide) | (right; assumption)) (Nat.lt_succ_self _) hw hT hF c72 c76 (lv_sub hl [2, 3, 1, 0] rfl)
abbrev P_X12_isWord_18 (ad : Nat → Nat) (cy : Nat → ClassId) (B : Int) (qr : Nat) (s1 : Int)  (w0 : va_W) : Int32 → va_W → Prop := fun r u => TW ksM ad cy B qr 12 u ∧ FE ksM [(12, 14, 14)] w0 u ∧ ((r = 0 ∧ (∃ y : Int32, gi u 0 1 = y ∧ 0 ≤ y.toInt ∧ y.toInt ≤ 400) ∧ (((gi u 0 14).toInt = (gi w0 0 14).toInt ∨ (gi w0 1 ((gi w0 0 14).toInt).toNat).toInt = 32))) ∨ (r = 1 ∧ (∃ y : Int32, gi u 0 1 = y ∧ 0 ≤ y.toInt ∧ y.toInt ≤ 400) ∧ (((gi u 0 14).toInt = (gi w0 0 14).toInt ∨ (gi w0 1 ((gi w0 0 14).toInt).toNat).toInt = 32))))
set_option maxHeartbeats 4000000 in
set_option maxRecDepth 100000 in
theorem k_X12_isWord_18 (l : Launch) (adK adV : Nat → Nat) (dC : Nat → ClassId) (dI : Nat → Nat → Nat) (cy : Nat → ClassId) (ad : Nat → Nat) (B : Int) (hB0 : 100000 ≤ B) (hB1 : B ≤ 1073741824) (qr : Nat) (s1 : Int)   (w0 : va_W) (sz : Nat) (hT : TW ksM ad cy B qr 12 w0) (f0_ : Int32) (cf0_ : gi w0 0 14 = f0_) (rf0_ : 0 ≤ f0_.toInt) (tf0_ : f0_.toInt ≤ 400) : Met l yX12_isWord wsX12_isWord ({ frames := 2, cells := 0, slots := 0, locals := 33 }) (va_Pc [.ref (ad 0), .long 495874044019] (wpreS adK adV dC dI cy sz w0)) (va_Qi (P_X12_isWord_18 ad cy B qr s1  w0) (fun u : va_W => wpost dC dI cy (va_A w0 sz) u) (va_A w0 sz)) 0 0 (va_A w0 sz) := by
  refine Met.ofW (cc := cX12_isWord) (maxL := 6) (ret := (some .boolean)) (by decide) rfl ?_
  intro p e s m args below meth c s₁ Bk hml hv
  obtain ⟨rfl, ⟨hsz, hP, hK, hD0⟩, hE, hSR⟩ := hv
  have hx := Bk.exec
  have hb := Bk.bytes
  have hr := Bk.returns
  have hlocks := Bk.notSynchronized
  have hC : CallFix p m c cX12_isWord 6 s _ wsX12_isWord RX12 := ⟨hx, hb, hml, findClass_of_methodNamed Bk.named, atoms_spec (ws := wsX12_isWord) Bk.pre⟩
  subst hsz
  have hD := hD0.self (sz := s.heap.size)
  generalize hAe : va_A w0 s.heap.size = A at hD hE ⊢
  have hA : ∀ q : Nat, s.heap.size ≤ q → A q := fun q h => by rw [← hAe]; exact Or.inr h
  have hw : Wd dC dI A s.heap s.heap [] w0 := ⟨hP, hD, va_S.rf⟩
  have hF : FE ksM [(12, 14, 14)] w0 w0 := FE.rf
  have hl := lv_entry ([.ref (ad 0), .long 495874044019]) (n := 6) (Nat.le_of_ble_eq_true rfl)
  rw [lg_entry_eq]
  generalize (lg_sl ([.ref (ad 0), .long 495874044019]) ++ List.replicate (6 - (lg_sl ([.ref (ad 0), .long 495874044019])).length) Slot.unset).toArray = ls at hl ⊢
  have hl : lv_has ls 6 [(0, .ref (ad 0)), (1, .long 495874044019)] := hl
  generalize hloc : ([] : List Loc) = locs at hw ⊢
  have hinX12 : ∀ w ∈ u_ws RX12 TX12 42, w ∈ wsX12_isWord := fun _ h => List.mem_cons_of_mem _ (List.mem_append_right _ (h))
  have J78 : ∀ (v78_3 : Int64) (v78_5 : Int32) (f78_0_1 : Int32) (f78_0_14 : Int32) (H : Heap) (locs : List Loc) (ls : Array Slot) (w1 : va_W), 0 ≤ v78_5.toInt → v78_5.toInt ≤ 400 → 0 ≤ f78_0_1.toInt → f78_0_1.toInt ≤ 400 → 0 ≤ f78_0_14.toInt → f78_0_14.toInt ≤ 400 → ((f78_0_14.toInt = f0_.toInt ∨ (gi w0 1 (f0_.toInt).toNat).toInt = 32)) → Wd dC dI A s.heap H locs w1 → TW ksM ad cy B qr 12 w1 → FE ksM [(12, 14, 14)] w0 w1 → gi w1 0 1 = f78_0_1 → gi w1 0 14 = f78_0_14 → lv_has ls 6 [(0, .ref (ad 0)), (1, .long 495874044019), (3, .long v78_3), (5, .int v78_5)] → W p l e ({ frames := 2, cells := 0, slots := 0, locals := 33 }) s m (List.toArray [.ref (ad 0), .long 495874044019]) below meth c H locs 0 0 (MQ below (va_Qi (P_X12_isWord_18 ad cy B qr s1  w0) (fun u : va_W => wpost dC dI cy A u) A) (List.toArray [.ref (ad 0), .long 495874044019]) s 0 0 A) (F0 m 78 ls []) := by
    intro v78_3 v78_5 f78_0_1 f78_0_14 H locs ls w1 r2 t3 r4 t5 r7 t8 hcr78_0 hw hT hF c6 c9 hl
    refine lv_iconst (v := 0) hx hb dX12_isWord_78 (by decide) ?_
    exact tk_zret hC hr rfl hlocks hK ⟨hT, hF, (Or.inl ⟨rfl, ⟨f78_0_1, c6, (show 0 ≤ f78_0_1.toInt by omega), (show f78_0_1.toInt ≤ 400 by omega)⟩, (by simp only [cf0_, c9]; omega)⟩)⟩ hw dX12_isWord_79
  have L10 : ∀ (n10 : Nat) (v10_3 : Int64) (v10_5 : Int32) (f10_0_1 : Int32) (f10_0_14 : Int32) (H : Heap) (locs : List Loc) (ls : Array Slot) (w10 : va_W), 0 ≤ v10_5.toInt → v10_5.toInt ≤ 400 → 0 ≤ f10_0_1.toInt → f10_0_1.toInt ≤ 400 → 0 ≤ f10_0_14.toInt → f10_0_14.toInt ≤ 400 → ((f10_0_14.toInt = f0_.toInt ∨ (gi w0 1 (f0_.toInt).toNat).toInt = 32)) → (400 - v10_5.toInt).toNat < n10 → Wd dC dI A s.heap H locs w10 → TW ksM ad cy B qr 12 w10 → FE ksM [(12, 14, 14)] w0 w10 → gi w10 0 1 = f10_0_1 → gi w10 0 14 = f10_0_14 → lv_has ls 6 [(0, .ref (ad 0)), (1, .long 495874044019), (3, .long v10_3), (5, .int v10_5)] → W p l e ({ frames := 2, cells := 0, slots := 0, locals := 33 }) s m (List.toArray [.ref (ad 0), .long 495874044019]) below meth c H locs 0 0 (MQ below (va_Qi (P_X12_isWord_18 ad cy B qr s1  w0) (fun u : va_W => wpost dC dI cy A u) A) (List.toArray [.ref (ad 0), .long 495874044019]) s 0 0 A) (F0 m 10 ls []) := by
    intro n10
    induction n10 with
    | zero => intro v10_3 v10_5 f10_0_1 f10_0_14 H locs ls w10 r11 t12 r13 t14 r16 t17 hcr10_0 hm10 hw hT hF c15 c18 hl; omega
    | succ n10 ih10 =>
      intro v10_3 v10_5 f10_0_1 f10_0_14 H locs ls w10 r11 t12 r13 t14 r16 t17 hcr10_0 hm10 hw hT hF c15 c18 hl
      have J50 : ∀ (v50_3 : Int64) (H : Heap) (locs : List Loc) (ls : Array Slot) (w19 : va_W), 0 ≤ v10_5.toInt → v10_5.toInt ≤ 399 → 1 ≤ f10_0_1.toInt → f10_0_1.toInt ≤ 400 → 0 ≤ f10_0_14.toInt → f10_0_14.toInt ≤ 399 → ((f10_0_14.toInt = f0_.toInt ∨ (gi w0 1 (f0_.toInt).toNat).toInt = 32)) → Wd dC dI A s.heap H locs w19 → TW ksM ad cy B qr 12 w19 → FE ksM [(12, 14, 14)] w0 w19 → gi w19 0 1 = f10_0_1 → gi w19 0 14 = f10_0_14 → lv_has ls 6 [(0, .ref (ad 0)), (1, .long 495874044019), (3, .long v50_3), (5, .int v10_5)] → W p l e ({ frames := 2, cells := 0, slots := 0, locals := 33 }) s m (List.toArray [.ref (ad 0), .long 495874044019]) below meth c H locs 0 0 (MQ below (va_Qi (P_X12_isWord_18 ad cy B qr s1  w0) (fun u : va_W => wpost dC dI cy A u) A) (List.toArray [.ref (ad 0), .long 495874044019]) s 0 0 A) (F0 m 50 ls []) := by
        intro v50_3 H locs ls w19 r20 t21 r22 t23 r25 t26 hcr50_0 hw hT hF c24 c27 hl
        obtain ⟨x28, ex28⟩ : ∃ y : Int32, y = v10_5 + Int32.ofInt 1 := ⟨_, rfl⟩
        refine lv_iinc (v := x28) (lv' := [(5, .int x28), (0, .ref (ad 0)), (1, .long 495874044019), (3, .long v50_3)]) hx hb dX12_isWord_50 hl (k := 3) rfl ex28.symm (by decide) rfl (fun ls hl => ?_)
        have ex28 : x28.toInt = v10_5.toInt + 1 := by rw [ex28]; exact wk_add (y := 1) (show -2147483648 ≤ v10_5.toInt + 1 by omega) (show v10_5.toInt + 1 ≤ 2147483647 by omega)
        refine lv_goto (tgt := 10) hx hb dX12_isWord_53 (by decide) ?_
        exact ih10 v50_3 x28 f10_0_1 f10_0_14 H locs ls w19 (show 0 ≤ x28.toInt by omega) (show x28.toInt ≤ 400 by omega) (show 0 ≤ f10_0_1.toInt by omega) (show f10_0_1.toInt ≤ 400 by omega) (show 0 ≤ f10_0_14.toInt by omega) (show f10_0_14.toInt ≤ 400 by omega) (show (f10_0_14.toInt = f0_.toInt ∨ (gi w0 1 (f0_.toInt).toNat).toInt = 32) by first | omega | assumption | (left; omega) | (left; decide) | (right; assumption)) (show (400 - x28.toInt).toNat < n10 by omega) hw hT hF c24 c27 (lv_sub hl [1, 2, 3, 0] rfl)
      refine lv_aload_n hx hb dX12_isWord_10 rfl (lv_at hl 0 rfl) ?_
      refine lv_aload_n hx hb dX12_isWord_11 rfl (lv_at hl 0 rfl) ?_
      refine tk_geti hC hK hw hT hinX12 kM_at0 (by decide) rfl 14 (by decide) (List.mem_of_getElem? (i := 1) rfl) rfl rfl dX12_isWord_12 (fun x29 c30 rx29 tx29 => ?_)
      refine wk_top f10_0_14 (c30.symm.trans c18) ?_
      refine lv_iload hx hb dX12_isWord_15 (lv_at hl 3 rfl) ?_
      refine lv_iadd hx hb dX12_isWord_17 ?_
      refine lv_topi (fun x31 ex31 => ?_)
      have ex31 : x31.toInt = f10_0_14.toInt + v10_5.toInt := by rw [ex31]; exact wk_add (show (-2147483648) ≤ f10_0_14.toInt + v10_5.toInt by omega) (show f10_0_14.toInt + v10_5.toInt ≤ 2147483647 by omega)
      refine tk_Vi hC hK hw hT hA hE hSR kM_at0 (by decide) rfl (k_X12_isLetter_1 l adK adV dC dI cy ad B (by omega) (by omega) qr s1   x31 (show 0 ≤ x31.toInt by omega) (show x31.toInt ≤ 800 by omega) w10 H.size hT ) (cwV 1 hC.2.2.2.2 gX12_isWord_X12_isLetter rfl rfl rfl (by decide +kernel) ⟨Nat.le_of_ble_eq_true rfl, Nat.le_of_ble_eq_true rfl⟩) rfl hl.1 rfl (Nat.le_of_ble_eq_true rfl) dX12_isWord_18 (fun r32 w34 H locs hp33 hw => ?_)
      obtain ⟨rfl, hg41⟩ := hp33
      rcases hg41 with ⟨rfl, ⟨x36, c37, rx36, tx36⟩⟩ | ⟨rfl, g38, ⟨x39, c40, rx39, tx39⟩⟩
      · have ex36 : x36.toInt = f10_0_1.toInt := by rw [← c15.symm.trans c37]
        refine lv_if_eq (tgt := 56) hx hb dX12_isWord_21 (by decide) (fun _ => ?_) (fun c => absurd (by decide) c)
        refine lv_iload hx hb dX12_isWord_56 (lv_at hl 3 rfl) ?_
        refine lv_if_le (tgt := 78) hx hb dX12_isWord_58 (by decide) (fun c42 => ?_) (fun c42 => ?_)
        · have c42 : v10_5.toInt ≤ (0 : Int) := wk_le.mp c42
          exact J78 v10_3 v10_5 f10_0_1 f10_0_14 H locs ls w10 (show 0 ≤ v10_5.toInt by omega) (show v10_5.toInt ≤ 400 by omega) (show 0 ≤ f10_0_1.toInt by omega) (show f10_0_1.toInt ≤ 400 by omega) (show 0 ≤ f10_0_14.toInt by omega) (show f10_0_14.toInt ≤ 400 by omega) (show (f10_0_14.toInt = f0_.toInt ∨ (gi w0 1 (f0_.toInt).toNat).toInt = 32) by first | omega | assumption | (left; omega) | (left; decide) | (right; assumption))  hw hT hF c15 c18 (lv_sub hl [0, 1, 2, 3] rfl)
        · have c42 : (0 : Int) < v10_5.toInt := wk_leF c42
          refine lv_iload hx hb dX12_isWord_61 (lv_at hl 3 rfl) ?_
          refine lv_bipush (v := 8) hx hb dX12_isWord_63 (by decide) ?_
          refine lv_icmp_ge (tgt := 78) hx hb dX12_isWord_65 (by decide) (fun c43 => ?_) (fun c43 => ?_)
          · have c43 : (8 : Int) ≤ v10_5.toInt := wk_le.mp c43
            exact J78 v10_3 v10_5 f10_0_1 f10_0_14 H locs ls w10 (show 0 ≤ v10_5.toInt by omega) (show v10_5.toInt ≤ 400 by omega) (show 0 ≤ f10_0_1.toInt by omega) (show f10_0_1.toInt ≤ 400 by omega) (show 0 ≤ f10_0_14.toInt by omega) (show f10_0_14.toInt ≤ 400 by omega) (show (f10_0_14.toInt = f0_.toInt ∨ (gi w0 1 (f0_.toInt).toNat).toInt = 32) by first | omega | assumption | (left; omega) | (left; decide) | (right; assumption))  hw hT hF c15 c18 (lv_sub hl [0, 1, 2, 3] rfl)
          · have c43 : v10_5.toInt < (8 : Int) := wk_leF c43
            refine lv_lload_n hx hb dX12_isWord_68 rfl (lv_at hl 2 rfl) ?_
            refine lv_lload_n hx hb dX12_isWord_69 rfl (lv_at hl 1 rfl) ?_
            refine W.lcmp hx hb dX12_isWord_70 ?_
            refine lv_if_ne (tgt := 78) hx hb dX12_isWord_71 (by decide) (fun c44 => ?_) (fun c44 => ?_)
            · have c44 : ¬ v10_3.toInt = (495874044019 : Int) := wk_ceF c44
              exact J78 v10_3 v10_5 f10_0_1 f10_0_14 H locs ls w10 (show 0 ≤ v10_5.toInt by omega) (show v10_5.toInt ≤ 400 by omega) (show 0 ≤ f10_0_1.toInt by omega) (show f10_0_1.toInt ≤ 400 by omega) (show 0 ≤ f10_0_14.toInt by omega) (show f10_0_14.toInt ≤ 400 by omega) (show (f10_0_14.toInt = f0_.toInt ∨ (gi w0 1 (f0_.toInt).toNat).toInt = 32) by first | omega | assumption | (left; omega) | (left; decide) | (right; assumption))  hw hT hF c15 c18 (lv_sub hl [0, 1, 2, 3] rfl)
            · have c44 : v10_3.toInt = (495874044019 : Int) := wk_ceT c44
              refine lv_iconst (v := 1) hx hb dX12_isWord_74 (by decide) ?_
              refine lv_goto (tgt := 79) hx hb dX12_isWord_75 (by decide) ?_
              exact tk_zret hC hr rfl hlocks hK ⟨hT, hF, (Or.inr ⟨rfl, ⟨f10_0_1, c15, (show 0 ≤ f10_0_1.toInt by omega), (show f10_0_1.toInt ≤ 400 by omega)⟩, (by simp only [cf0_, c18]; omega)⟩)⟩ hw dX12_isWord_79
      · have ex39 : x39.toInt = f10_0_1.toInt := by rw [← c15.symm.trans c40]
        refine lv_if_eq (tgt := 56) hx hb dX12_isWord_21 (by decide) (fun c => absurd c (by decide)) (fun _ => ?_)
        refine lv_iload hx hb dX12_isWord_24 (lv_at hl 3 rfl) ?_
        refine lv_bipush (v := 8) hx hb dX12_isWord_26 (by decide) ?_
        refine lv_icmp_ge (tgt := 50) hx hb dX12_isWord_28 (by decide) (fun c45 => ?_) (fun c45 => ?_)
        · have c45 : (8 : Int) ≤ v10_5.toInt := wk_le.mp c45
          exact J50 v10_3 H locs ls w10 (show 0 ≤ v10_5.toInt by omega) (show v10_5.toInt ≤ 399 by omega) (show 1 ≤ f10_0_1.toInt by omega) (show f10_0_1.toInt ≤ 400 by omega) (show 0 ≤ f10_0_14.toInt by omega) (show f10_0_14.toInt ≤ 399 by omega) (show (f10_0_14.toInt = f0_.toInt ∨ (gi w0 1 (f0_.toInt).toNat).toInt = 32) by first | omega | assumption | (left; omega) | (left; decide) | (right; assumption))  hw hT hF c15 c18 (lv_sub hl [0, 1, 2, 3] rfl)
        · have c45 : v10_5.toInt < (8 : Int) := wk_leF c45
          refine lv_lload_n hx hb dX12_isWord_31 rfl (lv_at hl 2 rfl) ?_
          refine lv_bipush (v := 8) hx hb dX12_isWord_32 (by decide) ?_
          refine lv_lshl hx hb dX12_isWord_34 rfl ?_
          refine lv_topl (fun x46 ex46 => ?_)
          refine lv_aload_n hx hb dX12_isWord_35 rfl (lv_at hl 0 rfl) ?_
          refine tk_getA hC hK hw hT hinX12 kM_at0 (by decide) rfl 0 (by decide) (List.mem_of_getElem? (i := 2) rfl) rfl rfl dX12_isWord_36 ?_
          refine lv_aload_n hx hb dX12_isWord_39 rfl (lv_at hl 0 rfl) ?_
          refine tk_geti hC hK hw hT hinX12 kM_at0 (by decide) rfl 14 (by decide) (List.mem_of_getElem? (i := 1) rfl) rfl rfl dX12_isWord_40 (fun x47 c48 rx47 tx47 => ?_)
          refine wk_top f10_0_14 (c48.symm.trans c18) ?_
          refine lv_iload hx hb dX12_isWord_43 (lv_at hl 3 rfl) ?_
          refine lv_iadd hx hb dX12_isWord_45 ?_
          refine lv_topi (fun x49 ex49 => ?_)
          have ex49 : x49.toInt = f10_0_14.toInt + v10_5.toInt := by rw [ex49]; exact wk_add (show (-2147483648) ≤ f10_0_14.toInt + v10_5.toInt by omega) (show f10_0_14.toInt + v10_5.toInt ≤ 2147483647 by omega)
          refine tk_bald hC hK hw hT kM_at1 rfl rfl (show 0 ≤ x49.toInt by omega) (show x49.toInt < 400 by omega) dX12_isWord_46 (fun x50 c51 rx50 tx50 => ?_)
          have c51 : gi w10 1 (1 * f10_0_14.toInt + 1 * v10_5.toInt + 0).toNat = x50 := (congrArg (gi w10 1) (congrArg Int.toNat (show 1 * f10_0_14.toInt + 1 * v10_5.toInt + 0 = x49.toInt by omega))).trans c51
          refine lv_i2l hx hb dX12_isWord_47 rfl ?_
          refine lv_topl (fun x52 ex52 => ?_)
          have ex52 : x52.toInt = x50.toInt := by rw [ex52]; exact wk_i2l _
          have bx52 := wk_i32 x50
          refine lv_lor hx hb dX12_isWord_48 ?_
          refine lv_topl (fun x53 ex53 => ?_)
          refine lv_lstore_n (lv' := [(3, .long x53), (0, .ref (ad 0)), (1, .long 495874044019), (5, .int v10_5)]) hx hb dX12_isWord_49 rfl hl (by decide) rfl (fun ls hl => ?_)
          exact J50 x53 H locs ls w10 (show 0 ≤ v10_5.toInt by omega) (show v10_5.toInt ≤ 399 by omega) (show 1 ≤ f10_0_1.toInt by omega) (show f10_0_1.toInt ≤ 400 by omega) (show 0 ≤ f10_0_14.toInt by omega) (show f10_0_14.toInt ≤ 399 by omega) (show (f10_0_14.toInt = f0_.toInt ∨ (gi w0 1 (f0_.toInt).toNat).toInt = 32) by first | omega | assumption | (left; omega) | (left; decide) | (right; assumption) | (right; rw [c51]; omega) | (right; rw [c51]; decide))  hw hT hF c15 c18 (lv_sub hl [1, 2, 0, 3] rfl)
  refine lv_aload_n hx hb dX12_isWord_0 rfl (lv_at hl 0 rfl) ?_
  refine tk_Vi hC hK hw hT hA hE hSR kM_at0 (by decide) rfl (k_X12_see_1 l adK adV dC dI cy ad B (by omega) (by omega) qr s1    w0 s.heap.size hT f0_ cf0_ (show 0 ≤ f0_.toInt by omega) (show f0_.toInt ≤ 400 by omega)) (cwV 0 hC.2.2.2.2 gX12_isWord_X12_see rfl rfl rfl (by decide +kernel) ⟨Nat.le_of_ble_eq_true rfl, Nat.le_of_ble_eq_true rfl⟩) rfl hl.1 rfl (Nat.le_of_ble_eq_true rfl) dX12_isWord_1 (fun r54 w56 H locs hp55 hw => ?_)
  obtain ⟨hT, k57, hg74⟩ := hp55
  have hF := hF.tr k57 (by decide)
  rcases hg74 with ⟨g58, g59, ⟨x60, c61, rx60, tx60⟩, ⟨x62, c63, rx62, tx62⟩, g64, g65⟩ | ⟨rfl, ⟨x66, c67, rx66, tx66⟩, ⟨x68, c69, rx68, tx68⟩, g70⟩ | ⟨rfl, ⟨x71, c72, rx71, tx71⟩, g73⟩
  · have g64 : (gi w56 1 (x62.toInt).toNat).toInt ≠ 32 := by have q := g64; simp only [c63] at q; omega
    have g65 : (x62.toInt = f0_.toInt ∨ (gi w0 1 (f0_.toInt).toNat).toInt = 32) := by have q := g65; simp only [cf0_, c63] at q; omega
    refine lv_pop hx hb dX12_isWord_4 rfl ?_
    refine lv_lconst (v := 0) hx hb dX12_isWord_5 (by decide) ?_
    refine lv_lstore_n (lv' := [(3, .long 0), (0, .ref (ad 0)), (1, .long 495874044019)]) hx hb dX12_isWord_6 rfl hl (by decide) rfl (fun ls hl => ?_)
    refine lv_iconst (v := 0) hx hb dX12_isWord_7 (by decide) ?_
    refine lv_istore (lv' := [(5, .int 0), (3, .long 0), (0, .ref (ad 0)), (1, .long 495874044019)]) hx hb dX12_isWord_8 hl (by decide) rfl (fun ls hl => ?_)
    exact L10 ((400 - (0 : Int)).toNat + 1) 0 0 x60 x62 H locs ls w56 (by decide) (by decide) (show 0 ≤ x60.toInt by omega) (show x60.toInt ≤ 400 by omega) (show 0 ≤ x62.toInt by omega) (show x62.toInt ≤ 400 by omega) (show (x62.toInt = f0_.toInt ∨ (gi w0 1 (f0_.toInt).toNat).toInt = 32) by first | omega | assumption | (left; omega) | (left; decide) | (right; assumption)) (Nat.lt_succ_self _) hw hT hF c61 c63 (lv_sub hl [2, 3, 1, 0] rfl)
  · have g70 : (x68.toInt = f0_.toInt ∨ (gi w0 1 (f0_.toInt).toNat).toInt = 32) := by have q := g70; simp only [cf0_, c69] at q; omega
    refine lv_pop hx hb dX12_isWord_4 rfl ?_
    refine lv_lconst (v := 0) hx hb dX12_isWord_5 (by decide) ?_
    refine lv_lstore_n (lv' := [(3, .long 0), (0, .ref (ad 0)), (1, .long 495874044019)]) hx hb dX12_isWord_6 rfl hl (by decide) rfl (fun ls hl => ?_)
    refine lv_iconst (v := 0) hx hb dX12_isWord_7 (by decide) ?_
    refine lv_istore (lv' := [(5, .int 0), (3, .long 0), (0, .ref (ad 0)), (1, .long 495874044019)]) hx hb dX12_isWord_8 hl (by decide) rfl (fun ls hl => ?_)
    exact L10 ((400 - (0 : Int)).toNat + 1) 0 0 x66 x68 H locs ls w56 (by decide) (by decide) (show 0 ≤ x66.toInt by omega) (show x66.toInt ≤ 400 by omega) (show 0 ≤ x68.toInt by omega) (show x68.toInt ≤ 400 by omega) (show (x68.toInt = f0_.toInt ∨ (gi w0 1 (f0_.toInt).toNat).toInt = 32) by first | omega | assumption | (left; omega) | (left; decide) | (right; assumption)) (Nat.lt_succ_self _) hw hT hF c67 c69 (lv_sub hl [2, 3, 1, 0] rfl)
  · obtain ⟨x75, c76, rx75, tx75⟩ := hT.rdi (lo := 0) (hi := 400) (k := 14) kM_at0 (by decide) rfl
    have g73 : (x75.toInt = f0_.toInt ∨ (gi w0 1 (f0_.toInt).toNat).toInt = 32) := by have q := g73; simp only [cf0_, c76] at q; omega
    refine lv_pop hx hb dX12_isWord_4 rfl ?_
    refine lv_lconst (v := 0) hx hb dX12_isWord_5 (by decide) ?_
    refine lv_lstore_n (lv' := [(3, .long 0), (0, .ref (ad 0)), (1, .long 495874044019)]) hx hb dX12_isWord_6 rfl hl (by decide) rfl (fun ls hl => ?_)
    refine lv_iconst (v := 0) hx hb dX12_isWord_7 (by decide) ?_
    refine lv_istore (lv' := [(5, .int 0), (3, .long 0), (0, .ref (ad 0)), (1, .long 495874044019)]) hx hb dX12_isWord_8 hl (by decide) rfl (fun ls hl => ?_)
    exact L10 ((400 - (0 : Int)).toNat + 1) 0 0 x71 x75 H locs ls w56 (by decide) (by decide) (show 0 ≤ x71.toInt by omega) (show x71.toInt ≤ 400 by omega) (show 0 ≤ x75.toInt by omega) (show x75.toInt ≤ 400 by omega) (show (x75.toInt = f0_.toInt ∨ (gi w0 1 (f0_.toInt).toNat).toInt = 32) by first | omega | assumption | (left; omega) | (left; decide) | (right; assumption)) (Nat.lt_succ_self _) hw hT hF c72 c76 (lv_sub hl [2, 3, 1, 0] rfl)
abbrev P_X12_isWord_19 (ad : Nat → Nat) (cy : Nat → ClassId) (B : Int) (qr : Nat) (s1 : Int)  (w0 : va_W) : Int32 → va_W → Prop := fun r u => TW ksM ad cy B qr 12 u ∧ FE ksM [(12, 14, 14)] w0 u ∧ ((r = 0 ∧ (∃ y : Int32, gi u 0 1 = y ∧ 0 ≤ y.toInt ∧ y.toInt ≤ 400) ∧ (((gi u 0 14).toInt = (gi w0 0 14).toInt ∨ (gi w0 1 ((gi w0 0 14).toInt).toNat).toInt = 32))) ∨ (r = 1 ∧ (∃ y : Int32, gi u 0 1 = y ∧ 0 ≤ y.toInt ∧ y.toInt ≤ 400) ∧ (((gi u 0 14).toInt = (gi w0 0 14).toInt ∨ (gi w0 1 ((gi w0 0 14).toInt).toNat).toInt = 32))))
set_option maxHeartbeats 4000000 in
set_option maxRecDepth 100000 in
theorem k_X12_isWord_19 (l : Launch) (adK adV : Nat → Nat) (dC : Nat → ClassId) (dI : Nat → Nat → Nat) (cy : Nat → ClassId) (ad : Nat → Nat) (B : Int) (hB0 : 100000 ≤ B) (hB1 : B ≤ 1073741824) (qr : Nat) (s1 : Int)   (w0 : va_W) (sz : Nat) (hT : TW ksM ad cy B qr 12 w0) (f0_ : Int32) (cf0_ : gi w0 0 14 = f0_) (rf0_ : 0 ≤ f0_.toInt) (tf0_ : f0_.toInt ≤ 400) : Met l yX12_isWord wsX12_isWord ({ frames := 2, cells := 0, slots := 0, locals := 33 }) (va_Pc [.ref (ad 0), .long 6578553] (wpreS adK adV dC dI cy sz w0)) (va_Qi (P_X12_isWord_19 ad cy B qr s1  w0) (fun u : va_W => wpost dC dI cy (va_A w0 sz) u) (va_A w0 sz)) 0 0 (va_A w0 sz) := by
  refine Met.ofW (cc := cX12_isWord) (maxL := 6) (ret := (some .boolean)) (by decide) rfl ?_
  intro p e s m args below meth c s₁ Bk hml hv
  obtain ⟨rfl, ⟨hsz, hP, hK, hD0⟩, hE, hSR⟩ := hv
  have hx := Bk.exec
  have hb := Bk.bytes
  have hr := Bk.returns
  have hlocks := Bk.notSynchronized
  have hC : CallFix p m c cX12_isWord 6 s _ wsX12_isWord RX12 := ⟨hx, hb, hml, findClass_of_methodNamed Bk.named, atoms_spec (ws := wsX12_isWord) Bk.pre⟩
  subst hsz
  have hD := hD0.self (sz := s.heap.size)
  generalize hAe : va_A w0 s.heap.size = A at hD hE ⊢
  have hA : ∀ q : Nat, s.heap.size ≤ q → A q := fun q h => by rw [← hAe]; exact Or.inr h
  have hw : Wd dC dI A s.heap s.heap [] w0 := ⟨hP, hD, va_S.rf⟩
  have hF : FE ksM [(12, 14, 14)] w0 w0 := FE.rf
  have hl := lv_entry ([.ref (ad 0), .long 6578553]) (n := 6) (Nat.le_of_ble_eq_true rfl)
  rw [lg_entry_eq]
  generalize (lg_sl ([.ref (ad 0), .long 6578553]) ++ List.replicate (6 - (lg_sl ([.ref (ad 0), .long 6578553])).length) Slot.unset).toArray = ls at hl ⊢
  have hl : lv_has ls 6 [(0, .ref (ad 0)), (1, .long 6578553)] := hl
  generalize hloc : ([] : List Loc) = locs at hw ⊢
  have hinX12 : ∀ w ∈ u_ws RX12 TX12 42, w ∈ wsX12_isWord := fun _ h => List.mem_cons_of_mem _ (List.mem_append_right _ (h))
  have J78 : ∀ (v78_3 : Int64) (v78_5 : Int32) (f78_0_1 : Int32) (f78_0_14 : Int32) (H : Heap) (locs : List Loc) (ls : Array Slot) (w1 : va_W), 0 ≤ v78_5.toInt → v78_5.toInt ≤ 400 → 0 ≤ f78_0_1.toInt → f78_0_1.toInt ≤ 400 → 0 ≤ f78_0_14.toInt → f78_0_14.toInt ≤ 400 → ((f78_0_14.toInt = f0_.toInt ∨ (gi w0 1 (f0_.toInt).toNat).toInt = 32)) → Wd dC dI A s.heap H locs w1 → TW ksM ad cy B qr 12 w1 → FE ksM [(12, 14, 14)] w0 w1 → gi w1 0 1 = f78_0_1 → gi w1 0 14 = f78_0_14 → lv_has ls 6 [(0, .ref (ad 0)), (1, .long 6578553), (3, .long v78_3), (5, .int v78_5)] → W p l e ({ frames := 2, cells := 0, slots := 0, locals := 33 }) s m (List.toArray [.ref (ad 0), .long 6578553]) below meth c H locs 0 0 (MQ below (va_Qi (P_X12_isWord_19 ad cy B qr s1  w0) (fun u : va_W => wpost dC dI cy A u) A) (List.toArray [.ref (ad 0), .long 6578553]) s 0 0 A) (F0 m 78 ls []) := by
    intro v78_3 v78_5 f78_0_1 f78_0_14 H locs ls w1 r2 t3 r4 t5 r7 t8 hcr78_0 hw hT hF c6 c9 hl
    refine lv_iconst (v := 0) hx hb dX12_isWord_78 (by decide) ?_
    exact tk_zret hC hr rfl hlocks hK ⟨hT, hF, (Or.inl ⟨rfl, ⟨f78_0_1, c6, (show 0 ≤ f78_0_1.toInt by omega), (show f78_0_1.toInt ≤ 400 by omega)⟩, (by simp only [cf0_, c9]; omega)⟩)⟩ hw dX12_isWord_79
  have L10 : ∀ (n10 : Nat) (v10_3 : Int64) (v10_5 : Int32) (f10_0_1 : Int32) (f10_0_14 : Int32) (H : Heap) (locs : List Loc) (ls : Array Slot) (w10 : va_W), 0 ≤ v10_5.toInt → v10_5.toInt ≤ 400 → 0 ≤ f10_0_1.toInt → f10_0_1.toInt ≤ 400 → 0 ≤ f10_0_14.toInt → f10_0_14.toInt ≤ 400 → ((f10_0_14.toInt = f0_.toInt ∨ (gi w0 1 (f0_.toInt).toNat).toInt = 32)) → (400 - v10_5.toInt).toNat < n10 → Wd dC dI A s.heap H locs w10 → TW ksM ad cy B qr 12 w10 → FE ksM [(12, 14, 14)] w0 w10 → gi w10 0 1 = f10_0_1 → gi w10 0 14 = f10_0_14 → lv_has ls 6 [(0, .ref (ad 0)), (1, .long 6578553), (3, .long v10_3), (5, .int v10_5)] → W p l e ({ frames := 2, cells := 0, slots := 0, locals := 33 }) s m (List.toArray [.ref (ad 0), .long 6578553]) below meth c H locs 0 0 (MQ below (va_Qi (P_X12_isWord_19 ad cy B qr s1  w0) (fun u : va_W => wpost dC dI cy A u) A) (List.toArray [.ref (ad 0), .long 6578553]) s 0 0 A) (F0 m 10 ls []) := by
    intro n10
    induction n10 with
    | zero => intro v10_3 v10_5 f10_0_1 f10_0_14 H locs ls w10 r11 t12 r13 t14 r16 t17 hcr10_0 hm10 hw hT hF c15 c18 hl; omega
    | succ n10 ih10 =>
      intro v10_3 v10_5 f10_0_1 f10_0_14 H locs ls w10 r11 t12 r13 t14 r16 t17 hcr10_0 hm10 hw hT hF c15 c18 hl
      have J50 : ∀ (v50_3 : Int64) (H : Heap) (locs : List Loc) (ls : Array Slot) (w19 : va_W), 0 ≤ v10_5.toInt → v10_5.toInt ≤ 399 → 1 ≤ f10_0_1.toInt → f10_0_1.toInt ≤ 400 → 0 ≤ f10_0_14.toInt → f10_0_14.toInt ≤ 399 → ((f10_0_14.toInt = f0_.toInt ∨ (gi w0 1 (f0_.toInt).toNat).toInt = 32)) → Wd dC dI A s.heap H locs w19 → TW ksM ad cy B qr 12 w19 → FE ksM [(12, 14, 14)] w0 w19 → gi w19 0 1 = f10_0_1 → gi w19 0 14 = f10_0_14 → lv_has ls 6 [(0, .ref (ad 0)), (1, .long 6578553), (3, .long v50_3), (5, .int v10_5)] → W p l e ({ frames := 2, cells := 0, slots := 0, locals := 33 }) s m (List.toArray [.ref (ad 0), .long 6578553]) below meth c H locs 0 0 (MQ below (va_Qi (P_X12_isWord_19 ad cy B qr s1  w0) (fun u : va_W => wpost dC dI cy A u) A) (List.toArray [.ref (ad 0), .long 6578553]) s 0 0 A) (F0 m 50 ls []) := by
        intro v50_3 H locs ls w19 r20 t21 r22 t23 r25 t26 hcr50_0 hw hT hF c24 c27 hl
        obtain ⟨x28, ex28⟩ : ∃ y : Int32, y = v10_5 + Int32.ofInt 1 := ⟨_, rfl⟩
        refine lv_iinc (v := x28) (lv' := [(5, .int x28), (0, .ref (ad 0)), (1, .long 6578553), (3, .long v50_3)]) hx hb dX12_isWord_50 hl (k := 3) rfl ex28.symm (by decide) rfl (fun ls hl => ?_)
        have ex28 : x28.toInt = v10_5.toInt + 1 := by rw [ex28]; exact wk_add (y := 1) (show -2147483648 ≤ v10_5.toInt + 1 by omega) (show v10_5.toInt + 1 ≤ 2147483647 by omega)
        refine lv_goto (tgt := 10) hx hb dX12_isWord_53 (by decide) ?_
        exact ih10 v50_3 x28 f10_0_1 f10_0_14 H locs ls w19 (show 0 ≤ x28.toInt by omega) (show x28.toInt ≤ 400 by omega) (show 0 ≤ f10_0_1.toInt by omega) (show f10_0_1.toInt ≤ 400 by omega) (show 0 ≤ f10_0_14.toInt by omega) (show f10_0_14.toInt ≤ 400 by omega) (show (f10_0_14.toInt = f0_.toInt ∨ (gi w0 1 (f0_.toInt).toNat).toInt = 32) by first | omega | assumption | (left; omega) | (left; decide) | (right; assumption)) (show (400 - x28.toInt).toNat < n10 by omega) hw hT hF c24 c27 (lv_sub hl [1, 2, 3, 0] rfl)
      refine lv_aload_n hx hb dX12_isWord_10 rfl (lv_at hl 0 rfl) ?_
      refine lv_aload_n hx hb dX12_isWord_11 rfl (lv_at hl 0 rfl) ?_
      refine tk_geti hC hK hw hT hinX12 kM_at0 (by decide) rfl 14 (by decide) (List.mem_of_getElem? (i := 1) rfl) rfl rfl dX12_isWord_12 (fun x29 c30 rx29 tx29 => ?_)
      refine wk_top f10_0_14 (c30.symm.trans c18) ?_
      refine lv_iload hx hb dX12_isWord_15 (lv_at hl 3 rfl) ?_
      refine lv_iadd hx hb dX12_isWord_17 ?_
      refine lv_topi (fun x31 ex31 => ?_)
      have ex31 : x31.toInt = f10_0_14.toInt + v10_5.toInt := by rw [ex31]; exact wk_add (show (-2147483648) ≤ f10_0_14.toInt + v10_5.toInt by omega) (show f10_0_14.toInt + v10_5.toInt ≤ 2147483647 by omega)
      refine tk_Vi hC hK hw hT hA hE hSR kM_at0 (by decide) rfl (k_X12_isLetter_1 l adK adV dC dI cy ad B (by omega) (by omega) qr s1   x31 (show 0 ≤ x31.toInt by omega) (show x31.toInt ≤ 800 by omega) w10 H.size hT ) (cwV 1 hC.2.2.2.2 gX12_isWord_X12_isLetter rfl rfl rfl (by decide +kernel) ⟨Nat.le_of_ble_eq_true rfl, Nat.le_of_ble_eq_true rfl⟩) rfl hl.1 rfl (Nat.le_of_ble_eq_true rfl) dX12_isWord_18 (fun r32 w34 H locs hp33 hw => ?_)
      obtain ⟨rfl, hg41⟩ := hp33
      rcases hg41 with ⟨rfl, ⟨x36, c37, rx36, tx36⟩⟩ | ⟨rfl, g38, ⟨x39, c40, rx39, tx39⟩⟩
      · have ex36 : x36.toInt = f10_0_1.toInt := by rw [← c15.symm.trans c37]
        refine lv_if_eq (tgt := 56) hx hb dX12_isWord_21 (by decide) (fun _ => ?_) (fun c => absurd (by decide) c)
        refine lv_iload hx hb dX12_isWord_56 (lv_at hl 3 rfl) ?_
        refine lv_if_le (tgt := 78) hx hb dX12_isWord_58 (by decide) (fun c42 => ?_) (fun c42 => ?_)
        · have c42 : v10_5.toInt ≤ (0 : Int) := wk_le.mp c42
          exact J78 v10_3 v10_5 f10_0_1 f10_0_14 H locs ls w10 (show 0 ≤ v10_5.toInt by omega) (show v10_5.toInt ≤ 400 by omega) (show 0 ≤ f10_0_1.toInt by omega) (show f10_0_1.toInt ≤ 400 by omega) (show 0 ≤ f10_0_14.toInt by omega) (show f10_0_14.toInt ≤ 400 by omega) (show (f10_0_14.toInt = f0_.toInt ∨ (gi w0 1 (f0_.toInt).toNat).toInt = 32) by first | omega | assumption | (left; omega) | (left; decide) | (right; assumption))  hw hT hF c15 c18 (lv_sub hl [0, 1, 2, 3] rfl)
        · have c42 : (0 : Int) < v10_5.toInt := wk_leF c42
          refine lv_iload hx hb dX12_isWord_61 (lv_at hl 3 rfl) ?_
          refine lv_bipush (v := 8) hx hb dX12_isWord_63 (by decide) ?_
          refine lv_icmp_ge (tgt := 78) hx hb dX12_isWord_65 (by decide) (fun c43 => ?_) (fun c43 => ?_)
          · have c43 : (8 : Int) ≤ v10_5.toInt := wk_le.mp c43
            exact J78 v10_3 v10_5 f10_0_1 f10_0_14 H locs ls w10 (show 0 ≤ v10_5.toInt by omega) (show v10_5.toInt ≤ 400 by omega) (show 0 ≤ f10_0_1.toInt by omega) (show f10_0_1.toInt ≤ 400 by omega) (show 0 ≤ f10_0_14.toInt by omega) (show f10_0_14.toInt ≤ 400 by omega) (show (f10_0_14.toInt = f0_.toInt ∨ (gi w0 1 (f0_.toInt).toNat).toInt = 32) by first | omega | assumption | (left; omega) | (left; decide) | (right; assumption))  hw hT hF c15 c18 (lv_sub hl [0, 1, 2, 3] rfl)
          · have c43 : v10_5.toInt < (8 : Int) := wk_leF c43
            refine lv_lload_n hx hb dX12_isWord_68 rfl (lv_at hl 2 rfl) ?_
            refine lv_lload_n hx hb dX12_isWord_69 rfl (lv_at hl 1 rfl) ?_
            refine W.lcmp hx hb dX12_isWord_70 ?_
            refine lv_if_ne (tgt := 78) hx hb dX12_isWord_71 (by decide) (fun c44 => ?_) (fun c44 => ?_)
            · have c44 : ¬ v10_3.toInt = (6578553 : Int) := wk_ceF c44
              exact J78 v10_3 v10_5 f10_0_1 f10_0_14 H locs ls w10 (show 0 ≤ v10_5.toInt by omega) (show v10_5.toInt ≤ 400 by omega) (show 0 ≤ f10_0_1.toInt by omega) (show f10_0_1.toInt ≤ 400 by omega) (show 0 ≤ f10_0_14.toInt by omega) (show f10_0_14.toInt ≤ 400 by omega) (show (f10_0_14.toInt = f0_.toInt ∨ (gi w0 1 (f0_.toInt).toNat).toInt = 32) by first | omega | assumption | (left; omega) | (left; decide) | (right; assumption))  hw hT hF c15 c18 (lv_sub hl [0, 1, 2, 3] rfl)
            · have c44 : v10_3.toInt = (6578553 : Int) := wk_ceT c44
              refine lv_iconst (v := 1) hx hb dX12_isWord_74 (by decide) ?_
              refine lv_goto (tgt := 79) hx hb dX12_isWord_75 (by decide) ?_
              exact tk_zret hC hr rfl hlocks hK ⟨hT, hF, (Or.inr ⟨rfl, ⟨f10_0_1, c15, (show 0 ≤ f10_0_1.toInt by omega), (show f10_0_1.toInt ≤ 400 by omega)⟩, (by simp only [cf0_, c18]; omega)⟩)⟩ hw dX12_isWord_79
      · have ex39 : x39.toInt = f10_0_1.toInt := by rw [← c15.symm.trans c40]
        refine lv_if_eq (tgt := 56) hx hb dX12_isWord_21 (by decide) (fun c => absurd c (by decide)) (fun _ => ?_)
        refine lv_iload hx hb dX12_isWord_24 (lv_at hl 3 rfl) ?_
        refine lv_bipush (v := 8) hx hb dX12_isWord_26 (by decide) ?_
        refine lv_icmp_ge (tgt := 50) hx hb dX12_isWord_28 (by decide) (fun c45 => ?_) (fun c45 => ?_)
        · have c45 : (8 : Int) ≤ v10_5.toInt := wk_le.mp c45
          exact J50 v10_3 H locs ls w10 (show 0 ≤ v10_5.toInt by omega) (show v10_5.toInt ≤ 399 by omega) (show 1 ≤ f10_0_1.toInt by omega) (show f10_0_1.toInt ≤ 400 by omega) (show 0 ≤ f10_0_14.toInt by omega) (show f10_0_14.toInt ≤ 399 by omega) (show (f10_0_14.toInt = f0_.toInt ∨ (gi w0 1 (f0_.toInt).toNat).toInt = 32) by first | omega | assumption | (left; omega) | (left; decide) | (right; assumption))  hw hT hF c15 c18 (lv_sub hl [0, 1, 2, 3] rfl)
        · have c45 : v10_5.toInt < (8 : Int) := wk_leF c45
          refine lv_lload_n hx hb dX12_isWord_31 rfl (lv_at hl 2 rfl) ?_
          refine lv_bipush (v := 8) hx hb dX12_isWord_32 (by decide) ?_
          refine lv_lshl hx hb dX12_isWord_34 rfl ?_
          refine lv_topl (fun x46 ex46 => ?_)
          refine lv_aload_n hx hb dX12_isWord_35 rfl (lv_at hl 0 rfl) ?_
          refine tk_getA hC hK hw hT hinX12 kM_at0 (by decide) rfl 0 (by decide) (List.mem_of_getElem? (i := 2) rfl) rfl rfl dX12_isWord_36 ?_
          refine lv_aload_n hx hb dX12_isWord_39 rfl (lv_at hl 0 rfl) ?_
          refine tk_geti hC hK hw hT hinX12 kM_at0 (by decide) rfl 14 (by decide) (List.mem_of_getElem? (i := 1) rfl) rfl rfl dX12_isWord_40 (fun x47 c48 rx47 tx47 => ?_)
          refine wk_top f10_0_14 (c48.symm.trans c18) ?_
          refine lv_iload hx hb dX12_isWord_43 (lv_at hl 3 rfl) ?_
          refine lv_iadd hx hb dX12_isWord_45 ?_
          refine lv_topi (fun x49 ex49 => ?_)
          have ex49 : x49.toInt = f10_0_14.toInt + v10_5.toInt := by rw [ex49]; exact wk_add (show (-2147483648) ≤ f10_0_14.toInt + v10_5.toInt by omega) (show f10_0_14.toInt + v10_5.toInt ≤ 2147483647 by omega)
          refine tk_bald hC hK hw hT kM_at1 rfl rfl (show 0 ≤ x49.toInt by omega) (show x49.toInt < 400 by omega) dX12_isWord_46 (fun x50 c51 rx50 tx50 => ?_)
          have c51 : gi w10 1 (1 * f10_0_14.toInt + 1 * v10_5.toInt + 0).toNat = x50 := (congrArg (gi w10 1) (congrArg Int.toNat (show 1 * f10_0_14.toInt + 1 * v10_5.toInt + 0 = x49.toInt by omega))).trans c51
          refine lv_i2l hx hb dX12_isWord_47 rfl ?_
          refine lv_topl (fun x52 ex52 => ?_)
          have ex52 : x52.toInt = x50.toInt := by rw [ex52]; exact wk_i2l _
          have bx52 := wk_i32 x50
          refine lv_lor hx hb dX12_isWord_48 ?_
          refine lv_topl (fun x53 ex53 => ?_)
          refine lv_lstore_n (lv' := [(3, .long x53), (0, .ref (ad 0)), (1, .long 6578553), (5, .int v10_5)]) hx hb dX12_isWord_49 rfl hl (by decide) rfl (fun ls hl => ?_)
          exact J50 x53 H locs ls w10 (show 0 ≤ v10_5.toInt by omega) (show v10_5.toInt ≤ 399 by omega) (show 1 ≤ f10_0_1.toInt by omega) (show f10_0_1.toInt ≤ 400 by omega) (show 0 ≤ f10_0_14.toInt by omega) (show f10_0_14.toInt ≤ 399 by omega) (show (f10_0_14.toInt = f0_.toInt ∨ (gi w0 1 (f0_.toInt).toNat).toInt = 32) by first | omega | assumption | (left; omega) | (left; decide) | (right; assumption) | (right; rw [c51]; omega) | (right; rw [c51]; decide))  hw hT hF c15 c18 (lv_sub hl [1, 2, 0, 3] rfl)
  refine lv_aload_n hx hb dX12_isWord_0 rfl (lv_at hl 0 rfl) ?_
  refine tk_Vi hC hK hw hT hA hE hSR kM_at0 (by decide) rfl (k_X12_see_1 l adK adV dC dI cy ad B (by omega) (by omega) qr s1    w0 s.heap.size hT f0_ cf0_ (show 0 ≤ f0_.toInt by omega) (show f0_.toInt ≤ 400 by omega)) (cwV 0 hC.2.2.2.2 gX12_isWord_X12_see rfl rfl rfl (by decide +kernel) ⟨Nat.le_of_ble_eq_true rfl, Nat.le_of_ble_eq_true rfl⟩) rfl hl.1 rfl (Nat.le_of_ble_eq_true rfl) dX12_isWord_1 (fun r54 w56 H locs hp55 hw => ?_)
  obtain ⟨hT, k57, hg74⟩ := hp55
  have hF := hF.tr k57 (by decide)
  rcases hg74 with ⟨g58, g59, ⟨x60, c61, rx60, tx60⟩, ⟨x62, c63, rx62, tx62⟩, g64, g65⟩ | ⟨rfl, ⟨x66, c67, rx66, tx66⟩, ⟨x68, c69, rx68, tx68⟩, g70⟩ | ⟨rfl, ⟨x71, c72, rx71, tx71⟩, g73⟩
  · have g64 : (gi w56 1 (x62.toInt).toNat).toInt ≠ 32 := by have q := g64; simp only [c63] at q; omega
    have g65 : (x62.toInt = f0_.toInt ∨ (gi w0 1 (f0_.toInt).toNat).toInt = 32) := by have q := g65; simp only [cf0_, c63] at q; omega
    refine lv_pop hx hb dX12_isWord_4 rfl ?_
    refine lv_lconst (v := 0) hx hb dX12_isWord_5 (by decide) ?_
    refine lv_lstore_n (lv' := [(3, .long 0), (0, .ref (ad 0)), (1, .long 6578553)]) hx hb dX12_isWord_6 rfl hl (by decide) rfl (fun ls hl => ?_)
    refine lv_iconst (v := 0) hx hb dX12_isWord_7 (by decide) ?_
    refine lv_istore (lv' := [(5, .int 0), (3, .long 0), (0, .ref (ad 0)), (1, .long 6578553)]) hx hb dX12_isWord_8 hl (by decide) rfl (fun ls hl => ?_)
    exact L10 ((400 - (0 : Int)).toNat + 1) 0 0 x60 x62 H locs ls w56 (by decide) (by decide) (show 0 ≤ x60.toInt by omega) (show x60.toInt ≤ 400 by omega) (show 0 ≤ x62.toInt by omega) (show x62.toInt ≤ 400 by omega) (show (x62.toInt = f0_.toInt ∨ (gi w0 1 (f0_.toInt).toNat).toInt = 32) by first | omega | assumption | (left; omega) | (left; decide) | (right; assumption)) (Nat.lt_succ_self _) hw hT hF c61 c63 (lv_sub hl [2, 3, 1, 0] rfl)
  · have g70 : (x68.toInt = f0_.toInt ∨ (gi w0 1 (f0_.toInt).toNat).toInt = 32) := by have q := g70; simp only [cf0_, c69] at q; omega
    refine lv_pop hx hb dX12_isWord_4 rfl ?_
    refine lv_lconst (v := 0) hx hb dX12_isWord_5 (by decide) ?_
    refine lv_lstore_n (lv' := [(3, .long 0), (0, .ref (ad 0)), (1, .long 6578553)]) hx hb dX12_isWord_6 rfl hl (by decide) rfl (fun ls hl => ?_)
    refine lv_iconst (v := 0) hx hb dX12_isWord_7 (by decide) ?_
    refine lv_istore (lv' := [(5, .int 0), (3, .long 0), (0, .ref (ad 0)), (1, .long 6578553)]) hx hb dX12_isWord_8 hl (by decide) rfl (fun ls hl => ?_)
    exact L10 ((400 - (0 : Int)).toNat + 1) 0 0 x66 x68 H locs ls w56 (by decide) (by decide) (show 0 ≤ x66.toInt by omega) (show x66.toInt ≤ 400 by omega) (show 0 ≤ x68.toInt by omega) (show x68.toInt ≤ 400 by omega) (show (x68.toInt = f0_.toInt ∨ (gi w0 1 (f0_.toInt).toNat).toInt = 32) by first | omega | assumption | (left; omega) | (left; decide) | (right; assumption)) (Nat.lt_succ_self _) hw hT hF c67 c69 (lv_sub hl [2, 3, 1, 0] rfl)
  · obtain ⟨x75, c76, rx75, tx75⟩ := hT.rdi (lo := 0) (hi := 400) (k := 14) kM_at0 (by decide) rfl
    have g73 : (x75.toInt = f0_.toInt ∨ (gi w0 1 (f0_.toInt).toNat).toInt = 32) := by have q := g73; simp only [cf0_, c76] at q; omega
    refine lv_pop hx hb dX12_isWord_4 rfl ?_
    refine lv_lconst (v := 0) hx hb dX12_isWord_5 (by decide) ?_
    refine lv_lstore_n (lv' := [(3, .long 0), (0, .ref (ad 0)), (1, .long 6578553)]) hx hb dX12_isWord_6 rfl hl (by decide) rfl (fun ls hl => ?_)
    refine lv_iconst (v := 0) hx hb dX12_isWord_7 (by decide) ?_
    refine lv_istore (lv' := [(5, .int 0), (3, .long 0), (0, .ref (ad 0)), (1, .long 6578553)]) hx hb dX12_isWord_8 hl (by decide) rfl (fun ls hl => ?_)
    exact L10 ((400 - (0 : Int)).toNat + 1) 0 0 x71 x75 H locs ls w56 (by decide) (by decide) (show 0 ≤ x71.toInt by omega) (show x71.toInt ≤ 400 by omega) (show 0 ≤ x75.toInt by omega) (show x75.toInt ≤ 400 by omega) (show (x75.toInt = f0_.toInt ∨ (gi w0 1 (f0_.toInt).toNat).toInt = 32) by first | omega | assumption | (left; omega) | (left; decide) | (right; assumption)) (Nat.lt_succ_self _) hw hT hF c72 c76 (lv_sub hl [2, 3, 1, 0] rfl)
abbrev P_X12_wordHere_1 (ad : Nat → Nat) (cy : Nat → ClassId) (B : Int) (qr : Nat) (s1 : Int)  (w0 : va_W) : Int32 → va_W → Prop := fun r u => TW ksM ad cy B qr 12 u ∧ FE ksM [(12, 14, 14)] w0 u ∧ ((0 ≤ r.toInt ∧ r.toInt ≤ 9 ∧ (∃ y : Int32, gi u 0 1 = y ∧ 0 ≤ y.toInt ∧ y.toInt ≤ 400)) ∨ (r = (-1) ∧ (∃ y : Int32, gi u 0 1 = y ∧ 0 ≤ y.toInt ∧ y.toInt ≤ 400)))
set_option maxHeartbeats 4000000 in
set_option maxRecDepth 100000 in
theorem k_X12_wordHere_1 (l : Launch) (adK adV : Nat → Nat) (dC : Nat → ClassId) (dI : Nat → Nat → Nat) (cy : Nat → ClassId) (ad : Nat → Nat) (B : Int) (hB0 : 100000 ≤ B) (hB1 : B ≤ 1073741824) (qr : Nat) (s1 : Int)   (w0 : va_W) (sz : Nat) (hT : TW ksM ad cy B qr 12 w0)  : Met l yX12_wordHere wsX12_wordHere ({ frames := 3, cells := 0, slots := 0, locals := 58 }) (va_Pc [.ref (ad 0)] (wpreS adK adV dC dI cy sz w0)) (va_Qi (P_X12_wordHere_1 ad cy B qr s1  w0) (fun u : va_W => wpost dC dI cy (va_A w0 sz) u) (va_A w0 sz)) 0 0 (va_A w0 sz) := by
  refine Met.ofW (cc := cX12_wordHere) (maxL := 1) (ret := (some .int)) (by decide) rfl ?_
  intro p e s m args below meth c s₁ Bk hml hv
  obtain ⟨rfl, ⟨hsz, hP, hK, hD0⟩, hE, hSR⟩ := hv
  have hx := Bk.exec
  have hb := Bk.bytes
  have hr := Bk.returns
  have hlocks := Bk.notSynchronized
  have hC : CallFix p m c cX12_wordHere 1 s _ wsX12_wordHere RX12 := ⟨hx, hb, hml, findClass_of_methodNamed Bk.named, atoms_spec (ws := wsX12_wordHere) Bk.pre⟩
  subst hsz
  have hD := hD0.self (sz := s.heap.size)
  generalize hAe : va_A w0 s.heap.size = A at hD hE ⊢
  have hA : ∀ q : Nat, s.heap.size ≤ q → A q := fun q h => by rw [← hAe]; exact Or.inr h
  have hw : Wd dC dI A s.heap s.heap [] w0 := ⟨hP, hD, va_S.rf⟩
  have hF : FE ksM [(12, 14, 14)] w0 w0 := FE.rf
  have hl := lv_entry ([.ref (ad 0)]) (n := 1) (Nat.le_of_ble_eq_true rfl)
  rw [lg_entry_eq]
  generalize (lg_sl ([.ref (ad 0)]) ++ List.replicate (1 - (lg_sl ([.ref (ad 0)])).length) Slot.unset).toArray = ls at hl ⊢
  have hl : lv_has ls 1 [(0, .ref (ad 0))] := hl
  generalize hloc : ([] : List Loc) = locs at hw ⊢
  refine lv_aload_n hx hb dX12_wordHere_0 rfl (lv_at hl 0 rfl) ?_
  refine lv_ldc2 (v := 1752135026) hx hb hC.2.2.2.1 (hC.2.2.2.2 _ (List.mem_of_getElem? (i := 1) rfl)) dX12_wordHere_1 ?_
  obtain ⟨x1, c2, rx1, tx1⟩ := hT.rdi (lo := 0) (hi := 400) (k := 14) kM_at0 (by decide) rfl
  refine tk_Vi hC hK hw hT hA hE hSR kM_at0 (by decide) rfl (k_X12_isWord_14 l adK adV dC dI cy ad B (by omega) (by omega) qr s1    w0 s.heap.size hT x1 c2 (show 0 ≤ x1.toInt by omega) (show x1.toInt ≤ 400 by omega)) (cwV 1 hC.2.2.2.2 gX12_wordHere_X12_isWord rfl rfl rfl (by decide +kernel) ⟨Nat.le_of_ble_eq_true rfl, Nat.le_of_ble_eq_true rfl⟩) rfl hl.1 rfl (Nat.le_of_ble_eq_true rfl) dX12_wordHere_4 (fun r3 w5 H locs hp4 hw => ?_)
  obtain ⟨hT, k6, hg13⟩ := hp4
  have hF := hF.tr k6 (by decide)
  rcases hg13 with ⟨rfl, ⟨x7, c8, rx7, tx7⟩, g9⟩ | ⟨rfl, ⟨x10, c11, rx10, tx10⟩, g12⟩
  · obtain ⟨x14, c15, rx14, tx14⟩ := hT.rdi (lo := 0) (hi := 400) (k := 14) kM_at0 (by decide) rfl
    have g9 : (x14.toInt = x1.toInt ∨ (gi w0 1 (x1.toInt).toNat).toInt = 32) := by have q := g9; simp only [c2, c15] at q; omega
    refine lv_if_eq (tgt := 12) hx hb dX12_wordHere_7 (by decide) (fun _ => ?_) (fun c => absurd (by decide) c)
    refine lv_aload_n hx hb dX12_wordHere_12 rfl (lv_at hl 0 rfl) ?_
    refine lv_ldc2 (v := 6578553) hx hb hC.2.2.2.1 (hC.2.2.2.2 _ (List.mem_of_getElem? (i := 2) rfl)) dX12_wordHere_13 ?_
    refine tk_Vi hC hK hw hT hA hE hSR kM_at0 (by decide) rfl (k_X12_isWord_19 l adK adV dC dI cy ad B (by omega) (by omega) qr s1    w5 H.size hT x14 c15 (show 0 ≤ x14.toInt by omega) (show x14.toInt ≤ 400 by omega)) (cwV 1 hC.2.2.2.2 gX12_wordHere_X12_isWord rfl rfl rfl (by decide +kernel) ⟨Nat.le_of_ble_eq_true rfl, Nat.le_of_ble_eq_true rfl⟩) rfl hl.1 rfl (Nat.le_of_ble_eq_true rfl) dX12_wordHere_16 (fun r18 w20 H locs hp19 hw => ?_)
    obtain ⟨hT, k21, hg28⟩ := hp19
    have hF := hF.tr k21 (by decide)
    have c29 := k21.gi kM_at0 (by decide) c8
    rcases hg28 with ⟨rfl, ⟨x22, c23, rx22, tx22⟩, g24⟩ | ⟨rfl, ⟨x25, c26, rx25, tx25⟩, g27⟩
    · have ex22 : x22.toInt = x7.toInt := by rw [← c29.symm.trans c23]
      obtain ⟨x30, c31, rx30, tx30⟩ := hT.rdi (lo := 0) (hi := 400) (k := 14) kM_at0 (by decide) rfl
      have g24 : (x30.toInt = x14.toInt ∨ (gi w5 1 (x14.toInt).toNat).toInt = 32) := by have q := g24; simp only [c15, c31] at q; omega
      refine lv_if_eq (tgt := 24) hx hb dX12_wordHere_19 (by decide) (fun _ => ?_) (fun c => absurd (by decide) c)
      refine lv_aload_n hx hb dX12_wordHere_24 rfl (lv_at hl 0 rfl) ?_
      refine lv_ldc2 (v := 1684108389) hx hb hC.2.2.2.1 (hC.2.2.2.2 _ (List.mem_of_getElem? (i := 3) rfl)) dX12_wordHere_25 ?_
      refine tk_Vi hC hK hw hT hA hE hSR kM_at0 (by decide) rfl (k_X12_isWord_12 l adK adV dC dI cy ad B (by omega) (by omega) qr s1    w20 H.size hT x30 c31 (show 0 ≤ x30.toInt by omega) (show x30.toInt ≤ 400 by omega)) (cwV 1 hC.2.2.2.2 gX12_wordHere_X12_isWord rfl rfl rfl (by decide +kernel) ⟨Nat.le_of_ble_eq_true rfl, Nat.le_of_ble_eq_true rfl⟩) rfl hl.1 rfl (Nat.le_of_ble_eq_true rfl) dX12_wordHere_28 (fun r34 w36 H locs hp35 hw => ?_)
      obtain ⟨hT, k37, hg44⟩ := hp35
      have hF := hF.tr k37 (by decide)
      have c45 := k37.gi kM_at0 (by decide) c29
      rcases hg44 with ⟨rfl, ⟨x38, c39, rx38, tx38⟩, g40⟩ | ⟨rfl, ⟨x41, c42, rx41, tx41⟩, g43⟩
      · have ex38 : x38.toInt = x7.toInt := by rw [← c45.symm.trans c39]
        obtain ⟨x46, c47, rx46, tx46⟩ := hT.rdi (lo := 0) (hi := 400) (k := 14) kM_at0 (by decide) rfl
        have g40 : (x46.toInt = x30.toInt ∨ (gi w20 1 (x30.toInt).toNat).toInt = 32) := by have q := g40; simp only [c31, c47] at q; omega
        refine lv_if_eq (tgt := 36) hx hb dX12_wordHere_31 (by decide) (fun _ => ?_) (fun c => absurd (by decide) c)
        refine lv_aload_n hx hb dX12_wordHere_36 rfl (lv_at hl 0 rfl) ?_
        refine lv_ldc2 (v := 109330312357234) hx hb hC.2.2.2.1 (hC.2.2.2.2 _ (List.mem_of_getElem? (i := 4) rfl)) dX12_wordHere_37 ?_
        refine tk_Vi hC hK hw hT hA hE hSR kM_at0 (by decide) rfl (k_X12_isWord_10 l adK adV dC dI cy ad B (by omega) (by omega) qr s1    w36 H.size hT x46 c47 (show 0 ≤ x46.toInt by omega) (show x46.toInt ≤ 400 by omega)) (cwV 1 hC.2.2.2.2 gX12_wordHere_X12_isWord rfl rfl rfl (by decide +kernel) ⟨Nat.le_of_ble_eq_true rfl, Nat.le_of_ble_eq_true rfl⟩) rfl hl.1 rfl (Nat.le_of_ble_eq_true rfl) dX12_wordHere_40 (fun r50 w52 H locs hp51 hw => ?_)
        obtain ⟨hT, k53, hg60⟩ := hp51
        have hF := hF.tr k53 (by decide)
        have c61 := k53.gi kM_at0 (by decide) c45
        rcases hg60 with ⟨rfl, ⟨x54, c55, rx54, tx54⟩, g56⟩ | ⟨rfl, ⟨x57, c58, rx57, tx57⟩, g59⟩
        · have ex54 : x54.toInt = x7.toInt := by rw [← c61.symm.trans c55]
          obtain ⟨x62, c63, rx62, tx62⟩ := hT.rdi (lo := 0) (hi := 400) (k := 14) kM_at0 (by decide) rfl
          have g56 : (x62.toInt = x46.toInt ∨ (gi w36 1 (x46.toInt).toNat).toInt = 32) := by have q := g56; simp only [c47, c63] at q; omega
          refine lv_if_eq (tgt := 48) hx hb dX12_wordHere_43 (by decide) (fun _ => ?_) (fun c => absurd (by decide) c)
          refine lv_aload_n hx hb dX12_wordHere_48 rfl (lv_at hl 0 rfl) ?_
          refine lv_ldc2 (v := 1735352684) hx hb hC.2.2.2.1 (hC.2.2.2.2 _ (List.mem_of_getElem? (i := 5) rfl)) dX12_wordHere_49 ?_
          refine tk_Vi hC hK hw hT hA hE hSR kM_at0 (by decide) rfl (k_X12_isWord_13 l adK adV dC dI cy ad B (by omega) (by omega) qr s1    w52 H.size hT x62 c63 (show 0 ≤ x62.toInt by omega) (show x62.toInt ≤ 400 by omega)) (cwV 1 hC.2.2.2.2 gX12_wordHere_X12_isWord rfl rfl rfl (by decide +kernel) ⟨Nat.le_of_ble_eq_true rfl, Nat.le_of_ble_eq_true rfl⟩) rfl hl.1 rfl (Nat.le_of_ble_eq_true rfl) dX12_wordHere_52 (fun r66 w68 H locs hp67 hw => ?_)
          obtain ⟨hT, k69, hg76⟩ := hp67
          have hF := hF.tr k69 (by decide)
          have c77 := k69.gi kM_at0 (by decide) c61
          rcases hg76 with ⟨rfl, ⟨x70, c71, rx70, tx70⟩, g72⟩ | ⟨rfl, ⟨x73, c74, rx73, tx73⟩, g75⟩
          · have ex70 : x70.toInt = x7.toInt := by rw [← c77.symm.trans c71]
            obtain ⟨x78, c79, rx78, tx78⟩ := hT.rdi (lo := 0) (hi := 400) (k := 14) kM_at0 (by decide) rfl
            have g72 : (x78.toInt = x62.toInt ∨ (gi w52 1 (x62.toInt).toNat).toInt = 32) := by have q := g72; simp only [c63, c79] at q; omega
            refine lv_if_eq (tgt := 60) hx hb dX12_wordHere_55 (by decide) (fun _ => ?_) (fun c => absurd (by decide) c)
            refine lv_aload_n hx hb dX12_wordHere_60 rfl (lv_at hl 0 rfl) ?_
            refine lv_ldc2 (v := 1936225652) hx hb hC.2.2.2.1 (hC.2.2.2.2 _ (List.mem_of_getElem? (i := 6) rfl)) dX12_wordHere_61 ?_
            refine tk_Vi hC hK hw hT hA hE hSR kM_at0 (by decide) rfl (k_X12_isWord_16 l adK adV dC dI cy ad B (by omega) (by omega) qr s1    w68 H.size hT x78 c79 (show 0 ≤ x78.toInt by omega) (show x78.toInt ≤ 400 by omega)) (cwV 1 hC.2.2.2.2 gX12_wordHere_X12_isWord rfl rfl rfl (by decide +kernel) ⟨Nat.le_of_ble_eq_true rfl, Nat.le_of_ble_eq_true rfl⟩) rfl hl.1 rfl (Nat.le_of_ble_eq_true rfl) dX12_wordHere_64 (fun r82 w84 H locs hp83 hw => ?_)
            obtain ⟨hT, k85, hg92⟩ := hp83
            have hF := hF.tr k85 (by decide)
            have c93 := k85.gi kM_at0 (by decide) c77
            rcases hg92 with ⟨rfl, ⟨x86, c87, rx86, tx86⟩, g88⟩ | ⟨rfl, ⟨x89, c90, rx89, tx89⟩, g91⟩
            · have ex86 : x86.toInt = x7.toInt := by rw [← c93.symm.trans c87]
              obtain ⟨x94, c95, rx94, tx94⟩ := hT.rdi (lo := 0) (hi := 400) (k := 14) kM_at0 (by decide) rfl
              have g88 : (x94.toInt = x78.toInt ∨ (gi w68 1 (x78.toInt).toNat).toInt = 32) := by have q := g88; simp only [c79, c95] at q; omega
              refine lv_if_eq (tgt := 72) hx hb dX12_wordHere_67 (by decide) (fun _ => ?_) (fun c => absurd (by decide) c)
              refine lv_aload_n hx hb dX12_wordHere_72 rfl (lv_at hl 0 rfl) ?_
              refine lv_ldc2 (v := 1818584692) hx hb hC.2.2.2.1 (hC.2.2.2.2 _ (List.mem_of_getElem? (i := 7) rfl)) dX12_wordHere_73 ?_
              refine tk_Vi hC hK hw hT hA hE hSR kM_at0 (by decide) rfl (k_X12_isWord_15 l adK adV dC dI cy ad B (by omega) (by omega) qr s1    w84 H.size hT x94 c95 (show 0 ≤ x94.toInt by omega) (show x94.toInt ≤ 400 by omega)) (cwV 1 hC.2.2.2.2 gX12_wordHere_X12_isWord rfl rfl rfl (by decide +kernel) ⟨Nat.le_of_ble_eq_true rfl, Nat.le_of_ble_eq_true rfl⟩) rfl hl.1 rfl (Nat.le_of_ble_eq_true rfl) dX12_wordHere_76 (fun r98 w100 H locs hp99 hw => ?_)
              obtain ⟨hT, k101, hg108⟩ := hp99
              have hF := hF.tr k101 (by decide)
              have c109 := k101.gi kM_at0 (by decide) c93
              rcases hg108 with ⟨rfl, ⟨x102, c103, rx102, tx102⟩, g104⟩ | ⟨rfl, ⟨x105, c106, rx105, tx105⟩, g107⟩
              · have ex102 : x102.toInt = x7.toInt := by rw [← c109.symm.trans c103]
                obtain ⟨x110, c111, rx110, tx110⟩ := hT.rdi (lo := 0) (hi := 400) (k := 14) kM_at0 (by decide) rfl
                have g104 : (x110.toInt = x94.toInt ∨ (gi w84 1 (x94.toInt).toNat).toInt = 32) := by have q := g104; simp only [c95, c111] at q; omega
                refine lv_if_eq (tgt := 85) hx hb dX12_wordHere_79 (by decide) (fun _ => ?_) (fun c => absurd (by decide) c)
                refine lv_aload_n hx hb dX12_wordHere_85 rfl (lv_at hl 0 rfl) ?_
                refine lv_ldc2 (v := 495874044019) hx hb hC.2.2.2.1 (hC.2.2.2.2 _ (List.mem_of_getElem? (i := 8) rfl)) dX12_wordHere_86 ?_
                refine tk_Vi hC hK hw hT hA hE hSR kM_at0 (by decide) rfl (k_X12_isWord_18 l adK adV dC dI cy ad B (by omega) (by omega) qr s1    w100 H.size hT x110 c111 (show 0 ≤ x110.toInt by omega) (show x110.toInt ≤ 400 by omega)) (cwV 1 hC.2.2.2.2 gX12_wordHere_X12_isWord rfl rfl rfl (by decide +kernel) ⟨Nat.le_of_ble_eq_true rfl, Nat.le_of_ble_eq_true rfl⟩) rfl hl.1 rfl (Nat.le_of_ble_eq_true rfl) dX12_wordHere_89 (fun r114 w116 H locs hp115 hw => ?_)
                obtain ⟨hT, k117, hg124⟩ := hp115
                have hF := hF.tr k117 (by decide)
                have c125 := k117.gi kM_at0 (by decide) c109
                rcases hg124 with ⟨rfl, ⟨x118, c119, rx118, tx118⟩, g120⟩ | ⟨rfl, ⟨x121, c122, rx121, tx121⟩, g123⟩
                · have ex118 : x118.toInt = x7.toInt := by rw [← c125.symm.trans c119]
                  obtain ⟨x126, c127, rx126, tx126⟩ := hT.rdi (lo := 0) (hi := 400) (k := 14) kM_at0 (by decide) rfl
                  have g120 : (x126.toInt = x110.toInt ∨ (gi w100 1 (x110.toInt).toNat).toInt = 32) := by have q := g120; simp only [c111, c127] at q; omega
                  refine lv_if_eq (tgt := 98) hx hb dX12_wordHere_92 (by decide) (fun _ => ?_) (fun c => absurd (by decide) c)
                  refine lv_aload_n hx hb dX12_wordHere_98 rfl (lv_at hl 0 rfl) ?_
                  refine lv_ldc2 (v := 418548245860) hx hb hC.2.2.2.1 (hC.2.2.2.2 _ (List.mem_of_getElem? (i := 9) rfl)) dX12_wordHere_99 ?_
                  refine tk_Vi hC hK hw hT hA hE hSR kM_at0 (by decide) rfl (k_X12_isWord_17 l adK adV dC dI cy ad B (by omega) (by omega) qr s1    w116 H.size hT x126 c127 (show 0 ≤ x126.toInt by omega) (show x126.toInt ≤ 400 by omega)) (cwV 1 hC.2.2.2.2 gX12_wordHere_X12_isWord rfl rfl rfl (by decide +kernel) ⟨Nat.le_of_ble_eq_true rfl, Nat.le_of_ble_eq_true rfl⟩) rfl hl.1 rfl (Nat.le_of_ble_eq_true rfl) dX12_wordHere_102 (fun r130 w132 H locs hp131 hw => ?_)
                  obtain ⟨hT, k133, hg140⟩ := hp131
                  have hF := hF.tr k133 (by decide)
                  have c141 := k133.gi kM_at0 (by decide) c125
                  rcases hg140 with ⟨rfl, ⟨x134, c135, rx134, tx134⟩, g136⟩ | ⟨rfl, ⟨x137, c138, rx137, tx137⟩, g139⟩
                  · have ex134 : x134.toInt = x7.toInt := by rw [← c141.symm.trans c135]
                    obtain ⟨x142, c143, rx142, tx142⟩ := hT.rdi (lo := 0) (hi := 400) (k := 14) kM_at0 (by decide) rfl
                    have g136 : (x142.toInt = x126.toInt ∨ (gi w116 1 (x126.toInt).toNat).toInt = 32) := by have q := g136; simp only [c127, c143] at q; omega
                    refine lv_if_eq (tgt := 113) hx hb dX12_wordHere_105 (by decide) (fun _ => ?_) (fun c => absurd (by decide) c)
                    refine lv_aload_n hx hb dX12_wordHere_113 rfl (lv_at hl 0 rfl) ?_
                    refine lv_ldc2 (v := 1667329381) hx hb hC.2.2.2.1 (hC.2.2.2.2 _ (List.mem_of_getElem? (i := 10) rfl)) dX12_wordHere_114 ?_
                    refine tk_Vi hC hK hw hT hA hE hSR kM_at0 (by decide) rfl (k_X12_isWord_11 l adK adV dC dI cy ad B (by omega) (by omega) qr s1    w132 H.size hT x142 c143 (show 0 ≤ x142.toInt by omega) (show x142.toInt ≤ 400 by omega)) (cwV 1 hC.2.2.2.2 gX12_wordHere_X12_isWord rfl rfl rfl (by decide +kernel) ⟨Nat.le_of_ble_eq_true rfl, Nat.le_of_ble_eq_true rfl⟩) rfl hl.1 rfl (Nat.le_of_ble_eq_true rfl) dX12_wordHere_117 (fun r146 w148 H locs hp147 hw => ?_)
                    obtain ⟨hT, k149, hg156⟩ := hp147
                    have hF := hF.tr k149 (by decide)
                    have c157 := k149.gi kM_at0 (by decide) c141
                    rcases hg156 with ⟨rfl, ⟨x150, c151, rx150, tx150⟩, g152⟩ | ⟨rfl, ⟨x153, c154, rx153, tx153⟩, g155⟩
                    · have ex150 : x150.toInt = x7.toInt := by rw [← c157.symm.trans c151]
                      obtain ⟨x158, c159, rx158, tx158⟩ := hT.rdi (lo := 0) (hi := 400) (k := 14) kM_at0 (by decide) rfl
                      have g152 : (x158.toInt = x142.toInt ∨ (gi w132 1 (x142.toInt).toNat).toInt = 32) := by have q := g152; simp only [c143, c159] at q; omega
                      refine lv_if_eq (tgt := 128) hx hb dX12_wordHere_120 (by decide) (fun _ => ?_) (fun c => absurd (by decide) c)
                      refine lv_iconst (v := (-1)) hx hb dX12_wordHere_128 (by decide) ?_
                      exact tk_iret hC hr hlocks hK ⟨hT, hF, (Or.inr ⟨rfl, ⟨x7, c157, (show 0 ≤ x7.toInt by omega), (show x7.toInt ≤ 400 by omega)⟩⟩)⟩ hw dX12_wordHere_129
                    · have ex153 : x153.toInt = x7.toInt := by rw [← c157.symm.trans c154]
                      obtain ⟨x160, c161, rx160, tx160⟩ := hT.rdi (lo := 0) (hi := 400) (k := 14) kM_at0 (by decide) rfl
                      have g155 : (x160.toInt = x142.toInt ∨ (gi w132 1 (x142.toInt).toNat).toInt = 32) := by have q := g155; simp only [c143, c161] at q; omega
                      refine lv_if_eq (tgt := 128) hx hb dX12_wordHere_120 (by decide) (fun c => absurd c (by decide)) (fun _ => ?_)
                      refine lv_bipush (v := 9) hx hb dX12_wordHere_123 (by decide) ?_
                      refine lv_goto (tgt := 129) hx hb dX12_wordHere_125 (by decide) ?_
                      exact tk_iret hC hr hlocks hK ⟨hT, hF, (Or.inl ⟨(by decide), (by decide), ⟨x7, c157, (show 0 ≤ x7.toInt by omega), (show x7.toInt ≤ 400 by omega)⟩⟩)⟩ hw dX12_wordHere_129
                  · have ex137 : x137.toInt = x7.toInt := by rw [← c141.symm.trans c138]
                    obtain ⟨x144, c145, rx144, tx144⟩ := hT.rdi (lo := 0) (hi := 400) (k := 14) kM_at0 (by decide) rfl
                    have g139 : (x144.toInt = x126.toInt ∨ (gi w116 1 (x126.toInt).toNat).toInt = 32) := by have q := g139; simp only [c127, c145] at q; omega
                    refine lv_if_eq (tgt := 113) hx hb dX12_wordHere_105 (by decide) (fun c => absurd c (by decide)) (fun _ => ?_)
                    refine lv_bipush (v := 8) hx hb dX12_wordHere_108 (by decide) ?_
                    refine lv_goto (tgt := 129) hx hb dX12_wordHere_110 (by decide) ?_
                    exact tk_iret hC hr hlocks hK ⟨hT, hF, (Or.inl ⟨(by decide), (by decide), ⟨x7, c141, (show 0 ≤ x7.toInt by omega), (show x7.toInt ≤ 400 by omega)⟩⟩)⟩ hw dX12_wordHere_129
                · have ex121 : x121.toInt = x7.toInt := by rw [← c125.symm.trans c122]
                  obtain ⟨x128, c129, rx128, tx128⟩ := hT.rdi (lo := 0) (hi := 400) (k := 14) kM_at0 (by decide) rfl
                  have g123 : (x128.toInt = x110.toInt ∨ (gi w100 1 (x110.toInt).toNat).toInt = 32) := by have q := g123; simp only [c111, c129] at q; omega
                  refine lv_if_eq (tgt := 98) hx hb dX12_wordHere_92 (by decide) (fun c => absurd c (by decide)) (fun _ => ?_)
                  refine lv_bipush (v := 7) hx hb dX12_wordHere_95 (by decide) ?_
                  exact tk_iret hC hr hlocks hK ⟨hT, hF, (Or.inl ⟨(by decide), (by decide), ⟨x7, c125, (show 0 ≤ x7.toInt by omega), (show x7.toInt ≤ 400 by omega)⟩⟩)⟩ hw dX12_wordHere_97
              · have ex105 : x105.toInt = x7.toInt := by rw [← c109.symm.trans c106]
                obtain ⟨x112, c113, rx112, tx112⟩ := hT.rdi (lo := 0) (hi := 400) (k := 14) kM_at0 (by decide) rfl
                have g107 : (x112.toInt = x94.toInt ∨ (gi w84 1 (x94.toInt).toNat).toInt = 32) := by have q := g107; simp only [c95, c113] at q; omega
                refine lv_if_eq (tgt := 85) hx hb dX12_wordHere_79 (by decide) (fun c => absurd c (by decide)) (fun _ => ?_)
                refine lv_bipush (v := 6) hx hb dX12_wordHere_82 (by decide) ?_
                exact tk_iret hC hr hlocks hK ⟨hT, hF, (Or.inl ⟨(by decide), (by decide), ⟨x7, c109, (show 0 ≤ x7.toInt by omega), (show x7.toInt ≤ 400 by omega)⟩⟩)⟩ hw dX12_wordHere_84
            · have ex89 : x89.toInt = x7.toInt := by rw [← c93.symm.trans c90]
              obtain ⟨x96, c97, rx96, tx96⟩ := hT.rdi (lo := 0) (hi := 400) (k := 14) kM_at0 (by decide) rfl
              have g91 : (x96.toInt = x78.toInt ∨ (gi w68 1 (x78.toInt).toNat).toInt = 32) := by have q := g91; simp only [c79, c97] at q; omega
              refine lv_if_eq (tgt := 72) hx hb dX12_wordHere_67 (by decide) (fun c => absurd c (by decide)) (fun _ => ?_)
              refine lv_iconst (v := 5) hx hb dX12_wordHere_70 (by decide) ?_
              exact tk_iret hC hr hlocks hK ⟨hT, hF, (Or.inl ⟨(by decide), (by decide), ⟨x7, c93, (show 0 ≤ x7.toInt by omega), (show x7.toInt ≤ 400 by omega)⟩⟩)⟩ hw dX12_wordHere_71
          · have ex73 : x73.toInt = x7.toInt := by rw [← c77.symm.trans c74]
            obtain ⟨x80, c81, rx80, tx80⟩ := hT.rdi (lo := 0) (hi := 400) (k := 14) kM_at0 (by decide) rfl
            have g75 : (x80.toInt = x62.toInt ∨ (gi w52 1 (x62.toInt).toNat).toInt = 32) := by have q := g75; simp only [c63, c81] at q; omega
            refine lv_if_eq (tgt := 60) hx hb dX12_wordHere_55 (by decide) (fun c => absurd c (by decide)) (fun _ => ?_)
            refine lv_iconst (v := 4) hx hb dX12_wordHere_58 (by decide) ?_
            exact tk_iret hC hr hlocks hK ⟨hT, hF, (Or.inl ⟨(by decide), (by decide), ⟨x7, c77, (show 0 ≤ x7.toInt by omega), (show x7.toInt ≤ 400 by omega)⟩⟩)⟩ hw dX12_wordHere_59
        · have ex57 : x57.toInt = x7.toInt := by rw [← c61.symm.trans c58]
          obtain ⟨x64, c65, rx64, tx64⟩ := hT.rdi (lo := 0) (hi := 400) (k := 14) kM_at0 (by decide) rfl
          have g59 : (x64.toInt = x46.toInt ∨ (gi w36 1 (x46.toInt).toNat).toInt = 32) := by have q := g59; simp only [c47, c65] at q; omega
          refine lv_if_eq (tgt := 48) hx hb dX12_wordHere_43 (by decide) (fun c => absurd c (by decide)) (fun _ => ?_)
          refine lv_iconst (v := 3) hx hb dX12_wordHere_46 (by decide) ?_
          exact tk_iret hC hr hlocks hK ⟨hT, hF, (Or.inl ⟨(by decide), (by decide), ⟨x7, c61, (show 0 ≤ x7.toInt by omega), (show x7.toInt ≤ 400 by omega)⟩⟩)⟩ hw dX12_wordHere_47
      · have ex41 : x41.toInt = x7.toInt := by rw [← c45.symm.trans c42]
        obtain ⟨x48, c49, rx48, tx48⟩ := hT.rdi (lo := 0) (hi := 400) (k := 14) kM_at0 (by decide) rfl
        have g43 : (x48.toInt = x30.toInt ∨ (gi w20 1 (x30.toInt).toNat).toInt = 32) := by have q := g43; simp only [c31, c49] at q; omega
        refine lv_if_eq (tgt := 36) hx hb dX12_wordHere_31 (by decide) (fun c => absurd c (by decide)) (fun _ => ?_)
        refine lv_iconst (v := 2) hx hb dX12_wordHere_34 (by decide) ?_
        exact tk_iret hC hr hlocks hK ⟨hT, hF, (Or.inl ⟨(by decide), (by decide), ⟨x7, c45, (show 0 ≤ x7.toInt by omega), (show x7.toInt ≤ 400 by omega)⟩⟩)⟩ hw dX12_wordHere_35
    · have ex25 : x25.toInt = x7.toInt := by rw [← c29.symm.trans c26]
      obtain ⟨x32, c33, rx32, tx32⟩ := hT.rdi (lo := 0) (hi := 400) (k := 14) kM_at0 (by decide) rfl
      have g27 : (x32.toInt = x14.toInt ∨ (gi w5 1 (x14.toInt).toNat).toInt = 32) := by have q := g27; simp only [c15, c33] at q; omega
      refine lv_if_eq (tgt := 24) hx hb dX12_wordHere_19 (by decide) (fun c => absurd c (by decide)) (fun _ => ?_)
      refine lv_iconst (v := 1) hx hb dX12_wordHere_22 (by decide) ?_
      exact tk_iret hC hr hlocks hK ⟨hT, hF, (Or.inl ⟨(by decide), (by decide), ⟨x7, c29, (show 0 ≤ x7.toInt by omega), (show x7.toInt ≤ 400 by omega)⟩⟩)⟩ hw dX12_wordHere_23
  · obtain ⟨x16, c17, rx16, tx16⟩ := hT.rdi (lo := 0) (hi := 400) (k := 14) kM_at0 (by decide) rfl
    have g12 : (x16.toInt = x1.toInt ∨ (gi w0 1 (x1.toInt).toNat).toInt = 32) := by have q := g12; simp only [c2, c17] at q; omega
    refine lv_if_eq (tgt := 12) hx hb dX12_wordHere_7 (by decide) (fun c => absurd c (by decide)) (fun _ => ?_)
    refine lv_iconst (v := 0) hx hb dX12_wordHere_10 (by decide) ?_
    exact tk_iret hC hr hlocks hK ⟨hT, hF, (Or.inl ⟨(by decide), (by decide), ⟨x10, c11, (show 0 ≤ x10.toInt by omega), (show x10.toInt ≤ 400 by omega)⟩⟩)⟩ hw dX12_wordHere_11
abbrev P_X12_value_1 (ad : Nat → Nat) (cy : Nat → ClassId) (B : Int) (qr : Nat) (s1 : Int)  (gT gb gd : Int) (w0 : va_W) : Int32 → va_W → Prop := fun r u => TW ksM ad cy B qr 12 u ∧ FE ksM [(12, 14, 14), (12, 15, 15), (12, 16, 16), (12, 18, 18), (61, 0, 2400), (62, 0, 7)] w0 u ∧ ((r = 0 ∧ (∃ y : Int32, gi u 0 1 = y ∧ 1 ≤ y.toInt ∧ y.toInt ≤ 400) ∧ (∃ y : Int32, gi u 0 15 = y ∧ 1 ≤ y.toInt ∧ y.toInt ≤ 3205) ∧ (∃ y : Int32, gi u 0 17 = y ∧ 0 ≤ y.toInt ∧ y.toInt ≤ 5) ∧ RLc u gT) ∨ (r = 0 ∧ (∃ y : Int32, gi u 0 1 = y ∧ 0 ≤ y.toInt ∧ y.toInt ≤ 400) ∧ (∃ y : Int32, gi u 0 15 = y ∧ 1 ≤ y.toInt ∧ y.toInt ≤ 3205) ∧ (∃ y : Int32, gi u 0 17 = y ∧ 0 ≤ y.toInt ∧ y.toInt ≤ 5) ∧ RLc u gT) ∨ (r = 1 ∧ (∃ y : Int32, gi u 0 1 = y ∧ 1 ≤ y.toInt ∧ y.toInt ≤ 400) ∧ (∃ y : Int32, gi u 0 17 = y ∧ 0 ≤ y.toInt ∧ y.toInt ≤ 5) ∧ (∃ y : Int32, gi u 0 18 = y ∧ 1 ≤ y.toInt ∧ y.toInt ≤ 60) ∧ OKW u gT gb (gd + 1) ∧ ((gi u 3 ((gi u 0 17).toInt).toNat).toInt = (gi w0 3 ((gi w0 0 17).toInt).toNat).toInt + 1) ∧ ((gi u 0 18).toInt = (gi w0 0 18).toInt + 1)) ∨ (r = 1 ∧ (∃ y : Int32, gi u 0 1 = y ∧ 0 ≤ y.toInt ∧ y.toInt ≤ 400) ∧ (∃ y : Int32, gi u 0 17 = y ∧ 0 ≤ y.toInt ∧ y.toInt ≤ 5) ∧ (∃ y : Int32, gi u 0 18 = y ∧ 1 ≤ y.toInt ∧ y.toInt ≤ 60) ∧ OKW u gT gb (gd + 1) ∧ ((gi u 3 ((gi u 0 17).toInt).toNat).toInt = (gi w0 3 ((gi w0 0 17).toInt).toNat).toInt + 1) ∧ ((gi u 0 18).toInt = (gi w0 0 18).toInt + 1)))
set_option maxHeartbeats 4000000 in
set_option maxRecDepth 100000 in
theorem k_X12_value_1 (l : Launch) (adK adV : Nat → Nat) (dC : Nat → ClassId) (dI : Nat → Nat → Nat) (cy : Nat → ClassId) (ad : Nat → Nat) (B : Int) (hB0 : 100000 ≤ B) (hB1 : B ≤ 1073741824) (qr : Nat) (s1 : Int)   (w0 : va_W) (sz : Nat) (hT : TW ksM ad cy B qr 12 w0) (f0_ : Int32) (cf0_ : gi w0 0 17 = f0_) (rf0_ : 0 ≤ f0_.toInt) (tf0_ : f0_.toInt ≤ 5) (f1_ : Int32) (cf1_ : gi w0 0 18 = f1_) (rf1_ : 0 ≤ f1_.toInt) (tf1_ : f1_.toInt ≤ 60) (f2_ : Int32) (cf2_ : gi w0 3 (f0_.toInt).toNat = f2_) (rf2_ : 0 ≤ f2_.toInt) (tf2_ : f2_.toInt ≤ 400) (pr0_ : f2_.toInt ≤ 399) (gb gd : Int) (hgd0 : 0 ≤ gd) (hgd1 : gd ≤ f1_.toInt) (hO : OKW w0 f0_.toInt gb (gd)) : Met l yX12_value wsX12_value ({ frames := 4, cells := 0, slots := 0, locals := 78 }) (va_Pc [.ref (ad 0)] (wpreS adK adV dC dI cy sz w0)) (va_Qi (P_X12_value_1 ad cy B qr s1  f0_.toInt gb gd w0) (fun u : va_W => wpost dC dI cy (va_A w0 sz) u) (va_A w0 sz)) 0 0 (va_A w0 sz) := by
  refine Met.ofW (cc := cX12_value) (maxL := 3) (ret := (some .boolean)) (by decide) rfl ?_
  intro p e s m args below meth c s₁ Bk hml hv
  obtain ⟨rfl, ⟨hsz, hP, hK, hD0⟩, hE, hSR⟩ := hv
  have hx := Bk.exec
  have hb := Bk.bytes
  have hr := Bk.returns
  have hlocks := Bk.notSynchronized
  have hC : CallFix p m c cX12_value 3 s _ wsX12_value RX12 := ⟨hx, hb, hml, findClass_of_methodNamed Bk.named, atoms_spec (ws := wsX12_value) Bk.pre⟩
  subst hsz
  have hD := hD0.self (sz := s.heap.size)
  generalize hAe : va_A w0 s.heap.size = A at hD hE ⊢
  have hA : ∀ q : Nat, s.heap.size ≤ q → A q := fun q h => by rw [← hAe]; exact Or.inr h
  have hw : Wd dC dI A s.heap s.heap [] w0 := ⟨hP, hD, va_S.rf⟩
  have hF : FE ksM [(12, 14, 14), (12, 15, 15), (12, 16, 16), (12, 18, 18), (61, 0, 2400), (62, 0, 7)] w0 w0 := FE.rf
  have hl := lv_entry ([.ref (ad 0)]) (n := 3) (Nat.le_of_ble_eq_true rfl)
  rw [lg_entry_eq]
  generalize (lg_sl ([.ref (ad 0)]) ++ List.replicate (3 - (lg_sl ([.ref (ad 0)])).length) Slot.unset).toArray = ls at hl ⊢
  have hl : lv_has ls 3 [(0, .ref (ad 0))] := hl
  generalize hloc : ([] : List Loc) = locs at hw ⊢
  have hinX12 : ∀ w ∈ u_ws RX12 TX12 42, w ∈ wsX12_value := fun _ h => List.mem_cons_of_mem _ (List.mem_append_right _ (h))
  refine lv_aload_n hx hb dX12_value_0 rfl (lv_at hl 0 rfl) ?_
  obtain ⟨x1, c2, rx1, tx1⟩ := hT.rdi (lo := 0) (hi := 400) (k := 14) kM_at0 (by decide) rfl
  refine tk_Vi hC hK hw hT hA hE hSR kM_at0 (by decide) rfl (k_X12_see_1 l adK adV dC dI cy ad B (by omega) (by omega) qr s1    w0 s.heap.size hT x1 c2 (show 0 ≤ x1.toInt by omega) (show x1.toInt ≤ 400 by omega)) (cwV 0 hC.2.2.2.2 gX12_value_X12_see rfl rfl rfl (by decide +kernel) ⟨Nat.le_of_ble_eq_true rfl, Nat.le_of_ble_eq_true rfl⟩) rfl hl.1 rfl (Nat.le_of_ble_eq_true rfl) dX12_value_1 (fun r3 w5 H locs hp4 hw => ?_)
  obtain ⟨hT, k6, hg23⟩ := hp4
  have hO := OKW_FE k6 (fun _ => rfl) (fun _ => rfl) (fun _ => rfl) (fun _ => rfl) hO
  have hF := hF.tr k6 (by decide)
  have c24 := k6.gi kM_at0 (by decide) cf0_
  have c25 := k6.gi kM_at0 (by decide) cf1_
  have c26 := k6.gi kM_at3 rfl cf2_
  rcases hg23 with ⟨g7, g8, ⟨x9, c10, rx9, tx9⟩, ⟨x11, c12, rx11, tx11⟩, g13, g14⟩ | ⟨rfl, ⟨x15, c16, rx15, tx15⟩, ⟨x17, c18, rx17, tx17⟩, g19⟩ | ⟨rfl, ⟨x20, c21, rx20, tx20⟩, g22⟩
  · have g13 : (gi w5 1 (x11.toInt).toNat).toInt ≠ 32 := by have q := g13; simp only [cf0_, c24, c12] at q; omega
    have g14 : (x11.toInt = x1.toInt ∨ (gi w0 1 (x1.toInt).toNat).toInt = 32) := by have q := g14; simp only [cf0_, c24, c2, c12] at q; omega
    refine lv_pop hx hb dX12_value_4 rfl ?_
    refine lv_aload_n hx hb dX12_value_5 rfl (lv_at hl 0 rfl) ?_
    refine tk_geti hC hK hw hT hinX12 kM_at0 (by decide) rfl 14 (by decide) (List.mem_of_getElem? (i := 1) rfl) rfl rfl dX12_value_6 (fun x29 c30 rx29 tx29 => ?_)
    refine wk_top x11 (c30.symm.trans c12) ?_
    refine lv_istore_n (lv' := [(1, .int x11), (0, .ref (ad 0))]) hx hb dX12_value_9 rfl hl (by decide) rfl (fun ls hl => ?_)
    refine lv_aload_n hx hb dX12_value_10 rfl (lv_at hl 1 rfl) ?_
    refine lv_aload_n hx hb dX12_value_11 rfl (lv_at hl 1 rfl) ?_
    refine tk_geti hC hK hw hT hinX12 kM_at0 (by decide) rfl 14 (by decide) (List.mem_of_getElem? (i := 1) rfl) rfl rfl dX12_value_12 (fun x31 c32 rx31 tx31 => ?_)
    refine wk_top x11 (c32.symm.trans c12) ?_
    refine tk_Vi hC hK hw hT hA hE hSR kM_at0 (by decide) rfl (k_X12_isDigit_1 l adK adV dC dI cy ad B (by omega) (by omega) qr s1   x11 (show 0 ≤ x11.toInt by omega) (show x11.toInt ≤ 399 by omega) w5 H.size hT ) (cwV 1 hC.2.2.2.2 gX12_value_X12_isDigit rfl rfl rfl (by decide +kernel) ⟨Nat.le_of_ble_eq_true rfl, Nat.le_of_ble_eq_true rfl⟩) rfl hl.1 rfl (Nat.le_of_ble_eq_true rfl) dX12_value_15 (fun r33 w35 H locs hp34 hw => ?_)
    obtain ⟨rfl, hg41⟩ := hp34
    rcases hg41 with ⟨rfl, ⟨x37, c38, rx37, tx37⟩⟩ | ⟨rfl, ⟨x39, c40, rx39, tx39⟩⟩
    · have ex37 : x37.toInt = x9.toInt := by rw [← c10.symm.trans c38]
      refine lv_if_eq (tgt := 52) hx hb dX12_value_18 (by decide) (fun _ => ?_) (fun c => absurd (by decide) c)
      refine lv_aload_n hx hb dX12_value_52 rfl (lv_at hl 1 rfl) ?_
      refine tk_Vi hC hK hw hT hA hE hSR kM_at0 (by decide) rfl (k_X12_wordHere_1 l adK adV dC dI cy ad B (by omega) (by omega) qr s1    w5 H.size hT ) (cwV 0 hC.2.2.2.2 gX12_value_X12_wordHere rfl rfl rfl (by decide +kernel) ⟨Nat.le_of_ble_eq_true rfl, Nat.le_of_ble_eq_true rfl⟩) rfl hl.1 rfl (Nat.le_of_ble_eq_true rfl) dX12_value_53 (fun r42 w44 H locs hp43 hw => ?_)
      obtain ⟨hT, k45, hg52⟩ := hp43
      have hO := OKW_FE k45 (fun _ => rfl) (fun _ => rfl) (fun _ => rfl) (fun _ => rfl) hO
      have hF := hF.tr k45 (by decide)
      have c53 := k45.gi kM_at0 (by decide) c24
      have c54 := k45.gi kM_at0 (by decide) c25
      have c55 := k45.gi kM_at3 rfl c26
      have c56 := k45.gi kM_at0 (by decide) c10
      rcases hg52 with ⟨g46, g47, ⟨x48, c49, rx48, tx48⟩⟩ | ⟨rfl, ⟨x50, c51, rx50, tx50⟩⟩
      · have ex48 : x48.toInt = x9.toInt := by rw [← c56.symm.trans c49]
        refine lv_istore_n (lv' := [(2, .int r42), (1, .int x11), (0, .ref (ad 0))]) hx hb dX12_value_56 rfl hl (by decide) rfl (fun ls hl => ?_)
        refine lv_iload_n hx hb dX12_value_57 rfl (lv_at hl 0 rfl) ?_
        refine lv_if_ge (tgt := 68) hx hb dX12_value_58 (by decide) (fun _ => ?_) (fun c => (c (wk_le.mpr (show (0 : Int) ≤ r42.toInt by omega))).elim)
        refine lv_aload_n hx hb dX12_value_68 rfl (lv_at hl 2 rfl) ?_
        refine lv_iload_n hx hb dX12_value_69 rfl (lv_at hl 1 rfl) ?_
        refine tk_Vi hC hK hw hT hA hE hSR kM_at0 (by decide) rfl (k_X12_makes_2 l adK adV dC dI cy ad B (by omega) (by omega) qr s1   x11 (show 0 ≤ x11.toInt by omega) (show x11.toInt ≤ 399 by omega) w44 H.size hT f1_ c54 (show 0 ≤ f1_.toInt by omega) (show f1_.toInt ≤ 60 by omega)) (cwV 1 hC.2.2.2.2 gX12_value_X12_makes rfl rfl rfl (by decide +kernel) ⟨Nat.le_of_ble_eq_true rfl, Nat.le_of_ble_eq_true rfl⟩) rfl hl.1 rfl (Nat.le_of_ble_eq_true rfl) dX12_value_70 (fun r57 w59 H locs hp58 hw => ?_)
        obtain ⟨hT, k60, hg68⟩ := hp58
        have hO := OKW_FE k60 (fun _ => rfl) (fun _ => rfl) (fun _ => rfl) (fun _ => rfl) hO
        have hF := hF.tr k60 (by decide)
        have c69 := k60.gi kM_at0 (by decide) c53
        have c70 := k60.gi kM_at3 rfl c55
        have c71 := k60.gi kM_at0 (by decide) c56
        rcases hg68 with ⟨rfl, ⟨x61, c62, rx61, tx61⟩, ⟨x63, c64, rx63, tx63⟩⟩ | ⟨rfl, ⟨x65, c66, rx65, tx65⟩, g67⟩
        · refine lv_if_ne (tgt := 78) hx hb dX12_value_73 (by decide) (fun c => absurd (by decide) c) (fun _ => ?_)
          refine lv_iconst (v := 0) hx hb dX12_value_76 (by decide) ?_
          exact tk_zret hC hr rfl hlocks hK ⟨hT, hF, (Or.inl ⟨rfl, ⟨x9, c71, (show 1 ≤ x9.toInt by omega), (show x9.toInt ≤ 400 by omega)⟩, ⟨x61, c62, (show 1 ≤ x61.toInt by omega), (show x61.toInt ≤ 3205 by omega)⟩, ⟨f0_, c69, (show 0 ≤ f0_.toInt by omega), (show f0_.toInt ≤ 5 by omega)⟩, hO.1⟩)⟩ hw dX12_value_77
        · have g67 : x65.toInt = f1_.toInt + 1 := by have q := g67; simp only [c53, c69, c54, c66] at q; omega
          refine lv_if_ne (tgt := 78) hx hb dX12_value_73 (by decide) (fun _ => ?_) (fun c => absurd c (by decide))
          refine lv_aload_n hx hb dX12_value_78 rfl (lv_at hl 2 rfl) ?_
          refine tk_Vv hC hK hw hT hA hE hSR kM_at0 (by decide) rfl (k_X12_passWord_1 l adK adV dC dI cy ad B (by omega) (by omega) qr s1    w59 H.size hT ) (cwV 0 hC.2.2.2.2 gX12_value_X12_passWord rfl rfl rfl (by decide +kernel) ⟨Nat.le_of_ble_eq_true rfl, Nat.le_of_ble_eq_true rfl⟩) rfl hl.1 rfl (Nat.le_of_ble_eq_true rfl) dX12_value_79 (fun w74 H locs hp73 hw => ?_)
          obtain ⟨hT, k75, hg82⟩ := hp73
          have hO := OKW_FE k75 (fun _ => rfl) (fun _ => rfl) (fun _ => rfl) (fun _ => rfl) hO
          have hF := hF.tr k75 (by decide)
          have c83 := k75.gi kM_at0 (by decide) c69
          have c84 := k75.gi kM_at3 rfl c70
          have c85 := k75.gi kM_at0 (by decide) c71
          have c86 := k75.gi kM_at0 (by decide) c66
          rcases hg82 with ⟨⟨x76, c77, rx76, tx76⟩, ⟨x78, c79, rx78, tx78⟩⟩ | ⟨x80, c81, rx80, tx80⟩
          · have ex76 : x76.toInt = x9.toInt := by rw [← c85.symm.trans c77]
            refine lv_aload_n hx hb dX12_value_82 rfl (lv_at hl 2 rfl) ?_
            refine lv_iconst (v := 1) hx hb dX12_value_83 (by decide) ?_
            refine lv_iload_n hx hb dX12_value_84 rfl (lv_at hl 0 rfl) ?_
            refine tk_Vv hC hK hw hT hA hE hSR kM_at0 (by decide) rfl (k_X12_puts_1 l adK adV dC dI cy ad B (by omega) (by omega) qr s1   1 (by decide) (by decide) r42 (show 0 ≤ r42.toInt by omega) (show r42.toInt ≤ 99999 by omega) w74 H.size hT f0_ c83 (show 0 ≤ f0_.toInt by omega) (show f0_.toInt ≤ 5 by omega) f2_ c84 (show 0 ≤ f2_.toInt by omega) (show f2_.toInt ≤ 400 by omega) (show f2_.toInt ≤ 399 by omega)) (cwV 2 hC.2.2.2.2 gX12_value_X12_puts rfl rfl rfl (by decide +kernel) ⟨Nat.le_of_ble_eq_true rfl, Nat.le_of_ble_eq_true rfl⟩) rfl hl.1 rfl (Nat.le_of_ble_eq_true rfl) dX12_value_85 (fun w89 H locs hp88 hw => ?_)
            obtain ⟨hT, k90, hg95⟩ := hp88
            have hF := hF.tr k90 (by decide)
            have c96 := k90.gi kM_at0 (by decide) c83
            have c97 := k90.gi kM_at0 (by decide) c85
            have c98 := k90.gi kM_at0 (by decide) c86
            have c99 := k90.gi kM_at0 (by decide) c79
            obtain ⟨⟨x91, c92, rx91, tx91⟩, hq93, g94⟩ := hg95
            have ex91 : x91.toInt = f0_.toInt := by rw [← c96.symm.trans c92]
            obtain ⟨x100, c101, rx100, tx100⟩ := hT.rda (lo := 0) (hi := 400) (i := (f0_.toInt).toNat) kM_at3 rfl rfl (by omega)
            have g94 : x100.toInt = f2_.toInt + 1 := by have q := g94; simp only [c83, c96, c84, c101] at q; omega
            have hO : OKW w89 f0_.toInt gb ((gd) + 1) := OKW_put hO (by have q := hq93; rw [c83] at q; exact q) (by rw [c84]; omega) (fun x hx => by simp only [(show (1 : Int32).toInt = 1 by decide)] at hx; exact okT_word (v := r42.toInt) (by omega) (by omega) (by omega)) (by omega) (by omega)
            refine lv_iconst (v := 1) hx hb dX12_value_88 (by decide) ?_
            exact tk_zret hC hr rfl hlocks hK ⟨hT, hF, (Or.inr (Or.inr (Or.inl ⟨rfl, ⟨x9, c97, (show 1 ≤ x9.toInt by omega), (show x9.toInt ≤ 400 by omega)⟩, ⟨f0_, c96, (show 0 ≤ f0_.toInt by omega), (show f0_.toInt ≤ 5 by omega)⟩, ⟨x65, c98, (show 1 ≤ x65.toInt by omega), (show x65.toInt ≤ 60 by omega)⟩, (OKW_cast hO (by omega)), (by simp only [c96, cf0_, cf2_, c101]; omega), (by simp only [c96, cf0_, cf1_, c98]; omega)⟩)))⟩ hw dX12_value_89
          · have ex80 : x80.toInt = x9.toInt := by rw [← c85.symm.trans c81]
            refine lv_aload_n hx hb dX12_value_82 rfl (lv_at hl 2 rfl) ?_
            refine lv_iconst (v := 1) hx hb dX12_value_83 (by decide) ?_
            refine lv_iload_n hx hb dX12_value_84 rfl (lv_at hl 0 rfl) ?_
            refine tk_Vv hC hK hw hT hA hE hSR kM_at0 (by decide) rfl (k_X12_puts_1 l adK adV dC dI cy ad B (by omega) (by omega) qr s1   1 (by decide) (by decide) r42 (show 0 ≤ r42.toInt by omega) (show r42.toInt ≤ 99999 by omega) w74 H.size hT f0_ c83 (show 0 ≤ f0_.toInt by omega) (show f0_.toInt ≤ 5 by omega) f2_ c84 (show 0 ≤ f2_.toInt by omega) (show f2_.toInt ≤ 400 by omega) (show f2_.toInt ≤ 399 by omega)) (cwV 2 hC.2.2.2.2 gX12_value_X12_puts rfl rfl rfl (by decide +kernel) ⟨Nat.le_of_ble_eq_true rfl, Nat.le_of_ble_eq_true rfl⟩) rfl hl.1 rfl (Nat.le_of_ble_eq_true rfl) dX12_value_85 (fun w104 H locs hp103 hw => ?_)
            obtain ⟨hT, k105, hg110⟩ := hp103
            have hF := hF.tr k105 (by decide)
            have c111 := k105.gi kM_at0 (by decide) c83
            have c112 := k105.gi kM_at0 (by decide) c85
            have c113 := k105.gi kM_at0 (by decide) c86
            obtain ⟨⟨x106, c107, rx106, tx106⟩, hq108, g109⟩ := hg110
            have ex106 : x106.toInt = f0_.toInt := by rw [← c111.symm.trans c107]
            obtain ⟨x114, c115, rx114, tx114⟩ := hT.rda (lo := 0) (hi := 400) (i := (f0_.toInt).toNat) kM_at3 rfl rfl (by omega)
            have g109 : x114.toInt = f2_.toInt + 1 := by have q := g109; simp only [c83, c111, c84, c115] at q; omega
            have hO : OKW w104 f0_.toInt gb ((gd) + 1) := OKW_put hO (by have q := hq108; rw [c83] at q; exact q) (by rw [c84]; omega) (fun x hx => by simp only [(show (1 : Int32).toInt = 1 by decide)] at hx; exact okT_word (v := r42.toInt) (by omega) (by omega) (by omega)) (by omega) (by omega)
            refine lv_iconst (v := 1) hx hb dX12_value_88 (by decide) ?_
            exact tk_zret hC hr rfl hlocks hK ⟨hT, hF, (Or.inr (Or.inr (Or.inl ⟨rfl, ⟨x9, c112, (show 1 ≤ x9.toInt by omega), (show x9.toInt ≤ 400 by omega)⟩, ⟨f0_, c111, (show 0 ≤ f0_.toInt by omega), (show f0_.toInt ≤ 5 by omega)⟩, ⟨x65, c113, (show 1 ≤ x65.toInt by omega), (show x65.toInt ≤ 60 by omega)⟩, (OKW_cast hO (by omega)), (by simp only [c111, cf0_, cf2_, c115]; omega), (by simp only [c111, cf0_, cf1_, c113]; omega)⟩)))⟩ hw dX12_value_89
      · have ex50 : x50.toInt = x9.toInt := by rw [← c56.symm.trans c51]
        refine lv_istore_n (lv' := [(2, .int (-1)), (1, .int x11), (0, .ref (ad 0))]) hx hb dX12_value_56 rfl hl (by decide) rfl (fun ls hl => ?_)
        refine lv_iload_n hx hb dX12_value_57 rfl (lv_at hl 0 rfl) ?_
        refine lv_if_ge (tgt := 68) hx hb dX12_value_58 (by decide) (fun c => absurd c (by decide)) (fun _ => ?_)
        refine lv_aload_n hx hb dX12_value_61 rfl (lv_at hl 2 rfl) ?_
        refine lv_iconst (v := 0) hx hb dX12_value_62 (by decide) ?_
        refine lv_iload_n hx hb dX12_value_63 rfl (lv_at hl 1 rfl) ?_
        refine tk_Vi hC hK hw hT hA hE hSR kM_at0 (by decide) rfl (k_X12_fails_1 l adK adV dC dI cy ad B (by omega) (by omega) qr s1   0 (by decide) (by decide) x11 (show 0 ≤ x11.toInt by omega) (show x11.toInt ≤ 400 by omega) w44 H.size hT ) (cwV 2 hC.2.2.2.2 gX12_value_X12_fails rfl rfl rfl (by decide +kernel) ⟨Nat.le_of_ble_eq_true rfl, Nat.le_of_ble_eq_true rfl⟩) rfl hl.1 rfl (Nat.le_of_ble_eq_true rfl) dX12_value_64 (fun r116 w118 H locs hp117 hw => ?_)
        obtain ⟨hT, k119, hg122⟩ := hp117
        have hO := OKW_FE k119 (fun _ => rfl) (fun _ => rfl) (fun _ => rfl) (fun _ => rfl) hO
        have hF := hF.tr k119 (by decide)
        have c123 := k119.gi kM_at0 (by decide) c53
        have c124 := k119.gi kM_at0 (by decide) c54
        have c125 := k119.gi kM_at3 rfl c55
        have c126 := k119.gi kM_at0 (by decide) c56
        obtain ⟨rfl, ⟨x120, c121, rx120, tx120⟩⟩ := hg122
        exact tk_zret hC hr rfl hlocks hK ⟨hT, hF, (Or.inl ⟨rfl, ⟨x9, c126, (show 1 ≤ x9.toInt by omega), (show x9.toInt ≤ 400 by omega)⟩, ⟨x120, c121, (show 1 ≤ x120.toInt by omega), (show x120.toInt ≤ 3205 by omega)⟩, ⟨f0_, c123, (show 0 ≤ f0_.toInt by omega), (show f0_.toInt ≤ 5 by omega)⟩, hO.1⟩)⟩ hw dX12_value_67
    · have ex39 : x39.toInt = x9.toInt := by rw [← c10.symm.trans c40]
      refine lv_if_eq (tgt := 52) hx hb dX12_value_18 (by decide) (fun c => absurd c (by decide)) (fun _ => ?_)
      refine lv_aload_n hx hb dX12_value_21 rfl (lv_at hl 1 rfl) ?_
      refine lv_iconst (v := 0) hx hb dX12_value_22 (by decide) ?_
      refine lv_ldc (v := 99999) hx hb hC.2.2.2.1 (hC.2.2.2.2 _ (List.mem_of_getElem? (i := 2) rfl)) dX12_value_23 ?_
      refine tk_Vi hC hK hw hT hA hE hSR kM_at0 (by decide) rfl (k_X12_numberHere_9 l adK adV dC dI cy ad B (by omega) (by omega) qr s1    w5 H.size hT ) (cwV 2 hC.2.2.2.2 gX12_value_X12_numberHere rfl rfl rfl (by decide +kernel) ⟨Nat.le_of_ble_eq_true rfl, Nat.le_of_ble_eq_true rfl⟩) rfl hl.1 rfl (Nat.le_of_ble_eq_true rfl) dX12_value_25 (fun r127 w129 H locs hp128 hw => ?_)
      obtain ⟨hT, k130, hg143⟩ := hp128
      have hO := OKW_FE k130 (fun _ => rfl) (fun _ => rfl) (fun _ => rfl) (fun _ => rfl) hO
      have hF := hF.tr k130 (by decide)
      have c144 := k130.gi kM_at0 (by decide) c24
      have c145 := k130.gi kM_at0 (by decide) c25
      have c146 := k130.gi kM_at3 rfl c26
      have c147 := k130.gi kM_at0 (by decide) c10
      rcases hg143 with ⟨rfl, ⟨x131, c132, rx131, tx131⟩, ⟨x133, c134, rx133, tx133⟩⟩ | ⟨rfl, ⟨x135, c136, rx135, tx135⟩, ⟨x137, c138, rx137, tx137⟩⟩ | ⟨rfl, ⟨x139, c140, rx139, tx139⟩, ⟨x141, c142, rx141, tx141⟩⟩
      · have ex131 : x131.toInt = x9.toInt := by rw [← c147.symm.trans c132]
        refine lv_if_eq (tgt := 39) hx hb dX12_value_28 (by decide) (fun _ => ?_) (fun c => absurd (by decide) c)
        refine lv_iconst (v := 0) hx hb dX12_value_39 (by decide) ?_
        exact tk_zret hC hr rfl hlocks hK ⟨hT, hF, (Or.inl ⟨rfl, ⟨x9, c147, (show 1 ≤ x9.toInt by omega), (show x9.toInt ≤ 400 by omega)⟩, ⟨x133, c134, (show 1 ≤ x133.toInt by omega), (show x133.toInt ≤ 3205 by omega)⟩, ⟨f0_, c144, (show 0 ≤ f0_.toInt by omega), (show f0_.toInt ≤ 5 by omega)⟩, hO.1⟩)⟩ hw dX12_value_40
      · have ex135 : x135.toInt = x9.toInt := by rw [← c147.symm.trans c136]
        refine lv_if_eq (tgt := 39) hx hb dX12_value_28 (by decide) (fun _ => ?_) (fun c => absurd (by decide) c)
        refine lv_iconst (v := 0) hx hb dX12_value_39 (by decide) ?_
        exact tk_zret hC hr rfl hlocks hK ⟨hT, hF, (Or.inl ⟨rfl, ⟨x9, c147, (show 1 ≤ x9.toInt by omega), (show x9.toInt ≤ 400 by omega)⟩, ⟨x137, c138, (show 1 ≤ x137.toInt by omega), (show x137.toInt ≤ 3205 by omega)⟩, ⟨f0_, c144, (show 0 ≤ f0_.toInt by omega), (show f0_.toInt ≤ 5 by omega)⟩, hO.1⟩)⟩ hw dX12_value_40
      · have ex139 : x139.toInt = x9.toInt := by rw [← c147.symm.trans c140]
        refine lv_if_eq (tgt := 39) hx hb dX12_value_28 (by decide) (fun c => absurd c (by decide)) (fun _ => ?_)
        refine lv_aload_n hx hb dX12_value_31 rfl (lv_at hl 1 rfl) ?_
        refine lv_iload_n hx hb dX12_value_32 rfl (lv_at hl 0 rfl) ?_
        refine tk_Vi hC hK hw hT hA hE hSR kM_at0 (by decide) rfl (k_X12_makes_2 l adK adV dC dI cy ad B (by omega) (by omega) qr s1   x11 (show 0 ≤ x11.toInt by omega) (show x11.toInt ≤ 399 by omega) w129 H.size hT f1_ c145 (show 0 ≤ f1_.toInt by omega) (show f1_.toInt ≤ 60 by omega)) (cwV 1 hC.2.2.2.2 gX12_value_X12_makes rfl rfl rfl (by decide +kernel) ⟨Nat.le_of_ble_eq_true rfl, Nat.le_of_ble_eq_true rfl⟩) rfl hl.1 rfl (Nat.le_of_ble_eq_true rfl) dX12_value_33 (fun r148 w150 H locs hp149 hw => ?_)
        obtain ⟨hT, k151, hg159⟩ := hp149
        have hO := OKW_FE k151 (fun _ => rfl) (fun _ => rfl) (fun _ => rfl) (fun _ => rfl) hO
        have hF := hF.tr k151 (by decide)
        have c160 := k151.gi kM_at0 (by decide) c144
        have c161 := k151.gi kM_at3 rfl c146
        have c162 := k151.gi kM_at0 (by decide) c147
        have c163 := k151.gi kM_at0 (by decide) c142
        rcases hg159 with ⟨rfl, ⟨x152, c153, rx152, tx152⟩, ⟨x154, c155, rx154, tx154⟩⟩ | ⟨rfl, ⟨x156, c157, rx156, tx156⟩, g158⟩
        · refine lv_if_ne (tgt := 41) hx hb dX12_value_36 (by decide) (fun c => absurd (by decide) c) (fun _ => ?_)
          refine lv_iconst (v := 0) hx hb dX12_value_39 (by decide) ?_
          exact tk_zret hC hr rfl hlocks hK ⟨hT, hF, (Or.inl ⟨rfl, ⟨x9, c162, (show 1 ≤ x9.toInt by omega), (show x9.toInt ≤ 400 by omega)⟩, ⟨x152, c153, (show 1 ≤ x152.toInt by omega), (show x152.toInt ≤ 3205 by omega)⟩, ⟨f0_, c160, (show 0 ≤ f0_.toInt by omega), (show f0_.toInt ≤ 5 by omega)⟩, hO.1⟩)⟩ hw dX12_value_40
        · have g158 : x156.toInt = f1_.toInt + 1 := by have q := g158; simp only [c144, c160, c145, c157] at q; omega
          refine lv_if_ne (tgt := 41) hx hb dX12_value_36 (by decide) (fun _ => ?_) (fun c => absurd c (by decide))
          refine lv_aload_n hx hb dX12_value_41 rfl (lv_at hl 1 rfl) ?_
          refine lv_iconst (v := 0) hx hb dX12_value_42 (by decide) ?_
          refine lv_aload_n hx hb dX12_value_43 rfl (lv_at hl 1 rfl) ?_
          refine tk_geti hC hK hw hT hinX12 kM_at0 (by decide) rfl 16 (by decide) (List.mem_of_getElem? (i := 3) rfl) rfl rfl dX12_value_44 (fun x164 c165 rx164 tx164 => ?_)
          refine wk_top x141 (c165.symm.trans c163) ?_
          refine tk_Vv hC hK hw hT hA hE hSR kM_at0 (by decide) rfl (k_X12_puts_1 l adK adV dC dI cy ad B (by omega) (by omega) qr s1   0 (by decide) (by decide) x141 (show 0 ≤ x141.toInt by omega) (show x141.toInt ≤ 99999 by omega) w150 H.size hT f0_ c160 (show 0 ≤ f0_.toInt by omega) (show f0_.toInt ≤ 5 by omega) f2_ c161 (show 0 ≤ f2_.toInt by omega) (show f2_.toInt ≤ 400 by omega) (show f2_.toInt ≤ 399 by omega)) (cwV 2 hC.2.2.2.2 gX12_value_X12_puts rfl rfl rfl (by decide +kernel) ⟨Nat.le_of_ble_eq_true rfl, Nat.le_of_ble_eq_true rfl⟩) rfl hl.1 rfl (Nat.le_of_ble_eq_true rfl) dX12_value_47 (fun w168 H locs hp167 hw => ?_)
          obtain ⟨hT, k169, hg174⟩ := hp167
          have hF := hF.tr k169 (by decide)
          have c175 := k169.gi kM_at0 (by decide) c160
          have c176 := k169.gi kM_at0 (by decide) c162
          have c177 := k169.gi kM_at0 (by decide) c163
          have c178 := k169.gi kM_at0 (by decide) c157
          obtain ⟨⟨x170, c171, rx170, tx170⟩, hq172, g173⟩ := hg174
          have ex170 : x170.toInt = f0_.toInt := by rw [← c175.symm.trans c171]
          obtain ⟨x179, c180, rx179, tx179⟩ := hT.rda (lo := 0) (hi := 400) (i := (f0_.toInt).toNat) kM_at3 rfl rfl (by omega)
          have g173 : x179.toInt = f2_.toInt + 1 := by have q := g173; simp only [c160, c175, c161, c180] at q; omega
          have hO : OKW w168 f0_.toInt gb ((gd) + 1) := OKW_put hO (by have q := hq172; rw [c160] at q; exact q) (by rw [c161]; omega) (fun x hx => by simp only [(show (0 : Int32).toInt = 0 by decide)] at hx; exact okT_num (v := x141.toInt) (by omega) (by omega)) (by omega) (by omega)
          refine lv_iconst (v := 1) hx hb dX12_value_50 (by decide) ?_
          exact tk_zret hC hr rfl hlocks hK ⟨hT, hF, (Or.inr (Or.inr (Or.inl ⟨rfl, ⟨x9, c176, (show 1 ≤ x9.toInt by omega), (show x9.toInt ≤ 400 by omega)⟩, ⟨f0_, c175, (show 0 ≤ f0_.toInt by omega), (show f0_.toInt ≤ 5 by omega)⟩, ⟨x156, c178, (show 1 ≤ x156.toInt by omega), (show x156.toInt ≤ 60 by omega)⟩, (OKW_cast hO (by omega)), (by simp only [c175, cf0_, cf2_, c180]; omega), (by simp only [c175, cf0_, cf1_, c178]; omega)⟩)))⟩ hw dX12_value_51
  · have g19 : (x17.toInt = x1.toInt ∨ (gi w0 1 (x1.toInt).toNat).toInt = 32) := by have q := g19; simp only [cf0_, c24, c2, c18] at q; omega
    refine lv_pop hx hb dX12_value_4 rfl ?_
    refine lv_aload_n hx hb dX12_value_5 rfl (lv_at hl 0 rfl) ?_
    refine tk_geti hC hK hw hT hinX12 kM_at0 (by decide) rfl 14 (by decide) (List.mem_of_getElem? (i := 1) rfl) rfl rfl dX12_value_6 (fun x181 c182 rx181 tx181 => ?_)
    refine wk_top x17 (c182.symm.trans c18) ?_
    refine lv_istore_n (lv' := [(1, .int x17), (0, .ref (ad 0))]) hx hb dX12_value_9 rfl hl (by decide) rfl (fun ls hl => ?_)
    refine lv_aload_n hx hb dX12_value_10 rfl (lv_at hl 1 rfl) ?_
    refine lv_aload_n hx hb dX12_value_11 rfl (lv_at hl 1 rfl) ?_
    refine tk_geti hC hK hw hT hinX12 kM_at0 (by decide) rfl 14 (by decide) (List.mem_of_getElem? (i := 1) rfl) rfl rfl dX12_value_12 (fun x183 c184 rx183 tx183 => ?_)
    refine wk_top x17 (c184.symm.trans c18) ?_
    refine tk_Vi hC hK hw hT hA hE hSR kM_at0 (by decide) rfl (k_X12_isDigit_3 l adK adV dC dI cy ad B (by omega) (by omega) qr s1   x17 (show 1 ≤ x17.toInt by omega) (show x17.toInt ≤ 399 by omega) w5 H.size hT ) (cwV 1 hC.2.2.2.2 gX12_value_X12_isDigit rfl rfl rfl (by decide +kernel) ⟨Nat.le_of_ble_eq_true rfl, Nat.le_of_ble_eq_true rfl⟩) rfl hl.1 rfl (Nat.le_of_ble_eq_true rfl) dX12_value_15 (fun r185 w187 H locs hp186 hw => ?_)
    obtain ⟨rfl, hg193⟩ := hp186
    rcases hg193 with ⟨rfl, ⟨x189, c190, rx189, tx189⟩⟩ | ⟨rfl, ⟨x191, c192, rx191, tx191⟩⟩
    · have ex189 : x189.toInt = x15.toInt := by rw [← c16.symm.trans c190]
      refine lv_if_eq (tgt := 52) hx hb dX12_value_18 (by decide) (fun _ => ?_) (fun c => absurd (by decide) c)
      refine lv_aload_n hx hb dX12_value_52 rfl (lv_at hl 1 rfl) ?_
      refine tk_Vi hC hK hw hT hA hE hSR kM_at0 (by decide) rfl (k_X12_wordHere_1 l adK adV dC dI cy ad B (by omega) (by omega) qr s1    w5 H.size hT ) (cwV 0 hC.2.2.2.2 gX12_value_X12_wordHere rfl rfl rfl (by decide +kernel) ⟨Nat.le_of_ble_eq_true rfl, Nat.le_of_ble_eq_true rfl⟩) rfl hl.1 rfl (Nat.le_of_ble_eq_true rfl) dX12_value_53 (fun r194 w196 H locs hp195 hw => ?_)
      obtain ⟨hT, k197, hg204⟩ := hp195
      have hO := OKW_FE k197 (fun _ => rfl) (fun _ => rfl) (fun _ => rfl) (fun _ => rfl) hO
      have hF := hF.tr k197 (by decide)
      have c205 := k197.gi kM_at0 (by decide) c24
      have c206 := k197.gi kM_at0 (by decide) c25
      have c207 := k197.gi kM_at3 rfl c26
      have c208 := k197.gi kM_at0 (by decide) c16
      rcases hg204 with ⟨g198, g199, ⟨x200, c201, rx200, tx200⟩⟩ | ⟨rfl, ⟨x202, c203, rx202, tx202⟩⟩
      · have ex200 : x200.toInt = x15.toInt := by rw [← c208.symm.trans c201]
        refine lv_istore_n (lv' := [(2, .int r194), (1, .int x17), (0, .ref (ad 0))]) hx hb dX12_value_56 rfl hl (by decide) rfl (fun ls hl => ?_)
        refine lv_iload_n hx hb dX12_value_57 rfl (lv_at hl 0 rfl) ?_
        refine lv_if_ge (tgt := 68) hx hb dX12_value_58 (by decide) (fun _ => ?_) (fun c => (c (wk_le.mpr (show (0 : Int) ≤ r194.toInt by omega))).elim)
        refine lv_aload_n hx hb dX12_value_68 rfl (lv_at hl 2 rfl) ?_
        refine lv_iload_n hx hb dX12_value_69 rfl (lv_at hl 1 rfl) ?_
        refine tk_Vi hC hK hw hT hA hE hSR kM_at0 (by decide) rfl (k_X12_makes_4 l adK adV dC dI cy ad B (by omega) (by omega) qr s1   x17 (show 1 ≤ x17.toInt by omega) (show x17.toInt ≤ 399 by omega) w196 H.size hT f1_ c206 (show 0 ≤ f1_.toInt by omega) (show f1_.toInt ≤ 60 by omega)) (cwV 1 hC.2.2.2.2 gX12_value_X12_makes rfl rfl rfl (by decide +kernel) ⟨Nat.le_of_ble_eq_true rfl, Nat.le_of_ble_eq_true rfl⟩) rfl hl.1 rfl (Nat.le_of_ble_eq_true rfl) dX12_value_70 (fun r209 w211 H locs hp210 hw => ?_)
        obtain ⟨hT, k212, hg220⟩ := hp210
        have hO := OKW_FE k212 (fun _ => rfl) (fun _ => rfl) (fun _ => rfl) (fun _ => rfl) hO
        have hF := hF.tr k212 (by decide)
        have c221 := k212.gi kM_at0 (by decide) c205
        have c222 := k212.gi kM_at3 rfl c207
        have c223 := k212.gi kM_at0 (by decide) c208
        rcases hg220 with ⟨rfl, ⟨x213, c214, rx213, tx213⟩, ⟨x215, c216, rx215, tx215⟩⟩ | ⟨rfl, ⟨x217, c218, rx217, tx217⟩, g219⟩
        · refine lv_if_ne (tgt := 78) hx hb dX12_value_73 (by decide) (fun c => absurd (by decide) c) (fun _ => ?_)
          refine lv_iconst (v := 0) hx hb dX12_value_76 (by decide) ?_
          exact tk_zret hC hr rfl hlocks hK ⟨hT, hF, (Or.inl ⟨rfl, ⟨x15, c223, (show 1 ≤ x15.toInt by omega), (show x15.toInt ≤ 400 by omega)⟩, ⟨x213, c214, (show 1 ≤ x213.toInt by omega), (show x213.toInt ≤ 3205 by omega)⟩, ⟨f0_, c221, (show 0 ≤ f0_.toInt by omega), (show f0_.toInt ≤ 5 by omega)⟩, hO.1⟩)⟩ hw dX12_value_77
        · have g219 : x217.toInt = f1_.toInt + 1 := by have q := g219; simp only [c205, c221, c206, c218] at q; omega
          refine lv_if_ne (tgt := 78) hx hb dX12_value_73 (by decide) (fun _ => ?_) (fun c => absurd c (by decide))
          refine lv_aload_n hx hb dX12_value_78 rfl (lv_at hl 2 rfl) ?_
          refine tk_Vv hC hK hw hT hA hE hSR kM_at0 (by decide) rfl (k_X12_passWord_1 l adK adV dC dI cy ad B (by omega) (by omega) qr s1    w211 H.size hT ) (cwV 0 hC.2.2.2.2 gX12_value_X12_passWord rfl rfl rfl (by decide +kernel) ⟨Nat.le_of_ble_eq_true rfl, Nat.le_of_ble_eq_true rfl⟩) rfl hl.1 rfl (Nat.le_of_ble_eq_true rfl) dX12_value_79 (fun w226 H locs hp225 hw => ?_)
          obtain ⟨hT, k227, hg234⟩ := hp225
          have hO := OKW_FE k227 (fun _ => rfl) (fun _ => rfl) (fun _ => rfl) (fun _ => rfl) hO
          have hF := hF.tr k227 (by decide)
          have c235 := k227.gi kM_at0 (by decide) c221
          have c236 := k227.gi kM_at3 rfl c222
          have c237 := k227.gi kM_at0 (by decide) c223
          have c238 := k227.gi kM_at0 (by decide) c218
          rcases hg234 with ⟨⟨x228, c229, rx228, tx228⟩, ⟨x230, c231, rx230, tx230⟩⟩ | ⟨x232, c233, rx232, tx232⟩
          · have ex228 : x228.toInt = x15.toInt := by rw [← c237.symm.trans c229]
            refine lv_aload_n hx hb dX12_value_82 rfl (lv_at hl 2 rfl) ?_
            refine lv_iconst (v := 1) hx hb dX12_value_83 (by decide) ?_
            refine lv_iload_n hx hb dX12_value_84 rfl (lv_at hl 0 rfl) ?_
            refine tk_Vv hC hK hw hT hA hE hSR kM_at0 (by decide) rfl (k_X12_puts_1 l adK adV dC dI cy ad B (by omega) (by omega) qr s1   1 (by decide) (by decide) r194 (show 0 ≤ r194.toInt by omega) (show r194.toInt ≤ 99999 by omega) w226 H.size hT f0_ c235 (show 0 ≤ f0_.toInt by omega) (show f0_.toInt ≤ 5 by omega) f2_ c236 (show 0 ≤ f2_.toInt by omega) (show f2_.toInt ≤ 400 by omega) (show f2_.toInt ≤ 399 by omega)) (cwV 2 hC.2.2.2.2 gX12_value_X12_puts rfl rfl rfl (by decide +kernel) ⟨Nat.le_of_ble_eq_true rfl, Nat.le_of_ble_eq_true rfl⟩) rfl hl.1 rfl (Nat.le_of_ble_eq_true rfl) dX12_value_85 (fun w241 H locs hp240 hw => ?_)
            obtain ⟨hT, k242, hg247⟩ := hp240
            have hF := hF.tr k242 (by decide)
            have c248 := k242.gi kM_at0 (by decide) c235
            have c249 := k242.gi kM_at0 (by decide) c237
            have c250 := k242.gi kM_at0 (by decide) c238
            have c251 := k242.gi kM_at0 (by decide) c231
            obtain ⟨⟨x243, c244, rx243, tx243⟩, hq245, g246⟩ := hg247
            have ex243 : x243.toInt = f0_.toInt := by rw [← c248.symm.trans c244]
            obtain ⟨x252, c253, rx252, tx252⟩ := hT.rda (lo := 0) (hi := 400) (i := (f0_.toInt).toNat) kM_at3 rfl rfl (by omega)
            have g246 : x252.toInt = f2_.toInt + 1 := by have q := g246; simp only [c235, c248, c236, c253] at q; omega
            have hO : OKW w241 f0_.toInt gb ((gd) + 1) := OKW_put hO (by have q := hq245; rw [c235] at q; exact q) (by rw [c236]; omega) (fun x hx => by simp only [(show (1 : Int32).toInt = 1 by decide)] at hx; exact okT_word (v := r194.toInt) (by omega) (by omega) (by omega)) (by omega) (by omega)
            refine lv_iconst (v := 1) hx hb dX12_value_88 (by decide) ?_
            exact tk_zret hC hr rfl hlocks hK ⟨hT, hF, (Or.inr (Or.inr (Or.inl ⟨rfl, ⟨x15, c249, (show 1 ≤ x15.toInt by omega), (show x15.toInt ≤ 400 by omega)⟩, ⟨f0_, c248, (show 0 ≤ f0_.toInt by omega), (show f0_.toInt ≤ 5 by omega)⟩, ⟨x217, c250, (show 1 ≤ x217.toInt by omega), (show x217.toInt ≤ 60 by omega)⟩, (OKW_cast hO (by omega)), (by simp only [c248, cf0_, cf2_, c253]; omega), (by simp only [c248, cf0_, cf1_, c250]; omega)⟩)))⟩ hw dX12_value_89
          · have ex232 : x232.toInt = x15.toInt := by rw [← c237.symm.trans c233]
            refine lv_aload_n hx hb dX12_value_82 rfl (lv_at hl 2 rfl) ?_
            refine lv_iconst (v := 1) hx hb dX12_value_83 (by decide) ?_
            refine lv_iload_n hx hb dX12_value_84 rfl (lv_at hl 0 rfl) ?_
            refine tk_Vv hC hK hw hT hA hE hSR kM_at0 (by decide) rfl (k_X12_puts_1 l adK adV dC dI cy ad B (by omega) (by omega) qr s1   1 (by decide) (by decide) r194 (show 0 ≤ r194.toInt by omega) (show r194.toInt ≤ 99999 by omega) w226 H.size hT f0_ c235 (show 0 ≤ f0_.toInt by omega) (show f0_.toInt ≤ 5 by omega) f2_ c236 (show 0 ≤ f2_.toInt by omega) (show f2_.toInt ≤ 400 by omega) (show f2_.toInt ≤ 399 by omega)) (cwV 2 hC.2.2.2.2 gX12_value_X12_puts rfl rfl rfl (by decide +kernel) ⟨Nat.le_of_ble_eq_true rfl, Nat.le_of_ble_eq_true rfl⟩) rfl hl.1 rfl (Nat.le_of_ble_eq_true rfl) dX12_value_85 (fun w256 H locs hp255 hw => ?_)
            obtain ⟨hT, k257, hg262⟩ := hp255
            have hF := hF.tr k257 (by decide)
            have c263 := k257.gi kM_at0 (by decide) c235
            have c264 := k257.gi kM_at0 (by decide) c237
            have c265 := k257.gi kM_at0 (by decide) c238
            obtain ⟨⟨x258, c259, rx258, tx258⟩, hq260, g261⟩ := hg262
            have ex258 : x258.toInt = f0_.toInt := by rw [← c263.symm.trans c259]
            obtain ⟨x266, c267, rx266, tx266⟩ := hT.rda (lo := 0) (hi := 400) (i := (f0_.toInt).toNat) kM_at3 rfl rfl (by omega)
            have g261 : x266.toInt = f2_.toInt + 1 := by have q := g261; simp only [c235, c263, c236, c267] at q; omega
            have hO : OKW w256 f0_.toInt gb ((gd) + 1) := OKW_put hO (by have q := hq260; rw [c235] at q; exact q) (by rw [c236]; omega) (fun x hx => by simp only [(show (1 : Int32).toInt = 1 by decide)] at hx; exact okT_word (v := r194.toInt) (by omega) (by omega) (by omega)) (by omega) (by omega)
            refine lv_iconst (v := 1) hx hb dX12_value_88 (by decide) ?_
            exact tk_zret hC hr rfl hlocks hK ⟨hT, hF, (Or.inr (Or.inr (Or.inl ⟨rfl, ⟨x15, c264, (show 1 ≤ x15.toInt by omega), (show x15.toInt ≤ 400 by omega)⟩, ⟨f0_, c263, (show 0 ≤ f0_.toInt by omega), (show f0_.toInt ≤ 5 by omega)⟩, ⟨x217, c265, (show 1 ≤ x217.toInt by omega), (show x217.toInt ≤ 60 by omega)⟩, (OKW_cast hO (by omega)), (by simp only [c263, cf0_, cf2_, c267]; omega), (by simp only [c263, cf0_, cf1_, c265]; omega)⟩)))⟩ hw dX12_value_89
      · have ex202 : x202.toInt = x15.toInt := by rw [← c208.symm.trans c203]
        refine lv_istore_n (lv' := [(2, .int (-1)), (1, .int x17), (0, .ref (ad 0))]) hx hb dX12_value_56 rfl hl (by decide) rfl (fun ls hl => ?_)
        refine lv_iload_n hx hb dX12_value_57 rfl (lv_at hl 0 rfl) ?_
        refine lv_if_ge (tgt := 68) hx hb dX12_value_58 (by decide) (fun c => absurd c (by decide)) (fun _ => ?_)
        refine lv_aload_n hx hb dX12_value_61 rfl (lv_at hl 2 rfl) ?_
        refine lv_iconst (v := 0) hx hb dX12_value_62 (by decide) ?_
        refine lv_iload_n hx hb dX12_value_63 rfl (lv_at hl 1 rfl) ?_
        refine tk_Vi hC hK hw hT hA hE hSR kM_at0 (by decide) rfl (k_X12_fails_1 l adK adV dC dI cy ad B (by omega) (by omega) qr s1   0 (by decide) (by decide) x17 (show 0 ≤ x17.toInt by omega) (show x17.toInt ≤ 400 by omega) w196 H.size hT ) (cwV 2 hC.2.2.2.2 gX12_value_X12_fails rfl rfl rfl (by decide +kernel) ⟨Nat.le_of_ble_eq_true rfl, Nat.le_of_ble_eq_true rfl⟩) rfl hl.1 rfl (Nat.le_of_ble_eq_true rfl) dX12_value_64 (fun r268 w270 H locs hp269 hw => ?_)
        obtain ⟨hT, k271, hg274⟩ := hp269
        have hO := OKW_FE k271 (fun _ => rfl) (fun _ => rfl) (fun _ => rfl) (fun _ => rfl) hO
        have hF := hF.tr k271 (by decide)
        have c275 := k271.gi kM_at0 (by decide) c205
        have c276 := k271.gi kM_at0 (by decide) c206
        have c277 := k271.gi kM_at3 rfl c207
        have c278 := k271.gi kM_at0 (by decide) c208
        obtain ⟨rfl, ⟨x272, c273, rx272, tx272⟩⟩ := hg274
        exact tk_zret hC hr rfl hlocks hK ⟨hT, hF, (Or.inl ⟨rfl, ⟨x15, c278, (show 1 ≤ x15.toInt by omega), (show x15.toInt ≤ 400 by omega)⟩, ⟨x272, c273, (show 1 ≤ x272.toInt by omega), (show x272.toInt ≤ 3205 by omega)⟩, ⟨f0_, c275, (show 0 ≤ f0_.toInt by omega), (show f0_.toInt ≤ 5 by omega)⟩, hO.1⟩)⟩ hw dX12_value_67
    · have ex191 : x191.toInt = x15.toInt := by rw [← c16.symm.trans c192]
      refine lv_if_eq (tgt := 52) hx hb dX12_value_18 (by decide) (fun c => absurd c (by decide)) (fun _ => ?_)
      refine lv_aload_n hx hb dX12_value_21 rfl (lv_at hl 1 rfl) ?_
      refine lv_iconst (v := 0) hx hb dX12_value_22 (by decide) ?_
      refine lv_ldc (v := 99999) hx hb hC.2.2.2.1 (hC.2.2.2.2 _ (List.mem_of_getElem? (i := 2) rfl)) dX12_value_23 ?_
      refine tk_Vi hC hK hw hT hA hE hSR kM_at0 (by decide) rfl (k_X12_numberHere_9 l adK adV dC dI cy ad B (by omega) (by omega) qr s1    w5 H.size hT ) (cwV 2 hC.2.2.2.2 gX12_value_X12_numberHere rfl rfl rfl (by decide +kernel) ⟨Nat.le_of_ble_eq_true rfl, Nat.le_of_ble_eq_true rfl⟩) rfl hl.1 rfl (Nat.le_of_ble_eq_true rfl) dX12_value_25 (fun r279 w281 H locs hp280 hw => ?_)
      obtain ⟨hT, k282, hg295⟩ := hp280
      have hO := OKW_FE k282 (fun _ => rfl) (fun _ => rfl) (fun _ => rfl) (fun _ => rfl) hO
      have hF := hF.tr k282 (by decide)
      have c296 := k282.gi kM_at0 (by decide) c24
      have c297 := k282.gi kM_at0 (by decide) c25
      have c298 := k282.gi kM_at3 rfl c26
      have c299 := k282.gi kM_at0 (by decide) c16
      rcases hg295 with ⟨rfl, ⟨x283, c284, rx283, tx283⟩, ⟨x285, c286, rx285, tx285⟩⟩ | ⟨rfl, ⟨x287, c288, rx287, tx287⟩, ⟨x289, c290, rx289, tx289⟩⟩ | ⟨rfl, ⟨x291, c292, rx291, tx291⟩, ⟨x293, c294, rx293, tx293⟩⟩
      · have ex283 : x283.toInt = x15.toInt := by rw [← c299.symm.trans c284]
        refine lv_if_eq (tgt := 39) hx hb dX12_value_28 (by decide) (fun _ => ?_) (fun c => absurd (by decide) c)
        refine lv_iconst (v := 0) hx hb dX12_value_39 (by decide) ?_
        exact tk_zret hC hr rfl hlocks hK ⟨hT, hF, (Or.inl ⟨rfl, ⟨x15, c299, (show 1 ≤ x15.toInt by omega), (show x15.toInt ≤ 400 by omega)⟩, ⟨x285, c286, (show 1 ≤ x285.toInt by omega), (show x285.toInt ≤ 3205 by omega)⟩, ⟨f0_, c296, (show 0 ≤ f0_.toInt by omega), (show f0_.toInt ≤ 5 by omega)⟩, hO.1⟩)⟩ hw dX12_value_40
      · have ex287 : x287.toInt = x15.toInt := by rw [← c299.symm.trans c288]
        refine lv_if_eq (tgt := 39) hx hb dX12_value_28 (by decide) (fun _ => ?_) (fun c => absurd (by decide) c)
        refine lv_iconst (v := 0) hx hb dX12_value_39 (by decide) ?_
        exact tk_zret hC hr rfl hlocks hK ⟨hT, hF, (Or.inl ⟨rfl, ⟨x15, c299, (show 1 ≤ x15.toInt by omega), (show x15.toInt ≤ 400 by omega)⟩, ⟨x289, c290, (show 1 ≤ x289.toInt by omega), (show x289.toInt ≤ 3205 by omega)⟩, ⟨f0_, c296, (show 0 ≤ f0_.toInt by omega), (show f0_.toInt ≤ 5 by omega)⟩, hO.1⟩)⟩ hw dX12_value_40
      · have ex291 : x291.toInt = x15.toInt := by rw [← c299.symm.trans c292]
        refine lv_if_eq (tgt := 39) hx hb dX12_value_28 (by decide) (fun c => absurd c (by decide)) (fun _ => ?_)
        refine lv_aload_n hx hb dX12_value_31 rfl (lv_at hl 1 rfl) ?_
        refine lv_iload_n hx hb dX12_value_32 rfl (lv_at hl 0 rfl) ?_
        refine tk_Vi hC hK hw hT hA hE hSR kM_at0 (by decide) rfl (k_X12_makes_4 l adK adV dC dI cy ad B (by omega) (by omega) qr s1   x17 (show 1 ≤ x17.toInt by omega) (show x17.toInt ≤ 399 by omega) w281 H.size hT f1_ c297 (show 0 ≤ f1_.toInt by omega) (show f1_.toInt ≤ 60 by omega)) (cwV 1 hC.2.2.2.2 gX12_value_X12_makes rfl rfl rfl (by decide +kernel) ⟨Nat.le_of_ble_eq_true rfl, Nat.le_of_ble_eq_true rfl⟩) rfl hl.1 rfl (Nat.le_of_ble_eq_true rfl) dX12_value_33 (fun r300 w302 H locs hp301 hw => ?_)
        obtain ⟨hT, k303, hg311⟩ := hp301
        have hO := OKW_FE k303 (fun _ => rfl) (fun _ => rfl) (fun _ => rfl) (fun _ => rfl) hO
        have hF := hF.tr k303 (by decide)
        have c312 := k303.gi kM_at0 (by decide) c296
        have c313 := k303.gi kM_at3 rfl c298
        have c314 := k303.gi kM_at0 (by decide) c299
        have c315 := k303.gi kM_at0 (by decide) c294
        rcases hg311 with ⟨rfl, ⟨x304, c305, rx304, tx304⟩, ⟨x306, c307, rx306, tx306⟩⟩ | ⟨rfl, ⟨x308, c309, rx308, tx308⟩, g310⟩
        · refine lv_if_ne (tgt := 41) hx hb dX12_value_36 (by decide) (fun c => absurd (by decide) c) (fun _ => ?_)
          refine lv_iconst (v := 0) hx hb dX12_value_39 (by decide) ?_
          exact tk_zret hC hr rfl hlocks hK ⟨hT, hF, (Or.inl ⟨rfl, ⟨x15, c314, (show 1 ≤ x15.toInt by omega), (show x15.toInt ≤ 400 by omega)⟩, ⟨x304, c305, (show 1 ≤ x304.toInt by omega), (show x304.toInt ≤ 3205 by omega)⟩, ⟨f0_, c312, (show 0 ≤ f0_.toInt by omega), (show f0_.toInt ≤ 5 by omega)⟩, hO.1⟩)⟩ hw dX12_value_40
        · have g310 : x308.toInt = f1_.toInt + 1 := by have q := g310; simp only [c296, c312, c297, c309] at q; omega
          refine lv_if_ne (tgt := 41) hx hb dX12_value_36 (by decide) (fun _ => ?_) (fun c => absurd c (by decide))
          refine lv_aload_n hx hb dX12_value_41 rfl (lv_at hl 1 rfl) ?_
          refine lv_iconst (v := 0) hx hb dX12_value_42 (by decide) ?_
          refine lv_aload_n hx hb dX12_value_43 rfl (lv_at hl 1 rfl) ?_
          refine tk_geti hC hK hw hT hinX12 kM_at0 (by decide) rfl 16 (by decide) (List.mem_of_getElem? (i := 3) rfl) rfl rfl dX12_value_44 (fun x316 c317 rx316 tx316 => ?_)
          refine wk_top x293 (c317.symm.trans c315) ?_
          refine tk_Vv hC hK hw hT hA hE hSR kM_at0 (by decide) rfl (k_X12_puts_1 l adK adV dC dI cy ad B (by omega) (by omega) qr s1   0 (by decide) (by decide) x293 (show 0 ≤ x293.toInt by omega) (show x293.toInt ≤ 99999 by omega) w302 H.size hT f0_ c312 (show 0 ≤ f0_.toInt by omega) (show f0_.toInt ≤ 5 by omega) f2_ c313 (show 0 ≤ f2_.toInt by omega) (show f2_.toInt ≤ 400 by omega) (show f2_.toInt ≤ 399 by omega)) (cwV 2 hC.2.2.2.2 gX12_value_X12_puts rfl rfl rfl (by decide +kernel) ⟨Nat.le_of_ble_eq_true rfl, Nat.le_of_ble_eq_true rfl⟩) rfl hl.1 rfl (Nat.le_of_ble_eq_true rfl) dX12_value_47 (fun w320 H locs hp319 hw => ?_)
          obtain ⟨hT, k321, hg326⟩ := hp319
          have hF := hF.tr k321 (by decide)
          have c327 := k321.gi kM_at0 (by decide) c312
          have c328 := k321.gi kM_at0 (by decide) c314
          have c329 := k321.gi kM_at0 (by decide) c315
          have c330 := k321.gi kM_at0 (by decide) c309
          obtain ⟨⟨x322, c323, rx322, tx322⟩, hq324, g325⟩ := hg326
          have ex322 : x322.toInt = f0_.toInt := by rw [← c327.symm.trans c323]
          obtain ⟨x331, c332, rx331, tx331⟩ := hT.rda (lo := 0) (hi := 400) (i := (f0_.toInt).toNat) kM_at3 rfl rfl (by omega)
          have g325 : x331.toInt = f2_.toInt + 1 := by have q := g325; simp only [c312, c327, c313, c332] at q; omega
          have hO : OKW w320 f0_.toInt gb ((gd) + 1) := OKW_put hO (by have q := hq324; rw [c312] at q; exact q) (by rw [c313]; omega) (fun x hx => by simp only [(show (0 : Int32).toInt = 0 by decide)] at hx; exact okT_num (v := x293.toInt) (by omega) (by omega)) (by omega) (by omega)
          refine lv_iconst (v := 1) hx hb dX12_value_50 (by decide) ?_
          exact tk_zret hC hr rfl hlocks hK ⟨hT, hF, (Or.inr (Or.inr (Or.inl ⟨rfl, ⟨x15, c328, (show 1 ≤ x15.toInt by omega), (show x15.toInt ≤ 400 by omega)⟩, ⟨f0_, c327, (show 0 ≤ f0_.toInt by omega), (show f0_.toInt ≤ 5 by omega)⟩, ⟨x308, c330, (show 1 ≤ x308.toInt by omega), (show x308.toInt ≤ 60 by omega)⟩, (OKW_cast hO (by omega)), (by simp only [c327, cf0_, cf2_, c332]; omega), (by simp only [c327, cf0_, cf1_, c330]; omega)⟩)))⟩ hw dX12_value_51
  · obtain ⟨x27, c28, rx27, tx27⟩ := hT.rdi (lo := 0) (hi := 400) (k := 14) kM_at0 (by decide) rfl
    have g22 : (x27.toInt = x1.toInt ∨ (gi w0 1 (x1.toInt).toNat).toInt = 32) := by have q := g22; simp only [cf0_, c24, c2, c28] at q; omega
    refine lv_pop hx hb dX12_value_4 rfl ?_
    refine lv_aload_n hx hb dX12_value_5 rfl (lv_at hl 0 rfl) ?_
    refine tk_geti hC hK hw hT hinX12 kM_at0 (by decide) rfl 14 (by decide) (List.mem_of_getElem? (i := 1) rfl) rfl rfl dX12_value_6 (fun x333 c334 rx333 tx333 => ?_)
    refine wk_top x27 (c334.symm.trans c28) ?_
    refine lv_istore_n (lv' := [(1, .int x27), (0, .ref (ad 0))]) hx hb dX12_value_9 rfl hl (by decide) rfl (fun ls hl => ?_)
    refine lv_aload_n hx hb dX12_value_10 rfl (lv_at hl 1 rfl) ?_
    refine lv_aload_n hx hb dX12_value_11 rfl (lv_at hl 1 rfl) ?_
    refine tk_geti hC hK hw hT hinX12 kM_at0 (by decide) rfl 14 (by decide) (List.mem_of_getElem? (i := 1) rfl) rfl rfl dX12_value_12 (fun x335 c336 rx335 tx335 => ?_)
    refine wk_top x27 (c336.symm.trans c28) ?_
    refine tk_Vi hC hK hw hT hA hE hSR kM_at0 (by decide) rfl (k_X12_isDigit_2 l adK adV dC dI cy ad B (by omega) (by omega) qr s1   x27 (show 0 ≤ x27.toInt by omega) (show x27.toInt ≤ 400 by omega) w5 H.size hT ) (cwV 1 hC.2.2.2.2 gX12_value_X12_isDigit rfl rfl rfl (by decide +kernel) ⟨Nat.le_of_ble_eq_true rfl, Nat.le_of_ble_eq_true rfl⟩) rfl hl.1 rfl (Nat.le_of_ble_eq_true rfl) dX12_value_15 (fun r337 w339 H locs hp338 hw => ?_)
    obtain ⟨rfl, hg346⟩ := hp338
    rcases hg346 with ⟨rfl, ⟨x341, c342, rx341, tx341⟩⟩ | ⟨rfl, g343, ⟨x344, c345, rx344, tx344⟩⟩
    · have ex341 : x341.toInt = x20.toInt := by rw [← c21.symm.trans c342]
      refine lv_if_eq (tgt := 52) hx hb dX12_value_18 (by decide) (fun _ => ?_) (fun c => absurd (by decide) c)
      refine lv_aload_n hx hb dX12_value_52 rfl (lv_at hl 1 rfl) ?_
      refine tk_Vi hC hK hw hT hA hE hSR kM_at0 (by decide) rfl (k_X12_wordHere_1 l adK adV dC dI cy ad B (by omega) (by omega) qr s1    w5 H.size hT ) (cwV 0 hC.2.2.2.2 gX12_value_X12_wordHere rfl rfl rfl (by decide +kernel) ⟨Nat.le_of_ble_eq_true rfl, Nat.le_of_ble_eq_true rfl⟩) rfl hl.1 rfl (Nat.le_of_ble_eq_true rfl) dX12_value_53 (fun r347 w349 H locs hp348 hw => ?_)
      obtain ⟨hT, k350, hg357⟩ := hp348
      have hO := OKW_FE k350 (fun _ => rfl) (fun _ => rfl) (fun _ => rfl) (fun _ => rfl) hO
      have hF := hF.tr k350 (by decide)
      have c358 := k350.gi kM_at0 (by decide) c24
      have c359 := k350.gi kM_at0 (by decide) c25
      have c360 := k350.gi kM_at3 rfl c26
      have c361 := k350.gi kM_at0 (by decide) c21
      rcases hg357 with ⟨g351, g352, ⟨x353, c354, rx353, tx353⟩⟩ | ⟨rfl, ⟨x355, c356, rx355, tx355⟩⟩
      · have ex353 : x353.toInt = x20.toInt := by rw [← c361.symm.trans c354]
        refine lv_istore_n (lv' := [(2, .int r347), (1, .int x27), (0, .ref (ad 0))]) hx hb dX12_value_56 rfl hl (by decide) rfl (fun ls hl => ?_)
        refine lv_iload_n hx hb dX12_value_57 rfl (lv_at hl 0 rfl) ?_
        refine lv_if_ge (tgt := 68) hx hb dX12_value_58 (by decide) (fun _ => ?_) (fun c => (c (wk_le.mpr (show (0 : Int) ≤ r347.toInt by omega))).elim)
        refine lv_aload_n hx hb dX12_value_68 rfl (lv_at hl 2 rfl) ?_
        refine lv_iload_n hx hb dX12_value_69 rfl (lv_at hl 1 rfl) ?_
        refine tk_Vi hC hK hw hT hA hE hSR kM_at0 (by decide) rfl (k_X12_makes_3 l adK adV dC dI cy ad B (by omega) (by omega) qr s1   x27 (show 0 ≤ x27.toInt by omega) (show x27.toInt ≤ 400 by omega) w349 H.size hT f1_ c359 (show 0 ≤ f1_.toInt by omega) (show f1_.toInt ≤ 60 by omega)) (cwV 1 hC.2.2.2.2 gX12_value_X12_makes rfl rfl rfl (by decide +kernel) ⟨Nat.le_of_ble_eq_true rfl, Nat.le_of_ble_eq_true rfl⟩) rfl hl.1 rfl (Nat.le_of_ble_eq_true rfl) dX12_value_70 (fun r362 w364 H locs hp363 hw => ?_)
        obtain ⟨hT, k365, hg373⟩ := hp363
        have hO := OKW_FE k365 (fun _ => rfl) (fun _ => rfl) (fun _ => rfl) (fun _ => rfl) hO
        have hF := hF.tr k365 (by decide)
        have c374 := k365.gi kM_at0 (by decide) c358
        have c375 := k365.gi kM_at3 rfl c360
        have c376 := k365.gi kM_at0 (by decide) c361
        rcases hg373 with ⟨rfl, ⟨x366, c367, rx366, tx366⟩, ⟨x368, c369, rx368, tx368⟩⟩ | ⟨rfl, ⟨x370, c371, rx370, tx370⟩, g372⟩
        · refine lv_if_ne (tgt := 78) hx hb dX12_value_73 (by decide) (fun c => absurd (by decide) c) (fun _ => ?_)
          refine lv_iconst (v := 0) hx hb dX12_value_76 (by decide) ?_
          exact tk_zret hC hr rfl hlocks hK ⟨hT, hF, (Or.inr (Or.inl ⟨rfl, ⟨x20, c376, (show 0 ≤ x20.toInt by omega), (show x20.toInt ≤ 400 by omega)⟩, ⟨x366, c367, (show 1 ≤ x366.toInt by omega), (show x366.toInt ≤ 3205 by omega)⟩, ⟨f0_, c374, (show 0 ≤ f0_.toInt by omega), (show f0_.toInt ≤ 5 by omega)⟩, hO.1⟩))⟩ hw dX12_value_77
        · have g372 : x370.toInt = f1_.toInt + 1 := by have q := g372; simp only [c358, c374, c359, c371] at q; omega
          refine lv_if_ne (tgt := 78) hx hb dX12_value_73 (by decide) (fun _ => ?_) (fun c => absurd c (by decide))
          refine lv_aload_n hx hb dX12_value_78 rfl (lv_at hl 2 rfl) ?_
          refine tk_Vv hC hK hw hT hA hE hSR kM_at0 (by decide) rfl (k_X12_passWord_1 l adK adV dC dI cy ad B (by omega) (by omega) qr s1    w364 H.size hT ) (cwV 0 hC.2.2.2.2 gX12_value_X12_passWord rfl rfl rfl (by decide +kernel) ⟨Nat.le_of_ble_eq_true rfl, Nat.le_of_ble_eq_true rfl⟩) rfl hl.1 rfl (Nat.le_of_ble_eq_true rfl) dX12_value_79 (fun w379 H locs hp378 hw => ?_)
          obtain ⟨hT, k380, hg387⟩ := hp378
          have hO := OKW_FE k380 (fun _ => rfl) (fun _ => rfl) (fun _ => rfl) (fun _ => rfl) hO
          have hF := hF.tr k380 (by decide)
          have c388 := k380.gi kM_at0 (by decide) c374
          have c389 := k380.gi kM_at3 rfl c375
          have c390 := k380.gi kM_at0 (by decide) c376
          have c391 := k380.gi kM_at0 (by decide) c371
          rcases hg387 with ⟨⟨x381, c382, rx381, tx381⟩, ⟨x383, c384, rx383, tx383⟩⟩ | ⟨x385, c386, rx385, tx385⟩
          · have ex381 : x381.toInt = x20.toInt := by rw [← c390.symm.trans c382]
            refine lv_aload_n hx hb dX12_value_82 rfl (lv_at hl 2 rfl) ?_
            refine lv_iconst (v := 1) hx hb dX12_value_83 (by decide) ?_
            refine lv_iload_n hx hb dX12_value_84 rfl (lv_at hl 0 rfl) ?_
            refine tk_Vv hC hK hw hT hA hE hSR kM_at0 (by decide) rfl (k_X12_puts_1 l adK adV dC dI cy ad B (by omega) (by omega) qr s1   1 (by decide) (by decide) r347 (show 0 ≤ r347.toInt by omega) (show r347.toInt ≤ 99999 by omega) w379 H.size hT f0_ c388 (show 0 ≤ f0_.toInt by omega) (show f0_.toInt ≤ 5 by omega) f2_ c389 (show 0 ≤ f2_.toInt by omega) (show f2_.toInt ≤ 400 by omega) (show f2_.toInt ≤ 399 by omega)) (cwV 2 hC.2.2.2.2 gX12_value_X12_puts rfl rfl rfl (by decide +kernel) ⟨Nat.le_of_ble_eq_true rfl, Nat.le_of_ble_eq_true rfl⟩) rfl hl.1 rfl (Nat.le_of_ble_eq_true rfl) dX12_value_85 (fun w394 H locs hp393 hw => ?_)
            obtain ⟨hT, k395, hg400⟩ := hp393
            have hF := hF.tr k395 (by decide)
            have c401 := k395.gi kM_at0 (by decide) c388
            have c402 := k395.gi kM_at0 (by decide) c390
            have c403 := k395.gi kM_at0 (by decide) c391
            have c404 := k395.gi kM_at0 (by decide) c384
            obtain ⟨⟨x396, c397, rx396, tx396⟩, hq398, g399⟩ := hg400
            have ex396 : x396.toInt = f0_.toInt := by rw [← c401.symm.trans c397]
            obtain ⟨x405, c406, rx405, tx405⟩ := hT.rda (lo := 0) (hi := 400) (i := (f0_.toInt).toNat) kM_at3 rfl rfl (by omega)
            have g399 : x405.toInt = f2_.toInt + 1 := by have q := g399; simp only [c388, c401, c389, c406] at q; omega
            have hO : OKW w394 f0_.toInt gb ((gd) + 1) := OKW_put hO (by have q := hq398; rw [c388] at q; exact q) (by rw [c389]; omega) (fun x hx => by simp only [(show (1 : Int32).toInt = 1 by decide)] at hx; exact okT_word (v := r347.toInt) (by omega) (by omega) (by omega)) (by omega) (by omega)
            refine lv_iconst (v := 1) hx hb dX12_value_88 (by decide) ?_
            exact tk_zret hC hr rfl hlocks hK ⟨hT, hF, (Or.inr (Or.inr (Or.inl ⟨rfl, ⟨x20, c402, (show 1 ≤ x20.toInt by omega), (show x20.toInt ≤ 400 by omega)⟩, ⟨f0_, c401, (show 0 ≤ f0_.toInt by omega), (show f0_.toInt ≤ 5 by omega)⟩, ⟨x370, c403, (show 1 ≤ x370.toInt by omega), (show x370.toInt ≤ 60 by omega)⟩, (OKW_cast hO (by omega)), (by simp only [c401, cf0_, cf2_, c406]; omega), (by simp only [c401, cf0_, cf1_, c403]; omega)⟩)))⟩ hw dX12_value_89
          · have ex385 : x385.toInt = x20.toInt := by rw [← c390.symm.trans c386]
            refine lv_aload_n hx hb dX12_value_82 rfl (lv_at hl 2 rfl) ?_
            refine lv_iconst (v := 1) hx hb dX12_value_83 (by decide) ?_
            refine lv_iload_n hx hb dX12_value_84 rfl (lv_at hl 0 rfl) ?_
            refine tk_Vv hC hK hw hT hA hE hSR kM_at0 (by decide) rfl (k_X12_puts_1 l adK adV dC dI cy ad B (by omega) (by omega) qr s1   1 (by decide) (by decide) r347 (show 0 ≤ r347.toInt by omega) (show r347.toInt ≤ 99999 by omega) w379 H.size hT f0_ c388 (show 0 ≤ f0_.toInt by omega) (show f0_.toInt ≤ 5 by omega) f2_ c389 (show 0 ≤ f2_.toInt by omega) (show f2_.toInt ≤ 400 by omega) (show f2_.toInt ≤ 399 by omega)) (cwV 2 hC.2.2.2.2 gX12_value_X12_puts rfl rfl rfl (by decide +kernel) ⟨Nat.le_of_ble_eq_true rfl, Nat.le_of_ble_eq_true rfl⟩) rfl hl.1 rfl (Nat.le_of_ble_eq_true rfl) dX12_value_85 (fun w409 H locs hp408 hw => ?_)
            obtain ⟨hT, k410, hg415⟩ := hp408
            have hF := hF.tr k410 (by decide)
            have c416 := k410.gi kM_at0 (by decide) c388
            have c417 := k410.gi kM_at0 (by decide) c390
            have c418 := k410.gi kM_at0 (by decide) c391
            obtain ⟨⟨x411, c412, rx411, tx411⟩, hq413, g414⟩ := hg415
            have ex411 : x411.toInt = f0_.toInt := by rw [← c416.symm.trans c412]
            obtain ⟨x419, c420, rx419, tx419⟩ := hT.rda (lo := 0) (hi := 400) (i := (f0_.toInt).toNat) kM_at3 rfl rfl (by omega)
            have g414 : x419.toInt = f2_.toInt + 1 := by have q := g414; simp only [c388, c416, c389, c420] at q; omega
            have hO : OKW w409 f0_.toInt gb ((gd) + 1) := OKW_put hO (by have q := hq413; rw [c388] at q; exact q) (by rw [c389]; omega) (fun x hx => by simp only [(show (1 : Int32).toInt = 1 by decide)] at hx; exact okT_word (v := r347.toInt) (by omega) (by omega) (by omega)) (by omega) (by omega)
            refine lv_iconst (v := 1) hx hb dX12_value_88 (by decide) ?_
            exact tk_zret hC hr rfl hlocks hK ⟨hT, hF, (Or.inr (Or.inr (Or.inr ⟨rfl, ⟨x20, c417, (show 0 ≤ x20.toInt by omega), (show x20.toInt ≤ 400 by omega)⟩, ⟨f0_, c416, (show 0 ≤ f0_.toInt by omega), (show f0_.toInt ≤ 5 by omega)⟩, ⟨x370, c418, (show 1 ≤ x370.toInt by omega), (show x370.toInt ≤ 60 by omega)⟩, (OKW_cast hO (by omega)), (by simp only [c416, cf0_, cf2_, c420]; omega), (by simp only [c416, cf0_, cf1_, c418]; omega)⟩)))⟩ hw dX12_value_89
      · have ex355 : x355.toInt = x20.toInt := by rw [← c361.symm.trans c356]
        refine lv_istore_n (lv' := [(2, .int (-1)), (1, .int x27), (0, .ref (ad 0))]) hx hb dX12_value_56 rfl hl (by decide) rfl (fun ls hl => ?_)
        refine lv_iload_n hx hb dX12_value_57 rfl (lv_at hl 0 rfl) ?_
        refine lv_if_ge (tgt := 68) hx hb dX12_value_58 (by decide) (fun c => absurd c (by decide)) (fun _ => ?_)
        refine lv_aload_n hx hb dX12_value_61 rfl (lv_at hl 2 rfl) ?_
        refine lv_iconst (v := 0) hx hb dX12_value_62 (by decide) ?_
        refine lv_iload_n hx hb dX12_value_63 rfl (lv_at hl 1 rfl) ?_
        refine tk_Vi hC hK hw hT hA hE hSR kM_at0 (by decide) rfl (k_X12_fails_1 l adK adV dC dI cy ad B (by omega) (by omega) qr s1   0 (by decide) (by decide) x27 (show 0 ≤ x27.toInt by omega) (show x27.toInt ≤ 400 by omega) w349 H.size hT ) (cwV 2 hC.2.2.2.2 gX12_value_X12_fails rfl rfl rfl (by decide +kernel) ⟨Nat.le_of_ble_eq_true rfl, Nat.le_of_ble_eq_true rfl⟩) rfl hl.1 rfl (Nat.le_of_ble_eq_true rfl) dX12_value_64 (fun r421 w423 H locs hp422 hw => ?_)
        obtain ⟨hT, k424, hg427⟩ := hp422
        have hO := OKW_FE k424 (fun _ => rfl) (fun _ => rfl) (fun _ => rfl) (fun _ => rfl) hO
        have hF := hF.tr k424 (by decide)
        have c428 := k424.gi kM_at0 (by decide) c358
        have c429 := k424.gi kM_at0 (by decide) c359
        have c430 := k424.gi kM_at3 rfl c360
        have c431 := k424.gi kM_at0 (by decide) c361
        obtain ⟨rfl, ⟨x425, c426, rx425, tx425⟩⟩ := hg427
        exact tk_zret hC hr rfl hlocks hK ⟨hT, hF, (Or.inr (Or.inl ⟨rfl, ⟨x20, c431, (show 0 ≤ x20.toInt by omega), (show x20.toInt ≤ 400 by omega)⟩, ⟨x425, c426, (show 1 ≤ x425.toInt by omega), (show x425.toInt ≤ 3205 by omega)⟩, ⟨f0_, c428, (show 0 ≤ f0_.toInt by omega), (show f0_.toInt ≤ 5 by omega)⟩, hO.1⟩))⟩ hw dX12_value_67
    · have ex344 : x344.toInt = x20.toInt := by rw [← c21.symm.trans c345]
      refine lv_if_eq (tgt := 52) hx hb dX12_value_18 (by decide) (fun c => absurd c (by decide)) (fun _ => ?_)
      refine lv_aload_n hx hb dX12_value_21 rfl (lv_at hl 1 rfl) ?_
      refine lv_iconst (v := 0) hx hb dX12_value_22 (by decide) ?_
      refine lv_ldc (v := 99999) hx hb hC.2.2.2.1 (hC.2.2.2.2 _ (List.mem_of_getElem? (i := 2) rfl)) dX12_value_23 ?_
      refine tk_Vi hC hK hw hT hA hE hSR kM_at0 (by decide) rfl (k_X12_numberHere_9 l adK adV dC dI cy ad B (by omega) (by omega) qr s1    w5 H.size hT ) (cwV 2 hC.2.2.2.2 gX12_value_X12_numberHere rfl rfl rfl (by decide +kernel) ⟨Nat.le_of_ble_eq_true rfl, Nat.le_of_ble_eq_true rfl⟩) rfl hl.1 rfl (Nat.le_of_ble_eq_true rfl) dX12_value_25 (fun r432 w434 H locs hp433 hw => ?_)
      obtain ⟨hT, k435, hg448⟩ := hp433
      have hO := OKW_FE k435 (fun _ => rfl) (fun _ => rfl) (fun _ => rfl) (fun _ => rfl) hO
      have hF := hF.tr k435 (by decide)
      have c449 := k435.gi kM_at0 (by decide) c24
      have c450 := k435.gi kM_at0 (by decide) c25
      have c451 := k435.gi kM_at3 rfl c26
      have c452 := k435.gi kM_at0 (by decide) c21
      rcases hg448 with ⟨rfl, ⟨x436, c437, rx436, tx436⟩, ⟨x438, c439, rx438, tx438⟩⟩ | ⟨rfl, ⟨x440, c441, rx440, tx440⟩, ⟨x442, c443, rx442, tx442⟩⟩ | ⟨rfl, ⟨x444, c445, rx444, tx444⟩, ⟨x446, c447, rx446, tx446⟩⟩
      · have ex436 : x436.toInt = x20.toInt := by rw [← c452.symm.trans c437]
        refine lv_if_eq (tgt := 39) hx hb dX12_value_28 (by decide) (fun _ => ?_) (fun c => absurd (by decide) c)
        refine lv_iconst (v := 0) hx hb dX12_value_39 (by decide) ?_
        exact tk_zret hC hr rfl hlocks hK ⟨hT, hF, (Or.inl ⟨rfl, ⟨x20, c452, (show 1 ≤ x20.toInt by omega), (show x20.toInt ≤ 400 by omega)⟩, ⟨x438, c439, (show 1 ≤ x438.toInt by omega), (show x438.toInt ≤ 3205 by omega)⟩, ⟨f0_, c449, (show 0 ≤ f0_.toInt by omega), (show f0_.toInt ≤ 5 by omega)⟩, hO.1⟩)⟩ hw dX12_value_40
      · have ex440 : x440.toInt = x20.toInt := by rw [← c452.symm.trans c441]
        refine lv_if_eq (tgt := 39) hx hb dX12_value_28 (by decide) (fun _ => ?_) (fun c => absurd (by decide) c)
        refine lv_iconst (v := 0) hx hb dX12_value_39 (by decide) ?_
        exact tk_zret hC hr rfl hlocks hK ⟨hT, hF, (Or.inl ⟨rfl, ⟨x20, c452, (show 1 ≤ x20.toInt by omega), (show x20.toInt ≤ 400 by omega)⟩, ⟨x442, c443, (show 1 ≤ x442.toInt by omega), (show x442.toInt ≤ 3205 by omega)⟩, ⟨f0_, c449, (show 0 ≤ f0_.toInt by omega), (show f0_.toInt ≤ 5 by omega)⟩, hO.1⟩)⟩ hw dX12_value_40
      · have ex444 : x444.toInt = x20.toInt := by rw [← c452.symm.trans c445]
        refine lv_if_eq (tgt := 39) hx hb dX12_value_28 (by decide) (fun c => absurd c (by decide)) (fun _ => ?_)
        refine lv_aload_n hx hb dX12_value_31 rfl (lv_at hl 1 rfl) ?_
        refine lv_iload_n hx hb dX12_value_32 rfl (lv_at hl 0 rfl) ?_
        refine tk_Vi hC hK hw hT hA hE hSR kM_at0 (by decide) rfl (k_X12_makes_2 l adK adV dC dI cy ad B (by omega) (by omega) qr s1   x27 (show 0 ≤ x27.toInt by omega) (show x27.toInt ≤ 399 by omega) w434 H.size hT f1_ c450 (show 0 ≤ f1_.toInt by omega) (show f1_.toInt ≤ 60 by omega)) (cwV 1 hC.2.2.2.2 gX12_value_X12_makes rfl rfl rfl (by decide +kernel) ⟨Nat.le_of_ble_eq_true rfl, Nat.le_of_ble_eq_true rfl⟩) rfl hl.1 rfl (Nat.le_of_ble_eq_true rfl) dX12_value_33 (fun r453 w455 H locs hp454 hw => ?_)
        obtain ⟨hT, k456, hg464⟩ := hp454
        have hO := OKW_FE k456 (fun _ => rfl) (fun _ => rfl) (fun _ => rfl) (fun _ => rfl) hO
        have hF := hF.tr k456 (by decide)
        have c465 := k456.gi kM_at0 (by decide) c449
        have c466 := k456.gi kM_at3 rfl c451
        have c467 := k456.gi kM_at0 (by decide) c452
        have c468 := k456.gi kM_at0 (by decide) c447
        rcases hg464 with ⟨rfl, ⟨x457, c458, rx457, tx457⟩, ⟨x459, c460, rx459, tx459⟩⟩ | ⟨rfl, ⟨x461, c462, rx461, tx461⟩, g463⟩
        · refine lv_if_ne (tgt := 41) hx hb dX12_value_36 (by decide) (fun c => absurd (by decide) c) (fun _ => ?_)
          refine lv_iconst (v := 0) hx hb dX12_value_39 (by decide) ?_
          exact tk_zret hC hr rfl hlocks hK ⟨hT, hF, (Or.inl ⟨rfl, ⟨x20, c467, (show 1 ≤ x20.toInt by omega), (show x20.toInt ≤ 400 by omega)⟩, ⟨x457, c458, (show 1 ≤ x457.toInt by omega), (show x457.toInt ≤ 3205 by omega)⟩, ⟨f0_, c465, (show 0 ≤ f0_.toInt by omega), (show f0_.toInt ≤ 5 by omega)⟩, hO.1⟩)⟩ hw dX12_value_40
        · have g463 : x461.toInt = f1_.toInt + 1 := by have q := g463; simp only [c449, c465, c450, c462] at q; omega
          refine lv_if_ne (tgt := 41) hx hb dX12_value_36 (by decide) (fun _ => ?_) (fun c => absurd c (by decide))
          refine lv_aload_n hx hb dX12_value_41 rfl (lv_at hl 1 rfl) ?_
          refine lv_iconst (v := 0) hx hb dX12_value_42 (by decide) ?_
          refine lv_aload_n hx hb dX12_value_43 rfl (lv_at hl 1 rfl) ?_
          refine tk_geti hC hK hw hT hinX12 kM_at0 (by decide) rfl 16 (by decide) (List.mem_of_getElem? (i := 3) rfl) rfl rfl dX12_value_44 (fun x469 c470 rx469 tx469 => ?_)
          refine wk_top x446 (c470.symm.trans c468) ?_
          refine tk_Vv hC hK hw hT hA hE hSR kM_at0 (by decide) rfl (k_X12_puts_1 l adK adV dC dI cy ad B (by omega) (by omega) qr s1   0 (by decide) (by decide) x446 (show 0 ≤ x446.toInt by omega) (show x446.toInt ≤ 99999 by omega) w455 H.size hT f0_ c465 (show 0 ≤ f0_.toInt by omega) (show f0_.toInt ≤ 5 by omega) f2_ c466 (show 0 ≤ f2_.toInt by omega) (show f2_.toInt ≤ 400 by omega) (show f2_.toInt ≤ 399 by omega)) (cwV 2 hC.2.2.2.2 gX12_value_X12_puts rfl rfl rfl (by decide +kernel) ⟨Nat.le_of_ble_eq_true rfl, Nat.le_of_ble_eq_true rfl⟩) rfl hl.1 rfl (Nat.le_of_ble_eq_true rfl) dX12_value_47 (fun w473 H locs hp472 hw => ?_)
          obtain ⟨hT, k474, hg479⟩ := hp472
          have hF := hF.tr k474 (by decide)
          have c480 := k474.gi kM_at0 (by decide) c465
          have c481 := k474.gi kM_at0 (by decide) c467
          have c482 := k474.gi kM_at0 (by decide) c468
          have c483 := k474.gi kM_at0 (by decide) c462
          obtain ⟨⟨x475, c476, rx475, tx475⟩, hq477, g478⟩ := hg479
          have ex475 : x475.toInt = f0_.toInt := by rw [← c480.symm.trans c476]
          obtain ⟨x484, c485, rx484, tx484⟩ := hT.rda (lo := 0) (hi := 400) (i := (f0_.toInt).toNat) kM_at3 rfl rfl (by omega)
          have g478 : x484.toInt = f2_.toInt + 1 := by have q := g478; simp only [c465, c480, c466, c485] at q; omega
          have hO : OKW w473 f0_.toInt gb ((gd) + 1) := OKW_put hO (by have q := hq477; rw [c465] at q; exact q) (by rw [c466]; omega) (fun x hx => by simp only [(show (0 : Int32).toInt = 0 by decide)] at hx; exact okT_num (v := x446.toInt) (by omega) (by omega)) (by omega) (by omega)
          refine lv_iconst (v := 1) hx hb dX12_value_50 (by decide) ?_
          exact tk_zret hC hr rfl hlocks hK ⟨hT, hF, (Or.inr (Or.inr (Or.inl ⟨rfl, ⟨x20, c481, (show 1 ≤ x20.toInt by omega), (show x20.toInt ≤ 400 by omega)⟩, ⟨f0_, c480, (show 0 ≤ f0_.toInt by omega), (show f0_.toInt ≤ 5 by omega)⟩, ⟨x461, c483, (show 1 ≤ x461.toInt by omega), (show x461.toInt ≤ 60 by omega)⟩, (OKW_cast hO (by omega)), (by simp only [c480, cf0_, cf2_, c485]; omega), (by simp only [c480, cf0_, cf1_, c483]; omega)⟩)))⟩ hw dX12_value_51
abbrev P_X12_term_1 (ad : Nat → Nat) (cy : Nat → ClassId) (B : Int) (qr : Nat) (s1 : Int)  (gT gb gd : Int) (w0 : va_W) : Int32 → va_W → Prop := fun r u => TW ksM ad cy B qr 12 u ∧ FE ksM [(12, 14, 14), (12, 15, 15), (12, 16, 16), (12, 18, 18), (61, 0, 2400), (62, 0, 7)] w0 u ∧ ((r = 0 ∧ (∃ y : Int32, gi u 0 1 = y ∧ 1 ≤ y.toInt ∧ y.toInt ≤ 400) ∧ (∃ y : Int32, gi u 0 15 = y ∧ 1 ≤ y.toInt ∧ y.toInt ≤ 3205) ∧ (∃ y : Int32, gi u 0 17 = y ∧ 0 ≤ y.toInt ∧ y.toInt ≤ 5) ∧ RLc u gT) ∨ (r = 0 ∧ (∃ y : Int32, gi u 0 1 = y ∧ 0 ≤ y.toInt ∧ y.toInt ≤ 400) ∧ (∃ y : Int32, gi u 0 15 = y ∧ 1 ≤ y.toInt ∧ y.toInt ≤ 3205) ∧ (∃ y : Int32, gi u 0 17 = y ∧ 0 ≤ y.toInt ∧ y.toInt ≤ 5) ∧ RLc u gT) ∨ (r = 1 ∧ (∃ y : Int32, gi u 0 1 = y ∧ 1 ≤ y.toInt ∧ y.toInt ≤ 400) ∧ (∃ y : Int32, gi u 0 17 = y ∧ 0 ≤ y.toInt ∧ y.toInt ≤ 5) ∧ (∃ y : Int32, gi u 0 18 = y ∧ 1 ≤ y.toInt ∧ y.toInt ≤ 60) ∧ OKW u gT gb (gd + 1) ∧ (3 * (gi u 3 ((gi u 0 17).toInt).toNat).toInt + 11 ≤ 3 * (gi w0 3 ((gi w0 0 17).toInt).toNat).toInt + 14 * ((gi u 0 18).toInt - (gi w0 0 18).toInt)) ∧ ((gi w0 0 18).toInt + 1 ≤ (gi u 0 18).toInt)) ∨ (r = 1 ∧ (∃ y : Int32, gi u 0 1 = y ∧ 0 ≤ y.toInt ∧ y.toInt ≤ 400) ∧ (∃ y : Int32, gi u 0 17 = y ∧ 0 ≤ y.toInt ∧ y.toInt ≤ 5) ∧ (∃ y : Int32, gi u 0 18 = y ∧ 1 ≤ y.toInt ∧ y.toInt ≤ 60) ∧ OKW u gT gb (gd + 1) ∧ (3 * (gi u 3 ((gi u 0 17).toInt).toNat).toInt + 11 ≤ 3 * (gi w0 3 ((gi w0 0 17).toInt).toNat).toInt + 14 * ((gi u 0 18).toInt - (gi w0 0 18).toInt)) ∧ ((gi w0 0 18).toInt + 1 ≤ (gi u 0 18).toInt)))
set_option maxHeartbeats 4000000 in
set_option maxRecDepth 100000 in
theorem k_X12_term_1 (l : Launch) (adK adV : Nat → Nat) (dC : Nat → ClassId) (dI : Nat → Nat → Nat) (cy : Nat → ClassId) (ad : Nat → Nat) (B : Int) (hB0 : 100000 ≤ B) (hB1 : B ≤ 1073741824) (qr : Nat) (s1 : Int)   (w0 : va_W) (sz : Nat) (hT : TW ksM ad cy B qr 12 w0) (f0_ : Int32) (cf0_ : gi w0 0 17 = f0_) (rf0_ : 0 ≤ f0_.toInt) (tf0_ : f0_.toInt ≤ 5) (f1_ : Int32) (cf1_ : gi w0 0 18 = f1_) (rf1_ : 0 ≤ f1_.toInt) (tf1_ : f1_.toInt ≤ 60) (f2_ : Int32) (cf2_ : gi w0 3 (f0_.toInt).toNat = f2_) (rf2_ : 0 ≤ f2_.toInt) (tf2_ : f2_.toInt ≤ 400) (pr0_ : 3 * f2_.toInt ≤ 14 * f1_.toInt + 60) (pr1_ : f2_.toInt ≤ 300) (gb gd : Int) (hgd0 : 0 ≤ gd) (hgd1 : gd ≤ f1_.toInt) (hO : OKW w0 f0_.toInt gb (gd)) : Met l yX12_term wsX12_term ({ frames := 5, cells := 0, slots := 0, locals := 100 }) (va_Pc [.ref (ad 0)] (wpreS adK adV dC dI cy sz w0)) (va_Qi (P_X12_term_1 ad cy B qr s1  f0_.toInt gb gd w0) (fun u : va_W => wpost dC dI cy (va_A w0 sz) u) (va_A w0 sz)) 0 0 (va_A w0 sz) := by
  refine Met.ofW (cc := cX12_term) (maxL := 2) (ret := (some .boolean)) (by decide) rfl ?_
  intro p e s m args below meth c s₁ Bk hml hv
  obtain ⟨rfl, ⟨hsz, hP, hK, hD0⟩, hE, hSR⟩ := hv
  have hx := Bk.exec
  have hb := Bk.bytes
  have hr := Bk.returns
  have hlocks := Bk.notSynchronized
  have hC : CallFix p m c cX12_term 2 s _ wsX12_term RX12 := ⟨hx, hb, hml, findClass_of_methodNamed Bk.named, atoms_spec (ws := wsX12_term) Bk.pre⟩
  subst hsz
  have hD := hD0.self (sz := s.heap.size)
  generalize hAe : va_A w0 s.heap.size = A at hD hE ⊢
  have hA : ∀ q : Nat, s.heap.size ≤ q → A q := fun q h => by rw [← hAe]; exact Or.inr h
  have hw : Wd dC dI A s.heap s.heap [] w0 := ⟨hP, hD, va_S.rf⟩
  have hF : FE ksM [(12, 14, 14), (12, 15, 15), (12, 16, 16), (12, 18, 18), (61, 0, 2400), (62, 0, 7)] w0 w0 := FE.rf
  have hl := lv_entry ([.ref (ad 0)]) (n := 2) (Nat.le_of_ble_eq_true rfl)
  rw [lg_entry_eq]
  generalize (lg_sl ([.ref (ad 0)]) ++ List.replicate (2 - (lg_sl ([.ref (ad 0)])).length) Slot.unset).toArray = ls at hl ⊢
  have hl : lv_has ls 2 [(0, .ref (ad 0))] := hl
  generalize hloc : ([] : List Loc) = locs at hw ⊢
  have hinX12 : ∀ w ∈ u_ws RX12 TX12 42, w ∈ wsX12_term := fun _ h => List.mem_cons_of_mem _ (List.mem_append_right _ (h))
  have L9 : ∀ (n9 : Nat) (f9_0_1 : Int32) (f9_0_18 : Int32) (f9_3__f0__toInt_toNat : Int32) (H : Heap) (locs : List Loc) (ls : Array Slot) (w1 : va_W), 0 ≤ f9_0_1.toInt → f9_0_1.toInt ≤ 400 → 0 ≤ f0_.toInt → f0_.toInt ≤ 5 → 1 ≤ f9_0_18.toInt → f9_0_18.toInt ≤ 60 → 0 ≤ f9_3__f0__toInt_toNat.toInt → f9_3__f0__toInt_toNat.toInt ≤ 300 → (3 * f9_3__f0__toInt_toNat.toInt + 11 ≤ 3 * f2_.toInt + 14 * (f9_0_18.toInt - f1_.toInt)) → (f1_.toInt + 1 ≤ f9_0_18.toInt) → (f9_3__f0__toInt_toNat.toInt ≤ 300) → (60 - f9_0_18.toInt).toNat < n9 → Wd dC dI A s.heap H locs w1 → TW ksM ad cy B qr 12 w1 → FE ksM [(12, 14, 14), (12, 15, 15), (12, 16, 16), (12, 18, 18), (61, 0, 2400), (62, 0, 7)] w0 w1 → OKW w1 f0_.toInt gb (gd + 1) → gi w1 0 1 = f9_0_1 → gi w1 0 17 = f0_ → gi w1 0 18 = f9_0_18 → gi w1 3 (f0_.toInt).toNat = f9_3__f0__toInt_toNat → lv_has ls 2 [(0, .ref (ad 0))] → W p l e ({ frames := 5, cells := 0, slots := 0, locals := 100 }) s m (List.toArray [.ref (ad 0)]) below meth c H locs 0 0 (MQ below (va_Qi (P_X12_term_1 ad cy B qr s1  f0_.toInt gb gd w0) (fun u : va_W => wpost dC dI cy A u) A) (List.toArray [.ref (ad 0)]) s 0 0 A) (F0 m 9 ls []) := by
    intro n9
    induction n9 with
    | zero => intro f9_0_1 f9_0_18 f9_3__f0__toInt_toNat H locs ls w1 r2 t3 r5 t6 r8 t9 r11 t12 hcr9_0 hcr9_1 hcr9_2 hm9 hw hT hF hO c4 c7 c10 c13 hl; omega
    | succ n9 ih9 =>
      intro f9_0_1 f9_0_18 f9_3__f0__toInt_toNat H locs ls w1 r2 t3 r5 t6 r8 t9 r11 t12 hcr9_0 hcr9_1 hcr9_2 hm9 hw hT hF hO c4 c7 c10 c13 hl
      have J27 : ∀ (f27_0_14 : Int32) (H : Heap) (locs : List Loc) (ls : Array Slot) (w14 : va_W), 1 ≤ f9_0_1.toInt → f9_0_1.toInt ≤ 400 → 0 ≤ f27_0_14.toInt → f27_0_14.toInt ≤ 399 → 0 ≤ f0_.toInt → f0_.toInt ≤ 5 → 1 ≤ f9_0_18.toInt → f9_0_18.toInt ≤ 60 → 0 ≤ f9_3__f0__toInt_toNat.toInt → f9_3__f0__toInt_toNat.toInt ≤ 300 → (3 * f9_3__f0__toInt_toNat.toInt + 11 ≤ 3 * f2_.toInt + 14 * (f9_0_18.toInt - f1_.toInt)) → (f1_.toInt + 1 ≤ f9_0_18.toInt) → (f9_3__f0__toInt_toNat.toInt ≤ 300) → Wd dC dI A s.heap H locs w14 → TW ksM ad cy B qr 12 w14 → FE ksM [(12, 14, 14), (12, 15, 15), (12, 16, 16), (12, 18, 18), (61, 0, 2400), (62, 0, 7)] w0 w14 → OKW w14 f0_.toInt gb (gd + 1) → gi w14 0 1 = f9_0_1 → gi w14 0 14 = f27_0_14 → gi w14 0 17 = f0_ → gi w14 0 18 = f9_0_18 → gi w14 3 (f0_.toInt).toNat = f9_3__f0__toInt_toNat → lv_has ls 2 [(0, .ref (ad 0))] → W p l e ({ frames := 5, cells := 0, slots := 0, locals := 100 }) s m (List.toArray [.ref (ad 0)]) below meth c H locs 0 0 (MQ below (va_Qi (P_X12_term_1 ad cy B qr s1  f0_.toInt gb gd w0) (fun u : va_W => wpost dC dI cy A u) A) (List.toArray [.ref (ad 0)]) s 0 0 A) (F0 m 27 ls []) := by
        intro f27_0_14 H locs ls w14 r15 t16 r18 t19 r21 t22 r24 t25 r27 t28 hcr27_0 hcr27_1 hcr27_2 hw hT hF hO c17 c20 c23 c26 c29 hl
        refine lv_aload_n hx hb dX12_term_27 rfl (lv_at hl 0 rfl) ?_
        refine tk_getA hC hK hw hT hinX12 kM_at0 (by decide) rfl 0 (by decide) (List.mem_of_getElem? (i := 1) rfl) rfl rfl dX12_term_28 ?_
        refine lv_aload_n hx hb dX12_term_31 rfl (lv_at hl 0 rfl) ?_
        refine tk_geti hC hK hw hT hinX12 kM_at0 (by decide) rfl 14 (by decide) (List.mem_of_getElem? (i := 2) rfl) rfl rfl dX12_term_32 (fun x30 c31 rx30 tx30 => ?_)
        refine wk_top f27_0_14 (c31.symm.trans c20) ?_
        refine tk_bald hC hK hw hT kM_at1 rfl rfl (show 0 ≤ f27_0_14.toInt by omega) (show f27_0_14.toInt < 400 by omega) dX12_term_35 (fun x32 c33 rx32 tx32 => ?_)
        have c33 : gi w14 1 (f27_0_14.toInt).toNat = x32 := (congrArg (gi w14 1) (congrArg Int.toNat (show f27_0_14.toInt = f27_0_14.toInt by omega))).trans c33
        refine lv_bipush (v := 42) hx hb dX12_term_36 (by decide) ?_
        refine lv_icmp_ne (tgt := 45) hx hb dX12_term_38 (by decide) (fun c34 => ?_) (fun c34 => ?_)
        · have c34 : ¬ x32.toInt = (42 : Int) := wk_eqF c34
          refine lv_iconst (v := 5) hx hb dX12_term_45 (by decide) ?_
          refine lv_istore_n (lv' := [(1, .int 5), (0, .ref (ad 0))]) hx hb dX12_term_46 rfl hl (by decide) rfl (fun ls hl => ?_)
          refine lv_aload_n hx hb dX12_term_47 rfl (lv_at hl 1 rfl) ?_
          refine lv_dup hx hb dX12_term_48 rfl ?_
          refine tk_geti hC hK hw hT hinX12 kM_at0 (by decide) rfl 14 (by decide) (List.mem_of_getElem? (i := 2) rfl) rfl rfl dX12_term_49 (fun x35 c36 rx35 tx35 => ?_)
          refine wk_top f27_0_14 (c36.symm.trans c20) ?_
          refine lv_iconst (v := 1) hx hb dX12_term_52 (by decide) ?_
          refine lv_iadd hx hb dX12_term_53 ?_
          refine lv_topi (fun x37 ex37 => ?_)
          have ex37 : x37.toInt = f27_0_14.toInt + (1 : Int) := by rw [ex37]; exact wk_add (show (-2147483648) ≤ f27_0_14.toInt + (1 : Int) by omega) (show f27_0_14.toInt + (1 : Int) ≤ 2147483647 by omega)
          refine tk_puti hC hK hw hT hinX12 tyX12_ok nmX12 kM_at0 (by decide) rfl rfl 14 (by decide) (List.mem_of_getElem? (i := 2) rfl) rfl rfl rfl rfl (show 0 ≤ x37.toInt by omega) (show x37.toInt ≤ 400 by omega) dX12_term_54 (fun H locs w38 hw hT k40 c39 => ?_)
          have hO := OKW_F1 k40 (by decide) (by decide) (by decide) (by decide) hO
          have hF := hF.put kM_at0 (k := 14) (by decide) k40
          have c41 := k40.gi (Or.inr (by decide)) c17
          have c42 := k40.gi (Or.inr (by decide)) c23
          have c43 := k40.gi (Or.inr (by decide)) c26
          have c44 := k40.gi (Or.inl (tk_ne kM_at3 kM_at0 (by decide))) c29
          have c45 := k40.gi (Or.inl (tk_ne kM_at1 kM_at0 (by decide))) c33
          refine lv_aload_n hx hb dX12_term_57 rfl (lv_at hl 1 rfl) ?_
          refine tk_Vi hC hK hw hT hA hE hSR kM_at0 (by decide) rfl (k_X12_value_1 l adK adV dC dI cy ad B (by omega) (by omega) qr s1    w38 H.size hT f0_ c42 (show 0 ≤ f0_.toInt by omega) (show f0_.toInt ≤ 5 by omega) f9_0_18 c43 (show 0 ≤ f9_0_18.toInt by omega) (show f9_0_18.toInt ≤ 60 by omega) f9_3__f0__toInt_toNat c44 (show 0 ≤ f9_3__f0__toInt_toNat.toInt by omega) (show f9_3__f0__toInt_toNat.toInt ≤ 400 by omega) (show f9_3__f0__toInt_toNat.toInt ≤ 399 by omega) gb (gd + 1) (by omega) (by omega) (OKW_cast hO (show gd + 1 = gd + 1 by omega))) (cwV 0 hC.2.2.2.2 gX12_term_X12_value rfl rfl rfl (by decide +kernel) ⟨Nat.le_of_ble_eq_true rfl, Nat.le_of_ble_eq_true rfl⟩) rfl hl.1 rfl (Nat.le_of_ble_eq_true rfl) dX12_term_58 (fun r46 w48 H locs hp47 hw => ?_)
          obtain ⟨hT, k49, hg82⟩ := hp47
          have hF := hF.tr k49 (by decide)
          have c83 := k49.gi kM_at0 (by decide) c41
          have c84 := k49.gi kM_at0 (by decide) c42
          have c85 := k49.gi kM_at1 rfl c45
          rcases hg82 with ⟨rfl, ⟨x50, c51, rx50, tx50⟩, ⟨x52, c53, rx52, tx52⟩, ⟨x54, c55, rx54, tx54⟩, hq56⟩ | ⟨rfl, ⟨x57, c58, rx57, tx57⟩, ⟨x59, c60, rx59, tx59⟩, ⟨x61, c62, rx61, tx61⟩, hq63⟩ | ⟨rfl, ⟨x64, c65, rx64, tx64⟩, ⟨x66, c67, rx66, tx66⟩, ⟨x68, c69, rx68, tx68⟩, hq70, g71, g72⟩ | ⟨rfl, ⟨x73, c74, rx73, tx73⟩, ⟨x75, c76, rx75, tx75⟩, ⟨x77, c78, rx77, tx77⟩, hq79, g80, g81⟩
          · have ex50 : x50.toInt = f9_0_1.toInt := by rw [← c83.symm.trans c51]
            have ex54 : x54.toInt = f0_.toInt := by rw [← c84.symm.trans c55]
            obtain ⟨x86, c87, rx86, tx86⟩ := hT.rda (lo := 0) (hi := 400) (i := (f0_.toInt).toNat) kM_at3 rfl rfl (by omega)
            obtain ⟨x88, c89, rx88, tx88⟩ := hT.rdi (lo := 0) (hi := 60) (k := 18) kM_at0 (by decide) rfl
            have hR := hq56
            refine lv_if_ne (tgt := 66) hx hb dX12_term_61 (by decide) (fun c => absurd (by decide) c) (fun _ => ?_)
            refine lv_iconst (v := 0) hx hb dX12_term_64 (by decide) ?_
            exact tk_zret hC hr rfl hlocks hK ⟨hT, hF, (Or.inl ⟨rfl, ⟨f9_0_1, c83, (show 1 ≤ f9_0_1.toInt by omega), (show f9_0_1.toInt ≤ 400 by omega)⟩, ⟨x52, c53, (show 1 ≤ x52.toInt by omega), (show x52.toInt ≤ 3205 by omega)⟩, ⟨f0_, c84, (show 0 ≤ f0_.toInt by omega), (show f0_.toInt ≤ 5 by omega)⟩, hR⟩)⟩ hw dX12_term_65
          · have ex57 : x57.toInt = f9_0_1.toInt := by rw [← c83.symm.trans c58]
            have ex61 : x61.toInt = f0_.toInt := by rw [← c84.symm.trans c62]
            obtain ⟨x90, c91, rx90, tx90⟩ := hT.rda (lo := 0) (hi := 400) (i := (f0_.toInt).toNat) kM_at3 rfl rfl (by omega)
            obtain ⟨x92, c93, rx92, tx92⟩ := hT.rdi (lo := 0) (hi := 60) (k := 18) kM_at0 (by decide) rfl
            have hR := hq63
            refine lv_if_ne (tgt := 66) hx hb dX12_term_61 (by decide) (fun c => absurd (by decide) c) (fun _ => ?_)
            refine lv_iconst (v := 0) hx hb dX12_term_64 (by decide) ?_
            exact tk_zret hC hr rfl hlocks hK ⟨hT, hF, (Or.inl ⟨rfl, ⟨f9_0_1, c83, (show 1 ≤ f9_0_1.toInt by omega), (show f9_0_1.toInt ≤ 400 by omega)⟩, ⟨x59, c60, (show 1 ≤ x59.toInt by omega), (show x59.toInt ≤ 3205 by omega)⟩, ⟨f0_, c84, (show 0 ≤ f0_.toInt by omega), (show f0_.toInt ≤ 5 by omega)⟩, hR⟩)⟩ hw dX12_term_65
          · have ex64 : x64.toInt = f9_0_1.toInt := by rw [← c83.symm.trans c65]
            have ex66 : x66.toInt = f0_.toInt := by rw [← c84.symm.trans c67]
            obtain ⟨x94, c95, rx94, tx94⟩ := hT.rda (lo := 0) (hi := 400) (i := (f0_.toInt).toNat) kM_at3 rfl rfl (by omega)
            have g71 : x94.toInt = f9_3__f0__toInt_toNat.toInt + 1 := by have q := g71; simp only [c42, c84, c44, c95] at q; omega
            have g72 : x68.toInt = f9_0_18.toInt + 1 := by have q := g72; simp only [c42, c84, c43, c69] at q; omega
            have hO : OKW w48 f0_.toInt gb ((gd + 1) + 1) := by have q := hq70; exact OKW_cast q (by omega)
            refine lv_if_ne (tgt := 66) hx hb dX12_term_61 (by decide) (fun _ => ?_) (fun c => absurd c (by decide))
            refine lv_aload_n hx hb dX12_term_66 rfl (lv_at hl 1 rfl) ?_
            refine lv_iload_n hx hb dX12_term_67 rfl (lv_at hl 0 rfl) ?_
            refine lv_iconst (v := 0) hx hb dX12_term_68 (by decide) ?_
            refine tk_Vv hC hK hw hT hA hE hSR kM_at0 (by decide) rfl (k_X12_puts_1 l adK adV dC dI cy ad B (by omega) (by omega) qr s1   5 (by decide) (by decide) 0 (by decide) (by decide) w48 H.size hT f0_ c84 (show 0 ≤ f0_.toInt by omega) (show f0_.toInt ≤ 5 by omega) x94 c95 (show 0 ≤ x94.toInt by omega) (show x94.toInt ≤ 400 by omega) (show x94.toInt ≤ 399 by omega)) (cwV 2 hC.2.2.2.2 gX12_term_X12_puts rfl rfl rfl (by decide +kernel) ⟨Nat.le_of_ble_eq_true rfl, Nat.le_of_ble_eq_true rfl⟩) rfl hl.1 rfl (Nat.le_of_ble_eq_true rfl) dX12_term_69 (fun w100 H locs hp99 hw => ?_)
            obtain ⟨hT, k101, hg106⟩ := hp99
            have hF := hF.tr k101 (by decide)
            have c107 := k101.gi kM_at0 (by decide) c83
            have c108 := k101.gi kM_at0 (by decide) c84
            have c109 := k101.gi kM_at1 rfl c85
            have c110 := k101.gi kM_at0 (by decide) c69
            obtain ⟨⟨x102, c103, rx102, tx102⟩, hq104, g105⟩ := hg106
            have ex102 : x102.toInt = f0_.toInt := by rw [← c108.symm.trans c103]
            obtain ⟨x111, c112, rx111, tx111⟩ := hT.rda (lo := 0) (hi := 400) (i := (f0_.toInt).toNat) kM_at3 rfl rfl (by omega)
            have g105 : x111.toInt = x94.toInt + 1 := by have q := g105; simp only [c84, c108, c95, c112] at q; omega
            have hO : OKW w100 f0_.toInt gb (((gd + 1) + 1) - 1) := OKW_put hO (by have q := hq104; rw [c84] at q; exact q) (by rw [c95]; omega) (fun x hx => by simp only [(show (5 : Int32).toInt = 5 by decide), (show (0 : Int32).toInt = 0 by decide)] at hx; exact okT_bin (by omega) (by omega) (by omega) (by omega)) (by omega) (by omega)
            refine lv_goto (tgt := 9) hx hb dX12_term_72 (by decide) ?_
            exact ih9 f9_0_1 x68 x111 H locs ls w100 (show 0 ≤ f9_0_1.toInt by omega) (show f9_0_1.toInt ≤ 400 by omega) (show 0 ≤ f0_.toInt by omega) (show f0_.toInt ≤ 5 by omega) (show 1 ≤ x68.toInt by omega) (show x68.toInt ≤ 60 by omega) (show 0 ≤ x111.toInt by omega) (show x111.toInt ≤ 300 by omega) (show 3 * x111.toInt + 11 ≤ 3 * f2_.toInt + 14 * (x68.toInt - f1_.toInt) by omega) (show f1_.toInt + 1 ≤ x68.toInt by omega) (show x111.toInt ≤ 300 by omega) (show (60 - x68.toInt).toNat < n9 by omega) hw hT hF (OKW_cast hO (show ((gd + 1) + 1) - 1 = gd + 1 by omega)) c107 c108 c110 c112 (lv_sub hl [1] rfl)
          · have ex73 : x73.toInt = f9_0_1.toInt := by rw [← c83.symm.trans c74]
            have ex75 : x75.toInt = f0_.toInt := by rw [← c84.symm.trans c76]
            obtain ⟨x96, c97, rx96, tx96⟩ := hT.rda (lo := 0) (hi := 400) (i := (f0_.toInt).toNat) kM_at3 rfl rfl (by omega)
            have g80 : x96.toInt = f9_3__f0__toInt_toNat.toInt + 1 := by have q := g80; simp only [c42, c84, c44, c97] at q; omega
            have g81 : x77.toInt = f9_0_18.toInt + 1 := by have q := g81; simp only [c42, c84, c43, c78] at q; omega
            have hO : OKW w48 f0_.toInt gb ((gd + 1) + 1) := by have q := hq79; exact OKW_cast q (by omega)
            refine lv_if_ne (tgt := 66) hx hb dX12_term_61 (by decide) (fun _ => ?_) (fun c => absurd c (by decide))
            refine lv_aload_n hx hb dX12_term_66 rfl (lv_at hl 1 rfl) ?_
            refine lv_iload_n hx hb dX12_term_67 rfl (lv_at hl 0 rfl) ?_
            refine lv_iconst (v := 0) hx hb dX12_term_68 (by decide) ?_
            refine tk_Vv hC hK hw hT hA hE hSR kM_at0 (by decide) rfl (k_X12_puts_1 l adK adV dC dI cy ad B (by omega) (by omega) qr s1   5 (by decide) (by decide) 0 (by decide) (by decide) w48 H.size hT f0_ c84 (show 0 ≤ f0_.toInt by omega) (show f0_.toInt ≤ 5 by omega) x96 c97 (show 0 ≤ x96.toInt by omega) (show x96.toInt ≤ 400 by omega) (show x96.toInt ≤ 399 by omega)) (cwV 2 hC.2.2.2.2 gX12_term_X12_puts rfl rfl rfl (by decide +kernel) ⟨Nat.le_of_ble_eq_true rfl, Nat.le_of_ble_eq_true rfl⟩) rfl hl.1 rfl (Nat.le_of_ble_eq_true rfl) dX12_term_69 (fun w115 H locs hp114 hw => ?_)
            obtain ⟨hT, k116, hg121⟩ := hp114
            have hF := hF.tr k116 (by decide)
            have c122 := k116.gi kM_at0 (by decide) c83
            have c123 := k116.gi kM_at0 (by decide) c84
            have c124 := k116.gi kM_at1 rfl c85
            have c125 := k116.gi kM_at0 (by decide) c78
            obtain ⟨⟨x117, c118, rx117, tx117⟩, hq119, g120⟩ := hg121
            have ex117 : x117.toInt = f0_.toInt := by rw [← c123.symm.trans c118]
            obtain ⟨x126, c127, rx126, tx126⟩ := hT.rda (lo := 0) (hi := 400) (i := (f0_.toInt).toNat) kM_at3 rfl rfl (by omega)
            have g120 : x126.toInt = x96.toInt + 1 := by have q := g120; simp only [c84, c123, c97, c127] at q; omega
            have hO : OKW w115 f0_.toInt gb (((gd + 1) + 1) - 1) := OKW_put hO (by have q := hq119; rw [c84] at q; exact q) (by rw [c97]; omega) (fun x hx => by simp only [(show (5 : Int32).toInt = 5 by decide), (show (0 : Int32).toInt = 0 by decide)] at hx; exact okT_bin (by omega) (by omega) (by omega) (by omega)) (by omega) (by omega)
            refine lv_goto (tgt := 9) hx hb dX12_term_72 (by decide) ?_
            exact ih9 f9_0_1 x77 x126 H locs ls w115 (show 0 ≤ f9_0_1.toInt by omega) (show f9_0_1.toInt ≤ 400 by omega) (show 0 ≤ f0_.toInt by omega) (show f0_.toInt ≤ 5 by omega) (show 1 ≤ x77.toInt by omega) (show x77.toInt ≤ 60 by omega) (show 0 ≤ x126.toInt by omega) (show x126.toInt ≤ 300 by omega) (show 3 * x126.toInt + 11 ≤ 3 * f2_.toInt + 14 * (x77.toInt - f1_.toInt) by omega) (show f1_.toInt + 1 ≤ x77.toInt by omega) (show x126.toInt ≤ 300 by omega) (show (60 - x77.toInt).toNat < n9 by omega) hw hT hF (OKW_cast hO (show ((gd + 1) + 1) - 1 = gd + 1 by omega)) c122 c123 c125 c127 (lv_sub hl [1] rfl)
        · have c34 : x32.toInt = (42 : Int) := wk_eq.mp c34
          refine lv_iconst (v := 4) hx hb dX12_term_41 (by decide) ?_
          refine lv_goto (tgt := 46) hx hb dX12_term_42 (by decide) ?_
          refine lv_istore_n (lv' := [(1, .int 4), (0, .ref (ad 0))]) hx hb dX12_term_46 rfl hl (by decide) rfl (fun ls hl => ?_)
          refine lv_aload_n hx hb dX12_term_47 rfl (lv_at hl 1 rfl) ?_
          refine lv_dup hx hb dX12_term_48 rfl ?_
          refine tk_geti hC hK hw hT hinX12 kM_at0 (by decide) rfl 14 (by decide) (List.mem_of_getElem? (i := 2) rfl) rfl rfl dX12_term_49 (fun x128 c129 rx128 tx128 => ?_)
          refine wk_top f27_0_14 (c129.symm.trans c20) ?_
          refine lv_iconst (v := 1) hx hb dX12_term_52 (by decide) ?_
          refine lv_iadd hx hb dX12_term_53 ?_
          refine lv_topi (fun x130 ex130 => ?_)
          have ex130 : x130.toInt = f27_0_14.toInt + (1 : Int) := by rw [ex130]; exact wk_add (show (-2147483648) ≤ f27_0_14.toInt + (1 : Int) by omega) (show f27_0_14.toInt + (1 : Int) ≤ 2147483647 by omega)
          refine tk_puti hC hK hw hT hinX12 tyX12_ok nmX12 kM_at0 (by decide) rfl rfl 14 (by decide) (List.mem_of_getElem? (i := 2) rfl) rfl rfl rfl rfl (show 0 ≤ x130.toInt by omega) (show x130.toInt ≤ 400 by omega) dX12_term_54 (fun H locs w131 hw hT k133 c132 => ?_)
          have hO := OKW_F1 k133 (by decide) (by decide) (by decide) (by decide) hO
          have hF := hF.put kM_at0 (k := 14) (by decide) k133
          have c134 := k133.gi (Or.inr (by decide)) c17
          have c135 := k133.gi (Or.inr (by decide)) c23
          have c136 := k133.gi (Or.inr (by decide)) c26
          have c137 := k133.gi (Or.inl (tk_ne kM_at3 kM_at0 (by decide))) c29
          have c138 := k133.gi (Or.inl (tk_ne kM_at1 kM_at0 (by decide))) c33
          refine lv_aload_n hx hb dX12_term_57 rfl (lv_at hl 1 rfl) ?_
          refine tk_Vi hC hK hw hT hA hE hSR kM_at0 (by decide) rfl (k_X12_value_1 l adK adV dC dI cy ad B (by omega) (by omega) qr s1    w131 H.size hT f0_ c135 (show 0 ≤ f0_.toInt by omega) (show f0_.toInt ≤ 5 by omega) f9_0_18 c136 (show 0 ≤ f9_0_18.toInt by omega) (show f9_0_18.toInt ≤ 60 by omega) f9_3__f0__toInt_toNat c137 (show 0 ≤ f9_3__f0__toInt_toNat.toInt by omega) (show f9_3__f0__toInt_toNat.toInt ≤ 400 by omega) (show f9_3__f0__toInt_toNat.toInt ≤ 399 by omega) gb (gd + 1) (by omega) (by omega) (OKW_cast hO (show gd + 1 = gd + 1 by omega))) (cwV 0 hC.2.2.2.2 gX12_term_X12_value rfl rfl rfl (by decide +kernel) ⟨Nat.le_of_ble_eq_true rfl, Nat.le_of_ble_eq_true rfl⟩) rfl hl.1 rfl (Nat.le_of_ble_eq_true rfl) dX12_term_58 (fun r139 w141 H locs hp140 hw => ?_)
          obtain ⟨hT, k142, hg175⟩ := hp140
          have hF := hF.tr k142 (by decide)
          have c176 := k142.gi kM_at0 (by decide) c134
          have c177 := k142.gi kM_at0 (by decide) c135
          have c178 := k142.gi kM_at1 rfl c138
          rcases hg175 with ⟨rfl, ⟨x143, c144, rx143, tx143⟩, ⟨x145, c146, rx145, tx145⟩, ⟨x147, c148, rx147, tx147⟩, hq149⟩ | ⟨rfl, ⟨x150, c151, rx150, tx150⟩, ⟨x152, c153, rx152, tx152⟩, ⟨x154, c155, rx154, tx154⟩, hq156⟩ | ⟨rfl, ⟨x157, c158, rx157, tx157⟩, ⟨x159, c160, rx159, tx159⟩, ⟨x161, c162, rx161, tx161⟩, hq163, g164, g165⟩ | ⟨rfl, ⟨x166, c167, rx166, tx166⟩, ⟨x168, c169, rx168, tx168⟩, ⟨x170, c171, rx170, tx170⟩, hq172, g173, g174⟩
          · have ex143 : x143.toInt = f9_0_1.toInt := by rw [← c176.symm.trans c144]
            have ex147 : x147.toInt = f0_.toInt := by rw [← c177.symm.trans c148]
            obtain ⟨x179, c180, rx179, tx179⟩ := hT.rda (lo := 0) (hi := 400) (i := (f0_.toInt).toNat) kM_at3 rfl rfl (by omega)
            obtain ⟨x181, c182, rx181, tx181⟩ := hT.rdi (lo := 0) (hi := 60) (k := 18) kM_at0 (by decide) rfl
            have hR := hq149
            refine lv_if_ne (tgt := 66) hx hb dX12_term_61 (by decide) (fun c => absurd (by decide) c) (fun _ => ?_)
            refine lv_iconst (v := 0) hx hb dX12_term_64 (by decide) ?_
            exact tk_zret hC hr rfl hlocks hK ⟨hT, hF, (Or.inl ⟨rfl, ⟨f9_0_1, c176, (show 1 ≤ f9_0_1.toInt by omega), (show f9_0_1.toInt ≤ 400 by omega)⟩, ⟨x145, c146, (show 1 ≤ x145.toInt by omega), (show x145.toInt ≤ 3205 by omega)⟩, ⟨f0_, c177, (show 0 ≤ f0_.toInt by omega), (show f0_.toInt ≤ 5 by omega)⟩, hR⟩)⟩ hw dX12_term_65
          · have ex150 : x150.toInt = f9_0_1.toInt := by rw [← c176.symm.trans c151]
            have ex154 : x154.toInt = f0_.toInt := by rw [← c177.symm.trans c155]
            obtain ⟨x183, c184, rx183, tx183⟩ := hT.rda (lo := 0) (hi := 400) (i := (f0_.toInt).toNat) kM_at3 rfl rfl (by omega)
            obtain ⟨x185, c186, rx185, tx185⟩ := hT.rdi (lo := 0) (hi := 60) (k := 18) kM_at0 (by decide) rfl
            have hR := hq156
            refine lv_if_ne (tgt := 66) hx hb dX12_term_61 (by decide) (fun c => absurd (by decide) c) (fun _ => ?_)
            refine lv_iconst (v := 0) hx hb dX12_term_64 (by decide) ?_
            exact tk_zret hC hr rfl hlocks hK ⟨hT, hF, (Or.inl ⟨rfl, ⟨f9_0_1, c176, (show 1 ≤ f9_0_1.toInt by omega), (show f9_0_1.toInt ≤ 400 by omega)⟩, ⟨x152, c153, (show 1 ≤ x152.toInt by omega), (show x152.toInt ≤ 3205 by omega)⟩, ⟨f0_, c177, (show 0 ≤ f0_.toInt by omega), (show f0_.toInt ≤ 5 by omega)⟩, hR⟩)⟩ hw dX12_term_65
          · have ex157 : x157.toInt = f9_0_1.toInt := by rw [← c176.symm.trans c158]
            have ex159 : x159.toInt = f0_.toInt := by rw [← c177.symm.trans c160]
            obtain ⟨x187, c188, rx187, tx187⟩ := hT.rda (lo := 0) (hi := 400) (i := (f0_.toInt).toNat) kM_at3 rfl rfl (by omega)
            have g164 : x187.toInt = f9_3__f0__toInt_toNat.toInt + 1 := by have q := g164; simp only [c135, c177, c137, c188] at q; omega
            have g165 : x161.toInt = f9_0_18.toInt + 1 := by have q := g165; simp only [c135, c177, c136, c162] at q; omega
            have hO : OKW w141 f0_.toInt gb ((gd + 1) + 1) := by have q := hq163; exact OKW_cast q (by omega)
            refine lv_if_ne (tgt := 66) hx hb dX12_term_61 (by decide) (fun _ => ?_) (fun c => absurd c (by decide))
            refine lv_aload_n hx hb dX12_term_66 rfl (lv_at hl 1 rfl) ?_
            refine lv_iload_n hx hb dX12_term_67 rfl (lv_at hl 0 rfl) ?_
            refine lv_iconst (v := 0) hx hb dX12_term_68 (by decide) ?_
            refine tk_Vv hC hK hw hT hA hE hSR kM_at0 (by decide) rfl (k_X12_puts_1 l adK adV dC dI cy ad B (by omega) (by omega) qr s1   4 (by decide) (by decide) 0 (by decide) (by decide) w141 H.size hT f0_ c177 (show 0 ≤ f0_.toInt by omega) (show f0_.toInt ≤ 5 by omega) x187 c188 (show 0 ≤ x187.toInt by omega) (show x187.toInt ≤ 400 by omega) (show x187.toInt ≤ 399 by omega)) (cwV 2 hC.2.2.2.2 gX12_term_X12_puts rfl rfl rfl (by decide +kernel) ⟨Nat.le_of_ble_eq_true rfl, Nat.le_of_ble_eq_true rfl⟩) rfl hl.1 rfl (Nat.le_of_ble_eq_true rfl) dX12_term_69 (fun w193 H locs hp192 hw => ?_)
            obtain ⟨hT, k194, hg199⟩ := hp192
            have hF := hF.tr k194 (by decide)
            have c200 := k194.gi kM_at0 (by decide) c176
            have c201 := k194.gi kM_at0 (by decide) c177
            have c202 := k194.gi kM_at1 rfl c178
            have c203 := k194.gi kM_at0 (by decide) c162
            obtain ⟨⟨x195, c196, rx195, tx195⟩, hq197, g198⟩ := hg199
            have ex195 : x195.toInt = f0_.toInt := by rw [← c201.symm.trans c196]
            obtain ⟨x204, c205, rx204, tx204⟩ := hT.rda (lo := 0) (hi := 400) (i := (f0_.toInt).toNat) kM_at3 rfl rfl (by omega)
            have g198 : x204.toInt = x187.toInt + 1 := by have q := g198; simp only [c177, c201, c188, c205] at q; omega
            have hO : OKW w193 f0_.toInt gb (((gd + 1) + 1) - 1) := OKW_put hO (by have q := hq197; rw [c177] at q; exact q) (by rw [c188]; omega) (fun x hx => by simp only [(show (4 : Int32).toInt = 4 by decide), (show (0 : Int32).toInt = 0 by decide)] at hx; exact okT_bin (by omega) (by omega) (by omega) (by omega)) (by omega) (by omega)
            refine lv_goto (tgt := 9) hx hb dX12_term_72 (by decide) ?_
            exact ih9 f9_0_1 x161 x204 H locs ls w193 (show 0 ≤ f9_0_1.toInt by omega) (show f9_0_1.toInt ≤ 400 by omega) (show 0 ≤ f0_.toInt by omega) (show f0_.toInt ≤ 5 by omega) (show 1 ≤ x161.toInt by omega) (show x161.toInt ≤ 60 by omega) (show 0 ≤ x204.toInt by omega) (show x204.toInt ≤ 300 by omega) (show 3 * x204.toInt + 11 ≤ 3 * f2_.toInt + 14 * (x161.toInt - f1_.toInt) by omega) (show f1_.toInt + 1 ≤ x161.toInt by omega) (show x204.toInt ≤ 300 by omega) (show (60 - x161.toInt).toNat < n9 by omega) hw hT hF (OKW_cast hO (show ((gd + 1) + 1) - 1 = gd + 1 by omega)) c200 c201 c203 c205 (lv_sub hl [1] rfl)
          · have ex166 : x166.toInt = f9_0_1.toInt := by rw [← c176.symm.trans c167]
            have ex168 : x168.toInt = f0_.toInt := by rw [← c177.symm.trans c169]
            obtain ⟨x189, c190, rx189, tx189⟩ := hT.rda (lo := 0) (hi := 400) (i := (f0_.toInt).toNat) kM_at3 rfl rfl (by omega)
            have g173 : x189.toInt = f9_3__f0__toInt_toNat.toInt + 1 := by have q := g173; simp only [c135, c177, c137, c190] at q; omega
            have g174 : x170.toInt = f9_0_18.toInt + 1 := by have q := g174; simp only [c135, c177, c136, c171] at q; omega
            have hO : OKW w141 f0_.toInt gb ((gd + 1) + 1) := by have q := hq172; exact OKW_cast q (by omega)
            refine lv_if_ne (tgt := 66) hx hb dX12_term_61 (by decide) (fun _ => ?_) (fun c => absurd c (by decide))
            refine lv_aload_n hx hb dX12_term_66 rfl (lv_at hl 1 rfl) ?_
            refine lv_iload_n hx hb dX12_term_67 rfl (lv_at hl 0 rfl) ?_
            refine lv_iconst (v := 0) hx hb dX12_term_68 (by decide) ?_
            refine tk_Vv hC hK hw hT hA hE hSR kM_at0 (by decide) rfl (k_X12_puts_1 l adK adV dC dI cy ad B (by omega) (by omega) qr s1   4 (by decide) (by decide) 0 (by decide) (by decide) w141 H.size hT f0_ c177 (show 0 ≤ f0_.toInt by omega) (show f0_.toInt ≤ 5 by omega) x189 c190 (show 0 ≤ x189.toInt by omega) (show x189.toInt ≤ 400 by omega) (show x189.toInt ≤ 399 by omega)) (cwV 2 hC.2.2.2.2 gX12_term_X12_puts rfl rfl rfl (by decide +kernel) ⟨Nat.le_of_ble_eq_true rfl, Nat.le_of_ble_eq_true rfl⟩) rfl hl.1 rfl (Nat.le_of_ble_eq_true rfl) dX12_term_69 (fun w208 H locs hp207 hw => ?_)
            obtain ⟨hT, k209, hg214⟩ := hp207
            have hF := hF.tr k209 (by decide)
            have c215 := k209.gi kM_at0 (by decide) c176
            have c216 := k209.gi kM_at0 (by decide) c177
            have c217 := k209.gi kM_at1 rfl c178
            have c218 := k209.gi kM_at0 (by decide) c171
            obtain ⟨⟨x210, c211, rx210, tx210⟩, hq212, g213⟩ := hg214
            have ex210 : x210.toInt = f0_.toInt := by rw [← c216.symm.trans c211]
            obtain ⟨x219, c220, rx219, tx219⟩ := hT.rda (lo := 0) (hi := 400) (i := (f0_.toInt).toNat) kM_at3 rfl rfl (by omega)
            have g213 : x219.toInt = x189.toInt + 1 := by have q := g213; simp only [c177, c216, c190, c220] at q; omega
            have hO : OKW w208 f0_.toInt gb (((gd + 1) + 1) - 1) := OKW_put hO (by have q := hq212; rw [c177] at q; exact q) (by rw [c190]; omega) (fun x hx => by simp only [(show (4 : Int32).toInt = 4 by decide), (show (0 : Int32).toInt = 0 by decide)] at hx; exact okT_bin (by omega) (by omega) (by omega) (by omega)) (by omega) (by omega)
            refine lv_goto (tgt := 9) hx hb dX12_term_72 (by decide) ?_
            exact ih9 f9_0_1 x170 x219 H locs ls w208 (show 0 ≤ f9_0_1.toInt by omega) (show f9_0_1.toInt ≤ 400 by omega) (show 0 ≤ f0_.toInt by omega) (show f0_.toInt ≤ 5 by omega) (show 1 ≤ x170.toInt by omega) (show x170.toInt ≤ 60 by omega) (show 0 ≤ x219.toInt by omega) (show x219.toInt ≤ 300 by omega) (show 3 * x219.toInt + 11 ≤ 3 * f2_.toInt + 14 * (x170.toInt - f1_.toInt) by omega) (show f1_.toInt + 1 ≤ x170.toInt by omega) (show x219.toInt ≤ 300 by omega) (show (60 - x170.toInt).toNat < n9 by omega) hw hT hF (OKW_cast hO (show ((gd + 1) + 1) - 1 = gd + 1 by omega)) c215 c216 c218 c220 (lv_sub hl [1] rfl)
      refine lv_aload_n hx hb dX12_term_9 rfl (lv_at hl 0 rfl) ?_
      obtain ⟨x221, c222, rx221, tx221⟩ := hT.rdi (lo := 0) (hi := 400) (k := 14) kM_at0 (by decide) rfl
      refine tk_Vi hC hK hw hT hA hE hSR kM_at0 (by decide) rfl (k_X12_see_1 l adK adV dC dI cy ad B (by omega) (by omega) qr s1    w1 H.size hT x221 c222 (show 0 ≤ x221.toInt by omega) (show x221.toInt ≤ 400 by omega)) (cwV 0 hC.2.2.2.2 gX12_term_X12_see rfl rfl rfl (by decide +kernel) ⟨Nat.le_of_ble_eq_true rfl, Nat.le_of_ble_eq_true rfl⟩) rfl hl.1 rfl (Nat.le_of_ble_eq_true rfl) dX12_term_10 (fun r223 w225 H locs hp224 hw => ?_)
      obtain ⟨hT, k226, hg243⟩ := hp224
      have hO := OKW_FE k226 (fun _ => rfl) (fun _ => rfl) (fun _ => rfl) (fun _ => rfl) hO
      have hF := hF.tr k226 (by decide)
      have c244 := k226.gi kM_at0 (by decide) c4
      have c245 := k226.gi kM_at0 (by decide) c7
      have c246 := k226.gi kM_at0 (by decide) c10
      have c247 := k226.gi kM_at3 rfl c13
      rcases hg243 with ⟨g227, g228, ⟨x229, c230, rx229, tx229⟩, ⟨x231, c232, rx231, tx231⟩, g233, g234⟩ | ⟨rfl, ⟨x235, c236, rx235, tx235⟩, ⟨x237, c238, rx237, tx237⟩, g239⟩ | ⟨rfl, ⟨x240, c241, rx240, tx240⟩, g242⟩
      · have ex229 : x229.toInt = f9_0_1.toInt := by rw [← c244.symm.trans c230]
        have g233 : (gi w225 1 (x231.toInt).toNat).toInt ≠ 32 := by have q := g233; simp only [c7, c245, c232] at q; omega
        have g234 : (x231.toInt = x221.toInt ∨ (gi w1 1 (x221.toInt).toNat).toInt = 32) := by have q := g234; simp only [c7, c245, c222, c232] at q; omega
        refine lv_bipush (v := 42) hx hb dX12_term_13 (by decide) ?_
        refine lv_icmp_eq (tgt := 27) hx hb dX12_term_15 (by decide) (fun c250 => ?_) (fun c250 => ?_)
        · have c250 : r223.toInt = (42 : Int) := wk_eq.mp c250
          exact J27 x231 H locs ls w225 (show 1 ≤ f9_0_1.toInt by omega) (show f9_0_1.toInt ≤ 400 by omega) (show 0 ≤ x231.toInt by omega) (show x231.toInt ≤ 399 by omega) (show 0 ≤ f0_.toInt by omega) (show f0_.toInt ≤ 5 by omega) (show 1 ≤ f9_0_18.toInt by omega) (show f9_0_18.toInt ≤ 60 by omega) (show 0 ≤ f9_3__f0__toInt_toNat.toInt by omega) (show f9_3__f0__toInt_toNat.toInt ≤ 300 by omega) (show 3 * f9_3__f0__toInt_toNat.toInt + 11 ≤ 3 * f2_.toInt + 14 * (f9_0_18.toInt - f1_.toInt) by omega) (show f1_.toInt + 1 ≤ f9_0_18.toInt by omega) (show f9_3__f0__toInt_toNat.toInt ≤ 300 by omega)  hw hT hF (OKW_cast hO (show gd + 1 = gd + 1 by omega)) c244 c232 c245 c246 c247 (lv_sub hl [0] rfl)
        · have c250 : ¬ r223.toInt = (42 : Int) := wk_eqF c250
          refine lv_aload_n hx hb dX12_term_18 rfl (lv_at hl 0 rfl) ?_
          refine tk_Vi hC hK hw hT hA hE hSR kM_at0 (by decide) rfl (k_X12_see_1 l adK adV dC dI cy ad B (by omega) (by omega) qr s1    w225 H.size hT x231 c232 (show 0 ≤ x231.toInt by omega) (show x231.toInt ≤ 400 by omega)) (cwV 0 hC.2.2.2.2 gX12_term_X12_see rfl rfl rfl (by decide +kernel) ⟨Nat.le_of_ble_eq_true rfl, Nat.le_of_ble_eq_true rfl⟩) rfl hl.1 rfl (Nat.le_of_ble_eq_true rfl) dX12_term_19 (fun r251 w253 H locs hp252 hw => ?_)
          obtain ⟨hT, k254, hg271⟩ := hp252
          have hO := OKW_FE k254 (fun _ => rfl) (fun _ => rfl) (fun _ => rfl) (fun _ => rfl) hO
          have hF := hF.tr k254 (by decide)
          have c272 := k254.gi kM_at0 (by decide) c244
          have c273 := k254.gi kM_at0 (by decide) c245
          have c274 := k254.gi kM_at0 (by decide) c246
          have c275 := k254.gi kM_at3 rfl c247
          rcases hg271 with ⟨g255, g256, ⟨x257, c258, rx257, tx257⟩, ⟨x259, c260, rx259, tx259⟩, g261, g262⟩ | ⟨rfl, ⟨x263, c264, rx263, tx263⟩, ⟨x265, c266, rx265, tx265⟩, g267⟩ | ⟨rfl, ⟨x268, c269, rx268, tx268⟩, g270⟩
          · have ex257 : x257.toInt = f9_0_1.toInt := by rw [← c272.symm.trans c258]
            have g261 : (gi w253 1 (x259.toInt).toNat).toInt ≠ 32 := by have q := g261; simp only [c245, c273, c260] at q; omega
            have g262 : (x259.toInt = x231.toInt ∨ (gi w225 1 (x231.toInt).toNat).toInt = 32) := by have q := g262; simp only [c245, c273, c232, c260] at q; omega
            refine lv_bipush (v := 47) hx hb dX12_term_22 (by decide) ?_
            refine lv_icmp_ne (tgt := 75) hx hb dX12_term_24 (by decide) (fun c278 => ?_) (fun c278 => ?_)
            · have c278 : ¬ r251.toInt = (47 : Int) := wk_eqF c278
              refine lv_iconst (v := 1) hx hb dX12_term_75 (by decide) ?_
              exact tk_zret hC hr rfl hlocks hK ⟨hT, hF, (Or.inr (Or.inr (Or.inl ⟨rfl, ⟨f9_0_1, c272, (show 1 ≤ f9_0_1.toInt by omega), (show f9_0_1.toInt ≤ 400 by omega)⟩, ⟨f0_, c273, (show 0 ≤ f0_.toInt by omega), (show f0_.toInt ≤ 5 by omega)⟩, ⟨f9_0_18, c274, (show 1 ≤ f9_0_18.toInt by omega), (show f9_0_18.toInt ≤ 60 by omega)⟩, (OKW_cast hO (by omega)), (by simp only [c273, cf0_, cf2_, c275, cf1_, c274]; omega), (by simp only [c273, cf0_, cf1_, c274]; omega)⟩)))⟩ hw dX12_term_76
            · have c278 : r251.toInt = (47 : Int) := wk_eq.mp c278
              exact J27 x259 H locs ls w253 (show 1 ≤ f9_0_1.toInt by omega) (show f9_0_1.toInt ≤ 400 by omega) (show 0 ≤ x259.toInt by omega) (show x259.toInt ≤ 399 by omega) (show 0 ≤ f0_.toInt by omega) (show f0_.toInt ≤ 5 by omega) (show 1 ≤ f9_0_18.toInt by omega) (show f9_0_18.toInt ≤ 60 by omega) (show 0 ≤ f9_3__f0__toInt_toNat.toInt by omega) (show f9_3__f0__toInt_toNat.toInt ≤ 300 by omega) (show 3 * f9_3__f0__toInt_toNat.toInt + 11 ≤ 3 * f2_.toInt + 14 * (f9_0_18.toInt - f1_.toInt) by omega) (show f1_.toInt + 1 ≤ f9_0_18.toInt by omega) (show f9_3__f0__toInt_toNat.toInt ≤ 300 by omega)  hw hT hF (OKW_cast hO (show gd + 1 = gd + 1 by omega)) c272 c260 c273 c274 c275 (lv_sub hl [0] rfl)
          · have ex263 : x263.toInt = f9_0_1.toInt := by rw [← c272.symm.trans c264]
            have g267 : (x265.toInt = x231.toInt ∨ (gi w225 1 (x231.toInt).toNat).toInt = 32) := by have q := g267; simp only [c245, c273, c232, c266] at q; omega
            refine lv_bipush (v := 47) hx hb dX12_term_22 (by decide) ?_
            refine lv_icmp_ne (tgt := 75) hx hb dX12_term_24 (by decide) (fun _ => ?_) (fun c => absurd c (by decide))
            refine lv_iconst (v := 1) hx hb dX12_term_75 (by decide) ?_
            exact tk_zret hC hr rfl hlocks hK ⟨hT, hF, (Or.inr (Or.inr (Or.inl ⟨rfl, ⟨f9_0_1, c272, (show 1 ≤ f9_0_1.toInt by omega), (show f9_0_1.toInt ≤ 400 by omega)⟩, ⟨f0_, c273, (show 0 ≤ f0_.toInt by omega), (show f0_.toInt ≤ 5 by omega)⟩, ⟨f9_0_18, c274, (show 1 ≤ f9_0_18.toInt by omega), (show f9_0_18.toInt ≤ 60 by omega)⟩, (OKW_cast hO (by omega)), (by simp only [c273, cf0_, cf2_, c275, cf1_, c274]; omega), (by simp only [c273, cf0_, cf1_, c274]; omega)⟩)))⟩ hw dX12_term_76
          · have ex268 : x268.toInt = f9_0_1.toInt := by rw [← c272.symm.trans c269]
            obtain ⟨x276, c277, rx276, tx276⟩ := hT.rdi (lo := 0) (hi := 400) (k := 14) kM_at0 (by decide) rfl
            have g270 : (x276.toInt = x231.toInt ∨ (gi w225 1 (x231.toInt).toNat).toInt = 32) := by have q := g270; simp only [c245, c273, c232, c277] at q; omega
            refine lv_bipush (v := 47) hx hb dX12_term_22 (by decide) ?_
            refine lv_icmp_ne (tgt := 75) hx hb dX12_term_24 (by decide) (fun _ => ?_) (fun c => absurd c (by decide))
            refine lv_iconst (v := 1) hx hb dX12_term_75 (by decide) ?_
            exact tk_zret hC hr rfl hlocks hK ⟨hT, hF, (Or.inr (Or.inr (Or.inl ⟨rfl, ⟨f9_0_1, c272, (show 1 ≤ f9_0_1.toInt by omega), (show f9_0_1.toInt ≤ 400 by omega)⟩, ⟨f0_, c273, (show 0 ≤ f0_.toInt by omega), (show f0_.toInt ≤ 5 by omega)⟩, ⟨f9_0_18, c274, (show 1 ≤ f9_0_18.toInt by omega), (show f9_0_18.toInt ≤ 60 by omega)⟩, (OKW_cast hO (by omega)), (by simp only [c273, cf0_, cf2_, c275, cf1_, c274]; omega), (by simp only [c273, cf0_, cf1_, c274]; omega)⟩)))⟩ hw dX12_term_76
      · have ex235 : x235.toInt = f9_0_1.toInt := by rw [← c244.symm.trans c236]
        have g239 : (x237.toInt = x221.toInt ∨ (gi w1 1 (x221.toInt).toNat).toInt = 32) := by have q := g239; simp only [c7, c245, c222, c238] at q; omega
        refine lv_bipush (v := 42) hx hb dX12_term_13 (by decide) ?_
        refine lv_icmp_eq (tgt := 27) hx hb dX12_term_15 (by decide) (fun c => absurd c (by decide)) (fun _ => ?_)
        refine lv_aload_n hx hb dX12_term_18 rfl (lv_at hl 0 rfl) ?_
        refine tk_Vi hC hK hw hT hA hE hSR kM_at0 (by decide) rfl (k_X12_see_1 l adK adV dC dI cy ad B (by omega) (by omega) qr s1    w225 H.size hT x237 c238 (show 0 ≤ x237.toInt by omega) (show x237.toInt ≤ 400 by omega)) (cwV 0 hC.2.2.2.2 gX12_term_X12_see rfl rfl rfl (by decide +kernel) ⟨Nat.le_of_ble_eq_true rfl, Nat.le_of_ble_eq_true rfl⟩) rfl hl.1 rfl (Nat.le_of_ble_eq_true rfl) dX12_term_19 (fun r279 w281 H locs hp280 hw => ?_)
        obtain ⟨hT, k282, hg299⟩ := hp280
        have hO := OKW_FE k282 (fun _ => rfl) (fun _ => rfl) (fun _ => rfl) (fun _ => rfl) hO
        have hF := hF.tr k282 (by decide)
        have c300 := k282.gi kM_at0 (by decide) c244
        have c301 := k282.gi kM_at0 (by decide) c245
        have c302 := k282.gi kM_at0 (by decide) c246
        have c303 := k282.gi kM_at3 rfl c247
        rcases hg299 with ⟨g283, g284, ⟨x285, c286, rx285, tx285⟩, ⟨x287, c288, rx287, tx287⟩, g289, g290⟩ | ⟨rfl, ⟨x291, c292, rx291, tx291⟩, ⟨x293, c294, rx293, tx293⟩, g295⟩ | ⟨rfl, ⟨x296, c297, rx296, tx296⟩, g298⟩
        · have ex285 : x285.toInt = f9_0_1.toInt := by rw [← c300.symm.trans c286]
          have g289 : (gi w281 1 (x287.toInt).toNat).toInt ≠ 32 := by have q := g289; simp only [c245, c301, c288] at q; omega
          have g290 : (x287.toInt = x237.toInt ∨ (gi w225 1 (x237.toInt).toNat).toInt = 32) := by have q := g290; simp only [c245, c301, c238, c288] at q; omega
          refine lv_bipush (v := 47) hx hb dX12_term_22 (by decide) ?_
          refine lv_icmp_ne (tgt := 75) hx hb dX12_term_24 (by decide) (fun c306 => ?_) (fun c306 => ?_)
          · have c306 : ¬ r279.toInt = (47 : Int) := wk_eqF c306
            refine lv_iconst (v := 1) hx hb dX12_term_75 (by decide) ?_
            exact tk_zret hC hr rfl hlocks hK ⟨hT, hF, (Or.inr (Or.inr (Or.inl ⟨rfl, ⟨f9_0_1, c300, (show 1 ≤ f9_0_1.toInt by omega), (show f9_0_1.toInt ≤ 400 by omega)⟩, ⟨f0_, c301, (show 0 ≤ f0_.toInt by omega), (show f0_.toInt ≤ 5 by omega)⟩, ⟨f9_0_18, c302, (show 1 ≤ f9_0_18.toInt by omega), (show f9_0_18.toInt ≤ 60 by omega)⟩, (OKW_cast hO (by omega)), (by simp only [c301, cf0_, cf2_, c303, cf1_, c302]; omega), (by simp only [c301, cf0_, cf1_, c302]; omega)⟩)))⟩ hw dX12_term_76
          · have c306 : r279.toInt = (47 : Int) := wk_eq.mp c306
            exact J27 x287 H locs ls w281 (show 1 ≤ f9_0_1.toInt by omega) (show f9_0_1.toInt ≤ 400 by omega) (show 0 ≤ x287.toInt by omega) (show x287.toInt ≤ 399 by omega) (show 0 ≤ f0_.toInt by omega) (show f0_.toInt ≤ 5 by omega) (show 1 ≤ f9_0_18.toInt by omega) (show f9_0_18.toInt ≤ 60 by omega) (show 0 ≤ f9_3__f0__toInt_toNat.toInt by omega) (show f9_3__f0__toInt_toNat.toInt ≤ 300 by omega) (show 3 * f9_3__f0__toInt_toNat.toInt + 11 ≤ 3 * f2_.toInt + 14 * (f9_0_18.toInt - f1_.toInt) by omega) (show f1_.toInt + 1 ≤ f9_0_18.toInt by omega) (show f9_3__f0__toInt_toNat.toInt ≤ 300 by omega)  hw hT hF (OKW_cast hO (show gd + 1 = gd + 1 by omega)) c300 c288 c301 c302 c303 (lv_sub hl [0] rfl)
        · have ex291 : x291.toInt = f9_0_1.toInt := by rw [← c300.symm.trans c292]
          have g295 : (x293.toInt = x237.toInt ∨ (gi w225 1 (x237.toInt).toNat).toInt = 32) := by have q := g295; simp only [c245, c301, c238, c294] at q; omega
          refine lv_bipush (v := 47) hx hb dX12_term_22 (by decide) ?_
          refine lv_icmp_ne (tgt := 75) hx hb dX12_term_24 (by decide) (fun _ => ?_) (fun c => absurd c (by decide))
          refine lv_iconst (v := 1) hx hb dX12_term_75 (by decide) ?_
          exact tk_zret hC hr rfl hlocks hK ⟨hT, hF, (Or.inr (Or.inr (Or.inl ⟨rfl, ⟨f9_0_1, c300, (show 1 ≤ f9_0_1.toInt by omega), (show f9_0_1.toInt ≤ 400 by omega)⟩, ⟨f0_, c301, (show 0 ≤ f0_.toInt by omega), (show f0_.toInt ≤ 5 by omega)⟩, ⟨f9_0_18, c302, (show 1 ≤ f9_0_18.toInt by omega), (show f9_0_18.toInt ≤ 60 by omega)⟩, (OKW_cast hO (by omega)), (by simp only [c301, cf0_, cf2_, c303, cf1_, c302]; omega), (by simp only [c301, cf0_, cf1_, c302]; omega)⟩)))⟩ hw dX12_term_76
        · have ex296 : x296.toInt = f9_0_1.toInt := by rw [← c300.symm.trans c297]
          obtain ⟨x304, c305, rx304, tx304⟩ := hT.rdi (lo := 0) (hi := 400) (k := 14) kM_at0 (by decide) rfl
          have g298 : (x304.toInt = x237.toInt ∨ (gi w225 1 (x237.toInt).toNat).toInt = 32) := by have q := g298; simp only [c245, c301, c238, c305] at q; omega
          refine lv_bipush (v := 47) hx hb dX12_term_22 (by decide) ?_
          refine lv_icmp_ne (tgt := 75) hx hb dX12_term_24 (by decide) (fun _ => ?_) (fun c => absurd c (by decide))
          refine lv_iconst (v := 1) hx hb dX12_term_75 (by decide) ?_
          exact tk_zret hC hr rfl hlocks hK ⟨hT, hF, (Or.inr (Or.inr (Or.inl ⟨rfl, ⟨f9_0_1, c300, (show 1 ≤ f9_0_1.toInt by omega), (show f9_0_1.toInt ≤ 400 by omega)⟩, ⟨f0_, c301, (show 0 ≤ f0_.toInt by omega), (show f0_.toInt ≤ 5 by omega)⟩, ⟨f9_0_18, c302, (show 1 ≤ f9_0_18.toInt by omega), (show f9_0_18.toInt ≤ 60 by omega)⟩, (OKW_cast hO (by omega)), (by simp only [c301, cf0_, cf2_, c303, cf1_, c302]; omega), (by simp only [c301, cf0_, cf1_, c302]; omega)⟩)))⟩ hw dX12_term_76
      · have ex240 : x240.toInt = f9_0_1.toInt := by rw [← c244.symm.trans c241]
        obtain ⟨x248, c249, rx248, tx248⟩ := hT.rdi (lo := 0) (hi := 400) (k := 14) kM_at0 (by decide) rfl
        have g242 : (x248.toInt = x221.toInt ∨ (gi w1 1 (x221.toInt).toNat).toInt = 32) := by have q := g242; simp only [c7, c245, c222, c249] at q; omega
        refine lv_bipush (v := 42) hx hb dX12_term_13 (by decide) ?_
        refine lv_icmp_eq (tgt := 27) hx hb dX12_term_15 (by decide) (fun c => absurd c (by decide)) (fun _ => ?_)
        refine lv_aload_n hx hb dX12_term_18 rfl (lv_at hl 0 rfl) ?_
        refine tk_Vi hC hK hw hT hA hE hSR kM_at0 (by decide) rfl (k_X12_see_1 l adK adV dC dI cy ad B (by omega) (by omega) qr s1    w225 H.size hT x248 c249 (show 0 ≤ x248.toInt by omega) (show x248.toInt ≤ 400 by omega)) (cwV 0 hC.2.2.2.2 gX12_term_X12_see rfl rfl rfl (by decide +kernel) ⟨Nat.le_of_ble_eq_true rfl, Nat.le_of_ble_eq_true rfl⟩) rfl hl.1 rfl (Nat.le_of_ble_eq_true rfl) dX12_term_19 (fun r307 w309 H locs hp308 hw => ?_)
        obtain ⟨hT, k310, hg327⟩ := hp308
        have hO := OKW_FE k310 (fun _ => rfl) (fun _ => rfl) (fun _ => rfl) (fun _ => rfl) hO
        have hF := hF.tr k310 (by decide)
        have c328 := k310.gi kM_at0 (by decide) c244
        have c329 := k310.gi kM_at0 (by decide) c245
        have c330 := k310.gi kM_at0 (by decide) c246
        have c331 := k310.gi kM_at3 rfl c247
        rcases hg327 with ⟨g311, g312, ⟨x313, c314, rx313, tx313⟩, ⟨x315, c316, rx315, tx315⟩, g317, g318⟩ | ⟨rfl, ⟨x319, c320, rx319, tx319⟩, ⟨x321, c322, rx321, tx321⟩, g323⟩ | ⟨rfl, ⟨x324, c325, rx324, tx324⟩, g326⟩
        · have ex313 : x313.toInt = f9_0_1.toInt := by rw [← c328.symm.trans c314]
          have g317 : (gi w309 1 (x315.toInt).toNat).toInt ≠ 32 := by have q := g317; simp only [c245, c329, c316] at q; omega
          have g318 : (x315.toInt = x248.toInt ∨ (gi w225 1 (x248.toInt).toNat).toInt = 32) := by have q := g318; simp only [c245, c329, c249, c316] at q; omega
          refine lv_bipush (v := 47) hx hb dX12_term_22 (by decide) ?_
          refine lv_icmp_ne (tgt := 75) hx hb dX12_term_24 (by decide) (fun c334 => ?_) (fun c334 => ?_)
          · have c334 : ¬ r307.toInt = (47 : Int) := wk_eqF c334
            refine lv_iconst (v := 1) hx hb dX12_term_75 (by decide) ?_
            exact tk_zret hC hr rfl hlocks hK ⟨hT, hF, (Or.inr (Or.inr (Or.inl ⟨rfl, ⟨f9_0_1, c328, (show 1 ≤ f9_0_1.toInt by omega), (show f9_0_1.toInt ≤ 400 by omega)⟩, ⟨f0_, c329, (show 0 ≤ f0_.toInt by omega), (show f0_.toInt ≤ 5 by omega)⟩, ⟨f9_0_18, c330, (show 1 ≤ f9_0_18.toInt by omega), (show f9_0_18.toInt ≤ 60 by omega)⟩, (OKW_cast hO (by omega)), (by simp only [c329, cf0_, cf2_, c331, cf1_, c330]; omega), (by simp only [c329, cf0_, cf1_, c330]; omega)⟩)))⟩ hw dX12_term_76
          · have c334 : r307.toInt = (47 : Int) := wk_eq.mp c334
            exact J27 x315 H locs ls w309 (show 1 ≤ f9_0_1.toInt by omega) (show f9_0_1.toInt ≤ 400 by omega) (show 0 ≤ x315.toInt by omega) (show x315.toInt ≤ 399 by omega) (show 0 ≤ f0_.toInt by omega) (show f0_.toInt ≤ 5 by omega) (show 1 ≤ f9_0_18.toInt by omega) (show f9_0_18.toInt ≤ 60 by omega) (show 0 ≤ f9_3__f0__toInt_toNat.toInt by omega) (show f9_3__f0__toInt_toNat.toInt ≤ 300 by omega) (show 3 * f9_3__f0__toInt_toNat.toInt + 11 ≤ 3 * f2_.toInt + 14 * (f9_0_18.toInt - f1_.toInt) by omega) (show f1_.toInt + 1 ≤ f9_0_18.toInt by omega) (show f9_3__f0__toInt_toNat.toInt ≤ 300 by omega)  hw hT hF (OKW_cast hO (show gd + 1 = gd + 1 by omega)) c328 c316 c329 c330 c331 (lv_sub hl [0] rfl)
        · have ex319 : x319.toInt = f9_0_1.toInt := by rw [← c328.symm.trans c320]
          have g323 : (x321.toInt = x248.toInt ∨ (gi w225 1 (x248.toInt).toNat).toInt = 32) := by have q := g323; simp only [c245, c329, c249, c322] at q; omega
          refine lv_bipush (v := 47) hx hb dX12_term_22 (by decide) ?_
          refine lv_icmp_ne (tgt := 75) hx hb dX12_term_24 (by decide) (fun _ => ?_) (fun c => absurd c (by decide))
          refine lv_iconst (v := 1) hx hb dX12_term_75 (by decide) ?_
          exact tk_zret hC hr rfl hlocks hK ⟨hT, hF, (Or.inr (Or.inr (Or.inl ⟨rfl, ⟨f9_0_1, c328, (show 1 ≤ f9_0_1.toInt by omega), (show f9_0_1.toInt ≤ 400 by omega)⟩, ⟨f0_, c329, (show 0 ≤ f0_.toInt by omega), (show f0_.toInt ≤ 5 by omega)⟩, ⟨f9_0_18, c330, (show 1 ≤ f9_0_18.toInt by omega), (show f9_0_18.toInt ≤ 60 by omega)⟩, (OKW_cast hO (by omega)), (by simp only [c329, cf0_, cf2_, c331, cf1_, c330]; omega), (by simp only [c329, cf0_, cf1_, c330]; omega)⟩)))⟩ hw dX12_term_76
        · have ex324 : x324.toInt = f9_0_1.toInt := by rw [← c328.symm.trans c325]
          obtain ⟨x332, c333, rx332, tx332⟩ := hT.rdi (lo := 0) (hi := 400) (k := 14) kM_at0 (by decide) rfl
          have g326 : (x332.toInt = x248.toInt ∨ (gi w225 1 (x248.toInt).toNat).toInt = 32) := by have q := g326; simp only [c245, c329, c249, c333] at q; omega
          refine lv_bipush (v := 47) hx hb dX12_term_22 (by decide) ?_
          refine lv_icmp_ne (tgt := 75) hx hb dX12_term_24 (by decide) (fun _ => ?_) (fun c => absurd c (by decide))
          refine lv_iconst (v := 1) hx hb dX12_term_75 (by decide) ?_
          exact tk_zret hC hr rfl hlocks hK ⟨hT, hF, (Or.inr (Or.inr (Or.inr ⟨rfl, ⟨f9_0_1, c328, (show 0 ≤ f9_0_1.toInt by omega), (show f9_0_1.toInt ≤ 400 by omega)⟩, ⟨f0_, c329, (show 0 ≤ f0_.toInt by omega), (show f0_.toInt ≤ 5 by omega)⟩, ⟨f9_0_18, c330, (show 1 ≤ f9_0_18.toInt by omega), (show f9_0_18.toInt ≤ 60 by omega)⟩, (OKW_cast hO (by omega)), (by simp only [c329, cf0_, cf2_, c331, cf1_, c330]; omega), (by simp only [c329, cf0_, cf1_, c330]; omega)⟩)))⟩ hw dX12_term_76
  refine lv_aload_n hx hb dX12_term_0 rfl (lv_at hl 0 rfl) ?_
  refine tk_Vi hC hK hw hT hA hE hSR kM_at0 (by decide) rfl (k_X12_value_1 l adK adV dC dI cy ad B (by omega) (by omega) qr s1    w0 s.heap.size hT f0_ cf0_ (show 0 ≤ f0_.toInt by omega) (show f0_.toInt ≤ 5 by omega) f1_ cf1_ (show 0 ≤ f1_.toInt by omega) (show f1_.toInt ≤ 60 by omega) f2_ cf2_ (show 0 ≤ f2_.toInt by omega) (show f2_.toInt ≤ 400 by omega) (show f2_.toInt ≤ 399 by omega) gb (gd) (by omega) (by omega) (OKW_cast hO (show gd = gd by omega))) (cwV 0 hC.2.2.2.2 gX12_term_X12_value rfl rfl rfl (by decide +kernel) ⟨Nat.le_of_ble_eq_true rfl, Nat.le_of_ble_eq_true rfl⟩) rfl hl.1 rfl (Nat.le_of_ble_eq_true rfl) dX12_term_1 (fun r335 w337 H locs hp336 hw => ?_)
  obtain ⟨hT, k338, hg371⟩ := hp336
  have hF := hF.tr k338 (by decide)
  have c372 := k338.gi kM_at0 (by decide) cf0_
  rcases hg371 with ⟨rfl, ⟨x339, c340, rx339, tx339⟩, ⟨x341, c342, rx341, tx341⟩, ⟨x343, c344, rx343, tx343⟩, hq345⟩ | ⟨rfl, ⟨x346, c347, rx346, tx346⟩, ⟨x348, c349, rx348, tx348⟩, ⟨x350, c351, rx350, tx350⟩, hq352⟩ | ⟨rfl, ⟨x353, c354, rx353, tx353⟩, ⟨x355, c356, rx355, tx355⟩, ⟨x357, c358, rx357, tx357⟩, hq359, g360, g361⟩ | ⟨rfl, ⟨x362, c363, rx362, tx362⟩, ⟨x364, c365, rx364, tx364⟩, ⟨x366, c367, rx366, tx366⟩, hq368, g369, g370⟩
  · have ex343 : x343.toInt = f0_.toInt := by rw [← c372.symm.trans c344]
    obtain ⟨x373, c374, rx373, tx373⟩ := hT.rda (lo := 0) (hi := 400) (i := (f0_.toInt).toNat) kM_at3 rfl rfl (by omega)
    obtain ⟨x375, c376, rx375, tx375⟩ := hT.rdi (lo := 0) (hi := 60) (k := 18) kM_at0 (by decide) rfl
    have hR := hq345
    refine lv_if_ne (tgt := 9) hx hb dX12_term_4 (by decide) (fun c => absurd (by decide) c) (fun _ => ?_)
    refine lv_iconst (v := 0) hx hb dX12_term_7 (by decide) ?_
    exact tk_zret hC hr rfl hlocks hK ⟨hT, hF, (Or.inl ⟨rfl, ⟨x339, c340, (show 1 ≤ x339.toInt by omega), (show x339.toInt ≤ 400 by omega)⟩, ⟨x341, c342, (show 1 ≤ x341.toInt by omega), (show x341.toInt ≤ 3205 by omega)⟩, ⟨f0_, c372, (show 0 ≤ f0_.toInt by omega), (show f0_.toInt ≤ 5 by omega)⟩, hR⟩)⟩ hw dX12_term_8
  · have ex350 : x350.toInt = f0_.toInt := by rw [← c372.symm.trans c351]
    obtain ⟨x377, c378, rx377, tx377⟩ := hT.rda (lo := 0) (hi := 400) (i := (f0_.toInt).toNat) kM_at3 rfl rfl (by omega)
    obtain ⟨x379, c380, rx379, tx379⟩ := hT.rdi (lo := 0) (hi := 60) (k := 18) kM_at0 (by decide) rfl
    have hR := hq352
    refine lv_if_ne (tgt := 9) hx hb dX12_term_4 (by decide) (fun c => absurd (by decide) c) (fun _ => ?_)
    refine lv_iconst (v := 0) hx hb dX12_term_7 (by decide) ?_
    exact tk_zret hC hr rfl hlocks hK ⟨hT, hF, (Or.inr (Or.inl ⟨rfl, ⟨x346, c347, (show 0 ≤ x346.toInt by omega), (show x346.toInt ≤ 400 by omega)⟩, ⟨x348, c349, (show 1 ≤ x348.toInt by omega), (show x348.toInt ≤ 3205 by omega)⟩, ⟨f0_, c372, (show 0 ≤ f0_.toInt by omega), (show f0_.toInt ≤ 5 by omega)⟩, hR⟩))⟩ hw dX12_term_8
  · have ex355 : x355.toInt = f0_.toInt := by rw [← c372.symm.trans c356]
    obtain ⟨x381, c382, rx381, tx381⟩ := hT.rda (lo := 0) (hi := 400) (i := (f0_.toInt).toNat) kM_at3 rfl rfl (by omega)
    have g360 : x381.toInt = f2_.toInt + 1 := by have q := g360; simp only [cf0_, c372, cf2_, c382] at q; omega
    have g361 : x357.toInt = f1_.toInt + 1 := by have q := g361; simp only [cf0_, c372, cf1_, c358] at q; omega
    have hO : OKW w337 f0_.toInt gb ((gd) + 1) := by have q := hq359; exact OKW_cast q (by omega)
    refine lv_if_ne (tgt := 9) hx hb dX12_term_4 (by decide) (fun _ => ?_) (fun c => absurd c (by decide))
    exact L9 ((60 - x357.toInt).toNat + 1) x353 x357 x381 H locs ls w337 (show 0 ≤ x353.toInt by omega) (show x353.toInt ≤ 400 by omega) (show 0 ≤ f0_.toInt by omega) (show f0_.toInt ≤ 5 by omega) (show 1 ≤ x357.toInt by omega) (show x357.toInt ≤ 60 by omega) (show 0 ≤ x381.toInt by omega) (show x381.toInt ≤ 300 by omega) (show 3 * x381.toInt + 11 ≤ 3 * f2_.toInt + 14 * (x357.toInt - f1_.toInt) by omega) (show f1_.toInt + 1 ≤ x357.toInt by omega) (show x381.toInt ≤ 300 by omega) (Nat.lt_succ_self _) hw hT hF (OKW_cast hO (show (gd) + 1 = gd + 1 by omega)) c354 c372 c358 c382 (lv_sub hl [0] rfl)
  · have ex364 : x364.toInt = f0_.toInt := by rw [← c372.symm.trans c365]
    obtain ⟨x383, c384, rx383, tx383⟩ := hT.rda (lo := 0) (hi := 400) (i := (f0_.toInt).toNat) kM_at3 rfl rfl (by omega)
    have g369 : x383.toInt = f2_.toInt + 1 := by have q := g369; simp only [cf0_, c372, cf2_, c384] at q; omega
    have g370 : x366.toInt = f1_.toInt + 1 := by have q := g370; simp only [cf0_, c372, cf1_, c367] at q; omega
    have hO : OKW w337 f0_.toInt gb ((gd) + 1) := by have q := hq368; exact OKW_cast q (by omega)
    refine lv_if_ne (tgt := 9) hx hb dX12_term_4 (by decide) (fun _ => ?_) (fun c => absurd c (by decide))
    exact L9 ((60 - x366.toInt).toNat + 1) x362 x366 x383 H locs ls w337 (show 0 ≤ x362.toInt by omega) (show x362.toInt ≤ 400 by omega) (show 0 ≤ f0_.toInt by omega) (show f0_.toInt ≤ 5 by omega) (show 1 ≤ x366.toInt by omega) (show x366.toInt ≤ 60 by omega) (show 0 ≤ x383.toInt by omega) (show x383.toInt ≤ 300 by omega) (show 3 * x383.toInt + 11 ≤ 3 * f2_.toInt + 14 * (x366.toInt - f1_.toInt) by omega) (show f1_.toInt + 1 ≤ x366.toInt by omega) (show x383.toInt ≤ 300 by omega) (Nat.lt_succ_self _) hw hT hF (OKW_cast hO (show (gd) + 1 = gd + 1 by omega)) c363 c372 c367 c384 (lv_sub hl [0] rfl)
abbrev P_X12_sum_1 (ad : Nat → Nat) (cy : Nat → ClassId) (B : Int) (qr : Nat) (s1 : Int)  (gT gb gd : Int) (w0 : va_W) : Int32 → va_W → Prop := fun r u => TW ksM ad cy B qr 12 u ∧ FE ksM [(12, 14, 14), (12, 15, 15), (12, 16, 16), (12, 18, 18), (61, 0, 2400), (62, 0, 7)] w0 u ∧ ((r = 0 ∧ (∃ y : Int32, gi u 0 1 = y ∧ 1 ≤ y.toInt ∧ y.toInt ≤ 400) ∧ (∃ y : Int32, gi u 0 15 = y ∧ 1 ≤ y.toInt ∧ y.toInt ≤ 3205) ∧ (∃ y : Int32, gi u 0 17 = y ∧ 0 ≤ y.toInt ∧ y.toInt ≤ 5) ∧ RLc u gT) ∨ (r = 0 ∧ (∃ y : Int32, gi u 0 1 = y ∧ 0 ≤ y.toInt ∧ y.toInt ≤ 400) ∧ (∃ y : Int32, gi u 0 15 = y ∧ 1 ≤ y.toInt ∧ y.toInt ≤ 3205) ∧ (∃ y : Int32, gi u 0 17 = y ∧ 0 ≤ y.toInt ∧ y.toInt ≤ 5) ∧ RLc u gT) ∨ (r = 1 ∧ (∃ y : Int32, gi u 0 1 = y ∧ 1 ≤ y.toInt ∧ y.toInt ≤ 400) ∧ (∃ y : Int32, gi u 0 17 = y ∧ 0 ≤ y.toInt ∧ y.toInt ≤ 5) ∧ (∃ y : Int32, gi u 0 18 = y ∧ 1 ≤ y.toInt ∧ y.toInt ≤ 60) ∧ OKW u gT gb (gd + 1) ∧ (3 * (gi u 3 ((gi u 0 17).toInt).toNat).toInt + 11 ≤ 3 * (gi w0 3 ((gi w0 0 17).toInt).toNat).toInt + 14 * ((gi u 0 18).toInt - (gi w0 0 18).toInt)) ∧ ((gi w0 0 18).toInt + 1 ≤ (gi u 0 18).toInt)) ∨ (r = 1 ∧ (∃ y : Int32, gi u 0 1 = y ∧ 0 ≤ y.toInt ∧ y.toInt ≤ 400) ∧ (∃ y : Int32, gi u 0 17 = y ∧ 0 ≤ y.toInt ∧ y.toInt ≤ 5) ∧ (∃ y : Int32, gi u 0 18 = y ∧ 1 ≤ y.toInt ∧ y.toInt ≤ 60) ∧ OKW u gT gb (gd + 1) ∧ (3 * (gi u 3 ((gi u 0 17).toInt).toNat).toInt + 11 ≤ 3 * (gi w0 3 ((gi w0 0 17).toInt).toNat).toInt + 14 * ((gi u 0 18).toInt - (gi w0 0 18).toInt)) ∧ ((gi w0 0 18).toInt + 1 ≤ (gi u 0 18).toInt)))
set_option maxHeartbeats 4000000 in
set_option maxRecDepth 100000 in
theorem k_X12_sum_1 (l : Launch) (adK adV : Nat → Nat) (dC : Nat → ClassId) (dI : Nat → Nat → Nat) (cy : Nat → ClassId) (ad : Nat → Nat) (B : Int) (hB0 : 100000 ≤ B) (hB1 : B ≤ 1073741824) (qr : Nat) (s1 : Int)   (w0 : va_W) (sz : Nat) (hT : TW ksM ad cy B qr 12 w0) (f0_ : Int32) (cf0_ : gi w0 0 17 = f0_) (rf0_ : 0 ≤ f0_.toInt) (tf0_ : f0_.toInt ≤ 5) (f1_ : Int32) (cf1_ : gi w0 0 18 = f1_) (rf1_ : 0 ≤ f1_.toInt) (tf1_ : f1_.toInt ≤ 60) (f2_ : Int32) (cf2_ : gi w0 3 (f0_.toInt).toNat = f2_) (rf2_ : 0 ≤ f2_.toInt) (tf2_ : f2_.toInt ≤ 400) (pr0_ : 3 * f2_.toInt ≤ 14 * f1_.toInt + 60) (pr1_ : f2_.toInt ≤ 300) (gb gd : Int) (hgd0 : 0 ≤ gd) (hgd1 : gd ≤ f1_.toInt) (hO : OKW w0 f0_.toInt gb (gd)) : Met l yX12_sum wsX12_sum ({ frames := 6, cells := 0, slots := 0, locals := 121 }) (va_Pc [.ref (ad 0)] (wpreS adK adV dC dI cy sz w0)) (va_Qi (P_X12_sum_1 ad cy B qr s1  f0_.toInt gb gd w0) (fun u : va_W => wpost dC dI cy (va_A w0 sz) u) (va_A w0 sz)) 0 0 (va_A w0 sz) := by
  refine Met.ofW (cc := cX12_sum) (maxL := 2) (ret := (some .boolean)) (by decide) rfl ?_
  intro p e s m args below meth c s₁ Bk hml hv
  obtain ⟨rfl, ⟨hsz, hP, hK, hD0⟩, hE, hSR⟩ := hv
  have hx := Bk.exec
  have hb := Bk.bytes
  have hr := Bk.returns
  have hlocks := Bk.notSynchronized
  have hC : CallFix p m c cX12_sum 2 s _ wsX12_sum RX12 := ⟨hx, hb, hml, findClass_of_methodNamed Bk.named, atoms_spec (ws := wsX12_sum) Bk.pre⟩
  subst hsz
  have hD := hD0.self (sz := s.heap.size)
  generalize hAe : va_A w0 s.heap.size = A at hD hE ⊢
  have hA : ∀ q : Nat, s.heap.size ≤ q → A q := fun q h => by rw [← hAe]; exact Or.inr h
  have hw : Wd dC dI A s.heap s.heap [] w0 := ⟨hP, hD, va_S.rf⟩
  have hF : FE ksM [(12, 14, 14), (12, 15, 15), (12, 16, 16), (12, 18, 18), (61, 0, 2400), (62, 0, 7)] w0 w0 := FE.rf
  have hl := lv_entry ([.ref (ad 0)]) (n := 2) (Nat.le_of_ble_eq_true rfl)
  rw [lg_entry_eq]
  generalize (lg_sl ([.ref (ad 0)]) ++ List.replicate (2 - (lg_sl ([.ref (ad 0)])).length) Slot.unset).toArray = ls at hl ⊢
  have hl : lv_has ls 2 [(0, .ref (ad 0))] := hl
  generalize hloc : ([] : List Loc) = locs at hw ⊢
  have hinX12 : ∀ w ∈ u_ws RX12 TX12 42, w ∈ wsX12_sum := fun _ h => List.mem_cons_of_mem _ (List.mem_append_right _ (h))
  have L9 : ∀ (n9 : Nat) (f9_0_1 : Int32) (f9_0_18 : Int32) (f9_3__f0__toInt_toNat : Int32) (H : Heap) (locs : List Loc) (ls : Array Slot) (w1 : va_W), 0 ≤ f9_0_1.toInt → f9_0_1.toInt ≤ 400 → 0 ≤ f0_.toInt → f0_.toInt ≤ 5 → 1 ≤ f9_0_18.toInt → f9_0_18.toInt ≤ 60 → 0 ≤ f9_3__f0__toInt_toNat.toInt → f9_3__f0__toInt_toNat.toInt ≤ 300 → (3 * f9_3__f0__toInt_toNat.toInt + 11 ≤ 3 * f2_.toInt + 14 * (f9_0_18.toInt - f1_.toInt)) → (f1_.toInt + 1 ≤ f9_0_18.toInt) → (f9_3__f0__toInt_toNat.toInt ≤ 300) → (60 - f9_0_18.toInt).toNat < n9 → Wd dC dI A s.heap H locs w1 → TW ksM ad cy B qr 12 w1 → FE ksM [(12, 14, 14), (12, 15, 15), (12, 16, 16), (12, 18, 18), (61, 0, 2400), (62, 0, 7)] w0 w1 → OKW w1 f0_.toInt gb (gd + 1) → gi w1 0 1 = f9_0_1 → gi w1 0 17 = f0_ → gi w1 0 18 = f9_0_18 → gi w1 3 (f0_.toInt).toNat = f9_3__f0__toInt_toNat → lv_has ls 2 [(0, .ref (ad 0))] → W p l e ({ frames := 6, cells := 0, slots := 0, locals := 121 }) s m (List.toArray [.ref (ad 0)]) below meth c H locs 0 0 (MQ below (va_Qi (P_X12_sum_1 ad cy B qr s1  f0_.toInt gb gd w0) (fun u : va_W => wpost dC dI cy A u) A) (List.toArray [.ref (ad 0)]) s 0 0 A) (F0 m 9 ls []) := by
    intro n9
    induction n9 with
    | zero => intro f9_0_1 f9_0_18 f9_3__f0__toInt_toNat H locs ls w1 r2 t3 r5 t6 r8 t9 r11 t12 hcr9_0 hcr9_1 hcr9_2 hm9 hw hT hF hO c4 c7 c10 c13 hl; omega
    | succ n9 ih9 =>
      intro f9_0_1 f9_0_18 f9_3__f0__toInt_toNat H locs ls w1 r2 t3 r5 t6 r8 t9 r11 t12 hcr9_0 hcr9_1 hcr9_2 hm9 hw hT hF hO c4 c7 c10 c13 hl
      have J27 : ∀ (f27_0_14 : Int32) (H : Heap) (locs : List Loc) (ls : Array Slot) (w14 : va_W), 1 ≤ f9_0_1.toInt → f9_0_1.toInt ≤ 400 → 0 ≤ f27_0_14.toInt → f27_0_14.toInt ≤ 399 → 0 ≤ f0_.toInt → f0_.toInt ≤ 5 → 1 ≤ f9_0_18.toInt → f9_0_18.toInt ≤ 60 → 0 ≤ f9_3__f0__toInt_toNat.toInt → f9_3__f0__toInt_toNat.toInt ≤ 300 → (3 * f9_3__f0__toInt_toNat.toInt + 11 ≤ 3 * f2_.toInt + 14 * (f9_0_18.toInt - f1_.toInt)) → (f1_.toInt + 1 ≤ f9_0_18.toInt) → (f9_3__f0__toInt_toNat.toInt ≤ 300) → Wd dC dI A s.heap H locs w14 → TW ksM ad cy B qr 12 w14 → FE ksM [(12, 14, 14), (12, 15, 15), (12, 16, 16), (12, 18, 18), (61, 0, 2400), (62, 0, 7)] w0 w14 → OKW w14 f0_.toInt gb (gd + 1) → gi w14 0 1 = f9_0_1 → gi w14 0 14 = f27_0_14 → gi w14 0 17 = f0_ → gi w14 0 18 = f9_0_18 → gi w14 3 (f0_.toInt).toNat = f9_3__f0__toInt_toNat → lv_has ls 2 [(0, .ref (ad 0))] → W p l e ({ frames := 6, cells := 0, slots := 0, locals := 121 }) s m (List.toArray [.ref (ad 0)]) below meth c H locs 0 0 (MQ below (va_Qi (P_X12_sum_1 ad cy B qr s1  f0_.toInt gb gd w0) (fun u : va_W => wpost dC dI cy A u) A) (List.toArray [.ref (ad 0)]) s 0 0 A) (F0 m 27 ls []) := by
        intro f27_0_14 H locs ls w14 r15 t16 r18 t19 r21 t22 r24 t25 r27 t28 hcr27_0 hcr27_1 hcr27_2 hw hT hF hO c17 c20 c23 c26 c29 hl
        refine lv_aload_n hx hb dX12_sum_27 rfl (lv_at hl 0 rfl) ?_
        refine tk_getA hC hK hw hT hinX12 kM_at0 (by decide) rfl 0 (by decide) (List.mem_of_getElem? (i := 1) rfl) rfl rfl dX12_sum_28 ?_
        refine lv_aload_n hx hb dX12_sum_31 rfl (lv_at hl 0 rfl) ?_
        refine tk_geti hC hK hw hT hinX12 kM_at0 (by decide) rfl 14 (by decide) (List.mem_of_getElem? (i := 2) rfl) rfl rfl dX12_sum_32 (fun x30 c31 rx30 tx30 => ?_)
        refine wk_top f27_0_14 (c31.symm.trans c20) ?_
        refine tk_bald hC hK hw hT kM_at1 rfl rfl (show 0 ≤ f27_0_14.toInt by omega) (show f27_0_14.toInt < 400 by omega) dX12_sum_35 (fun x32 c33 rx32 tx32 => ?_)
        have c33 : gi w14 1 (f27_0_14.toInt).toNat = x32 := (congrArg (gi w14 1) (congrArg Int.toNat (show f27_0_14.toInt = f27_0_14.toInt by omega))).trans c33
        refine lv_bipush (v := 43) hx hb dX12_sum_36 (by decide) ?_
        refine lv_icmp_ne (tgt := 45) hx hb dX12_sum_38 (by decide) (fun c34 => ?_) (fun c34 => ?_)
        · have c34 : ¬ x32.toInt = (43 : Int) := wk_eqF c34
          refine lv_iconst (v := 3) hx hb dX12_sum_45 (by decide) ?_
          refine lv_istore_n (lv' := [(1, .int 3), (0, .ref (ad 0))]) hx hb dX12_sum_46 rfl hl (by decide) rfl (fun ls hl => ?_)
          refine lv_aload_n hx hb dX12_sum_47 rfl (lv_at hl 1 rfl) ?_
          refine lv_dup hx hb dX12_sum_48 rfl ?_
          refine tk_geti hC hK hw hT hinX12 kM_at0 (by decide) rfl 14 (by decide) (List.mem_of_getElem? (i := 2) rfl) rfl rfl dX12_sum_49 (fun x35 c36 rx35 tx35 => ?_)
          refine wk_top f27_0_14 (c36.symm.trans c20) ?_
          refine lv_iconst (v := 1) hx hb dX12_sum_52 (by decide) ?_
          refine lv_iadd hx hb dX12_sum_53 ?_
          refine lv_topi (fun x37 ex37 => ?_)
          have ex37 : x37.toInt = f27_0_14.toInt + (1 : Int) := by rw [ex37]; exact wk_add (show (-2147483648) ≤ f27_0_14.toInt + (1 : Int) by omega) (show f27_0_14.toInt + (1 : Int) ≤ 2147483647 by omega)
          refine tk_puti hC hK hw hT hinX12 tyX12_ok nmX12 kM_at0 (by decide) rfl rfl 14 (by decide) (List.mem_of_getElem? (i := 2) rfl) rfl rfl rfl rfl (show 0 ≤ x37.toInt by omega) (show x37.toInt ≤ 400 by omega) dX12_sum_54 (fun H locs w38 hw hT k40 c39 => ?_)
          have hO := OKW_F1 k40 (by decide) (by decide) (by decide) (by decide) hO
          have hF := hF.put kM_at0 (k := 14) (by decide) k40
          have c41 := k40.gi (Or.inr (by decide)) c17
          have c42 := k40.gi (Or.inr (by decide)) c23
          have c43 := k40.gi (Or.inr (by decide)) c26
          have c44 := k40.gi (Or.inl (tk_ne kM_at3 kM_at0 (by decide))) c29
          have c45 := k40.gi (Or.inl (tk_ne kM_at1 kM_at0 (by decide))) c33
          refine lv_aload_n hx hb dX12_sum_57 rfl (lv_at hl 1 rfl) ?_
          refine tk_Vi hC hK hw hT hA hE hSR kM_at0 (by decide) rfl (k_X12_term_1 l adK adV dC dI cy ad B (by omega) (by omega) qr s1    w38 H.size hT f0_ c42 (show 0 ≤ f0_.toInt by omega) (show f0_.toInt ≤ 5 by omega) f9_0_18 c43 (show 0 ≤ f9_0_18.toInt by omega) (show f9_0_18.toInt ≤ 60 by omega) f9_3__f0__toInt_toNat c44 (show 0 ≤ f9_3__f0__toInt_toNat.toInt by omega) (show f9_3__f0__toInt_toNat.toInt ≤ 400 by omega) (show 3 * f9_3__f0__toInt_toNat.toInt ≤ 14 * f9_0_18.toInt + 60 by omega) (show f9_3__f0__toInt_toNat.toInt ≤ 300 by omega) gb (gd + 1) (by omega) (by omega) (OKW_cast hO (show gd + 1 = gd + 1 by omega))) (cwV 0 hC.2.2.2.2 gX12_sum_X12_term rfl rfl rfl (by decide +kernel) ⟨Nat.le_of_ble_eq_true rfl, Nat.le_of_ble_eq_true rfl⟩) rfl hl.1 rfl (Nat.le_of_ble_eq_true rfl) dX12_sum_58 (fun r46 w48 H locs hp47 hw => ?_)
          obtain ⟨hT, k49, hg82⟩ := hp47
          have hF := hF.tr k49 (by decide)
          have c83 := k49.gi kM_at0 (by decide) c41
          have c84 := k49.gi kM_at0 (by decide) c42
          have c85 := k49.gi kM_at1 rfl c45
          rcases hg82 with ⟨rfl, ⟨x50, c51, rx50, tx50⟩, ⟨x52, c53, rx52, tx52⟩, ⟨x54, c55, rx54, tx54⟩, hq56⟩ | ⟨rfl, ⟨x57, c58, rx57, tx57⟩, ⟨x59, c60, rx59, tx59⟩, ⟨x61, c62, rx61, tx61⟩, hq63⟩ | ⟨rfl, ⟨x64, c65, rx64, tx64⟩, ⟨x66, c67, rx66, tx66⟩, ⟨x68, c69, rx68, tx68⟩, hq70, g71, g72⟩ | ⟨rfl, ⟨x73, c74, rx73, tx73⟩, ⟨x75, c76, rx75, tx75⟩, ⟨x77, c78, rx77, tx77⟩, hq79, g80, g81⟩
          · have ex50 : x50.toInt = f9_0_1.toInt := by rw [← c83.symm.trans c51]
            have ex54 : x54.toInt = f0_.toInt := by rw [← c84.symm.trans c55]
            obtain ⟨x86, c87, rx86, tx86⟩ := hT.rda (lo := 0) (hi := 400) (i := (f0_.toInt).toNat) kM_at3 rfl rfl (by omega)
            obtain ⟨x88, c89, rx88, tx88⟩ := hT.rdi (lo := 0) (hi := 60) (k := 18) kM_at0 (by decide) rfl
            have hR := hq56
            refine lv_if_ne (tgt := 66) hx hb dX12_sum_61 (by decide) (fun c => absurd (by decide) c) (fun _ => ?_)
            refine lv_iconst (v := 0) hx hb dX12_sum_64 (by decide) ?_
            exact tk_zret hC hr rfl hlocks hK ⟨hT, hF, (Or.inl ⟨rfl, ⟨f9_0_1, c83, (show 1 ≤ f9_0_1.toInt by omega), (show f9_0_1.toInt ≤ 400 by omega)⟩, ⟨x52, c53, (show 1 ≤ x52.toInt by omega), (show x52.toInt ≤ 3205 by omega)⟩, ⟨f0_, c84, (show 0 ≤ f0_.toInt by omega), (show f0_.toInt ≤ 5 by omega)⟩, hR⟩)⟩ hw dX12_sum_65
          · have ex57 : x57.toInt = f9_0_1.toInt := by rw [← c83.symm.trans c58]
            have ex61 : x61.toInt = f0_.toInt := by rw [← c84.symm.trans c62]
            obtain ⟨x90, c91, rx90, tx90⟩ := hT.rda (lo := 0) (hi := 400) (i := (f0_.toInt).toNat) kM_at3 rfl rfl (by omega)
            obtain ⟨x92, c93, rx92, tx92⟩ := hT.rdi (lo := 0) (hi := 60) (k := 18) kM_at0 (by decide) rfl
            have hR := hq63
            refine lv_if_ne (tgt := 66) hx hb dX12_sum_61 (by decide) (fun c => absurd (by decide) c) (fun _ => ?_)
            refine lv_iconst (v := 0) hx hb dX12_sum_64 (by decide) ?_
            exact tk_zret hC hr rfl hlocks hK ⟨hT, hF, (Or.inl ⟨rfl, ⟨f9_0_1, c83, (show 1 ≤ f9_0_1.toInt by omega), (show f9_0_1.toInt ≤ 400 by omega)⟩, ⟨x59, c60, (show 1 ≤ x59.toInt by omega), (show x59.toInt ≤ 3205 by omega)⟩, ⟨f0_, c84, (show 0 ≤ f0_.toInt by omega), (show f0_.toInt ≤ 5 by omega)⟩, hR⟩)⟩ hw dX12_sum_65
          · have ex64 : x64.toInt = f9_0_1.toInt := by rw [← c83.symm.trans c65]
            have ex66 : x66.toInt = f0_.toInt := by rw [← c84.symm.trans c67]
            obtain ⟨x94, c95, rx94, tx94⟩ := hT.rda (lo := 0) (hi := 400) (i := (f0_.toInt).toNat) kM_at3 rfl rfl (by omega)
            have g71 : 3 * x94.toInt + 11 ≤ 3 * f9_3__f0__toInt_toNat.toInt + 14 * (x68.toInt - f9_0_18.toInt) := by have q := g71; simp only [c42, c84, c44, c95, c43, c69] at q; omega
            have g72 : f9_0_18.toInt + 1 ≤ x68.toInt := by have q := g72; simp only [c42, c84, c43, c69] at q; omega
            have hO : OKW w48 f0_.toInt gb ((gd + 1) + 1) := by have q := hq70; exact OKW_cast q (by omega)
            refine lv_if_ne (tgt := 66) hx hb dX12_sum_61 (by decide) (fun _ => ?_) (fun c => absurd c (by decide))
            refine lv_aload_n hx hb dX12_sum_66 rfl (lv_at hl 1 rfl) ?_
            refine lv_iload_n hx hb dX12_sum_67 rfl (lv_at hl 0 rfl) ?_
            refine lv_iconst (v := 0) hx hb dX12_sum_68 (by decide) ?_
            refine tk_Vv hC hK hw hT hA hE hSR kM_at0 (by decide) rfl (k_X12_puts_1 l adK adV dC dI cy ad B (by omega) (by omega) qr s1   3 (by decide) (by decide) 0 (by decide) (by decide) w48 H.size hT f0_ c84 (show 0 ≤ f0_.toInt by omega) (show f0_.toInt ≤ 5 by omega) x94 c95 (show 0 ≤ x94.toInt by omega) (show x94.toInt ≤ 400 by omega) (show x94.toInt ≤ 399 by omega)) (cwV 2 hC.2.2.2.2 gX12_sum_X12_puts rfl rfl rfl (by decide +kernel) ⟨Nat.le_of_ble_eq_true rfl, Nat.le_of_ble_eq_true rfl⟩) rfl hl.1 rfl (Nat.le_of_ble_eq_true rfl) dX12_sum_69 (fun w100 H locs hp99 hw => ?_)
            obtain ⟨hT, k101, hg106⟩ := hp99
            have hF := hF.tr k101 (by decide)
            have c107 := k101.gi kM_at0 (by decide) c83
            have c108 := k101.gi kM_at0 (by decide) c84
            have c109 := k101.gi kM_at1 rfl c85
            have c110 := k101.gi kM_at0 (by decide) c69
            obtain ⟨⟨x102, c103, rx102, tx102⟩, hq104, g105⟩ := hg106
            have ex102 : x102.toInt = f0_.toInt := by rw [← c108.symm.trans c103]
            obtain ⟨x111, c112, rx111, tx111⟩ := hT.rda (lo := 0) (hi := 400) (i := (f0_.toInt).toNat) kM_at3 rfl rfl (by omega)
            have g105 : x111.toInt = x94.toInt + 1 := by have q := g105; simp only [c84, c108, c95, c112] at q; omega
            have hO : OKW w100 f0_.toInt gb (((gd + 1) + 1) - 1) := OKW_put hO (by have q := hq104; rw [c84] at q; exact q) (by rw [c95]; omega) (fun x hx => by simp only [(show (3 : Int32).toInt = 3 by decide), (show (0 : Int32).toInt = 0 by decide)] at hx; exact okT_bin (by omega) (by omega) (by omega) (by omega)) (by omega) (by omega)
            refine lv_goto (tgt := 9) hx hb dX12_sum_72 (by decide) ?_
            exact ih9 f9_0_1 x68 x111 H locs ls w100 (show 0 ≤ f9_0_1.toInt by omega) (show f9_0_1.toInt ≤ 400 by omega) (show 0 ≤ f0_.toInt by omega) (show f0_.toInt ≤ 5 by omega) (show 1 ≤ x68.toInt by omega) (show x68.toInt ≤ 60 by omega) (show 0 ≤ x111.toInt by omega) (show x111.toInt ≤ 300 by omega) (show 3 * x111.toInt + 11 ≤ 3 * f2_.toInt + 14 * (x68.toInt - f1_.toInt) by omega) (show f1_.toInt + 1 ≤ x68.toInt by omega) (show x111.toInt ≤ 300 by omega) (show (60 - x68.toInt).toNat < n9 by omega) hw hT hF (OKW_cast hO (show ((gd + 1) + 1) - 1 = gd + 1 by omega)) c107 c108 c110 c112 (lv_sub hl [1] rfl)
          · have ex73 : x73.toInt = f9_0_1.toInt := by rw [← c83.symm.trans c74]
            have ex75 : x75.toInt = f0_.toInt := by rw [← c84.symm.trans c76]
            obtain ⟨x96, c97, rx96, tx96⟩ := hT.rda (lo := 0) (hi := 400) (i := (f0_.toInt).toNat) kM_at3 rfl rfl (by omega)
            have g80 : 3 * x96.toInt + 11 ≤ 3 * f9_3__f0__toInt_toNat.toInt + 14 * (x77.toInt - f9_0_18.toInt) := by have q := g80; simp only [c42, c84, c44, c97, c43, c78] at q; omega
            have g81 : f9_0_18.toInt + 1 ≤ x77.toInt := by have q := g81; simp only [c42, c84, c43, c78] at q; omega
            have hO : OKW w48 f0_.toInt gb ((gd + 1) + 1) := by have q := hq79; exact OKW_cast q (by omega)
            refine lv_if_ne (tgt := 66) hx hb dX12_sum_61 (by decide) (fun _ => ?_) (fun c => absurd c (by decide))
            refine lv_aload_n hx hb dX12_sum_66 rfl (lv_at hl 1 rfl) ?_
            refine lv_iload_n hx hb dX12_sum_67 rfl (lv_at hl 0 rfl) ?_
            refine lv_iconst (v := 0) hx hb dX12_sum_68 (by decide) ?_
            refine tk_Vv hC hK hw hT hA hE hSR kM_at0 (by decide) rfl (k_X12_puts_1 l adK adV dC dI cy ad B (by omega) (by omega) qr s1   3 (by decide) (by decide) 0 (by decide) (by decide) w48 H.size hT f0_ c84 (show 0 ≤ f0_.toInt by omega) (show f0_.toInt ≤ 5 by omega) x96 c97 (show 0 ≤ x96.toInt by omega) (show x96.toInt ≤ 400 by omega) (show x96.toInt ≤ 399 by omega)) (cwV 2 hC.2.2.2.2 gX12_sum_X12_puts rfl rfl rfl (by decide +kernel) ⟨Nat.le_of_ble_eq_true rfl, Nat.le_of_ble_eq_true rfl⟩) rfl hl.1 rfl (Nat.le_of_ble_eq_true rfl) dX12_sum_69 (fun w115 H locs hp114 hw => ?_)
            obtain ⟨hT, k116, hg121⟩ := hp114
            have hF := hF.tr k116 (by decide)
            have c122 := k116.gi kM_at0 (by decide) c83
            have c123 := k116.gi kM_at0 (by decide) c84
            have c124 := k116.gi kM_at1 rfl c85
            have c125 := k116.gi kM_at0 (by decide) c78
            obtain ⟨⟨x117, c118, rx117, tx117⟩, hq119, g120⟩ := hg121
            have ex117 : x117.toInt = f0_.toInt := by rw [← c123.symm.trans c118]
            obtain ⟨x126, c127, rx126, tx126⟩ := hT.rda (lo := 0) (hi := 400) (i := (f0_.toInt).toNat) kM_at3 rfl rfl (by omega)
            have g120 : x126.toInt = x96.toInt + 1 := by have q := g120; simp only [c84, c123, c97, c127] at q; omega
            have hO : OKW w115 f0_.toInt gb (((gd + 1) + 1) - 1) := OKW_put hO (by have q := hq119; rw [c84] at q; exact q) (by rw [c97]; omega) (fun x hx => by simp only [(show (3 : Int32).toInt = 3 by decide), (show (0 : Int32).toInt = 0 by decide)] at hx; exact okT_bin (by omega) (by omega) (by omega) (by omega)) (by omega) (by omega)
            refine lv_goto (tgt := 9) hx hb dX12_sum_72 (by decide) ?_
            exact ih9 f9_0_1 x77 x126 H locs ls w115 (show 0 ≤ f9_0_1.toInt by omega) (show f9_0_1.toInt ≤ 400 by omega) (show 0 ≤ f0_.toInt by omega) (show f0_.toInt ≤ 5 by omega) (show 1 ≤ x77.toInt by omega) (show x77.toInt ≤ 60 by omega) (show 0 ≤ x126.toInt by omega) (show x126.toInt ≤ 300 by omega) (show 3 * x126.toInt + 11 ≤ 3 * f2_.toInt + 14 * (x77.toInt - f1_.toInt) by omega) (show f1_.toInt + 1 ≤ x77.toInt by omega) (show x126.toInt ≤ 300 by omega) (show (60 - x77.toInt).toNat < n9 by omega) hw hT hF (OKW_cast hO (show ((gd + 1) + 1) - 1 = gd + 1 by omega)) c122 c123 c125 c127 (lv_sub hl [1] rfl)
        · have c34 : x32.toInt = (43 : Int) := wk_eq.mp c34
          refine lv_iconst (v := 2) hx hb dX12_sum_41 (by decide) ?_
          refine lv_goto (tgt := 46) hx hb dX12_sum_42 (by decide) ?_
          refine lv_istore_n (lv' := [(1, .int 2), (0, .ref (ad 0))]) hx hb dX12_sum_46 rfl hl (by decide) rfl (fun ls hl => ?_)
          refine lv_aload_n hx hb dX12_sum_47 rfl (lv_at hl 1 rfl) ?_
          refine lv_dup hx hb dX12_sum_48 rfl ?_
          refine tk_geti hC hK hw hT hinX12 kM_at0 (by decide) rfl 14 (by decide) (List.mem_of_getElem? (i := 2) rfl) rfl rfl dX12_sum_49 (fun x128 c129 rx128 tx128 => ?_)
          refine wk_top f27_0_14 (c129.symm.trans c20) ?_
          refine lv_iconst (v := 1) hx hb dX12_sum_52 (by decide) ?_
          refine lv_iadd hx hb dX12_sum_53 ?_
          refine lv_topi (fun x130 ex130 => ?_)
          have ex130 : x130.toInt = f27_0_14.toInt + (1 : Int) := by rw [ex130]; exact wk_add (show (-2147483648) ≤ f27_0_14.toInt + (1 : Int) by omega) (show f27_0_14.toInt + (1 : Int) ≤ 2147483647 by omega)
          refine tk_puti hC hK hw hT hinX12 tyX12_ok nmX12 kM_at0 (by decide) rfl rfl 14 (by decide) (List.mem_of_getElem? (i := 2) rfl) rfl rfl rfl rfl (show 0 ≤ x130.toInt by omega) (show x130.toInt ≤ 400 by omega) dX12_sum_54 (fun H locs w131 hw hT k133 c132 => ?_)
          have hO := OKW_F1 k133 (by decide) (by decide) (by decide) (by decide) hO
          have hF := hF.put kM_at0 (k := 14) (by decide) k133
          have c134 := k133.gi (Or.inr (by decide)) c17
          have c135 := k133.gi (Or.inr (by decide)) c23
          have c136 := k133.gi (Or.inr (by decide)) c26
          have c137 := k133.gi (Or.inl (tk_ne kM_at3 kM_at0 (by decide))) c29
          have c138 := k133.gi (Or.inl (tk_ne kM_at1 kM_at0 (by decide))) c33
          refine lv_aload_n hx hb dX12_sum_57 rfl (lv_at hl 1 rfl) ?_
          refine tk_Vi hC hK hw hT hA hE hSR kM_at0 (by decide) rfl (k_X12_term_1 l adK adV dC dI cy ad B (by omega) (by omega) qr s1    w131 H.size hT f0_ c135 (show 0 ≤ f0_.toInt by omega) (show f0_.toInt ≤ 5 by omega) f9_0_18 c136 (show 0 ≤ f9_0_18.toInt by omega) (show f9_0_18.toInt ≤ 60 by omega) f9_3__f0__toInt_toNat c137 (show 0 ≤ f9_3__f0__toInt_toNat.toInt by omega) (show f9_3__f0__toInt_toNat.toInt ≤ 400 by omega) (show 3 * f9_3__f0__toInt_toNat.toInt ≤ 14 * f9_0_18.toInt + 60 by omega) (show f9_3__f0__toInt_toNat.toInt ≤ 300 by omega) gb (gd + 1) (by omega) (by omega) (OKW_cast hO (show gd + 1 = gd + 1 by omega))) (cwV 0 hC.2.2.2.2 gX12_sum_X12_term rfl rfl rfl (by decide +kernel) ⟨Nat.le_of_ble_eq_true rfl, Nat.le_of_ble_eq_true rfl⟩) rfl hl.1 rfl (Nat.le_of_ble_eq_true rfl) dX12_sum_58 (fun r139 w141 H locs hp140 hw => ?_)
          obtain ⟨hT, k142, hg175⟩ := hp140
          have hF := hF.tr k142 (by decide)
          have c176 := k142.gi kM_at0 (by decide) c134
          have c177 := k142.gi kM_at0 (by decide) c135
          have c178 := k142.gi kM_at1 rfl c138
          rcases hg175 with ⟨rfl, ⟨x143, c144, rx143, tx143⟩, ⟨x145, c146, rx145, tx145⟩, ⟨x147, c148, rx147, tx147⟩, hq149⟩ | ⟨rfl, ⟨x150, c151, rx150, tx150⟩, ⟨x152, c153, rx152, tx152⟩, ⟨x154, c155, rx154, tx154⟩, hq156⟩ | ⟨rfl, ⟨x157, c158, rx157, tx157⟩, ⟨x159, c160, rx159, tx159⟩, ⟨x161, c162, rx161, tx161⟩, hq163, g164, g165⟩ | ⟨rfl, ⟨x166, c167, rx166, tx166⟩, ⟨x168, c169, rx168, tx168⟩, ⟨x170, c171, rx170, tx170⟩, hq172, g173, g174⟩
          · have ex143 : x143.toInt = f9_0_1.toInt := by rw [← c176.symm.trans c144]
            have ex147 : x147.toInt = f0_.toInt := by rw [← c177.symm.trans c148]
            obtain ⟨x179, c180, rx179, tx179⟩ := hT.rda (lo := 0) (hi := 400) (i := (f0_.toInt).toNat) kM_at3 rfl rfl (by omega)
            obtain ⟨x181, c182, rx181, tx181⟩ := hT.rdi (lo := 0) (hi := 60) (k := 18) kM_at0 (by decide) rfl
            have hR := hq149
            refine lv_if_ne (tgt := 66) hx hb dX12_sum_61 (by decide) (fun c => absurd (by decide) c) (fun _ => ?_)
            refine lv_iconst (v := 0) hx hb dX12_sum_64 (by decide) ?_
            exact tk_zret hC hr rfl hlocks hK ⟨hT, hF, (Or.inl ⟨rfl, ⟨f9_0_1, c176, (show 1 ≤ f9_0_1.toInt by omega), (show f9_0_1.toInt ≤ 400 by omega)⟩, ⟨x145, c146, (show 1 ≤ x145.toInt by omega), (show x145.toInt ≤ 3205 by omega)⟩, ⟨f0_, c177, (show 0 ≤ f0_.toInt by omega), (show f0_.toInt ≤ 5 by omega)⟩, hR⟩)⟩ hw dX12_sum_65
          · have ex150 : x150.toInt = f9_0_1.toInt := by rw [← c176.symm.trans c151]
            have ex154 : x154.toInt = f0_.toInt := by rw [← c177.symm.trans c155]
            obtain ⟨x183, c184, rx183, tx183⟩ := hT.rda (lo := 0) (hi := 400) (i := (f0_.toInt).toNat) kM_at3 rfl rfl (by omega)
            obtain ⟨x185, c186, rx185, tx185⟩ := hT.rdi (lo := 0) (hi := 60) (k := 18) kM_at0 (by decide) rfl
            have hR := hq156
            refine lv_if_ne (tgt := 66) hx hb dX12_sum_61 (by decide) (fun c => absurd (by decide) c) (fun _ => ?_)
            refine lv_iconst (v := 0) hx hb dX12_sum_64 (by decide) ?_
            exact tk_zret hC hr rfl hlocks hK ⟨hT, hF, (Or.inl ⟨rfl, ⟨f9_0_1, c176, (show 1 ≤ f9_0_1.toInt by omega), (show f9_0_1.toInt ≤ 400 by omega)⟩, ⟨x152, c153, (show 1 ≤ x152.toInt by omega), (show x152.toInt ≤ 3205 by omega)⟩, ⟨f0_, c177, (show 0 ≤ f0_.toInt by omega), (show f0_.toInt ≤ 5 by omega)⟩, hR⟩)⟩ hw dX12_sum_65
          · have ex157 : x157.toInt = f9_0_1.toInt := by rw [← c176.symm.trans c158]
            have ex159 : x159.toInt = f0_.toInt := by rw [← c177.symm.trans c160]
            obtain ⟨x187, c188, rx187, tx187⟩ := hT.rda (lo := 0) (hi := 400) (i := (f0_.toInt).toNat) kM_at3 rfl rfl (by omega)
            have g164 : 3 * x187.toInt + 11 ≤ 3 * f9_3__f0__toInt_toNat.toInt + 14 * (x161.toInt - f9_0_18.toInt) := by have q := g164; simp only [c135, c177, c137, c188, c136, c162] at q; omega
            have g165 : f9_0_18.toInt + 1 ≤ x161.toInt := by have q := g165; simp only [c135, c177, c136, c162] at q; omega
            have hO : OKW w141 f0_.toInt gb ((gd + 1) + 1) := by have q := hq163; exact OKW_cast q (by omega)
            refine lv_if_ne (tgt := 66) hx hb dX12_sum_61 (by decide) (fun _ => ?_) (fun c => absurd c (by decide))
            refine lv_aload_n hx hb dX12_sum_66 rfl (lv_at hl 1 rfl) ?_
            refine lv_iload_n hx hb dX12_sum_67 rfl (lv_at hl 0 rfl) ?_
            refine lv_iconst (v := 0) hx hb dX12_sum_68 (by decide) ?_
            refine tk_Vv hC hK hw hT hA hE hSR kM_at0 (by decide) rfl (k_X12_puts_1 l adK adV dC dI cy ad B (by omega) (by omega) qr s1   2 (by decide) (by decide) 0 (by decide) (by decide) w141 H.size hT f0_ c177 (show 0 ≤ f0_.toInt by omega) (show f0_.toInt ≤ 5 by omega) x187 c188 (show 0 ≤ x187.toInt by omega) (show x187.toInt ≤ 400 by omega) (show x187.toInt ≤ 399 by omega)) (cwV 2 hC.2.2.2.2 gX12_sum_X12_puts rfl rfl rfl (by decide +kernel) ⟨Nat.le_of_ble_eq_true rfl, Nat.le_of_ble_eq_true rfl⟩) rfl hl.1 rfl (Nat.le_of_ble_eq_true rfl) dX12_sum_69 (fun w193 H locs hp192 hw => ?_)
            obtain ⟨hT, k194, hg199⟩ := hp192
            have hF := hF.tr k194 (by decide)
            have c200 := k194.gi kM_at0 (by decide) c176
            have c201 := k194.gi kM_at0 (by decide) c177
            have c202 := k194.gi kM_at1 rfl c178
            have c203 := k194.gi kM_at0 (by decide) c162
            obtain ⟨⟨x195, c196, rx195, tx195⟩, hq197, g198⟩ := hg199
            have ex195 : x195.toInt = f0_.toInt := by rw [← c201.symm.trans c196]
            obtain ⟨x204, c205, rx204, tx204⟩ := hT.rda (lo := 0) (hi := 400) (i := (f0_.toInt).toNat) kM_at3 rfl rfl (by omega)
            have g198 : x204.toInt = x187.toInt + 1 := by have q := g198; simp only [c177, c201, c188, c205] at q; omega
            have hO : OKW w193 f0_.toInt gb (((gd + 1) + 1) - 1) := OKW_put hO (by have q := hq197; rw [c177] at q; exact q) (by rw [c188]; omega) (fun x hx => by simp only [(show (2 : Int32).toInt = 2 by decide), (show (0 : Int32).toInt = 0 by decide)] at hx; exact okT_bin (by omega) (by omega) (by omega) (by omega)) (by omega) (by omega)
            refine lv_goto (tgt := 9) hx hb dX12_sum_72 (by decide) ?_
            exact ih9 f9_0_1 x161 x204 H locs ls w193 (show 0 ≤ f9_0_1.toInt by omega) (show f9_0_1.toInt ≤ 400 by omega) (show 0 ≤ f0_.toInt by omega) (show f0_.toInt ≤ 5 by omega) (show 1 ≤ x161.toInt by omega) (show x161.toInt ≤ 60 by omega) (show 0 ≤ x204.toInt by omega) (show x204.toInt ≤ 300 by omega) (show 3 * x204.toInt + 11 ≤ 3 * f2_.toInt + 14 * (x161.toInt - f1_.toInt) by omega) (show f1_.toInt + 1 ≤ x161.toInt by omega) (show x204.toInt ≤ 300 by omega) (show (60 - x161.toInt).toNat < n9 by omega) hw hT hF (OKW_cast hO (show ((gd + 1) + 1) - 1 = gd + 1 by omega)) c200 c201 c203 c205 (lv_sub hl [1] rfl)
          · have ex166 : x166.toInt = f9_0_1.toInt := by rw [← c176.symm.trans c167]
            have ex168 : x168.toInt = f0_.toInt := by rw [← c177.symm.trans c169]
            obtain ⟨x189, c190, rx189, tx189⟩ := hT.rda (lo := 0) (hi := 400) (i := (f0_.toInt).toNat) kM_at3 rfl rfl (by omega)
            have g173 : 3 * x189.toInt + 11 ≤ 3 * f9_3__f0__toInt_toNat.toInt + 14 * (x170.toInt - f9_0_18.toInt) := by have q := g173; simp only [c135, c177, c137, c190, c136, c171] at q; omega
            have g174 : f9_0_18.toInt + 1 ≤ x170.toInt := by have q := g174; simp only [c135, c177, c136, c171] at q; omega
            have hO : OKW w141 f0_.toInt gb ((gd + 1) + 1) := by have q := hq172; exact OKW_cast q (by omega)
            refine lv_if_ne (tgt := 66) hx hb dX12_sum_61 (by decide) (fun _ => ?_) (fun c => absurd c (by decide))
            refine lv_aload_n hx hb dX12_sum_66 rfl (lv_at hl 1 rfl) ?_
            refine lv_iload_n hx hb dX12_sum_67 rfl (lv_at hl 0 rfl) ?_
            refine lv_iconst (v := 0) hx hb dX12_sum_68 (by decide) ?_
            refine tk_Vv hC hK hw hT hA hE hSR kM_at0 (by decide) rfl (k_X12_puts_1 l adK adV dC dI cy ad B (by omega) (by omega) qr s1   2 (by decide) (by decide) 0 (by decide) (by decide) w141 H.size hT f0_ c177 (show 0 ≤ f0_.toInt by omega) (show f0_.toInt ≤ 5 by omega) x189 c190 (show 0 ≤ x189.toInt by omega) (show x189.toInt ≤ 400 by omega) (show x189.toInt ≤ 399 by omega)) (cwV 2 hC.2.2.2.2 gX12_sum_X12_puts rfl rfl rfl (by decide +kernel) ⟨Nat.le_of_ble_eq_true rfl, Nat.le_of_ble_eq_true rfl⟩) rfl hl.1 rfl (Nat.le_of_ble_eq_true rfl) dX12_sum_69 (fun w208 H locs hp207 hw => ?_)
            obtain ⟨hT, k209, hg214⟩ := hp207
            have hF := hF.tr k209 (by decide)
            have c215 := k209.gi kM_at0 (by decide) c176
            have c216 := k209.gi kM_at0 (by decide) c177
            have c217 := k209.gi kM_at1 rfl c178
            have c218 := k209.gi kM_at0 (by decide) c171
            obtain ⟨⟨x210, c211, rx210, tx210⟩, hq212, g213⟩ := hg214
            have ex210 : x210.toInt = f0_.toInt := by rw [← c216.symm.trans c211]
            obtain ⟨x219, c220, rx219, tx219⟩ := hT.rda (lo := 0) (hi := 400) (i := (f0_.toInt).toNat) kM_at3 rfl rfl (by omega)
            have g213 : x219.toInt = x189.toInt + 1 := by have q := g213; simp only [c177, c216, c190, c220] at q; omega
            have hO : OKW w208 f0_.toInt gb (((gd + 1) + 1) - 1) := OKW_put hO (by have q := hq212; rw [c177] at q; exact q) (by rw [c190]; omega) (fun x hx => by simp only [(show (2 : Int32).toInt = 2 by decide), (show (0 : Int32).toInt = 0 by decide)] at hx; exact okT_bin (by omega) (by omega) (by omega) (by omega)) (by omega) (by omega)
            refine lv_goto (tgt := 9) hx hb dX12_sum_72 (by decide) ?_
            exact ih9 f9_0_1 x170 x219 H locs ls w208 (show 0 ≤ f9_0_1.toInt by omega) (show f9_0_1.toInt ≤ 400 by omega) (show 0 ≤ f0_.toInt by omega) (show f0_.toInt ≤ 5 by omega) (show 1 ≤ x170.toInt by omega) (show x170.toInt ≤ 60 by omega) (show 0 ≤ x219.toInt by omega) (show x219.toInt ≤ 300 by omega) (show 3 * x219.toInt + 11 ≤ 3 * f2_.toInt + 14 * (x170.toInt - f1_.toInt) by omega) (show f1_.toInt + 1 ≤ x170.toInt by omega) (show x219.toInt ≤ 300 by omega) (show (60 - x170.toInt).toNat < n9 by omega) hw hT hF (OKW_cast hO (show ((gd + 1) + 1) - 1 = gd + 1 by omega)) c215 c216 c218 c220 (lv_sub hl [1] rfl)
      refine lv_aload_n hx hb dX12_sum_9 rfl (lv_at hl 0 rfl) ?_
      obtain ⟨x221, c222, rx221, tx221⟩ := hT.rdi (lo := 0) (hi := 400) (k := 14) kM_at0 (by decide) rfl
      refine tk_Vi hC hK hw hT hA hE hSR kM_at0 (by decide) rfl (k_X12_see_1 l adK adV dC dI cy ad B (by omega) (by omega) qr s1    w1 H.size hT x221 c222 (show 0 ≤ x221.toInt by omega) (show x221.toInt ≤ 400 by omega)) (cwV 0 hC.2.2.2.2 gX12_sum_X12_see rfl rfl rfl (by decide +kernel) ⟨Nat.le_of_ble_eq_true rfl, Nat.le_of_ble_eq_true rfl⟩) rfl hl.1 rfl (Nat.le_of_ble_eq_true rfl) dX12_sum_10 (fun r223 w225 H locs hp224 hw => ?_)
      obtain ⟨hT, k226, hg243⟩ := hp224
      have hO := OKW_FE k226 (fun _ => rfl) (fun _ => rfl) (fun _ => rfl) (fun _ => rfl) hO
      have hF := hF.tr k226 (by decide)
      have c244 := k226.gi kM_at0 (by decide) c4
      have c245 := k226.gi kM_at0 (by decide) c7
      have c246 := k226.gi kM_at0 (by decide) c10
      have c247 := k226.gi kM_at3 rfl c13
      rcases hg243 with ⟨g227, g228, ⟨x229, c230, rx229, tx229⟩, ⟨x231, c232, rx231, tx231⟩, g233, g234⟩ | ⟨rfl, ⟨x235, c236, rx235, tx235⟩, ⟨x237, c238, rx237, tx237⟩, g239⟩ | ⟨rfl, ⟨x240, c241, rx240, tx240⟩, g242⟩
      · have ex229 : x229.toInt = f9_0_1.toInt := by rw [← c244.symm.trans c230]
        have g233 : (gi w225 1 (x231.toInt).toNat).toInt ≠ 32 := by have q := g233; simp only [c7, c245, c232] at q; omega
        have g234 : (x231.toInt = x221.toInt ∨ (gi w1 1 (x221.toInt).toNat).toInt = 32) := by have q := g234; simp only [c7, c245, c222, c232] at q; omega
        refine lv_bipush (v := 43) hx hb dX12_sum_13 (by decide) ?_
        refine lv_icmp_eq (tgt := 27) hx hb dX12_sum_15 (by decide) (fun c250 => ?_) (fun c250 => ?_)
        · have c250 : r223.toInt = (43 : Int) := wk_eq.mp c250
          exact J27 x231 H locs ls w225 (show 1 ≤ f9_0_1.toInt by omega) (show f9_0_1.toInt ≤ 400 by omega) (show 0 ≤ x231.toInt by omega) (show x231.toInt ≤ 399 by omega) (show 0 ≤ f0_.toInt by omega) (show f0_.toInt ≤ 5 by omega) (show 1 ≤ f9_0_18.toInt by omega) (show f9_0_18.toInt ≤ 60 by omega) (show 0 ≤ f9_3__f0__toInt_toNat.toInt by omega) (show f9_3__f0__toInt_toNat.toInt ≤ 300 by omega) (show 3 * f9_3__f0__toInt_toNat.toInt + 11 ≤ 3 * f2_.toInt + 14 * (f9_0_18.toInt - f1_.toInt) by omega) (show f1_.toInt + 1 ≤ f9_0_18.toInt by omega) (show f9_3__f0__toInt_toNat.toInt ≤ 300 by omega)  hw hT hF (OKW_cast hO (show gd + 1 = gd + 1 by omega)) c244 c232 c245 c246 c247 (lv_sub hl [0] rfl)
        · have c250 : ¬ r223.toInt = (43 : Int) := wk_eqF c250
          refine lv_aload_n hx hb dX12_sum_18 rfl (lv_at hl 0 rfl) ?_
          refine tk_Vi hC hK hw hT hA hE hSR kM_at0 (by decide) rfl (k_X12_see_1 l adK adV dC dI cy ad B (by omega) (by omega) qr s1    w225 H.size hT x231 c232 (show 0 ≤ x231.toInt by omega) (show x231.toInt ≤ 400 by omega)) (cwV 0 hC.2.2.2.2 gX12_sum_X12_see rfl rfl rfl (by decide +kernel) ⟨Nat.le_of_ble_eq_true rfl, Nat.le_of_ble_eq_true rfl⟩) rfl hl.1 rfl (Nat.le_of_ble_eq_true rfl) dX12_sum_19 (fun r251 w253 H locs hp252 hw => ?_)
          obtain ⟨hT, k254, hg271⟩ := hp252
          have hO := OKW_FE k254 (fun _ => rfl) (fun _ => rfl) (fun _ => rfl) (fun _ => rfl) hO
          have hF := hF.tr k254 (by decide)
          have c272 := k254.gi kM_at0 (by decide) c244
          have c273 := k254.gi kM_at0 (by decide) c245
          have c274 := k254.gi kM_at0 (by decide) c246
          have c275 := k254.gi kM_at3 rfl c247
          rcases hg271 with ⟨g255, g256, ⟨x257, c258, rx257, tx257⟩, ⟨x259, c260, rx259, tx259⟩, g261, g262⟩ | ⟨rfl, ⟨x263, c264, rx263, tx263⟩, ⟨x265, c266, rx265, tx265⟩, g267⟩ | ⟨rfl, ⟨x268, c269, rx268, tx268⟩, g270⟩
          · have ex257 : x257.toInt = f9_0_1.toInt := by rw [← c272.symm.trans c258]
            have g261 : (gi w253 1 (x259.toInt).toNat).toInt ≠ 32 := by have q := g261; simp only [c245, c273, c260] at q; omega
            have g262 : (x259.toInt = x231.toInt ∨ (gi w225 1 (x231.toInt).toNat).toInt = 32) := by have q := g262; simp only [c245, c273, c232, c260] at q; omega
            refine lv_bipush (v := 45) hx hb dX12_sum_22 (by decide) ?_
            refine lv_icmp_ne (tgt := 75) hx hb dX12_sum_24 (by decide) (fun c278 => ?_) (fun c278 => ?_)
            · have c278 : ¬ r251.toInt = (45 : Int) := wk_eqF c278
              refine lv_iconst (v := 1) hx hb dX12_sum_75 (by decide) ?_
              exact tk_zret hC hr rfl hlocks hK ⟨hT, hF, (Or.inr (Or.inr (Or.inl ⟨rfl, ⟨f9_0_1, c272, (show 1 ≤ f9_0_1.toInt by omega), (show f9_0_1.toInt ≤ 400 by omega)⟩, ⟨f0_, c273, (show 0 ≤ f0_.toInt by omega), (show f0_.toInt ≤ 5 by omega)⟩, ⟨f9_0_18, c274, (show 1 ≤ f9_0_18.toInt by omega), (show f9_0_18.toInt ≤ 60 by omega)⟩, (OKW_cast hO (by omega)), (by simp only [c273, cf0_, cf2_, c275, cf1_, c274]; omega), (by simp only [c273, cf0_, cf1_, c274]; omega)⟩)))⟩ hw dX12_sum_76
            · have c278 : r251.toInt = (45 : Int) := wk_eq.mp c278
              exact J27 x259 H locs ls w253 (show 1 ≤ f9_0_1.toInt by omega) (show f9_0_1.toInt ≤ 400 by omega) (show 0 ≤ x259.toInt by omega) (show x259.toInt ≤ 399 by omega) (show 0 ≤ f0_.toInt by omega) (show f0_.toInt ≤ 5 by omega) (show 1 ≤ f9_0_18.toInt by omega) (show f9_0_18.toInt ≤ 60 by omega) (show 0 ≤ f9_3__f0__toInt_toNat.toInt by omega) (show f9_3__f0__toInt_toNat.toInt ≤ 300 by omega) (show 3 * f9_3__f0__toInt_toNat.toInt + 11 ≤ 3 * f2_.toInt + 14 * (f9_0_18.toInt - f1_.toInt) by omega) (show f1_.toInt + 1 ≤ f9_0_18.toInt by omega) (show f9_3__f0__toInt_toNat.toInt ≤ 300 by omega)  hw hT hF (OKW_cast hO (show gd + 1 = gd + 1 by omega)) c272 c260 c273 c274 c275 (lv_sub hl [0] rfl)
          · have ex263 : x263.toInt = f9_0_1.toInt := by rw [← c272.symm.trans c264]
            have g267 : (x265.toInt = x231.toInt ∨ (gi w225 1 (x231.toInt).toNat).toInt = 32) := by have q := g267; simp only [c245, c273, c232, c266] at q; omega
            refine lv_bipush (v := 45) hx hb dX12_sum_22 (by decide) ?_
            refine lv_icmp_ne (tgt := 75) hx hb dX12_sum_24 (by decide) (fun _ => ?_) (fun c => absurd c (by decide))
            refine lv_iconst (v := 1) hx hb dX12_sum_75 (by decide) ?_
            exact tk_zret hC hr rfl hlocks hK ⟨hT, hF, (Or.inr (Or.inr (Or.inl ⟨rfl, ⟨f9_0_1, c272, (show 1 ≤ f9_0_1.toInt by omega), (show f9_0_1.toInt ≤ 400 by omega)⟩, ⟨f0_, c273, (show 0 ≤ f0_.toInt by omega), (show f0_.toInt ≤ 5 by omega)⟩, ⟨f9_0_18, c274, (show 1 ≤ f9_0_18.toInt by omega), (show f9_0_18.toInt ≤ 60 by omega)⟩, (OKW_cast hO (by omega)), (by simp only [c273, cf0_, cf2_, c275, cf1_, c274]; omega), (by simp only [c273, cf0_, cf1_, c274]; omega)⟩)))⟩ hw dX12_sum_76
          · have ex268 : x268.toInt = f9_0_1.toInt := by rw [← c272.symm.trans c269]
            obtain ⟨x276, c277, rx276, tx276⟩ := hT.rdi (lo := 0) (hi := 400) (k := 14) kM_at0 (by decide) rfl
            have g270 : (x276.toInt = x231.toInt ∨ (gi w225 1 (x231.toInt).toNat).toInt = 32) := by have q := g270; simp only [c245, c273, c232, c277] at q; omega
            refine lv_bipush (v := 45) hx hb dX12_sum_22 (by decide) ?_
            refine lv_icmp_ne (tgt := 75) hx hb dX12_sum_24 (by decide) (fun _ => ?_) (fun c => absurd c (by decide))
            refine lv_iconst (v := 1) hx hb dX12_sum_75 (by decide) ?_
            exact tk_zret hC hr rfl hlocks hK ⟨hT, hF, (Or.inr (Or.inr (Or.inl ⟨rfl, ⟨f9_0_1, c272, (show 1 ≤ f9_0_1.toInt by omega), (show f9_0_1.toInt ≤ 400 by omega)⟩, ⟨f0_, c273, (show 0 ≤ f0_.toInt by omega), (show f0_.toInt ≤ 5 by omega)⟩, ⟨f9_0_18, c274, (show 1 ≤ f9_0_18.toInt by omega), (show f9_0_18.toInt ≤ 60 by omega)⟩, (OKW_cast hO (by omega)), (by simp only [c273, cf0_, cf2_, c275, cf1_, c274]; omega), (by simp only [c273, cf0_, cf1_, c274]; omega)⟩)))⟩ hw dX12_sum_76
      · have ex235 : x235.toInt = f9_0_1.toInt := by rw [← c244.symm.trans c236]
        have g239 : (x237.toInt = x221.toInt ∨ (gi w1 1 (x221.toInt).toNat).toInt = 32) := by have q := g239; simp only [c7, c245, c222, c238] at q; omega
        refine lv_bipush (v := 43) hx hb dX12_sum_13 (by decide) ?_
        refine lv_icmp_eq (tgt := 27) hx hb dX12_sum_15 (by decide) (fun c => absurd c (by decide)) (fun _ => ?_)
        refine lv_aload_n hx hb dX12_sum_18 rfl (lv_at hl 0 rfl) ?_
        refine tk_Vi hC hK hw hT hA hE hSR kM_at0 (by decide) rfl (k_X12_see_1 l adK adV dC dI cy ad B (by omega) (by omega) qr s1    w225 H.size hT x237 c238 (show 0 ≤ x237.toInt by omega) (show x237.toInt ≤ 400 by omega)) (cwV 0 hC.2.2.2.2 gX12_sum_X12_see rfl rfl rfl (by decide +kernel) ⟨Nat.le_of_ble_eq_true rfl, Nat.le_of_ble_eq_true rfl⟩) rfl hl.1 rfl (Nat.le_of_ble_eq_true rfl) dX12_sum_19 (fun r279 w281 H locs hp280 hw => ?_)
        obtain ⟨hT, k282, hg299⟩ := hp280
        have hO := OKW_FE k282 (fun _ => rfl) (fun _ => rfl) (fun _ => rfl) (fun _ => rfl) hO
        have hF := hF.tr k282 (by decide)
        have c300 := k282.gi kM_at0 (by decide) c244
        have c301 := k282.gi kM_at0 (by decide) c245
        have c302 := k282.gi kM_at0 (by decide) c246
        have c303 := k282.gi kM_at3 rfl c247
        rcases hg299 with ⟨g283, g284, ⟨x285, c286, rx285, tx285⟩, ⟨x287, c288, rx287, tx287⟩, g289, g290⟩ | ⟨rfl, ⟨x291, c292, rx291, tx291⟩, ⟨x293, c294, rx293, tx293⟩, g295⟩ | ⟨rfl, ⟨x296, c297, rx296, tx296⟩, g298⟩
        · have ex285 : x285.toInt = f9_0_1.toInt := by rw [← c300.symm.trans c286]
          have g289 : (gi w281 1 (x287.toInt).toNat).toInt ≠ 32 := by have q := g289; simp only [c245, c301, c288] at q; omega
          have g290 : (x287.toInt = x237.toInt ∨ (gi w225 1 (x237.toInt).toNat).toInt = 32) := by have q := g290; simp only [c245, c301, c238, c288] at q; omega
          refine lv_bipush (v := 45) hx hb dX12_sum_22 (by decide) ?_
          refine lv_icmp_ne (tgt := 75) hx hb dX12_sum_24 (by decide) (fun c306 => ?_) (fun c306 => ?_)
          · have c306 : ¬ r279.toInt = (45 : Int) := wk_eqF c306
            refine lv_iconst (v := 1) hx hb dX12_sum_75 (by decide) ?_
            exact tk_zret hC hr rfl hlocks hK ⟨hT, hF, (Or.inr (Or.inr (Or.inl ⟨rfl, ⟨f9_0_1, c300, (show 1 ≤ f9_0_1.toInt by omega), (show f9_0_1.toInt ≤ 400 by omega)⟩, ⟨f0_, c301, (show 0 ≤ f0_.toInt by omega), (show f0_.toInt ≤ 5 by omega)⟩, ⟨f9_0_18, c302, (show 1 ≤ f9_0_18.toInt by omega), (show f9_0_18.toInt ≤ 60 by omega)⟩, (OKW_cast hO (by omega)), (by simp only [c301, cf0_, cf2_, c303, cf1_, c302]; omega), (by simp only [c301, cf0_, cf1_, c302]; omega)⟩)))⟩ hw dX12_sum_76
          · have c306 : r279.toInt = (45 : Int) := wk_eq.mp c306
            exact J27 x287 H locs ls w281 (show 1 ≤ f9_0_1.toInt by omega) (show f9_0_1.toInt ≤ 400 by omega) (show 0 ≤ x287.toInt by omega) (show x287.toInt ≤ 399 by omega) (show 0 ≤ f0_.toInt by omega) (show f0_.toInt ≤ 5 by omega) (show 1 ≤ f9_0_18.toInt by omega) (show f9_0_18.toInt ≤ 60 by omega) (show 0 ≤ f9_3__f0__toInt_toNat.toInt by omega) (show f9_3__f0__toInt_toNat.toInt ≤ 300 by omega) (show 3 * f9_3__f0__toInt_toNat.toInt + 11 ≤ 3 * f2_.toInt + 14 * (f9_0_18.toInt - f1_.toInt) by omega) (show f1_.toInt + 1 ≤ f9_0_18.toInt by omega) (show f9_3__f0__toInt_toNat.toInt ≤ 300 by omega)  hw hT hF (OKW_cast hO (show gd + 1 = gd + 1 by omega)) c300 c288 c301 c302 c303 (lv_sub hl [0] rfl)
        · have ex291 : x291.toInt = f9_0_1.toInt := by rw [← c300.symm.trans c292]
          have g295 : (x293.toInt = x237.toInt ∨ (gi w225 1 (x237.toInt).toNat).toInt = 32) := by have q := g295; simp only [c245, c301, c238, c294] at q; omega
          refine lv_bipush (v := 45) hx hb dX12_sum_22 (by decide) ?_
          refine lv_icmp_ne (tgt := 75) hx hb dX12_sum_24 (by decide) (fun _ => ?_) (fun c => absurd c (by decide))
          refine lv_iconst (v := 1) hx hb dX12_sum_75 (by decide) ?_
          exact tk_zret hC hr rfl hlocks hK ⟨hT, hF, (Or.inr (Or.inr (Or.inl ⟨rfl, ⟨f9_0_1, c300, (show 1 ≤ f9_0_1.toInt by omega), (show f9_0_1.toInt ≤ 400 by omega)⟩, ⟨f0_, c301, (show 0 ≤ f0_.toInt by omega), (show f0_.toInt ≤ 5 by omega)⟩, ⟨f9_0_18, c302, (show 1 ≤ f9_0_18.toInt by omega), (show f9_0_18.toInt ≤ 60 by omega)⟩, (OKW_cast hO (by omega)), (by simp only [c301, cf0_, cf2_, c303, cf1_, c302]; omega), (by simp only [c301, cf0_, cf1_, c302]; omega)⟩)))⟩ hw dX12_sum_76
        · have ex296 : x296.toInt = f9_0_1.toInt := by rw [← c300.symm.trans c297]
          obtain ⟨x304, c305, rx304, tx304⟩ := hT.rdi (lo := 0) (hi := 400) (k := 14) kM_at0 (by decide) rfl
          have g298 : (x304.toInt = x237.toInt ∨ (gi w225 1 (x237.toInt).toNat).toInt = 32) := by have q := g298; simp only [c245, c301, c238, c305] at q; omega
          refine lv_bipush (v := 45) hx hb dX12_sum_22 (by decide) ?_
          refine lv_icmp_ne (tgt := 75) hx hb dX12_sum_24 (by decide) (fun _ => ?_) (fun c => absurd c (by decide))
          refine lv_iconst (v := 1) hx hb dX12_sum_75 (by decide) ?_
          exact tk_zret hC hr rfl hlocks hK ⟨hT, hF, (Or.inr (Or.inr (Or.inl ⟨rfl, ⟨f9_0_1, c300, (show 1 ≤ f9_0_1.toInt by omega), (show f9_0_1.toInt ≤ 400 by omega)⟩, ⟨f0_, c301, (show 0 ≤ f0_.toInt by omega), (show f0_.toInt ≤ 5 by omega)⟩, ⟨f9_0_18, c302, (show 1 ≤ f9_0_18.toInt by omega), (show f9_0_18.toInt ≤ 60 by omega)⟩, (OKW_cast hO (by omega)), (by simp only [c301, cf0_, cf2_, c303, cf1_, c302]; omega), (by simp only [c301, cf0_, cf1_, c302]; omega)⟩)))⟩ hw dX12_sum_76
      · have ex240 : x240.toInt = f9_0_1.toInt := by rw [← c244.symm.trans c241]
        obtain ⟨x248, c249, rx248, tx248⟩ := hT.rdi (lo := 0) (hi := 400) (k := 14) kM_at0 (by decide) rfl
        have g242 : (x248.toInt = x221.toInt ∨ (gi w1 1 (x221.toInt).toNat).toInt = 32) := by have q := g242; simp only [c7, c245, c222, c249] at q; omega
        refine lv_bipush (v := 43) hx hb dX12_sum_13 (by decide) ?_
        refine lv_icmp_eq (tgt := 27) hx hb dX12_sum_15 (by decide) (fun c => absurd c (by decide)) (fun _ => ?_)
        refine lv_aload_n hx hb dX12_sum_18 rfl (lv_at hl 0 rfl) ?_
        refine tk_Vi hC hK hw hT hA hE hSR kM_at0 (by decide) rfl (k_X12_see_1 l adK adV dC dI cy ad B (by omega) (by omega) qr s1    w225 H.size hT x248 c249 (show 0 ≤ x248.toInt by omega) (show x248.toInt ≤ 400 by omega)) (cwV 0 hC.2.2.2.2 gX12_sum_X12_see rfl rfl rfl (by decide +kernel) ⟨Nat.le_of_ble_eq_true rfl, Nat.le_of_ble_eq_true rfl⟩) rfl hl.1 rfl (Nat.le_of_ble_eq_true rfl) dX12_sum_19 (fun r307 w309 H locs hp308 hw => ?_)
        obtain ⟨hT, k310, hg327⟩ := hp308
        have hO := OKW_FE k310 (fun _ => rfl) (fun _ => rfl) (fun _ => rfl) (fun _ => rfl) hO
        have hF := hF.tr k310 (by decide)
        have c328 := k310.gi kM_at0 (by decide) c244
        have c329 := k310.gi kM_at0 (by decide) c245
        have c330 := k310.gi kM_at0 (by decide) c246
        have c331 := k310.gi kM_at3 rfl c247
        rcases hg327 with ⟨g311, g312, ⟨x313, c314, rx313, tx313⟩, ⟨x315, c316, rx315, tx315⟩, g317, g318⟩ | ⟨rfl, ⟨x319, c320, rx319, tx319⟩, ⟨x321, c322, rx321, tx321⟩, g323⟩ | ⟨rfl, ⟨x324, c325, rx324, tx324⟩, g326⟩
        · have ex313 : x313.toInt = f9_0_1.toInt := by rw [← c328.symm.trans c314]
          have g317 : (gi w309 1 (x315.toInt).toNat).toInt ≠ 32 := by have q := g317; simp only [c245, c329, c316] at q; omega
          have g318 : (x315.toInt = x248.toInt ∨ (gi w225 1 (x248.toInt).toNat).toInt = 32) := by have q := g318; simp only [c245, c329, c249, c316] at q; omega
          refine lv_bipush (v := 45) hx hb dX12_sum_22 (by decide) ?_
          refine lv_icmp_ne (tgt := 75) hx hb dX12_sum_24 (by decide) (fun c334 => ?_) (fun c334 => ?_)
          · have c334 : ¬ r307.toInt = (45 : Int) := wk_eqF c334
            refine lv_iconst (v := 1) hx hb dX12_sum_75 (by decide) ?_
            exact tk_zret hC hr rfl hlocks hK ⟨hT, hF, (Or.inr (Or.inr (Or.inl ⟨rfl, ⟨f9_0_1, c328, (show 1 ≤ f9_0_1.toInt by omega), (show f9_0_1.toInt ≤ 400 by omega)⟩, ⟨f0_, c329, (show 0 ≤ f0_.toInt by omega), (show f0_.toInt ≤ 5 by omega)⟩, ⟨f9_0_18, c330, (show 1 ≤ f9_0_18.toInt by omega), (show f9_0_18.toInt ≤ 60 by omega)⟩, (OKW_cast hO (by omega)), (by simp only [c329, cf0_, cf2_, c331, cf1_, c330]; omega), (by simp only [c329, cf0_, cf1_, c330]; omega)⟩)))⟩ hw dX12_sum_76
          · have c334 : r307.toInt = (45 : Int) := wk_eq.mp c334
            exact J27 x315 H locs ls w309 (show 1 ≤ f9_0_1.toInt by omega) (show f9_0_1.toInt ≤ 400 by omega) (show 0 ≤ x315.toInt by omega) (show x315.toInt ≤ 399 by omega) (show 0 ≤ f0_.toInt by omega) (show f0_.toInt ≤ 5 by omega) (show 1 ≤ f9_0_18.toInt by omega) (show f9_0_18.toInt ≤ 60 by omega) (show 0 ≤ f9_3__f0__toInt_toNat.toInt by omega) (show f9_3__f0__toInt_toNat.toInt ≤ 300 by omega) (show 3 * f9_3__f0__toInt_toNat.toInt + 11 ≤ 3 * f2_.toInt + 14 * (f9_0_18.toInt - f1_.toInt) by omega) (show f1_.toInt + 1 ≤ f9_0_18.toInt by omega) (show f9_3__f0__toInt_toNat.toInt ≤ 300 by omega)  hw hT hF (OKW_cast hO (show gd + 1 = gd + 1 by omega)) c328 c316 c329 c330 c331 (lv_sub hl [0] rfl)
        · have ex319 : x319.toInt = f9_0_1.toInt := by rw [← c328.symm.trans c320]
          have g323 : (x321.toInt = x248.toInt ∨ (gi w225 1 (x248.toInt).toNat).toInt = 32) := by have q := g323; simp only [c245, c329, c249, c322] at q; omega
          refine lv_bipush (v := 45) hx hb dX12_sum_22 (by decide) ?_
          refine lv_icmp_ne (tgt := 75) hx hb dX12_sum_24 (by decide) (fun _ => ?_) (fun c => absurd c (by decide))
          refine lv_iconst (v := 1) hx hb dX12_sum_75 (by decide) ?_
          exact tk_zret hC hr rfl hlocks hK ⟨hT, hF, (Or.inr (Or.inr (Or.inl ⟨rfl, ⟨f9_0_1, c328, (show 1 ≤ f9_0_1.toInt by omega), (show f9_0_1.toInt ≤ 400 by omega)⟩, ⟨f0_, c329, (show 0 ≤ f0_.toInt by omega), (show f0_.toInt ≤ 5 by omega)⟩, ⟨f9_0_18, c330, (show 1 ≤ f9_0_18.toInt by omega), (show f9_0_18.toInt ≤ 60 by omega)⟩, (OKW_cast hO (by omega)), (by simp only [c329, cf0_, cf2_, c331, cf1_, c330]; omega), (by simp only [c329, cf0_, cf1_, c330]; omega)⟩)))⟩ hw dX12_sum_76
        · have ex324 : x324.toInt = f9_0_1.toInt := by rw [← c328.symm.trans c325]
          obtain ⟨x332, c333, rx332, tx332⟩ := hT.rdi (lo := 0) (hi := 400) (k := 14) kM_at0 (by decide) rfl
          have g326 : (x332.toInt = x248.toInt ∨ (gi w225 1 (x248.toInt).toNat).toInt = 32) := by have q := g326; simp only [c245, c329, c249, c333] at q; omega
          refine lv_bipush (v := 45) hx hb dX12_sum_22 (by decide) ?_
          refine lv_icmp_ne (tgt := 75) hx hb dX12_sum_24 (by decide) (fun _ => ?_) (fun c => absurd c (by decide))
          refine lv_iconst (v := 1) hx hb dX12_sum_75 (by decide) ?_
          exact tk_zret hC hr rfl hlocks hK ⟨hT, hF, (Or.inr (Or.inr (Or.inr ⟨rfl, ⟨f9_0_1, c328, (show 0 ≤ f9_0_1.toInt by omega), (show f9_0_1.toInt ≤ 400 by omega)⟩, ⟨f0_, c329, (show 0 ≤ f0_.toInt by omega), (show f0_.toInt ≤ 5 by omega)⟩, ⟨f9_0_18, c330, (show 1 ≤ f9_0_18.toInt by omega), (show f9_0_18.toInt ≤ 60 by omega)⟩, (OKW_cast hO (by omega)), (by simp only [c329, cf0_, cf2_, c331, cf1_, c330]; omega), (by simp only [c329, cf0_, cf1_, c330]; omega)⟩)))⟩ hw dX12_sum_76
  refine lv_aload_n hx hb dX12_sum_0 rfl (lv_at hl 0 rfl) ?_
  refine tk_Vi hC hK hw hT hA hE hSR kM_at0 (by decide) rfl (k_X12_term_1 l adK adV dC dI cy ad B (by omega) (by omega) qr s1    w0 s.heap.size hT f0_ cf0_ (show 0 ≤ f0_.toInt by omega) (show f0_.toInt ≤ 5 by omega) f1_ cf1_ (show 0 ≤ f1_.toInt by omega) (show f1_.toInt ≤ 60 by omega) f2_ cf2_ (show 0 ≤ f2_.toInt by omega) (show f2_.toInt ≤ 400 by omega) (show 3 * f2_.toInt ≤ 14 * f1_.toInt + 60 by omega) (show f2_.toInt ≤ 300 by omega) gb (gd) (by omega) (by omega) (OKW_cast hO (show gd = gd by omega))) (cwV 0 hC.2.2.2.2 gX12_sum_X12_term rfl rfl rfl (by decide +kernel) ⟨Nat.le_of_ble_eq_true rfl, Nat.le_of_ble_eq_true rfl⟩) rfl hl.1 rfl (Nat.le_of_ble_eq_true rfl) dX12_sum_1 (fun r335 w337 H locs hp336 hw => ?_)
  obtain ⟨hT, k338, hg371⟩ := hp336
  have hF := hF.tr k338 (by decide)
  have c372 := k338.gi kM_at0 (by decide) cf0_
  rcases hg371 with ⟨rfl, ⟨x339, c340, rx339, tx339⟩, ⟨x341, c342, rx341, tx341⟩, ⟨x343, c344, rx343, tx343⟩, hq345⟩ | ⟨rfl, ⟨x346, c347, rx346, tx346⟩, ⟨x348, c349, rx348, tx348⟩, ⟨x350, c351, rx350, tx350⟩, hq352⟩ | ⟨rfl, ⟨x353, c354, rx353, tx353⟩, ⟨x355, c356, rx355, tx355⟩, ⟨x357, c358, rx357, tx357⟩, hq359, g360, g361⟩ | ⟨rfl, ⟨x362, c363, rx362, tx362⟩, ⟨x364, c365, rx364, tx364⟩, ⟨x366, c367, rx366, tx366⟩, hq368, g369, g370⟩
  · have ex343 : x343.toInt = f0_.toInt := by rw [← c372.symm.trans c344]
    obtain ⟨x373, c374, rx373, tx373⟩ := hT.rda (lo := 0) (hi := 400) (i := (f0_.toInt).toNat) kM_at3 rfl rfl (by omega)
    obtain ⟨x375, c376, rx375, tx375⟩ := hT.rdi (lo := 0) (hi := 60) (k := 18) kM_at0 (by decide) rfl
    have hR := hq345
    refine lv_if_ne (tgt := 9) hx hb dX12_sum_4 (by decide) (fun c => absurd (by decide) c) (fun _ => ?_)
    refine lv_iconst (v := 0) hx hb dX12_sum_7 (by decide) ?_
    exact tk_zret hC hr rfl hlocks hK ⟨hT, hF, (Or.inl ⟨rfl, ⟨x339, c340, (show 1 ≤ x339.toInt by omega), (show x339.toInt ≤ 400 by omega)⟩, ⟨x341, c342, (show 1 ≤ x341.toInt by omega), (show x341.toInt ≤ 3205 by omega)⟩, ⟨f0_, c372, (show 0 ≤ f0_.toInt by omega), (show f0_.toInt ≤ 5 by omega)⟩, hR⟩)⟩ hw dX12_sum_8
  · have ex350 : x350.toInt = f0_.toInt := by rw [← c372.symm.trans c351]
    obtain ⟨x377, c378, rx377, tx377⟩ := hT.rda (lo := 0) (hi := 400) (i := (f0_.toInt).toNat) kM_at3 rfl rfl (by omega)
    obtain ⟨x379, c380, rx379, tx379⟩ := hT.rdi (lo := 0) (hi := 60) (k := 18) kM_at0 (by decide) rfl
    have hR := hq352
    refine lv_if_ne (tgt := 9) hx hb dX12_sum_4 (by decide) (fun c => absurd (by decide) c) (fun _ => ?_)
    refine lv_iconst (v := 0) hx hb dX12_sum_7 (by decide) ?_
    exact tk_zret hC hr rfl hlocks hK ⟨hT, hF, (Or.inr (Or.inl ⟨rfl, ⟨x346, c347, (show 0 ≤ x346.toInt by omega), (show x346.toInt ≤ 400 by omega)⟩, ⟨x348, c349, (show 1 ≤ x348.toInt by omega), (show x348.toInt ≤ 3205 by omega)⟩, ⟨f0_, c372, (show 0 ≤ f0_.toInt by omega), (show f0_.toInt ≤ 5 by omega)⟩, hR⟩))⟩ hw dX12_sum_8
  · have ex355 : x355.toInt = f0_.toInt := by rw [← c372.symm.trans c356]
    obtain ⟨x381, c382, rx381, tx381⟩ := hT.rda (lo := 0) (hi := 400) (i := (f0_.toInt).toNat) kM_at3 rfl rfl (by omega)
    have g360 : 3 * x381.toInt + 11 ≤ 3 * f2_.toInt + 14 * (x357.toInt - f1_.toInt) := by have q := g360; simp only [cf0_, c372, cf2_, c382, cf1_, c358] at q; omega
    have g361 : f1_.toInt + 1 ≤ x357.toInt := by have q := g361; simp only [cf0_, c372, cf1_, c358] at q; omega
    have hO : OKW w337 f0_.toInt gb ((gd) + 1) := by have q := hq359; exact OKW_cast q (by omega)
    refine lv_if_ne (tgt := 9) hx hb dX12_sum_4 (by decide) (fun _ => ?_) (fun c => absurd c (by decide))
    exact L9 ((60 - x357.toInt).toNat + 1) x353 x357 x381 H locs ls w337 (show 0 ≤ x353.toInt by omega) (show x353.toInt ≤ 400 by omega) (show 0 ≤ f0_.toInt by omega) (show f0_.toInt ≤ 5 by omega) (show 1 ≤ x357.toInt by omega) (show x357.toInt ≤ 60 by omega) (show 0 ≤ x381.toInt by omega) (show x381.toInt ≤ 300 by omega) (show 3 * x381.toInt + 11 ≤ 3 * f2_.toInt + 14 * (x357.toInt - f1_.toInt) by omega) (show f1_.toInt + 1 ≤ x357.toInt by omega) (show x381.toInt ≤ 300 by omega) (Nat.lt_succ_self _) hw hT hF (OKW_cast hO (show (gd) + 1 = gd + 1 by omega)) c354 c372 c358 c382 (lv_sub hl [0] rfl)
  · have ex364 : x364.toInt = f0_.toInt := by rw [← c372.symm.trans c365]
    obtain ⟨x383, c384, rx383, tx383⟩ := hT.rda (lo := 0) (hi := 400) (i := (f0_.toInt).toNat) kM_at3 rfl rfl (by omega)
    have g369 : 3 * x383.toInt + 11 ≤ 3 * f2_.toInt + 14 * (x366.toInt - f1_.toInt) := by have q := g369; simp only [cf0_, c372, cf2_, c384, cf1_, c367] at q; omega
    have g370 : f1_.toInt + 1 ≤ x366.toInt := by have q := g370; simp only [cf0_, c372, cf1_, c367] at q; omega
    have hO : OKW w337 f0_.toInt gb ((gd) + 1) := by have q := hq368; exact OKW_cast q (by omega)
    refine lv_if_ne (tgt := 9) hx hb dX12_sum_4 (by decide) (fun _ => ?_) (fun c => absurd c (by decide))
    exact L9 ((60 - x366.toInt).toNat + 1) x362 x366 x383 H locs ls w337 (show 0 ≤ x362.toInt by omega) (show x362.toInt ≤ 400 by omega) (show 0 ≤ f0_.toInt by omega) (show f0_.toInt ≤ 5 by omega) (show 1 ≤ x366.toInt by omega) (show x366.toInt ≤ 60 by omega) (show 0 ≤ x383.toInt by omega) (show x383.toInt ≤ 300 by omega) (show 3 * x383.toInt + 11 ≤ 3 * f2_.toInt + 14 * (x366.toInt - f1_.toInt) by omega) (show f1_.toInt + 1 ≤ x366.toInt by omega) (show x383.toInt ≤ 300 by omega) (Nat.lt_succ_self _) hw hT hF (OKW_cast hO (show (gd) + 1 = gd + 1 by omega)) c363 c372 c367 c384 (lv_sub hl [0] rfl)
abbrev P_X12_compare_1 (ad : Nat → Nat) (cy : Nat → ClassId) (B : Int) (qr : Nat) (s1 : Int)  (gT gb gd : Int) (w0 : va_W) : Int32 → va_W → Prop := fun r u => TW ksM ad cy B qr 12 u ∧ FE ksM [(12, 14, 14), (12, 15, 15), (12, 16, 16), (12, 18, 18), (61, 0, 2400), (62, 0, 7)] w0 u ∧ ((r = 0 ∧ (∃ y : Int32, gi u 0 1 = y ∧ 1 ≤ y.toInt ∧ y.toInt ≤ 400) ∧ (∃ y : Int32, gi u 0 15 = y ∧ 1 ≤ y.toInt ∧ y.toInt ≤ 3205) ∧ (∃ y : Int32, gi u 0 17 = y ∧ 0 ≤ y.toInt ∧ y.toInt ≤ 5) ∧ RLc u gT) ∨ (r = 0 ∧ (∃ y : Int32, gi u 0 1 = y ∧ 0 ≤ y.toInt ∧ y.toInt ≤ 400) ∧ (∃ y : Int32, gi u 0 15 = y ∧ 1 ≤ y.toInt ∧ y.toInt ≤ 3205) ∧ (∃ y : Int32, gi u 0 17 = y ∧ 0 ≤ y.toInt ∧ y.toInt ≤ 5) ∧ RLc u gT) ∨ (r = 1 ∧ (∃ y : Int32, gi u 0 1 = y ∧ 1 ≤ y.toInt ∧ y.toInt ≤ 400) ∧ (∃ y : Int32, gi u 0 17 = y ∧ 0 ≤ y.toInt ∧ y.toInt ≤ 5) ∧ (∃ y : Int32, gi u 0 18 = y ∧ 1 ≤ y.toInt ∧ y.toInt ≤ 60) ∧ OKW u gT gb (gd + 1) ∧ (3 * (gi u 3 ((gi u 0 17).toInt).toNat).toInt + 33 ≤ 3 * (gi w0 3 ((gi w0 0 17).toInt).toNat).toInt + 14 * ((gi u 0 18).toInt - (gi w0 0 18).toInt)) ∧ ((gi w0 0 18).toInt + 3 ≤ (gi u 0 18).toInt)))
set_option maxHeartbeats 4000000 in
set_option maxRecDepth 100000 in
theorem k_X12_compare_1 (l : Launch) (adK adV : Nat → Nat) (dC : Nat → ClassId) (dI : Nat → Nat → Nat) (cy : Nat → ClassId) (ad : Nat → Nat) (B : Int) (hB0 : 100000 ≤ B) (hB1 : B ≤ 1073741824) (qr : Nat) (s1 : Int)   (w0 : va_W) (sz : Nat) (hT : TW ksM ad cy B qr 12 w0) (f0_ : Int32) (cf0_ : gi w0 0 17 = f0_) (rf0_ : 0 ≤ f0_.toInt) (tf0_ : f0_.toInt ≤ 5) (f1_ : Int32) (cf1_ : gi w0 0 18 = f1_) (rf1_ : 0 ≤ f1_.toInt) (tf1_ : f1_.toInt ≤ 60) (f2_ : Int32) (cf2_ : gi w0 3 (f0_.toInt).toNat = f2_) (rf2_ : 0 ≤ f2_.toInt) (tf2_ : f2_.toInt ≤ 400) (pr0_ : 3 * f2_.toInt ≤ 14 * f1_.toInt + 30) (pr1_ : f2_.toInt ≤ 290) (gb gd : Int) (hgd0 : 0 ≤ gd) (hgd1 : gd ≤ f1_.toInt) (hO : OKW w0 f0_.toInt gb (gd)) : Met l yX12_compare wsX12_compare ({ frames := 7, cells := 0, slots := 0, locals := 142 }) (va_Pc [.ref (ad 0)] (wpreS adK adV dC dI cy sz w0)) (va_Qi (P_X12_compare_1 ad cy B qr s1  f0_.toInt gb gd w0) (fun u : va_W => wpost dC dI cy (va_A w0 sz) u) (va_A w0 sz)) 0 0 (va_A w0 sz) := by
  refine Met.ofW (cc := cX12_compare) (maxL := 5) (ret := (some .boolean)) (by decide) rfl ?_
  intro p e s m args below meth c s₁ Bk hml hv
  obtain ⟨rfl, ⟨hsz, hP, hK, hD0⟩, hE, hSR⟩ := hv
  have hx := Bk.exec
  have hb := Bk.bytes
  have hr := Bk.returns
  have hlocks := Bk.notSynchronized
  have hC : CallFix p m c cX12_compare 5 s _ wsX12_compare RX12 := ⟨hx, hb, hml, findClass_of_methodNamed Bk.named, atoms_spec (ws := wsX12_compare) Bk.pre⟩
  subst hsz
  have hD := hD0.self (sz := s.heap.size)
  generalize hAe : va_A w0 s.heap.size = A at hD hE ⊢
  have hA : ∀ q : Nat, s.heap.size ≤ q → A q := fun q h => by rw [← hAe]; exact Or.inr h
  have hw : Wd dC dI A s.heap s.heap [] w0 := ⟨hP, hD, va_S.rf⟩
  have hF : FE ksM [(12, 14, 14), (12, 15, 15), (12, 16, 16), (12, 18, 18), (61, 0, 2400), (62, 0, 7)] w0 w0 := FE.rf
  have hl := lv_entry ([.ref (ad 0)]) (n := 5) (Nat.le_of_ble_eq_true rfl)
  rw [lg_entry_eq]
  generalize (lg_sl ([.ref (ad 0)]) ++ List.replicate (5 - (lg_sl ([.ref (ad 0)])).length) Slot.unset).toArray = ls at hl ⊢
  have hl : lv_has ls 5 [(0, .ref (ad 0))] := hl
  generalize hloc : ([] : List Loc) = locs at hw ⊢
  have hinX12 : ∀ w ∈ u_ws RX12 TX12 42, w ∈ wsX12_compare := fun _ h => List.mem_cons_of_mem _ (List.mem_append_right _ (h))
  refine lv_aload_n hx hb dX12_compare_0 rfl (lv_at hl 0 rfl) ?_
  refine tk_Vi hC hK hw hT hA hE hSR kM_at0 (by decide) rfl (k_X12_sum_1 l adK adV dC dI cy ad B (by omega) (by omega) qr s1    w0 s.heap.size hT f0_ cf0_ (show 0 ≤ f0_.toInt by omega) (show f0_.toInt ≤ 5 by omega) f1_ cf1_ (show 0 ≤ f1_.toInt by omega) (show f1_.toInt ≤ 60 by omega) f2_ cf2_ (show 0 ≤ f2_.toInt by omega) (show f2_.toInt ≤ 400 by omega) (show 3 * f2_.toInt ≤ 14 * f1_.toInt + 60 by omega) (show f2_.toInt ≤ 300 by omega) gb (gd) (by omega) (by omega) (OKW_cast hO (show gd = gd by omega))) (cwV 0 hC.2.2.2.2 gX12_compare_X12_sum rfl rfl rfl (by decide +kernel) ⟨Nat.le_of_ble_eq_true rfl, Nat.le_of_ble_eq_true rfl⟩) rfl hl.1 rfl (Nat.le_of_ble_eq_true rfl) dX12_compare_1 (fun r1 w3 H locs hp2 hw => ?_)
  obtain ⟨hT, k4, hg37⟩ := hp2
  have hF := hF.tr k4 (by decide)
  have c38 := k4.gi kM_at0 (by decide) cf0_
  rcases hg37 with ⟨rfl, ⟨x5, c6, rx5, tx5⟩, ⟨x7, c8, rx7, tx7⟩, ⟨x9, c10, rx9, tx9⟩, hq11⟩ | ⟨rfl, ⟨x12, c13, rx12, tx12⟩, ⟨x14, c15, rx14, tx14⟩, ⟨x16, c17, rx16, tx16⟩, hq18⟩ | ⟨rfl, ⟨x19, c20, rx19, tx19⟩, ⟨x21, c22, rx21, tx21⟩, ⟨x23, c24, rx23, tx23⟩, hq25, g26, g27⟩ | ⟨rfl, ⟨x28, c29, rx28, tx28⟩, ⟨x30, c31, rx30, tx30⟩, ⟨x32, c33, rx32, tx32⟩, hq34, g35, g36⟩
  · have ex9 : x9.toInt = f0_.toInt := by rw [← c38.symm.trans c10]
    obtain ⟨x39, c40, rx39, tx39⟩ := hT.rda (lo := 0) (hi := 400) (i := (f0_.toInt).toNat) kM_at3 rfl rfl (by omega)
    obtain ⟨x41, c42, rx41, tx41⟩ := hT.rdi (lo := 0) (hi := 60) (k := 18) kM_at0 (by decide) rfl
    have hR := hq11
    refine lv_if_ne (tgt := 9) hx hb dX12_compare_4 (by decide) (fun c => absurd (by decide) c) (fun _ => ?_)
    refine lv_iconst (v := 0) hx hb dX12_compare_7 (by decide) ?_
    exact tk_zret hC hr rfl hlocks hK ⟨hT, hF, (Or.inl ⟨rfl, ⟨x5, c6, (show 1 ≤ x5.toInt by omega), (show x5.toInt ≤ 400 by omega)⟩, ⟨x7, c8, (show 1 ≤ x7.toInt by omega), (show x7.toInt ≤ 3205 by omega)⟩, ⟨f0_, c38, (show 0 ≤ f0_.toInt by omega), (show f0_.toInt ≤ 5 by omega)⟩, hR⟩)⟩ hw dX12_compare_8
  · have ex16 : x16.toInt = f0_.toInt := by rw [← c38.symm.trans c17]
    obtain ⟨x43, c44, rx43, tx43⟩ := hT.rda (lo := 0) (hi := 400) (i := (f0_.toInt).toNat) kM_at3 rfl rfl (by omega)
    obtain ⟨x45, c46, rx45, tx45⟩ := hT.rdi (lo := 0) (hi := 60) (k := 18) kM_at0 (by decide) rfl
    have hR := hq18
    refine lv_if_ne (tgt := 9) hx hb dX12_compare_4 (by decide) (fun c => absurd (by decide) c) (fun _ => ?_)
    refine lv_iconst (v := 0) hx hb dX12_compare_7 (by decide) ?_
    exact tk_zret hC hr rfl hlocks hK ⟨hT, hF, (Or.inr (Or.inl ⟨rfl, ⟨x12, c13, (show 0 ≤ x12.toInt by omega), (show x12.toInt ≤ 400 by omega)⟩, ⟨x14, c15, (show 1 ≤ x14.toInt by omega), (show x14.toInt ≤ 3205 by omega)⟩, ⟨f0_, c38, (show 0 ≤ f0_.toInt by omega), (show f0_.toInt ≤ 5 by omega)⟩, hR⟩))⟩ hw dX12_compare_8
  · have ex21 : x21.toInt = f0_.toInt := by rw [← c38.symm.trans c22]
    obtain ⟨x47, c48, rx47, tx47⟩ := hT.rda (lo := 0) (hi := 400) (i := (f0_.toInt).toNat) kM_at3 rfl rfl (by omega)
    have g26 : 3 * x47.toInt + 11 ≤ 3 * f2_.toInt + 14 * (x23.toInt - f1_.toInt) := by have q := g26; simp only [cf0_, c38, cf2_, c48, cf1_, c24] at q; omega
    have g27 : f1_.toInt + 1 ≤ x23.toInt := by have q := g27; simp only [cf0_, c38, cf1_, c24] at q; omega
    have hO : OKW w3 f0_.toInt gb ((gd) + 1) := by have q := hq25; exact OKW_cast q (by omega)
    refine lv_if_ne (tgt := 9) hx hb dX12_compare_4 (by decide) (fun _ => ?_) (fun c => absurd c (by decide))
    refine lv_aload_n hx hb dX12_compare_9 rfl (lv_at hl 0 rfl) ?_
    obtain ⟨x51, c52, rx51, tx51⟩ := hT.rdi (lo := 0) (hi := 400) (k := 14) kM_at0 (by decide) rfl
    refine tk_Vi hC hK hw hT hA hE hSR kM_at0 (by decide) rfl (k_X12_see_1 l adK adV dC dI cy ad B (by omega) (by omega) qr s1    w3 H.size hT x51 c52 (show 0 ≤ x51.toInt by omega) (show x51.toInt ≤ 400 by omega)) (cwV 0 hC.2.2.2.2 gX12_compare_X12_see rfl rfl rfl (by decide +kernel) ⟨Nat.le_of_ble_eq_true rfl, Nat.le_of_ble_eq_true rfl⟩) rfl hl.1 rfl (Nat.le_of_ble_eq_true rfl) dX12_compare_10 (fun r53 w55 H locs hp54 hw => ?_)
    obtain ⟨hT, k56, hg73⟩ := hp54
    have hO := OKW_FE k56 (fun _ => rfl) (fun _ => rfl) (fun _ => rfl) (fun _ => rfl) hO
    have hF := hF.tr k56 (by decide)
    have c74 := k56.gi kM_at0 (by decide) c38
    have c75 := k56.gi kM_at0 (by decide) c20
    have c76 := k56.gi kM_at0 (by decide) c24
    have c77 := k56.gi kM_at3 rfl c48
    rcases hg73 with ⟨g57, g58, ⟨x59, c60, rx59, tx59⟩, ⟨x61, c62, rx61, tx61⟩, g63, g64⟩ | ⟨rfl, ⟨x65, c66, rx65, tx65⟩, ⟨x67, c68, rx67, tx67⟩, g69⟩ | ⟨rfl, ⟨x70, c71, rx70, tx70⟩, g72⟩
    · have ex59 : x59.toInt = x19.toInt := by rw [← c75.symm.trans c60]
      have g63 : (gi w55 1 (x61.toInt).toNat).toInt ≠ 32 := by have q := g63; simp only [c38, c74, c62] at q; omega
      have g64 : (x61.toInt = x51.toInt ∨ (gi w3 1 (x51.toInt).toNat).toInt = 32) := by have q := g64; simp only [c38, c74, c52, c62] at q; omega
      refine lv_istore_n (lv' := [(1, .int r53), (0, .ref (ad 0))]) hx hb dX12_compare_13 rfl hl (by decide) rfl (fun ls hl => ?_)
      refine lv_aload_n hx hb dX12_compare_14 rfl (lv_at hl 1 rfl) ?_
      refine tk_geti hC hK hw hT hinX12 kM_at0 (by decide) rfl 14 (by decide) (List.mem_of_getElem? (i := 1) rfl) rfl rfl dX12_compare_15 (fun x80 c81 rx80 tx80 => ?_)
      refine wk_top x61 (c81.symm.trans c62) ?_
      refine lv_istore_n (lv' := [(2, .int x61), (1, .int r53), (0, .ref (ad 0))]) hx hb dX12_compare_18 rfl hl (by decide) rfl (fun ls hl => ?_)
      refine lv_iload_n hx hb dX12_compare_19 rfl (lv_at hl 1 rfl) ?_
      refine lv_bipush (v := 60) hx hb dX12_compare_20 (by decide) ?_
      refine lv_icmp_eq (tgt := 44) hx hb dX12_compare_22 (by decide) (fun c82 => ?_) (fun c82 => ?_)
      · have c82 : r53.toInt = (60 : Int) := wk_eq.mp c82
        refine lv_aload_n hx hb dX12_compare_44 rfl (lv_at hl 2 rfl) ?_
        refine lv_dup hx hb dX12_compare_45 rfl ?_
        refine tk_geti hC hK hw hT hinX12 kM_at0 (by decide) rfl 14 (by decide) (List.mem_of_getElem? (i := 1) rfl) rfl rfl dX12_compare_46 (fun x83 c84 rx83 tx83 => ?_)
        refine wk_top x61 (c84.symm.trans c62) ?_
        refine lv_iconst (v := 1) hx hb dX12_compare_49 (by decide) ?_
        refine lv_iadd hx hb dX12_compare_50 ?_
        refine lv_topi (fun x85 ex85 => ?_)
        have ex85 : x85.toInt = x61.toInt + (1 : Int) := by rw [ex85]; exact wk_add (show (-2147483648) ≤ x61.toInt + (1 : Int) by omega) (show x61.toInt + (1 : Int) ≤ 2147483647 by omega)
        refine tk_puti hC hK hw hT hinX12 tyX12_ok nmX12 kM_at0 (by decide) rfl rfl 14 (by decide) (List.mem_of_getElem? (i := 1) rfl) rfl rfl rfl rfl (show 0 ≤ x85.toInt by omega) (show x85.toInt ≤ 400 by omega) dX12_compare_51 (fun H locs w86 hw hT k88 c87 => ?_)
        have hO := OKW_F1 k88 (by decide) (by decide) (by decide) (by decide) hO
        have hF := hF.put kM_at0 (k := 14) (by decide) k88
        have c89 := k88.gi (Or.inr (by decide)) c74
        have c90 := k88.gi (Or.inr (by decide)) c75
        have c91 := k88.gi (Or.inr (by decide)) c76
        have c92 := k88.gi (Or.inl (tk_ne kM_at3 kM_at0 (by decide))) c77
        refine lv_iload_n hx hb dX12_compare_54 rfl (lv_at hl 1 rfl) ?_
        refine lv_bipush (v := 61) hx hb dX12_compare_55 (by decide) ?_
        refine lv_icmp_eq (tgt := 89) hx hb dX12_compare_57 (by decide) (fun c => absurd c (fun h => absurd (show r53.toInt = (61 : Int) from wk_eq.mp h) (by omega))) (fun _ => ?_)
        refine lv_aload_n hx hb dX12_compare_60 rfl (lv_at hl 2 rfl) ?_
        refine tk_geti hC hK hw hT hinX12 kM_at0 (by decide) rfl 14 (by decide) (List.mem_of_getElem? (i := 1) rfl) rfl rfl dX12_compare_61 (fun x93 c94 rx93 tx93 => ?_)
        refine wk_top x85 (c94.symm.trans c87) ?_
        refine lv_aload_n hx hb dX12_compare_64 rfl (lv_at hl 2 rfl) ?_
        refine tk_geti hC hK hw hT hinX12 kM_at0 (by decide) rfl 1 (by decide) (List.mem_of_getElem? (i := 2) rfl) rfl rfl dX12_compare_65 (fun x95 c96 rx95 tx95 => ?_)
        refine wk_top x19 (c96.symm.trans c90) ?_
        refine lv_icmp_ge (tgt := 89) hx hb dX12_compare_68 (by decide) (fun c97 => ?_) (fun c97 => ?_)
        · have c97 : x19.toInt ≤ x85.toInt := wk_le.mp c97
          refine lv_iconst (v := 0) hx hb dX12_compare_89 (by decide) ?_
          refine lv_istore_n (lv' := [(3, .int 0), (2, .int x61), (1, .int r53), (0, .ref (ad 0))]) hx hb dX12_compare_90 rfl hl (by decide) rfl (fun ls hl => ?_)
          refine lv_iload_n hx hb dX12_compare_91 rfl (lv_at hl 0 rfl) ?_
          refine lv_if_eq (tgt := 105) hx hb dX12_compare_92 (by decide) (fun _ => ?_) (fun c => absurd (by decide) c)
          refine lv_aload_n hx hb dX12_compare_105 rfl (lv_at hl 3 rfl) ?_
          refine lv_iload_n hx hb dX12_compare_106 rfl (lv_at hl 1 rfl) ?_
          refine tk_Vi hC hK hw hT hA hE hSR kM_at0 (by decide) rfl (k_X12_makes_2 l adK adV dC dI cy ad B (by omega) (by omega) qr s1   x61 (show 0 ≤ x61.toInt by omega) (show x61.toInt ≤ 399 by omega) w86 H.size hT x23 c91 (show 0 ≤ x23.toInt by omega) (show x23.toInt ≤ 60 by omega)) (cwV 1 hC.2.2.2.2 gX12_compare_X12_makes rfl rfl rfl (by decide +kernel) ⟨Nat.le_of_ble_eq_true rfl, Nat.le_of_ble_eq_true rfl⟩) rfl hl.1 rfl (Nat.le_of_ble_eq_true rfl) dX12_compare_107 (fun r98 w100 H locs hp99 hw => ?_)
          obtain ⟨hT, k101, hg109⟩ := hp99
          have hO := OKW_FE k101 (fun _ => rfl) (fun _ => rfl) (fun _ => rfl) (fun _ => rfl) hO
          have hF := hF.tr k101 (by decide)
          have c110 := k101.gi kM_at0 (by decide) c89
          have c111 := k101.gi kM_at0 (by decide) c90
          have c112 := k101.gi kM_at3 rfl c92
          have c113 := k101.gi kM_at0 (by decide) c87
          rcases hg109 with ⟨rfl, ⟨x102, c103, rx102, tx102⟩, ⟨x104, c105, rx104, tx104⟩⟩ | ⟨rfl, ⟨x106, c107, rx106, tx106⟩, g108⟩
          · refine lv_if_ne (tgt := 115) hx hb dX12_compare_110 (by decide) (fun c => absurd (by decide) c) (fun _ => ?_)
            refine lv_iconst (v := 0) hx hb dX12_compare_113 (by decide) ?_
            exact tk_zret hC hr rfl hlocks hK ⟨hT, hF, (Or.inl ⟨rfl, ⟨x19, c111, (show 1 ≤ x19.toInt by omega), (show x19.toInt ≤ 400 by omega)⟩, ⟨x102, c103, (show 1 ≤ x102.toInt by omega), (show x102.toInt ≤ 3205 by omega)⟩, ⟨f0_, c110, (show 0 ≤ f0_.toInt by omega), (show f0_.toInt ≤ 5 by omega)⟩, hO.1⟩)⟩ hw dX12_compare_114
          · have g108 : x106.toInt = x23.toInt + 1 := by have q := g108; simp only [c89, c110, c91, c107] at q; omega
            refine lv_if_ne (tgt := 115) hx hb dX12_compare_110 (by decide) (fun _ => ?_) (fun c => absurd c (by decide))
            refine lv_iload_n hx hb dX12_compare_115 rfl (lv_at hl 2 rfl) ?_
            refine lv_bipush (v := 60) hx hb dX12_compare_116 (by decide) ?_
            refine lv_icmp_ne (tgt := 133) hx hb dX12_compare_118 (by decide) (fun c => (c (wk_eq.mpr (show r53.toInt = (60 : Int) by omega))).elim) (fun _ => ?_)
            refine lv_iload_n hx hb dX12_compare_121 rfl (lv_at hl 0 rfl) ?_
            refine lv_if_eq (tgt := 129) hx hb dX12_compare_122 (by decide) (fun _ => ?_) (fun c => absurd (by decide) c)
            refine lv_iconst (v := 0) hx hb dX12_compare_129 (by decide) ?_
            refine lv_goto (tgt := 152) hx hb dX12_compare_130 (by decide) ?_
            refine lv_istore (lv' := [(4, .int 0), (3, .int 0), (2, .int x61), (1, .int r53), (0, .ref (ad 0))]) hx hb dX12_compare_152 hl (by decide) rfl (fun ls hl => ?_)
            refine lv_aload_n hx hb dX12_compare_154 rfl (lv_at hl 4 rfl) ?_
            refine tk_Vi hC hK hw hT hA hE hSR kM_at0 (by decide) rfl (k_X12_sum_1 l adK adV dC dI cy ad B (by omega) (by omega) qr s1    w100 H.size hT f0_ c110 (show 0 ≤ f0_.toInt by omega) (show f0_.toInt ≤ 5 by omega) x106 c107 (show 0 ≤ x106.toInt by omega) (show x106.toInt ≤ 60 by omega) x47 c112 (show 0 ≤ x47.toInt by omega) (show x47.toInt ≤ 400 by omega) (show 3 * x47.toInt ≤ 14 * x106.toInt + 60 by omega) (show x47.toInt ≤ 300 by omega) gb ((gd) + 1) (by omega) (by omega) (OKW_cast hO (show (gd) + 1 = (gd) + 1 by omega))) (cwV 0 hC.2.2.2.2 gX12_compare_X12_sum rfl rfl rfl (by decide +kernel) ⟨Nat.le_of_ble_eq_true rfl, Nat.le_of_ble_eq_true rfl⟩) rfl hl.1 rfl (Nat.le_of_ble_eq_true rfl) dX12_compare_155 (fun r114 w116 H locs hp115 hw => ?_)
            obtain ⟨hT, k117, hg150⟩ := hp115
            have hF := hF.tr k117 (by decide)
            have c151 := k117.gi kM_at0 (by decide) c110
            have c152 := k117.gi kM_at0 (by decide) c111
            rcases hg150 with ⟨rfl, ⟨x118, c119, rx118, tx118⟩, ⟨x120, c121, rx120, tx120⟩, ⟨x122, c123, rx122, tx122⟩, hq124⟩ | ⟨rfl, ⟨x125, c126, rx125, tx125⟩, ⟨x127, c128, rx127, tx127⟩, ⟨x129, c130, rx129, tx129⟩, hq131⟩ | ⟨rfl, ⟨x132, c133, rx132, tx132⟩, ⟨x134, c135, rx134, tx134⟩, ⟨x136, c137, rx136, tx136⟩, hq138, g139, g140⟩ | ⟨rfl, ⟨x141, c142, rx141, tx141⟩, ⟨x143, c144, rx143, tx143⟩, ⟨x145, c146, rx145, tx145⟩, hq147, g148, g149⟩
            · have ex118 : x118.toInt = x19.toInt := by rw [← c152.symm.trans c119]
              have ex122 : x122.toInt = f0_.toInt := by rw [← c151.symm.trans c123]
              obtain ⟨x153, c154, rx153, tx153⟩ := hT.rda (lo := 0) (hi := 400) (i := (f0_.toInt).toNat) kM_at3 rfl rfl (by omega)
              obtain ⟨x155, c156, rx155, tx155⟩ := hT.rdi (lo := 0) (hi := 60) (k := 18) kM_at0 (by decide) rfl
              have hR := hq124
              refine lv_if_ne (tgt := 163) hx hb dX12_compare_158 (by decide) (fun c => absurd (by decide) c) (fun _ => ?_)
              refine lv_iconst (v := 0) hx hb dX12_compare_161 (by decide) ?_
              exact tk_zret hC hr rfl hlocks hK ⟨hT, hF, (Or.inl ⟨rfl, ⟨x19, c152, (show 1 ≤ x19.toInt by omega), (show x19.toInt ≤ 400 by omega)⟩, ⟨x120, c121, (show 1 ≤ x120.toInt by omega), (show x120.toInt ≤ 3205 by omega)⟩, ⟨f0_, c151, (show 0 ≤ f0_.toInt by omega), (show f0_.toInt ≤ 5 by omega)⟩, hR⟩)⟩ hw dX12_compare_162
            · have ex125 : x125.toInt = x19.toInt := by rw [← c152.symm.trans c126]
              have ex129 : x129.toInt = f0_.toInt := by rw [← c151.symm.trans c130]
              obtain ⟨x157, c158, rx157, tx157⟩ := hT.rda (lo := 0) (hi := 400) (i := (f0_.toInt).toNat) kM_at3 rfl rfl (by omega)
              obtain ⟨x159, c160, rx159, tx159⟩ := hT.rdi (lo := 0) (hi := 60) (k := 18) kM_at0 (by decide) rfl
              have hR := hq131
              refine lv_if_ne (tgt := 163) hx hb dX12_compare_158 (by decide) (fun c => absurd (by decide) c) (fun _ => ?_)
              refine lv_iconst (v := 0) hx hb dX12_compare_161 (by decide) ?_
              exact tk_zret hC hr rfl hlocks hK ⟨hT, hF, (Or.inl ⟨rfl, ⟨x19, c152, (show 1 ≤ x19.toInt by omega), (show x19.toInt ≤ 400 by omega)⟩, ⟨x127, c128, (show 1 ≤ x127.toInt by omega), (show x127.toInt ≤ 3205 by omega)⟩, ⟨f0_, c151, (show 0 ≤ f0_.toInt by omega), (show f0_.toInt ≤ 5 by omega)⟩, hR⟩)⟩ hw dX12_compare_162
            · have ex132 : x132.toInt = x19.toInt := by rw [← c152.symm.trans c133]
              have ex134 : x134.toInt = f0_.toInt := by rw [← c151.symm.trans c135]
              obtain ⟨x161, c162, rx161, tx161⟩ := hT.rda (lo := 0) (hi := 400) (i := (f0_.toInt).toNat) kM_at3 rfl rfl (by omega)
              have g139 : 3 * x161.toInt + 11 ≤ 3 * x47.toInt + 14 * (x136.toInt - x106.toInt) := by have q := g139; simp only [c110, c151, c112, c162, c107, c137] at q; omega
              have g140 : x106.toInt + 1 ≤ x136.toInt := by have q := g140; simp only [c110, c151, c107, c137] at q; omega
              have hO : OKW w116 f0_.toInt gb (((gd) + 1) + 1) := by have q := hq138; exact OKW_cast q (by omega)
              refine lv_if_ne (tgt := 163) hx hb dX12_compare_158 (by decide) (fun _ => ?_) (fun c => absurd c (by decide))
              refine lv_aload_n hx hb dX12_compare_163 rfl (lv_at hl 4 rfl) ?_
              refine lv_bipush (v := 6) hx hb dX12_compare_164 (by decide) ?_
              refine lv_iload hx hb dX12_compare_166 (lv_at hl 0 rfl) ?_
              refine lv_iadd hx hb dX12_compare_168 ?_
              refine wk_top 6 (by decide) ?_
              refine lv_iconst (v := 0) hx hb dX12_compare_169 (by decide) ?_
              refine tk_Vv hC hK hw hT hA hE hSR kM_at0 (by decide) rfl (k_X12_puts_1 l adK adV dC dI cy ad B (by omega) (by omega) qr s1   6 (by decide) (by decide) 0 (by decide) (by decide) w116 H.size hT f0_ c151 (show 0 ≤ f0_.toInt by omega) (show f0_.toInt ≤ 5 by omega) x161 c162 (show 0 ≤ x161.toInt by omega) (show x161.toInt ≤ 400 by omega) (show x161.toInt ≤ 399 by omega)) (cwV 2 hC.2.2.2.2 gX12_compare_X12_puts rfl rfl rfl (by decide +kernel) ⟨Nat.le_of_ble_eq_true rfl, Nat.le_of_ble_eq_true rfl⟩) rfl hl.1 rfl (Nat.le_of_ble_eq_true rfl) dX12_compare_170 (fun w167 H locs hp166 hw => ?_)
              obtain ⟨hT, k168, hg173⟩ := hp166
              have hF := hF.tr k168 (by decide)
              have c174 := k168.gi kM_at0 (by decide) c151
              have c175 := k168.gi kM_at0 (by decide) c152
              have c176 := k168.gi kM_at0 (by decide) c137
              obtain ⟨⟨x169, c170, rx169, tx169⟩, hq171, g172⟩ := hg173
              have ex169 : x169.toInt = f0_.toInt := by rw [← c174.symm.trans c170]
              obtain ⟨x177, c178, rx177, tx177⟩ := hT.rda (lo := 0) (hi := 400) (i := (f0_.toInt).toNat) kM_at3 rfl rfl (by omega)
              have g172 : x177.toInt = x161.toInt + 1 := by have q := g172; simp only [c151, c174, c162, c178] at q; omega
              have hO : OKW w167 f0_.toInt gb ((((gd) + 1) + 1) - 1) := OKW_put hO (by have q := hq171; rw [c151] at q; exact q) (by rw [c162]; omega) (fun x hx => by simp only [(show (6 : Int32).toInt = 6 by decide), (show (0 : Int32).toInt = 0 by decide)] at hx; exact okT_bin (by omega) (by omega) (by omega) (by omega)) (by omega) (by omega)
              refine lv_iconst (v := 1) hx hb dX12_compare_173 (by decide) ?_
              exact tk_zret hC hr rfl hlocks hK ⟨hT, hF, (Or.inr (Or.inr ⟨rfl, ⟨x19, c175, (show 1 ≤ x19.toInt by omega), (show x19.toInt ≤ 400 by omega)⟩, ⟨f0_, c174, (show 0 ≤ f0_.toInt by omega), (show f0_.toInt ≤ 5 by omega)⟩, ⟨x136, c176, (show 1 ≤ x136.toInt by omega), (show x136.toInt ≤ 60 by omega)⟩, (OKW_cast hO (by omega)), (by simp only [c174, cf0_, cf2_, c178, cf1_, c176]; omega), (by simp only [c174, cf0_, cf1_, c176]; omega)⟩))⟩ hw dX12_compare_174
            · have ex141 : x141.toInt = x19.toInt := by rw [← c152.symm.trans c142]
              have ex143 : x143.toInt = f0_.toInt := by rw [← c151.symm.trans c144]
              obtain ⟨x163, c164, rx163, tx163⟩ := hT.rda (lo := 0) (hi := 400) (i := (f0_.toInt).toNat) kM_at3 rfl rfl (by omega)
              have g148 : 3 * x163.toInt + 11 ≤ 3 * x47.toInt + 14 * (x145.toInt - x106.toInt) := by have q := g148; simp only [c110, c151, c112, c164, c107, c146] at q; omega
              have g149 : x106.toInt + 1 ≤ x145.toInt := by have q := g149; simp only [c110, c151, c107, c146] at q; omega
              have hO : OKW w116 f0_.toInt gb (((gd) + 1) + 1) := by have q := hq147; exact OKW_cast q (by omega)
              refine lv_if_ne (tgt := 163) hx hb dX12_compare_158 (by decide) (fun _ => ?_) (fun c => absurd c (by decide))
              refine lv_aload_n hx hb dX12_compare_163 rfl (lv_at hl 4 rfl) ?_
              refine lv_bipush (v := 6) hx hb dX12_compare_164 (by decide) ?_
              refine lv_iload hx hb dX12_compare_166 (lv_at hl 0 rfl) ?_
              refine lv_iadd hx hb dX12_compare_168 ?_
              refine wk_top 6 (by decide) ?_
              refine lv_iconst (v := 0) hx hb dX12_compare_169 (by decide) ?_
              refine tk_Vv hC hK hw hT hA hE hSR kM_at0 (by decide) rfl (k_X12_puts_1 l adK adV dC dI cy ad B (by omega) (by omega) qr s1   6 (by decide) (by decide) 0 (by decide) (by decide) w116 H.size hT f0_ c151 (show 0 ≤ f0_.toInt by omega) (show f0_.toInt ≤ 5 by omega) x163 c164 (show 0 ≤ x163.toInt by omega) (show x163.toInt ≤ 400 by omega) (show x163.toInt ≤ 399 by omega)) (cwV 2 hC.2.2.2.2 gX12_compare_X12_puts rfl rfl rfl (by decide +kernel) ⟨Nat.le_of_ble_eq_true rfl, Nat.le_of_ble_eq_true rfl⟩) rfl hl.1 rfl (Nat.le_of_ble_eq_true rfl) dX12_compare_170 (fun w181 H locs hp180 hw => ?_)
              obtain ⟨hT, k182, hg187⟩ := hp180
              have hF := hF.tr k182 (by decide)
              have c188 := k182.gi kM_at0 (by decide) c151
              have c189 := k182.gi kM_at0 (by decide) c152
              have c190 := k182.gi kM_at0 (by decide) c146
              obtain ⟨⟨x183, c184, rx183, tx183⟩, hq185, g186⟩ := hg187
              have ex183 : x183.toInt = f0_.toInt := by rw [← c188.symm.trans c184]
              obtain ⟨x191, c192, rx191, tx191⟩ := hT.rda (lo := 0) (hi := 400) (i := (f0_.toInt).toNat) kM_at3 rfl rfl (by omega)
              have g186 : x191.toInt = x163.toInt + 1 := by have q := g186; simp only [c151, c188, c164, c192] at q; omega
              have hO : OKW w181 f0_.toInt gb ((((gd) + 1) + 1) - 1) := OKW_put hO (by have q := hq185; rw [c151] at q; exact q) (by rw [c164]; omega) (fun x hx => by simp only [(show (6 : Int32).toInt = 6 by decide), (show (0 : Int32).toInt = 0 by decide)] at hx; exact okT_bin (by omega) (by omega) (by omega) (by omega)) (by omega) (by omega)
              refine lv_iconst (v := 1) hx hb dX12_compare_173 (by decide) ?_
              exact tk_zret hC hr rfl hlocks hK ⟨hT, hF, (Or.inr (Or.inr ⟨rfl, ⟨x19, c189, (show 1 ≤ x19.toInt by omega), (show x19.toInt ≤ 400 by omega)⟩, ⟨f0_, c188, (show 0 ≤ f0_.toInt by omega), (show f0_.toInt ≤ 5 by omega)⟩, ⟨x145, c190, (show 1 ≤ x145.toInt by omega), (show x145.toInt ≤ 60 by omega)⟩, (OKW_cast hO (by omega)), (by simp only [c188, cf0_, cf2_, c192, cf1_, c190]; omega), (by simp only [c188, cf0_, cf1_, c190]; omega)⟩))⟩ hw dX12_compare_174
        · have c97 : x85.toInt < x19.toInt := wk_leF c97
          refine lv_aload_n hx hb dX12_compare_71 rfl (lv_at hl 2 rfl) ?_
          refine tk_getA hC hK hw hT hinX12 kM_at0 (by decide) rfl 0 (by decide) (List.mem_of_getElem? (i := 3) rfl) rfl rfl dX12_compare_72 ?_
          refine lv_aload_n hx hb dX12_compare_75 rfl (lv_at hl 2 rfl) ?_
          refine tk_geti hC hK hw hT hinX12 kM_at0 (by decide) rfl 14 (by decide) (List.mem_of_getElem? (i := 1) rfl) rfl rfl dX12_compare_76 (fun x193 c194 rx193 tx193 => ?_)
          refine wk_top x85 (c194.symm.trans c87) ?_
          refine tk_bald hC hK hw hT kM_at1 rfl rfl (show 0 ≤ x85.toInt by omega) (show x85.toInt < 400 by omega) dX12_compare_79 (fun x195 c196 rx195 tx195 => ?_)
          have c196 : gi w86 1 (1 * x61.toInt + 1).toNat = x195 := (congrArg (gi w86 1) (congrArg Int.toNat (show 1 * x61.toInt + 1 = x85.toInt by omega))).trans c196
          refine lv_bipush (v := 61) hx hb dX12_compare_80 (by decide) ?_
          refine lv_icmp_ne (tgt := 89) hx hb dX12_compare_82 (by decide) (fun c197 => ?_) (fun c197 => ?_)
          · have c197 : ¬ x195.toInt = (61 : Int) := wk_eqF c197
            refine lv_iconst (v := 0) hx hb dX12_compare_89 (by decide) ?_
            refine lv_istore_n (lv' := [(3, .int 0), (2, .int x61), (1, .int r53), (0, .ref (ad 0))]) hx hb dX12_compare_90 rfl hl (by decide) rfl (fun ls hl => ?_)
            refine lv_iload_n hx hb dX12_compare_91 rfl (lv_at hl 0 rfl) ?_
            refine lv_if_eq (tgt := 105) hx hb dX12_compare_92 (by decide) (fun _ => ?_) (fun c => absurd (by decide) c)
            refine lv_aload_n hx hb dX12_compare_105 rfl (lv_at hl 3 rfl) ?_
            refine lv_iload_n hx hb dX12_compare_106 rfl (lv_at hl 1 rfl) ?_
            refine tk_Vi hC hK hw hT hA hE hSR kM_at0 (by decide) rfl (k_X12_makes_1 l adK adV dC dI cy ad B (by omega) (by omega) qr s1   x61 (show 0 ≤ x61.toInt by omega) (show x61.toInt ≤ 398 by omega) w86 H.size hT x23 c91 (show 0 ≤ x23.toInt by omega) (show x23.toInt ≤ 60 by omega)) (cwV 1 hC.2.2.2.2 gX12_compare_X12_makes rfl rfl rfl (by decide +kernel) ⟨Nat.le_of_ble_eq_true rfl, Nat.le_of_ble_eq_true rfl⟩) rfl hl.1 rfl (Nat.le_of_ble_eq_true rfl) dX12_compare_107 (fun r198 w200 H locs hp199 hw => ?_)
            obtain ⟨hT, k201, hg209⟩ := hp199
            have hO := OKW_FE k201 (fun _ => rfl) (fun _ => rfl) (fun _ => rfl) (fun _ => rfl) hO
            have hF := hF.tr k201 (by decide)
            have c210 := k201.gi kM_at0 (by decide) c89
            have c211 := k201.gi kM_at0 (by decide) c90
            have c212 := k201.gi kM_at3 rfl c92
            have c213 := k201.gi kM_at0 (by decide) c87
            have c214 := k201.gi kM_at1 rfl c196
            rcases hg209 with ⟨rfl, ⟨x202, c203, rx202, tx202⟩, ⟨x204, c205, rx204, tx204⟩⟩ | ⟨rfl, ⟨x206, c207, rx206, tx206⟩, g208⟩
            · refine lv_if_ne (tgt := 115) hx hb dX12_compare_110 (by decide) (fun c => absurd (by decide) c) (fun _ => ?_)
              refine lv_iconst (v := 0) hx hb dX12_compare_113 (by decide) ?_
              exact tk_zret hC hr rfl hlocks hK ⟨hT, hF, (Or.inl ⟨rfl, ⟨x19, c211, (show 1 ≤ x19.toInt by omega), (show x19.toInt ≤ 400 by omega)⟩, ⟨x202, c203, (show 1 ≤ x202.toInt by omega), (show x202.toInt ≤ 3205 by omega)⟩, ⟨f0_, c210, (show 0 ≤ f0_.toInt by omega), (show f0_.toInt ≤ 5 by omega)⟩, hO.1⟩)⟩ hw dX12_compare_114
            · have g208 : x206.toInt = x23.toInt + 1 := by have q := g208; simp only [c89, c210, c91, c207] at q; omega
              refine lv_if_ne (tgt := 115) hx hb dX12_compare_110 (by decide) (fun _ => ?_) (fun c => absurd c (by decide))
              refine lv_iload_n hx hb dX12_compare_115 rfl (lv_at hl 2 rfl) ?_
              refine lv_bipush (v := 60) hx hb dX12_compare_116 (by decide) ?_
              refine lv_icmp_ne (tgt := 133) hx hb dX12_compare_118 (by decide) (fun c => (c (wk_eq.mpr (show r53.toInt = (60 : Int) by omega))).elim) (fun _ => ?_)
              refine lv_iload_n hx hb dX12_compare_121 rfl (lv_at hl 0 rfl) ?_
              refine lv_if_eq (tgt := 129) hx hb dX12_compare_122 (by decide) (fun _ => ?_) (fun c => absurd (by decide) c)
              refine lv_iconst (v := 0) hx hb dX12_compare_129 (by decide) ?_
              refine lv_goto (tgt := 152) hx hb dX12_compare_130 (by decide) ?_
              refine lv_istore (lv' := [(4, .int 0), (3, .int 0), (2, .int x61), (1, .int r53), (0, .ref (ad 0))]) hx hb dX12_compare_152 hl (by decide) rfl (fun ls hl => ?_)
              refine lv_aload_n hx hb dX12_compare_154 rfl (lv_at hl 4 rfl) ?_
              refine tk_Vi hC hK hw hT hA hE hSR kM_at0 (by decide) rfl (k_X12_sum_1 l adK adV dC dI cy ad B (by omega) (by omega) qr s1    w200 H.size hT f0_ c210 (show 0 ≤ f0_.toInt by omega) (show f0_.toInt ≤ 5 by omega) x206 c207 (show 0 ≤ x206.toInt by omega) (show x206.toInt ≤ 60 by omega) x47 c212 (show 0 ≤ x47.toInt by omega) (show x47.toInt ≤ 400 by omega) (show 3 * x47.toInt ≤ 14 * x206.toInt + 60 by omega) (show x47.toInt ≤ 300 by omega) gb ((gd) + 1) (by omega) (by omega) (OKW_cast hO (show (gd) + 1 = (gd) + 1 by omega))) (cwV 0 hC.2.2.2.2 gX12_compare_X12_sum rfl rfl rfl (by decide +kernel) ⟨Nat.le_of_ble_eq_true rfl, Nat.le_of_ble_eq_true rfl⟩) rfl hl.1 rfl (Nat.le_of_ble_eq_true rfl) dX12_compare_155 (fun r215 w217 H locs hp216 hw => ?_)
              obtain ⟨hT, k218, hg251⟩ := hp216
              have hF := hF.tr k218 (by decide)
              have c252 := k218.gi kM_at0 (by decide) c210
              have c253 := k218.gi kM_at0 (by decide) c211
              have c254 := k218.gi kM_at1 rfl c214
              rcases hg251 with ⟨rfl, ⟨x219, c220, rx219, tx219⟩, ⟨x221, c222, rx221, tx221⟩, ⟨x223, c224, rx223, tx223⟩, hq225⟩ | ⟨rfl, ⟨x226, c227, rx226, tx226⟩, ⟨x228, c229, rx228, tx228⟩, ⟨x230, c231, rx230, tx230⟩, hq232⟩ | ⟨rfl, ⟨x233, c234, rx233, tx233⟩, ⟨x235, c236, rx235, tx235⟩, ⟨x237, c238, rx237, tx237⟩, hq239, g240, g241⟩ | ⟨rfl, ⟨x242, c243, rx242, tx242⟩, ⟨x244, c245, rx244, tx244⟩, ⟨x246, c247, rx246, tx246⟩, hq248, g249, g250⟩
              · have ex219 : x219.toInt = x19.toInt := by rw [← c253.symm.trans c220]
                have ex223 : x223.toInt = f0_.toInt := by rw [← c252.symm.trans c224]
                obtain ⟨x255, c256, rx255, tx255⟩ := hT.rda (lo := 0) (hi := 400) (i := (f0_.toInt).toNat) kM_at3 rfl rfl (by omega)
                obtain ⟨x257, c258, rx257, tx257⟩ := hT.rdi (lo := 0) (hi := 60) (k := 18) kM_at0 (by decide) rfl
                have hR := hq225
                refine lv_if_ne (tgt := 163) hx hb dX12_compare_158 (by decide) (fun c => absurd (by decide) c) (fun _ => ?_)
                refine lv_iconst (v := 0) hx hb dX12_compare_161 (by decide) ?_
                exact tk_zret hC hr rfl hlocks hK ⟨hT, hF, (Or.inl ⟨rfl, ⟨x19, c253, (show 1 ≤ x19.toInt by omega), (show x19.toInt ≤ 400 by omega)⟩, ⟨x221, c222, (show 1 ≤ x221.toInt by omega), (show x221.toInt ≤ 3205 by omega)⟩, ⟨f0_, c252, (show 0 ≤ f0_.toInt by omega), (show f0_.toInt ≤ 5 by omega)⟩, hR⟩)⟩ hw dX12_compare_162
              · have ex226 : x226.toInt = x19.toInt := by rw [← c253.symm.trans c227]
                have ex230 : x230.toInt = f0_.toInt := by rw [← c252.symm.trans c231]
                obtain ⟨x259, c260, rx259, tx259⟩ := hT.rda (lo := 0) (hi := 400) (i := (f0_.toInt).toNat) kM_at3 rfl rfl (by omega)
                obtain ⟨x261, c262, rx261, tx261⟩ := hT.rdi (lo := 0) (hi := 60) (k := 18) kM_at0 (by decide) rfl
                have hR := hq232
                refine lv_if_ne (tgt := 163) hx hb dX12_compare_158 (by decide) (fun c => absurd (by decide) c) (fun _ => ?_)
                refine lv_iconst (v := 0) hx hb dX12_compare_161 (by decide) ?_
                exact tk_zret hC hr rfl hlocks hK ⟨hT, hF, (Or.inl ⟨rfl, ⟨x19, c253, (show 1 ≤ x19.toInt by omega), (show x19.toInt ≤ 400 by omega)⟩, ⟨x228, c229, (show 1 ≤ x228.toInt by omega), (show x228.toInt ≤ 3205 by omega)⟩, ⟨f0_, c252, (show 0 ≤ f0_.toInt by omega), (show f0_.toInt ≤ 5 by omega)⟩, hR⟩)⟩ hw dX12_compare_162
              · have ex233 : x233.toInt = x19.toInt := by rw [← c253.symm.trans c234]
                have ex235 : x235.toInt = f0_.toInt := by rw [← c252.symm.trans c236]
                obtain ⟨x263, c264, rx263, tx263⟩ := hT.rda (lo := 0) (hi := 400) (i := (f0_.toInt).toNat) kM_at3 rfl rfl (by omega)
                have g240 : 3 * x263.toInt + 11 ≤ 3 * x47.toInt + 14 * (x237.toInt - x206.toInt) := by have q := g240; simp only [c210, c252, c212, c264, c207, c238] at q; omega
                have g241 : x206.toInt + 1 ≤ x237.toInt := by have q := g241; simp only [c210, c252, c207, c238] at q; omega
                have hO : OKW w217 f0_.toInt gb (((gd) + 1) + 1) := by have q := hq239; exact OKW_cast q (by omega)
                refine lv_if_ne (tgt := 163) hx hb dX12_compare_158 (by decide) (fun _ => ?_) (fun c => absurd c (by decide))
                refine lv_aload_n hx hb dX12_compare_163 rfl (lv_at hl 4 rfl) ?_
                refine lv_bipush (v := 6) hx hb dX12_compare_164 (by decide) ?_
                refine lv_iload hx hb dX12_compare_166 (lv_at hl 0 rfl) ?_
                refine lv_iadd hx hb dX12_compare_168 ?_
                refine wk_top 6 (by decide) ?_
                refine lv_iconst (v := 0) hx hb dX12_compare_169 (by decide) ?_
                refine tk_Vv hC hK hw hT hA hE hSR kM_at0 (by decide) rfl (k_X12_puts_1 l adK adV dC dI cy ad B (by omega) (by omega) qr s1   6 (by decide) (by decide) 0 (by decide) (by decide) w217 H.size hT f0_ c252 (show 0 ≤ f0_.toInt by omega) (show f0_.toInt ≤ 5 by omega) x263 c264 (show 0 ≤ x263.toInt by omega) (show x263.toInt ≤ 400 by omega) (show x263.toInt ≤ 399 by omega)) (cwV 2 hC.2.2.2.2 gX12_compare_X12_puts rfl rfl rfl (by decide +kernel) ⟨Nat.le_of_ble_eq_true rfl, Nat.le_of_ble_eq_true rfl⟩) rfl hl.1 rfl (Nat.le_of_ble_eq_true rfl) dX12_compare_170 (fun w269 H locs hp268 hw => ?_)
                obtain ⟨hT, k270, hg275⟩ := hp268
                have hF := hF.tr k270 (by decide)
                have c276 := k270.gi kM_at0 (by decide) c252
                have c277 := k270.gi kM_at0 (by decide) c253
                have c278 := k270.gi kM_at1 rfl c254
                have c279 := k270.gi kM_at0 (by decide) c238
                obtain ⟨⟨x271, c272, rx271, tx271⟩, hq273, g274⟩ := hg275
                have ex271 : x271.toInt = f0_.toInt := by rw [← c276.symm.trans c272]
                obtain ⟨x280, c281, rx280, tx280⟩ := hT.rda (lo := 0) (hi := 400) (i := (f0_.toInt).toNat) kM_at3 rfl rfl (by omega)
                have g274 : x280.toInt = x263.toInt + 1 := by have q := g274; simp only [c252, c276, c264, c281] at q; omega
                have hO : OKW w269 f0_.toInt gb ((((gd) + 1) + 1) - 1) := OKW_put hO (by have q := hq273; rw [c252] at q; exact q) (by rw [c264]; omega) (fun x hx => by simp only [(show (6 : Int32).toInt = 6 by decide), (show (0 : Int32).toInt = 0 by decide)] at hx; exact okT_bin (by omega) (by omega) (by omega) (by omega)) (by omega) (by omega)
                refine lv_iconst (v := 1) hx hb dX12_compare_173 (by decide) ?_
                exact tk_zret hC hr rfl hlocks hK ⟨hT, hF, (Or.inr (Or.inr ⟨rfl, ⟨x19, c277, (show 1 ≤ x19.toInt by omega), (show x19.toInt ≤ 400 by omega)⟩, ⟨f0_, c276, (show 0 ≤ f0_.toInt by omega), (show f0_.toInt ≤ 5 by omega)⟩, ⟨x237, c279, (show 1 ≤ x237.toInt by omega), (show x237.toInt ≤ 60 by omega)⟩, (OKW_cast hO (by omega)), (by simp only [c276, cf0_, cf2_, c281, cf1_, c279]; omega), (by simp only [c276, cf0_, cf1_, c279]; omega)⟩))⟩ hw dX12_compare_174
              · have ex242 : x242.toInt = x19.toInt := by rw [← c253.symm.trans c243]
                have ex244 : x244.toInt = f0_.toInt := by rw [← c252.symm.trans c245]
                obtain ⟨x265, c266, rx265, tx265⟩ := hT.rda (lo := 0) (hi := 400) (i := (f0_.toInt).toNat) kM_at3 rfl rfl (by omega)
                have g249 : 3 * x265.toInt + 11 ≤ 3 * x47.toInt + 14 * (x246.toInt - x206.toInt) := by have q := g249; simp only [c210, c252, c212, c266, c207, c247] at q; omega
                have g250 : x206.toInt + 1 ≤ x246.toInt := by have q := g250; simp only [c210, c252, c207, c247] at q; omega
                have hO : OKW w217 f0_.toInt gb (((gd) + 1) + 1) := by have q := hq248; exact OKW_cast q (by omega)
                refine lv_if_ne (tgt := 163) hx hb dX12_compare_158 (by decide) (fun _ => ?_) (fun c => absurd c (by decide))
                refine lv_aload_n hx hb dX12_compare_163 rfl (lv_at hl 4 rfl) ?_
                refine lv_bipush (v := 6) hx hb dX12_compare_164 (by decide) ?_
                refine lv_iload hx hb dX12_compare_166 (lv_at hl 0 rfl) ?_
                refine lv_iadd hx hb dX12_compare_168 ?_
                refine wk_top 6 (by decide) ?_
                refine lv_iconst (v := 0) hx hb dX12_compare_169 (by decide) ?_
                refine tk_Vv hC hK hw hT hA hE hSR kM_at0 (by decide) rfl (k_X12_puts_1 l adK adV dC dI cy ad B (by omega) (by omega) qr s1   6 (by decide) (by decide) 0 (by decide) (by decide) w217 H.size hT f0_ c252 (show 0 ≤ f0_.toInt by omega) (show f0_.toInt ≤ 5 by omega) x265 c266 (show 0 ≤ x265.toInt by omega) (show x265.toInt ≤ 400 by omega) (show x265.toInt ≤ 399 by omega)) (cwV 2 hC.2.2.2.2 gX12_compare_X12_puts rfl rfl rfl (by decide +kernel) ⟨Nat.le_of_ble_eq_true rfl, Nat.le_of_ble_eq_true rfl⟩) rfl hl.1 rfl (Nat.le_of_ble_eq_true rfl) dX12_compare_170 (fun w284 H locs hp283 hw => ?_)
                obtain ⟨hT, k285, hg290⟩ := hp283
                have hF := hF.tr k285 (by decide)
                have c291 := k285.gi kM_at0 (by decide) c252
                have c292 := k285.gi kM_at0 (by decide) c253
                have c293 := k285.gi kM_at1 rfl c254
                have c294 := k285.gi kM_at0 (by decide) c247
                obtain ⟨⟨x286, c287, rx286, tx286⟩, hq288, g289⟩ := hg290
                have ex286 : x286.toInt = f0_.toInt := by rw [← c291.symm.trans c287]
                obtain ⟨x295, c296, rx295, tx295⟩ := hT.rda (lo := 0) (hi := 400) (i := (f0_.toInt).toNat) kM_at3 rfl rfl (by omega)
                have g289 : x295.toInt = x265.toInt + 1 := by have q := g289; simp only [c252, c291, c266, c296] at q; omega
                have hO : OKW w284 f0_.toInt gb ((((gd) + 1) + 1) - 1) := OKW_put hO (by have q := hq288; rw [c252] at q; exact q) (by rw [c266]; omega) (fun x hx => by simp only [(show (6 : Int32).toInt = 6 by decide), (show (0 : Int32).toInt = 0 by decide)] at hx; exact okT_bin (by omega) (by omega) (by omega) (by omega)) (by omega) (by omega)
                refine lv_iconst (v := 1) hx hb dX12_compare_173 (by decide) ?_
                exact tk_zret hC hr rfl hlocks hK ⟨hT, hF, (Or.inr (Or.inr ⟨rfl, ⟨x19, c292, (show 1 ≤ x19.toInt by omega), (show x19.toInt ≤ 400 by omega)⟩, ⟨f0_, c291, (show 0 ≤ f0_.toInt by omega), (show f0_.toInt ≤ 5 by omega)⟩, ⟨x246, c294, (show 1 ≤ x246.toInt by omega), (show x246.toInt ≤ 60 by omega)⟩, (OKW_cast hO (by omega)), (by simp only [c291, cf0_, cf2_, c296, cf1_, c294]; omega), (by simp only [c291, cf0_, cf1_, c294]; omega)⟩))⟩ hw dX12_compare_174
          · have c197 : x195.toInt = (61 : Int) := wk_eq.mp c197
            refine lv_iconst (v := 1) hx hb dX12_compare_85 (by decide) ?_
            refine lv_goto (tgt := 90) hx hb dX12_compare_86 (by decide) ?_
            refine lv_istore_n (lv' := [(3, .int 1), (2, .int x61), (1, .int r53), (0, .ref (ad 0))]) hx hb dX12_compare_90 rfl hl (by decide) rfl (fun ls hl => ?_)
            refine lv_iload_n hx hb dX12_compare_91 rfl (lv_at hl 0 rfl) ?_
            refine lv_if_eq (tgt := 105) hx hb dX12_compare_92 (by decide) (fun c => absurd c (by decide)) (fun _ => ?_)
            refine lv_aload_n hx hb dX12_compare_95 rfl (lv_at hl 3 rfl) ?_
            refine lv_dup hx hb dX12_compare_96 rfl ?_
            refine tk_geti hC hK hw hT hinX12 kM_at0 (by decide) rfl 14 (by decide) (List.mem_of_getElem? (i := 1) rfl) rfl rfl dX12_compare_97 (fun x297 c298 rx297 tx297 => ?_)
            refine wk_top x85 (c298.symm.trans c87) ?_
            refine lv_iconst (v := 1) hx hb dX12_compare_100 (by decide) ?_
            refine lv_iadd hx hb dX12_compare_101 ?_
            refine lv_topi (fun x299 ex299 => ?_)
            have ex299 : x299.toInt = x85.toInt + (1 : Int) := by rw [ex299]; exact wk_add (show (-2147483648) ≤ x85.toInt + (1 : Int) by omega) (show x85.toInt + (1 : Int) ≤ 2147483647 by omega)
            refine tk_puti hC hK hw hT hinX12 tyX12_ok nmX12 kM_at0 (by decide) rfl rfl 14 (by decide) (List.mem_of_getElem? (i := 1) rfl) rfl rfl rfl rfl (show 0 ≤ x299.toInt by omega) (show x299.toInt ≤ 400 by omega) dX12_compare_102 (fun H locs w300 hw hT k302 c301 => ?_)
            have hO := OKW_F1 k302 (by decide) (by decide) (by decide) (by decide) hO
            have hF := hF.put kM_at0 (k := 14) (by decide) k302
            have c303 := k302.gi (Or.inr (by decide)) c89
            have c304 := k302.gi (Or.inr (by decide)) c90
            have c305 := k302.gi (Or.inr (by decide)) c91
            have c306 := k302.gi (Or.inl (tk_ne kM_at3 kM_at0 (by decide))) c92
            have c307 := k302.gi (Or.inl (tk_ne kM_at1 kM_at0 (by decide))) c196
            refine lv_aload_n hx hb dX12_compare_105 rfl (lv_at hl 3 rfl) ?_
            refine lv_iload_n hx hb dX12_compare_106 rfl (lv_at hl 1 rfl) ?_
            refine tk_Vi hC hK hw hT hA hE hSR kM_at0 (by decide) rfl (k_X12_makes_1 l adK adV dC dI cy ad B (by omega) (by omega) qr s1   x61 (show 0 ≤ x61.toInt by omega) (show x61.toInt ≤ 398 by omega) w300 H.size hT x23 c305 (show 0 ≤ x23.toInt by omega) (show x23.toInt ≤ 60 by omega)) (cwV 1 hC.2.2.2.2 gX12_compare_X12_makes rfl rfl rfl (by decide +kernel) ⟨Nat.le_of_ble_eq_true rfl, Nat.le_of_ble_eq_true rfl⟩) rfl hl.1 rfl (Nat.le_of_ble_eq_true rfl) dX12_compare_107 (fun r308 w310 H locs hp309 hw => ?_)
            obtain ⟨hT, k311, hg319⟩ := hp309
            have hO := OKW_FE k311 (fun _ => rfl) (fun _ => rfl) (fun _ => rfl) (fun _ => rfl) hO
            have hF := hF.tr k311 (by decide)
            have c320 := k311.gi kM_at0 (by decide) c303
            have c321 := k311.gi kM_at0 (by decide) c304
            have c322 := k311.gi kM_at3 rfl c306
            have c323 := k311.gi kM_at1 rfl c307
            have c324 := k311.gi kM_at0 (by decide) c301
            rcases hg319 with ⟨rfl, ⟨x312, c313, rx312, tx312⟩, ⟨x314, c315, rx314, tx314⟩⟩ | ⟨rfl, ⟨x316, c317, rx316, tx316⟩, g318⟩
            · refine lv_if_ne (tgt := 115) hx hb dX12_compare_110 (by decide) (fun c => absurd (by decide) c) (fun _ => ?_)
              refine lv_iconst (v := 0) hx hb dX12_compare_113 (by decide) ?_
              exact tk_zret hC hr rfl hlocks hK ⟨hT, hF, (Or.inl ⟨rfl, ⟨x19, c321, (show 1 ≤ x19.toInt by omega), (show x19.toInt ≤ 400 by omega)⟩, ⟨x312, c313, (show 1 ≤ x312.toInt by omega), (show x312.toInt ≤ 3205 by omega)⟩, ⟨f0_, c320, (show 0 ≤ f0_.toInt by omega), (show f0_.toInt ≤ 5 by omega)⟩, hO.1⟩)⟩ hw dX12_compare_114
            · have g318 : x316.toInt = x23.toInt + 1 := by have q := g318; simp only [c303, c320, c305, c317] at q; omega
              refine lv_if_ne (tgt := 115) hx hb dX12_compare_110 (by decide) (fun _ => ?_) (fun c => absurd c (by decide))
              refine lv_iload_n hx hb dX12_compare_115 rfl (lv_at hl 2 rfl) ?_
              refine lv_bipush (v := 60) hx hb dX12_compare_116 (by decide) ?_
              refine lv_icmp_ne (tgt := 133) hx hb dX12_compare_118 (by decide) (fun c => (c (wk_eq.mpr (show r53.toInt = (60 : Int) by omega))).elim) (fun _ => ?_)
              refine lv_iload_n hx hb dX12_compare_121 rfl (lv_at hl 0 rfl) ?_
              refine lv_if_eq (tgt := 129) hx hb dX12_compare_122 (by decide) (fun c => absurd c (by decide)) (fun _ => ?_)
              refine lv_iconst (v := 1) hx hb dX12_compare_125 (by decide) ?_
              refine lv_goto (tgt := 152) hx hb dX12_compare_126 (by decide) ?_
              refine lv_istore (lv' := [(4, .int 1), (3, .int 1), (2, .int x61), (1, .int r53), (0, .ref (ad 0))]) hx hb dX12_compare_152 hl (by decide) rfl (fun ls hl => ?_)
              refine lv_aload_n hx hb dX12_compare_154 rfl (lv_at hl 4 rfl) ?_
              refine tk_Vi hC hK hw hT hA hE hSR kM_at0 (by decide) rfl (k_X12_sum_1 l adK adV dC dI cy ad B (by omega) (by omega) qr s1    w310 H.size hT f0_ c320 (show 0 ≤ f0_.toInt by omega) (show f0_.toInt ≤ 5 by omega) x316 c317 (show 0 ≤ x316.toInt by omega) (show x316.toInt ≤ 60 by omega) x47 c322 (show 0 ≤ x47.toInt by omega) (show x47.toInt ≤ 400 by omega) (show 3 * x47.toInt ≤ 14 * x316.toInt + 60 by omega) (show x47.toInt ≤ 300 by omega) gb ((gd) + 1) (by omega) (by omega) (OKW_cast hO (show (gd) + 1 = (gd) + 1 by omega))) (cwV 0 hC.2.2.2.2 gX12_compare_X12_sum rfl rfl rfl (by decide +kernel) ⟨Nat.le_of_ble_eq_true rfl, Nat.le_of_ble_eq_true rfl⟩) rfl hl.1 rfl (Nat.le_of_ble_eq_true rfl) dX12_compare_155 (fun r325 w327 H locs hp326 hw => ?_)
              obtain ⟨hT, k328, hg361⟩ := hp326
              have hF := hF.tr k328 (by decide)
              have c362 := k328.gi kM_at0 (by decide) c320
              have c363 := k328.gi kM_at0 (by decide) c321
              have c364 := k328.gi kM_at1 rfl c323
              rcases hg361 with ⟨rfl, ⟨x329, c330, rx329, tx329⟩, ⟨x331, c332, rx331, tx331⟩, ⟨x333, c334, rx333, tx333⟩, hq335⟩ | ⟨rfl, ⟨x336, c337, rx336, tx336⟩, ⟨x338, c339, rx338, tx338⟩, ⟨x340, c341, rx340, tx340⟩, hq342⟩ | ⟨rfl, ⟨x343, c344, rx343, tx343⟩, ⟨x345, c346, rx345, tx345⟩, ⟨x347, c348, rx347, tx347⟩, hq349, g350, g351⟩ | ⟨rfl, ⟨x352, c353, rx352, tx352⟩, ⟨x354, c355, rx354, tx354⟩, ⟨x356, c357, rx356, tx356⟩, hq358, g359, g360⟩
              · have ex329 : x329.toInt = x19.toInt := by rw [← c363.symm.trans c330]
                have ex333 : x333.toInt = f0_.toInt := by rw [← c362.symm.trans c334]
                obtain ⟨x365, c366, rx365, tx365⟩ := hT.rda (lo := 0) (hi := 400) (i := (f0_.toInt).toNat) kM_at3 rfl rfl (by omega)
                obtain ⟨x367, c368, rx367, tx367⟩ := hT.rdi (lo := 0) (hi := 60) (k := 18) kM_at0 (by decide) rfl
                have hR := hq335
                refine lv_if_ne (tgt := 163) hx hb dX12_compare_158 (by decide) (fun c => absurd (by decide) c) (fun _ => ?_)
                refine lv_iconst (v := 0) hx hb dX12_compare_161 (by decide) ?_
                exact tk_zret hC hr rfl hlocks hK ⟨hT, hF, (Or.inl ⟨rfl, ⟨x19, c363, (show 1 ≤ x19.toInt by omega), (show x19.toInt ≤ 400 by omega)⟩, ⟨x331, c332, (show 1 ≤ x331.toInt by omega), (show x331.toInt ≤ 3205 by omega)⟩, ⟨f0_, c362, (show 0 ≤ f0_.toInt by omega), (show f0_.toInt ≤ 5 by omega)⟩, hR⟩)⟩ hw dX12_compare_162
              · have ex336 : x336.toInt = x19.toInt := by rw [← c363.symm.trans c337]
                have ex340 : x340.toInt = f0_.toInt := by rw [← c362.symm.trans c341]
                obtain ⟨x369, c370, rx369, tx369⟩ := hT.rda (lo := 0) (hi := 400) (i := (f0_.toInt).toNat) kM_at3 rfl rfl (by omega)
                obtain ⟨x371, c372, rx371, tx371⟩ := hT.rdi (lo := 0) (hi := 60) (k := 18) kM_at0 (by decide) rfl
                have hR := hq342
                refine lv_if_ne (tgt := 163) hx hb dX12_compare_158 (by decide) (fun c => absurd (by decide) c) (fun _ => ?_)
                refine lv_iconst (v := 0) hx hb dX12_compare_161 (by decide) ?_
                exact tk_zret hC hr rfl hlocks hK ⟨hT, hF, (Or.inl ⟨rfl, ⟨x19, c363, (show 1 ≤ x19.toInt by omega), (show x19.toInt ≤ 400 by omega)⟩, ⟨x338, c339, (show 1 ≤ x338.toInt by omega), (show x338.toInt ≤ 3205 by omega)⟩, ⟨f0_, c362, (show 0 ≤ f0_.toInt by omega), (show f0_.toInt ≤ 5 by omega)⟩, hR⟩)⟩ hw dX12_compare_162
              · have ex343 : x343.toInt = x19.toInt := by rw [← c363.symm.trans c344]
                have ex345 : x345.toInt = f0_.toInt := by rw [← c362.symm.trans c346]
                obtain ⟨x373, c374, rx373, tx373⟩ := hT.rda (lo := 0) (hi := 400) (i := (f0_.toInt).toNat) kM_at3 rfl rfl (by omega)
                have g350 : 3 * x373.toInt + 11 ≤ 3 * x47.toInt + 14 * (x347.toInt - x316.toInt) := by have q := g350; simp only [c320, c362, c322, c374, c317, c348] at q; omega
                have g351 : x316.toInt + 1 ≤ x347.toInt := by have q := g351; simp only [c320, c362, c317, c348] at q; omega
                have hO : OKW w327 f0_.toInt gb (((gd) + 1) + 1) := by have q := hq349; exact OKW_cast q (by omega)
                refine lv_if_ne (tgt := 163) hx hb dX12_compare_158 (by decide) (fun _ => ?_) (fun c => absurd c (by decide))
                refine lv_aload_n hx hb dX12_compare_163 rfl (lv_at hl 4 rfl) ?_
                refine lv_bipush (v := 6) hx hb dX12_compare_164 (by decide) ?_
                refine lv_iload hx hb dX12_compare_166 (lv_at hl 0 rfl) ?_
                refine lv_iadd hx hb dX12_compare_168 ?_
                refine wk_top 7 (by decide) ?_
                refine lv_iconst (v := 0) hx hb dX12_compare_169 (by decide) ?_
                refine tk_Vv hC hK hw hT hA hE hSR kM_at0 (by decide) rfl (k_X12_puts_1 l adK adV dC dI cy ad B (by omega) (by omega) qr s1   7 (by decide) (by decide) 0 (by decide) (by decide) w327 H.size hT f0_ c362 (show 0 ≤ f0_.toInt by omega) (show f0_.toInt ≤ 5 by omega) x373 c374 (show 0 ≤ x373.toInt by omega) (show x373.toInt ≤ 400 by omega) (show x373.toInt ≤ 399 by omega)) (cwV 2 hC.2.2.2.2 gX12_compare_X12_puts rfl rfl rfl (by decide +kernel) ⟨Nat.le_of_ble_eq_true rfl, Nat.le_of_ble_eq_true rfl⟩) rfl hl.1 rfl (Nat.le_of_ble_eq_true rfl) dX12_compare_170 (fun w379 H locs hp378 hw => ?_)
                obtain ⟨hT, k380, hg385⟩ := hp378
                have hF := hF.tr k380 (by decide)
                have c386 := k380.gi kM_at0 (by decide) c362
                have c387 := k380.gi kM_at0 (by decide) c363
                have c388 := k380.gi kM_at1 rfl c364
                have c389 := k380.gi kM_at0 (by decide) c348
                obtain ⟨⟨x381, c382, rx381, tx381⟩, hq383, g384⟩ := hg385
                have ex381 : x381.toInt = f0_.toInt := by rw [← c386.symm.trans c382]
                obtain ⟨x390, c391, rx390, tx390⟩ := hT.rda (lo := 0) (hi := 400) (i := (f0_.toInt).toNat) kM_at3 rfl rfl (by omega)
                have g384 : x390.toInt = x373.toInt + 1 := by have q := g384; simp only [c362, c386, c374, c391] at q; omega
                have hO : OKW w379 f0_.toInt gb ((((gd) + 1) + 1) - 1) := OKW_put hO (by have q := hq383; rw [c362] at q; exact q) (by rw [c374]; omega) (fun x hx => by simp only [(show (7 : Int32).toInt = 7 by decide), (show (0 : Int32).toInt = 0 by decide)] at hx; exact okT_bin (by omega) (by omega) (by omega) (by omega)) (by omega) (by omega)
                refine lv_iconst (v := 1) hx hb dX12_compare_173 (by decide) ?_
                exact tk_zret hC hr rfl hlocks hK ⟨hT, hF, (Or.inr (Or.inr ⟨rfl, ⟨x19, c387, (show 1 ≤ x19.toInt by omega), (show x19.toInt ≤ 400 by omega)⟩, ⟨f0_, c386, (show 0 ≤ f0_.toInt by omega), (show f0_.toInt ≤ 5 by omega)⟩, ⟨x347, c389, (show 1 ≤ x347.toInt by omega), (show x347.toInt ≤ 60 by omega)⟩, (OKW_cast hO (by omega)), (by simp only [c386, cf0_, cf2_, c391, cf1_, c389]; omega), (by simp only [c386, cf0_, cf1_, c389]; omega)⟩))⟩ hw dX12_compare_174
              · have ex352 : x352.toInt = x19.toInt := by rw [← c363.symm.trans c353]
                have ex354 : x354.toInt = f0_.toInt := by rw [← c362.symm.trans c355]
                obtain ⟨x375, c376, rx375, tx375⟩ := hT.rda (lo := 0) (hi := 400) (i := (f0_.toInt).toNat) kM_at3 rfl rfl (by omega)
                have g359 : 3 * x375.toInt + 11 ≤ 3 * x47.toInt + 14 * (x356.toInt - x316.toInt) := by have q := g359; simp only [c320, c362, c322, c376, c317, c357] at q; omega
                have g360 : x316.toInt + 1 ≤ x356.toInt := by have q := g360; simp only [c320, c362, c317, c357] at q; omega
                have hO : OKW w327 f0_.toInt gb (((gd) + 1) + 1) := by have q := hq358; exact OKW_cast q (by omega)
                refine lv_if_ne (tgt := 163) hx hb dX12_compare_158 (by decide) (fun _ => ?_) (fun c => absurd c (by decide))
                refine lv_aload_n hx hb dX12_compare_163 rfl (lv_at hl 4 rfl) ?_
                refine lv_bipush (v := 6) hx hb dX12_compare_164 (by decide) ?_
                refine lv_iload hx hb dX12_compare_166 (lv_at hl 0 rfl) ?_
                refine lv_iadd hx hb dX12_compare_168 ?_
                refine wk_top 7 (by decide) ?_
                refine lv_iconst (v := 0) hx hb dX12_compare_169 (by decide) ?_
                refine tk_Vv hC hK hw hT hA hE hSR kM_at0 (by decide) rfl (k_X12_puts_1 l adK adV dC dI cy ad B (by omega) (by omega) qr s1   7 (by decide) (by decide) 0 (by decide) (by decide) w327 H.size hT f0_ c362 (show 0 ≤ f0_.toInt by omega) (show f0_.toInt ≤ 5 by omega) x375 c376 (show 0 ≤ x375.toInt by omega) (show x375.toInt ≤ 400 by omega) (show x375.toInt ≤ 399 by omega)) (cwV 2 hC.2.2.2.2 gX12_compare_X12_puts rfl rfl rfl (by decide +kernel) ⟨Nat.le_of_ble_eq_true rfl, Nat.le_of_ble_eq_true rfl⟩) rfl hl.1 rfl (Nat.le_of_ble_eq_true rfl) dX12_compare_170 (fun w394 H locs hp393 hw => ?_)
                obtain ⟨hT, k395, hg400⟩ := hp393
                have hF := hF.tr k395 (by decide)
                have c401 := k395.gi kM_at0 (by decide) c362
                have c402 := k395.gi kM_at0 (by decide) c363
                have c403 := k395.gi kM_at1 rfl c364
                have c404 := k395.gi kM_at0 (by decide) c357
                obtain ⟨⟨x396, c397, rx396, tx396⟩, hq398, g399⟩ := hg400
                have ex396 : x396.toInt = f0_.toInt := by rw [← c401.symm.trans c397]
                obtain ⟨x405, c406, rx405, tx405⟩ := hT.rda (lo := 0) (hi := 400) (i := (f0_.toInt).toNat) kM_at3 rfl rfl (by omega)
                have g399 : x405.toInt = x375.toInt + 1 := by have q := g399; simp only [c362, c401, c376, c406] at q; omega
                have hO : OKW w394 f0_.toInt gb ((((gd) + 1) + 1) - 1) := OKW_put hO (by have q := hq398; rw [c362] at q; exact q) (by rw [c376]; omega) (fun x hx => by simp only [(show (7 : Int32).toInt = 7 by decide), (show (0 : Int32).toInt = 0 by decide)] at hx; exact okT_bin (by omega) (by omega) (by omega) (by omega)) (by omega) (by omega)
                refine lv_iconst (v := 1) hx hb dX12_compare_173 (by decide) ?_
                exact tk_zret hC hr rfl hlocks hK ⟨hT, hF, (Or.inr (Or.inr ⟨rfl, ⟨x19, c402, (show 1 ≤ x19.toInt by omega), (show x19.toInt ≤ 400 by omega)⟩, ⟨f0_, c401, (show 0 ≤ f0_.toInt by omega), (show f0_.toInt ≤ 5 by omega)⟩, ⟨x356, c404, (show 1 ≤ x356.toInt by omega), (show x356.toInt ≤ 60 by omega)⟩, (OKW_cast hO (by omega)), (by simp only [c401, cf0_, cf2_, c406, cf1_, c404]; omega), (by simp only [c401, cf0_, cf1_, c404]; omega)⟩))⟩ hw dX12_compare_174
      · have c82 : ¬ r53.toInt = (60 : Int) := wk_eqF c82
        refine lv_iload_n hx hb dX12_compare_25 rfl (lv_at hl 1 rfl) ?_
        refine lv_bipush (v := 61) hx hb dX12_compare_26 (by decide) ?_
        refine lv_icmp_eq (tgt := 44) hx hb dX12_compare_28 (by decide) (fun c407 => ?_) (fun c407 => ?_)
        · have c407 : r53.toInt = (61 : Int) := wk_eq.mp c407
          refine lv_aload_n hx hb dX12_compare_44 rfl (lv_at hl 2 rfl) ?_
          refine lv_dup hx hb dX12_compare_45 rfl ?_
          refine tk_geti hC hK hw hT hinX12 kM_at0 (by decide) rfl 14 (by decide) (List.mem_of_getElem? (i := 1) rfl) rfl rfl dX12_compare_46 (fun x408 c409 rx408 tx408 => ?_)
          refine wk_top x61 (c409.symm.trans c62) ?_
          refine lv_iconst (v := 1) hx hb dX12_compare_49 (by decide) ?_
          refine lv_iadd hx hb dX12_compare_50 ?_
          refine lv_topi (fun x410 ex410 => ?_)
          have ex410 : x410.toInt = x61.toInt + (1 : Int) := by rw [ex410]; exact wk_add (show (-2147483648) ≤ x61.toInt + (1 : Int) by omega) (show x61.toInt + (1 : Int) ≤ 2147483647 by omega)
          refine tk_puti hC hK hw hT hinX12 tyX12_ok nmX12 kM_at0 (by decide) rfl rfl 14 (by decide) (List.mem_of_getElem? (i := 1) rfl) rfl rfl rfl rfl (show 0 ≤ x410.toInt by omega) (show x410.toInt ≤ 400 by omega) dX12_compare_51 (fun H locs w411 hw hT k413 c412 => ?_)
          have hO := OKW_F1 k413 (by decide) (by decide) (by decide) (by decide) hO
          have hF := hF.put kM_at0 (k := 14) (by decide) k413
          have c414 := k413.gi (Or.inr (by decide)) c74
          have c415 := k413.gi (Or.inr (by decide)) c75
          have c416 := k413.gi (Or.inr (by decide)) c76
          have c417 := k413.gi (Or.inl (tk_ne kM_at3 kM_at0 (by decide))) c77
          refine lv_iload_n hx hb dX12_compare_54 rfl (lv_at hl 1 rfl) ?_
          refine lv_bipush (v := 61) hx hb dX12_compare_55 (by decide) ?_
          refine lv_icmp_eq (tgt := 89) hx hb dX12_compare_57 (by decide) (fun _ => ?_) (fun c => (c (wk_eq.mpr (show r53.toInt = (61 : Int) by omega))).elim)
          refine lv_iconst (v := 0) hx hb dX12_compare_89 (by decide) ?_
          refine lv_istore_n (lv' := [(3, .int 0), (2, .int x61), (1, .int r53), (0, .ref (ad 0))]) hx hb dX12_compare_90 rfl hl (by decide) rfl (fun ls hl => ?_)
          refine lv_iload_n hx hb dX12_compare_91 rfl (lv_at hl 0 rfl) ?_
          refine lv_if_eq (tgt := 105) hx hb dX12_compare_92 (by decide) (fun _ => ?_) (fun c => absurd (by decide) c)
          refine lv_aload_n hx hb dX12_compare_105 rfl (lv_at hl 3 rfl) ?_
          refine lv_iload_n hx hb dX12_compare_106 rfl (lv_at hl 1 rfl) ?_
          refine tk_Vi hC hK hw hT hA hE hSR kM_at0 (by decide) rfl (k_X12_makes_2 l adK adV dC dI cy ad B (by omega) (by omega) qr s1   x61 (show 0 ≤ x61.toInt by omega) (show x61.toInt ≤ 399 by omega) w411 H.size hT x23 c416 (show 0 ≤ x23.toInt by omega) (show x23.toInt ≤ 60 by omega)) (cwV 1 hC.2.2.2.2 gX12_compare_X12_makes rfl rfl rfl (by decide +kernel) ⟨Nat.le_of_ble_eq_true rfl, Nat.le_of_ble_eq_true rfl⟩) rfl hl.1 rfl (Nat.le_of_ble_eq_true rfl) dX12_compare_107 (fun r418 w420 H locs hp419 hw => ?_)
          obtain ⟨hT, k421, hg429⟩ := hp419
          have hO := OKW_FE k421 (fun _ => rfl) (fun _ => rfl) (fun _ => rfl) (fun _ => rfl) hO
          have hF := hF.tr k421 (by decide)
          have c430 := k421.gi kM_at0 (by decide) c414
          have c431 := k421.gi kM_at0 (by decide) c415
          have c432 := k421.gi kM_at3 rfl c417
          have c433 := k421.gi kM_at0 (by decide) c412
          rcases hg429 with ⟨rfl, ⟨x422, c423, rx422, tx422⟩, ⟨x424, c425, rx424, tx424⟩⟩ | ⟨rfl, ⟨x426, c427, rx426, tx426⟩, g428⟩
          · refine lv_if_ne (tgt := 115) hx hb dX12_compare_110 (by decide) (fun c => absurd (by decide) c) (fun _ => ?_)
            refine lv_iconst (v := 0) hx hb dX12_compare_113 (by decide) ?_
            exact tk_zret hC hr rfl hlocks hK ⟨hT, hF, (Or.inl ⟨rfl, ⟨x19, c431, (show 1 ≤ x19.toInt by omega), (show x19.toInt ≤ 400 by omega)⟩, ⟨x422, c423, (show 1 ≤ x422.toInt by omega), (show x422.toInt ≤ 3205 by omega)⟩, ⟨f0_, c430, (show 0 ≤ f0_.toInt by omega), (show f0_.toInt ≤ 5 by omega)⟩, hO.1⟩)⟩ hw dX12_compare_114
          · have g428 : x426.toInt = x23.toInt + 1 := by have q := g428; simp only [c414, c430, c416, c427] at q; omega
            refine lv_if_ne (tgt := 115) hx hb dX12_compare_110 (by decide) (fun _ => ?_) (fun c => absurd c (by decide))
            refine lv_iload_n hx hb dX12_compare_115 rfl (lv_at hl 2 rfl) ?_
            refine lv_bipush (v := 60) hx hb dX12_compare_116 (by decide) ?_
            refine lv_icmp_ne (tgt := 133) hx hb dX12_compare_118 (by decide) (fun _ => ?_) (fun c => absurd (show r53.toInt = (60 : Int) from wk_eq.mp c) (by omega))
            refine lv_iload_n hx hb dX12_compare_133 rfl (lv_at hl 2 rfl) ?_
            refine lv_bipush (v := 61) hx hb dX12_compare_134 (by decide) ?_
            refine lv_icmp_ne (tgt := 143) hx hb dX12_compare_136 (by decide) (fun c => (c (wk_eq.mpr (show r53.toInt = (61 : Int) by omega))).elim) (fun _ => ?_)
            refine lv_iconst (v := 2) hx hb dX12_compare_139 (by decide) ?_
            refine lv_goto (tgt := 152) hx hb dX12_compare_140 (by decide) ?_
            refine lv_istore (lv' := [(4, .int 2), (3, .int 0), (2, .int x61), (1, .int r53), (0, .ref (ad 0))]) hx hb dX12_compare_152 hl (by decide) rfl (fun ls hl => ?_)
            refine lv_aload_n hx hb dX12_compare_154 rfl (lv_at hl 4 rfl) ?_
            refine tk_Vi hC hK hw hT hA hE hSR kM_at0 (by decide) rfl (k_X12_sum_1 l adK adV dC dI cy ad B (by omega) (by omega) qr s1    w420 H.size hT f0_ c430 (show 0 ≤ f0_.toInt by omega) (show f0_.toInt ≤ 5 by omega) x426 c427 (show 0 ≤ x426.toInt by omega) (show x426.toInt ≤ 60 by omega) x47 c432 (show 0 ≤ x47.toInt by omega) (show x47.toInt ≤ 400 by omega) (show 3 * x47.toInt ≤ 14 * x426.toInt + 60 by omega) (show x47.toInt ≤ 300 by omega) gb ((gd) + 1) (by omega) (by omega) (OKW_cast hO (show (gd) + 1 = (gd) + 1 by omega))) (cwV 0 hC.2.2.2.2 gX12_compare_X12_sum rfl rfl rfl (by decide +kernel) ⟨Nat.le_of_ble_eq_true rfl, Nat.le_of_ble_eq_true rfl⟩) rfl hl.1 rfl (Nat.le_of_ble_eq_true rfl) dX12_compare_155 (fun r434 w436 H locs hp435 hw => ?_)
            obtain ⟨hT, k437, hg470⟩ := hp435
            have hF := hF.tr k437 (by decide)
            have c471 := k437.gi kM_at0 (by decide) c430
            have c472 := k437.gi kM_at0 (by decide) c431
            rcases hg470 with ⟨rfl, ⟨x438, c439, rx438, tx438⟩, ⟨x440, c441, rx440, tx440⟩, ⟨x442, c443, rx442, tx442⟩, hq444⟩ | ⟨rfl, ⟨x445, c446, rx445, tx445⟩, ⟨x447, c448, rx447, tx447⟩, ⟨x449, c450, rx449, tx449⟩, hq451⟩ | ⟨rfl, ⟨x452, c453, rx452, tx452⟩, ⟨x454, c455, rx454, tx454⟩, ⟨x456, c457, rx456, tx456⟩, hq458, g459, g460⟩ | ⟨rfl, ⟨x461, c462, rx461, tx461⟩, ⟨x463, c464, rx463, tx463⟩, ⟨x465, c466, rx465, tx465⟩, hq467, g468, g469⟩
            · have ex438 : x438.toInt = x19.toInt := by rw [← c472.symm.trans c439]
              have ex442 : x442.toInt = f0_.toInt := by rw [← c471.symm.trans c443]
              obtain ⟨x473, c474, rx473, tx473⟩ := hT.rda (lo := 0) (hi := 400) (i := (f0_.toInt).toNat) kM_at3 rfl rfl (by omega)
              obtain ⟨x475, c476, rx475, tx475⟩ := hT.rdi (lo := 0) (hi := 60) (k := 18) kM_at0 (by decide) rfl
              have hR := hq444
              refine lv_if_ne (tgt := 163) hx hb dX12_compare_158 (by decide) (fun c => absurd (by decide) c) (fun _ => ?_)
              refine lv_iconst (v := 0) hx hb dX12_compare_161 (by decide) ?_
              exact tk_zret hC hr rfl hlocks hK ⟨hT, hF, (Or.inl ⟨rfl, ⟨x19, c472, (show 1 ≤ x19.toInt by omega), (show x19.toInt ≤ 400 by omega)⟩, ⟨x440, c441, (show 1 ≤ x440.toInt by omega), (show x440.toInt ≤ 3205 by omega)⟩, ⟨f0_, c471, (show 0 ≤ f0_.toInt by omega), (show f0_.toInt ≤ 5 by omega)⟩, hR⟩)⟩ hw dX12_compare_162
            · have ex445 : x445.toInt = x19.toInt := by rw [← c472.symm.trans c446]
              have ex449 : x449.toInt = f0_.toInt := by rw [← c471.symm.trans c450]
              obtain ⟨x477, c478, rx477, tx477⟩ := hT.rda (lo := 0) (hi := 400) (i := (f0_.toInt).toNat) kM_at3 rfl rfl (by omega)
              obtain ⟨x479, c480, rx479, tx479⟩ := hT.rdi (lo := 0) (hi := 60) (k := 18) kM_at0 (by decide) rfl
              have hR := hq451
              refine lv_if_ne (tgt := 163) hx hb dX12_compare_158 (by decide) (fun c => absurd (by decide) c) (fun _ => ?_)
              refine lv_iconst (v := 0) hx hb dX12_compare_161 (by decide) ?_
              exact tk_zret hC hr rfl hlocks hK ⟨hT, hF, (Or.inl ⟨rfl, ⟨x19, c472, (show 1 ≤ x19.toInt by omega), (show x19.toInt ≤ 400 by omega)⟩, ⟨x447, c448, (show 1 ≤ x447.toInt by omega), (show x447.toInt ≤ 3205 by omega)⟩, ⟨f0_, c471, (show 0 ≤ f0_.toInt by omega), (show f0_.toInt ≤ 5 by omega)⟩, hR⟩)⟩ hw dX12_compare_162
            · have ex452 : x452.toInt = x19.toInt := by rw [← c472.symm.trans c453]
              have ex454 : x454.toInt = f0_.toInt := by rw [← c471.symm.trans c455]
              obtain ⟨x481, c482, rx481, tx481⟩ := hT.rda (lo := 0) (hi := 400) (i := (f0_.toInt).toNat) kM_at3 rfl rfl (by omega)
              have g459 : 3 * x481.toInt + 11 ≤ 3 * x47.toInt + 14 * (x456.toInt - x426.toInt) := by have q := g459; simp only [c430, c471, c432, c482, c427, c457] at q; omega
              have g460 : x426.toInt + 1 ≤ x456.toInt := by have q := g460; simp only [c430, c471, c427, c457] at q; omega
              have hO : OKW w436 f0_.toInt gb (((gd) + 1) + 1) := by have q := hq458; exact OKW_cast q (by omega)
              refine lv_if_ne (tgt := 163) hx hb dX12_compare_158 (by decide) (fun _ => ?_) (fun c => absurd c (by decide))
              refine lv_aload_n hx hb dX12_compare_163 rfl (lv_at hl 4 rfl) ?_
              refine lv_bipush (v := 6) hx hb dX12_compare_164 (by decide) ?_
              refine lv_iload hx hb dX12_compare_166 (lv_at hl 0 rfl) ?_
              refine lv_iadd hx hb dX12_compare_168 ?_
              refine wk_top 8 (by decide) ?_
              refine lv_iconst (v := 0) hx hb dX12_compare_169 (by decide) ?_
              refine tk_Vv hC hK hw hT hA hE hSR kM_at0 (by decide) rfl (k_X12_puts_1 l adK adV dC dI cy ad B (by omega) (by omega) qr s1   8 (by decide) (by decide) 0 (by decide) (by decide) w436 H.size hT f0_ c471 (show 0 ≤ f0_.toInt by omega) (show f0_.toInt ≤ 5 by omega) x481 c482 (show 0 ≤ x481.toInt by omega) (show x481.toInt ≤ 400 by omega) (show x481.toInt ≤ 399 by omega)) (cwV 2 hC.2.2.2.2 gX12_compare_X12_puts rfl rfl rfl (by decide +kernel) ⟨Nat.le_of_ble_eq_true rfl, Nat.le_of_ble_eq_true rfl⟩) rfl hl.1 rfl (Nat.le_of_ble_eq_true rfl) dX12_compare_170 (fun w487 H locs hp486 hw => ?_)
              obtain ⟨hT, k488, hg493⟩ := hp486
              have hF := hF.tr k488 (by decide)
              have c494 := k488.gi kM_at0 (by decide) c471
              have c495 := k488.gi kM_at0 (by decide) c472
              have c496 := k488.gi kM_at0 (by decide) c457
              obtain ⟨⟨x489, c490, rx489, tx489⟩, hq491, g492⟩ := hg493
              have ex489 : x489.toInt = f0_.toInt := by rw [← c494.symm.trans c490]
              obtain ⟨x497, c498, rx497, tx497⟩ := hT.rda (lo := 0) (hi := 400) (i := (f0_.toInt).toNat) kM_at3 rfl rfl (by omega)
              have g492 : x497.toInt = x481.toInt + 1 := by have q := g492; simp only [c471, c494, c482, c498] at q; omega
              have hO : OKW w487 f0_.toInt gb ((((gd) + 1) + 1) - 1) := OKW_put hO (by have q := hq491; rw [c471] at q; exact q) (by rw [c482]; omega) (fun x hx => by simp only [(show (8 : Int32).toInt = 8 by decide), (show (0 : Int32).toInt = 0 by decide)] at hx; exact okT_bin (by omega) (by omega) (by omega) (by omega)) (by omega) (by omega)
              refine lv_iconst (v := 1) hx hb dX12_compare_173 (by decide) ?_
              exact tk_zret hC hr rfl hlocks hK ⟨hT, hF, (Or.inr (Or.inr ⟨rfl, ⟨x19, c495, (show 1 ≤ x19.toInt by omega), (show x19.toInt ≤ 400 by omega)⟩, ⟨f0_, c494, (show 0 ≤ f0_.toInt by omega), (show f0_.toInt ≤ 5 by omega)⟩, ⟨x456, c496, (show 1 ≤ x456.toInt by omega), (show x456.toInt ≤ 60 by omega)⟩, (OKW_cast hO (by omega)), (by simp only [c494, cf0_, cf2_, c498, cf1_, c496]; omega), (by simp only [c494, cf0_, cf1_, c496]; omega)⟩))⟩ hw dX12_compare_174
            · have ex461 : x461.toInt = x19.toInt := by rw [← c472.symm.trans c462]
              have ex463 : x463.toInt = f0_.toInt := by rw [← c471.symm.trans c464]
              obtain ⟨x483, c484, rx483, tx483⟩ := hT.rda (lo := 0) (hi := 400) (i := (f0_.toInt).toNat) kM_at3 rfl rfl (by omega)
              have g468 : 3 * x483.toInt + 11 ≤ 3 * x47.toInt + 14 * (x465.toInt - x426.toInt) := by have q := g468; simp only [c430, c471, c432, c484, c427, c466] at q; omega
              have g469 : x426.toInt + 1 ≤ x465.toInt := by have q := g469; simp only [c430, c471, c427, c466] at q; omega
              have hO : OKW w436 f0_.toInt gb (((gd) + 1) + 1) := by have q := hq467; exact OKW_cast q (by omega)
              refine lv_if_ne (tgt := 163) hx hb dX12_compare_158 (by decide) (fun _ => ?_) (fun c => absurd c (by decide))
              refine lv_aload_n hx hb dX12_compare_163 rfl (lv_at hl 4 rfl) ?_
              refine lv_bipush (v := 6) hx hb dX12_compare_164 (by decide) ?_
              refine lv_iload hx hb dX12_compare_166 (lv_at hl 0 rfl) ?_
              refine lv_iadd hx hb dX12_compare_168 ?_
              refine wk_top 8 (by decide) ?_
              refine lv_iconst (v := 0) hx hb dX12_compare_169 (by decide) ?_
              refine tk_Vv hC hK hw hT hA hE hSR kM_at0 (by decide) rfl (k_X12_puts_1 l adK adV dC dI cy ad B (by omega) (by omega) qr s1   8 (by decide) (by decide) 0 (by decide) (by decide) w436 H.size hT f0_ c471 (show 0 ≤ f0_.toInt by omega) (show f0_.toInt ≤ 5 by omega) x483 c484 (show 0 ≤ x483.toInt by omega) (show x483.toInt ≤ 400 by omega) (show x483.toInt ≤ 399 by omega)) (cwV 2 hC.2.2.2.2 gX12_compare_X12_puts rfl rfl rfl (by decide +kernel) ⟨Nat.le_of_ble_eq_true rfl, Nat.le_of_ble_eq_true rfl⟩) rfl hl.1 rfl (Nat.le_of_ble_eq_true rfl) dX12_compare_170 (fun w501 H locs hp500 hw => ?_)
              obtain ⟨hT, k502, hg507⟩ := hp500
              have hF := hF.tr k502 (by decide)
              have c508 := k502.gi kM_at0 (by decide) c471
              have c509 := k502.gi kM_at0 (by decide) c472
              have c510 := k502.gi kM_at0 (by decide) c466
              obtain ⟨⟨x503, c504, rx503, tx503⟩, hq505, g506⟩ := hg507
              have ex503 : x503.toInt = f0_.toInt := by rw [← c508.symm.trans c504]
              obtain ⟨x511, c512, rx511, tx511⟩ := hT.rda (lo := 0) (hi := 400) (i := (f0_.toInt).toNat) kM_at3 rfl rfl (by omega)
              have g506 : x511.toInt = x483.toInt + 1 := by have q := g506; simp only [c471, c508, c484, c512] at q; omega
              have hO : OKW w501 f0_.toInt gb ((((gd) + 1) + 1) - 1) := OKW_put hO (by have q := hq505; rw [c471] at q; exact q) (by rw [c484]; omega) (fun x hx => by simp only [(show (8 : Int32).toInt = 8 by decide), (show (0 : Int32).toInt = 0 by decide)] at hx; exact okT_bin (by omega) (by omega) (by omega) (by omega)) (by omega) (by omega)
              refine lv_iconst (v := 1) hx hb dX12_compare_173 (by decide) ?_
              exact tk_zret hC hr rfl hlocks hK ⟨hT, hF, (Or.inr (Or.inr ⟨rfl, ⟨x19, c509, (show 1 ≤ x19.toInt by omega), (show x19.toInt ≤ 400 by omega)⟩, ⟨f0_, c508, (show 0 ≤ f0_.toInt by omega), (show f0_.toInt ≤ 5 by omega)⟩, ⟨x465, c510, (show 1 ≤ x465.toInt by omega), (show x465.toInt ≤ 60 by omega)⟩, (OKW_cast hO (by omega)), (by simp only [c508, cf0_, cf2_, c512, cf1_, c510]; omega), (by simp only [c508, cf0_, cf1_, c510]; omega)⟩))⟩ hw dX12_compare_174
        · have c407 : ¬ r53.toInt = (61 : Int) := wk_eqF c407
          refine lv_iload_n hx hb dX12_compare_31 rfl (lv_at hl 1 rfl) ?_
          refine lv_bipush (v := 62) hx hb dX12_compare_32 (by decide) ?_
          refine lv_icmp_eq (tgt := 44) hx hb dX12_compare_34 (by decide) (fun c513 => ?_) (fun c513 => ?_)
          · have c513 : r53.toInt = (62 : Int) := wk_eq.mp c513
            refine lv_aload_n hx hb dX12_compare_44 rfl (lv_at hl 2 rfl) ?_
            refine lv_dup hx hb dX12_compare_45 rfl ?_
            refine tk_geti hC hK hw hT hinX12 kM_at0 (by decide) rfl 14 (by decide) (List.mem_of_getElem? (i := 1) rfl) rfl rfl dX12_compare_46 (fun x514 c515 rx514 tx514 => ?_)
            refine wk_top x61 (c515.symm.trans c62) ?_
            refine lv_iconst (v := 1) hx hb dX12_compare_49 (by decide) ?_
            refine lv_iadd hx hb dX12_compare_50 ?_
            refine lv_topi (fun x516 ex516 => ?_)
            have ex516 : x516.toInt = x61.toInt + (1 : Int) := by rw [ex516]; exact wk_add (show (-2147483648) ≤ x61.toInt + (1 : Int) by omega) (show x61.toInt + (1 : Int) ≤ 2147483647 by omega)
            refine tk_puti hC hK hw hT hinX12 tyX12_ok nmX12 kM_at0 (by decide) rfl rfl 14 (by decide) (List.mem_of_getElem? (i := 1) rfl) rfl rfl rfl rfl (show 0 ≤ x516.toInt by omega) (show x516.toInt ≤ 400 by omega) dX12_compare_51 (fun H locs w517 hw hT k519 c518 => ?_)
            have hO := OKW_F1 k519 (by decide) (by decide) (by decide) (by decide) hO
            have hF := hF.put kM_at0 (k := 14) (by decide) k519
            have c520 := k519.gi (Or.inr (by decide)) c74
            have c521 := k519.gi (Or.inr (by decide)) c75
            have c522 := k519.gi (Or.inr (by decide)) c76
            have c523 := k519.gi (Or.inl (tk_ne kM_at3 kM_at0 (by decide))) c77
            refine lv_iload_n hx hb dX12_compare_54 rfl (lv_at hl 1 rfl) ?_
            refine lv_bipush (v := 61) hx hb dX12_compare_55 (by decide) ?_
            refine lv_icmp_eq (tgt := 89) hx hb dX12_compare_57 (by decide) (fun c => absurd c (fun h => absurd (show r53.toInt = (61 : Int) from wk_eq.mp h) (by omega))) (fun _ => ?_)
            refine lv_aload_n hx hb dX12_compare_60 rfl (lv_at hl 2 rfl) ?_
            refine tk_geti hC hK hw hT hinX12 kM_at0 (by decide) rfl 14 (by decide) (List.mem_of_getElem? (i := 1) rfl) rfl rfl dX12_compare_61 (fun x524 c525 rx524 tx524 => ?_)
            refine wk_top x516 (c525.symm.trans c518) ?_
            refine lv_aload_n hx hb dX12_compare_64 rfl (lv_at hl 2 rfl) ?_
            refine tk_geti hC hK hw hT hinX12 kM_at0 (by decide) rfl 1 (by decide) (List.mem_of_getElem? (i := 2) rfl) rfl rfl dX12_compare_65 (fun x526 c527 rx526 tx526 => ?_)
            refine wk_top x19 (c527.symm.trans c521) ?_
            refine lv_icmp_ge (tgt := 89) hx hb dX12_compare_68 (by decide) (fun c528 => ?_) (fun c528 => ?_)
            · have c528 : x19.toInt ≤ x516.toInt := wk_le.mp c528
              refine lv_iconst (v := 0) hx hb dX12_compare_89 (by decide) ?_
              refine lv_istore_n (lv' := [(3, .int 0), (2, .int x61), (1, .int r53), (0, .ref (ad 0))]) hx hb dX12_compare_90 rfl hl (by decide) rfl (fun ls hl => ?_)
              refine lv_iload_n hx hb dX12_compare_91 rfl (lv_at hl 0 rfl) ?_
              refine lv_if_eq (tgt := 105) hx hb dX12_compare_92 (by decide) (fun _ => ?_) (fun c => absurd (by decide) c)
              refine lv_aload_n hx hb dX12_compare_105 rfl (lv_at hl 3 rfl) ?_
              refine lv_iload_n hx hb dX12_compare_106 rfl (lv_at hl 1 rfl) ?_
              refine tk_Vi hC hK hw hT hA hE hSR kM_at0 (by decide) rfl (k_X12_makes_2 l adK adV dC dI cy ad B (by omega) (by omega) qr s1   x61 (show 0 ≤ x61.toInt by omega) (show x61.toInt ≤ 399 by omega) w517 H.size hT x23 c522 (show 0 ≤ x23.toInt by omega) (show x23.toInt ≤ 60 by omega)) (cwV 1 hC.2.2.2.2 gX12_compare_X12_makes rfl rfl rfl (by decide +kernel) ⟨Nat.le_of_ble_eq_true rfl, Nat.le_of_ble_eq_true rfl⟩) rfl hl.1 rfl (Nat.le_of_ble_eq_true rfl) dX12_compare_107 (fun r529 w531 H locs hp530 hw => ?_)
              obtain ⟨hT, k532, hg540⟩ := hp530
              have hO := OKW_FE k532 (fun _ => rfl) (fun _ => rfl) (fun _ => rfl) (fun _ => rfl) hO
              have hF := hF.tr k532 (by decide)
              have c541 := k532.gi kM_at0 (by decide) c520
              have c542 := k532.gi kM_at0 (by decide) c521
              have c543 := k532.gi kM_at3 rfl c523
              have c544 := k532.gi kM_at0 (by decide) c518
              rcases hg540 with ⟨rfl, ⟨x533, c534, rx533, tx533⟩, ⟨x535, c536, rx535, tx535⟩⟩ | ⟨rfl, ⟨x537, c538, rx537, tx537⟩, g539⟩
              · refine lv_if_ne (tgt := 115) hx hb dX12_compare_110 (by decide) (fun c => absurd (by decide) c) (fun _ => ?_)
                refine lv_iconst (v := 0) hx hb dX12_compare_113 (by decide) ?_
                exact tk_zret hC hr rfl hlocks hK ⟨hT, hF, (Or.inl ⟨rfl, ⟨x19, c542, (show 1 ≤ x19.toInt by omega), (show x19.toInt ≤ 400 by omega)⟩, ⟨x533, c534, (show 1 ≤ x533.toInt by omega), (show x533.toInt ≤ 3205 by omega)⟩, ⟨f0_, c541, (show 0 ≤ f0_.toInt by omega), (show f0_.toInt ≤ 5 by omega)⟩, hO.1⟩)⟩ hw dX12_compare_114
              · have g539 : x537.toInt = x23.toInt + 1 := by have q := g539; simp only [c520, c541, c522, c538] at q; omega
                refine lv_if_ne (tgt := 115) hx hb dX12_compare_110 (by decide) (fun _ => ?_) (fun c => absurd c (by decide))
                refine lv_iload_n hx hb dX12_compare_115 rfl (lv_at hl 2 rfl) ?_
                refine lv_bipush (v := 60) hx hb dX12_compare_116 (by decide) ?_
                refine lv_icmp_ne (tgt := 133) hx hb dX12_compare_118 (by decide) (fun _ => ?_) (fun c => absurd (show r53.toInt = (60 : Int) from wk_eq.mp c) (by omega))
                refine lv_iload_n hx hb dX12_compare_133 rfl (lv_at hl 2 rfl) ?_
                refine lv_bipush (v := 61) hx hb dX12_compare_134 (by decide) ?_
                refine lv_icmp_ne (tgt := 143) hx hb dX12_compare_136 (by decide) (fun _ => ?_) (fun c => absurd (show r53.toInt = (61 : Int) from wk_eq.mp c) (by omega))
                refine lv_iload_n hx hb dX12_compare_143 rfl (lv_at hl 0 rfl) ?_
                refine lv_if_eq (tgt := 151) hx hb dX12_compare_144 (by decide) (fun _ => ?_) (fun c => absurd (by decide) c)
                refine lv_iconst (v := 4) hx hb dX12_compare_151 (by decide) ?_
                refine lv_istore (lv' := [(4, .int 4), (3, .int 0), (2, .int x61), (1, .int r53), (0, .ref (ad 0))]) hx hb dX12_compare_152 hl (by decide) rfl (fun ls hl => ?_)
                refine lv_aload_n hx hb dX12_compare_154 rfl (lv_at hl 4 rfl) ?_
                refine tk_Vi hC hK hw hT hA hE hSR kM_at0 (by decide) rfl (k_X12_sum_1 l adK adV dC dI cy ad B (by omega) (by omega) qr s1    w531 H.size hT f0_ c541 (show 0 ≤ f0_.toInt by omega) (show f0_.toInt ≤ 5 by omega) x537 c538 (show 0 ≤ x537.toInt by omega) (show x537.toInt ≤ 60 by omega) x47 c543 (show 0 ≤ x47.toInt by omega) (show x47.toInt ≤ 400 by omega) (show 3 * x47.toInt ≤ 14 * x537.toInt + 60 by omega) (show x47.toInt ≤ 300 by omega) gb ((gd) + 1) (by omega) (by omega) (OKW_cast hO (show (gd) + 1 = (gd) + 1 by omega))) (cwV 0 hC.2.2.2.2 gX12_compare_X12_sum rfl rfl rfl (by decide +kernel) ⟨Nat.le_of_ble_eq_true rfl, Nat.le_of_ble_eq_true rfl⟩) rfl hl.1 rfl (Nat.le_of_ble_eq_true rfl) dX12_compare_155 (fun r545 w547 H locs hp546 hw => ?_)
                obtain ⟨hT, k548, hg581⟩ := hp546
                have hF := hF.tr k548 (by decide)
                have c582 := k548.gi kM_at0 (by decide) c541
                have c583 := k548.gi kM_at0 (by decide) c542
                rcases hg581 with ⟨rfl, ⟨x549, c550, rx549, tx549⟩, ⟨x551, c552, rx551, tx551⟩, ⟨x553, c554, rx553, tx553⟩, hq555⟩ | ⟨rfl, ⟨x556, c557, rx556, tx556⟩, ⟨x558, c559, rx558, tx558⟩, ⟨x560, c561, rx560, tx560⟩, hq562⟩ | ⟨rfl, ⟨x563, c564, rx563, tx563⟩, ⟨x565, c566, rx565, tx565⟩, ⟨x567, c568, rx567, tx567⟩, hq569, g570, g571⟩ | ⟨rfl, ⟨x572, c573, rx572, tx572⟩, ⟨x574, c575, rx574, tx574⟩, ⟨x576, c577, rx576, tx576⟩, hq578, g579, g580⟩
                · have ex549 : x549.toInt = x19.toInt := by rw [← c583.symm.trans c550]
                  have ex553 : x553.toInt = f0_.toInt := by rw [← c582.symm.trans c554]
                  obtain ⟨x584, c585, rx584, tx584⟩ := hT.rda (lo := 0) (hi := 400) (i := (f0_.toInt).toNat) kM_at3 rfl rfl (by omega)
                  obtain ⟨x586, c587, rx586, tx586⟩ := hT.rdi (lo := 0) (hi := 60) (k := 18) kM_at0 (by decide) rfl
                  have hR := hq555
                  refine lv_if_ne (tgt := 163) hx hb dX12_compare_158 (by decide) (fun c => absurd (by decide) c) (fun _ => ?_)
                  refine lv_iconst (v := 0) hx hb dX12_compare_161 (by decide) ?_
                  exact tk_zret hC hr rfl hlocks hK ⟨hT, hF, (Or.inl ⟨rfl, ⟨x19, c583, (show 1 ≤ x19.toInt by omega), (show x19.toInt ≤ 400 by omega)⟩, ⟨x551, c552, (show 1 ≤ x551.toInt by omega), (show x551.toInt ≤ 3205 by omega)⟩, ⟨f0_, c582, (show 0 ≤ f0_.toInt by omega), (show f0_.toInt ≤ 5 by omega)⟩, hR⟩)⟩ hw dX12_compare_162
                · have ex556 : x556.toInt = x19.toInt := by rw [← c583.symm.trans c557]
                  have ex560 : x560.toInt = f0_.toInt := by rw [← c582.symm.trans c561]
                  obtain ⟨x588, c589, rx588, tx588⟩ := hT.rda (lo := 0) (hi := 400) (i := (f0_.toInt).toNat) kM_at3 rfl rfl (by omega)
                  obtain ⟨x590, c591, rx590, tx590⟩ := hT.rdi (lo := 0) (hi := 60) (k := 18) kM_at0 (by decide) rfl
                  have hR := hq562
                  refine lv_if_ne (tgt := 163) hx hb dX12_compare_158 (by decide) (fun c => absurd (by decide) c) (fun _ => ?_)
                  refine lv_iconst (v := 0) hx hb dX12_compare_161 (by decide) ?_
                  exact tk_zret hC hr rfl hlocks hK ⟨hT, hF, (Or.inl ⟨rfl, ⟨x19, c583, (show 1 ≤ x19.toInt by omega), (show x19.toInt ≤ 400 by omega)⟩, ⟨x558, c559, (show 1 ≤ x558.toInt by omega), (show x558.toInt ≤ 3205 by omega)⟩, ⟨f0_, c582, (show 0 ≤ f0_.toInt by omega), (show f0_.toInt ≤ 5 by omega)⟩, hR⟩)⟩ hw dX12_compare_162
                · have ex563 : x563.toInt = x19.toInt := by rw [← c583.symm.trans c564]
                  have ex565 : x565.toInt = f0_.toInt := by rw [← c582.symm.trans c566]
                  obtain ⟨x592, c593, rx592, tx592⟩ := hT.rda (lo := 0) (hi := 400) (i := (f0_.toInt).toNat) kM_at3 rfl rfl (by omega)
                  have g570 : 3 * x592.toInt + 11 ≤ 3 * x47.toInt + 14 * (x567.toInt - x537.toInt) := by have q := g570; simp only [c541, c582, c543, c593, c538, c568] at q; omega
                  have g571 : x537.toInt + 1 ≤ x567.toInt := by have q := g571; simp only [c541, c582, c538, c568] at q; omega
                  have hO : OKW w547 f0_.toInt gb (((gd) + 1) + 1) := by have q := hq569; exact OKW_cast q (by omega)
                  refine lv_if_ne (tgt := 163) hx hb dX12_compare_158 (by decide) (fun _ => ?_) (fun c => absurd c (by decide))
                  refine lv_aload_n hx hb dX12_compare_163 rfl (lv_at hl 4 rfl) ?_
                  refine lv_bipush (v := 6) hx hb dX12_compare_164 (by decide) ?_
                  refine lv_iload hx hb dX12_compare_166 (lv_at hl 0 rfl) ?_
                  refine lv_iadd hx hb dX12_compare_168 ?_
                  refine wk_top 10 (by decide) ?_
                  refine lv_iconst (v := 0) hx hb dX12_compare_169 (by decide) ?_
                  refine tk_Vv hC hK hw hT hA hE hSR kM_at0 (by decide) rfl (k_X12_puts_1 l adK adV dC dI cy ad B (by omega) (by omega) qr s1   10 (by decide) (by decide) 0 (by decide) (by decide) w547 H.size hT f0_ c582 (show 0 ≤ f0_.toInt by omega) (show f0_.toInt ≤ 5 by omega) x592 c593 (show 0 ≤ x592.toInt by omega) (show x592.toInt ≤ 400 by omega) (show x592.toInt ≤ 399 by omega)) (cwV 2 hC.2.2.2.2 gX12_compare_X12_puts rfl rfl rfl (by decide +kernel) ⟨Nat.le_of_ble_eq_true rfl, Nat.le_of_ble_eq_true rfl⟩) rfl hl.1 rfl (Nat.le_of_ble_eq_true rfl) dX12_compare_170 (fun w598 H locs hp597 hw => ?_)
                  obtain ⟨hT, k599, hg604⟩ := hp597
                  have hF := hF.tr k599 (by decide)
                  have c605 := k599.gi kM_at0 (by decide) c582
                  have c606 := k599.gi kM_at0 (by decide) c583
                  have c607 := k599.gi kM_at0 (by decide) c568
                  obtain ⟨⟨x600, c601, rx600, tx600⟩, hq602, g603⟩ := hg604
                  have ex600 : x600.toInt = f0_.toInt := by rw [← c605.symm.trans c601]
                  obtain ⟨x608, c609, rx608, tx608⟩ := hT.rda (lo := 0) (hi := 400) (i := (f0_.toInt).toNat) kM_at3 rfl rfl (by omega)
                  have g603 : x608.toInt = x592.toInt + 1 := by have q := g603; simp only [c582, c605, c593, c609] at q; omega
                  have hO : OKW w598 f0_.toInt gb ((((gd) + 1) + 1) - 1) := OKW_put hO (by have q := hq602; rw [c582] at q; exact q) (by rw [c593]; omega) (fun x hx => by simp only [(show (10 : Int32).toInt = 10 by decide), (show (0 : Int32).toInt = 0 by decide)] at hx; exact okT_bin (by omega) (by omega) (by omega) (by omega)) (by omega) (by omega)
                  refine lv_iconst (v := 1) hx hb dX12_compare_173 (by decide) ?_
                  exact tk_zret hC hr rfl hlocks hK ⟨hT, hF, (Or.inr (Or.inr ⟨rfl, ⟨x19, c606, (show 1 ≤ x19.toInt by omega), (show x19.toInt ≤ 400 by omega)⟩, ⟨f0_, c605, (show 0 ≤ f0_.toInt by omega), (show f0_.toInt ≤ 5 by omega)⟩, ⟨x567, c607, (show 1 ≤ x567.toInt by omega), (show x567.toInt ≤ 60 by omega)⟩, (OKW_cast hO (by omega)), (by simp only [c605, cf0_, cf2_, c609, cf1_, c607]; omega), (by simp only [c605, cf0_, cf1_, c607]; omega)⟩))⟩ hw dX12_compare_174
                · have ex572 : x572.toInt = x19.toInt := by rw [← c583.symm.trans c573]
                  have ex574 : x574.toInt = f0_.toInt := by rw [← c582.symm.trans c575]
                  obtain ⟨x594, c595, rx594, tx594⟩ := hT.rda (lo := 0) (hi := 400) (i := (f0_.toInt).toNat) kM_at3 rfl rfl (by omega)
                  have g579 : 3 * x594.toInt + 11 ≤ 3 * x47.toInt + 14 * (x576.toInt - x537.toInt) := by have q := g579; simp only [c541, c582, c543, c595, c538, c577] at q; omega
                  have g580 : x537.toInt + 1 ≤ x576.toInt := by have q := g580; simp only [c541, c582, c538, c577] at q; omega
                  have hO : OKW w547 f0_.toInt gb (((gd) + 1) + 1) := by have q := hq578; exact OKW_cast q (by omega)
                  refine lv_if_ne (tgt := 163) hx hb dX12_compare_158 (by decide) (fun _ => ?_) (fun c => absurd c (by decide))
                  refine lv_aload_n hx hb dX12_compare_163 rfl (lv_at hl 4 rfl) ?_
                  refine lv_bipush (v := 6) hx hb dX12_compare_164 (by decide) ?_
                  refine lv_iload hx hb dX12_compare_166 (lv_at hl 0 rfl) ?_
                  refine lv_iadd hx hb dX12_compare_168 ?_
                  refine wk_top 10 (by decide) ?_
                  refine lv_iconst (v := 0) hx hb dX12_compare_169 (by decide) ?_
                  refine tk_Vv hC hK hw hT hA hE hSR kM_at0 (by decide) rfl (k_X12_puts_1 l adK adV dC dI cy ad B (by omega) (by omega) qr s1   10 (by decide) (by decide) 0 (by decide) (by decide) w547 H.size hT f0_ c582 (show 0 ≤ f0_.toInt by omega) (show f0_.toInt ≤ 5 by omega) x594 c595 (show 0 ≤ x594.toInt by omega) (show x594.toInt ≤ 400 by omega) (show x594.toInt ≤ 399 by omega)) (cwV 2 hC.2.2.2.2 gX12_compare_X12_puts rfl rfl rfl (by decide +kernel) ⟨Nat.le_of_ble_eq_true rfl, Nat.le_of_ble_eq_true rfl⟩) rfl hl.1 rfl (Nat.le_of_ble_eq_true rfl) dX12_compare_170 (fun w612 H locs hp611 hw => ?_)
                  obtain ⟨hT, k613, hg618⟩ := hp611
                  have hF := hF.tr k613 (by decide)
                  have c619 := k613.gi kM_at0 (by decide) c582
                  have c620 := k613.gi kM_at0 (by decide) c583
                  have c621 := k613.gi kM_at0 (by decide) c577
                  obtain ⟨⟨x614, c615, rx614, tx614⟩, hq616, g617⟩ := hg618
                  have ex614 : x614.toInt = f0_.toInt := by rw [← c619.symm.trans c615]
                  obtain ⟨x622, c623, rx622, tx622⟩ := hT.rda (lo := 0) (hi := 400) (i := (f0_.toInt).toNat) kM_at3 rfl rfl (by omega)
                  have g617 : x622.toInt = x594.toInt + 1 := by have q := g617; simp only [c582, c619, c595, c623] at q; omega
                  have hO : OKW w612 f0_.toInt gb ((((gd) + 1) + 1) - 1) := OKW_put hO (by have q := hq616; rw [c582] at q; exact q) (by rw [c595]; omega) (fun x hx => by simp only [(show (10 : Int32).toInt = 10 by decide), (show (0 : Int32).toInt = 0 by decide)] at hx; exact okT_bin (by omega) (by omega) (by omega) (by omega)) (by omega) (by omega)
                  refine lv_iconst (v := 1) hx hb dX12_compare_173 (by decide) ?_
                  exact tk_zret hC hr rfl hlocks hK ⟨hT, hF, (Or.inr (Or.inr ⟨rfl, ⟨x19, c620, (show 1 ≤ x19.toInt by omega), (show x19.toInt ≤ 400 by omega)⟩, ⟨f0_, c619, (show 0 ≤ f0_.toInt by omega), (show f0_.toInt ≤ 5 by omega)⟩, ⟨x576, c621, (show 1 ≤ x576.toInt by omega), (show x576.toInt ≤ 60 by omega)⟩, (OKW_cast hO (by omega)), (by simp only [c619, cf0_, cf2_, c623, cf1_, c621]; omega), (by simp only [c619, cf0_, cf1_, c621]; omega)⟩))⟩ hw dX12_compare_174
            · have c528 : x516.toInt < x19.toInt := wk_leF c528
              refine lv_aload_n hx hb dX12_compare_71 rfl (lv_at hl 2 rfl) ?_
              refine tk_getA hC hK hw hT hinX12 kM_at0 (by decide) rfl 0 (by decide) (List.mem_of_getElem? (i := 3) rfl) rfl rfl dX12_compare_72 ?_
              refine lv_aload_n hx hb dX12_compare_75 rfl (lv_at hl 2 rfl) ?_
              refine tk_geti hC hK hw hT hinX12 kM_at0 (by decide) rfl 14 (by decide) (List.mem_of_getElem? (i := 1) rfl) rfl rfl dX12_compare_76 (fun x624 c625 rx624 tx624 => ?_)
              refine wk_top x516 (c625.symm.trans c518) ?_
              refine tk_bald hC hK hw hT kM_at1 rfl rfl (show 0 ≤ x516.toInt by omega) (show x516.toInt < 400 by omega) dX12_compare_79 (fun x626 c627 rx626 tx626 => ?_)
              have c627 : gi w517 1 (1 * x61.toInt + 1).toNat = x626 := (congrArg (gi w517 1) (congrArg Int.toNat (show 1 * x61.toInt + 1 = x516.toInt by omega))).trans c627
              refine lv_bipush (v := 61) hx hb dX12_compare_80 (by decide) ?_
              refine lv_icmp_ne (tgt := 89) hx hb dX12_compare_82 (by decide) (fun c628 => ?_) (fun c628 => ?_)
              · have c628 : ¬ x626.toInt = (61 : Int) := wk_eqF c628
                refine lv_iconst (v := 0) hx hb dX12_compare_89 (by decide) ?_
                refine lv_istore_n (lv' := [(3, .int 0), (2, .int x61), (1, .int r53), (0, .ref (ad 0))]) hx hb dX12_compare_90 rfl hl (by decide) rfl (fun ls hl => ?_)
                refine lv_iload_n hx hb dX12_compare_91 rfl (lv_at hl 0 rfl) ?_
                refine lv_if_eq (tgt := 105) hx hb dX12_compare_92 (by decide) (fun _ => ?_) (fun c => absurd (by decide) c)
                refine lv_aload_n hx hb dX12_compare_105 rfl (lv_at hl 3 rfl) ?_
                refine lv_iload_n hx hb dX12_compare_106 rfl (lv_at hl 1 rfl) ?_
                refine tk_Vi hC hK hw hT hA hE hSR kM_at0 (by decide) rfl (k_X12_makes_1 l adK adV dC dI cy ad B (by omega) (by omega) qr s1   x61 (show 0 ≤ x61.toInt by omega) (show x61.toInt ≤ 398 by omega) w517 H.size hT x23 c522 (show 0 ≤ x23.toInt by omega) (show x23.toInt ≤ 60 by omega)) (cwV 1 hC.2.2.2.2 gX12_compare_X12_makes rfl rfl rfl (by decide +kernel) ⟨Nat.le_of_ble_eq_true rfl, Nat.le_of_ble_eq_true rfl⟩) rfl hl.1 rfl (Nat.le_of_ble_eq_true rfl) dX12_compare_107 (fun r629 w631 H locs hp630 hw => ?_)
                obtain ⟨hT, k632, hg640⟩ := hp630
                have hO := OKW_FE k632 (fun _ => rfl) (fun _ => rfl) (fun _ => rfl) (fun _ => rfl) hO
                have hF := hF.tr k632 (by decide)
                have c641 := k632.gi kM_at0 (by decide) c520
                have c642 := k632.gi kM_at0 (by decide) c521
                have c643 := k632.gi kM_at3 rfl c523
                have c644 := k632.gi kM_at0 (by decide) c518
                have c645 := k632.gi kM_at1 rfl c627
                rcases hg640 with ⟨rfl, ⟨x633, c634, rx633, tx633⟩, ⟨x635, c636, rx635, tx635⟩⟩ | ⟨rfl, ⟨x637, c638, rx637, tx637⟩, g639⟩
                · refine lv_if_ne (tgt := 115) hx hb dX12_compare_110 (by decide) (fun c => absurd (by decide) c) (fun _ => ?_)
                  refine lv_iconst (v := 0) hx hb dX12_compare_113 (by decide) ?_
                  exact tk_zret hC hr rfl hlocks hK ⟨hT, hF, (Or.inl ⟨rfl, ⟨x19, c642, (show 1 ≤ x19.toInt by omega), (show x19.toInt ≤ 400 by omega)⟩, ⟨x633, c634, (show 1 ≤ x633.toInt by omega), (show x633.toInt ≤ 3205 by omega)⟩, ⟨f0_, c641, (show 0 ≤ f0_.toInt by omega), (show f0_.toInt ≤ 5 by omega)⟩, hO.1⟩)⟩ hw dX12_compare_114
                · have g639 : x637.toInt = x23.toInt + 1 := by have q := g639; simp only [c520, c641, c522, c638] at q; omega
                  refine lv_if_ne (tgt := 115) hx hb dX12_compare_110 (by decide) (fun _ => ?_) (fun c => absurd c (by decide))
                  refine lv_iload_n hx hb dX12_compare_115 rfl (lv_at hl 2 rfl) ?_
                  refine lv_bipush (v := 60) hx hb dX12_compare_116 (by decide) ?_
                  refine lv_icmp_ne (tgt := 133) hx hb dX12_compare_118 (by decide) (fun _ => ?_) (fun c => absurd (show r53.toInt = (60 : Int) from wk_eq.mp c) (by omega))
                  refine lv_iload_n hx hb dX12_compare_133 rfl (lv_at hl 2 rfl) ?_
                  refine lv_bipush (v := 61) hx hb dX12_compare_134 (by decide) ?_
                  refine lv_icmp_ne (tgt := 143) hx hb dX12_compare_136 (by decide) (fun _ => ?_) (fun c => absurd (show r53.toInt = (61 : Int) from wk_eq.mp c) (by omega))
                  refine lv_iload_n hx hb dX12_compare_143 rfl (lv_at hl 0 rfl) ?_
                  refine lv_if_eq (tgt := 151) hx hb dX12_compare_144 (by decide) (fun _ => ?_) (fun c => absurd (by decide) c)
                  refine lv_iconst (v := 4) hx hb dX12_compare_151 (by decide) ?_
                  refine lv_istore (lv' := [(4, .int 4), (3, .int 0), (2, .int x61), (1, .int r53), (0, .ref (ad 0))]) hx hb dX12_compare_152 hl (by decide) rfl (fun ls hl => ?_)
                  refine lv_aload_n hx hb dX12_compare_154 rfl (lv_at hl 4 rfl) ?_
                  refine tk_Vi hC hK hw hT hA hE hSR kM_at0 (by decide) rfl (k_X12_sum_1 l adK adV dC dI cy ad B (by omega) (by omega) qr s1    w631 H.size hT f0_ c641 (show 0 ≤ f0_.toInt by omega) (show f0_.toInt ≤ 5 by omega) x637 c638 (show 0 ≤ x637.toInt by omega) (show x637.toInt ≤ 60 by omega) x47 c643 (show 0 ≤ x47.toInt by omega) (show x47.toInt ≤ 400 by omega) (show 3 * x47.toInt ≤ 14 * x637.toInt + 60 by omega) (show x47.toInt ≤ 300 by omega) gb ((gd) + 1) (by omega) (by omega) (OKW_cast hO (show (gd) + 1 = (gd) + 1 by omega))) (cwV 0 hC.2.2.2.2 gX12_compare_X12_sum rfl rfl rfl (by decide +kernel) ⟨Nat.le_of_ble_eq_true rfl, Nat.le_of_ble_eq_true rfl⟩) rfl hl.1 rfl (Nat.le_of_ble_eq_true rfl) dX12_compare_155 (fun r646 w648 H locs hp647 hw => ?_)
                  obtain ⟨hT, k649, hg682⟩ := hp647
                  have hF := hF.tr k649 (by decide)
                  have c683 := k649.gi kM_at0 (by decide) c641
                  have c684 := k649.gi kM_at0 (by decide) c642
                  have c685 := k649.gi kM_at1 rfl c645
                  rcases hg682 with ⟨rfl, ⟨x650, c651, rx650, tx650⟩, ⟨x652, c653, rx652, tx652⟩, ⟨x654, c655, rx654, tx654⟩, hq656⟩ | ⟨rfl, ⟨x657, c658, rx657, tx657⟩, ⟨x659, c660, rx659, tx659⟩, ⟨x661, c662, rx661, tx661⟩, hq663⟩ | ⟨rfl, ⟨x664, c665, rx664, tx664⟩, ⟨x666, c667, rx666, tx666⟩, ⟨x668, c669, rx668, tx668⟩, hq670, g671, g672⟩ | ⟨rfl, ⟨x673, c674, rx673, tx673⟩, ⟨x675, c676, rx675, tx675⟩, ⟨x677, c678, rx677, tx677⟩, hq679, g680, g681⟩
                  · have ex650 : x650.toInt = x19.toInt := by rw [← c684.symm.trans c651]
                    have ex654 : x654.toInt = f0_.toInt := by rw [← c683.symm.trans c655]
                    obtain ⟨x686, c687, rx686, tx686⟩ := hT.rda (lo := 0) (hi := 400) (i := (f0_.toInt).toNat) kM_at3 rfl rfl (by omega)
                    obtain ⟨x688, c689, rx688, tx688⟩ := hT.rdi (lo := 0) (hi := 60) (k := 18) kM_at0 (by decide) rfl
                    have hR := hq656
                    refine lv_if_ne (tgt := 163) hx hb dX12_compare_158 (by decide) (fun c => absurd (by decide) c) (fun _ => ?_)
                    refine lv_iconst (v := 0) hx hb dX12_compare_161 (by decide) ?_
                    exact tk_zret hC hr rfl hlocks hK ⟨hT, hF, (Or.inl ⟨rfl, ⟨x19, c684, (show 1 ≤ x19.toInt by omega), (show x19.toInt ≤ 400 by omega)⟩, ⟨x652, c653, (show 1 ≤ x652.toInt by omega), (show x652.toInt ≤ 3205 by omega)⟩, ⟨f0_, c683, (show 0 ≤ f0_.toInt by omega), (show f0_.toInt ≤ 5 by omega)⟩, hR⟩)⟩ hw dX12_compare_162
                  · have ex657 : x657.toInt = x19.toInt := by rw [← c684.symm.trans c658]
                    have ex661 : x661.toInt = f0_.toInt := by rw [← c683.symm.trans c662]
                    obtain ⟨x690, c691, rx690, tx690⟩ := hT.rda (lo := 0) (hi := 400) (i := (f0_.toInt).toNat) kM_at3 rfl rfl (by omega)
                    obtain ⟨x692, c693, rx692, tx692⟩ := hT.rdi (lo := 0) (hi := 60) (k := 18) kM_at0 (by decide) rfl
                    have hR := hq663
                    refine lv_if_ne (tgt := 163) hx hb dX12_compare_158 (by decide) (fun c => absurd (by decide) c) (fun _ => ?_)
                    refine lv_iconst (v := 0) hx hb dX12_compare_161 (by decide) ?_
                    exact tk_zret hC hr rfl hlocks hK ⟨hT, hF, (Or.inl ⟨rfl, ⟨x19, c684, (show 1 ≤ x19.toInt by omega), (show x19.toInt ≤ 400 by omega)⟩, ⟨x659, c660, (show 1 ≤ x659.toInt by omega), (show x659.toInt ≤ 3205 by omega)⟩, ⟨f0_, c683, (show 0 ≤ f0_.toInt by omega), (show f0_.toInt ≤ 5 by omega)⟩, hR⟩)⟩ hw dX12_compare_162
                  · have ex664 : x664.toInt = x19.toInt := by rw [← c684.symm.trans c665]
                    have ex666 : x666.toInt = f0_.toInt := by rw [← c683.symm.trans c667]
                    obtain ⟨x694, c695, rx694, tx694⟩ := hT.rda (lo := 0) (hi := 400) (i := (f0_.toInt).toNat) kM_at3 rfl rfl (by omega)
                    have g671 : 3 * x694.toInt + 11 ≤ 3 * x47.toInt + 14 * (x668.toInt - x637.toInt) := by have q := g671; simp only [c641, c683, c643, c695, c638, c669] at q; omega
                    have g672 : x637.toInt + 1 ≤ x668.toInt := by have q := g672; simp only [c641, c683, c638, c669] at q; omega
                    have hO : OKW w648 f0_.toInt gb (((gd) + 1) + 1) := by have q := hq670; exact OKW_cast q (by omega)
                    refine lv_if_ne (tgt := 163) hx hb dX12_compare_158 (by decide) (fun _ => ?_) (fun c => absurd c (by decide))
                    refine lv_aload_n hx hb dX12_compare_163 rfl (lv_at hl 4 rfl) ?_
                    refine lv_bipush (v := 6) hx hb dX12_compare_164 (by decide) ?_
                    refine lv_iload hx hb dX12_compare_166 (lv_at hl 0 rfl) ?_
                    refine lv_iadd hx hb dX12_compare_168 ?_
                    refine wk_top 10 (by decide) ?_
                    refine lv_iconst (v := 0) hx hb dX12_compare_169 (by decide) ?_
                    refine tk_Vv hC hK hw hT hA hE hSR kM_at0 (by decide) rfl (k_X12_puts_1 l adK adV dC dI cy ad B (by omega) (by omega) qr s1   10 (by decide) (by decide) 0 (by decide) (by decide) w648 H.size hT f0_ c683 (show 0 ≤ f0_.toInt by omega) (show f0_.toInt ≤ 5 by omega) x694 c695 (show 0 ≤ x694.toInt by omega) (show x694.toInt ≤ 400 by omega) (show x694.toInt ≤ 399 by omega)) (cwV 2 hC.2.2.2.2 gX12_compare_X12_puts rfl rfl rfl (by decide +kernel) ⟨Nat.le_of_ble_eq_true rfl, Nat.le_of_ble_eq_true rfl⟩) rfl hl.1 rfl (Nat.le_of_ble_eq_true rfl) dX12_compare_170 (fun w700 H locs hp699 hw => ?_)
                    obtain ⟨hT, k701, hg706⟩ := hp699
                    have hF := hF.tr k701 (by decide)
                    have c707 := k701.gi kM_at0 (by decide) c683
                    have c708 := k701.gi kM_at0 (by decide) c684
                    have c709 := k701.gi kM_at1 rfl c685
                    have c710 := k701.gi kM_at0 (by decide) c669
                    obtain ⟨⟨x702, c703, rx702, tx702⟩, hq704, g705⟩ := hg706
                    have ex702 : x702.toInt = f0_.toInt := by rw [← c707.symm.trans c703]
                    obtain ⟨x711, c712, rx711, tx711⟩ := hT.rda (lo := 0) (hi := 400) (i := (f0_.toInt).toNat) kM_at3 rfl rfl (by omega)
                    have g705 : x711.toInt = x694.toInt + 1 := by have q := g705; simp only [c683, c707, c695, c712] at q; omega
                    have hO : OKW w700 f0_.toInt gb ((((gd) + 1) + 1) - 1) := OKW_put hO (by have q := hq704; rw [c683] at q; exact q) (by rw [c695]; omega) (fun x hx => by simp only [(show (10 : Int32).toInt = 10 by decide), (show (0 : Int32).toInt = 0 by decide)] at hx; exact okT_bin (by omega) (by omega) (by omega) (by omega)) (by omega) (by omega)
                    refine lv_iconst (v := 1) hx hb dX12_compare_173 (by decide) ?_
                    exact tk_zret hC hr rfl hlocks hK ⟨hT, hF, (Or.inr (Or.inr ⟨rfl, ⟨x19, c708, (show 1 ≤ x19.toInt by omega), (show x19.toInt ≤ 400 by omega)⟩, ⟨f0_, c707, (show 0 ≤ f0_.toInt by omega), (show f0_.toInt ≤ 5 by omega)⟩, ⟨x668, c710, (show 1 ≤ x668.toInt by omega), (show x668.toInt ≤ 60 by omega)⟩, (OKW_cast hO (by omega)), (by simp only [c707, cf0_, cf2_, c712, cf1_, c710]; omega), (by simp only [c707, cf0_, cf1_, c710]; omega)⟩))⟩ hw dX12_compare_174
                  · have ex673 : x673.toInt = x19.toInt := by rw [← c684.symm.trans c674]
                    have ex675 : x675.toInt = f0_.toInt := by rw [← c683.symm.trans c676]
                    obtain ⟨x696, c697, rx696, tx696⟩ := hT.rda (lo := 0) (hi := 400) (i := (f0_.toInt).toNat) kM_at3 rfl rfl (by omega)
                    have g680 : 3 * x696.toInt + 11 ≤ 3 * x47.toInt + 14 * (x677.toInt - x637.toInt) := by have q := g680; simp only [c641, c683, c643, c697, c638, c678] at q; omega
                    have g681 : x637.toInt + 1 ≤ x677.toInt := by have q := g681; simp only [c641, c683, c638, c678] at q; omega
                    have hO : OKW w648 f0_.toInt gb (((gd) + 1) + 1) := by have q := hq679; exact OKW_cast q (by omega)
                    refine lv_if_ne (tgt := 163) hx hb dX12_compare_158 (by decide) (fun _ => ?_) (fun c => absurd c (by decide))
                    refine lv_aload_n hx hb dX12_compare_163 rfl (lv_at hl 4 rfl) ?_
                    refine lv_bipush (v := 6) hx hb dX12_compare_164 (by decide) ?_
                    refine lv_iload hx hb dX12_compare_166 (lv_at hl 0 rfl) ?_
                    refine lv_iadd hx hb dX12_compare_168 ?_
                    refine wk_top 10 (by decide) ?_
                    refine lv_iconst (v := 0) hx hb dX12_compare_169 (by decide) ?_
                    refine tk_Vv hC hK hw hT hA hE hSR kM_at0 (by decide) rfl (k_X12_puts_1 l adK adV dC dI cy ad B (by omega) (by omega) qr s1   10 (by decide) (by decide) 0 (by decide) (by decide) w648 H.size hT f0_ c683 (show 0 ≤ f0_.toInt by omega) (show f0_.toInt ≤ 5 by omega) x696 c697 (show 0 ≤ x696.toInt by omega) (show x696.toInt ≤ 400 by omega) (show x696.toInt ≤ 399 by omega)) (cwV 2 hC.2.2.2.2 gX12_compare_X12_puts rfl rfl rfl (by decide +kernel) ⟨Nat.le_of_ble_eq_true rfl, Nat.le_of_ble_eq_true rfl⟩) rfl hl.1 rfl (Nat.le_of_ble_eq_true rfl) dX12_compare_170 (fun w715 H locs hp714 hw => ?_)
                    obtain ⟨hT, k716, hg721⟩ := hp714
                    have hF := hF.tr k716 (by decide)
                    have c722 := k716.gi kM_at0 (by decide) c683
                    have c723 := k716.gi kM_at0 (by decide) c684
                    have c724 := k716.gi kM_at1 rfl c685
                    have c725 := k716.gi kM_at0 (by decide) c678
                    obtain ⟨⟨x717, c718, rx717, tx717⟩, hq719, g720⟩ := hg721
                    have ex717 : x717.toInt = f0_.toInt := by rw [← c722.symm.trans c718]
                    obtain ⟨x726, c727, rx726, tx726⟩ := hT.rda (lo := 0) (hi := 400) (i := (f0_.toInt).toNat) kM_at3 rfl rfl (by omega)
                    have g720 : x726.toInt = x696.toInt + 1 := by have q := g720; simp only [c683, c722, c697, c727] at q; omega
                    have hO : OKW w715 f0_.toInt gb ((((gd) + 1) + 1) - 1) := OKW_put hO (by have q := hq719; rw [c683] at q; exact q) (by rw [c697]; omega) (fun x hx => by simp only [(show (10 : Int32).toInt = 10 by decide), (show (0 : Int32).toInt = 0 by decide)] at hx; exact okT_bin (by omega) (by omega) (by omega) (by omega)) (by omega) (by omega)
                    refine lv_iconst (v := 1) hx hb dX12_compare_173 (by decide) ?_
                    exact tk_zret hC hr rfl hlocks hK ⟨hT, hF, (Or.inr (Or.inr ⟨rfl, ⟨x19, c723, (show 1 ≤ x19.toInt by omega), (show x19.toInt ≤ 400 by omega)⟩, ⟨f0_, c722, (show 0 ≤ f0_.toInt by omega), (show f0_.toInt ≤ 5 by omega)⟩, ⟨x677, c725, (show 1 ≤ x677.toInt by omega), (show x677.toInt ≤ 60 by omega)⟩, (OKW_cast hO (by omega)), (by simp only [c722, cf0_, cf2_, c727, cf1_, c725]; omega), (by simp only [c722, cf0_, cf1_, c725]; omega)⟩))⟩ hw dX12_compare_174
              · have c628 : x626.toInt = (61 : Int) := wk_eq.mp c628
                refine lv_iconst (v := 1) hx hb dX12_compare_85 (by decide) ?_
                refine lv_goto (tgt := 90) hx hb dX12_compare_86 (by decide) ?_
                refine lv_istore_n (lv' := [(3, .int 1), (2, .int x61), (1, .int r53), (0, .ref (ad 0))]) hx hb dX12_compare_90 rfl hl (by decide) rfl (fun ls hl => ?_)
                refine lv_iload_n hx hb dX12_compare_91 rfl (lv_at hl 0 rfl) ?_
                refine lv_if_eq (tgt := 105) hx hb dX12_compare_92 (by decide) (fun c => absurd c (by decide)) (fun _ => ?_)
                refine lv_aload_n hx hb dX12_compare_95 rfl (lv_at hl 3 rfl) ?_
                refine lv_dup hx hb dX12_compare_96 rfl ?_
                refine tk_geti hC hK hw hT hinX12 kM_at0 (by decide) rfl 14 (by decide) (List.mem_of_getElem? (i := 1) rfl) rfl rfl dX12_compare_97 (fun x728 c729 rx728 tx728 => ?_)
                refine wk_top x516 (c729.symm.trans c518) ?_
                refine lv_iconst (v := 1) hx hb dX12_compare_100 (by decide) ?_
                refine lv_iadd hx hb dX12_compare_101 ?_
                refine lv_topi (fun x730 ex730 => ?_)
                have ex730 : x730.toInt = x516.toInt + (1 : Int) := by rw [ex730]; exact wk_add (show (-2147483648) ≤ x516.toInt + (1 : Int) by omega) (show x516.toInt + (1 : Int) ≤ 2147483647 by omega)
                refine tk_puti hC hK hw hT hinX12 tyX12_ok nmX12 kM_at0 (by decide) rfl rfl 14 (by decide) (List.mem_of_getElem? (i := 1) rfl) rfl rfl rfl rfl (show 0 ≤ x730.toInt by omega) (show x730.toInt ≤ 400 by omega) dX12_compare_102 (fun H locs w731 hw hT k733 c732 => ?_)
                have hO := OKW_F1 k733 (by decide) (by decide) (by decide) (by decide) hO
                have hF := hF.put kM_at0 (k := 14) (by decide) k733
                have c734 := k733.gi (Or.inr (by decide)) c520
                have c735 := k733.gi (Or.inr (by decide)) c521
                have c736 := k733.gi (Or.inr (by decide)) c522
                have c737 := k733.gi (Or.inl (tk_ne kM_at3 kM_at0 (by decide))) c523
                have c738 := k733.gi (Or.inl (tk_ne kM_at1 kM_at0 (by decide))) c627
                refine lv_aload_n hx hb dX12_compare_105 rfl (lv_at hl 3 rfl) ?_
                refine lv_iload_n hx hb dX12_compare_106 rfl (lv_at hl 1 rfl) ?_
                refine tk_Vi hC hK hw hT hA hE hSR kM_at0 (by decide) rfl (k_X12_makes_1 l adK adV dC dI cy ad B (by omega) (by omega) qr s1   x61 (show 0 ≤ x61.toInt by omega) (show x61.toInt ≤ 398 by omega) w731 H.size hT x23 c736 (show 0 ≤ x23.toInt by omega) (show x23.toInt ≤ 60 by omega)) (cwV 1 hC.2.2.2.2 gX12_compare_X12_makes rfl rfl rfl (by decide +kernel) ⟨Nat.le_of_ble_eq_true rfl, Nat.le_of_ble_eq_true rfl⟩) rfl hl.1 rfl (Nat.le_of_ble_eq_true rfl) dX12_compare_107 (fun r739 w741 H locs hp740 hw => ?_)
                obtain ⟨hT, k742, hg750⟩ := hp740
                have hO := OKW_FE k742 (fun _ => rfl) (fun _ => rfl) (fun _ => rfl) (fun _ => rfl) hO
                have hF := hF.tr k742 (by decide)
                have c751 := k742.gi kM_at0 (by decide) c734
                have c752 := k742.gi kM_at0 (by decide) c735
                have c753 := k742.gi kM_at3 rfl c737
                have c754 := k742.gi kM_at1 rfl c738
                have c755 := k742.gi kM_at0 (by decide) c732
                rcases hg750 with ⟨rfl, ⟨x743, c744, rx743, tx743⟩, ⟨x745, c746, rx745, tx745⟩⟩ | ⟨rfl, ⟨x747, c748, rx747, tx747⟩, g749⟩
                · refine lv_if_ne (tgt := 115) hx hb dX12_compare_110 (by decide) (fun c => absurd (by decide) c) (fun _ => ?_)
                  refine lv_iconst (v := 0) hx hb dX12_compare_113 (by decide) ?_
                  exact tk_zret hC hr rfl hlocks hK ⟨hT, hF, (Or.inl ⟨rfl, ⟨x19, c752, (show 1 ≤ x19.toInt by omega), (show x19.toInt ≤ 400 by omega)⟩, ⟨x743, c744, (show 1 ≤ x743.toInt by omega), (show x743.toInt ≤ 3205 by omega)⟩, ⟨f0_, c751, (show 0 ≤ f0_.toInt by omega), (show f0_.toInt ≤ 5 by omega)⟩, hO.1⟩)⟩ hw dX12_compare_114
                · have g749 : x747.toInt = x23.toInt + 1 := by have q := g749; simp only [c734, c751, c736, c748] at q; omega
                  refine lv_if_ne (tgt := 115) hx hb dX12_compare_110 (by decide) (fun _ => ?_) (fun c => absurd c (by decide))
                  refine lv_iload_n hx hb dX12_compare_115 rfl (lv_at hl 2 rfl) ?_
                  refine lv_bipush (v := 60) hx hb dX12_compare_116 (by decide) ?_
                  refine lv_icmp_ne (tgt := 133) hx hb dX12_compare_118 (by decide) (fun _ => ?_) (fun c => absurd (show r53.toInt = (60 : Int) from wk_eq.mp c) (by omega))
                  refine lv_iload_n hx hb dX12_compare_133 rfl (lv_at hl 2 rfl) ?_
                  refine lv_bipush (v := 61) hx hb dX12_compare_134 (by decide) ?_
                  refine lv_icmp_ne (tgt := 143) hx hb dX12_compare_136 (by decide) (fun _ => ?_) (fun c => absurd (show r53.toInt = (61 : Int) from wk_eq.mp c) (by omega))
                  refine lv_iload_n hx hb dX12_compare_143 rfl (lv_at hl 0 rfl) ?_
                  refine lv_if_eq (tgt := 151) hx hb dX12_compare_144 (by decide) (fun c => absurd c (by decide)) (fun _ => ?_)
                  refine lv_iconst (v := 3) hx hb dX12_compare_147 (by decide) ?_
                  refine lv_goto (tgt := 152) hx hb dX12_compare_148 (by decide) ?_
                  refine lv_istore (lv' := [(4, .int 3), (3, .int 1), (2, .int x61), (1, .int r53), (0, .ref (ad 0))]) hx hb dX12_compare_152 hl (by decide) rfl (fun ls hl => ?_)
                  refine lv_aload_n hx hb dX12_compare_154 rfl (lv_at hl 4 rfl) ?_
                  refine tk_Vi hC hK hw hT hA hE hSR kM_at0 (by decide) rfl (k_X12_sum_1 l adK adV dC dI cy ad B (by omega) (by omega) qr s1    w741 H.size hT f0_ c751 (show 0 ≤ f0_.toInt by omega) (show f0_.toInt ≤ 5 by omega) x747 c748 (show 0 ≤ x747.toInt by omega) (show x747.toInt ≤ 60 by omega) x47 c753 (show 0 ≤ x47.toInt by omega) (show x47.toInt ≤ 400 by omega) (show 3 * x47.toInt ≤ 14 * x747.toInt + 60 by omega) (show x47.toInt ≤ 300 by omega) gb ((gd) + 1) (by omega) (by omega) (OKW_cast hO (show (gd) + 1 = (gd) + 1 by omega))) (cwV 0 hC.2.2.2.2 gX12_compare_X12_sum rfl rfl rfl (by decide +kernel) ⟨Nat.le_of_ble_eq_true rfl, Nat.le_of_ble_eq_true rfl⟩) rfl hl.1 rfl (Nat.le_of_ble_eq_true rfl) dX12_compare_155 (fun r756 w758 H locs hp757 hw => ?_)
                  obtain ⟨hT, k759, hg792⟩ := hp757
                  have hF := hF.tr k759 (by decide)
                  have c793 := k759.gi kM_at0 (by decide) c751
                  have c794 := k759.gi kM_at0 (by decide) c752
                  have c795 := k759.gi kM_at1 rfl c754
                  rcases hg792 with ⟨rfl, ⟨x760, c761, rx760, tx760⟩, ⟨x762, c763, rx762, tx762⟩, ⟨x764, c765, rx764, tx764⟩, hq766⟩ | ⟨rfl, ⟨x767, c768, rx767, tx767⟩, ⟨x769, c770, rx769, tx769⟩, ⟨x771, c772, rx771, tx771⟩, hq773⟩ | ⟨rfl, ⟨x774, c775, rx774, tx774⟩, ⟨x776, c777, rx776, tx776⟩, ⟨x778, c779, rx778, tx778⟩, hq780, g781, g782⟩ | ⟨rfl, ⟨x783, c784, rx783, tx783⟩, ⟨x785, c786, rx785, tx785⟩, ⟨x787, c788, rx787, tx787⟩, hq789, g790, g791⟩
                  · have ex760 : x760.toInt = x19.toInt := by rw [← c794.symm.trans c761]
                    have ex764 : x764.toInt = f0_.toInt := by rw [← c793.symm.trans c765]
                    obtain ⟨x796, c797, rx796, tx796⟩ := hT.rda (lo := 0) (hi := 400) (i := (f0_.toInt).toNat) kM_at3 rfl rfl (by omega)
                    obtain ⟨x798, c799, rx798, tx798⟩ := hT.rdi (lo := 0) (hi := 60) (k := 18) kM_at0 (by decide) rfl
                    have hR := hq766
                    refine lv_if_ne (tgt := 163) hx hb dX12_compare_158 (by decide) (fun c => absurd (by decide) c) (fun _ => ?_)
                    refine lv_iconst (v := 0) hx hb dX12_compare_161 (by decide) ?_
                    exact tk_zret hC hr rfl hlocks hK ⟨hT, hF, (Or.inl ⟨rfl, ⟨x19, c794, (show 1 ≤ x19.toInt by omega), (show x19.toInt ≤ 400 by omega)⟩, ⟨x762, c763, (show 1 ≤ x762.toInt by omega), (show x762.toInt ≤ 3205 by omega)⟩, ⟨f0_, c793, (show 0 ≤ f0_.toInt by omega), (show f0_.toInt ≤ 5 by omega)⟩, hR⟩)⟩ hw dX12_compare_162
                  · have ex767 : x767.toInt = x19.toInt := by rw [← c794.symm.trans c768]
                    have ex771 : x771.toInt = f0_.toInt := by rw [← c793.symm.trans c772]
                    obtain ⟨x800, c801, rx800, tx800⟩ := hT.rda (lo := 0) (hi := 400) (i := (f0_.toInt).toNat) kM_at3 rfl rfl (by omega)
                    obtain ⟨x802, c803, rx802, tx802⟩ := hT.rdi (lo := 0) (hi := 60) (k := 18) kM_at0 (by decide) rfl
                    have hR := hq773
                    refine lv_if_ne (tgt := 163) hx hb dX12_compare_158 (by decide) (fun c => absurd (by decide) c) (fun _ => ?_)
                    refine lv_iconst (v := 0) hx hb dX12_compare_161 (by decide) ?_
                    exact tk_zret hC hr rfl hlocks hK ⟨hT, hF, (Or.inl ⟨rfl, ⟨x19, c794, (show 1 ≤ x19.toInt by omega), (show x19.toInt ≤ 400 by omega)⟩, ⟨x769, c770, (show 1 ≤ x769.toInt by omega), (show x769.toInt ≤ 3205 by omega)⟩, ⟨f0_, c793, (show 0 ≤ f0_.toInt by omega), (show f0_.toInt ≤ 5 by omega)⟩, hR⟩)⟩ hw dX12_compare_162
                  · have ex774 : x774.toInt = x19.toInt := by rw [← c794.symm.trans c775]
                    have ex776 : x776.toInt = f0_.toInt := by rw [← c793.symm.trans c777]
                    obtain ⟨x804, c805, rx804, tx804⟩ := hT.rda (lo := 0) (hi := 400) (i := (f0_.toInt).toNat) kM_at3 rfl rfl (by omega)
                    have g781 : 3 * x804.toInt + 11 ≤ 3 * x47.toInt + 14 * (x778.toInt - x747.toInt) := by have q := g781; simp only [c751, c793, c753, c805, c748, c779] at q; omega
                    have g782 : x747.toInt + 1 ≤ x778.toInt := by have q := g782; simp only [c751, c793, c748, c779] at q; omega
                    have hO : OKW w758 f0_.toInt gb (((gd) + 1) + 1) := by have q := hq780; exact OKW_cast q (by omega)
                    refine lv_if_ne (tgt := 163) hx hb dX12_compare_158 (by decide) (fun _ => ?_) (fun c => absurd c (by decide))
                    refine lv_aload_n hx hb dX12_compare_163 rfl (lv_at hl 4 rfl) ?_
                    refine lv_bipush (v := 6) hx hb dX12_compare_164 (by decide) ?_
                    refine lv_iload hx hb dX12_compare_166 (lv_at hl 0 rfl) ?_
                    refine lv_iadd hx hb dX12_compare_168 ?_
                    refine wk_top 9 (by decide) ?_
                    refine lv_iconst (v := 0) hx hb dX12_compare_169 (by decide) ?_
                    refine tk_Vv hC hK hw hT hA hE hSR kM_at0 (by decide) rfl (k_X12_puts_1 l adK adV dC dI cy ad B (by omega) (by omega) qr s1   9 (by decide) (by decide) 0 (by decide) (by decide) w758 H.size hT f0_ c793 (show 0 ≤ f0_.toInt by omega) (show f0_.toInt ≤ 5 by omega) x804 c805 (show 0 ≤ x804.toInt by omega) (show x804.toInt ≤ 400 by omega) (show x804.toInt ≤ 399 by omega)) (cwV 2 hC.2.2.2.2 gX12_compare_X12_puts rfl rfl rfl (by decide +kernel) ⟨Nat.le_of_ble_eq_true rfl, Nat.le_of_ble_eq_true rfl⟩) rfl hl.1 rfl (Nat.le_of_ble_eq_true rfl) dX12_compare_170 (fun w810 H locs hp809 hw => ?_)
                    obtain ⟨hT, k811, hg816⟩ := hp809
                    have hF := hF.tr k811 (by decide)
                    have c817 := k811.gi kM_at0 (by decide) c793
                    have c818 := k811.gi kM_at0 (by decide) c794
                    have c819 := k811.gi kM_at1 rfl c795
                    have c820 := k811.gi kM_at0 (by decide) c779
                    obtain ⟨⟨x812, c813, rx812, tx812⟩, hq814, g815⟩ := hg816
                    have ex812 : x812.toInt = f0_.toInt := by rw [← c817.symm.trans c813]
                    obtain ⟨x821, c822, rx821, tx821⟩ := hT.rda (lo := 0) (hi := 400) (i := (f0_.toInt).toNat) kM_at3 rfl rfl (by omega)
                    have g815 : x821.toInt = x804.toInt + 1 := by have q := g815; simp only [c793, c817, c805, c822] at q; omega
                    have hO : OKW w810 f0_.toInt gb ((((gd) + 1) + 1) - 1) := OKW_put hO (by have q := hq814; rw [c793] at q; exact q) (by rw [c805]; omega) (fun x hx => by simp only [(show (9 : Int32).toInt = 9 by decide), (show (0 : Int32).toInt = 0 by decide)] at hx; exact okT_bin (by omega) (by omega) (by omega) (by omega)) (by omega) (by omega)
                    refine lv_iconst (v := 1) hx hb dX12_compare_173 (by decide) ?_
                    exact tk_zret hC hr rfl hlocks hK ⟨hT, hF, (Or.inr (Or.inr ⟨rfl, ⟨x19, c818, (show 1 ≤ x19.toInt by omega), (show x19.toInt ≤ 400 by omega)⟩, ⟨f0_, c817, (show 0 ≤ f0_.toInt by omega), (show f0_.toInt ≤ 5 by omega)⟩, ⟨x778, c820, (show 1 ≤ x778.toInt by omega), (show x778.toInt ≤ 60 by omega)⟩, (OKW_cast hO (by omega)), (by simp only [c817, cf0_, cf2_, c822, cf1_, c820]; omega), (by simp only [c817, cf0_, cf1_, c820]; omega)⟩))⟩ hw dX12_compare_174
                  · have ex783 : x783.toInt = x19.toInt := by rw [← c794.symm.trans c784]
                    have ex785 : x785.toInt = f0_.toInt := by rw [← c793.symm.trans c786]
                    obtain ⟨x806, c807, rx806, tx806⟩ := hT.rda (lo := 0) (hi := 400) (i := (f0_.toInt).toNat) kM_at3 rfl rfl (by omega)
                    have g790 : 3 * x806.toInt + 11 ≤ 3 * x47.toInt + 14 * (x787.toInt - x747.toInt) := by have q := g790; simp only [c751, c793, c753, c807, c748, c788] at q; omega
                    have g791 : x747.toInt + 1 ≤ x787.toInt := by have q := g791; simp only [c751, c793, c748, c788] at q; omega
                    have hO : OKW w758 f0_.toInt gb (((gd) + 1) + 1) := by have q := hq789; exact OKW_cast q (by omega)
                    refine lv_if_ne (tgt := 163) hx hb dX12_compare_158 (by decide) (fun _ => ?_) (fun c => absurd c (by decide))
                    refine lv_aload_n hx hb dX12_compare_163 rfl (lv_at hl 4 rfl) ?_
                    refine lv_bipush (v := 6) hx hb dX12_compare_164 (by decide) ?_
                    refine lv_iload hx hb dX12_compare_166 (lv_at hl 0 rfl) ?_
                    refine lv_iadd hx hb dX12_compare_168 ?_
                    refine wk_top 9 (by decide) ?_
                    refine lv_iconst (v := 0) hx hb dX12_compare_169 (by decide) ?_
                    refine tk_Vv hC hK hw hT hA hE hSR kM_at0 (by decide) rfl (k_X12_puts_1 l adK adV dC dI cy ad B (by omega) (by omega) qr s1   9 (by decide) (by decide) 0 (by decide) (by decide) w758 H.size hT f0_ c793 (show 0 ≤ f0_.toInt by omega) (show f0_.toInt ≤ 5 by omega) x806 c807 (show 0 ≤ x806.toInt by omega) (show x806.toInt ≤ 400 by omega) (show x806.toInt ≤ 399 by omega)) (cwV 2 hC.2.2.2.2 gX12_compare_X12_puts rfl rfl rfl (by decide +kernel) ⟨Nat.le_of_ble_eq_true rfl, Nat.le_of_ble_eq_true rfl⟩) rfl hl.1 rfl (Nat.le_of_ble_eq_true rfl) dX12_compare_170 (fun w825 H locs hp824 hw => ?_)
                    obtain ⟨hT, k826, hg831⟩ := hp824
                    have hF := hF.tr k826 (by decide)
                    have c832 := k826.gi kM_at0 (by decide) c793
                    have c833 := k826.gi kM_at0 (by decide) c794
                    have c834 := k826.gi kM_at1 rfl c795
                    have c835 := k826.gi kM_at0 (by decide) c788
                    obtain ⟨⟨x827, c828, rx827, tx827⟩, hq829, g830⟩ := hg831
                    have ex827 : x827.toInt = f0_.toInt := by rw [← c832.symm.trans c828]
                    obtain ⟨x836, c837, rx836, tx836⟩ := hT.rda (lo := 0) (hi := 400) (i := (f0_.toInt).toNat) kM_at3 rfl rfl (by omega)
                    have g830 : x836.toInt = x806.toInt + 1 := by have q := g830; simp only [c793, c832, c807, c837] at q; omega
                    have hO : OKW w825 f0_.toInt gb ((((gd) + 1) + 1) - 1) := OKW_put hO (by have q := hq829; rw [c793] at q; exact q) (by rw [c807]; omega) (fun x hx => by simp only [(show (9 : Int32).toInt = 9 by decide), (show (0 : Int32).toInt = 0 by decide)] at hx; exact okT_bin (by omega) (by omega) (by omega) (by omega)) (by omega) (by omega)
                    refine lv_iconst (v := 1) hx hb dX12_compare_173 (by decide) ?_
                    exact tk_zret hC hr rfl hlocks hK ⟨hT, hF, (Or.inr (Or.inr ⟨rfl, ⟨x19, c833, (show 1 ≤ x19.toInt by omega), (show x19.toInt ≤ 400 by omega)⟩, ⟨f0_, c832, (show 0 ≤ f0_.toInt by omega), (show f0_.toInt ≤ 5 by omega)⟩, ⟨x787, c835, (show 1 ≤ x787.toInt by omega), (show x787.toInt ≤ 60 by omega)⟩, (OKW_cast hO (by omega)), (by simp only [c832, cf0_, cf2_, c837, cf1_, c835]; omega), (by simp only [c832, cf0_, cf1_, c835]; omega)⟩))⟩ hw dX12_compare_174
          · have c513 : ¬ r53.toInt = (62 : Int) := wk_eqF c513
            refine lv_aload_n hx hb dX12_compare_37 rfl (lv_at hl 2 rfl) ?_
            refine lv_iconst (v := 0) hx hb dX12_compare_38 (by decide) ?_
            refine lv_iload_n hx hb dX12_compare_39 rfl (lv_at hl 0 rfl) ?_
            refine tk_Vi hC hK hw hT hA hE hSR kM_at0 (by decide) rfl (k_X12_fails_1 l adK adV dC dI cy ad B (by omega) (by omega) qr s1   0 (by decide) (by decide) x61 (show 0 ≤ x61.toInt by omega) (show x61.toInt ≤ 400 by omega) w55 H.size hT ) (cwV 2 hC.2.2.2.2 gX12_compare_X12_fails rfl rfl rfl (by decide +kernel) ⟨Nat.le_of_ble_eq_true rfl, Nat.le_of_ble_eq_true rfl⟩) rfl hl.1 rfl (Nat.le_of_ble_eq_true rfl) dX12_compare_40 (fun r838 w840 H locs hp839 hw => ?_)
            obtain ⟨hT, k841, hg844⟩ := hp839
            have hO := OKW_FE k841 (fun _ => rfl) (fun _ => rfl) (fun _ => rfl) (fun _ => rfl) hO
            have hF := hF.tr k841 (by decide)
            have c845 := k841.gi kM_at0 (by decide) c74
            have c846 := k841.gi kM_at0 (by decide) c75
            have c847 := k841.gi kM_at0 (by decide) c76
            have c848 := k841.gi kM_at3 rfl c77
            have c849 := k841.gi kM_at0 (by decide) c62
            obtain ⟨rfl, ⟨x842, c843, rx842, tx842⟩⟩ := hg844
            exact tk_zret hC hr rfl hlocks hK ⟨hT, hF, (Or.inl ⟨rfl, ⟨x19, c846, (show 1 ≤ x19.toInt by omega), (show x19.toInt ≤ 400 by omega)⟩, ⟨x842, c843, (show 1 ≤ x842.toInt by omega), (show x842.toInt ≤ 3205 by omega)⟩, ⟨f0_, c845, (show 0 ≤ f0_.toInt by omega), (show f0_.toInt ≤ 5 by omega)⟩, hO.1⟩)⟩ hw dX12_compare_43
    · have ex65 : x65.toInt = x19.toInt := by rw [← c75.symm.trans c66]
      have g69 : (x67.toInt = x51.toInt ∨ (gi w3 1 (x51.toInt).toNat).toInt = 32) := by have q := g69; simp only [c38, c74, c52, c68] at q; omega
      refine lv_istore_n (lv' := [(1, .int (-1)), (0, .ref (ad 0))]) hx hb dX12_compare_13 rfl hl (by decide) rfl (fun ls hl => ?_)
      refine lv_aload_n hx hb dX12_compare_14 rfl (lv_at hl 1 rfl) ?_
      refine tk_geti hC hK hw hT hinX12 kM_at0 (by decide) rfl 14 (by decide) (List.mem_of_getElem? (i := 1) rfl) rfl rfl dX12_compare_15 (fun x850 c851 rx850 tx850 => ?_)
      refine wk_top x67 (c851.symm.trans c68) ?_
      refine lv_istore_n (lv' := [(2, .int x67), (1, .int (-1)), (0, .ref (ad 0))]) hx hb dX12_compare_18 rfl hl (by decide) rfl (fun ls hl => ?_)
      refine lv_iload_n hx hb dX12_compare_19 rfl (lv_at hl 1 rfl) ?_
      refine lv_bipush (v := 60) hx hb dX12_compare_20 (by decide) ?_
      refine lv_icmp_eq (tgt := 44) hx hb dX12_compare_22 (by decide) (fun c => absurd c (by decide)) (fun _ => ?_)
      refine lv_iload_n hx hb dX12_compare_25 rfl (lv_at hl 1 rfl) ?_
      refine lv_bipush (v := 61) hx hb dX12_compare_26 (by decide) ?_
      refine lv_icmp_eq (tgt := 44) hx hb dX12_compare_28 (by decide) (fun c => absurd c (by decide)) (fun _ => ?_)
      refine lv_iload_n hx hb dX12_compare_31 rfl (lv_at hl 1 rfl) ?_
      refine lv_bipush (v := 62) hx hb dX12_compare_32 (by decide) ?_
      refine lv_icmp_eq (tgt := 44) hx hb dX12_compare_34 (by decide) (fun c => absurd c (by decide)) (fun _ => ?_)
      refine lv_aload_n hx hb dX12_compare_37 rfl (lv_at hl 2 rfl) ?_
      refine lv_iconst (v := 0) hx hb dX12_compare_38 (by decide) ?_
      refine lv_iload_n hx hb dX12_compare_39 rfl (lv_at hl 0 rfl) ?_
      refine tk_Vi hC hK hw hT hA hE hSR kM_at0 (by decide) rfl (k_X12_fails_1 l adK adV dC dI cy ad B (by omega) (by omega) qr s1   0 (by decide) (by decide) x67 (show 0 ≤ x67.toInt by omega) (show x67.toInt ≤ 400 by omega) w55 H.size hT ) (cwV 2 hC.2.2.2.2 gX12_compare_X12_fails rfl rfl rfl (by decide +kernel) ⟨Nat.le_of_ble_eq_true rfl, Nat.le_of_ble_eq_true rfl⟩) rfl hl.1 rfl (Nat.le_of_ble_eq_true rfl) dX12_compare_40 (fun r852 w854 H locs hp853 hw => ?_)
      obtain ⟨hT, k855, hg858⟩ := hp853
      have hO := OKW_FE k855 (fun _ => rfl) (fun _ => rfl) (fun _ => rfl) (fun _ => rfl) hO
      have hF := hF.tr k855 (by decide)
      have c859 := k855.gi kM_at0 (by decide) c74
      have c860 := k855.gi kM_at0 (by decide) c75
      have c861 := k855.gi kM_at0 (by decide) c76
      have c862 := k855.gi kM_at3 rfl c77
      have c863 := k855.gi kM_at0 (by decide) c68
      obtain ⟨rfl, ⟨x856, c857, rx856, tx856⟩⟩ := hg858
      exact tk_zret hC hr rfl hlocks hK ⟨hT, hF, (Or.inl ⟨rfl, ⟨x19, c860, (show 1 ≤ x19.toInt by omega), (show x19.toInt ≤ 400 by omega)⟩, ⟨x856, c857, (show 1 ≤ x856.toInt by omega), (show x856.toInt ≤ 3205 by omega)⟩, ⟨f0_, c859, (show 0 ≤ f0_.toInt by omega), (show f0_.toInt ≤ 5 by omega)⟩, hO.1⟩)⟩ hw dX12_compare_43
    · have ex70 : x70.toInt = x19.toInt := by rw [← c75.symm.trans c71]
      obtain ⟨x78, c79, rx78, tx78⟩ := hT.rdi (lo := 0) (hi := 400) (k := 14) kM_at0 (by decide) rfl
      have g72 : (x78.toInt = x51.toInt ∨ (gi w3 1 (x51.toInt).toNat).toInt = 32) := by have q := g72; simp only [c38, c74, c52, c79] at q; omega
      refine lv_istore_n (lv' := [(1, .int (-1)), (0, .ref (ad 0))]) hx hb dX12_compare_13 rfl hl (by decide) rfl (fun ls hl => ?_)
      refine lv_aload_n hx hb dX12_compare_14 rfl (lv_at hl 1 rfl) ?_
      refine tk_geti hC hK hw hT hinX12 kM_at0 (by decide) rfl 14 (by decide) (List.mem_of_getElem? (i := 1) rfl) rfl rfl dX12_compare_15 (fun x864 c865 rx864 tx864 => ?_)
      refine wk_top x78 (c865.symm.trans c79) ?_
      refine lv_istore_n (lv' := [(2, .int x78), (1, .int (-1)), (0, .ref (ad 0))]) hx hb dX12_compare_18 rfl hl (by decide) rfl (fun ls hl => ?_)
      refine lv_iload_n hx hb dX12_compare_19 rfl (lv_at hl 1 rfl) ?_
      refine lv_bipush (v := 60) hx hb dX12_compare_20 (by decide) ?_
      refine lv_icmp_eq (tgt := 44) hx hb dX12_compare_22 (by decide) (fun c => absurd c (by decide)) (fun _ => ?_)
      refine lv_iload_n hx hb dX12_compare_25 rfl (lv_at hl 1 rfl) ?_
      refine lv_bipush (v := 61) hx hb dX12_compare_26 (by decide) ?_
      refine lv_icmp_eq (tgt := 44) hx hb dX12_compare_28 (by decide) (fun c => absurd c (by decide)) (fun _ => ?_)
      refine lv_iload_n hx hb dX12_compare_31 rfl (lv_at hl 1 rfl) ?_
      refine lv_bipush (v := 62) hx hb dX12_compare_32 (by decide) ?_
      refine lv_icmp_eq (tgt := 44) hx hb dX12_compare_34 (by decide) (fun c => absurd c (by decide)) (fun _ => ?_)
      refine lv_aload_n hx hb dX12_compare_37 rfl (lv_at hl 2 rfl) ?_
      refine lv_iconst (v := 0) hx hb dX12_compare_38 (by decide) ?_
      refine lv_iload_n hx hb dX12_compare_39 rfl (lv_at hl 0 rfl) ?_
      refine tk_Vi hC hK hw hT hA hE hSR kM_at0 (by decide) rfl (k_X12_fails_1 l adK adV dC dI cy ad B (by omega) (by omega) qr s1   0 (by decide) (by decide) x78 (show 0 ≤ x78.toInt by omega) (show x78.toInt ≤ 400 by omega) w55 H.size hT ) (cwV 2 hC.2.2.2.2 gX12_compare_X12_fails rfl rfl rfl (by decide +kernel) ⟨Nat.le_of_ble_eq_true rfl, Nat.le_of_ble_eq_true rfl⟩) rfl hl.1 rfl (Nat.le_of_ble_eq_true rfl) dX12_compare_40 (fun r866 w868 H locs hp867 hw => ?_)
      obtain ⟨hT, k869, hg872⟩ := hp867
      have hO := OKW_FE k869 (fun _ => rfl) (fun _ => rfl) (fun _ => rfl) (fun _ => rfl) hO
      have hF := hF.tr k869 (by decide)
      have c873 := k869.gi kM_at0 (by decide) c74
      have c874 := k869.gi kM_at0 (by decide) c75
      have c875 := k869.gi kM_at0 (by decide) c76
      have c876 := k869.gi kM_at3 rfl c77
      have c877 := k869.gi kM_at0 (by decide) c79
      obtain ⟨rfl, ⟨x870, c871, rx870, tx870⟩⟩ := hg872
      exact tk_zret hC hr rfl hlocks hK ⟨hT, hF, (Or.inl ⟨rfl, ⟨x19, c874, (show 1 ≤ x19.toInt by omega), (show x19.toInt ≤ 400 by omega)⟩, ⟨x870, c871, (show 1 ≤ x870.toInt by omega), (show x870.toInt ≤ 3205 by omega)⟩, ⟨f0_, c873, (show 0 ≤ f0_.toInt by omega), (show f0_.toInt ≤ 5 by omega)⟩, hO.1⟩)⟩ hw dX12_compare_43
  · have ex30 : x30.toInt = f0_.toInt := by rw [← c38.symm.trans c31]
    obtain ⟨x49, c50, rx49, tx49⟩ := hT.rda (lo := 0) (hi := 400) (i := (f0_.toInt).toNat) kM_at3 rfl rfl (by omega)
    have g35 : 3 * x49.toInt + 11 ≤ 3 * f2_.toInt + 14 * (x32.toInt - f1_.toInt) := by have q := g35; simp only [cf0_, c38, cf2_, c50, cf1_, c33] at q; omega
    have g36 : f1_.toInt + 1 ≤ x32.toInt := by have q := g36; simp only [cf0_, c38, cf1_, c33] at q; omega
    have hO : OKW w3 f0_.toInt gb ((gd) + 1) := by have q := hq34; exact OKW_cast q (by omega)
    refine lv_if_ne (tgt := 9) hx hb dX12_compare_4 (by decide) (fun _ => ?_) (fun c => absurd c (by decide))
    refine lv_aload_n hx hb dX12_compare_9 rfl (lv_at hl 0 rfl) ?_
    obtain ⟨x878, c879, rx878, tx878⟩ := hT.rdi (lo := 0) (hi := 400) (k := 14) kM_at0 (by decide) rfl
    refine tk_Vi hC hK hw hT hA hE hSR kM_at0 (by decide) rfl (k_X12_see_1 l adK adV dC dI cy ad B (by omega) (by omega) qr s1    w3 H.size hT x878 c879 (show 0 ≤ x878.toInt by omega) (show x878.toInt ≤ 400 by omega)) (cwV 0 hC.2.2.2.2 gX12_compare_X12_see rfl rfl rfl (by decide +kernel) ⟨Nat.le_of_ble_eq_true rfl, Nat.le_of_ble_eq_true rfl⟩) rfl hl.1 rfl (Nat.le_of_ble_eq_true rfl) dX12_compare_10 (fun r880 w882 H locs hp881 hw => ?_)
    obtain ⟨hT, k883, hg900⟩ := hp881
    have hO := OKW_FE k883 (fun _ => rfl) (fun _ => rfl) (fun _ => rfl) (fun _ => rfl) hO
    have hF := hF.tr k883 (by decide)
    have c901 := k883.gi kM_at0 (by decide) c38
    have c902 := k883.gi kM_at0 (by decide) c29
    have c903 := k883.gi kM_at0 (by decide) c33
    have c904 := k883.gi kM_at3 rfl c50
    rcases hg900 with ⟨g884, g885, ⟨x886, c887, rx886, tx886⟩, ⟨x888, c889, rx888, tx888⟩, g890, g891⟩ | ⟨rfl, ⟨x892, c893, rx892, tx892⟩, ⟨x894, c895, rx894, tx894⟩, g896⟩ | ⟨rfl, ⟨x897, c898, rx897, tx897⟩, g899⟩
    · have ex886 : x886.toInt = x28.toInt := by rw [← c902.symm.trans c887]
      have g890 : (gi w882 1 (x888.toInt).toNat).toInt ≠ 32 := by have q := g890; simp only [c38, c901, c889] at q; omega
      have g891 : (x888.toInt = x878.toInt ∨ (gi w3 1 (x878.toInt).toNat).toInt = 32) := by have q := g891; simp only [c38, c901, c879, c889] at q; omega
      refine lv_istore_n (lv' := [(1, .int r880), (0, .ref (ad 0))]) hx hb dX12_compare_13 rfl hl (by decide) rfl (fun ls hl => ?_)
      refine lv_aload_n hx hb dX12_compare_14 rfl (lv_at hl 1 rfl) ?_
      refine tk_geti hC hK hw hT hinX12 kM_at0 (by decide) rfl 14 (by decide) (List.mem_of_getElem? (i := 1) rfl) rfl rfl dX12_compare_15 (fun x907 c908 rx907 tx907 => ?_)
      refine wk_top x888 (c908.symm.trans c889) ?_
      refine lv_istore_n (lv' := [(2, .int x888), (1, .int r880), (0, .ref (ad 0))]) hx hb dX12_compare_18 rfl hl (by decide) rfl (fun ls hl => ?_)
      refine lv_iload_n hx hb dX12_compare_19 rfl (lv_at hl 1 rfl) ?_
      refine lv_bipush (v := 60) hx hb dX12_compare_20 (by decide) ?_
      refine lv_icmp_eq (tgt := 44) hx hb dX12_compare_22 (by decide) (fun c909 => ?_) (fun c909 => ?_)
      · have c909 : r880.toInt = (60 : Int) := wk_eq.mp c909
        refine lv_aload_n hx hb dX12_compare_44 rfl (lv_at hl 2 rfl) ?_
        refine lv_dup hx hb dX12_compare_45 rfl ?_
        refine tk_geti hC hK hw hT hinX12 kM_at0 (by decide) rfl 14 (by decide) (List.mem_of_getElem? (i := 1) rfl) rfl rfl dX12_compare_46 (fun x910 c911 rx910 tx910 => ?_)
        refine wk_top x888 (c911.symm.trans c889) ?_
        refine lv_iconst (v := 1) hx hb dX12_compare_49 (by decide) ?_
        refine lv_iadd hx hb dX12_compare_50 ?_
        refine lv_topi (fun x912 ex912 => ?_)
        have ex912 : x912.toInt = x888.toInt + (1 : Int) := by rw [ex912]; exact wk_add (show (-2147483648) ≤ x888.toInt + (1 : Int) by omega) (show x888.toInt + (1 : Int) ≤ 2147483647 by omega)
        refine tk_puti hC hK hw hT hinX12 tyX12_ok nmX12 kM_at0 (by decide) rfl rfl 14 (by decide) (List.mem_of_getElem? (i := 1) rfl) rfl rfl rfl rfl (show 0 ≤ x912.toInt by omega) (show x912.toInt ≤ 400 by omega) dX12_compare_51 (fun H locs w913 hw hT k915 c914 => ?_)
        have hO := OKW_F1 k915 (by decide) (by decide) (by decide) (by decide) hO
        have hF := hF.put kM_at0 (k := 14) (by decide) k915
        have c916 := k915.gi (Or.inr (by decide)) c901
        have c917 := k915.gi (Or.inr (by decide)) c902
        have c918 := k915.gi (Or.inr (by decide)) c903
        have c919 := k915.gi (Or.inl (tk_ne kM_at3 kM_at0 (by decide))) c904
        refine lv_iload_n hx hb dX12_compare_54 rfl (lv_at hl 1 rfl) ?_
        refine lv_bipush (v := 61) hx hb dX12_compare_55 (by decide) ?_
        refine lv_icmp_eq (tgt := 89) hx hb dX12_compare_57 (by decide) (fun c => absurd c (fun h => absurd (show r880.toInt = (61 : Int) from wk_eq.mp h) (by omega))) (fun _ => ?_)
        refine lv_aload_n hx hb dX12_compare_60 rfl (lv_at hl 2 rfl) ?_
        refine tk_geti hC hK hw hT hinX12 kM_at0 (by decide) rfl 14 (by decide) (List.mem_of_getElem? (i := 1) rfl) rfl rfl dX12_compare_61 (fun x920 c921 rx920 tx920 => ?_)
        refine wk_top x912 (c921.symm.trans c914) ?_
        refine lv_aload_n hx hb dX12_compare_64 rfl (lv_at hl 2 rfl) ?_
        refine tk_geti hC hK hw hT hinX12 kM_at0 (by decide) rfl 1 (by decide) (List.mem_of_getElem? (i := 2) rfl) rfl rfl dX12_compare_65 (fun x922 c923 rx922 tx922 => ?_)
        refine wk_top x28 (c923.symm.trans c917) ?_
        refine lv_icmp_ge (tgt := 89) hx hb dX12_compare_68 (by decide) (fun c924 => ?_) (fun c924 => ?_)
        · have c924 : x28.toInt ≤ x912.toInt := wk_le.mp c924
          refine lv_iconst (v := 0) hx hb dX12_compare_89 (by decide) ?_
          refine lv_istore_n (lv' := [(3, .int 0), (2, .int x888), (1, .int r880), (0, .ref (ad 0))]) hx hb dX12_compare_90 rfl hl (by decide) rfl (fun ls hl => ?_)
          refine lv_iload_n hx hb dX12_compare_91 rfl (lv_at hl 0 rfl) ?_
          refine lv_if_eq (tgt := 105) hx hb dX12_compare_92 (by decide) (fun _ => ?_) (fun c => absurd (by decide) c)
          refine lv_aload_n hx hb dX12_compare_105 rfl (lv_at hl 3 rfl) ?_
          refine lv_iload_n hx hb dX12_compare_106 rfl (lv_at hl 1 rfl) ?_
          refine tk_Vi hC hK hw hT hA hE hSR kM_at0 (by decide) rfl (k_X12_makes_2 l adK adV dC dI cy ad B (by omega) (by omega) qr s1   x888 (show 0 ≤ x888.toInt by omega) (show x888.toInt ≤ 399 by omega) w913 H.size hT x32 c918 (show 0 ≤ x32.toInt by omega) (show x32.toInt ≤ 60 by omega)) (cwV 1 hC.2.2.2.2 gX12_compare_X12_makes rfl rfl rfl (by decide +kernel) ⟨Nat.le_of_ble_eq_true rfl, Nat.le_of_ble_eq_true rfl⟩) rfl hl.1 rfl (Nat.le_of_ble_eq_true rfl) dX12_compare_107 (fun r925 w927 H locs hp926 hw => ?_)
          obtain ⟨hT, k928, hg936⟩ := hp926
          have hO := OKW_FE k928 (fun _ => rfl) (fun _ => rfl) (fun _ => rfl) (fun _ => rfl) hO
          have hF := hF.tr k928 (by decide)
          have c937 := k928.gi kM_at0 (by decide) c916
          have c938 := k928.gi kM_at0 (by decide) c917
          have c939 := k928.gi kM_at3 rfl c919
          have c940 := k928.gi kM_at0 (by decide) c914
          rcases hg936 with ⟨rfl, ⟨x929, c930, rx929, tx929⟩, ⟨x931, c932, rx931, tx931⟩⟩ | ⟨rfl, ⟨x933, c934, rx933, tx933⟩, g935⟩
          · refine lv_if_ne (tgt := 115) hx hb dX12_compare_110 (by decide) (fun c => absurd (by decide) c) (fun _ => ?_)
            refine lv_iconst (v := 0) hx hb dX12_compare_113 (by decide) ?_
            exact tk_zret hC hr rfl hlocks hK ⟨hT, hF, (Or.inl ⟨rfl, ⟨x28, c938, (show 1 ≤ x28.toInt by omega), (show x28.toInt ≤ 400 by omega)⟩, ⟨x929, c930, (show 1 ≤ x929.toInt by omega), (show x929.toInt ≤ 3205 by omega)⟩, ⟨f0_, c937, (show 0 ≤ f0_.toInt by omega), (show f0_.toInt ≤ 5 by omega)⟩, hO.1⟩)⟩ hw dX12_compare_114
          · have g935 : x933.toInt = x32.toInt + 1 := by have q := g935; simp only [c916, c937, c918, c934] at q; omega
            refine lv_if_ne (tgt := 115) hx hb dX12_compare_110 (by decide) (fun _ => ?_) (fun c => absurd c (by decide))
            refine lv_iload_n hx hb dX12_compare_115 rfl (lv_at hl 2 rfl) ?_
            refine lv_bipush (v := 60) hx hb dX12_compare_116 (by decide) ?_
            refine lv_icmp_ne (tgt := 133) hx hb dX12_compare_118 (by decide) (fun c => (c (wk_eq.mpr (show r880.toInt = (60 : Int) by omega))).elim) (fun _ => ?_)
            refine lv_iload_n hx hb dX12_compare_121 rfl (lv_at hl 0 rfl) ?_
            refine lv_if_eq (tgt := 129) hx hb dX12_compare_122 (by decide) (fun _ => ?_) (fun c => absurd (by decide) c)
            refine lv_iconst (v := 0) hx hb dX12_compare_129 (by decide) ?_
            refine lv_goto (tgt := 152) hx hb dX12_compare_130 (by decide) ?_
            refine lv_istore (lv' := [(4, .int 0), (3, .int 0), (2, .int x888), (1, .int r880), (0, .ref (ad 0))]) hx hb dX12_compare_152 hl (by decide) rfl (fun ls hl => ?_)
            refine lv_aload_n hx hb dX12_compare_154 rfl (lv_at hl 4 rfl) ?_
            refine tk_Vi hC hK hw hT hA hE hSR kM_at0 (by decide) rfl (k_X12_sum_1 l adK adV dC dI cy ad B (by omega) (by omega) qr s1    w927 H.size hT f0_ c937 (show 0 ≤ f0_.toInt by omega) (show f0_.toInt ≤ 5 by omega) x933 c934 (show 0 ≤ x933.toInt by omega) (show x933.toInt ≤ 60 by omega) x49 c939 (show 0 ≤ x49.toInt by omega) (show x49.toInt ≤ 400 by omega) (show 3 * x49.toInt ≤ 14 * x933.toInt + 60 by omega) (show x49.toInt ≤ 300 by omega) gb ((gd) + 1) (by omega) (by omega) (OKW_cast hO (show (gd) + 1 = (gd) + 1 by omega))) (cwV 0 hC.2.2.2.2 gX12_compare_X12_sum rfl rfl rfl (by decide +kernel) ⟨Nat.le_of_ble_eq_true rfl, Nat.le_of_ble_eq_true rfl⟩) rfl hl.1 rfl (Nat.le_of_ble_eq_true rfl) dX12_compare_155 (fun r941 w943 H locs hp942 hw => ?_)
            obtain ⟨hT, k944, hg977⟩ := hp942
            have hF := hF.tr k944 (by decide)
            have c978 := k944.gi kM_at0 (by decide) c937
            have c979 := k944.gi kM_at0 (by decide) c938
            rcases hg977 with ⟨rfl, ⟨x945, c946, rx945, tx945⟩, ⟨x947, c948, rx947, tx947⟩, ⟨x949, c950, rx949, tx949⟩, hq951⟩ | ⟨rfl, ⟨x952, c953, rx952, tx952⟩, ⟨x954, c955, rx954, tx954⟩, ⟨x956, c957, rx956, tx956⟩, hq958⟩ | ⟨rfl, ⟨x959, c960, rx959, tx959⟩, ⟨x961, c962, rx961, tx961⟩, ⟨x963, c964, rx963, tx963⟩, hq965, g966, g967⟩ | ⟨rfl, ⟨x968, c969, rx968, tx968⟩, ⟨x970, c971, rx970, tx970⟩, ⟨x972, c973, rx972, tx972⟩, hq974, g975, g976⟩
            · have ex945 : x945.toInt = x28.toInt := by rw [← c979.symm.trans c946]
              have ex949 : x949.toInt = f0_.toInt := by rw [← c978.symm.trans c950]
              obtain ⟨x980, c981, rx980, tx980⟩ := hT.rda (lo := 0) (hi := 400) (i := (f0_.toInt).toNat) kM_at3 rfl rfl (by omega)
              obtain ⟨x982, c983, rx982, tx982⟩ := hT.rdi (lo := 0) (hi := 60) (k := 18) kM_at0 (by decide) rfl
              have hR := hq951
              refine lv_if_ne (tgt := 163) hx hb dX12_compare_158 (by decide) (fun c => absurd (by decide) c) (fun _ => ?_)
              refine lv_iconst (v := 0) hx hb dX12_compare_161 (by decide) ?_
              exact tk_zret hC hr rfl hlocks hK ⟨hT, hF, (Or.inl ⟨rfl, ⟨x28, c979, (show 1 ≤ x28.toInt by omega), (show x28.toInt ≤ 400 by omega)⟩, ⟨x947, c948, (show 1 ≤ x947.toInt by omega), (show x947.toInt ≤ 3205 by omega)⟩, ⟨f0_, c978, (show 0 ≤ f0_.toInt by omega), (show f0_.toInt ≤ 5 by omega)⟩, hR⟩)⟩ hw dX12_compare_162
            · have ex952 : x952.toInt = x28.toInt := by rw [← c979.symm.trans c953]
              have ex956 : x956.toInt = f0_.toInt := by rw [← c978.symm.trans c957]
              obtain ⟨x984, c985, rx984, tx984⟩ := hT.rda (lo := 0) (hi := 400) (i := (f0_.toInt).toNat) kM_at3 rfl rfl (by omega)
              obtain ⟨x986, c987, rx986, tx986⟩ := hT.rdi (lo := 0) (hi := 60) (k := 18) kM_at0 (by decide) rfl
              have hR := hq958
              refine lv_if_ne (tgt := 163) hx hb dX12_compare_158 (by decide) (fun c => absurd (by decide) c) (fun _ => ?_)
              refine lv_iconst (v := 0) hx hb dX12_compare_161 (by decide) ?_
              exact tk_zret hC hr rfl hlocks hK ⟨hT, hF, (Or.inl ⟨rfl, ⟨x28, c979, (show 1 ≤ x28.toInt by omega), (show x28.toInt ≤ 400 by omega)⟩, ⟨x954, c955, (show 1 ≤ x954.toInt by omega), (show x954.toInt ≤ 3205 by omega)⟩, ⟨f0_, c978, (show 0 ≤ f0_.toInt by omega), (show f0_.toInt ≤ 5 by omega)⟩, hR⟩)⟩ hw dX12_compare_162
            · have ex959 : x959.toInt = x28.toInt := by rw [← c979.symm.trans c960]
              have ex961 : x961.toInt = f0_.toInt := by rw [← c978.symm.trans c962]
              obtain ⟨x988, c989, rx988, tx988⟩ := hT.rda (lo := 0) (hi := 400) (i := (f0_.toInt).toNat) kM_at3 rfl rfl (by omega)
              have g966 : 3 * x988.toInt + 11 ≤ 3 * x49.toInt + 14 * (x963.toInt - x933.toInt) := by have q := g966; simp only [c937, c978, c939, c989, c934, c964] at q; omega
              have g967 : x933.toInt + 1 ≤ x963.toInt := by have q := g967; simp only [c937, c978, c934, c964] at q; omega
              have hO : OKW w943 f0_.toInt gb (((gd) + 1) + 1) := by have q := hq965; exact OKW_cast q (by omega)
              refine lv_if_ne (tgt := 163) hx hb dX12_compare_158 (by decide) (fun _ => ?_) (fun c => absurd c (by decide))
              refine lv_aload_n hx hb dX12_compare_163 rfl (lv_at hl 4 rfl) ?_
              refine lv_bipush (v := 6) hx hb dX12_compare_164 (by decide) ?_
              refine lv_iload hx hb dX12_compare_166 (lv_at hl 0 rfl) ?_
              refine lv_iadd hx hb dX12_compare_168 ?_
              refine wk_top 6 (by decide) ?_
              refine lv_iconst (v := 0) hx hb dX12_compare_169 (by decide) ?_
              refine tk_Vv hC hK hw hT hA hE hSR kM_at0 (by decide) rfl (k_X12_puts_1 l adK adV dC dI cy ad B (by omega) (by omega) qr s1   6 (by decide) (by decide) 0 (by decide) (by decide) w943 H.size hT f0_ c978 (show 0 ≤ f0_.toInt by omega) (show f0_.toInt ≤ 5 by omega) x988 c989 (show 0 ≤ x988.toInt by omega) (show x988.toInt ≤ 400 by omega) (show x988.toInt ≤ 399 by omega)) (cwV 2 hC.2.2.2.2 gX12_compare_X12_puts rfl rfl rfl (by decide +kernel) ⟨Nat.le_of_ble_eq_true rfl, Nat.le_of_ble_eq_true rfl⟩) rfl hl.1 rfl (Nat.le_of_ble_eq_true rfl) dX12_compare_170 (fun w994 H locs hp993 hw => ?_)
              obtain ⟨hT, k995, hg1000⟩ := hp993
              have hF := hF.tr k995 (by decide)
              have c1001 := k995.gi kM_at0 (by decide) c978
              have c1002 := k995.gi kM_at0 (by decide) c979
              have c1003 := k995.gi kM_at0 (by decide) c964
              obtain ⟨⟨x996, c997, rx996, tx996⟩, hq998, g999⟩ := hg1000
              have ex996 : x996.toInt = f0_.toInt := by rw [← c1001.symm.trans c997]
              obtain ⟨x1004, c1005, rx1004, tx1004⟩ := hT.rda (lo := 0) (hi := 400) (i := (f0_.toInt).toNat) kM_at3 rfl rfl (by omega)
              have g999 : x1004.toInt = x988.toInt + 1 := by have q := g999; simp only [c978, c1001, c989, c1005] at q; omega
              have hO : OKW w994 f0_.toInt gb ((((gd) + 1) + 1) - 1) := OKW_put hO (by have q := hq998; rw [c978] at q; exact q) (by rw [c989]; omega) (fun x hx => by simp only [(show (6 : Int32).toInt = 6 by decide), (show (0 : Int32).toInt = 0 by decide)] at hx; exact okT_bin (by omega) (by omega) (by omega) (by omega)) (by omega) (by omega)
              refine lv_iconst (v := 1) hx hb dX12_compare_173 (by decide) ?_
              exact tk_zret hC hr rfl hlocks hK ⟨hT, hF, (Or.inr (Or.inr ⟨rfl, ⟨x28, c1002, (show 1 ≤ x28.toInt by omega), (show x28.toInt ≤ 400 by omega)⟩, ⟨f0_, c1001, (show 0 ≤ f0_.toInt by omega), (show f0_.toInt ≤ 5 by omega)⟩, ⟨x963, c1003, (show 1 ≤ x963.toInt by omega), (show x963.toInt ≤ 60 by omega)⟩, (OKW_cast hO (by omega)), (by simp only [c1001, cf0_, cf2_, c1005, cf1_, c1003]; omega), (by simp only [c1001, cf0_, cf1_, c1003]; omega)⟩))⟩ hw dX12_compare_174
            · have ex968 : x968.toInt = x28.toInt := by rw [← c979.symm.trans c969]
              have ex970 : x970.toInt = f0_.toInt := by rw [← c978.symm.trans c971]
              obtain ⟨x990, c991, rx990, tx990⟩ := hT.rda (lo := 0) (hi := 400) (i := (f0_.toInt).toNat) kM_at3 rfl rfl (by omega)
              have g975 : 3 * x990.toInt + 11 ≤ 3 * x49.toInt + 14 * (x972.toInt - x933.toInt) := by have q := g975; simp only [c937, c978, c939, c991, c934, c973] at q; omega
              have g976 : x933.toInt + 1 ≤ x972.toInt := by have q := g976; simp only [c937, c978, c934, c973] at q; omega
              have hO : OKW w943 f0_.toInt gb (((gd) + 1) + 1) := by have q := hq974; exact OKW_cast q (by omega)
              refine lv_if_ne (tgt := 163) hx hb dX12_compare_158 (by decide) (fun _ => ?_) (fun c => absurd c (by decide))
              refine lv_aload_n hx hb dX12_compare_163 rfl (lv_at hl 4 rfl) ?_
              refine lv_bipush (v := 6) hx hb dX12_compare_164 (by decide) ?_
              refine lv_iload hx hb dX12_compare_166 (lv_at hl 0 rfl) ?_
              refine lv_iadd hx hb dX12_compare_168 ?_
              refine wk_top 6 (by decide) ?_
              refine lv_iconst (v := 0) hx hb dX12_compare_169 (by decide) ?_
              refine tk_Vv hC hK hw hT hA hE hSR kM_at0 (by decide) rfl (k_X12_puts_1 l adK adV dC dI cy ad B (by omega) (by omega) qr s1   6 (by decide) (by decide) 0 (by decide) (by decide) w943 H.size hT f0_ c978 (show 0 ≤ f0_.toInt by omega) (show f0_.toInt ≤ 5 by omega) x990 c991 (show 0 ≤ x990.toInt by omega) (show x990.toInt ≤ 400 by omega) (show x990.toInt ≤ 399 by omega)) (cwV 2 hC.2.2.2.2 gX12_compare_X12_puts rfl rfl rfl (by decide +kernel) ⟨Nat.le_of_ble_eq_true rfl, Nat.le_of_ble_eq_true rfl⟩) rfl hl.1 rfl (Nat.le_of_ble_eq_true rfl) dX12_compare_170 (fun w1008 H locs hp1007 hw => ?_)
              obtain ⟨hT, k1009, hg1014⟩ := hp1007
              have hF := hF.tr k1009 (by decide)
              have c1015 := k1009.gi kM_at0 (by decide) c978
              have c1016 := k1009.gi kM_at0 (by decide) c979
              have c1017 := k1009.gi kM_at0 (by decide) c973
              obtain ⟨⟨x1010, c1011, rx1010, tx1010⟩, hq1012, g1013⟩ := hg1014
              have ex1010 : x1010.toInt = f0_.toInt := by rw [← c1015.symm.trans c1011]
              obtain ⟨x1018, c1019, rx1018, tx1018⟩ := hT.rda (lo := 0) (hi := 400) (i := (f0_.toInt).toNat) kM_at3 rfl rfl (by omega)
              have g1013 : x1018.toInt = x990.toInt + 1 := by have q := g1013; simp only [c978, c1015, c991, c1019] at q; omega
              have hO : OKW w1008 f0_.toInt gb ((((gd) + 1) + 1) - 1) := OKW_put hO (by have q := hq1012; rw [c978] at q; exact q) (by rw [c991]; omega) (fun x hx => by simp only [(show (6 : Int32).toInt = 6 by decide), (show (0 : Int32).toInt = 0 by decide)] at hx; exact okT_bin (by omega) (by omega) (by omega) (by omega)) (by omega) (by omega)
              refine lv_iconst (v := 1) hx hb dX12_compare_173 (by decide) ?_
              exact tk_zret hC hr rfl hlocks hK ⟨hT, hF, (Or.inr (Or.inr ⟨rfl, ⟨x28, c1016, (show 1 ≤ x28.toInt by omega), (show x28.toInt ≤ 400 by omega)⟩, ⟨f0_, c1015, (show 0 ≤ f0_.toInt by omega), (show f0_.toInt ≤ 5 by omega)⟩, ⟨x972, c1017, (show 1 ≤ x972.toInt by omega), (show x972.toInt ≤ 60 by omega)⟩, (OKW_cast hO (by omega)), (by simp only [c1015, cf0_, cf2_, c1019, cf1_, c1017]; omega), (by simp only [c1015, cf0_, cf1_, c1017]; omega)⟩))⟩ hw dX12_compare_174
        · have c924 : x912.toInt < x28.toInt := wk_leF c924
          refine lv_aload_n hx hb dX12_compare_71 rfl (lv_at hl 2 rfl) ?_
          refine tk_getA hC hK hw hT hinX12 kM_at0 (by decide) rfl 0 (by decide) (List.mem_of_getElem? (i := 3) rfl) rfl rfl dX12_compare_72 ?_
          refine lv_aload_n hx hb dX12_compare_75 rfl (lv_at hl 2 rfl) ?_
          refine tk_geti hC hK hw hT hinX12 kM_at0 (by decide) rfl 14 (by decide) (List.mem_of_getElem? (i := 1) rfl) rfl rfl dX12_compare_76 (fun x1020 c1021 rx1020 tx1020 => ?_)
          refine wk_top x912 (c1021.symm.trans c914) ?_
          refine tk_bald hC hK hw hT kM_at1 rfl rfl (show 0 ≤ x912.toInt by omega) (show x912.toInt < 400 by omega) dX12_compare_79 (fun x1022 c1023 rx1022 tx1022 => ?_)
          have c1023 : gi w913 1 (1 * x888.toInt + 1).toNat = x1022 := (congrArg (gi w913 1) (congrArg Int.toNat (show 1 * x888.toInt + 1 = x912.toInt by omega))).trans c1023
          refine lv_bipush (v := 61) hx hb dX12_compare_80 (by decide) ?_
          refine lv_icmp_ne (tgt := 89) hx hb dX12_compare_82 (by decide) (fun c1024 => ?_) (fun c1024 => ?_)
          · have c1024 : ¬ x1022.toInt = (61 : Int) := wk_eqF c1024
            refine lv_iconst (v := 0) hx hb dX12_compare_89 (by decide) ?_
            refine lv_istore_n (lv' := [(3, .int 0), (2, .int x888), (1, .int r880), (0, .ref (ad 0))]) hx hb dX12_compare_90 rfl hl (by decide) rfl (fun ls hl => ?_)
            refine lv_iload_n hx hb dX12_compare_91 rfl (lv_at hl 0 rfl) ?_
            refine lv_if_eq (tgt := 105) hx hb dX12_compare_92 (by decide) (fun _ => ?_) (fun c => absurd (by decide) c)
            refine lv_aload_n hx hb dX12_compare_105 rfl (lv_at hl 3 rfl) ?_
            refine lv_iload_n hx hb dX12_compare_106 rfl (lv_at hl 1 rfl) ?_
            refine tk_Vi hC hK hw hT hA hE hSR kM_at0 (by decide) rfl (k_X12_makes_1 l adK adV dC dI cy ad B (by omega) (by omega) qr s1   x888 (show 0 ≤ x888.toInt by omega) (show x888.toInt ≤ 398 by omega) w913 H.size hT x32 c918 (show 0 ≤ x32.toInt by omega) (show x32.toInt ≤ 60 by omega)) (cwV 1 hC.2.2.2.2 gX12_compare_X12_makes rfl rfl rfl (by decide +kernel) ⟨Nat.le_of_ble_eq_true rfl, Nat.le_of_ble_eq_true rfl⟩) rfl hl.1 rfl (Nat.le_of_ble_eq_true rfl) dX12_compare_107 (fun r1025 w1027 H locs hp1026 hw => ?_)
            obtain ⟨hT, k1028, hg1036⟩ := hp1026
            have hO := OKW_FE k1028 (fun _ => rfl) (fun _ => rfl) (fun _ => rfl) (fun _ => rfl) hO
            have hF := hF.tr k1028 (by decide)
            have c1037 := k1028.gi kM_at0 (by decide) c916
            have c1038 := k1028.gi kM_at0 (by decide) c917
            have c1039 := k1028.gi kM_at3 rfl c919
            have c1040 := k1028.gi kM_at0 (by decide) c914
            have c1041 := k1028.gi kM_at1 rfl c1023
            rcases hg1036 with ⟨rfl, ⟨x1029, c1030, rx1029, tx1029⟩, ⟨x1031, c1032, rx1031, tx1031⟩⟩ | ⟨rfl, ⟨x1033, c1034, rx1033, tx1033⟩, g1035⟩
            · refine lv_if_ne (tgt := 115) hx hb dX12_compare_110 (by decide) (fun c => absurd (by decide) c) (fun _ => ?_)
              refine lv_iconst (v := 0) hx hb dX12_compare_113 (by decide) ?_
              exact tk_zret hC hr rfl hlocks hK ⟨hT, hF, (Or.inl ⟨rfl, ⟨x28, c1038, (show 1 ≤ x28.toInt by omega), (show x28.toInt ≤ 400 by omega)⟩, ⟨x1029, c1030, (show 1 ≤ x1029.toInt by omega), (show x1029.toInt ≤ 3205 by omega)⟩, ⟨f0_, c1037, (show 0 ≤ f0_.toInt by omega), (show f0_.toInt ≤ 5 by omega)⟩, hO.1⟩)⟩ hw dX12_compare_114
            · have g1035 : x1033.toInt = x32.toInt + 1 := by have q := g1035; simp only [c916, c1037, c918, c1034] at q; omega
              refine lv_if_ne (tgt := 115) hx hb dX12_compare_110 (by decide) (fun _ => ?_) (fun c => absurd c (by decide))
              refine lv_iload_n hx hb dX12_compare_115 rfl (lv_at hl 2 rfl) ?_
              refine lv_bipush (v := 60) hx hb dX12_compare_116 (by decide) ?_
              refine lv_icmp_ne (tgt := 133) hx hb dX12_compare_118 (by decide) (fun c => (c (wk_eq.mpr (show r880.toInt = (60 : Int) by omega))).elim) (fun _ => ?_)
              refine lv_iload_n hx hb dX12_compare_121 rfl (lv_at hl 0 rfl) ?_
              refine lv_if_eq (tgt := 129) hx hb dX12_compare_122 (by decide) (fun _ => ?_) (fun c => absurd (by decide) c)
              refine lv_iconst (v := 0) hx hb dX12_compare_129 (by decide) ?_
              refine lv_goto (tgt := 152) hx hb dX12_compare_130 (by decide) ?_
              refine lv_istore (lv' := [(4, .int 0), (3, .int 0), (2, .int x888), (1, .int r880), (0, .ref (ad 0))]) hx hb dX12_compare_152 hl (by decide) rfl (fun ls hl => ?_)
              refine lv_aload_n hx hb dX12_compare_154 rfl (lv_at hl 4 rfl) ?_
              refine tk_Vi hC hK hw hT hA hE hSR kM_at0 (by decide) rfl (k_X12_sum_1 l adK adV dC dI cy ad B (by omega) (by omega) qr s1    w1027 H.size hT f0_ c1037 (show 0 ≤ f0_.toInt by omega) (show f0_.toInt ≤ 5 by omega) x1033 c1034 (show 0 ≤ x1033.toInt by omega) (show x1033.toInt ≤ 60 by omega) x49 c1039 (show 0 ≤ x49.toInt by omega) (show x49.toInt ≤ 400 by omega) (show 3 * x49.toInt ≤ 14 * x1033.toInt + 60 by omega) (show x49.toInt ≤ 300 by omega) gb ((gd) + 1) (by omega) (by omega) (OKW_cast hO (show (gd) + 1 = (gd) + 1 by omega))) (cwV 0 hC.2.2.2.2 gX12_compare_X12_sum rfl rfl rfl (by decide +kernel) ⟨Nat.le_of_ble_eq_true rfl, Nat.le_of_ble_eq_true rfl⟩) rfl hl.1 rfl (Nat.le_of_ble_eq_true rfl) dX12_compare_155 (fun r1042 w1044 H locs hp1043 hw => ?_)
              obtain ⟨hT, k1045, hg1078⟩ := hp1043
              have hF := hF.tr k1045 (by decide)
              have c1079 := k1045.gi kM_at0 (by decide) c1037
              have c1080 := k1045.gi kM_at0 (by decide) c1038
              have c1081 := k1045.gi kM_at1 rfl c1041
              rcases hg1078 with ⟨rfl, ⟨x1046, c1047, rx1046, tx1046⟩, ⟨x1048, c1049, rx1048, tx1048⟩, ⟨x1050, c1051, rx1050, tx1050⟩, hq1052⟩ | ⟨rfl, ⟨x1053, c1054, rx1053, tx1053⟩, ⟨x1055, c1056, rx1055, tx1055⟩, ⟨x1057, c1058, rx1057, tx1057⟩, hq1059⟩ | ⟨rfl, ⟨x1060, c1061, rx1060, tx1060⟩, ⟨x1062, c1063, rx1062, tx1062⟩, ⟨x1064, c1065, rx1064, tx1064⟩, hq1066, g1067, g1068⟩ | ⟨rfl, ⟨x1069, c1070, rx1069, tx1069⟩, ⟨x1071, c1072, rx1071, tx1071⟩, ⟨x1073, c1074, rx1073, tx1073⟩, hq1075, g1076, g1077⟩
              · have ex1046 : x1046.toInt = x28.toInt := by rw [← c1080.symm.trans c1047]
                have ex1050 : x1050.toInt = f0_.toInt := by rw [← c1079.symm.trans c1051]
                obtain ⟨x1082, c1083, rx1082, tx1082⟩ := hT.rda (lo := 0) (hi := 400) (i := (f0_.toInt).toNat) kM_at3 rfl rfl (by omega)
                obtain ⟨x1084, c1085, rx1084, tx1084⟩ := hT.rdi (lo := 0) (hi := 60) (k := 18) kM_at0 (by decide) rfl
                have hR := hq1052
                refine lv_if_ne (tgt := 163) hx hb dX12_compare_158 (by decide) (fun c => absurd (by decide) c) (fun _ => ?_)
                refine lv_iconst (v := 0) hx hb dX12_compare_161 (by decide) ?_
                exact tk_zret hC hr rfl hlocks hK ⟨hT, hF, (Or.inl ⟨rfl, ⟨x28, c1080, (show 1 ≤ x28.toInt by omega), (show x28.toInt ≤ 400 by omega)⟩, ⟨x1048, c1049, (show 1 ≤ x1048.toInt by omega), (show x1048.toInt ≤ 3205 by omega)⟩, ⟨f0_, c1079, (show 0 ≤ f0_.toInt by omega), (show f0_.toInt ≤ 5 by omega)⟩, hR⟩)⟩ hw dX12_compare_162
              · have ex1053 : x1053.toInt = x28.toInt := by rw [← c1080.symm.trans c1054]
                have ex1057 : x1057.toInt = f0_.toInt := by rw [← c1079.symm.trans c1058]
                obtain ⟨x1086, c1087, rx1086, tx1086⟩ := hT.rda (lo := 0) (hi := 400) (i := (f0_.toInt).toNat) kM_at3 rfl rfl (by omega)
                obtain ⟨x1088, c1089, rx1088, tx1088⟩ := hT.rdi (lo := 0) (hi := 60) (k := 18) kM_at0 (by decide) rfl
                have hR := hq1059
                refine lv_if_ne (tgt := 163) hx hb dX12_compare_158 (by decide) (fun c => absurd (by decide) c) (fun _ => ?_)
                refine lv_iconst (v := 0) hx hb dX12_compare_161 (by decide) ?_
                exact tk_zret hC hr rfl hlocks hK ⟨hT, hF, (Or.inl ⟨rfl, ⟨x28, c1080, (show 1 ≤ x28.toInt by omega), (show x28.toInt ≤ 400 by omega)⟩, ⟨x1055, c1056, (show 1 ≤ x1055.toInt by omega), (show x1055.toInt ≤ 3205 by omega)⟩, ⟨f0_, c1079, (show 0 ≤ f0_.toInt by omega), (show f0_.toInt ≤ 5 by omega)⟩, hR⟩)⟩ hw dX12_compare_162
              · have ex1060 : x1060.toInt = x28.toInt := by rw [← c1080.symm.trans c1061]
                have ex1062 : x1062.toInt = f0_.toInt := by rw [← c1079.symm.trans c1063]
                obtain ⟨x1090, c1091, rx1090, tx1090⟩ := hT.rda (lo := 0) (hi := 400) (i := (f0_.toInt).toNat) kM_at3 rfl rfl (by omega)
                have g1067 : 3 * x1090.toInt + 11 ≤ 3 * x49.toInt + 14 * (x1064.toInt - x1033.toInt) := by have q := g1067; simp only [c1037, c1079, c1039, c1091, c1034, c1065] at q; omega
                have g1068 : x1033.toInt + 1 ≤ x1064.toInt := by have q := g1068; simp only [c1037, c1079, c1034, c1065] at q; omega
                have hO : OKW w1044 f0_.toInt gb (((gd) + 1) + 1) := by have q := hq1066; exact OKW_cast q (by omega)
                refine lv_if_ne (tgt := 163) hx hb dX12_compare_158 (by decide) (fun _ => ?_) (fun c => absurd c (by decide))
                refine lv_aload_n hx hb dX12_compare_163 rfl (lv_at hl 4 rfl) ?_
                refine lv_bipush (v := 6) hx hb dX12_compare_164 (by decide) ?_
                refine lv_iload hx hb dX12_compare_166 (lv_at hl 0 rfl) ?_
                refine lv_iadd hx hb dX12_compare_168 ?_
                refine wk_top 6 (by decide) ?_
                refine lv_iconst (v := 0) hx hb dX12_compare_169 (by decide) ?_
                refine tk_Vv hC hK hw hT hA hE hSR kM_at0 (by decide) rfl (k_X12_puts_1 l adK adV dC dI cy ad B (by omega) (by omega) qr s1   6 (by decide) (by decide) 0 (by decide) (by decide) w1044 H.size hT f0_ c1079 (show 0 ≤ f0_.toInt by omega) (show f0_.toInt ≤ 5 by omega) x1090 c1091 (show 0 ≤ x1090.toInt by omega) (show x1090.toInt ≤ 400 by omega) (show x1090.toInt ≤ 399 by omega)) (cwV 2 hC.2.2.2.2 gX12_compare_X12_puts rfl rfl rfl (by decide +kernel) ⟨Nat.le_of_ble_eq_true rfl, Nat.le_of_ble_eq_true rfl⟩) rfl hl.1 rfl (Nat.le_of_ble_eq_true rfl) dX12_compare_170 (fun w1096 H locs hp1095 hw => ?_)
                obtain ⟨hT, k1097, hg1102⟩ := hp1095
                have hF := hF.tr k1097 (by decide)
                have c1103 := k1097.gi kM_at0 (by decide) c1079
                have c1104 := k1097.gi kM_at0 (by decide) c1080
                have c1105 := k1097.gi kM_at1 rfl c1081
                have c1106 := k1097.gi kM_at0 (by decide) c1065
                obtain ⟨⟨x1098, c1099, rx1098, tx1098⟩, hq1100, g1101⟩ := hg1102
                have ex1098 : x1098.toInt = f0_.toInt := by rw [← c1103.symm.trans c1099]
                obtain ⟨x1107, c1108, rx1107, tx1107⟩ := hT.rda (lo := 0) (hi := 400) (i := (f0_.toInt).toNat) kM_at3 rfl rfl (by omega)
                have g1101 : x1107.toInt = x1090.toInt + 1 := by have q := g1101; simp only [c1079, c1103, c1091, c1108] at q; omega
                have hO : OKW w1096 f0_.toInt gb ((((gd) + 1) + 1) - 1) := OKW_put hO (by have q := hq1100; rw [c1079] at q; exact q) (by rw [c1091]; omega) (fun x hx => by simp only [(show (6 : Int32).toInt = 6 by decide), (show (0 : Int32).toInt = 0 by decide)] at hx; exact okT_bin (by omega) (by omega) (by omega) (by omega)) (by omega) (by omega)
                refine lv_iconst (v := 1) hx hb dX12_compare_173 (by decide) ?_
                exact tk_zret hC hr rfl hlocks hK ⟨hT, hF, (Or.inr (Or.inr ⟨rfl, ⟨x28, c1104, (show 1 ≤ x28.toInt by omega), (show x28.toInt ≤ 400 by omega)⟩, ⟨f0_, c1103, (show 0 ≤ f0_.toInt by omega), (show f0_.toInt ≤ 5 by omega)⟩, ⟨x1064, c1106, (show 1 ≤ x1064.toInt by omega), (show x1064.toInt ≤ 60 by omega)⟩, (OKW_cast hO (by omega)), (by simp only [c1103, cf0_, cf2_, c1108, cf1_, c1106]; omega), (by simp only [c1103, cf0_, cf1_, c1106]; omega)⟩))⟩ hw dX12_compare_174
              · have ex1069 : x1069.toInt = x28.toInt := by rw [← c1080.symm.trans c1070]
                have ex1071 : x1071.toInt = f0_.toInt := by rw [← c1079.symm.trans c1072]
                obtain ⟨x1092, c1093, rx1092, tx1092⟩ := hT.rda (lo := 0) (hi := 400) (i := (f0_.toInt).toNat) kM_at3 rfl rfl (by omega)
                have g1076 : 3 * x1092.toInt + 11 ≤ 3 * x49.toInt + 14 * (x1073.toInt - x1033.toInt) := by have q := g1076; simp only [c1037, c1079, c1039, c1093, c1034, c1074] at q; omega
                have g1077 : x1033.toInt + 1 ≤ x1073.toInt := by have q := g1077; simp only [c1037, c1079, c1034, c1074] at q; omega
                have hO : OKW w1044 f0_.toInt gb (((gd) + 1) + 1) := by have q := hq1075; exact OKW_cast q (by omega)
                refine lv_if_ne (tgt := 163) hx hb dX12_compare_158 (by decide) (fun _ => ?_) (fun c => absurd c (by decide))
                refine lv_aload_n hx hb dX12_compare_163 rfl (lv_at hl 4 rfl) ?_
                refine lv_bipush (v := 6) hx hb dX12_compare_164 (by decide) ?_
                refine lv_iload hx hb dX12_compare_166 (lv_at hl 0 rfl) ?_
                refine lv_iadd hx hb dX12_compare_168 ?_
                refine wk_top 6 (by decide) ?_
                refine lv_iconst (v := 0) hx hb dX12_compare_169 (by decide) ?_
                refine tk_Vv hC hK hw hT hA hE hSR kM_at0 (by decide) rfl (k_X12_puts_1 l adK adV dC dI cy ad B (by omega) (by omega) qr s1   6 (by decide) (by decide) 0 (by decide) (by decide) w1044 H.size hT f0_ c1079 (show 0 ≤ f0_.toInt by omega) (show f0_.toInt ≤ 5 by omega) x1092 c1093 (show 0 ≤ x1092.toInt by omega) (show x1092.toInt ≤ 400 by omega) (show x1092.toInt ≤ 399 by omega)) (cwV 2 hC.2.2.2.2 gX12_compare_X12_puts rfl rfl rfl (by decide +kernel) ⟨Nat.le_of_ble_eq_true rfl, Nat.le_of_ble_eq_true rfl⟩) rfl hl.1 rfl (Nat.le_of_ble_eq_true rfl) dX12_compare_170 (fun w1111 H locs hp1110 hw => ?_)
                obtain ⟨hT, k1112, hg1117⟩ := hp1110
                have hF := hF.tr k1112 (by decide)
                have c1118 := k1112.gi kM_at0 (by decide) c1079
                have c1119 := k1112.gi kM_at0 (by decide) c1080
                have c1120 := k1112.gi kM_at1 rfl c1081
                have c1121 := k1112.gi kM_at0 (by decide) c1074
                obtain ⟨⟨x1113, c1114, rx1113, tx1113⟩, hq1115, g1116⟩ := hg1117
                have ex1113 : x1113.toInt = f0_.toInt := by rw [← c1118.symm.trans c1114]
                obtain ⟨x1122, c1123, rx1122, tx1122⟩ := hT.rda (lo := 0) (hi := 400) (i := (f0_.toInt).toNat) kM_at3 rfl rfl (by omega)
                have g1116 : x1122.toInt = x1092.toInt + 1 := by have q := g1116; simp only [c1079, c1118, c1093, c1123] at q; omega
                have hO : OKW w1111 f0_.toInt gb ((((gd) + 1) + 1) - 1) := OKW_put hO (by have q := hq1115; rw [c1079] at q; exact q) (by rw [c1093]; omega) (fun x hx => by simp only [(show (6 : Int32).toInt = 6 by decide), (show (0 : Int32).toInt = 0 by decide)] at hx; exact okT_bin (by omega) (by omega) (by omega) (by omega)) (by omega) (by omega)
                refine lv_iconst (v := 1) hx hb dX12_compare_173 (by decide) ?_
                exact tk_zret hC hr rfl hlocks hK ⟨hT, hF, (Or.inr (Or.inr ⟨rfl, ⟨x28, c1119, (show 1 ≤ x28.toInt by omega), (show x28.toInt ≤ 400 by omega)⟩, ⟨f0_, c1118, (show 0 ≤ f0_.toInt by omega), (show f0_.toInt ≤ 5 by omega)⟩, ⟨x1073, c1121, (show 1 ≤ x1073.toInt by omega), (show x1073.toInt ≤ 60 by omega)⟩, (OKW_cast hO (by omega)), (by simp only [c1118, cf0_, cf2_, c1123, cf1_, c1121]; omega), (by simp only [c1118, cf0_, cf1_, c1121]; omega)⟩))⟩ hw dX12_compare_174
          · have c1024 : x1022.toInt = (61 : Int) := wk_eq.mp c1024
            refine lv_iconst (v := 1) hx hb dX12_compare_85 (by decide) ?_
            refine lv_goto (tgt := 90) hx hb dX12_compare_86 (by decide) ?_
            refine lv_istore_n (lv' := [(3, .int 1), (2, .int x888), (1, .int r880), (0, .ref (ad 0))]) hx hb dX12_compare_90 rfl hl (by decide) rfl (fun ls hl => ?_)
            refine lv_iload_n hx hb dX12_compare_91 rfl (lv_at hl 0 rfl) ?_
            refine lv_if_eq (tgt := 105) hx hb dX12_compare_92 (by decide) (fun c => absurd c (by decide)) (fun _ => ?_)
            refine lv_aload_n hx hb dX12_compare_95 rfl (lv_at hl 3 rfl) ?_
            refine lv_dup hx hb dX12_compare_96 rfl ?_
            refine tk_geti hC hK hw hT hinX12 kM_at0 (by decide) rfl 14 (by decide) (List.mem_of_getElem? (i := 1) rfl) rfl rfl dX12_compare_97 (fun x1124 c1125 rx1124 tx1124 => ?_)
            refine wk_top x912 (c1125.symm.trans c914) ?_
            refine lv_iconst (v := 1) hx hb dX12_compare_100 (by decide) ?_
            refine lv_iadd hx hb dX12_compare_101 ?_
            refine lv_topi (fun x1126 ex1126 => ?_)
            have ex1126 : x1126.toInt = x912.toInt + (1 : Int) := by rw [ex1126]; exact wk_add (show (-2147483648) ≤ x912.toInt + (1 : Int) by omega) (show x912.toInt + (1 : Int) ≤ 2147483647 by omega)
            refine tk_puti hC hK hw hT hinX12 tyX12_ok nmX12 kM_at0 (by decide) rfl rfl 14 (by decide) (List.mem_of_getElem? (i := 1) rfl) rfl rfl rfl rfl (show 0 ≤ x1126.toInt by omega) (show x1126.toInt ≤ 400 by omega) dX12_compare_102 (fun H locs w1127 hw hT k1129 c1128 => ?_)
            have hO := OKW_F1 k1129 (by decide) (by decide) (by decide) (by decide) hO
            have hF := hF.put kM_at0 (k := 14) (by decide) k1129
            have c1130 := k1129.gi (Or.inr (by decide)) c916
            have c1131 := k1129.gi (Or.inr (by decide)) c917
            have c1132 := k1129.gi (Or.inr (by decide)) c918
            have c1133 := k1129.gi (Or.inl (tk_ne kM_at3 kM_at0 (by decide))) c919
            have c1134 := k1129.gi (Or.inl (tk_ne kM_at1 kM_at0 (by decide))) c1023
            refine lv_aload_n hx hb dX12_compare_105 rfl (lv_at hl 3 rfl) ?_
            refine lv_iload_n hx hb dX12_compare_106 rfl (lv_at hl 1 rfl) ?_
            refine tk_Vi hC hK hw hT hA hE hSR kM_at0 (by decide) rfl (k_X12_makes_1 l adK adV dC dI cy ad B (by omega) (by omega) qr s1   x888 (show 0 ≤ x888.toInt by omega) (show x888.toInt ≤ 398 by omega) w1127 H.size hT x32 c1132 (show 0 ≤ x32.toInt by omega) (show x32.toInt ≤ 60 by omega)) (cwV 1 hC.2.2.2.2 gX12_compare_X12_makes rfl rfl rfl (by decide +kernel) ⟨Nat.le_of_ble_eq_true rfl, Nat.le_of_ble_eq_true rfl⟩) rfl hl.1 rfl (Nat.le_of_ble_eq_true rfl) dX12_compare_107 (fun r1135 w1137 H locs hp1136 hw => ?_)
            obtain ⟨hT, k1138, hg1146⟩ := hp1136
            have hO := OKW_FE k1138 (fun _ => rfl) (fun _ => rfl) (fun _ => rfl) (fun _ => rfl) hO
            have hF := hF.tr k1138 (by decide)
            have c1147 := k1138.gi kM_at0 (by decide) c1130
            have c1148 := k1138.gi kM_at0 (by decide) c1131
            have c1149 := k1138.gi kM_at3 rfl c1133
            have c1150 := k1138.gi kM_at1 rfl c1134
            have c1151 := k1138.gi kM_at0 (by decide) c1128
            rcases hg1146 with ⟨rfl, ⟨x1139, c1140, rx1139, tx1139⟩, ⟨x1141, c1142, rx1141, tx1141⟩⟩ | ⟨rfl, ⟨x1143, c1144, rx1143, tx1143⟩, g1145⟩
            · refine lv_if_ne (tgt := 115) hx hb dX12_compare_110 (by decide) (fun c => absurd (by decide) c) (fun _ => ?_)
              refine lv_iconst (v := 0) hx hb dX12_compare_113 (by decide) ?_
              exact tk_zret hC hr rfl hlocks hK ⟨hT, hF, (Or.inl ⟨rfl, ⟨x28, c1148, (show 1 ≤ x28.toInt by omega), (show x28.toInt ≤ 400 by omega)⟩, ⟨x1139, c1140, (show 1 ≤ x1139.toInt by omega), (show x1139.toInt ≤ 3205 by omega)⟩, ⟨f0_, c1147, (show 0 ≤ f0_.toInt by omega), (show f0_.toInt ≤ 5 by omega)⟩, hO.1⟩)⟩ hw dX12_compare_114
            · have g1145 : x1143.toInt = x32.toInt + 1 := by have q := g1145; simp only [c1130, c1147, c1132, c1144] at q; omega
              refine lv_if_ne (tgt := 115) hx hb dX12_compare_110 (by decide) (fun _ => ?_) (fun c => absurd c (by decide))
              refine lv_iload_n hx hb dX12_compare_115 rfl (lv_at hl 2 rfl) ?_
              refine lv_bipush (v := 60) hx hb dX12_compare_116 (by decide) ?_
              refine lv_icmp_ne (tgt := 133) hx hb dX12_compare_118 (by decide) (fun c => (c (wk_eq.mpr (show r880.toInt = (60 : Int) by omega))).elim) (fun _ => ?_)
              refine lv_iload_n hx hb dX12_compare_121 rfl (lv_at hl 0 rfl) ?_
              refine lv_if_eq (tgt := 129) hx hb dX12_compare_122 (by decide) (fun c => absurd c (by decide)) (fun _ => ?_)
              refine lv_iconst (v := 1) hx hb dX12_compare_125 (by decide) ?_
              refine lv_goto (tgt := 152) hx hb dX12_compare_126 (by decide) ?_
              refine lv_istore (lv' := [(4, .int 1), (3, .int 1), (2, .int x888), (1, .int r880), (0, .ref (ad 0))]) hx hb dX12_compare_152 hl (by decide) rfl (fun ls hl => ?_)
              refine lv_aload_n hx hb dX12_compare_154 rfl (lv_at hl 4 rfl) ?_
              refine tk_Vi hC hK hw hT hA hE hSR kM_at0 (by decide) rfl (k_X12_sum_1 l adK adV dC dI cy ad B (by omega) (by omega) qr s1    w1137 H.size hT f0_ c1147 (show 0 ≤ f0_.toInt by omega) (show f0_.toInt ≤ 5 by omega) x1143 c1144 (show 0 ≤ x1143.toInt by omega) (show x1143.toInt ≤ 60 by omega) x49 c1149 (show 0 ≤ x49.toInt by omega) (show x49.toInt ≤ 400 by omega) (show 3 * x49.toInt ≤ 14 * x1143.toInt + 60 by omega) (show x49.toInt ≤ 300 by omega) gb ((gd) + 1) (by omega) (by omega) (OKW_cast hO (show (gd) + 1 = (gd) + 1 by omega))) (cwV 0 hC.2.2.2.2 gX12_compare_X12_sum rfl rfl rfl (by decide +kernel) ⟨Nat.le_of_ble_eq_true rfl, Nat.le_of_ble_eq_true rfl⟩) rfl hl.1 rfl (Nat.le_of_ble_eq_true rfl) dX12_compare_155 (fun r1152 w1154 H locs hp1153 hw => ?_)
              obtain ⟨hT, k1155, hg1188⟩ := hp1153
              have hF := hF.tr k1155 (by decide)
              have c1189 := k1155.gi kM_at0 (by decide) c1147
              have c1190 := k1155.gi kM_at0 (by decide) c1148
              have c1191 := k1155.gi kM_at1 rfl c1150
              rcases hg1188 with ⟨rfl, ⟨x1156, c1157, rx1156, tx1156⟩, ⟨x1158, c1159, rx1158, tx1158⟩, ⟨x1160, c1161, rx1160, tx1160⟩, hq1162⟩ | ⟨rfl, ⟨x1163, c1164, rx1163, tx1163⟩, ⟨x1165, c1166, rx1165, tx1165⟩, ⟨x1167, c1168, rx1167, tx1167⟩, hq1169⟩ | ⟨rfl, ⟨x1170, c1171, rx1170, tx1170⟩, ⟨x1172, c1173, rx1172, tx1172⟩, ⟨x1174, c1175, rx1174, tx1174⟩, hq1176, g1177, g1178⟩ | ⟨rfl, ⟨x1179, c1180, rx1179, tx1179⟩, ⟨x1181, c1182, rx1181, tx1181⟩, ⟨x1183, c1184, rx1183, tx1183⟩, hq1185, g1186, g1187⟩
              · have ex1156 : x1156.toInt = x28.toInt := by rw [← c1190.symm.trans c1157]
                have ex1160 : x1160.toInt = f0_.toInt := by rw [← c1189.symm.trans c1161]
                obtain ⟨x1192, c1193, rx1192, tx1192⟩ := hT.rda (lo := 0) (hi := 400) (i := (f0_.toInt).toNat) kM_at3 rfl rfl (by omega)
                obtain ⟨x1194, c1195, rx1194, tx1194⟩ := hT.rdi (lo := 0) (hi := 60) (k := 18) kM_at0 (by decide) rfl
                have hR := hq1162
                refine lv_if_ne (tgt := 163) hx hb dX12_compare_158 (by decide) (fun c => absurd (by decide) c) (fun _ => ?_)
                refine lv_iconst (v := 0) hx hb dX12_compare_161 (by decide) ?_
                exact tk_zret hC hr rfl hlocks hK ⟨hT, hF, (Or.inl ⟨rfl, ⟨x28, c1190, (show 1 ≤ x28.toInt by omega), (show x28.toInt ≤ 400 by omega)⟩, ⟨x1158, c1159, (show 1 ≤ x1158.toInt by omega), (show x1158.toInt ≤ 3205 by omega)⟩, ⟨f0_, c1189, (show 0 ≤ f0_.toInt by omega), (show f0_.toInt ≤ 5 by omega)⟩, hR⟩)⟩ hw dX12_compare_162
              · have ex1163 : x1163.toInt = x28.toInt := by rw [← c1190.symm.trans c1164]
                have ex1167 : x1167.toInt = f0_.toInt := by rw [← c1189.symm.trans c1168]
                obtain ⟨x1196, c1197, rx1196, tx1196⟩ := hT.rda (lo := 0) (hi := 400) (i := (f0_.toInt).toNat) kM_at3 rfl rfl (by omega)
                obtain ⟨x1198, c1199, rx1198, tx1198⟩ := hT.rdi (lo := 0) (hi := 60) (k := 18) kM_at0 (by decide) rfl
                have hR := hq1169
                refine lv_if_ne (tgt := 163) hx hb dX12_compare_158 (by decide) (fun c => absurd (by decide) c) (fun _ => ?_)
                refine lv_iconst (v := 0) hx hb dX12_compare_161 (by decide) ?_
                exact tk_zret hC hr rfl hlocks hK ⟨hT, hF, (Or.inl ⟨rfl, ⟨x28, c1190, (show 1 ≤ x28.toInt by omega), (show x28.toInt ≤ 400 by omega)⟩, ⟨x1165, c1166, (show 1 ≤ x1165.toInt by omega), (show x1165.toInt ≤ 3205 by omega)⟩, ⟨f0_, c1189, (show 0 ≤ f0_.toInt by omega), (show f0_.toInt ≤ 5 by omega)⟩, hR⟩)⟩ hw dX12_compare_162
              · have ex1170 : x1170.toInt = x28.toInt := by rw [← c1190.symm.trans c1171]
                have ex1172 : x1172.toInt = f0_.toInt := by rw [← c1189.symm.trans c1173]
                obtain ⟨x1200, c1201, rx1200, tx1200⟩ := hT.rda (lo := 0) (hi := 400) (i := (f0_.toInt).toNat) kM_at3 rfl rfl (by omega)
                have g1177 : 3 * x1200.toInt + 11 ≤ 3 * x49.toInt + 14 * (x1174.toInt - x1143.toInt) := by have q := g1177; simp only [c1147, c1189, c1149, c1201, c1144, c1175] at q; omega
                have g1178 : x1143.toInt + 1 ≤ x1174.toInt := by have q := g1178; simp only [c1147, c1189, c1144, c1175] at q; omega
                have hO : OKW w1154 f0_.toInt gb (((gd) + 1) + 1) := by have q := hq1176; exact OKW_cast q (by omega)
                refine lv_if_ne (tgt := 163) hx hb dX12_compare_158 (by decide) (fun _ => ?_) (fun c => absurd c (by decide))
                refine lv_aload_n hx hb dX12_compare_163 rfl (lv_at hl 4 rfl) ?_
                refine lv_bipush (v := 6) hx hb dX12_compare_164 (by decide) ?_
                refine lv_iload hx hb dX12_compare_166 (lv_at hl 0 rfl) ?_
                refine lv_iadd hx hb dX12_compare_168 ?_
                refine wk_top 7 (by decide) ?_
                refine lv_iconst (v := 0) hx hb dX12_compare_169 (by decide) ?_
                refine tk_Vv hC hK hw hT hA hE hSR kM_at0 (by decide) rfl (k_X12_puts_1 l adK adV dC dI cy ad B (by omega) (by omega) qr s1   7 (by decide) (by decide) 0 (by decide) (by decide) w1154 H.size hT f0_ c1189 (show 0 ≤ f0_.toInt by omega) (show f0_.toInt ≤ 5 by omega) x1200 c1201 (show 0 ≤ x1200.toInt by omega) (show x1200.toInt ≤ 400 by omega) (show x1200.toInt ≤ 399 by omega)) (cwV 2 hC.2.2.2.2 gX12_compare_X12_puts rfl rfl rfl (by decide +kernel) ⟨Nat.le_of_ble_eq_true rfl, Nat.le_of_ble_eq_true rfl⟩) rfl hl.1 rfl (Nat.le_of_ble_eq_true rfl) dX12_compare_170 (fun w1206 H locs hp1205 hw => ?_)
                obtain ⟨hT, k1207, hg1212⟩ := hp1205
                have hF := hF.tr k1207 (by decide)
                have c1213 := k1207.gi kM_at0 (by decide) c1189
                have c1214 := k1207.gi kM_at0 (by decide) c1190
                have c1215 := k1207.gi kM_at1 rfl c1191
                have c1216 := k1207.gi kM_at0 (by decide) c1175
                obtain ⟨⟨x1208, c1209, rx1208, tx1208⟩, hq1210, g1211⟩ := hg1212
                have ex1208 : x1208.toInt = f0_.toInt := by rw [← c1213.symm.trans c1209]
                obtain ⟨x1217, c1218, rx1217, tx1217⟩ := hT.rda (lo := 0) (hi := 400) (i := (f0_.toInt).toNat) kM_at3 rfl rfl (by omega)
                have g1211 : x1217.toInt = x1200.toInt + 1 := by have q := g1211; simp only [c1189, c1213, c1201, c1218] at q; omega
                have hO : OKW w1206 f0_.toInt gb ((((gd) + 1) + 1) - 1) := OKW_put hO (by have q := hq1210; rw [c1189] at q; exact q) (by rw [c1201]; omega) (fun x hx => by simp only [(show (7 : Int32).toInt = 7 by decide), (show (0 : Int32).toInt = 0 by decide)] at hx; exact okT_bin (by omega) (by omega) (by omega) (by omega)) (by omega) (by omega)
                refine lv_iconst (v := 1) hx hb dX12_compare_173 (by decide) ?_
                exact tk_zret hC hr rfl hlocks hK ⟨hT, hF, (Or.inr (Or.inr ⟨rfl, ⟨x28, c1214, (show 1 ≤ x28.toInt by omega), (show x28.toInt ≤ 400 by omega)⟩, ⟨f0_, c1213, (show 0 ≤ f0_.toInt by omega), (show f0_.toInt ≤ 5 by omega)⟩, ⟨x1174, c1216, (show 1 ≤ x1174.toInt by omega), (show x1174.toInt ≤ 60 by omega)⟩, (OKW_cast hO (by omega)), (by simp only [c1213, cf0_, cf2_, c1218, cf1_, c1216]; omega), (by simp only [c1213, cf0_, cf1_, c1216]; omega)⟩))⟩ hw dX12_compare_174
              · have ex1179 : x1179.toInt = x28.toInt := by rw [← c1190.symm.trans c1180]
                have ex1181 : x1181.toInt = f0_.toInt := by rw [← c1189.symm.trans c1182]
                obtain ⟨x1202, c1203, rx1202, tx1202⟩ := hT.rda (lo := 0) (hi := 400) (i := (f0_.toInt).toNat) kM_at3 rfl rfl (by omega)
                have g1186 : 3 * x1202.toInt + 11 ≤ 3 * x49.toInt + 14 * (x1183.toInt - x1143.toInt) := by have q := g1186; simp only [c1147, c1189, c1149, c1203, c1144, c1184] at q; omega
                have g1187 : x1143.toInt + 1 ≤ x1183.toInt := by have q := g1187; simp only [c1147, c1189, c1144, c1184] at q; omega
                have hO : OKW w1154 f0_.toInt gb (((gd) + 1) + 1) := by have q := hq1185; exact OKW_cast q (by omega)
                refine lv_if_ne (tgt := 163) hx hb dX12_compare_158 (by decide) (fun _ => ?_) (fun c => absurd c (by decide))
                refine lv_aload_n hx hb dX12_compare_163 rfl (lv_at hl 4 rfl) ?_
                refine lv_bipush (v := 6) hx hb dX12_compare_164 (by decide) ?_
                refine lv_iload hx hb dX12_compare_166 (lv_at hl 0 rfl) ?_
                refine lv_iadd hx hb dX12_compare_168 ?_
                refine wk_top 7 (by decide) ?_
                refine lv_iconst (v := 0) hx hb dX12_compare_169 (by decide) ?_
                refine tk_Vv hC hK hw hT hA hE hSR kM_at0 (by decide) rfl (k_X12_puts_1 l adK adV dC dI cy ad B (by omega) (by omega) qr s1   7 (by decide) (by decide) 0 (by decide) (by decide) w1154 H.size hT f0_ c1189 (show 0 ≤ f0_.toInt by omega) (show f0_.toInt ≤ 5 by omega) x1202 c1203 (show 0 ≤ x1202.toInt by omega) (show x1202.toInt ≤ 400 by omega) (show x1202.toInt ≤ 399 by omega)) (cwV 2 hC.2.2.2.2 gX12_compare_X12_puts rfl rfl rfl (by decide +kernel) ⟨Nat.le_of_ble_eq_true rfl, Nat.le_of_ble_eq_true rfl⟩) rfl hl.1 rfl (Nat.le_of_ble_eq_true rfl) dX12_compare_170 (fun w1221 H locs hp1220 hw => ?_)
                obtain ⟨hT, k1222, hg1227⟩ := hp1220
                have hF := hF.tr k1222 (by decide)
                have c1228 := k1222.gi kM_at0 (by decide) c1189
                have c1229 := k1222.gi kM_at0 (by decide) c1190
                have c1230 := k1222.gi kM_at1 rfl c1191
                have c1231 := k1222.gi kM_at0 (by decide) c1184
                obtain ⟨⟨x1223, c1224, rx1223, tx1223⟩, hq1225, g1226⟩ := hg1227
                have ex1223 : x1223.toInt = f0_.toInt := by rw [← c1228.symm.trans c1224]
                obtain ⟨x1232, c1233, rx1232, tx1232⟩ := hT.rda (lo := 0) (hi := 400) (i := (f0_.toInt).toNat) kM_at3 rfl rfl (by omega)
                have g1226 : x1232.toInt = x1202.toInt + 1 := by have q := g1226; simp only [c1189, c1228, c1203, c1233] at q; omega
                have hO : OKW w1221 f0_.toInt gb ((((gd) + 1) + 1) - 1) := OKW_put hO (by have q := hq1225; rw [c1189] at q; exact q) (by rw [c1203]; omega) (fun x hx => by simp only [(show (7 : Int32).toInt = 7 by decide), (show (0 : Int32).toInt = 0 by decide)] at hx; exact okT_bin (by omega) (by omega) (by omega) (by omega)) (by omega) (by omega)
                refine lv_iconst (v := 1) hx hb dX12_compare_173 (by decide) ?_
                exact tk_zret hC hr rfl hlocks hK ⟨hT, hF, (Or.inr (Or.inr ⟨rfl, ⟨x28, c1229, (show 1 ≤ x28.toInt by omega), (show x28.toInt ≤ 400 by omega)⟩, ⟨f0_, c1228, (show 0 ≤ f0_.toInt by omega), (show f0_.toInt ≤ 5 by omega)⟩, ⟨x1183, c1231, (show 1 ≤ x1183.toInt by omega), (show x1183.toInt ≤ 60 by omega)⟩, (OKW_cast hO (by omega)), (by simp only [c1228, cf0_, cf2_, c1233, cf1_, c1231]; omega), (by simp only [c1228, cf0_, cf1_, c1231]; omega)⟩))⟩ hw dX12_compare_174
      · have c909 : ¬ r880.toInt = (60 : Int) := wk_eqF c909
        refine lv_iload_n hx hb dX12_compare_25 rfl (lv_at hl 1 rfl) ?_
        refine lv_bipush (v := 61) hx hb dX12_compare_26 (by decide) ?_
        refine lv_icmp_eq (tgt := 44) hx hb dX12_compare_28 (by decide) (fun c1234 => ?_) (fun c1234 => ?_)
        · have c1234 : r880.toInt = (61 : Int) := wk_eq.mp c1234
          refine lv_aload_n hx hb dX12_compare_44 rfl (lv_at hl 2 rfl) ?_
          refine lv_dup hx hb dX12_compare_45 rfl ?_
          refine tk_geti hC hK hw hT hinX12 kM_at0 (by decide) rfl 14 (by decide) (List.mem_of_getElem? (i := 1) rfl) rfl rfl dX12_compare_46 (fun x1235 c1236 rx1235 tx1235 => ?_)
          refine wk_top x888 (c1236.symm.trans c889) ?_
          refine lv_iconst (v := 1) hx hb dX12_compare_49 (by decide) ?_
          refine lv_iadd hx hb dX12_compare_50 ?_
          refine lv_topi (fun x1237 ex1237 => ?_)
          have ex1237 : x1237.toInt = x888.toInt + (1 : Int) := by rw [ex1237]; exact wk_add (show (-2147483648) ≤ x888.toInt + (1 : Int) by omega) (show x888.toInt + (1 : Int) ≤ 2147483647 by omega)
          refine tk_puti hC hK hw hT hinX12 tyX12_ok nmX12 kM_at0 (by decide) rfl rfl 14 (by decide) (List.mem_of_getElem? (i := 1) rfl) rfl rfl rfl rfl (show 0 ≤ x1237.toInt by omega) (show x1237.toInt ≤ 400 by omega) dX12_compare_51 (fun H locs w1238 hw hT k1240 c1239 => ?_)
          have hO := OKW_F1 k1240 (by decide) (by decide) (by decide) (by decide) hO
          have hF := hF.put kM_at0 (k := 14) (by decide) k1240
          have c1241 := k1240.gi (Or.inr (by decide)) c901
          have c1242 := k1240.gi (Or.inr (by decide)) c902
          have c1243 := k1240.gi (Or.inr (by decide)) c903
          have c1244 := k1240.gi (Or.inl (tk_ne kM_at3 kM_at0 (by decide))) c904
          refine lv_iload_n hx hb dX12_compare_54 rfl (lv_at hl 1 rfl) ?_
          refine lv_bipush (v := 61) hx hb dX12_compare_55 (by decide) ?_
          refine lv_icmp_eq (tgt := 89) hx hb dX12_compare_57 (by decide) (fun _ => ?_) (fun c => (c (wk_eq.mpr (show r880.toInt = (61 : Int) by omega))).elim)
          refine lv_iconst (v := 0) hx hb dX12_compare_89 (by decide) ?_
          refine lv_istore_n (lv' := [(3, .int 0), (2, .int x888), (1, .int r880), (0, .ref (ad 0))]) hx hb dX12_compare_90 rfl hl (by decide) rfl (fun ls hl => ?_)
          refine lv_iload_n hx hb dX12_compare_91 rfl (lv_at hl 0 rfl) ?_
          refine lv_if_eq (tgt := 105) hx hb dX12_compare_92 (by decide) (fun _ => ?_) (fun c => absurd (by decide) c)
          refine lv_aload_n hx hb dX12_compare_105 rfl (lv_at hl 3 rfl) ?_
          refine lv_iload_n hx hb dX12_compare_106 rfl (lv_at hl 1 rfl) ?_
          refine tk_Vi hC hK hw hT hA hE hSR kM_at0 (by decide) rfl (k_X12_makes_2 l adK adV dC dI cy ad B (by omega) (by omega) qr s1   x888 (show 0 ≤ x888.toInt by omega) (show x888.toInt ≤ 399 by omega) w1238 H.size hT x32 c1243 (show 0 ≤ x32.toInt by omega) (show x32.toInt ≤ 60 by omega)) (cwV 1 hC.2.2.2.2 gX12_compare_X12_makes rfl rfl rfl (by decide +kernel) ⟨Nat.le_of_ble_eq_true rfl, Nat.le_of_ble_eq_true rfl⟩) rfl hl.1 rfl (Nat.le_of_ble_eq_true rfl) dX12_compare_107 (fun r1245 w1247 H locs hp1246 hw => ?_)
          obtain ⟨hT, k1248, hg1256⟩ := hp1246
          have hO := OKW_FE k1248 (fun _ => rfl) (fun _ => rfl) (fun _ => rfl) (fun _ => rfl) hO
          have hF := hF.tr k1248 (by decide)
          have c1257 := k1248.gi kM_at0 (by decide) c1241
          have c1258 := k1248.gi kM_at0 (by decide) c1242
          have c1259 := k1248.gi kM_at3 rfl c1244
          have c1260 := k1248.gi kM_at0 (by decide) c1239
          rcases hg1256 with ⟨rfl, ⟨x1249, c1250, rx1249, tx1249⟩, ⟨x1251, c1252, rx1251, tx1251⟩⟩ | ⟨rfl, ⟨x1253, c1254, rx1253, tx1253⟩, g1255⟩
          · refine lv_if_ne (tgt := 115) hx hb dX12_compare_110 (by decide) (fun c => absurd (by decide) c) (fun _ => ?_)
            refine lv_iconst (v := 0) hx hb dX12_compare_113 (by decide) ?_
            exact tk_zret hC hr rfl hlocks hK ⟨hT, hF, (Or.inl ⟨rfl, ⟨x28, c1258, (show 1 ≤ x28.toInt by omega), (show x28.toInt ≤ 400 by omega)⟩, ⟨x1249, c1250, (show 1 ≤ x1249.toInt by omega), (show x1249.toInt ≤ 3205 by omega)⟩, ⟨f0_, c1257, (show 0 ≤ f0_.toInt by omega), (show f0_.toInt ≤ 5 by omega)⟩, hO.1⟩)⟩ hw dX12_compare_114
          · have g1255 : x1253.toInt = x32.toInt + 1 := by have q := g1255; simp only [c1241, c1257, c1243, c1254] at q; omega
            refine lv_if_ne (tgt := 115) hx hb dX12_compare_110 (by decide) (fun _ => ?_) (fun c => absurd c (by decide))
            refine lv_iload_n hx hb dX12_compare_115 rfl (lv_at hl 2 rfl) ?_
            refine lv_bipush (v := 60) hx hb dX12_compare_116 (by decide) ?_
            refine lv_icmp_ne (tgt := 133) hx hb dX12_compare_118 (by decide) (fun _ => ?_) (fun c => absurd (show r880.toInt = (60 : Int) from wk_eq.mp c) (by omega))
            refine lv_iload_n hx hb dX12_compare_133 rfl (lv_at hl 2 rfl) ?_
            refine lv_bipush (v := 61) hx hb dX12_compare_134 (by decide) ?_
            refine lv_icmp_ne (tgt := 143) hx hb dX12_compare_136 (by decide) (fun c => (c (wk_eq.mpr (show r880.toInt = (61 : Int) by omega))).elim) (fun _ => ?_)
            refine lv_iconst (v := 2) hx hb dX12_compare_139 (by decide) ?_
            refine lv_goto (tgt := 152) hx hb dX12_compare_140 (by decide) ?_
            refine lv_istore (lv' := [(4, .int 2), (3, .int 0), (2, .int x888), (1, .int r880), (0, .ref (ad 0))]) hx hb dX12_compare_152 hl (by decide) rfl (fun ls hl => ?_)
            refine lv_aload_n hx hb dX12_compare_154 rfl (lv_at hl 4 rfl) ?_
            refine tk_Vi hC hK hw hT hA hE hSR kM_at0 (by decide) rfl (k_X12_sum_1 l adK adV dC dI cy ad B (by omega) (by omega) qr s1    w1247 H.size hT f0_ c1257 (show 0 ≤ f0_.toInt by omega) (show f0_.toInt ≤ 5 by omega) x1253 c1254 (show 0 ≤ x1253.toInt by omega) (show x1253.toInt ≤ 60 by omega) x49 c1259 (show 0 ≤ x49.toInt by omega) (show x49.toInt ≤ 400 by omega) (show 3 * x49.toInt ≤ 14 * x1253.toInt + 60 by omega) (show x49.toInt ≤ 300 by omega) gb ((gd) + 1) (by omega) (by omega) (OKW_cast hO (show (gd) + 1 = (gd) + 1 by omega))) (cwV 0 hC.2.2.2.2 gX12_compare_X12_sum rfl rfl rfl (by decide +kernel) ⟨Nat.le_of_ble_eq_true rfl, Nat.le_of_ble_eq_true rfl⟩) rfl hl.1 rfl (Nat.le_of_ble_eq_true rfl) dX12_compare_155 (fun r1261 w1263 H locs hp1262 hw => ?_)
            obtain ⟨hT, k1264, hg1297⟩ := hp1262
            have hF := hF.tr k1264 (by decide)
            have c1298 := k1264.gi kM_at0 (by decide) c1257
            have c1299 := k1264.gi kM_at0 (by decide) c1258
            rcases hg1297 with ⟨rfl, ⟨x1265, c1266, rx1265, tx1265⟩, ⟨x1267, c1268, rx1267, tx1267⟩, ⟨x1269, c1270, rx1269, tx1269⟩, hq1271⟩ | ⟨rfl, ⟨x1272, c1273, rx1272, tx1272⟩, ⟨x1274, c1275, rx1274, tx1274⟩, ⟨x1276, c1277, rx1276, tx1276⟩, hq1278⟩ | ⟨rfl, ⟨x1279, c1280, rx1279, tx1279⟩, ⟨x1281, c1282, rx1281, tx1281⟩, ⟨x1283, c1284, rx1283, tx1283⟩, hq1285, g1286, g1287⟩ | ⟨rfl, ⟨x1288, c1289, rx1288, tx1288⟩, ⟨x1290, c1291, rx1290, tx1290⟩, ⟨x1292, c1293, rx1292, tx1292⟩, hq1294, g1295, g1296⟩
            · have ex1265 : x1265.toInt = x28.toInt := by rw [← c1299.symm.trans c1266]
              have ex1269 : x1269.toInt = f0_.toInt := by rw [← c1298.symm.trans c1270]
              obtain ⟨x1300, c1301, rx1300, tx1300⟩ := hT.rda (lo := 0) (hi := 400) (i := (f0_.toInt).toNat) kM_at3 rfl rfl (by omega)
              obtain ⟨x1302, c1303, rx1302, tx1302⟩ := hT.rdi (lo := 0) (hi := 60) (k := 18) kM_at0 (by decide) rfl
              have hR := hq1271
              refine lv_if_ne (tgt := 163) hx hb dX12_compare_158 (by decide) (fun c => absurd (by decide) c) (fun _ => ?_)
              refine lv_iconst (v := 0) hx hb dX12_compare_161 (by decide) ?_
              exact tk_zret hC hr rfl hlocks hK ⟨hT, hF, (Or.inl ⟨rfl, ⟨x28, c1299, (show 1 ≤ x28.toInt by omega), (show x28.toInt ≤ 400 by omega)⟩, ⟨x1267, c1268, (show 1 ≤ x1267.toInt by omega), (show x1267.toInt ≤ 3205 by omega)⟩, ⟨f0_, c1298, (show 0 ≤ f0_.toInt by omega), (show f0_.toInt ≤ 5 by omega)⟩, hR⟩)⟩ hw dX12_compare_162
            · have ex1272 : x1272.toInt = x28.toInt := by rw [← c1299.symm.trans c1273]
              have ex1276 : x1276.toInt = f0_.toInt := by rw [← c1298.symm.trans c1277]
              obtain ⟨x1304, c1305, rx1304, tx1304⟩ := hT.rda (lo := 0) (hi := 400) (i := (f0_.toInt).toNat) kM_at3 rfl rfl (by omega)
              obtain ⟨x1306, c1307, rx1306, tx1306⟩ := hT.rdi (lo := 0) (hi := 60) (k := 18) kM_at0 (by decide) rfl
              have hR := hq1278
              refine lv_if_ne (tgt := 163) hx hb dX12_compare_158 (by decide) (fun c => absurd (by decide) c) (fun _ => ?_)
              refine lv_iconst (v := 0) hx hb dX12_compare_161 (by decide) ?_
              exact tk_zret hC hr rfl hlocks hK ⟨hT, hF, (Or.inl ⟨rfl, ⟨x28, c1299, (show 1 ≤ x28.toInt by omega), (show x28.toInt ≤ 400 by omega)⟩, ⟨x1274, c1275, (show 1 ≤ x1274.toInt by omega), (show x1274.toInt ≤ 3205 by omega)⟩, ⟨f0_, c1298, (show 0 ≤ f0_.toInt by omega), (show f0_.toInt ≤ 5 by omega)⟩, hR⟩)⟩ hw dX12_compare_162
            · have ex1279 : x1279.toInt = x28.toInt := by rw [← c1299.symm.trans c1280]
              have ex1281 : x1281.toInt = f0_.toInt := by rw [← c1298.symm.trans c1282]
              obtain ⟨x1308, c1309, rx1308, tx1308⟩ := hT.rda (lo := 0) (hi := 400) (i := (f0_.toInt).toNat) kM_at3 rfl rfl (by omega)
              have g1286 : 3 * x1308.toInt + 11 ≤ 3 * x49.toInt + 14 * (x1283.toInt - x1253.toInt) := by have q := g1286; simp only [c1257, c1298, c1259, c1309, c1254, c1284] at q; omega
              have g1287 : x1253.toInt + 1 ≤ x1283.toInt := by have q := g1287; simp only [c1257, c1298, c1254, c1284] at q; omega
              have hO : OKW w1263 f0_.toInt gb (((gd) + 1) + 1) := by have q := hq1285; exact OKW_cast q (by omega)
              refine lv_if_ne (tgt := 163) hx hb dX12_compare_158 (by decide) (fun _ => ?_) (fun c => absurd c (by decide))
              refine lv_aload_n hx hb dX12_compare_163 rfl (lv_at hl 4 rfl) ?_
              refine lv_bipush (v := 6) hx hb dX12_compare_164 (by decide) ?_
              refine lv_iload hx hb dX12_compare_166 (lv_at hl 0 rfl) ?_
              refine lv_iadd hx hb dX12_compare_168 ?_
              refine wk_top 8 (by decide) ?_
              refine lv_iconst (v := 0) hx hb dX12_compare_169 (by decide) ?_
              refine tk_Vv hC hK hw hT hA hE hSR kM_at0 (by decide) rfl (k_X12_puts_1 l adK adV dC dI cy ad B (by omega) (by omega) qr s1   8 (by decide) (by decide) 0 (by decide) (by decide) w1263 H.size hT f0_ c1298 (show 0 ≤ f0_.toInt by omega) (show f0_.toInt ≤ 5 by omega) x1308 c1309 (show 0 ≤ x1308.toInt by omega) (show x1308.toInt ≤ 400 by omega) (show x1308.toInt ≤ 399 by omega)) (cwV 2 hC.2.2.2.2 gX12_compare_X12_puts rfl rfl rfl (by decide +kernel) ⟨Nat.le_of_ble_eq_true rfl, Nat.le_of_ble_eq_true rfl⟩) rfl hl.1 rfl (Nat.le_of_ble_eq_true rfl) dX12_compare_170 (fun w1314 H locs hp1313 hw => ?_)
              obtain ⟨hT, k1315, hg1320⟩ := hp1313
              have hF := hF.tr k1315 (by decide)
              have c1321 := k1315.gi kM_at0 (by decide) c1298
              have c1322 := k1315.gi kM_at0 (by decide) c1299
              have c1323 := k1315.gi kM_at0 (by decide) c1284
              obtain ⟨⟨x1316, c1317, rx1316, tx1316⟩, hq1318, g1319⟩ := hg1320
              have ex1316 : x1316.toInt = f0_.toInt := by rw [← c1321.symm.trans c1317]
              obtain ⟨x1324, c1325, rx1324, tx1324⟩ := hT.rda (lo := 0) (hi := 400) (i := (f0_.toInt).toNat) kM_at3 rfl rfl (by omega)
              have g1319 : x1324.toInt = x1308.toInt + 1 := by have q := g1319; simp only [c1298, c1321, c1309, c1325] at q; omega
              have hO : OKW w1314 f0_.toInt gb ((((gd) + 1) + 1) - 1) := OKW_put hO (by have q := hq1318; rw [c1298] at q; exact q) (by rw [c1309]; omega) (fun x hx => by simp only [(show (8 : Int32).toInt = 8 by decide), (show (0 : Int32).toInt = 0 by decide)] at hx; exact okT_bin (by omega) (by omega) (by omega) (by omega)) (by omega) (by omega)
              refine lv_iconst (v := 1) hx hb dX12_compare_173 (by decide) ?_
              exact tk_zret hC hr rfl hlocks hK ⟨hT, hF, (Or.inr (Or.inr ⟨rfl, ⟨x28, c1322, (show 1 ≤ x28.toInt by omega), (show x28.toInt ≤ 400 by omega)⟩, ⟨f0_, c1321, (show 0 ≤ f0_.toInt by omega), (show f0_.toInt ≤ 5 by omega)⟩, ⟨x1283, c1323, (show 1 ≤ x1283.toInt by omega), (show x1283.toInt ≤ 60 by omega)⟩, (OKW_cast hO (by omega)), (by simp only [c1321, cf0_, cf2_, c1325, cf1_, c1323]; omega), (by simp only [c1321, cf0_, cf1_, c1323]; omega)⟩))⟩ hw dX12_compare_174
            · have ex1288 : x1288.toInt = x28.toInt := by rw [← c1299.symm.trans c1289]
              have ex1290 : x1290.toInt = f0_.toInt := by rw [← c1298.symm.trans c1291]
              obtain ⟨x1310, c1311, rx1310, tx1310⟩ := hT.rda (lo := 0) (hi := 400) (i := (f0_.toInt).toNat) kM_at3 rfl rfl (by omega)
              have g1295 : 3 * x1310.toInt + 11 ≤ 3 * x49.toInt + 14 * (x1292.toInt - x1253.toInt) := by have q := g1295; simp only [c1257, c1298, c1259, c1311, c1254, c1293] at q; omega
              have g1296 : x1253.toInt + 1 ≤ x1292.toInt := by have q := g1296; simp only [c1257, c1298, c1254, c1293] at q; omega
              have hO : OKW w1263 f0_.toInt gb (((gd) + 1) + 1) := by have q := hq1294; exact OKW_cast q (by omega)
              refine lv_if_ne (tgt := 163) hx hb dX12_compare_158 (by decide) (fun _ => ?_) (fun c => absurd c (by decide))
              refine lv_aload_n hx hb dX12_compare_163 rfl (lv_at hl 4 rfl) ?_
              refine lv_bipush (v := 6) hx hb dX12_compare_164 (by decide) ?_
              refine lv_iload hx hb dX12_compare_166 (lv_at hl 0 rfl) ?_
              refine lv_iadd hx hb dX12_compare_168 ?_
              refine wk_top 8 (by decide) ?_
              refine lv_iconst (v := 0) hx hb dX12_compare_169 (by decide) ?_
              refine tk_Vv hC hK hw hT hA hE hSR kM_at0 (by decide) rfl (k_X12_puts_1 l adK adV dC dI cy ad B (by omega) (by omega) qr s1   8 (by decide) (by decide) 0 (by decide) (by decide) w1263 H.size hT f0_ c1298 (show 0 ≤ f0_.toInt by omega) (show f0_.toInt ≤ 5 by omega) x1310 c1311 (show 0 ≤ x1310.toInt by omega) (show x1310.toInt ≤ 400 by omega) (show x1310.toInt ≤ 399 by omega)) (cwV 2 hC.2.2.2.2 gX12_compare_X12_puts rfl rfl rfl (by decide +kernel) ⟨Nat.le_of_ble_eq_true rfl, Nat.le_of_ble_eq_true rfl⟩) rfl hl.1 rfl (Nat.le_of_ble_eq_true rfl) dX12_compare_170 (fun w1328 H locs hp1327 hw => ?_)
              obtain ⟨hT, k1329, hg1334⟩ := hp1327
              have hF := hF.tr k1329 (by decide)
              have c1335 := k1329.gi kM_at0 (by decide) c1298
              have c1336 := k1329.gi kM_at0 (by decide) c1299
              have c1337 := k1329.gi kM_at0 (by decide) c1293
              obtain ⟨⟨x1330, c1331, rx1330, tx1330⟩, hq1332, g1333⟩ := hg1334
              have ex1330 : x1330.toInt = f0_.toInt := by rw [← c1335.symm.trans c1331]
              obtain ⟨x1338, c1339, rx1338, tx1338⟩ := hT.rda (lo := 0) (hi := 400) (i := (f0_.toInt).toNat) kM_at3 rfl rfl (by omega)
              have g1333 : x1338.toInt = x1310.toInt + 1 := by have q := g1333; simp only [c1298, c1335, c1311, c1339] at q; omega
              have hO : OKW w1328 f0_.toInt gb ((((gd) + 1) + 1) - 1) := OKW_put hO (by have q := hq1332; rw [c1298] at q; exact q) (by rw [c1311]; omega) (fun x hx => by simp only [(show (8 : Int32).toInt = 8 by decide), (show (0 : Int32).toInt = 0 by decide)] at hx; exact okT_bin (by omega) (by omega) (by omega) (by omega)) (by omega) (by omega)
              refine lv_iconst (v := 1) hx hb dX12_compare_173 (by decide) ?_
              exact tk_zret hC hr rfl hlocks hK ⟨hT, hF, (Or.inr (Or.inr ⟨rfl, ⟨x28, c1336, (show 1 ≤ x28.toInt by omega), (show x28.toInt ≤ 400 by omega)⟩, ⟨f0_, c1335, (show 0 ≤ f0_.toInt by omega), (show f0_.toInt ≤ 5 by omega)⟩, ⟨x1292, c1337, (show 1 ≤ x1292.toInt by omega), (show x1292.toInt ≤ 60 by omega)⟩, (OKW_cast hO (by omega)), (by simp only [c1335, cf0_, cf2_, c1339, cf1_, c1337]; omega), (by simp only [c1335, cf0_, cf1_, c1337]; omega)⟩))⟩ hw dX12_compare_174
        · have c1234 : ¬ r880.toInt = (61 : Int) := wk_eqF c1234
          refine lv_iload_n hx hb dX12_compare_31 rfl (lv_at hl 1 rfl) ?_
          refine lv_bipush (v := 62) hx hb dX12_compare_32 (by decide) ?_
          refine lv_icmp_eq (tgt := 44) hx hb dX12_compare_34 (by decide) (fun c1340 => ?_) (fun c1340 => ?_)
          · have c1340 : r880.toInt = (62 : Int) := wk_eq.mp c1340
            refine lv_aload_n hx hb dX12_compare_44 rfl (lv_at hl 2 rfl) ?_
            refine lv_dup hx hb dX12_compare_45 rfl ?_
            refine tk_geti hC hK hw hT hinX12 kM_at0 (by decide) rfl 14 (by decide) (List.mem_of_getElem? (i := 1) rfl) rfl rfl dX12_compare_46 (fun x1341 c1342 rx1341 tx1341 => ?_)
            refine wk_top x888 (c1342.symm.trans c889) ?_
            refine lv_iconst (v := 1) hx hb dX12_compare_49 (by decide) ?_
            refine lv_iadd hx hb dX12_compare_50 ?_
            refine lv_topi (fun x1343 ex1343 => ?_)
            have ex1343 : x1343.toInt = x888.toInt + (1 : Int) := by rw [ex1343]; exact wk_add (show (-2147483648) ≤ x888.toInt + (1 : Int) by omega) (show x888.toInt + (1 : Int) ≤ 2147483647 by omega)
            refine tk_puti hC hK hw hT hinX12 tyX12_ok nmX12 kM_at0 (by decide) rfl rfl 14 (by decide) (List.mem_of_getElem? (i := 1) rfl) rfl rfl rfl rfl (show 0 ≤ x1343.toInt by omega) (show x1343.toInt ≤ 400 by omega) dX12_compare_51 (fun H locs w1344 hw hT k1346 c1345 => ?_)
            have hO := OKW_F1 k1346 (by decide) (by decide) (by decide) (by decide) hO
            have hF := hF.put kM_at0 (k := 14) (by decide) k1346
            have c1347 := k1346.gi (Or.inr (by decide)) c901
            have c1348 := k1346.gi (Or.inr (by decide)) c902
            have c1349 := k1346.gi (Or.inr (by decide)) c903
            have c1350 := k1346.gi (Or.inl (tk_ne kM_at3 kM_at0 (by decide))) c904
            refine lv_iload_n hx hb dX12_compare_54 rfl (lv_at hl 1 rfl) ?_
            refine lv_bipush (v := 61) hx hb dX12_compare_55 (by decide) ?_
            refine lv_icmp_eq (tgt := 89) hx hb dX12_compare_57 (by decide) (fun c => absurd c (fun h => absurd (show r880.toInt = (61 : Int) from wk_eq.mp h) (by omega))) (fun _ => ?_)
            refine lv_aload_n hx hb dX12_compare_60 rfl (lv_at hl 2 rfl) ?_
            refine tk_geti hC hK hw hT hinX12 kM_at0 (by decide) rfl 14 (by decide) (List.mem_of_getElem? (i := 1) rfl) rfl rfl dX12_compare_61 (fun x1351 c1352 rx1351 tx1351 => ?_)
            refine wk_top x1343 (c1352.symm.trans c1345) ?_
            refine lv_aload_n hx hb dX12_compare_64 rfl (lv_at hl 2 rfl) ?_
            refine tk_geti hC hK hw hT hinX12 kM_at0 (by decide) rfl 1 (by decide) (List.mem_of_getElem? (i := 2) rfl) rfl rfl dX12_compare_65 (fun x1353 c1354 rx1353 tx1353 => ?_)
            refine wk_top x28 (c1354.symm.trans c1348) ?_
            refine lv_icmp_ge (tgt := 89) hx hb dX12_compare_68 (by decide) (fun c1355 => ?_) (fun c1355 => ?_)
            · have c1355 : x28.toInt ≤ x1343.toInt := wk_le.mp c1355
              refine lv_iconst (v := 0) hx hb dX12_compare_89 (by decide) ?_
              refine lv_istore_n (lv' := [(3, .int 0), (2, .int x888), (1, .int r880), (0, .ref (ad 0))]) hx hb dX12_compare_90 rfl hl (by decide) rfl (fun ls hl => ?_)
              refine lv_iload_n hx hb dX12_compare_91 rfl (lv_at hl 0 rfl) ?_
              refine lv_if_eq (tgt := 105) hx hb dX12_compare_92 (by decide) (fun _ => ?_) (fun c => absurd (by decide) c)
              refine lv_aload_n hx hb dX12_compare_105 rfl (lv_at hl 3 rfl) ?_
              refine lv_iload_n hx hb dX12_compare_106 rfl (lv_at hl 1 rfl) ?_
              refine tk_Vi hC hK hw hT hA hE hSR kM_at0 (by decide) rfl (k_X12_makes_2 l adK adV dC dI cy ad B (by omega) (by omega) qr s1   x888 (show 0 ≤ x888.toInt by omega) (show x888.toInt ≤ 399 by omega) w1344 H.size hT x32 c1349 (show 0 ≤ x32.toInt by omega) (show x32.toInt ≤ 60 by omega)) (cwV 1 hC.2.2.2.2 gX12_compare_X12_makes rfl rfl rfl (by decide +kernel) ⟨Nat.le_of_ble_eq_true rfl, Nat.le_of_ble_eq_true rfl⟩) rfl hl.1 rfl (Nat.le_of_ble_eq_true rfl) dX12_compare_107 (fun r1356 w1358 H locs hp1357 hw => ?_)
              obtain ⟨hT, k1359, hg1367⟩ := hp1357
              have hO := OKW_FE k1359 (fun _ => rfl) (fun _ => rfl) (fun _ => rfl) (fun _ => rfl) hO
              have hF := hF.tr k1359 (by decide)
              have c1368 := k1359.gi kM_at0 (by decide) c1347
              have c1369 := k1359.gi kM_at0 (by decide) c1348
              have c1370 := k1359.gi kM_at3 rfl c1350
              have c1371 := k1359.gi kM_at0 (by decide) c1345
              rcases hg1367 with ⟨rfl, ⟨x1360, c1361, rx1360, tx1360⟩, ⟨x1362, c1363, rx1362, tx1362⟩⟩ | ⟨rfl, ⟨x1364, c1365, rx1364, tx1364⟩, g1366⟩
              · refine lv_if_ne (tgt := 115) hx hb dX12_compare_110 (by decide) (fun c => absurd (by decide) c) (fun _ => ?_)
                refine lv_iconst (v := 0) hx hb dX12_compare_113 (by decide) ?_
                exact tk_zret hC hr rfl hlocks hK ⟨hT, hF, (Or.inl ⟨rfl, ⟨x28, c1369, (show 1 ≤ x28.toInt by omega), (show x28.toInt ≤ 400 by omega)⟩, ⟨x1360, c1361, (show 1 ≤ x1360.toInt by omega), (show x1360.toInt ≤ 3205 by omega)⟩, ⟨f0_, c1368, (show 0 ≤ f0_.toInt by omega), (show f0_.toInt ≤ 5 by omega)⟩, hO.1⟩)⟩ hw dX12_compare_114
              · have g1366 : x1364.toInt = x32.toInt + 1 := by have q := g1366; simp only [c1347, c1368, c1349, c1365] at q; omega
                refine lv_if_ne (tgt := 115) hx hb dX12_compare_110 (by decide) (fun _ => ?_) (fun c => absurd c (by decide))
                refine lv_iload_n hx hb dX12_compare_115 rfl (lv_at hl 2 rfl) ?_
                refine lv_bipush (v := 60) hx hb dX12_compare_116 (by decide) ?_
                refine lv_icmp_ne (tgt := 133) hx hb dX12_compare_118 (by decide) (fun _ => ?_) (fun c => absurd (show r880.toInt = (60 : Int) from wk_eq.mp c) (by omega))
                refine lv_iload_n hx hb dX12_compare_133 rfl (lv_at hl 2 rfl) ?_
                refine lv_bipush (v := 61) hx hb dX12_compare_134 (by decide) ?_
                refine lv_icmp_ne (tgt := 143) hx hb dX12_compare_136 (by decide) (fun _ => ?_) (fun c => absurd (show r880.toInt = (61 : Int) from wk_eq.mp c) (by omega))
                refine lv_iload_n hx hb dX12_compare_143 rfl (lv_at hl 0 rfl) ?_
                refine lv_if_eq (tgt := 151) hx hb dX12_compare_144 (by decide) (fun _ => ?_) (fun c => absurd (by decide) c)
                refine lv_iconst (v := 4) hx hb dX12_compare_151 (by decide) ?_
                refine lv_istore (lv' := [(4, .int 4), (3, .int 0), (2, .int x888), (1, .int r880), (0, .ref (ad 0))]) hx hb dX12_compare_152 hl (by decide) rfl (fun ls hl => ?_)
                refine lv_aload_n hx hb dX12_compare_154 rfl (lv_at hl 4 rfl) ?_
                refine tk_Vi hC hK hw hT hA hE hSR kM_at0 (by decide) rfl (k_X12_sum_1 l adK adV dC dI cy ad B (by omega) (by omega) qr s1    w1358 H.size hT f0_ c1368 (show 0 ≤ f0_.toInt by omega) (show f0_.toInt ≤ 5 by omega) x1364 c1365 (show 0 ≤ x1364.toInt by omega) (show x1364.toInt ≤ 60 by omega) x49 c1370 (show 0 ≤ x49.toInt by omega) (show x49.toInt ≤ 400 by omega) (show 3 * x49.toInt ≤ 14 * x1364.toInt + 60 by omega) (show x49.toInt ≤ 300 by omega) gb ((gd) + 1) (by omega) (by omega) (OKW_cast hO (show (gd) + 1 = (gd) + 1 by omega))) (cwV 0 hC.2.2.2.2 gX12_compare_X12_sum rfl rfl rfl (by decide +kernel) ⟨Nat.le_of_ble_eq_true rfl, Nat.le_of_ble_eq_true rfl⟩) rfl hl.1 rfl (Nat.le_of_ble_eq_true rfl) dX12_compare_155 (fun r1372 w1374 H locs hp1373 hw => ?_)
                obtain ⟨hT, k1375, hg1408⟩ := hp1373
                have hF := hF.tr k1375 (by decide)
                have c1409 := k1375.gi kM_at0 (by decide) c1368
                have c1410 := k1375.gi kM_at0 (by decide) c1369
                rcases hg1408 with ⟨rfl, ⟨x1376, c1377, rx1376, tx1376⟩, ⟨x1378, c1379, rx1378, tx1378⟩, ⟨x1380, c1381, rx1380, tx1380⟩, hq1382⟩ | ⟨rfl, ⟨x1383, c1384, rx1383, tx1383⟩, ⟨x1385, c1386, rx1385, tx1385⟩, ⟨x1387, c1388, rx1387, tx1387⟩, hq1389⟩ | ⟨rfl, ⟨x1390, c1391, rx1390, tx1390⟩, ⟨x1392, c1393, rx1392, tx1392⟩, ⟨x1394, c1395, rx1394, tx1394⟩, hq1396, g1397, g1398⟩ | ⟨rfl, ⟨x1399, c1400, rx1399, tx1399⟩, ⟨x1401, c1402, rx1401, tx1401⟩, ⟨x1403, c1404, rx1403, tx1403⟩, hq1405, g1406, g1407⟩
                · have ex1376 : x1376.toInt = x28.toInt := by rw [← c1410.symm.trans c1377]
                  have ex1380 : x1380.toInt = f0_.toInt := by rw [← c1409.symm.trans c1381]
                  obtain ⟨x1411, c1412, rx1411, tx1411⟩ := hT.rda (lo := 0) (hi := 400) (i := (f0_.toInt).toNat) kM_at3 rfl rfl (by omega)
                  obtain ⟨x1413, c1414, rx1413, tx1413⟩ := hT.rdi (lo := 0) (hi := 60) (k := 18) kM_at0 (by decide) rfl
                  have hR := hq1382
                  refine lv_if_ne (tgt := 163) hx hb dX12_compare_158 (by decide) (fun c => absurd (by decide) c) (fun _ => ?_)
                  refine lv_iconst (v := 0) hx hb dX12_compare_161 (by decide) ?_
                  exact tk_zret hC hr rfl hlocks hK ⟨hT, hF, (Or.inl ⟨rfl, ⟨x28, c1410, (show 1 ≤ x28.toInt by omega), (show x28.toInt ≤ 400 by omega)⟩, ⟨x1378, c1379, (show 1 ≤ x1378.toInt by omega), (show x1378.toInt ≤ 3205 by omega)⟩, ⟨f0_, c1409, (show 0 ≤ f0_.toInt by omega), (show f0_.toInt ≤ 5 by omega)⟩, hR⟩)⟩ hw dX12_compare_162
                · have ex1383 : x1383.toInt = x28.toInt := by rw [← c1410.symm.trans c1384]
                  have ex1387 : x1387.toInt = f0_.toInt := by rw [← c1409.symm.trans c1388]
                  obtain ⟨x1415, c1416, rx1415, tx1415⟩ := hT.rda (lo := 0) (hi := 400) (i := (f0_.toInt).toNat) kM_at3 rfl rfl (by omega)
                  obtain ⟨x1417, c1418, rx1417, tx1417⟩ := hT.rdi (lo := 0) (hi := 60) (k := 18) kM_at0 (by decide) rfl
                  have hR := hq1389
                  refine lv_if_ne (tgt := 163) hx hb dX12_compare_158 (by decide) (fun c => absurd (by decide) c) (fun _ => ?_)
                  refine lv_iconst (v := 0) hx hb dX12_compare_161 (by decide) ?_
                  exact tk_zret hC hr rfl hlocks hK ⟨hT, hF, (Or.inl ⟨rfl, ⟨x28, c1410, (show 1 ≤ x28.toInt by omega), (show x28.toInt ≤ 400 by omega)⟩, ⟨x1385, c1386, (show 1 ≤ x1385.toInt by omega), (show x1385.toInt ≤ 3205 by omega)⟩, ⟨f0_, c1409, (show 0 ≤ f0_.toInt by omega), (show f0_.toInt ≤ 5 by omega)⟩, hR⟩)⟩ hw dX12_compare_162
                · have ex1390 : x1390.toInt = x28.toInt := by rw [← c1410.symm.trans c1391]
                  have ex1392 : x1392.toInt = f0_.toInt := by rw [← c1409.symm.trans c1393]
                  obtain ⟨x1419, c1420, rx1419, tx1419⟩ := hT.rda (lo := 0) (hi := 400) (i := (f0_.toInt).toNat) kM_at3 rfl rfl (by omega)
                  have g1397 : 3 * x1419.toInt + 11 ≤ 3 * x49.toInt + 14 * (x1394.toInt - x1364.toInt) := by have q := g1397; simp only [c1368, c1409, c1370, c1420, c1365, c1395] at q; omega
                  have g1398 : x1364.toInt + 1 ≤ x1394.toInt := by have q := g1398; simp only [c1368, c1409, c1365, c1395] at q; omega
                  have hO : OKW w1374 f0_.toInt gb (((gd) + 1) + 1) := by have q := hq1396; exact OKW_cast q (by omega)
                  refine lv_if_ne (tgt := 163) hx hb dX12_compare_158 (by decide) (fun _ => ?_) (fun c => absurd c (by decide))
                  refine lv_aload_n hx hb dX12_compare_163 rfl (lv_at hl 4 rfl) ?_
                  refine lv_bipush (v := 6) hx hb dX12_compare_164 (by decide) ?_
                  refine lv_iload hx hb dX12_compare_166 (lv_at hl 0 rfl) ?_
                  refine lv_iadd hx hb dX12_compare_168 ?_
                  refine wk_top 10 (by decide) ?_
                  refine lv_iconst (v := 0) hx hb dX12_compare_169 (by decide) ?_
                  refine tk_Vv hC hK hw hT hA hE hSR kM_at0 (by decide) rfl (k_X12_puts_1 l adK adV dC dI cy ad B (by omega) (by omega) qr s1   10 (by decide) (by decide) 0 (by decide) (by decide) w1374 H.size hT f0_ c1409 (show 0 ≤ f0_.toInt by omega) (show f0_.toInt ≤ 5 by omega) x1419 c1420 (show 0 ≤ x1419.toInt by omega) (show x1419.toInt ≤ 400 by omega) (show x1419.toInt ≤ 399 by omega)) (cwV 2 hC.2.2.2.2 gX12_compare_X12_puts rfl rfl rfl (by decide +kernel) ⟨Nat.le_of_ble_eq_true rfl, Nat.le_of_ble_eq_true rfl⟩) rfl hl.1 rfl (Nat.le_of_ble_eq_true rfl) dX12_compare_170 (fun w1425 H locs hp1424 hw => ?_)
                  obtain ⟨hT, k1426, hg1431⟩ := hp1424
                  have hF := hF.tr k1426 (by decide)
                  have c1432 := k1426.gi kM_at0 (by decide) c1409
                  have c1433 := k1426.gi kM_at0 (by decide) c1410
                  have c1434 := k1426.gi kM_at0 (by decide) c1395
                  obtain ⟨⟨x1427, c1428, rx1427, tx1427⟩, hq1429, g1430⟩ := hg1431
                  have ex1427 : x1427.toInt = f0_.toInt := by rw [← c1432.symm.trans c1428]
                  obtain ⟨x1435, c1436, rx1435, tx1435⟩ := hT.rda (lo := 0) (hi := 400) (i := (f0_.toInt).toNat) kM_at3 rfl rfl (by omega)
                  have g1430 : x1435.toInt = x1419.toInt + 1 := by have q := g1430; simp only [c1409, c1432, c1420, c1436] at q; omega
                  have hO : OKW w1425 f0_.toInt gb ((((gd) + 1) + 1) - 1) := OKW_put hO (by have q := hq1429; rw [c1409] at q; exact q) (by rw [c1420]; omega) (fun x hx => by simp only [(show (10 : Int32).toInt = 10 by decide), (show (0 : Int32).toInt = 0 by decide)] at hx; exact okT_bin (by omega) (by omega) (by omega) (by omega)) (by omega) (by omega)
                  refine lv_iconst (v := 1) hx hb dX12_compare_173 (by decide) ?_
                  exact tk_zret hC hr rfl hlocks hK ⟨hT, hF, (Or.inr (Or.inr ⟨rfl, ⟨x28, c1433, (show 1 ≤ x28.toInt by omega), (show x28.toInt ≤ 400 by omega)⟩, ⟨f0_, c1432, (show 0 ≤ f0_.toInt by omega), (show f0_.toInt ≤ 5 by omega)⟩, ⟨x1394, c1434, (show 1 ≤ x1394.toInt by omega), (show x1394.toInt ≤ 60 by omega)⟩, (OKW_cast hO (by omega)), (by simp only [c1432, cf0_, cf2_, c1436, cf1_, c1434]; omega), (by simp only [c1432, cf0_, cf1_, c1434]; omega)⟩))⟩ hw dX12_compare_174
                · have ex1399 : x1399.toInt = x28.toInt := by rw [← c1410.symm.trans c1400]
                  have ex1401 : x1401.toInt = f0_.toInt := by rw [← c1409.symm.trans c1402]
                  obtain ⟨x1421, c1422, rx1421, tx1421⟩ := hT.rda (lo := 0) (hi := 400) (i := (f0_.toInt).toNat) kM_at3 rfl rfl (by omega)
                  have g1406 : 3 * x1421.toInt + 11 ≤ 3 * x49.toInt + 14 * (x1403.toInt - x1364.toInt) := by have q := g1406; simp only [c1368, c1409, c1370, c1422, c1365, c1404] at q; omega
                  have g1407 : x1364.toInt + 1 ≤ x1403.toInt := by have q := g1407; simp only [c1368, c1409, c1365, c1404] at q; omega
                  have hO : OKW w1374 f0_.toInt gb (((gd) + 1) + 1) := by have q := hq1405; exact OKW_cast q (by omega)
                  refine lv_if_ne (tgt := 163) hx hb dX12_compare_158 (by decide) (fun _ => ?_) (fun c => absurd c (by decide))
                  refine lv_aload_n hx hb dX12_compare_163 rfl (lv_at hl 4 rfl) ?_
                  refine lv_bipush (v := 6) hx hb dX12_compare_164 (by decide) ?_
                  refine lv_iload hx hb dX12_compare_166 (lv_at hl 0 rfl) ?_
                  refine lv_iadd hx hb dX12_compare_168 ?_
                  refine wk_top 10 (by decide) ?_
                  refine lv_iconst (v := 0) hx hb dX12_compare_169 (by decide) ?_
                  refine tk_Vv hC hK hw hT hA hE hSR kM_at0 (by decide) rfl (k_X12_puts_1 l adK adV dC dI cy ad B (by omega) (by omega) qr s1   10 (by decide) (by decide) 0 (by decide) (by decide) w1374 H.size hT f0_ c1409 (show 0 ≤ f0_.toInt by omega) (show f0_.toInt ≤ 5 by omega) x1421 c1422 (show 0 ≤ x1421.toInt by omega) (show x1421.toInt ≤ 400 by omega) (show x1421.toInt ≤ 399 by omega)) (cwV 2 hC.2.2.2.2 gX12_compare_X12_puts rfl rfl rfl (by decide +kernel) ⟨Nat.le_of_ble_eq_true rfl, Nat.le_of_ble_eq_true rfl⟩) rfl hl.1 rfl (Nat.le_of_ble_eq_true rfl) dX12_compare_170 (fun w1439 H locs hp1438 hw => ?_)
                  obtain ⟨hT, k1440, hg1445⟩ := hp1438
                  have hF := hF.tr k1440 (by decide)
                  have c1446 := k1440.gi kM_at0 (by decide) c1409
                  have c1447 := k1440.gi kM_at0 (by decide) c1410
                  have c1448 := k1440.gi kM_at0 (by decide) c1404
                  obtain ⟨⟨x1441, c1442, rx1441, tx1441⟩, hq1443, g1444⟩ := hg1445
                  have ex1441 : x1441.toInt = f0_.toInt := by rw [← c1446.symm.trans c1442]
                  obtain ⟨x1449, c1450, rx1449, tx1449⟩ := hT.rda (lo := 0) (hi := 400) (i := (f0_.toInt).toNat) kM_at3 rfl rfl (by omega)
                  have g1444 : x1449.toInt = x1421.toInt + 1 := by have q := g1444; simp only [c1409, c1446, c1422, c1450] at q; omega
                  have hO : OKW w1439 f0_.toInt gb ((((gd) + 1) + 1) - 1) := OKW_put hO (by have q := hq1443; rw [c1409] at q; exact q) (by rw [c1422]; omega) (fun x hx => by simp only [(show (10 : Int32).toInt = 10 by decide), (show (0 : Int32).toInt = 0 by decide)] at hx; exact okT_bin (by omega) (by omega) (by omega) (by omega)) (by omega) (by omega)
                  refine lv_iconst (v := 1) hx hb dX12_compare_173 (by decide) ?_
                  exact tk_zret hC hr rfl hlocks hK ⟨hT, hF, (Or.inr (Or.inr ⟨rfl, ⟨x28, c1447, (show 1 ≤ x28.toInt by omega), (show x28.toInt ≤ 400 by omega)⟩, ⟨f0_, c1446, (show 0 ≤ f0_.toInt by omega), (show f0_.toInt ≤ 5 by omega)⟩, ⟨x1403, c1448, (show 1 ≤ x1403.toInt by omega), (show x1403.toInt ≤ 60 by omega)⟩, (OKW_cast hO (by omega)), (by simp only [c1446, cf0_, cf2_, c1450, cf1_, c1448]; omega), (by simp only [c1446, cf0_, cf1_, c1448]; omega)⟩))⟩ hw dX12_compare_174
            · have c1355 : x1343.toInt < x28.toInt := wk_leF c1355
              refine lv_aload_n hx hb dX12_compare_71 rfl (lv_at hl 2 rfl) ?_
              refine tk_getA hC hK hw hT hinX12 kM_at0 (by decide) rfl 0 (by decide) (List.mem_of_getElem? (i := 3) rfl) rfl rfl dX12_compare_72 ?_
              refine lv_aload_n hx hb dX12_compare_75 rfl (lv_at hl 2 rfl) ?_
              refine tk_geti hC hK hw hT hinX12 kM_at0 (by decide) rfl 14 (by decide) (List.mem_of_getElem? (i := 1) rfl) rfl rfl dX12_compare_76 (fun x1451 c1452 rx1451 tx1451 => ?_)
              refine wk_top x1343 (c1452.symm.trans c1345) ?_
              refine tk_bald hC hK hw hT kM_at1 rfl rfl (show 0 ≤ x1343.toInt by omega) (show x1343.toInt < 400 by omega) dX12_compare_79 (fun x1453 c1454 rx1453 tx1453 => ?_)
              have c1454 : gi w1344 1 (1 * x888.toInt + 1).toNat = x1453 := (congrArg (gi w1344 1) (congrArg Int.toNat (show 1 * x888.toInt + 1 = x1343.toInt by omega))).trans c1454
              refine lv_bipush (v := 61) hx hb dX12_compare_80 (by decide) ?_
              refine lv_icmp_ne (tgt := 89) hx hb dX12_compare_82 (by decide) (fun c1455 => ?_) (fun c1455 => ?_)
              · have c1455 : ¬ x1453.toInt = (61 : Int) := wk_eqF c1455
                refine lv_iconst (v := 0) hx hb dX12_compare_89 (by decide) ?_
                refine lv_istore_n (lv' := [(3, .int 0), (2, .int x888), (1, .int r880), (0, .ref (ad 0))]) hx hb dX12_compare_90 rfl hl (by decide) rfl (fun ls hl => ?_)
                refine lv_iload_n hx hb dX12_compare_91 rfl (lv_at hl 0 rfl) ?_
                refine lv_if_eq (tgt := 105) hx hb dX12_compare_92 (by decide) (fun _ => ?_) (fun c => absurd (by decide) c)
                refine lv_aload_n hx hb dX12_compare_105 rfl (lv_at hl 3 rfl) ?_
                refine lv_iload_n hx hb dX12_compare_106 rfl (lv_at hl 1 rfl) ?_
                refine tk_Vi hC hK hw hT hA hE hSR kM_at0 (by decide) rfl (k_X12_makes_1 l adK adV dC dI cy ad B (by omega) (by omega) qr s1   x888 (show 0 ≤ x888.toInt by omega) (show x888.toInt ≤ 398 by omega) w1344 H.size hT x32 c1349 (show 0 ≤ x32.toInt by omega) (show x32.toInt ≤ 60 by omega)) (cwV 1 hC.2.2.2.2 gX12_compare_X12_makes rfl rfl rfl (by decide +kernel) ⟨Nat.le_of_ble_eq_true rfl, Nat.le_of_ble_eq_true rfl⟩) rfl hl.1 rfl (Nat.le_of_ble_eq_true rfl) dX12_compare_107 (fun r1456 w1458 H locs hp1457 hw => ?_)
                obtain ⟨hT, k1459, hg1467⟩ := hp1457
                have hO := OKW_FE k1459 (fun _ => rfl) (fun _ => rfl) (fun _ => rfl) (fun _ => rfl) hO
                have hF := hF.tr k1459 (by decide)
                have c1468 := k1459.gi kM_at0 (by decide) c1347
                have c1469 := k1459.gi kM_at0 (by decide) c1348
                have c1470 := k1459.gi kM_at3 rfl c1350
                have c1471 := k1459.gi kM_at0 (by decide) c1345
                have c1472 := k1459.gi kM_at1 rfl c1454
                rcases hg1467 with ⟨rfl, ⟨x1460, c1461, rx1460, tx1460⟩, ⟨x1462, c1463, rx1462, tx1462⟩⟩ | ⟨rfl, ⟨x1464, c1465, rx1464, tx1464⟩, g1466⟩
                · refine lv_if_ne (tgt := 115) hx hb dX12_compare_110 (by decide) (fun c => absurd (by decide) c) (fun _ => ?_)
                  refine lv_iconst (v := 0) hx hb dX12_compare_113 (by decide) ?_
                  exact tk_zret hC hr rfl hlocks hK ⟨hT, hF, (Or.inl ⟨rfl, ⟨x28, c1469, (show 1 ≤ x28.toInt by omega), (show x28.toInt ≤ 400 by omega)⟩, ⟨x1460, c1461, (show 1 ≤ x1460.toInt by omega), (show x1460.toInt ≤ 3205 by omega)⟩, ⟨f0_, c1468, (show 0 ≤ f0_.toInt by omega), (show f0_.toInt ≤ 5 by omega)⟩, hO.1⟩)⟩ hw dX12_compare_114
                · have g1466 : x1464.toInt = x32.toInt + 1 := by have q := g1466; simp only [c1347, c1468, c1349, c1465] at q; omega
                  refine lv_if_ne (tgt := 115) hx hb dX12_compare_110 (by decide) (fun _ => ?_) (fun c => absurd c (by decide))
                  refine lv_iload_n hx hb dX12_compare_115 rfl (lv_at hl 2 rfl) ?_
                  refine lv_bipush (v := 60) hx hb dX12_compare_116 (by decide) ?_
                  refine lv_icmp_ne (tgt := 133) hx hb dX12_compare_118 (by decide) (fun _ => ?_) (fun c => absurd (show r880.toInt = (60 : Int) from wk_eq.mp c) (by omega))
                  refine lv_iload_n hx hb dX12_compare_133 rfl (lv_at hl 2 rfl) ?_
                  refine lv_bipush (v := 61) hx hb dX12_compare_134 (by decide) ?_
                  refine lv_icmp_ne (tgt := 143) hx hb dX12_compare_136 (by decide) (fun _ => ?_) (fun c => absurd (show r880.toInt = (61 : Int) from wk_eq.mp c) (by omega))
                  refine lv_iload_n hx hb dX12_compare_143 rfl (lv_at hl 0 rfl) ?_
                  refine lv_if_eq (tgt := 151) hx hb dX12_compare_144 (by decide) (fun _ => ?_) (fun c => absurd (by decide) c)
                  refine lv_iconst (v := 4) hx hb dX12_compare_151 (by decide) ?_
                  refine lv_istore (lv' := [(4, .int 4), (3, .int 0), (2, .int x888), (1, .int r880), (0, .ref (ad 0))]) hx hb dX12_compare_152 hl (by decide) rfl (fun ls hl => ?_)
                  refine lv_aload_n hx hb dX12_compare_154 rfl (lv_at hl 4 rfl) ?_
                  refine tk_Vi hC hK hw hT hA hE hSR kM_at0 (by decide) rfl (k_X12_sum_1 l adK adV dC dI cy ad B (by omega) (by omega) qr s1    w1458 H.size hT f0_ c1468 (show 0 ≤ f0_.toInt by omega) (show f0_.toInt ≤ 5 by omega) x1464 c1465 (show 0 ≤ x1464.toInt by omega) (show x1464.toInt ≤ 60 by omega) x49 c1470 (show 0 ≤ x49.toInt by omega) (show x49.toInt ≤ 400 by omega) (show 3 * x49.toInt ≤ 14 * x1464.toInt + 60 by omega) (show x49.toInt ≤ 300 by omega) gb ((gd) + 1) (by omega) (by omega) (OKW_cast hO (show (gd) + 1 = (gd) + 1 by omega))) (cwV 0 hC.2.2.2.2 gX12_compare_X12_sum rfl rfl rfl (by decide +kernel) ⟨Nat.le_of_ble_eq_true rfl, Nat.le_of_ble_eq_true rfl⟩) rfl hl.1 rfl (Nat.le_of_ble_eq_true rfl) dX12_compare_155 (fun r1473 w1475 H locs hp1474 hw => ?_)
                  obtain ⟨hT, k1476, hg1509⟩ := hp1474
                  have hF := hF.tr k1476 (by decide)
                  have c1510 := k1476.gi kM_at0 (by decide) c1468
                  have c1511 := k1476.gi kM_at0 (by decide) c1469
                  have c1512 := k1476.gi kM_at1 rfl c1472
                  rcases hg1509 with ⟨rfl, ⟨x1477, c1478, rx1477, tx1477⟩, ⟨x1479, c1480, rx1479, tx1479⟩, ⟨x1481, c1482, rx1481, tx1481⟩, hq1483⟩ | ⟨rfl, ⟨x1484, c1485, rx1484, tx1484⟩, ⟨x1486, c1487, rx1486, tx1486⟩, ⟨x1488, c1489, rx1488, tx1488⟩, hq1490⟩ | ⟨rfl, ⟨x1491, c1492, rx1491, tx1491⟩, ⟨x1493, c1494, rx1493, tx1493⟩, ⟨x1495, c1496, rx1495, tx1495⟩, hq1497, g1498, g1499⟩ | ⟨rfl, ⟨x1500, c1501, rx1500, tx1500⟩, ⟨x1502, c1503, rx1502, tx1502⟩, ⟨x1504, c1505, rx1504, tx1504⟩, hq1506, g1507, g1508⟩
                  · have ex1477 : x1477.toInt = x28.toInt := by rw [← c1511.symm.trans c1478]
                    have ex1481 : x1481.toInt = f0_.toInt := by rw [← c1510.symm.trans c1482]
                    obtain ⟨x1513, c1514, rx1513, tx1513⟩ := hT.rda (lo := 0) (hi := 400) (i := (f0_.toInt).toNat) kM_at3 rfl rfl (by omega)
                    obtain ⟨x1515, c1516, rx1515, tx1515⟩ := hT.rdi (lo := 0) (hi := 60) (k := 18) kM_at0 (by decide) rfl
                    have hR := hq1483
                    refine lv_if_ne (tgt := 163) hx hb dX12_compare_158 (by decide) (fun c => absurd (by decide) c) (fun _ => ?_)
                    refine lv_iconst (v := 0) hx hb dX12_compare_161 (by decide) ?_
                    exact tk_zret hC hr rfl hlocks hK ⟨hT, hF, (Or.inl ⟨rfl, ⟨x28, c1511, (show 1 ≤ x28.toInt by omega), (show x28.toInt ≤ 400 by omega)⟩, ⟨x1479, c1480, (show 1 ≤ x1479.toInt by omega), (show x1479.toInt ≤ 3205 by omega)⟩, ⟨f0_, c1510, (show 0 ≤ f0_.toInt by omega), (show f0_.toInt ≤ 5 by omega)⟩, hR⟩)⟩ hw dX12_compare_162
                  · have ex1484 : x1484.toInt = x28.toInt := by rw [← c1511.symm.trans c1485]
                    have ex1488 : x1488.toInt = f0_.toInt := by rw [← c1510.symm.trans c1489]
                    obtain ⟨x1517, c1518, rx1517, tx1517⟩ := hT.rda (lo := 0) (hi := 400) (i := (f0_.toInt).toNat) kM_at3 rfl rfl (by omega)
                    obtain ⟨x1519, c1520, rx1519, tx1519⟩ := hT.rdi (lo := 0) (hi := 60) (k := 18) kM_at0 (by decide) rfl
                    have hR := hq1490
                    refine lv_if_ne (tgt := 163) hx hb dX12_compare_158 (by decide) (fun c => absurd (by decide) c) (fun _ => ?_)
                    refine lv_iconst (v := 0) hx hb dX12_compare_161 (by decide) ?_
                    exact tk_zret hC hr rfl hlocks hK ⟨hT, hF, (Or.inl ⟨rfl, ⟨x28, c1511, (show 1 ≤ x28.toInt by omega), (show x28.toInt ≤ 400 by omega)⟩, ⟨x1486, c1487, (show 1 ≤ x1486.toInt by omega), (show x1486.toInt ≤ 3205 by omega)⟩, ⟨f0_, c1510, (show 0 ≤ f0_.toInt by omega), (show f0_.toInt ≤ 5 by omega)⟩, hR⟩)⟩ hw dX12_compare_162
                  · have ex1491 : x1491.toInt = x28.toInt := by rw [← c1511.symm.trans c1492]
                    have ex1493 : x1493.toInt = f0_.toInt := by rw [← c1510.symm.trans c1494]
                    obtain ⟨x1521, c1522, rx1521, tx1521⟩ := hT.rda (lo := 0) (hi := 400) (i := (f0_.toInt).toNat) kM_at3 rfl rfl (by omega)
                    have g1498 : 3 * x1521.toInt + 11 ≤ 3 * x49.toInt + 14 * (x1495.toInt - x1464.toInt) := by have q := g1498; simp only [c1468, c1510, c1470, c1522, c1465, c1496] at q; omega
                    have g1499 : x1464.toInt + 1 ≤ x1495.toInt := by have q := g1499; simp only [c1468, c1510, c1465, c1496] at q; omega
                    have hO : OKW w1475 f0_.toInt gb (((gd) + 1) + 1) := by have q := hq1497; exact OKW_cast q (by omega)
                    refine lv_if_ne (tgt := 163) hx hb dX12_compare_158 (by decide) (fun _ => ?_) (fun c => absurd c (by decide))
                    refine lv_aload_n hx hb dX12_compare_163 rfl (lv_at hl 4 rfl) ?_
                    refine lv_bipush (v := 6) hx hb dX12_compare_164 (by decide) ?_
                    refine lv_iload hx hb dX12_compare_166 (lv_at hl 0 rfl) ?_
                    refine lv_iadd hx hb dX12_compare_168 ?_
                    refine wk_top 10 (by decide) ?_
                    refine lv_iconst (v := 0) hx hb dX12_compare_169 (by decide) ?_
                    refine tk_Vv hC hK hw hT hA hE hSR kM_at0 (by decide) rfl (k_X12_puts_1 l adK adV dC dI cy ad B (by omega) (by omega) qr s1   10 (by decide) (by decide) 0 (by decide) (by decide) w1475 H.size hT f0_ c1510 (show 0 ≤ f0_.toInt by omega) (show f0_.toInt ≤ 5 by omega) x1521 c1522 (show 0 ≤ x1521.toInt by omega) (show x1521.toInt ≤ 400 by omega) (show x1521.toInt ≤ 399 by omega)) (cwV 2 hC.2.2.2.2 gX12_compare_X12_puts rfl rfl rfl (by decide +kernel) ⟨Nat.le_of_ble_eq_true rfl, Nat.le_of_ble_eq_true rfl⟩) rfl hl.1 rfl (Nat.le_of_ble_eq_true rfl) dX12_compare_170 (fun w1527 H locs hp1526 hw => ?_)
                    obtain ⟨hT, k1528, hg1533⟩ := hp1526
                    have hF := hF.tr k1528 (by decide)
                    have c1534 := k1528.gi kM_at0 (by decide) c1510
                    have c1535 := k1528.gi kM_at0 (by decide) c1511
                    have c1536 := k1528.gi kM_at1 rfl c1512
                    have c1537 := k1528.gi kM_at0 (by decide) c1496
                    obtain ⟨⟨x1529, c1530, rx1529, tx1529⟩, hq1531, g1532⟩ := hg1533
                    have ex1529 : x1529.toInt = f0_.toInt := by rw [← c1534.symm.trans c1530]
                    obtain ⟨x1538, c1539, rx1538, tx1538⟩ := hT.rda (lo := 0) (hi := 400) (i := (f0_.toInt).toNat) kM_at3 rfl rfl (by omega)
                    have g1532 : x1538.toInt = x1521.toInt + 1 := by have q := g1532; simp only [c1510, c1534, c1522, c1539] at q; omega
                    have hO : OKW w1527 f0_.toInt gb ((((gd) + 1) + 1) - 1) := OKW_put hO (by have q := hq1531; rw [c1510] at q; exact q) (by rw [c1522]; omega) (fun x hx => by simp only [(show (10 : Int32).toInt = 10 by decide), (show (0 : Int32).toInt = 0 by decide)] at hx; exact okT_bin (by omega) (by omega) (by omega) (by omega)) (by omega) (by omega)
                    refine lv_iconst (v := 1) hx hb dX12_compare_173 (by decide) ?_
                    exact tk_zret hC hr rfl hlocks hK ⟨hT, hF, (Or.inr (Or.inr ⟨rfl, ⟨x28, c1535, (show 1 ≤ x28.toInt by omega), (show x28.toInt ≤ 400 by omega)⟩, ⟨f0_, c1534, (show 0 ≤ f0_.toInt by omega), (show f0_.toInt ≤ 5 by omega)⟩, ⟨x1495, c1537, (show 1 ≤ x1495.toInt by omega), (show x1495.toInt ≤ 60 by omega)⟩, (OKW_cast hO (by omega)), (by simp only [c1534, cf0_, cf2_, c1539, cf1_, c1537]; omega), (by simp only [c1534, cf0_, cf1_, c1537]; omega)⟩))⟩ hw dX12_compare_174
                  · have ex1500 : x1500.toInt = x28.toInt := by rw [← c1511.symm.trans c1501]
                    have ex1502 : x1502.toInt = f0_.toInt := by rw [← c1510.symm.trans c1503]
                    obtain ⟨x1523, c1524, rx1523, tx1523⟩ := hT.rda (lo := 0) (hi := 400) (i := (f0_.toInt).toNat) kM_at3 rfl rfl (by omega)
                    have g1507 : 3 * x1523.toInt + 11 ≤ 3 * x49.toInt + 14 * (x1504.toInt - x1464.toInt) := by have q := g1507; simp only [c1468, c1510, c1470, c1524, c1465, c1505] at q; omega
                    have g1508 : x1464.toInt + 1 ≤ x1504.toInt := by have q := g1508; simp only [c1468, c1510, c1465, c1505] at q; omega
                    have hO : OKW w1475 f0_.toInt gb (((gd) + 1) + 1) := by have q := hq1506; exact OKW_cast q (by omega)
                    refine lv_if_ne (tgt := 163) hx hb dX12_compare_158 (by decide) (fun _ => ?_) (fun c => absurd c (by decide))
                    refine lv_aload_n hx hb dX12_compare_163 rfl (lv_at hl 4 rfl) ?_
                    refine lv_bipush (v := 6) hx hb dX12_compare_164 (by decide) ?_
                    refine lv_iload hx hb dX12_compare_166 (lv_at hl 0 rfl) ?_
                    refine lv_iadd hx hb dX12_compare_168 ?_
                    refine wk_top 10 (by decide) ?_
                    refine lv_iconst (v := 0) hx hb dX12_compare_169 (by decide) ?_
                    refine tk_Vv hC hK hw hT hA hE hSR kM_at0 (by decide) rfl (k_X12_puts_1 l adK adV dC dI cy ad B (by omega) (by omega) qr s1   10 (by decide) (by decide) 0 (by decide) (by decide) w1475 H.size hT f0_ c1510 (show 0 ≤ f0_.toInt by omega) (show f0_.toInt ≤ 5 by omega) x1523 c1524 (show 0 ≤ x1523.toInt by omega) (show x1523.toInt ≤ 400 by omega) (show x1523.toInt ≤ 399 by omega)) (cwV 2 hC.2.2.2.2 gX12_compare_X12_puts rfl rfl rfl (by decide +kernel) ⟨Nat.le_of_ble_eq_true rfl, Nat.le_of_ble_eq_true rfl⟩) rfl hl.1 rfl (Nat.le_of_ble_eq_true rfl) dX12_compare_170 (fun w1542 H locs hp1541 hw => ?_)
                    obtain ⟨hT, k1543, hg1548⟩ := hp1541
                    have hF := hF.tr k1543 (by decide)
                    have c1549 := k1543.gi kM_at0 (by decide) c1510
                    have c1550 := k1543.gi kM_at0 (by decide) c1511
                    have c1551 := k1543.gi kM_at1 rfl c1512
                    have c1552 := k1543.gi kM_at0 (by decide) c1505
                    obtain ⟨⟨x1544, c1545, rx1544, tx1544⟩, hq1546, g1547⟩ := hg1548
                    have ex1544 : x1544.toInt = f0_.toInt := by rw [← c1549.symm.trans c1545]
                    obtain ⟨x1553, c1554, rx1553, tx1553⟩ := hT.rda (lo := 0) (hi := 400) (i := (f0_.toInt).toNat) kM_at3 rfl rfl (by omega)
                    have g1547 : x1553.toInt = x1523.toInt + 1 := by have q := g1547; simp only [c1510, c1549, c1524, c1554] at q; omega
                    have hO : OKW w1542 f0_.toInt gb ((((gd) + 1) + 1) - 1) := OKW_put hO (by have q := hq1546; rw [c1510] at q; exact q) (by rw [c1524]; omega) (fun x hx => by simp only [(show (10 : Int32).toInt = 10 by decide), (show (0 : Int32).toInt = 0 by decide)] at hx; exact okT_bin (by omega) (by omega) (by omega) (by omega)) (by omega) (by omega)
                    refine lv_iconst (v := 1) hx hb dX12_compare_173 (by decide) ?_
                    exact tk_zret hC hr rfl hlocks hK ⟨hT, hF, (Or.inr (Or.inr ⟨rfl, ⟨x28, c1550, (show 1 ≤ x28.toInt by omega), (show x28.toInt ≤ 400 by omega)⟩, ⟨f0_, c1549, (show 0 ≤ f0_.toInt by omega), (show f0_.toInt ≤ 5 by omega)⟩, ⟨x1504, c1552, (show 1 ≤ x1504.toInt by omega), (show x1504.toInt ≤ 60 by omega)⟩, (OKW_cast hO (by omega)), (by simp only [c1549, cf0_, cf2_, c1554, cf1_, c1552]; omega), (by simp only [c1549, cf0_, cf1_, c1552]; omega)⟩))⟩ hw dX12_compare_174
              · have c1455 : x1453.toInt = (61 : Int) := wk_eq.mp c1455
                refine lv_iconst (v := 1) hx hb dX12_compare_85 (by decide) ?_
                refine lv_goto (tgt := 90) hx hb dX12_compare_86 (by decide) ?_
                refine lv_istore_n (lv' := [(3, .int 1), (2, .int x888), (1, .int r880), (0, .ref (ad 0))]) hx hb dX12_compare_90 rfl hl (by decide) rfl (fun ls hl => ?_)
                refine lv_iload_n hx hb dX12_compare_91 rfl (lv_at hl 0 rfl) ?_
                refine lv_if_eq (tgt := 105) hx hb dX12_compare_92 (by decide) (fun c => absurd c (by decide)) (fun _ => ?_)
                refine lv_aload_n hx hb dX12_compare_95 rfl (lv_at hl 3 rfl) ?_
                refine lv_dup hx hb dX12_compare_96 rfl ?_
                refine tk_geti hC hK hw hT hinX12 kM_at0 (by decide) rfl 14 (by decide) (List.mem_of_getElem? (i := 1) rfl) rfl rfl dX12_compare_97 (fun x1555 c1556 rx1555 tx1555 => ?_)
                refine wk_top x1343 (c1556.symm.trans c1345) ?_
                refine lv_iconst (v := 1) hx hb dX12_compare_100 (by decide) ?_
                refine lv_iadd hx hb dX12_compare_101 ?_
                refine lv_topi (fun x1557 ex1557 => ?_)
                have ex1557 : x1557.toInt = x1343.toInt + (1 : Int) := by rw [ex1557]; exact wk_add (show (-2147483648) ≤ x1343.toInt + (1 : Int) by omega) (show x1343.toInt + (1 : Int) ≤ 2147483647 by omega)
                refine tk_puti hC hK hw hT hinX12 tyX12_ok nmX12 kM_at0 (by decide) rfl rfl 14 (by decide) (List.mem_of_getElem? (i := 1) rfl) rfl rfl rfl rfl (show 0 ≤ x1557.toInt by omega) (show x1557.toInt ≤ 400 by omega) dX12_compare_102 (fun H locs w1558 hw hT k1560 c1559 => ?_)
                have hO := OKW_F1 k1560 (by decide) (by decide) (by decide) (by decide) hO
                have hF := hF.put kM_at0 (k := 14) (by decide) k1560
                have c1561 := k1560.gi (Or.inr (by decide)) c1347
                have c1562 := k1560.gi (Or.inr (by decide)) c1348
                have c1563 := k1560.gi (Or.inr (by decide)) c1349
                have c1564 := k1560.gi (Or.inl (tk_ne kM_at3 kM_at0 (by decide))) c1350
                have c1565 := k1560.gi (Or.inl (tk_ne kM_at1 kM_at0 (by decide))) c1454
                refine lv_aload_n hx hb dX12_compare_105 rfl (lv_at hl 3 rfl) ?_
                refine lv_iload_n hx hb dX12_compare_106 rfl (lv_at hl 1 rfl) ?_
                refine tk_Vi hC hK hw hT hA hE hSR kM_at0 (by decide) rfl (k_X12_makes_1 l adK adV dC dI cy ad B (by omega) (by omega) qr s1   x888 (show 0 ≤ x888.toInt by omega) (show x888.toInt ≤ 398 by omega) w1558 H.size hT x32 c1563 (show 0 ≤ x32.toInt by omega) (show x32.toInt ≤ 60 by omega)) (cwV 1 hC.2.2.2.2 gX12_compare_X12_makes rfl rfl rfl (by decide +kernel) ⟨Nat.le_of_ble_eq_true rfl, Nat.le_of_ble_eq_true rfl⟩) rfl hl.1 rfl (Nat.le_of_ble_eq_true rfl) dX12_compare_107 (fun r1566 w1568 H locs hp1567 hw => ?_)
                obtain ⟨hT, k1569, hg1577⟩ := hp1567
                have hO := OKW_FE k1569 (fun _ => rfl) (fun _ => rfl) (fun _ => rfl) (fun _ => rfl) hO
                have hF := hF.tr k1569 (by decide)
                have c1578 := k1569.gi kM_at0 (by decide) c1561
                have c1579 := k1569.gi kM_at0 (by decide) c1562
                have c1580 := k1569.gi kM_at3 rfl c1564
                have c1581 := k1569.gi kM_at1 rfl c1565
                have c1582 := k1569.gi kM_at0 (by decide) c1559
                rcases hg1577 with ⟨rfl, ⟨x1570, c1571, rx1570, tx1570⟩, ⟨x1572, c1573, rx1572, tx1572⟩⟩ | ⟨rfl, ⟨x1574, c1575, rx1574, tx1574⟩, g1576⟩
                · refine lv_if_ne (tgt := 115) hx hb dX12_compare_110 (by decide) (fun c => absurd (by decide) c) (fun _ => ?_)
                  refine lv_iconst (v := 0) hx hb dX12_compare_113 (by decide) ?_
                  exact tk_zret hC hr rfl hlocks hK ⟨hT, hF, (Or.inl ⟨rfl, ⟨x28, c1579, (show 1 ≤ x28.toInt by omega), (show x28.toInt ≤ 400 by omega)⟩, ⟨x1570, c1571, (show 1 ≤ x1570.toInt by omega), (show x1570.toInt ≤ 3205 by omega)⟩, ⟨f0_, c1578, (show 0 ≤ f0_.toInt by omega), (show f0_.toInt ≤ 5 by omega)⟩, hO.1⟩)⟩ hw dX12_compare_114
                · have g1576 : x1574.toInt = x32.toInt + 1 := by have q := g1576; simp only [c1561, c1578, c1563, c1575] at q; omega
                  refine lv_if_ne (tgt := 115) hx hb dX12_compare_110 (by decide) (fun _ => ?_) (fun c => absurd c (by decide))
                  refine lv_iload_n hx hb dX12_compare_115 rfl (lv_at hl 2 rfl) ?_
                  refine lv_bipush (v := 60) hx hb dX12_compare_116 (by decide) ?_
                  refine lv_icmp_ne (tgt := 133) hx hb dX12_compare_118 (by decide) (fun _ => ?_) (fun c => absurd (show r880.toInt = (60 : Int) from wk_eq.mp c) (by omega))
                  refine lv_iload_n hx hb dX12_compare_133 rfl (lv_at hl 2 rfl) ?_
                  refine lv_bipush (v := 61) hx hb dX12_compare_134 (by decide) ?_
                  refine lv_icmp_ne (tgt := 143) hx hb dX12_compare_136 (by decide) (fun _ => ?_) (fun c => absurd (show r880.toInt = (61 : Int) from wk_eq.mp c) (by omega))
                  refine lv_iload_n hx hb dX12_compare_143 rfl (lv_at hl 0 rfl) ?_
                  refine lv_if_eq (tgt := 151) hx hb dX12_compare_144 (by decide) (fun c => absurd c (by decide)) (fun _ => ?_)
                  refine lv_iconst (v := 3) hx hb dX12_compare_147 (by decide) ?_
                  refine lv_goto (tgt := 152) hx hb dX12_compare_148 (by decide) ?_
                  refine lv_istore (lv' := [(4, .int 3), (3, .int 1), (2, .int x888), (1, .int r880), (0, .ref (ad 0))]) hx hb dX12_compare_152 hl (by decide) rfl (fun ls hl => ?_)
                  refine lv_aload_n hx hb dX12_compare_154 rfl (lv_at hl 4 rfl) ?_
                  refine tk_Vi hC hK hw hT hA hE hSR kM_at0 (by decide) rfl (k_X12_sum_1 l adK adV dC dI cy ad B (by omega) (by omega) qr s1    w1568 H.size hT f0_ c1578 (show 0 ≤ f0_.toInt by omega) (show f0_.toInt ≤ 5 by omega) x1574 c1575 (show 0 ≤ x1574.toInt by omega) (show x1574.toInt ≤ 60 by omega) x49 c1580 (show 0 ≤ x49.toInt by omega) (show x49.toInt ≤ 400 by omega) (show 3 * x49.toInt ≤ 14 * x1574.toInt + 60 by omega) (show x49.toInt ≤ 300 by omega) gb ((gd) + 1) (by omega) (by omega) (OKW_cast hO (show (gd) + 1 = (gd) + 1 by omega))) (cwV 0 hC.2.2.2.2 gX12_compare_X12_sum rfl rfl rfl (by decide +kernel) ⟨Nat.le_of_ble_eq_true rfl, Nat.le_of_ble_eq_true rfl⟩) rfl hl.1 rfl (Nat.le_of_ble_eq_true rfl) dX12_compare_155 (fun r1583 w1585 H locs hp1584 hw => ?_)
                  obtain ⟨hT, k1586, hg1619⟩ := hp1584
                  have hF := hF.tr k1586 (by decide)
                  have c1620 := k1586.gi kM_at0 (by decide) c1578
                  have c1621 := k1586.gi kM_at0 (by decide) c1579
                  have c1622 := k1586.gi kM_at1 rfl c1581
                  rcases hg1619 with ⟨rfl, ⟨x1587, c1588, rx1587, tx1587⟩, ⟨x1589, c1590, rx1589, tx1589⟩, ⟨x1591, c1592, rx1591, tx1591⟩, hq1593⟩ | ⟨rfl, ⟨x1594, c1595, rx1594, tx1594⟩, ⟨x1596, c1597, rx1596, tx1596⟩, ⟨x1598, c1599, rx1598, tx1598⟩, hq1600⟩ | ⟨rfl, ⟨x1601, c1602, rx1601, tx1601⟩, ⟨x1603, c1604, rx1603, tx1603⟩, ⟨x1605, c1606, rx1605, tx1605⟩, hq1607, g1608, g1609⟩ | ⟨rfl, ⟨x1610, c1611, rx1610, tx1610⟩, ⟨x1612, c1613, rx1612, tx1612⟩, ⟨x1614, c1615, rx1614, tx1614⟩, hq1616, g1617, g1618⟩
                  · have ex1587 : x1587.toInt = x28.toInt := by rw [← c1621.symm.trans c1588]
                    have ex1591 : x1591.toInt = f0_.toInt := by rw [← c1620.symm.trans c1592]
                    obtain ⟨x1623, c1624, rx1623, tx1623⟩ := hT.rda (lo := 0) (hi := 400) (i := (f0_.toInt).toNat) kM_at3 rfl rfl (by omega)
                    obtain ⟨x1625, c1626, rx1625, tx1625⟩ := hT.rdi (lo := 0) (hi := 60) (k := 18) kM_at0 (by decide) rfl
                    have hR := hq1593
                    refine lv_if_ne (tgt := 163) hx hb dX12_compare_158 (by decide) (fun c => absurd (by decide) c) (fun _ => ?_)
                    refine lv_iconst (v := 0) hx hb dX12_compare_161 (by decide) ?_
                    exact tk_zret hC hr rfl hlocks hK ⟨hT, hF, (Or.inl ⟨rfl, ⟨x28, c1621, (show 1 ≤ x28.toInt by omega), (show x28.toInt ≤ 400 by omega)⟩, ⟨x1589, c1590, (show 1 ≤ x1589.toInt by omega), (show x1589.toInt ≤ 3205 by omega)⟩, ⟨f0_, c1620, (show 0 ≤ f0_.toInt by omega), (show f0_.toInt ≤ 5 by omega)⟩, hR⟩)⟩ hw dX12_compare_162
                  · have ex1594 : x1594.toInt = x28.toInt := by rw [← c1621.symm.trans c1595]
                    have ex1598 : x1598.toInt = f0_.toInt := by rw [← c1620.symm.trans c1599]
                    obtain ⟨x1627, c1628, rx1627, tx1627⟩ := hT.rda (lo := 0) (hi := 400) (i := (f0_.toInt).toNat) kM_at3 rfl rfl (by omega)
                    obtain ⟨x1629, c1630, rx1629, tx1629⟩ := hT.rdi (lo := 0) (hi := 60) (k := 18) kM_at0 (by decide) rfl
                    have hR := hq1600
                    refine lv_if_ne (tgt := 163) hx hb dX12_compare_158 (by decide) (fun c => absurd (by decide) c) (fun _ => ?_)
                    refine lv_iconst (v := 0) hx hb dX12_compare_161 (by decide) ?_
                    exact tk_zret hC hr rfl hlocks hK ⟨hT, hF, (Or.inl ⟨rfl, ⟨x28, c1621, (show 1 ≤ x28.toInt by omega), (show x28.toInt ≤ 400 by omega)⟩, ⟨x1596, c1597, (show 1 ≤ x1596.toInt by omega), (show x1596.toInt ≤ 3205 by omega)⟩, ⟨f0_, c1620, (show 0 ≤ f0_.toInt by omega), (show f0_.toInt ≤ 5 by omega)⟩, hR⟩)⟩ hw dX12_compare_162
                  · have ex1601 : x1601.toInt = x28.toInt := by rw [← c1621.symm.trans c1602]
                    have ex1603 : x1603.toInt = f0_.toInt := by rw [← c1620.symm.trans c1604]
                    obtain ⟨x1631, c1632, rx1631, tx1631⟩ := hT.rda (lo := 0) (hi := 400) (i := (f0_.toInt).toNat) kM_at3 rfl rfl (by omega)
                    have g1608 : 3 * x1631.toInt + 11 ≤ 3 * x49.toInt + 14 * (x1605.toInt - x1574.toInt) := by have q := g1608; simp only [c1578, c1620, c1580, c1632, c1575, c1606] at q; omega
                    have g1609 : x1574.toInt + 1 ≤ x1605.toInt := by have q := g1609; simp only [c1578, c1620, c1575, c1606] at q; omega
                    have hO : OKW w1585 f0_.toInt gb (((gd) + 1) + 1) := by have q := hq1607; exact OKW_cast q (by omega)
                    refine lv_if_ne (tgt := 163) hx hb dX12_compare_158 (by decide) (fun _ => ?_) (fun c => absurd c (by decide))
                    refine lv_aload_n hx hb dX12_compare_163 rfl (lv_at hl 4 rfl) ?_
                    refine lv_bipush (v := 6) hx hb dX12_compare_164 (by decide) ?_
                    refine lv_iload hx hb dX12_compare_166 (lv_at hl 0 rfl) ?_
                    refine lv_iadd hx hb dX12_compare_168 ?_
                    refine wk_top 9 (by decide) ?_
                    refine lv_iconst (v := 0) hx hb dX12_compare_169 (by decide) ?_
                    refine tk_Vv hC hK hw hT hA hE hSR kM_at0 (by decide) rfl (k_X12_puts_1 l adK adV dC dI cy ad B (by omega) (by omega) qr s1   9 (by decide) (by decide) 0 (by decide) (by decide) w1585 H.size hT f0_ c1620 (show 0 ≤ f0_.toInt by omega) (show f0_.toInt ≤ 5 by omega) x1631 c1632 (show 0 ≤ x1631.toInt by omega) (show x1631.toInt ≤ 400 by omega) (show x1631.toInt ≤ 399 by omega)) (cwV 2 hC.2.2.2.2 gX12_compare_X12_puts rfl rfl rfl (by decide +kernel) ⟨Nat.le_of_ble_eq_true rfl, Nat.le_of_ble_eq_true rfl⟩) rfl hl.1 rfl (Nat.le_of_ble_eq_true rfl) dX12_compare_170 (fun w1637 H locs hp1636 hw => ?_)
                    obtain ⟨hT, k1638, hg1643⟩ := hp1636
                    have hF := hF.tr k1638 (by decide)
                    have c1644 := k1638.gi kM_at0 (by decide) c1620
                    have c1645 := k1638.gi kM_at0 (by decide) c1621
                    have c1646 := k1638.gi kM_at1 rfl c1622
                    have c1647 := k1638.gi kM_at0 (by decide) c1606
                    obtain ⟨⟨x1639, c1640, rx1639, tx1639⟩, hq1641, g1642⟩ := hg1643
                    have ex1639 : x1639.toInt = f0_.toInt := by rw [← c1644.symm.trans c1640]
                    obtain ⟨x1648, c1649, rx1648, tx1648⟩ := hT.rda (lo := 0) (hi := 400) (i := (f0_.toInt).toNat) kM_at3 rfl rfl (by omega)
                    have g1642 : x1648.toInt = x1631.toInt + 1 := by have q := g1642; simp only [c1620, c1644, c1632, c1649] at q; omega
                    have hO : OKW w1637 f0_.toInt gb ((((gd) + 1) + 1) - 1) := OKW_put hO (by have q := hq1641; rw [c1620] at q; exact q) (by rw [c1632]; omega) (fun x hx => by simp only [(show (9 : Int32).toInt = 9 by decide), (show (0 : Int32).toInt = 0 by decide)] at hx; exact okT_bin (by omega) (by omega) (by omega) (by omega)) (by omega) (by omega)
                    refine lv_iconst (v := 1) hx hb dX12_compare_173 (by decide) ?_
                    exact tk_zret hC hr rfl hlocks hK ⟨hT, hF, (Or.inr (Or.inr ⟨rfl, ⟨x28, c1645, (show 1 ≤ x28.toInt by omega), (show x28.toInt ≤ 400 by omega)⟩, ⟨f0_, c1644, (show 0 ≤ f0_.toInt by omega), (show f0_.toInt ≤ 5 by omega)⟩, ⟨x1605, c1647, (show 1 ≤ x1605.toInt by omega), (show x1605.toInt ≤ 60 by omega)⟩, (OKW_cast hO (by omega)), (by simp only [c1644, cf0_, cf2_, c1649, cf1_, c1647]; omega), (by simp only [c1644, cf0_, cf1_, c1647]; omega)⟩))⟩ hw dX12_compare_174
                  · have ex1610 : x1610.toInt = x28.toInt := by rw [← c1621.symm.trans c1611]
                    have ex1612 : x1612.toInt = f0_.toInt := by rw [← c1620.symm.trans c1613]
                    obtain ⟨x1633, c1634, rx1633, tx1633⟩ := hT.rda (lo := 0) (hi := 400) (i := (f0_.toInt).toNat) kM_at3 rfl rfl (by omega)
                    have g1617 : 3 * x1633.toInt + 11 ≤ 3 * x49.toInt + 14 * (x1614.toInt - x1574.toInt) := by have q := g1617; simp only [c1578, c1620, c1580, c1634, c1575, c1615] at q; omega
                    have g1618 : x1574.toInt + 1 ≤ x1614.toInt := by have q := g1618; simp only [c1578, c1620, c1575, c1615] at q; omega
                    have hO : OKW w1585 f0_.toInt gb (((gd) + 1) + 1) := by have q := hq1616; exact OKW_cast q (by omega)
                    refine lv_if_ne (tgt := 163) hx hb dX12_compare_158 (by decide) (fun _ => ?_) (fun c => absurd c (by decide))
                    refine lv_aload_n hx hb dX12_compare_163 rfl (lv_at hl 4 rfl) ?_
                    refine lv_bipush (v := 6) hx hb dX12_compare_164 (by decide) ?_
                    refine lv_iload hx hb dX12_compare_166 (lv_at hl 0 rfl) ?_
                    refine lv_iadd hx hb dX12_compare_168 ?_
                    refine wk_top 9 (by decide) ?_
                    refine lv_iconst (v := 0) hx hb dX12_compare_169 (by decide) ?_
                    refine tk_Vv hC hK hw hT hA hE hSR kM_at0 (by decide) rfl (k_X12_puts_1 l adK adV dC dI cy ad B (by omega) (by omega) qr s1   9 (by decide) (by decide) 0 (by decide) (by decide) w1585 H.size hT f0_ c1620 (show 0 ≤ f0_.toInt by omega) (show f0_.toInt ≤ 5 by omega) x1633 c1634 (show 0 ≤ x1633.toInt by omega) (show x1633.toInt ≤ 400 by omega) (show x1633.toInt ≤ 399 by omega)) (cwV 2 hC.2.2.2.2 gX12_compare_X12_puts rfl rfl rfl (by decide +kernel) ⟨Nat.le_of_ble_eq_true rfl, Nat.le_of_ble_eq_true rfl⟩) rfl hl.1 rfl (Nat.le_of_ble_eq_true rfl) dX12_compare_170 (fun w1652 H locs hp1651 hw => ?_)
                    obtain ⟨hT, k1653, hg1658⟩ := hp1651
                    have hF := hF.tr k1653 (by decide)
                    have c1659 := k1653.gi kM_at0 (by decide) c1620
                    have c1660 := k1653.gi kM_at0 (by decide) c1621
                    have c1661 := k1653.gi kM_at1 rfl c1622
                    have c1662 := k1653.gi kM_at0 (by decide) c1615
                    obtain ⟨⟨x1654, c1655, rx1654, tx1654⟩, hq1656, g1657⟩ := hg1658
                    have ex1654 : x1654.toInt = f0_.toInt := by rw [← c1659.symm.trans c1655]
                    obtain ⟨x1663, c1664, rx1663, tx1663⟩ := hT.rda (lo := 0) (hi := 400) (i := (f0_.toInt).toNat) kM_at3 rfl rfl (by omega)
                    have g1657 : x1663.toInt = x1633.toInt + 1 := by have q := g1657; simp only [c1620, c1659, c1634, c1664] at q; omega
                    have hO : OKW w1652 f0_.toInt gb ((((gd) + 1) + 1) - 1) := OKW_put hO (by have q := hq1656; rw [c1620] at q; exact q) (by rw [c1634]; omega) (fun x hx => by simp only [(show (9 : Int32).toInt = 9 by decide), (show (0 : Int32).toInt = 0 by decide)] at hx; exact okT_bin (by omega) (by omega) (by omega) (by omega)) (by omega) (by omega)
                    refine lv_iconst (v := 1) hx hb dX12_compare_173 (by decide) ?_
                    exact tk_zret hC hr rfl hlocks hK ⟨hT, hF, (Or.inr (Or.inr ⟨rfl, ⟨x28, c1660, (show 1 ≤ x28.toInt by omega), (show x28.toInt ≤ 400 by omega)⟩, ⟨f0_, c1659, (show 0 ≤ f0_.toInt by omega), (show f0_.toInt ≤ 5 by omega)⟩, ⟨x1614, c1662, (show 1 ≤ x1614.toInt by omega), (show x1614.toInt ≤ 60 by omega)⟩, (OKW_cast hO (by omega)), (by simp only [c1659, cf0_, cf2_, c1664, cf1_, c1662]; omega), (by simp only [c1659, cf0_, cf1_, c1662]; omega)⟩))⟩ hw dX12_compare_174
          · have c1340 : ¬ r880.toInt = (62 : Int) := wk_eqF c1340
            refine lv_aload_n hx hb dX12_compare_37 rfl (lv_at hl 2 rfl) ?_
            refine lv_iconst (v := 0) hx hb dX12_compare_38 (by decide) ?_
            refine lv_iload_n hx hb dX12_compare_39 rfl (lv_at hl 0 rfl) ?_
            refine tk_Vi hC hK hw hT hA hE hSR kM_at0 (by decide) rfl (k_X12_fails_1 l adK adV dC dI cy ad B (by omega) (by omega) qr s1   0 (by decide) (by decide) x888 (show 0 ≤ x888.toInt by omega) (show x888.toInt ≤ 400 by omega) w882 H.size hT ) (cwV 2 hC.2.2.2.2 gX12_compare_X12_fails rfl rfl rfl (by decide +kernel) ⟨Nat.le_of_ble_eq_true rfl, Nat.le_of_ble_eq_true rfl⟩) rfl hl.1 rfl (Nat.le_of_ble_eq_true rfl) dX12_compare_40 (fun r1665 w1667 H locs hp1666 hw => ?_)
            obtain ⟨hT, k1668, hg1671⟩ := hp1666
            have hO := OKW_FE k1668 (fun _ => rfl) (fun _ => rfl) (fun _ => rfl) (fun _ => rfl) hO
            have hF := hF.tr k1668 (by decide)
            have c1672 := k1668.gi kM_at0 (by decide) c901
            have c1673 := k1668.gi kM_at0 (by decide) c902
            have c1674 := k1668.gi kM_at0 (by decide) c903
            have c1675 := k1668.gi kM_at3 rfl c904
            have c1676 := k1668.gi kM_at0 (by decide) c889
            obtain ⟨rfl, ⟨x1669, c1670, rx1669, tx1669⟩⟩ := hg1671
            exact tk_zret hC hr rfl hlocks hK ⟨hT, hF, (Or.inl ⟨rfl, ⟨x28, c1673, (show 1 ≤ x28.toInt by omega), (show x28.toInt ≤ 400 by omega)⟩, ⟨x1669, c1670, (show 1 ≤ x1669.toInt by omega), (show x1669.toInt ≤ 3205 by omega)⟩, ⟨f0_, c1672, (show 0 ≤ f0_.toInt by omega), (show f0_.toInt ≤ 5 by omega)⟩, hO.1⟩)⟩ hw dX12_compare_43
    · have ex892 : x892.toInt = x28.toInt := by rw [← c902.symm.trans c893]
      have g896 : (x894.toInt = x878.toInt ∨ (gi w3 1 (x878.toInt).toNat).toInt = 32) := by have q := g896; simp only [c38, c901, c879, c895] at q; omega
      refine lv_istore_n (lv' := [(1, .int (-1)), (0, .ref (ad 0))]) hx hb dX12_compare_13 rfl hl (by decide) rfl (fun ls hl => ?_)
      refine lv_aload_n hx hb dX12_compare_14 rfl (lv_at hl 1 rfl) ?_
      refine tk_geti hC hK hw hT hinX12 kM_at0 (by decide) rfl 14 (by decide) (List.mem_of_getElem? (i := 1) rfl) rfl rfl dX12_compare_15 (fun x1677 c1678 rx1677 tx1677 => ?_)
      refine wk_top x894 (c1678.symm.trans c895) ?_
      refine lv_istore_n (lv' := [(2, .int x894), (1, .int (-1)), (0, .ref (ad 0))]) hx hb dX12_compare_18 rfl hl (by decide) rfl (fun ls hl => ?_)
      refine lv_iload_n hx hb dX12_compare_19 rfl (lv_at hl 1 rfl) ?_
      refine lv_bipush (v := 60) hx hb dX12_compare_20 (by decide) ?_
      refine lv_icmp_eq (tgt := 44) hx hb dX12_compare_22 (by decide) (fun c => absurd c (by decide)) (fun _ => ?_)
      refine lv_iload_n hx hb dX12_compare_25 rfl (lv_at hl 1 rfl) ?_
      refine lv_bipush (v := 61) hx hb dX12_compare_26 (by decide) ?_
      refine lv_icmp_eq (tgt := 44) hx hb dX12_compare_28 (by decide) (fun c => absurd c (by decide)) (fun _ => ?_)
      refine lv_iload_n hx hb dX12_compare_31 rfl (lv_at hl 1 rfl) ?_
      refine lv_bipush (v := 62) hx hb dX12_compare_32 (by decide) ?_
      refine lv_icmp_eq (tgt := 44) hx hb dX12_compare_34 (by decide) (fun c => absurd c (by decide)) (fun _ => ?_)
      refine lv_aload_n hx hb dX12_compare_37 rfl (lv_at hl 2 rfl) ?_
      refine lv_iconst (v := 0) hx hb dX12_compare_38 (by decide) ?_
      refine lv_iload_n hx hb dX12_compare_39 rfl (lv_at hl 0 rfl) ?_
      refine tk_Vi hC hK hw hT hA hE hSR kM_at0 (by decide) rfl (k_X12_fails_1 l adK adV dC dI cy ad B (by omega) (by omega) qr s1   0 (by decide) (by decide) x894 (show 0 ≤ x894.toInt by omega) (show x894.toInt ≤ 400 by omega) w882 H.size hT ) (cwV 2 hC.2.2.2.2 gX12_compare_X12_fails rfl rfl rfl (by decide +kernel) ⟨Nat.le_of_ble_eq_true rfl, Nat.le_of_ble_eq_true rfl⟩) rfl hl.1 rfl (Nat.le_of_ble_eq_true rfl) dX12_compare_40 (fun r1679 w1681 H locs hp1680 hw => ?_)
      obtain ⟨hT, k1682, hg1685⟩ := hp1680
      have hO := OKW_FE k1682 (fun _ => rfl) (fun _ => rfl) (fun _ => rfl) (fun _ => rfl) hO
      have hF := hF.tr k1682 (by decide)
      have c1686 := k1682.gi kM_at0 (by decide) c901
      have c1687 := k1682.gi kM_at0 (by decide) c902
      have c1688 := k1682.gi kM_at0 (by decide) c903
      have c1689 := k1682.gi kM_at3 rfl c904
      have c1690 := k1682.gi kM_at0 (by decide) c895
      obtain ⟨rfl, ⟨x1683, c1684, rx1683, tx1683⟩⟩ := hg1685
      exact tk_zret hC hr rfl hlocks hK ⟨hT, hF, (Or.inl ⟨rfl, ⟨x28, c1687, (show 1 ≤ x28.toInt by omega), (show x28.toInt ≤ 400 by omega)⟩, ⟨x1683, c1684, (show 1 ≤ x1683.toInt by omega), (show x1683.toInt ≤ 3205 by omega)⟩, ⟨f0_, c1686, (show 0 ≤ f0_.toInt by omega), (show f0_.toInt ≤ 5 by omega)⟩, hO.1⟩)⟩ hw dX12_compare_43
    · have ex897 : x897.toInt = x28.toInt := by rw [← c902.symm.trans c898]
      obtain ⟨x905, c906, rx905, tx905⟩ := hT.rdi (lo := 0) (hi := 400) (k := 14) kM_at0 (by decide) rfl
      have g899 : (x905.toInt = x878.toInt ∨ (gi w3 1 (x878.toInt).toNat).toInt = 32) := by have q := g899; simp only [c38, c901, c879, c906] at q; omega
      refine lv_istore_n (lv' := [(1, .int (-1)), (0, .ref (ad 0))]) hx hb dX12_compare_13 rfl hl (by decide) rfl (fun ls hl => ?_)
      refine lv_aload_n hx hb dX12_compare_14 rfl (lv_at hl 1 rfl) ?_
      refine tk_geti hC hK hw hT hinX12 kM_at0 (by decide) rfl 14 (by decide) (List.mem_of_getElem? (i := 1) rfl) rfl rfl dX12_compare_15 (fun x1691 c1692 rx1691 tx1691 => ?_)
      refine wk_top x905 (c1692.symm.trans c906) ?_
      refine lv_istore_n (lv' := [(2, .int x905), (1, .int (-1)), (0, .ref (ad 0))]) hx hb dX12_compare_18 rfl hl (by decide) rfl (fun ls hl => ?_)
      refine lv_iload_n hx hb dX12_compare_19 rfl (lv_at hl 1 rfl) ?_
      refine lv_bipush (v := 60) hx hb dX12_compare_20 (by decide) ?_
      refine lv_icmp_eq (tgt := 44) hx hb dX12_compare_22 (by decide) (fun c => absurd c (by decide)) (fun _ => ?_)
      refine lv_iload_n hx hb dX12_compare_25 rfl (lv_at hl 1 rfl) ?_
      refine lv_bipush (v := 61) hx hb dX12_compare_26 (by decide) ?_
      refine lv_icmp_eq (tgt := 44) hx hb dX12_compare_28 (by decide) (fun c => absurd c (by decide)) (fun _ => ?_)
      refine lv_iload_n hx hb dX12_compare_31 rfl (lv_at hl 1 rfl) ?_
      refine lv_bipush (v := 62) hx hb dX12_compare_32 (by decide) ?_
      refine lv_icmp_eq (tgt := 44) hx hb dX12_compare_34 (by decide) (fun c => absurd c (by decide)) (fun _ => ?_)
      refine lv_aload_n hx hb dX12_compare_37 rfl (lv_at hl 2 rfl) ?_
      refine lv_iconst (v := 0) hx hb dX12_compare_38 (by decide) ?_
      refine lv_iload_n hx hb dX12_compare_39 rfl (lv_at hl 0 rfl) ?_
      refine tk_Vi hC hK hw hT hA hE hSR kM_at0 (by decide) rfl (k_X12_fails_1 l adK adV dC dI cy ad B (by omega) (by omega) qr s1   0 (by decide) (by decide) x905 (show 0 ≤ x905.toInt by omega) (show x905.toInt ≤ 400 by omega) w882 H.size hT ) (cwV 2 hC.2.2.2.2 gX12_compare_X12_fails rfl rfl rfl (by decide +kernel) ⟨Nat.le_of_ble_eq_true rfl, Nat.le_of_ble_eq_true rfl⟩) rfl hl.1 rfl (Nat.le_of_ble_eq_true rfl) dX12_compare_40 (fun r1693 w1695 H locs hp1694 hw => ?_)
      obtain ⟨hT, k1696, hg1699⟩ := hp1694
      have hO := OKW_FE k1696 (fun _ => rfl) (fun _ => rfl) (fun _ => rfl) (fun _ => rfl) hO
      have hF := hF.tr k1696 (by decide)
      have c1700 := k1696.gi kM_at0 (by decide) c901
      have c1701 := k1696.gi kM_at0 (by decide) c902
      have c1702 := k1696.gi kM_at0 (by decide) c903
      have c1703 := k1696.gi kM_at3 rfl c904
      have c1704 := k1696.gi kM_at0 (by decide) c906
      obtain ⟨rfl, ⟨x1697, c1698, rx1697, tx1697⟩⟩ := hg1699
      exact tk_zret hC hr rfl hlocks hK ⟨hT, hF, (Or.inr (Or.inl ⟨rfl, ⟨x28, c1701, (show 0 ≤ x28.toInt by omega), (show x28.toInt ≤ 400 by omega)⟩, ⟨x1697, c1698, (show 1 ≤ x1697.toInt by omega), (show x1697.toInt ≤ 3205 by omega)⟩, ⟨f0_, c1700, (show 0 ≤ f0_.toInt by omega), (show f0_.toInt ≤ 5 by omega)⟩, hO.1⟩))⟩ hw dX12_compare_43
