abbrev P_X12_isWord_17 (ad : Nat → Nat) (cy : Nat → ClassId) (B : Int) (qr : Nat) (s1 : Int)  (w0 : va_W) : Int32 → va_W → Prop := fun r u => TW ksM ad cy B qr 12 u ∧ FE ksM [(12, 14, 14)] w0 u ∧ ((r = 0 ∧ (∃ y : Int32, gi u 0 1 = y ∧ 0 ≤ y.toInt ∧ y.toInt ≤ 400) ∧ (((gi u 0 14).toInt = (gi w0 0 14).toInt ∨ (gi w0 1 ((gi w0 0 14).toInt).toNat).toInt = 32))) ∨ (r = 1 ∧ (∃ y : Int32, gi u 0 1 = y ∧ 0 ≤ y.toInt ∧ y.toInt ≤ 400) ∧ (((gi u 0 14).toInt = (gi w0 0 14).toInt ∨ (gi w0 1 ((gi w0 0 14).toInt).toNat).toInt = 32))))
set_option maxHeartbeats 4000000 in
set_option maxRecDepth 100000 in
theorem k_X12_isWord_17 (l : Launch) (adK adV : Nat → Nat) (dC : Nat → ClassId) (dI : Nat → Nat → Nat) (cy : Nat → ClassId) (ad : Nat → Nat) (B : Int) (hB0 : 100000 ≤ B) (hB1 : B ≤ 1073741824) (qr : Nat) (s1 : Int)   (w0 : va_W) (sz : Nat) (hT : TW ksM ad cy B qr 12 w0) (f0_ : Int32) (cf0_ : gi w0 0 14 = f0_) (rf0_ : 0 ≤ f0_.toInt) (tf0_ : f0_.toInt ≤ 400) : Met l yX12_isWord wsX12_isWord ({ frames := 2, cells := 0, slots := 0, locals := 33 }) (va_Pc [.ref (ad 0), .long 418548245860] (wpreS adK adV dC dI cy sz w0)) (va_Qi (P_X12_isWord_17 ad cy B qr s1  w0) (fun u : va_W => wpost dC dI cy (va_A w0 sz) u) (va_A w0 sz)) 0 0 (va_A w0 sz) := by
  refine Met.ofW (cc := cX12_isWord) (maxL := 6) (ret := (some .boolean)) (by decide) rfl ?_
  intro p e s m args below meth c s₁ Bk hml hv
  obtain ⟨rfl, ⟨hsz, hP, hK, hD0⟩, hE, hSR⟩ := hv
  have hx := Bk.exec
  have hb := Bk.bytes
  have hr := Bk.returns
  have hlocks := Bk.notSynchronized
  have hC : CallFix p m c cX12_isWord 6 s _ wsX12_isWord RX12 := ⟨hx, hb, hml, findClass_of_methodNamed Bk.named, atoms_spec (ws := wsX12_isWord) Bk.pre⟩
  subst hsz
  have hD := hD0.self (sz := s.heap.size)
  generalize hAe : va_A w0 s.heap.size = A at hD hE ⊢
  have hA : ∀ q : Nat, s.heap.size ≤ q → A q := fun q h => by rw [← hAe]; exact Or.inr h
  have hw : Wd dC dI A s.heap s.heap [] w0 := ⟨hP, hD, va_S.rf⟩
  have hF : FE ksM [(12, 14, 14)] w0 w0 := FE.rf
  have hl := lv_entry ([.ref (ad 0), .long 418548245860]) (n := 6) (Nat.le_of_ble_eq_true rfl)
  rw [lg_entry_eq]
  generalize (lg_sl ([.ref (ad 0), .long 418548245860]) ++ List.replicate (6 - (lg_sl ([.ref (ad 0), .long 418548245860])).length) Slot.unset).toArray = ls at hl ⊢
  have hl : lv_has ls 6 [(0, .ref (ad 0)), (1, .long 418548245860)] := hl
  generalize hloc : ([] : List Loc) = locs at hw ⊢
  have hinX12 : ∀ w ∈ u_ws RX12 TX12 42, w ∈ wsX12_isWord := fun _ h => List.mem_cons_of_mem _ (List.mem_append_right _ (h))
  have J78 : ∀ (v78_3 : Int64) (v78_5 : Int32) (f78_0_1 : Int32) (f78_0_14 : Int32) (H : Heap) (locs : List Loc) (ls : Array Slot) (w1 : va_W), 0 ≤ v78_5.toInt → v78_5.toInt ≤ 400 → 0 ≤ f78_0_1.toInt → f78_0_1.toInt ≤ 400 → 0 ≤ f78_0_14.toInt → f78_0_14.toInt ≤ 400 → ((f78_0_14.toInt = f0_.toInt ∨ (gi w0 1 (f0_.toInt).toNat).toInt = 32)) → Wd dC dI A s.heap H locs w1 → TW ksM ad cy B qr 12 w1 → FE ksM [(12, 14, 14)] w0 w1 → gi w1 0 1 = f78_0_1 → gi w1 0 14 = f78_0_14 → lv_has ls 6 [(0, .ref (ad 0)), (1, .long 418548245860), (3, .long v78_3), (5, .int v78_5)] → W p l e ({ frames := 2, cells := 0, slots := 0, locals := 33 }) s m (List.toArray [.ref (ad 0), .long 418548245860]) below meth c H locs 0 0 (MQ below (va_Qi (P_X12_isWord_17 ad cy B qr s1  w0) (fun u : va_W => wpost dC dI cy A u) A) (List.toArray [.ref (ad 0), .long 418548245860]) s 0 0 A) (F0 m 78 ls []) := by
    intro v78_3 v78_5 f78_0_1 f78_0_14 H locs ls w1 r2 t3 r4 t5 r7 t8 hcr78_0 hw hT hF c6 c9 hl
    refine lv_iconst (v := 0) hx hb dX12_isWord_78 (by decide) ?_
    exact tk_zret hC hr rfl hlocks hK ⟨hT, hF, (Or.inl ⟨rfl, ⟨f78_0_1, c6, (show 0 ≤ f78_0_1.toInt by omega), (show f78_0_1.toInt ≤ 400 by omega)⟩, (by simp only [cf0_, c9]; omega)⟩)⟩ hw dX12_isWord_79
  have L10 : ∀ (n10 : Nat) (v10_3 : Int64) (v10_5 : Int32) (f10_0_1 : Int32) (f10_0_14 : Int32) (H : Heap) (locs : List Loc) (ls : Array Slot) (w10 : va_W), 0 ≤ v10_5.toInt → v10_5.toInt ≤ 400 → 0 ≤ f10_0_1.toInt → f10_0_1.toInt ≤ 400 → 0 ≤ f10_0_14.toInt → f10_0_14.toInt ≤ 400 → ((f10_0_14.toInt = f0_.toInt ∨ (gi w0 1 (f0_.toInt).toNat).toInt = 32)) → (400 - v10_5.toInt).toNat < n10 → Wd dC dI A s.heap H locs w10 → TW ksM ad cy B qr 12 w10 → FE ksM [(12, 14, 14)] w0 w10 → gi w10 0 1 = f10_0_1 → gi w10 0 14 = f10_0_14 → lv_has ls 6 [(0, .ref (ad 0)), (1, .long 418548245860), (3, .long v10_3), (5, .int v10_5)] → W p l e ({ frames := 2, cells := 0, slots := 0, locals := 33 }) s m (List.toArray [.ref (ad 0), .long 418548245860]) below meth c H locs 0 0 (MQ below (va_Qi (P_X12_isWord_17 ad cy B qr s1  w0) (fun u : va_W => wpost dC dI cy A u) A) (List.toArray [.ref (ad 0), .long 418548245860]) s 0 0 A) (F0 m 10 ls []) := by
    intro n10
    induction n10 with
    | zero => intro v10_3 v10_5 f10_0_1 f10_0_14 H locs ls w10 r11 t12 r13 t14 r16 t17 hcr10_0 hm10 hw hT hF c15 c18 hl; omega
    | succ n10 ih10 =>
      intro v10_3 v10_5 f10_0_1 f10_0_14 H locs ls w10 r11 t12 r13 t14 r16 t17 hcr10_0 hm10 hw hT hF c15 c18 hl
      have J50 : ∀ (v50_3 : Int64) (H : Heap) (locs : List Loc) (ls : Array Slot) (w19 : va_W), 0 ≤ v10_5.toInt → v10_5.toInt ≤ 399 → 1 ≤ f10_0_1.toInt → f10_0_1.toInt ≤ 400 → 0 ≤ f10_0_14.toInt → f10_0_14.toInt ≤ 399 → ((f10_0_14.toInt = f0_.toInt ∨ (gi w0 1 (f0_.toInt).toNat).toInt = 32)) → Wd dC dI A s.heap H locs w19 → TW ksM ad cy B qr 12 w19 → FE ksM [(12, 14, 14)] w0 w19 → gi w19 0 1 = f10_0_1 → gi w19 0 14 = f10_0_14 → lv_has ls 6 [(0, .ref (ad 0)), (1, .long 418548245860), (3, .long v50_3), (5, .int v10_5)] → W p l e ({ frames := 2, cells := 0, slots := 0, locals := 33 }) s m (List.toArray [.ref (ad 0), .long 418548245860]) below meth c H locs 0 0 (MQ below (va_Qi (P_X12_isWord_17 ad cy B qr s1  w0) (fun u : va_W => wpost dC dI cy A u) A) (List.toArray [.ref (ad 0), .long 418548245860]) s 0 0 A) (F0 m 50 ls []) := by
        intro v50_3 H locs ls w19 r20 t21 r22 t23 r25 t26 hcr50_0 hw hT hF c24 c27 hl
        obtain ⟨x28, ex28⟩ : ∃ y : Int32, y = v10_5 + Int32.ofInt 1 := ⟨_, rfl⟩
        refine lv_iinc (v := x28) (lv' := [(5, .int x28), (0, .ref (ad 0)), (1, .long 418548245860), (3, .long v50_3)]) hx hb dX12_isWord_50 hl (k := 3) rfl ex28.symm (by decide) rfl (fun ls hl => ?_)
        have ex28 : x28.toInt = v10_5.toInt + 1 := by rw [ex28]; exact wk_add (y := 1) (show -2147483648 ≤ v10_5.toInt + 1 by omega) (show v10_5.toInt + 1 ≤ 2147483647 by omega)
        refine lv_goto (tgt := 10) hx hb dX12_isWord_53 (by decide) ?_
        exact ih10 v50_3 x28 f10_0_1 f10_0_14 H locs ls w19 (show 0 ≤ x28.toInt by omega) (show x28.toInt ≤ 400 by omega) (show 0 ≤ f10_0_1.toInt by omega) (show f10_0_1.toInt ≤ 400 by omega) (show 0 ≤ f10_0_14.toInt by omega) (show f10_0_14.toInt ≤ 400 by omega) (show (f10_0_14.toInt = f0_.toInt ∨ (gi w0 1 (f0_.toInt).toNat).toInt = 32) by first | omega | assumption | (left; omega) | (left; decide) | (right; assumption)) (show (400 - x28.toInt).toNat < n10 by omega) hw hT hF c24 c27 (lv_sub hl [1, 2, 3, 0] rfl)
      refine lv_aload_n hx hb dX12_isWord_10 rfl (lv_at hl 0 rfl) ?_
      refine lv_aload_n hx hb dX12_isWord_11 rfl (lv_at hl 0 rfl) ?_
      refine tk_geti hC hK hw hT hinX12 kM_at0 (by decide) rfl 14 (by decide) (List.mem_of_getElem? (i := 1) rfl) rfl rfl dX12_isWord_12 (fun x29 c30 rx29 tx29 => ?_)
      refine wk_top f10_0_14 (c30.symm.trans c18) ?_
      refine lv_iload hx hb dX12_isWord_15 (lv_at hl 3 rfl) ?_
      refine lv_iadd hx hb dX12_isWord_17 ?_
      refine lv_topi (fun x31 ex31 => ?_)
      have ex31 : x31.toInt = f10_0_14.toInt + v10_5.toInt := by rw [ex31]; exact wk_add (show (-2147483648) ≤ f10_0_14.toInt + v10_5.toInt by omega) (show f10_0_14.toInt + v10_5.toInt ≤ 2147483647 by omega)
      refine tk_Vi hC hK hw hT hA hE hSR kM_at0 (by decide) rfl (k_X12_isLetter_1 l adK adV dC dI cy ad B (by omega) (by omega) qr s1   x31 (show 0 ≤ x31.toInt by omega) (show x31.toInt ≤ 800 by omega) w10 H.size hT ) (cwV 1 hC.2.2.2.2 gX12_isWord_X12_isLetter rfl rfl rfl (by decide +kernel) ⟨Nat.le_of_ble_eq_true rfl, Nat.le_of_ble_eq_true rfl⟩) rfl hl.1 rfl (Nat.le_of_ble_eq_true rfl) dX12_isWord_18 (fun r32 w34 H locs hp33 hw => ?_)
      obtain ⟨rfl, hg41⟩ := hp33
      rcases hg41 with ⟨rfl, ⟨x36, c37, rx36, tx36⟩⟩ | ⟨rfl, g38, ⟨x39, c40, rx39, tx39⟩⟩
      · have ex36 : x36.toInt = f10_0_1.toInt := by rw [← c15.symm.trans c37]
        refine lv_if_eq (tgt := 56) hx hb dX12_isWord_21 (by decide) (fun _ => ?_) (fun c => absurd (by decide) c)
        refine lv_iload hx hb dX12_isWord_56 (lv_at hl 3 rfl) ?_
        refine lv_if_le (tgt := 78) hx hb dX12_isWord_58 (by decide) (fun c42 => ?_) (fun c42 => ?_)
        · have c42 : v10_5.toInt ≤ (0 : Int) := wk_le.mp c42
          exact J78 v10_3 v10_5 f10_0_1 f10_0_14 H locs ls w10 (show 0 ≤ v10_5.toInt by omega) (show v10_5.toInt ≤ 400 by omega) (show 0 ≤ f10_0_1.toInt by omega) (show f10_0_1.toInt ≤ 400 by omega) (show 0 ≤ f10_0_14.toInt by omega) (show f10_0_14.toInt ≤ 400 by omega) (show (f10_0_14.toInt = f0_.toInt ∨ (gi w0 1 (f0_.toInt).toNat).toInt = 32) by first | omega | assumption | (left; omega) | (left; decide) | (right; assumption))  hw hT hF c15 c18 (lv_sub hl [0, 1, 2, 3] rfl)
        · have c42 : (0 : Int) < v10_5.toInt := wk_leF c42
          refine lv_iload hx hb dX12_isWord_61 (lv_at hl 3 rfl) ?_
          refine lv_bipush (v := 8) hx hb dX12_isWord_63 (by decide) ?_
          refine lv_icmp_ge (tgt := 78) hx hb dX12_isWord_65 (by decide) (fun c43 => ?_) (fun c43 => ?_)
          · have c43 : (8 : Int) ≤ v10_5.toInt := wk_le.mp c43
            exact J78 v10_3 v10_5 f10_0_1 f10_0_14 H locs ls w10 (show 0 ≤ v10_5.toInt by omega) (show v10_5.toInt ≤ 400 by omega) (show 0 ≤ f10_0_1.toInt by omega) (show f10_0_1.toInt ≤ 400 by omega) (show 0 ≤ f10_0_14.toInt by omega) (show f10_0_14.toInt ≤ 400 by omega) (show (f10_0_14.toInt = f0_.toInt ∨ (gi w0 1 (f0_.toInt).toNat).toInt = 32) by first | omega | assumption | (left; omega) | (left; decide) | (right; assumption))  hw hT hF c15 c18 (lv_sub hl [0, 1, 2, 3] rfl)
          · have c43 : v10_5.toInt < (8 : Int) := wk_leF c43
            refine lv_lload_n hx hb dX12_isWord_68 rfl (lv_at hl 2 rfl) ?_
            refine lv_lload_n hx hb dX12_isWord_69 rfl (lv_at hl 1 rfl) ?_
            refine W.lcmp hx hb dX12_isWord_70 ?_
            refine lv_if_ne (tgt := 78) hx hb dX12_isWord_71 (by decide) (fun c44 => ?_) (fun c44 => ?_)
            · have c44 : ¬ v10_3.toInt = (418548245860 : Int) := wk_ceF c44
              exact J78 v10_3 v10_5 f10_0_1 f10_0_14 H locs ls w10 (show 0 ≤ v10_5.toInt by omega) (show v10_5.toInt ≤ 400 by omega) (show 0 ≤ f10_0_1.toInt by omega) (show f10_0_1.toInt ≤ 400 by omega) (show 0 ≤ f10_0_14.toInt by omega) (show f10_0_14.toInt ≤ 400 by omega) (show (f10_0_14.toInt = f0_.toInt ∨ (gi w0 1 (f0_.toInt).toNat).toInt = 32) by first | omega | assumption | (left; omega) | (left; decide) | (right; assumption))  hw hT hF c15 c18 (lv_sub hl [0, 1, 2, 3] rfl)
            · have c44 : v10_3.toInt = (418548245860 : Int) := wk_ceT c44
              refine lv_iconst (v := 1) hx hb dX12_isWord_74 (by decide) ?_
              refine lv_goto (tgt := 79) hx hb dX12_isWord_75 (by decide) ?_
              exact tk_zret hC hr rfl hlocks hK ⟨hT, hF, (Or.inr ⟨rfl, ⟨f10_0_1, c15, (show 0 ≤ f10_0_1.toInt by omega), (show f10_0_1.toInt ≤ 400 by omega)⟩, (by simp only [cf0_, c18]; omega)⟩)⟩ hw dX12_isWord_79
      · have ex39 : x39.toInt = f10_0_1.toInt := by rw [← c15.symm.trans c40]
        refine lv_if_eq (tgt := 56) hx hb dX12_isWord_21 (by decide) (fun c => absurd c (by decide)) (fun _ => ?_)
        refine lv_iload hx hb dX12_isWord_24 (lv_at hl 3 rfl) ?_
        refine lv_bipush (v := 8) hx hb dX12_isWord_26 (by decide) ?_
        refine lv_icmp_ge (tgt := 50) hx hb dX12_isWord_28 (by decide) (fun c45 => ?_) (fun c45 => ?_)
        · have c45 : (8 : Int) ≤ v10_5.toInt := wk_le.mp c45
          exact J50 v10_3 H locs ls w10 (show 0 ≤ v10_5.toInt by omega) (show v10_5.toInt ≤ 399 by omega) (show 1 ≤ f10_0_1.toInt by omega) (show f10_0_1.toInt ≤ 400 by omega) (show 0 ≤ f10_0_14.toInt by omega) (show f10_0_14.toInt ≤ 399 by omega) (show (f10_0_14.toInt = f0_.toInt ∨ (gi w0 1 (f0_.toInt).toNat).toInt = 32) by first | omega | assumption | (left; omega) | (left; decide) | (right; assumption))  hw hT hF c15 c18 (lv_sub hl [0, 1, 2, 3] rfl)
        · have c45 : v10_5.toInt < (8 : Int) := wk_leF c45
          refine lv_lload_n hx hb dX12_isWord_31 rfl (lv_at hl 2 rfl) ?_
          refine lv_bipush (v := 8) hx hb dX12_isWord_32 (by decide) ?_
          refine lv_lshl hx hb dX12_isWord_34 rfl ?_
          refine lv_topl (fun x46 ex46 => ?_)
          refine lv_aload_n hx hb dX12_isWord_35 rfl (lv_at hl 0 rfl) ?_
          refine tk_getA hC hK hw hT hinX12 kM_at0 (by decide) rfl 0 (by decide) (List.mem_of_getElem? (i := 2) rfl) rfl rfl dX12_isWord_36 ?_
          refine lv_aload_n hx hb dX12_isWord_39 rfl (lv_at hl 0 rfl) ?_
          refine tk_geti hC hK hw hT hinX12 kM_at0 (by decide) rfl 14 (by decide) (List.mem_of_getElem? (i := 1) rfl) rfl rfl dX12_isWord_40 (fun x47 c48 rx47 tx47 => ?_)
          refine wk_top f10_0_14 (c48.symm.trans c18) ?_
          refine lv_iload hx hb dX12_isWord_43 (lv_at hl 3 rfl) ?_
          refine lv_iadd hx hb dX12_isWord_45 ?_
          refine lv_topi (fun x49 ex49 => ?_)
          have ex49 : x49.toInt = f10_0_14.toInt + v10_5.toInt := by rw [ex49]; exact wk_add (show (-2147483648) ≤ f10_0_14.toInt + v10_5.toInt by omega) (show f10_0_14.toInt + v10_5.toInt ≤ 2147483647 by omega)
          refine tk_bald hC hK hw hT kM_at1 rfl rfl (show 0 ≤ x49.toInt by omega) (show x49.toInt < 400 by omega) dX12_isWord_46 (fun x50 c51 rx50 tx50 => ?_)
          have c51 : gi w10 1 (1 * f10_0_14.toInt + 1 * v10_5.toInt + 0).toNat = x50 := (congrArg (gi w10 1) (congrArg Int.toNat (show 1 * f10_0_14.toInt + 1 * v10_5.toInt + 0 = x49.toInt by omega))).trans c51
          refine lv_i2l hx hb dX12_isWord_47 rfl ?_
          refine lv_topl (fun x52 ex52 => ?_)
          have ex52 : x52.toInt = x50.toInt := by rw [ex52]; exact wk_i2l _
          have bx52 := wk_i32 x50
          refine lv_lor hx hb dX12_isWord_48 ?_
          refine lv_topl (fun x53 ex53 => ?_)
          refine lv_lstore_n (lv' := [(3, .long x53), (0, .ref (ad 0)), (1, .long 418548245860), (5, .int v10_5)]) hx hb dX12_isWord_49 rfl hl (by decide) rfl (fun ls hl => ?_)
          exact J50 x53 H locs ls w10 (show 0 ≤ v10_5.toInt by omega) (show v10_5.toInt ≤ 399 by omega) (show 1 ≤ f10_0_1.toInt by omega) (show f10_0_1.toInt ≤ 400 by omega) (show 0 ≤ f10_0_14.toInt by omega) (show f10_0_14.toInt ≤ 399 by omega) (show (f10_0_14.toInt = f0_.toInt ∨ (gi w0 1 (f0_.toInt).toNat).toInt = 32) by first | omega | assumption | (left; omega) | (left; decide) | (right; assumption) | (right; rw [c51]; omega) | (right; rw [c51]; decide))  hw hT hF c15 c18 (lv_sub hl [1, 2, 0, 3] rfl)
  refine lv_aload_n hx hb dX12_isWord_0 rfl (lv_at hl 0 rfl) ?_
  refine tk_Vi hC hK hw hT hA hE hSR kM_at0 (by decide) rfl (k_X12_see_1 l adK adV dC dI cy ad B (by omega) (by omega) qr s1    w0 s.heap.size hT f0_ cf0_ (show 0 ≤ f0_.toInt by omega) (show f0_.toInt ≤ 400 by omega)) (cwV 0 hC.2.2.2.2 gX12_isWord_X12_see rfl rfl rfl (by decide +kernel) ⟨Nat.le_of_ble_eq_true rfl, Nat.le_of_ble_eq_true rfl⟩) rfl hl.1 rfl (Nat.le_of_ble_eq_true rfl) dX12_isWord_1 (fun r54 w56 H locs hp55 hw => ?_)
  obtain ⟨hT, k57, hg74⟩ := hp55
  have hF := hF.tr k57 (by decide)
  rcases hg74 with ⟨g58, g59, ⟨x60, c61, rx60, tx60⟩, ⟨x62, c63, rx62, tx62⟩, g64, g65⟩ | ⟨rfl, ⟨x66, c67, rx66, tx66⟩, ⟨x68, c69, rx68, tx68⟩, g70⟩ | ⟨rfl, ⟨x71, c72, rx71, tx71⟩, g73⟩
  · have g64 : (gi w56 1 (x62.toInt).toNat).toInt ≠ 32 := by have q := g64; simp only [c63] at q; omega
    have g65 : (x62.toInt = f0_.toInt ∨ (gi w0 1 (f0_.toInt).toNat).toInt = 32) := by have q := g65; simp only [cf0_, c63] at q; omega
    refine lv_pop hx hb dX12_isWord_4 rfl ?_
    refine lv_lconst (v := 0) hx hb dX12_isWord_5 (by decide) ?_
    refine lv_lstore_n (lv' := [(3, .long 0), (0, .ref (ad 0)), (1, .long 418548245860)]) hx hb dX12_isWord_6 rfl hl (by decide) rfl (fun ls hl => ?_)
    refine lv_iconst (v := 0) hx hb dX12_isWord_7 (by decide) ?_
    refine lv_istore (lv' := [(5, .int 0), (3, .long 0), (0, .ref (ad 0)), (1, .long 418548245860)]) hx hb dX12_isWord_8 hl (by decide) rfl (fun ls hl => ?_)
    exact L10 ((400 - (0 : Int)).toNat + 1) 0 0 x60 x62 H locs ls w56 (by decide) (by decide) (show 0 ≤ x60.toInt by omega) (show x60.toInt ≤ 400 by omega) (show 0 ≤ x62.toInt by omega) (show x62.toInt ≤ 400 by omega) (show (x62.toInt = f0_.toInt ∨ (gi w0 1 (f0_.toInt).toNat).toInt = 32) by first | omega | assumption | (left; omega) | (left; decide) | (right; assumption)) (Nat.lt_succ_self _) hw hT hF c61 c63 (lv_sub hl [2, 3, 1, 0] rfl)
  · have g70 : (x68.toInt = f0_.toInt ∨ (gi w0 1 (f0_.toInt).toNat).toInt = 32) := by have q := g70; simp only [cf0_, c69] at q; omega
    refine lv_pop hx hb dX12_isWord_4 rfl ?_
    refine lv_lconst (v := 0) hx hb dX12_isWord_5 (by decide) ?_
    refine lv_lstore_n (lv' := [(3, .long 0), (0, .ref (ad 0)), (1, .long 418548245860)]) hx hb dX12_isWord_6 rfl hl (by decide) rfl (fun ls hl => ?_)
    refine lv_iconst (v := 0) hx hb dX12_isWord_7 (by decide) ?_
    refine lv_istore (lv' := [(5, .int 0), (3, .long 0), (0, .ref (ad 0)), (1, .long 418548245860)]) hx hb dX12_isWord_8 hl (by decide) rfl (fun ls hl => ?_)
    exact L10 ((400 - (0 : Int)).toNat + 1) 0 0 x66 x68 H locs ls w56 (by decide) (by decide) (show 0 ≤ x66.toInt by omega) (show x66.toInt ≤ 400 by omega) (show 0 ≤ x68.toInt by omega) (show x68.toInt ≤ 400 by omega) (show (x68.toInt = f0_.toInt ∨ (gi w0 1 (f0_.toInt).toNat).toInt = 32) by first | omega | assumption | (left; omega) | (left; decide) | (right; assumption)) (Nat.lt_succ_self _) hw hT hF c67 c69 (lv_sub hl [2, 3, 1, 0] rfl)
  · obtain ⟨x75, c76, rx75, tx75⟩ := hT.rdi (lo := 0) (hi := 400) (k := 14) kM_at0 (by decide) rfl
    have g73 : (x75.toInt = f0_.toInt ∨ (gi w0 1 (f0_.toInt).toNat).toInt = 32) := by have q := g73; simp only [cf0_, c76] at q; omega
    refine lv_pop hx hb dX12_isWord_4 rfl ?_
    refine lv_lconst (v := 0) hx hb dX12_isWord_5 (by decide) ?_
    refine lv_lstore_n (lv' := [(3, .long 0), (0, .ref (ad 0)), (1, .long 418548245860)]) hx hb dX12_isWord_6 rfl hl (by decide) rfl (fun ls hl => ?_)
    refine lv_iconst (v := 0) hx hb dX12_isWord_7 (by decide) ?_
    refine lv_istore (lv' := [(5, .int 0), (3, .long 0), (0, .ref (ad 0)), (1, .long 418548245860)]) hx hb dX12_isWord_8 hl (by decide) rfl (fun ls hl => ?_)
    exact L10 ((400 - (0 : Int)).toNat + 1) 0 0 x71 x75 H locs ls w56 (by decide) (by decide) (show 0 ≤ x71.toInt by omega) (show x71.toInt ≤ 400 by omega) (show 0 ≤ x75.toInt by omega) (show x75.toInt ≤ 400 by omega) (show (x75.toInt = f0_.toInt ∨ (gi w0 1 (f0_.toInt).toNat).toInt = 32) by first | omega | assumption | (left; omega) | (left; decide) | (right; assumption)) (Nat.lt_succ_self _) hw hT hF c72 c76 (lv_sub hl [2, 3, 1, 0] rfl)
abbrev P_X12_isWord_18 (ad : Nat → Nat) (cy : Nat → ClassId) (B : Int) (qr : Nat) (s1 : Int)  (w0 : va_W) : Int32 → va_W → Prop := fun r u => TW ksM ad cy B qr 12 u ∧ FE ksM [(12, 14, 14)] w0 u ∧ ((r = 0 ∧ (∃ y : Int32, gi u 0 1 = y ∧ 0 ≤ y.toInt ∧ y.toInt ≤ 400) ∧ (((gi u 0 14).toInt = (gi w0 0 14).toInt ∨ (gi w0 1 ((gi w0 0 14).toInt).toNat).toInt = 32))) ∨ (r = 1 ∧ (∃ y : Int32, gi u 0 1 = y ∧ 0 ≤ y.toInt ∧ y.toInt ≤ 400) ∧ (((gi u 0 14).toInt = (gi w0 0 14).toInt ∨ (gi w0 1 ((gi w0 0 14).toInt).toNat).toInt = 32))))
set_option maxHeartbeats 4000000 in
set_option maxRecDepth 100000 in
theorem k_X12_isWord_18 (l : Launch) (adK adV : Nat → Nat) (dC : Nat → ClassId) (dI : Nat → Nat → Nat) (cy : Nat → ClassId) (ad : Nat → Nat) (B : Int) (hB0 : 100000 ≤ B) (hB1 : B ≤ 1073741824) (qr : Nat) (s1 : Int)   (w0 : va_W) (sz : Nat) (hT : TW ksM ad cy B qr 12 w0) (f0_ : Int32) (cf0_ : gi w0 0 14 = f0_) (rf0_ : 0 ≤ f0_.toInt) (tf0_ : f0_.toInt ≤ 400) : Met l yX12_isWord wsX12_isWord ({ frames := 2, cells := 0, slots := 0, locals := 33 }) (va_Pc [.ref (ad 0), .long 495874044019] (wpreS adK adV dC dI cy sz w0)) (va_Qi (P_X12_isWord_18 ad cy B qr s1  w0) (fun u : va_W => wpost dC dI cy (va_A w0 sz) u) (va_A w0 sz)) 0 0 (va_A w0 sz) := by
  refine Met.ofW (cc := cX12_isWord) (maxL := 6) (ret := (some .boolean)) (by decide) rfl ?_
  intro p e s m args below meth c s₁ Bk hml hv
  obtain ⟨rfl, ⟨hsz, hP, hK, hD0⟩, hE, hSR⟩ := hv
  have hx := Bk.exec
  have hb := Bk.bytes
  have hr := Bk.returns
  have hlocks := Bk.notSynchronized
  have hC : CallFix p m c cX12_isWord 6 s _ wsX12_isWord RX12 := ⟨hx, hb, hml, findClass_of_methodNamed Bk.named, atoms_spec (ws := wsX12_isWord) Bk.pre⟩
  subst hsz
  have hD := hD0.self (sz := s.heap.size)
  generalize hAe : va_A w0 s.heap.size = A at hD hE ⊢
  have hA : ∀ q : Nat, s.heap.size ≤ q → A q := fun q h => by rw [← hAe]; exact Or.inr h
  have hw : Wd dC dI A s.heap s.heap [] w0 := ⟨hP, hD, va_S.rf⟩
  have hF : FE ksM [(12, 14, 14)] w0 w0 := FE.rf
  have hl := lv_entry ([.ref (ad 0), .long 495874044019]) (n := 6) (Nat.le_of_ble_eq_true rfl)
  rw [lg_entry_eq]
  generalize (lg_sl ([.ref (ad 0), .long 495874044019]) ++ List.replicate (6 - (lg_sl ([.ref (ad 0), .long 495874044019])).length) Slot.unset).toArray = ls at hl ⊢
  have hl : lv_has ls 6 [(0, .ref (ad 0)), (1, .long 495874044019)] := hl
  generalize hloc : ([] : List Loc) = locs at hw ⊢
  have hinX12 : ∀ w ∈ u_ws RX12 TX12 42, w ∈ wsX12_isWord := fun _ h => List.mem_cons_of_mem _ (List.mem_append_right _ (h))
  have J78 : ∀ (v78_3 : Int64) (v78_5 : Int32) (f78_0_1 : Int32) (f78_0_14 : Int32) (H : Heap) (locs : List Loc) (ls : Array Slot) (w1 : va_W), 0 ≤ v78_5.toInt → v78_5.toInt ≤ 400 → 0 ≤ f78_0_1.toInt → f78_0_1.toInt ≤ 400 → 0 ≤ f78_0_14.toInt → f78_0_14.toInt ≤ 400 → ((f78_0_14.toInt = f0_.toInt ∨ (gi w0 1 (f0_.toInt).toNat).toInt = 32)) → Wd dC dI A s.heap H locs w1 → TW ksM ad cy B qr 12 w1 → FE ksM [(12, 14, 14)] w0 w1 → gi w1 0 1 = f78_0_1 → gi w1 0 14 = f78_0_14 → lv_has ls 6 [(0, .ref (ad 0)), (1, .long 495874044019), (3, .long v78_3), (5, .int v78_5)] → W p l e ({ frames := 2, cells := 0, slots := 0, locals := 33 }) s m (List.toArray [.ref (ad 0), .long 495874044019]) below meth c H locs 0 0 (MQ below (va_Qi (P_X12_isWord_18 ad cy B qr s1  w0) (fun u : va_W => wpost dC dI cy A u) A) (List.toArray [.ref (ad 0), .long 495874044019]) s 0 0 A) (F0 m 78 ls []) := by
    intro v78_3 v78_5 f78_0_1 f78_0_14 H locs ls w1 r2 t3 r4 t5 r7 t8 hcr78_0 hw hT hF c6 c9 hl
    refine lv_iconst (v := 0) hx hb dX12_isWord_78 (by decide) ?_
    exact tk_zret hC hr rfl hlocks hK ⟨hT, hF, (Or.inl ⟨rfl, ⟨f78_0_1, c6, (show 0 ≤ f78_0_1.toInt by omega), (show f78_0_1.toInt ≤ 400 by omega)⟩, (by simp only [cf0_, c9]; omega)⟩)⟩ hw dX12_isWord_79
  have L10 : ∀ (n10 : Nat) (v10_3 : Int64) (v10_5 : Int32) (f10_0_1 : Int32) (f10_0_14 : Int32) (H : Heap) (locs : List Loc) (ls : Array Slot) (w10 : va_W), 0 ≤ v10_5.toInt → v10_5.toInt ≤ 400 → 0 ≤ f10_0_1.toInt → f10_0_1.toInt ≤ 400 → 0 ≤ f10_0_14.toInt → f10_0_14.toInt ≤ 400 → ((f10_0_14.toInt = f0_.toInt ∨ (gi w0 1 (f0_.toInt).toNat).toInt = 32)) → (400 - v10_5.toInt).toNat < n10 → Wd dC dI A s.heap H locs w10 → TW ksM ad cy B qr 12 w10 → FE ksM [(12, 14, 14)] w0 w10 → gi w10 0 1 = f10_0_1 → gi w10 0 14 = f10_0_14 → lv_has ls 6 [(0, .ref (ad 0)), (1, .long 495874044019), (3, .long v10_3), (5, .int v10_5)] → W p l e ({ frames := 2, cells := 0, slots := 0, locals := 33 }) s m (List.toArray [.ref (ad 0), .long 495874044019]) below meth c H locs 0 0 (MQ below (va_Qi (P_X12_isWord_18 ad cy B qr s1  w0) (fun u : va_W => wpost dC dI cy A u) A) (List.toArray [.ref (ad 0), .long 495874044019]) s 0 0 A) (F0 m 10 ls []) := by
    intro n10
    induction n10 with
    | zero => intro v10_3 v10_5 f10_0_1 f10_0_14 H locs ls w10 r11 t12 r13 t14 r16 t17 hcr10_0 hm10 hw hT hF c15 c18 hl; omega
    | succ n10 ih10 =>
      intro v10_3 v10_5 f10_0_1 f10_0_14 H locs ls w10 r11 t12 r13 t14 r16 t17 hcr10_0 hm10 hw hT hF c15 c18 hl
      have J50 : ∀ (v50_3 : Int64) (H : Heap) (locs : List Loc) (ls : Array Slot) (w19 : va_W), 0 ≤ v10_5.toInt → v10_5.toInt ≤ 399 → 1 ≤ f10_0_1.toInt → f10_0_1.toInt ≤ 400 → 0 ≤ f10_0_14.toInt → f10_0_14.toInt ≤ 399 → ((f10_0_14.toInt = f0_.toInt ∨ (gi w0 1 (f0_.toInt).toNat).toInt = 32)) → Wd dC dI A s.heap H locs w19 → TW ksM ad cy B qr 12 w19 → FE ksM [(12, 14, 14)] w0 w19 → gi w19 0 1 = f10_0_1 → gi w19 0 14 = f10_0_14 → lv_has ls 6 [(0, .ref (ad 0)), (1, .long 495874044019), (3, .long v50_3), (5, .int v10_5)] → W p l e ({ frames := 2, cells := 0, slots := 0, locals := 33 }) s m (List.toArray [.ref (ad 0), .long 495874044019]) below meth c H locs 0 0 (MQ below (va_Qi (P_X12_isWord_18 ad cy B qr s1  w0) (fun u : va_W => wpost dC dI cy A u) A) (List.toArray [.ref (ad 0), .long 495874044019]) s 0 0 A) (F0 m 50 ls []) := by
        intro v50_3 H locs ls w19 r20 t21 r22 t23 r25 t26 hcr50_0 hw hT hF c24 c27 hl
        obtain ⟨x28, ex28⟩ : ∃ y : Int32, y = v10_5 + Int32.ofInt 1 := ⟨_, rfl⟩
        refine lv_iinc (v := x28) (lv' := [(5, .int x28), (0, .ref (ad 0)), (1, .long 495874044019), (3, .long v50_3)]) hx hb dX12_isWord_50 hl (k := 3) rfl ex28.symm (by decide) rfl (fun ls hl => ?_)
        have ex28 : x28.toInt = v10_5.toInt + 1 := by rw [ex28]; exact wk_add (y := 1) (show -2147483648 ≤ v10_5.toInt + 1 by omega) (show v10_5.toInt + 1 ≤ 2147483647 by omega)
        refine lv_goto (tgt := 10) hx hb dX12_isWord_53 (by decide) ?_
        exact ih10 v50_3 x28 f10_0_1 f10_0_14 H locs ls w19 (show 0 ≤ x28.toInt by omega) (show x28.toInt ≤ 400 by omega) (show 0 ≤ f10_0_1.toInt by omega) (show f10_0_1.toInt ≤ 400 by omega) (show 0 ≤ f10_0_14.toInt by omega) (show f10_0_14.toInt ≤ 400 by omega) (show (f10_0_14.toInt = f0_.toInt ∨ (gi w0 1 (f0_.toInt).toNat).toInt = 32) by first | omega | assumption | (left; omega) | (left; decide) | (right; assumption)) (show (400 - x28.toInt).toNat < n10 by omega) hw hT hF c24 c27 (lv_sub hl [1, 2, 3, 0] rfl)
      refine lv_aload_n hx hb dX12_isWord_10 rfl (lv_at hl 0 rfl) ?_
      refine lv_aload_n hx hb dX12_isWord_11 rfl (lv_at hl 0 rfl) ?_
      refine tk_geti hC hK hw hT hinX12 kM_at0 (by decide) rfl 14 (by decide) (List.mem_of_getElem? (i := 1) rfl) rfl rfl dX12_isWord_12 (fun x29 c30 rx29 tx29 => ?_)
      refine wk_top f10_0_14 (c30.symm.trans c18) ?_
      refine lv_iload hx hb dX12_isWord_15 (lv_at hl 3 rfl) ?_
      refine lv_iadd hx hb dX12_isWord_17 ?_
      refine lv_topi (fun x31 ex31 => ?_)
      have ex31 : x31.toInt = f10_0_14.toInt + v10_5.toInt := by rw [ex31]; exact wk_add (show (-2147483648) ≤ f10_0_14.toInt + v10_5.toInt by omega) (show f10_0_14.toInt + v10_5.toInt ≤ 2147483647 by omega)
      refine tk_Vi hC hK hw hT hA hE hSR kM_at0 (by decide) rfl (k_X12_isLetter_1 l adK adV dC dI cy ad B (by omega) (by omega) qr s1   x31 (show 0 ≤ x31.toInt by omega) (show x31.toInt ≤ 800 by omega) w10 H.size hT ) (cwV 1 hC.2.2.2.2 gX12_isWord_X12_isLetter rfl rfl rfl (by decide +kernel) ⟨Nat.le_of_ble_eq_true rfl, Nat.le_of_ble_eq_true rfl⟩) rfl hl.1 rfl (Nat.le_of_ble_eq_true rfl) dX12_isWord_18 (fun r32 w34 H locs hp33 hw => ?_)
      obtain ⟨rfl, hg41⟩ := hp33
      rcases hg41 with ⟨rfl, ⟨x36, c37, rx36, tx36⟩⟩ | ⟨rfl, g38, ⟨x39, c40, rx39, tx39⟩⟩
      · have ex36 : x36.toInt = f10_0_1.toInt := by rw [← c15.symm.trans c37]
        refine lv_if_eq (tgt := 56) hx hb dX12_isWord_21 (by decide) (fun _ => ?_) (fun c => absurd (by decide) c)
        refine lv_iload hx hb dX12_isWord_56 (lv_at hl 3 rfl) ?_
        refine lv_if_le (tgt := 78) hx hb dX12_isWord_58 (by decide) (fun c42 => ?_) (fun c42 => ?_)
        · have c42 : v10_5.toInt ≤ (0 : Int) := wk_le.mp c42
          exact J78 v10_3 v10_5 f10_0_1 f10_0_14 H locs ls w10 (show 0 ≤ v10_5.toInt by omega) (show v10_5.toInt ≤ 400 by omega) (show 0 ≤ f10_0_1.toInt by omega) (show f10_0_1.toInt ≤ 400 by omega) (show 0 ≤ f10_0_14.toInt by omega) (show f10_0_14.toInt ≤ 400 by omega) (show (f10_0_14.toInt = f0_.toInt ∨ (gi w0 1 (f0_.toInt).toNat).toInt = 32) by first | omega | assumption | (left; omega) | (left; decide) | (right; assumption))  hw hT hF c15 c18 (lv_sub hl [0, 1, 2, 3] rfl)
        · have c42 : (0 : Int) < v10_5.toInt := wk_leF c42
          refine lv_iload hx hb dX12_isWord_61 (lv_at hl 3 rfl) ?_
          refine lv_bipush (v := 8) hx hb dX12_isWord_63 (by decide) ?_
          refine lv_icmp_ge (tgt := 78) hx hb dX12_isWord_65 (by decide) (fun c43 => ?_) (fun c43 => ?_)
          · have c43 : (8 : Int) ≤ v10_5.toInt := wk_le.mp c43
            exact J78 v10_3 v10_5 f10_0_1 f10_0_14 H locs ls w10 (show 0 ≤ v10_5.toInt by omega) (show v10_5.toInt ≤ 400 by omega) (show 0 ≤ f10_0_1.toInt by omega) (show f10_0_1.toInt ≤ 400 by omega) (show 0 ≤ f10_0_14.toInt by omega) (show f10_0_14.toInt ≤ 400 by omega) (show (f10_0_14.toInt = f0_.toInt ∨ (gi w0 1 (f0_.toInt).toNat).toInt = 32) by first | omega | assumption | (left; omega) | (left; decide) | (right; assumption))  hw hT hF c15 c18 (lv_sub hl [0, 1, 2, 3] rfl)
          · have c43 : v10_5.toInt < (8 : Int) := wk_leF c43
            refine lv_lload_n hx hb dX12_isWord_68 rfl (lv_at hl 2 rfl) ?_
            refine lv_lload_n hx hb dX12_isWord_69 rfl (lv_at hl 1 rfl) ?_
            refine W.lcmp hx hb dX12_isWord_70 ?_
            refine lv_if_ne (tgt := 78) hx hb dX12_isWord_71 (by decide) (fun c44 => ?_) (fun c44 => ?_)
            · have c44 : ¬ v10_3.toInt = (495874044019 : Int) := wk_ceF c44
              exact J78 v10_3 v10_5 f10_0_1 f10_0_14 H locs ls w10 (show 0 ≤ v10_5.toInt by omega) (show v10_5.toInt ≤ 400 by omega) (show 0 ≤ f10_0_1.toInt by omega) (show f10_0_1.toInt ≤ 400 by omega) (show 0 ≤ f10_0_14.toInt by omega) (show f10_0_14.toInt ≤ 400 by omega) (show (f10_0_14.toInt = f0_.toInt ∨ (gi w0 1 (f0_.toInt).toNat).toInt = 32) by first | omega | assumption | (left; omega) | (left; decide) | (right; assumption))  hw hT hF c15 c18 (lv_sub hl [0, 1, 2, 3] rfl)
            · have c44 : v10_3.toInt = (495874044019 : Int) := wk_ceT c44
              refine lv_iconst (v := 1) hx hb dX12_isWord_74 (by decide) ?_
              refine lv_goto (tgt := 79) hx hb dX12_isWord_75 (by decide) ?_
              exact tk_zret hC hr rfl hlocks hK ⟨hT, hF, (Or.inr ⟨rfl, ⟨f10_0_1, c15, (show 0 ≤ f10_0_1.toInt by omega), (show f10_0_1.toInt ≤ 400 by omega)⟩, (by simp only [cf0_, c18]; omega)⟩)⟩ hw dX12_isWord_79
      · have ex39 : x39.toInt = f10_0_1.toInt := by rw [← c15.symm.trans c40]
        refine lv_if_eq (tgt := 56) hx hb dX12_isWord_21 (by decide) (fun c => absurd c (by decide)) (fun _ => ?_)
        refine lv_iload hx hb dX12_isWord_24 (lv_at hl 3 rfl) ?_
        refine lv_bipush (v := 8) hx hb dX12_isWord_26 (by decide) ?_
        refine lv_icmp_ge (tgt := 50) hx hb dX12_isWord_28 (by decide) (fun c45 => ?_) (fun c45 => ?_)
        · have c45 : (8 : Int) ≤ v10_5.toInt := wk_le.mp c45
          exact J50 v10_3 H locs ls w10 (show 0 ≤ v10_5.toInt by omega) (show v10_5.toInt ≤ 399 by omega) (show 1 ≤ f10_0_1.toInt by omega) (show f10_0_1.toInt ≤ 400 by omega) (show 0 ≤ f10_0_14.toInt by omega) (show f10_0_14.toInt ≤ 399 by omega) (show (f10_0_14.toInt = f0_.toInt ∨ (gi w0 1 (f0_.toInt).toNat).toInt = 32) by first | omega | assumption | (left; omega) | (left; decide) | (right; assumption))  hw hT hF c15 c18 (lv_sub hl [0, 1, 2, 3] rfl)
        · have c45 : v10_5.toInt < (8 : Int) := wk_leF c45
          refine lv_lload_n hx hb dX12_isWord_31 rfl (lv_at hl 2 rfl) ?_
          refine lv_bipush (v := 8) hx hb dX12_isWord_32 (by decide) ?_
          refine lv_lshl hx hb dX12_isWord_34 rfl ?_
          refine lv_topl (fun x46 ex46 => ?_)
          refine lv_aload_n hx hb dX12_isWord_35 rfl (lv_at hl 0 rfl) ?_
          refine tk_getA hC hK hw hT hinX12 kM_at0 (by decide) rfl 0 (by decide) (List.mem_of_getElem? (i := 2) rfl) rfl rfl dX12_isWord_36 ?_
          refine lv_aload_n hx hb dX12_isWord_39 rfl (lv_at hl 0 rfl) ?_
          refine tk_geti hC hK hw hT hinX12 kM_at0 (by decide) rfl 14 (by decide) (List.mem_of_getElem? (i := 1) rfl) rfl rfl dX12_isWord_40 (fun x47 c48 rx47 tx47 => ?_)
          refine wk_top f10_0_14 (c48.symm.trans c18) ?_
          refine lv_iload hx hb dX12_isWord_43 (lv_at hl 3 rfl) ?_
          refine lv_iadd hx hb dX12_isWord_45 ?_
          refine lv_topi (fun x49 ex49 => ?_)
          have ex49 : x49.toInt = f10_0_14.toInt + v10_5.toInt := by rw [ex49]; exact wk_add (show (-2147483648) ≤ f10_0_14.toInt + v10_5.toInt by omega) (show f10_0_14.toInt + v10_5.toInt ≤ 2147483647 by omega)
          refine tk_bald hC hK hw hT kM_at1 rfl rfl (show 0 ≤ x49.toInt by omega) (show x49.toInt < 400 by omega) dX12_isWord_46 (fun x50 c51 rx50 tx50 => ?_)
          have c51 : gi w10 1 (1 * f10_0_14.toInt + 1 * v10_5.toInt + 0).toNat = x50 := (congrArg (gi w10 1) (congrArg Int.toNat (show 1 * f10_0_14.toInt + 1 * v10_5.toInt + 0 = x49.toInt by omega))).trans c51
          refine lv_i2l hx hb dX12_isWord_47 rfl ?_
          refine lv_topl (fun x52 ex52 => ?_)
          have ex52 : x52.toInt = x50.toInt := by rw [ex52]; exact wk_i2l _
          have bx52 := wk_i32 x50
          refine lv_lor hx hb dX12_isWord_48 ?_
          refine lv_topl (fun x53 ex53 => ?_)
          refine lv_lstore_n (lv' := [(3, .long x53), (0, .ref (ad 0)), (1, .long 495874044019), (5, .int v10_5)]) hx hb dX12_isWord_49 rfl hl (by decide) rfl (fun ls hl => ?_)
          exact J50 x53 H locs ls w10 (show 0 ≤ v10_5.toInt by omega) (show v10_5.toInt ≤ 399 by omega) (show 1 ≤ f10_0_1.toInt by omega) (show f10_0_1.toInt ≤ 400 by omega) (show 0 ≤ f10_0_14.toInt by omega) (show f10_0_14.toInt ≤ 399 by omega) (show (f10_0_14.toInt = f0_.toInt ∨ (gi w0 1 (f0_.toInt).toNat).toInt = 32) by first | omega | assumption | (left; omega) | (left; decide) | (right; assumption) | (right; rw [c51]; omega) | (right; rw [c51]; decide))  hw hT hF c15 c18 (lv_sub hl [1, 2, 0, 3] rfl)
  refine lv_aload_n hx hb dX12_isWord_0 rfl (lv_at hl 0 rfl) ?_
  refine tk_Vi hC hK hw hT hA hE hSR kM_at0 (by decide) rfl (k_X12_see_1 l adK adV dC dI cy ad B (by omega) (by omega) qr s1    w0 s.heap.size hT f0_ cf0_ (show 0 ≤ f0_.toInt by omega) (show f0_.toInt ≤ 400 by omega)) (cwV 0 hC.2.2.2.2 gX12_isWord_X12_see rfl rfl rfl (by decide +kernel) ⟨Nat.le_of_ble_eq_true rfl, Nat.le_of_ble_eq_true rfl⟩) rfl hl.1 rfl (Nat.le_of_ble_eq_true rfl) dX12_isWord_1 (fun r54 w56 H locs hp55 hw => ?_)
  obtain ⟨hT, k57, hg74⟩ := hp55
  have hF := hF.tr k57 (by decide)
  rcases hg74 with ⟨g58, g59, ⟨x60, c61, rx60, tx60⟩, ⟨x62, c63, rx62, tx62⟩, g64, g65⟩ | ⟨rfl, ⟨x66, c67, rx66, tx66⟩, ⟨x68, c69, rx68, tx68⟩, g70⟩ | ⟨rfl, ⟨x71, c72, rx71, tx71⟩, g73⟩
  · have g64 : (gi w56 1 (x62.toInt).toNat).toInt ≠ 32 := by have q := g64; simp only [c63] at q; omega
    have g65 : (x62.toInt = f0_.toInt ∨ (gi w0 1 (f0_.toInt).toNat).toInt = 32) := by have q := g65; simp only [cf0_, c63] at q; omega
    refine lv_pop hx hb dX12_isWord_4 rfl ?_
    refine lv_lconst (v := 0) hx hb dX12_isWord_5 (by decide) ?_
    refine lv_lstore_n (lv' := [(3, .long 0), (0, .ref (ad 0)), (1, .long 495874044019)]) hx hb dX12_isWord_6 rfl hl (by decide) rfl (fun ls hl => ?_)
    refine lv_iconst (v := 0) hx hb dX12_isWord_7 (by decide) ?_
    refine lv_istore (lv' := [(5, .int 0), (3, .long 0), (0, .ref (ad 0)), (1, .long 495874044019)]) hx hb dX12_isWord_8 hl (by decide) rfl (fun ls hl => ?_)
    exact L10 ((400 - (0 : Int)).toNat + 1) 0 0 x60 x62 H locs ls w56 (by decide) (by decide) (show 0 ≤ x60.toInt by omega) (show x60.toInt ≤ 400 by omega) (show 0 ≤ x62.toInt by omega) (show x62.toInt ≤ 400 by omega) (show (x62.toInt = f0_.toInt ∨ (gi w0 1 (f0_.toInt).toNat).toInt = 32) by first | omega | assumption | (left; omega) | (left; decide) | (right; assumption)) (Nat.lt_succ_self _) hw hT hF c61 c63 (lv_sub hl [2, 3, 1, 0] rfl)
  · have g70 : (x68.toInt = f0_.toInt ∨ (gi w0 1 (f0_.toInt).toNat).toInt = 32) := by have q := g70; simp only [cf0_, c69] at q; omega
    refine lv_pop hx hb dX12_isWord_4 rfl ?_
    refine lv_lconst (v := 0) hx hb dX12_isWord_5 (by decide) ?_
    refine lv_lstore_n (lv' := [(3, .long 0), (0, .ref (ad 0)), (1, .long 495874044019)]) hx hb dX12_isWord_6 rfl hl (by decide) rfl (fun ls hl => ?_)
    refine lv_iconst (v := 0) hx hb dX12_isWord_7 (by decide) ?_
    refine lv_istore (lv' := [(5, .int 0), (3, .long 0), (0, .ref (ad 0)), (1, .long 495874044019)]) hx hb dX12_isWord_8 hl (by decide) rfl (fun ls hl => ?_)
    exact L10 ((400 - (0 : Int)).toNat + 1) 0 0 x66 x68 H locs ls w56 (by decide) (by decide) (show 0 ≤ x66.toInt by omega) (show x66.toInt ≤ 400 by omega) (show 0 ≤ x68.toInt by omega) (show x68.toInt ≤ 400 by omega) (show (x68.toInt = f0_.toInt ∨ (gi w0 1 (f0_.toInt).toNat).toInt = 32) by first | omega | assumption | (left; omega) | (left; decide) | (right; assumption)) (Nat.lt_succ_self _) hw hT hF c67 c69 (lv_sub hl [2, 3, 1, 0] rfl)
  · obtain ⟨x75, c76, rx75, tx75⟩ := hT.rdi (lo := 0) (hi := 400) (k := 14) kM_at0 (by decide) rfl
    have g73 : (x75.toInt = f0_.toInt ∨ (gi w0 1 (f0_.toInt).toNat).toInt = 32) := by have q := g73; simp only [cf0_, c76] at q; omega
    refine lv_pop hx hb dX12_isWord_4 rfl ?_
    refine lv_lconst (v := 0) hx hb dX12_isWord_5 (by decide) ?_
    refine lv_lstore_n (lv' := [(3, .long 0), (0, .ref (ad 0)), (1, .long 495874044019)]) hx hb dX12_isWord_6 rfl hl (by decide) rfl (fun ls hl => ?_)
    refine lv_iconst (v := 0) hx hb dX12_isWord_7 (by decide) ?_
    refine lv_istore (lv' := [(5, .int 0), (3, .long 0), (0, .ref (ad 0)), (1, .long 495874044019)]) hx hb dX12_isWord_8 hl (by decide) rfl (fun ls hl => ?_)
    exact L10 ((400 - (0 : Int)).toNat + 1) 0 0 x71 x75 H locs ls w56 (by decide) (by decide) (show 0 ≤ x71.toInt by omega) (show x71.toInt ≤ 400 by omega) (show 0 ≤ x75.toInt by omega) (show x75.toInt ≤ 400 by omega) (show (x75.toInt = f0_.toInt ∨ (gi w0 1 (f0_.toInt).toNat).toInt = 32) by first | omega | assumption | (left; omega) | (left; decide) | (right; assumption)) (Nat.lt_succ_self _) hw hT hF c72 c76 (lv_sub hl [2, 3, 1, 0] rfl)
abbrev P_X12_isWord_19 (ad : Nat → Nat) (cy : Nat → ClassId) (B : Int) (qr : Nat) (s1 : Int)  (w0 : va_W) : Int32 → va_W → Prop := fun r u => TW ksM ad cy B qr 12 u ∧ FE ksM [(12, 14, 14)] w0 u ∧ ((r = 0 ∧ (∃ y : Int32, gi u 0 1 = y ∧ 0 ≤ y.toInt ∧ y.toInt ≤ 400) ∧ (((gi u 0 14).toInt = (gi w0 0 14).toInt ∨ (gi w0 1 ((gi w0 0 14).toInt).toNat).toInt = 32))) ∨ (r = 1 ∧ (∃ y : Int32, gi u 0 1 = y ∧ 0 ≤ y.toInt ∧ y.toInt ≤ 400) ∧ (((gi u 0 14).toInt = (gi w0 0 14).toInt ∨ (gi w0 1 ((gi w0 0 14).toInt).toNat).toInt = 32))))
set_option maxHeartbeats 4000000 in
set_option maxRecDepth 100000 in
theorem k_X12_isWord_19 (l : Launch) (adK adV : Nat → Nat) (dC : Nat → ClassId) (dI : Nat → Nat → Nat) (cy : Nat → ClassId) (ad : Nat → Nat) (B : Int) (hB0 : 100000 ≤ B) (hB1 : B ≤ 1073741824) (qr : Nat) (s1 : Int)   (w0 : va_W) (sz : Nat) (hT : TW ksM ad cy B qr 12 w0) (f0_ : Int32) (cf0_ : gi w0 0 14 = f0_) (rf0_ : 0 ≤ f0_.toInt) (tf0_ : f0_.toInt ≤ 400) : Met l yX12_isWord wsX12_isWord ({ frames := 2, cells := 0, slots := 0, locals := 33 }) (va_Pc [.ref (ad 0), .long 6578553] (wpreS adK adV dC dI cy sz w0)) (va_Qi (P_X12_isWord_19 ad cy B qr s1  w0) (fun u : va_W => wpost dC dI cy (va_A w0 sz) u) (va_A w0 sz)) 0 0 (va_A w0 sz) := by
  refine Met.ofW (cc := cX12_isWord) (maxL := 6) (ret := (some .boolean)) (by decide) rfl ?_
  intro p e s m args below meth c s₁ Bk hml hv
  obtain ⟨rfl, ⟨hsz, hP, hK, hD0⟩, hE, hSR⟩ := hv
  have hx := Bk.exec
  have hb := Bk.bytes
  have hr := Bk.returns
  have hlocks := Bk.notSynchronized
  have hC : CallFix p m c cX12_isWord 6 s _ wsX12_isWord RX12 := ⟨hx, hb, hml, findClass_of_methodNamed Bk.named, atoms_spec (ws := wsX12_isWord) Bk.pre⟩
  subst hsz
  have hD := hD0.self (sz := s.heap.size)
  generalize hAe : va_A w0 s.heap.size = A at hD hE ⊢
  have hA : ∀ q : Nat, s.heap.size ≤ q → A q := fun q h => by rw [← hAe]; exact Or.inr h
  have hw : Wd dC dI A s.heap s.heap [] w0 := ⟨hP, hD, va_S.rf⟩
  have hF : FE ksM [(12, 14, 14)] w0 w0 := FE.rf
  have hl := lv_entry ([.ref (ad 0), .long 6578553]) (n := 6) (Nat.le_of_ble_eq_true rfl)
  rw [lg_entry_eq]
  generalize (lg_sl ([.ref (ad 0), .long 6578553]) ++ List.replicate (6 - (lg_sl ([.ref (ad 0), .long 6578553])).length) Slot.unset).toArray = ls at hl ⊢
  have hl : lv_has ls 6 [(0, .ref (ad 0)), (1, .long 6578553)] := hl
  generalize hloc : ([] : List Loc) = locs at hw ⊢
  have hinX12 : ∀ w ∈ u_ws RX12 TX12 42, w ∈ wsX12_isWord := fun _ h => List.mem_cons_of_mem _ (List.mem_append_right _ (h))
  have J78 : ∀ (v78_3 : Int64) (v78_5 : Int32) (f78_0_1 : Int32) (f78_0_14 : Int32) (H : Heap) (locs : List Loc) (ls : Array Slot) (w1 : va_W), 0 ≤ v78_5.toInt → v78_5.toInt ≤ 400 → 0 ≤ f78_0_1.toInt → f78_0_1.toInt ≤ 400 → 0 ≤ f78_0_14.toInt → f78_0_14.toInt ≤ 400 → ((f78_0_14.toInt = f0_.toInt ∨ (gi w0 1 (f0_.toInt).toNat).toInt = 32)) → Wd dC dI A s.heap H locs w1 → TW ksM ad cy B qr 12 w1 → FE ksM [(12, 14, 14)] w0 w1 → gi w1 0 1 = f78_0_1 → gi w1 0 14 = f78_0_14 → lv_has ls 6 [(0, .ref (ad 0)), (1, .long 6578553), (3, .long v78_3), (5, .int v78_5)] → W p l e ({ frames := 2, cells := 0, slots := 0, locals := 33 }) s m (List.toArray [.ref (ad 0), .long 6578553]) below meth c H locs 0 0 (MQ below (va_Qi (P_X12_isWord_19 ad cy B qr s1  w0) (fun u : va_W => wpost dC dI cy A u) A) (List.toArray [.ref (ad 0), .long 6578553]) s 0 0 A) (F0 m 78 ls []) := by
    intro v78_3 v78_5 f78_0_1 f78_0_14 H locs ls w1 r2 t3 r4 t5 r7 t8 hcr78_0 hw hT hF c6 c9 hl
    refine lv_iconst (v := 0) hx hb dX12_isWord_78 (by decide) ?_
    exact tk_zret hC hr rfl hlocks hK ⟨hT, hF, (Or.inl ⟨rfl, ⟨f78_0_1, c6, (show 0 ≤ f78_0_1.toInt by omega), (show f78_0_1.toInt ≤ 400 by omega)⟩, (by simp only [cf0_, c9]; omega)⟩)⟩ hw dX12_isWord_79
  have L10 : ∀ (n10 : Nat) (v10_3 : Int64) (v10_5 : Int32) (f10_0_1 : Int32) (f10_0_14 : Int32) (H : Heap) (locs : List Loc) (ls : Array Slot) (w10 : va_W), 0 ≤ v10_5.toInt → v10_5.toInt ≤ 400 → 0 ≤ f10_0_1.toInt → f10_0_1.toInt ≤ 400 → 0 ≤ f10_0_14.toInt → f10_0_14.toInt ≤ 400 → ((f10_0_14.toInt = f0_.toInt ∨ (gi w0 1 (f0_.toInt).toNat).toInt = 32)) → (400 - v10_5.toInt).toNat < n10 → Wd dC dI A s.heap H locs w10 → TW ksM ad cy B qr 12 w10 → FE ksM [(12, 14, 14)] w0 w10 → gi w10 0 1 = f10_0_1 → gi w10 0 14 = f10_0_14 → lv_has ls 6 [(0, .ref (ad 0)), (1, .long 6578553), (3, .long v10_3), (5, .int v10_5)] → W p l e ({ frames := 2, cells := 0, slots := 0, locals := 33 }) s m (List.toArray [.ref (ad 0), .long 6578553]) below meth c H locs 0 0 (MQ below (va_Qi (P_X12_isWord_19 ad cy B qr s1  w0) (fun u : va_W => wpost dC dI cy A u) A) (List.toArray [.ref (ad 0), .long 6578553]) s 0 0 A) (F0 m 10 ls []) := by
    intro n10
    induction n10 with
    | zero => intro v10_3 v10_5 f10_0_1 f10_0_14 H locs ls w10 r11 t12 r13 t14 r16 t17 hcr10_0 hm10 hw hT hF c15 c18 hl; omega
    | succ n10 ih10 =>
      intro v10_3 v10_5 f10_0_1 f10_0_14 H locs ls w10 r11 t12 r13 t14 r16 t17 hcr10_0 hm10 hw hT hF c15 c18 hl
      have J50 : ∀ (v50_3 : Int64) (H : Heap) (locs : List Loc) (ls : Array Slot) (w19 : va_W), 0 ≤ v10_5.toInt → v10_5.toInt ≤ 399 → 1 ≤ f10_0_1.toInt → f10_0_1.toInt ≤ 400 → 0 ≤ f10_0_14.toInt → f10_0_14.toInt ≤ 399 → ((f10_0_14.toInt = f0_.toInt ∨ (gi w0 1 (f0_.toInt).toNat).toInt = 32)) → Wd dC dI A s.heap H locs w19 → TW ksM ad cy B qr 12 w19 → FE ksM [(12, 14, 14)] w0 w19 → gi w19 0 1 = f10_0_1 → gi w19 0 14 = f10_0_14 → lv_has ls 6 [(0, .ref (ad 0)), (1, .long 6578553), (3, .long v50_3), (5, .int v10_5)] → W p l e ({ frames := 2, cells := 0, slots := 0, locals := 33 }) s m (List.toArray [.ref (ad 0), .long 6578553]) below meth c H locs 0 0 (MQ below (va_Qi (P_X12_isWord_19 ad cy B qr s1  w0) (fun u : va_W => wpost dC dI cy A u) A) (List.toArray [.ref (ad 0), .long 6578553]) s 0 0 A) (F0 m 50 ls []) := by
        intro v50_3 H locs ls w19 r20 t21 r22 t23 r25 t26 hcr50_0 hw hT hF c24 c27 hl
        obtain ⟨x28, ex28⟩ : ∃ y : Int32, y = v10_5 + Int32.ofInt 1 := ⟨_, rfl⟩
        refine lv_iinc (v := x28) (lv' := [(5, .int x28), (0, .ref (ad 0)), (1, .long 6578553), (3, .long v50_3)]) hx hb dX12_isWord_50 hl (k := 3) rfl ex28.symm (by decide) rfl (fun ls hl => ?_)
        have ex28 : x28.toInt = v10_5.toInt + 1 := by rw [ex28]; exact wk_add (y := 1) (show -2147483648 ≤ v10_5.toInt + 1 by omega) (show v10_5.toInt + 1 ≤ 2147483647 by omega)
        refine lv_goto (tgt := 10) hx hb dX12_isWord_53 (by decide) ?_
        exact ih10 v50_3 x28 f10_0_1 f10_0_14 H locs ls w19 (show 0 ≤ x28.toInt by omega) (show x28.toInt ≤ 400 by omega) (show 0 ≤ f10_0_1.toInt by omega) (show f10_0_1.toInt ≤ 400 by omega) (show 0 ≤ f10_0_14.toInt by omega) (show f10_0_14.toInt ≤ 400 by omega) (show (f10_0_14.toInt = f0_.toInt ∨ (gi w0 1 (f0_.toInt).toNat).toInt = 32) by first | omega | assumption | (left; omega) | (left; decide) | (right; assumption)) (show (400 - x28.toInt).toNat < n10 by omega) hw hT hF c24 c27 (lv_sub hl [1, 2, 3, 0] rfl)
      refine lv_aload_n hx hb dX12_isWord_10 rfl (lv_at hl 0 rfl) ?_
      refine lv_aload_n hx hb dX12_isWord_11 rfl (lv_at hl 0 rfl) ?_
      refine tk_geti hC hK hw hT hinX12 kM_at0 (by decide) rfl 14 (by decide) (List.mem_of_getElem? (i := 1) rfl) rfl rfl dX12_isWord_12 (fun x29 c30 rx29 tx29 => ?_)
      refine wk_top f10_0_14 (c30.symm.trans c18) ?_
      refine lv_iload hx hb dX12_isWord_15 (lv_at hl 3 rfl) ?_
      refine lv_iadd hx hb dX12_isWord_17 ?_
      refine lv_topi (fun x31 ex31 => ?_)
      have ex31 : x31.toInt = f10_0_14.toInt + v10_5.toInt := by rw [ex31]; exact wk_add (show (-2147483648) ≤ f10_0_14.toInt + v10_5.toInt by omega) (show f10_0_14.toInt + v10_5.toInt ≤ 2147483647 by omega)
      refine tk_Vi hC hK hw hT hA hE hSR kM_at0 (by decide) rfl (k_X12_isLetter_1 l adK adV dC dI cy ad B (by omega) (by omega) qr s1   x31 (show 0 ≤ x31.toInt by omega) (show x31.toInt ≤ 800 by omega) w10 H.size hT ) (cwV 1 hC.2.2.2.2 gX12_isWord_X12_isLetter rfl rfl rfl (by decide +kernel) ⟨Nat.le_of_ble_eq_true rfl, Nat.le_of_ble_eq_true rfl⟩) rfl hl.1 rfl (Nat.le_of_ble_eq_true rfl) dX12_isWord_18 (fun r32 w34 H locs hp33 hw => ?_)
      obtain ⟨rfl, hg41⟩ := hp33
      rcases hg41 with ⟨rfl, ⟨x36, c37, rx36, tx36⟩⟩ | ⟨rfl, g38, ⟨x39, c40, rx39, tx39⟩⟩
      · have ex36 : x36.toInt = f10_0_1.toInt := by rw [← c15.symm.trans c37]
        refine lv_if_eq (tgt := 56) hx hb dX12_isWord_21 (by decide) (fun _ => ?_) (fun c => absurd (by decide) c)
        refine lv_iload hx hb dX12_isWord_56 (lv_at hl 3 rfl) ?_
        refine lv_if_le (tgt := 78) hx hb dX12_isWord_58 (by decide) (fun c42 => ?_) (fun c42 => ?_)
        · have c42 : v10_5.toInt ≤ (0 : Int) := wk_le.mp c42
          exact J78 v10_3 v10_5 f10_0_1 f10_0_14 H locs ls w10 (show 0 ≤ v10_5.toInt by omega) (show v10_5.toInt ≤ 400 by omega) (show 0 ≤ f10_0_1.toInt by omega) (show f10_0_1.toInt ≤ 400 by omega) (show 0 ≤ f10_0_14.toInt by omega) (show f10_0_14.toInt ≤ 400 by omega) (show (f10_0_14.toInt = f0_.toInt ∨ (gi w0 1 (f0_.toInt).toNat).toInt = 32) by first | omega | assumption | (left; omega) | (left; decide) | (right; assumption))  hw hT hF c15 c18 (lv_sub hl [0, 1, 2, 3] rfl)
        · have c42 : (0 : Int) < v10_5.toInt := wk_leF c42
          refine lv_iload hx hb dX12_isWord_61 (lv_at hl 3 rfl) ?_
          refine lv_bipush (v := 8) hx hb dX12_isWord_63 (by decide) ?_
          refine lv_icmp_ge (tgt := 78) hx hb dX12_isWord_65 (by decide) (fun c43 => ?_) (fun c43 => ?_)
          · have c43 : (8 : Int) ≤ v10_5.toInt := wk_le.mp c43
            exact J78 v10_3 v10_5 f10_0_1 f10_0_14 H locs ls w10 (show 0 ≤ v10_5.toInt by omega) (show v10_5.toInt ≤ 400 by omega) (show 0 ≤ f10_0_1.toInt by omega) (show f10_0_1.toInt ≤ 400 by omega) (show 0 ≤ f10_0_14.toInt by omega) (show f10_0_14.toInt ≤ 400 by omega) (show (f10_0_14.toInt = f0_.toInt ∨ (gi w0 1 (f0_.toInt).toNat).toInt = 32) by first | omega | assumption | (left; omega) | (left; decide) | (right; assumption))  hw hT hF c15 c18 (lv_sub hl [0, 1, 2, 3] rfl)
          · have c43 : v10_5.toInt < (8 : Int) := wk_leF c43
            refine lv_lload_n hx hb dX12_isWord_68 rfl (lv_at hl 2 rfl) ?_
            refine lv_lload_n hx hb dX12_isWord_69 rfl (lv_at hl 1 rfl) ?_
            refine W.lcmp hx hb dX12_isWord_70 ?_
            refine lv_if_ne (tgt := 78) hx hb dX12_isWord_71 (by decide) (fun c44 => ?_) (fun c44 => ?_)
            · have c44 : ¬ v10_3.toInt = (6578553 : Int) := wk_ceF c44
              exact J78 v10_3 v10_5 f10_0_1 f10_0_14 H locs ls w10 (show 0 ≤ v10_5.toInt by omega) (show v10_5.toInt ≤ 400 by omega) (show 0 ≤ f10_0_1.toInt by omega) (show f10_0_1.toInt ≤ 400 by omega) (show 0 ≤ f10_0_14.toInt by omega) (show f10_0_14.toInt ≤ 400 by omega) (show (f10_0_14.toInt = f0_.toInt ∨ (gi w0 1 (f0_.toInt).toNat).toInt = 32) by first | omega | assumption | (left; omega) | (left; decide) | (right; assumption))  hw hT hF c15 c18 (lv_sub hl [0, 1, 2, 3] rfl)
            · have c44 : v10_3.toInt = (6578553 : Int) := wk_ceT c44
              refine lv_iconst (v := 1) hx hb dX12_isWord_74 (by decide) ?_
              refine lv_goto (tgt := 79) hx hb dX12_isWord_75 (by decide) ?_
              exact tk_zret hC hr rfl hlocks hK ⟨hT, hF, (Or.inr ⟨rfl, ⟨f10_0_1, c15, (show 0 ≤ f10_0_1.toInt by omega), (show f10_0_1.toInt ≤ 400 by omega)⟩, (by simp only [cf0_, c18]; omega)⟩)⟩ hw dX12_isWord_79
      · have ex39 : x39.toInt = f10_0_1.toInt := by rw [← c15.symm.trans c40]
        refine lv_if_eq (tgt := 56) hx hb dX12_isWord_21 (by decide) (fun c => absurd c (by decide)) (fun _ => ?_)
        refine lv_iload hx hb dX12_isWord_24 (lv_at hl 3 rfl) ?_
        refine lv_bipush (v := 8) hx hb dX12_isWord_26 (by decide) ?_
        refine lv_icmp_ge (tgt := 50) hx hb dX12_isWord_28 (by decide) (fun c45 => ?_) (fun c45 => ?_)
        · have c45 : (8 : Int) ≤ v10_5.toInt := wk_le.mp c45
          exact J50 v10_3 H locs ls w10 (show 0 ≤ v10_5.toInt by omega) (show v10_5.toInt ≤ 399 by omega) (show 1 ≤ f10_0_1.toInt by omega) (show f10_0_1.toInt ≤ 400 by omega) (show 0 ≤ f10_0_14.toInt by omega) (show f10_0_14.toInt ≤ 399 by omega) (show (f10_0_14.toInt = f0_.toInt ∨ (gi w0 1 (f0_.toInt).toNat).toInt = 32) by first | omega | assumption | (left; omega) | (left; decide) | (right; assumption))  hw hT hF c15 c18 (lv_sub hl [0, 1, 2, 3] rfl)
        · have c45 : v10_5.toInt < (8 : Int) := wk_leF c45
          refine lv_lload_n hx hb dX12_isWord_31 rfl (lv_at hl 2 rfl) ?_
          refine lv_bipush (v := 8) hx hb dX12_isWord_32 (by decide) ?_
          refine lv_lshl hx hb dX12_isWord_34 rfl ?_
          refine lv_topl (fun x46 ex46 => ?_)
          refine lv_aload_n hx hb dX12_isWord_35 rfl (lv_at hl 0 rfl) ?_
          refine tk_getA hC hK hw hT hinX12 kM_at0 (by decide) rfl 0 (by decide) (List.mem_of_getElem? (i := 2) rfl) rfl rfl dX12_isWord_36 ?_
          refine lv_aload_n hx hb dX12_isWord_39 rfl (lv_at hl 0 rfl) ?_
          refine tk_geti hC hK hw hT hinX12 kM_at0 (by decide) rfl 14 (by decide) (List.mem_of_getElem? (i := 1) rfl) rfl rfl dX12_isWord_40 (fun x47 c48 rx47 tx47 => ?_)
          refine wk_top f10_0_14 (c48.symm.trans c18) ?_
          refine lv_iload hx hb dX12_isWord_43 (lv_at hl 3 rfl) ?_
          refine lv_iadd hx hb dX12_isWord_45 ?_
          refine lv_topi (fun x49 ex49 => ?_)
          have ex49 : x49.toInt = f10_0_14.toInt + v10_5.toInt := by rw [ex49]; exact wk_add (show (-2147483648) ≤ f10_0_14.toInt + v10_5.toInt by omega) (show f10_0_14.toInt + v10_5.toInt ≤ 2147483647 by omega)
          refine tk_bald hC hK hw hT kM_at1 rfl rfl (show 0 ≤ x49.toInt by omega) (show x49.toInt < 400 by omega) dX12_isWord_46 (fun x50 c51 rx50 tx50 => ?_)
          have c51 : gi w10 1 (1 * f10_0_14.toInt + 1 * v10_5.toInt + 0).toNat = x50 := (congrArg (gi w10 1) (congrArg Int.toNat (show 1 * f10_0_14.toInt + 1 * v10_5.toInt + 0 = x49.toInt by omega))).trans c51
          refine lv_i2l hx hb dX12_isWord_47 rfl ?_
          refine lv_topl (fun x52 ex52 => ?_)
          have ex52 : x52.toInt = x50.toInt := by rw [ex52]; exact wk_i2l _
          have bx52 := wk_i32 x50
          refine lv_lor hx hb dX12_isWord_48 ?_
          refine lv_topl (fun x53 ex53 => ?_)
          refine lv_lstore_n (lv' := [(3, .long x53), (0, .ref (ad 0)), (1, .long 6578553), (5, .int v10_5)]) hx hb dX12_isWord_49 rfl hl (by decide) rfl (fun ls hl => ?_)
          exact J50 x53 H locs ls w10 (show 0 ≤ v10_5.toInt by omega) (show v10_5.toInt ≤ 399 by omega) (show 1 ≤ f10_0_1.toInt by omega) (show f10_0_1.toInt ≤ 400 by omega) (show 0 ≤ f10_0_14.toInt by omega) (show f10_0_14.toInt ≤ 399 by omega) (show (f10_0_14.toInt = f0_.toInt ∨ (gi w0 1 (f0_.toInt).toNat).toInt = 32) by first | omega | assumption | (left; omega) | (left; decide) | (right; assumption) | (right; rw [c51]; omega) | (right; rw [c51]; decide))  hw hT hF c15 c18 (lv_sub hl [1, 2, 0, 3] rfl)
  refine lv_aload_n hx hb dX12_isWord_0 rfl (lv_at hl 0 rfl) ?_
  refine tk_Vi hC hK hw hT hA hE hSR kM_at0 (by decide) rfl (k_X12_see_1 l adK adV dC dI cy ad B (by omega) (by omega) qr s1    w0 s.heap.size hT f0_ cf0_ (show 0 ≤ f0_.toInt by omega) (show f0_.toInt ≤ 400 by omega)) (cwV 0 hC.2.2.2.2 gX12_isWord_X12_see rfl rfl rfl (by decide +kernel) ⟨Nat.le_of_ble_eq_true rfl, Nat.le_of_ble_eq_true rfl⟩) rfl hl.1 rfl (Nat.le_of_ble_eq_true rfl) dX12_isWord_1 (fun r54 w56 H locs hp55 hw => ?_)
  obtain ⟨hT, k57, hg74⟩ := hp55
  have hF := hF.tr k57 (by decide)
  rcases hg74 with ⟨g58, g59, ⟨x60, c61, rx60, tx60⟩, ⟨x62, c63, rx62, tx62⟩, g64, g65⟩ | ⟨rfl, ⟨x66, c67, rx66, tx66⟩, ⟨x68, c69, rx68, tx68⟩, g70⟩ | ⟨rfl, ⟨x71, c72, rx71, tx71⟩, g73⟩
  · have g64 : (gi w56 1 (x62.toInt).toNat).toInt ≠ 32 := by have q := g64; simp only [c63] at q; omega
    have g65 : (x62.toInt = f0_.toInt ∨ (gi w0 1 (f0_.toInt).toNat).toInt = 32) := by have q := g65; simp only [cf0_, c63] at q; omega
    refine lv_pop hx hb dX12_isWord_4 rfl ?_
    refine lv_lconst (v := 0) hx hb dX12_isWord_5 (by decide) ?_
    refine lv_lstore_n (lv' := [(3, .long 0), (0, .ref (ad 0)), (1, .long 6578553)]) hx hb dX12_isWord_6 rfl hl (by decide) rfl (fun ls hl => ?_)
    refine lv_iconst (v := 0) hx hb dX12_isWord_7 (by decide) ?_
    refine lv_istore (lv' := [(5, .int 0), (3, .long 0), (0, .ref (ad 0)), (1, .long 6578553)]) hx hb dX12_isWord_8 hl (by decide) rfl (fun ls hl => ?_)
    exact L10 ((400 - (0 : Int)).toNat + 1) 0 0 x60 x62 H locs ls w56 (by decide) (by decide) (show 0 ≤ x60.toInt by omega) (show x60.toInt ≤ 400 by omega) (show 0 ≤ x62.toInt by omega) (show x62.toInt ≤ 400 by omega) (show (x62.toInt = f0_.toInt ∨ (gi w0 1 (f0_.toInt).toNat).toInt = 32) by first | omega | assumption | (left; omega) | (left; decide) | (right; assumption)) (Nat.lt_succ_self _) hw hT hF c61 c63 (lv_sub hl [2, 3, 1, 0] rfl)
  · have g70 : (x68.toInt = f0_.toInt ∨ (gi w0 1 (f0_.toInt).toNat).toInt = 32) := by have q := g70; simp only [cf0_, c69] at q; omega
    refine lv_pop hx hb dX12_isWord_4 rfl ?_
    refine lv_lconst (v := 0) hx hb dX12_isWord_5 (by decide) ?_
    refine lv_lstore_n (lv' := [(3, .long 0), (0, .ref (ad 0)), (1, .long 6578553)]) hx hb dX12_isWord_6 rfl hl (by decide) rfl (fun ls hl => ?_)
    refine lv_iconst (v := 0) hx hb dX12_isWord_7 (by decide) ?_
    refine lv_istore (lv' := [(5, .int 0), (3, .long 0), (0, .ref (ad 0)), (1, .long 6578553)]) hx hb dX12_isWord_8 hl (by decide) rfl (fun ls hl => ?_)
    exact L10 ((400 - (0 : Int)).toNat + 1) 0 0 x66 x68 H locs ls w56 (by decide) (by decide) (show 0 ≤ x66.toInt by omega) (show x66.toInt ≤ 400 by omega) (show 0 ≤ x68.toInt by omega) (show x68.toInt ≤ 400 by omega) (show (x68.toInt = f0_.toInt ∨ (gi w0 1 (f0_.toInt).toNat).toInt = 32) by first | omega | assumption | (left; omega) | (left; decide) | (right; assumption)) (Nat.lt_succ_self _) hw hT hF c67 c69 (lv_sub hl [2, 3, 1, 0] rfl)
  · obtain ⟨x75, c76, rx75, tx75⟩ := hT.rdi (lo := 0) (hi := 400) (k := 14) kM_at0 (by decide) rfl
    have g73 : (x75.toInt = f0_.toInt ∨ (gi w0 1 (f0_.toInt).toNat).toInt = 32) := by have q := g73; simp only [cf0_, c76] at q; omega
    refine lv_pop hx hb dX12_isWord_4 rfl ?_
    refine lv_lconst (v := 0) hx hb dX12_isWord_5 (by decide) ?_
    refine lv_lstore_n (lv' := [(3, .long 0), (0, .ref (ad 0)), (1, .long 6578553)]) hx hb dX12_isWord_6 rfl hl (by decide) rfl (fun ls hl => ?_)
    refine lv_iconst (v := 0) hx hb dX12_isWord_7 (by decide) ?_
    refine lv_istore (lv' := [(5, .int 0), (3, .long 0), (0, .ref (ad 0)), (1, .long 6578553)]) hx hb dX12_isWord_8 hl (by decide) rfl (fun ls hl => ?_)
    exact L10 ((400 - (0 : Int)).toNat + 1) 0 0 x71 x75 H locs ls w56 (by decide) (by decide) (show 0 ≤ x71.toInt by omega) (show x71.toInt ≤ 400 by omega) (show 0 ≤ x75.toInt by omega) (show x75.toInt ≤ 400 by omega) (show (x75.toInt = f0_.toInt ∨ (gi w0 1 (f0_.toInt).toNat).toInt = 32) by first | omega | assumption | (left; omega) | (left; decide) | (right; assumption)) (Nat.lt_succ_self _) hw hT hF c72 c76 (lv_sub hl [2, 3, 1, 0] rfl)
abbrev P_X12_wordHere_1 (ad : Nat → Nat) (cy : Nat → ClassId) (B : Int) (qr : Nat) (s1 : Int)  (w0 : va_W) : Int32 → va_W → Prop := fun r u => TW ksM ad cy B qr 12 u ∧ FE ksM [(12, 14, 14)] w0 u ∧ ((0 ≤ r.toInt ∧ r.toInt ≤ 9 ∧ (∃ y : Int32, gi u 0 1 = y ∧ 0 ≤ y.toInt ∧ y.toInt ≤ 400)) ∨ (r = (-1) ∧ (∃ y : Int32, gi u 0 1 = y ∧ 0 ≤ y.toInt ∧ y.toInt ≤ 400)))
set_option maxHeartbeats 4000000 in
set_option maxRecDepth 100000 in
theorem k_X12_wordHere_1 (l : Launch) (adK adV : Nat → Nat) (dC : Nat → ClassId) (dI : Nat → Nat → Nat) (cy : Nat → ClassId) (ad : Nat → Nat) (B : Int) (hB0 : 100000 ≤ B) (hB1 : B ≤ 1073741824) (qr : Nat) (s1 : Int)   (w0 : va_W) (sz : Nat) (hT : TW ksM ad cy B qr 12 w0)  : Met l yX12_wordHere wsX12_wordHere ({ frames := 3, cells := 0, slots := 0, locals := 58 }) (va_Pc [.ref (ad 0)] (wpreS adK adV dC dI cy sz w0)) (va_Qi (P_X12_wordHere_1 ad cy B qr s1  w0) (fun u : va_W => wpost dC dI cy (va_A w0 sz) u) (va_A w0 sz)) 0 0 (va_A w0 sz) := by
  refine Met.ofW (cc := cX12_wordHere) (maxL := 1) (ret := (some .int)) (by decide) rfl ?_
  intro p e s m args below meth c s₁ Bk hml hv
  obtain ⟨rfl, ⟨hsz, hP, hK, hD0⟩, hE, hSR⟩ := hv
  have hx := Bk.exec
  have hb := Bk.bytes
  have hr := Bk.returns
  have hlocks := Bk.notSynchronized
  have hC : CallFix p m c cX12_wordHere 1 s _ wsX12_wordHere RX12 := ⟨hx, hb, hml, findClass_of_methodNamed Bk.named, atoms_spec (ws := wsX12_wordHere) Bk.pre⟩
  subst hsz
  have hD := hD0.self (sz := s.heap.size)
  generalize hAe : va_A w0 s.heap.size = A at hD hE ⊢
  have hA : ∀ q : Nat, s.heap.size ≤ q → A q := fun q h => by rw [← hAe]; exact Or.inr h
  have hw : Wd dC dI A s.heap s.heap [] w0 := ⟨hP, hD, va_S.rf⟩
  have hF : FE ksM [(12, 14, 14)] w0 w0 := FE.rf
  have hl := lv_entry ([.ref (ad 0)]) (n := 1) (Nat.le_of_ble_eq_true rfl)
  rw [lg_entry_eq]
  generalize (lg_sl ([.ref (ad 0)]) ++ List.replicate (1 - (lg_sl ([.ref (ad 0)])).length) Slot.unset).toArray = ls at hl ⊢
  have hl : lv_has ls 1 [(0, .ref (ad 0))] := hl
  generalize hloc : ([] : List Loc) = locs at hw ⊢
  refine lv_aload_n hx hb dX12_wordHere_0 rfl (lv_at hl 0 rfl) ?_
  refine lv_ldc2 (v := 1752135026) hx hb hC.2.2.2.1 (hC.2.2.2.2 _ (List.mem_of_getElem? (i := 1) rfl)) dX12_wordHere_1 ?_
  obtain ⟨x1, c2, rx1, tx1⟩ := hT.rdi (lo := 0) (hi := 400) (k := 14) kM_at0 (by decide) rfl
  refine tk_Vi hC hK hw hT hA hE hSR kM_at0 (by decide) rfl (k_X12_isWord_14 l adK adV dC dI cy ad B (by omega) (by omega) qr s1    w0 s.heap.size hT x1 c2 (show 0 ≤ x1.toInt by omega) (show x1.toInt ≤ 400 by omega)) (cwV 1 hC.2.2.2.2 gX12_wordHere_X12_isWord rfl rfl rfl (by decide +kernel) ⟨Nat.le_of_ble_eq_true rfl, Nat.le_of_ble_eq_true rfl⟩) rfl hl.1 rfl (Nat.le_of_ble_eq_true rfl) dX12_wordHere_4 (fun r3 w5 H locs hp4 hw => ?_)
  obtain ⟨hT, k6, hg13⟩ := hp4
  have hF := hF.tr k6 (by decide)
  rcases hg13 with ⟨rfl, ⟨x7, c8, rx7, tx7⟩, g9⟩ | ⟨rfl, ⟨x10, c11, rx10, tx10⟩, g12⟩
  · obtain ⟨x14, c15, rx14, tx14⟩ := hT.rdi (lo := 0) (hi := 400) (k := 14) kM_at0 (by decide) rfl
    have g9 : (x14.toInt = x1.toInt ∨ (gi w0 1 (x1.toInt).toNat).toInt = 32) := by have q := g9; simp only [c2, c15] at q; omega
    refine lv_if_eq (tgt := 12) hx hb dX12_wordHere_7 (by decide) (fun _ => ?_) (fun c => absurd (by decide) c)
    refine lv_aload_n hx hb dX12_wordHere_12 rfl (lv_at hl 0 rfl) ?_
    refine lv_ldc2 (v := 6578553) hx hb hC.2.2.2.1 (hC.2.2.2.2 _ (List.mem_of_getElem? (i := 2) rfl)) dX12_wordHere_13 ?_
    refine tk_Vi hC hK hw hT hA hE hSR kM_at0 (by decide) rfl (k_X12_isWord_19 l adK adV dC dI cy ad B (by omega) (by omega) qr s1    w5 H.size hT x14 c15 (show 0 ≤ x14.toInt by omega) (show x14.toInt ≤ 400 by omega)) (cwV 1 hC.2.2.2.2 gX12_wordHere_X12_isWord rfl rfl rfl (by decide +kernel) ⟨Nat.le_of_ble_eq_true rfl, Nat.le_of_ble_eq_true rfl⟩) rfl hl.1 rfl (Nat.le_of_ble_eq_true rfl) dX12_wordHere_16 (fun r18 w20 H locs hp19 hw => ?_)
    obtain ⟨hT, k21, hg28⟩ := hp19
    have hF := hF.tr k21 (by decide)
    have c29 := k21.gi kM_at0 (by decide) c8
    rcases hg28 with ⟨rfl, ⟨x22, c23, rx22, tx22⟩, g24⟩ | ⟨rfl, ⟨x25, c26, rx25, tx25⟩, g27⟩
    · have ex22 : x22.toInt = x7.toInt := by rw [← c29.symm.trans c23]
      obtain ⟨x30, c31, rx30, tx30⟩ := hT.rdi (lo := 0) (hi := 400) (k := 14) kM_at0 (by decide) rfl
      have g24 : (x30.toInt = x14.toInt ∨ (gi w5 1 (x14.toInt).toNat).toInt = 32) := by have q := g24; simp only [c15, c31] at q; omega
      refine lv_if_eq (tgt := 24) hx hb dX12_wordHere_19 (by decide) (fun _ => ?_) (fun c => absurd (by decide) c)
      refine lv_aload_n hx hb dX12_wordHere_24 rfl (lv_at hl 0 rfl) ?_
      refine lv_ldc2 (v := 1684108389) hx hb hC.2.2.2.1 (hC.2.2.2.2 _ (List.mem_of_getElem? (i := 3) rfl)) dX12_wordHere_25 ?_
      refine tk_Vi hC hK hw hT hA hE hSR kM_at0 (by decide) rfl (k_X12_isWord_12 l adK adV dC dI cy ad B (by omega) (by omega) qr s1    w20 H.size hT x30 c31 (show 0 ≤ x30.toInt by omega) (show x30.toInt ≤ 400 by omega)) (cwV 1 hC.2.2.2.2 gX12_wordHere_X12_isWord rfl rfl rfl (by decide +kernel) ⟨Nat.le_of_ble_eq_true rfl, Nat.le_of_ble_eq_true rfl⟩) rfl hl.1 rfl (Nat.le_of_ble_eq_true rfl) dX12_wordHere_28 (fun r34 w36 H locs hp35 hw => ?_)
      obtain ⟨hT, k37, hg44⟩ := hp35
      have hF := hF.tr k37 (by decide)
      have c45 := k37.gi kM_at0 (by decide) c29
      rcases hg44 with ⟨rfl, ⟨x38, c39, rx38, tx38⟩, g40⟩ | ⟨rfl, ⟨x41, c42, rx41, tx41⟩, g43⟩
      · have ex38 : x38.toInt = x7.toInt := by rw [← c45.symm.trans c39]
        obtain ⟨x46, c47, rx46, tx46⟩ := hT.rdi (lo := 0) (hi := 400) (k := 14) kM_at0 (by decide) rfl
        have g40 : (x46.toInt = x30.toInt ∨ (gi w20 1 (x30.toInt).toNat).toInt = 32) := by have q := g40; simp only [c31, c47] at q; omega
        refine lv_if_eq (tgt := 36) hx hb dX12_wordHere_31 (by decide) (fun _ => ?_) (fun c => absurd (by decide) c)
        refine lv_aload_n hx hb dX12_wordHere_36 rfl (lv_at hl 0 rfl) ?_
        refine lv_ldc2 (v := 109330312357234) hx hb hC.2.2.2.1 (hC.2.2.2.2 _ (List.mem_of_getElem? (i := 4) rfl)) dX12_wordHere_37 ?_
        refine tk_Vi hC hK hw hT hA hE hSR kM_at0 (by decide) rfl (k_X12_isWord_10 l adK adV dC dI cy ad B (by omega) (by omega) qr s1    w36 H.size hT x46 c47 (show 0 ≤ x46.toInt by omega) (show x46.toInt ≤ 400 by omega)) (cwV 1 hC.2.2.2.2 gX12_wordHere_X12_isWord rfl rfl rfl (by decide +kernel) ⟨Nat.le_of_ble_eq_true rfl, Nat.le_of_ble_eq_true rfl⟩) rfl hl.1 rfl (Nat.le_of_ble_eq_true rfl) dX12_wordHere_40 (fun r50 w52 H locs hp51 hw => ?_)
        obtain ⟨hT, k53, hg60⟩ := hp51
        have hF := hF.tr k53 (by decide)
        have c61 := k53.gi kM_at0 (by decide) c45
        rcases hg60 with ⟨rfl, ⟨x54, c55, rx54, tx54⟩, g56⟩ | ⟨rfl, ⟨x57, c58, rx57, tx57⟩, g59⟩
        · have ex54 : x54.toInt = x7.toInt := by rw [← c61.symm.trans c55]
          obtain ⟨x62, c63, rx62, tx62⟩ := hT.rdi (lo := 0) (hi := 400) (k := 14) kM_at0 (by decide) rfl
          have g56 : (x62.toInt = x46.toInt ∨ (gi w36 1 (x46.toInt).toNat).toInt = 32) := by have q := g56; simp only [c47, c63] at q; omega
          refine lv_if_eq (tgt := 48) hx hb dX12_wordHere_43 (by decide) (fun _ => ?_) (fun c => absurd (by decide) c)
          refine lv_aload_n hx hb dX12_wordHere_48 rfl (lv_at hl 0 rfl) ?_
          refine lv_ldc2 (v := 1735352684) hx hb hC.2.2.2.1 (hC.2.2.2.2 _ (List.mem_of_getElem? (i := 5) rfl)) dX12_wordHere_49 ?_
          refine tk_Vi hC hK hw hT hA hE hSR kM_at0 (by decide) rfl (k_X12_isWord_13 l adK adV dC dI cy ad B (by omega) (by omega) qr s1    w52 H.size hT x62 c63 (show 0 ≤ x62.toInt by omega) (show x62.toInt ≤ 400 by omega)) (cwV 1 hC.2.2.2.2 gX12_wordHere_X12_isWord rfl rfl rfl (by decide +kernel) ⟨Nat.le_of_ble_eq_true rfl, Nat.le_of_ble_eq_true rfl⟩) rfl hl.1 rfl (Nat.le_of_ble_eq_true rfl) dX12_wordHere_52 (fun r66 w68 H locs hp67 hw => ?_)
          obtain ⟨hT, k69, hg76⟩ := hp67
          have hF := hF.tr k69 (by decide)
          have c77 := k69.gi kM_at0 (by decide) c61
          rcases hg76 with ⟨rfl, ⟨x70, c71, rx70, tx70⟩, g72⟩ | ⟨rfl, ⟨x73, c74, rx73, tx73⟩, g75⟩
          · have ex70 : x70.toInt = x7.toInt := by rw [← c77.symm.trans c71]
            obtain ⟨x78, c79, rx78, tx78⟩ := hT.rdi (lo := 0) (hi := 400) (k := 14) kM_at0 (by decide) rfl
            have g72 : (x78.toInt = x62.toInt ∨ (gi w52 1 (x62.toInt).toNat).toInt = 32) := by have q := g72; simp only [c63, c79] at q; omega
            refine lv_if_eq (tgt := 60) hx hb dX12_wordHere_55 (by decide) (fun _ => ?_) (fun c => absurd (by decide) c)
            refine lv_aload_n hx hb dX12_wordHere_60 rfl (lv_at hl 0 rfl) ?_
            refine lv_ldc2 (v := 1936225652) hx hb hC.2.2.2.1 (hC.2.2.2.2 _ (List.mem_of_getElem? (i := 6) rfl)) dX12_wordHere_61 ?_
            refine tk_Vi hC hK hw hT hA hE hSR kM_at0 (by decide) rfl (k_X12_isWord_16 l adK adV dC dI cy ad B (by omega) (by omega) qr s1    w68 H.size hT x78 c79 (show 0 ≤ x78.toInt by omega) (show x78.toInt ≤ 400 by omega)) (cwV 1 hC.2.2.2.2 gX12_wordHere_X12_isWord rfl rfl rfl (by decide +kernel) ⟨Nat.le_of_ble_eq_true rfl, Nat.le_of_ble_eq_true rfl⟩) rfl hl.1 rfl (Nat.le_of_ble_eq_true rfl) dX12_wordHere_64 (fun r82 w84 H locs hp83 hw => ?_)
            obtain ⟨hT, k85, hg92⟩ := hp83
            have hF := hF.tr k85 (by decide)
            have c93 := k85.gi kM_at0 (by decide) c77
            rcases hg92 with ⟨rfl, ⟨x86, c87, rx86, tx86⟩, g88⟩ | ⟨rfl, ⟨x89, c90, rx89, tx89⟩, g91⟩
            · have ex86 : x86.toInt = x7.toInt := by rw [← c93.symm.trans c87]
              obtain ⟨x94, c95, rx94, tx94⟩ := hT.rdi (lo := 0) (hi := 400) (k := 14) kM_at0 (by decide) rfl
              have g88 : (x94.toInt = x78.toInt ∨ (gi w68 1 (x78.toInt).toNat).toInt = 32) := by have q := g88; simp only [c79, c95] at q; omega
              refine lv_if_eq (tgt := 72) hx hb dX12_wordHere_67 (by decide) (fun _ => ?_) (fun c => absurd (by decide) c)
              refine lv_aload_n hx hb dX12_wordHere_72 rfl (lv_at hl 0 rfl) ?_
              refine lv_ldc2 (v := 1818584692) hx hb hC.2.2.2.1 (hC.2.2.2.2 _ (List.mem_of_getElem? (i := 7) rfl)) dX12_wordHere_73 ?_
              refine tk_Vi hC hK hw hT hA hE hSR kM_at0 (by decide) rfl (k_X12_isWord_15 l adK adV dC dI cy ad B (by omega) (by omega) qr s1    w84 H.size hT x94 c95 (show 0 ≤ x94.toInt by omega) (show x94.toInt ≤ 400 by omega)) (cwV 1 hC.2.2.2.2 gX12_wordHere_X12_isWord rfl rfl rfl (by decide +kernel) ⟨Nat.le_of_ble_eq_true rfl, Nat.le_of_ble_eq_true rfl⟩) rfl hl.1 rfl (Nat.le_of_ble_eq_true rfl) dX12_wordHere_76 (fun r98 w100 H locs hp99 hw => ?_)
              obtain ⟨hT, k101, hg108⟩ := hp99
              have hF := hF.tr k101 (by decide)
              have c109 := k101.gi kM_at0 (by decide) c93
              rcases hg108 with ⟨rfl, ⟨x102, c103, rx102, tx102⟩, g104⟩ | ⟨rfl, ⟨x105, c106, rx105, tx105⟩, g107⟩
              · have ex102 : x102.toInt = x7.toInt := by rw [← c109.symm.trans c103]
                obtain ⟨x110, c111, rx110, tx110⟩ := hT.rdi (lo := 0) (hi := 400) (k := 14) kM_at0 (by decide) rfl
                have g104 : (x110.toInt = x94.toInt ∨ (gi w84 1 (x94.toInt).toNat).toInt = 32) := by have q := g104; simp only [c95, c111] at q; omega
                refine lv_if_eq (tgt := 85) hx hb dX12_wordHere_79 (by decide) (fun _ => ?_) (fun c => absurd (by decide) c)
                refine lv_aload_n hx hb dX12_wordHere_85 rfl (lv_at hl 0 rfl) ?_
                refine lv_ldc2 (v := 495874044019) hx hb hC.2.2.2.1 (hC.2.2.2.2 _ (List.mem_of_getElem? (i := 8) rfl)) dX12_wordHere_86 ?_
                refine tk_Vi hC hK hw hT hA hE hSR kM_at0 (by decide) rfl (k_X12_isWord_18 l adK adV dC dI cy ad B (by omega) (by omega) qr s1    w100 H.size hT x110 c111 (show 0 ≤ x110.toInt by omega) (show x110.toInt ≤ 400 by omega)) (cwV 1 hC.2.2.2.2 gX12_wordHere_X12_isWord rfl rfl rfl (by decide +kernel) ⟨Nat.le_of_ble_eq_true rfl, Nat.le_of_ble_eq_true rfl⟩) rfl hl.1 rfl (Nat.le_of_ble_eq_true rfl) dX12_wordHere_89 (fun r114 w116 H locs hp115 hw => ?_)
                obtain ⟨hT, k117, hg124⟩ := hp115
                have hF := hF.tr k117 (by decide)
                have c125 := k117.gi kM_at0 (by decide) c109
                rcases hg124 with ⟨rfl, ⟨x118, c119, rx118, tx118⟩, g120⟩ | ⟨rfl, ⟨x121, c122, rx121, tx121⟩, g123⟩
                · have ex118 : x118.toInt = x7.toInt := by rw [← c125.symm.trans c119]
                  obtain ⟨x126, c127, rx126, tx126⟩ := hT.rdi (lo := 0) (hi := 400) (k := 14) kM_at0 (by decide) rfl
                  have g120 : (x126.toInt = x110.toInt ∨ (gi w100 1 (x110.toInt).toNat).toInt = 32) := by have q := g120; simp only [c111, c127] at q; omega
                  refine lv_if_eq (tgt := 98) hx hb dX12_wordHere_92 (by decide) (fun _ => ?_) (fun c => absurd (by decide) c)
                  refine lv_aload_n hx hb dX12_wordHere_98 rfl (lv_at hl 0 rfl) ?_
                  refine lv_ldc2 (v := 418548245860) hx hb hC.2.2.2.1 (hC.2.2.2.2 _ (List.mem_of_getElem? (i := 9) rfl)) dX12_wordHere_99 ?_
                  refine tk_Vi hC hK hw hT hA hE hSR kM_at0 (by decide) rfl (k_X12_isWord_17 l adK adV dC dI cy ad B (by omega) (by omega) qr s1    w116 H.size hT x126 c127 (show 0 ≤ x126.toInt by omega) (show x126.toInt ≤ 400 by omega)) (cwV 1 hC.2.2.2.2 gX12_wordHere_X12_isWord rfl rfl rfl (by decide +kernel) ⟨Nat.le_of_ble_eq_true rfl, Nat.le_of_ble_eq_true rfl⟩) rfl hl.1 rfl (Nat.le_of_ble_eq_true rfl) dX12_wordHere_102 (fun r130 w132 H locs hp131 hw => ?_)
                  obtain ⟨hT, k133, hg140⟩ := hp131
                  have hF := hF.tr k133 (by decide)
                  have c141 := k133.gi kM_at0 (by decide) c125
                  rcases hg140 with ⟨rfl, ⟨x134, c135, rx134, tx134⟩, g136⟩ | ⟨rfl, ⟨x137, c138, rx137, tx137⟩, g139⟩
                  · have ex134 : x134.toInt = x7.toInt := by rw [← c141.symm.trans c135]
                    obtain ⟨x142, c143, rx142, tx142⟩ := hT.rdi (lo := 0) (hi := 400) (k := 14) kM_at0 (by decide) rfl
                    have g136 : (x142.toInt = x126.toInt ∨ (gi w116 1 (x126.toInt).toNat).toInt = 32) := by have q := g136; simp only [c127, c143] at q; omega
                    refine lv_if_eq (tgt := 113) hx hb dX12_wordHere_105 (by decide) (fun _ => ?_) (fun c => absurd (by decide) c)
                    refine lv_aload_n hx hb dX12_wordHere_113 rfl (lv_at hl 0 rfl) ?_
                    refine lv_ldc2 (v := 1667329381) hx hb hC.2.2.2.1 (hC.2.2.2.2 _ (List.mem_of_getElem? (i := 10) rfl)) dX12_wordHere_114 ?_
                    refine tk_Vi hC hK hw hT hA hE hSR kM_at0 (by decide) rfl (k_X12_isWord_11 l adK adV dC dI cy ad B (by omega) (by omega) qr s1    w132 H.size hT x142 c143 (show 0 ≤ x142.toInt by omega) (show x142.toInt ≤ 400 by omega)) (cwV 1 hC.2.2.2.2 gX12_wordHere_X12_isWord rfl rfl rfl (by decide +kernel) ⟨Nat.le_of_ble_eq_true rfl, Nat.le_of_ble_eq_true rfl⟩) rfl hl.1 rfl (Nat.le_of_ble_eq_true rfl) dX12_wordHere_117 (fun r146 w148 H locs hp147 hw => ?_)
                    obtain ⟨hT, k149, hg156⟩ := hp147
                    have hF := hF.tr k149 (by decide)
                    have c157 := k149.gi kM_at0 (by decide) c141
                    rcases hg156 with ⟨rfl, ⟨x150, c151, rx150, tx150⟩, g152⟩ | ⟨rfl, ⟨x153, c154, rx153, tx153⟩, g155⟩
                    · have ex150 : x150.toInt = x7.toInt := by rw [← c157.symm.trans c151]
                      obtain ⟨x158, c159, rx158, tx158⟩ := hT.rdi (lo := 0) (hi := 400) (k := 14) kM_at0 (by decide) rfl
                      have g152 : (x158.toInt = x142.toInt ∨ (gi w132 1 (x142.toInt).toNat).toInt = 32) := by have q := g152; simp only [c143, c159] at q; omega
                      refine lv_if_eq (tgt := 128) hx hb dX12_wordHere_120 (by decide) (fun _ => ?_) (fun c => absurd (by decide) c)
                      refine lv_iconst (v := (-1)) hx hb dX12_wordHere_128 (by decide) ?_
                      exact tk_iret hC hr hlocks hK ⟨hT, hF, (Or.inr ⟨rfl, ⟨x7, c157, (show 0 ≤ x7.toInt by omega), (show x7.toInt ≤ 400 by omega)⟩⟩)⟩ hw dX12_wordHere_129
                    · have ex153 : x153.toInt = x7.toInt := by rw [← c157.symm.trans c154]
                      obtain ⟨x160, c161, rx160, tx160⟩ := hT.rdi (lo := 0) (hi := 400) (k := 14) kM_at0 (by decide) rfl
                      have g155 : (x160.toInt = x142.toInt ∨ (gi w132 1 (x142.toInt).toNat).toInt = 32) := by have q := g155; simp only [c143, c161] at q; omega
                      refine lv_if_eq (tgt := 128) hx hb dX12_wordHere_120 (by decide) (fun c => absurd c (by decide)) (fun _ => ?_)
                      refine lv_bipush (v := 9) hx hb dX12_wordHere_123 (by decide) ?_
                      refine lv_goto (tgt := 129) hx hb dX12_wordHere_125 (by decide) ?_
                      exact tk_iret hC hr hlocks hK ⟨hT, hF, (Or.inl ⟨(by decide), (by decide), ⟨x7, c157, (show 0 ≤ x7.toInt by omega), (show x7.toInt ≤ 400 by omega)⟩⟩)⟩ hw dX12_wordHere_129
                  · have ex137 : x137.toInt = x7.toInt := by rw [← c141.symm.trans c138]
                    obtain ⟨x144, c145, rx144, tx144⟩ := hT.rdi (lo := 0) (hi := 400) (k := 14) kM_at0 (by decide) rfl
                    have g139 : (x144.toInt = x126.toInt ∨ (gi w116 1 (x126.toInt).toNat).toInt = 32) := by have q := g139; simp only [c127, c145] at q; omega
                    refine lv_if_eq (tgt := 113) hx hb dX12_wordHere_105 (by decide) (fun c => absurd c (by decide)) (fun _ => ?_)
                    refine lv_bipush (v := 8) hx hb dX12_wordHere_108 (by decide) ?_
                    refine lv_goto (tgt := 129) hx hb dX12_wordHere_110 (by decide) ?_
                    exact tk_iret hC hr hlocks hK ⟨hT, hF, (Or.inl ⟨(by decide), (by decide), ⟨x7, c141, (show 0 ≤ x7.toInt by omega), (show x7.toInt ≤ 400 by omega)⟩⟩)⟩ hw dX12_wordHere_129
                · have ex121 : x121.toInt = x7.toInt := by rw [← c125.symm.trans c122]
                  obtain ⟨x128, c129, rx128, tx128⟩ := hT.rdi (lo := 0) (hi := 400) (k := 14) kM_at0 (by decide) rfl
                  have g123 : (x128.toInt = x110.toInt ∨ (gi w100 1 (x110.toInt).toNat).toInt = 32) := by have q := g123; simp only [c111, c129] at q; omega
                  refine lv_if_eq (tgt := 98) hx hb dX12_wordHere_92 (by decide) (fun c => absurd c (by decide)) (fun _ => ?_)
                  refine lv_bipush (v := 7) hx hb dX12_wordHere_95 (by decide) ?_
                  exact tk_iret hC hr hlocks hK ⟨hT, hF, (Or.inl ⟨(by decide), (by decide), ⟨x7, c125, (show 0 ≤ x7.toInt by omega), (show x7.toInt ≤ 400 by omega)⟩⟩)⟩ hw dX12_wordHere_97
              · have ex105 : x105.toInt = x7.toInt := by rw [← c109.symm.trans c106]
                obtain ⟨x112, c113, rx112, tx112⟩ := hT.rdi (lo := 0) (hi := 400) (k := 14) kM_at0 (by decide) rfl
                have g107 : (x112.toInt = x94.toInt ∨ (gi w84 1 (x94.toInt).toNat).toInt = 32) := by have q := g107; simp only [c95, c113] at q; omega
                refine lv_if_eq (tgt := 85) hx hb dX12_wordHere_79 (by decide) (fun c => absurd c (by decide)) (fun _ => ?_)
                refine lv_bipush (v := 6) hx hb dX12_wordHere_82 (by decide) ?_
                exact tk_iret hC hr hlocks hK ⟨hT, hF, (Or.inl ⟨(by decide), (by decide), ⟨x7, c109, (show 0 ≤ x7.toInt by omega), (show x7.toInt ≤ 400 by omega)⟩⟩)⟩ hw dX12_wordHere_84
            · have ex89 : x89.toInt = x7.toInt := by rw [← c93.symm.trans c90]
              obtain ⟨x96, c97, rx96, tx96⟩ := hT.rdi (lo := 0) (hi := 400) (k := 14) kM_at0 (by decide) rfl
              have g91 : (x96.toInt = x78.toInt ∨ (gi w68 1 (x78.toInt).toNat).toInt = 32) := by have q := g91; simp only [c79, c97] at q; omega
              refine lv_if_eq (tgt := 72) hx hb dX12_wordHere_67 (by decide) (fun c => absurd c (by decide)) (fun _ => ?_)
              refine lv_iconst (v := 5) hx hb dX12_wordHere_70 (by decide) ?_
              exact tk_iret hC hr hlocks hK ⟨hT, hF, (Or.inl ⟨(by decide), (by decide), ⟨x7, c93, (show 0 ≤ x7.toInt by omega), (show x7.toInt ≤ 400 by omega)⟩⟩)⟩ hw dX12_wordHere_71
          · have ex73 : x73.toInt = x7.toInt := by rw [← c77.symm.trans c74]
            obtain ⟨x80, c81, rx80, tx80⟩ := hT.rdi (lo := 0) (hi := 400) (k := 14) kM_at0 (by decide) rfl
            have g75 : (x80.toInt = x62.toInt ∨ (gi w52 1 (x62.toInt).toNat).toInt = 32) := by have q := g75; simp only [c63, c81] at q; omega
            refine lv_if_eq (tgt := 60) hx hb dX12_wordHere_55 (by decide) (fun c => absurd c (by decide)) (fun _ => ?_)
            refine lv_iconst (v := 4) hx hb dX12_wordHere_58 (by decide) ?_
            exact tk_iret hC hr hlocks hK ⟨hT, hF, (Or.inl ⟨(by decide), (by decide), ⟨x7, c77, (show 0 ≤ x7.toInt by omega), (show x7.toInt ≤ 400 by omega)⟩⟩)⟩ hw dX12_wordHere_59
        · have ex57 : x57.toInt = x7.toInt := by rw [← c61.symm.trans c58]
          obtain ⟨x64, c65, rx64, tx64⟩ := hT.rdi (lo := 0) (hi := 400) (k := 14) kM_at0 (by decide) rfl
          have g59 : (x64.toInt = x46.toInt ∨ (gi w36 1 (x46.toInt).toNat).toInt = 32) := by have q := g59; simp only [c47, c65] at q; omega
          refine lv_if_eq (tgt := 48) hx hb dX12_wordHere_43 (by decide) (fun c => absurd c (by decide)) (fun _ => ?_)
          refine lv_iconst (v := 3) hx hb dX12_wordHere_46 (by decide) ?_
          exact tk_iret hC hr hlocks hK ⟨hT, hF, (Or.inl ⟨(by decide), (by decide), ⟨x7, c61, (show 0 ≤ x7.toInt by omega), (show x7.toInt ≤ 400 by omega)⟩⟩)⟩ hw dX12_wordHere_47
      · have ex41 : x41.toInt = x7.toInt := by rw [← c45.symm.trans c42]
        obtain ⟨x48, c49, rx48, tx48⟩ := hT.rdi (lo := 0) (hi := 400) (k := 14) kM_at0 (by decide) rfl
        have g43 : (x48.toInt = x30.toInt ∨ (gi w20 1 (x30.toInt).toNat).toInt = 32) := by have q := g43; simp only [c31, c49] at q; omega
        refine lv_if_eq (tgt := 36) hx hb dX12_wordHere_31 (by decide) (fun c => absurd c (by decide)) (fun _ => ?_)
        refine lv_iconst (v := 2) hx hb dX12_wordHere_34 (by decide) ?_
        exact tk_iret hC hr hlocks hK ⟨hT, hF, (Or.inl ⟨(by decide), (by decide), ⟨x7, c45, (show 0 ≤ x7.toInt by omega), (show x7.toInt ≤ 400 by omega)⟩⟩)⟩ hw dX12_wordHere_35
    · have ex25 : x25.toInt = x7.toInt := by rw [← c29.symm.trans c26]
      obtain ⟨x32, c33, rx32, tx32⟩ := hT.rdi (lo := 0) (hi := 400) (k := 14) kM_at0 (by decide) rfl
      have g27 : (x32.toInt = x14.toInt ∨ (gi w5 1 (x14.toInt).toNat).toInt = 32) := by have q := g27; simp only [c15, c33] at q; omega
      refine lv_if_eq (tgt := 24) hx hb dX12_wordHere_19 (by decide) (fun c => absurd c (by decide)) (fun _ => ?_)
      refine lv_iconst (v := 1) hx hb dX12_wordHere_22 (by decide) ?_
      exact tk_iret hC hr hlocks hK ⟨hT, hF, (Or.inl ⟨(by decide), (by decide), ⟨x7, c29, (show 0 ≤ x7.toInt by omega), (show x7.toInt ≤ 400 by omega)⟩⟩)⟩ hw dX12_wordHere_23
  · obtain ⟨x16, c17, rx16, tx16⟩ := hT.rdi (lo := 0) (hi := 400) (k := 14) kM_at0 (by decide) rfl
    have g12 : (x16.toInt = x1.toInt ∨ (gi w0 1 (x1.toInt).toNat).toInt = 32) := by have q := g12; simp only [c2, c17] at q; omega
    refine lv_if_eq (tgt := 12) hx hb dX12_wordHere_7 (by decide) (fun c => absurd c (by decide)) (fun _ => ?_)
    refine lv_iconst (v := 0) hx hb dX12_wordHere_10 (by decide) ?_
    exact tk_iret hC hr hlocks hK ⟨hT, hF, (Or.inl ⟨(by decide), (by decide), ⟨x10, c11, (show 0 ≤ x10.toInt by omega), (show x10.toInt ≤ 400 by omega)⟩⟩)⟩ hw dX12_wordHere_11
abbrev P_X12_value_1 (ad : Nat → Nat) (cy : Nat → ClassId) (B : Int) (qr : Nat) (s1 : Int)  (w0 : va_W) : Int32 → va_W → Prop := fun r u => TW ksM ad cy B qr 12 u ∧ FE ksM [(12, 14, 14), (12, 15, 15), (12, 16, 16), (12, 18, 18), (61, 0, 2400), (62, 0, 7)] w0 u ∧ ((r = 0 ∧ (∃ y : Int32, gi u 0 1 = y ∧ 1 ≤ y.toInt ∧ y.toInt ≤ 400) ∧ (∃ y : Int32, gi u 0 15 = y ∧ 1 ≤ y.toInt ∧ y.toInt ≤ 3205) ∧ (∃ y : Int32, gi u 0 17 = y ∧ 0 ≤ y.toInt ∧ y.toInt ≤ 5)) ∨ (r = 0 ∧ (∃ y : Int32, gi u 0 1 = y ∧ 0 ≤ y.toInt ∧ y.toInt ≤ 400) ∧ (∃ y : Int32, gi u 0 15 = y ∧ 1 ≤ y.toInt ∧ y.toInt ≤ 3205) ∧ (∃ y : Int32, gi u 0 17 = y ∧ 0 ≤ y.toInt ∧ y.toInt ≤ 5)) ∨ (r = 1 ∧ (∃ y : Int32, gi u 0 1 = y ∧ 1 ≤ y.toInt ∧ y.toInt ≤ 400) ∧ (∃ y : Int32, gi u 0 17 = y ∧ 0 ≤ y.toInt ∧ y.toInt ≤ 5) ∧ (∃ y : Int32, gi u 0 18 = y ∧ 1 ≤ y.toInt ∧ y.toInt ≤ 60) ∧ ((gi u 3 ((gi u 0 17).toInt).toNat).toInt = (gi w0 3 ((gi w0 0 17).toInt).toNat).toInt + 1) ∧ ((gi u 0 18).toInt = (gi w0 0 18).toInt + 1)) ∨ (r = 1 ∧ (∃ y : Int32, gi u 0 1 = y ∧ 0 ≤ y.toInt ∧ y.toInt ≤ 400) ∧ (∃ y : Int32, gi u 0 17 = y ∧ 0 ≤ y.toInt ∧ y.toInt ≤ 5) ∧ (∃ y : Int32, gi u 0 18 = y ∧ 1 ≤ y.toInt ∧ y.toInt ≤ 60) ∧ ((gi u 3 ((gi u 0 17).toInt).toNat).toInt = (gi w0 3 ((gi w0 0 17).toInt).toNat).toInt + 1) ∧ ((gi u 0 18).toInt = (gi w0 0 18).toInt + 1)))
set_option maxHeartbeats 4000000 in
set_option maxRecDepth 100000 in
theorem k_X12_value_1 (l : Launch) (adK adV : Nat → Nat) (dC : Nat → ClassId) (dI : Nat → Nat → Nat) (cy : Nat → ClassId) (ad : Nat → Nat) (B : Int) (hB0 : 100000 ≤ B) (hB1 : B ≤ 1073741824) (qr : Nat) (s1 : Int)   (w0 : va_W) (sz : Nat) (hT : TW ksM ad cy B qr 12 w0) (f0_ : Int32) (cf0_ : gi w0 0 17 = f0_) (rf0_ : 0 ≤ f0_.toInt) (tf0_ : f0_.toInt ≤ 5) (f1_ : Int32) (cf1_ : gi w0 0 18 = f1_) (rf1_ : 0 ≤ f1_.toInt) (tf1_ : f1_.toInt ≤ 60) (f2_ : Int32) (cf2_ : gi w0 3 (f0_.toInt).toNat = f2_) (rf2_ : 0 ≤ f2_.toInt) (tf2_ : f2_.toInt ≤ 400) (pr0_ : f2_.toInt ≤ 399) : Met l yX12_value wsX12_value ({ frames := 4, cells := 0, slots := 0, locals := 78 }) (va_Pc [.ref (ad 0)] (wpreS adK adV dC dI cy sz w0)) (va_Qi (P_X12_value_1 ad cy B qr s1  w0) (fun u : va_W => wpost dC dI cy (va_A w0 sz) u) (va_A w0 sz)) 0 0 (va_A w0 sz) := by
  refine Met.ofW (cc := cX12_value) (maxL := 3) (ret := (some .boolean)) (by decide) rfl ?_
  intro p e s m args below meth c s₁ Bk hml hv
  obtain ⟨rfl, ⟨hsz, hP, hK, hD0⟩, hE, hSR⟩ := hv
  have hx := Bk.exec
  have hb := Bk.bytes
  have hr := Bk.returns
  have hlocks := Bk.notSynchronized
  have hC : CallFix p m c cX12_value 3 s _ wsX12_value RX12 := ⟨hx, hb, hml, findClass_of_methodNamed Bk.named, atoms_spec (ws := wsX12_value) Bk.pre⟩
  subst hsz
  have hD := hD0.self (sz := s.heap.size)
  generalize hAe : va_A w0 s.heap.size = A at hD hE ⊢
  have hA : ∀ q : Nat, s.heap.size ≤ q → A q := fun q h => by rw [← hAe]; exact Or.inr h
  have hw : Wd dC dI A s.heap s.heap [] w0 := ⟨hP, hD, va_S.rf⟩
  have hF : FE ksM [(12, 14, 14), (12, 15, 15), (12, 16, 16), (12, 18, 18), (61, 0, 2400), (62, 0, 7)] w0 w0 := FE.rf
  have hl := lv_entry ([.ref (ad 0)]) (n := 3) (Nat.le_of_ble_eq_true rfl)
  rw [lg_entry_eq]
  generalize (lg_sl ([.ref (ad 0)]) ++ List.replicate (3 - (lg_sl ([.ref (ad 0)])).length) Slot.unset).toArray = ls at hl ⊢
  have hl : lv_has ls 3 [(0, .ref (ad 0))] := hl
  generalize hloc : ([] : List Loc) = locs at hw ⊢
  have hinX12 : ∀ w ∈ u_ws RX12 TX12 42, w ∈ wsX12_value := fun _ h => List.mem_cons_of_mem _ (List.mem_append_right _ (h))
  have J39 : ∀ (v39_1 : Int32) (f39_0_1 : Int32) (f39_0_15 : Int32) (f39_0_18 : Int32) (H : Heap) (locs : List Loc) (ls : Array Slot) (w1 : va_W), 0 ≤ v39_1.toInt → v39_1.toInt ≤ 399 → 1 ≤ f39_0_1.toInt → f39_0_1.toInt ≤ 400 → 1 ≤ f39_0_15.toInt → f39_0_15.toInt ≤ 3205 → 0 ≤ f0_.toInt → f0_.toInt ≤ 5 → 0 ≤ f39_0_18.toInt → f39_0_18.toInt ≤ 60 → 0 ≤ f2_.toInt → f2_.toInt ≤ 399 → Wd dC dI A s.heap H locs w1 → TW ksM ad cy B qr 12 w1 → FE ksM [(12, 14, 14), (12, 15, 15), (12, 16, 16), (12, 18, 18), (61, 0, 2400), (62, 0, 7)] w0 w1 → gi w1 0 1 = f39_0_1 → gi w1 0 15 = f39_0_15 → gi w1 0 17 = f0_ → gi w1 0 18 = f39_0_18 → gi w1 3 (f0_.toInt).toNat = f2_ → lv_has ls 3 [(0, .ref (ad 0)), (1, .int v39_1)] → W p l e ({ frames := 4, cells := 0, slots := 0, locals := 78 }) s m (List.toArray [.ref (ad 0)]) below meth c H locs 0 0 (MQ below (va_Qi (P_X12_value_1 ad cy B qr s1  w0) (fun u : va_W => wpost dC dI cy A u) A) (List.toArray [.ref (ad 0)]) s 0 0 A) (F0 m 39 ls []) := by
    intro v39_1 f39_0_1 f39_0_15 f39_0_18 H locs ls w1 r2 t3 r4 t5 r7 t8 r10 t11 r13 t14 r16 t17 hw hT hF c6 c9 c12 c15 c18 hl
    refine lv_iconst (v := 0) hx hb dX12_value_39 (by decide) ?_
    exact tk_zret hC hr rfl hlocks hK ⟨hT, hF, (Or.inl ⟨rfl, ⟨f39_0_1, c6, (show 1 ≤ f39_0_1.toInt by omega), (show f39_0_1.toInt ≤ 400 by omega)⟩, ⟨f39_0_15, c9, (show 1 ≤ f39_0_15.toInt by omega), (show f39_0_15.toInt ≤ 3205 by omega)⟩, ⟨f0_, c12, (show 0 ≤ f0_.toInt by omega), (show f0_.toInt ≤ 5 by omega)⟩⟩)⟩ hw dX12_value_40
  refine lv_aload_n hx hb dX12_value_0 rfl (lv_at hl 0 rfl) ?_
  obtain ⟨x19, c20, rx19, tx19⟩ := hT.rdi (lo := 0) (hi := 400) (k := 14) kM_at0 (by decide) rfl
  refine tk_Vi hC hK hw hT hA hE hSR kM_at0 (by decide) rfl (k_X12_see_1 l adK adV dC dI cy ad B (by omega) (by omega) qr s1    w0 s.heap.size hT x19 c20 (show 0 ≤ x19.toInt by omega) (show x19.toInt ≤ 400 by omega)) (cwV 0 hC.2.2.2.2 gX12_value_X12_see rfl rfl rfl (by decide +kernel) ⟨Nat.le_of_ble_eq_true rfl, Nat.le_of_ble_eq_true rfl⟩) rfl hl.1 rfl (Nat.le_of_ble_eq_true rfl) dX12_value_1 (fun r21 w23 H locs hp22 hw => ?_)
  obtain ⟨hT, k24, hg41⟩ := hp22
  have hF := hF.tr k24 (by decide)
  have c42 := k24.gi kM_at0 (by decide) cf0_
  have c43 := k24.gi kM_at0 (by decide) cf1_
  have c44 := k24.gi kM_at3 rfl cf2_
  rcases hg41 with ⟨g25, g26, ⟨x27, c28, rx27, tx27⟩, ⟨x29, c30, rx29, tx29⟩, g31, g32⟩ | ⟨rfl, ⟨x33, c34, rx33, tx33⟩, ⟨x35, c36, rx35, tx35⟩, g37⟩ | ⟨rfl, ⟨x38, c39, rx38, tx38⟩, g40⟩
  · have g31 : (gi w23 1 (x29.toInt).toNat).toInt ≠ 32 := by have q := g31; simp only [cf0_, c42, c30] at q; omega
    have g32 : (x29.toInt = x19.toInt ∨ (gi w0 1 (x19.toInt).toNat).toInt = 32) := by have q := g32; simp only [cf0_, c42, c20, c30] at q; omega
    refine lv_pop hx hb dX12_value_4 rfl ?_
    refine lv_aload_n hx hb dX12_value_5 rfl (lv_at hl 0 rfl) ?_
    refine tk_geti hC hK hw hT hinX12 kM_at0 (by decide) rfl 14 (by decide) (List.mem_of_getElem? (i := 1) rfl) rfl rfl dX12_value_6 (fun x47 c48 rx47 tx47 => ?_)
    refine wk_top x29 (c48.symm.trans c30) ?_
    refine lv_istore_n (lv' := [(1, .int x29), (0, .ref (ad 0))]) hx hb dX12_value_9 rfl hl (by decide) rfl (fun ls hl => ?_)
    refine lv_aload_n hx hb dX12_value_10 rfl (lv_at hl 1 rfl) ?_
    refine lv_aload_n hx hb dX12_value_11 rfl (lv_at hl 1 rfl) ?_
    refine tk_geti hC hK hw hT hinX12 kM_at0 (by decide) rfl 14 (by decide) (List.mem_of_getElem? (i := 1) rfl) rfl rfl dX12_value_12 (fun x49 c50 rx49 tx49 => ?_)
    refine wk_top x29 (c50.symm.trans c30) ?_
    refine tk_Vi hC hK hw hT hA hE hSR kM_at0 (by decide) rfl (k_X12_isDigit_1 l adK adV dC dI cy ad B (by omega) (by omega) qr s1   x29 (show 0 ≤ x29.toInt by omega) (show x29.toInt ≤ 399 by omega) w23 H.size hT ) (cwV 1 hC.2.2.2.2 gX12_value_X12_isDigit rfl rfl rfl (by decide +kernel) ⟨Nat.le_of_ble_eq_true rfl, Nat.le_of_ble_eq_true rfl⟩) rfl hl.1 rfl (Nat.le_of_ble_eq_true rfl) dX12_value_15 (fun r51 w53 H locs hp52 hw => ?_)
    obtain ⟨rfl, hg59⟩ := hp52
    rcases hg59 with ⟨rfl, ⟨x55, c56, rx55, tx55⟩⟩ | ⟨rfl, ⟨x57, c58, rx57, tx57⟩⟩
    · have ex55 : x55.toInt = x27.toInt := by rw [← c28.symm.trans c56]
      refine lv_if_eq (tgt := 52) hx hb dX12_value_18 (by decide) (fun _ => ?_) (fun c => absurd (by decide) c)
      refine lv_aload_n hx hb dX12_value_52 rfl (lv_at hl 1 rfl) ?_
      refine tk_Vi hC hK hw hT hA hE hSR kM_at0 (by decide) rfl (k_X12_wordHere_1 l adK adV dC dI cy ad B (by omega) (by omega) qr s1    w23 H.size hT ) (cwV 0 hC.2.2.2.2 gX12_value_X12_wordHere rfl rfl rfl (by decide +kernel) ⟨Nat.le_of_ble_eq_true rfl, Nat.le_of_ble_eq_true rfl⟩) rfl hl.1 rfl (Nat.le_of_ble_eq_true rfl) dX12_value_53 (fun r60 w62 H locs hp61 hw => ?_)
      obtain ⟨hT, k63, hg70⟩ := hp61
      have hF := hF.tr k63 (by decide)
      have c71 := k63.gi kM_at0 (by decide) c42
      have c72 := k63.gi kM_at0 (by decide) c43
      have c73 := k63.gi kM_at3 rfl c44
      have c74 := k63.gi kM_at0 (by decide) c28
      rcases hg70 with ⟨g64, g65, ⟨x66, c67, rx66, tx66⟩⟩ | ⟨rfl, ⟨x68, c69, rx68, tx68⟩⟩
      · have ex66 : x66.toInt = x27.toInt := by rw [← c74.symm.trans c67]
        refine lv_istore_n (lv' := [(2, .int r60), (1, .int x29), (0, .ref (ad 0))]) hx hb dX12_value_56 rfl hl (by decide) rfl (fun ls hl => ?_)
        refine lv_iload_n hx hb dX12_value_57 rfl (lv_at hl 0 rfl) ?_
        refine lv_if_ge (tgt := 68) hx hb dX12_value_58 (by decide) (fun _ => ?_) (fun c => (c (wk_le.mpr (show (0 : Int) ≤ r60.toInt by omega))).elim)
        refine lv_aload_n hx hb dX12_value_68 rfl (lv_at hl 2 rfl) ?_
        refine lv_iload_n hx hb dX12_value_69 rfl (lv_at hl 1 rfl) ?_
        refine tk_Vi hC hK hw hT hA hE hSR kM_at0 (by decide) rfl (k_X12_makes_2 l adK adV dC dI cy ad B (by omega) (by omega) qr s1   x29 (show 0 ≤ x29.toInt by omega) (show x29.toInt ≤ 399 by omega) w62 H.size hT f1_ c72 (show 0 ≤ f1_.toInt by omega) (show f1_.toInt ≤ 60 by omega)) (cwV 1 hC.2.2.2.2 gX12_value_X12_makes rfl rfl rfl (by decide +kernel) ⟨Nat.le_of_ble_eq_true rfl, Nat.le_of_ble_eq_true rfl⟩) rfl hl.1 rfl (Nat.le_of_ble_eq_true rfl) dX12_value_70 (fun r75 w77 H locs hp76 hw => ?_)
        obtain ⟨hT, k78, hg86⟩ := hp76
        have hF := hF.tr k78 (by decide)
        have c87 := k78.gi kM_at0 (by decide) c71
        have c88 := k78.gi kM_at3 rfl c73
        have c89 := k78.gi kM_at0 (by decide) c74
        rcases hg86 with ⟨rfl, ⟨x79, c80, rx79, tx79⟩, ⟨x81, c82, rx81, tx81⟩⟩ | ⟨rfl, ⟨x83, c84, rx83, tx83⟩, g85⟩
        · refine lv_if_ne (tgt := 78) hx hb dX12_value_73 (by decide) (fun c => absurd (by decide) c) (fun _ => ?_)
          refine lv_iconst (v := 0) hx hb dX12_value_76 (by decide) ?_
          exact tk_zret hC hr rfl hlocks hK ⟨hT, hF, (Or.inl ⟨rfl, ⟨x27, c89, (show 1 ≤ x27.toInt by omega), (show x27.toInt ≤ 400 by omega)⟩, ⟨x79, c80, (show 1 ≤ x79.toInt by omega), (show x79.toInt ≤ 3205 by omega)⟩, ⟨f0_, c87, (show 0 ≤ f0_.toInt by omega), (show f0_.toInt ≤ 5 by omega)⟩⟩)⟩ hw dX12_value_77
        · have g85 : x83.toInt = f1_.toInt + 1 := by have q := g85; simp only [c71, c87, c72, c84] at q; omega
          refine lv_if_ne (tgt := 78) hx hb dX12_value_73 (by decide) (fun _ => ?_) (fun c => absurd c (by decide))
          refine lv_aload_n hx hb dX12_value_78 rfl (lv_at hl 2 rfl) ?_
          refine tk_Vv hC hK hw hT hA hE hSR kM_at0 (by decide) rfl (k_X12_passWord_1 l adK adV dC dI cy ad B (by omega) (by omega) qr s1    w77 H.size hT ) (cwV 0 hC.2.2.2.2 gX12_value_X12_passWord rfl rfl rfl (by decide +kernel) ⟨Nat.le_of_ble_eq_true rfl, Nat.le_of_ble_eq_true rfl⟩) rfl hl.1 rfl (Nat.le_of_ble_eq_true rfl) dX12_value_79 (fun w92 H locs hp91 hw => ?_)
          obtain ⟨hT, k93, hg100⟩ := hp91
          have hF := hF.tr k93 (by decide)
          have c101 := k93.gi kM_at0 (by decide) c87
          have c102 := k93.gi kM_at3 rfl c88
          have c103 := k93.gi kM_at0 (by decide) c89
          have c104 := k93.gi kM_at0 (by decide) c84
          rcases hg100 with ⟨⟨x94, c95, rx94, tx94⟩, ⟨x96, c97, rx96, tx96⟩⟩ | ⟨x98, c99, rx98, tx98⟩
          · have ex94 : x94.toInt = x27.toInt := by rw [← c103.symm.trans c95]
            refine lv_aload_n hx hb dX12_value_82 rfl (lv_at hl 2 rfl) ?_
            refine lv_iconst (v := 1) hx hb dX12_value_83 (by decide) ?_
            refine lv_iload_n hx hb dX12_value_84 rfl (lv_at hl 0 rfl) ?_
            refine tk_Vv hC hK hw hT hA hE hSR kM_at0 (by decide) rfl (k_X12_puts_1 l adK adV dC dI cy ad B (by omega) (by omega) qr s1   1 (by decide) (by decide) r60 w92 H.size hT f0_ c101 (show 0 ≤ f0_.toInt by omega) (show f0_.toInt ≤ 5 by omega) f2_ c102 (show 0 ≤ f2_.toInt by omega) (show f2_.toInt ≤ 400 by omega) (show f2_.toInt ≤ 399 by omega)) (cwV 2 hC.2.2.2.2 gX12_value_X12_puts rfl rfl rfl (by decide +kernel) ⟨Nat.le_of_ble_eq_true rfl, Nat.le_of_ble_eq_true rfl⟩) rfl hl.1 rfl (Nat.le_of_ble_eq_true rfl) dX12_value_85 (fun w107 H locs hp106 hw => ?_)
            obtain ⟨hT, k108, hg112⟩ := hp106
            have hF := hF.tr k108 (by decide)
            have c113 := k108.gi kM_at0 (by decide) c101
            have c114 := k108.gi kM_at0 (by decide) c103
            have c115 := k108.gi kM_at0 (by decide) c104
            have c116 := k108.gi kM_at0 (by decide) c97
            obtain ⟨⟨x109, c110, rx109, tx109⟩, g111⟩ := hg112
            have ex109 : x109.toInt = f0_.toInt := by rw [← c113.symm.trans c110]
            obtain ⟨x117, c118, rx117, tx117⟩ := hT.rda (lo := 0) (hi := 400) (i := (f0_.toInt).toNat) kM_at3 rfl rfl (by omega)
            have g111 : x117.toInt = f2_.toInt + 1 := by have q := g111; simp only [c101, c113, c102, c118] at q; omega
            refine lv_iconst (v := 1) hx hb dX12_value_88 (by decide) ?_
            exact tk_zret hC hr rfl hlocks hK ⟨hT, hF, (Or.inr (Or.inr (Or.inl ⟨rfl, ⟨x27, c114, (show 1 ≤ x27.toInt by omega), (show x27.toInt ≤ 400 by omega)⟩, ⟨f0_, c113, (show 0 ≤ f0_.toInt by omega), (show f0_.toInt ≤ 5 by omega)⟩, ⟨x83, c115, (show 1 ≤ x83.toInt by omega), (show x83.toInt ≤ 60 by omega)⟩, (by simp only [c113, cf0_, cf2_, c118]; omega), (by simp only [c113, cf0_, cf1_, c115]; omega)⟩)))⟩ hw dX12_value_89
          · have ex98 : x98.toInt = x27.toInt := by rw [← c103.symm.trans c99]
            refine lv_aload_n hx hb dX12_value_82 rfl (lv_at hl 2 rfl) ?_
            refine lv_iconst (v := 1) hx hb dX12_value_83 (by decide) ?_
            refine lv_iload_n hx hb dX12_value_84 rfl (lv_at hl 0 rfl) ?_
            refine tk_Vv hC hK hw hT hA hE hSR kM_at0 (by decide) rfl (k_X12_puts_1 l adK adV dC dI cy ad B (by omega) (by omega) qr s1   1 (by decide) (by decide) r60 w92 H.size hT f0_ c101 (show 0 ≤ f0_.toInt by omega) (show f0_.toInt ≤ 5 by omega) f2_ c102 (show 0 ≤ f2_.toInt by omega) (show f2_.toInt ≤ 400 by omega) (show f2_.toInt ≤ 399 by omega)) (cwV 2 hC.2.2.2.2 gX12_value_X12_puts rfl rfl rfl (by decide +kernel) ⟨Nat.le_of_ble_eq_true rfl, Nat.le_of_ble_eq_true rfl⟩) rfl hl.1 rfl (Nat.le_of_ble_eq_true rfl) dX12_value_85 (fun w121 H locs hp120 hw => ?_)
            obtain ⟨hT, k122, hg126⟩ := hp120
            have hF := hF.tr k122 (by decide)
            have c127 := k122.gi kM_at0 (by decide) c101
            have c128 := k122.gi kM_at0 (by decide) c103
            have c129 := k122.gi kM_at0 (by decide) c104
            obtain ⟨⟨x123, c124, rx123, tx123⟩, g125⟩ := hg126
            have ex123 : x123.toInt = f0_.toInt := by rw [← c127.symm.trans c124]
            obtain ⟨x130, c131, rx130, tx130⟩ := hT.rda (lo := 0) (hi := 400) (i := (f0_.toInt).toNat) kM_at3 rfl rfl (by omega)
            have g125 : x130.toInt = f2_.toInt + 1 := by have q := g125; simp only [c101, c127, c102, c131] at q; omega
            refine lv_iconst (v := 1) hx hb dX12_value_88 (by decide) ?_
            exact tk_zret hC hr rfl hlocks hK ⟨hT, hF, (Or.inr (Or.inr (Or.inl ⟨rfl, ⟨x27, c128, (show 1 ≤ x27.toInt by omega), (show x27.toInt ≤ 400 by omega)⟩, ⟨f0_, c127, (show 0 ≤ f0_.toInt by omega), (show f0_.toInt ≤ 5 by omega)⟩, ⟨x83, c129, (show 1 ≤ x83.toInt by omega), (show x83.toInt ≤ 60 by omega)⟩, (by simp only [c127, cf0_, cf2_, c131]; omega), (by simp only [c127, cf0_, cf1_, c129]; omega)⟩)))⟩ hw dX12_value_89
      · have ex68 : x68.toInt = x27.toInt := by rw [← c74.symm.trans c69]
        refine lv_istore_n (lv' := [(2, .int (-1)), (1, .int x29), (0, .ref (ad 0))]) hx hb dX12_value_56 rfl hl (by decide) rfl (fun ls hl => ?_)
        refine lv_iload_n hx hb dX12_value_57 rfl (lv_at hl 0 rfl) ?_
        refine lv_if_ge (tgt := 68) hx hb dX12_value_58 (by decide) (fun c => absurd c (by decide)) (fun _ => ?_)
        refine lv_aload_n hx hb dX12_value_61 rfl (lv_at hl 2 rfl) ?_
        refine lv_iconst (v := 0) hx hb dX12_value_62 (by decide) ?_
        refine lv_iload_n hx hb dX12_value_63 rfl (lv_at hl 1 rfl) ?_
        refine tk_Vi hC hK hw hT hA hE hSR kM_at0 (by decide) rfl (k_X12_fails_1 l adK adV dC dI cy ad B (by omega) (by omega) qr s1   0 (by decide) (by decide) x29 (show 0 ≤ x29.toInt by omega) (show x29.toInt ≤ 400 by omega) w62 H.size hT ) (cwV 2 hC.2.2.2.2 gX12_value_X12_fails rfl rfl rfl (by decide +kernel) ⟨Nat.le_of_ble_eq_true rfl, Nat.le_of_ble_eq_true rfl⟩) rfl hl.1 rfl (Nat.le_of_ble_eq_true rfl) dX12_value_64 (fun r132 w134 H locs hp133 hw => ?_)
        obtain ⟨hT, k135, hg138⟩ := hp133
        have hF := hF.tr k135 (by decide)
        have c139 := k135.gi kM_at0 (by decide) c71
        have c140 := k135.gi kM_at0 (by decide) c72
        have c141 := k135.gi kM_at3 rfl c73
        have c142 := k135.gi kM_at0 (by decide) c74
        obtain ⟨rfl, ⟨x136, c137, rx136, tx136⟩⟩ := hg138
        exact tk_zret hC hr rfl hlocks hK ⟨hT, hF, (Or.inl ⟨rfl, ⟨x27, c142, (show 1 ≤ x27.toInt by omega), (show x27.toInt ≤ 400 by omega)⟩, ⟨x136, c137, (show 1 ≤ x136.toInt by omega), (show x136.toInt ≤ 3205 by omega)⟩, ⟨f0_, c139, (show 0 ≤ f0_.toInt by omega), (show f0_.toInt ≤ 5 by omega)⟩⟩)⟩ hw dX12_value_67
    · have ex57 : x57.toInt = x27.toInt := by rw [← c28.symm.trans c58]
      refine lv_if_eq (tgt := 52) hx hb dX12_value_18 (by decide) (fun c => absurd c (by decide)) (fun _ => ?_)
      refine lv_aload_n hx hb dX12_value_21 rfl (lv_at hl 1 rfl) ?_
      refine lv_iconst (v := 0) hx hb dX12_value_22 (by decide) ?_
      refine lv_ldc (v := 99999) hx hb hC.2.2.2.1 (hC.2.2.2.2 _ (List.mem_of_getElem? (i := 2) rfl)) dX12_value_23 ?_
      refine tk_Vi hC hK hw hT hA hE hSR kM_at0 (by decide) rfl (k_X12_numberHere_9 l adK adV dC dI cy ad B (by omega) (by omega) qr s1    w23 H.size hT ) (cwV 2 hC.2.2.2.2 gX12_value_X12_numberHere rfl rfl rfl (by decide +kernel) ⟨Nat.le_of_ble_eq_true rfl, Nat.le_of_ble_eq_true rfl⟩) rfl hl.1 rfl (Nat.le_of_ble_eq_true rfl) dX12_value_25 (fun r143 w145 H locs hp144 hw => ?_)
      obtain ⟨hT, k146, hg159⟩ := hp144
      have hF := hF.tr k146 (by decide)
      have c160 := k146.gi kM_at0 (by decide) c42
      have c161 := k146.gi kM_at0 (by decide) c43
      have c162 := k146.gi kM_at3 rfl c44
      have c163 := k146.gi kM_at0 (by decide) c28
      rcases hg159 with ⟨rfl, ⟨x147, c148, rx147, tx147⟩, ⟨x149, c150, rx149, tx149⟩⟩ | ⟨rfl, ⟨x151, c152, rx151, tx151⟩, ⟨x153, c154, rx153, tx153⟩⟩ | ⟨rfl, ⟨x155, c156, rx155, tx155⟩, ⟨x157, c158, rx157, tx157⟩⟩
      · have ex147 : x147.toInt = x27.toInt := by rw [← c163.symm.trans c148]
        refine lv_if_eq (tgt := 39) hx hb dX12_value_28 (by decide) (fun _ => ?_) (fun c => absurd (by decide) c)
        exact J39 x29 x27 x149 f1_ H locs ls w145 (show 0 ≤ x29.toInt by omega) (show x29.toInt ≤ 399 by omega) (show 1 ≤ x27.toInt by omega) (show x27.toInt ≤ 400 by omega) (show 1 ≤ x149.toInt by omega) (show x149.toInt ≤ 3205 by omega) (show 0 ≤ f0_.toInt by omega) (show f0_.toInt ≤ 5 by omega) (show 0 ≤ f1_.toInt by omega) (show f1_.toInt ≤ 60 by omega) (show 0 ≤ f2_.toInt by omega) (show f2_.toInt ≤ 399 by omega)  hw hT hF c163 c150 c160 c161 c162 (lv_sub hl [1, 0] rfl)
      · have ex151 : x151.toInt = x27.toInt := by rw [← c163.symm.trans c152]
        refine lv_if_eq (tgt := 39) hx hb dX12_value_28 (by decide) (fun _ => ?_) (fun c => absurd (by decide) c)
        exact J39 x29 x27 x153 f1_ H locs ls w145 (show 0 ≤ x29.toInt by omega) (show x29.toInt ≤ 399 by omega) (show 1 ≤ x27.toInt by omega) (show x27.toInt ≤ 400 by omega) (show 1 ≤ x153.toInt by omega) (show x153.toInt ≤ 3205 by omega) (show 0 ≤ f0_.toInt by omega) (show f0_.toInt ≤ 5 by omega) (show 0 ≤ f1_.toInt by omega) (show f1_.toInt ≤ 60 by omega) (show 0 ≤ f2_.toInt by omega) (show f2_.toInt ≤ 399 by omega)  hw hT hF c163 c154 c160 c161 c162 (lv_sub hl [1, 0] rfl)
      · have ex155 : x155.toInt = x27.toInt := by rw [← c163.symm.trans c156]
        refine lv_if_eq (tgt := 39) hx hb dX12_value_28 (by decide) (fun c => absurd c (by decide)) (fun _ => ?_)
        refine lv_aload_n hx hb dX12_value_31 rfl (lv_at hl 1 rfl) ?_
        refine lv_iload_n hx hb dX12_value_32 rfl (lv_at hl 0 rfl) ?_
        refine tk_Vi hC hK hw hT hA hE hSR kM_at0 (by decide) rfl (k_X12_makes_2 l adK adV dC dI cy ad B (by omega) (by omega) qr s1   x29 (show 0 ≤ x29.toInt by omega) (show x29.toInt ≤ 399 by omega) w145 H.size hT f1_ c161 (show 0 ≤ f1_.toInt by omega) (show f1_.toInt ≤ 60 by omega)) (cwV 1 hC.2.2.2.2 gX12_value_X12_makes rfl rfl rfl (by decide +kernel) ⟨Nat.le_of_ble_eq_true rfl, Nat.le_of_ble_eq_true rfl⟩) rfl hl.1 rfl (Nat.le_of_ble_eq_true rfl) dX12_value_33 (fun r164 w166 H locs hp165 hw => ?_)
        obtain ⟨hT, k167, hg175⟩ := hp165
        have hF := hF.tr k167 (by decide)
        have c176 := k167.gi kM_at0 (by decide) c160
        have c177 := k167.gi kM_at3 rfl c162
        have c178 := k167.gi kM_at0 (by decide) c163
        have c179 := k167.gi kM_at0 (by decide) c158
        rcases hg175 with ⟨rfl, ⟨x168, c169, rx168, tx168⟩, ⟨x170, c171, rx170, tx170⟩⟩ | ⟨rfl, ⟨x172, c173, rx172, tx172⟩, g174⟩
        · refine lv_if_ne (tgt := 41) hx hb dX12_value_36 (by decide) (fun c => absurd (by decide) c) (fun _ => ?_)
          exact J39 x29 x27 x168 x170 H locs ls w166 (show 0 ≤ x29.toInt by omega) (show x29.toInt ≤ 399 by omega) (show 1 ≤ x27.toInt by omega) (show x27.toInt ≤ 400 by omega) (show 1 ≤ x168.toInt by omega) (show x168.toInt ≤ 3205 by omega) (show 0 ≤ f0_.toInt by omega) (show f0_.toInt ≤ 5 by omega) (show 0 ≤ x170.toInt by omega) (show x170.toInt ≤ 60 by omega) (show 0 ≤ f2_.toInt by omega) (show f2_.toInt ≤ 399 by omega)  hw hT hF c178 c169 c176 c171 c177 (lv_sub hl [1, 0] rfl)
        · have g174 : x172.toInt = f1_.toInt + 1 := by have q := g174; simp only [c160, c176, c161, c173] at q; omega
          refine lv_if_ne (tgt := 41) hx hb dX12_value_36 (by decide) (fun _ => ?_) (fun c => absurd c (by decide))
          refine lv_aload_n hx hb dX12_value_41 rfl (lv_at hl 1 rfl) ?_
          refine lv_iconst (v := 0) hx hb dX12_value_42 (by decide) ?_
          refine lv_aload_n hx hb dX12_value_43 rfl (lv_at hl 1 rfl) ?_
          refine tk_geti hC hK hw hT hinX12 kM_at0 (by decide) rfl 16 (by decide) (List.mem_of_getElem? (i := 3) rfl) rfl rfl dX12_value_44 (fun x180 c181 rx180 tx180 => ?_)
          refine wk_top x157 (c181.symm.trans c179) ?_
          refine tk_Vv hC hK hw hT hA hE hSR kM_at0 (by decide) rfl (k_X12_puts_1 l adK adV dC dI cy ad B (by omega) (by omega) qr s1   0 (by decide) (by decide) x157 w166 H.size hT f0_ c176 (show 0 ≤ f0_.toInt by omega) (show f0_.toInt ≤ 5 by omega) f2_ c177 (show 0 ≤ f2_.toInt by omega) (show f2_.toInt ≤ 400 by omega) (show f2_.toInt ≤ 399 by omega)) (cwV 2 hC.2.2.2.2 gX12_value_X12_puts rfl rfl rfl (by decide +kernel) ⟨Nat.le_of_ble_eq_true rfl, Nat.le_of_ble_eq_true rfl⟩) rfl hl.1 rfl (Nat.le_of_ble_eq_true rfl) dX12_value_47 (fun w184 H locs hp183 hw => ?_)
          obtain ⟨hT, k185, hg189⟩ := hp183
          have hF := hF.tr k185 (by decide)
          have c190 := k185.gi kM_at0 (by decide) c176
          have c191 := k185.gi kM_at0 (by decide) c178
          have c192 := k185.gi kM_at0 (by decide) c179
          have c193 := k185.gi kM_at0 (by decide) c173
          obtain ⟨⟨x186, c187, rx186, tx186⟩, g188⟩ := hg189
          have ex186 : x186.toInt = f0_.toInt := by rw [← c190.symm.trans c187]
          obtain ⟨x194, c195, rx194, tx194⟩ := hT.rda (lo := 0) (hi := 400) (i := (f0_.toInt).toNat) kM_at3 rfl rfl (by omega)
          have g188 : x194.toInt = f2_.toInt + 1 := by have q := g188; simp only [c176, c190, c177, c195] at q; omega
          refine lv_iconst (v := 1) hx hb dX12_value_50 (by decide) ?_
          exact tk_zret hC hr rfl hlocks hK ⟨hT, hF, (Or.inr (Or.inr (Or.inl ⟨rfl, ⟨x27, c191, (show 1 ≤ x27.toInt by omega), (show x27.toInt ≤ 400 by omega)⟩, ⟨f0_, c190, (show 0 ≤ f0_.toInt by omega), (show f0_.toInt ≤ 5 by omega)⟩, ⟨x172, c193, (show 1 ≤ x172.toInt by omega), (show x172.toInt ≤ 60 by omega)⟩, (by simp only [c190, cf0_, cf2_, c195]; omega), (by simp only [c190, cf0_, cf1_, c193]; omega)⟩)))⟩ hw dX12_value_51
  · have g37 : (x35.toInt = x19.toInt ∨ (gi w0 1 (x19.toInt).toNat).toInt = 32) := by have q := g37; simp only [cf0_, c42, c20, c36] at q; omega
    refine lv_pop hx hb dX12_value_4 rfl ?_
    refine lv_aload_n hx hb dX12_value_5 rfl (lv_at hl 0 rfl) ?_
    refine tk_geti hC hK hw hT hinX12 kM_at0 (by decide) rfl 14 (by decide) (List.mem_of_getElem? (i := 1) rfl) rfl rfl dX12_value_6 (fun x196 c197 rx196 tx196 => ?_)
    refine wk_top x35 (c197.symm.trans c36) ?_
    refine lv_istore_n (lv' := [(1, .int x35), (0, .ref (ad 0))]) hx hb dX12_value_9 rfl hl (by decide) rfl (fun ls hl => ?_)
    refine lv_aload_n hx hb dX12_value_10 rfl (lv_at hl 1 rfl) ?_
    refine lv_aload_n hx hb dX12_value_11 rfl (lv_at hl 1 rfl) ?_
    refine tk_geti hC hK hw hT hinX12 kM_at0 (by decide) rfl 14 (by decide) (List.mem_of_getElem? (i := 1) rfl) rfl rfl dX12_value_12 (fun x198 c199 rx198 tx198 => ?_)
    refine wk_top x35 (c199.symm.trans c36) ?_
    refine tk_Vi hC hK hw hT hA hE hSR kM_at0 (by decide) rfl (k_X12_isDigit_3 l adK adV dC dI cy ad B (by omega) (by omega) qr s1   x35 (show 1 ≤ x35.toInt by omega) (show x35.toInt ≤ 399 by omega) w23 H.size hT ) (cwV 1 hC.2.2.2.2 gX12_value_X12_isDigit rfl rfl rfl (by decide +kernel) ⟨Nat.le_of_ble_eq_true rfl, Nat.le_of_ble_eq_true rfl⟩) rfl hl.1 rfl (Nat.le_of_ble_eq_true rfl) dX12_value_15 (fun r200 w202 H locs hp201 hw => ?_)
    obtain ⟨rfl, hg208⟩ := hp201
    rcases hg208 with ⟨rfl, ⟨x204, c205, rx204, tx204⟩⟩ | ⟨rfl, ⟨x206, c207, rx206, tx206⟩⟩
    · have ex204 : x204.toInt = x33.toInt := by rw [← c34.symm.trans c205]
      refine lv_if_eq (tgt := 52) hx hb dX12_value_18 (by decide) (fun _ => ?_) (fun c => absurd (by decide) c)
      refine lv_aload_n hx hb dX12_value_52 rfl (lv_at hl 1 rfl) ?_
      refine tk_Vi hC hK hw hT hA hE hSR kM_at0 (by decide) rfl (k_X12_wordHere_1 l adK adV dC dI cy ad B (by omega) (by omega) qr s1    w23 H.size hT ) (cwV 0 hC.2.2.2.2 gX12_value_X12_wordHere rfl rfl rfl (by decide +kernel) ⟨Nat.le_of_ble_eq_true rfl, Nat.le_of_ble_eq_true rfl⟩) rfl hl.1 rfl (Nat.le_of_ble_eq_true rfl) dX12_value_53 (fun r209 w211 H locs hp210 hw => ?_)
      obtain ⟨hT, k212, hg219⟩ := hp210
      have hF := hF.tr k212 (by decide)
      have c220 := k212.gi kM_at0 (by decide) c42
      have c221 := k212.gi kM_at0 (by decide) c43
      have c222 := k212.gi kM_at3 rfl c44
      have c223 := k212.gi kM_at0 (by decide) c34
      rcases hg219 with ⟨g213, g214, ⟨x215, c216, rx215, tx215⟩⟩ | ⟨rfl, ⟨x217, c218, rx217, tx217⟩⟩
      · have ex215 : x215.toInt = x33.toInt := by rw [← c223.symm.trans c216]
        refine lv_istore_n (lv' := [(2, .int r209), (1, .int x35), (0, .ref (ad 0))]) hx hb dX12_value_56 rfl hl (by decide) rfl (fun ls hl => ?_)
        refine lv_iload_n hx hb dX12_value_57 rfl (lv_at hl 0 rfl) ?_
        refine lv_if_ge (tgt := 68) hx hb dX12_value_58 (by decide) (fun _ => ?_) (fun c => (c (wk_le.mpr (show (0 : Int) ≤ r209.toInt by omega))).elim)
        refine lv_aload_n hx hb dX12_value_68 rfl (lv_at hl 2 rfl) ?_
        refine lv_iload_n hx hb dX12_value_69 rfl (lv_at hl 1 rfl) ?_
        refine tk_Vi hC hK hw hT hA hE hSR kM_at0 (by decide) rfl (k_X12_makes_4 l adK adV dC dI cy ad B (by omega) (by omega) qr s1   x35 (show 1 ≤ x35.toInt by omega) (show x35.toInt ≤ 399 by omega) w211 H.size hT f1_ c221 (show 0 ≤ f1_.toInt by omega) (show f1_.toInt ≤ 60 by omega)) (cwV 1 hC.2.2.2.2 gX12_value_X12_makes rfl rfl rfl (by decide +kernel) ⟨Nat.le_of_ble_eq_true rfl, Nat.le_of_ble_eq_true rfl⟩) rfl hl.1 rfl (Nat.le_of_ble_eq_true rfl) dX12_value_70 (fun r224 w226 H locs hp225 hw => ?_)
        obtain ⟨hT, k227, hg235⟩ := hp225
        have hF := hF.tr k227 (by decide)
        have c236 := k227.gi kM_at0 (by decide) c220
        have c237 := k227.gi kM_at3 rfl c222
        have c238 := k227.gi kM_at0 (by decide) c223
        rcases hg235 with ⟨rfl, ⟨x228, c229, rx228, tx228⟩, ⟨x230, c231, rx230, tx230⟩⟩ | ⟨rfl, ⟨x232, c233, rx232, tx232⟩, g234⟩
        · refine lv_if_ne (tgt := 78) hx hb dX12_value_73 (by decide) (fun c => absurd (by decide) c) (fun _ => ?_)
          refine lv_iconst (v := 0) hx hb dX12_value_76 (by decide) ?_
          exact tk_zret hC hr rfl hlocks hK ⟨hT, hF, (Or.inl ⟨rfl, ⟨x33, c238, (show 1 ≤ x33.toInt by omega), (show x33.toInt ≤ 400 by omega)⟩, ⟨x228, c229, (show 1 ≤ x228.toInt by omega), (show x228.toInt ≤ 3205 by omega)⟩, ⟨f0_, c236, (show 0 ≤ f0_.toInt by omega), (show f0_.toInt ≤ 5 by omega)⟩⟩)⟩ hw dX12_value_77
        · have g234 : x232.toInt = f1_.toInt + 1 := by have q := g234; simp only [c220, c236, c221, c233] at q; omega
          refine lv_if_ne (tgt := 78) hx hb dX12_value_73 (by decide) (fun _ => ?_) (fun c => absurd c (by decide))
          refine lv_aload_n hx hb dX12_value_78 rfl (lv_at hl 2 rfl) ?_
          refine tk_Vv hC hK hw hT hA hE hSR kM_at0 (by decide) rfl (k_X12_passWord_1 l adK adV dC dI cy ad B (by omega) (by omega) qr s1    w226 H.size hT ) (cwV 0 hC.2.2.2.2 gX12_value_X12_passWord rfl rfl rfl (by decide +kernel) ⟨Nat.le_of_ble_eq_true rfl, Nat.le_of_ble_eq_true rfl⟩) rfl hl.1 rfl (Nat.le_of_ble_eq_true rfl) dX12_value_79 (fun w241 H locs hp240 hw => ?_)
          obtain ⟨hT, k242, hg249⟩ := hp240
          have hF := hF.tr k242 (by decide)
          have c250 := k242.gi kM_at0 (by decide) c236
          have c251 := k242.gi kM_at3 rfl c237
          have c252 := k242.gi kM_at0 (by decide) c238
          have c253 := k242.gi kM_at0 (by decide) c233
          rcases hg249 with ⟨⟨x243, c244, rx243, tx243⟩, ⟨x245, c246, rx245, tx245⟩⟩ | ⟨x247, c248, rx247, tx247⟩
          · have ex243 : x243.toInt = x33.toInt := by rw [← c252.symm.trans c244]
            refine lv_aload_n hx hb dX12_value_82 rfl (lv_at hl 2 rfl) ?_
            refine lv_iconst (v := 1) hx hb dX12_value_83 (by decide) ?_
            refine lv_iload_n hx hb dX12_value_84 rfl (lv_at hl 0 rfl) ?_
            refine tk_Vv hC hK hw hT hA hE hSR kM_at0 (by decide) rfl (k_X12_puts_1 l adK adV dC dI cy ad B (by omega) (by omega) qr s1   1 (by decide) (by decide) r209 w241 H.size hT f0_ c250 (show 0 ≤ f0_.toInt by omega) (show f0_.toInt ≤ 5 by omega) f2_ c251 (show 0 ≤ f2_.toInt by omega) (show f2_.toInt ≤ 400 by omega) (show f2_.toInt ≤ 399 by omega)) (cwV 2 hC.2.2.2.2 gX12_value_X12_puts rfl rfl rfl (by decide +kernel) ⟨Nat.le_of_ble_eq_true rfl, Nat.le_of_ble_eq_true rfl⟩) rfl hl.1 rfl (Nat.le_of_ble_eq_true rfl) dX12_value_85 (fun w256 H locs hp255 hw => ?_)
            obtain ⟨hT, k257, hg261⟩ := hp255
            have hF := hF.tr k257 (by decide)
            have c262 := k257.gi kM_at0 (by decide) c250
            have c263 := k257.gi kM_at0 (by decide) c252
            have c264 := k257.gi kM_at0 (by decide) c253
            have c265 := k257.gi kM_at0 (by decide) c246
            obtain ⟨⟨x258, c259, rx258, tx258⟩, g260⟩ := hg261
            have ex258 : x258.toInt = f0_.toInt := by rw [← c262.symm.trans c259]
            obtain ⟨x266, c267, rx266, tx266⟩ := hT.rda (lo := 0) (hi := 400) (i := (f0_.toInt).toNat) kM_at3 rfl rfl (by omega)
            have g260 : x266.toInt = f2_.toInt + 1 := by have q := g260; simp only [c250, c262, c251, c267] at q; omega
            refine lv_iconst (v := 1) hx hb dX12_value_88 (by decide) ?_
            exact tk_zret hC hr rfl hlocks hK ⟨hT, hF, (Or.inr (Or.inr (Or.inl ⟨rfl, ⟨x33, c263, (show 1 ≤ x33.toInt by omega), (show x33.toInt ≤ 400 by omega)⟩, ⟨f0_, c262, (show 0 ≤ f0_.toInt by omega), (show f0_.toInt ≤ 5 by omega)⟩, ⟨x232, c264, (show 1 ≤ x232.toInt by omega), (show x232.toInt ≤ 60 by omega)⟩, (by simp only [c262, cf0_, cf2_, c267]; omega), (by simp only [c262, cf0_, cf1_, c264]; omega)⟩)))⟩ hw dX12_value_89
          · have ex247 : x247.toInt = x33.toInt := by rw [← c252.symm.trans c248]
            refine lv_aload_n hx hb dX12_value_82 rfl (lv_at hl 2 rfl) ?_
            refine lv_iconst (v := 1) hx hb dX12_value_83 (by decide) ?_
            refine lv_iload_n hx hb dX12_value_84 rfl (lv_at hl 0 rfl) ?_
            refine tk_Vv hC hK hw hT hA hE hSR kM_at0 (by decide) rfl (k_X12_puts_1 l adK adV dC dI cy ad B (by omega) (by omega) qr s1   1 (by decide) (by decide) r209 w241 H.size hT f0_ c250 (show 0 ≤ f0_.toInt by omega) (show f0_.toInt ≤ 5 by omega) f2_ c251 (show 0 ≤ f2_.toInt by omega) (show f2_.toInt ≤ 400 by omega) (show f2_.toInt ≤ 399 by omega)) (cwV 2 hC.2.2.2.2 gX12_value_X12_puts rfl rfl rfl (by decide +kernel) ⟨Nat.le_of_ble_eq_true rfl, Nat.le_of_ble_eq_true rfl⟩) rfl hl.1 rfl (Nat.le_of_ble_eq_true rfl) dX12_value_85 (fun w270 H locs hp269 hw => ?_)
            obtain ⟨hT, k271, hg275⟩ := hp269
            have hF := hF.tr k271 (by decide)
            have c276 := k271.gi kM_at0 (by decide) c250
            have c277 := k271.gi kM_at0 (by decide) c252
            have c278 := k271.gi kM_at0 (by decide) c253
            obtain ⟨⟨x272, c273, rx272, tx272⟩, g274⟩ := hg275
            have ex272 : x272.toInt = f0_.toInt := by rw [← c276.symm.trans c273]
            obtain ⟨x279, c280, rx279, tx279⟩ := hT.rda (lo := 0) (hi := 400) (i := (f0_.toInt).toNat) kM_at3 rfl rfl (by omega)
            have g274 : x279.toInt = f2_.toInt + 1 := by have q := g274; simp only [c250, c276, c251, c280] at q; omega
            refine lv_iconst (v := 1) hx hb dX12_value_88 (by decide) ?_
            exact tk_zret hC hr rfl hlocks hK ⟨hT, hF, (Or.inr (Or.inr (Or.inl ⟨rfl, ⟨x33, c277, (show 1 ≤ x33.toInt by omega), (show x33.toInt ≤ 400 by omega)⟩, ⟨f0_, c276, (show 0 ≤ f0_.toInt by omega), (show f0_.toInt ≤ 5 by omega)⟩, ⟨x232, c278, (show 1 ≤ x232.toInt by omega), (show x232.toInt ≤ 60 by omega)⟩, (by simp only [c276, cf0_, cf2_, c280]; omega), (by simp only [c276, cf0_, cf1_, c278]; omega)⟩)))⟩ hw dX12_value_89
      · have ex217 : x217.toInt = x33.toInt := by rw [← c223.symm.trans c218]
        refine lv_istore_n (lv' := [(2, .int (-1)), (1, .int x35), (0, .ref (ad 0))]) hx hb dX12_value_56 rfl hl (by decide) rfl (fun ls hl => ?_)
        refine lv_iload_n hx hb dX12_value_57 rfl (lv_at hl 0 rfl) ?_
        refine lv_if_ge (tgt := 68) hx hb dX12_value_58 (by decide) (fun c => absurd c (by decide)) (fun _ => ?_)
        refine lv_aload_n hx hb dX12_value_61 rfl (lv_at hl 2 rfl) ?_
        refine lv_iconst (v := 0) hx hb dX12_value_62 (by decide) ?_
        refine lv_iload_n hx hb dX12_value_63 rfl (lv_at hl 1 rfl) ?_
        refine tk_Vi hC hK hw hT hA hE hSR kM_at0 (by decide) rfl (k_X12_fails_1 l adK adV dC dI cy ad B (by omega) (by omega) qr s1   0 (by decide) (by decide) x35 (show 0 ≤ x35.toInt by omega) (show x35.toInt ≤ 400 by omega) w211 H.size hT ) (cwV 2 hC.2.2.2.2 gX12_value_X12_fails rfl rfl rfl (by decide +kernel) ⟨Nat.le_of_ble_eq_true rfl, Nat.le_of_ble_eq_true rfl⟩) rfl hl.1 rfl (Nat.le_of_ble_eq_true rfl) dX12_value_64 (fun r281 w283 H locs hp282 hw => ?_)
        obtain ⟨hT, k284, hg287⟩ := hp282
        have hF := hF.tr k284 (by decide)
        have c288 := k284.gi kM_at0 (by decide) c220
        have c289 := k284.gi kM_at0 (by decide) c221
        have c290 := k284.gi kM_at3 rfl c222
        have c291 := k284.gi kM_at0 (by decide) c223
        obtain ⟨rfl, ⟨x285, c286, rx285, tx285⟩⟩ := hg287
        exact tk_zret hC hr rfl hlocks hK ⟨hT, hF, (Or.inl ⟨rfl, ⟨x33, c291, (show 1 ≤ x33.toInt by omega), (show x33.toInt ≤ 400 by omega)⟩, ⟨x285, c286, (show 1 ≤ x285.toInt by omega), (show x285.toInt ≤ 3205 by omega)⟩, ⟨f0_, c288, (show 0 ≤ f0_.toInt by omega), (show f0_.toInt ≤ 5 by omega)⟩⟩)⟩ hw dX12_value_67
    · have ex206 : x206.toInt = x33.toInt := by rw [← c34.symm.trans c207]
      refine lv_if_eq (tgt := 52) hx hb dX12_value_18 (by decide) (fun c => absurd c (by decide)) (fun _ => ?_)
      refine lv_aload_n hx hb dX12_value_21 rfl (lv_at hl 1 rfl) ?_
      refine lv_iconst (v := 0) hx hb dX12_value_22 (by decide) ?_
      refine lv_ldc (v := 99999) hx hb hC.2.2.2.1 (hC.2.2.2.2 _ (List.mem_of_getElem? (i := 2) rfl)) dX12_value_23 ?_
      refine tk_Vi hC hK hw hT hA hE hSR kM_at0 (by decide) rfl (k_X12_numberHere_9 l adK adV dC dI cy ad B (by omega) (by omega) qr s1    w23 H.size hT ) (cwV 2 hC.2.2.2.2 gX12_value_X12_numberHere rfl rfl rfl (by decide +kernel) ⟨Nat.le_of_ble_eq_true rfl, Nat.le_of_ble_eq_true rfl⟩) rfl hl.1 rfl (Nat.le_of_ble_eq_true rfl) dX12_value_25 (fun r292 w294 H locs hp293 hw => ?_)
      obtain ⟨hT, k295, hg308⟩ := hp293
      have hF := hF.tr k295 (by decide)
      have c309 := k295.gi kM_at0 (by decide) c42
      have c310 := k295.gi kM_at0 (by decide) c43
      have c311 := k295.gi kM_at3 rfl c44
      have c312 := k295.gi kM_at0 (by decide) c34
      rcases hg308 with ⟨rfl, ⟨x296, c297, rx296, tx296⟩, ⟨x298, c299, rx298, tx298⟩⟩ | ⟨rfl, ⟨x300, c301, rx300, tx300⟩, ⟨x302, c303, rx302, tx302⟩⟩ | ⟨rfl, ⟨x304, c305, rx304, tx304⟩, ⟨x306, c307, rx306, tx306⟩⟩
      · have ex296 : x296.toInt = x33.toInt := by rw [← c312.symm.trans c297]
        refine lv_if_eq (tgt := 39) hx hb dX12_value_28 (by decide) (fun _ => ?_) (fun c => absurd (by decide) c)
        exact J39 x35 x33 x298 f1_ H locs ls w294 (show 0 ≤ x35.toInt by omega) (show x35.toInt ≤ 399 by omega) (show 1 ≤ x33.toInt by omega) (show x33.toInt ≤ 400 by omega) (show 1 ≤ x298.toInt by omega) (show x298.toInt ≤ 3205 by omega) (show 0 ≤ f0_.toInt by omega) (show f0_.toInt ≤ 5 by omega) (show 0 ≤ f1_.toInt by omega) (show f1_.toInt ≤ 60 by omega) (show 0 ≤ f2_.toInt by omega) (show f2_.toInt ≤ 399 by omega)  hw hT hF c312 c299 c309 c310 c311 (lv_sub hl [1, 0] rfl)
      · have ex300 : x300.toInt = x33.toInt := by rw [← c312.symm.trans c301]
        refine lv_if_eq (tgt := 39) hx hb dX12_value_28 (by decide) (fun _ => ?_) (fun c => absurd (by decide) c)
        exact J39 x35 x33 x302 f1_ H locs ls w294 (show 0 ≤ x35.toInt by omega) (show x35.toInt ≤ 399 by omega) (show 1 ≤ x33.toInt by omega) (show x33.toInt ≤ 400 by omega) (show 1 ≤ x302.toInt by omega) (show x302.toInt ≤ 3205 by omega) (show 0 ≤ f0_.toInt by omega) (show f0_.toInt ≤ 5 by omega) (show 0 ≤ f1_.toInt by omega) (show f1_.toInt ≤ 60 by omega) (show 0 ≤ f2_.toInt by omega) (show f2_.toInt ≤ 399 by omega)  hw hT hF c312 c303 c309 c310 c311 (lv_sub hl [1, 0] rfl)
      · have ex304 : x304.toInt = x33.toInt := by rw [← c312.symm.trans c305]
        refine lv_if_eq (tgt := 39) hx hb dX12_value_28 (by decide) (fun c => absurd c (by decide)) (fun _ => ?_)
        refine lv_aload_n hx hb dX12_value_31 rfl (lv_at hl 1 rfl) ?_
        refine lv_iload_n hx hb dX12_value_32 rfl (lv_at hl 0 rfl) ?_
        refine tk_Vi hC hK hw hT hA hE hSR kM_at0 (by decide) rfl (k_X12_makes_4 l adK adV dC dI cy ad B (by omega) (by omega) qr s1   x35 (show 1 ≤ x35.toInt by omega) (show x35.toInt ≤ 399 by omega) w294 H.size hT f1_ c310 (show 0 ≤ f1_.toInt by omega) (show f1_.toInt ≤ 60 by omega)) (cwV 1 hC.2.2.2.2 gX12_value_X12_makes rfl rfl rfl (by decide +kernel) ⟨Nat.le_of_ble_eq_true rfl, Nat.le_of_ble_eq_true rfl⟩) rfl hl.1 rfl (Nat.le_of_ble_eq_true rfl) dX12_value_33 (fun r313 w315 H locs hp314 hw => ?_)
        obtain ⟨hT, k316, hg324⟩ := hp314
        have hF := hF.tr k316 (by decide)
        have c325 := k316.gi kM_at0 (by decide) c309
        have c326 := k316.gi kM_at3 rfl c311
        have c327 := k316.gi kM_at0 (by decide) c312
        have c328 := k316.gi kM_at0 (by decide) c307
        rcases hg324 with ⟨rfl, ⟨x317, c318, rx317, tx317⟩, ⟨x319, c320, rx319, tx319⟩⟩ | ⟨rfl, ⟨x321, c322, rx321, tx321⟩, g323⟩
        · refine lv_if_ne (tgt := 41) hx hb dX12_value_36 (by decide) (fun c => absurd (by decide) c) (fun _ => ?_)
          exact J39 x35 x33 x317 x319 H locs ls w315 (show 0 ≤ x35.toInt by omega) (show x35.toInt ≤ 399 by omega) (show 1 ≤ x33.toInt by omega) (show x33.toInt ≤ 400 by omega) (show 1 ≤ x317.toInt by omega) (show x317.toInt ≤ 3205 by omega) (show 0 ≤ f0_.toInt by omega) (show f0_.toInt ≤ 5 by omega) (show 0 ≤ x319.toInt by omega) (show x319.toInt ≤ 60 by omega) (show 0 ≤ f2_.toInt by omega) (show f2_.toInt ≤ 399 by omega)  hw hT hF c327 c318 c325 c320 c326 (lv_sub hl [1, 0] rfl)
        · have g323 : x321.toInt = f1_.toInt + 1 := by have q := g323; simp only [c309, c325, c310, c322] at q; omega
          refine lv_if_ne (tgt := 41) hx hb dX12_value_36 (by decide) (fun _ => ?_) (fun c => absurd c (by decide))
          refine lv_aload_n hx hb dX12_value_41 rfl (lv_at hl 1 rfl) ?_
          refine lv_iconst (v := 0) hx hb dX12_value_42 (by decide) ?_
          refine lv_aload_n hx hb dX12_value_43 rfl (lv_at hl 1 rfl) ?_
          refine tk_geti hC hK hw hT hinX12 kM_at0 (by decide) rfl 16 (by decide) (List.mem_of_getElem? (i := 3) rfl) rfl rfl dX12_value_44 (fun x329 c330 rx329 tx329 => ?_)
          refine wk_top x306 (c330.symm.trans c328) ?_
          refine tk_Vv hC hK hw hT hA hE hSR kM_at0 (by decide) rfl (k_X12_puts_1 l adK adV dC dI cy ad B (by omega) (by omega) qr s1   0 (by decide) (by decide) x306 w315 H.size hT f0_ c325 (show 0 ≤ f0_.toInt by omega) (show f0_.toInt ≤ 5 by omega) f2_ c326 (show 0 ≤ f2_.toInt by omega) (show f2_.toInt ≤ 400 by omega) (show f2_.toInt ≤ 399 by omega)) (cwV 2 hC.2.2.2.2 gX12_value_X12_puts rfl rfl rfl (by decide +kernel) ⟨Nat.le_of_ble_eq_true rfl, Nat.le_of_ble_eq_true rfl⟩) rfl hl.1 rfl (Nat.le_of_ble_eq_true rfl) dX12_value_47 (fun w333 H locs hp332 hw => ?_)
          obtain ⟨hT, k334, hg338⟩ := hp332
          have hF := hF.tr k334 (by decide)
          have c339 := k334.gi kM_at0 (by decide) c325
          have c340 := k334.gi kM_at0 (by decide) c327
          have c341 := k334.gi kM_at0 (by decide) c328
          have c342 := k334.gi kM_at0 (by decide) c322
          obtain ⟨⟨x335, c336, rx335, tx335⟩, g337⟩ := hg338
          have ex335 : x335.toInt = f0_.toInt := by rw [← c339.symm.trans c336]
          obtain ⟨x343, c344, rx343, tx343⟩ := hT.rda (lo := 0) (hi := 400) (i := (f0_.toInt).toNat) kM_at3 rfl rfl (by omega)
          have g337 : x343.toInt = f2_.toInt + 1 := by have q := g337; simp only [c325, c339, c326, c344] at q; omega
          refine lv_iconst (v := 1) hx hb dX12_value_50 (by decide) ?_
          exact tk_zret hC hr rfl hlocks hK ⟨hT, hF, (Or.inr (Or.inr (Or.inl ⟨rfl, ⟨x33, c340, (show 1 ≤ x33.toInt by omega), (show x33.toInt ≤ 400 by omega)⟩, ⟨f0_, c339, (show 0 ≤ f0_.toInt by omega), (show f0_.toInt ≤ 5 by omega)⟩, ⟨x321, c342, (show 1 ≤ x321.toInt by omega), (show x321.toInt ≤ 60 by omega)⟩, (by simp only [c339, cf0_, cf2_, c344]; omega), (by simp only [c339, cf0_, cf1_, c342]; omega)⟩)))⟩ hw dX12_value_51
  · obtain ⟨x45, c46, rx45, tx45⟩ := hT.rdi (lo := 0) (hi := 400) (k := 14) kM_at0 (by decide) rfl
    have g40 : (x45.toInt = x19.toInt ∨ (gi w0 1 (x19.toInt).toNat).toInt = 32) := by have q := g40; simp only [cf0_, c42, c20, c46] at q; omega
    refine lv_pop hx hb dX12_value_4 rfl ?_
    refine lv_aload_n hx hb dX12_value_5 rfl (lv_at hl 0 rfl) ?_
    refine tk_geti hC hK hw hT hinX12 kM_at0 (by decide) rfl 14 (by decide) (List.mem_of_getElem? (i := 1) rfl) rfl rfl dX12_value_6 (fun x345 c346 rx345 tx345 => ?_)
    refine wk_top x45 (c346.symm.trans c46) ?_
    refine lv_istore_n (lv' := [(1, .int x45), (0, .ref (ad 0))]) hx hb dX12_value_9 rfl hl (by decide) rfl (fun ls hl => ?_)
    refine lv_aload_n hx hb dX12_value_10 rfl (lv_at hl 1 rfl) ?_
    refine lv_aload_n hx hb dX12_value_11 rfl (lv_at hl 1 rfl) ?_
    refine tk_geti hC hK hw hT hinX12 kM_at0 (by decide) rfl 14 (by decide) (List.mem_of_getElem? (i := 1) rfl) rfl rfl dX12_value_12 (fun x347 c348 rx347 tx347 => ?_)
    refine wk_top x45 (c348.symm.trans c46) ?_
    refine tk_Vi hC hK hw hT hA hE hSR kM_at0 (by decide) rfl (k_X12_isDigit_2 l adK adV dC dI cy ad B (by omega) (by omega) qr s1   x45 (show 0 ≤ x45.toInt by omega) (show x45.toInt ≤ 400 by omega) w23 H.size hT ) (cwV 1 hC.2.2.2.2 gX12_value_X12_isDigit rfl rfl rfl (by decide +kernel) ⟨Nat.le_of_ble_eq_true rfl, Nat.le_of_ble_eq_true rfl⟩) rfl hl.1 rfl (Nat.le_of_ble_eq_true rfl) dX12_value_15 (fun r349 w351 H locs hp350 hw => ?_)
    obtain ⟨rfl, hg358⟩ := hp350
    rcases hg358 with ⟨rfl, ⟨x353, c354, rx353, tx353⟩⟩ | ⟨rfl, g355, ⟨x356, c357, rx356, tx356⟩⟩
    · have ex353 : x353.toInt = x38.toInt := by rw [← c39.symm.trans c354]
      refine lv_if_eq (tgt := 52) hx hb dX12_value_18 (by decide) (fun _ => ?_) (fun c => absurd (by decide) c)
      refine lv_aload_n hx hb dX12_value_52 rfl (lv_at hl 1 rfl) ?_
      refine tk_Vi hC hK hw hT hA hE hSR kM_at0 (by decide) rfl (k_X12_wordHere_1 l adK adV dC dI cy ad B (by omega) (by omega) qr s1    w23 H.size hT ) (cwV 0 hC.2.2.2.2 gX12_value_X12_wordHere rfl rfl rfl (by decide +kernel) ⟨Nat.le_of_ble_eq_true rfl, Nat.le_of_ble_eq_true rfl⟩) rfl hl.1 rfl (Nat.le_of_ble_eq_true rfl) dX12_value_53 (fun r359 w361 H locs hp360 hw => ?_)
      obtain ⟨hT, k362, hg369⟩ := hp360
      have hF := hF.tr k362 (by decide)
      have c370 := k362.gi kM_at0 (by decide) c42
      have c371 := k362.gi kM_at0 (by decide) c43
      have c372 := k362.gi kM_at3 rfl c44
      have c373 := k362.gi kM_at0 (by decide) c39
      rcases hg369 with ⟨g363, g364, ⟨x365, c366, rx365, tx365⟩⟩ | ⟨rfl, ⟨x367, c368, rx367, tx367⟩⟩
      · have ex365 : x365.toInt = x38.toInt := by rw [← c373.symm.trans c366]
        refine lv_istore_n (lv' := [(2, .int r359), (1, .int x45), (0, .ref (ad 0))]) hx hb dX12_value_56 rfl hl (by decide) rfl (fun ls hl => ?_)
        refine lv_iload_n hx hb dX12_value_57 rfl (lv_at hl 0 rfl) ?_
        refine lv_if_ge (tgt := 68) hx hb dX12_value_58 (by decide) (fun _ => ?_) (fun c => (c (wk_le.mpr (show (0 : Int) ≤ r359.toInt by omega))).elim)
        refine lv_aload_n hx hb dX12_value_68 rfl (lv_at hl 2 rfl) ?_
        refine lv_iload_n hx hb dX12_value_69 rfl (lv_at hl 1 rfl) ?_
        refine tk_Vi hC hK hw hT hA hE hSR kM_at0 (by decide) rfl (k_X12_makes_3 l adK adV dC dI cy ad B (by omega) (by omega) qr s1   x45 (show 0 ≤ x45.toInt by omega) (show x45.toInt ≤ 400 by omega) w361 H.size hT f1_ c371 (show 0 ≤ f1_.toInt by omega) (show f1_.toInt ≤ 60 by omega)) (cwV 1 hC.2.2.2.2 gX12_value_X12_makes rfl rfl rfl (by decide +kernel) ⟨Nat.le_of_ble_eq_true rfl, Nat.le_of_ble_eq_true rfl⟩) rfl hl.1 rfl (Nat.le_of_ble_eq_true rfl) dX12_value_70 (fun r374 w376 H locs hp375 hw => ?_)
        obtain ⟨hT, k377, hg385⟩ := hp375
        have hF := hF.tr k377 (by decide)
        have c386 := k377.gi kM_at0 (by decide) c370
        have c387 := k377.gi kM_at3 rfl c372
        have c388 := k377.gi kM_at0 (by decide) c373
        rcases hg385 with ⟨rfl, ⟨x378, c379, rx378, tx378⟩, ⟨x380, c381, rx380, tx380⟩⟩ | ⟨rfl, ⟨x382, c383, rx382, tx382⟩, g384⟩
        · refine lv_if_ne (tgt := 78) hx hb dX12_value_73 (by decide) (fun c => absurd (by decide) c) (fun _ => ?_)
          refine lv_iconst (v := 0) hx hb dX12_value_76 (by decide) ?_
          exact tk_zret hC hr rfl hlocks hK ⟨hT, hF, (Or.inr (Or.inl ⟨rfl, ⟨x38, c388, (show 0 ≤ x38.toInt by omega), (show x38.toInt ≤ 400 by omega)⟩, ⟨x378, c379, (show 1 ≤ x378.toInt by omega), (show x378.toInt ≤ 3205 by omega)⟩, ⟨f0_, c386, (show 0 ≤ f0_.toInt by omega), (show f0_.toInt ≤ 5 by omega)⟩⟩))⟩ hw dX12_value_77
        · have g384 : x382.toInt = f1_.toInt + 1 := by have q := g384; simp only [c370, c386, c371, c383] at q; omega
          refine lv_if_ne (tgt := 78) hx hb dX12_value_73 (by decide) (fun _ => ?_) (fun c => absurd c (by decide))
          refine lv_aload_n hx hb dX12_value_78 rfl (lv_at hl 2 rfl) ?_
          refine tk_Vv hC hK hw hT hA hE hSR kM_at0 (by decide) rfl (k_X12_passWord_1 l adK adV dC dI cy ad B (by omega) (by omega) qr s1    w376 H.size hT ) (cwV 0 hC.2.2.2.2 gX12_value_X12_passWord rfl rfl rfl (by decide +kernel) ⟨Nat.le_of_ble_eq_true rfl, Nat.le_of_ble_eq_true rfl⟩) rfl hl.1 rfl (Nat.le_of_ble_eq_true rfl) dX12_value_79 (fun w391 H locs hp390 hw => ?_)
          obtain ⟨hT, k392, hg399⟩ := hp390
          have hF := hF.tr k392 (by decide)
          have c400 := k392.gi kM_at0 (by decide) c386
          have c401 := k392.gi kM_at3 rfl c387
          have c402 := k392.gi kM_at0 (by decide) c388
          have c403 := k392.gi kM_at0 (by decide) c383
          rcases hg399 with ⟨⟨x393, c394, rx393, tx393⟩, ⟨x395, c396, rx395, tx395⟩⟩ | ⟨x397, c398, rx397, tx397⟩
          · have ex393 : x393.toInt = x38.toInt := by rw [← c402.symm.trans c394]
            refine lv_aload_n hx hb dX12_value_82 rfl (lv_at hl 2 rfl) ?_
            refine lv_iconst (v := 1) hx hb dX12_value_83 (by decide) ?_
            refine lv_iload_n hx hb dX12_value_84 rfl (lv_at hl 0 rfl) ?_
            refine tk_Vv hC hK hw hT hA hE hSR kM_at0 (by decide) rfl (k_X12_puts_1 l adK adV dC dI cy ad B (by omega) (by omega) qr s1   1 (by decide) (by decide) r359 w391 H.size hT f0_ c400 (show 0 ≤ f0_.toInt by omega) (show f0_.toInt ≤ 5 by omega) f2_ c401 (show 0 ≤ f2_.toInt by omega) (show f2_.toInt ≤ 400 by omega) (show f2_.toInt ≤ 399 by omega)) (cwV 2 hC.2.2.2.2 gX12_value_X12_puts rfl rfl rfl (by decide +kernel) ⟨Nat.le_of_ble_eq_true rfl, Nat.le_of_ble_eq_true rfl⟩) rfl hl.1 rfl (Nat.le_of_ble_eq_true rfl) dX12_value_85 (fun w406 H locs hp405 hw => ?_)
            obtain ⟨hT, k407, hg411⟩ := hp405
            have hF := hF.tr k407 (by decide)
            have c412 := k407.gi kM_at0 (by decide) c400
            have c413 := k407.gi kM_at0 (by decide) c402
            have c414 := k407.gi kM_at0 (by decide) c403
            have c415 := k407.gi kM_at0 (by decide) c396
            obtain ⟨⟨x408, c409, rx408, tx408⟩, g410⟩ := hg411
            have ex408 : x408.toInt = f0_.toInt := by rw [← c412.symm.trans c409]
            obtain ⟨x416, c417, rx416, tx416⟩ := hT.rda (lo := 0) (hi := 400) (i := (f0_.toInt).toNat) kM_at3 rfl rfl (by omega)
            have g410 : x416.toInt = f2_.toInt + 1 := by have q := g410; simp only [c400, c412, c401, c417] at q; omega
            refine lv_iconst (v := 1) hx hb dX12_value_88 (by decide) ?_
            exact tk_zret hC hr rfl hlocks hK ⟨hT, hF, (Or.inr (Or.inr (Or.inl ⟨rfl, ⟨x38, c413, (show 1 ≤ x38.toInt by omega), (show x38.toInt ≤ 400 by omega)⟩, ⟨f0_, c412, (show 0 ≤ f0_.toInt by omega), (show f0_.toInt ≤ 5 by omega)⟩, ⟨x382, c414, (show 1 ≤ x382.toInt by omega), (show x382.toInt ≤ 60 by omega)⟩, (by simp only [c412, cf0_, cf2_, c417]; omega), (by simp only [c412, cf0_, cf1_, c414]; omega)⟩)))⟩ hw dX12_value_89
          · have ex397 : x397.toInt = x38.toInt := by rw [← c402.symm.trans c398]
            refine lv_aload_n hx hb dX12_value_82 rfl (lv_at hl 2 rfl) ?_
            refine lv_iconst (v := 1) hx hb dX12_value_83 (by decide) ?_
            refine lv_iload_n hx hb dX12_value_84 rfl (lv_at hl 0 rfl) ?_
            refine tk_Vv hC hK hw hT hA hE hSR kM_at0 (by decide) rfl (k_X12_puts_1 l adK adV dC dI cy ad B (by omega) (by omega) qr s1   1 (by decide) (by decide) r359 w391 H.size hT f0_ c400 (show 0 ≤ f0_.toInt by omega) (show f0_.toInt ≤ 5 by omega) f2_ c401 (show 0 ≤ f2_.toInt by omega) (show f2_.toInt ≤ 400 by omega) (show f2_.toInt ≤ 399 by omega)) (cwV 2 hC.2.2.2.2 gX12_value_X12_puts rfl rfl rfl (by decide +kernel) ⟨Nat.le_of_ble_eq_true rfl, Nat.le_of_ble_eq_true rfl⟩) rfl hl.1 rfl (Nat.le_of_ble_eq_true rfl) dX12_value_85 (fun w420 H locs hp419 hw => ?_)
            obtain ⟨hT, k421, hg425⟩ := hp419
            have hF := hF.tr k421 (by decide)
            have c426 := k421.gi kM_at0 (by decide) c400
            have c427 := k421.gi kM_at0 (by decide) c402
            have c428 := k421.gi kM_at0 (by decide) c403
            obtain ⟨⟨x422, c423, rx422, tx422⟩, g424⟩ := hg425
            have ex422 : x422.toInt = f0_.toInt := by rw [← c426.symm.trans c423]
            obtain ⟨x429, c430, rx429, tx429⟩ := hT.rda (lo := 0) (hi := 400) (i := (f0_.toInt).toNat) kM_at3 rfl rfl (by omega)
            have g424 : x429.toInt = f2_.toInt + 1 := by have q := g424; simp only [c400, c426, c401, c430] at q; omega
            refine lv_iconst (v := 1) hx hb dX12_value_88 (by decide) ?_
            exact tk_zret hC hr rfl hlocks hK ⟨hT, hF, (Or.inr (Or.inr (Or.inr ⟨rfl, ⟨x38, c427, (show 0 ≤ x38.toInt by omega), (show x38.toInt ≤ 400 by omega)⟩, ⟨f0_, c426, (show 0 ≤ f0_.toInt by omega), (show f0_.toInt ≤ 5 by omega)⟩, ⟨x382, c428, (show 1 ≤ x382.toInt by omega), (show x382.toInt ≤ 60 by omega)⟩, (by simp only [c426, cf0_, cf2_, c430]; omega), (by simp only [c426, cf0_, cf1_, c428]; omega)⟩)))⟩ hw dX12_value_89
      · have ex367 : x367.toInt = x38.toInt := by rw [← c373.symm.trans c368]
        refine lv_istore_n (lv' := [(2, .int (-1)), (1, .int x45), (0, .ref (ad 0))]) hx hb dX12_value_56 rfl hl (by decide) rfl (fun ls hl => ?_)
        refine lv_iload_n hx hb dX12_value_57 rfl (lv_at hl 0 rfl) ?_
        refine lv_if_ge (tgt := 68) hx hb dX12_value_58 (by decide) (fun c => absurd c (by decide)) (fun _ => ?_)
        refine lv_aload_n hx hb dX12_value_61 rfl (lv_at hl 2 rfl) ?_
        refine lv_iconst (v := 0) hx hb dX12_value_62 (by decide) ?_
        refine lv_iload_n hx hb dX12_value_63 rfl (lv_at hl 1 rfl) ?_
        refine tk_Vi hC hK hw hT hA hE hSR kM_at0 (by decide) rfl (k_X12_fails_1 l adK adV dC dI cy ad B (by omega) (by omega) qr s1   0 (by decide) (by decide) x45 (show 0 ≤ x45.toInt by omega) (show x45.toInt ≤ 400 by omega) w361 H.size hT ) (cwV 2 hC.2.2.2.2 gX12_value_X12_fails rfl rfl rfl (by decide +kernel) ⟨Nat.le_of_ble_eq_true rfl, Nat.le_of_ble_eq_true rfl⟩) rfl hl.1 rfl (Nat.le_of_ble_eq_true rfl) dX12_value_64 (fun r431 w433 H locs hp432 hw => ?_)
        obtain ⟨hT, k434, hg437⟩ := hp432
        have hF := hF.tr k434 (by decide)
        have c438 := k434.gi kM_at0 (by decide) c370
        have c439 := k434.gi kM_at0 (by decide) c371
        have c440 := k434.gi kM_at3 rfl c372
        have c441 := k434.gi kM_at0 (by decide) c373
        obtain ⟨rfl, ⟨x435, c436, rx435, tx435⟩⟩ := hg437
        exact tk_zret hC hr rfl hlocks hK ⟨hT, hF, (Or.inr (Or.inl ⟨rfl, ⟨x38, c441, (show 0 ≤ x38.toInt by omega), (show x38.toInt ≤ 400 by omega)⟩, ⟨x435, c436, (show 1 ≤ x435.toInt by omega), (show x435.toInt ≤ 3205 by omega)⟩, ⟨f0_, c438, (show 0 ≤ f0_.toInt by omega), (show f0_.toInt ≤ 5 by omega)⟩⟩))⟩ hw dX12_value_67
    · have ex356 : x356.toInt = x38.toInt := by rw [← c39.symm.trans c357]
      refine lv_if_eq (tgt := 52) hx hb dX12_value_18 (by decide) (fun c => absurd c (by decide)) (fun _ => ?_)
      refine lv_aload_n hx hb dX12_value_21 rfl (lv_at hl 1 rfl) ?_
      refine lv_iconst (v := 0) hx hb dX12_value_22 (by decide) ?_
      refine lv_ldc (v := 99999) hx hb hC.2.2.2.1 (hC.2.2.2.2 _ (List.mem_of_getElem? (i := 2) rfl)) dX12_value_23 ?_
      refine tk_Vi hC hK hw hT hA hE hSR kM_at0 (by decide) rfl (k_X12_numberHere_9 l adK adV dC dI cy ad B (by omega) (by omega) qr s1    w23 H.size hT ) (cwV 2 hC.2.2.2.2 gX12_value_X12_numberHere rfl rfl rfl (by decide +kernel) ⟨Nat.le_of_ble_eq_true rfl, Nat.le_of_ble_eq_true rfl⟩) rfl hl.1 rfl (Nat.le_of_ble_eq_true rfl) dX12_value_25 (fun r442 w444 H locs hp443 hw => ?_)
      obtain ⟨hT, k445, hg458⟩ := hp443
      have hF := hF.tr k445 (by decide)
      have c459 := k445.gi kM_at0 (by decide) c42
      have c460 := k445.gi kM_at0 (by decide) c43
      have c461 := k445.gi kM_at3 rfl c44
      have c462 := k445.gi kM_at0 (by decide) c39
      rcases hg458 with ⟨rfl, ⟨x446, c447, rx446, tx446⟩, ⟨x448, c449, rx448, tx448⟩⟩ | ⟨rfl, ⟨x450, c451, rx450, tx450⟩, ⟨x452, c453, rx452, tx452⟩⟩ | ⟨rfl, ⟨x454, c455, rx454, tx454⟩, ⟨x456, c457, rx456, tx456⟩⟩
      · have ex446 : x446.toInt = x38.toInt := by rw [← c462.symm.trans c447]
        refine lv_if_eq (tgt := 39) hx hb dX12_value_28 (by decide) (fun _ => ?_) (fun c => absurd (by decide) c)
        exact J39 x45 x38 x448 f1_ H locs ls w444 (show 0 ≤ x45.toInt by omega) (show x45.toInt ≤ 399 by omega) (show 1 ≤ x38.toInt by omega) (show x38.toInt ≤ 400 by omega) (show 1 ≤ x448.toInt by omega) (show x448.toInt ≤ 3205 by omega) (show 0 ≤ f0_.toInt by omega) (show f0_.toInt ≤ 5 by omega) (show 0 ≤ f1_.toInt by omega) (show f1_.toInt ≤ 60 by omega) (show 0 ≤ f2_.toInt by omega) (show f2_.toInt ≤ 399 by omega)  hw hT hF c462 c449 c459 c460 c461 (lv_sub hl [1, 0] rfl)
      · have ex450 : x450.toInt = x38.toInt := by rw [← c462.symm.trans c451]
        refine lv_if_eq (tgt := 39) hx hb dX12_value_28 (by decide) (fun _ => ?_) (fun c => absurd (by decide) c)
        exact J39 x45 x38 x452 f1_ H locs ls w444 (show 0 ≤ x45.toInt by omega) (show x45.toInt ≤ 399 by omega) (show 1 ≤ x38.toInt by omega) (show x38.toInt ≤ 400 by omega) (show 1 ≤ x452.toInt by omega) (show x452.toInt ≤ 3205 by omega) (show 0 ≤ f0_.toInt by omega) (show f0_.toInt ≤ 5 by omega) (show 0 ≤ f1_.toInt by omega) (show f1_.toInt ≤ 60 by omega) (show 0 ≤ f2_.toInt by omega) (show f2_.toInt ≤ 399 by omega)  hw hT hF c462 c453 c459 c460 c461 (lv_sub hl [1, 0] rfl)
      · have ex454 : x454.toInt = x38.toInt := by rw [← c462.symm.trans c455]
        refine lv_if_eq (tgt := 39) hx hb dX12_value_28 (by decide) (fun c => absurd c (by decide)) (fun _ => ?_)
        refine lv_aload_n hx hb dX12_value_31 rfl (lv_at hl 1 rfl) ?_
        refine lv_iload_n hx hb dX12_value_32 rfl (lv_at hl 0 rfl) ?_
        refine tk_Vi hC hK hw hT hA hE hSR kM_at0 (by decide) rfl (k_X12_makes_2 l adK adV dC dI cy ad B (by omega) (by omega) qr s1   x45 (show 0 ≤ x45.toInt by omega) (show x45.toInt ≤ 399 by omega) w444 H.size hT f1_ c460 (show 0 ≤ f1_.toInt by omega) (show f1_.toInt ≤ 60 by omega)) (cwV 1 hC.2.2.2.2 gX12_value_X12_makes rfl rfl rfl (by decide +kernel) ⟨Nat.le_of_ble_eq_true rfl, Nat.le_of_ble_eq_true rfl⟩) rfl hl.1 rfl (Nat.le_of_ble_eq_true rfl) dX12_value_33 (fun r463 w465 H locs hp464 hw => ?_)
        obtain ⟨hT, k466, hg474⟩ := hp464
        have hF := hF.tr k466 (by decide)
        have c475 := k466.gi kM_at0 (by decide) c459
        have c476 := k466.gi kM_at3 rfl c461
        have c477 := k466.gi kM_at0 (by decide) c462
        have c478 := k466.gi kM_at0 (by decide) c457
        rcases hg474 with ⟨rfl, ⟨x467, c468, rx467, tx467⟩, ⟨x469, c470, rx469, tx469⟩⟩ | ⟨rfl, ⟨x471, c472, rx471, tx471⟩, g473⟩
        · refine lv_if_ne (tgt := 41) hx hb dX12_value_36 (by decide) (fun c => absurd (by decide) c) (fun _ => ?_)
          exact J39 x45 x38 x467 x469 H locs ls w465 (show 0 ≤ x45.toInt by omega) (show x45.toInt ≤ 399 by omega) (show 1 ≤ x38.toInt by omega) (show x38.toInt ≤ 400 by omega) (show 1 ≤ x467.toInt by omega) (show x467.toInt ≤ 3205 by omega) (show 0 ≤ f0_.toInt by omega) (show f0_.toInt ≤ 5 by omega) (show 0 ≤ x469.toInt by omega) (show x469.toInt ≤ 60 by omega) (show 0 ≤ f2_.toInt by omega) (show f2_.toInt ≤ 399 by omega)  hw hT hF c477 c468 c475 c470 c476 (lv_sub hl [1, 0] rfl)
        · have g473 : x471.toInt = f1_.toInt + 1 := by have q := g473; simp only [c459, c475, c460, c472] at q; omega
          refine lv_if_ne (tgt := 41) hx hb dX12_value_36 (by decide) (fun _ => ?_) (fun c => absurd c (by decide))
          refine lv_aload_n hx hb dX12_value_41 rfl (lv_at hl 1 rfl) ?_
          refine lv_iconst (v := 0) hx hb dX12_value_42 (by decide) ?_
          refine lv_aload_n hx hb dX12_value_43 rfl (lv_at hl 1 rfl) ?_
          refine tk_geti hC hK hw hT hinX12 kM_at0 (by decide) rfl 16 (by decide) (List.mem_of_getElem? (i := 3) rfl) rfl rfl dX12_value_44 (fun x479 c480 rx479 tx479 => ?_)
          refine wk_top x456 (c480.symm.trans c478) ?_
          refine tk_Vv hC hK hw hT hA hE hSR kM_at0 (by decide) rfl (k_X12_puts_1 l adK adV dC dI cy ad B (by omega) (by omega) qr s1   0 (by decide) (by decide) x456 w465 H.size hT f0_ c475 (show 0 ≤ f0_.toInt by omega) (show f0_.toInt ≤ 5 by omega) f2_ c476 (show 0 ≤ f2_.toInt by omega) (show f2_.toInt ≤ 400 by omega) (show f2_.toInt ≤ 399 by omega)) (cwV 2 hC.2.2.2.2 gX12_value_X12_puts rfl rfl rfl (by decide +kernel) ⟨Nat.le_of_ble_eq_true rfl, Nat.le_of_ble_eq_true rfl⟩) rfl hl.1 rfl (Nat.le_of_ble_eq_true rfl) dX12_value_47 (fun w483 H locs hp482 hw => ?_)
          obtain ⟨hT, k484, hg488⟩ := hp482
          have hF := hF.tr k484 (by decide)
          have c489 := k484.gi kM_at0 (by decide) c475
          have c490 := k484.gi kM_at0 (by decide) c477
          have c491 := k484.gi kM_at0 (by decide) c478
          have c492 := k484.gi kM_at0 (by decide) c472
          obtain ⟨⟨x485, c486, rx485, tx485⟩, g487⟩ := hg488
          have ex485 : x485.toInt = f0_.toInt := by rw [← c489.symm.trans c486]
          obtain ⟨x493, c494, rx493, tx493⟩ := hT.rda (lo := 0) (hi := 400) (i := (f0_.toInt).toNat) kM_at3 rfl rfl (by omega)
          have g487 : x493.toInt = f2_.toInt + 1 := by have q := g487; simp only [c475, c489, c476, c494] at q; omega
          refine lv_iconst (v := 1) hx hb dX12_value_50 (by decide) ?_
          exact tk_zret hC hr rfl hlocks hK ⟨hT, hF, (Or.inr (Or.inr (Or.inl ⟨rfl, ⟨x38, c490, (show 1 ≤ x38.toInt by omega), (show x38.toInt ≤ 400 by omega)⟩, ⟨f0_, c489, (show 0 ≤ f0_.toInt by omega), (show f0_.toInt ≤ 5 by omega)⟩, ⟨x471, c492, (show 1 ≤ x471.toInt by omega), (show x471.toInt ≤ 60 by omega)⟩, (by simp only [c489, cf0_, cf2_, c494]; omega), (by simp only [c489, cf0_, cf1_, c492]; omega)⟩)))⟩ hw dX12_value_51
abbrev P_X12_term_1 (ad : Nat → Nat) (cy : Nat → ClassId) (B : Int) (qr : Nat) (s1 : Int)  (w0 : va_W) : Int32 → va_W → Prop := fun r u => TW ksM ad cy B qr 12 u ∧ FE ksM [(12, 14, 14), (12, 15, 15), (12, 16, 16), (12, 18, 18), (61, 0, 2400), (62, 0, 7)] w0 u ∧ ((r = 0 ∧ (∃ y : Int32, gi u 0 1 = y ∧ 1 ≤ y.toInt ∧ y.toInt ≤ 400) ∧ (∃ y : Int32, gi u 0 15 = y ∧ 1 ≤ y.toInt ∧ y.toInt ≤ 3205) ∧ (∃ y : Int32, gi u 0 17 = y ∧ 0 ≤ y.toInt ∧ y.toInt ≤ 5)) ∨ (r = 0 ∧ (∃ y : Int32, gi u 0 1 = y ∧ 0 ≤ y.toInt ∧ y.toInt ≤ 400) ∧ (∃ y : Int32, gi u 0 15 = y ∧ 1 ≤ y.toInt ∧ y.toInt ≤ 3205) ∧ (∃ y : Int32, gi u 0 17 = y ∧ 0 ≤ y.toInt ∧ y.toInt ≤ 5)) ∨ (r = 1 ∧ (∃ y : Int32, gi u 0 1 = y ∧ 1 ≤ y.toInt ∧ y.toInt ≤ 400) ∧ (∃ y : Int32, gi u 0 17 = y ∧ 0 ≤ y.toInt ∧ y.toInt ≤ 5) ∧ (∃ y : Int32, gi u 0 18 = y ∧ 1 ≤ y.toInt ∧ y.toInt ≤ 60) ∧ (3 * (gi u 3 ((gi u 0 17).toInt).toNat).toInt + 11 ≤ 3 * (gi w0 3 ((gi w0 0 17).toInt).toNat).toInt + 14 * ((gi u 0 18).toInt - (gi w0 0 18).toInt)) ∧ ((gi w0 0 18).toInt + 1 ≤ (gi u 0 18).toInt)) ∨ (r = 1 ∧ (∃ y : Int32, gi u 0 1 = y ∧ 0 ≤ y.toInt ∧ y.toInt ≤ 400) ∧ (∃ y : Int32, gi u 0 17 = y ∧ 0 ≤ y.toInt ∧ y.toInt ≤ 5) ∧ (∃ y : Int32, gi u 0 18 = y ∧ 1 ≤ y.toInt ∧ y.toInt ≤ 60) ∧ (3 * (gi u 3 ((gi u 0 17).toInt).toNat).toInt + 11 ≤ 3 * (gi w0 3 ((gi w0 0 17).toInt).toNat).toInt + 14 * ((gi u 0 18).toInt - (gi w0 0 18).toInt)) ∧ ((gi w0 0 18).toInt + 1 ≤ (gi u 0 18).toInt)))
set_option maxHeartbeats 4000000 in
set_option maxRecDepth 100000 in
theorem k_X12_term_1 (l : Launch) (adK adV : Nat → Nat) (dC : Nat → ClassId) (dI : Nat → Nat → Nat) (cy : Nat → ClassId) (ad : Nat → Nat) (B : Int) (hB0 : 100000 ≤ B) (hB1 : B ≤ 1073741824) (qr : Nat) (s1 : Int)   (w0 : va_W) (sz : Nat) (hT : TW ksM ad cy B qr 12 w0) (f0_ : Int32) (cf0_ : gi w0 0 17 = f0_) (rf0_ : 0 ≤ f0_.toInt) (tf0_ : f0_.toInt ≤ 5) (f1_ : Int32) (cf1_ : gi w0 0 18 = f1_) (rf1_ : 0 ≤ f1_.toInt) (tf1_ : f1_.toInt ≤ 60) (f2_ : Int32) (cf2_ : gi w0 3 (f0_.toInt).toNat = f2_) (rf2_ : 0 ≤ f2_.toInt) (tf2_ : f2_.toInt ≤ 400) (pr0_ : 3 * f2_.toInt ≤ 14 * f1_.toInt + 60) (pr1_ : f2_.toInt ≤ 300) : Met l yX12_term wsX12_term ({ frames := 5, cells := 0, slots := 0, locals := 100 }) (va_Pc [.ref (ad 0)] (wpreS adK adV dC dI cy sz w0)) (va_Qi (P_X12_term_1 ad cy B qr s1  w0) (fun u : va_W => wpost dC dI cy (va_A w0 sz) u) (va_A w0 sz)) 0 0 (va_A w0 sz) := by
  refine Met.ofW (cc := cX12_term) (maxL := 2) (ret := (some .boolean)) (by decide) rfl ?_
  intro p e s m args below meth c s₁ Bk hml hv
  obtain ⟨rfl, ⟨hsz, hP, hK, hD0⟩, hE, hSR⟩ := hv
  have hx := Bk.exec
  have hb := Bk.bytes
  have hr := Bk.returns
  have hlocks := Bk.notSynchronized
  have hC : CallFix p m c cX12_term 2 s _ wsX12_term RX12 := ⟨hx, hb, hml, findClass_of_methodNamed Bk.named, atoms_spec (ws := wsX12_term) Bk.pre⟩
  subst hsz
  have hD := hD0.self (sz := s.heap.size)
  generalize hAe : va_A w0 s.heap.size = A at hD hE ⊢
  have hA : ∀ q : Nat, s.heap.size ≤ q → A q := fun q h => by rw [← hAe]; exact Or.inr h
  have hw : Wd dC dI A s.heap s.heap [] w0 := ⟨hP, hD, va_S.rf⟩
  have hF : FE ksM [(12, 14, 14), (12, 15, 15), (12, 16, 16), (12, 18, 18), (61, 0, 2400), (62, 0, 7)] w0 w0 := FE.rf
  have hl := lv_entry ([.ref (ad 0)]) (n := 2) (Nat.le_of_ble_eq_true rfl)
  rw [lg_entry_eq]
  generalize (lg_sl ([.ref (ad 0)]) ++ List.replicate (2 - (lg_sl ([.ref (ad 0)])).length) Slot.unset).toArray = ls at hl ⊢
  have hl : lv_has ls 2 [(0, .ref (ad 0))] := hl
  generalize hloc : ([] : List Loc) = locs at hw ⊢
  have hinX12 : ∀ w ∈ u_ws RX12 TX12 42, w ∈ wsX12_term := fun _ h => List.mem_cons_of_mem _ (List.mem_append_right _ (h))
  have L9 : ∀ (n9 : Nat) (f9_0_1 : Int32) (f9_0_18 : Int32) (f9_3__f0__toInt_toNat : Int32) (H : Heap) (locs : List Loc) (ls : Array Slot) (w1 : va_W), 0 ≤ f9_0_1.toInt → f9_0_1.toInt ≤ 400 → 0 ≤ f0_.toInt → f0_.toInt ≤ 5 → 1 ≤ f9_0_18.toInt → f9_0_18.toInt ≤ 60 → 0 ≤ f9_3__f0__toInt_toNat.toInt → f9_3__f0__toInt_toNat.toInt ≤ 300 → (3 * f9_3__f0__toInt_toNat.toInt + 11 ≤ 3 * f2_.toInt + 14 * (f9_0_18.toInt - f1_.toInt)) → (f1_.toInt + 1 ≤ f9_0_18.toInt) → (f9_3__f0__toInt_toNat.toInt ≤ 300) → (60 - f9_0_18.toInt).toNat < n9 → Wd dC dI A s.heap H locs w1 → TW ksM ad cy B qr 12 w1 → FE ksM [(12, 14, 14), (12, 15, 15), (12, 16, 16), (12, 18, 18), (61, 0, 2400), (62, 0, 7)] w0 w1 → gi w1 0 1 = f9_0_1 → gi w1 0 17 = f0_ → gi w1 0 18 = f9_0_18 → gi w1 3 (f0_.toInt).toNat = f9_3__f0__toInt_toNat → lv_has ls 2 [(0, .ref (ad 0))] → W p l e ({ frames := 5, cells := 0, slots := 0, locals := 100 }) s m (List.toArray [.ref (ad 0)]) below meth c H locs 0 0 (MQ below (va_Qi (P_X12_term_1 ad cy B qr s1  w0) (fun u : va_W => wpost dC dI cy A u) A) (List.toArray [.ref (ad 0)]) s 0 0 A) (F0 m 9 ls []) := by
    intro n9
    induction n9 with
    | zero => intro f9_0_1 f9_0_18 f9_3__f0__toInt_toNat H locs ls w1 r2 t3 r5 t6 r8 t9 r11 t12 hcr9_0 hcr9_1 hcr9_2 hm9 hw hT hF c4 c7 c10 c13 hl; omega
    | succ n9 ih9 =>
      intro f9_0_1 f9_0_18 f9_3__f0__toInt_toNat H locs ls w1 r2 t3 r5 t6 r8 t9 r11 t12 hcr9_0 hcr9_1 hcr9_2 hm9 hw hT hF c4 c7 c10 c13 hl
      have J27 : ∀ (f27_0_14 : Int32) (H : Heap) (locs : List Loc) (ls : Array Slot) (w14 : va_W), 1 ≤ f9_0_1.toInt → f9_0_1.toInt ≤ 400 → 0 ≤ f27_0_14.toInt → f27_0_14.toInt ≤ 399 → 0 ≤ f0_.toInt → f0_.toInt ≤ 5 → 1 ≤ f9_0_18.toInt → f9_0_18.toInt ≤ 60 → 0 ≤ f9_3__f0__toInt_toNat.toInt → f9_3__f0__toInt_toNat.toInt ≤ 300 → (3 * f9_3__f0__toInt_toNat.toInt + 11 ≤ 3 * f2_.toInt + 14 * (f9_0_18.toInt - f1_.toInt)) → (f1_.toInt + 1 ≤ f9_0_18.toInt) → (f9_3__f0__toInt_toNat.toInt ≤ 300) → Wd dC dI A s.heap H locs w14 → TW ksM ad cy B qr 12 w14 → FE ksM [(12, 14, 14), (12, 15, 15), (12, 16, 16), (12, 18, 18), (61, 0, 2400), (62, 0, 7)] w0 w14 → gi w14 0 1 = f9_0_1 → gi w14 0 14 = f27_0_14 → gi w14 0 17 = f0_ → gi w14 0 18 = f9_0_18 → gi w14 3 (f0_.toInt).toNat = f9_3__f0__toInt_toNat → lv_has ls 2 [(0, .ref (ad 0))] → W p l e ({ frames := 5, cells := 0, slots := 0, locals := 100 }) s m (List.toArray [.ref (ad 0)]) below meth c H locs 0 0 (MQ below (va_Qi (P_X12_term_1 ad cy B qr s1  w0) (fun u : va_W => wpost dC dI cy A u) A) (List.toArray [.ref (ad 0)]) s 0 0 A) (F0 m 27 ls []) := by
        intro f27_0_14 H locs ls w14 r15 t16 r18 t19 r21 t22 r24 t25 r27 t28 hcr27_0 hcr27_1 hcr27_2 hw hT hF c17 c20 c23 c26 c29 hl
        refine lv_aload_n hx hb dX12_term_27 rfl (lv_at hl 0 rfl) ?_
        refine tk_getA hC hK hw hT hinX12 kM_at0 (by decide) rfl 0 (by decide) (List.mem_of_getElem? (i := 1) rfl) rfl rfl dX12_term_28 ?_
        refine lv_aload_n hx hb dX12_term_31 rfl (lv_at hl 0 rfl) ?_
        refine tk_geti hC hK hw hT hinX12 kM_at0 (by decide) rfl 14 (by decide) (List.mem_of_getElem? (i := 2) rfl) rfl rfl dX12_term_32 (fun x30 c31 rx30 tx30 => ?_)
        refine wk_top f27_0_14 (c31.symm.trans c20) ?_
        refine tk_bald hC hK hw hT kM_at1 rfl rfl (show 0 ≤ f27_0_14.toInt by omega) (show f27_0_14.toInt < 400 by omega) dX12_term_35 (fun x32 c33 rx32 tx32 => ?_)
        have c33 : gi w14 1 (f27_0_14.toInt).toNat = x32 := (congrArg (gi w14 1) (congrArg Int.toNat (show f27_0_14.toInt = f27_0_14.toInt by omega))).trans c33
        refine lv_bipush (v := 42) hx hb dX12_term_36 (by decide) ?_
        refine lv_icmp_ne (tgt := 45) hx hb dX12_term_38 (by decide) (fun c34 => ?_) (fun c34 => ?_)
        · have c34 : ¬ x32.toInt = (42 : Int) := wk_eqF c34
          refine lv_iconst (v := 5) hx hb dX12_term_45 (by decide) ?_
          refine lv_istore_n (lv' := [(1, .int 5), (0, .ref (ad 0))]) hx hb dX12_term_46 rfl hl (by decide) rfl (fun ls hl => ?_)
          refine lv_aload_n hx hb dX12_term_47 rfl (lv_at hl 1 rfl) ?_
          refine lv_dup hx hb dX12_term_48 rfl ?_
          refine tk_geti hC hK hw hT hinX12 kM_at0 (by decide) rfl 14 (by decide) (List.mem_of_getElem? (i := 2) rfl) rfl rfl dX12_term_49 (fun x35 c36 rx35 tx35 => ?_)
          refine wk_top f27_0_14 (c36.symm.trans c20) ?_
          refine lv_iconst (v := 1) hx hb dX12_term_52 (by decide) ?_
          refine lv_iadd hx hb dX12_term_53 ?_
          refine lv_topi (fun x37 ex37 => ?_)
          have ex37 : x37.toInt = f27_0_14.toInt + (1 : Int) := by rw [ex37]; exact wk_add (show (-2147483648) ≤ f27_0_14.toInt + (1 : Int) by omega) (show f27_0_14.toInt + (1 : Int) ≤ 2147483647 by omega)
          refine tk_puti hC hK hw hT hinX12 tyX12_ok nmX12 kM_at0 (by decide) rfl rfl 14 (by decide) (List.mem_of_getElem? (i := 2) rfl) rfl rfl rfl rfl (show 0 ≤ x37.toInt by omega) (show x37.toInt ≤ 400 by omega) dX12_term_54 (fun H locs w38 hw hT k40 c39 => ?_)
          have hF := hF.put kM_at0 (k := 14) (by decide) k40
          have c41 := k40.gi (Or.inr (by decide)) c17
          have c42 := k40.gi (Or.inr (by decide)) c23
          have c43 := k40.gi (Or.inr (by decide)) c26
          have c44 := k40.gi (Or.inl (tk_ne kM_at3 kM_at0 (by decide))) c29
          have c45 := k40.gi (Or.inl (tk_ne kM_at1 kM_at0 (by decide))) c33
          refine lv_aload_n hx hb dX12_term_57 rfl (lv_at hl 1 rfl) ?_
          refine tk_Vi hC hK hw hT hA hE hSR kM_at0 (by decide) rfl (k_X12_value_1 l adK adV dC dI cy ad B (by omega) (by omega) qr s1    w38 H.size hT f0_ c42 (show 0 ≤ f0_.toInt by omega) (show f0_.toInt ≤ 5 by omega) f9_0_18 c43 (show 0 ≤ f9_0_18.toInt by omega) (show f9_0_18.toInt ≤ 60 by omega) f9_3__f0__toInt_toNat c44 (show 0 ≤ f9_3__f0__toInt_toNat.toInt by omega) (show f9_3__f0__toInt_toNat.toInt ≤ 400 by omega) (show f9_3__f0__toInt_toNat.toInt ≤ 399 by omega)) (cwV 0 hC.2.2.2.2 gX12_term_X12_value rfl rfl rfl (by decide +kernel) ⟨Nat.le_of_ble_eq_true rfl, Nat.le_of_ble_eq_true rfl⟩) rfl hl.1 rfl (Nat.le_of_ble_eq_true rfl) dX12_term_58 (fun r46 w48 H locs hp47 hw => ?_)
          obtain ⟨hT, k49, hg78⟩ := hp47
          have hF := hF.tr k49 (by decide)
          have c79 := k49.gi kM_at0 (by decide) c41
          have c80 := k49.gi kM_at0 (by decide) c42
          have c81 := k49.gi kM_at1 rfl c45
          rcases hg78 with ⟨rfl, ⟨x50, c51, rx50, tx50⟩, ⟨x52, c53, rx52, tx52⟩, ⟨x54, c55, rx54, tx54⟩⟩ | ⟨rfl, ⟨x56, c57, rx56, tx56⟩, ⟨x58, c59, rx58, tx58⟩, ⟨x60, c61, rx60, tx60⟩⟩ | ⟨rfl, ⟨x62, c63, rx62, tx62⟩, ⟨x64, c65, rx64, tx64⟩, ⟨x66, c67, rx66, tx66⟩, g68, g69⟩ | ⟨rfl, ⟨x70, c71, rx70, tx70⟩, ⟨x72, c73, rx72, tx72⟩, ⟨x74, c75, rx74, tx74⟩, g76, g77⟩
          · have ex50 : x50.toInt = f9_0_1.toInt := by rw [← c79.symm.trans c51]
            have ex54 : x54.toInt = f0_.toInt := by rw [← c80.symm.trans c55]
            obtain ⟨x82, c83, rx82, tx82⟩ := hT.rda (lo := 0) (hi := 400) (i := (f0_.toInt).toNat) kM_at3 rfl rfl (by omega)
            obtain ⟨x84, c85, rx84, tx84⟩ := hT.rdi (lo := 0) (hi := 60) (k := 18) kM_at0 (by decide) rfl
            refine lv_if_ne (tgt := 66) hx hb dX12_term_61 (by decide) (fun c => absurd (by decide) c) (fun _ => ?_)
            refine lv_iconst (v := 0) hx hb dX12_term_64 (by decide) ?_
            exact tk_zret hC hr rfl hlocks hK ⟨hT, hF, (Or.inl ⟨rfl, ⟨f9_0_1, c79, (show 1 ≤ f9_0_1.toInt by omega), (show f9_0_1.toInt ≤ 400 by omega)⟩, ⟨x52, c53, (show 1 ≤ x52.toInt by omega), (show x52.toInt ≤ 3205 by omega)⟩, ⟨f0_, c80, (show 0 ≤ f0_.toInt by omega), (show f0_.toInt ≤ 5 by omega)⟩⟩)⟩ hw dX12_term_65
          · have ex56 : x56.toInt = f9_0_1.toInt := by rw [← c79.symm.trans c57]
            have ex60 : x60.toInt = f0_.toInt := by rw [← c80.symm.trans c61]
            obtain ⟨x86, c87, rx86, tx86⟩ := hT.rda (lo := 0) (hi := 400) (i := (f0_.toInt).toNat) kM_at3 rfl rfl (by omega)
            obtain ⟨x88, c89, rx88, tx88⟩ := hT.rdi (lo := 0) (hi := 60) (k := 18) kM_at0 (by decide) rfl
            refine lv_if_ne (tgt := 66) hx hb dX12_term_61 (by decide) (fun c => absurd (by decide) c) (fun _ => ?_)
            refine lv_iconst (v := 0) hx hb dX12_term_64 (by decide) ?_
            exact tk_zret hC hr rfl hlocks hK ⟨hT, hF, (Or.inl ⟨rfl, ⟨f9_0_1, c79, (show 1 ≤ f9_0_1.toInt by omega), (show f9_0_1.toInt ≤ 400 by omega)⟩, ⟨x58, c59, (show 1 ≤ x58.toInt by omega), (show x58.toInt ≤ 3205 by omega)⟩, ⟨f0_, c80, (show 0 ≤ f0_.toInt by omega), (show f0_.toInt ≤ 5 by omega)⟩⟩)⟩ hw dX12_term_65
          · have ex62 : x62.toInt = f9_0_1.toInt := by rw [← c79.symm.trans c63]
            have ex64 : x64.toInt = f0_.toInt := by rw [← c80.symm.trans c65]
            obtain ⟨x90, c91, rx90, tx90⟩ := hT.rda (lo := 0) (hi := 400) (i := (f0_.toInt).toNat) kM_at3 rfl rfl (by omega)
            have g68 : x90.toInt = f9_3__f0__toInt_toNat.toInt + 1 := by have q := g68; simp only [c42, c80, c44, c91] at q; omega
            have g69 : x66.toInt = f9_0_18.toInt + 1 := by have q := g69; simp only [c42, c80, c43, c67] at q; omega
            refine lv_if_ne (tgt := 66) hx hb dX12_term_61 (by decide) (fun _ => ?_) (fun c => absurd c (by decide))
            refine lv_aload_n hx hb dX12_term_66 rfl (lv_at hl 1 rfl) ?_
            refine lv_iload_n hx hb dX12_term_67 rfl (lv_at hl 0 rfl) ?_
            refine lv_iconst (v := 0) hx hb dX12_term_68 (by decide) ?_
            refine tk_Vv hC hK hw hT hA hE hSR kM_at0 (by decide) rfl (k_X12_puts_1 l adK adV dC dI cy ad B (by omega) (by omega) qr s1   5 (by decide) (by decide) 0 w48 H.size hT f0_ c80 (show 0 ≤ f0_.toInt by omega) (show f0_.toInt ≤ 5 by omega) x90 c91 (show 0 ≤ x90.toInt by omega) (show x90.toInt ≤ 400 by omega) (show x90.toInt ≤ 399 by omega)) (cwV 2 hC.2.2.2.2 gX12_term_X12_puts rfl rfl rfl (by decide +kernel) ⟨Nat.le_of_ble_eq_true rfl, Nat.le_of_ble_eq_true rfl⟩) rfl hl.1 rfl (Nat.le_of_ble_eq_true rfl) dX12_term_69 (fun w96 H locs hp95 hw => ?_)
            obtain ⟨hT, k97, hg101⟩ := hp95
            have hF := hF.tr k97 (by decide)
            have c102 := k97.gi kM_at0 (by decide) c79
            have c103 := k97.gi kM_at0 (by decide) c80
            have c104 := k97.gi kM_at1 rfl c81
            have c105 := k97.gi kM_at0 (by decide) c67
            obtain ⟨⟨x98, c99, rx98, tx98⟩, g100⟩ := hg101
            have ex98 : x98.toInt = f0_.toInt := by rw [← c103.symm.trans c99]
            obtain ⟨x106, c107, rx106, tx106⟩ := hT.rda (lo := 0) (hi := 400) (i := (f0_.toInt).toNat) kM_at3 rfl rfl (by omega)
            have g100 : x106.toInt = x90.toInt + 1 := by have q := g100; simp only [c80, c103, c91, c107] at q; omega
            refine lv_goto (tgt := 9) hx hb dX12_term_72 (by decide) ?_
            exact ih9 f9_0_1 x66 x106 H locs ls w96 (show 0 ≤ f9_0_1.toInt by omega) (show f9_0_1.toInt ≤ 400 by omega) (show 0 ≤ f0_.toInt by omega) (show f0_.toInt ≤ 5 by omega) (show 1 ≤ x66.toInt by omega) (show x66.toInt ≤ 60 by omega) (show 0 ≤ x106.toInt by omega) (show x106.toInt ≤ 300 by omega) (show 3 * x106.toInt + 11 ≤ 3 * f2_.toInt + 14 * (x66.toInt - f1_.toInt) by omega) (show f1_.toInt + 1 ≤ x66.toInt by omega) (show x106.toInt ≤ 300 by omega) (show (60 - x66.toInt).toNat < n9 by omega) hw hT hF c102 c103 c105 c107 (lv_sub hl [1] rfl)
          · have ex70 : x70.toInt = f9_0_1.toInt := by rw [← c79.symm.trans c71]
            have ex72 : x72.toInt = f0_.toInt := by rw [← c80.symm.trans c73]
            obtain ⟨x92, c93, rx92, tx92⟩ := hT.rda (lo := 0) (hi := 400) (i := (f0_.toInt).toNat) kM_at3 rfl rfl (by omega)
            have g76 : x92.toInt = f9_3__f0__toInt_toNat.toInt + 1 := by have q := g76; simp only [c42, c80, c44, c93] at q; omega
            have g77 : x74.toInt = f9_0_18.toInt + 1 := by have q := g77; simp only [c42, c80, c43, c75] at q; omega
            refine lv_if_ne (tgt := 66) hx hb dX12_term_61 (by decide) (fun _ => ?_) (fun c => absurd c (by decide))
            refine lv_aload_n hx hb dX12_term_66 rfl (lv_at hl 1 rfl) ?_
            refine lv_iload_n hx hb dX12_term_67 rfl (lv_at hl 0 rfl) ?_
            refine lv_iconst (v := 0) hx hb dX12_term_68 (by decide) ?_
            refine tk_Vv hC hK hw hT hA hE hSR kM_at0 (by decide) rfl (k_X12_puts_1 l adK adV dC dI cy ad B (by omega) (by omega) qr s1   5 (by decide) (by decide) 0 w48 H.size hT f0_ c80 (show 0 ≤ f0_.toInt by omega) (show f0_.toInt ≤ 5 by omega) x92 c93 (show 0 ≤ x92.toInt by omega) (show x92.toInt ≤ 400 by omega) (show x92.toInt ≤ 399 by omega)) (cwV 2 hC.2.2.2.2 gX12_term_X12_puts rfl rfl rfl (by decide +kernel) ⟨Nat.le_of_ble_eq_true rfl, Nat.le_of_ble_eq_true rfl⟩) rfl hl.1 rfl (Nat.le_of_ble_eq_true rfl) dX12_term_69 (fun w110 H locs hp109 hw => ?_)
            obtain ⟨hT, k111, hg115⟩ := hp109
            have hF := hF.tr k111 (by decide)
            have c116 := k111.gi kM_at0 (by decide) c79
            have c117 := k111.gi kM_at0 (by decide) c80
            have c118 := k111.gi kM_at1 rfl c81
            have c119 := k111.gi kM_at0 (by decide) c75
            obtain ⟨⟨x112, c113, rx112, tx112⟩, g114⟩ := hg115
            have ex112 : x112.toInt = f0_.toInt := by rw [← c117.symm.trans c113]
            obtain ⟨x120, c121, rx120, tx120⟩ := hT.rda (lo := 0) (hi := 400) (i := (f0_.toInt).toNat) kM_at3 rfl rfl (by omega)
            have g114 : x120.toInt = x92.toInt + 1 := by have q := g114; simp only [c80, c117, c93, c121] at q; omega
            refine lv_goto (tgt := 9) hx hb dX12_term_72 (by decide) ?_
            exact ih9 f9_0_1 x74 x120 H locs ls w110 (show 0 ≤ f9_0_1.toInt by omega) (show f9_0_1.toInt ≤ 400 by omega) (show 0 ≤ f0_.toInt by omega) (show f0_.toInt ≤ 5 by omega) (show 1 ≤ x74.toInt by omega) (show x74.toInt ≤ 60 by omega) (show 0 ≤ x120.toInt by omega) (show x120.toInt ≤ 300 by omega) (show 3 * x120.toInt + 11 ≤ 3 * f2_.toInt + 14 * (x74.toInt - f1_.toInt) by omega) (show f1_.toInt + 1 ≤ x74.toInt by omega) (show x120.toInt ≤ 300 by omega) (show (60 - x74.toInt).toNat < n9 by omega) hw hT hF c116 c117 c119 c121 (lv_sub hl [1] rfl)
        · have c34 : x32.toInt = (42 : Int) := wk_eq.mp c34
          refine lv_iconst (v := 4) hx hb dX12_term_41 (by decide) ?_
          refine lv_goto (tgt := 46) hx hb dX12_term_42 (by decide) ?_
          refine lv_istore_n (lv' := [(1, .int 4), (0, .ref (ad 0))]) hx hb dX12_term_46 rfl hl (by decide) rfl (fun ls hl => ?_)
          refine lv_aload_n hx hb dX12_term_47 rfl (lv_at hl 1 rfl) ?_
          refine lv_dup hx hb dX12_term_48 rfl ?_
          refine tk_geti hC hK hw hT hinX12 kM_at0 (by decide) rfl 14 (by decide) (List.mem_of_getElem? (i := 2) rfl) rfl rfl dX12_term_49 (fun x122 c123 rx122 tx122 => ?_)
          refine wk_top f27_0_14 (c123.symm.trans c20) ?_
          refine lv_iconst (v := 1) hx hb dX12_term_52 (by decide) ?_
          refine lv_iadd hx hb dX12_term_53 ?_
          refine lv_topi (fun x124 ex124 => ?_)
          have ex124 : x124.toInt = f27_0_14.toInt + (1 : Int) := by rw [ex124]; exact wk_add (show (-2147483648) ≤ f27_0_14.toInt + (1 : Int) by omega) (show f27_0_14.toInt + (1 : Int) ≤ 2147483647 by omega)
          refine tk_puti hC hK hw hT hinX12 tyX12_ok nmX12 kM_at0 (by decide) rfl rfl 14 (by decide) (List.mem_of_getElem? (i := 2) rfl) rfl rfl rfl rfl (show 0 ≤ x124.toInt by omega) (show x124.toInt ≤ 400 by omega) dX12_term_54 (fun H locs w125 hw hT k127 c126 => ?_)
          have hF := hF.put kM_at0 (k := 14) (by decide) k127
          have c128 := k127.gi (Or.inr (by decide)) c17
          have c129 := k127.gi (Or.inr (by decide)) c23
          have c130 := k127.gi (Or.inr (by decide)) c26
          have c131 := k127.gi (Or.inl (tk_ne kM_at3 kM_at0 (by decide))) c29
          have c132 := k127.gi (Or.inl (tk_ne kM_at1 kM_at0 (by decide))) c33
          refine lv_aload_n hx hb dX12_term_57 rfl (lv_at hl 1 rfl) ?_
          refine tk_Vi hC hK hw hT hA hE hSR kM_at0 (by decide) rfl (k_X12_value_1 l adK adV dC dI cy ad B (by omega) (by omega) qr s1    w125 H.size hT f0_ c129 (show 0 ≤ f0_.toInt by omega) (show f0_.toInt ≤ 5 by omega) f9_0_18 c130 (show 0 ≤ f9_0_18.toInt by omega) (show f9_0_18.toInt ≤ 60 by omega) f9_3__f0__toInt_toNat c131 (show 0 ≤ f9_3__f0__toInt_toNat.toInt by omega) (show f9_3__f0__toInt_toNat.toInt ≤ 400 by omega) (show f9_3__f0__toInt_toNat.toInt ≤ 399 by omega)) (cwV 0 hC.2.2.2.2 gX12_term_X12_value rfl rfl rfl (by decide +kernel) ⟨Nat.le_of_ble_eq_true rfl, Nat.le_of_ble_eq_true rfl⟩) rfl hl.1 rfl (Nat.le_of_ble_eq_true rfl) dX12_term_58 (fun r133 w135 H locs hp134 hw => ?_)
          obtain ⟨hT, k136, hg165⟩ := hp134
          have hF := hF.tr k136 (by decide)
          have c166 := k136.gi kM_at0 (by decide) c128
          have c167 := k136.gi kM_at0 (by decide) c129
          have c168 := k136.gi kM_at1 rfl c132
          rcases hg165 with ⟨rfl, ⟨x137, c138, rx137, tx137⟩, ⟨x139, c140, rx139, tx139⟩, ⟨x141, c142, rx141, tx141⟩⟩ | ⟨rfl, ⟨x143, c144, rx143, tx143⟩, ⟨x145, c146, rx145, tx145⟩, ⟨x147, c148, rx147, tx147⟩⟩ | ⟨rfl, ⟨x149, c150, rx149, tx149⟩, ⟨x151, c152, rx151, tx151⟩, ⟨x153, c154, rx153, tx153⟩, g155, g156⟩ | ⟨rfl, ⟨x157, c158, rx157, tx157⟩, ⟨x159, c160, rx159, tx159⟩, ⟨x161, c162, rx161, tx161⟩, g163, g164⟩
          · have ex137 : x137.toInt = f9_0_1.toInt := by rw [← c166.symm.trans c138]
            have ex141 : x141.toInt = f0_.toInt := by rw [← c167.symm.trans c142]
            obtain ⟨x169, c170, rx169, tx169⟩ := hT.rda (lo := 0) (hi := 400) (i := (f0_.toInt).toNat) kM_at3 rfl rfl (by omega)
            obtain ⟨x171, c172, rx171, tx171⟩ := hT.rdi (lo := 0) (hi := 60) (k := 18) kM_at0 (by decide) rfl
            refine lv_if_ne (tgt := 66) hx hb dX12_term_61 (by decide) (fun c => absurd (by decide) c) (fun _ => ?_)
            refine lv_iconst (v := 0) hx hb dX12_term_64 (by decide) ?_
            exact tk_zret hC hr rfl hlocks hK ⟨hT, hF, (Or.inl ⟨rfl, ⟨f9_0_1, c166, (show 1 ≤ f9_0_1.toInt by omega), (show f9_0_1.toInt ≤ 400 by omega)⟩, ⟨x139, c140, (show 1 ≤ x139.toInt by omega), (show x139.toInt ≤ 3205 by omega)⟩, ⟨f0_, c167, (show 0 ≤ f0_.toInt by omega), (show f0_.toInt ≤ 5 by omega)⟩⟩)⟩ hw dX12_term_65
          · have ex143 : x143.toInt = f9_0_1.toInt := by rw [← c166.symm.trans c144]
            have ex147 : x147.toInt = f0_.toInt := by rw [← c167.symm.trans c148]
            obtain ⟨x173, c174, rx173, tx173⟩ := hT.rda (lo := 0) (hi := 400) (i := (f0_.toInt).toNat) kM_at3 rfl rfl (by omega)
            obtain ⟨x175, c176, rx175, tx175⟩ := hT.rdi (lo := 0) (hi := 60) (k := 18) kM_at0 (by decide) rfl
            refine lv_if_ne (tgt := 66) hx hb dX12_term_61 (by decide) (fun c => absurd (by decide) c) (fun _ => ?_)
            refine lv_iconst (v := 0) hx hb dX12_term_64 (by decide) ?_
            exact tk_zret hC hr rfl hlocks hK ⟨hT, hF, (Or.inl ⟨rfl, ⟨f9_0_1, c166, (show 1 ≤ f9_0_1.toInt by omega), (show f9_0_1.toInt ≤ 400 by omega)⟩, ⟨x145, c146, (show 1 ≤ x145.toInt by omega), (show x145.toInt ≤ 3205 by omega)⟩, ⟨f0_, c167, (show 0 ≤ f0_.toInt by omega), (show f0_.toInt ≤ 5 by omega)⟩⟩)⟩ hw dX12_term_65
          · have ex149 : x149.toInt = f9_0_1.toInt := by rw [← c166.symm.trans c150]
            have ex151 : x151.toInt = f0_.toInt := by rw [← c167.symm.trans c152]
            obtain ⟨x177, c178, rx177, tx177⟩ := hT.rda (lo := 0) (hi := 400) (i := (f0_.toInt).toNat) kM_at3 rfl rfl (by omega)
            have g155 : x177.toInt = f9_3__f0__toInt_toNat.toInt + 1 := by have q := g155; simp only [c129, c167, c131, c178] at q; omega
            have g156 : x153.toInt = f9_0_18.toInt + 1 := by have q := g156; simp only [c129, c167, c130, c154] at q; omega
            refine lv_if_ne (tgt := 66) hx hb dX12_term_61 (by decide) (fun _ => ?_) (fun c => absurd c (by decide))
            refine lv_aload_n hx hb dX12_term_66 rfl (lv_at hl 1 rfl) ?_
            refine lv_iload_n hx hb dX12_term_67 rfl (lv_at hl 0 rfl) ?_
            refine lv_iconst (v := 0) hx hb dX12_term_68 (by decide) ?_
            refine tk_Vv hC hK hw hT hA hE hSR kM_at0 (by decide) rfl (k_X12_puts_1 l adK adV dC dI cy ad B (by omega) (by omega) qr s1   4 (by decide) (by decide) 0 w135 H.size hT f0_ c167 (show 0 ≤ f0_.toInt by omega) (show f0_.toInt ≤ 5 by omega) x177 c178 (show 0 ≤ x177.toInt by omega) (show x177.toInt ≤ 400 by omega) (show x177.toInt ≤ 399 by omega)) (cwV 2 hC.2.2.2.2 gX12_term_X12_puts rfl rfl rfl (by decide +kernel) ⟨Nat.le_of_ble_eq_true rfl, Nat.le_of_ble_eq_true rfl⟩) rfl hl.1 rfl (Nat.le_of_ble_eq_true rfl) dX12_term_69 (fun w183 H locs hp182 hw => ?_)
            obtain ⟨hT, k184, hg188⟩ := hp182
            have hF := hF.tr k184 (by decide)
            have c189 := k184.gi kM_at0 (by decide) c166
            have c190 := k184.gi kM_at0 (by decide) c167
            have c191 := k184.gi kM_at1 rfl c168
            have c192 := k184.gi kM_at0 (by decide) c154
            obtain ⟨⟨x185, c186, rx185, tx185⟩, g187⟩ := hg188
            have ex185 : x185.toInt = f0_.toInt := by rw [← c190.symm.trans c186]
            obtain ⟨x193, c194, rx193, tx193⟩ := hT.rda (lo := 0) (hi := 400) (i := (f0_.toInt).toNat) kM_at3 rfl rfl (by omega)
            have g187 : x193.toInt = x177.toInt + 1 := by have q := g187; simp only [c167, c190, c178, c194] at q; omega
            refine lv_goto (tgt := 9) hx hb dX12_term_72 (by decide) ?_
            exact ih9 f9_0_1 x153 x193 H locs ls w183 (show 0 ≤ f9_0_1.toInt by omega) (show f9_0_1.toInt ≤ 400 by omega) (show 0 ≤ f0_.toInt by omega) (show f0_.toInt ≤ 5 by omega) (show 1 ≤ x153.toInt by omega) (show x153.toInt ≤ 60 by omega) (show 0 ≤ x193.toInt by omega) (show x193.toInt ≤ 300 by omega) (show 3 * x193.toInt + 11 ≤ 3 * f2_.toInt + 14 * (x153.toInt - f1_.toInt) by omega) (show f1_.toInt + 1 ≤ x153.toInt by omega) (show x193.toInt ≤ 300 by omega) (show (60 - x153.toInt).toNat < n9 by omega) hw hT hF c189 c190 c192 c194 (lv_sub hl [1] rfl)
          · have ex157 : x157.toInt = f9_0_1.toInt := by rw [← c166.symm.trans c158]
            have ex159 : x159.toInt = f0_.toInt := by rw [← c167.symm.trans c160]
            obtain ⟨x179, c180, rx179, tx179⟩ := hT.rda (lo := 0) (hi := 400) (i := (f0_.toInt).toNat) kM_at3 rfl rfl (by omega)
            have g163 : x179.toInt = f9_3__f0__toInt_toNat.toInt + 1 := by have q := g163; simp only [c129, c167, c131, c180] at q; omega
            have g164 : x161.toInt = f9_0_18.toInt + 1 := by have q := g164; simp only [c129, c167, c130, c162] at q; omega
            refine lv_if_ne (tgt := 66) hx hb dX12_term_61 (by decide) (fun _ => ?_) (fun c => absurd c (by decide))
            refine lv_aload_n hx hb dX12_term_66 rfl (lv_at hl 1 rfl) ?_
            refine lv_iload_n hx hb dX12_term_67 rfl (lv_at hl 0 rfl) ?_
            refine lv_iconst (v := 0) hx hb dX12_term_68 (by decide) ?_
            refine tk_Vv hC hK hw hT hA hE hSR kM_at0 (by decide) rfl (k_X12_puts_1 l adK adV dC dI cy ad B (by omega) (by omega) qr s1   4 (by decide) (by decide) 0 w135 H.size hT f0_ c167 (show 0 ≤ f0_.toInt by omega) (show f0_.toInt ≤ 5 by omega) x179 c180 (show 0 ≤ x179.toInt by omega) (show x179.toInt ≤ 400 by omega) (show x179.toInt ≤ 399 by omega)) (cwV 2 hC.2.2.2.2 gX12_term_X12_puts rfl rfl rfl (by decide +kernel) ⟨Nat.le_of_ble_eq_true rfl, Nat.le_of_ble_eq_true rfl⟩) rfl hl.1 rfl (Nat.le_of_ble_eq_true rfl) dX12_term_69 (fun w197 H locs hp196 hw => ?_)
            obtain ⟨hT, k198, hg202⟩ := hp196
            have hF := hF.tr k198 (by decide)
            have c203 := k198.gi kM_at0 (by decide) c166
            have c204 := k198.gi kM_at0 (by decide) c167
            have c205 := k198.gi kM_at1 rfl c168
            have c206 := k198.gi kM_at0 (by decide) c162
            obtain ⟨⟨x199, c200, rx199, tx199⟩, g201⟩ := hg202
            have ex199 : x199.toInt = f0_.toInt := by rw [← c204.symm.trans c200]
            obtain ⟨x207, c208, rx207, tx207⟩ := hT.rda (lo := 0) (hi := 400) (i := (f0_.toInt).toNat) kM_at3 rfl rfl (by omega)
            have g201 : x207.toInt = x179.toInt + 1 := by have q := g201; simp only [c167, c204, c180, c208] at q; omega
            refine lv_goto (tgt := 9) hx hb dX12_term_72 (by decide) ?_
            exact ih9 f9_0_1 x161 x207 H locs ls w197 (show 0 ≤ f9_0_1.toInt by omega) (show f9_0_1.toInt ≤ 400 by omega) (show 0 ≤ f0_.toInt by omega) (show f0_.toInt ≤ 5 by omega) (show 1 ≤ x161.toInt by omega) (show x161.toInt ≤ 60 by omega) (show 0 ≤ x207.toInt by omega) (show x207.toInt ≤ 300 by omega) (show 3 * x207.toInt + 11 ≤ 3 * f2_.toInt + 14 * (x161.toInt - f1_.toInt) by omega) (show f1_.toInt + 1 ≤ x161.toInt by omega) (show x207.toInt ≤ 300 by omega) (show (60 - x161.toInt).toNat < n9 by omega) hw hT hF c203 c204 c206 c208 (lv_sub hl [1] rfl)
      refine lv_aload_n hx hb dX12_term_9 rfl (lv_at hl 0 rfl) ?_
      obtain ⟨x209, c210, rx209, tx209⟩ := hT.rdi (lo := 0) (hi := 400) (k := 14) kM_at0 (by decide) rfl
      refine tk_Vi hC hK hw hT hA hE hSR kM_at0 (by decide) rfl (k_X12_see_1 l adK adV dC dI cy ad B (by omega) (by omega) qr s1    w1 H.size hT x209 c210 (show 0 ≤ x209.toInt by omega) (show x209.toInt ≤ 400 by omega)) (cwV 0 hC.2.2.2.2 gX12_term_X12_see rfl rfl rfl (by decide +kernel) ⟨Nat.le_of_ble_eq_true rfl, Nat.le_of_ble_eq_true rfl⟩) rfl hl.1 rfl (Nat.le_of_ble_eq_true rfl) dX12_term_10 (fun r211 w213 H locs hp212 hw => ?_)
      obtain ⟨hT, k214, hg231⟩ := hp212
      have hF := hF.tr k214 (by decide)
      have c232 := k214.gi kM_at0 (by decide) c4
      have c233 := k214.gi kM_at0 (by decide) c7
      have c234 := k214.gi kM_at0 (by decide) c10
      have c235 := k214.gi kM_at3 rfl c13
      rcases hg231 with ⟨g215, g216, ⟨x217, c218, rx217, tx217⟩, ⟨x219, c220, rx219, tx219⟩, g221, g222⟩ | ⟨rfl, ⟨x223, c224, rx223, tx223⟩, ⟨x225, c226, rx225, tx225⟩, g227⟩ | ⟨rfl, ⟨x228, c229, rx228, tx228⟩, g230⟩
      · have ex217 : x217.toInt = f9_0_1.toInt := by rw [← c232.symm.trans c218]
        have g221 : (gi w213 1 (x219.toInt).toNat).toInt ≠ 32 := by have q := g221; simp only [c7, c233, c220] at q; omega
        have g222 : (x219.toInt = x209.toInt ∨ (gi w1 1 (x209.toInt).toNat).toInt = 32) := by have q := g222; simp only [c7, c233, c210, c220] at q; omega
        refine lv_bipush (v := 42) hx hb dX12_term_13 (by decide) ?_
        refine lv_icmp_eq (tgt := 27) hx hb dX12_term_15 (by decide) (fun c238 => ?_) (fun c238 => ?_)
        · have c238 : r211.toInt = (42 : Int) := wk_eq.mp c238
          exact J27 x219 H locs ls w213 (show 1 ≤ f9_0_1.toInt by omega) (show f9_0_1.toInt ≤ 400 by omega) (show 0 ≤ x219.toInt by omega) (show x219.toInt ≤ 399 by omega) (show 0 ≤ f0_.toInt by omega) (show f0_.toInt ≤ 5 by omega) (show 1 ≤ f9_0_18.toInt by omega) (show f9_0_18.toInt ≤ 60 by omega) (show 0 ≤ f9_3__f0__toInt_toNat.toInt by omega) (show f9_3__f0__toInt_toNat.toInt ≤ 300 by omega) (show 3 * f9_3__f0__toInt_toNat.toInt + 11 ≤ 3 * f2_.toInt + 14 * (f9_0_18.toInt - f1_.toInt) by omega) (show f1_.toInt + 1 ≤ f9_0_18.toInt by omega) (show f9_3__f0__toInt_toNat.toInt ≤ 300 by omega)  hw hT hF c232 c220 c233 c234 c235 (lv_sub hl [0] rfl)
        · have c238 : ¬ r211.toInt = (42 : Int) := wk_eqF c238
          refine lv_aload_n hx hb dX12_term_18 rfl (lv_at hl 0 rfl) ?_
          refine tk_Vi hC hK hw hT hA hE hSR kM_at0 (by decide) rfl (k_X12_see_1 l adK adV dC dI cy ad B (by omega) (by omega) qr s1    w213 H.size hT x219 c220 (show 0 ≤ x219.toInt by omega) (show x219.toInt ≤ 400 by omega)) (cwV 0 hC.2.2.2.2 gX12_term_X12_see rfl rfl rfl (by decide +kernel) ⟨Nat.le_of_ble_eq_true rfl, Nat.le_of_ble_eq_true rfl⟩) rfl hl.1 rfl (Nat.le_of_ble_eq_true rfl) dX12_term_19 (fun r239 w241 H locs hp240 hw => ?_)
          obtain ⟨hT, k242, hg259⟩ := hp240
          have hF := hF.tr k242 (by decide)
          have c260 := k242.gi kM_at0 (by decide) c232
          have c261 := k242.gi kM_at0 (by decide) c233
          have c262 := k242.gi kM_at0 (by decide) c234
          have c263 := k242.gi kM_at3 rfl c235
          rcases hg259 with ⟨g243, g244, ⟨x245, c246, rx245, tx245⟩, ⟨x247, c248, rx247, tx247⟩, g249, g250⟩ | ⟨rfl, ⟨x251, c252, rx251, tx251⟩, ⟨x253, c254, rx253, tx253⟩, g255⟩ | ⟨rfl, ⟨x256, c257, rx256, tx256⟩, g258⟩
          · have ex245 : x245.toInt = f9_0_1.toInt := by rw [← c260.symm.trans c246]
            have g249 : (gi w241 1 (x247.toInt).toNat).toInt ≠ 32 := by have q := g249; simp only [c233, c261, c248] at q; omega
            have g250 : (x247.toInt = x219.toInt ∨ (gi w213 1 (x219.toInt).toNat).toInt = 32) := by have q := g250; simp only [c233, c261, c220, c248] at q; omega
            refine lv_bipush (v := 47) hx hb dX12_term_22 (by decide) ?_
            refine lv_icmp_ne (tgt := 75) hx hb dX12_term_24 (by decide) (fun c266 => ?_) (fun c266 => ?_)
            · have c266 : ¬ r239.toInt = (47 : Int) := wk_eqF c266
              refine lv_iconst (v := 1) hx hb dX12_term_75 (by decide) ?_
              exact tk_zret hC hr rfl hlocks hK ⟨hT, hF, (Or.inr (Or.inr (Or.inl ⟨rfl, ⟨f9_0_1, c260, (show 1 ≤ f9_0_1.toInt by omega), (show f9_0_1.toInt ≤ 400 by omega)⟩, ⟨f0_, c261, (show 0 ≤ f0_.toInt by omega), (show f0_.toInt ≤ 5 by omega)⟩, ⟨f9_0_18, c262, (show 1 ≤ f9_0_18.toInt by omega), (show f9_0_18.toInt ≤ 60 by omega)⟩, (by simp only [c261, cf0_, cf2_, c263, cf1_, c262]; omega), (by simp only [c261, cf0_, cf1_, c262]; omega)⟩)))⟩ hw dX12_term_76
            · have c266 : r239.toInt = (47 : Int) := wk_eq.mp c266
              exact J27 x247 H locs ls w241 (show 1 ≤ f9_0_1.toInt by omega) (show f9_0_1.toInt ≤ 400 by omega) (show 0 ≤ x247.toInt by omega) (show x247.toInt ≤ 399 by omega) (show 0 ≤ f0_.toInt by omega) (show f0_.toInt ≤ 5 by omega) (show 1 ≤ f9_0_18.toInt by omega) (show f9_0_18.toInt ≤ 60 by omega) (show 0 ≤ f9_3__f0__toInt_toNat.toInt by omega) (show f9_3__f0__toInt_toNat.toInt ≤ 300 by omega) (show 3 * f9_3__f0__toInt_toNat.toInt + 11 ≤ 3 * f2_.toInt + 14 * (f9_0_18.toInt - f1_.toInt) by omega) (show f1_.toInt + 1 ≤ f9_0_18.toInt by omega) (show f9_3__f0__toInt_toNat.toInt ≤ 300 by omega)  hw hT hF c260 c248 c261 c262 c263 (lv_sub hl [0] rfl)
          · have ex251 : x251.toInt = f9_0_1.toInt := by rw [← c260.symm.trans c252]
            have g255 : (x253.toInt = x219.toInt ∨ (gi w213 1 (x219.toInt).toNat).toInt = 32) := by have q := g255; simp only [c233, c261, c220, c254] at q; omega
            refine lv_bipush (v := 47) hx hb dX12_term_22 (by decide) ?_
            refine lv_icmp_ne (tgt := 75) hx hb dX12_term_24 (by decide) (fun _ => ?_) (fun c => absurd c (by decide))
            refine lv_iconst (v := 1) hx hb dX12_term_75 (by decide) ?_
            exact tk_zret hC hr rfl hlocks hK ⟨hT, hF, (Or.inr (Or.inr (Or.inl ⟨rfl, ⟨f9_0_1, c260, (show 1 ≤ f9_0_1.toInt by omega), (show f9_0_1.toInt ≤ 400 by omega)⟩, ⟨f0_, c261, (show 0 ≤ f0_.toInt by omega), (show f0_.toInt ≤ 5 by omega)⟩, ⟨f9_0_18, c262, (show 1 ≤ f9_0_18.toInt by omega), (show f9_0_18.toInt ≤ 60 by omega)⟩, (by simp only [c261, cf0_, cf2_, c263, cf1_, c262]; omega), (by simp only [c261, cf0_, cf1_, c262]; omega)⟩)))⟩ hw dX12_term_76
          · have ex256 : x256.toInt = f9_0_1.toInt := by rw [← c260.symm.trans c257]
            obtain ⟨x264, c265, rx264, tx264⟩ := hT.rdi (lo := 0) (hi := 400) (k := 14) kM_at0 (by decide) rfl
            have g258 : (x264.toInt = x219.toInt ∨ (gi w213 1 (x219.toInt).toNat).toInt = 32) := by have q := g258; simp only [c233, c261, c220, c265] at q; omega
            refine lv_bipush (v := 47) hx hb dX12_term_22 (by decide) ?_
            refine lv_icmp_ne (tgt := 75) hx hb dX12_term_24 (by decide) (fun _ => ?_) (fun c => absurd c (by decide))
            refine lv_iconst (v := 1) hx hb dX12_term_75 (by decide) ?_
            exact tk_zret hC hr rfl hlocks hK ⟨hT, hF, (Or.inr (Or.inr (Or.inl ⟨rfl, ⟨f9_0_1, c260, (show 1 ≤ f9_0_1.toInt by omega), (show f9_0_1.toInt ≤ 400 by omega)⟩, ⟨f0_, c261, (show 0 ≤ f0_.toInt by omega), (show f0_.toInt ≤ 5 by omega)⟩, ⟨f9_0_18, c262, (show 1 ≤ f9_0_18.toInt by omega), (show f9_0_18.toInt ≤ 60 by omega)⟩, (by simp only [c261, cf0_, cf2_, c263, cf1_, c262]; omega), (by simp only [c261, cf0_, cf1_, c262]; omega)⟩)))⟩ hw dX12_term_76
      · have ex223 : x223.toInt = f9_0_1.toInt := by rw [← c232.symm.trans c224]
        have g227 : (x225.toInt = x209.toInt ∨ (gi w1 1 (x209.toInt).toNat).toInt = 32) := by have q := g227; simp only [c7, c233, c210, c226] at q; omega
        refine lv_bipush (v := 42) hx hb dX12_term_13 (by decide) ?_
        refine lv_icmp_eq (tgt := 27) hx hb dX12_term_15 (by decide) (fun c => absurd c (by decide)) (fun _ => ?_)
        refine lv_aload_n hx hb dX12_term_18 rfl (lv_at hl 0 rfl) ?_
        refine tk_Vi hC hK hw hT hA hE hSR kM_at0 (by decide) rfl (k_X12_see_1 l adK adV dC dI cy ad B (by omega) (by omega) qr s1    w213 H.size hT x225 c226 (show 0 ≤ x225.toInt by omega) (show x225.toInt ≤ 400 by omega)) (cwV 0 hC.2.2.2.2 gX12_term_X12_see rfl rfl rfl (by decide +kernel) ⟨Nat.le_of_ble_eq_true rfl, Nat.le_of_ble_eq_true rfl⟩) rfl hl.1 rfl (Nat.le_of_ble_eq_true rfl) dX12_term_19 (fun r267 w269 H locs hp268 hw => ?_)
        obtain ⟨hT, k270, hg287⟩ := hp268
        have hF := hF.tr k270 (by decide)
        have c288 := k270.gi kM_at0 (by decide) c232
        have c289 := k270.gi kM_at0 (by decide) c233
        have c290 := k270.gi kM_at0 (by decide) c234
        have c291 := k270.gi kM_at3 rfl c235
        rcases hg287 with ⟨g271, g272, ⟨x273, c274, rx273, tx273⟩, ⟨x275, c276, rx275, tx275⟩, g277, g278⟩ | ⟨rfl, ⟨x279, c280, rx279, tx279⟩, ⟨x281, c282, rx281, tx281⟩, g283⟩ | ⟨rfl, ⟨x284, c285, rx284, tx284⟩, g286⟩
        · have ex273 : x273.toInt = f9_0_1.toInt := by rw [← c288.symm.trans c274]
          have g277 : (gi w269 1 (x275.toInt).toNat).toInt ≠ 32 := by have q := g277; simp only [c233, c289, c276] at q; omega
          have g278 : (x275.toInt = x225.toInt ∨ (gi w213 1 (x225.toInt).toNat).toInt = 32) := by have q := g278; simp only [c233, c289, c226, c276] at q; omega
          refine lv_bipush (v := 47) hx hb dX12_term_22 (by decide) ?_
          refine lv_icmp_ne (tgt := 75) hx hb dX12_term_24 (by decide) (fun c294 => ?_) (fun c294 => ?_)
          · have c294 : ¬ r267.toInt = (47 : Int) := wk_eqF c294
            refine lv_iconst (v := 1) hx hb dX12_term_75 (by decide) ?_
            exact tk_zret hC hr rfl hlocks hK ⟨hT, hF, (Or.inr (Or.inr (Or.inl ⟨rfl, ⟨f9_0_1, c288, (show 1 ≤ f9_0_1.toInt by omega), (show f9_0_1.toInt ≤ 400 by omega)⟩, ⟨f0_, c289, (show 0 ≤ f0_.toInt by omega), (show f0_.toInt ≤ 5 by omega)⟩, ⟨f9_0_18, c290, (show 1 ≤ f9_0_18.toInt by omega), (show f9_0_18.toInt ≤ 60 by omega)⟩, (by simp only [c289, cf0_, cf2_, c291, cf1_, c290]; omega), (by simp only [c289, cf0_, cf1_, c290]; omega)⟩)))⟩ hw dX12_term_76
          · have c294 : r267.toInt = (47 : Int) := wk_eq.mp c294
            exact J27 x275 H locs ls w269 (show 1 ≤ f9_0_1.toInt by omega) (show f9_0_1.toInt ≤ 400 by omega) (show 0 ≤ x275.toInt by omega) (show x275.toInt ≤ 399 by omega) (show 0 ≤ f0_.toInt by omega) (show f0_.toInt ≤ 5 by omega) (show 1 ≤ f9_0_18.toInt by omega) (show f9_0_18.toInt ≤ 60 by omega) (show 0 ≤ f9_3__f0__toInt_toNat.toInt by omega) (show f9_3__f0__toInt_toNat.toInt ≤ 300 by omega) (show 3 * f9_3__f0__toInt_toNat.toInt + 11 ≤ 3 * f2_.toInt + 14 * (f9_0_18.toInt - f1_.toInt) by omega) (show f1_.toInt + 1 ≤ f9_0_18.toInt by omega) (show f9_3__f0__toInt_toNat.toInt ≤ 300 by omega)  hw hT hF c288 c276 c289 c290 c291 (lv_sub hl [0] rfl)
        · have ex279 : x279.toInt = f9_0_1.toInt := by rw [← c288.symm.trans c280]
          have g283 : (x281.toInt = x225.toInt ∨ (gi w213 1 (x225.toInt).toNat).toInt = 32) := by have q := g283; simp only [c233, c289, c226, c282] at q; omega
          refine lv_bipush (v := 47) hx hb dX12_term_22 (by decide) ?_
          refine lv_icmp_ne (tgt := 75) hx hb dX12_term_24 (by decide) (fun _ => ?_) (fun c => absurd c (by decide))
          refine lv_iconst (v := 1) hx hb dX12_term_75 (by decide) ?_
          exact tk_zret hC hr rfl hlocks hK ⟨hT, hF, (Or.inr (Or.inr (Or.inl ⟨rfl, ⟨f9_0_1, c288, (show 1 ≤ f9_0_1.toInt by omega), (show f9_0_1.toInt ≤ 400 by omega)⟩, ⟨f0_, c289, (show 0 ≤ f0_.toInt by omega), (show f0_.toInt ≤ 5 by omega)⟩, ⟨f9_0_18, c290, (show 1 ≤ f9_0_18.toInt by omega), (show f9_0_18.toInt ≤ 60 by omega)⟩, (by simp only [c289, cf0_, cf2_, c291, cf1_, c290]; omega), (by simp only [c289, cf0_, cf1_, c290]; omega)⟩)))⟩ hw dX12_term_76
        · have ex284 : x284.toInt = f9_0_1.toInt := by rw [← c288.symm.trans c285]
          obtain ⟨x292, c293, rx292, tx292⟩ := hT.rdi (lo := 0) (hi := 400) (k := 14) kM_at0 (by decide) rfl
          have g286 : (x292.toInt = x225.toInt ∨ (gi w213 1 (x225.toInt).toNat).toInt = 32) := by have q := g286; simp only [c233, c289, c226, c293] at q; omega
          refine lv_bipush (v := 47) hx hb dX12_term_22 (by decide) ?_
          refine lv_icmp_ne (tgt := 75) hx hb dX12_term_24 (by decide) (fun _ => ?_) (fun c => absurd c (by decide))
          refine lv_iconst (v := 1) hx hb dX12_term_75 (by decide) ?_
          exact tk_zret hC hr rfl hlocks hK ⟨hT, hF, (Or.inr (Or.inr (Or.inl ⟨rfl, ⟨f9_0_1, c288, (show 1 ≤ f9_0_1.toInt by omega), (show f9_0_1.toInt ≤ 400 by omega)⟩, ⟨f0_, c289, (show 0 ≤ f0_.toInt by omega), (show f0_.toInt ≤ 5 by omega)⟩, ⟨f9_0_18, c290, (show 1 ≤ f9_0_18.toInt by omega), (show f9_0_18.toInt ≤ 60 by omega)⟩, (by simp only [c289, cf0_, cf2_, c291, cf1_, c290]; omega), (by simp only [c289, cf0_, cf1_, c290]; omega)⟩)))⟩ hw dX12_term_76
      · have ex228 : x228.toInt = f9_0_1.toInt := by rw [← c232.symm.trans c229]
        obtain ⟨x236, c237, rx236, tx236⟩ := hT.rdi (lo := 0) (hi := 400) (k := 14) kM_at0 (by decide) rfl
        have g230 : (x236.toInt = x209.toInt ∨ (gi w1 1 (x209.toInt).toNat).toInt = 32) := by have q := g230; simp only [c7, c233, c210, c237] at q; omega
        refine lv_bipush (v := 42) hx hb dX12_term_13 (by decide) ?_
        refine lv_icmp_eq (tgt := 27) hx hb dX12_term_15 (by decide) (fun c => absurd c (by decide)) (fun _ => ?_)
        refine lv_aload_n hx hb dX12_term_18 rfl (lv_at hl 0 rfl) ?_
        refine tk_Vi hC hK hw hT hA hE hSR kM_at0 (by decide) rfl (k_X12_see_1 l adK adV dC dI cy ad B (by omega) (by omega) qr s1    w213 H.size hT x236 c237 (show 0 ≤ x236.toInt by omega) (show x236.toInt ≤ 400 by omega)) (cwV 0 hC.2.2.2.2 gX12_term_X12_see rfl rfl rfl (by decide +kernel) ⟨Nat.le_of_ble_eq_true rfl, Nat.le_of_ble_eq_true rfl⟩) rfl hl.1 rfl (Nat.le_of_ble_eq_true rfl) dX12_term_19 (fun r295 w297 H locs hp296 hw => ?_)
        obtain ⟨hT, k298, hg315⟩ := hp296
        have hF := hF.tr k298 (by decide)
        have c316 := k298.gi kM_at0 (by decide) c232
        have c317 := k298.gi kM_at0 (by decide) c233
        have c318 := k298.gi kM_at0 (by decide) c234
        have c319 := k298.gi kM_at3 rfl c235
        rcases hg315 with ⟨g299, g300, ⟨x301, c302, rx301, tx301⟩, ⟨x303, c304, rx303, tx303⟩, g305, g306⟩ | ⟨rfl, ⟨x307, c308, rx307, tx307⟩, ⟨x309, c310, rx309, tx309⟩, g311⟩ | ⟨rfl, ⟨x312, c313, rx312, tx312⟩, g314⟩
        · have ex301 : x301.toInt = f9_0_1.toInt := by rw [← c316.symm.trans c302]
          have g305 : (gi w297 1 (x303.toInt).toNat).toInt ≠ 32 := by have q := g305; simp only [c233, c317, c304] at q; omega
          have g306 : (x303.toInt = x236.toInt ∨ (gi w213 1 (x236.toInt).toNat).toInt = 32) := by have q := g306; simp only [c233, c317, c237, c304] at q; omega
          refine lv_bipush (v := 47) hx hb dX12_term_22 (by decide) ?_
          refine lv_icmp_ne (tgt := 75) hx hb dX12_term_24 (by decide) (fun c322 => ?_) (fun c322 => ?_)
          · have c322 : ¬ r295.toInt = (47 : Int) := wk_eqF c322
            refine lv_iconst (v := 1) hx hb dX12_term_75 (by decide) ?_
            exact tk_zret hC hr rfl hlocks hK ⟨hT, hF, (Or.inr (Or.inr (Or.inl ⟨rfl, ⟨f9_0_1, c316, (show 1 ≤ f9_0_1.toInt by omega), (show f9_0_1.toInt ≤ 400 by omega)⟩, ⟨f0_, c317, (show 0 ≤ f0_.toInt by omega), (show f0_.toInt ≤ 5 by omega)⟩, ⟨f9_0_18, c318, (show 1 ≤ f9_0_18.toInt by omega), (show f9_0_18.toInt ≤ 60 by omega)⟩, (by simp only [c317, cf0_, cf2_, c319, cf1_, c318]; omega), (by simp only [c317, cf0_, cf1_, c318]; omega)⟩)))⟩ hw dX12_term_76
          · have c322 : r295.toInt = (47 : Int) := wk_eq.mp c322
            exact J27 x303 H locs ls w297 (show 1 ≤ f9_0_1.toInt by omega) (show f9_0_1.toInt ≤ 400 by omega) (show 0 ≤ x303.toInt by omega) (show x303.toInt ≤ 399 by omega) (show 0 ≤ f0_.toInt by omega) (show f0_.toInt ≤ 5 by omega) (show 1 ≤ f9_0_18.toInt by omega) (show f9_0_18.toInt ≤ 60 by omega) (show 0 ≤ f9_3__f0__toInt_toNat.toInt by omega) (show f9_3__f0__toInt_toNat.toInt ≤ 300 by omega) (show 3 * f9_3__f0__toInt_toNat.toInt + 11 ≤ 3 * f2_.toInt + 14 * (f9_0_18.toInt - f1_.toInt) by omega) (show f1_.toInt + 1 ≤ f9_0_18.toInt by omega) (show f9_3__f0__toInt_toNat.toInt ≤ 300 by omega)  hw hT hF c316 c304 c317 c318 c319 (lv_sub hl [0] rfl)
        · have ex307 : x307.toInt = f9_0_1.toInt := by rw [← c316.symm.trans c308]
          have g311 : (x309.toInt = x236.toInt ∨ (gi w213 1 (x236.toInt).toNat).toInt = 32) := by have q := g311; simp only [c233, c317, c237, c310] at q; omega
          refine lv_bipush (v := 47) hx hb dX12_term_22 (by decide) ?_
          refine lv_icmp_ne (tgt := 75) hx hb dX12_term_24 (by decide) (fun _ => ?_) (fun c => absurd c (by decide))
          refine lv_iconst (v := 1) hx hb dX12_term_75 (by decide) ?_
          exact tk_zret hC hr rfl hlocks hK ⟨hT, hF, (Or.inr (Or.inr (Or.inl ⟨rfl, ⟨f9_0_1, c316, (show 1 ≤ f9_0_1.toInt by omega), (show f9_0_1.toInt ≤ 400 by omega)⟩, ⟨f0_, c317, (show 0 ≤ f0_.toInt by omega), (show f0_.toInt ≤ 5 by omega)⟩, ⟨f9_0_18, c318, (show 1 ≤ f9_0_18.toInt by omega), (show f9_0_18.toInt ≤ 60 by omega)⟩, (by simp only [c317, cf0_, cf2_, c319, cf1_, c318]; omega), (by simp only [c317, cf0_, cf1_, c318]; omega)⟩)))⟩ hw dX12_term_76
        · have ex312 : x312.toInt = f9_0_1.toInt := by rw [← c316.symm.trans c313]
          obtain ⟨x320, c321, rx320, tx320⟩ := hT.rdi (lo := 0) (hi := 400) (k := 14) kM_at0 (by decide) rfl
          have g314 : (x320.toInt = x236.toInt ∨ (gi w213 1 (x236.toInt).toNat).toInt = 32) := by have q := g314; simp only [c233, c317, c237, c321] at q; omega
          refine lv_bipush (v := 47) hx hb dX12_term_22 (by decide) ?_
          refine lv_icmp_ne (tgt := 75) hx hb dX12_term_24 (by decide) (fun _ => ?_) (fun c => absurd c (by decide))
          refine lv_iconst (v := 1) hx hb dX12_term_75 (by decide) ?_
          exact tk_zret hC hr rfl hlocks hK ⟨hT, hF, (Or.inr (Or.inr (Or.inr ⟨rfl, ⟨f9_0_1, c316, (show 0 ≤ f9_0_1.toInt by omega), (show f9_0_1.toInt ≤ 400 by omega)⟩, ⟨f0_, c317, (show 0 ≤ f0_.toInt by omega), (show f0_.toInt ≤ 5 by omega)⟩, ⟨f9_0_18, c318, (show 1 ≤ f9_0_18.toInt by omega), (show f9_0_18.toInt ≤ 60 by omega)⟩, (by simp only [c317, cf0_, cf2_, c319, cf1_, c318]; omega), (by simp only [c317, cf0_, cf1_, c318]; omega)⟩)))⟩ hw dX12_term_76
  refine lv_aload_n hx hb dX12_term_0 rfl (lv_at hl 0 rfl) ?_
  refine tk_Vi hC hK hw hT hA hE hSR kM_at0 (by decide) rfl (k_X12_value_1 l adK adV dC dI cy ad B (by omega) (by omega) qr s1    w0 s.heap.size hT f0_ cf0_ (show 0 ≤ f0_.toInt by omega) (show f0_.toInt ≤ 5 by omega) f1_ cf1_ (show 0 ≤ f1_.toInt by omega) (show f1_.toInt ≤ 60 by omega) f2_ cf2_ (show 0 ≤ f2_.toInt by omega) (show f2_.toInt ≤ 400 by omega) (show f2_.toInt ≤ 399 by omega)) (cwV 0 hC.2.2.2.2 gX12_term_X12_value rfl rfl rfl (by decide +kernel) ⟨Nat.le_of_ble_eq_true rfl, Nat.le_of_ble_eq_true rfl⟩) rfl hl.1 rfl (Nat.le_of_ble_eq_true rfl) dX12_term_1 (fun r323 w325 H locs hp324 hw => ?_)
  obtain ⟨hT, k326, hg355⟩ := hp324
  have hF := hF.tr k326 (by decide)
  have c356 := k326.gi kM_at0 (by decide) cf0_
  rcases hg355 with ⟨rfl, ⟨x327, c328, rx327, tx327⟩, ⟨x329, c330, rx329, tx329⟩, ⟨x331, c332, rx331, tx331⟩⟩ | ⟨rfl, ⟨x333, c334, rx333, tx333⟩, ⟨x335, c336, rx335, tx335⟩, ⟨x337, c338, rx337, tx337⟩⟩ | ⟨rfl, ⟨x339, c340, rx339, tx339⟩, ⟨x341, c342, rx341, tx341⟩, ⟨x343, c344, rx343, tx343⟩, g345, g346⟩ | ⟨rfl, ⟨x347, c348, rx347, tx347⟩, ⟨x349, c350, rx349, tx349⟩, ⟨x351, c352, rx351, tx351⟩, g353, g354⟩
  · have ex331 : x331.toInt = f0_.toInt := by rw [← c356.symm.trans c332]
    obtain ⟨x357, c358, rx357, tx357⟩ := hT.rda (lo := 0) (hi := 400) (i := (f0_.toInt).toNat) kM_at3 rfl rfl (by omega)
    obtain ⟨x359, c360, rx359, tx359⟩ := hT.rdi (lo := 0) (hi := 60) (k := 18) kM_at0 (by decide) rfl
    refine lv_if_ne (tgt := 9) hx hb dX12_term_4 (by decide) (fun c => absurd (by decide) c) (fun _ => ?_)
    refine lv_iconst (v := 0) hx hb dX12_term_7 (by decide) ?_
    exact tk_zret hC hr rfl hlocks hK ⟨hT, hF, (Or.inl ⟨rfl, ⟨x327, c328, (show 1 ≤ x327.toInt by omega), (show x327.toInt ≤ 400 by omega)⟩, ⟨x329, c330, (show 1 ≤ x329.toInt by omega), (show x329.toInt ≤ 3205 by omega)⟩, ⟨f0_, c356, (show 0 ≤ f0_.toInt by omega), (show f0_.toInt ≤ 5 by omega)⟩⟩)⟩ hw dX12_term_8
  · have ex337 : x337.toInt = f0_.toInt := by rw [← c356.symm.trans c338]
    obtain ⟨x361, c362, rx361, tx361⟩ := hT.rda (lo := 0) (hi := 400) (i := (f0_.toInt).toNat) kM_at3 rfl rfl (by omega)
    obtain ⟨x363, c364, rx363, tx363⟩ := hT.rdi (lo := 0) (hi := 60) (k := 18) kM_at0 (by decide) rfl
    refine lv_if_ne (tgt := 9) hx hb dX12_term_4 (by decide) (fun c => absurd (by decide) c) (fun _ => ?_)
    refine lv_iconst (v := 0) hx hb dX12_term_7 (by decide) ?_
    exact tk_zret hC hr rfl hlocks hK ⟨hT, hF, (Or.inr (Or.inl ⟨rfl, ⟨x333, c334, (show 0 ≤ x333.toInt by omega), (show x333.toInt ≤ 400 by omega)⟩, ⟨x335, c336, (show 1 ≤ x335.toInt by omega), (show x335.toInt ≤ 3205 by omega)⟩, ⟨f0_, c356, (show 0 ≤ f0_.toInt by omega), (show f0_.toInt ≤ 5 by omega)⟩⟩))⟩ hw dX12_term_8
  · have ex341 : x341.toInt = f0_.toInt := by rw [← c356.symm.trans c342]
    obtain ⟨x365, c366, rx365, tx365⟩ := hT.rda (lo := 0) (hi := 400) (i := (f0_.toInt).toNat) kM_at3 rfl rfl (by omega)
    have g345 : x365.toInt = f2_.toInt + 1 := by have q := g345; simp only [cf0_, c356, cf2_, c366] at q; omega
    have g346 : x343.toInt = f1_.toInt + 1 := by have q := g346; simp only [cf0_, c356, cf1_, c344] at q; omega
    refine lv_if_ne (tgt := 9) hx hb dX12_term_4 (by decide) (fun _ => ?_) (fun c => absurd c (by decide))
    exact L9 ((60 - x343.toInt).toNat + 1) x339 x343 x365 H locs ls w325 (show 0 ≤ x339.toInt by omega) (show x339.toInt ≤ 400 by omega) (show 0 ≤ f0_.toInt by omega) (show f0_.toInt ≤ 5 by omega) (show 1 ≤ x343.toInt by omega) (show x343.toInt ≤ 60 by omega) (show 0 ≤ x365.toInt by omega) (show x365.toInt ≤ 300 by omega) (show 3 * x365.toInt + 11 ≤ 3 * f2_.toInt + 14 * (x343.toInt - f1_.toInt) by omega) (show f1_.toInt + 1 ≤ x343.toInt by omega) (show x365.toInt ≤ 300 by omega) (Nat.lt_succ_self _) hw hT hF c340 c356 c344 c366 (lv_sub hl [0] rfl)
  · have ex349 : x349.toInt = f0_.toInt := by rw [← c356.symm.trans c350]
    obtain ⟨x367, c368, rx367, tx367⟩ := hT.rda (lo := 0) (hi := 400) (i := (f0_.toInt).toNat) kM_at3 rfl rfl (by omega)
    have g353 : x367.toInt = f2_.toInt + 1 := by have q := g353; simp only [cf0_, c356, cf2_, c368] at q; omega
    have g354 : x351.toInt = f1_.toInt + 1 := by have q := g354; simp only [cf0_, c356, cf1_, c352] at q; omega
    refine lv_if_ne (tgt := 9) hx hb dX12_term_4 (by decide) (fun _ => ?_) (fun c => absurd c (by decide))
    exact L9 ((60 - x351.toInt).toNat + 1) x347 x351 x367 H locs ls w325 (show 0 ≤ x347.toInt by omega) (show x347.toInt ≤ 400 by omega) (show 0 ≤ f0_.toInt by omega) (show f0_.toInt ≤ 5 by omega) (show 1 ≤ x351.toInt by omega) (show x351.toInt ≤ 60 by omega) (show 0 ≤ x367.toInt by omega) (show x367.toInt ≤ 300 by omega) (show 3 * x367.toInt + 11 ≤ 3 * f2_.toInt + 14 * (x351.toInt - f1_.toInt) by omega) (show f1_.toInt + 1 ≤ x351.toInt by omega) (show x367.toInt ≤ 300 by omega) (Nat.lt_succ_self _) hw hT hF c348 c356 c352 c368 (lv_sub hl [0] rfl)
abbrev P_X12_sum_1 (ad : Nat → Nat) (cy : Nat → ClassId) (B : Int) (qr : Nat) (s1 : Int)  (w0 : va_W) : Int32 → va_W → Prop := fun r u => TW ksM ad cy B qr 12 u ∧ FE ksM [(12, 14, 14), (12, 15, 15), (12, 16, 16), (12, 18, 18), (61, 0, 2400), (62, 0, 7)] w0 u ∧ ((r = 0 ∧ (∃ y : Int32, gi u 0 1 = y ∧ 1 ≤ y.toInt ∧ y.toInt ≤ 400) ∧ (∃ y : Int32, gi u 0 15 = y ∧ 1 ≤ y.toInt ∧ y.toInt ≤ 3205) ∧ (∃ y : Int32, gi u 0 17 = y ∧ 0 ≤ y.toInt ∧ y.toInt ≤ 5)) ∨ (r = 0 ∧ (∃ y : Int32, gi u 0 1 = y ∧ 0 ≤ y.toInt ∧ y.toInt ≤ 400) ∧ (∃ y : Int32, gi u 0 15 = y ∧ 1 ≤ y.toInt ∧ y.toInt ≤ 3205) ∧ (∃ y : Int32, gi u 0 17 = y ∧ 0 ≤ y.toInt ∧ y.toInt ≤ 5)) ∨ (r = 1 ∧ (∃ y : Int32, gi u 0 1 = y ∧ 1 ≤ y.toInt ∧ y.toInt ≤ 400) ∧ (∃ y : Int32, gi u 0 17 = y ∧ 0 ≤ y.toInt ∧ y.toInt ≤ 5) ∧ (∃ y : Int32, gi u 0 18 = y ∧ 1 ≤ y.toInt ∧ y.toInt ≤ 60) ∧ (3 * (gi u 3 ((gi u 0 17).toInt).toNat).toInt + 11 ≤ 3 * (gi w0 3 ((gi w0 0 17).toInt).toNat).toInt + 14 * ((gi u 0 18).toInt - (gi w0 0 18).toInt)) ∧ ((gi w0 0 18).toInt + 1 ≤ (gi u 0 18).toInt)) ∨ (r = 1 ∧ (∃ y : Int32, gi u 0 1 = y ∧ 0 ≤ y.toInt ∧ y.toInt ≤ 400) ∧ (∃ y : Int32, gi u 0 17 = y ∧ 0 ≤ y.toInt ∧ y.toInt ≤ 5) ∧ (∃ y : Int32, gi u 0 18 = y ∧ 1 ≤ y.toInt ∧ y.toInt ≤ 60) ∧ (3 * (gi u 3 ((gi u 0 17).toInt).toNat).toInt + 11 ≤ 3 * (gi w0 3 ((gi w0 0 17).toInt).toNat).toInt + 14 * ((gi u 0 18).toInt - (gi w0 0 18).toInt)) ∧ ((gi w0 0 18).toInt + 1 ≤ (gi u 0 18).toInt)))
set_option maxHeartbeats 4000000 in
set_option maxRecDepth 100000 in
theorem k_X12_sum_1 (l : Launch) (adK adV : Nat → Nat) (dC : Nat → ClassId) (dI : Nat → Nat → Nat) (cy : Nat → ClassId) (ad : Nat → Nat) (B : Int) (hB0 : 100000 ≤ B) (hB1 : B ≤ 1073741824) (qr : Nat) (s1 : Int)   (w0 : va_W) (sz : Nat) (hT : TW ksM ad cy B qr 12 w0) (f0_ : Int32) (cf0_ : gi w0 0 17 = f0_) (rf0_ : 0 ≤ f0_.toInt) (tf0_ : f0_.toInt ≤ 5) (f1_ : Int32) (cf1_ : gi w0 0 18 = f1_) (rf1_ : 0 ≤ f1_.toInt) (tf1_ : f1_.toInt ≤ 60) (f2_ : Int32) (cf2_ : gi w0 3 (f0_.toInt).toNat = f2_) (rf2_ : 0 ≤ f2_.toInt) (tf2_ : f2_.toInt ≤ 400) (pr0_ : 3 * f2_.toInt ≤ 14 * f1_.toInt + 60) (pr1_ : f2_.toInt ≤ 300) : Met l yX12_sum wsX12_sum ({ frames := 6, cells := 0, slots := 0, locals := 121 }) (va_Pc [.ref (ad 0)] (wpreS adK adV dC dI cy sz w0)) (va_Qi (P_X12_sum_1 ad cy B qr s1  w0) (fun u : va_W => wpost dC dI cy (va_A w0 sz) u) (va_A w0 sz)) 0 0 (va_A w0 sz) := by
  refine Met.ofW (cc := cX12_sum) (maxL := 2) (ret := (some .boolean)) (by decide) rfl ?_
  intro p e s m args below meth c s₁ Bk hml hv
  obtain ⟨rfl, ⟨hsz, hP, hK, hD0⟩, hE, hSR⟩ := hv
  have hx := Bk.exec
  have hb := Bk.bytes
  have hr := Bk.returns
  have hlocks := Bk.notSynchronized
  have hC : CallFix p m c cX12_sum 2 s _ wsX12_sum RX12 := ⟨hx, hb, hml, findClass_of_methodNamed Bk.named, atoms_spec (ws := wsX12_sum) Bk.pre⟩
  subst hsz
  have hD := hD0.self (sz := s.heap.size)
  generalize hAe : va_A w0 s.heap.size = A at hD hE ⊢
  have hA : ∀ q : Nat, s.heap.size ≤ q → A q := fun q h => by rw [← hAe]; exact Or.inr h
  have hw : Wd dC dI A s.heap s.heap [] w0 := ⟨hP, hD, va_S.rf⟩
  have hF : FE ksM [(12, 14, 14), (12, 15, 15), (12, 16, 16), (12, 18, 18), (61, 0, 2400), (62, 0, 7)] w0 w0 := FE.rf
  have hl := lv_entry ([.ref (ad 0)]) (n := 2) (Nat.le_of_ble_eq_true rfl)
  rw [lg_entry_eq]
  generalize (lg_sl ([.ref (ad 0)]) ++ List.replicate (2 - (lg_sl ([.ref (ad 0)])).length) Slot.unset).toArray = ls at hl ⊢
  have hl : lv_has ls 2 [(0, .ref (ad 0))] := hl
  generalize hloc : ([] : List Loc) = locs at hw ⊢
  have hinX12 : ∀ w ∈ u_ws RX12 TX12 42, w ∈ wsX12_sum := fun _ h => List.mem_cons_of_mem _ (List.mem_append_right _ (h))
  have L9 : ∀ (n9 : Nat) (f9_0_1 : Int32) (f9_0_18 : Int32) (f9_3__f0__toInt_toNat : Int32) (H : Heap) (locs : List Loc) (ls : Array Slot) (w1 : va_W), 0 ≤ f9_0_1.toInt → f9_0_1.toInt ≤ 400 → 0 ≤ f0_.toInt → f0_.toInt ≤ 5 → 1 ≤ f9_0_18.toInt → f9_0_18.toInt ≤ 60 → 0 ≤ f9_3__f0__toInt_toNat.toInt → f9_3__f0__toInt_toNat.toInt ≤ 300 → (3 * f9_3__f0__toInt_toNat.toInt + 11 ≤ 3 * f2_.toInt + 14 * (f9_0_18.toInt - f1_.toInt)) → (f1_.toInt + 1 ≤ f9_0_18.toInt) → (f9_3__f0__toInt_toNat.toInt ≤ 300) → (60 - f9_0_18.toInt).toNat < n9 → Wd dC dI A s.heap H locs w1 → TW ksM ad cy B qr 12 w1 → FE ksM [(12, 14, 14), (12, 15, 15), (12, 16, 16), (12, 18, 18), (61, 0, 2400), (62, 0, 7)] w0 w1 → gi w1 0 1 = f9_0_1 → gi w1 0 17 = f0_ → gi w1 0 18 = f9_0_18 → gi w1 3 (f0_.toInt).toNat = f9_3__f0__toInt_toNat → lv_has ls 2 [(0, .ref (ad 0))] → W p l e ({ frames := 6, cells := 0, slots := 0, locals := 121 }) s m (List.toArray [.ref (ad 0)]) below meth c H locs 0 0 (MQ below (va_Qi (P_X12_sum_1 ad cy B qr s1  w0) (fun u : va_W => wpost dC dI cy A u) A) (List.toArray [.ref (ad 0)]) s 0 0 A) (F0 m 9 ls []) := by
    intro n9
    induction n9 with
    | zero => intro f9_0_1 f9_0_18 f9_3__f0__toInt_toNat H locs ls w1 r2 t3 r5 t6 r8 t9 r11 t12 hcr9_0 hcr9_1 hcr9_2 hm9 hw hT hF c4 c7 c10 c13 hl; omega
    | succ n9 ih9 =>
      intro f9_0_1 f9_0_18 f9_3__f0__toInt_toNat H locs ls w1 r2 t3 r5 t6 r8 t9 r11 t12 hcr9_0 hcr9_1 hcr9_2 hm9 hw hT hF c4 c7 c10 c13 hl
      have J27 : ∀ (f27_0_14 : Int32) (H : Heap) (locs : List Loc) (ls : Array Slot) (w14 : va_W), 1 ≤ f9_0_1.toInt → f9_0_1.toInt ≤ 400 → 0 ≤ f27_0_14.toInt → f27_0_14.toInt ≤ 399 → 0 ≤ f0_.toInt → f0_.toInt ≤ 5 → 1 ≤ f9_0_18.toInt → f9_0_18.toInt ≤ 60 → 0 ≤ f9_3__f0__toInt_toNat.toInt → f9_3__f0__toInt_toNat.toInt ≤ 300 → (3 * f9_3__f0__toInt_toNat.toInt + 11 ≤ 3 * f2_.toInt + 14 * (f9_0_18.toInt - f1_.toInt)) → (f1_.toInt + 1 ≤ f9_0_18.toInt) → (f9_3__f0__toInt_toNat.toInt ≤ 300) → Wd dC dI A s.heap H locs w14 → TW ksM ad cy B qr 12 w14 → FE ksM [(12, 14, 14), (12, 15, 15), (12, 16, 16), (12, 18, 18), (61, 0, 2400), (62, 0, 7)] w0 w14 → gi w14 0 1 = f9_0_1 → gi w14 0 14 = f27_0_14 → gi w14 0 17 = f0_ → gi w14 0 18 = f9_0_18 → gi w14 3 (f0_.toInt).toNat = f9_3__f0__toInt_toNat → lv_has ls 2 [(0, .ref (ad 0))] → W p l e ({ frames := 6, cells := 0, slots := 0, locals := 121 }) s m (List.toArray [.ref (ad 0)]) below meth c H locs 0 0 (MQ below (va_Qi (P_X12_sum_1 ad cy B qr s1  w0) (fun u : va_W => wpost dC dI cy A u) A) (List.toArray [.ref (ad 0)]) s 0 0 A) (F0 m 27 ls []) := by
        intro f27_0_14 H locs ls w14 r15 t16 r18 t19 r21 t22 r24 t25 r27 t28 hcr27_0 hcr27_1 hcr27_2 hw hT hF c17 c20 c23 c26 c29 hl
        refine lv_aload_n hx hb dX12_sum_27 rfl (lv_at hl 0 rfl) ?_
        refine tk_getA hC hK hw hT hinX12 kM_at0 (by decide) rfl 0 (by decide) (List.mem_of_getElem? (i := 1) rfl) rfl rfl dX12_sum_28 ?_
        refine lv_aload_n hx hb dX12_sum_31 rfl (lv_at hl 0 rfl) ?_
        refine tk_geti hC hK hw hT hinX12 kM_at0 (by decide) rfl 14 (by decide) (List.mem_of_getElem? (i := 2) rfl) rfl rfl dX12_sum_32 (fun x30 c31 rx30 tx30 => ?_)
        refine wk_top f27_0_14 (c31.symm.trans c20) ?_
        refine tk_bald hC hK hw hT kM_at1 rfl rfl (show 0 ≤ f27_0_14.toInt by omega) (show f27_0_14.toInt < 400 by omega) dX12_sum_35 (fun x32 c33 rx32 tx32 => ?_)
        have c33 : gi w14 1 (f27_0_14.toInt).toNat = x32 := (congrArg (gi w14 1) (congrArg Int.toNat (show f27_0_14.toInt = f27_0_14.toInt by omega))).trans c33
        refine lv_bipush (v := 43) hx hb dX12_sum_36 (by decide) ?_
        refine lv_icmp_ne (tgt := 45) hx hb dX12_sum_38 (by decide) (fun c34 => ?_) (fun c34 => ?_)
        · have c34 : ¬ x32.toInt = (43 : Int) := wk_eqF c34
          refine lv_iconst (v := 3) hx hb dX12_sum_45 (by decide) ?_
          refine lv_istore_n (lv' := [(1, .int 3), (0, .ref (ad 0))]) hx hb dX12_sum_46 rfl hl (by decide) rfl (fun ls hl => ?_)
          refine lv_aload_n hx hb dX12_sum_47 rfl (lv_at hl 1 rfl) ?_
          refine lv_dup hx hb dX12_sum_48 rfl ?_
          refine tk_geti hC hK hw hT hinX12 kM_at0 (by decide) rfl 14 (by decide) (List.mem_of_getElem? (i := 2) rfl) rfl rfl dX12_sum_49 (fun x35 c36 rx35 tx35 => ?_)
          refine wk_top f27_0_14 (c36.symm.trans c20) ?_
          refine lv_iconst (v := 1) hx hb dX12_sum_52 (by decide) ?_
          refine lv_iadd hx hb dX12_sum_53 ?_
          refine lv_topi (fun x37 ex37 => ?_)
          have ex37 : x37.toInt = f27_0_14.toInt + (1 : Int) := by rw [ex37]; exact wk_add (show (-2147483648) ≤ f27_0_14.toInt + (1 : Int) by omega) (show f27_0_14.toInt + (1 : Int) ≤ 2147483647 by omega)
          refine tk_puti hC hK hw hT hinX12 tyX12_ok nmX12 kM_at0 (by decide) rfl rfl 14 (by decide) (List.mem_of_getElem? (i := 2) rfl) rfl rfl rfl rfl (show 0 ≤ x37.toInt by omega) (show x37.toInt ≤ 400 by omega) dX12_sum_54 (fun H locs w38 hw hT k40 c39 => ?_)
          have hF := hF.put kM_at0 (k := 14) (by decide) k40
          have c41 := k40.gi (Or.inr (by decide)) c17
          have c42 := k40.gi (Or.inr (by decide)) c23
          have c43 := k40.gi (Or.inr (by decide)) c26
          have c44 := k40.gi (Or.inl (tk_ne kM_at3 kM_at0 (by decide))) c29
          have c45 := k40.gi (Or.inl (tk_ne kM_at1 kM_at0 (by decide))) c33
          refine lv_aload_n hx hb dX12_sum_57 rfl (lv_at hl 1 rfl) ?_
          refine tk_Vi hC hK hw hT hA hE hSR kM_at0 (by decide) rfl (k_X12_term_1 l adK adV dC dI cy ad B (by omega) (by omega) qr s1    w38 H.size hT f0_ c42 (show 0 ≤ f0_.toInt by omega) (show f0_.toInt ≤ 5 by omega) f9_0_18 c43 (show 0 ≤ f9_0_18.toInt by omega) (show f9_0_18.toInt ≤ 60 by omega) f9_3__f0__toInt_toNat c44 (show 0 ≤ f9_3__f0__toInt_toNat.toInt by omega) (show f9_3__f0__toInt_toNat.toInt ≤ 400 by omega) (show 3 * f9_3__f0__toInt_toNat.toInt ≤ 14 * f9_0_18.toInt + 60 by omega) (show f9_3__f0__toInt_toNat.toInt ≤ 300 by omega)) (cwV 0 hC.2.2.2.2 gX12_sum_X12_term rfl rfl rfl (by decide +kernel) ⟨Nat.le_of_ble_eq_true rfl, Nat.le_of_ble_eq_true rfl⟩) rfl hl.1 rfl (Nat.le_of_ble_eq_true rfl) dX12_sum_58 (fun r46 w48 H locs hp47 hw => ?_)
          obtain ⟨hT, k49, hg78⟩ := hp47
          have hF := hF.tr k49 (by decide)
          have c79 := k49.gi kM_at0 (by decide) c41
          have c80 := k49.gi kM_at0 (by decide) c42
          have c81 := k49.gi kM_at1 rfl c45
          rcases hg78 with ⟨rfl, ⟨x50, c51, rx50, tx50⟩, ⟨x52, c53, rx52, tx52⟩, ⟨x54, c55, rx54, tx54⟩⟩ | ⟨rfl, ⟨x56, c57, rx56, tx56⟩, ⟨x58, c59, rx58, tx58⟩, ⟨x60, c61, rx60, tx60⟩⟩ | ⟨rfl, ⟨x62, c63, rx62, tx62⟩, ⟨x64, c65, rx64, tx64⟩, ⟨x66, c67, rx66, tx66⟩, g68, g69⟩ | ⟨rfl, ⟨x70, c71, rx70, tx70⟩, ⟨x72, c73, rx72, tx72⟩, ⟨x74, c75, rx74, tx74⟩, g76, g77⟩
          · have ex50 : x50.toInt = f9_0_1.toInt := by rw [← c79.symm.trans c51]
            have ex54 : x54.toInt = f0_.toInt := by rw [← c80.symm.trans c55]
            obtain ⟨x82, c83, rx82, tx82⟩ := hT.rda (lo := 0) (hi := 400) (i := (f0_.toInt).toNat) kM_at3 rfl rfl (by omega)
            obtain ⟨x84, c85, rx84, tx84⟩ := hT.rdi (lo := 0) (hi := 60) (k := 18) kM_at0 (by decide) rfl
            refine lv_if_ne (tgt := 66) hx hb dX12_sum_61 (by decide) (fun c => absurd (by decide) c) (fun _ => ?_)
            refine lv_iconst (v := 0) hx hb dX12_sum_64 (by decide) ?_
            exact tk_zret hC hr rfl hlocks hK ⟨hT, hF, (Or.inl ⟨rfl, ⟨f9_0_1, c79, (show 1 ≤ f9_0_1.toInt by omega), (show f9_0_1.toInt ≤ 400 by omega)⟩, ⟨x52, c53, (show 1 ≤ x52.toInt by omega), (show x52.toInt ≤ 3205 by omega)⟩, ⟨f0_, c80, (show 0 ≤ f0_.toInt by omega), (show f0_.toInt ≤ 5 by omega)⟩⟩)⟩ hw dX12_sum_65
          · have ex56 : x56.toInt = f9_0_1.toInt := by rw [← c79.symm.trans c57]
            have ex60 : x60.toInt = f0_.toInt := by rw [← c80.symm.trans c61]
            obtain ⟨x86, c87, rx86, tx86⟩ := hT.rda (lo := 0) (hi := 400) (i := (f0_.toInt).toNat) kM_at3 rfl rfl (by omega)
            obtain ⟨x88, c89, rx88, tx88⟩ := hT.rdi (lo := 0) (hi := 60) (k := 18) kM_at0 (by decide) rfl
            refine lv_if_ne (tgt := 66) hx hb dX12_sum_61 (by decide) (fun c => absurd (by decide) c) (fun _ => ?_)
            refine lv_iconst (v := 0) hx hb dX12_sum_64 (by decide) ?_
            exact tk_zret hC hr rfl hlocks hK ⟨hT, hF, (Or.inl ⟨rfl, ⟨f9_0_1, c79, (show 1 ≤ f9_0_1.toInt by omega), (show f9_0_1.toInt ≤ 400 by omega)⟩, ⟨x58, c59, (show 1 ≤ x58.toInt by omega), (show x58.toInt ≤ 3205 by omega)⟩, ⟨f0_, c80, (show 0 ≤ f0_.toInt by omega), (show f0_.toInt ≤ 5 by omega)⟩⟩)⟩ hw dX12_sum_65
          · have ex62 : x62.toInt = f9_0_1.toInt := by rw [← c79.symm.trans c63]
            have ex64 : x64.toInt = f0_.toInt := by rw [← c80.symm.trans c65]
            obtain ⟨x90, c91, rx90, tx90⟩ := hT.rda (lo := 0) (hi := 400) (i := (f0_.toInt).toNat) kM_at3 rfl rfl (by omega)
            have g68 : 3 * x90.toInt + 11 ≤ 3 * f9_3__f0__toInt_toNat.toInt + 14 * (x66.toInt - f9_0_18.toInt) := by have q := g68; simp only [c42, c80, c44, c91, c43, c67] at q; omega
            have g69 : f9_0_18.toInt + 1 ≤ x66.toInt := by have q := g69; simp only [c42, c80, c43, c67] at q; omega
            refine lv_if_ne (tgt := 66) hx hb dX12_sum_61 (by decide) (fun _ => ?_) (fun c => absurd c (by decide))
            refine lv_aload_n hx hb dX12_sum_66 rfl (lv_at hl 1 rfl) ?_
            refine lv_iload_n hx hb dX12_sum_67 rfl (lv_at hl 0 rfl) ?_
            refine lv_iconst (v := 0) hx hb dX12_sum_68 (by decide) ?_
            refine tk_Vv hC hK hw hT hA hE hSR kM_at0 (by decide) rfl (k_X12_puts_1 l adK adV dC dI cy ad B (by omega) (by omega) qr s1   3 (by decide) (by decide) 0 w48 H.size hT f0_ c80 (show 0 ≤ f0_.toInt by omega) (show f0_.toInt ≤ 5 by omega) x90 c91 (show 0 ≤ x90.toInt by omega) (show x90.toInt ≤ 400 by omega) (show x90.toInt ≤ 399 by omega)) (cwV 2 hC.2.2.2.2 gX12_sum_X12_puts rfl rfl rfl (by decide +kernel) ⟨Nat.le_of_ble_eq_true rfl, Nat.le_of_ble_eq_true rfl⟩) rfl hl.1 rfl (Nat.le_of_ble_eq_true rfl) dX12_sum_69 (fun w96 H locs hp95 hw => ?_)
            obtain ⟨hT, k97, hg101⟩ := hp95
            have hF := hF.tr k97 (by decide)
            have c102 := k97.gi kM_at0 (by decide) c79
            have c103 := k97.gi kM_at0 (by decide) c80
            have c104 := k97.gi kM_at1 rfl c81
            have c105 := k97.gi kM_at0 (by decide) c67
            obtain ⟨⟨x98, c99, rx98, tx98⟩, g100⟩ := hg101
            have ex98 : x98.toInt = f0_.toInt := by rw [← c103.symm.trans c99]
            obtain ⟨x106, c107, rx106, tx106⟩ := hT.rda (lo := 0) (hi := 400) (i := (f0_.toInt).toNat) kM_at3 rfl rfl (by omega)
            have g100 : x106.toInt = x90.toInt + 1 := by have q := g100; simp only [c80, c103, c91, c107] at q; omega
            refine lv_goto (tgt := 9) hx hb dX12_sum_72 (by decide) ?_
            exact ih9 f9_0_1 x66 x106 H locs ls w96 (show 0 ≤ f9_0_1.toInt by omega) (show f9_0_1.toInt ≤ 400 by omega) (show 0 ≤ f0_.toInt by omega) (show f0_.toInt ≤ 5 by omega) (show 1 ≤ x66.toInt by omega) (show x66.toInt ≤ 60 by omega) (show 0 ≤ x106.toInt by omega) (show x106.toInt ≤ 300 by omega) (show 3 * x106.toInt + 11 ≤ 3 * f2_.toInt + 14 * (x66.toInt - f1_.toInt) by omega) (show f1_.toInt + 1 ≤ x66.toInt by omega) (show x106.toInt ≤ 300 by omega) (show (60 - x66.toInt).toNat < n9 by omega) hw hT hF c102 c103 c105 c107 (lv_sub hl [1] rfl)
          · have ex70 : x70.toInt = f9_0_1.toInt := by rw [← c79.symm.trans c71]
            have ex72 : x72.toInt = f0_.toInt := by rw [← c80.symm.trans c73]
            obtain ⟨x92, c93, rx92, tx92⟩ := hT.rda (lo := 0) (hi := 400) (i := (f0_.toInt).toNat) kM_at3 rfl rfl (by omega)
            have g76 : 3 * x92.toInt + 11 ≤ 3 * f9_3__f0__toInt_toNat.toInt + 14 * (x74.toInt - f9_0_18.toInt) := by have q := g76; simp only [c42, c80, c44, c93, c43, c75] at q; omega
            have g77 : f9_0_18.toInt + 1 ≤ x74.toInt := by have q := g77; simp only [c42, c80, c43, c75] at q; omega
            refine lv_if_ne (tgt := 66) hx hb dX12_sum_61 (by decide) (fun _ => ?_) (fun c => absurd c (by decide))
            refine lv_aload_n hx hb dX12_sum_66 rfl (lv_at hl 1 rfl) ?_
            refine lv_iload_n hx hb dX12_sum_67 rfl (lv_at hl 0 rfl) ?_
            refine lv_iconst (v := 0) hx hb dX12_sum_68 (by decide) ?_
            refine tk_Vv hC hK hw hT hA hE hSR kM_at0 (by decide) rfl (k_X12_puts_1 l adK adV dC dI cy ad B (by omega) (by omega) qr s1   3 (by decide) (by decide) 0 w48 H.size hT f0_ c80 (show 0 ≤ f0_.toInt by omega) (show f0_.toInt ≤ 5 by omega) x92 c93 (show 0 ≤ x92.toInt by omega) (show x92.toInt ≤ 400 by omega) (show x92.toInt ≤ 399 by omega)) (cwV 2 hC.2.2.2.2 gX12_sum_X12_puts rfl rfl rfl (by decide +kernel) ⟨Nat.le_of_ble_eq_true rfl, Nat.le_of_ble_eq_true rfl⟩) rfl hl.1 rfl (Nat.le_of_ble_eq_true rfl) dX12_sum_69 (fun w110 H locs hp109 hw => ?_)
            obtain ⟨hT, k111, hg115⟩ := hp109
            have hF := hF.tr k111 (by decide)
            have c116 := k111.gi kM_at0 (by decide) c79
            have c117 := k111.gi kM_at0 (by decide) c80
            have c118 := k111.gi kM_at1 rfl c81
            have c119 := k111.gi kM_at0 (by decide) c75
            obtain ⟨⟨x112, c113, rx112, tx112⟩, g114⟩ := hg115
            have ex112 : x112.toInt = f0_.toInt := by rw [← c117.symm.trans c113]
            obtain ⟨x120, c121, rx120, tx120⟩ := hT.rda (lo := 0) (hi := 400) (i := (f0_.toInt).toNat) kM_at3 rfl rfl (by omega)
            have g114 : x120.toInt = x92.toInt + 1 := by have q := g114; simp only [c80, c117, c93, c121] at q; omega
            refine lv_goto (tgt := 9) hx hb dX12_sum_72 (by decide) ?_
            exact ih9 f9_0_1 x74 x120 H locs ls w110 (show 0 ≤ f9_0_1.toInt by omega) (show f9_0_1.toInt ≤ 400 by omega) (show 0 ≤ f0_.toInt by omega) (show f0_.toInt ≤ 5 by omega) (show 1 ≤ x74.toInt by omega) (show x74.toInt ≤ 60 by omega) (show 0 ≤ x120.toInt by omega) (show x120.toInt ≤ 300 by omega) (show 3 * x120.toInt + 11 ≤ 3 * f2_.toInt + 14 * (x74.toInt - f1_.toInt) by omega) (show f1_.toInt + 1 ≤ x74.toInt by omega) (show x120.toInt ≤ 300 by omega) (show (60 - x74.toInt).toNat < n9 by omega) hw hT hF c116 c117 c119 c121 (lv_sub hl [1] rfl)
        · have c34 : x32.toInt = (43 : Int) := wk_eq.mp c34
          refine lv_iconst (v := 2) hx hb dX12_sum_41 (by decide) ?_
          refine lv_goto (tgt := 46) hx hb dX12_sum_42 (by decide) ?_
          refine lv_istore_n (lv' := [(1, .int 2), (0, .ref (ad 0))]) hx hb dX12_sum_46 rfl hl (by decide) rfl (fun ls hl => ?_)
          refine lv_aload_n hx hb dX12_sum_47 rfl (lv_at hl 1 rfl) ?_
          refine lv_dup hx hb dX12_sum_48 rfl ?_
          refine tk_geti hC hK hw hT hinX12 kM_at0 (by decide) rfl 14 (by decide) (List.mem_of_getElem? (i := 2) rfl) rfl rfl dX12_sum_49 (fun x122 c123 rx122 tx122 => ?_)
          refine wk_top f27_0_14 (c123.symm.trans c20) ?_
          refine lv_iconst (v := 1) hx hb dX12_sum_52 (by decide) ?_
          refine lv_iadd hx hb dX12_sum_53 ?_
          refine lv_topi (fun x124 ex124 => ?_)
          have ex124 : x124.toInt = f27_0_14.toInt + (1 : Int) := by rw [ex124]; exact wk_add (show (-2147483648) ≤ f27_0_14.toInt + (1 : Int) by omega) (show f27_0_14.toInt + (1 : Int) ≤ 2147483647 by omega)
          refine tk_puti hC hK hw hT hinX12 tyX12_ok nmX12 kM_at0 (by decide) rfl rfl 14 (by decide) (List.mem_of_getElem? (i := 2) rfl) rfl rfl rfl rfl (show 0 ≤ x124.toInt by omega) (show x124.toInt ≤ 400 by omega) dX12_sum_54 (fun H locs w125 hw hT k127 c126 => ?_)
          have hF := hF.put kM_at0 (k := 14) (by decide) k127
          have c128 := k127.gi (Or.inr (by decide)) c17
          have c129 := k127.gi (Or.inr (by decide)) c23
          have c130 := k127.gi (Or.inr (by decide)) c26
          have c131 := k127.gi (Or.inl (tk_ne kM_at3 kM_at0 (by decide))) c29
          have c132 := k127.gi (Or.inl (tk_ne kM_at1 kM_at0 (by decide))) c33
          refine lv_aload_n hx hb dX12_sum_57 rfl (lv_at hl 1 rfl) ?_
          refine tk_Vi hC hK hw hT hA hE hSR kM_at0 (by decide) rfl (k_X12_term_1 l adK adV dC dI cy ad B (by omega) (by omega) qr s1    w125 H.size hT f0_ c129 (show 0 ≤ f0_.toInt by omega) (show f0_.toInt ≤ 5 by omega) f9_0_18 c130 (show 0 ≤ f9_0_18.toInt by omega) (show f9_0_18.toInt ≤ 60 by omega) f9_3__f0__toInt_toNat c131 (show 0 ≤ f9_3__f0__toInt_toNat.toInt by omega) (show f9_3__f0__toInt_toNat.toInt ≤ 400 by omega) (show 3 * f9_3__f0__toInt_toNat.toInt ≤ 14 * f9_0_18.toInt + 60 by omega) (show f9_3__f0__toInt_toNat.toInt ≤ 300 by omega)) (cwV 0 hC.2.2.2.2 gX12_sum_X12_term rfl rfl rfl (by decide +kernel) ⟨Nat.le_of_ble_eq_true rfl, Nat.le_of_ble_eq_true rfl⟩) rfl hl.1 rfl (Nat.le_of_ble_eq_true rfl) dX12_sum_58 (fun r133 w135 H locs hp134 hw => ?_)
          obtain ⟨hT, k136, hg165⟩ := hp134
          have hF := hF.tr k136 (by decide)
          have c166 := k136.gi kM_at0 (by decide) c128
          have c167 := k136.gi kM_at0 (by decide) c129
          have c168 := k136.gi kM_at1 rfl c132
          rcases hg165 with ⟨rfl, ⟨x137, c138, rx137, tx137⟩, ⟨x139, c140, rx139, tx139⟩, ⟨x141, c142, rx141, tx141⟩⟩ | ⟨rfl, ⟨x143, c144, rx143, tx143⟩, ⟨x145, c146, rx145, tx145⟩, ⟨x147, c148, rx147, tx147⟩⟩ | ⟨rfl, ⟨x149, c150, rx149, tx149⟩, ⟨x151, c152, rx151, tx151⟩, ⟨x153, c154, rx153, tx153⟩, g155, g156⟩ | ⟨rfl, ⟨x157, c158, rx157, tx157⟩, ⟨x159, c160, rx159, tx159⟩, ⟨x161, c162, rx161, tx161⟩, g163, g164⟩
          · have ex137 : x137.toInt = f9_0_1.toInt := by rw [← c166.symm.trans c138]
            have ex141 : x141.toInt = f0_.toInt := by rw [← c167.symm.trans c142]
            obtain ⟨x169, c170, rx169, tx169⟩ := hT.rda (lo := 0) (hi := 400) (i := (f0_.toInt).toNat) kM_at3 rfl rfl (by omega)
            obtain ⟨x171, c172, rx171, tx171⟩ := hT.rdi (lo := 0) (hi := 60) (k := 18) kM_at0 (by decide) rfl
            refine lv_if_ne (tgt := 66) hx hb dX12_sum_61 (by decide) (fun c => absurd (by decide) c) (fun _ => ?_)
            refine lv_iconst (v := 0) hx hb dX12_sum_64 (by decide) ?_
            exact tk_zret hC hr rfl hlocks hK ⟨hT, hF, (Or.inl ⟨rfl, ⟨f9_0_1, c166, (show 1 ≤ f9_0_1.toInt by omega), (show f9_0_1.toInt ≤ 400 by omega)⟩, ⟨x139, c140, (show 1 ≤ x139.toInt by omega), (show x139.toInt ≤ 3205 by omega)⟩, ⟨f0_, c167, (show 0 ≤ f0_.toInt by omega), (show f0_.toInt ≤ 5 by omega)⟩⟩)⟩ hw dX12_sum_65
          · have ex143 : x143.toInt = f9_0_1.toInt := by rw [← c166.symm.trans c144]
            have ex147 : x147.toInt = f0_.toInt := by rw [← c167.symm.trans c148]
            obtain ⟨x173, c174, rx173, tx173⟩ := hT.rda (lo := 0) (hi := 400) (i := (f0_.toInt).toNat) kM_at3 rfl rfl (by omega)
            obtain ⟨x175, c176, rx175, tx175⟩ := hT.rdi (lo := 0) (hi := 60) (k := 18) kM_at0 (by decide) rfl
            refine lv_if_ne (tgt := 66) hx hb dX12_sum_61 (by decide) (fun c => absurd (by decide) c) (fun _ => ?_)
            refine lv_iconst (v := 0) hx hb dX12_sum_64 (by decide) ?_
            exact tk_zret hC hr rfl hlocks hK ⟨hT, hF, (Or.inl ⟨rfl, ⟨f9_0_1, c166, (show 1 ≤ f9_0_1.toInt by omega), (show f9_0_1.toInt ≤ 400 by omega)⟩, ⟨x145, c146, (show 1 ≤ x145.toInt by omega), (show x145.toInt ≤ 3205 by omega)⟩, ⟨f0_, c167, (show 0 ≤ f0_.toInt by omega), (show f0_.toInt ≤ 5 by omega)⟩⟩)⟩ hw dX12_sum_65
          · have ex149 : x149.toInt = f9_0_1.toInt := by rw [← c166.symm.trans c150]
            have ex151 : x151.toInt = f0_.toInt := by rw [← c167.symm.trans c152]
            obtain ⟨x177, c178, rx177, tx177⟩ := hT.rda (lo := 0) (hi := 400) (i := (f0_.toInt).toNat) kM_at3 rfl rfl (by omega)
            have g155 : 3 * x177.toInt + 11 ≤ 3 * f9_3__f0__toInt_toNat.toInt + 14 * (x153.toInt - f9_0_18.toInt) := by have q := g155; simp only [c129, c167, c131, c178, c130, c154] at q; omega
            have g156 : f9_0_18.toInt + 1 ≤ x153.toInt := by have q := g156; simp only [c129, c167, c130, c154] at q; omega
            refine lv_if_ne (tgt := 66) hx hb dX12_sum_61 (by decide) (fun _ => ?_) (fun c => absurd c (by decide))
            refine lv_aload_n hx hb dX12_sum_66 rfl (lv_at hl 1 rfl) ?_
            refine lv_iload_n hx hb dX12_sum_67 rfl (lv_at hl 0 rfl) ?_
            refine lv_iconst (v := 0) hx hb dX12_sum_68 (by decide) ?_
            refine tk_Vv hC hK hw hT hA hE hSR kM_at0 (by decide) rfl (k_X12_puts_1 l adK adV dC dI cy ad B (by omega) (by omega) qr s1   2 (by decide) (by decide) 0 w135 H.size hT f0_ c167 (show 0 ≤ f0_.toInt by omega) (show f0_.toInt ≤ 5 by omega) x177 c178 (show 0 ≤ x177.toInt by omega) (show x177.toInt ≤ 400 by omega) (show x177.toInt ≤ 399 by omega)) (cwV 2 hC.2.2.2.2 gX12_sum_X12_puts rfl rfl rfl (by decide +kernel) ⟨Nat.le_of_ble_eq_true rfl, Nat.le_of_ble_eq_true rfl⟩) rfl hl.1 rfl (Nat.le_of_ble_eq_true rfl) dX12_sum_69 (fun w183 H locs hp182 hw => ?_)
            obtain ⟨hT, k184, hg188⟩ := hp182
            have hF := hF.tr k184 (by decide)
            have c189 := k184.gi kM_at0 (by decide) c166
            have c190 := k184.gi kM_at0 (by decide) c167
            have c191 := k184.gi kM_at1 rfl c168
            have c192 := k184.gi kM_at0 (by decide) c154
            obtain ⟨⟨x185, c186, rx185, tx185⟩, g187⟩ := hg188
            have ex185 : x185.toInt = f0_.toInt := by rw [← c190.symm.trans c186]
            obtain ⟨x193, c194, rx193, tx193⟩ := hT.rda (lo := 0) (hi := 400) (i := (f0_.toInt).toNat) kM_at3 rfl rfl (by omega)
            have g187 : x193.toInt = x177.toInt + 1 := by have q := g187; simp only [c167, c190, c178, c194] at q; omega
            refine lv_goto (tgt := 9) hx hb dX12_sum_72 (by decide) ?_
            exact ih9 f9_0_1 x153 x193 H locs ls w183 (show 0 ≤ f9_0_1.toInt by omega) (show f9_0_1.toInt ≤ 400 by omega) (show 0 ≤ f0_.toInt by omega) (show f0_.toInt ≤ 5 by omega) (show 1 ≤ x153.toInt by omega) (show x153.toInt ≤ 60 by omega) (show 0 ≤ x193.toInt by omega) (show x193.toInt ≤ 300 by omega) (show 3 * x193.toInt + 11 ≤ 3 * f2_.toInt + 14 * (x153.toInt - f1_.toInt) by omega) (show f1_.toInt + 1 ≤ x153.toInt by omega) (show x193.toInt ≤ 300 by omega) (show (60 - x153.toInt).toNat < n9 by omega) hw hT hF c189 c190 c192 c194 (lv_sub hl [1] rfl)
          · have ex157 : x157.toInt = f9_0_1.toInt := by rw [← c166.symm.trans c158]
            have ex159 : x159.toInt = f0_.toInt := by rw [← c167.symm.trans c160]
            obtain ⟨x179, c180, rx179, tx179⟩ := hT.rda (lo := 0) (hi := 400) (i := (f0_.toInt).toNat) kM_at3 rfl rfl (by omega)
            have g163 : 3 * x179.toInt + 11 ≤ 3 * f9_3__f0__toInt_toNat.toInt + 14 * (x161.toInt - f9_0_18.toInt) := by have q := g163; simp only [c129, c167, c131, c180, c130, c162] at q; omega
            have g164 : f9_0_18.toInt + 1 ≤ x161.toInt := by have q := g164; simp only [c129, c167, c130, c162] at q; omega
            refine lv_if_ne (tgt := 66) hx hb dX12_sum_61 (by decide) (fun _ => ?_) (fun c => absurd c (by decide))
            refine lv_aload_n hx hb dX12_sum_66 rfl (lv_at hl 1 rfl) ?_
            refine lv_iload_n hx hb dX12_sum_67 rfl (lv_at hl 0 rfl) ?_
            refine lv_iconst (v := 0) hx hb dX12_sum_68 (by decide) ?_
            refine tk_Vv hC hK hw hT hA hE hSR kM_at0 (by decide) rfl (k_X12_puts_1 l adK adV dC dI cy ad B (by omega) (by omega) qr s1   2 (by decide) (by decide) 0 w135 H.size hT f0_ c167 (show 0 ≤ f0_.toInt by omega) (show f0_.toInt ≤ 5 by omega) x179 c180 (show 0 ≤ x179.toInt by omega) (show x179.toInt ≤ 400 by omega) (show x179.toInt ≤ 399 by omega)) (cwV 2 hC.2.2.2.2 gX12_sum_X12_puts rfl rfl rfl (by decide +kernel) ⟨Nat.le_of_ble_eq_true rfl, Nat.le_of_ble_eq_true rfl⟩) rfl hl.1 rfl (Nat.le_of_ble_eq_true rfl) dX12_sum_69 (fun w197 H locs hp196 hw => ?_)
            obtain ⟨hT, k198, hg202⟩ := hp196
            have hF := hF.tr k198 (by decide)
            have c203 := k198.gi kM_at0 (by decide) c166
            have c204 := k198.gi kM_at0 (by decide) c167
            have c205 := k198.gi kM_at1 rfl c168
            have c206 := k198.gi kM_at0 (by decide) c162
            obtain ⟨⟨x199, c200, rx199, tx199⟩, g201⟩ := hg202
            have ex199 : x199.toInt = f0_.toInt := by rw [← c204.symm.trans c200]
            obtain ⟨x207, c208, rx207, tx207⟩ := hT.rda (lo := 0) (hi := 400) (i := (f0_.toInt).toNat) kM_at3 rfl rfl (by omega)
            have g201 : x207.toInt = x179.toInt + 1 := by have q := g201; simp only [c167, c204, c180, c208] at q; omega
            refine lv_goto (tgt := 9) hx hb dX12_sum_72 (by decide) ?_
            exact ih9 f9_0_1 x161 x207 H locs ls w197 (show 0 ≤ f9_0_1.toInt by omega) (show f9_0_1.toInt ≤ 400 by omega) (show 0 ≤ f0_.toInt by omega) (show f0_.toInt ≤ 5 by omega) (show 1 ≤ x161.toInt by omega) (show x161.toInt ≤ 60 by omega) (show 0 ≤ x207.toInt by omega) (show x207.toInt ≤ 300 by omega) (show 3 * x207.toInt + 11 ≤ 3 * f2_.toInt + 14 * (x161.toInt - f1_.toInt) by omega) (show f1_.toInt + 1 ≤ x161.toInt by omega) (show x207.toInt ≤ 300 by omega) (show (60 - x161.toInt).toNat < n9 by omega) hw hT hF c203 c204 c206 c208 (lv_sub hl [1] rfl)
      refine lv_aload_n hx hb dX12_sum_9 rfl (lv_at hl 0 rfl) ?_
      obtain ⟨x209, c210, rx209, tx209⟩ := hT.rdi (lo := 0) (hi := 400) (k := 14) kM_at0 (by decide) rfl
      refine tk_Vi hC hK hw hT hA hE hSR kM_at0 (by decide) rfl (k_X12_see_1 l adK adV dC dI cy ad B (by omega) (by omega) qr s1    w1 H.size hT x209 c210 (show 0 ≤ x209.toInt by omega) (show x209.toInt ≤ 400 by omega)) (cwV 0 hC.2.2.2.2 gX12_sum_X12_see rfl rfl rfl (by decide +kernel) ⟨Nat.le_of_ble_eq_true rfl, Nat.le_of_ble_eq_true rfl⟩) rfl hl.1 rfl (Nat.le_of_ble_eq_true rfl) dX12_sum_10 (fun r211 w213 H locs hp212 hw => ?_)
      obtain ⟨hT, k214, hg231⟩ := hp212
      have hF := hF.tr k214 (by decide)
      have c232 := k214.gi kM_at0 (by decide) c4
      have c233 := k214.gi kM_at0 (by decide) c7
      have c234 := k214.gi kM_at0 (by decide) c10
      have c235 := k214.gi kM_at3 rfl c13
      rcases hg231 with ⟨g215, g216, ⟨x217, c218, rx217, tx217⟩, ⟨x219, c220, rx219, tx219⟩, g221, g222⟩ | ⟨rfl, ⟨x223, c224, rx223, tx223⟩, ⟨x225, c226, rx225, tx225⟩, g227⟩ | ⟨rfl, ⟨x228, c229, rx228, tx228⟩, g230⟩
      · have ex217 : x217.toInt = f9_0_1.toInt := by rw [← c232.symm.trans c218]
        have g221 : (gi w213 1 (x219.toInt).toNat).toInt ≠ 32 := by have q := g221; simp only [c7, c233, c220] at q; omega
        have g222 : (x219.toInt = x209.toInt ∨ (gi w1 1 (x209.toInt).toNat).toInt = 32) := by have q := g222; simp only [c7, c233, c210, c220] at q; omega
        refine lv_bipush (v := 43) hx hb dX12_sum_13 (by decide) ?_
        refine lv_icmp_eq (tgt := 27) hx hb dX12_sum_15 (by decide) (fun c238 => ?_) (fun c238 => ?_)
        · have c238 : r211.toInt = (43 : Int) := wk_eq.mp c238
          exact J27 x219 H locs ls w213 (show 1 ≤ f9_0_1.toInt by omega) (show f9_0_1.toInt ≤ 400 by omega) (show 0 ≤ x219.toInt by omega) (show x219.toInt ≤ 399 by omega) (show 0 ≤ f0_.toInt by omega) (show f0_.toInt ≤ 5 by omega) (show 1 ≤ f9_0_18.toInt by omega) (show f9_0_18.toInt ≤ 60 by omega) (show 0 ≤ f9_3__f0__toInt_toNat.toInt by omega) (show f9_3__f0__toInt_toNat.toInt ≤ 300 by omega) (show 3 * f9_3__f0__toInt_toNat.toInt + 11 ≤ 3 * f2_.toInt + 14 * (f9_0_18.toInt - f1_.toInt) by omega) (show f1_.toInt + 1 ≤ f9_0_18.toInt by omega) (show f9_3__f0__toInt_toNat.toInt ≤ 300 by omega)  hw hT hF c232 c220 c233 c234 c235 (lv_sub hl [0] rfl)
        · have c238 : ¬ r211.toInt = (43 : Int) := wk_eqF c238
          refine lv_aload_n hx hb dX12_sum_18 rfl (lv_at hl 0 rfl) ?_
          refine tk_Vi hC hK hw hT hA hE hSR kM_at0 (by decide) rfl (k_X12_see_1 l adK adV dC dI cy ad B (by omega) (by omega) qr s1    w213 H.size hT x219 c220 (show 0 ≤ x219.toInt by omega) (show x219.toInt ≤ 400 by omega)) (cwV 0 hC.2.2.2.2 gX12_sum_X12_see rfl rfl rfl (by decide +kernel) ⟨Nat.le_of_ble_eq_true rfl, Nat.le_of_ble_eq_true rfl⟩) rfl hl.1 rfl (Nat.le_of_ble_eq_true rfl) dX12_sum_19 (fun r239 w241 H locs hp240 hw => ?_)
          obtain ⟨hT, k242, hg259⟩ := hp240
          have hF := hF.tr k242 (by decide)
          have c260 := k242.gi kM_at0 (by decide) c232
          have c261 := k242.gi kM_at0 (by decide) c233
          have c262 := k242.gi kM_at0 (by decide) c234
          have c263 := k242.gi kM_at3 rfl c235
          rcases hg259 with ⟨g243, g244, ⟨x245, c246, rx245, tx245⟩, ⟨x247, c248, rx247, tx247⟩, g249, g250⟩ | ⟨rfl, ⟨x251, c252, rx251, tx251⟩, ⟨x253, c254, rx253, tx253⟩, g255⟩ | ⟨rfl, ⟨x256, c257, rx256, tx256⟩, g258⟩
          · have ex245 : x245.toInt = f9_0_1.toInt := by rw [← c260.symm.trans c246]
            have g249 : (gi w241 1 (x247.toInt).toNat).toInt ≠ 32 := by have q := g249; simp only [c233, c261, c248] at q; omega
            have g250 : (x247.toInt = x219.toInt ∨ (gi w213 1 (x219.toInt).toNat).toInt = 32) := by have q := g250; simp only [c233, c261, c220, c248] at q; omega
            refine lv_bipush (v := 45) hx hb dX12_sum_22 (by decide) ?_
            refine lv_icmp_ne (tgt := 75) hx hb dX12_sum_24 (by decide) (fun c266 => ?_) (fun c266 => ?_)
            · have c266 : ¬ r239.toInt = (45 : Int) := wk_eqF c266
              refine lv_iconst (v := 1) hx hb dX12_sum_75 (by decide) ?_
              exact tk_zret hC hr rfl hlocks hK ⟨hT, hF, (Or.inr (Or.inr (Or.inl ⟨rfl, ⟨f9_0_1, c260, (show 1 ≤ f9_0_1.toInt by omega), (show f9_0_1.toInt ≤ 400 by omega)⟩, ⟨f0_, c261, (show 0 ≤ f0_.toInt by omega), (show f0_.toInt ≤ 5 by omega)⟩, ⟨f9_0_18, c262, (show 1 ≤ f9_0_18.toInt by omega), (show f9_0_18.toInt ≤ 60 by omega)⟩, (by simp only [c261, cf0_, cf2_, c263, cf1_, c262]; omega), (by simp only [c261, cf0_, cf1_, c262]; omega)⟩)))⟩ hw dX12_sum_76
            · have c266 : r239.toInt = (45 : Int) := wk_eq.mp c266
              exact J27 x247 H locs ls w241 (show 1 ≤ f9_0_1.toInt by omega) (show f9_0_1.toInt ≤ 400 by omega) (show 0 ≤ x247.toInt by omega) (show x247.toInt ≤ 399 by omega) (show 0 ≤ f0_.toInt by omega) (show f0_.toInt ≤ 5 by omega) (show 1 ≤ f9_0_18.toInt by omega) (show f9_0_18.toInt ≤ 60 by omega) (show 0 ≤ f9_3__f0__toInt_toNat.toInt by omega) (show f9_3__f0__toInt_toNat.toInt ≤ 300 by omega) (show 3 * f9_3__f0__toInt_toNat.toInt + 11 ≤ 3 * f2_.toInt + 14 * (f9_0_18.toInt - f1_.toInt) by omega) (show f1_.toInt + 1 ≤ f9_0_18.toInt by omega) (show f9_3__f0__toInt_toNat.toInt ≤ 300 by omega)  hw hT hF c260 c248 c261 c262 c263 (lv_sub hl [0] rfl)
          · have ex251 : x251.toInt = f9_0_1.toInt := by rw [← c260.symm.trans c252]
            have g255 : (x253.toInt = x219.toInt ∨ (gi w213 1 (x219.toInt).toNat).toInt = 32) := by have q := g255; simp only [c233, c261, c220, c254] at q; omega
            refine lv_bipush (v := 45) hx hb dX12_sum_22 (by decide) ?_
            refine lv_icmp_ne (tgt := 75) hx hb dX12_sum_24 (by decide) (fun _ => ?_) (fun c => absurd c (by decide))
            refine lv_iconst (v := 1) hx hb dX12_sum_75 (by decide) ?_
            exact tk_zret hC hr rfl hlocks hK ⟨hT, hF, (Or.inr (Or.inr (Or.inl ⟨rfl, ⟨f9_0_1, c260, (show 1 ≤ f9_0_1.toInt by omega), (show f9_0_1.toInt ≤ 400 by omega)⟩, ⟨f0_, c261, (show 0 ≤ f0_.toInt by omega), (show f0_.toInt ≤ 5 by omega)⟩, ⟨f9_0_18, c262, (show 1 ≤ f9_0_18.toInt by omega), (show f9_0_18.toInt ≤ 60 by omega)⟩, (by simp only [c261, cf0_, cf2_, c263, cf1_, c262]; omega), (by simp only [c261, cf0_, cf1_, c262]; omega)⟩)))⟩ hw dX12_sum_76
          · have ex256 : x256.toInt = f9_0_1.toInt := by rw [← c260.symm.trans c257]
            obtain ⟨x264, c265, rx264, tx264⟩ := hT.rdi (lo := 0) (hi := 400) (k := 14) kM_at0 (by decide) rfl
            have g258 : (x264.toInt = x219.toInt ∨ (gi w213 1 (x219.toInt).toNat).toInt = 32) := by have q := g258; simp only [c233, c261, c220, c265] at q; omega
            refine lv_bipush (v := 45) hx hb dX12_sum_22 (by decide) ?_
            refine lv_icmp_ne (tgt := 75) hx hb dX12_sum_24 (by decide) (fun _ => ?_) (fun c => absurd c (by decide))
            refine lv_iconst (v := 1) hx hb dX12_sum_75 (by decide) ?_
            exact tk_zret hC hr rfl hlocks hK ⟨hT, hF, (Or.inr (Or.inr (Or.inl ⟨rfl, ⟨f9_0_1, c260, (show 1 ≤ f9_0_1.toInt by omega), (show f9_0_1.toInt ≤ 400 by omega)⟩, ⟨f0_, c261, (show 0 ≤ f0_.toInt by omega), (show f0_.toInt ≤ 5 by omega)⟩, ⟨f9_0_18, c262, (show 1 ≤ f9_0_18.toInt by omega), (show f9_0_18.toInt ≤ 60 by omega)⟩, (by simp only [c261, cf0_, cf2_, c263, cf1_, c262]; omega), (by simp only [c261, cf0_, cf1_, c262]; omega)⟩)))⟩ hw dX12_sum_76
      · have ex223 : x223.toInt = f9_0_1.toInt := by rw [← c232.symm.trans c224]
        have g227 : (x225.toInt = x209.toInt ∨ (gi w1 1 (x209.toInt).toNat).toInt = 32) := by have q := g227; simp only [c7, c233, c210, c226] at q; omega
        refine lv_bipush (v := 43) hx hb dX12_sum_13 (by decide) ?_
        refine lv_icmp_eq (tgt := 27) hx hb dX12_sum_15 (by decide) (fun c => absurd c (by decide)) (fun _ => ?_)
        refine lv_aload_n hx hb dX12_sum_18 rfl (lv_at hl 0 rfl) ?_
        refine tk_Vi hC hK hw hT hA hE hSR kM_at0 (by decide) rfl (k_X12_see_1 l adK adV dC dI cy ad B (by omega) (by omega) qr s1    w213 H.size hT x225 c226 (show 0 ≤ x225.toInt by omega) (show x225.toInt ≤ 400 by omega)) (cwV 0 hC.2.2.2.2 gX12_sum_X12_see rfl rfl rfl (by decide +kernel) ⟨Nat.le_of_ble_eq_true rfl, Nat.le_of_ble_eq_true rfl⟩) rfl hl.1 rfl (Nat.le_of_ble_eq_true rfl) dX12_sum_19 (fun r267 w269 H locs hp268 hw => ?_)
        obtain ⟨hT, k270, hg287⟩ := hp268
        have hF := hF.tr k270 (by decide)
        have c288 := k270.gi kM_at0 (by decide) c232
        have c289 := k270.gi kM_at0 (by decide) c233
        have c290 := k270.gi kM_at0 (by decide) c234
        have c291 := k270.gi kM_at3 rfl c235
        rcases hg287 with ⟨g271, g272, ⟨x273, c274, rx273, tx273⟩, ⟨x275, c276, rx275, tx275⟩, g277, g278⟩ | ⟨rfl, ⟨x279, c280, rx279, tx279⟩, ⟨x281, c282, rx281, tx281⟩, g283⟩ | ⟨rfl, ⟨x284, c285, rx284, tx284⟩, g286⟩
        · have ex273 : x273.toInt = f9_0_1.toInt := by rw [← c288.symm.trans c274]
          have g277 : (gi w269 1 (x275.toInt).toNat).toInt ≠ 32 := by have q := g277; simp only [c233, c289, c276] at q; omega
          have g278 : (x275.toInt = x225.toInt ∨ (gi w213 1 (x225.toInt).toNat).toInt = 32) := by have q := g278; simp only [c233, c289, c226, c276] at q; omega
          refine lv_bipush (v := 45) hx hb dX12_sum_22 (by decide) ?_
          refine lv_icmp_ne (tgt := 75) hx hb dX12_sum_24 (by decide) (fun c294 => ?_) (fun c294 => ?_)
          · have c294 : ¬ r267.toInt = (45 : Int) := wk_eqF c294
            refine lv_iconst (v := 1) hx hb dX12_sum_75 (by decide) ?_
            exact tk_zret hC hr rfl hlocks hK ⟨hT, hF, (Or.inr (Or.inr (Or.inl ⟨rfl, ⟨f9_0_1, c288, (show 1 ≤ f9_0_1.toInt by omega), (show f9_0_1.toInt ≤ 400 by omega)⟩, ⟨f0_, c289, (show 0 ≤ f0_.toInt by omega), (show f0_.toInt ≤ 5 by omega)⟩, ⟨f9_0_18, c290, (show 1 ≤ f9_0_18.toInt by omega), (show f9_0_18.toInt ≤ 60 by omega)⟩, (by simp only [c289, cf0_, cf2_, c291, cf1_, c290]; omega), (by simp only [c289, cf0_, cf1_, c290]; omega)⟩)))⟩ hw dX12_sum_76
          · have c294 : r267.toInt = (45 : Int) := wk_eq.mp c294
            exact J27 x275 H locs ls w269 (show 1 ≤ f9_0_1.toInt by omega) (show f9_0_1.toInt ≤ 400 by omega) (show 0 ≤ x275.toInt by omega) (show x275.toInt ≤ 399 by omega) (show 0 ≤ f0_.toInt by omega) (show f0_.toInt ≤ 5 by omega) (show 1 ≤ f9_0_18.toInt by omega) (show f9_0_18.toInt ≤ 60 by omega) (show 0 ≤ f9_3__f0__toInt_toNat.toInt by omega) (show f9_3__f0__toInt_toNat.toInt ≤ 300 by omega) (show 3 * f9_3__f0__toInt_toNat.toInt + 11 ≤ 3 * f2_.toInt + 14 * (f9_0_18.toInt - f1_.toInt) by omega) (show f1_.toInt + 1 ≤ f9_0_18.toInt by omega) (show f9_3__f0__toInt_toNat.toInt ≤ 300 by omega)  hw hT hF c288 c276 c289 c290 c291 (lv_sub hl [0] rfl)
        · have ex279 : x279.toInt = f9_0_1.toInt := by rw [← c288.symm.trans c280]
          have g283 : (x281.toInt = x225.toInt ∨ (gi w213 1 (x225.toInt).toNat).toInt = 32) := by have q := g283; simp only [c233, c289, c226, c282] at q; omega
          refine lv_bipush (v := 45) hx hb dX12_sum_22 (by decide) ?_
          refine lv_icmp_ne (tgt := 75) hx hb dX12_sum_24 (by decide) (fun _ => ?_) (fun c => absurd c (by decide))
          refine lv_iconst (v := 1) hx hb dX12_sum_75 (by decide) ?_
          exact tk_zret hC hr rfl hlocks hK ⟨hT, hF, (Or.inr (Or.inr (Or.inl ⟨rfl, ⟨f9_0_1, c288, (show 1 ≤ f9_0_1.toInt by omega), (show f9_0_1.toInt ≤ 400 by omega)⟩, ⟨f0_, c289, (show 0 ≤ f0_.toInt by omega), (show f0_.toInt ≤ 5 by omega)⟩, ⟨f9_0_18, c290, (show 1 ≤ f9_0_18.toInt by omega), (show f9_0_18.toInt ≤ 60 by omega)⟩, (by simp only [c289, cf0_, cf2_, c291, cf1_, c290]; omega), (by simp only [c289, cf0_, cf1_, c290]; omega)⟩)))⟩ hw dX12_sum_76
        · have ex284 : x284.toInt = f9_0_1.toInt := by rw [← c288.symm.trans c285]
          obtain ⟨x292, c293, rx292, tx292⟩ := hT.rdi (lo := 0) (hi := 400) (k := 14) kM_at0 (by decide) rfl
          have g286 : (x292.toInt = x225.toInt ∨ (gi w213 1 (x225.toInt).toNat).toInt = 32) := by have q := g286; simp only [c233, c289, c226, c293] at q; omega
          refine lv_bipush (v := 45) hx hb dX12_sum_22 (by decide) ?_
          refine lv_icmp_ne (tgt := 75) hx hb dX12_sum_24 (by decide) (fun _ => ?_) (fun c => absurd c (by decide))
          refine lv_iconst (v := 1) hx hb dX12_sum_75 (by decide) ?_
          exact tk_zret hC hr rfl hlocks hK ⟨hT, hF, (Or.inr (Or.inr (Or.inl ⟨rfl, ⟨f9_0_1, c288, (show 1 ≤ f9_0_1.toInt by omega), (show f9_0_1.toInt ≤ 400 by omega)⟩, ⟨f0_, c289, (show 0 ≤ f0_.toInt by omega), (show f0_.toInt ≤ 5 by omega)⟩, ⟨f9_0_18, c290, (show 1 ≤ f9_0_18.toInt by omega), (show f9_0_18.toInt ≤ 60 by omega)⟩, (by simp only [c289, cf0_, cf2_, c291, cf1_, c290]; omega), (by simp only [c289, cf0_, cf1_, c290]; omega)⟩)))⟩ hw dX12_sum_76
      · have ex228 : x228.toInt = f9_0_1.toInt := by rw [← c232.symm.trans c229]
        obtain ⟨x236, c237, rx236, tx236⟩ := hT.rdi (lo := 0) (hi := 400) (k := 14) kM_at0 (by decide) rfl
        have g230 : (x236.toInt = x209.toInt ∨ (gi w1 1 (x209.toInt).toNat).toInt = 32) := by have q := g230; simp only [c7, c233, c210, c237] at q; omega
        refine lv_bipush (v := 43) hx hb dX12_sum_13 (by decide) ?_
        refine lv_icmp_eq (tgt := 27) hx hb dX12_sum_15 (by decide) (fun c => absurd c (by decide)) (fun _ => ?_)
        refine lv_aload_n hx hb dX12_sum_18 rfl (lv_at hl 0 rfl) ?_
        refine tk_Vi hC hK hw hT hA hE hSR kM_at0 (by decide) rfl (k_X12_see_1 l adK adV dC dI cy ad B (by omega) (by omega) qr s1    w213 H.size hT x236 c237 (show 0 ≤ x236.toInt by omega) (show x236.toInt ≤ 400 by omega)) (cwV 0 hC.2.2.2.2 gX12_sum_X12_see rfl rfl rfl (by decide +kernel) ⟨Nat.le_of_ble_eq_true rfl, Nat.le_of_ble_eq_true rfl⟩) rfl hl.1 rfl (Nat.le_of_ble_eq_true rfl) dX12_sum_19 (fun r295 w297 H locs hp296 hw => ?_)
        obtain ⟨hT, k298, hg315⟩ := hp296
        have hF := hF.tr k298 (by decide)
        have c316 := k298.gi kM_at0 (by decide) c232
        have c317 := k298.gi kM_at0 (by decide) c233
        have c318 := k298.gi kM_at0 (by decide) c234
        have c319 := k298.gi kM_at3 rfl c235
        rcases hg315 with ⟨g299, g300, ⟨x301, c302, rx301, tx301⟩, ⟨x303, c304, rx303, tx303⟩, g305, g306⟩ | ⟨rfl, ⟨x307, c308, rx307, tx307⟩, ⟨x309, c310, rx309, tx309⟩, g311⟩ | ⟨rfl, ⟨x312, c313, rx312, tx312⟩, g314⟩
        · have ex301 : x301.toInt = f9_0_1.toInt := by rw [← c316.symm.trans c302]
          have g305 : (gi w297 1 (x303.toInt).toNat).toInt ≠ 32 := by have q := g305; simp only [c233, c317, c304] at q; omega
          have g306 : (x303.toInt = x236.toInt ∨ (gi w213 1 (x236.toInt).toNat).toInt = 32) := by have q := g306; simp only [c233, c317, c237, c304] at q; omega
          refine lv_bipush (v := 45) hx hb dX12_sum_22 (by decide) ?_
          refine lv_icmp_ne (tgt := 75) hx hb dX12_sum_24 (by decide) (fun c322 => ?_) (fun c322 => ?_)
          · have c322 : ¬ r295.toInt = (45 : Int) := wk_eqF c322
            refine lv_iconst (v := 1) hx hb dX12_sum_75 (by decide) ?_
            exact tk_zret hC hr rfl hlocks hK ⟨hT, hF, (Or.inr (Or.inr (Or.inl ⟨rfl, ⟨f9_0_1, c316, (show 1 ≤ f9_0_1.toInt by omega), (show f9_0_1.toInt ≤ 400 by omega)⟩, ⟨f0_, c317, (show 0 ≤ f0_.toInt by omega), (show f0_.toInt ≤ 5 by omega)⟩, ⟨f9_0_18, c318, (show 1 ≤ f9_0_18.toInt by omega), (show f9_0_18.toInt ≤ 60 by omega)⟩, (by simp only [c317, cf0_, cf2_, c319, cf1_, c318]; omega), (by simp only [c317, cf0_, cf1_, c318]; omega)⟩)))⟩ hw dX12_sum_76
          · have c322 : r295.toInt = (45 : Int) := wk_eq.mp c322
            exact J27 x303 H locs ls w297 (show 1 ≤ f9_0_1.toInt by omega) (show f9_0_1.toInt ≤ 400 by omega) (show 0 ≤ x303.toInt by omega) (show x303.toInt ≤ 399 by omega) (show 0 ≤ f0_.toInt by omega) (show f0_.toInt ≤ 5 by omega) (show 1 ≤ f9_0_18.toInt by omega) (show f9_0_18.toInt ≤ 60 by omega) (show 0 ≤ f9_3__f0__toInt_toNat.toInt by omega) (show f9_3__f0__toInt_toNat.toInt ≤ 300 by omega) (show 3 * f9_3__f0__toInt_toNat.toInt + 11 ≤ 3 * f2_.toInt + 14 * (f9_0_18.toInt - f1_.toInt) by omega) (show f1_.toInt + 1 ≤ f9_0_18.toInt by omega) (show f9_3__f0__toInt_toNat.toInt ≤ 300 by omega)  hw hT hF c316 c304 c317 c318 c319 (lv_sub hl [0] rfl)
        · have ex307 : x307.toInt = f9_0_1.toInt := by rw [← c316.symm.trans c308]
          have g311 : (x309.toInt = x236.toInt ∨ (gi w213 1 (x236.toInt).toNat).toInt = 32) := by have q := g311; simp only [c233, c317, c237, c310] at q; omega
          refine lv_bipush (v := 45) hx hb dX12_sum_22 (by decide) ?_
          refine lv_icmp_ne (tgt := 75) hx hb dX12_sum_24 (by decide) (fun _ => ?_) (fun c => absurd c (by decide))
          refine lv_iconst (v := 1) hx hb dX12_sum_75 (by decide) ?_
          exact tk_zret hC hr rfl hlocks hK ⟨hT, hF, (Or.inr (Or.inr (Or.inl ⟨rfl, ⟨f9_0_1, c316, (show 1 ≤ f9_0_1.toInt by omega), (show f9_0_1.toInt ≤ 400 by omega)⟩, ⟨f0_, c317, (show 0 ≤ f0_.toInt by omega), (show f0_.toInt ≤ 5 by omega)⟩, ⟨f9_0_18, c318, (show 1 ≤ f9_0_18.toInt by omega), (show f9_0_18.toInt ≤ 60 by omega)⟩, (by simp only [c317, cf0_, cf2_, c319, cf1_, c318]; omega), (by simp only [c317, cf0_, cf1_, c318]; omega)⟩)))⟩ hw dX12_sum_76
        · have ex312 : x312.toInt = f9_0_1.toInt := by rw [← c316.symm.trans c313]
          obtain ⟨x320, c321, rx320, tx320⟩ := hT.rdi (lo := 0) (hi := 400) (k := 14) kM_at0 (by decide) rfl
          have g314 : (x320.toInt = x236.toInt ∨ (gi w213 1 (x236.toInt).toNat).toInt = 32) := by have q := g314; simp only [c233, c317, c237, c321] at q; omega
          refine lv_bipush (v := 45) hx hb dX12_sum_22 (by decide) ?_
          refine lv_icmp_ne (tgt := 75) hx hb dX12_sum_24 (by decide) (fun _ => ?_) (fun c => absurd c (by decide))
          refine lv_iconst (v := 1) hx hb dX12_sum_75 (by decide) ?_
          exact tk_zret hC hr rfl hlocks hK ⟨hT, hF, (Or.inr (Or.inr (Or.inr ⟨rfl, ⟨f9_0_1, c316, (show 0 ≤ f9_0_1.toInt by omega), (show f9_0_1.toInt ≤ 400 by omega)⟩, ⟨f0_, c317, (show 0 ≤ f0_.toInt by omega), (show f0_.toInt ≤ 5 by omega)⟩, ⟨f9_0_18, c318, (show 1 ≤ f9_0_18.toInt by omega), (show f9_0_18.toInt ≤ 60 by omega)⟩, (by simp only [c317, cf0_, cf2_, c319, cf1_, c318]; omega), (by simp only [c317, cf0_, cf1_, c318]; omega)⟩)))⟩ hw dX12_sum_76
  refine lv_aload_n hx hb dX12_sum_0 rfl (lv_at hl 0 rfl) ?_
  refine tk_Vi hC hK hw hT hA hE hSR kM_at0 (by decide) rfl (k_X12_term_1 l adK adV dC dI cy ad B (by omega) (by omega) qr s1    w0 s.heap.size hT f0_ cf0_ (show 0 ≤ f0_.toInt by omega) (show f0_.toInt ≤ 5 by omega) f1_ cf1_ (show 0 ≤ f1_.toInt by omega) (show f1_.toInt ≤ 60 by omega) f2_ cf2_ (show 0 ≤ f2_.toInt by omega) (show f2_.toInt ≤ 400 by omega) (show 3 * f2_.toInt ≤ 14 * f1_.toInt + 60 by omega) (show f2_.toInt ≤ 300 by omega)) (cwV 0 hC.2.2.2.2 gX12_sum_X12_term rfl rfl rfl (by decide +kernel) ⟨Nat.le_of_ble_eq_true rfl, Nat.le_of_ble_eq_true rfl⟩) rfl hl.1 rfl (Nat.le_of_ble_eq_true rfl) dX12_sum_1 (fun r323 w325 H locs hp324 hw => ?_)
  obtain ⟨hT, k326, hg355⟩ := hp324
  have hF := hF.tr k326 (by decide)
  have c356 := k326.gi kM_at0 (by decide) cf0_
  rcases hg355 with ⟨rfl, ⟨x327, c328, rx327, tx327⟩, ⟨x329, c330, rx329, tx329⟩, ⟨x331, c332, rx331, tx331⟩⟩ | ⟨rfl, ⟨x333, c334, rx333, tx333⟩, ⟨x335, c336, rx335, tx335⟩, ⟨x337, c338, rx337, tx337⟩⟩ | ⟨rfl, ⟨x339, c340, rx339, tx339⟩, ⟨x341, c342, rx341, tx341⟩, ⟨x343, c344, rx343, tx343⟩, g345, g346⟩ | ⟨rfl, ⟨x347, c348, rx347, tx347⟩, ⟨x349, c350, rx349, tx349⟩, ⟨x351, c352, rx351, tx351⟩, g353, g354⟩
  · have ex331 : x331.toInt = f0_.toInt := by rw [← c356.symm.trans c332]
    obtain ⟨x357, c358, rx357, tx357⟩ := hT.rda (lo := 0) (hi := 400) (i := (f0_.toInt).toNat) kM_at3 rfl rfl (by omega)
    obtain ⟨x359, c360, rx359, tx359⟩ := hT.rdi (lo := 0) (hi := 60) (k := 18) kM_at0 (by decide) rfl
    refine lv_if_ne (tgt := 9) hx hb dX12_sum_4 (by decide) (fun c => absurd (by decide) c) (fun _ => ?_)
    refine lv_iconst (v := 0) hx hb dX12_sum_7 (by decide) ?_
    exact tk_zret hC hr rfl hlocks hK ⟨hT, hF, (Or.inl ⟨rfl, ⟨x327, c328, (show 1 ≤ x327.toInt by omega), (show x327.toInt ≤ 400 by omega)⟩, ⟨x329, c330, (show 1 ≤ x329.toInt by omega), (show x329.toInt ≤ 3205 by omega)⟩, ⟨f0_, c356, (show 0 ≤ f0_.toInt by omega), (show f0_.toInt ≤ 5 by omega)⟩⟩)⟩ hw dX12_sum_8
  · have ex337 : x337.toInt = f0_.toInt := by rw [← c356.symm.trans c338]
    obtain ⟨x361, c362, rx361, tx361⟩ := hT.rda (lo := 0) (hi := 400) (i := (f0_.toInt).toNat) kM_at3 rfl rfl (by omega)
    obtain ⟨x363, c364, rx363, tx363⟩ := hT.rdi (lo := 0) (hi := 60) (k := 18) kM_at0 (by decide) rfl
    refine lv_if_ne (tgt := 9) hx hb dX12_sum_4 (by decide) (fun c => absurd (by decide) c) (fun _ => ?_)
    refine lv_iconst (v := 0) hx hb dX12_sum_7 (by decide) ?_
    exact tk_zret hC hr rfl hlocks hK ⟨hT, hF, (Or.inr (Or.inl ⟨rfl, ⟨x333, c334, (show 0 ≤ x333.toInt by omega), (show x333.toInt ≤ 400 by omega)⟩, ⟨x335, c336, (show 1 ≤ x335.toInt by omega), (show x335.toInt ≤ 3205 by omega)⟩, ⟨f0_, c356, (show 0 ≤ f0_.toInt by omega), (show f0_.toInt ≤ 5 by omega)⟩⟩))⟩ hw dX12_sum_8
  · have ex341 : x341.toInt = f0_.toInt := by rw [← c356.symm.trans c342]
    obtain ⟨x365, c366, rx365, tx365⟩ := hT.rda (lo := 0) (hi := 400) (i := (f0_.toInt).toNat) kM_at3 rfl rfl (by omega)
    have g345 : 3 * x365.toInt + 11 ≤ 3 * f2_.toInt + 14 * (x343.toInt - f1_.toInt) := by have q := g345; simp only [cf0_, c356, cf2_, c366, cf1_, c344] at q; omega
    have g346 : f1_.toInt + 1 ≤ x343.toInt := by have q := g346; simp only [cf0_, c356, cf1_, c344] at q; omega
    refine lv_if_ne (tgt := 9) hx hb dX12_sum_4 (by decide) (fun _ => ?_) (fun c => absurd c (by decide))
    exact L9 ((60 - x343.toInt).toNat + 1) x339 x343 x365 H locs ls w325 (show 0 ≤ x339.toInt by omega) (show x339.toInt ≤ 400 by omega) (show 0 ≤ f0_.toInt by omega) (show f0_.toInt ≤ 5 by omega) (show 1 ≤ x343.toInt by omega) (show x343.toInt ≤ 60 by omega) (show 0 ≤ x365.toInt by omega) (show x365.toInt ≤ 300 by omega) (show 3 * x365.toInt + 11 ≤ 3 * f2_.toInt + 14 * (x343.toInt - f1_.toInt) by omega) (show f1_.toInt + 1 ≤ x343.toInt by omega) (show x365.toInt ≤ 300 by omega) (Nat.lt_succ_self _) hw hT hF c340 c356 c344 c366 (lv_sub hl [0] rfl)
  · have ex349 : x349.toInt = f0_.toInt := by rw [← c356.symm.trans c350]
    obtain ⟨x367, c368, rx367, tx367⟩ := hT.rda (lo := 0) (hi := 400) (i := (f0_.toInt).toNat) kM_at3 rfl rfl (by omega)
    have g353 : 3 * x367.toInt + 11 ≤ 3 * f2_.toInt + 14 * (x351.toInt - f1_.toInt) := by have q := g353; simp only [cf0_, c356, cf2_, c368, cf1_, c352] at q; omega
    have g354 : f1_.toInt + 1 ≤ x351.toInt := by have q := g354; simp only [cf0_, c356, cf1_, c352] at q; omega
    refine lv_if_ne (tgt := 9) hx hb dX12_sum_4 (by decide) (fun _ => ?_) (fun c => absurd c (by decide))
    exact L9 ((60 - x351.toInt).toNat + 1) x347 x351 x367 H locs ls w325 (show 0 ≤ x347.toInt by omega) (show x347.toInt ≤ 400 by omega) (show 0 ≤ f0_.toInt by omega) (show f0_.toInt ≤ 5 by omega) (show 1 ≤ x351.toInt by omega) (show x351.toInt ≤ 60 by omega) (show 0 ≤ x367.toInt by omega) (show x367.toInt ≤ 300 by omega) (show 3 * x367.toInt + 11 ≤ 3 * f2_.toInt + 14 * (x351.toInt - f1_.toInt) by omega) (show f1_.toInt + 1 ≤ x351.toInt by omega) (show x367.toInt ≤ 300 by omega) (Nat.lt_succ_self _) hw hT hF c348 c356 c352 c368 (lv_sub hl [0] rfl)
abbrev P_X12_compare_1 (ad : Nat → Nat) (cy : Nat → ClassId) (B : Int) (qr : Nat) (s1 : Int)  (w0 : va_W) : Int32 → va_W → Prop := fun r u => TW ksM ad cy B qr 12 u ∧ FE ksM [(12, 14, 14), (12, 15, 15), (12, 16, 16), (12, 18, 18), (61, 0, 2400), (62, 0, 7)] w0 u ∧ ((r = 0 ∧ (∃ y : Int32, gi u 0 1 = y ∧ 1 ≤ y.toInt ∧ y.toInt ≤ 400) ∧ (∃ y : Int32, gi u 0 15 = y ∧ 1 ≤ y.toInt ∧ y.toInt ≤ 3205) ∧ (∃ y : Int32, gi u 0 17 = y ∧ 0 ≤ y.toInt ∧ y.toInt ≤ 5)) ∨ (r = 0 ∧ (∃ y : Int32, gi u 0 1 = y ∧ 0 ≤ y.toInt ∧ y.toInt ≤ 400) ∧ (∃ y : Int32, gi u 0 15 = y ∧ 1 ≤ y.toInt ∧ y.toInt ≤ 3205) ∧ (∃ y : Int32, gi u 0 17 = y ∧ 0 ≤ y.toInt ∧ y.toInt ≤ 5)) ∨ (r = 1 ∧ (∃ y : Int32, gi u 0 1 = y ∧ 1 ≤ y.toInt ∧ y.toInt ≤ 400) ∧ (∃ y : Int32, gi u 0 17 = y ∧ 0 ≤ y.toInt ∧ y.toInt ≤ 5) ∧ (∃ y : Int32, gi u 0 18 = y ∧ 1 ≤ y.toInt ∧ y.toInt ≤ 60) ∧ (3 * (gi u 3 ((gi u 0 17).toInt).toNat).toInt + 33 ≤ 3 * (gi w0 3 ((gi w0 0 17).toInt).toNat).toInt + 14 * ((gi u 0 18).toInt - (gi w0 0 18).toInt)) ∧ ((gi w0 0 18).toInt + 3 ≤ (gi u 0 18).toInt)))
set_option maxHeartbeats 4000000 in
set_option maxRecDepth 100000 in
theorem k_X12_compare_1 (l : Launch) (adK adV : Nat → Nat) (dC : Nat → ClassId) (dI : Nat → Nat → Nat) (cy : Nat → ClassId) (ad : Nat → Nat) (B : Int) (hB0 : 100000 ≤ B) (hB1 : B ≤ 1073741824) (qr : Nat) (s1 : Int)   (w0 : va_W) (sz : Nat) (hT : TW ksM ad cy B qr 12 w0) (f0_ : Int32) (cf0_ : gi w0 0 17 = f0_) (rf0_ : 0 ≤ f0_.toInt) (tf0_ : f0_.toInt ≤ 5) (f1_ : Int32) (cf1_ : gi w0 0 18 = f1_) (rf1_ : 0 ≤ f1_.toInt) (tf1_ : f1_.toInt ≤ 60) (f2_ : Int32) (cf2_ : gi w0 3 (f0_.toInt).toNat = f2_) (rf2_ : 0 ≤ f2_.toInt) (tf2_ : f2_.toInt ≤ 400) (pr0_ : 3 * f2_.toInt ≤ 14 * f1_.toInt + 30) (pr1_ : f2_.toInt ≤ 290) : Met l yX12_compare wsX12_compare ({ frames := 7, cells := 0, slots := 0, locals := 142 }) (va_Pc [.ref (ad 0)] (wpreS adK adV dC dI cy sz w0)) (va_Qi (P_X12_compare_1 ad cy B qr s1  w0) (fun u : va_W => wpost dC dI cy (va_A w0 sz) u) (va_A w0 sz)) 0 0 (va_A w0 sz) := by
  refine Met.ofW (cc := cX12_compare) (maxL := 5) (ret := (some .boolean)) (by decide) rfl ?_
  intro p e s m args below meth c s₁ Bk hml hv
  obtain ⟨rfl, ⟨hsz, hP, hK, hD0⟩, hE, hSR⟩ := hv
  have hx := Bk.exec
  have hb := Bk.bytes
  have hr := Bk.returns
  have hlocks := Bk.notSynchronized
  have hC : CallFix p m c cX12_compare 5 s _ wsX12_compare RX12 := ⟨hx, hb, hml, findClass_of_methodNamed Bk.named, atoms_spec (ws := wsX12_compare) Bk.pre⟩
  subst hsz
  have hD := hD0.self (sz := s.heap.size)
  generalize hAe : va_A w0 s.heap.size = A at hD hE ⊢
  have hA : ∀ q : Nat, s.heap.size ≤ q → A q := fun q h => by rw [← hAe]; exact Or.inr h
  have hw : Wd dC dI A s.heap s.heap [] w0 := ⟨hP, hD, va_S.rf⟩
  have hF : FE ksM [(12, 14, 14), (12, 15, 15), (12, 16, 16), (12, 18, 18), (61, 0, 2400), (62, 0, 7)] w0 w0 := FE.rf
  have hl := lv_entry ([.ref (ad 0)]) (n := 5) (Nat.le_of_ble_eq_true rfl)
  rw [lg_entry_eq]
  generalize (lg_sl ([.ref (ad 0)]) ++ List.replicate (5 - (lg_sl ([.ref (ad 0)])).length) Slot.unset).toArray = ls at hl ⊢
  have hl : lv_has ls 5 [(0, .ref (ad 0))] := hl
  generalize hloc : ([] : List Loc) = locs at hw ⊢
  have hinX12 : ∀ w ∈ u_ws RX12 TX12 42, w ∈ wsX12_compare := fun _ h => List.mem_cons_of_mem _ (List.mem_append_right _ (h))
  refine lv_aload_n hx hb dX12_compare_0 rfl (lv_at hl 0 rfl) ?_
  refine tk_Vi hC hK hw hT hA hE hSR kM_at0 (by decide) rfl (k_X12_sum_1 l adK adV dC dI cy ad B (by omega) (by omega) qr s1    w0 s.heap.size hT f0_ cf0_ (show 0 ≤ f0_.toInt by omega) (show f0_.toInt ≤ 5 by omega) f1_ cf1_ (show 0 ≤ f1_.toInt by omega) (show f1_.toInt ≤ 60 by omega) f2_ cf2_ (show 0 ≤ f2_.toInt by omega) (show f2_.toInt ≤ 400 by omega) (show 3 * f2_.toInt ≤ 14 * f1_.toInt + 60 by omega) (show f2_.toInt ≤ 300 by omega)) (cwV 0 hC.2.2.2.2 gX12_compare_X12_sum rfl rfl rfl (by decide +kernel) ⟨Nat.le_of_ble_eq_true rfl, Nat.le_of_ble_eq_true rfl⟩) rfl hl.1 rfl (Nat.le_of_ble_eq_true rfl) dX12_compare_1 (fun r1 w3 H locs hp2 hw => ?_)
  obtain ⟨hT, k4, hg33⟩ := hp2
  have hF := hF.tr k4 (by decide)
  have c34 := k4.gi kM_at0 (by decide) cf0_
  rcases hg33 with ⟨rfl, ⟨x5, c6, rx5, tx5⟩, ⟨x7, c8, rx7, tx7⟩, ⟨x9, c10, rx9, tx9⟩⟩ | ⟨rfl, ⟨x11, c12, rx11, tx11⟩, ⟨x13, c14, rx13, tx13⟩, ⟨x15, c16, rx15, tx15⟩⟩ | ⟨rfl, ⟨x17, c18, rx17, tx17⟩, ⟨x19, c20, rx19, tx19⟩, ⟨x21, c22, rx21, tx21⟩, g23, g24⟩ | ⟨rfl, ⟨x25, c26, rx25, tx25⟩, ⟨x27, c28, rx27, tx27⟩, ⟨x29, c30, rx29, tx29⟩, g31, g32⟩
  · have ex9 : x9.toInt = f0_.toInt := by rw [← c34.symm.trans c10]
    obtain ⟨x35, c36, rx35, tx35⟩ := hT.rda (lo := 0) (hi := 400) (i := (f0_.toInt).toNat) kM_at3 rfl rfl (by omega)
    obtain ⟨x37, c38, rx37, tx37⟩ := hT.rdi (lo := 0) (hi := 60) (k := 18) kM_at0 (by decide) rfl
    refine lv_if_ne (tgt := 9) hx hb dX12_compare_4 (by decide) (fun c => absurd (by decide) c) (fun _ => ?_)
    refine lv_iconst (v := 0) hx hb dX12_compare_7 (by decide) ?_
    exact tk_zret hC hr rfl hlocks hK ⟨hT, hF, (Or.inl ⟨rfl, ⟨x5, c6, (show 1 ≤ x5.toInt by omega), (show x5.toInt ≤ 400 by omega)⟩, ⟨x7, c8, (show 1 ≤ x7.toInt by omega), (show x7.toInt ≤ 3205 by omega)⟩, ⟨f0_, c34, (show 0 ≤ f0_.toInt by omega), (show f0_.toInt ≤ 5 by omega)⟩⟩)⟩ hw dX12_compare_8
  · have ex15 : x15.toInt = f0_.toInt := by rw [← c34.symm.trans c16]
    obtain ⟨x39, c40, rx39, tx39⟩ := hT.rda (lo := 0) (hi := 400) (i := (f0_.toInt).toNat) kM_at3 rfl rfl (by omega)
    obtain ⟨x41, c42, rx41, tx41⟩ := hT.rdi (lo := 0) (hi := 60) (k := 18) kM_at0 (by decide) rfl
    refine lv_if_ne (tgt := 9) hx hb dX12_compare_4 (by decide) (fun c => absurd (by decide) c) (fun _ => ?_)
    refine lv_iconst (v := 0) hx hb dX12_compare_7 (by decide) ?_
    exact tk_zret hC hr rfl hlocks hK ⟨hT, hF, (Or.inr (Or.inl ⟨rfl, ⟨x11, c12, (show 0 ≤ x11.toInt by omega), (show x11.toInt ≤ 400 by omega)⟩, ⟨x13, c14, (show 1 ≤ x13.toInt by omega), (show x13.toInt ≤ 3205 by omega)⟩, ⟨f0_, c34, (show 0 ≤ f0_.toInt by omega), (show f0_.toInt ≤ 5 by omega)⟩⟩))⟩ hw dX12_compare_8
  · have ex19 : x19.toInt = f0_.toInt := by rw [← c34.symm.trans c20]
    obtain ⟨x43, c44, rx43, tx43⟩ := hT.rda (lo := 0) (hi := 400) (i := (f0_.toInt).toNat) kM_at3 rfl rfl (by omega)
    have g23 : 3 * x43.toInt + 11 ≤ 3 * f2_.toInt + 14 * (x21.toInt - f1_.toInt) := by have q := g23; simp only [cf0_, c34, cf2_, c44, cf1_, c22] at q; omega
    have g24 : f1_.toInt + 1 ≤ x21.toInt := by have q := g24; simp only [cf0_, c34, cf1_, c22] at q; omega
    refine lv_if_ne (tgt := 9) hx hb dX12_compare_4 (by decide) (fun _ => ?_) (fun c => absurd c (by decide))
    refine lv_aload_n hx hb dX12_compare_9 rfl (lv_at hl 0 rfl) ?_
    obtain ⟨x47, c48, rx47, tx47⟩ := hT.rdi (lo := 0) (hi := 400) (k := 14) kM_at0 (by decide) rfl
    refine tk_Vi hC hK hw hT hA hE hSR kM_at0 (by decide) rfl (k_X12_see_1 l adK adV dC dI cy ad B (by omega) (by omega) qr s1    w3 H.size hT x47 c48 (show 0 ≤ x47.toInt by omega) (show x47.toInt ≤ 400 by omega)) (cwV 0 hC.2.2.2.2 gX12_compare_X12_see rfl rfl rfl (by decide +kernel) ⟨Nat.le_of_ble_eq_true rfl, Nat.le_of_ble_eq_true rfl⟩) rfl hl.1 rfl (Nat.le_of_ble_eq_true rfl) dX12_compare_10 (fun r49 w51 H locs hp50 hw => ?_)
    obtain ⟨hT, k52, hg69⟩ := hp50
    have hF := hF.tr k52 (by decide)
    have c70 := k52.gi kM_at0 (by decide) c34
    have c71 := k52.gi kM_at0 (by decide) c18
    have c72 := k52.gi kM_at0 (by decide) c22
    have c73 := k52.gi kM_at3 rfl c44
    rcases hg69 with ⟨g53, g54, ⟨x55, c56, rx55, tx55⟩, ⟨x57, c58, rx57, tx57⟩, g59, g60⟩ | ⟨rfl, ⟨x61, c62, rx61, tx61⟩, ⟨x63, c64, rx63, tx63⟩, g65⟩ | ⟨rfl, ⟨x66, c67, rx66, tx66⟩, g68⟩
    · have ex55 : x55.toInt = x17.toInt := by rw [← c71.symm.trans c56]
      have g59 : (gi w51 1 (x57.toInt).toNat).toInt ≠ 32 := by have q := g59; simp only [c34, c70, c58] at q; omega
      have g60 : (x57.toInt = x47.toInt ∨ (gi w3 1 (x47.toInt).toNat).toInt = 32) := by have q := g60; simp only [c34, c70, c48, c58] at q; omega
      refine lv_istore_n (lv' := [(1, .int r49), (0, .ref (ad 0))]) hx hb dX12_compare_13 rfl hl (by decide) rfl (fun ls hl => ?_)
      refine lv_aload_n hx hb dX12_compare_14 rfl (lv_at hl 1 rfl) ?_
      refine tk_geti hC hK hw hT hinX12 kM_at0 (by decide) rfl 14 (by decide) (List.mem_of_getElem? (i := 1) rfl) rfl rfl dX12_compare_15 (fun x76 c77 rx76 tx76 => ?_)
      refine wk_top x57 (c77.symm.trans c58) ?_
      refine lv_istore_n (lv' := [(2, .int x57), (1, .int r49), (0, .ref (ad 0))]) hx hb dX12_compare_18 rfl hl (by decide) rfl (fun ls hl => ?_)
      refine lv_iload_n hx hb dX12_compare_19 rfl (lv_at hl 1 rfl) ?_
      refine lv_bipush (v := 60) hx hb dX12_compare_20 (by decide) ?_
      refine lv_icmp_eq (tgt := 44) hx hb dX12_compare_22 (by decide) (fun c78 => ?_) (fun c78 => ?_)
      · have c78 : r49.toInt = (60 : Int) := wk_eq.mp c78
        refine lv_aload_n hx hb dX12_compare_44 rfl (lv_at hl 2 rfl) ?_
        refine lv_dup hx hb dX12_compare_45 rfl ?_
        refine tk_geti hC hK hw hT hinX12 kM_at0 (by decide) rfl 14 (by decide) (List.mem_of_getElem? (i := 1) rfl) rfl rfl dX12_compare_46 (fun x79 c80 rx79 tx79 => ?_)
        refine wk_top x57 (c80.symm.trans c58) ?_
        refine lv_iconst (v := 1) hx hb dX12_compare_49 (by decide) ?_
        refine lv_iadd hx hb dX12_compare_50 ?_
        refine lv_topi (fun x81 ex81 => ?_)
        have ex81 : x81.toInt = x57.toInt + (1 : Int) := by rw [ex81]; exact wk_add (show (-2147483648) ≤ x57.toInt + (1 : Int) by omega) (show x57.toInt + (1 : Int) ≤ 2147483647 by omega)
        refine tk_puti hC hK hw hT hinX12 tyX12_ok nmX12 kM_at0 (by decide) rfl rfl 14 (by decide) (List.mem_of_getElem? (i := 1) rfl) rfl rfl rfl rfl (show 0 ≤ x81.toInt by omega) (show x81.toInt ≤ 400 by omega) dX12_compare_51 (fun H locs w82 hw hT k84 c83 => ?_)
        have hF := hF.put kM_at0 (k := 14) (by decide) k84
        have c85 := k84.gi (Or.inr (by decide)) c70
        have c86 := k84.gi (Or.inr (by decide)) c71
        have c87 := k84.gi (Or.inr (by decide)) c72
        have c88 := k84.gi (Or.inl (tk_ne kM_at3 kM_at0 (by decide))) c73
        refine lv_iload_n hx hb dX12_compare_54 rfl (lv_at hl 1 rfl) ?_
        refine lv_bipush (v := 61) hx hb dX12_compare_55 (by decide) ?_
        refine lv_icmp_eq (tgt := 89) hx hb dX12_compare_57 (by decide) (fun c => absurd c (fun h => absurd (show r49.toInt = (61 : Int) from wk_eq.mp h) (by omega))) (fun _ => ?_)
        refine lv_aload_n hx hb dX12_compare_60 rfl (lv_at hl 2 rfl) ?_
        refine tk_geti hC hK hw hT hinX12 kM_at0 (by decide) rfl 14 (by decide) (List.mem_of_getElem? (i := 1) rfl) rfl rfl dX12_compare_61 (fun x89 c90 rx89 tx89 => ?_)
        refine wk_top x81 (c90.symm.trans c83) ?_
        refine lv_aload_n hx hb dX12_compare_64 rfl (lv_at hl 2 rfl) ?_
        refine tk_geti hC hK hw hT hinX12 kM_at0 (by decide) rfl 1 (by decide) (List.mem_of_getElem? (i := 2) rfl) rfl rfl dX12_compare_65 (fun x91 c92 rx91 tx91 => ?_)
        refine wk_top x17 (c92.symm.trans c86) ?_
        refine lv_icmp_ge (tgt := 89) hx hb dX12_compare_68 (by decide) (fun c93 => ?_) (fun c93 => ?_)
        · have c93 : x17.toInt ≤ x81.toInt := wk_le.mp c93
          refine lv_iconst (v := 0) hx hb dX12_compare_89 (by decide) ?_
          refine lv_istore_n (lv' := [(3, .int 0), (2, .int x57), (1, .int r49), (0, .ref (ad 0))]) hx hb dX12_compare_90 rfl hl (by decide) rfl (fun ls hl => ?_)
          refine lv_iload_n hx hb dX12_compare_91 rfl (lv_at hl 0 rfl) ?_
          refine lv_if_eq (tgt := 105) hx hb dX12_compare_92 (by decide) (fun _ => ?_) (fun c => absurd (by decide) c)
          refine lv_aload_n hx hb dX12_compare_105 rfl (lv_at hl 3 rfl) ?_
          refine lv_iload_n hx hb dX12_compare_106 rfl (lv_at hl 1 rfl) ?_
          refine tk_Vi hC hK hw hT hA hE hSR kM_at0 (by decide) rfl (k_X12_makes_2 l adK adV dC dI cy ad B (by omega) (by omega) qr s1   x57 (show 0 ≤ x57.toInt by omega) (show x57.toInt ≤ 399 by omega) w82 H.size hT x21 c87 (show 0 ≤ x21.toInt by omega) (show x21.toInt ≤ 60 by omega)) (cwV 1 hC.2.2.2.2 gX12_compare_X12_makes rfl rfl rfl (by decide +kernel) ⟨Nat.le_of_ble_eq_true rfl, Nat.le_of_ble_eq_true rfl⟩) rfl hl.1 rfl (Nat.le_of_ble_eq_true rfl) dX12_compare_107 (fun r94 w96 H locs hp95 hw => ?_)
          obtain ⟨hT, k97, hg105⟩ := hp95
          have hF := hF.tr k97 (by decide)
          have c106 := k97.gi kM_at0 (by decide) c85
          have c107 := k97.gi kM_at0 (by decide) c86
          have c108 := k97.gi kM_at3 rfl c88
          have c109 := k97.gi kM_at0 (by decide) c83
          rcases hg105 with ⟨rfl, ⟨x98, c99, rx98, tx98⟩, ⟨x100, c101, rx100, tx100⟩⟩ | ⟨rfl, ⟨x102, c103, rx102, tx102⟩, g104⟩
          · refine lv_if_ne (tgt := 115) hx hb dX12_compare_110 (by decide) (fun c => absurd (by decide) c) (fun _ => ?_)
            refine lv_iconst (v := 0) hx hb dX12_compare_113 (by decide) ?_
            exact tk_zret hC hr rfl hlocks hK ⟨hT, hF, (Or.inl ⟨rfl, ⟨x17, c107, (show 1 ≤ x17.toInt by omega), (show x17.toInt ≤ 400 by omega)⟩, ⟨x98, c99, (show 1 ≤ x98.toInt by omega), (show x98.toInt ≤ 3205 by omega)⟩, ⟨f0_, c106, (show 0 ≤ f0_.toInt by omega), (show f0_.toInt ≤ 5 by omega)⟩⟩)⟩ hw dX12_compare_114
          · have g104 : x102.toInt = x21.toInt + 1 := by have q := g104; simp only [c85, c106, c87, c103] at q; omega
            refine lv_if_ne (tgt := 115) hx hb dX12_compare_110 (by decide) (fun _ => ?_) (fun c => absurd c (by decide))
            refine lv_iload_n hx hb dX12_compare_115 rfl (lv_at hl 2 rfl) ?_
            refine lv_bipush (v := 60) hx hb dX12_compare_116 (by decide) ?_
            refine lv_icmp_ne (tgt := 133) hx hb dX12_compare_118 (by decide) (fun c => (c (wk_eq.mpr (show r49.toInt = (60 : Int) by omega))).elim) (fun _ => ?_)
            refine lv_iload_n hx hb dX12_compare_121 rfl (lv_at hl 0 rfl) ?_
            refine lv_if_eq (tgt := 129) hx hb dX12_compare_122 (by decide) (fun _ => ?_) (fun c => absurd (by decide) c)
            refine lv_iconst (v := 0) hx hb dX12_compare_129 (by decide) ?_
            refine lv_goto (tgt := 152) hx hb dX12_compare_130 (by decide) ?_
            refine lv_istore (lv' := [(4, .int 0), (3, .int 0), (2, .int x57), (1, .int r49), (0, .ref (ad 0))]) hx hb dX12_compare_152 hl (by decide) rfl (fun ls hl => ?_)
            refine lv_aload_n hx hb dX12_compare_154 rfl (lv_at hl 4 rfl) ?_
            refine tk_Vi hC hK hw hT hA hE hSR kM_at0 (by decide) rfl (k_X12_sum_1 l adK adV dC dI cy ad B (by omega) (by omega) qr s1    w96 H.size hT f0_ c106 (show 0 ≤ f0_.toInt by omega) (show f0_.toInt ≤ 5 by omega) x102 c103 (show 0 ≤ x102.toInt by omega) (show x102.toInt ≤ 60 by omega) x43 c108 (show 0 ≤ x43.toInt by omega) (show x43.toInt ≤ 400 by omega) (show 3 * x43.toInt ≤ 14 * x102.toInt + 60 by omega) (show x43.toInt ≤ 300 by omega)) (cwV 0 hC.2.2.2.2 gX12_compare_X12_sum rfl rfl rfl (by decide +kernel) ⟨Nat.le_of_ble_eq_true rfl, Nat.le_of_ble_eq_true rfl⟩) rfl hl.1 rfl (Nat.le_of_ble_eq_true rfl) dX12_compare_155 (fun r110 w112 H locs hp111 hw => ?_)
            obtain ⟨hT, k113, hg142⟩ := hp111
            have hF := hF.tr k113 (by decide)
            have c143 := k113.gi kM_at0 (by decide) c106
            have c144 := k113.gi kM_at0 (by decide) c107
            rcases hg142 with ⟨rfl, ⟨x114, c115, rx114, tx114⟩, ⟨x116, c117, rx116, tx116⟩, ⟨x118, c119, rx118, tx118⟩⟩ | ⟨rfl, ⟨x120, c121, rx120, tx120⟩, ⟨x122, c123, rx122, tx122⟩, ⟨x124, c125, rx124, tx124⟩⟩ | ⟨rfl, ⟨x126, c127, rx126, tx126⟩, ⟨x128, c129, rx128, tx128⟩, ⟨x130, c131, rx130, tx130⟩, g132, g133⟩ | ⟨rfl, ⟨x134, c135, rx134, tx134⟩, ⟨x136, c137, rx136, tx136⟩, ⟨x138, c139, rx138, tx138⟩, g140, g141⟩
            · have ex114 : x114.toInt = x17.toInt := by rw [← c144.symm.trans c115]
              have ex118 : x118.toInt = f0_.toInt := by rw [← c143.symm.trans c119]
              obtain ⟨x145, c146, rx145, tx145⟩ := hT.rda (lo := 0) (hi := 400) (i := (f0_.toInt).toNat) kM_at3 rfl rfl (by omega)
              obtain ⟨x147, c148, rx147, tx147⟩ := hT.rdi (lo := 0) (hi := 60) (k := 18) kM_at0 (by decide) rfl
              refine lv_if_ne (tgt := 163) hx hb dX12_compare_158 (by decide) (fun c => absurd (by decide) c) (fun _ => ?_)
              refine lv_iconst (v := 0) hx hb dX12_compare_161 (by decide) ?_
              exact tk_zret hC hr rfl hlocks hK ⟨hT, hF, (Or.inl ⟨rfl, ⟨x17, c144, (show 1 ≤ x17.toInt by omega), (show x17.toInt ≤ 400 by omega)⟩, ⟨x116, c117, (show 1 ≤ x116.toInt by omega), (show x116.toInt ≤ 3205 by omega)⟩, ⟨f0_, c143, (show 0 ≤ f0_.toInt by omega), (show f0_.toInt ≤ 5 by omega)⟩⟩)⟩ hw dX12_compare_162
            · have ex120 : x120.toInt = x17.toInt := by rw [← c144.symm.trans c121]
              have ex124 : x124.toInt = f0_.toInt := by rw [← c143.symm.trans c125]
              obtain ⟨x149, c150, rx149, tx149⟩ := hT.rda (lo := 0) (hi := 400) (i := (f0_.toInt).toNat) kM_at3 rfl rfl (by omega)
              obtain ⟨x151, c152, rx151, tx151⟩ := hT.rdi (lo := 0) (hi := 60) (k := 18) kM_at0 (by decide) rfl
              refine lv_if_ne (tgt := 163) hx hb dX12_compare_158 (by decide) (fun c => absurd (by decide) c) (fun _ => ?_)
              refine lv_iconst (v := 0) hx hb dX12_compare_161 (by decide) ?_
              exact tk_zret hC hr rfl hlocks hK ⟨hT, hF, (Or.inl ⟨rfl, ⟨x17, c144, (show 1 ≤ x17.toInt by omega), (show x17.toInt ≤ 400 by omega)⟩, ⟨x122, c123, (show 1 ≤ x122.toInt by omega), (show x122.toInt ≤ 3205 by omega)⟩, ⟨f0_, c143, (show 0 ≤ f0_.toInt by omega), (show f0_.toInt ≤ 5 by omega)⟩⟩)⟩ hw dX12_compare_162
            · have ex126 : x126.toInt = x17.toInt := by rw [← c144.symm.trans c127]
              have ex128 : x128.toInt = f0_.toInt := by rw [← c143.symm.trans c129]
              obtain ⟨x153, c154, rx153, tx153⟩ := hT.rda (lo := 0) (hi := 400) (i := (f0_.toInt).toNat) kM_at3 rfl rfl (by omega)
              have g132 : 3 * x153.toInt + 11 ≤ 3 * x43.toInt + 14 * (x130.toInt - x102.toInt) := by have q := g132; simp only [c106, c143, c108, c154, c103, c131] at q; omega
              have g133 : x102.toInt + 1 ≤ x130.toInt := by have q := g133; simp only [c106, c143, c103, c131] at q; omega
              refine lv_if_ne (tgt := 163) hx hb dX12_compare_158 (by decide) (fun _ => ?_) (fun c => absurd c (by decide))
              refine lv_aload_n hx hb dX12_compare_163 rfl (lv_at hl 4 rfl) ?_
              refine lv_bipush (v := 6) hx hb dX12_compare_164 (by decide) ?_
              refine lv_iload hx hb dX12_compare_166 (lv_at hl 0 rfl) ?_
              refine lv_iadd hx hb dX12_compare_168 ?_
              refine wk_top 6 (by decide) ?_
              refine lv_iconst (v := 0) hx hb dX12_compare_169 (by decide) ?_
              refine tk_Vv hC hK hw hT hA hE hSR kM_at0 (by decide) rfl (k_X12_puts_1 l adK adV dC dI cy ad B (by omega) (by omega) qr s1   6 (by decide) (by decide) 0 w112 H.size hT f0_ c143 (show 0 ≤ f0_.toInt by omega) (show f0_.toInt ≤ 5 by omega) x153 c154 (show 0 ≤ x153.toInt by omega) (show x153.toInt ≤ 400 by omega) (show x153.toInt ≤ 399 by omega)) (cwV 2 hC.2.2.2.2 gX12_compare_X12_puts rfl rfl rfl (by decide +kernel) ⟨Nat.le_of_ble_eq_true rfl, Nat.le_of_ble_eq_true rfl⟩) rfl hl.1 rfl (Nat.le_of_ble_eq_true rfl) dX12_compare_170 (fun w159 H locs hp158 hw => ?_)
              obtain ⟨hT, k160, hg164⟩ := hp158
              have hF := hF.tr k160 (by decide)
              have c165 := k160.gi kM_at0 (by decide) c143
              have c166 := k160.gi kM_at0 (by decide) c144
              have c167 := k160.gi kM_at0 (by decide) c131
              obtain ⟨⟨x161, c162, rx161, tx161⟩, g163⟩ := hg164
              have ex161 : x161.toInt = f0_.toInt := by rw [← c165.symm.trans c162]
              obtain ⟨x168, c169, rx168, tx168⟩ := hT.rda (lo := 0) (hi := 400) (i := (f0_.toInt).toNat) kM_at3 rfl rfl (by omega)
              have g163 : x168.toInt = x153.toInt + 1 := by have q := g163; simp only [c143, c165, c154, c169] at q; omega
              refine lv_iconst (v := 1) hx hb dX12_compare_173 (by decide) ?_
              exact tk_zret hC hr rfl hlocks hK ⟨hT, hF, (Or.inr (Or.inr ⟨rfl, ⟨x17, c166, (show 1 ≤ x17.toInt by omega), (show x17.toInt ≤ 400 by omega)⟩, ⟨f0_, c165, (show 0 ≤ f0_.toInt by omega), (show f0_.toInt ≤ 5 by omega)⟩, ⟨x130, c167, (show 1 ≤ x130.toInt by omega), (show x130.toInt ≤ 60 by omega)⟩, (by simp only [c165, cf0_, cf2_, c169, cf1_, c167]; omega), (by simp only [c165, cf0_, cf1_, c167]; omega)⟩))⟩ hw dX12_compare_174
            · have ex134 : x134.toInt = x17.toInt := by rw [← c144.symm.trans c135]
              have ex136 : x136.toInt = f0_.toInt := by rw [← c143.symm.trans c137]
              obtain ⟨x155, c156, rx155, tx155⟩ := hT.rda (lo := 0) (hi := 400) (i := (f0_.toInt).toNat) kM_at3 rfl rfl (by omega)
              have g140 : 3 * x155.toInt + 11 ≤ 3 * x43.toInt + 14 * (x138.toInt - x102.toInt) := by have q := g140; simp only [c106, c143, c108, c156, c103, c139] at q; omega
              have g141 : x102.toInt + 1 ≤ x138.toInt := by have q := g141; simp only [c106, c143, c103, c139] at q; omega
              refine lv_if_ne (tgt := 163) hx hb dX12_compare_158 (by decide) (fun _ => ?_) (fun c => absurd c (by decide))
              refine lv_aload_n hx hb dX12_compare_163 rfl (lv_at hl 4 rfl) ?_
              refine lv_bipush (v := 6) hx hb dX12_compare_164 (by decide) ?_
              refine lv_iload hx hb dX12_compare_166 (lv_at hl 0 rfl) ?_
              refine lv_iadd hx hb dX12_compare_168 ?_
              refine wk_top 6 (by decide) ?_
              refine lv_iconst (v := 0) hx hb dX12_compare_169 (by decide) ?_
              refine tk_Vv hC hK hw hT hA hE hSR kM_at0 (by decide) rfl (k_X12_puts_1 l adK adV dC dI cy ad B (by omega) (by omega) qr s1   6 (by decide) (by decide) 0 w112 H.size hT f0_ c143 (show 0 ≤ f0_.toInt by omega) (show f0_.toInt ≤ 5 by omega) x155 c156 (show 0 ≤ x155.toInt by omega) (show x155.toInt ≤ 400 by omega) (show x155.toInt ≤ 399 by omega)) (cwV 2 hC.2.2.2.2 gX12_compare_X12_puts rfl rfl rfl (by decide +kernel) ⟨Nat.le_of_ble_eq_true rfl, Nat.le_of_ble_eq_true rfl⟩) rfl hl.1 rfl (Nat.le_of_ble_eq_true rfl) dX12_compare_170 (fun w172 H locs hp171 hw => ?_)
              obtain ⟨hT, k173, hg177⟩ := hp171
              have hF := hF.tr k173 (by decide)
              have c178 := k173.gi kM_at0 (by decide) c143
              have c179 := k173.gi kM_at0 (by decide) c144
              have c180 := k173.gi kM_at0 (by decide) c139
              obtain ⟨⟨x174, c175, rx174, tx174⟩, g176⟩ := hg177
              have ex174 : x174.toInt = f0_.toInt := by rw [← c178.symm.trans c175]
              obtain ⟨x181, c182, rx181, tx181⟩ := hT.rda (lo := 0) (hi := 400) (i := (f0_.toInt).toNat) kM_at3 rfl rfl (by omega)
              have g176 : x181.toInt = x155.toInt + 1 := by have q := g176; simp only [c143, c178, c156, c182] at q; omega
              refine lv_iconst (v := 1) hx hb dX12_compare_173 (by decide) ?_
              exact tk_zret hC hr rfl hlocks hK ⟨hT, hF, (Or.inr (Or.inr ⟨rfl, ⟨x17, c179, (show 1 ≤ x17.toInt by omega), (show x17.toInt ≤ 400 by omega)⟩, ⟨f0_, c178, (show 0 ≤ f0_.toInt by omega), (show f0_.toInt ≤ 5 by omega)⟩, ⟨x138, c180, (show 1 ≤ x138.toInt by omega), (show x138.toInt ≤ 60 by omega)⟩, (by simp only [c178, cf0_, cf2_, c182, cf1_, c180]; omega), (by simp only [c178, cf0_, cf1_, c180]; omega)⟩))⟩ hw dX12_compare_174
        · have c93 : x81.toInt < x17.toInt := wk_leF c93
          refine lv_aload_n hx hb dX12_compare_71 rfl (lv_at hl 2 rfl) ?_
          refine tk_getA hC hK hw hT hinX12 kM_at0 (by decide) rfl 0 (by decide) (List.mem_of_getElem? (i := 3) rfl) rfl rfl dX12_compare_72 ?_
          refine lv_aload_n hx hb dX12_compare_75 rfl (lv_at hl 2 rfl) ?_
          refine tk_geti hC hK hw hT hinX12 kM_at0 (by decide) rfl 14 (by decide) (List.mem_of_getElem? (i := 1) rfl) rfl rfl dX12_compare_76 (fun x183 c184 rx183 tx183 => ?_)
          refine wk_top x81 (c184.symm.trans c83) ?_
          refine tk_bald hC hK hw hT kM_at1 rfl rfl (show 0 ≤ x81.toInt by omega) (show x81.toInt < 400 by omega) dX12_compare_79 (fun x185 c186 rx185 tx185 => ?_)
          have c186 : gi w82 1 (1 * x57.toInt + 1).toNat = x185 := (congrArg (gi w82 1) (congrArg Int.toNat (show 1 * x57.toInt + 1 = x81.toInt by omega))).trans c186
          refine lv_bipush (v := 61) hx hb dX12_compare_80 (by decide) ?_
          refine lv_icmp_ne (tgt := 89) hx hb dX12_compare_82 (by decide) (fun c187 => ?_) (fun c187 => ?_)
          · have c187 : ¬ x185.toInt = (61 : Int) := wk_eqF c187
            refine lv_iconst (v := 0) hx hb dX12_compare_89 (by decide) ?_
            refine lv_istore_n (lv' := [(3, .int 0), (2, .int x57), (1, .int r49), (0, .ref (ad 0))]) hx hb dX12_compare_90 rfl hl (by decide) rfl (fun ls hl => ?_)
            refine lv_iload_n hx hb dX12_compare_91 rfl (lv_at hl 0 rfl) ?_
            refine lv_if_eq (tgt := 105) hx hb dX12_compare_92 (by decide) (fun _ => ?_) (fun c => absurd (by decide) c)
            refine lv_aload_n hx hb dX12_compare_105 rfl (lv_at hl 3 rfl) ?_
            refine lv_iload_n hx hb dX12_compare_106 rfl (lv_at hl 1 rfl) ?_
            refine tk_Vi hC hK hw hT hA hE hSR kM_at0 (by decide) rfl (k_X12_makes_1 l adK adV dC dI cy ad B (by omega) (by omega) qr s1   x57 (show 0 ≤ x57.toInt by omega) (show x57.toInt ≤ 398 by omega) w82 H.size hT x21 c87 (show 0 ≤ x21.toInt by omega) (show x21.toInt ≤ 60 by omega)) (cwV 1 hC.2.2.2.2 gX12_compare_X12_makes rfl rfl rfl (by decide +kernel) ⟨Nat.le_of_ble_eq_true rfl, Nat.le_of_ble_eq_true rfl⟩) rfl hl.1 rfl (Nat.le_of_ble_eq_true rfl) dX12_compare_107 (fun r188 w190 H locs hp189 hw => ?_)
            obtain ⟨hT, k191, hg199⟩ := hp189
            have hF := hF.tr k191 (by decide)
            have c200 := k191.gi kM_at0 (by decide) c85
            have c201 := k191.gi kM_at0 (by decide) c86
            have c202 := k191.gi kM_at3 rfl c88
            have c203 := k191.gi kM_at0 (by decide) c83
            have c204 := k191.gi kM_at1 rfl c186
            rcases hg199 with ⟨rfl, ⟨x192, c193, rx192, tx192⟩, ⟨x194, c195, rx194, tx194⟩⟩ | ⟨rfl, ⟨x196, c197, rx196, tx196⟩, g198⟩
            · refine lv_if_ne (tgt := 115) hx hb dX12_compare_110 (by decide) (fun c => absurd (by decide) c) (fun _ => ?_)
              refine lv_iconst (v := 0) hx hb dX12_compare_113 (by decide) ?_
              exact tk_zret hC hr rfl hlocks hK ⟨hT, hF, (Or.inl ⟨rfl, ⟨x17, c201, (show 1 ≤ x17.toInt by omega), (show x17.toInt ≤ 400 by omega)⟩, ⟨x192, c193, (show 1 ≤ x192.toInt by omega), (show x192.toInt ≤ 3205 by omega)⟩, ⟨f0_, c200, (show 0 ≤ f0_.toInt by omega), (show f0_.toInt ≤ 5 by omega)⟩⟩)⟩ hw dX12_compare_114
            · have g198 : x196.toInt = x21.toInt + 1 := by have q := g198; simp only [c85, c200, c87, c197] at q; omega
              refine lv_if_ne (tgt := 115) hx hb dX12_compare_110 (by decide) (fun _ => ?_) (fun c => absurd c (by decide))
              refine lv_iload_n hx hb dX12_compare_115 rfl (lv_at hl 2 rfl) ?_
              refine lv_bipush (v := 60) hx hb dX12_compare_116 (by decide) ?_
              refine lv_icmp_ne (tgt := 133) hx hb dX12_compare_118 (by decide) (fun c => (c (wk_eq.mpr (show r49.toInt = (60 : Int) by omega))).elim) (fun _ => ?_)
              refine lv_iload_n hx hb dX12_compare_121 rfl (lv_at hl 0 rfl) ?_
              refine lv_if_eq (tgt := 129) hx hb dX12_compare_122 (by decide) (fun _ => ?_) (fun c => absurd (by decide) c)
              refine lv_iconst (v := 0) hx hb dX12_compare_129 (by decide) ?_
              refine lv_goto (tgt := 152) hx hb dX12_compare_130 (by decide) ?_
              refine lv_istore (lv' := [(4, .int 0), (3, .int 0), (2, .int x57), (1, .int r49), (0, .ref (ad 0))]) hx hb dX12_compare_152 hl (by decide) rfl (fun ls hl => ?_)
              refine lv_aload_n hx hb dX12_compare_154 rfl (lv_at hl 4 rfl) ?_
              refine tk_Vi hC hK hw hT hA hE hSR kM_at0 (by decide) rfl (k_X12_sum_1 l adK adV dC dI cy ad B (by omega) (by omega) qr s1    w190 H.size hT f0_ c200 (show 0 ≤ f0_.toInt by omega) (show f0_.toInt ≤ 5 by omega) x196 c197 (show 0 ≤ x196.toInt by omega) (show x196.toInt ≤ 60 by omega) x43 c202 (show 0 ≤ x43.toInt by omega) (show x43.toInt ≤ 400 by omega) (show 3 * x43.toInt ≤ 14 * x196.toInt + 60 by omega) (show x43.toInt ≤ 300 by omega)) (cwV 0 hC.2.2.2.2 gX12_compare_X12_sum rfl rfl rfl (by decide +kernel) ⟨Nat.le_of_ble_eq_true rfl, Nat.le_of_ble_eq_true rfl⟩) rfl hl.1 rfl (Nat.le_of_ble_eq_true rfl) dX12_compare_155 (fun r205 w207 H locs hp206 hw => ?_)
              obtain ⟨hT, k208, hg237⟩ := hp206
              have hF := hF.tr k208 (by decide)
              have c238 := k208.gi kM_at0 (by decide) c200
              have c239 := k208.gi kM_at0 (by decide) c201
              have c240 := k208.gi kM_at1 rfl c204
              rcases hg237 with ⟨rfl, ⟨x209, c210, rx209, tx209⟩, ⟨x211, c212, rx211, tx211⟩, ⟨x213, c214, rx213, tx213⟩⟩ | ⟨rfl, ⟨x215, c216, rx215, tx215⟩, ⟨x217, c218, rx217, tx217⟩, ⟨x219, c220, rx219, tx219⟩⟩ | ⟨rfl, ⟨x221, c222, rx221, tx221⟩, ⟨x223, c224, rx223, tx223⟩, ⟨x225, c226, rx225, tx225⟩, g227, g228⟩ | ⟨rfl, ⟨x229, c230, rx229, tx229⟩, ⟨x231, c232, rx231, tx231⟩, ⟨x233, c234, rx233, tx233⟩, g235, g236⟩
              · have ex209 : x209.toInt = x17.toInt := by rw [← c239.symm.trans c210]
                have ex213 : x213.toInt = f0_.toInt := by rw [← c238.symm.trans c214]
                obtain ⟨x241, c242, rx241, tx241⟩ := hT.rda (lo := 0) (hi := 400) (i := (f0_.toInt).toNat) kM_at3 rfl rfl (by omega)
                obtain ⟨x243, c244, rx243, tx243⟩ := hT.rdi (lo := 0) (hi := 60) (k := 18) kM_at0 (by decide) rfl
                refine lv_if_ne (tgt := 163) hx hb dX12_compare_158 (by decide) (fun c => absurd (by decide) c) (fun _ => ?_)
                refine lv_iconst (v := 0) hx hb dX12_compare_161 (by decide) ?_
                exact tk_zret hC hr rfl hlocks hK ⟨hT, hF, (Or.inl ⟨rfl, ⟨x17, c239, (show 1 ≤ x17.toInt by omega), (show x17.toInt ≤ 400 by omega)⟩, ⟨x211, c212, (show 1 ≤ x211.toInt by omega), (show x211.toInt ≤ 3205 by omega)⟩, ⟨f0_, c238, (show 0 ≤ f0_.toInt by omega), (show f0_.toInt ≤ 5 by omega)⟩⟩)⟩ hw dX12_compare_162
              · have ex215 : x215.toInt = x17.toInt := by rw [← c239.symm.trans c216]
                have ex219 : x219.toInt = f0_.toInt := by rw [← c238.symm.trans c220]
                obtain ⟨x245, c246, rx245, tx245⟩ := hT.rda (lo := 0) (hi := 400) (i := (f0_.toInt).toNat) kM_at3 rfl rfl (by omega)
                obtain ⟨x247, c248, rx247, tx247⟩ := hT.rdi (lo := 0) (hi := 60) (k := 18) kM_at0 (by decide) rfl
                refine lv_if_ne (tgt := 163) hx hb dX12_compare_158 (by decide) (fun c => absurd (by decide) c) (fun _ => ?_)
                refine lv_iconst (v := 0) hx hb dX12_compare_161 (by decide) ?_
                exact tk_zret hC hr rfl hlocks hK ⟨hT, hF, (Or.inl ⟨rfl, ⟨x17, c239, (show 1 ≤ x17.toInt by omega), (show x17.toInt ≤ 400 by omega)⟩, ⟨x217, c218, (show 1 ≤ x217.toInt by omega), (show x217.toInt ≤ 3205 by omega)⟩, ⟨f0_, c238, (show 0 ≤ f0_.toInt by omega), (show f0_.toInt ≤ 5 by omega)⟩⟩)⟩ hw dX12_compare_162
              · have ex221 : x221.toInt = x17.toInt := by rw [← c239.symm.trans c222]
                have ex223 : x223.toInt = f0_.toInt := by rw [← c238.symm.trans c224]
                obtain ⟨x249, c250, rx249, tx249⟩ := hT.rda (lo := 0) (hi := 400) (i := (f0_.toInt).toNat) kM_at3 rfl rfl (by omega)
                have g227 : 3 * x249.toInt + 11 ≤ 3 * x43.toInt + 14 * (x225.toInt - x196.toInt) := by have q := g227; simp only [c200, c238, c202, c250, c197, c226] at q; omega
                have g228 : x196.toInt + 1 ≤ x225.toInt := by have q := g228; simp only [c200, c238, c197, c226] at q; omega
                refine lv_if_ne (tgt := 163) hx hb dX12_compare_158 (by decide) (fun _ => ?_) (fun c => absurd c (by decide))
                refine lv_aload_n hx hb dX12_compare_163 rfl (lv_at hl 4 rfl) ?_
                refine lv_bipush (v := 6) hx hb dX12_compare_164 (by decide) ?_
                refine lv_iload hx hb dX12_compare_166 (lv_at hl 0 rfl) ?_
                refine lv_iadd hx hb dX12_compare_168 ?_
                refine wk_top 6 (by decide) ?_
                refine lv_iconst (v := 0) hx hb dX12_compare_169 (by decide) ?_
                refine tk_Vv hC hK hw hT hA hE hSR kM_at0 (by decide) rfl (k_X12_puts_1 l adK adV dC dI cy ad B (by omega) (by omega) qr s1   6 (by decide) (by decide) 0 w207 H.size hT f0_ c238 (show 0 ≤ f0_.toInt by omega) (show f0_.toInt ≤ 5 by omega) x249 c250 (show 0 ≤ x249.toInt by omega) (show x249.toInt ≤ 400 by omega) (show x249.toInt ≤ 399 by omega)) (cwV 2 hC.2.2.2.2 gX12_compare_X12_puts rfl rfl rfl (by decide +kernel) ⟨Nat.le_of_ble_eq_true rfl, Nat.le_of_ble_eq_true rfl⟩) rfl hl.1 rfl (Nat.le_of_ble_eq_true rfl) dX12_compare_170 (fun w255 H locs hp254 hw => ?_)
                obtain ⟨hT, k256, hg260⟩ := hp254
                have hF := hF.tr k256 (by decide)
                have c261 := k256.gi kM_at0 (by decide) c238
                have c262 := k256.gi kM_at0 (by decide) c239
                have c263 := k256.gi kM_at1 rfl c240
                have c264 := k256.gi kM_at0 (by decide) c226
                obtain ⟨⟨x257, c258, rx257, tx257⟩, g259⟩ := hg260
                have ex257 : x257.toInt = f0_.toInt := by rw [← c261.symm.trans c258]
                obtain ⟨x265, c266, rx265, tx265⟩ := hT.rda (lo := 0) (hi := 400) (i := (f0_.toInt).toNat) kM_at3 rfl rfl (by omega)
                have g259 : x265.toInt = x249.toInt + 1 := by have q := g259; simp only [c238, c261, c250, c266] at q; omega
                refine lv_iconst (v := 1) hx hb dX12_compare_173 (by decide) ?_
                exact tk_zret hC hr rfl hlocks hK ⟨hT, hF, (Or.inr (Or.inr ⟨rfl, ⟨x17, c262, (show 1 ≤ x17.toInt by omega), (show x17.toInt ≤ 400 by omega)⟩, ⟨f0_, c261, (show 0 ≤ f0_.toInt by omega), (show f0_.toInt ≤ 5 by omega)⟩, ⟨x225, c264, (show 1 ≤ x225.toInt by omega), (show x225.toInt ≤ 60 by omega)⟩, (by simp only [c261, cf0_, cf2_, c266, cf1_, c264]; omega), (by simp only [c261, cf0_, cf1_, c264]; omega)⟩))⟩ hw dX12_compare_174
              · have ex229 : x229.toInt = x17.toInt := by rw [← c239.symm.trans c230]
                have ex231 : x231.toInt = f0_.toInt := by rw [← c238.symm.trans c232]
                obtain ⟨x251, c252, rx251, tx251⟩ := hT.rda (lo := 0) (hi := 400) (i := (f0_.toInt).toNat) kM_at3 rfl rfl (by omega)
                have g235 : 3 * x251.toInt + 11 ≤ 3 * x43.toInt + 14 * (x233.toInt - x196.toInt) := by have q := g235; simp only [c200, c238, c202, c252, c197, c234] at q; omega
                have g236 : x196.toInt + 1 ≤ x233.toInt := by have q := g236; simp only [c200, c238, c197, c234] at q; omega
                refine lv_if_ne (tgt := 163) hx hb dX12_compare_158 (by decide) (fun _ => ?_) (fun c => absurd c (by decide))
                refine lv_aload_n hx hb dX12_compare_163 rfl (lv_at hl 4 rfl) ?_
                refine lv_bipush (v := 6) hx hb dX12_compare_164 (by decide) ?_
                refine lv_iload hx hb dX12_compare_166 (lv_at hl 0 rfl) ?_
                refine lv_iadd hx hb dX12_compare_168 ?_
                refine wk_top 6 (by decide) ?_
                refine lv_iconst (v := 0) hx hb dX12_compare_169 (by decide) ?_
                refine tk_Vv hC hK hw hT hA hE hSR kM_at0 (by decide) rfl (k_X12_puts_1 l adK adV dC dI cy ad B (by omega) (by omega) qr s1   6 (by decide) (by decide) 0 w207 H.size hT f0_ c238 (show 0 ≤ f0_.toInt by omega) (show f0_.toInt ≤ 5 by omega) x251 c252 (show 0 ≤ x251.toInt by omega) (show x251.toInt ≤ 400 by omega) (show x251.toInt ≤ 399 by omega)) (cwV 2 hC.2.2.2.2 gX12_compare_X12_puts rfl rfl rfl (by decide +kernel) ⟨Nat.le_of_ble_eq_true rfl, Nat.le_of_ble_eq_true rfl⟩) rfl hl.1 rfl (Nat.le_of_ble_eq_true rfl) dX12_compare_170 (fun w269 H locs hp268 hw => ?_)
                obtain ⟨hT, k270, hg274⟩ := hp268
                have hF := hF.tr k270 (by decide)
                have c275 := k270.gi kM_at0 (by decide) c238
                have c276 := k270.gi kM_at0 (by decide) c239
                have c277 := k270.gi kM_at1 rfl c240
                have c278 := k270.gi kM_at0 (by decide) c234
                obtain ⟨⟨x271, c272, rx271, tx271⟩, g273⟩ := hg274
                have ex271 : x271.toInt = f0_.toInt := by rw [← c275.symm.trans c272]
                obtain ⟨x279, c280, rx279, tx279⟩ := hT.rda (lo := 0) (hi := 400) (i := (f0_.toInt).toNat) kM_at3 rfl rfl (by omega)
                have g273 : x279.toInt = x251.toInt + 1 := by have q := g273; simp only [c238, c275, c252, c280] at q; omega
                refine lv_iconst (v := 1) hx hb dX12_compare_173 (by decide) ?_
                exact tk_zret hC hr rfl hlocks hK ⟨hT, hF, (Or.inr (Or.inr ⟨rfl, ⟨x17, c276, (show 1 ≤ x17.toInt by omega), (show x17.toInt ≤ 400 by omega)⟩, ⟨f0_, c275, (show 0 ≤ f0_.toInt by omega), (show f0_.toInt ≤ 5 by omega)⟩, ⟨x233, c278, (show 1 ≤ x233.toInt by omega), (show x233.toInt ≤ 60 by omega)⟩, (by simp only [c275, cf0_, cf2_, c280, cf1_, c278]; omega), (by simp only [c275, cf0_, cf1_, c278]; omega)⟩))⟩ hw dX12_compare_174
          · have c187 : x185.toInt = (61 : Int) := wk_eq.mp c187
            refine lv_iconst (v := 1) hx hb dX12_compare_85 (by decide) ?_
            refine lv_goto (tgt := 90) hx hb dX12_compare_86 (by decide) ?_
            refine lv_istore_n (lv' := [(3, .int 1), (2, .int x57), (1, .int r49), (0, .ref (ad 0))]) hx hb dX12_compare_90 rfl hl (by decide) rfl (fun ls hl => ?_)
            refine lv_iload_n hx hb dX12_compare_91 rfl (lv_at hl 0 rfl) ?_
            refine lv_if_eq (tgt := 105) hx hb dX12_compare_92 (by decide) (fun c => absurd c (by decide)) (fun _ => ?_)
            refine lv_aload_n hx hb dX12_compare_95 rfl (lv_at hl 3 rfl) ?_
            refine lv_dup hx hb dX12_compare_96 rfl ?_
            refine tk_geti hC hK hw hT hinX12 kM_at0 (by decide) rfl 14 (by decide) (List.mem_of_getElem? (i := 1) rfl) rfl rfl dX12_compare_97 (fun x281 c282 rx281 tx281 => ?_)
            refine wk_top x81 (c282.symm.trans c83) ?_
            refine lv_iconst (v := 1) hx hb dX12_compare_100 (by decide) ?_
            refine lv_iadd hx hb dX12_compare_101 ?_
            refine lv_topi (fun x283 ex283 => ?_)
            have ex283 : x283.toInt = x81.toInt + (1 : Int) := by rw [ex283]; exact wk_add (show (-2147483648) ≤ x81.toInt + (1 : Int) by omega) (show x81.toInt + (1 : Int) ≤ 2147483647 by omega)
            refine tk_puti hC hK hw hT hinX12 tyX12_ok nmX12 kM_at0 (by decide) rfl rfl 14 (by decide) (List.mem_of_getElem? (i := 1) rfl) rfl rfl rfl rfl (show 0 ≤ x283.toInt by omega) (show x283.toInt ≤ 400 by omega) dX12_compare_102 (fun H locs w284 hw hT k286 c285 => ?_)
            have hF := hF.put kM_at0 (k := 14) (by decide) k286
            have c287 := k286.gi (Or.inr (by decide)) c85
            have c288 := k286.gi (Or.inr (by decide)) c86
            have c289 := k286.gi (Or.inr (by decide)) c87
            have c290 := k286.gi (Or.inl (tk_ne kM_at3 kM_at0 (by decide))) c88
            have c291 := k286.gi (Or.inl (tk_ne kM_at1 kM_at0 (by decide))) c186
            refine lv_aload_n hx hb dX12_compare_105 rfl (lv_at hl 3 rfl) ?_
            refine lv_iload_n hx hb dX12_compare_106 rfl (lv_at hl 1 rfl) ?_
            refine tk_Vi hC hK hw hT hA hE hSR kM_at0 (by decide) rfl (k_X12_makes_1 l adK adV dC dI cy ad B (by omega) (by omega) qr s1   x57 (show 0 ≤ x57.toInt by omega) (show x57.toInt ≤ 398 by omega) w284 H.size hT x21 c289 (show 0 ≤ x21.toInt by omega) (show x21.toInt ≤ 60 by omega)) (cwV 1 hC.2.2.2.2 gX12_compare_X12_makes rfl rfl rfl (by decide +kernel) ⟨Nat.le_of_ble_eq_true rfl, Nat.le_of_ble_eq_true rfl⟩) rfl hl.1 rfl (Nat.le_of_ble_eq_true rfl) dX12_compare_107 (fun r292 w294 H locs hp293 hw => ?_)
            obtain ⟨hT, k295, hg303⟩ := hp293
            have hF := hF.tr k295 (by decide)
            have c304 := k295.gi kM_at0 (by decide) c287
            have c305 := k295.gi kM_at0 (by decide) c288
            have c306 := k295.gi kM_at3 rfl c290
            have c307 := k295.gi kM_at1 rfl c291
            have c308 := k295.gi kM_at0 (by decide) c285
            rcases hg303 with ⟨rfl, ⟨x296, c297, rx296, tx296⟩, ⟨x298, c299, rx298, tx298⟩⟩ | ⟨rfl, ⟨x300, c301, rx300, tx300⟩, g302⟩
            · refine lv_if_ne (tgt := 115) hx hb dX12_compare_110 (by decide) (fun c => absurd (by decide) c) (fun _ => ?_)
              refine lv_iconst (v := 0) hx hb dX12_compare_113 (by decide) ?_
              exact tk_zret hC hr rfl hlocks hK ⟨hT, hF, (Or.inl ⟨rfl, ⟨x17, c305, (show 1 ≤ x17.toInt by omega), (show x17.toInt ≤ 400 by omega)⟩, ⟨x296, c297, (show 1 ≤ x296.toInt by omega), (show x296.toInt ≤ 3205 by omega)⟩, ⟨f0_, c304, (show 0 ≤ f0_.toInt by omega), (show f0_.toInt ≤ 5 by omega)⟩⟩)⟩ hw dX12_compare_114
            · have g302 : x300.toInt = x21.toInt + 1 := by have q := g302; simp only [c287, c304, c289, c301] at q; omega
              refine lv_if_ne (tgt := 115) hx hb dX12_compare_110 (by decide) (fun _ => ?_) (fun c => absurd c (by decide))
              refine lv_iload_n hx hb dX12_compare_115 rfl (lv_at hl 2 rfl) ?_
              refine lv_bipush (v := 60) hx hb dX12_compare_116 (by decide) ?_
              refine lv_icmp_ne (tgt := 133) hx hb dX12_compare_118 (by decide) (fun c => (c (wk_eq.mpr (show r49.toInt = (60 : Int) by omega))).elim) (fun _ => ?_)
              refine lv_iload_n hx hb dX12_compare_121 rfl (lv_at hl 0 rfl) ?_
              refine lv_if_eq (tgt := 129) hx hb dX12_compare_122 (by decide) (fun c => absurd c (by decide)) (fun _ => ?_)
              refine lv_iconst (v := 1) hx hb dX12_compare_125 (by decide) ?_
              refine lv_goto (tgt := 152) hx hb dX12_compare_126 (by decide) ?_
              refine lv_istore (lv' := [(4, .int 1), (3, .int 1), (2, .int x57), (1, .int r49), (0, .ref (ad 0))]) hx hb dX12_compare_152 hl (by decide) rfl (fun ls hl => ?_)
              refine lv_aload_n hx hb dX12_compare_154 rfl (lv_at hl 4 rfl) ?_
              refine tk_Vi hC hK hw hT hA hE hSR kM_at0 (by decide) rfl (k_X12_sum_1 l adK adV dC dI cy ad B (by omega) (by omega) qr s1    w294 H.size hT f0_ c304 (show 0 ≤ f0_.toInt by omega) (show f0_.toInt ≤ 5 by omega) x300 c301 (show 0 ≤ x300.toInt by omega) (show x300.toInt ≤ 60 by omega) x43 c306 (show 0 ≤ x43.toInt by omega) (show x43.toInt ≤ 400 by omega) (show 3 * x43.toInt ≤ 14 * x300.toInt + 60 by omega) (show x43.toInt ≤ 300 by omega)) (cwV 0 hC.2.2.2.2 gX12_compare_X12_sum rfl rfl rfl (by decide +kernel) ⟨Nat.le_of_ble_eq_true rfl, Nat.le_of_ble_eq_true rfl⟩) rfl hl.1 rfl (Nat.le_of_ble_eq_true rfl) dX12_compare_155 (fun r309 w311 H locs hp310 hw => ?_)
              obtain ⟨hT, k312, hg341⟩ := hp310
              have hF := hF.tr k312 (by decide)
              have c342 := k312.gi kM_at0 (by decide) c304
              have c343 := k312.gi kM_at0 (by decide) c305
              have c344 := k312.gi kM_at1 rfl c307
              rcases hg341 with ⟨rfl, ⟨x313, c314, rx313, tx313⟩, ⟨x315, c316, rx315, tx315⟩, ⟨x317, c318, rx317, tx317⟩⟩ | ⟨rfl, ⟨x319, c320, rx319, tx319⟩, ⟨x321, c322, rx321, tx321⟩, ⟨x323, c324, rx323, tx323⟩⟩ | ⟨rfl, ⟨x325, c326, rx325, tx325⟩, ⟨x327, c328, rx327, tx327⟩, ⟨x329, c330, rx329, tx329⟩, g331, g332⟩ | ⟨rfl, ⟨x333, c334, rx333, tx333⟩, ⟨x335, c336, rx335, tx335⟩, ⟨x337, c338, rx337, tx337⟩, g339, g340⟩
              · have ex313 : x313.toInt = x17.toInt := by rw [← c343.symm.trans c314]
                have ex317 : x317.toInt = f0_.toInt := by rw [← c342.symm.trans c318]
                obtain ⟨x345, c346, rx345, tx345⟩ := hT.rda (lo := 0) (hi := 400) (i := (f0_.toInt).toNat) kM_at3 rfl rfl (by omega)
                obtain ⟨x347, c348, rx347, tx347⟩ := hT.rdi (lo := 0) (hi := 60) (k := 18) kM_at0 (by decide) rfl
                refine lv_if_ne (tgt := 163) hx hb dX12_compare_158 (by decide) (fun c => absurd (by decide) c) (fun _ => ?_)
                refine lv_iconst (v := 0) hx hb dX12_compare_161 (by decide) ?_
                exact tk_zret hC hr rfl hlocks hK ⟨hT, hF, (Or.inl ⟨rfl, ⟨x17, c343, (show 1 ≤ x17.toInt by omega), (show x17.toInt ≤ 400 by omega)⟩, ⟨x315, c316, (show 1 ≤ x315.toInt by omega), (show x315.toInt ≤ 3205 by omega)⟩, ⟨f0_, c342, (show 0 ≤ f0_.toInt by omega), (show f0_.toInt ≤ 5 by omega)⟩⟩)⟩ hw dX12_compare_162
              · have ex319 : x319.toInt = x17.toInt := by rw [← c343.symm.trans c320]
                have ex323 : x323.toInt = f0_.toInt := by rw [← c342.symm.trans c324]
                obtain ⟨x349, c350, rx349, tx349⟩ := hT.rda (lo := 0) (hi := 400) (i := (f0_.toInt).toNat) kM_at3 rfl rfl (by omega)
                obtain ⟨x351, c352, rx351, tx351⟩ := hT.rdi (lo := 0) (hi := 60) (k := 18) kM_at0 (by decide) rfl
                refine lv_if_ne (tgt := 163) hx hb dX12_compare_158 (by decide) (fun c => absurd (by decide) c) (fun _ => ?_)
                refine lv_iconst (v := 0) hx hb dX12_compare_161 (by decide) ?_
                exact tk_zret hC hr rfl hlocks hK ⟨hT, hF, (Or.inl ⟨rfl, ⟨x17, c343, (show 1 ≤ x17.toInt by omega), (show x17.toInt ≤ 400 by omega)⟩, ⟨x321, c322, (show 1 ≤ x321.toInt by omega), (show x321.toInt ≤ 3205 by omega)⟩, ⟨f0_, c342, (show 0 ≤ f0_.toInt by omega), (show f0_.toInt ≤ 5 by omega)⟩⟩)⟩ hw dX12_compare_162
              · have ex325 : x325.toInt = x17.toInt := by rw [← c343.symm.trans c326]
                have ex327 : x327.toInt = f0_.toInt := by rw [← c342.symm.trans c328]
                obtain ⟨x353, c354, rx353, tx353⟩ := hT.rda (lo := 0) (hi := 400) (i := (f0_.toInt).toNat) kM_at3 rfl rfl (by omega)
                have g331 : 3 * x353.toInt + 11 ≤ 3 * x43.toInt + 14 * (x329.toInt - x300.toInt) := by have q := g331; simp only [c304, c342, c306, c354, c301, c330] at q; omega
                have g332 : x300.toInt + 1 ≤ x329.toInt := by have q := g332; simp only [c304, c342, c301, c330] at q; omega
                refine lv_if_ne (tgt := 163) hx hb dX12_compare_158 (by decide) (fun _ => ?_) (fun c => absurd c (by decide))
                refine lv_aload_n hx hb dX12_compare_163 rfl (lv_at hl 4 rfl) ?_
                refine lv_bipush (v := 6) hx hb dX12_compare_164 (by decide) ?_
                refine lv_iload hx hb dX12_compare_166 (lv_at hl 0 rfl) ?_
                refine lv_iadd hx hb dX12_compare_168 ?_
                refine wk_top 7 (by decide) ?_
                refine lv_iconst (v := 0) hx hb dX12_compare_169 (by decide) ?_
                refine tk_Vv hC hK hw hT hA hE hSR kM_at0 (by decide) rfl (k_X12_puts_1 l adK adV dC dI cy ad B (by omega) (by omega) qr s1   7 (by decide) (by decide) 0 w311 H.size hT f0_ c342 (show 0 ≤ f0_.toInt by omega) (show f0_.toInt ≤ 5 by omega) x353 c354 (show 0 ≤ x353.toInt by omega) (show x353.toInt ≤ 400 by omega) (show x353.toInt ≤ 399 by omega)) (cwV 2 hC.2.2.2.2 gX12_compare_X12_puts rfl rfl rfl (by decide +kernel) ⟨Nat.le_of_ble_eq_true rfl, Nat.le_of_ble_eq_true rfl⟩) rfl hl.1 rfl (Nat.le_of_ble_eq_true rfl) dX12_compare_170 (fun w359 H locs hp358 hw => ?_)
                obtain ⟨hT, k360, hg364⟩ := hp358
                have hF := hF.tr k360 (by decide)
                have c365 := k360.gi kM_at0 (by decide) c342
                have c366 := k360.gi kM_at0 (by decide) c343
                have c367 := k360.gi kM_at1 rfl c344
                have c368 := k360.gi kM_at0 (by decide) c330
                obtain ⟨⟨x361, c362, rx361, tx361⟩, g363⟩ := hg364
                have ex361 : x361.toInt = f0_.toInt := by rw [← c365.symm.trans c362]
                obtain ⟨x369, c370, rx369, tx369⟩ := hT.rda (lo := 0) (hi := 400) (i := (f0_.toInt).toNat) kM_at3 rfl rfl (by omega)
                have g363 : x369.toInt = x353.toInt + 1 := by have q := g363; simp only [c342, c365, c354, c370] at q; omega
                refine lv_iconst (v := 1) hx hb dX12_compare_173 (by decide) ?_
                exact tk_zret hC hr rfl hlocks hK ⟨hT, hF, (Or.inr (Or.inr ⟨rfl, ⟨x17, c366, (show 1 ≤ x17.toInt by omega), (show x17.toInt ≤ 400 by omega)⟩, ⟨f0_, c365, (show 0 ≤ f0_.toInt by omega), (show f0_.toInt ≤ 5 by omega)⟩, ⟨x329, c368, (show 1 ≤ x329.toInt by omega), (show x329.toInt ≤ 60 by omega)⟩, (by simp only [c365, cf0_, cf2_, c370, cf1_, c368]; omega), (by simp only [c365, cf0_, cf1_, c368]; omega)⟩))⟩ hw dX12_compare_174
              · have ex333 : x333.toInt = x17.toInt := by rw [← c343.symm.trans c334]
                have ex335 : x335.toInt = f0_.toInt := by rw [← c342.symm.trans c336]
                obtain ⟨x355, c356, rx355, tx355⟩ := hT.rda (lo := 0) (hi := 400) (i := (f0_.toInt).toNat) kM_at3 rfl rfl (by omega)
                have g339 : 3 * x355.toInt + 11 ≤ 3 * x43.toInt + 14 * (x337.toInt - x300.toInt) := by have q := g339; simp only [c304, c342, c306, c356, c301, c338] at q; omega
                have g340 : x300.toInt + 1 ≤ x337.toInt := by have q := g340; simp only [c304, c342, c301, c338] at q; omega
                refine lv_if_ne (tgt := 163) hx hb dX12_compare_158 (by decide) (fun _ => ?_) (fun c => absurd c (by decide))
                refine lv_aload_n hx hb dX12_compare_163 rfl (lv_at hl 4 rfl) ?_
                refine lv_bipush (v := 6) hx hb dX12_compare_164 (by decide) ?_
                refine lv_iload hx hb dX12_compare_166 (lv_at hl 0 rfl) ?_
                refine lv_iadd hx hb dX12_compare_168 ?_
                refine wk_top 7 (by decide) ?_
                refine lv_iconst (v := 0) hx hb dX12_compare_169 (by decide) ?_
                refine tk_Vv hC hK hw hT hA hE hSR kM_at0 (by decide) rfl (k_X12_puts_1 l adK adV dC dI cy ad B (by omega) (by omega) qr s1   7 (by decide) (by decide) 0 w311 H.size hT f0_ c342 (show 0 ≤ f0_.toInt by omega) (show f0_.toInt ≤ 5 by omega) x355 c356 (show 0 ≤ x355.toInt by omega) (show x355.toInt ≤ 400 by omega) (show x355.toInt ≤ 399 by omega)) (cwV 2 hC.2.2.2.2 gX12_compare_X12_puts rfl rfl rfl (by decide +kernel) ⟨Nat.le_of_ble_eq_true rfl, Nat.le_of_ble_eq_true rfl⟩) rfl hl.1 rfl (Nat.le_of_ble_eq_true rfl) dX12_compare_170 (fun w373 H locs hp372 hw => ?_)
                obtain ⟨hT, k374, hg378⟩ := hp372
                have hF := hF.tr k374 (by decide)
                have c379 := k374.gi kM_at0 (by decide) c342
                have c380 := k374.gi kM_at0 (by decide) c343
                have c381 := k374.gi kM_at1 rfl c344
                have c382 := k374.gi kM_at0 (by decide) c338
                obtain ⟨⟨x375, c376, rx375, tx375⟩, g377⟩ := hg378
                have ex375 : x375.toInt = f0_.toInt := by rw [← c379.symm.trans c376]
                obtain ⟨x383, c384, rx383, tx383⟩ := hT.rda (lo := 0) (hi := 400) (i := (f0_.toInt).toNat) kM_at3 rfl rfl (by omega)
                have g377 : x383.toInt = x355.toInt + 1 := by have q := g377; simp only [c342, c379, c356, c384] at q; omega
                refine lv_iconst (v := 1) hx hb dX12_compare_173 (by decide) ?_
                exact tk_zret hC hr rfl hlocks hK ⟨hT, hF, (Or.inr (Or.inr ⟨rfl, ⟨x17, c380, (show 1 ≤ x17.toInt by omega), (show x17.toInt ≤ 400 by omega)⟩, ⟨f0_, c379, (show 0 ≤ f0_.toInt by omega), (show f0_.toInt ≤ 5 by omega)⟩, ⟨x337, c382, (show 1 ≤ x337.toInt by omega), (show x337.toInt ≤ 60 by omega)⟩, (by simp only [c379, cf0_, cf2_, c384, cf1_, c382]; omega), (by simp only [c379, cf0_, cf1_, c382]; omega)⟩))⟩ hw dX12_compare_174
      · have c78 : ¬ r49.toInt = (60 : Int) := wk_eqF c78
        refine lv_iload_n hx hb dX12_compare_25 rfl (lv_at hl 1 rfl) ?_
        refine lv_bipush (v := 61) hx hb dX12_compare_26 (by decide) ?_
        refine lv_icmp_eq (tgt := 44) hx hb dX12_compare_28 (by decide) (fun c385 => ?_) (fun c385 => ?_)
        · have c385 : r49.toInt = (61 : Int) := wk_eq.mp c385
          refine lv_aload_n hx hb dX12_compare_44 rfl (lv_at hl 2 rfl) ?_
          refine lv_dup hx hb dX12_compare_45 rfl ?_
          refine tk_geti hC hK hw hT hinX12 kM_at0 (by decide) rfl 14 (by decide) (List.mem_of_getElem? (i := 1) rfl) rfl rfl dX12_compare_46 (fun x386 c387 rx386 tx386 => ?_)
          refine wk_top x57 (c387.symm.trans c58) ?_
          refine lv_iconst (v := 1) hx hb dX12_compare_49 (by decide) ?_
          refine lv_iadd hx hb dX12_compare_50 ?_
          refine lv_topi (fun x388 ex388 => ?_)
          have ex388 : x388.toInt = x57.toInt + (1 : Int) := by rw [ex388]; exact wk_add (show (-2147483648) ≤ x57.toInt + (1 : Int) by omega) (show x57.toInt + (1 : Int) ≤ 2147483647 by omega)
          refine tk_puti hC hK hw hT hinX12 tyX12_ok nmX12 kM_at0 (by decide) rfl rfl 14 (by decide) (List.mem_of_getElem? (i := 1) rfl) rfl rfl rfl rfl (show 0 ≤ x388.toInt by omega) (show x388.toInt ≤ 400 by omega) dX12_compare_51 (fun H locs w389 hw hT k391 c390 => ?_)
          have hF := hF.put kM_at0 (k := 14) (by decide) k391
          have c392 := k391.gi (Or.inr (by decide)) c70
          have c393 := k391.gi (Or.inr (by decide)) c71
          have c394 := k391.gi (Or.inr (by decide)) c72
          have c395 := k391.gi (Or.inl (tk_ne kM_at3 kM_at0 (by decide))) c73
          refine lv_iload_n hx hb dX12_compare_54 rfl (lv_at hl 1 rfl) ?_
          refine lv_bipush (v := 61) hx hb dX12_compare_55 (by decide) ?_
          refine lv_icmp_eq (tgt := 89) hx hb dX12_compare_57 (by decide) (fun _ => ?_) (fun c => (c (wk_eq.mpr (show r49.toInt = (61 : Int) by omega))).elim)
          refine lv_iconst (v := 0) hx hb dX12_compare_89 (by decide) ?_
          refine lv_istore_n (lv' := [(3, .int 0), (2, .int x57), (1, .int r49), (0, .ref (ad 0))]) hx hb dX12_compare_90 rfl hl (by decide) rfl (fun ls hl => ?_)
          refine lv_iload_n hx hb dX12_compare_91 rfl (lv_at hl 0 rfl) ?_
          refine lv_if_eq (tgt := 105) hx hb dX12_compare_92 (by decide) (fun _ => ?_) (fun c => absurd (by decide) c)
          refine lv_aload_n hx hb dX12_compare_105 rfl (lv_at hl 3 rfl) ?_
          refine lv_iload_n hx hb dX12_compare_106 rfl (lv_at hl 1 rfl) ?_
          refine tk_Vi hC hK hw hT hA hE hSR kM_at0 (by decide) rfl (k_X12_makes_2 l adK adV dC dI cy ad B (by omega) (by omega) qr s1   x57 (show 0 ≤ x57.toInt by omega) (show x57.toInt ≤ 399 by omega) w389 H.size hT x21 c394 (show 0 ≤ x21.toInt by omega) (show x21.toInt ≤ 60 by omega)) (cwV 1 hC.2.2.2.2 gX12_compare_X12_makes rfl rfl rfl (by decide +kernel) ⟨Nat.le_of_ble_eq_true rfl, Nat.le_of_ble_eq_true rfl⟩) rfl hl.1 rfl (Nat.le_of_ble_eq_true rfl) dX12_compare_107 (fun r396 w398 H locs hp397 hw => ?_)
          obtain ⟨hT, k399, hg407⟩ := hp397
          have hF := hF.tr k399 (by decide)
          have c408 := k399.gi kM_at0 (by decide) c392
          have c409 := k399.gi kM_at0 (by decide) c393
          have c410 := k399.gi kM_at3 rfl c395
          have c411 := k399.gi kM_at0 (by decide) c390
          rcases hg407 with ⟨rfl, ⟨x400, c401, rx400, tx400⟩, ⟨x402, c403, rx402, tx402⟩⟩ | ⟨rfl, ⟨x404, c405, rx404, tx404⟩, g406⟩
          · refine lv_if_ne (tgt := 115) hx hb dX12_compare_110 (by decide) (fun c => absurd (by decide) c) (fun _ => ?_)
            refine lv_iconst (v := 0) hx hb dX12_compare_113 (by decide) ?_
            exact tk_zret hC hr rfl hlocks hK ⟨hT, hF, (Or.inl ⟨rfl, ⟨x17, c409, (show 1 ≤ x17.toInt by omega), (show x17.toInt ≤ 400 by omega)⟩, ⟨x400, c401, (show 1 ≤ x400.toInt by omega), (show x400.toInt ≤ 3205 by omega)⟩, ⟨f0_, c408, (show 0 ≤ f0_.toInt by omega), (show f0_.toInt ≤ 5 by omega)⟩⟩)⟩ hw dX12_compare_114
          · have g406 : x404.toInt = x21.toInt + 1 := by have q := g406; simp only [c392, c408, c394, c405] at q; omega
            refine lv_if_ne (tgt := 115) hx hb dX12_compare_110 (by decide) (fun _ => ?_) (fun c => absurd c (by decide))
            refine lv_iload_n hx hb dX12_compare_115 rfl (lv_at hl 2 rfl) ?_
            refine lv_bipush (v := 60) hx hb dX12_compare_116 (by decide) ?_
            refine lv_icmp_ne (tgt := 133) hx hb dX12_compare_118 (by decide) (fun _ => ?_) (fun c => absurd (show r49.toInt = (60 : Int) from wk_eq.mp c) (by omega))
            refine lv_iload_n hx hb dX12_compare_133 rfl (lv_at hl 2 rfl) ?_
            refine lv_bipush (v := 61) hx hb dX12_compare_134 (by decide) ?_
            refine lv_icmp_ne (tgt := 143) hx hb dX12_compare_136 (by decide) (fun c => (c (wk_eq.mpr (show r49.toInt = (61 : Int) by omega))).elim) (fun _ => ?_)
            refine lv_iconst (v := 2) hx hb dX12_compare_139 (by decide) ?_
            refine lv_goto (tgt := 152) hx hb dX12_compare_140 (by decide) ?_
            refine lv_istore (lv' := [(4, .int 2), (3, .int 0), (2, .int x57), (1, .int r49), (0, .ref (ad 0))]) hx hb dX12_compare_152 hl (by decide) rfl (fun ls hl => ?_)
            refine lv_aload_n hx hb dX12_compare_154 rfl (lv_at hl 4 rfl) ?_
            refine tk_Vi hC hK hw hT hA hE hSR kM_at0 (by decide) rfl (k_X12_sum_1 l adK adV dC dI cy ad B (by omega) (by omega) qr s1    w398 H.size hT f0_ c408 (show 0 ≤ f0_.toInt by omega) (show f0_.toInt ≤ 5 by omega) x404 c405 (show 0 ≤ x404.toInt by omega) (show x404.toInt ≤ 60 by omega) x43 c410 (show 0 ≤ x43.toInt by omega) (show x43.toInt ≤ 400 by omega) (show 3 * x43.toInt ≤ 14 * x404.toInt + 60 by omega) (show x43.toInt ≤ 300 by omega)) (cwV 0 hC.2.2.2.2 gX12_compare_X12_sum rfl rfl rfl (by decide +kernel) ⟨Nat.le_of_ble_eq_true rfl, Nat.le_of_ble_eq_true rfl⟩) rfl hl.1 rfl (Nat.le_of_ble_eq_true rfl) dX12_compare_155 (fun r412 w414 H locs hp413 hw => ?_)
            obtain ⟨hT, k415, hg444⟩ := hp413
            have hF := hF.tr k415 (by decide)
            have c445 := k415.gi kM_at0 (by decide) c408
            have c446 := k415.gi kM_at0 (by decide) c409
            rcases hg444 with ⟨rfl, ⟨x416, c417, rx416, tx416⟩, ⟨x418, c419, rx418, tx418⟩, ⟨x420, c421, rx420, tx420⟩⟩ | ⟨rfl, ⟨x422, c423, rx422, tx422⟩, ⟨x424, c425, rx424, tx424⟩, ⟨x426, c427, rx426, tx426⟩⟩ | ⟨rfl, ⟨x428, c429, rx428, tx428⟩, ⟨x430, c431, rx430, tx430⟩, ⟨x432, c433, rx432, tx432⟩, g434, g435⟩ | ⟨rfl, ⟨x436, c437, rx436, tx436⟩, ⟨x438, c439, rx438, tx438⟩, ⟨x440, c441, rx440, tx440⟩, g442, g443⟩
            · have ex416 : x416.toInt = x17.toInt := by rw [← c446.symm.trans c417]
              have ex420 : x420.toInt = f0_.toInt := by rw [← c445.symm.trans c421]
              obtain ⟨x447, c448, rx447, tx447⟩ := hT.rda (lo := 0) (hi := 400) (i := (f0_.toInt).toNat) kM_at3 rfl rfl (by omega)
              obtain ⟨x449, c450, rx449, tx449⟩ := hT.rdi (lo := 0) (hi := 60) (k := 18) kM_at0 (by decide) rfl
              refine lv_if_ne (tgt := 163) hx hb dX12_compare_158 (by decide) (fun c => absurd (by decide) c) (fun _ => ?_)
              refine lv_iconst (v := 0) hx hb dX12_compare_161 (by decide) ?_
              exact tk_zret hC hr rfl hlocks hK ⟨hT, hF, (Or.inl ⟨rfl, ⟨x17, c446, (show 1 ≤ x17.toInt by omega), (show x17.toInt ≤ 400 by omega)⟩, ⟨x418, c419, (show 1 ≤ x418.toInt by omega), (show x418.toInt ≤ 3205 by omega)⟩, ⟨f0_, c445, (show 0 ≤ f0_.toInt by omega), (show f0_.toInt ≤ 5 by omega)⟩⟩)⟩ hw dX12_compare_162
            · have ex422 : x422.toInt = x17.toInt := by rw [← c446.symm.trans c423]
              have ex426 : x426.toInt = f0_.toInt := by rw [← c445.symm.trans c427]
              obtain ⟨x451, c452, rx451, tx451⟩ := hT.rda (lo := 0) (hi := 400) (i := (f0_.toInt).toNat) kM_at3 rfl rfl (by omega)
              obtain ⟨x453, c454, rx453, tx453⟩ := hT.rdi (lo := 0) (hi := 60) (k := 18) kM_at0 (by decide) rfl
              refine lv_if_ne (tgt := 163) hx hb dX12_compare_158 (by decide) (fun c => absurd (by decide) c) (fun _ => ?_)
              refine lv_iconst (v := 0) hx hb dX12_compare_161 (by decide) ?_
              exact tk_zret hC hr rfl hlocks hK ⟨hT, hF, (Or.inl ⟨rfl, ⟨x17, c446, (show 1 ≤ x17.toInt by omega), (show x17.toInt ≤ 400 by omega)⟩, ⟨x424, c425, (show 1 ≤ x424.toInt by omega), (show x424.toInt ≤ 3205 by omega)⟩, ⟨f0_, c445, (show 0 ≤ f0_.toInt by omega), (show f0_.toInt ≤ 5 by omega)⟩⟩)⟩ hw dX12_compare_162
            · have ex428 : x428.toInt = x17.toInt := by rw [← c446.symm.trans c429]
              have ex430 : x430.toInt = f0_.toInt := by rw [← c445.symm.trans c431]
              obtain ⟨x455, c456, rx455, tx455⟩ := hT.rda (lo := 0) (hi := 400) (i := (f0_.toInt).toNat) kM_at3 rfl rfl (by omega)
              have g434 : 3 * x455.toInt + 11 ≤ 3 * x43.toInt + 14 * (x432.toInt - x404.toInt) := by have q := g434; simp only [c408, c445, c410, c456, c405, c433] at q; omega
              have g435 : x404.toInt + 1 ≤ x432.toInt := by have q := g435; simp only [c408, c445, c405, c433] at q; omega
              refine lv_if_ne (tgt := 163) hx hb dX12_compare_158 (by decide) (fun _ => ?_) (fun c => absurd c (by decide))
              refine lv_aload_n hx hb dX12_compare_163 rfl (lv_at hl 4 rfl) ?_
              refine lv_bipush (v := 6) hx hb dX12_compare_164 (by decide) ?_
              refine lv_iload hx hb dX12_compare_166 (lv_at hl 0 rfl) ?_
              refine lv_iadd hx hb dX12_compare_168 ?_
              refine wk_top 8 (by decide) ?_
              refine lv_iconst (v := 0) hx hb dX12_compare_169 (by decide) ?_
              refine tk_Vv hC hK hw hT hA hE hSR kM_at0 (by decide) rfl (k_X12_puts_1 l adK adV dC dI cy ad B (by omega) (by omega) qr s1   8 (by decide) (by decide) 0 w414 H.size hT f0_ c445 (show 0 ≤ f0_.toInt by omega) (show f0_.toInt ≤ 5 by omega) x455 c456 (show 0 ≤ x455.toInt by omega) (show x455.toInt ≤ 400 by omega) (show x455.toInt ≤ 399 by omega)) (cwV 2 hC.2.2.2.2 gX12_compare_X12_puts rfl rfl rfl (by decide +kernel) ⟨Nat.le_of_ble_eq_true rfl, Nat.le_of_ble_eq_true rfl⟩) rfl hl.1 rfl (Nat.le_of_ble_eq_true rfl) dX12_compare_170 (fun w461 H locs hp460 hw => ?_)
              obtain ⟨hT, k462, hg466⟩ := hp460
              have hF := hF.tr k462 (by decide)
              have c467 := k462.gi kM_at0 (by decide) c445
              have c468 := k462.gi kM_at0 (by decide) c446
              have c469 := k462.gi kM_at0 (by decide) c433
              obtain ⟨⟨x463, c464, rx463, tx463⟩, g465⟩ := hg466
              have ex463 : x463.toInt = f0_.toInt := by rw [← c467.symm.trans c464]
              obtain ⟨x470, c471, rx470, tx470⟩ := hT.rda (lo := 0) (hi := 400) (i := (f0_.toInt).toNat) kM_at3 rfl rfl (by omega)
              have g465 : x470.toInt = x455.toInt + 1 := by have q := g465; simp only [c445, c467, c456, c471] at q; omega
              refine lv_iconst (v := 1) hx hb dX12_compare_173 (by decide) ?_
              exact tk_zret hC hr rfl hlocks hK ⟨hT, hF, (Or.inr (Or.inr ⟨rfl, ⟨x17, c468, (show 1 ≤ x17.toInt by omega), (show x17.toInt ≤ 400 by omega)⟩, ⟨f0_, c467, (show 0 ≤ f0_.toInt by omega), (show f0_.toInt ≤ 5 by omega)⟩, ⟨x432, c469, (show 1 ≤ x432.toInt by omega), (show x432.toInt ≤ 60 by omega)⟩, (by simp only [c467, cf0_, cf2_, c471, cf1_, c469]; omega), (by simp only [c467, cf0_, cf1_, c469]; omega)⟩))⟩ hw dX12_compare_174
            · have ex436 : x436.toInt = x17.toInt := by rw [← c446.symm.trans c437]
              have ex438 : x438.toInt = f0_.toInt := by rw [← c445.symm.trans c439]
              obtain ⟨x457, c458, rx457, tx457⟩ := hT.rda (lo := 0) (hi := 400) (i := (f0_.toInt).toNat) kM_at3 rfl rfl (by omega)
              have g442 : 3 * x457.toInt + 11 ≤ 3 * x43.toInt + 14 * (x440.toInt - x404.toInt) := by have q := g442; simp only [c408, c445, c410, c458, c405, c441] at q; omega
              have g443 : x404.toInt + 1 ≤ x440.toInt := by have q := g443; simp only [c408, c445, c405, c441] at q; omega
              refine lv_if_ne (tgt := 163) hx hb dX12_compare_158 (by decide) (fun _ => ?_) (fun c => absurd c (by decide))
              refine lv_aload_n hx hb dX12_compare_163 rfl (lv_at hl 4 rfl) ?_
              refine lv_bipush (v := 6) hx hb dX12_compare_164 (by decide) ?_
              refine lv_iload hx hb dX12_compare_166 (lv_at hl 0 rfl) ?_
              refine lv_iadd hx hb dX12_compare_168 ?_
              refine wk_top 8 (by decide) ?_
              refine lv_iconst (v := 0) hx hb dX12_compare_169 (by decide) ?_
              refine tk_Vv hC hK hw hT hA hE hSR kM_at0 (by decide) rfl (k_X12_puts_1 l adK adV dC dI cy ad B (by omega) (by omega) qr s1   8 (by decide) (by decide) 0 w414 H.size hT f0_ c445 (show 0 ≤ f0_.toInt by omega) (show f0_.toInt ≤ 5 by omega) x457 c458 (show 0 ≤ x457.toInt by omega) (show x457.toInt ≤ 400 by omega) (show x457.toInt ≤ 399 by omega)) (cwV 2 hC.2.2.2.2 gX12_compare_X12_puts rfl rfl rfl (by decide +kernel) ⟨Nat.le_of_ble_eq_true rfl, Nat.le_of_ble_eq_true rfl⟩) rfl hl.1 rfl (Nat.le_of_ble_eq_true rfl) dX12_compare_170 (fun w474 H locs hp473 hw => ?_)
              obtain ⟨hT, k475, hg479⟩ := hp473
              have hF := hF.tr k475 (by decide)
              have c480 := k475.gi kM_at0 (by decide) c445
              have c481 := k475.gi kM_at0 (by decide) c446
              have c482 := k475.gi kM_at0 (by decide) c441
              obtain ⟨⟨x476, c477, rx476, tx476⟩, g478⟩ := hg479
              have ex476 : x476.toInt = f0_.toInt := by rw [← c480.symm.trans c477]
              obtain ⟨x483, c484, rx483, tx483⟩ := hT.rda (lo := 0) (hi := 400) (i := (f0_.toInt).toNat) kM_at3 rfl rfl (by omega)
              have g478 : x483.toInt = x457.toInt + 1 := by have q := g478; simp only [c445, c480, c458, c484] at q; omega
              refine lv_iconst (v := 1) hx hb dX12_compare_173 (by decide) ?_
              exact tk_zret hC hr rfl hlocks hK ⟨hT, hF, (Or.inr (Or.inr ⟨rfl, ⟨x17, c481, (show 1 ≤ x17.toInt by omega), (show x17.toInt ≤ 400 by omega)⟩, ⟨f0_, c480, (show 0 ≤ f0_.toInt by omega), (show f0_.toInt ≤ 5 by omega)⟩, ⟨x440, c482, (show 1 ≤ x440.toInt by omega), (show x440.toInt ≤ 60 by omega)⟩, (by simp only [c480, cf0_, cf2_, c484, cf1_, c482]; omega), (by simp only [c480, cf0_, cf1_, c482]; omega)⟩))⟩ hw dX12_compare_174
        · have c385 : ¬ r49.toInt = (61 : Int) := wk_eqF c385
          refine lv_iload_n hx hb dX12_compare_31 rfl (lv_at hl 1 rfl) ?_
          refine lv_bipush (v := 62) hx hb dX12_compare_32 (by decide) ?_
          refine lv_icmp_eq (tgt := 44) hx hb dX12_compare_34 (by decide) (fun c485 => ?_) (fun c485 => ?_)
          · have c485 : r49.toInt = (62 : Int) := wk_eq.mp c485
            refine lv_aload_n hx hb dX12_compare_44 rfl (lv_at hl 2 rfl) ?_
            refine lv_dup hx hb dX12_compare_45 rfl ?_
            refine tk_geti hC hK hw hT hinX12 kM_at0 (by decide) rfl 14 (by decide) (List.mem_of_getElem? (i := 1) rfl) rfl rfl dX12_compare_46 (fun x486 c487 rx486 tx486 => ?_)
            refine wk_top x57 (c487.symm.trans c58) ?_
            refine lv_iconst (v := 1) hx hb dX12_compare_49 (by decide) ?_
            refine lv_iadd hx hb dX12_compare_50 ?_
            refine lv_topi (fun x488 ex488 => ?_)
            have ex488 : x488.toInt = x57.toInt + (1 : Int) := by rw [ex488]; exact wk_add (show (-2147483648) ≤ x57.toInt + (1 : Int) by omega) (show x57.toInt + (1 : Int) ≤ 2147483647 by omega)
            refine tk_puti hC hK hw hT hinX12 tyX12_ok nmX12 kM_at0 (by decide) rfl rfl 14 (by decide) (List.mem_of_getElem? (i := 1) rfl) rfl rfl rfl rfl (show 0 ≤ x488.toInt by omega) (show x488.toInt ≤ 400 by omega) dX12_compare_51 (fun H locs w489 hw hT k491 c490 => ?_)
            have hF := hF.put kM_at0 (k := 14) (by decide) k491
            have c492 := k491.gi (Or.inr (by decide)) c70
            have c493 := k491.gi (Or.inr (by decide)) c71
            have c494 := k491.gi (Or.inr (by decide)) c72
            have c495 := k491.gi (Or.inl (tk_ne kM_at3 kM_at0 (by decide))) c73
            refine lv_iload_n hx hb dX12_compare_54 rfl (lv_at hl 1 rfl) ?_
            refine lv_bipush (v := 61) hx hb dX12_compare_55 (by decide) ?_
            refine lv_icmp_eq (tgt := 89) hx hb dX12_compare_57 (by decide) (fun c => absurd c (fun h => absurd (show r49.toInt = (61 : Int) from wk_eq.mp h) (by omega))) (fun _ => ?_)
            refine lv_aload_n hx hb dX12_compare_60 rfl (lv_at hl 2 rfl) ?_
            refine tk_geti hC hK hw hT hinX12 kM_at0 (by decide) rfl 14 (by decide) (List.mem_of_getElem? (i := 1) rfl) rfl rfl dX12_compare_61 (fun x496 c497 rx496 tx496 => ?_)
            refine wk_top x488 (c497.symm.trans c490) ?_
            refine lv_aload_n hx hb dX12_compare_64 rfl (lv_at hl 2 rfl) ?_
            refine tk_geti hC hK hw hT hinX12 kM_at0 (by decide) rfl 1 (by decide) (List.mem_of_getElem? (i := 2) rfl) rfl rfl dX12_compare_65 (fun x498 c499 rx498 tx498 => ?_)
            refine wk_top x17 (c499.symm.trans c493) ?_
            refine lv_icmp_ge (tgt := 89) hx hb dX12_compare_68 (by decide) (fun c500 => ?_) (fun c500 => ?_)
            · have c500 : x17.toInt ≤ x488.toInt := wk_le.mp c500
              refine lv_iconst (v := 0) hx hb dX12_compare_89 (by decide) ?_
              refine lv_istore_n (lv' := [(3, .int 0), (2, .int x57), (1, .int r49), (0, .ref (ad 0))]) hx hb dX12_compare_90 rfl hl (by decide) rfl (fun ls hl => ?_)
              refine lv_iload_n hx hb dX12_compare_91 rfl (lv_at hl 0 rfl) ?_
              refine lv_if_eq (tgt := 105) hx hb dX12_compare_92 (by decide) (fun _ => ?_) (fun c => absurd (by decide) c)
              refine lv_aload_n hx hb dX12_compare_105 rfl (lv_at hl 3 rfl) ?_
              refine lv_iload_n hx hb dX12_compare_106 rfl (lv_at hl 1 rfl) ?_
              refine tk_Vi hC hK hw hT hA hE hSR kM_at0 (by decide) rfl (k_X12_makes_2 l adK adV dC dI cy ad B (by omega) (by omega) qr s1   x57 (show 0 ≤ x57.toInt by omega) (show x57.toInt ≤ 399 by omega) w489 H.size hT x21 c494 (show 0 ≤ x21.toInt by omega) (show x21.toInt ≤ 60 by omega)) (cwV 1 hC.2.2.2.2 gX12_compare_X12_makes rfl rfl rfl (by decide +kernel) ⟨Nat.le_of_ble_eq_true rfl, Nat.le_of_ble_eq_true rfl⟩) rfl hl.1 rfl (Nat.le_of_ble_eq_true rfl) dX12_compare_107 (fun r501 w503 H locs hp502 hw => ?_)
              obtain ⟨hT, k504, hg512⟩ := hp502
              have hF := hF.tr k504 (by decide)
              have c513 := k504.gi kM_at0 (by decide) c492
              have c514 := k504.gi kM_at0 (by decide) c493
              have c515 := k504.gi kM_at3 rfl c495
              have c516 := k504.gi kM_at0 (by decide) c490
              rcases hg512 with ⟨rfl, ⟨x505, c506, rx505, tx505⟩, ⟨x507, c508, rx507, tx507⟩⟩ | ⟨rfl, ⟨x509, c510, rx509, tx509⟩, g511⟩
              · refine lv_if_ne (tgt := 115) hx hb dX12_compare_110 (by decide) (fun c => absurd (by decide) c) (fun _ => ?_)
                refine lv_iconst (v := 0) hx hb dX12_compare_113 (by decide) ?_
                exact tk_zret hC hr rfl hlocks hK ⟨hT, hF, (Or.inl ⟨rfl, ⟨x17, c514, (show 1 ≤ x17.toInt by omega), (show x17.toInt ≤ 400 by omega)⟩, ⟨x505, c506, (show 1 ≤ x505.toInt by omega), (show x505.toInt ≤ 3205 by omega)⟩, ⟨f0_, c513, (show 0 ≤ f0_.toInt by omega), (show f0_.toInt ≤ 5 by omega)⟩⟩)⟩ hw dX12_compare_114
              · have g511 : x509.toInt = x21.toInt + 1 := by have q := g511; simp only [c492, c513, c494, c510] at q; omega
                refine lv_if_ne (tgt := 115) hx hb dX12_compare_110 (by decide) (fun _ => ?_) (fun c => absurd c (by decide))
                refine lv_iload_n hx hb dX12_compare_115 rfl (lv_at hl 2 rfl) ?_
                refine lv_bipush (v := 60) hx hb dX12_compare_116 (by decide) ?_
                refine lv_icmp_ne (tgt := 133) hx hb dX12_compare_118 (by decide) (fun _ => ?_) (fun c => absurd (show r49.toInt = (60 : Int) from wk_eq.mp c) (by omega))
                refine lv_iload_n hx hb dX12_compare_133 rfl (lv_at hl 2 rfl) ?_
                refine lv_bipush (v := 61) hx hb dX12_compare_134 (by decide) ?_
                refine lv_icmp_ne (tgt := 143) hx hb dX12_compare_136 (by decide) (fun _ => ?_) (fun c => absurd (show r49.toInt = (61 : Int) from wk_eq.mp c) (by omega))
                refine lv_iload_n hx hb dX12_compare_143 rfl (lv_at hl 0 rfl) ?_
                refine lv_if_eq (tgt := 151) hx hb dX12_compare_144 (by decide) (fun _ => ?_) (fun c => absurd (by decide) c)
                refine lv_iconst (v := 4) hx hb dX12_compare_151 (by decide) ?_
                refine lv_istore (lv' := [(4, .int 4), (3, .int 0), (2, .int x57), (1, .int r49), (0, .ref (ad 0))]) hx hb dX12_compare_152 hl (by decide) rfl (fun ls hl => ?_)
                refine lv_aload_n hx hb dX12_compare_154 rfl (lv_at hl 4 rfl) ?_
                refine tk_Vi hC hK hw hT hA hE hSR kM_at0 (by decide) rfl (k_X12_sum_1 l adK adV dC dI cy ad B (by omega) (by omega) qr s1    w503 H.size hT f0_ c513 (show 0 ≤ f0_.toInt by omega) (show f0_.toInt ≤ 5 by omega) x509 c510 (show 0 ≤ x509.toInt by omega) (show x509.toInt ≤ 60 by omega) x43 c515 (show 0 ≤ x43.toInt by omega) (show x43.toInt ≤ 400 by omega) (show 3 * x43.toInt ≤ 14 * x509.toInt + 60 by omega) (show x43.toInt ≤ 300 by omega)) (cwV 0 hC.2.2.2.2 gX12_compare_X12_sum rfl rfl rfl (by decide +kernel) ⟨Nat.le_of_ble_eq_true rfl, Nat.le_of_ble_eq_true rfl⟩) rfl hl.1 rfl (Nat.le_of_ble_eq_true rfl) dX12_compare_155 (fun r517 w519 H locs hp518 hw => ?_)
                obtain ⟨hT, k520, hg549⟩ := hp518
                have hF := hF.tr k520 (by decide)
                have c550 := k520.gi kM_at0 (by decide) c513
                have c551 := k520.gi kM_at0 (by decide) c514
                rcases hg549 with ⟨rfl, ⟨x521, c522, rx521, tx521⟩, ⟨x523, c524, rx523, tx523⟩, ⟨x525, c526, rx525, tx525⟩⟩ | ⟨rfl, ⟨x527, c528, rx527, tx527⟩, ⟨x529, c530, rx529, tx529⟩, ⟨x531, c532, rx531, tx531⟩⟩ | ⟨rfl, ⟨x533, c534, rx533, tx533⟩, ⟨x535, c536, rx535, tx535⟩, ⟨x537, c538, rx537, tx537⟩, g539, g540⟩ | ⟨rfl, ⟨x541, c542, rx541, tx541⟩, ⟨x543, c544, rx543, tx543⟩, ⟨x545, c546, rx545, tx545⟩, g547, g548⟩
                · have ex521 : x521.toInt = x17.toInt := by rw [← c551.symm.trans c522]
                  have ex525 : x525.toInt = f0_.toInt := by rw [← c550.symm.trans c526]
                  obtain ⟨x552, c553, rx552, tx552⟩ := hT.rda (lo := 0) (hi := 400) (i := (f0_.toInt).toNat) kM_at3 rfl rfl (by omega)
                  obtain ⟨x554, c555, rx554, tx554⟩ := hT.rdi (lo := 0) (hi := 60) (k := 18) kM_at0 (by decide) rfl
                  refine lv_if_ne (tgt := 163) hx hb dX12_compare_158 (by decide) (fun c => absurd (by decide) c) (fun _ => ?_)
                  refine lv_iconst (v := 0) hx hb dX12_compare_161 (by decide) ?_
                  exact tk_zret hC hr rfl hlocks hK ⟨hT, hF, (Or.inl ⟨rfl, ⟨x17, c551, (show 1 ≤ x17.toInt by omega), (show x17.toInt ≤ 400 by omega)⟩, ⟨x523, c524, (show 1 ≤ x523.toInt by omega), (show x523.toInt ≤ 3205 by omega)⟩, ⟨f0_, c550, (show 0 ≤ f0_.toInt by omega), (show f0_.toInt ≤ 5 by omega)⟩⟩)⟩ hw dX12_compare_162
                · have ex527 : x527.toInt = x17.toInt := by rw [← c551.symm.trans c528]
                  have ex531 : x531.toInt = f0_.toInt := by rw [← c550.symm.trans c532]
                  obtain ⟨x556, c557, rx556, tx556⟩ := hT.rda (lo := 0) (hi := 400) (i := (f0_.toInt).toNat) kM_at3 rfl rfl (by omega)
                  obtain ⟨x558, c559, rx558, tx558⟩ := hT.rdi (lo := 0) (hi := 60) (k := 18) kM_at0 (by decide) rfl
                  refine lv_if_ne (tgt := 163) hx hb dX12_compare_158 (by decide) (fun c => absurd (by decide) c) (fun _ => ?_)
                  refine lv_iconst (v := 0) hx hb dX12_compare_161 (by decide) ?_
                  exact tk_zret hC hr rfl hlocks hK ⟨hT, hF, (Or.inl ⟨rfl, ⟨x17, c551, (show 1 ≤ x17.toInt by omega), (show x17.toInt ≤ 400 by omega)⟩, ⟨x529, c530, (show 1 ≤ x529.toInt by omega), (show x529.toInt ≤ 3205 by omega)⟩, ⟨f0_, c550, (show 0 ≤ f0_.toInt by omega), (show f0_.toInt ≤ 5 by omega)⟩⟩)⟩ hw dX12_compare_162
                · have ex533 : x533.toInt = x17.toInt := by rw [← c551.symm.trans c534]
                  have ex535 : x535.toInt = f0_.toInt := by rw [← c550.symm.trans c536]
                  obtain ⟨x560, c561, rx560, tx560⟩ := hT.rda (lo := 0) (hi := 400) (i := (f0_.toInt).toNat) kM_at3 rfl rfl (by omega)
                  have g539 : 3 * x560.toInt + 11 ≤ 3 * x43.toInt + 14 * (x537.toInt - x509.toInt) := by have q := g539; simp only [c513, c550, c515, c561, c510, c538] at q; omega
                  have g540 : x509.toInt + 1 ≤ x537.toInt := by have q := g540; simp only [c513, c550, c510, c538] at q; omega
                  refine lv_if_ne (tgt := 163) hx hb dX12_compare_158 (by decide) (fun _ => ?_) (fun c => absurd c (by decide))
                  refine lv_aload_n hx hb dX12_compare_163 rfl (lv_at hl 4 rfl) ?_
                  refine lv_bipush (v := 6) hx hb dX12_compare_164 (by decide) ?_
                  refine lv_iload hx hb dX12_compare_166 (lv_at hl 0 rfl) ?_
                  refine lv_iadd hx hb dX12_compare_168 ?_
                  refine wk_top 10 (by decide) ?_
                  refine lv_iconst (v := 0) hx hb dX12_compare_169 (by decide) ?_
                  refine tk_Vv hC hK hw hT hA hE hSR kM_at0 (by decide) rfl (k_X12_puts_1 l adK adV dC dI cy ad B (by omega) (by omega) qr s1   10 (by decide) (by decide) 0 w519 H.size hT f0_ c550 (show 0 ≤ f0_.toInt by omega) (show f0_.toInt ≤ 5 by omega) x560 c561 (show 0 ≤ x560.toInt by omega) (show x560.toInt ≤ 400 by omega) (show x560.toInt ≤ 399 by omega)) (cwV 2 hC.2.2.2.2 gX12_compare_X12_puts rfl rfl rfl (by decide +kernel) ⟨Nat.le_of_ble_eq_true rfl, Nat.le_of_ble_eq_true rfl⟩) rfl hl.1 rfl (Nat.le_of_ble_eq_true rfl) dX12_compare_170 (fun w566 H locs hp565 hw => ?_)
                  obtain ⟨hT, k567, hg571⟩ := hp565
                  have hF := hF.tr k567 (by decide)
                  have c572 := k567.gi kM_at0 (by decide) c550
                  have c573 := k567.gi kM_at0 (by decide) c551
                  have c574 := k567.gi kM_at0 (by decide) c538
                  obtain ⟨⟨x568, c569, rx568, tx568⟩, g570⟩ := hg571
                  have ex568 : x568.toInt = f0_.toInt := by rw [← c572.symm.trans c569]
                  obtain ⟨x575, c576, rx575, tx575⟩ := hT.rda (lo := 0) (hi := 400) (i := (f0_.toInt).toNat) kM_at3 rfl rfl (by omega)
                  have g570 : x575.toInt = x560.toInt + 1 := by have q := g570; simp only [c550, c572, c561, c576] at q; omega
                  refine lv_iconst (v := 1) hx hb dX12_compare_173 (by decide) ?_
                  exact tk_zret hC hr rfl hlocks hK ⟨hT, hF, (Or.inr (Or.inr ⟨rfl, ⟨x17, c573, (show 1 ≤ x17.toInt by omega), (show x17.toInt ≤ 400 by omega)⟩, ⟨f0_, c572, (show 0 ≤ f0_.toInt by omega), (show f0_.toInt ≤ 5 by omega)⟩, ⟨x537, c574, (show 1 ≤ x537.toInt by omega), (show x537.toInt ≤ 60 by omega)⟩, (by simp only [c572, cf0_, cf2_, c576, cf1_, c574]; omega), (by simp only [c572, cf0_, cf1_, c574]; omega)⟩))⟩ hw dX12_compare_174
                · have ex541 : x541.toInt = x17.toInt := by rw [← c551.symm.trans c542]
                  have ex543 : x543.toInt = f0_.toInt := by rw [← c550.symm.trans c544]
                  obtain ⟨x562, c563, rx562, tx562⟩ := hT.rda (lo := 0) (hi := 400) (i := (f0_.toInt).toNat) kM_at3 rfl rfl (by omega)
                  have g547 : 3 * x562.toInt + 11 ≤ 3 * x43.toInt + 14 * (x545.toInt - x509.toInt) := by have q := g547; simp only [c513, c550, c515, c563, c510, c546] at q; omega
                  have g548 : x509.toInt + 1 ≤ x545.toInt := by have q := g548; simp only [c513, c550, c510, c546] at q; omega
                  refine lv_if_ne (tgt := 163) hx hb dX12_compare_158 (by decide) (fun _ => ?_) (fun c => absurd c (by decide))
                  refine lv_aload_n hx hb dX12_compare_163 rfl (lv_at hl 4 rfl) ?_
                  refine lv_bipush (v := 6) hx hb dX12_compare_164 (by decide) ?_
                  refine lv_iload hx hb dX12_compare_166 (lv_at hl 0 rfl) ?_
                  refine lv_iadd hx hb dX12_compare_168 ?_
                  refine wk_top 10 (by decide) ?_
                  refine lv_iconst (v := 0) hx hb dX12_compare_169 (by decide) ?_
                  refine tk_Vv hC hK hw hT hA hE hSR kM_at0 (by decide) rfl (k_X12_puts_1 l adK adV dC dI cy ad B (by omega) (by omega) qr s1   10 (by decide) (by decide) 0 w519 H.size hT f0_ c550 (show 0 ≤ f0_.toInt by omega) (show f0_.toInt ≤ 5 by omega) x562 c563 (show 0 ≤ x562.toInt by omega) (show x562.toInt ≤ 400 by omega) (show x562.toInt ≤ 399 by omega)) (cwV 2 hC.2.2.2.2 gX12_compare_X12_puts rfl rfl rfl (by decide +kernel) ⟨Nat.le_of_ble_eq_true rfl, Nat.le_of_ble_eq_true rfl⟩) rfl hl.1 rfl (Nat.le_of_ble_eq_true rfl) dX12_compare_170 (fun w579 H locs hp578 hw => ?_)
                  obtain ⟨hT, k580, hg584⟩ := hp578
                  have hF := hF.tr k580 (by decide)
                  have c585 := k580.gi kM_at0 (by decide) c550
                  have c586 := k580.gi kM_at0 (by decide) c551
                  have c587 := k580.gi kM_at0 (by decide) c546
                  obtain ⟨⟨x581, c582, rx581, tx581⟩, g583⟩ := hg584
                  have ex581 : x581.toInt = f0_.toInt := by rw [← c585.symm.trans c582]
                  obtain ⟨x588, c589, rx588, tx588⟩ := hT.rda (lo := 0) (hi := 400) (i := (f0_.toInt).toNat) kM_at3 rfl rfl (by omega)
                  have g583 : x588.toInt = x562.toInt + 1 := by have q := g583; simp only [c550, c585, c563, c589] at q; omega
                  refine lv_iconst (v := 1) hx hb dX12_compare_173 (by decide) ?_
                  exact tk_zret hC hr rfl hlocks hK ⟨hT, hF, (Or.inr (Or.inr ⟨rfl, ⟨x17, c586, (show 1 ≤ x17.toInt by omega), (show x17.toInt ≤ 400 by omega)⟩, ⟨f0_, c585, (show 0 ≤ f0_.toInt by omega), (show f0_.toInt ≤ 5 by omega)⟩, ⟨x545, c587, (show 1 ≤ x545.toInt by omega), (show x545.toInt ≤ 60 by omega)⟩, (by simp only [c585, cf0_, cf2_, c589, cf1_, c587]; omega), (by simp only [c585, cf0_, cf1_, c587]; omega)⟩))⟩ hw dX12_compare_174
            · have c500 : x488.toInt < x17.toInt := wk_leF c500
              refine lv_aload_n hx hb dX12_compare_71 rfl (lv_at hl 2 rfl) ?_
              refine tk_getA hC hK hw hT hinX12 kM_at0 (by decide) rfl 0 (by decide) (List.mem_of_getElem? (i := 3) rfl) rfl rfl dX12_compare_72 ?_
              refine lv_aload_n hx hb dX12_compare_75 rfl (lv_at hl 2 rfl) ?_
              refine tk_geti hC hK hw hT hinX12 kM_at0 (by decide) rfl 14 (by decide) (List.mem_of_getElem? (i := 1) rfl) rfl rfl dX12_compare_76 (fun x590 c591 rx590 tx590 => ?_)
              refine wk_top x488 (c591.symm.trans c490) ?_
              refine tk_bald hC hK hw hT kM_at1 rfl rfl (show 0 ≤ x488.toInt by omega) (show x488.toInt < 400 by omega) dX12_compare_79 (fun x592 c593 rx592 tx592 => ?_)
              have c593 : gi w489 1 (1 * x57.toInt + 1).toNat = x592 := (congrArg (gi w489 1) (congrArg Int.toNat (show 1 * x57.toInt + 1 = x488.toInt by omega))).trans c593
              refine lv_bipush (v := 61) hx hb dX12_compare_80 (by decide) ?_
              refine lv_icmp_ne (tgt := 89) hx hb dX12_compare_82 (by decide) (fun c594 => ?_) (fun c594 => ?_)
              · have c594 : ¬ x592.toInt = (61 : Int) := wk_eqF c594
                refine lv_iconst (v := 0) hx hb dX12_compare_89 (by decide) ?_
                refine lv_istore_n (lv' := [(3, .int 0), (2, .int x57), (1, .int r49), (0, .ref (ad 0))]) hx hb dX12_compare_90 rfl hl (by decide) rfl (fun ls hl => ?_)
                refine lv_iload_n hx hb dX12_compare_91 rfl (lv_at hl 0 rfl) ?_
                refine lv_if_eq (tgt := 105) hx hb dX12_compare_92 (by decide) (fun _ => ?_) (fun c => absurd (by decide) c)
                refine lv_aload_n hx hb dX12_compare_105 rfl (lv_at hl 3 rfl) ?_
                refine lv_iload_n hx hb dX12_compare_106 rfl (lv_at hl 1 rfl) ?_
                refine tk_Vi hC hK hw hT hA hE hSR kM_at0 (by decide) rfl (k_X12_makes_1 l adK adV dC dI cy ad B (by omega) (by omega) qr s1   x57 (show 0 ≤ x57.toInt by omega) (show x57.toInt ≤ 398 by omega) w489 H.size hT x21 c494 (show 0 ≤ x21.toInt by omega) (show x21.toInt ≤ 60 by omega)) (cwV 1 hC.2.2.2.2 gX12_compare_X12_makes rfl rfl rfl (by decide +kernel) ⟨Nat.le_of_ble_eq_true rfl, Nat.le_of_ble_eq_true rfl⟩) rfl hl.1 rfl (Nat.le_of_ble_eq_true rfl) dX12_compare_107 (fun r595 w597 H locs hp596 hw => ?_)
                obtain ⟨hT, k598, hg606⟩ := hp596
                have hF := hF.tr k598 (by decide)
                have c607 := k598.gi kM_at0 (by decide) c492
                have c608 := k598.gi kM_at0 (by decide) c493
                have c609 := k598.gi kM_at3 rfl c495
                have c610 := k598.gi kM_at0 (by decide) c490
                have c611 := k598.gi kM_at1 rfl c593
                rcases hg606 with ⟨rfl, ⟨x599, c600, rx599, tx599⟩, ⟨x601, c602, rx601, tx601⟩⟩ | ⟨rfl, ⟨x603, c604, rx603, tx603⟩, g605⟩
                · refine lv_if_ne (tgt := 115) hx hb dX12_compare_110 (by decide) (fun c => absurd (by decide) c) (fun _ => ?_)
                  refine lv_iconst (v := 0) hx hb dX12_compare_113 (by decide) ?_
                  exact tk_zret hC hr rfl hlocks hK ⟨hT, hF, (Or.inl ⟨rfl, ⟨x17, c608, (show 1 ≤ x17.toInt by omega), (show x17.toInt ≤ 400 by omega)⟩, ⟨x599, c600, (show 1 ≤ x599.toInt by omega), (show x599.toInt ≤ 3205 by omega)⟩, ⟨f0_, c607, (show 0 ≤ f0_.toInt by omega), (show f0_.toInt ≤ 5 by omega)⟩⟩)⟩ hw dX12_compare_114
                · have g605 : x603.toInt = x21.toInt + 1 := by have q := g605; simp only [c492, c607, c494, c604] at q; omega
                  refine lv_if_ne (tgt := 115) hx hb dX12_compare_110 (by decide) (fun _ => ?_) (fun c => absurd c (by decide))
                  refine lv_iload_n hx hb dX12_compare_115 rfl (lv_at hl 2 rfl) ?_
                  refine lv_bipush (v := 60) hx hb dX12_compare_116 (by decide) ?_
                  refine lv_icmp_ne (tgt := 133) hx hb dX12_compare_118 (by decide) (fun _ => ?_) (fun c => absurd (show r49.toInt = (60 : Int) from wk_eq.mp c) (by omega))
                  refine lv_iload_n hx hb dX12_compare_133 rfl (lv_at hl 2 rfl) ?_
                  refine lv_bipush (v := 61) hx hb dX12_compare_134 (by decide) ?_
                  refine lv_icmp_ne (tgt := 143) hx hb dX12_compare_136 (by decide) (fun _ => ?_) (fun c => absurd (show r49.toInt = (61 : Int) from wk_eq.mp c) (by omega))
                  refine lv_iload_n hx hb dX12_compare_143 rfl (lv_at hl 0 rfl) ?_
                  refine lv_if_eq (tgt := 151) hx hb dX12_compare_144 (by decide) (fun _ => ?_) (fun c => absurd (by decide) c)
                  refine lv_iconst (v := 4) hx hb dX12_compare_151 (by decide) ?_
                  refine lv_istore (lv' := [(4, .int 4), (3, .int 0), (2, .int x57), (1, .int r49), (0, .ref (ad 0))]) hx hb dX12_compare_152 hl (by decide) rfl (fun ls hl => ?_)
                  refine lv_aload_n hx hb dX12_compare_154 rfl (lv_at hl 4 rfl) ?_
                  refine tk_Vi hC hK hw hT hA hE hSR kM_at0 (by decide) rfl (k_X12_sum_1 l adK adV dC dI cy ad B (by omega) (by omega) qr s1    w597 H.size hT f0_ c607 (show 0 ≤ f0_.toInt by omega) (show f0_.toInt ≤ 5 by omega) x603 c604 (show 0 ≤ x603.toInt by omega) (show x603.toInt ≤ 60 by omega) x43 c609 (show 0 ≤ x43.toInt by omega) (show x43.toInt ≤ 400 by omega) (show 3 * x43.toInt ≤ 14 * x603.toInt + 60 by omega) (show x43.toInt ≤ 300 by omega)) (cwV 0 hC.2.2.2.2 gX12_compare_X12_sum rfl rfl rfl (by decide +kernel) ⟨Nat.le_of_ble_eq_true rfl, Nat.le_of_ble_eq_true rfl⟩) rfl hl.1 rfl (Nat.le_of_ble_eq_true rfl) dX12_compare_155 (fun r612 w614 H locs hp613 hw => ?_)
                  obtain ⟨hT, k615, hg644⟩ := hp613
                  have hF := hF.tr k615 (by decide)
                  have c645 := k615.gi kM_at0 (by decide) c607
                  have c646 := k615.gi kM_at0 (by decide) c608
                  have c647 := k615.gi kM_at1 rfl c611
                  rcases hg644 with ⟨rfl, ⟨x616, c617, rx616, tx616⟩, ⟨x618, c619, rx618, tx618⟩, ⟨x620, c621, rx620, tx620⟩⟩ | ⟨rfl, ⟨x622, c623, rx622, tx622⟩, ⟨x624, c625, rx624, tx624⟩, ⟨x626, c627, rx626, tx626⟩⟩ | ⟨rfl, ⟨x628, c629, rx628, tx628⟩, ⟨x630, c631, rx630, tx630⟩, ⟨x632, c633, rx632, tx632⟩, g634, g635⟩ | ⟨rfl, ⟨x636, c637, rx636, tx636⟩, ⟨x638, c639, rx638, tx638⟩, ⟨x640, c641, rx640, tx640⟩, g642, g643⟩
                  · have ex616 : x616.toInt = x17.toInt := by rw [← c646.symm.trans c617]
                    have ex620 : x620.toInt = f0_.toInt := by rw [← c645.symm.trans c621]
                    obtain ⟨x648, c649, rx648, tx648⟩ := hT.rda (lo := 0) (hi := 400) (i := (f0_.toInt).toNat) kM_at3 rfl rfl (by omega)
                    obtain ⟨x650, c651, rx650, tx650⟩ := hT.rdi (lo := 0) (hi := 60) (k := 18) kM_at0 (by decide) rfl
                    refine lv_if_ne (tgt := 163) hx hb dX12_compare_158 (by decide) (fun c => absurd (by decide) c) (fun _ => ?_)
                    refine lv_iconst (v := 0) hx hb dX12_compare_161 (by decide) ?_
                    exact tk_zret hC hr rfl hlocks hK ⟨hT, hF, (Or.inl ⟨rfl, ⟨x17, c646, (show 1 ≤ x17.toInt by omega), (show x17.toInt ≤ 400 by omega)⟩, ⟨x618, c619, (show 1 ≤ x618.toInt by omega), (show x618.toInt ≤ 3205 by omega)⟩, ⟨f0_, c645, (show 0 ≤ f0_.toInt by omega), (show f0_.toInt ≤ 5 by omega)⟩⟩)⟩ hw dX12_compare_162
                  · have ex622 : x622.toInt = x17.toInt := by rw [← c646.symm.trans c623]
                    have ex626 : x626.toInt = f0_.toInt := by rw [← c645.symm.trans c627]
                    obtain ⟨x652, c653, rx652, tx652⟩ := hT.rda (lo := 0) (hi := 400) (i := (f0_.toInt).toNat) kM_at3 rfl rfl (by omega)
                    obtain ⟨x654, c655, rx654, tx654⟩ := hT.rdi (lo := 0) (hi := 60) (k := 18) kM_at0 (by decide) rfl
                    refine lv_if_ne (tgt := 163) hx hb dX12_compare_158 (by decide) (fun c => absurd (by decide) c) (fun _ => ?_)
                    refine lv_iconst (v := 0) hx hb dX12_compare_161 (by decide) ?_
                    exact tk_zret hC hr rfl hlocks hK ⟨hT, hF, (Or.inl ⟨rfl, ⟨x17, c646, (show 1 ≤ x17.toInt by omega), (show x17.toInt ≤ 400 by omega)⟩, ⟨x624, c625, (show 1 ≤ x624.toInt by omega), (show x624.toInt ≤ 3205 by omega)⟩, ⟨f0_, c645, (show 0 ≤ f0_.toInt by omega), (show f0_.toInt ≤ 5 by omega)⟩⟩)⟩ hw dX12_compare_162
                  · have ex628 : x628.toInt = x17.toInt := by rw [← c646.symm.trans c629]
                    have ex630 : x630.toInt = f0_.toInt := by rw [← c645.symm.trans c631]
                    obtain ⟨x656, c657, rx656, tx656⟩ := hT.rda (lo := 0) (hi := 400) (i := (f0_.toInt).toNat) kM_at3 rfl rfl (by omega)
                    have g634 : 3 * x656.toInt + 11 ≤ 3 * x43.toInt + 14 * (x632.toInt - x603.toInt) := by have q := g634; simp only [c607, c645, c609, c657, c604, c633] at q; omega
                    have g635 : x603.toInt + 1 ≤ x632.toInt := by have q := g635; simp only [c607, c645, c604, c633] at q; omega
                    refine lv_if_ne (tgt := 163) hx hb dX12_compare_158 (by decide) (fun _ => ?_) (fun c => absurd c (by decide))
                    refine lv_aload_n hx hb dX12_compare_163 rfl (lv_at hl 4 rfl) ?_
                    refine lv_bipush (v := 6) hx hb dX12_compare_164 (by decide) ?_
                    refine lv_iload hx hb dX12_compare_166 (lv_at hl 0 rfl) ?_
                    refine lv_iadd hx hb dX12_compare_168 ?_
                    refine wk_top 10 (by decide) ?_
                    refine lv_iconst (v := 0) hx hb dX12_compare_169 (by decide) ?_
                    refine tk_Vv hC hK hw hT hA hE hSR kM_at0 (by decide) rfl (k_X12_puts_1 l adK adV dC dI cy ad B (by omega) (by omega) qr s1   10 (by decide) (by decide) 0 w614 H.size hT f0_ c645 (show 0 ≤ f0_.toInt by omega) (show f0_.toInt ≤ 5 by omega) x656 c657 (show 0 ≤ x656.toInt by omega) (show x656.toInt ≤ 400 by omega) (show x656.toInt ≤ 399 by omega)) (cwV 2 hC.2.2.2.2 gX12_compare_X12_puts rfl rfl rfl (by decide +kernel) ⟨Nat.le_of_ble_eq_true rfl, Nat.le_of_ble_eq_true rfl⟩) rfl hl.1 rfl (Nat.le_of_ble_eq_true rfl) dX12_compare_170 (fun w662 H locs hp661 hw => ?_)
                    obtain ⟨hT, k663, hg667⟩ := hp661
                    have hF := hF.tr k663 (by decide)
                    have c668 := k663.gi kM_at0 (by decide) c645
                    have c669 := k663.gi kM_at0 (by decide) c646
                    have c670 := k663.gi kM_at1 rfl c647
                    have c671 := k663.gi kM_at0 (by decide) c633
                    obtain ⟨⟨x664, c665, rx664, tx664⟩, g666⟩ := hg667
                    have ex664 : x664.toInt = f0_.toInt := by rw [← c668.symm.trans c665]
                    obtain ⟨x672, c673, rx672, tx672⟩ := hT.rda (lo := 0) (hi := 400) (i := (f0_.toInt).toNat) kM_at3 rfl rfl (by omega)
                    have g666 : x672.toInt = x656.toInt + 1 := by have q := g666; simp only [c645, c668, c657, c673] at q; omega
                    refine lv_iconst (v := 1) hx hb dX12_compare_173 (by decide) ?_
                    exact tk_zret hC hr rfl hlocks hK ⟨hT, hF, (Or.inr (Or.inr ⟨rfl, ⟨x17, c669, (show 1 ≤ x17.toInt by omega), (show x17.toInt ≤ 400 by omega)⟩, ⟨f0_, c668, (show 0 ≤ f0_.toInt by omega), (show f0_.toInt ≤ 5 by omega)⟩, ⟨x632, c671, (show 1 ≤ x632.toInt by omega), (show x632.toInt ≤ 60 by omega)⟩, (by simp only [c668, cf0_, cf2_, c673, cf1_, c671]; omega), (by simp only [c668, cf0_, cf1_, c671]; omega)⟩))⟩ hw dX12_compare_174
                  · have ex636 : x636.toInt = x17.toInt := by rw [← c646.symm.trans c637]
                    have ex638 : x638.toInt = f0_.toInt := by rw [← c645.symm.trans c639]
                    obtain ⟨x658, c659, rx658, tx658⟩ := hT.rda (lo := 0) (hi := 400) (i := (f0_.toInt).toNat) kM_at3 rfl rfl (by omega)
                    have g642 : 3 * x658.toInt + 11 ≤ 3 * x43.toInt + 14 * (x640.toInt - x603.toInt) := by have q := g642; simp only [c607, c645, c609, c659, c604, c641] at q; omega
                    have g643 : x603.toInt + 1 ≤ x640.toInt := by have q := g643; simp only [c607, c645, c604, c641] at q; omega
                    refine lv_if_ne (tgt := 163) hx hb dX12_compare_158 (by decide) (fun _ => ?_) (fun c => absurd c (by decide))
                    refine lv_aload_n hx hb dX12_compare_163 rfl (lv_at hl 4 rfl) ?_
                    refine lv_bipush (v := 6) hx hb dX12_compare_164 (by decide) ?_
                    refine lv_iload hx hb dX12_compare_166 (lv_at hl 0 rfl) ?_
                    refine lv_iadd hx hb dX12_compare_168 ?_
                    refine wk_top 10 (by decide) ?_
                    refine lv_iconst (v := 0) hx hb dX12_compare_169 (by decide) ?_
                    refine tk_Vv hC hK hw hT hA hE hSR kM_at0 (by decide) rfl (k_X12_puts_1 l adK adV dC dI cy ad B (by omega) (by omega) qr s1   10 (by decide) (by decide) 0 w614 H.size hT f0_ c645 (show 0 ≤ f0_.toInt by omega) (show f0_.toInt ≤ 5 by omega) x658 c659 (show 0 ≤ x658.toInt by omega) (show x658.toInt ≤ 400 by omega) (show x658.toInt ≤ 399 by omega)) (cwV 2 hC.2.2.2.2 gX12_compare_X12_puts rfl rfl rfl (by decide +kernel) ⟨Nat.le_of_ble_eq_true rfl, Nat.le_of_ble_eq_true rfl⟩) rfl hl.1 rfl (Nat.le_of_ble_eq_true rfl) dX12_compare_170 (fun w676 H locs hp675 hw => ?_)
                    obtain ⟨hT, k677, hg681⟩ := hp675
                    have hF := hF.tr k677 (by decide)
                    have c682 := k677.gi kM_at0 (by decide) c645
                    have c683 := k677.gi kM_at0 (by decide) c646
                    have c684 := k677.gi kM_at1 rfl c647
                    have c685 := k677.gi kM_at0 (by decide) c641
                    obtain ⟨⟨x678, c679, rx678, tx678⟩, g680⟩ := hg681
                    have ex678 : x678.toInt = f0_.toInt := by rw [← c682.symm.trans c679]
                    obtain ⟨x686, c687, rx686, tx686⟩ := hT.rda (lo := 0) (hi := 400) (i := (f0_.toInt).toNat) kM_at3 rfl rfl (by omega)
                    have g680 : x686.toInt = x658.toInt + 1 := by have q := g680; simp only [c645, c682, c659, c687] at q; omega
                    refine lv_iconst (v := 1) hx hb dX12_compare_173 (by decide) ?_
                    exact tk_zret hC hr rfl hlocks hK ⟨hT, hF, (Or.inr (Or.inr ⟨rfl, ⟨x17, c683, (show 1 ≤ x17.toInt by omega), (show x17.toInt ≤ 400 by omega)⟩, ⟨f0_, c682, (show 0 ≤ f0_.toInt by omega), (show f0_.toInt ≤ 5 by omega)⟩, ⟨x640, c685, (show 1 ≤ x640.toInt by omega), (show x640.toInt ≤ 60 by omega)⟩, (by simp only [c682, cf0_, cf2_, c687, cf1_, c685]; omega), (by simp only [c682, cf0_, cf1_, c685]; omega)⟩))⟩ hw dX12_compare_174
              · have c594 : x592.toInt = (61 : Int) := wk_eq.mp c594
                refine lv_iconst (v := 1) hx hb dX12_compare_85 (by decide) ?_
                refine lv_goto (tgt := 90) hx hb dX12_compare_86 (by decide) ?_
                refine lv_istore_n (lv' := [(3, .int 1), (2, .int x57), (1, .int r49), (0, .ref (ad 0))]) hx hb dX12_compare_90 rfl hl (by decide) rfl (fun ls hl => ?_)
                refine lv_iload_n hx hb dX12_compare_91 rfl (lv_at hl 0 rfl) ?_
                refine lv_if_eq (tgt := 105) hx hb dX12_compare_92 (by decide) (fun c => absurd c (by decide)) (fun _ => ?_)
                refine lv_aload_n hx hb dX12_compare_95 rfl (lv_at hl 3 rfl) ?_
                refine lv_dup hx hb dX12_compare_96 rfl ?_
                refine tk_geti hC hK hw hT hinX12 kM_at0 (by decide) rfl 14 (by decide) (List.mem_of_getElem? (i := 1) rfl) rfl rfl dX12_compare_97 (fun x688 c689 rx688 tx688 => ?_)
                refine wk_top x488 (c689.symm.trans c490) ?_
                refine lv_iconst (v := 1) hx hb dX12_compare_100 (by decide) ?_
                refine lv_iadd hx hb dX12_compare_101 ?_
                refine lv_topi (fun x690 ex690 => ?_)
                have ex690 : x690.toInt = x488.toInt + (1 : Int) := by rw [ex690]; exact wk_add (show (-2147483648) ≤ x488.toInt + (1 : Int) by omega) (show x488.toInt + (1 : Int) ≤ 2147483647 by omega)
                refine tk_puti hC hK hw hT hinX12 tyX12_ok nmX12 kM_at0 (by decide) rfl rfl 14 (by decide) (List.mem_of_getElem? (i := 1) rfl) rfl rfl rfl rfl (show 0 ≤ x690.toInt by omega) (show x690.toInt ≤ 400 by omega) dX12_compare_102 (fun H locs w691 hw hT k693 c692 => ?_)
                have hF := hF.put kM_at0 (k := 14) (by decide) k693
                have c694 := k693.gi (Or.inr (by decide)) c492
                have c695 := k693.gi (Or.inr (by decide)) c493
                have c696 := k693.gi (Or.inr (by decide)) c494
                have c697 := k693.gi (Or.inl (tk_ne kM_at3 kM_at0 (by decide))) c495
                have c698 := k693.gi (Or.inl (tk_ne kM_at1 kM_at0 (by decide))) c593
                refine lv_aload_n hx hb dX12_compare_105 rfl (lv_at hl 3 rfl) ?_
                refine lv_iload_n hx hb dX12_compare_106 rfl (lv_at hl 1 rfl) ?_
                refine tk_Vi hC hK hw hT hA hE hSR kM_at0 (by decide) rfl (k_X12_makes_1 l adK adV dC dI cy ad B (by omega) (by omega) qr s1   x57 (show 0 ≤ x57.toInt by omega) (show x57.toInt ≤ 398 by omega) w691 H.size hT x21 c696 (show 0 ≤ x21.toInt by omega) (show x21.toInt ≤ 60 by omega)) (cwV 1 hC.2.2.2.2 gX12_compare_X12_makes rfl rfl rfl (by decide +kernel) ⟨Nat.le_of_ble_eq_true rfl, Nat.le_of_ble_eq_true rfl⟩) rfl hl.1 rfl (Nat.le_of_ble_eq_true rfl) dX12_compare_107 (fun r699 w701 H locs hp700 hw => ?_)
                obtain ⟨hT, k702, hg710⟩ := hp700
                have hF := hF.tr k702 (by decide)
                have c711 := k702.gi kM_at0 (by decide) c694
                have c712 := k702.gi kM_at0 (by decide) c695
                have c713 := k702.gi kM_at3 rfl c697
                have c714 := k702.gi kM_at1 rfl c698
                have c715 := k702.gi kM_at0 (by decide) c692
                rcases hg710 with ⟨rfl, ⟨x703, c704, rx703, tx703⟩, ⟨x705, c706, rx705, tx705⟩⟩ | ⟨rfl, ⟨x707, c708, rx707, tx707⟩, g709⟩
                · refine lv_if_ne (tgt := 115) hx hb dX12_compare_110 (by decide) (fun c => absurd (by decide) c) (fun _ => ?_)
                  refine lv_iconst (v := 0) hx hb dX12_compare_113 (by decide) ?_
                  exact tk_zret hC hr rfl hlocks hK ⟨hT, hF, (Or.inl ⟨rfl, ⟨x17, c712, (show 1 ≤ x17.toInt by omega), (show x17.toInt ≤ 400 by omega)⟩, ⟨x703, c704, (show 1 ≤ x703.toInt by omega), (show x703.toInt ≤ 3205 by omega)⟩, ⟨f0_, c711, (show 0 ≤ f0_.toInt by omega), (show f0_.toInt ≤ 5 by omega)⟩⟩)⟩ hw dX12_compare_114
                · have g709 : x707.toInt = x21.toInt + 1 := by have q := g709; simp only [c694, c711, c696, c708] at q; omega
                  refine lv_if_ne (tgt := 115) hx hb dX12_compare_110 (by decide) (fun _ => ?_) (fun c => absurd c (by decide))
                  refine lv_iload_n hx hb dX12_compare_115 rfl (lv_at hl 2 rfl) ?_
                  refine lv_bipush (v := 60) hx hb dX12_compare_116 (by decide) ?_
                  refine lv_icmp_ne (tgt := 133) hx hb dX12_compare_118 (by decide) (fun _ => ?_) (fun c => absurd (show r49.toInt = (60 : Int) from wk_eq.mp c) (by omega))
                  refine lv_iload_n hx hb dX12_compare_133 rfl (lv_at hl 2 rfl) ?_
                  refine lv_bipush (v := 61) hx hb dX12_compare_134 (by decide) ?_
                  refine lv_icmp_ne (tgt := 143) hx hb dX12_compare_136 (by decide) (fun _ => ?_) (fun c => absurd (show r49.toInt = (61 : Int) from wk_eq.mp c) (by omega))
                  refine lv_iload_n hx hb dX12_compare_143 rfl (lv_at hl 0 rfl) ?_
                  refine lv_if_eq (tgt := 151) hx hb dX12_compare_144 (by decide) (fun c => absurd c (by decide)) (fun _ => ?_)
                  refine lv_iconst (v := 3) hx hb dX12_compare_147 (by decide) ?_
                  refine lv_goto (tgt := 152) hx hb dX12_compare_148 (by decide) ?_
                  refine lv_istore (lv' := [(4, .int 3), (3, .int 1), (2, .int x57), (1, .int r49), (0, .ref (ad 0))]) hx hb dX12_compare_152 hl (by decide) rfl (fun ls hl => ?_)
                  refine lv_aload_n hx hb dX12_compare_154 rfl (lv_at hl 4 rfl) ?_
                  refine tk_Vi hC hK hw hT hA hE hSR kM_at0 (by decide) rfl (k_X12_sum_1 l adK adV dC dI cy ad B (by omega) (by omega) qr s1    w701 H.size hT f0_ c711 (show 0 ≤ f0_.toInt by omega) (show f0_.toInt ≤ 5 by omega) x707 c708 (show 0 ≤ x707.toInt by omega) (show x707.toInt ≤ 60 by omega) x43 c713 (show 0 ≤ x43.toInt by omega) (show x43.toInt ≤ 400 by omega) (show 3 * x43.toInt ≤ 14 * x707.toInt + 60 by omega) (show x43.toInt ≤ 300 by omega)) (cwV 0 hC.2.2.2.2 gX12_compare_X12_sum rfl rfl rfl (by decide +kernel) ⟨Nat.le_of_ble_eq_true rfl, Nat.le_of_ble_eq_true rfl⟩) rfl hl.1 rfl (Nat.le_of_ble_eq_true rfl) dX12_compare_155 (fun r716 w718 H locs hp717 hw => ?_)
                  obtain ⟨hT, k719, hg748⟩ := hp717
                  have hF := hF.tr k719 (by decide)
                  have c749 := k719.gi kM_at0 (by decide) c711
                  have c750 := k719.gi kM_at0 (by decide) c712
                  have c751 := k719.gi kM_at1 rfl c714
                  rcases hg748 with ⟨rfl, ⟨x720, c721, rx720, tx720⟩, ⟨x722, c723, rx722, tx722⟩, ⟨x724, c725, rx724, tx724⟩⟩ | ⟨rfl, ⟨x726, c727, rx726, tx726⟩, ⟨x728, c729, rx728, tx728⟩, ⟨x730, c731, rx730, tx730⟩⟩ | ⟨rfl, ⟨x732, c733, rx732, tx732⟩, ⟨x734, c735, rx734, tx734⟩, ⟨x736, c737, rx736, tx736⟩, g738, g739⟩ | ⟨rfl, ⟨x740, c741, rx740, tx740⟩, ⟨x742, c743, rx742, tx742⟩, ⟨x744, c745, rx744, tx744⟩, g746, g747⟩
                  · have ex720 : x720.toInt = x17.toInt := by rw [← c750.symm.trans c721]
                    have ex724 : x724.toInt = f0_.toInt := by rw [← c749.symm.trans c725]
                    obtain ⟨x752, c753, rx752, tx752⟩ := hT.rda (lo := 0) (hi := 400) (i := (f0_.toInt).toNat) kM_at3 rfl rfl (by omega)
                    obtain ⟨x754, c755, rx754, tx754⟩ := hT.rdi (lo := 0) (hi := 60) (k := 18) kM_at0 (by decide) rfl
                    refine lv_if_ne (tgt := 163) hx hb dX12_compare_158 (by decide) (fun c => absurd (by decide) c) (fun _ => ?_)
                    refine lv_iconst (v := 0) hx hb dX12_compare_161 (by decide) ?_
                    exact tk_zret hC hr rfl hlocks hK ⟨hT, hF, (Or.inl ⟨rfl, ⟨x17, c750, (show 1 ≤ x17.toInt by omega), (show x17.toInt ≤ 400 by omega)⟩, ⟨x722, c723, (show 1 ≤ x722.toInt by omega), (show x722.toInt ≤ 3205 by omega)⟩, ⟨f0_, c749, (show 0 ≤ f0_.toInt by omega), (show f0_.toInt ≤ 5 by omega)⟩⟩)⟩ hw dX12_compare_162
                  · have ex726 : x726.toInt = x17.toInt := by rw [← c750.symm.trans c727]
                    have ex730 : x730.toInt = f0_.toInt := by rw [← c749.symm.trans c731]
                    obtain ⟨x756, c757, rx756, tx756⟩ := hT.rda (lo := 0) (hi := 400) (i := (f0_.toInt).toNat) kM_at3 rfl rfl (by omega)
                    obtain ⟨x758, c759, rx758, tx758⟩ := hT.rdi (lo := 0) (hi := 60) (k := 18) kM_at0 (by decide) rfl
                    refine lv_if_ne (tgt := 163) hx hb dX12_compare_158 (by decide) (fun c => absurd (by decide) c) (fun _ => ?_)
                    refine lv_iconst (v := 0) hx hb dX12_compare_161 (by decide) ?_
                    exact tk_zret hC hr rfl hlocks hK ⟨hT, hF, (Or.inl ⟨rfl, ⟨x17, c750, (show 1 ≤ x17.toInt by omega), (show x17.toInt ≤ 400 by omega)⟩, ⟨x728, c729, (show 1 ≤ x728.toInt by omega), (show x728.toInt ≤ 3205 by omega)⟩, ⟨f0_, c749, (show 0 ≤ f0_.toInt by omega), (show f0_.toInt ≤ 5 by omega)⟩⟩)⟩ hw dX12_compare_162
                  · have ex732 : x732.toInt = x17.toInt := by rw [← c750.symm.trans c733]
                    have ex734 : x734.toInt = f0_.toInt := by rw [← c749.symm.trans c735]
                    obtain ⟨x760, c761, rx760, tx760⟩ := hT.rda (lo := 0) (hi := 400) (i := (f0_.toInt).toNat) kM_at3 rfl rfl (by omega)
                    have g738 : 3 * x760.toInt + 11 ≤ 3 * x43.toInt + 14 * (x736.toInt - x707.toInt) := by have q := g738; simp only [c711, c749, c713, c761, c708, c737] at q; omega
                    have g739 : x707.toInt + 1 ≤ x736.toInt := by have q := g739; simp only [c711, c749, c708, c737] at q; omega
                    refine lv_if_ne (tgt := 163) hx hb dX12_compare_158 (by decide) (fun _ => ?_) (fun c => absurd c (by decide))
                    refine lv_aload_n hx hb dX12_compare_163 rfl (lv_at hl 4 rfl) ?_
                    refine lv_bipush (v := 6) hx hb dX12_compare_164 (by decide) ?_
                    refine lv_iload hx hb dX12_compare_166 (lv_at hl 0 rfl) ?_
                    refine lv_iadd hx hb dX12_compare_168 ?_
                    refine wk_top 9 (by decide) ?_
                    refine lv_iconst (v := 0) hx hb dX12_compare_169 (by decide) ?_
                    refine tk_Vv hC hK hw hT hA hE hSR kM_at0 (by decide) rfl (k_X12_puts_1 l adK adV dC dI cy ad B (by omega) (by omega) qr s1   9 (by decide) (by decide) 0 w718 H.size hT f0_ c749 (show 0 ≤ f0_.toInt by omega) (show f0_.toInt ≤ 5 by omega) x760 c761 (show 0 ≤ x760.toInt by omega) (show x760.toInt ≤ 400 by omega) (show x760.toInt ≤ 399 by omega)) (cwV 2 hC.2.2.2.2 gX12_compare_X12_puts rfl rfl rfl (by decide +kernel) ⟨Nat.le_of_ble_eq_true rfl, Nat.le_of_ble_eq_true rfl⟩) rfl hl.1 rfl (Nat.le_of_ble_eq_true rfl) dX12_compare_170 (fun w766 H locs hp765 hw => ?_)
                    obtain ⟨hT, k767, hg771⟩ := hp765
                    have hF := hF.tr k767 (by decide)
                    have c772 := k767.gi kM_at0 (by decide) c749
                    have c773 := k767.gi kM_at0 (by decide) c750
                    have c774 := k767.gi kM_at1 rfl c751
                    have c775 := k767.gi kM_at0 (by decide) c737
                    obtain ⟨⟨x768, c769, rx768, tx768⟩, g770⟩ := hg771
                    have ex768 : x768.toInt = f0_.toInt := by rw [← c772.symm.trans c769]
                    obtain ⟨x776, c777, rx776, tx776⟩ := hT.rda (lo := 0) (hi := 400) (i := (f0_.toInt).toNat) kM_at3 rfl rfl (by omega)
                    have g770 : x776.toInt = x760.toInt + 1 := by have q := g770; simp only [c749, c772, c761, c777] at q; omega
                    refine lv_iconst (v := 1) hx hb dX12_compare_173 (by decide) ?_
                    exact tk_zret hC hr rfl hlocks hK ⟨hT, hF, (Or.inr (Or.inr ⟨rfl, ⟨x17, c773, (show 1 ≤ x17.toInt by omega), (show x17.toInt ≤ 400 by omega)⟩, ⟨f0_, c772, (show 0 ≤ f0_.toInt by omega), (show f0_.toInt ≤ 5 by omega)⟩, ⟨x736, c775, (show 1 ≤ x736.toInt by omega), (show x736.toInt ≤ 60 by omega)⟩, (by simp only [c772, cf0_, cf2_, c777, cf1_, c775]; omega), (by simp only [c772, cf0_, cf1_, c775]; omega)⟩))⟩ hw dX12_compare_174
                  · have ex740 : x740.toInt = x17.toInt := by rw [← c750.symm.trans c741]
                    have ex742 : x742.toInt = f0_.toInt := by rw [← c749.symm.trans c743]
                    obtain ⟨x762, c763, rx762, tx762⟩ := hT.rda (lo := 0) (hi := 400) (i := (f0_.toInt).toNat) kM_at3 rfl rfl (by omega)
                    have g746 : 3 * x762.toInt + 11 ≤ 3 * x43.toInt + 14 * (x744.toInt - x707.toInt) := by have q := g746; simp only [c711, c749, c713, c763, c708, c745] at q; omega
                    have g747 : x707.toInt + 1 ≤ x744.toInt := by have q := g747; simp only [c711, c749, c708, c745] at q; omega
                    refine lv_if_ne (tgt := 163) hx hb dX12_compare_158 (by decide) (fun _ => ?_) (fun c => absurd c (by decide))
                    refine lv_aload_n hx hb dX12_compare_163 rfl (lv_at hl 4 rfl) ?_
                    refine lv_bipush (v := 6) hx hb dX12_compare_164 (by decide) ?_
                    refine lv_iload hx hb dX12_compare_166 (lv_at hl 0 rfl) ?_
                    refine lv_iadd hx hb dX12_compare_168 ?_
                    refine wk_top 9 (by decide) ?_
                    refine lv_iconst (v := 0) hx hb dX12_compare_169 (by decide) ?_
                    refine tk_Vv hC hK hw hT hA hE hSR kM_at0 (by decide) rfl (k_X12_puts_1 l adK adV dC dI cy ad B (by omega) (by omega) qr s1   9 (by decide) (by decide) 0 w718 H.size hT f0_ c749 (show 0 ≤ f0_.toInt by omega) (show f0_.toInt ≤ 5 by omega) x762 c763 (show 0 ≤ x762.toInt by omega) (show x762.toInt ≤ 400 by omega) (show x762.toInt ≤ 399 by omega)) (cwV 2 hC.2.2.2.2 gX12_compare_X12_puts rfl rfl rfl (by decide +kernel) ⟨Nat.le_of_ble_eq_true rfl, Nat.le_of_ble_eq_true rfl⟩) rfl hl.1 rfl (Nat.le_of_ble_eq_true rfl) dX12_compare_170 (fun w780 H locs hp779 hw => ?_)
                    obtain ⟨hT, k781, hg785⟩ := hp779
                    have hF := hF.tr k781 (by decide)
                    have c786 := k781.gi kM_at0 (by decide) c749
                    have c787 := k781.gi kM_at0 (by decide) c750
                    have c788 := k781.gi kM_at1 rfl c751
                    have c789 := k781.gi kM_at0 (by decide) c745
                    obtain ⟨⟨x782, c783, rx782, tx782⟩, g784⟩ := hg785
                    have ex782 : x782.toInt = f0_.toInt := by rw [← c786.symm.trans c783]
                    obtain ⟨x790, c791, rx790, tx790⟩ := hT.rda (lo := 0) (hi := 400) (i := (f0_.toInt).toNat) kM_at3 rfl rfl (by omega)
                    have g784 : x790.toInt = x762.toInt + 1 := by have q := g784; simp only [c749, c786, c763, c791] at q; omega
                    refine lv_iconst (v := 1) hx hb dX12_compare_173 (by decide) ?_
                    exact tk_zret hC hr rfl hlocks hK ⟨hT, hF, (Or.inr (Or.inr ⟨rfl, ⟨x17, c787, (show 1 ≤ x17.toInt by omega), (show x17.toInt ≤ 400 by omega)⟩, ⟨f0_, c786, (show 0 ≤ f0_.toInt by omega), (show f0_.toInt ≤ 5 by omega)⟩, ⟨x744, c789, (show 1 ≤ x744.toInt by omega), (show x744.toInt ≤ 60 by omega)⟩, (by simp only [c786, cf0_, cf2_, c791, cf1_, c789]; omega), (by simp only [c786, cf0_, cf1_, c789]; omega)⟩))⟩ hw dX12_compare_174
          · have c485 : ¬ r49.toInt = (62 : Int) := wk_eqF c485
            refine lv_aload_n hx hb dX12_compare_37 rfl (lv_at hl 2 rfl) ?_
            refine lv_iconst (v := 0) hx hb dX12_compare_38 (by decide) ?_
            refine lv_iload_n hx hb dX12_compare_39 rfl (lv_at hl 0 rfl) ?_
            refine tk_Vi hC hK hw hT hA hE hSR kM_at0 (by decide) rfl (k_X12_fails_1 l adK adV dC dI cy ad B (by omega) (by omega) qr s1   0 (by decide) (by decide) x57 (show 0 ≤ x57.toInt by omega) (show x57.toInt ≤ 400 by omega) w51 H.size hT ) (cwV 2 hC.2.2.2.2 gX12_compare_X12_fails rfl rfl rfl (by decide +kernel) ⟨Nat.le_of_ble_eq_true rfl, Nat.le_of_ble_eq_true rfl⟩) rfl hl.1 rfl (Nat.le_of_ble_eq_true rfl) dX12_compare_40 (fun r792 w794 H locs hp793 hw => ?_)
            obtain ⟨hT, k795, hg798⟩ := hp793
            have hF := hF.tr k795 (by decide)
            have c799 := k795.gi kM_at0 (by decide) c70
            have c800 := k795.gi kM_at0 (by decide) c71
            have c801 := k795.gi kM_at0 (by decide) c72
            have c802 := k795.gi kM_at3 rfl c73
            have c803 := k795.gi kM_at0 (by decide) c58
            obtain ⟨rfl, ⟨x796, c797, rx796, tx796⟩⟩ := hg798
            exact tk_zret hC hr rfl hlocks hK ⟨hT, hF, (Or.inl ⟨rfl, ⟨x17, c800, (show 1 ≤ x17.toInt by omega), (show x17.toInt ≤ 400 by omega)⟩, ⟨x796, c797, (show 1 ≤ x796.toInt by omega), (show x796.toInt ≤ 3205 by omega)⟩, ⟨f0_, c799, (show 0 ≤ f0_.toInt by omega), (show f0_.toInt ≤ 5 by omega)⟩⟩)⟩ hw dX12_compare_43
    · have ex61 : x61.toInt = x17.toInt := by rw [← c71.symm.trans c62]
      have g65 : (x63.toInt = x47.toInt ∨ (gi w3 1 (x47.toInt).toNat).toInt = 32) := by have q := g65; simp only [c34, c70, c48, c64] at q; omega
      refine lv_istore_n (lv' := [(1, .int (-1)), (0, .ref (ad 0))]) hx hb dX12_compare_13 rfl hl (by decide) rfl (fun ls hl => ?_)
      refine lv_aload_n hx hb dX12_compare_14 rfl (lv_at hl 1 rfl) ?_
      refine tk_geti hC hK hw hT hinX12 kM_at0 (by decide) rfl 14 (by decide) (List.mem_of_getElem? (i := 1) rfl) rfl rfl dX12_compare_15 (fun x804 c805 rx804 tx804 => ?_)
      refine wk_top x63 (c805.symm.trans c64) ?_
      refine lv_istore_n (lv' := [(2, .int x63), (1, .int (-1)), (0, .ref (ad 0))]) hx hb dX12_compare_18 rfl hl (by decide) rfl (fun ls hl => ?_)
      refine lv_iload_n hx hb dX12_compare_19 rfl (lv_at hl 1 rfl) ?_
      refine lv_bipush (v := 60) hx hb dX12_compare_20 (by decide) ?_
      refine lv_icmp_eq (tgt := 44) hx hb dX12_compare_22 (by decide) (fun c => absurd c (by decide)) (fun _ => ?_)
      refine lv_iload_n hx hb dX12_compare_25 rfl (lv_at hl 1 rfl) ?_
      refine lv_bipush (v := 61) hx hb dX12_compare_26 (by decide) ?_
      refine lv_icmp_eq (tgt := 44) hx hb dX12_compare_28 (by decide) (fun c => absurd c (by decide)) (fun _ => ?_)
      refine lv_iload_n hx hb dX12_compare_31 rfl (lv_at hl 1 rfl) ?_
      refine lv_bipush (v := 62) hx hb dX12_compare_32 (by decide) ?_
      refine lv_icmp_eq (tgt := 44) hx hb dX12_compare_34 (by decide) (fun c => absurd c (by decide)) (fun _ => ?_)
      refine lv_aload_n hx hb dX12_compare_37 rfl (lv_at hl 2 rfl) ?_
      refine lv_iconst (v := 0) hx hb dX12_compare_38 (by decide) ?_
      refine lv_iload_n hx hb dX12_compare_39 rfl (lv_at hl 0 rfl) ?_
      refine tk_Vi hC hK hw hT hA hE hSR kM_at0 (by decide) rfl (k_X12_fails_1 l adK adV dC dI cy ad B (by omega) (by omega) qr s1   0 (by decide) (by decide) x63 (show 0 ≤ x63.toInt by omega) (show x63.toInt ≤ 400 by omega) w51 H.size hT ) (cwV 2 hC.2.2.2.2 gX12_compare_X12_fails rfl rfl rfl (by decide +kernel) ⟨Nat.le_of_ble_eq_true rfl, Nat.le_of_ble_eq_true rfl⟩) rfl hl.1 rfl (Nat.le_of_ble_eq_true rfl) dX12_compare_40 (fun r806 w808 H locs hp807 hw => ?_)
      obtain ⟨hT, k809, hg812⟩ := hp807
      have hF := hF.tr k809 (by decide)
      have c813 := k809.gi kM_at0 (by decide) c70
      have c814 := k809.gi kM_at0 (by decide) c71
      have c815 := k809.gi kM_at0 (by decide) c72
      have c816 := k809.gi kM_at3 rfl c73
      have c817 := k809.gi kM_at0 (by decide) c64
      obtain ⟨rfl, ⟨x810, c811, rx810, tx810⟩⟩ := hg812
      exact tk_zret hC hr rfl hlocks hK ⟨hT, hF, (Or.inl ⟨rfl, ⟨x17, c814, (show 1 ≤ x17.toInt by omega), (show x17.toInt ≤ 400 by omega)⟩, ⟨x810, c811, (show 1 ≤ x810.toInt by omega), (show x810.toInt ≤ 3205 by omega)⟩, ⟨f0_, c813, (show 0 ≤ f0_.toInt by omega), (show f0_.toInt ≤ 5 by omega)⟩⟩)⟩ hw dX12_compare_43
    · have ex66 : x66.toInt = x17.toInt := by rw [← c71.symm.trans c67]
      obtain ⟨x74, c75, rx74, tx74⟩ := hT.rdi (lo := 0) (hi := 400) (k := 14) kM_at0 (by decide) rfl
      have g68 : (x74.toInt = x47.toInt ∨ (gi w3 1 (x47.toInt).toNat).toInt = 32) := by have q := g68; simp only [c34, c70, c48, c75] at q; omega
      refine lv_istore_n (lv' := [(1, .int (-1)), (0, .ref (ad 0))]) hx hb dX12_compare_13 rfl hl (by decide) rfl (fun ls hl => ?_)
      refine lv_aload_n hx hb dX12_compare_14 rfl (lv_at hl 1 rfl) ?_
      refine tk_geti hC hK hw hT hinX12 kM_at0 (by decide) rfl 14 (by decide) (List.mem_of_getElem? (i := 1) rfl) rfl rfl dX12_compare_15 (fun x818 c819 rx818 tx818 => ?_)
      refine wk_top x74 (c819.symm.trans c75) ?_
      refine lv_istore_n (lv' := [(2, .int x74), (1, .int (-1)), (0, .ref (ad 0))]) hx hb dX12_compare_18 rfl hl (by decide) rfl (fun ls hl => ?_)
      refine lv_iload_n hx hb dX12_compare_19 rfl (lv_at hl 1 rfl) ?_
      refine lv_bipush (v := 60) hx hb dX12_compare_20 (by decide) ?_
      refine lv_icmp_eq (tgt := 44) hx hb dX12_compare_22 (by decide) (fun c => absurd c (by decide)) (fun _ => ?_)
      refine lv_iload_n hx hb dX12_compare_25 rfl (lv_at hl 1 rfl) ?_
      refine lv_bipush (v := 61) hx hb dX12_compare_26 (by decide) ?_
      refine lv_icmp_eq (tgt := 44) hx hb dX12_compare_28 (by decide) (fun c => absurd c (by decide)) (fun _ => ?_)
      refine lv_iload_n hx hb dX12_compare_31 rfl (lv_at hl 1 rfl) ?_
      refine lv_bipush (v := 62) hx hb dX12_compare_32 (by decide) ?_
      refine lv_icmp_eq (tgt := 44) hx hb dX12_compare_34 (by decide) (fun c => absurd c (by decide)) (fun _ => ?_)
      refine lv_aload_n hx hb dX12_compare_37 rfl (lv_at hl 2 rfl) ?_
      refine lv_iconst (v := 0) hx hb dX12_compare_38 (by decide) ?_
      refine lv_iload_n hx hb dX12_compare_39 rfl (lv_at hl 0 rfl) ?_
      refine tk_Vi hC hK hw hT hA hE hSR kM_at0 (by decide) rfl (k_X12_fails_1 l adK adV dC dI cy ad B (by omega) (by omega) qr s1   0 (by decide) (by decide) x74 (show 0 ≤ x74.toInt by omega) (show x74.toInt ≤ 400 by omega) w51 H.size hT ) (cwV 2 hC.2.2.2.2 gX12_compare_X12_fails rfl rfl rfl (by decide +kernel) ⟨Nat.le_of_ble_eq_true rfl, Nat.le_of_ble_eq_true rfl⟩) rfl hl.1 rfl (Nat.le_of_ble_eq_true rfl) dX12_compare_40 (fun r820 w822 H locs hp821 hw => ?_)
      obtain ⟨hT, k823, hg826⟩ := hp821
      have hF := hF.tr k823 (by decide)
      have c827 := k823.gi kM_at0 (by decide) c70
      have c828 := k823.gi kM_at0 (by decide) c71
      have c829 := k823.gi kM_at0 (by decide) c72
      have c830 := k823.gi kM_at3 rfl c73
      have c831 := k823.gi kM_at0 (by decide) c75
      obtain ⟨rfl, ⟨x824, c825, rx824, tx824⟩⟩ := hg826
      exact tk_zret hC hr rfl hlocks hK ⟨hT, hF, (Or.inl ⟨rfl, ⟨x17, c828, (show 1 ≤ x17.toInt by omega), (show x17.toInt ≤ 400 by omega)⟩, ⟨x824, c825, (show 1 ≤ x824.toInt by omega), (show x824.toInt ≤ 3205 by omega)⟩, ⟨f0_, c827, (show 0 ≤ f0_.toInt by omega), (show f0_.toInt ≤ 5 by omega)⟩⟩)⟩ hw dX12_compare_43
  · have ex27 : x27.toInt = f0_.toInt := by rw [← c34.symm.trans c28]
    obtain ⟨x45, c46, rx45, tx45⟩ := hT.rda (lo := 0) (hi := 400) (i := (f0_.toInt).toNat) kM_at3 rfl rfl (by omega)
    have g31 : 3 * x45.toInt + 11 ≤ 3 * f2_.toInt + 14 * (x29.toInt - f1_.toInt) := by have q := g31; simp only [cf0_, c34, cf2_, c46, cf1_, c30] at q; omega
    have g32 : f1_.toInt + 1 ≤ x29.toInt := by have q := g32; simp only [cf0_, c34, cf1_, c30] at q; omega
    refine lv_if_ne (tgt := 9) hx hb dX12_compare_4 (by decide) (fun _ => ?_) (fun c => absurd c (by decide))
    refine lv_aload_n hx hb dX12_compare_9 rfl (lv_at hl 0 rfl) ?_
    obtain ⟨x832, c833, rx832, tx832⟩ := hT.rdi (lo := 0) (hi := 400) (k := 14) kM_at0 (by decide) rfl
    refine tk_Vi hC hK hw hT hA hE hSR kM_at0 (by decide) rfl (k_X12_see_1 l adK adV dC dI cy ad B (by omega) (by omega) qr s1    w3 H.size hT x832 c833 (show 0 ≤ x832.toInt by omega) (show x832.toInt ≤ 400 by omega)) (cwV 0 hC.2.2.2.2 gX12_compare_X12_see rfl rfl rfl (by decide +kernel) ⟨Nat.le_of_ble_eq_true rfl, Nat.le_of_ble_eq_true rfl⟩) rfl hl.1 rfl (Nat.le_of_ble_eq_true rfl) dX12_compare_10 (fun r834 w836 H locs hp835 hw => ?_)
    obtain ⟨hT, k837, hg854⟩ := hp835
    have hF := hF.tr k837 (by decide)
    have c855 := k837.gi kM_at0 (by decide) c34
    have c856 := k837.gi kM_at0 (by decide) c26
    have c857 := k837.gi kM_at0 (by decide) c30
    have c858 := k837.gi kM_at3 rfl c46
    rcases hg854 with ⟨g838, g839, ⟨x840, c841, rx840, tx840⟩, ⟨x842, c843, rx842, tx842⟩, g844, g845⟩ | ⟨rfl, ⟨x846, c847, rx846, tx846⟩, ⟨x848, c849, rx848, tx848⟩, g850⟩ | ⟨rfl, ⟨x851, c852, rx851, tx851⟩, g853⟩
    · have ex840 : x840.toInt = x25.toInt := by rw [← c856.symm.trans c841]
      have g844 : (gi w836 1 (x842.toInt).toNat).toInt ≠ 32 := by have q := g844; simp only [c34, c855, c843] at q; omega
      have g845 : (x842.toInt = x832.toInt ∨ (gi w3 1 (x832.toInt).toNat).toInt = 32) := by have q := g845; simp only [c34, c855, c833, c843] at q; omega
      refine lv_istore_n (lv' := [(1, .int r834), (0, .ref (ad 0))]) hx hb dX12_compare_13 rfl hl (by decide) rfl (fun ls hl => ?_)
      refine lv_aload_n hx hb dX12_compare_14 rfl (lv_at hl 1 rfl) ?_
      refine tk_geti hC hK hw hT hinX12 kM_at0 (by decide) rfl 14 (by decide) (List.mem_of_getElem? (i := 1) rfl) rfl rfl dX12_compare_15 (fun x861 c862 rx861 tx861 => ?_)
      refine wk_top x842 (c862.symm.trans c843) ?_
      refine lv_istore_n (lv' := [(2, .int x842), (1, .int r834), (0, .ref (ad 0))]) hx hb dX12_compare_18 rfl hl (by decide) rfl (fun ls hl => ?_)
      refine lv_iload_n hx hb dX12_compare_19 rfl (lv_at hl 1 rfl) ?_
      refine lv_bipush (v := 60) hx hb dX12_compare_20 (by decide) ?_
      refine lv_icmp_eq (tgt := 44) hx hb dX12_compare_22 (by decide) (fun c863 => ?_) (fun c863 => ?_)
      · have c863 : r834.toInt = (60 : Int) := wk_eq.mp c863
        refine lv_aload_n hx hb dX12_compare_44 rfl (lv_at hl 2 rfl) ?_
        refine lv_dup hx hb dX12_compare_45 rfl ?_
        refine tk_geti hC hK hw hT hinX12 kM_at0 (by decide) rfl 14 (by decide) (List.mem_of_getElem? (i := 1) rfl) rfl rfl dX12_compare_46 (fun x864 c865 rx864 tx864 => ?_)
        refine wk_top x842 (c865.symm.trans c843) ?_
        refine lv_iconst (v := 1) hx hb dX12_compare_49 (by decide) ?_
        refine lv_iadd hx hb dX12_compare_50 ?_
        refine lv_topi (fun x866 ex866 => ?_)
        have ex866 : x866.toInt = x842.toInt + (1 : Int) := by rw [ex866]; exact wk_add (show (-2147483648) ≤ x842.toInt + (1 : Int) by omega) (show x842.toInt + (1 : Int) ≤ 2147483647 by omega)
        refine tk_puti hC hK hw hT hinX12 tyX12_ok nmX12 kM_at0 (by decide) rfl rfl 14 (by decide) (List.mem_of_getElem? (i := 1) rfl) rfl rfl rfl rfl (show 0 ≤ x866.toInt by omega) (show x866.toInt ≤ 400 by omega) dX12_compare_51 (fun H locs w867 hw hT k869 c868 => ?_)
        have hF := hF.put kM_at0 (k := 14) (by decide) k869
        have c870 := k869.gi (Or.inr (by decide)) c855
        have c871 := k869.gi (Or.inr (by decide)) c856
        have c872 := k869.gi (Or.inr (by decide)) c857
        have c873 := k869.gi (Or.inl (tk_ne kM_at3 kM_at0 (by decide))) c858
        refine lv_iload_n hx hb dX12_compare_54 rfl (lv_at hl 1 rfl) ?_
        refine lv_bipush (v := 61) hx hb dX12_compare_55 (by decide) ?_
        refine lv_icmp_eq (tgt := 89) hx hb dX12_compare_57 (by decide) (fun c => absurd c (fun h => absurd (show r834.toInt = (61 : Int) from wk_eq.mp h) (by omega))) (fun _ => ?_)
        refine lv_aload_n hx hb dX12_compare_60 rfl (lv_at hl 2 rfl) ?_
        refine tk_geti hC hK hw hT hinX12 kM_at0 (by decide) rfl 14 (by decide) (List.mem_of_getElem? (i := 1) rfl) rfl rfl dX12_compare_61 (fun x874 c875 rx874 tx874 => ?_)
        refine wk_top x866 (c875.symm.trans c868) ?_
        refine lv_aload_n hx hb dX12_compare_64 rfl (lv_at hl 2 rfl) ?_
        refine tk_geti hC hK hw hT hinX12 kM_at0 (by decide) rfl 1 (by decide) (List.mem_of_getElem? (i := 2) rfl) rfl rfl dX12_compare_65 (fun x876 c877 rx876 tx876 => ?_)
        refine wk_top x25 (c877.symm.trans c871) ?_
        refine lv_icmp_ge (tgt := 89) hx hb dX12_compare_68 (by decide) (fun c878 => ?_) (fun c878 => ?_)
        · have c878 : x25.toInt ≤ x866.toInt := wk_le.mp c878
          refine lv_iconst (v := 0) hx hb dX12_compare_89 (by decide) ?_
          refine lv_istore_n (lv' := [(3, .int 0), (2, .int x842), (1, .int r834), (0, .ref (ad 0))]) hx hb dX12_compare_90 rfl hl (by decide) rfl (fun ls hl => ?_)
          refine lv_iload_n hx hb dX12_compare_91 rfl (lv_at hl 0 rfl) ?_
          refine lv_if_eq (tgt := 105) hx hb dX12_compare_92 (by decide) (fun _ => ?_) (fun c => absurd (by decide) c)
          refine lv_aload_n hx hb dX12_compare_105 rfl (lv_at hl 3 rfl) ?_
          refine lv_iload_n hx hb dX12_compare_106 rfl (lv_at hl 1 rfl) ?_
          refine tk_Vi hC hK hw hT hA hE hSR kM_at0 (by decide) rfl (k_X12_makes_2 l adK adV dC dI cy ad B (by omega) (by omega) qr s1   x842 (show 0 ≤ x842.toInt by omega) (show x842.toInt ≤ 399 by omega) w867 H.size hT x29 c872 (show 0 ≤ x29.toInt by omega) (show x29.toInt ≤ 60 by omega)) (cwV 1 hC.2.2.2.2 gX12_compare_X12_makes rfl rfl rfl (by decide +kernel) ⟨Nat.le_of_ble_eq_true rfl, Nat.le_of_ble_eq_true rfl⟩) rfl hl.1 rfl (Nat.le_of_ble_eq_true rfl) dX12_compare_107 (fun r879 w881 H locs hp880 hw => ?_)
          obtain ⟨hT, k882, hg890⟩ := hp880
          have hF := hF.tr k882 (by decide)
          have c891 := k882.gi kM_at0 (by decide) c870
          have c892 := k882.gi kM_at0 (by decide) c871
          have c893 := k882.gi kM_at3 rfl c873
          have c894 := k882.gi kM_at0 (by decide) c868
          rcases hg890 with ⟨rfl, ⟨x883, c884, rx883, tx883⟩, ⟨x885, c886, rx885, tx885⟩⟩ | ⟨rfl, ⟨x887, c888, rx887, tx887⟩, g889⟩
          · refine lv_if_ne (tgt := 115) hx hb dX12_compare_110 (by decide) (fun c => absurd (by decide) c) (fun _ => ?_)
            refine lv_iconst (v := 0) hx hb dX12_compare_113 (by decide) ?_
            exact tk_zret hC hr rfl hlocks hK ⟨hT, hF, (Or.inl ⟨rfl, ⟨x25, c892, (show 1 ≤ x25.toInt by omega), (show x25.toInt ≤ 400 by omega)⟩, ⟨x883, c884, (show 1 ≤ x883.toInt by omega), (show x883.toInt ≤ 3205 by omega)⟩, ⟨f0_, c891, (show 0 ≤ f0_.toInt by omega), (show f0_.toInt ≤ 5 by omega)⟩⟩)⟩ hw dX12_compare_114
          · have g889 : x887.toInt = x29.toInt + 1 := by have q := g889; simp only [c870, c891, c872, c888] at q; omega
            refine lv_if_ne (tgt := 115) hx hb dX12_compare_110 (by decide) (fun _ => ?_) (fun c => absurd c (by decide))
            refine lv_iload_n hx hb dX12_compare_115 rfl (lv_at hl 2 rfl) ?_
            refine lv_bipush (v := 60) hx hb dX12_compare_116 (by decide) ?_
            refine lv_icmp_ne (tgt := 133) hx hb dX12_compare_118 (by decide) (fun c => (c (wk_eq.mpr (show r834.toInt = (60 : Int) by omega))).elim) (fun _ => ?_)
            refine lv_iload_n hx hb dX12_compare_121 rfl (lv_at hl 0 rfl) ?_
            refine lv_if_eq (tgt := 129) hx hb dX12_compare_122 (by decide) (fun _ => ?_) (fun c => absurd (by decide) c)
            refine lv_iconst (v := 0) hx hb dX12_compare_129 (by decide) ?_
            refine lv_goto (tgt := 152) hx hb dX12_compare_130 (by decide) ?_
            refine lv_istore (lv' := [(4, .int 0), (3, .int 0), (2, .int x842), (1, .int r834), (0, .ref (ad 0))]) hx hb dX12_compare_152 hl (by decide) rfl (fun ls hl => ?_)
            refine lv_aload_n hx hb dX12_compare_154 rfl (lv_at hl 4 rfl) ?_
            refine tk_Vi hC hK hw hT hA hE hSR kM_at0 (by decide) rfl (k_X12_sum_1 l adK adV dC dI cy ad B (by omega) (by omega) qr s1    w881 H.size hT f0_ c891 (show 0 ≤ f0_.toInt by omega) (show f0_.toInt ≤ 5 by omega) x887 c888 (show 0 ≤ x887.toInt by omega) (show x887.toInt ≤ 60 by omega) x45 c893 (show 0 ≤ x45.toInt by omega) (show x45.toInt ≤ 400 by omega) (show 3 * x45.toInt ≤ 14 * x887.toInt + 60 by omega) (show x45.toInt ≤ 300 by omega)) (cwV 0 hC.2.2.2.2 gX12_compare_X12_sum rfl rfl rfl (by decide +kernel) ⟨Nat.le_of_ble_eq_true rfl, Nat.le_of_ble_eq_true rfl⟩) rfl hl.1 rfl (Nat.le_of_ble_eq_true rfl) dX12_compare_155 (fun r895 w897 H locs hp896 hw => ?_)
            obtain ⟨hT, k898, hg927⟩ := hp896
            have hF := hF.tr k898 (by decide)
            have c928 := k898.gi kM_at0 (by decide) c891
            have c929 := k898.gi kM_at0 (by decide) c892
            rcases hg927 with ⟨rfl, ⟨x899, c900, rx899, tx899⟩, ⟨x901, c902, rx901, tx901⟩, ⟨x903, c904, rx903, tx903⟩⟩ | ⟨rfl, ⟨x905, c906, rx905, tx905⟩, ⟨x907, c908, rx907, tx907⟩, ⟨x909, c910, rx909, tx909⟩⟩ | ⟨rfl, ⟨x911, c912, rx911, tx911⟩, ⟨x913, c914, rx913, tx913⟩, ⟨x915, c916, rx915, tx915⟩, g917, g918⟩ | ⟨rfl, ⟨x919, c920, rx919, tx919⟩, ⟨x921, c922, rx921, tx921⟩, ⟨x923, c924, rx923, tx923⟩, g925, g926⟩
            · have ex899 : x899.toInt = x25.toInt := by rw [← c929.symm.trans c900]
              have ex903 : x903.toInt = f0_.toInt := by rw [← c928.symm.trans c904]
              obtain ⟨x930, c931, rx930, tx930⟩ := hT.rda (lo := 0) (hi := 400) (i := (f0_.toInt).toNat) kM_at3 rfl rfl (by omega)
              obtain ⟨x932, c933, rx932, tx932⟩ := hT.rdi (lo := 0) (hi := 60) (k := 18) kM_at0 (by decide) rfl
              refine lv_if_ne (tgt := 163) hx hb dX12_compare_158 (by decide) (fun c => absurd (by decide) c) (fun _ => ?_)
              refine lv_iconst (v := 0) hx hb dX12_compare_161 (by decide) ?_
              exact tk_zret hC hr rfl hlocks hK ⟨hT, hF, (Or.inl ⟨rfl, ⟨x25, c929, (show 1 ≤ x25.toInt by omega), (show x25.toInt ≤ 400 by omega)⟩, ⟨x901, c902, (show 1 ≤ x901.toInt by omega), (show x901.toInt ≤ 3205 by omega)⟩, ⟨f0_, c928, (show 0 ≤ f0_.toInt by omega), (show f0_.toInt ≤ 5 by omega)⟩⟩)⟩ hw dX12_compare_162
            · have ex905 : x905.toInt = x25.toInt := by rw [← c929.symm.trans c906]
              have ex909 : x909.toInt = f0_.toInt := by rw [← c928.symm.trans c910]
              obtain ⟨x934, c935, rx934, tx934⟩ := hT.rda (lo := 0) (hi := 400) (i := (f0_.toInt).toNat) kM_at3 rfl rfl (by omega)
              obtain ⟨x936, c937, rx936, tx936⟩ := hT.rdi (lo := 0) (hi := 60) (k := 18) kM_at0 (by decide) rfl
              refine lv_if_ne (tgt := 163) hx hb dX12_compare_158 (by decide) (fun c => absurd (by decide) c) (fun _ => ?_)
              refine lv_iconst (v := 0) hx hb dX12_compare_161 (by decide) ?_
              exact tk_zret hC hr rfl hlocks hK ⟨hT, hF, (Or.inl ⟨rfl, ⟨x25, c929, (show 1 ≤ x25.toInt by omega), (show x25.toInt ≤ 400 by omega)⟩, ⟨x907, c908, (show 1 ≤ x907.toInt by omega), (show x907.toInt ≤ 3205 by omega)⟩, ⟨f0_, c928, (show 0 ≤ f0_.toInt by omega), (show f0_.toInt ≤ 5 by omega)⟩⟩)⟩ hw dX12_compare_162
            · have ex911 : x911.toInt = x25.toInt := by rw [← c929.symm.trans c912]
              have ex913 : x913.toInt = f0_.toInt := by rw [← c928.symm.trans c914]
              obtain ⟨x938, c939, rx938, tx938⟩ := hT.rda (lo := 0) (hi := 400) (i := (f0_.toInt).toNat) kM_at3 rfl rfl (by omega)
              have g917 : 3 * x938.toInt + 11 ≤ 3 * x45.toInt + 14 * (x915.toInt - x887.toInt) := by have q := g917; simp only [c891, c928, c893, c939, c888, c916] at q; omega
              have g918 : x887.toInt + 1 ≤ x915.toInt := by have q := g918; simp only [c891, c928, c888, c916] at q; omega
              refine lv_if_ne (tgt := 163) hx hb dX12_compare_158 (by decide) (fun _ => ?_) (fun c => absurd c (by decide))
              refine lv_aload_n hx hb dX12_compare_163 rfl (lv_at hl 4 rfl) ?_
              refine lv_bipush (v := 6) hx hb dX12_compare_164 (by decide) ?_
              refine lv_iload hx hb dX12_compare_166 (lv_at hl 0 rfl) ?_
              refine lv_iadd hx hb dX12_compare_168 ?_
              refine wk_top 6 (by decide) ?_
              refine lv_iconst (v := 0) hx hb dX12_compare_169 (by decide) ?_
              refine tk_Vv hC hK hw hT hA hE hSR kM_at0 (by decide) rfl (k_X12_puts_1 l adK adV dC dI cy ad B (by omega) (by omega) qr s1   6 (by decide) (by decide) 0 w897 H.size hT f0_ c928 (show 0 ≤ f0_.toInt by omega) (show f0_.toInt ≤ 5 by omega) x938 c939 (show 0 ≤ x938.toInt by omega) (show x938.toInt ≤ 400 by omega) (show x938.toInt ≤ 399 by omega)) (cwV 2 hC.2.2.2.2 gX12_compare_X12_puts rfl rfl rfl (by decide +kernel) ⟨Nat.le_of_ble_eq_true rfl, Nat.le_of_ble_eq_true rfl⟩) rfl hl.1 rfl (Nat.le_of_ble_eq_true rfl) dX12_compare_170 (fun w944 H locs hp943 hw => ?_)
              obtain ⟨hT, k945, hg949⟩ := hp943
              have hF := hF.tr k945 (by decide)
              have c950 := k945.gi kM_at0 (by decide) c928
              have c951 := k945.gi kM_at0 (by decide) c929
              have c952 := k945.gi kM_at0 (by decide) c916
              obtain ⟨⟨x946, c947, rx946, tx946⟩, g948⟩ := hg949
              have ex946 : x946.toInt = f0_.toInt := by rw [← c950.symm.trans c947]
              obtain ⟨x953, c954, rx953, tx953⟩ := hT.rda (lo := 0) (hi := 400) (i := (f0_.toInt).toNat) kM_at3 rfl rfl (by omega)
              have g948 : x953.toInt = x938.toInt + 1 := by have q := g948; simp only [c928, c950, c939, c954] at q; omega
              refine lv_iconst (v := 1) hx hb dX12_compare_173 (by decide) ?_
              exact tk_zret hC hr rfl hlocks hK ⟨hT, hF, (Or.inr (Or.inr ⟨rfl, ⟨x25, c951, (show 1 ≤ x25.toInt by omega), (show x25.toInt ≤ 400 by omega)⟩, ⟨f0_, c950, (show 0 ≤ f0_.toInt by omega), (show f0_.toInt ≤ 5 by omega)⟩, ⟨x915, c952, (show 1 ≤ x915.toInt by omega), (show x915.toInt ≤ 60 by omega)⟩, (by simp only [c950, cf0_, cf2_, c954, cf1_, c952]; omega), (by simp only [c950, cf0_, cf1_, c952]; omega)⟩))⟩ hw dX12_compare_174
            · have ex919 : x919.toInt = x25.toInt := by rw [← c929.symm.trans c920]
              have ex921 : x921.toInt = f0_.toInt := by rw [← c928.symm.trans c922]
              obtain ⟨x940, c941, rx940, tx940⟩ := hT.rda (lo := 0) (hi := 400) (i := (f0_.toInt).toNat) kM_at3 rfl rfl (by omega)
              have g925 : 3 * x940.toInt + 11 ≤ 3 * x45.toInt + 14 * (x923.toInt - x887.toInt) := by have q := g925; simp only [c891, c928, c893, c941, c888, c924] at q; omega
              have g926 : x887.toInt + 1 ≤ x923.toInt := by have q := g926; simp only [c891, c928, c888, c924] at q; omega
              refine lv_if_ne (tgt := 163) hx hb dX12_compare_158 (by decide) (fun _ => ?_) (fun c => absurd c (by decide))
              refine lv_aload_n hx hb dX12_compare_163 rfl (lv_at hl 4 rfl) ?_
              refine lv_bipush (v := 6) hx hb dX12_compare_164 (by decide) ?_
              refine lv_iload hx hb dX12_compare_166 (lv_at hl 0 rfl) ?_
              refine lv_iadd hx hb dX12_compare_168 ?_
              refine wk_top 6 (by decide) ?_
              refine lv_iconst (v := 0) hx hb dX12_compare_169 (by decide) ?_
              refine tk_Vv hC hK hw hT hA hE hSR kM_at0 (by decide) rfl (k_X12_puts_1 l adK adV dC dI cy ad B (by omega) (by omega) qr s1   6 (by decide) (by decide) 0 w897 H.size hT f0_ c928 (show 0 ≤ f0_.toInt by omega) (show f0_.toInt ≤ 5 by omega) x940 c941 (show 0 ≤ x940.toInt by omega) (show x940.toInt ≤ 400 by omega) (show x940.toInt ≤ 399 by omega)) (cwV 2 hC.2.2.2.2 gX12_compare_X12_puts rfl rfl rfl (by decide +kernel) ⟨Nat.le_of_ble_eq_true rfl, Nat.le_of_ble_eq_true rfl⟩) rfl hl.1 rfl (Nat.le_of_ble_eq_true rfl) dX12_compare_170 (fun w957 H locs hp956 hw => ?_)
              obtain ⟨hT, k958, hg962⟩ := hp956
              have hF := hF.tr k958 (by decide)
              have c963 := k958.gi kM_at0 (by decide) c928
              have c964 := k958.gi kM_at0 (by decide) c929
              have c965 := k958.gi kM_at0 (by decide) c924
              obtain ⟨⟨x959, c960, rx959, tx959⟩, g961⟩ := hg962
              have ex959 : x959.toInt = f0_.toInt := by rw [← c963.symm.trans c960]
              obtain ⟨x966, c967, rx966, tx966⟩ := hT.rda (lo := 0) (hi := 400) (i := (f0_.toInt).toNat) kM_at3 rfl rfl (by omega)
              have g961 : x966.toInt = x940.toInt + 1 := by have q := g961; simp only [c928, c963, c941, c967] at q; omega
              refine lv_iconst (v := 1) hx hb dX12_compare_173 (by decide) ?_
              exact tk_zret hC hr rfl hlocks hK ⟨hT, hF, (Or.inr (Or.inr ⟨rfl, ⟨x25, c964, (show 1 ≤ x25.toInt by omega), (show x25.toInt ≤ 400 by omega)⟩, ⟨f0_, c963, (show 0 ≤ f0_.toInt by omega), (show f0_.toInt ≤ 5 by omega)⟩, ⟨x923, c965, (show 1 ≤ x923.toInt by omega), (show x923.toInt ≤ 60 by omega)⟩, (by simp only [c963, cf0_, cf2_, c967, cf1_, c965]; omega), (by simp only [c963, cf0_, cf1_, c965]; omega)⟩))⟩ hw dX12_compare_174
        · have c878 : x866.toInt < x25.toInt := wk_leF c878
          refine lv_aload_n hx hb dX12_compare_71 rfl (lv_at hl 2 rfl) ?_
          refine tk_getA hC hK hw hT hinX12 kM_at0 (by decide) rfl 0 (by decide) (List.mem_of_getElem? (i := 3) rfl) rfl rfl dX12_compare_72 ?_
          refine lv_aload_n hx hb dX12_compare_75 rfl (lv_at hl 2 rfl) ?_
          refine tk_geti hC hK hw hT hinX12 kM_at0 (by decide) rfl 14 (by decide) (List.mem_of_getElem? (i := 1) rfl) rfl rfl dX12_compare_76 (fun x968 c969 rx968 tx968 => ?_)
          refine wk_top x866 (c969.symm.trans c868) ?_
          refine tk_bald hC hK hw hT kM_at1 rfl rfl (show 0 ≤ x866.toInt by omega) (show x866.toInt < 400 by omega) dX12_compare_79 (fun x970 c971 rx970 tx970 => ?_)
          have c971 : gi w867 1 (1 * x842.toInt + 1).toNat = x970 := (congrArg (gi w867 1) (congrArg Int.toNat (show 1 * x842.toInt + 1 = x866.toInt by omega))).trans c971
          refine lv_bipush (v := 61) hx hb dX12_compare_80 (by decide) ?_
          refine lv_icmp_ne (tgt := 89) hx hb dX12_compare_82 (by decide) (fun c972 => ?_) (fun c972 => ?_)
          · have c972 : ¬ x970.toInt = (61 : Int) := wk_eqF c972
            refine lv_iconst (v := 0) hx hb dX12_compare_89 (by decide) ?_
            refine lv_istore_n (lv' := [(3, .int 0), (2, .int x842), (1, .int r834), (0, .ref (ad 0))]) hx hb dX12_compare_90 rfl hl (by decide) rfl (fun ls hl => ?_)
            refine lv_iload_n hx hb dX12_compare_91 rfl (lv_at hl 0 rfl) ?_
            refine lv_if_eq (tgt := 105) hx hb dX12_compare_92 (by decide) (fun _ => ?_) (fun c => absurd (by decide) c)
            refine lv_aload_n hx hb dX12_compare_105 rfl (lv_at hl 3 rfl) ?_
            refine lv_iload_n hx hb dX12_compare_106 rfl (lv_at hl 1 rfl) ?_
            refine tk_Vi hC hK hw hT hA hE hSR kM_at0 (by decide) rfl (k_X12_makes_1 l adK adV dC dI cy ad B (by omega) (by omega) qr s1   x842 (show 0 ≤ x842.toInt by omega) (show x842.toInt ≤ 398 by omega) w867 H.size hT x29 c872 (show 0 ≤ x29.toInt by omega) (show x29.toInt ≤ 60 by omega)) (cwV 1 hC.2.2.2.2 gX12_compare_X12_makes rfl rfl rfl (by decide +kernel) ⟨Nat.le_of_ble_eq_true rfl, Nat.le_of_ble_eq_true rfl⟩) rfl hl.1 rfl (Nat.le_of_ble_eq_true rfl) dX12_compare_107 (fun r973 w975 H locs hp974 hw => ?_)
            obtain ⟨hT, k976, hg984⟩ := hp974
            have hF := hF.tr k976 (by decide)
            have c985 := k976.gi kM_at0 (by decide) c870
            have c986 := k976.gi kM_at0 (by decide) c871
            have c987 := k976.gi kM_at3 rfl c873
            have c988 := k976.gi kM_at0 (by decide) c868
            have c989 := k976.gi kM_at1 rfl c971
            rcases hg984 with ⟨rfl, ⟨x977, c978, rx977, tx977⟩, ⟨x979, c980, rx979, tx979⟩⟩ | ⟨rfl, ⟨x981, c982, rx981, tx981⟩, g983⟩
            · refine lv_if_ne (tgt := 115) hx hb dX12_compare_110 (by decide) (fun c => absurd (by decide) c) (fun _ => ?_)
              refine lv_iconst (v := 0) hx hb dX12_compare_113 (by decide) ?_
              exact tk_zret hC hr rfl hlocks hK ⟨hT, hF, (Or.inl ⟨rfl, ⟨x25, c986, (show 1 ≤ x25.toInt by omega), (show x25.toInt ≤ 400 by omega)⟩, ⟨x977, c978, (show 1 ≤ x977.toInt by omega), (show x977.toInt ≤ 3205 by omega)⟩, ⟨f0_, c985, (show 0 ≤ f0_.toInt by omega), (show f0_.toInt ≤ 5 by omega)⟩⟩)⟩ hw dX12_compare_114
            · have g983 : x981.toInt = x29.toInt + 1 := by have q := g983; simp only [c870, c985, c872, c982] at q; omega
              refine lv_if_ne (tgt := 115) hx hb dX12_compare_110 (by decide) (fun _ => ?_) (fun c => absurd c (by decide))
              refine lv_iload_n hx hb dX12_compare_115 rfl (lv_at hl 2 rfl) ?_
              refine lv_bipush (v := 60) hx hb dX12_compare_116 (by decide) ?_
              refine lv_icmp_ne (tgt := 133) hx hb dX12_compare_118 (by decide) (fun c => (c (wk_eq.mpr (show r834.toInt = (60 : Int) by omega))).elim) (fun _ => ?_)
              refine lv_iload_n hx hb dX12_compare_121 rfl (lv_at hl 0 rfl) ?_
              refine lv_if_eq (tgt := 129) hx hb dX12_compare_122 (by decide) (fun _ => ?_) (fun c => absurd (by decide) c)
              refine lv_iconst (v := 0) hx hb dX12_compare_129 (by decide) ?_
              refine lv_goto (tgt := 152) hx hb dX12_compare_130 (by decide) ?_
              refine lv_istore (lv' := [(4, .int 0), (3, .int 0), (2, .int x842), (1, .int r834), (0, .ref (ad 0))]) hx hb dX12_compare_152 hl (by decide) rfl (fun ls hl => ?_)
              refine lv_aload_n hx hb dX12_compare_154 rfl (lv_at hl 4 rfl) ?_
              refine tk_Vi hC hK hw hT hA hE hSR kM_at0 (by decide) rfl (k_X12_sum_1 l adK adV dC dI cy ad B (by omega) (by omega) qr s1    w975 H.size hT f0_ c985 (show 0 ≤ f0_.toInt by omega) (show f0_.toInt ≤ 5 by omega) x981 c982 (show 0 ≤ x981.toInt by omega) (show x981.toInt ≤ 60 by omega) x45 c987 (show 0 ≤ x45.toInt by omega) (show x45.toInt ≤ 400 by omega) (show 3 * x45.toInt ≤ 14 * x981.toInt + 60 by omega) (show x45.toInt ≤ 300 by omega)) (cwV 0 hC.2.2.2.2 gX12_compare_X12_sum rfl rfl rfl (by decide +kernel) ⟨Nat.le_of_ble_eq_true rfl, Nat.le_of_ble_eq_true rfl⟩) rfl hl.1 rfl (Nat.le_of_ble_eq_true rfl) dX12_compare_155 (fun r990 w992 H locs hp991 hw => ?_)
              obtain ⟨hT, k993, hg1022⟩ := hp991
              have hF := hF.tr k993 (by decide)
              have c1023 := k993.gi kM_at0 (by decide) c985
              have c1024 := k993.gi kM_at0 (by decide) c986
              have c1025 := k993.gi kM_at1 rfl c989
              rcases hg1022 with ⟨rfl, ⟨x994, c995, rx994, tx994⟩, ⟨x996, c997, rx996, tx996⟩, ⟨x998, c999, rx998, tx998⟩⟩ | ⟨rfl, ⟨x1000, c1001, rx1000, tx1000⟩, ⟨x1002, c1003, rx1002, tx1002⟩, ⟨x1004, c1005, rx1004, tx1004⟩⟩ | ⟨rfl, ⟨x1006, c1007, rx1006, tx1006⟩, ⟨x1008, c1009, rx1008, tx1008⟩, ⟨x1010, c1011, rx1010, tx1010⟩, g1012, g1013⟩ | ⟨rfl, ⟨x1014, c1015, rx1014, tx1014⟩, ⟨x1016, c1017, rx1016, tx1016⟩, ⟨x1018, c1019, rx1018, tx1018⟩, g1020, g1021⟩
              · have ex994 : x994.toInt = x25.toInt := by rw [← c1024.symm.trans c995]
                have ex998 : x998.toInt = f0_.toInt := by rw [← c1023.symm.trans c999]
                obtain ⟨x1026, c1027, rx1026, tx1026⟩ := hT.rda (lo := 0) (hi := 400) (i := (f0_.toInt).toNat) kM_at3 rfl rfl (by omega)
                obtain ⟨x1028, c1029, rx1028, tx1028⟩ := hT.rdi (lo := 0) (hi := 60) (k := 18) kM_at0 (by decide) rfl
                refine lv_if_ne (tgt := 163) hx hb dX12_compare_158 (by decide) (fun c => absurd (by decide) c) (fun _ => ?_)
                refine lv_iconst (v := 0) hx hb dX12_compare_161 (by decide) ?_
                exact tk_zret hC hr rfl hlocks hK ⟨hT, hF, (Or.inl ⟨rfl, ⟨x25, c1024, (show 1 ≤ x25.toInt by omega), (show x25.toInt ≤ 400 by omega)⟩, ⟨x996, c997, (show 1 ≤ x996.toInt by omega), (show x996.toInt ≤ 3205 by omega)⟩, ⟨f0_, c1023, (show 0 ≤ f0_.toInt by omega), (show f0_.toInt ≤ 5 by omega)⟩⟩)⟩ hw dX12_compare_162
              · have ex1000 : x1000.toInt = x25.toInt := by rw [← c1024.symm.trans c1001]
                have ex1004 : x1004.toInt = f0_.toInt := by rw [← c1023.symm.trans c1005]
                obtain ⟨x1030, c1031, rx1030, tx1030⟩ := hT.rda (lo := 0) (hi := 400) (i := (f0_.toInt).toNat) kM_at3 rfl rfl (by omega)
                obtain ⟨x1032, c1033, rx1032, tx1032⟩ := hT.rdi (lo := 0) (hi := 60) (k := 18) kM_at0 (by decide) rfl
                refine lv_if_ne (tgt := 163) hx hb dX12_compare_158 (by decide) (fun c => absurd (by decide) c) (fun _ => ?_)
                refine lv_iconst (v := 0) hx hb dX12_compare_161 (by decide) ?_
                exact tk_zret hC hr rfl hlocks hK ⟨hT, hF, (Or.inl ⟨rfl, ⟨x25, c1024, (show 1 ≤ x25.toInt by omega), (show x25.toInt ≤ 400 by omega)⟩, ⟨x1002, c1003, (show 1 ≤ x1002.toInt by omega), (show x1002.toInt ≤ 3205 by omega)⟩, ⟨f0_, c1023, (show 0 ≤ f0_.toInt by omega), (show f0_.toInt ≤ 5 by omega)⟩⟩)⟩ hw dX12_compare_162
              · have ex1006 : x1006.toInt = x25.toInt := by rw [← c1024.symm.trans c1007]
                have ex1008 : x1008.toInt = f0_.toInt := by rw [← c1023.symm.trans c1009]
                obtain ⟨x1034, c1035, rx1034, tx1034⟩ := hT.rda (lo := 0) (hi := 400) (i := (f0_.toInt).toNat) kM_at3 rfl rfl (by omega)
                have g1012 : 3 * x1034.toInt + 11 ≤ 3 * x45.toInt + 14 * (x1010.toInt - x981.toInt) := by have q := g1012; simp only [c985, c1023, c987, c1035, c982, c1011] at q; omega
                have g1013 : x981.toInt + 1 ≤ x1010.toInt := by have q := g1013; simp only [c985, c1023, c982, c1011] at q; omega
                refine lv_if_ne (tgt := 163) hx hb dX12_compare_158 (by decide) (fun _ => ?_) (fun c => absurd c (by decide))
                refine lv_aload_n hx hb dX12_compare_163 rfl (lv_at hl 4 rfl) ?_
                refine lv_bipush (v := 6) hx hb dX12_compare_164 (by decide) ?_
                refine lv_iload hx hb dX12_compare_166 (lv_at hl 0 rfl) ?_
                refine lv_iadd hx hb dX12_compare_168 ?_
                refine wk_top 6 (by decide) ?_
                refine lv_iconst (v := 0) hx hb dX12_compare_169 (by decide) ?_
                refine tk_Vv hC hK hw hT hA hE hSR kM_at0 (by decide) rfl (k_X12_puts_1 l adK adV dC dI cy ad B (by omega) (by omega) qr s1   6 (by decide) (by decide) 0 w992 H.size hT f0_ c1023 (show 0 ≤ f0_.toInt by omega) (show f0_.toInt ≤ 5 by omega) x1034 c1035 (show 0 ≤ x1034.toInt by omega) (show x1034.toInt ≤ 400 by omega) (show x1034.toInt ≤ 399 by omega)) (cwV 2 hC.2.2.2.2 gX12_compare_X12_puts rfl rfl rfl (by decide +kernel) ⟨Nat.le_of_ble_eq_true rfl, Nat.le_of_ble_eq_true rfl⟩) rfl hl.1 rfl (Nat.le_of_ble_eq_true rfl) dX12_compare_170 (fun w1040 H locs hp1039 hw => ?_)
                obtain ⟨hT, k1041, hg1045⟩ := hp1039
                have hF := hF.tr k1041 (by decide)
                have c1046 := k1041.gi kM_at0 (by decide) c1023
                have c1047 := k1041.gi kM_at0 (by decide) c1024
                have c1048 := k1041.gi kM_at1 rfl c1025
                have c1049 := k1041.gi kM_at0 (by decide) c1011
                obtain ⟨⟨x1042, c1043, rx1042, tx1042⟩, g1044⟩ := hg1045
                have ex1042 : x1042.toInt = f0_.toInt := by rw [← c1046.symm.trans c1043]
                obtain ⟨x1050, c1051, rx1050, tx1050⟩ := hT.rda (lo := 0) (hi := 400) (i := (f0_.toInt).toNat) kM_at3 rfl rfl (by omega)
                have g1044 : x1050.toInt = x1034.toInt + 1 := by have q := g1044; simp only [c1023, c1046, c1035, c1051] at q; omega
                refine lv_iconst (v := 1) hx hb dX12_compare_173 (by decide) ?_
                exact tk_zret hC hr rfl hlocks hK ⟨hT, hF, (Or.inr (Or.inr ⟨rfl, ⟨x25, c1047, (show 1 ≤ x25.toInt by omega), (show x25.toInt ≤ 400 by omega)⟩, ⟨f0_, c1046, (show 0 ≤ f0_.toInt by omega), (show f0_.toInt ≤ 5 by omega)⟩, ⟨x1010, c1049, (show 1 ≤ x1010.toInt by omega), (show x1010.toInt ≤ 60 by omega)⟩, (by simp only [c1046, cf0_, cf2_, c1051, cf1_, c1049]; omega), (by simp only [c1046, cf0_, cf1_, c1049]; omega)⟩))⟩ hw dX12_compare_174
              · have ex1014 : x1014.toInt = x25.toInt := by rw [← c1024.symm.trans c1015]
                have ex1016 : x1016.toInt = f0_.toInt := by rw [← c1023.symm.trans c1017]
                obtain ⟨x1036, c1037, rx1036, tx1036⟩ := hT.rda (lo := 0) (hi := 400) (i := (f0_.toInt).toNat) kM_at3 rfl rfl (by omega)
                have g1020 : 3 * x1036.toInt + 11 ≤ 3 * x45.toInt + 14 * (x1018.toInt - x981.toInt) := by have q := g1020; simp only [c985, c1023, c987, c1037, c982, c1019] at q; omega
                have g1021 : x981.toInt + 1 ≤ x1018.toInt := by have q := g1021; simp only [c985, c1023, c982, c1019] at q; omega
                refine lv_if_ne (tgt := 163) hx hb dX12_compare_158 (by decide) (fun _ => ?_) (fun c => absurd c (by decide))
                refine lv_aload_n hx hb dX12_compare_163 rfl (lv_at hl 4 rfl) ?_
                refine lv_bipush (v := 6) hx hb dX12_compare_164 (by decide) ?_
                refine lv_iload hx hb dX12_compare_166 (lv_at hl 0 rfl) ?_
                refine lv_iadd hx hb dX12_compare_168 ?_
                refine wk_top 6 (by decide) ?_
                refine lv_iconst (v := 0) hx hb dX12_compare_169 (by decide) ?_
                refine tk_Vv hC hK hw hT hA hE hSR kM_at0 (by decide) rfl (k_X12_puts_1 l adK adV dC dI cy ad B (by omega) (by omega) qr s1   6 (by decide) (by decide) 0 w992 H.size hT f0_ c1023 (show 0 ≤ f0_.toInt by omega) (show f0_.toInt ≤ 5 by omega) x1036 c1037 (show 0 ≤ x1036.toInt by omega) (show x1036.toInt ≤ 400 by omega) (show x1036.toInt ≤ 399 by omega)) (cwV 2 hC.2.2.2.2 gX12_compare_X12_puts rfl rfl rfl (by decide +kernel) ⟨Nat.le_of_ble_eq_true rfl, Nat.le_of_ble_eq_true rfl⟩) rfl hl.1 rfl (Nat.le_of_ble_eq_true rfl) dX12_compare_170 (fun w1054 H locs hp1053 hw => ?_)
                obtain ⟨hT, k1055, hg1059⟩ := hp1053
                have hF := hF.tr k1055 (by decide)
                have c1060 := k1055.gi kM_at0 (by decide) c1023
                have c1061 := k1055.gi kM_at0 (by decide) c1024
                have c1062 := k1055.gi kM_at1 rfl c1025
                have c1063 := k1055.gi kM_at0 (by decide) c1019
                obtain ⟨⟨x1056, c1057, rx1056, tx1056⟩, g1058⟩ := hg1059
                have ex1056 : x1056.toInt = f0_.toInt := by rw [← c1060.symm.trans c1057]
                obtain ⟨x1064, c1065, rx1064, tx1064⟩ := hT.rda (lo := 0) (hi := 400) (i := (f0_.toInt).toNat) kM_at3 rfl rfl (by omega)
                have g1058 : x1064.toInt = x1036.toInt + 1 := by have q := g1058; simp only [c1023, c1060, c1037, c1065] at q; omega
                refine lv_iconst (v := 1) hx hb dX12_compare_173 (by decide) ?_
                exact tk_zret hC hr rfl hlocks hK ⟨hT, hF, (Or.inr (Or.inr ⟨rfl, ⟨x25, c1061, (show 1 ≤ x25.toInt by omega), (show x25.toInt ≤ 400 by omega)⟩, ⟨f0_, c1060, (show 0 ≤ f0_.toInt by omega), (show f0_.toInt ≤ 5 by omega)⟩, ⟨x1018, c1063, (show 1 ≤ x1018.toInt by omega), (show x1018.toInt ≤ 60 by omega)⟩, (by simp only [c1060, cf0_, cf2_, c1065, cf1_, c1063]; omega), (by simp only [c1060, cf0_, cf1_, c1063]; omega)⟩))⟩ hw dX12_compare_174
          · have c972 : x970.toInt = (61 : Int) := wk_eq.mp c972
            refine lv_iconst (v := 1) hx hb dX12_compare_85 (by decide) ?_
            refine lv_goto (tgt := 90) hx hb dX12_compare_86 (by decide) ?_
            refine lv_istore_n (lv' := [(3, .int 1), (2, .int x842), (1, .int r834), (0, .ref (ad 0))]) hx hb dX12_compare_90 rfl hl (by decide) rfl (fun ls hl => ?_)
            refine lv_iload_n hx hb dX12_compare_91 rfl (lv_at hl 0 rfl) ?_
            refine lv_if_eq (tgt := 105) hx hb dX12_compare_92 (by decide) (fun c => absurd c (by decide)) (fun _ => ?_)
            refine lv_aload_n hx hb dX12_compare_95 rfl (lv_at hl 3 rfl) ?_
            refine lv_dup hx hb dX12_compare_96 rfl ?_
            refine tk_geti hC hK hw hT hinX12 kM_at0 (by decide) rfl 14 (by decide) (List.mem_of_getElem? (i := 1) rfl) rfl rfl dX12_compare_97 (fun x1066 c1067 rx1066 tx1066 => ?_)
            refine wk_top x866 (c1067.symm.trans c868) ?_
            refine lv_iconst (v := 1) hx hb dX12_compare_100 (by decide) ?_
            refine lv_iadd hx hb dX12_compare_101 ?_
            refine lv_topi (fun x1068 ex1068 => ?_)
            have ex1068 : x1068.toInt = x866.toInt + (1 : Int) := by rw [ex1068]; exact wk_add (show (-2147483648) ≤ x866.toInt + (1 : Int) by omega) (show x866.toInt + (1 : Int) ≤ 2147483647 by omega)
            refine tk_puti hC hK hw hT hinX12 tyX12_ok nmX12 kM_at0 (by decide) rfl rfl 14 (by decide) (List.mem_of_getElem? (i := 1) rfl) rfl rfl rfl rfl (show 0 ≤ x1068.toInt by omega) (show x1068.toInt ≤ 400 by omega) dX12_compare_102 (fun H locs w1069 hw hT k1071 c1070 => ?_)
            have hF := hF.put kM_at0 (k := 14) (by decide) k1071
            have c1072 := k1071.gi (Or.inr (by decide)) c870
            have c1073 := k1071.gi (Or.inr (by decide)) c871
            have c1074 := k1071.gi (Or.inr (by decide)) c872
            have c1075 := k1071.gi (Or.inl (tk_ne kM_at3 kM_at0 (by decide))) c873
            have c1076 := k1071.gi (Or.inl (tk_ne kM_at1 kM_at0 (by decide))) c971
            refine lv_aload_n hx hb dX12_compare_105 rfl (lv_at hl 3 rfl) ?_
            refine lv_iload_n hx hb dX12_compare_106 rfl (lv_at hl 1 rfl) ?_
            refine tk_Vi hC hK hw hT hA hE hSR kM_at0 (by decide) rfl (k_X12_makes_1 l adK adV dC dI cy ad B (by omega) (by omega) qr s1   x842 (show 0 ≤ x842.toInt by omega) (show x842.toInt ≤ 398 by omega) w1069 H.size hT x29 c1074 (show 0 ≤ x29.toInt by omega) (show x29.toInt ≤ 60 by omega)) (cwV 1 hC.2.2.2.2 gX12_compare_X12_makes rfl rfl rfl (by decide +kernel) ⟨Nat.le_of_ble_eq_true rfl, Nat.le_of_ble_eq_true rfl⟩) rfl hl.1 rfl (Nat.le_of_ble_eq_true rfl) dX12_compare_107 (fun r1077 w1079 H locs hp1078 hw => ?_)
            obtain ⟨hT, k1080, hg1088⟩ := hp1078
            have hF := hF.tr k1080 (by decide)
            have c1089 := k1080.gi kM_at0 (by decide) c1072
            have c1090 := k1080.gi kM_at0 (by decide) c1073
            have c1091 := k1080.gi kM_at3 rfl c1075
            have c1092 := k1080.gi kM_at1 rfl c1076
            have c1093 := k1080.gi kM_at0 (by decide) c1070
            rcases hg1088 with ⟨rfl, ⟨x1081, c1082, rx1081, tx1081⟩, ⟨x1083, c1084, rx1083, tx1083⟩⟩ | ⟨rfl, ⟨x1085, c1086, rx1085, tx1085⟩, g1087⟩
            · refine lv_if_ne (tgt := 115) hx hb dX12_compare_110 (by decide) (fun c => absurd (by decide) c) (fun _ => ?_)
              refine lv_iconst (v := 0) hx hb dX12_compare_113 (by decide) ?_
              exact tk_zret hC hr rfl hlocks hK ⟨hT, hF, (Or.inl ⟨rfl, ⟨x25, c1090, (show 1 ≤ x25.toInt by omega), (show x25.toInt ≤ 400 by omega)⟩, ⟨x1081, c1082, (show 1 ≤ x1081.toInt by omega), (show x1081.toInt ≤ 3205 by omega)⟩, ⟨f0_, c1089, (show 0 ≤ f0_.toInt by omega), (show f0_.toInt ≤ 5 by omega)⟩⟩)⟩ hw dX12_compare_114
            · have g1087 : x1085.toInt = x29.toInt + 1 := by have q := g1087; simp only [c1072, c1089, c1074, c1086] at q; omega
              refine lv_if_ne (tgt := 115) hx hb dX12_compare_110 (by decide) (fun _ => ?_) (fun c => absurd c (by decide))
              refine lv_iload_n hx hb dX12_compare_115 rfl (lv_at hl 2 rfl) ?_
              refine lv_bipush (v := 60) hx hb dX12_compare_116 (by decide) ?_
              refine lv_icmp_ne (tgt := 133) hx hb dX12_compare_118 (by decide) (fun c => (c (wk_eq.mpr (show r834.toInt = (60 : Int) by omega))).elim) (fun _ => ?_)
              refine lv_iload_n hx hb dX12_compare_121 rfl (lv_at hl 0 rfl) ?_
              refine lv_if_eq (tgt := 129) hx hb dX12_compare_122 (by decide) (fun c => absurd c (by decide)) (fun _ => ?_)
              refine lv_iconst (v := 1) hx hb dX12_compare_125 (by decide) ?_
              refine lv_goto (tgt := 152) hx hb dX12_compare_126 (by decide) ?_
              refine lv_istore (lv' := [(4, .int 1), (3, .int 1), (2, .int x842), (1, .int r834), (0, .ref (ad 0))]) hx hb dX12_compare_152 hl (by decide) rfl (fun ls hl => ?_)
              refine lv_aload_n hx hb dX12_compare_154 rfl (lv_at hl 4 rfl) ?_
              refine tk_Vi hC hK hw hT hA hE hSR kM_at0 (by decide) rfl (k_X12_sum_1 l adK adV dC dI cy ad B (by omega) (by omega) qr s1    w1079 H.size hT f0_ c1089 (show 0 ≤ f0_.toInt by omega) (show f0_.toInt ≤ 5 by omega) x1085 c1086 (show 0 ≤ x1085.toInt by omega) (show x1085.toInt ≤ 60 by omega) x45 c1091 (show 0 ≤ x45.toInt by omega) (show x45.toInt ≤ 400 by omega) (show 3 * x45.toInt ≤ 14 * x1085.toInt + 60 by omega) (show x45.toInt ≤ 300 by omega)) (cwV 0 hC.2.2.2.2 gX12_compare_X12_sum rfl rfl rfl (by decide +kernel) ⟨Nat.le_of_ble_eq_true rfl, Nat.le_of_ble_eq_true rfl⟩) rfl hl.1 rfl (Nat.le_of_ble_eq_true rfl) dX12_compare_155 (fun r1094 w1096 H locs hp1095 hw => ?_)
              obtain ⟨hT, k1097, hg1126⟩ := hp1095
              have hF := hF.tr k1097 (by decide)
              have c1127 := k1097.gi kM_at0 (by decide) c1089
              have c1128 := k1097.gi kM_at0 (by decide) c1090
              have c1129 := k1097.gi kM_at1 rfl c1092
              rcases hg1126 with ⟨rfl, ⟨x1098, c1099, rx1098, tx1098⟩, ⟨x1100, c1101, rx1100, tx1100⟩, ⟨x1102, c1103, rx1102, tx1102⟩⟩ | ⟨rfl, ⟨x1104, c1105, rx1104, tx1104⟩, ⟨x1106, c1107, rx1106, tx1106⟩, ⟨x1108, c1109, rx1108, tx1108⟩⟩ | ⟨rfl, ⟨x1110, c1111, rx1110, tx1110⟩, ⟨x1112, c1113, rx1112, tx1112⟩, ⟨x1114, c1115, rx1114, tx1114⟩, g1116, g1117⟩ | ⟨rfl, ⟨x1118, c1119, rx1118, tx1118⟩, ⟨x1120, c1121, rx1120, tx1120⟩, ⟨x1122, c1123, rx1122, tx1122⟩, g1124, g1125⟩
              · have ex1098 : x1098.toInt = x25.toInt := by rw [← c1128.symm.trans c1099]
                have ex1102 : x1102.toInt = f0_.toInt := by rw [← c1127.symm.trans c1103]
                obtain ⟨x1130, c1131, rx1130, tx1130⟩ := hT.rda (lo := 0) (hi := 400) (i := (f0_.toInt).toNat) kM_at3 rfl rfl (by omega)
                obtain ⟨x1132, c1133, rx1132, tx1132⟩ := hT.rdi (lo := 0) (hi := 60) (k := 18) kM_at0 (by decide) rfl
                refine lv_if_ne (tgt := 163) hx hb dX12_compare_158 (by decide) (fun c => absurd (by decide) c) (fun _ => ?_)
                refine lv_iconst (v := 0) hx hb dX12_compare_161 (by decide) ?_
                exact tk_zret hC hr rfl hlocks hK ⟨hT, hF, (Or.inl ⟨rfl, ⟨x25, c1128, (show 1 ≤ x25.toInt by omega), (show x25.toInt ≤ 400 by omega)⟩, ⟨x1100, c1101, (show 1 ≤ x1100.toInt by omega), (show x1100.toInt ≤ 3205 by omega)⟩, ⟨f0_, c1127, (show 0 ≤ f0_.toInt by omega), (show f0_.toInt ≤ 5 by omega)⟩⟩)⟩ hw dX12_compare_162
              · have ex1104 : x1104.toInt = x25.toInt := by rw [← c1128.symm.trans c1105]
                have ex1108 : x1108.toInt = f0_.toInt := by rw [← c1127.symm.trans c1109]
                obtain ⟨x1134, c1135, rx1134, tx1134⟩ := hT.rda (lo := 0) (hi := 400) (i := (f0_.toInt).toNat) kM_at3 rfl rfl (by omega)
                obtain ⟨x1136, c1137, rx1136, tx1136⟩ := hT.rdi (lo := 0) (hi := 60) (k := 18) kM_at0 (by decide) rfl
                refine lv_if_ne (tgt := 163) hx hb dX12_compare_158 (by decide) (fun c => absurd (by decide) c) (fun _ => ?_)
                refine lv_iconst (v := 0) hx hb dX12_compare_161 (by decide) ?_
                exact tk_zret hC hr rfl hlocks hK ⟨hT, hF, (Or.inl ⟨rfl, ⟨x25, c1128, (show 1 ≤ x25.toInt by omega), (show x25.toInt ≤ 400 by omega)⟩, ⟨x1106, c1107, (show 1 ≤ x1106.toInt by omega), (show x1106.toInt ≤ 3205 by omega)⟩, ⟨f0_, c1127, (show 0 ≤ f0_.toInt by omega), (show f0_.toInt ≤ 5 by omega)⟩⟩)⟩ hw dX12_compare_162
              · have ex1110 : x1110.toInt = x25.toInt := by rw [← c1128.symm.trans c1111]
                have ex1112 : x1112.toInt = f0_.toInt := by rw [← c1127.symm.trans c1113]
                obtain ⟨x1138, c1139, rx1138, tx1138⟩ := hT.rda (lo := 0) (hi := 400) (i := (f0_.toInt).toNat) kM_at3 rfl rfl (by omega)
                have g1116 : 3 * x1138.toInt + 11 ≤ 3 * x45.toInt + 14 * (x1114.toInt - x1085.toInt) := by have q := g1116; simp only [c1089, c1127, c1091, c1139, c1086, c1115] at q; omega
                have g1117 : x1085.toInt + 1 ≤ x1114.toInt := by have q := g1117; simp only [c1089, c1127, c1086, c1115] at q; omega
                refine lv_if_ne (tgt := 163) hx hb dX12_compare_158 (by decide) (fun _ => ?_) (fun c => absurd c (by decide))
                refine lv_aload_n hx hb dX12_compare_163 rfl (lv_at hl 4 rfl) ?_
                refine lv_bipush (v := 6) hx hb dX12_compare_164 (by decide) ?_
                refine lv_iload hx hb dX12_compare_166 (lv_at hl 0 rfl) ?_
                refine lv_iadd hx hb dX12_compare_168 ?_
                refine wk_top 7 (by decide) ?_
                refine lv_iconst (v := 0) hx hb dX12_compare_169 (by decide) ?_
                refine tk_Vv hC hK hw hT hA hE hSR kM_at0 (by decide) rfl (k_X12_puts_1 l adK adV dC dI cy ad B (by omega) (by omega) qr s1   7 (by decide) (by decide) 0 w1096 H.size hT f0_ c1127 (show 0 ≤ f0_.toInt by omega) (show f0_.toInt ≤ 5 by omega) x1138 c1139 (show 0 ≤ x1138.toInt by omega) (show x1138.toInt ≤ 400 by omega) (show x1138.toInt ≤ 399 by omega)) (cwV 2 hC.2.2.2.2 gX12_compare_X12_puts rfl rfl rfl (by decide +kernel) ⟨Nat.le_of_ble_eq_true rfl, Nat.le_of_ble_eq_true rfl⟩) rfl hl.1 rfl (Nat.le_of_ble_eq_true rfl) dX12_compare_170 (fun w1144 H locs hp1143 hw => ?_)
                obtain ⟨hT, k1145, hg1149⟩ := hp1143
                have hF := hF.tr k1145 (by decide)
                have c1150 := k1145.gi kM_at0 (by decide) c1127
                have c1151 := k1145.gi kM_at0 (by decide) c1128
                have c1152 := k1145.gi kM_at1 rfl c1129
                have c1153 := k1145.gi kM_at0 (by decide) c1115
                obtain ⟨⟨x1146, c1147, rx1146, tx1146⟩, g1148⟩ := hg1149
                have ex1146 : x1146.toInt = f0_.toInt := by rw [← c1150.symm.trans c1147]
                obtain ⟨x1154, c1155, rx1154, tx1154⟩ := hT.rda (lo := 0) (hi := 400) (i := (f0_.toInt).toNat) kM_at3 rfl rfl (by omega)
                have g1148 : x1154.toInt = x1138.toInt + 1 := by have q := g1148; simp only [c1127, c1150, c1139, c1155] at q; omega
                refine lv_iconst (v := 1) hx hb dX12_compare_173 (by decide) ?_
                exact tk_zret hC hr rfl hlocks hK ⟨hT, hF, (Or.inr (Or.inr ⟨rfl, ⟨x25, c1151, (show 1 ≤ x25.toInt by omega), (show x25.toInt ≤ 400 by omega)⟩, ⟨f0_, c1150, (show 0 ≤ f0_.toInt by omega), (show f0_.toInt ≤ 5 by omega)⟩, ⟨x1114, c1153, (show 1 ≤ x1114.toInt by omega), (show x1114.toInt ≤ 60 by omega)⟩, (by simp only [c1150, cf0_, cf2_, c1155, cf1_, c1153]; omega), (by simp only [c1150, cf0_, cf1_, c1153]; omega)⟩))⟩ hw dX12_compare_174
              · have ex1118 : x1118.toInt = x25.toInt := by rw [← c1128.symm.trans c1119]
                have ex1120 : x1120.toInt = f0_.toInt := by rw [← c1127.symm.trans c1121]
                obtain ⟨x1140, c1141, rx1140, tx1140⟩ := hT.rda (lo := 0) (hi := 400) (i := (f0_.toInt).toNat) kM_at3 rfl rfl (by omega)
                have g1124 : 3 * x1140.toInt + 11 ≤ 3 * x45.toInt + 14 * (x1122.toInt - x1085.toInt) := by have q := g1124; simp only [c1089, c1127, c1091, c1141, c1086, c1123] at q; omega
                have g1125 : x1085.toInt + 1 ≤ x1122.toInt := by have q := g1125; simp only [c1089, c1127, c1086, c1123] at q; omega
                refine lv_if_ne (tgt := 163) hx hb dX12_compare_158 (by decide) (fun _ => ?_) (fun c => absurd c (by decide))
                refine lv_aload_n hx hb dX12_compare_163 rfl (lv_at hl 4 rfl) ?_
                refine lv_bipush (v := 6) hx hb dX12_compare_164 (by decide) ?_
                refine lv_iload hx hb dX12_compare_166 (lv_at hl 0 rfl) ?_
                refine lv_iadd hx hb dX12_compare_168 ?_
                refine wk_top 7 (by decide) ?_
                refine lv_iconst (v := 0) hx hb dX12_compare_169 (by decide) ?_
                refine tk_Vv hC hK hw hT hA hE hSR kM_at0 (by decide) rfl (k_X12_puts_1 l adK adV dC dI cy ad B (by omega) (by omega) qr s1   7 (by decide) (by decide) 0 w1096 H.size hT f0_ c1127 (show 0 ≤ f0_.toInt by omega) (show f0_.toInt ≤ 5 by omega) x1140 c1141 (show 0 ≤ x1140.toInt by omega) (show x1140.toInt ≤ 400 by omega) (show x1140.toInt ≤ 399 by omega)) (cwV 2 hC.2.2.2.2 gX12_compare_X12_puts rfl rfl rfl (by decide +kernel) ⟨Nat.le_of_ble_eq_true rfl, Nat.le_of_ble_eq_true rfl⟩) rfl hl.1 rfl (Nat.le_of_ble_eq_true rfl) dX12_compare_170 (fun w1158 H locs hp1157 hw => ?_)
                obtain ⟨hT, k1159, hg1163⟩ := hp1157
                have hF := hF.tr k1159 (by decide)
                have c1164 := k1159.gi kM_at0 (by decide) c1127
                have c1165 := k1159.gi kM_at0 (by decide) c1128
                have c1166 := k1159.gi kM_at1 rfl c1129
                have c1167 := k1159.gi kM_at0 (by decide) c1123
                obtain ⟨⟨x1160, c1161, rx1160, tx1160⟩, g1162⟩ := hg1163
                have ex1160 : x1160.toInt = f0_.toInt := by rw [← c1164.symm.trans c1161]
                obtain ⟨x1168, c1169, rx1168, tx1168⟩ := hT.rda (lo := 0) (hi := 400) (i := (f0_.toInt).toNat) kM_at3 rfl rfl (by omega)
                have g1162 : x1168.toInt = x1140.toInt + 1 := by have q := g1162; simp only [c1127, c1164, c1141, c1169] at q; omega
                refine lv_iconst (v := 1) hx hb dX12_compare_173 (by decide) ?_
                exact tk_zret hC hr rfl hlocks hK ⟨hT, hF, (Or.inr (Or.inr ⟨rfl, ⟨x25, c1165, (show 1 ≤ x25.toInt by omega), (show x25.toInt ≤ 400 by omega)⟩, ⟨f0_, c1164, (show 0 ≤ f0_.toInt by omega), (show f0_.toInt ≤ 5 by omega)⟩, ⟨x1122, c1167, (show 1 ≤ x1122.toInt by omega), (show x1122.toInt ≤ 60 by omega)⟩, (by simp only [c1164, cf0_, cf2_, c1169, cf1_, c1167]; omega), (by simp only [c1164, cf0_, cf1_, c1167]; omega)⟩))⟩ hw dX12_compare_174
      · have c863 : ¬ r834.toInt = (60 : Int) := wk_eqF c863
        refine lv_iload_n hx hb dX12_compare_25 rfl (lv_at hl 1 rfl) ?_
        refine lv_bipush (v := 61) hx hb dX12_compare_26 (by decide) ?_
        refine lv_icmp_eq (tgt := 44) hx hb dX12_compare_28 (by decide) (fun c1170 => ?_) (fun c1170 => ?_)
        · have c1170 : r834.toInt = (61 : Int) := wk_eq.mp c1170
          refine lv_aload_n hx hb dX12_compare_44 rfl (lv_at hl 2 rfl) ?_
          refine lv_dup hx hb dX12_compare_45 rfl ?_
          refine tk_geti hC hK hw hT hinX12 kM_at0 (by decide) rfl 14 (by decide) (List.mem_of_getElem? (i := 1) rfl) rfl rfl dX12_compare_46 (fun x1171 c1172 rx1171 tx1171 => ?_)
          refine wk_top x842 (c1172.symm.trans c843) ?_
          refine lv_iconst (v := 1) hx hb dX12_compare_49 (by decide) ?_
          refine lv_iadd hx hb dX12_compare_50 ?_
          refine lv_topi (fun x1173 ex1173 => ?_)
          have ex1173 : x1173.toInt = x842.toInt + (1 : Int) := by rw [ex1173]; exact wk_add (show (-2147483648) ≤ x842.toInt + (1 : Int) by omega) (show x842.toInt + (1 : Int) ≤ 2147483647 by omega)
          refine tk_puti hC hK hw hT hinX12 tyX12_ok nmX12 kM_at0 (by decide) rfl rfl 14 (by decide) (List.mem_of_getElem? (i := 1) rfl) rfl rfl rfl rfl (show 0 ≤ x1173.toInt by omega) (show x1173.toInt ≤ 400 by omega) dX12_compare_51 (fun H locs w1174 hw hT k1176 c1175 => ?_)
          have hF := hF.put kM_at0 (k := 14) (by decide) k1176
          have c1177 := k1176.gi (Or.inr (by decide)) c855
          have c1178 := k1176.gi (Or.inr (by decide)) c856
          have c1179 := k1176.gi (Or.inr (by decide)) c857
          have c1180 := k1176.gi (Or.inl (tk_ne kM_at3 kM_at0 (by decide))) c858
          refine lv_iload_n hx hb dX12_compare_54 rfl (lv_at hl 1 rfl) ?_
          refine lv_bipush (v := 61) hx hb dX12_compare_55 (by decide) ?_
          refine lv_icmp_eq (tgt := 89) hx hb dX12_compare_57 (by decide) (fun _ => ?_) (fun c => (c (wk_eq.mpr (show r834.toInt = (61 : Int) by omega))).elim)
          refine lv_iconst (v := 0) hx hb dX12_compare_89 (by decide) ?_
          refine lv_istore_n (lv' := [(3, .int 0), (2, .int x842), (1, .int r834), (0, .ref (ad 0))]) hx hb dX12_compare_90 rfl hl (by decide) rfl (fun ls hl => ?_)
          refine lv_iload_n hx hb dX12_compare_91 rfl (lv_at hl 0 rfl) ?_
          refine lv_if_eq (tgt := 105) hx hb dX12_compare_92 (by decide) (fun _ => ?_) (fun c => absurd (by decide) c)
          refine lv_aload_n hx hb dX12_compare_105 rfl (lv_at hl 3 rfl) ?_
          refine lv_iload_n hx hb dX12_compare_106 rfl (lv_at hl 1 rfl) ?_
          refine tk_Vi hC hK hw hT hA hE hSR kM_at0 (by decide) rfl (k_X12_makes_2 l adK adV dC dI cy ad B (by omega) (by omega) qr s1   x842 (show 0 ≤ x842.toInt by omega) (show x842.toInt ≤ 399 by omega) w1174 H.size hT x29 c1179 (show 0 ≤ x29.toInt by omega) (show x29.toInt ≤ 60 by omega)) (cwV 1 hC.2.2.2.2 gX12_compare_X12_makes rfl rfl rfl (by decide +kernel) ⟨Nat.le_of_ble_eq_true rfl, Nat.le_of_ble_eq_true rfl⟩) rfl hl.1 rfl (Nat.le_of_ble_eq_true rfl) dX12_compare_107 (fun r1181 w1183 H locs hp1182 hw => ?_)
          obtain ⟨hT, k1184, hg1192⟩ := hp1182
          have hF := hF.tr k1184 (by decide)
          have c1193 := k1184.gi kM_at0 (by decide) c1177
          have c1194 := k1184.gi kM_at0 (by decide) c1178
          have c1195 := k1184.gi kM_at3 rfl c1180
          have c1196 := k1184.gi kM_at0 (by decide) c1175
          rcases hg1192 with ⟨rfl, ⟨x1185, c1186, rx1185, tx1185⟩, ⟨x1187, c1188, rx1187, tx1187⟩⟩ | ⟨rfl, ⟨x1189, c1190, rx1189, tx1189⟩, g1191⟩
          · refine lv_if_ne (tgt := 115) hx hb dX12_compare_110 (by decide) (fun c => absurd (by decide) c) (fun _ => ?_)
            refine lv_iconst (v := 0) hx hb dX12_compare_113 (by decide) ?_
            exact tk_zret hC hr rfl hlocks hK ⟨hT, hF, (Or.inl ⟨rfl, ⟨x25, c1194, (show 1 ≤ x25.toInt by omega), (show x25.toInt ≤ 400 by omega)⟩, ⟨x1185, c1186, (show 1 ≤ x1185.toInt by omega), (show x1185.toInt ≤ 3205 by omega)⟩, ⟨f0_, c1193, (show 0 ≤ f0_.toInt by omega), (show f0_.toInt ≤ 5 by omega)⟩⟩)⟩ hw dX12_compare_114
          · have g1191 : x1189.toInt = x29.toInt + 1 := by have q := g1191; simp only [c1177, c1193, c1179, c1190] at q; omega
            refine lv_if_ne (tgt := 115) hx hb dX12_compare_110 (by decide) (fun _ => ?_) (fun c => absurd c (by decide))
            refine lv_iload_n hx hb dX12_compare_115 rfl (lv_at hl 2 rfl) ?_
            refine lv_bipush (v := 60) hx hb dX12_compare_116 (by decide) ?_
            refine lv_icmp_ne (tgt := 133) hx hb dX12_compare_118 (by decide) (fun _ => ?_) (fun c => absurd (show r834.toInt = (60 : Int) from wk_eq.mp c) (by omega))
            refine lv_iload_n hx hb dX12_compare_133 rfl (lv_at hl 2 rfl) ?_
            refine lv_bipush (v := 61) hx hb dX12_compare_134 (by decide) ?_
            refine lv_icmp_ne (tgt := 143) hx hb dX12_compare_136 (by decide) (fun c => (c (wk_eq.mpr (show r834.toInt = (61 : Int) by omega))).elim) (fun _ => ?_)
            refine lv_iconst (v := 2) hx hb dX12_compare_139 (by decide) ?_
            refine lv_goto (tgt := 152) hx hb dX12_compare_140 (by decide) ?_
            refine lv_istore (lv' := [(4, .int 2), (3, .int 0), (2, .int x842), (1, .int r834), (0, .ref (ad 0))]) hx hb dX12_compare_152 hl (by decide) rfl (fun ls hl => ?_)
            refine lv_aload_n hx hb dX12_compare_154 rfl (lv_at hl 4 rfl) ?_
            refine tk_Vi hC hK hw hT hA hE hSR kM_at0 (by decide) rfl (k_X12_sum_1 l adK adV dC dI cy ad B (by omega) (by omega) qr s1    w1183 H.size hT f0_ c1193 (show 0 ≤ f0_.toInt by omega) (show f0_.toInt ≤ 5 by omega) x1189 c1190 (show 0 ≤ x1189.toInt by omega) (show x1189.toInt ≤ 60 by omega) x45 c1195 (show 0 ≤ x45.toInt by omega) (show x45.toInt ≤ 400 by omega) (show 3 * x45.toInt ≤ 14 * x1189.toInt + 60 by omega) (show x45.toInt ≤ 300 by omega)) (cwV 0 hC.2.2.2.2 gX12_compare_X12_sum rfl rfl rfl (by decide +kernel) ⟨Nat.le_of_ble_eq_true rfl, Nat.le_of_ble_eq_true rfl⟩) rfl hl.1 rfl (Nat.le_of_ble_eq_true rfl) dX12_compare_155 (fun r1197 w1199 H locs hp1198 hw => ?_)
            obtain ⟨hT, k1200, hg1229⟩ := hp1198
            have hF := hF.tr k1200 (by decide)
            have c1230 := k1200.gi kM_at0 (by decide) c1193
            have c1231 := k1200.gi kM_at0 (by decide) c1194
            rcases hg1229 with ⟨rfl, ⟨x1201, c1202, rx1201, tx1201⟩, ⟨x1203, c1204, rx1203, tx1203⟩, ⟨x1205, c1206, rx1205, tx1205⟩⟩ | ⟨rfl, ⟨x1207, c1208, rx1207, tx1207⟩, ⟨x1209, c1210, rx1209, tx1209⟩, ⟨x1211, c1212, rx1211, tx1211⟩⟩ | ⟨rfl, ⟨x1213, c1214, rx1213, tx1213⟩, ⟨x1215, c1216, rx1215, tx1215⟩, ⟨x1217, c1218, rx1217, tx1217⟩, g1219, g1220⟩ | ⟨rfl, ⟨x1221, c1222, rx1221, tx1221⟩, ⟨x1223, c1224, rx1223, tx1223⟩, ⟨x1225, c1226, rx1225, tx1225⟩, g1227, g1228⟩
            · have ex1201 : x1201.toInt = x25.toInt := by rw [← c1231.symm.trans c1202]
              have ex1205 : x1205.toInt = f0_.toInt := by rw [← c1230.symm.trans c1206]
              obtain ⟨x1232, c1233, rx1232, tx1232⟩ := hT.rda (lo := 0) (hi := 400) (i := (f0_.toInt).toNat) kM_at3 rfl rfl (by omega)
              obtain ⟨x1234, c1235, rx1234, tx1234⟩ := hT.rdi (lo := 0) (hi := 60) (k := 18) kM_at0 (by decide) rfl
              refine lv_if_ne (tgt := 163) hx hb dX12_compare_158 (by decide) (fun c => absurd (by decide) c) (fun _ => ?_)
              refine lv_iconst (v := 0) hx hb dX12_compare_161 (by decide) ?_
              exact tk_zret hC hr rfl hlocks hK ⟨hT, hF, (Or.inl ⟨rfl, ⟨x25, c1231, (show 1 ≤ x25.toInt by omega), (show x25.toInt ≤ 400 by omega)⟩, ⟨x1203, c1204, (show 1 ≤ x1203.toInt by omega), (show x1203.toInt ≤ 3205 by omega)⟩, ⟨f0_, c1230, (show 0 ≤ f0_.toInt by omega), (show f0_.toInt ≤ 5 by omega)⟩⟩)⟩ hw dX12_compare_162
            · have ex1207 : x1207.toInt = x25.toInt := by rw [← c1231.symm.trans c1208]
              have ex1211 : x1211.toInt = f0_.toInt := by rw [← c1230.symm.trans c1212]
              obtain ⟨x1236, c1237, rx1236, tx1236⟩ := hT.rda (lo := 0) (hi := 400) (i := (f0_.toInt).toNat) kM_at3 rfl rfl (by omega)
              obtain ⟨x1238, c1239, rx1238, tx1238⟩ := hT.rdi (lo := 0) (hi := 60) (k := 18) kM_at0 (by decide) rfl
              refine lv_if_ne (tgt := 163) hx hb dX12_compare_158 (by decide) (fun c => absurd (by decide) c) (fun _ => ?_)
              refine lv_iconst (v := 0) hx hb dX12_compare_161 (by decide) ?_
              exact tk_zret hC hr rfl hlocks hK ⟨hT, hF, (Or.inl ⟨rfl, ⟨x25, c1231, (show 1 ≤ x25.toInt by omega), (show x25.toInt ≤ 400 by omega)⟩, ⟨x1209, c1210, (show 1 ≤ x1209.toInt by omega), (show x1209.toInt ≤ 3205 by omega)⟩, ⟨f0_, c1230, (show 0 ≤ f0_.toInt by omega), (show f0_.toInt ≤ 5 by omega)⟩⟩)⟩ hw dX12_compare_162
            · have ex1213 : x1213.toInt = x25.toInt := by rw [← c1231.symm.trans c1214]
              have ex1215 : x1215.toInt = f0_.toInt := by rw [← c1230.symm.trans c1216]
              obtain ⟨x1240, c1241, rx1240, tx1240⟩ := hT.rda (lo := 0) (hi := 400) (i := (f0_.toInt).toNat) kM_at3 rfl rfl (by omega)
              have g1219 : 3 * x1240.toInt + 11 ≤ 3 * x45.toInt + 14 * (x1217.toInt - x1189.toInt) := by have q := g1219; simp only [c1193, c1230, c1195, c1241, c1190, c1218] at q; omega
              have g1220 : x1189.toInt + 1 ≤ x1217.toInt := by have q := g1220; simp only [c1193, c1230, c1190, c1218] at q; omega
              refine lv_if_ne (tgt := 163) hx hb dX12_compare_158 (by decide) (fun _ => ?_) (fun c => absurd c (by decide))
              refine lv_aload_n hx hb dX12_compare_163 rfl (lv_at hl 4 rfl) ?_
              refine lv_bipush (v := 6) hx hb dX12_compare_164 (by decide) ?_
              refine lv_iload hx hb dX12_compare_166 (lv_at hl 0 rfl) ?_
              refine lv_iadd hx hb dX12_compare_168 ?_
              refine wk_top 8 (by decide) ?_
              refine lv_iconst (v := 0) hx hb dX12_compare_169 (by decide) ?_
              refine tk_Vv hC hK hw hT hA hE hSR kM_at0 (by decide) rfl (k_X12_puts_1 l adK adV dC dI cy ad B (by omega) (by omega) qr s1   8 (by decide) (by decide) 0 w1199 H.size hT f0_ c1230 (show 0 ≤ f0_.toInt by omega) (show f0_.toInt ≤ 5 by omega) x1240 c1241 (show 0 ≤ x1240.toInt by omega) (show x1240.toInt ≤ 400 by omega) (show x1240.toInt ≤ 399 by omega)) (cwV 2 hC.2.2.2.2 gX12_compare_X12_puts rfl rfl rfl (by decide +kernel) ⟨Nat.le_of_ble_eq_true rfl, Nat.le_of_ble_eq_true rfl⟩) rfl hl.1 rfl (Nat.le_of_ble_eq_true rfl) dX12_compare_170 (fun w1246 H locs hp1245 hw => ?_)
              obtain ⟨hT, k1247, hg1251⟩ := hp1245
              have hF := hF.tr k1247 (by decide)
              have c1252 := k1247.gi kM_at0 (by decide) c1230
              have c1253 := k1247.gi kM_at0 (by decide) c1231
              have c1254 := k1247.gi kM_at0 (by decide) c1218
              obtain ⟨⟨x1248, c1249, rx1248, tx1248⟩, g1250⟩ := hg1251
              have ex1248 : x1248.toInt = f0_.toInt := by rw [← c1252.symm.trans c1249]
              obtain ⟨x1255, c1256, rx1255, tx1255⟩ := hT.rda (lo := 0) (hi := 400) (i := (f0_.toInt).toNat) kM_at3 rfl rfl (by omega)
              have g1250 : x1255.toInt = x1240.toInt + 1 := by have q := g1250; simp only [c1230, c1252, c1241, c1256] at q; omega
              refine lv_iconst (v := 1) hx hb dX12_compare_173 (by decide) ?_
              exact tk_zret hC hr rfl hlocks hK ⟨hT, hF, (Or.inr (Or.inr ⟨rfl, ⟨x25, c1253, (show 1 ≤ x25.toInt by omega), (show x25.toInt ≤ 400 by omega)⟩, ⟨f0_, c1252, (show 0 ≤ f0_.toInt by omega), (show f0_.toInt ≤ 5 by omega)⟩, ⟨x1217, c1254, (show 1 ≤ x1217.toInt by omega), (show x1217.toInt ≤ 60 by omega)⟩, (by simp only [c1252, cf0_, cf2_, c1256, cf1_, c1254]; omega), (by simp only [c1252, cf0_, cf1_, c1254]; omega)⟩))⟩ hw dX12_compare_174
            · have ex1221 : x1221.toInt = x25.toInt := by rw [← c1231.symm.trans c1222]
              have ex1223 : x1223.toInt = f0_.toInt := by rw [← c1230.symm.trans c1224]
              obtain ⟨x1242, c1243, rx1242, tx1242⟩ := hT.rda (lo := 0) (hi := 400) (i := (f0_.toInt).toNat) kM_at3 rfl rfl (by omega)
              have g1227 : 3 * x1242.toInt + 11 ≤ 3 * x45.toInt + 14 * (x1225.toInt - x1189.toInt) := by have q := g1227; simp only [c1193, c1230, c1195, c1243, c1190, c1226] at q; omega
              have g1228 : x1189.toInt + 1 ≤ x1225.toInt := by have q := g1228; simp only [c1193, c1230, c1190, c1226] at q; omega
              refine lv_if_ne (tgt := 163) hx hb dX12_compare_158 (by decide) (fun _ => ?_) (fun c => absurd c (by decide))
              refine lv_aload_n hx hb dX12_compare_163 rfl (lv_at hl 4 rfl) ?_
              refine lv_bipush (v := 6) hx hb dX12_compare_164 (by decide) ?_
              refine lv_iload hx hb dX12_compare_166 (lv_at hl 0 rfl) ?_
              refine lv_iadd hx hb dX12_compare_168 ?_
              refine wk_top 8 (by decide) ?_
              refine lv_iconst (v := 0) hx hb dX12_compare_169 (by decide) ?_
              refine tk_Vv hC hK hw hT hA hE hSR kM_at0 (by decide) rfl (k_X12_puts_1 l adK adV dC dI cy ad B (by omega) (by omega) qr s1   8 (by decide) (by decide) 0 w1199 H.size hT f0_ c1230 (show 0 ≤ f0_.toInt by omega) (show f0_.toInt ≤ 5 by omega) x1242 c1243 (show 0 ≤ x1242.toInt by omega) (show x1242.toInt ≤ 400 by omega) (show x1242.toInt ≤ 399 by omega)) (cwV 2 hC.2.2.2.2 gX12_compare_X12_puts rfl rfl rfl (by decide +kernel) ⟨Nat.le_of_ble_eq_true rfl, Nat.le_of_ble_eq_true rfl⟩) rfl hl.1 rfl (Nat.le_of_ble_eq_true rfl) dX12_compare_170 (fun w1259 H locs hp1258 hw => ?_)
              obtain ⟨hT, k1260, hg1264⟩ := hp1258
              have hF := hF.tr k1260 (by decide)
              have c1265 := k1260.gi kM_at0 (by decide) c1230
              have c1266 := k1260.gi kM_at0 (by decide) c1231
              have c1267 := k1260.gi kM_at0 (by decide) c1226
              obtain ⟨⟨x1261, c1262, rx1261, tx1261⟩, g1263⟩ := hg1264
              have ex1261 : x1261.toInt = f0_.toInt := by rw [← c1265.symm.trans c1262]
              obtain ⟨x1268, c1269, rx1268, tx1268⟩ := hT.rda (lo := 0) (hi := 400) (i := (f0_.toInt).toNat) kM_at3 rfl rfl (by omega)
              have g1263 : x1268.toInt = x1242.toInt + 1 := by have q := g1263; simp only [c1230, c1265, c1243, c1269] at q; omega
              refine lv_iconst (v := 1) hx hb dX12_compare_173 (by decide) ?_
              exact tk_zret hC hr rfl hlocks hK ⟨hT, hF, (Or.inr (Or.inr ⟨rfl, ⟨x25, c1266, (show 1 ≤ x25.toInt by omega), (show x25.toInt ≤ 400 by omega)⟩, ⟨f0_, c1265, (show 0 ≤ f0_.toInt by omega), (show f0_.toInt ≤ 5 by omega)⟩, ⟨x1225, c1267, (show 1 ≤ x1225.toInt by omega), (show x1225.toInt ≤ 60 by omega)⟩, (by simp only [c1265, cf0_, cf2_, c1269, cf1_, c1267]; omega), (by simp only [c1265, cf0_, cf1_, c1267]; omega)⟩))⟩ hw dX12_compare_174
        · have c1170 : ¬ r834.toInt = (61 : Int) := wk_eqF c1170
          refine lv_iload_n hx hb dX12_compare_31 rfl (lv_at hl 1 rfl) ?_
          refine lv_bipush (v := 62) hx hb dX12_compare_32 (by decide) ?_
          refine lv_icmp_eq (tgt := 44) hx hb dX12_compare_34 (by decide) (fun c1270 => ?_) (fun c1270 => ?_)
          · have c1270 : r834.toInt = (62 : Int) := wk_eq.mp c1270
            refine lv_aload_n hx hb dX12_compare_44 rfl (lv_at hl 2 rfl) ?_
            refine lv_dup hx hb dX12_compare_45 rfl ?_
            refine tk_geti hC hK hw hT hinX12 kM_at0 (by decide) rfl 14 (by decide) (List.mem_of_getElem? (i := 1) rfl) rfl rfl dX12_compare_46 (fun x1271 c1272 rx1271 tx1271 => ?_)
            refine wk_top x842 (c1272.symm.trans c843) ?_
            refine lv_iconst (v := 1) hx hb dX12_compare_49 (by decide) ?_
            refine lv_iadd hx hb dX12_compare_50 ?_
            refine lv_topi (fun x1273 ex1273 => ?_)
            have ex1273 : x1273.toInt = x842.toInt + (1 : Int) := by rw [ex1273]; exact wk_add (show (-2147483648) ≤ x842.toInt + (1 : Int) by omega) (show x842.toInt + (1 : Int) ≤ 2147483647 by omega)
            refine tk_puti hC hK hw hT hinX12 tyX12_ok nmX12 kM_at0 (by decide) rfl rfl 14 (by decide) (List.mem_of_getElem? (i := 1) rfl) rfl rfl rfl rfl (show 0 ≤ x1273.toInt by omega) (show x1273.toInt ≤ 400 by omega) dX12_compare_51 (fun H locs w1274 hw hT k1276 c1275 => ?_)
            have hF := hF.put kM_at0 (k := 14) (by decide) k1276
            have c1277 := k1276.gi (Or.inr (by decide)) c855
            have c1278 := k1276.gi (Or.inr (by decide)) c856
            have c1279 := k1276.gi (Or.inr (by decide)) c857
            have c1280 := k1276.gi (Or.inl (tk_ne kM_at3 kM_at0 (by decide))) c858
            refine lv_iload_n hx hb dX12_compare_54 rfl (lv_at hl 1 rfl) ?_
            refine lv_bipush (v := 61) hx hb dX12_compare_55 (by decide) ?_
            refine lv_icmp_eq (tgt := 89) hx hb dX12_compare_57 (by decide) (fun c => absurd c (fun h => absurd (show r834.toInt = (61 : Int) from wk_eq.mp h) (by omega))) (fun _ => ?_)
            refine lv_aload_n hx hb dX12_compare_60 rfl (lv_at hl 2 rfl) ?_
            refine tk_geti hC hK hw hT hinX12 kM_at0 (by decide) rfl 14 (by decide) (List.mem_of_getElem? (i := 1) rfl) rfl rfl dX12_compare_61 (fun x1281 c1282 rx1281 tx1281 => ?_)
            refine wk_top x1273 (c1282.symm.trans c1275) ?_
            refine lv_aload_n hx hb dX12_compare_64 rfl (lv_at hl 2 rfl) ?_
            refine tk_geti hC hK hw hT hinX12 kM_at0 (by decide) rfl 1 (by decide) (List.mem_of_getElem? (i := 2) rfl) rfl rfl dX12_compare_65 (fun x1283 c1284 rx1283 tx1283 => ?_)
            refine wk_top x25 (c1284.symm.trans c1278) ?_
            refine lv_icmp_ge (tgt := 89) hx hb dX12_compare_68 (by decide) (fun c1285 => ?_) (fun c1285 => ?_)
            · have c1285 : x25.toInt ≤ x1273.toInt := wk_le.mp c1285
              refine lv_iconst (v := 0) hx hb dX12_compare_89 (by decide) ?_
              refine lv_istore_n (lv' := [(3, .int 0), (2, .int x842), (1, .int r834), (0, .ref (ad 0))]) hx hb dX12_compare_90 rfl hl (by decide) rfl (fun ls hl => ?_)
              refine lv_iload_n hx hb dX12_compare_91 rfl (lv_at hl 0 rfl) ?_
              refine lv_if_eq (tgt := 105) hx hb dX12_compare_92 (by decide) (fun _ => ?_) (fun c => absurd (by decide) c)
              refine lv_aload_n hx hb dX12_compare_105 rfl (lv_at hl 3 rfl) ?_
              refine lv_iload_n hx hb dX12_compare_106 rfl (lv_at hl 1 rfl) ?_
              refine tk_Vi hC hK hw hT hA hE hSR kM_at0 (by decide) rfl (k_X12_makes_2 l adK adV dC dI cy ad B (by omega) (by omega) qr s1   x842 (show 0 ≤ x842.toInt by omega) (show x842.toInt ≤ 399 by omega) w1274 H.size hT x29 c1279 (show 0 ≤ x29.toInt by omega) (show x29.toInt ≤ 60 by omega)) (cwV 1 hC.2.2.2.2 gX12_compare_X12_makes rfl rfl rfl (by decide +kernel) ⟨Nat.le_of_ble_eq_true rfl, Nat.le_of_ble_eq_true rfl⟩) rfl hl.1 rfl (Nat.le_of_ble_eq_true rfl) dX12_compare_107 (fun r1286 w1288 H locs hp1287 hw => ?_)
              obtain ⟨hT, k1289, hg1297⟩ := hp1287
              have hF := hF.tr k1289 (by decide)
              have c1298 := k1289.gi kM_at0 (by decide) c1277
              have c1299 := k1289.gi kM_at0 (by decide) c1278
              have c1300 := k1289.gi kM_at3 rfl c1280
              have c1301 := k1289.gi kM_at0 (by decide) c1275
              rcases hg1297 with ⟨rfl, ⟨x1290, c1291, rx1290, tx1290⟩, ⟨x1292, c1293, rx1292, tx1292⟩⟩ | ⟨rfl, ⟨x1294, c1295, rx1294, tx1294⟩, g1296⟩
              · refine lv_if_ne (tgt := 115) hx hb dX12_compare_110 (by decide) (fun c => absurd (by decide) c) (fun _ => ?_)
                refine lv_iconst (v := 0) hx hb dX12_compare_113 (by decide) ?_
                exact tk_zret hC hr rfl hlocks hK ⟨hT, hF, (Or.inl ⟨rfl, ⟨x25, c1299, (show 1 ≤ x25.toInt by omega), (show x25.toInt ≤ 400 by omega)⟩, ⟨x1290, c1291, (show 1 ≤ x1290.toInt by omega), (show x1290.toInt ≤ 3205 by omega)⟩, ⟨f0_, c1298, (show 0 ≤ f0_.toInt by omega), (show f0_.toInt ≤ 5 by omega)⟩⟩)⟩ hw dX12_compare_114
              · have g1296 : x1294.toInt = x29.toInt + 1 := by have q := g1296; simp only [c1277, c1298, c1279, c1295] at q; omega
                refine lv_if_ne (tgt := 115) hx hb dX12_compare_110 (by decide) (fun _ => ?_) (fun c => absurd c (by decide))
                refine lv_iload_n hx hb dX12_compare_115 rfl (lv_at hl 2 rfl) ?_
                refine lv_bipush (v := 60) hx hb dX12_compare_116 (by decide) ?_
                refine lv_icmp_ne (tgt := 133) hx hb dX12_compare_118 (by decide) (fun _ => ?_) (fun c => absurd (show r834.toInt = (60 : Int) from wk_eq.mp c) (by omega))
                refine lv_iload_n hx hb dX12_compare_133 rfl (lv_at hl 2 rfl) ?_
                refine lv_bipush (v := 61) hx hb dX12_compare_134 (by decide) ?_
                refine lv_icmp_ne (tgt := 143) hx hb dX12_compare_136 (by decide) (fun _ => ?_) (fun c => absurd (show r834.toInt = (61 : Int) from wk_eq.mp c) (by omega))
                refine lv_iload_n hx hb dX12_compare_143 rfl (lv_at hl 0 rfl) ?_
                refine lv_if_eq (tgt := 151) hx hb dX12_compare_144 (by decide) (fun _ => ?_) (fun c => absurd (by decide) c)
                refine lv_iconst (v := 4) hx hb dX12_compare_151 (by decide) ?_
                refine lv_istore (lv' := [(4, .int 4), (3, .int 0), (2, .int x842), (1, .int r834), (0, .ref (ad 0))]) hx hb dX12_compare_152 hl (by decide) rfl (fun ls hl => ?_)
                refine lv_aload_n hx hb dX12_compare_154 rfl (lv_at hl 4 rfl) ?_
                refine tk_Vi hC hK hw hT hA hE hSR kM_at0 (by decide) rfl (k_X12_sum_1 l adK adV dC dI cy ad B (by omega) (by omega) qr s1    w1288 H.size hT f0_ c1298 (show 0 ≤ f0_.toInt by omega) (show f0_.toInt ≤ 5 by omega) x1294 c1295 (show 0 ≤ x1294.toInt by omega) (show x1294.toInt ≤ 60 by omega) x45 c1300 (show 0 ≤ x45.toInt by omega) (show x45.toInt ≤ 400 by omega) (show 3 * x45.toInt ≤ 14 * x1294.toInt + 60 by omega) (show x45.toInt ≤ 300 by omega)) (cwV 0 hC.2.2.2.2 gX12_compare_X12_sum rfl rfl rfl (by decide +kernel) ⟨Nat.le_of_ble_eq_true rfl, Nat.le_of_ble_eq_true rfl⟩) rfl hl.1 rfl (Nat.le_of_ble_eq_true rfl) dX12_compare_155 (fun r1302 w1304 H locs hp1303 hw => ?_)
                obtain ⟨hT, k1305, hg1334⟩ := hp1303
                have hF := hF.tr k1305 (by decide)
                have c1335 := k1305.gi kM_at0 (by decide) c1298
                have c1336 := k1305.gi kM_at0 (by decide) c1299
                rcases hg1334 with ⟨rfl, ⟨x1306, c1307, rx1306, tx1306⟩, ⟨x1308, c1309, rx1308, tx1308⟩, ⟨x1310, c1311, rx1310, tx1310⟩⟩ | ⟨rfl, ⟨x1312, c1313, rx1312, tx1312⟩, ⟨x1314, c1315, rx1314, tx1314⟩, ⟨x1316, c1317, rx1316, tx1316⟩⟩ | ⟨rfl, ⟨x1318, c1319, rx1318, tx1318⟩, ⟨x1320, c1321, rx1320, tx1320⟩, ⟨x1322, c1323, rx1322, tx1322⟩, g1324, g1325⟩ | ⟨rfl, ⟨x1326, c1327, rx1326, tx1326⟩, ⟨x1328, c1329, rx1328, tx1328⟩, ⟨x1330, c1331, rx1330, tx1330⟩, g1332, g1333⟩
                · have ex1306 : x1306.toInt = x25.toInt := by rw [← c1336.symm.trans c1307]
                  have ex1310 : x1310.toInt = f0_.toInt := by rw [← c1335.symm.trans c1311]
                  obtain ⟨x1337, c1338, rx1337, tx1337⟩ := hT.rda (lo := 0) (hi := 400) (i := (f0_.toInt).toNat) kM_at3 rfl rfl (by omega)
                  obtain ⟨x1339, c1340, rx1339, tx1339⟩ := hT.rdi (lo := 0) (hi := 60) (k := 18) kM_at0 (by decide) rfl
                  refine lv_if_ne (tgt := 163) hx hb dX12_compare_158 (by decide) (fun c => absurd (by decide) c) (fun _ => ?_)
                  refine lv_iconst (v := 0) hx hb dX12_compare_161 (by decide) ?_
                  exact tk_zret hC hr rfl hlocks hK ⟨hT, hF, (Or.inl ⟨rfl, ⟨x25, c1336, (show 1 ≤ x25.toInt by omega), (show x25.toInt ≤ 400 by omega)⟩, ⟨x1308, c1309, (show 1 ≤ x1308.toInt by omega), (show x1308.toInt ≤ 3205 by omega)⟩, ⟨f0_, c1335, (show 0 ≤ f0_.toInt by omega), (show f0_.toInt ≤ 5 by omega)⟩⟩)⟩ hw dX12_compare_162
                · have ex1312 : x1312.toInt = x25.toInt := by rw [← c1336.symm.trans c1313]
                  have ex1316 : x1316.toInt = f0_.toInt := by rw [← c1335.symm.trans c1317]
                  obtain ⟨x1341, c1342, rx1341, tx1341⟩ := hT.rda (lo := 0) (hi := 400) (i := (f0_.toInt).toNat) kM_at3 rfl rfl (by omega)
                  obtain ⟨x1343, c1344, rx1343, tx1343⟩ := hT.rdi (lo := 0) (hi := 60) (k := 18) kM_at0 (by decide) rfl
                  refine lv_if_ne (tgt := 163) hx hb dX12_compare_158 (by decide) (fun c => absurd (by decide) c) (fun _ => ?_)
                  refine lv_iconst (v := 0) hx hb dX12_compare_161 (by decide) ?_
                  exact tk_zret hC hr rfl hlocks hK ⟨hT, hF, (Or.inl ⟨rfl, ⟨x25, c1336, (show 1 ≤ x25.toInt by omega), (show x25.toInt ≤ 400 by omega)⟩, ⟨x1314, c1315, (show 1 ≤ x1314.toInt by omega), (show x1314.toInt ≤ 3205 by omega)⟩, ⟨f0_, c1335, (show 0 ≤ f0_.toInt by omega), (show f0_.toInt ≤ 5 by omega)⟩⟩)⟩ hw dX12_compare_162
                · have ex1318 : x1318.toInt = x25.toInt := by rw [← c1336.symm.trans c1319]
                  have ex1320 : x1320.toInt = f0_.toInt := by rw [← c1335.symm.trans c1321]
                  obtain ⟨x1345, c1346, rx1345, tx1345⟩ := hT.rda (lo := 0) (hi := 400) (i := (f0_.toInt).toNat) kM_at3 rfl rfl (by omega)
                  have g1324 : 3 * x1345.toInt + 11 ≤ 3 * x45.toInt + 14 * (x1322.toInt - x1294.toInt) := by have q := g1324; simp only [c1298, c1335, c1300, c1346, c1295, c1323] at q; omega
                  have g1325 : x1294.toInt + 1 ≤ x1322.toInt := by have q := g1325; simp only [c1298, c1335, c1295, c1323] at q; omega
                  refine lv_if_ne (tgt := 163) hx hb dX12_compare_158 (by decide) (fun _ => ?_) (fun c => absurd c (by decide))
                  refine lv_aload_n hx hb dX12_compare_163 rfl (lv_at hl 4 rfl) ?_
                  refine lv_bipush (v := 6) hx hb dX12_compare_164 (by decide) ?_
                  refine lv_iload hx hb dX12_compare_166 (lv_at hl 0 rfl) ?_
                  refine lv_iadd hx hb dX12_compare_168 ?_
                  refine wk_top 10 (by decide) ?_
                  refine lv_iconst (v := 0) hx hb dX12_compare_169 (by decide) ?_
                  refine tk_Vv hC hK hw hT hA hE hSR kM_at0 (by decide) rfl (k_X12_puts_1 l adK adV dC dI cy ad B (by omega) (by omega) qr s1   10 (by decide) (by decide) 0 w1304 H.size hT f0_ c1335 (show 0 ≤ f0_.toInt by omega) (show f0_.toInt ≤ 5 by omega) x1345 c1346 (show 0 ≤ x1345.toInt by omega) (show x1345.toInt ≤ 400 by omega) (show x1345.toInt ≤ 399 by omega)) (cwV 2 hC.2.2.2.2 gX12_compare_X12_puts rfl rfl rfl (by decide +kernel) ⟨Nat.le_of_ble_eq_true rfl, Nat.le_of_ble_eq_true rfl⟩) rfl hl.1 rfl (Nat.le_of_ble_eq_true rfl) dX12_compare_170 (fun w1351 H locs hp1350 hw => ?_)
                  obtain ⟨hT, k1352, hg1356⟩ := hp1350
                  have hF := hF.tr k1352 (by decide)
                  have c1357 := k1352.gi kM_at0 (by decide) c1335
                  have c1358 := k1352.gi kM_at0 (by decide) c1336
                  have c1359 := k1352.gi kM_at0 (by decide) c1323
                  obtain ⟨⟨x1353, c1354, rx1353, tx1353⟩, g1355⟩ := hg1356
                  have ex1353 : x1353.toInt = f0_.toInt := by rw [← c1357.symm.trans c1354]
                  obtain ⟨x1360, c1361, rx1360, tx1360⟩ := hT.rda (lo := 0) (hi := 400) (i := (f0_.toInt).toNat) kM_at3 rfl rfl (by omega)
                  have g1355 : x1360.toInt = x1345.toInt + 1 := by have q := g1355; simp only [c1335, c1357, c1346, c1361] at q; omega
                  refine lv_iconst (v := 1) hx hb dX12_compare_173 (by decide) ?_
                  exact tk_zret hC hr rfl hlocks hK ⟨hT, hF, (Or.inr (Or.inr ⟨rfl, ⟨x25, c1358, (show 1 ≤ x25.toInt by omega), (show x25.toInt ≤ 400 by omega)⟩, ⟨f0_, c1357, (show 0 ≤ f0_.toInt by omega), (show f0_.toInt ≤ 5 by omega)⟩, ⟨x1322, c1359, (show 1 ≤ x1322.toInt by omega), (show x1322.toInt ≤ 60 by omega)⟩, (by simp only [c1357, cf0_, cf2_, c1361, cf1_, c1359]; omega), (by simp only [c1357, cf0_, cf1_, c1359]; omega)⟩))⟩ hw dX12_compare_174
                · have ex1326 : x1326.toInt = x25.toInt := by rw [← c1336.symm.trans c1327]
                  have ex1328 : x1328.toInt = f0_.toInt := by rw [← c1335.symm.trans c1329]
                  obtain ⟨x1347, c1348, rx1347, tx1347⟩ := hT.rda (lo := 0) (hi := 400) (i := (f0_.toInt).toNat) kM_at3 rfl rfl (by omega)
                  have g1332 : 3 * x1347.toInt + 11 ≤ 3 * x45.toInt + 14 * (x1330.toInt - x1294.toInt) := by have q := g1332; simp only [c1298, c1335, c1300, c1348, c1295, c1331] at q; omega
                  have g1333 : x1294.toInt + 1 ≤ x1330.toInt := by have q := g1333; simp only [c1298, c1335, c1295, c1331] at q; omega
                  refine lv_if_ne (tgt := 163) hx hb dX12_compare_158 (by decide) (fun _ => ?_) (fun c => absurd c (by decide))
                  refine lv_aload_n hx hb dX12_compare_163 rfl (lv_at hl 4 rfl) ?_
                  refine lv_bipush (v := 6) hx hb dX12_compare_164 (by decide) ?_
                  refine lv_iload hx hb dX12_compare_166 (lv_at hl 0 rfl) ?_
                  refine lv_iadd hx hb dX12_compare_168 ?_
                  refine wk_top 10 (by decide) ?_
                  refine lv_iconst (v := 0) hx hb dX12_compare_169 (by decide) ?_
                  refine tk_Vv hC hK hw hT hA hE hSR kM_at0 (by decide) rfl (k_X12_puts_1 l adK adV dC dI cy ad B (by omega) (by omega) qr s1   10 (by decide) (by decide) 0 w1304 H.size hT f0_ c1335 (show 0 ≤ f0_.toInt by omega) (show f0_.toInt ≤ 5 by omega) x1347 c1348 (show 0 ≤ x1347.toInt by omega) (show x1347.toInt ≤ 400 by omega) (show x1347.toInt ≤ 399 by omega)) (cwV 2 hC.2.2.2.2 gX12_compare_X12_puts rfl rfl rfl (by decide +kernel) ⟨Nat.le_of_ble_eq_true rfl, Nat.le_of_ble_eq_true rfl⟩) rfl hl.1 rfl (Nat.le_of_ble_eq_true rfl) dX12_compare_170 (fun w1364 H locs hp1363 hw => ?_)
                  obtain ⟨hT, k1365, hg1369⟩ := hp1363
                  have hF := hF.tr k1365 (by decide)
                  have c1370 := k1365.gi kM_at0 (by decide) c1335
                  have c1371 := k1365.gi kM_at0 (by decide) c1336
                  have c1372 := k1365.gi kM_at0 (by decide) c1331
                  obtain ⟨⟨x1366, c1367, rx1366, tx1366⟩, g1368⟩ := hg1369
                  have ex1366 : x1366.toInt = f0_.toInt := by rw [← c1370.symm.trans c1367]
                  obtain ⟨x1373, c1374, rx1373, tx1373⟩ := hT.rda (lo := 0) (hi := 400) (i := (f0_.toInt).toNat) kM_at3 rfl rfl (by omega)
                  have g1368 : x1373.toInt = x1347.toInt + 1 := by have q := g1368; simp only [c1335, c1370, c1348, c1374] at q; omega
                  refine lv_iconst (v := 1) hx hb dX12_compare_173 (by decide) ?_
                  exact tk_zret hC hr rfl hlocks hK ⟨hT, hF, (Or.inr (Or.inr ⟨rfl, ⟨x25, c1371, (show 1 ≤ x25.toInt by omega), (show x25.toInt ≤ 400 by omega)⟩, ⟨f0_, c1370, (show 0 ≤ f0_.toInt by omega), (show f0_.toInt ≤ 5 by omega)⟩, ⟨x1330, c1372, (show 1 ≤ x1330.toInt by omega), (show x1330.toInt ≤ 60 by omega)⟩, (by simp only [c1370, cf0_, cf2_, c1374, cf1_, c1372]; omega), (by simp only [c1370, cf0_, cf1_, c1372]; omega)⟩))⟩ hw dX12_compare_174
            · have c1285 : x1273.toInt < x25.toInt := wk_leF c1285
              refine lv_aload_n hx hb dX12_compare_71 rfl (lv_at hl 2 rfl) ?_
              refine tk_getA hC hK hw hT hinX12 kM_at0 (by decide) rfl 0 (by decide) (List.mem_of_getElem? (i := 3) rfl) rfl rfl dX12_compare_72 ?_
              refine lv_aload_n hx hb dX12_compare_75 rfl (lv_at hl 2 rfl) ?_
              refine tk_geti hC hK hw hT hinX12 kM_at0 (by decide) rfl 14 (by decide) (List.mem_of_getElem? (i := 1) rfl) rfl rfl dX12_compare_76 (fun x1375 c1376 rx1375 tx1375 => ?_)
              refine wk_top x1273 (c1376.symm.trans c1275) ?_
              refine tk_bald hC hK hw hT kM_at1 rfl rfl (show 0 ≤ x1273.toInt by omega) (show x1273.toInt < 400 by omega) dX12_compare_79 (fun x1377 c1378 rx1377 tx1377 => ?_)
              have c1378 : gi w1274 1 (1 * x842.toInt + 1).toNat = x1377 := (congrArg (gi w1274 1) (congrArg Int.toNat (show 1 * x842.toInt + 1 = x1273.toInt by omega))).trans c1378
              refine lv_bipush (v := 61) hx hb dX12_compare_80 (by decide) ?_
              refine lv_icmp_ne (tgt := 89) hx hb dX12_compare_82 (by decide) (fun c1379 => ?_) (fun c1379 => ?_)
              · have c1379 : ¬ x1377.toInt = (61 : Int) := wk_eqF c1379
                refine lv_iconst (v := 0) hx hb dX12_compare_89 (by decide) ?_
                refine lv_istore_n (lv' := [(3, .int 0), (2, .int x842), (1, .int r834), (0, .ref (ad 0))]) hx hb dX12_compare_90 rfl hl (by decide) rfl (fun ls hl => ?_)
                refine lv_iload_n hx hb dX12_compare_91 rfl (lv_at hl 0 rfl) ?_
                refine lv_if_eq (tgt := 105) hx hb dX12_compare_92 (by decide) (fun _ => ?_) (fun c => absurd (by decide) c)
                refine lv_aload_n hx hb dX12_compare_105 rfl (lv_at hl 3 rfl) ?_
                refine lv_iload_n hx hb dX12_compare_106 rfl (lv_at hl 1 rfl) ?_
                refine tk_Vi hC hK hw hT hA hE hSR kM_at0 (by decide) rfl (k_X12_makes_1 l adK adV dC dI cy ad B (by omega) (by omega) qr s1   x842 (show 0 ≤ x842.toInt by omega) (show x842.toInt ≤ 398 by omega) w1274 H.size hT x29 c1279 (show 0 ≤ x29.toInt by omega) (show x29.toInt ≤ 60 by omega)) (cwV 1 hC.2.2.2.2 gX12_compare_X12_makes rfl rfl rfl (by decide +kernel) ⟨Nat.le_of_ble_eq_true rfl, Nat.le_of_ble_eq_true rfl⟩) rfl hl.1 rfl (Nat.le_of_ble_eq_true rfl) dX12_compare_107 (fun r1380 w1382 H locs hp1381 hw => ?_)
                obtain ⟨hT, k1383, hg1391⟩ := hp1381
                have hF := hF.tr k1383 (by decide)
                have c1392 := k1383.gi kM_at0 (by decide) c1277
                have c1393 := k1383.gi kM_at0 (by decide) c1278
                have c1394 := k1383.gi kM_at3 rfl c1280
                have c1395 := k1383.gi kM_at0 (by decide) c1275
                have c1396 := k1383.gi kM_at1 rfl c1378
                rcases hg1391 with ⟨rfl, ⟨x1384, c1385, rx1384, tx1384⟩, ⟨x1386, c1387, rx1386, tx1386⟩⟩ | ⟨rfl, ⟨x1388, c1389, rx1388, tx1388⟩, g1390⟩
                · refine lv_if_ne (tgt := 115) hx hb dX12_compare_110 (by decide) (fun c => absurd (by decide) c) (fun _ => ?_)
                  refine lv_iconst (v := 0) hx hb dX12_compare_113 (by decide) ?_
                  exact tk_zret hC hr rfl hlocks hK ⟨hT, hF, (Or.inl ⟨rfl, ⟨x25, c1393, (show 1 ≤ x25.toInt by omega), (show x25.toInt ≤ 400 by omega)⟩, ⟨x1384, c1385, (show 1 ≤ x1384.toInt by omega), (show x1384.toInt ≤ 3205 by omega)⟩, ⟨f0_, c1392, (show 0 ≤ f0_.toInt by omega), (show f0_.toInt ≤ 5 by omega)⟩⟩)⟩ hw dX12_compare_114
                · have g1390 : x1388.toInt = x29.toInt + 1 := by have q := g1390; simp only [c1277, c1392, c1279, c1389] at q; omega
                  refine lv_if_ne (tgt := 115) hx hb dX12_compare_110 (by decide) (fun _ => ?_) (fun c => absurd c (by decide))
                  refine lv_iload_n hx hb dX12_compare_115 rfl (lv_at hl 2 rfl) ?_
                  refine lv_bipush (v := 60) hx hb dX12_compare_116 (by decide) ?_
                  refine lv_icmp_ne (tgt := 133) hx hb dX12_compare_118 (by decide) (fun _ => ?_) (fun c => absurd (show r834.toInt = (60 : Int) from wk_eq.mp c) (by omega))
                  refine lv_iload_n hx hb dX12_compare_133 rfl (lv_at hl 2 rfl) ?_
                  refine lv_bipush (v := 61) hx hb dX12_compare_134 (by decide) ?_
                  refine lv_icmp_ne (tgt := 143) hx hb dX12_compare_136 (by decide) (fun _ => ?_) (fun c => absurd (show r834.toInt = (61 : Int) from wk_eq.mp c) (by omega))
                  refine lv_iload_n hx hb dX12_compare_143 rfl (lv_at hl 0 rfl) ?_
                  refine lv_if_eq (tgt := 151) hx hb dX12_compare_144 (by decide) (fun _ => ?_) (fun c => absurd (by decide) c)
                  refine lv_iconst (v := 4) hx hb dX12_compare_151 (by decide) ?_
                  refine lv_istore (lv' := [(4, .int 4), (3, .int 0), (2, .int x842), (1, .int r834), (0, .ref (ad 0))]) hx hb dX12_compare_152 hl (by decide) rfl (fun ls hl => ?_)
                  refine lv_aload_n hx hb dX12_compare_154 rfl (lv_at hl 4 rfl) ?_
                  refine tk_Vi hC hK hw hT hA hE hSR kM_at0 (by decide) rfl (k_X12_sum_1 l adK adV dC dI cy ad B (by omega) (by omega) qr s1    w1382 H.size hT f0_ c1392 (show 0 ≤ f0_.toInt by omega) (show f0_.toInt ≤ 5 by omega) x1388 c1389 (show 0 ≤ x1388.toInt by omega) (show x1388.toInt ≤ 60 by omega) x45 c1394 (show 0 ≤ x45.toInt by omega) (show x45.toInt ≤ 400 by omega) (show 3 * x45.toInt ≤ 14 * x1388.toInt + 60 by omega) (show x45.toInt ≤ 300 by omega)) (cwV 0 hC.2.2.2.2 gX12_compare_X12_sum rfl rfl rfl (by decide +kernel) ⟨Nat.le_of_ble_eq_true rfl, Nat.le_of_ble_eq_true rfl⟩) rfl hl.1 rfl (Nat.le_of_ble_eq_true rfl) dX12_compare_155 (fun r1397 w1399 H locs hp1398 hw => ?_)
                  obtain ⟨hT, k1400, hg1429⟩ := hp1398
                  have hF := hF.tr k1400 (by decide)
                  have c1430 := k1400.gi kM_at0 (by decide) c1392
                  have c1431 := k1400.gi kM_at0 (by decide) c1393
                  have c1432 := k1400.gi kM_at1 rfl c1396
                  rcases hg1429 with ⟨rfl, ⟨x1401, c1402, rx1401, tx1401⟩, ⟨x1403, c1404, rx1403, tx1403⟩, ⟨x1405, c1406, rx1405, tx1405⟩⟩ | ⟨rfl, ⟨x1407, c1408, rx1407, tx1407⟩, ⟨x1409, c1410, rx1409, tx1409⟩, ⟨x1411, c1412, rx1411, tx1411⟩⟩ | ⟨rfl, ⟨x1413, c1414, rx1413, tx1413⟩, ⟨x1415, c1416, rx1415, tx1415⟩, ⟨x1417, c1418, rx1417, tx1417⟩, g1419, g1420⟩ | ⟨rfl, ⟨x1421, c1422, rx1421, tx1421⟩, ⟨x1423, c1424, rx1423, tx1423⟩, ⟨x1425, c1426, rx1425, tx1425⟩, g1427, g1428⟩
                  · have ex1401 : x1401.toInt = x25.toInt := by rw [← c1431.symm.trans c1402]
                    have ex1405 : x1405.toInt = f0_.toInt := by rw [← c1430.symm.trans c1406]
                    obtain ⟨x1433, c1434, rx1433, tx1433⟩ := hT.rda (lo := 0) (hi := 400) (i := (f0_.toInt).toNat) kM_at3 rfl rfl (by omega)
                    obtain ⟨x1435, c1436, rx1435, tx1435⟩ := hT.rdi (lo := 0) (hi := 60) (k := 18) kM_at0 (by decide) rfl
                    refine lv_if_ne (tgt := 163) hx hb dX12_compare_158 (by decide) (fun c => absurd (by decide) c) (fun _ => ?_)
                    refine lv_iconst (v := 0) hx hb dX12_compare_161 (by decide) ?_
                    exact tk_zret hC hr rfl hlocks hK ⟨hT, hF, (Or.inl ⟨rfl, ⟨x25, c1431, (show 1 ≤ x25.toInt by omega), (show x25.toInt ≤ 400 by omega)⟩, ⟨x1403, c1404, (show 1 ≤ x1403.toInt by omega), (show x1403.toInt ≤ 3205 by omega)⟩, ⟨f0_, c1430, (show 0 ≤ f0_.toInt by omega), (show f0_.toInt ≤ 5 by omega)⟩⟩)⟩ hw dX12_compare_162
                  · have ex1407 : x1407.toInt = x25.toInt := by rw [← c1431.symm.trans c1408]
                    have ex1411 : x1411.toInt = f0_.toInt := by rw [← c1430.symm.trans c1412]
                    obtain ⟨x1437, c1438, rx1437, tx1437⟩ := hT.rda (lo := 0) (hi := 400) (i := (f0_.toInt).toNat) kM_at3 rfl rfl (by omega)
                    obtain ⟨x1439, c1440, rx1439, tx1439⟩ := hT.rdi (lo := 0) (hi := 60) (k := 18) kM_at0 (by decide) rfl
                    refine lv_if_ne (tgt := 163) hx hb dX12_compare_158 (by decide) (fun c => absurd (by decide) c) (fun _ => ?_)
                    refine lv_iconst (v := 0) hx hb dX12_compare_161 (by decide) ?_
                    exact tk_zret hC hr rfl hlocks hK ⟨hT, hF, (Or.inl ⟨rfl, ⟨x25, c1431, (show 1 ≤ x25.toInt by omega), (show x25.toInt ≤ 400 by omega)⟩, ⟨x1409, c1410, (show 1 ≤ x1409.toInt by omega), (show x1409.toInt ≤ 3205 by omega)⟩, ⟨f0_, c1430, (show 0 ≤ f0_.toInt by omega), (show f0_.toInt ≤ 5 by omega)⟩⟩)⟩ hw dX12_compare_162
                  · have ex1413 : x1413.toInt = x25.toInt := by rw [← c1431.symm.trans c1414]
                    have ex1415 : x1415.toInt = f0_.toInt := by rw [← c1430.symm.trans c1416]
                    obtain ⟨x1441, c1442, rx1441, tx1441⟩ := hT.rda (lo := 0) (hi := 400) (i := (f0_.toInt).toNat) kM_at3 rfl rfl (by omega)
                    have g1419 : 3 * x1441.toInt + 11 ≤ 3 * x45.toInt + 14 * (x1417.toInt - x1388.toInt) := by have q := g1419; simp only [c1392, c1430, c1394, c1442, c1389, c1418] at q; omega
                    have g1420 : x1388.toInt + 1 ≤ x1417.toInt := by have q := g1420; simp only [c1392, c1430, c1389, c1418] at q; omega
                    refine lv_if_ne (tgt := 163) hx hb dX12_compare_158 (by decide) (fun _ => ?_) (fun c => absurd c (by decide))
                    refine lv_aload_n hx hb dX12_compare_163 rfl (lv_at hl 4 rfl) ?_
                    refine lv_bipush (v := 6) hx hb dX12_compare_164 (by decide) ?_
                    refine lv_iload hx hb dX12_compare_166 (lv_at hl 0 rfl) ?_
                    refine lv_iadd hx hb dX12_compare_168 ?_
                    refine wk_top 10 (by decide) ?_
                    refine lv_iconst (v := 0) hx hb dX12_compare_169 (by decide) ?_
                    refine tk_Vv hC hK hw hT hA hE hSR kM_at0 (by decide) rfl (k_X12_puts_1 l adK adV dC dI cy ad B (by omega) (by omega) qr s1   10 (by decide) (by decide) 0 w1399 H.size hT f0_ c1430 (show 0 ≤ f0_.toInt by omega) (show f0_.toInt ≤ 5 by omega) x1441 c1442 (show 0 ≤ x1441.toInt by omega) (show x1441.toInt ≤ 400 by omega) (show x1441.toInt ≤ 399 by omega)) (cwV 2 hC.2.2.2.2 gX12_compare_X12_puts rfl rfl rfl (by decide +kernel) ⟨Nat.le_of_ble_eq_true rfl, Nat.le_of_ble_eq_true rfl⟩) rfl hl.1 rfl (Nat.le_of_ble_eq_true rfl) dX12_compare_170 (fun w1447 H locs hp1446 hw => ?_)
                    obtain ⟨hT, k1448, hg1452⟩ := hp1446
                    have hF := hF.tr k1448 (by decide)
                    have c1453 := k1448.gi kM_at0 (by decide) c1430
                    have c1454 := k1448.gi kM_at0 (by decide) c1431
                    have c1455 := k1448.gi kM_at1 rfl c1432
                    have c1456 := k1448.gi kM_at0 (by decide) c1418
                    obtain ⟨⟨x1449, c1450, rx1449, tx1449⟩, g1451⟩ := hg1452
                    have ex1449 : x1449.toInt = f0_.toInt := by rw [← c1453.symm.trans c1450]
                    obtain ⟨x1457, c1458, rx1457, tx1457⟩ := hT.rda (lo := 0) (hi := 400) (i := (f0_.toInt).toNat) kM_at3 rfl rfl (by omega)
                    have g1451 : x1457.toInt = x1441.toInt + 1 := by have q := g1451; simp only [c1430, c1453, c1442, c1458] at q; omega
                    refine lv_iconst (v := 1) hx hb dX12_compare_173 (by decide) ?_
                    exact tk_zret hC hr rfl hlocks hK ⟨hT, hF, (Or.inr (Or.inr ⟨rfl, ⟨x25, c1454, (show 1 ≤ x25.toInt by omega), (show x25.toInt ≤ 400 by omega)⟩, ⟨f0_, c1453, (show 0 ≤ f0_.toInt by omega), (show f0_.toInt ≤ 5 by omega)⟩, ⟨x1417, c1456, (show 1 ≤ x1417.toInt by omega), (show x1417.toInt ≤ 60 by omega)⟩, (by simp only [c1453, cf0_, cf2_, c1458, cf1_, c1456]; omega), (by simp only [c1453, cf0_, cf1_, c1456]; omega)⟩))⟩ hw dX12_compare_174
                  · have ex1421 : x1421.toInt = x25.toInt := by rw [← c1431.symm.trans c1422]
                    have ex1423 : x1423.toInt = f0_.toInt := by rw [← c1430.symm.trans c1424]
                    obtain ⟨x1443, c1444, rx1443, tx1443⟩ := hT.rda (lo := 0) (hi := 400) (i := (f0_.toInt).toNat) kM_at3 rfl rfl (by omega)
                    have g1427 : 3 * x1443.toInt + 11 ≤ 3 * x45.toInt + 14 * (x1425.toInt - x1388.toInt) := by have q := g1427; simp only [c1392, c1430, c1394, c1444, c1389, c1426] at q; omega
                    have g1428 : x1388.toInt + 1 ≤ x1425.toInt := by have q := g1428; simp only [c1392, c1430, c1389, c1426] at q; omega
                    refine lv_if_ne (tgt := 163) hx hb dX12_compare_158 (by decide) (fun _ => ?_) (fun c => absurd c (by decide))
                    refine lv_aload_n hx hb dX12_compare_163 rfl (lv_at hl 4 rfl) ?_
                    refine lv_bipush (v := 6) hx hb dX12_compare_164 (by decide) ?_
                    refine lv_iload hx hb dX12_compare_166 (lv_at hl 0 rfl) ?_
                    refine lv_iadd hx hb dX12_compare_168 ?_
                    refine wk_top 10 (by decide) ?_
                    refine lv_iconst (v := 0) hx hb dX12_compare_169 (by decide) ?_
                    refine tk_Vv hC hK hw hT hA hE hSR kM_at0 (by decide) rfl (k_X12_puts_1 l adK adV dC dI cy ad B (by omega) (by omega) qr s1   10 (by decide) (by decide) 0 w1399 H.size hT f0_ c1430 (show 0 ≤ f0_.toInt by omega) (show f0_.toInt ≤ 5 by omega) x1443 c1444 (show 0 ≤ x1443.toInt by omega) (show x1443.toInt ≤ 400 by omega) (show x1443.toInt ≤ 399 by omega)) (cwV 2 hC.2.2.2.2 gX12_compare_X12_puts rfl rfl rfl (by decide +kernel) ⟨Nat.le_of_ble_eq_true rfl, Nat.le_of_ble_eq_true rfl⟩) rfl hl.1 rfl (Nat.le_of_ble_eq_true rfl) dX12_compare_170 (fun w1461 H locs hp1460 hw => ?_)
                    obtain ⟨hT, k1462, hg1466⟩ := hp1460
                    have hF := hF.tr k1462 (by decide)
                    have c1467 := k1462.gi kM_at0 (by decide) c1430
                    have c1468 := k1462.gi kM_at0 (by decide) c1431
                    have c1469 := k1462.gi kM_at1 rfl c1432
                    have c1470 := k1462.gi kM_at0 (by decide) c1426
                    obtain ⟨⟨x1463, c1464, rx1463, tx1463⟩, g1465⟩ := hg1466
                    have ex1463 : x1463.toInt = f0_.toInt := by rw [← c1467.symm.trans c1464]
                    obtain ⟨x1471, c1472, rx1471, tx1471⟩ := hT.rda (lo := 0) (hi := 400) (i := (f0_.toInt).toNat) kM_at3 rfl rfl (by omega)
                    have g1465 : x1471.toInt = x1443.toInt + 1 := by have q := g1465; simp only [c1430, c1467, c1444, c1472] at q; omega
                    refine lv_iconst (v := 1) hx hb dX12_compare_173 (by decide) ?_
                    exact tk_zret hC hr rfl hlocks hK ⟨hT, hF, (Or.inr (Or.inr ⟨rfl, ⟨x25, c1468, (show 1 ≤ x25.toInt by omega), (show x25.toInt ≤ 400 by omega)⟩, ⟨f0_, c1467, (show 0 ≤ f0_.toInt by omega), (show f0_.toInt ≤ 5 by omega)⟩, ⟨x1425, c1470, (show 1 ≤ x1425.toInt by omega), (show x1425.toInt ≤ 60 by omega)⟩, (by simp only [c1467, cf0_, cf2_, c1472, cf1_, c1470]; omega), (by simp only [c1467, cf0_, cf1_, c1470]; omega)⟩))⟩ hw dX12_compare_174
              · have c1379 : x1377.toInt = (61 : Int) := wk_eq.mp c1379
                refine lv_iconst (v := 1) hx hb dX12_compare_85 (by decide) ?_
                refine lv_goto (tgt := 90) hx hb dX12_compare_86 (by decide) ?_
                refine lv_istore_n (lv' := [(3, .int 1), (2, .int x842), (1, .int r834), (0, .ref (ad 0))]) hx hb dX12_compare_90 rfl hl (by decide) rfl (fun ls hl => ?_)
                refine lv_iload_n hx hb dX12_compare_91 rfl (lv_at hl 0 rfl) ?_
                refine lv_if_eq (tgt := 105) hx hb dX12_compare_92 (by decide) (fun c => absurd c (by decide)) (fun _ => ?_)
                refine lv_aload_n hx hb dX12_compare_95 rfl (lv_at hl 3 rfl) ?_
                refine lv_dup hx hb dX12_compare_96 rfl ?_
                refine tk_geti hC hK hw hT hinX12 kM_at0 (by decide) rfl 14 (by decide) (List.mem_of_getElem? (i := 1) rfl) rfl rfl dX12_compare_97 (fun x1473 c1474 rx1473 tx1473 => ?_)
                refine wk_top x1273 (c1474.symm.trans c1275) ?_
                refine lv_iconst (v := 1) hx hb dX12_compare_100 (by decide) ?_
                refine lv_iadd hx hb dX12_compare_101 ?_
                refine lv_topi (fun x1475 ex1475 => ?_)
                have ex1475 : x1475.toInt = x1273.toInt + (1 : Int) := by rw [ex1475]; exact wk_add (show (-2147483648) ≤ x1273.toInt + (1 : Int) by omega) (show x1273.toInt + (1 : Int) ≤ 2147483647 by omega)
                refine tk_puti hC hK hw hT hinX12 tyX12_ok nmX12 kM_at0 (by decide) rfl rfl 14 (by decide) (List.mem_of_getElem? (i := 1) rfl) rfl rfl rfl rfl (show 0 ≤ x1475.toInt by omega) (show x1475.toInt ≤ 400 by omega) dX12_compare_102 (fun H locs w1476 hw hT k1478 c1477 => ?_)
                have hF := hF.put kM_at0 (k := 14) (by decide) k1478
                have c1479 := k1478.gi (Or.inr (by decide)) c1277
                have c1480 := k1478.gi (Or.inr (by decide)) c1278
                have c1481 := k1478.gi (Or.inr (by decide)) c1279
                have c1482 := k1478.gi (Or.inl (tk_ne kM_at3 kM_at0 (by decide))) c1280
                have c1483 := k1478.gi (Or.inl (tk_ne kM_at1 kM_at0 (by decide))) c1378
                refine lv_aload_n hx hb dX12_compare_105 rfl (lv_at hl 3 rfl) ?_
                refine lv_iload_n hx hb dX12_compare_106 rfl (lv_at hl 1 rfl) ?_
                refine tk_Vi hC hK hw hT hA hE hSR kM_at0 (by decide) rfl (k_X12_makes_1 l adK adV dC dI cy ad B (by omega) (by omega) qr s1   x842 (show 0 ≤ x842.toInt by omega) (show x842.toInt ≤ 398 by omega) w1476 H.size hT x29 c1481 (show 0 ≤ x29.toInt by omega) (show x29.toInt ≤ 60 by omega)) (cwV 1 hC.2.2.2.2 gX12_compare_X12_makes rfl rfl rfl (by decide +kernel) ⟨Nat.le_of_ble_eq_true rfl, Nat.le_of_ble_eq_true rfl⟩) rfl hl.1 rfl (Nat.le_of_ble_eq_true rfl) dX12_compare_107 (fun r1484 w1486 H locs hp1485 hw => ?_)
                obtain ⟨hT, k1487, hg1495⟩ := hp1485
                have hF := hF.tr k1487 (by decide)
                have c1496 := k1487.gi kM_at0 (by decide) c1479
                have c1497 := k1487.gi kM_at0 (by decide) c1480
                have c1498 := k1487.gi kM_at3 rfl c1482
                have c1499 := k1487.gi kM_at1 rfl c1483
                have c1500 := k1487.gi kM_at0 (by decide) c1477
                rcases hg1495 with ⟨rfl, ⟨x1488, c1489, rx1488, tx1488⟩, ⟨x1490, c1491, rx1490, tx1490⟩⟩ | ⟨rfl, ⟨x1492, c1493, rx1492, tx1492⟩, g1494⟩
                · refine lv_if_ne (tgt := 115) hx hb dX12_compare_110 (by decide) (fun c => absurd (by decide) c) (fun _ => ?_)
                  refine lv_iconst (v := 0) hx hb dX12_compare_113 (by decide) ?_
                  exact tk_zret hC hr rfl hlocks hK ⟨hT, hF, (Or.inl ⟨rfl, ⟨x25, c1497, (show 1 ≤ x25.toInt by omega), (show x25.toInt ≤ 400 by omega)⟩, ⟨x1488, c1489, (show 1 ≤ x1488.toInt by omega), (show x1488.toInt ≤ 3205 by omega)⟩, ⟨f0_, c1496, (show 0 ≤ f0_.toInt by omega), (show f0_.toInt ≤ 5 by omega)⟩⟩)⟩ hw dX12_compare_114
                · have g1494 : x1492.toInt = x29.toInt + 1 := by have q := g1494; simp only [c1479, c1496, c1481, c1493] at q; omega
                  refine lv_if_ne (tgt := 115) hx hb dX12_compare_110 (by decide) (fun _ => ?_) (fun c => absurd c (by decide))
                  refine lv_iload_n hx hb dX12_compare_115 rfl (lv_at hl 2 rfl) ?_
                  refine lv_bipush (v := 60) hx hb dX12_compare_116 (by decide) ?_
                  refine lv_icmp_ne (tgt := 133) hx hb dX12_compare_118 (by decide) (fun _ => ?_) (fun c => absurd (show r834.toInt = (60 : Int) from wk_eq.mp c) (by omega))
                  refine lv_iload_n hx hb dX12_compare_133 rfl (lv_at hl 2 rfl) ?_
                  refine lv_bipush (v := 61) hx hb dX12_compare_134 (by decide) ?_
                  refine lv_icmp_ne (tgt := 143) hx hb dX12_compare_136 (by decide) (fun _ => ?_) (fun c => absurd (show r834.toInt = (61 : Int) from wk_eq.mp c) (by omega))
                  refine lv_iload_n hx hb dX12_compare_143 rfl (lv_at hl 0 rfl) ?_
                  refine lv_if_eq (tgt := 151) hx hb dX12_compare_144 (by decide) (fun c => absurd c (by decide)) (fun _ => ?_)
                  refine lv_iconst (v := 3) hx hb dX12_compare_147 (by decide) ?_
                  refine lv_goto (tgt := 152) hx hb dX12_compare_148 (by decide) ?_
                  refine lv_istore (lv' := [(4, .int 3), (3, .int 1), (2, .int x842), (1, .int r834), (0, .ref (ad 0))]) hx hb dX12_compare_152 hl (by decide) rfl (fun ls hl => ?_)
                  refine lv_aload_n hx hb dX12_compare_154 rfl (lv_at hl 4 rfl) ?_
                  refine tk_Vi hC hK hw hT hA hE hSR kM_at0 (by decide) rfl (k_X12_sum_1 l adK adV dC dI cy ad B (by omega) (by omega) qr s1    w1486 H.size hT f0_ c1496 (show 0 ≤ f0_.toInt by omega) (show f0_.toInt ≤ 5 by omega) x1492 c1493 (show 0 ≤ x1492.toInt by omega) (show x1492.toInt ≤ 60 by omega) x45 c1498 (show 0 ≤ x45.toInt by omega) (show x45.toInt ≤ 400 by omega) (show 3 * x45.toInt ≤ 14 * x1492.toInt + 60 by omega) (show x45.toInt ≤ 300 by omega)) (cwV 0 hC.2.2.2.2 gX12_compare_X12_sum rfl rfl rfl (by decide +kernel) ⟨Nat.le_of_ble_eq_true rfl, Nat.le_of_ble_eq_true rfl⟩) rfl hl.1 rfl (Nat.le_of_ble_eq_true rfl) dX12_compare_155 (fun r1501 w1503 H locs hp1502 hw => ?_)
                  obtain ⟨hT, k1504, hg1533⟩ := hp1502
                  have hF := hF.tr k1504 (by decide)
                  have c1534 := k1504.gi kM_at0 (by decide) c1496
                  have c1535 := k1504.gi kM_at0 (by decide) c1497
                  have c1536 := k1504.gi kM_at1 rfl c1499
                  rcases hg1533 with ⟨rfl, ⟨x1505, c1506, rx1505, tx1505⟩, ⟨x1507, c1508, rx1507, tx1507⟩, ⟨x1509, c1510, rx1509, tx1509⟩⟩ | ⟨rfl, ⟨x1511, c1512, rx1511, tx1511⟩, ⟨x1513, c1514, rx1513, tx1513⟩, ⟨x1515, c1516, rx1515, tx1515⟩⟩ | ⟨rfl, ⟨x1517, c1518, rx1517, tx1517⟩, ⟨x1519, c1520, rx1519, tx1519⟩, ⟨x1521, c1522, rx1521, tx1521⟩, g1523, g1524⟩ | ⟨rfl, ⟨x1525, c1526, rx1525, tx1525⟩, ⟨x1527, c1528, rx1527, tx1527⟩, ⟨x1529, c1530, rx1529, tx1529⟩, g1531, g1532⟩
                  · have ex1505 : x1505.toInt = x25.toInt := by rw [← c1535.symm.trans c1506]
                    have ex1509 : x1509.toInt = f0_.toInt := by rw [← c1534.symm.trans c1510]
                    obtain ⟨x1537, c1538, rx1537, tx1537⟩ := hT.rda (lo := 0) (hi := 400) (i := (f0_.toInt).toNat) kM_at3 rfl rfl (by omega)
                    obtain ⟨x1539, c1540, rx1539, tx1539⟩ := hT.rdi (lo := 0) (hi := 60) (k := 18) kM_at0 (by decide) rfl
                    refine lv_if_ne (tgt := 163) hx hb dX12_compare_158 (by decide) (fun c => absurd (by decide) c) (fun _ => ?_)
                    refine lv_iconst (v := 0) hx hb dX12_compare_161 (by decide) ?_
                    exact tk_zret hC hr rfl hlocks hK ⟨hT, hF, (Or.inl ⟨rfl, ⟨x25, c1535, (show 1 ≤ x25.toInt by omega), (show x25.toInt ≤ 400 by omega)⟩, ⟨x1507, c1508, (show 1 ≤ x1507.toInt by omega), (show x1507.toInt ≤ 3205 by omega)⟩, ⟨f0_, c1534, (show 0 ≤ f0_.toInt by omega), (show f0_.toInt ≤ 5 by omega)⟩⟩)⟩ hw dX12_compare_162
                  · have ex1511 : x1511.toInt = x25.toInt := by rw [← c1535.symm.trans c1512]
                    have ex1515 : x1515.toInt = f0_.toInt := by rw [← c1534.symm.trans c1516]
                    obtain ⟨x1541, c1542, rx1541, tx1541⟩ := hT.rda (lo := 0) (hi := 400) (i := (f0_.toInt).toNat) kM_at3 rfl rfl (by omega)
                    obtain ⟨x1543, c1544, rx1543, tx1543⟩ := hT.rdi (lo := 0) (hi := 60) (k := 18) kM_at0 (by decide) rfl
                    refine lv_if_ne (tgt := 163) hx hb dX12_compare_158 (by decide) (fun c => absurd (by decide) c) (fun _ => ?_)
                    refine lv_iconst (v := 0) hx hb dX12_compare_161 (by decide) ?_
                    exact tk_zret hC hr rfl hlocks hK ⟨hT, hF, (Or.inl ⟨rfl, ⟨x25, c1535, (show 1 ≤ x25.toInt by omega), (show x25.toInt ≤ 400 by omega)⟩, ⟨x1513, c1514, (show 1 ≤ x1513.toInt by omega), (show x1513.toInt ≤ 3205 by omega)⟩, ⟨f0_, c1534, (show 0 ≤ f0_.toInt by omega), (show f0_.toInt ≤ 5 by omega)⟩⟩)⟩ hw dX12_compare_162
                  · have ex1517 : x1517.toInt = x25.toInt := by rw [← c1535.symm.trans c1518]
                    have ex1519 : x1519.toInt = f0_.toInt := by rw [← c1534.symm.trans c1520]
                    obtain ⟨x1545, c1546, rx1545, tx1545⟩ := hT.rda (lo := 0) (hi := 400) (i := (f0_.toInt).toNat) kM_at3 rfl rfl (by omega)
                    have g1523 : 3 * x1545.toInt + 11 ≤ 3 * x45.toInt + 14 * (x1521.toInt - x1492.toInt) := by have q := g1523; simp only [c1496, c1534, c1498, c1546, c1493, c1522] at q; omega
                    have g1524 : x1492.toInt + 1 ≤ x1521.toInt := by have q := g1524; simp only [c1496, c1534, c1493, c1522] at q; omega
                    refine lv_if_ne (tgt := 163) hx hb dX12_compare_158 (by decide) (fun _ => ?_) (fun c => absurd c (by decide))
                    refine lv_aload_n hx hb dX12_compare_163 rfl (lv_at hl 4 rfl) ?_
                    refine lv_bipush (v := 6) hx hb dX12_compare_164 (by decide) ?_
                    refine lv_iload hx hb dX12_compare_166 (lv_at hl 0 rfl) ?_
                    refine lv_iadd hx hb dX12_compare_168 ?_
                    refine wk_top 9 (by decide) ?_
                    refine lv_iconst (v := 0) hx hb dX12_compare_169 (by decide) ?_
                    refine tk_Vv hC hK hw hT hA hE hSR kM_at0 (by decide) rfl (k_X12_puts_1 l adK adV dC dI cy ad B (by omega) (by omega) qr s1   9 (by decide) (by decide) 0 w1503 H.size hT f0_ c1534 (show 0 ≤ f0_.toInt by omega) (show f0_.toInt ≤ 5 by omega) x1545 c1546 (show 0 ≤ x1545.toInt by omega) (show x1545.toInt ≤ 400 by omega) (show x1545.toInt ≤ 399 by omega)) (cwV 2 hC.2.2.2.2 gX12_compare_X12_puts rfl rfl rfl (by decide +kernel) ⟨Nat.le_of_ble_eq_true rfl, Nat.le_of_ble_eq_true rfl⟩) rfl hl.1 rfl (Nat.le_of_ble_eq_true rfl) dX12_compare_170 (fun w1551 H locs hp1550 hw => ?_)
                    obtain ⟨hT, k1552, hg1556⟩ := hp1550
                    have hF := hF.tr k1552 (by decide)
                    have c1557 := k1552.gi kM_at0 (by decide) c1534
                    have c1558 := k1552.gi kM_at0 (by decide) c1535
                    have c1559 := k1552.gi kM_at1 rfl c1536
                    have c1560 := k1552.gi kM_at0 (by decide) c1522
                    obtain ⟨⟨x1553, c1554, rx1553, tx1553⟩, g1555⟩ := hg1556
                    have ex1553 : x1553.toInt = f0_.toInt := by rw [← c1557.symm.trans c1554]
                    obtain ⟨x1561, c1562, rx1561, tx1561⟩ := hT.rda (lo := 0) (hi := 400) (i := (f0_.toInt).toNat) kM_at3 rfl rfl (by omega)
                    have g1555 : x1561.toInt = x1545.toInt + 1 := by have q := g1555; simp only [c1534, c1557, c1546, c1562] at q; omega
                    refine lv_iconst (v := 1) hx hb dX12_compare_173 (by decide) ?_
                    exact tk_zret hC hr rfl hlocks hK ⟨hT, hF, (Or.inr (Or.inr ⟨rfl, ⟨x25, c1558, (show 1 ≤ x25.toInt by omega), (show x25.toInt ≤ 400 by omega)⟩, ⟨f0_, c1557, (show 0 ≤ f0_.toInt by omega), (show f0_.toInt ≤ 5 by omega)⟩, ⟨x1521, c1560, (show 1 ≤ x1521.toInt by omega), (show x1521.toInt ≤ 60 by omega)⟩, (by simp only [c1557, cf0_, cf2_, c1562, cf1_, c1560]; omega), (by simp only [c1557, cf0_, cf1_, c1560]; omega)⟩))⟩ hw dX12_compare_174
                  · have ex1525 : x1525.toInt = x25.toInt := by rw [← c1535.symm.trans c1526]
                    have ex1527 : x1527.toInt = f0_.toInt := by rw [← c1534.symm.trans c1528]
                    obtain ⟨x1547, c1548, rx1547, tx1547⟩ := hT.rda (lo := 0) (hi := 400) (i := (f0_.toInt).toNat) kM_at3 rfl rfl (by omega)
                    have g1531 : 3 * x1547.toInt + 11 ≤ 3 * x45.toInt + 14 * (x1529.toInt - x1492.toInt) := by have q := g1531; simp only [c1496, c1534, c1498, c1548, c1493, c1530] at q; omega
                    have g1532 : x1492.toInt + 1 ≤ x1529.toInt := by have q := g1532; simp only [c1496, c1534, c1493, c1530] at q; omega
                    refine lv_if_ne (tgt := 163) hx hb dX12_compare_158 (by decide) (fun _ => ?_) (fun c => absurd c (by decide))
                    refine lv_aload_n hx hb dX12_compare_163 rfl (lv_at hl 4 rfl) ?_
                    refine lv_bipush (v := 6) hx hb dX12_compare_164 (by decide) ?_
                    refine lv_iload hx hb dX12_compare_166 (lv_at hl 0 rfl) ?_
                    refine lv_iadd hx hb dX12_compare_168 ?_
                    refine wk_top 9 (by decide) ?_
                    refine lv_iconst (v := 0) hx hb dX12_compare_169 (by decide) ?_
                    refine tk_Vv hC hK hw hT hA hE hSR kM_at0 (by decide) rfl (k_X12_puts_1 l adK adV dC dI cy ad B (by omega) (by omega) qr s1   9 (by decide) (by decide) 0 w1503 H.size hT f0_ c1534 (show 0 ≤ f0_.toInt by omega) (show f0_.toInt ≤ 5 by omega) x1547 c1548 (show 0 ≤ x1547.toInt by omega) (show x1547.toInt ≤ 400 by omega) (show x1547.toInt ≤ 399 by omega)) (cwV 2 hC.2.2.2.2 gX12_compare_X12_puts rfl rfl rfl (by decide +kernel) ⟨Nat.le_of_ble_eq_true rfl, Nat.le_of_ble_eq_true rfl⟩) rfl hl.1 rfl (Nat.le_of_ble_eq_true rfl) dX12_compare_170 (fun w1565 H locs hp1564 hw => ?_)
                    obtain ⟨hT, k1566, hg1570⟩ := hp1564
                    have hF := hF.tr k1566 (by decide)
                    have c1571 := k1566.gi kM_at0 (by decide) c1534
                    have c1572 := k1566.gi kM_at0 (by decide) c1535
                    have c1573 := k1566.gi kM_at1 rfl c1536
                    have c1574 := k1566.gi kM_at0 (by decide) c1530
                    obtain ⟨⟨x1567, c1568, rx1567, tx1567⟩, g1569⟩ := hg1570
                    have ex1567 : x1567.toInt = f0_.toInt := by rw [← c1571.symm.trans c1568]
                    obtain ⟨x1575, c1576, rx1575, tx1575⟩ := hT.rda (lo := 0) (hi := 400) (i := (f0_.toInt).toNat) kM_at3 rfl rfl (by omega)
                    have g1569 : x1575.toInt = x1547.toInt + 1 := by have q := g1569; simp only [c1534, c1571, c1548, c1576] at q; omega
                    refine lv_iconst (v := 1) hx hb dX12_compare_173 (by decide) ?_
                    exact tk_zret hC hr rfl hlocks hK ⟨hT, hF, (Or.inr (Or.inr ⟨rfl, ⟨x25, c1572, (show 1 ≤ x25.toInt by omega), (show x25.toInt ≤ 400 by omega)⟩, ⟨f0_, c1571, (show 0 ≤ f0_.toInt by omega), (show f0_.toInt ≤ 5 by omega)⟩, ⟨x1529, c1574, (show 1 ≤ x1529.toInt by omega), (show x1529.toInt ≤ 60 by omega)⟩, (by simp only [c1571, cf0_, cf2_, c1576, cf1_, c1574]; omega), (by simp only [c1571, cf0_, cf1_, c1574]; omega)⟩))⟩ hw dX12_compare_174
          · have c1270 : ¬ r834.toInt = (62 : Int) := wk_eqF c1270
            refine lv_aload_n hx hb dX12_compare_37 rfl (lv_at hl 2 rfl) ?_
            refine lv_iconst (v := 0) hx hb dX12_compare_38 (by decide) ?_
            refine lv_iload_n hx hb dX12_compare_39 rfl (lv_at hl 0 rfl) ?_
            refine tk_Vi hC hK hw hT hA hE hSR kM_at0 (by decide) rfl (k_X12_fails_1 l adK adV dC dI cy ad B (by omega) (by omega) qr s1   0 (by decide) (by decide) x842 (show 0 ≤ x842.toInt by omega) (show x842.toInt ≤ 400 by omega) w836 H.size hT ) (cwV 2 hC.2.2.2.2 gX12_compare_X12_fails rfl rfl rfl (by decide +kernel) ⟨Nat.le_of_ble_eq_true rfl, Nat.le_of_ble_eq_true rfl⟩) rfl hl.1 rfl (Nat.le_of_ble_eq_true rfl) dX12_compare_40 (fun r1577 w1579 H locs hp1578 hw => ?_)
            obtain ⟨hT, k1580, hg1583⟩ := hp1578
            have hF := hF.tr k1580 (by decide)
            have c1584 := k1580.gi kM_at0 (by decide) c855
            have c1585 := k1580.gi kM_at0 (by decide) c856
            have c1586 := k1580.gi kM_at0 (by decide) c857
            have c1587 := k1580.gi kM_at3 rfl c858
            have c1588 := k1580.gi kM_at0 (by decide) c843
            obtain ⟨rfl, ⟨x1581, c1582, rx1581, tx1581⟩⟩ := hg1583
            exact tk_zret hC hr rfl hlocks hK ⟨hT, hF, (Or.inl ⟨rfl, ⟨x25, c1585, (show 1 ≤ x25.toInt by omega), (show x25.toInt ≤ 400 by omega)⟩, ⟨x1581, c1582, (show 1 ≤ x1581.toInt by omega), (show x1581.toInt ≤ 3205 by omega)⟩, ⟨f0_, c1584, (show 0 ≤ f0_.toInt by omega), (show f0_.toInt ≤ 5 by omega)⟩⟩)⟩ hw dX12_compare_43
    · have ex846 : x846.toInt = x25.toInt := by rw [← c856.symm.trans c847]
      have g850 : (x848.toInt = x832.toInt ∨ (gi w3 1 (x832.toInt).toNat).toInt = 32) := by have q := g850; simp only [c34, c855, c833, c849] at q; omega
      refine lv_istore_n (lv' := [(1, .int (-1)), (0, .ref (ad 0))]) hx hb dX12_compare_13 rfl hl (by decide) rfl (fun ls hl => ?_)
      refine lv_aload_n hx hb dX12_compare_14 rfl (lv_at hl 1 rfl) ?_
      refine tk_geti hC hK hw hT hinX12 kM_at0 (by decide) rfl 14 (by decide) (List.mem_of_getElem? (i := 1) rfl) rfl rfl dX12_compare_15 (fun x1589 c1590 rx1589 tx1589 => ?_)
      refine wk_top x848 (c1590.symm.trans c849) ?_
      refine lv_istore_n (lv' := [(2, .int x848), (1, .int (-1)), (0, .ref (ad 0))]) hx hb dX12_compare_18 rfl hl (by decide) rfl (fun ls hl => ?_)
      refine lv_iload_n hx hb dX12_compare_19 rfl (lv_at hl 1 rfl) ?_
      refine lv_bipush (v := 60) hx hb dX12_compare_20 (by decide) ?_
      refine lv_icmp_eq (tgt := 44) hx hb dX12_compare_22 (by decide) (fun c => absurd c (by decide)) (fun _ => ?_)
      refine lv_iload_n hx hb dX12_compare_25 rfl (lv_at hl 1 rfl) ?_
      refine lv_bipush (v := 61) hx hb dX12_compare_26 (by decide) ?_
      refine lv_icmp_eq (tgt := 44) hx hb dX12_compare_28 (by decide) (fun c => absurd c (by decide)) (fun _ => ?_)
      refine lv_iload_n hx hb dX12_compare_31 rfl (lv_at hl 1 rfl) ?_
      refine lv_bipush (v := 62) hx hb dX12_compare_32 (by decide) ?_
      refine lv_icmp_eq (tgt := 44) hx hb dX12_compare_34 (by decide) (fun c => absurd c (by decide)) (fun _ => ?_)
      refine lv_aload_n hx hb dX12_compare_37 rfl (lv_at hl 2 rfl) ?_
      refine lv_iconst (v := 0) hx hb dX12_compare_38 (by decide) ?_
      refine lv_iload_n hx hb dX12_compare_39 rfl (lv_at hl 0 rfl) ?_
      refine tk_Vi hC hK hw hT hA hE hSR kM_at0 (by decide) rfl (k_X12_fails_1 l adK adV dC dI cy ad B (by omega) (by omega) qr s1   0 (by decide) (by decide) x848 (show 0 ≤ x848.toInt by omega) (show x848.toInt ≤ 400 by omega) w836 H.size hT ) (cwV 2 hC.2.2.2.2 gX12_compare_X12_fails rfl rfl rfl (by decide +kernel) ⟨Nat.le_of_ble_eq_true rfl, Nat.le_of_ble_eq_true rfl⟩) rfl hl.1 rfl (Nat.le_of_ble_eq_true rfl) dX12_compare_40 (fun r1591 w1593 H locs hp1592 hw => ?_)
      obtain ⟨hT, k1594, hg1597⟩ := hp1592
      have hF := hF.tr k1594 (by decide)
      have c1598 := k1594.gi kM_at0 (by decide) c855
      have c1599 := k1594.gi kM_at0 (by decide) c856
      have c1600 := k1594.gi kM_at0 (by decide) c857
      have c1601 := k1594.gi kM_at3 rfl c858
      have c1602 := k1594.gi kM_at0 (by decide) c849
      obtain ⟨rfl, ⟨x1595, c1596, rx1595, tx1595⟩⟩ := hg1597
      exact tk_zret hC hr rfl hlocks hK ⟨hT, hF, (Or.inl ⟨rfl, ⟨x25, c1599, (show 1 ≤ x25.toInt by omega), (show x25.toInt ≤ 400 by omega)⟩, ⟨x1595, c1596, (show 1 ≤ x1595.toInt by omega), (show x1595.toInt ≤ 3205 by omega)⟩, ⟨f0_, c1598, (show 0 ≤ f0_.toInt by omega), (show f0_.toInt ≤ 5 by omega)⟩⟩)⟩ hw dX12_compare_43
    · have ex851 : x851.toInt = x25.toInt := by rw [← c856.symm.trans c852]
      obtain ⟨x859, c860, rx859, tx859⟩ := hT.rdi (lo := 0) (hi := 400) (k := 14) kM_at0 (by decide) rfl
      have g853 : (x859.toInt = x832.toInt ∨ (gi w3 1 (x832.toInt).toNat).toInt = 32) := by have q := g853; simp only [c34, c855, c833, c860] at q; omega
      refine lv_istore_n (lv' := [(1, .int (-1)), (0, .ref (ad 0))]) hx hb dX12_compare_13 rfl hl (by decide) rfl (fun ls hl => ?_)
      refine lv_aload_n hx hb dX12_compare_14 rfl (lv_at hl 1 rfl) ?_
      refine tk_geti hC hK hw hT hinX12 kM_at0 (by decide) rfl 14 (by decide) (List.mem_of_getElem? (i := 1) rfl) rfl rfl dX12_compare_15 (fun x1603 c1604 rx1603 tx1603 => ?_)
      refine wk_top x859 (c1604.symm.trans c860) ?_
      refine lv_istore_n (lv' := [(2, .int x859), (1, .int (-1)), (0, .ref (ad 0))]) hx hb dX12_compare_18 rfl hl (by decide) rfl (fun ls hl => ?_)
      refine lv_iload_n hx hb dX12_compare_19 rfl (lv_at hl 1 rfl) ?_
      refine lv_bipush (v := 60) hx hb dX12_compare_20 (by decide) ?_
      refine lv_icmp_eq (tgt := 44) hx hb dX12_compare_22 (by decide) (fun c => absurd c (by decide)) (fun _ => ?_)
      refine lv_iload_n hx hb dX12_compare_25 rfl (lv_at hl 1 rfl) ?_
      refine lv_bipush (v := 61) hx hb dX12_compare_26 (by decide) ?_
      refine lv_icmp_eq (tgt := 44) hx hb dX12_compare_28 (by decide) (fun c => absurd c (by decide)) (fun _ => ?_)
      refine lv_iload_n hx hb dX12_compare_31 rfl (lv_at hl 1 rfl) ?_
      refine lv_bipush (v := 62) hx hb dX12_compare_32 (by decide) ?_
      refine lv_icmp_eq (tgt := 44) hx hb dX12_compare_34 (by decide) (fun c => absurd c (by decide)) (fun _ => ?_)
      refine lv_aload_n hx hb dX12_compare_37 rfl (lv_at hl 2 rfl) ?_
      refine lv_iconst (v := 0) hx hb dX12_compare_38 (by decide) ?_
      refine lv_iload_n hx hb dX12_compare_39 rfl (lv_at hl 0 rfl) ?_
      refine tk_Vi hC hK hw hT hA hE hSR kM_at0 (by decide) rfl (k_X12_fails_1 l adK adV dC dI cy ad B (by omega) (by omega) qr s1   0 (by decide) (by decide) x859 (show 0 ≤ x859.toInt by omega) (show x859.toInt ≤ 400 by omega) w836 H.size hT ) (cwV 2 hC.2.2.2.2 gX12_compare_X12_fails rfl rfl rfl (by decide +kernel) ⟨Nat.le_of_ble_eq_true rfl, Nat.le_of_ble_eq_true rfl⟩) rfl hl.1 rfl (Nat.le_of_ble_eq_true rfl) dX12_compare_40 (fun r1605 w1607 H locs hp1606 hw => ?_)
      obtain ⟨hT, k1608, hg1611⟩ := hp1606
      have hF := hF.tr k1608 (by decide)
      have c1612 := k1608.gi kM_at0 (by decide) c855
      have c1613 := k1608.gi kM_at0 (by decide) c856
      have c1614 := k1608.gi kM_at0 (by decide) c857
      have c1615 := k1608.gi kM_at3 rfl c858
      have c1616 := k1608.gi kM_at0 (by decide) c860
      obtain ⟨rfl, ⟨x1609, c1610, rx1609, tx1609⟩⟩ := hg1611
      exact tk_zret hC hr rfl hlocks hK ⟨hT, hF, (Or.inr (Or.inl ⟨rfl, ⟨x25, c1613, (show 0 ≤ x25.toInt by omega), (show x25.toInt ≤ 400 by omega)⟩, ⟨x1609, c1610, (show 1 ≤ x1609.toInt by omega), (show x1609.toInt ≤ 3205 by omega)⟩, ⟨f0_, c1612, (show 0 ≤ f0_.toInt by omega), (show f0_.toInt ≤ 5 by omega)⟩⟩))⟩ hw dX12_compare_43
