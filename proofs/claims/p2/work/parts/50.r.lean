abbrev P_X12_isWord_20 (ad : Nat → Nat) (cy : Nat → ClassId) (B : Int) (qr : Nat) (s1 : Int)  (w0 : va_W) : Int32 → va_W → Prop := fun r u => TW ksM ad cy B qr 12 u ∧ FE ksM [(12, 14, 14)] w0 u ∧ ((r = 0 ∧ (∃ y : Int32, gi u 0 1 = y ∧ 0 ≤ y.toInt ∧ y.toInt ≤ 400) ∧ (((gi u 0 14).toInt = (gi w0 0 14).toInt ∨ (gi w0 1 ((gi w0 0 14).toInt).toNat).toInt = 32))) ∨ (r = 1 ∧ (∃ y : Int32, gi u 0 1 = y ∧ 0 ≤ y.toInt ∧ y.toInt ≤ 400) ∧ (((gi u 0 14).toInt = (gi w0 0 14).toInt ∨ (gi w0 1 ((gi w0 0 14).toInt).toNat).toInt = 32))))
set_option maxHeartbeats 4000000 in
set_option maxRecDepth 100000 in
theorem k_X12_isWord_20 (l : Launch) (adK adV : Nat → Nat) (dC : Nat → ClassId) (dI : Nat → Nat → Nat) (cy : Nat → ClassId) (ad : Nat → Nat) (B : Int) (hB0 : 100000 ≤ B) (hB1 : B ≤ 1073741824) (qr : Nat) (s1 : Int)   (w0 : va_W) (sz : Nat) (hT : TW ksM ad cy B qr 12 w0) (f0_ : Int32) (cf0_ : gi w0 0 14 = f0_) (rf0_ : 0 ≤ f0_.toInt) (tf0_ : f0_.toInt ≤ 400) : Met l yX12_isWord wsX12_isWord ({ frames := 2, cells := 0, slots := 0, locals := 33 }) (va_Pc [.ref (ad 0), .long 7237492] (wpreS adK adV dC dI cy sz w0)) (va_Qi (P_X12_isWord_20 ad cy B qr s1  w0) (fun u : va_W => wpost dC dI cy (va_A w0 sz) u) (va_A w0 sz)) 0 0 (va_A w0 sz) := by
  refine Met.ofW (cc := cX12_isWord) (maxL := 6) (ret := (some .boolean)) (by decide) rfl ?_
  intro p e s m args below meth c s₁ Bk hml hv
  obtain ⟨rfl, ⟨hsz, hP, hK, hD0⟩, hE, hSR⟩ := hv
  have hx := Bk.exec
  have hb := Bk.bytes
  have hr := Bk.returns
  have hlocks := Bk.notSynchronized
  have hC : CallFix p m c cX12_isWord 6 s _ wsX12_isWord RX12 := ⟨hx, hb, hml, findClass_of_methodNamed Bk.named, atoms_spec (ws := wsX12_isWord) Bk.pre⟩
  subst hsz
  have hD := hD0.self (sz := s.heap.size)
  generalize hAe : va_A w0 s.heap.size = A at hD hE ⊢
  have hA : ∀ q : Nat, s.heap.size ≤ q → A q := fun q h => by rw [← hAe]; exact Or.inr h
  have hw : Wd dC dI A s.heap s.heap [] w0 := ⟨hP, hD, va_S.rf⟩
  have hF : FE ksM [(12, 14, 14)] w0 w0 := FE.rf
  have hl := lv_entry ([.ref (ad 0), .long 7237492]) (n := 6) (Nat.le_of_ble_eq_true rfl)
  rw [lg_entry_eq]
  generalize (lg_sl ([.ref (ad 0), .long 7237492]) ++ List.replicate (6 - (lg_sl ([.ref (ad 0), .long 7237492])).length) Slot.unset).toArray = ls at hl ⊢
  have hl : lv_has ls 6 [(0, .ref (ad 0)), (1, .long 7237492)] := hl
  generalize hloc : ([] : List Loc) = locs at hw ⊢
  have hinX12 : ∀ w ∈ u_ws RX12 TX12 42, w ∈ wsX12_isWord := fun _ h => List.mem_cons_of_mem _ (List.mem_append_right _ (h))
  have J78 : ∀ (v78_3 : Int64) (v78_5 : Int32) (f78_0_1 : Int32) (f78_0_14 : Int32) (H : Heap) (locs : List Loc) (ls : Array Slot) (w1 : va_W), 0 ≤ v78_5.toInt → v78_5.toInt ≤ 400 → 0 ≤ f78_0_1.toInt → f78_0_1.toInt ≤ 400 → 0 ≤ f78_0_14.toInt → f78_0_14.toInt ≤ 400 → ((f78_0_14.toInt = f0_.toInt ∨ (gi w0 1 (f0_.toInt).toNat).toInt = 32)) → Wd dC dI A s.heap H locs w1 → TW ksM ad cy B qr 12 w1 → FE ksM [(12, 14, 14)] w0 w1 → gi w1 0 1 = f78_0_1 → gi w1 0 14 = f78_0_14 → lv_has ls 6 [(0, .ref (ad 0)), (1, .long 7237492), (3, .long v78_3), (5, .int v78_5)] → W p l e ({ frames := 2, cells := 0, slots := 0, locals := 33 }) s m (List.toArray [.ref (ad 0), .long 7237492]) below meth c H locs 0 0 (MQ below (va_Qi (P_X12_isWord_20 ad cy B qr s1  w0) (fun u : va_W => wpost dC dI cy A u) A) (List.toArray [.ref (ad 0), .long 7237492]) s 0 0 A) (F0 m 78 ls []) := by
    intro v78_3 v78_5 f78_0_1 f78_0_14 H locs ls w1 r2 t3 r4 t5 r7 t8 hcr78_0 hw hT hF c6 c9 hl
    refine lv_iconst (v := 0) hx hb dX12_isWord_78 (by decide) ?_
    exact tk_zret hC hr rfl hlocks hK ⟨hT, hF, (Or.inl ⟨rfl, ⟨f78_0_1, c6, (show 0 ≤ f78_0_1.toInt by omega), (show f78_0_1.toInt ≤ 400 by omega)⟩, (by simp only [cf0_, c9]; omega)⟩)⟩ hw dX12_isWord_79
  have L10 : ∀ (n10 : Nat) (v10_3 : Int64) (v10_5 : Int32) (f10_0_1 : Int32) (f10_0_14 : Int32) (H : Heap) (locs : List Loc) (ls : Array Slot) (w10 : va_W), 0 ≤ v10_5.toInt → v10_5.toInt ≤ 400 → 0 ≤ f10_0_1.toInt → f10_0_1.toInt ≤ 400 → 0 ≤ f10_0_14.toInt → f10_0_14.toInt ≤ 400 → ((f10_0_14.toInt = f0_.toInt ∨ (gi w0 1 (f0_.toInt).toNat).toInt = 32)) → (400 - v10_5.toInt).toNat < n10 → Wd dC dI A s.heap H locs w10 → TW ksM ad cy B qr 12 w10 → FE ksM [(12, 14, 14)] w0 w10 → gi w10 0 1 = f10_0_1 → gi w10 0 14 = f10_0_14 → lv_has ls 6 [(0, .ref (ad 0)), (1, .long 7237492), (3, .long v10_3), (5, .int v10_5)] → W p l e ({ frames := 2, cells := 0, slots := 0, locals := 33 }) s m (List.toArray [.ref (ad 0), .long 7237492]) below meth c H locs 0 0 (MQ below (va_Qi (P_X12_isWord_20 ad cy B qr s1  w0) (fun u : va_W => wpost dC dI cy A u) A) (List.toArray [.ref (ad 0), .long 7237492]) s 0 0 A) (F0 m 10 ls []) := by
    intro n10
    induction n10 with
    | zero => intro v10_3 v10_5 f10_0_1 f10_0_14 H locs ls w10 r11 t12 r13 t14 r16 t17 hcr10_0 hm10 hw hT hF c15 c18 hl; omega
    | succ n10 ih10 =>
      intro v10_3 v10_5 f10_0_1 f10_0_14 H locs ls w10 r11 t12 r13 t14 r16 t17 hcr10_0 hm10 hw hT hF c15 c18 hl
      have J50 : ∀ (v50_3 : Int64) (H : Heap) (locs : List Loc) (ls : Array Slot) (w19 : va_W), 0 ≤ v10_5.toInt → v10_5.toInt ≤ 399 → 1 ≤ f10_0_1.toInt → f10_0_1.toInt ≤ 400 → 0 ≤ f10_0_14.toInt → f10_0_14.toInt ≤ 399 → ((f10_0_14.toInt = f0_.toInt ∨ (gi w0 1 (f0_.toInt).toNat).toInt = 32)) → Wd dC dI A s.heap H locs w19 → TW ksM ad cy B qr 12 w19 → FE ksM [(12, 14, 14)] w0 w19 → gi w19 0 1 = f10_0_1 → gi w19 0 14 = f10_0_14 → lv_has ls 6 [(0, .ref (ad 0)), (1, .long 7237492), (3, .long v50_3), (5, .int v10_5)] → W p l e ({ frames := 2, cells := 0, slots := 0, locals := 33 }) s m (List.toArray [.ref (ad 0), .long 7237492]) below meth c H locs 0 0 (MQ below (va_Qi (P_X12_isWord_20 ad cy B qr s1  w0) (fun u : va_W => wpost dC dI cy A u) A) (List.toArray [.ref (ad 0), .long 7237492]) s 0 0 A) (F0 m 50 ls []) := by
        intro v50_3 H locs ls w19 r20 t21 r22 t23 r25 t26 hcr50_0 hw hT hF c24 c27 hl
        obtain ⟨x28, ex28⟩ : ∃ y : Int32, y = v10_5 + Int32.ofInt 1 := ⟨_, rfl⟩
        refine lv_iinc (v := x28) (lv' := [(5, .int x28), (0, .ref (ad 0)), (1, .long 7237492), (3, .long v50_3)]) hx hb dX12_isWord_50 hl (k := 3) rfl ex28.symm (by decide) rfl (fun ls hl => ?_)
        have ex28 : x28.toInt = v10_5.toInt + 1 := by rw [ex28]; exact wk_add (y := 1) (show -2147483648 ≤ v10_5.toInt + 1 by omega) (show v10_5.toInt + 1 ≤ 2147483647 by omega)
        refine lv_goto (tgt := 10) hx hb dX12_isWord_53 (by decide) ?_
        exact ih10 v50_3 x28 f10_0_1 f10_0_14 H locs ls w19 (show 0 ≤ x28.toInt by omega) (show x28.toInt ≤ 400 by omega) (show 0 ≤ f10_0_1.toInt by omega) (show f10_0_1.toInt ≤ 400 by omega) (show 0 ≤ f10_0_14.toInt by omega) (show f10_0_14.toInt ≤ 400 by omega) (show (f10_0_14.toInt = f0_.toInt ∨ (gi w0 1 (f0_.toInt).toNat).toInt = 32) by first | omega | assumption | (left; omega) | (left; decide) | (right; assumption)) (show (400 - x28.toInt).toNat < n10 by omega) hw hT hF c24 c27 (lv_sub hl [1, 2, 3, 0] rfl)
      refine lv_aload_n hx hb dX12_isWord_10 rfl (lv_at hl 0 rfl) ?_
      refine lv_aload_n hx hb dX12_isWord_11 rfl (lv_at hl 0 rfl) ?_
      refine tk_geti hC hK hw hT hinX12 kM_at0 (by decide) rfl 14 (by decide) (List.mem_of_getElem? (i := 1) rfl) rfl rfl dX12_isWord_12 (fun x29 c30 rx29 tx29 => ?_)
      refine wk_top f10_0_14 (c30.symm.trans c18) ?_
      refine lv_iload hx hb dX12_isWord_15 (lv_at hl 3 rfl) ?_
      refine lv_iadd hx hb dX12_isWord_17 ?_
      refine lv_topi (fun x31 ex31 => ?_)
      have ex31 : x31.toInt = f10_0_14.toInt + v10_5.toInt := by rw [ex31]; exact wk_add (show (-2147483648) ≤ f10_0_14.toInt + v10_5.toInt by omega) (show f10_0_14.toInt + v10_5.toInt ≤ 2147483647 by omega)
      refine tk_Vi hC hK hw hT hA hE hSR kM_at0 (by decide) rfl (k_X12_isLetter_1 l adK adV dC dI cy ad B (by omega) (by omega) qr s1   x31 (show 0 ≤ x31.toInt by omega) (show x31.toInt ≤ 800 by omega) w10 H.size hT ) (cwV 1 hC.2.2.2.2 gX12_isWord_X12_isLetter rfl rfl rfl (by decide +kernel) ⟨Nat.le_of_ble_eq_true rfl, Nat.le_of_ble_eq_true rfl⟩) rfl hl.1 rfl (Nat.le_of_ble_eq_true rfl) dX12_isWord_18 (fun r32 w34 H locs hp33 hw => ?_)
      obtain ⟨rfl, hg41⟩ := hp33
      rcases hg41 with ⟨rfl, ⟨x36, c37, rx36, tx36⟩⟩ | ⟨rfl, g38, ⟨x39, c40, rx39, tx39⟩⟩
      · have ex36 : x36.toInt = f10_0_1.toInt := by rw [← c15.symm.trans c37]
        refine lv_if_eq (tgt := 56) hx hb dX12_isWord_21 (by decide) (fun _ => ?_) (fun c => absurd (by decide) c)
        refine lv_iload hx hb dX12_isWord_56 (lv_at hl 3 rfl) ?_
        refine lv_if_le (tgt := 78) hx hb dX12_isWord_58 (by decide) (fun c42 => ?_) (fun c42 => ?_)
        · have c42 : v10_5.toInt ≤ (0 : Int) := wk_le.mp c42
          exact J78 v10_3 v10_5 f10_0_1 f10_0_14 H locs ls w10 (show 0 ≤ v10_5.toInt by omega) (show v10_5.toInt ≤ 400 by omega) (show 0 ≤ f10_0_1.toInt by omega) (show f10_0_1.toInt ≤ 400 by omega) (show 0 ≤ f10_0_14.toInt by omega) (show f10_0_14.toInt ≤ 400 by omega) (show (f10_0_14.toInt = f0_.toInt ∨ (gi w0 1 (f0_.toInt).toNat).toInt = 32) by first | omega | assumption | (left; omega) | (left; decide) | (right; assumption))  hw hT hF c15 c18 (lv_sub hl [0, 1, 2, 3] rfl)
        · have c42 : (0 : Int) < v10_5.toInt := wk_leF c42
          refine lv_iload hx hb dX12_isWord_61 (lv_at hl 3 rfl) ?_
          refine lv_bipush (v := 8) hx hb dX12_isWord_63 (by decide) ?_
          refine lv_icmp_ge (tgt := 78) hx hb dX12_isWord_65 (by decide) (fun c43 => ?_) (fun c43 => ?_)
          · have c43 : (8 : Int) ≤ v10_5.toInt := wk_le.mp c43
            exact J78 v10_3 v10_5 f10_0_1 f10_0_14 H locs ls w10 (show 0 ≤ v10_5.toInt by omega) (show v10_5.toInt ≤ 400 by omega) (show 0 ≤ f10_0_1.toInt by omega) (show f10_0_1.toInt ≤ 400 by omega) (show 0 ≤ f10_0_14.toInt by omega) (show f10_0_14.toInt ≤ 400 by omega) (show (f10_0_14.toInt = f0_.toInt ∨ (gi w0 1 (f0_.toInt).toNat).toInt = 32) by first | omega | assumption | (left; omega) | (left; decide) | (right; assumption))  hw hT hF c15 c18 (lv_sub hl [0, 1, 2, 3] rfl)
          · have c43 : v10_5.toInt < (8 : Int) := wk_leF c43
            refine lv_lload_n hx hb dX12_isWord_68 rfl (lv_at hl 2 rfl) ?_
            refine lv_lload_n hx hb dX12_isWord_69 rfl (lv_at hl 1 rfl) ?_
            refine W.lcmp hx hb dX12_isWord_70 ?_
            refine lv_if_ne (tgt := 78) hx hb dX12_isWord_71 (by decide) (fun c44 => ?_) (fun c44 => ?_)
            · have c44 : ¬ v10_3.toInt = (7237492 : Int) := wk_ceF c44
              exact J78 v10_3 v10_5 f10_0_1 f10_0_14 H locs ls w10 (show 0 ≤ v10_5.toInt by omega) (show v10_5.toInt ≤ 400 by omega) (show 0 ≤ f10_0_1.toInt by omega) (show f10_0_1.toInt ≤ 400 by omega) (show 0 ≤ f10_0_14.toInt by omega) (show f10_0_14.toInt ≤ 400 by omega) (show (f10_0_14.toInt = f0_.toInt ∨ (gi w0 1 (f0_.toInt).toNat).toInt = 32) by first | omega | assumption | (left; omega) | (left; decide) | (right; assumption))  hw hT hF c15 c18 (lv_sub hl [0, 1, 2, 3] rfl)
            · have c44 : v10_3.toInt = (7237492 : Int) := wk_ceT c44
              refine lv_iconst (v := 1) hx hb dX12_isWord_74 (by decide) ?_
              refine lv_goto (tgt := 79) hx hb dX12_isWord_75 (by decide) ?_
              exact tk_zret hC hr rfl hlocks hK ⟨hT, hF, (Or.inr ⟨rfl, ⟨f10_0_1, c15, (show 0 ≤ f10_0_1.toInt by omega), (show f10_0_1.toInt ≤ 400 by omega)⟩, (by simp only [cf0_, c18]; omega)⟩)⟩ hw dX12_isWord_79
      · have ex39 : x39.toInt = f10_0_1.toInt := by rw [← c15.symm.trans c40]
        refine lv_if_eq (tgt := 56) hx hb dX12_isWord_21 (by decide) (fun c => absurd c (by decide)) (fun _ => ?_)
        refine lv_iload hx hb dX12_isWord_24 (lv_at hl 3 rfl) ?_
        refine lv_bipush (v := 8) hx hb dX12_isWord_26 (by decide) ?_
        refine lv_icmp_ge (tgt := 50) hx hb dX12_isWord_28 (by decide) (fun c45 => ?_) (fun c45 => ?_)
        · have c45 : (8 : Int) ≤ v10_5.toInt := wk_le.mp c45
          exact J50 v10_3 H locs ls w10 (show 0 ≤ v10_5.toInt by omega) (show v10_5.toInt ≤ 399 by omega) (show 1 ≤ f10_0_1.toInt by omega) (show f10_0_1.toInt ≤ 400 by omega) (show 0 ≤ f10_0_14.toInt by omega) (show f10_0_14.toInt ≤ 399 by omega) (show (f10_0_14.toInt = f0_.toInt ∨ (gi w0 1 (f0_.toInt).toNat).toInt = 32) by first | omega | assumption | (left; omega) | (left; decide) | (right; assumption))  hw hT hF c15 c18 (lv_sub hl [0, 1, 2, 3] rfl)
        · have c45 : v10_5.toInt < (8 : Int) := wk_leF c45
          refine lv_lload_n hx hb dX12_isWord_31 rfl (lv_at hl 2 rfl) ?_
          refine lv_bipush (v := 8) hx hb dX12_isWord_32 (by decide) ?_
          refine lv_lshl hx hb dX12_isWord_34 rfl ?_
          refine lv_topl (fun x46 ex46 => ?_)
          refine lv_aload_n hx hb dX12_isWord_35 rfl (lv_at hl 0 rfl) ?_
          refine tk_getA hC hK hw hT hinX12 kM_at0 (by decide) rfl 0 (by decide) (List.mem_of_getElem? (i := 2) rfl) rfl rfl dX12_isWord_36 ?_
          refine lv_aload_n hx hb dX12_isWord_39 rfl (lv_at hl 0 rfl) ?_
          refine tk_geti hC hK hw hT hinX12 kM_at0 (by decide) rfl 14 (by decide) (List.mem_of_getElem? (i := 1) rfl) rfl rfl dX12_isWord_40 (fun x47 c48 rx47 tx47 => ?_)
          refine wk_top f10_0_14 (c48.symm.trans c18) ?_
          refine lv_iload hx hb dX12_isWord_43 (lv_at hl 3 rfl) ?_
          refine lv_iadd hx hb dX12_isWord_45 ?_
          refine lv_topi (fun x49 ex49 => ?_)
          have ex49 : x49.toInt = f10_0_14.toInt + v10_5.toInt := by rw [ex49]; exact wk_add (show (-2147483648) ≤ f10_0_14.toInt + v10_5.toInt by omega) (show f10_0_14.toInt + v10_5.toInt ≤ 2147483647 by omega)
          refine tk_bald hC hK hw hT kM_at1 rfl rfl (show 0 ≤ x49.toInt by omega) (show x49.toInt < 400 by omega) dX12_isWord_46 (fun x50 c51 rx50 tx50 => ?_)
          have c51 : gi w10 1 (1 * f10_0_14.toInt + 1 * v10_5.toInt + 0).toNat = x50 := (congrArg (gi w10 1) (congrArg Int.toNat (show 1 * f10_0_14.toInt + 1 * v10_5.toInt + 0 = x49.toInt by omega))).trans c51
          refine lv_i2l hx hb dX12_isWord_47 rfl ?_
          refine lv_topl (fun x52 ex52 => ?_)
          have ex52 : x52.toInt = x50.toInt := by rw [ex52]; exact wk_i2l _
          have bx52 := wk_i32 x50
          refine lv_lor hx hb dX12_isWord_48 ?_
          refine lv_topl (fun x53 ex53 => ?_)
          refine lv_lstore_n (lv' := [(3, .long x53), (0, .ref (ad 0)), (1, .long 7237492), (5, .int v10_5)]) hx hb dX12_isWord_49 rfl hl (by decide) rfl (fun ls hl => ?_)
          exact J50 x53 H locs ls w10 (show 0 ≤ v10_5.toInt by omega) (show v10_5.toInt ≤ 399 by omega) (show 1 ≤ f10_0_1.toInt by omega) (show f10_0_1.toInt ≤ 400 by omega) (show 0 ≤ f10_0_14.toInt by omega) (show f10_0_14.toInt ≤ 399 by omega) (show (f10_0_14.toInt = f0_.toInt ∨ (gi w0 1 (f0_.toInt).toNat).toInt = 32) by first | omega | assumption | (left; omega) | (left; decide) | (right; assumption) | (right; rw [c51]; omega) | (right; rw [c51]; decide))  hw hT hF c15 c18 (lv_sub hl [1, 2, 0, 3] rfl)
  refine lv_aload_n hx hb dX12_isWord_0 rfl (lv_at hl 0 rfl) ?_
  refine tk_Vi hC hK hw hT hA hE hSR kM_at0 (by decide) rfl (k_X12_see_1 l adK adV dC dI cy ad B (by omega) (by omega) qr s1    w0 s.heap.size hT f0_ cf0_ (show 0 ≤ f0_.toInt by omega) (show f0_.toInt ≤ 400 by omega)) (cwV 0 hC.2.2.2.2 gX12_isWord_X12_see rfl rfl rfl (by decide +kernel) ⟨Nat.le_of_ble_eq_true rfl, Nat.le_of_ble_eq_true rfl⟩) rfl hl.1 rfl (Nat.le_of_ble_eq_true rfl) dX12_isWord_1 (fun r54 w56 H locs hp55 hw => ?_)
  obtain ⟨hT, k57, hg74⟩ := hp55
  have hF := hF.tr k57 (by decide)
  rcases hg74 with ⟨g58, g59, ⟨x60, c61, rx60, tx60⟩, ⟨x62, c63, rx62, tx62⟩, g64, g65⟩ | ⟨rfl, ⟨x66, c67, rx66, tx66⟩, ⟨x68, c69, rx68, tx68⟩, g70⟩ | ⟨rfl, ⟨x71, c72, rx71, tx71⟩, g73⟩
  · have g64 : (gi w56 1 (x62.toInt).toNat).toInt ≠ 32 := by have q := g64; simp only [c63] at q; omega
    have g65 : (x62.toInt = f0_.toInt ∨ (gi w0 1 (f0_.toInt).toNat).toInt = 32) := by have q := g65; simp only [cf0_, c63] at q; omega
    refine lv_pop hx hb dX12_isWord_4 rfl ?_
    refine lv_lconst (v := 0) hx hb dX12_isWord_5 (by decide) ?_
    refine lv_lstore_n (lv' := [(3, .long 0), (0, .ref (ad 0)), (1, .long 7237492)]) hx hb dX12_isWord_6 rfl hl (by decide) rfl (fun ls hl => ?_)
    refine lv_iconst (v := 0) hx hb dX12_isWord_7 (by decide) ?_
    refine lv_istore (lv' := [(5, .int 0), (3, .long 0), (0, .ref (ad 0)), (1, .long 7237492)]) hx hb dX12_isWord_8 hl (by decide) rfl (fun ls hl => ?_)
    exact L10 ((400 - (0 : Int)).toNat + 1) 0 0 x60 x62 H locs ls w56 (by decide) (by decide) (show 0 ≤ x60.toInt by omega) (show x60.toInt ≤ 400 by omega) (show 0 ≤ x62.toInt by omega) (show x62.toInt ≤ 400 by omega) (show (x62.toInt = f0_.toInt ∨ (gi w0 1 (f0_.toInt).toNat).toInt = 32) by first | omega | assumption | (left; omega) | (left; decide) | (right; assumption)) (Nat.lt_succ_self _) hw hT hF c61 c63 (lv_sub hl [2, 3, 1, 0] rfl)
  · have g70 : (x68.toInt = f0_.toInt ∨ (gi w0 1 (f0_.toInt).toNat).toInt = 32) := by have q := g70; simp only [cf0_, c69] at q; omega
    refine lv_pop hx hb dX12_isWord_4 rfl ?_
    refine lv_lconst (v := 0) hx hb dX12_isWord_5 (by decide) ?_
    refine lv_lstore_n (lv' := [(3, .long 0), (0, .ref (ad 0)), (1, .long 7237492)]) hx hb dX12_isWord_6 rfl hl (by decide) rfl (fun ls hl => ?_)
    refine lv_iconst (v := 0) hx hb dX12_isWord_7 (by decide) ?_
    refine lv_istore (lv' := [(5, .int 0), (3, .long 0), (0, .ref (ad 0)), (1, .long 7237492)]) hx hb dX12_isWord_8 hl (by decide) rfl (fun ls hl => ?_)
    exact L10 ((400 - (0 : Int)).toNat + 1) 0 0 x66 x68 H locs ls w56 (by decide) (by decide) (show 0 ≤ x66.toInt by omega) (show x66.toInt ≤ 400 by omega) (show 0 ≤ x68.toInt by omega) (show x68.toInt ≤ 400 by omega) (show (x68.toInt = f0_.toInt ∨ (gi w0 1 (f0_.toInt).toNat).toInt = 32) by first | omega | assumption | (left; omega) | (left; decide) | (right; assumption)) (Nat.lt_succ_self _) hw hT hF c67 c69 (lv_sub hl [2, 3, 1, 0] rfl)
  · obtain ⟨x75, c76, rx75, tx75⟩ := hT.rdi (lo := 0) (hi := 400) (k := 14) kM_at0 (by decide) rfl
    have g73 : (x75.toInt = f0_.toInt ∨ (gi w0 1 (f0_.toInt).toNat).toInt = 32) := by have q := g73; simp only [cf0_, c76] at q; omega
    refine lv_pop hx hb dX12_isWord_4 rfl ?_
    refine lv_lconst (v := 0) hx hb dX12_isWord_5 (by decide) ?_
    refine lv_lstore_n (lv' := [(3, .long 0), (0, .ref (ad 0)), (1, .long 7237492)]) hx hb dX12_isWord_6 rfl hl (by decide) rfl (fun ls hl => ?_)
    refine lv_iconst (v := 0) hx hb dX12_isWord_7 (by decide) ?_
    refine lv_istore (lv' := [(5, .int 0), (3, .long 0), (0, .ref (ad 0)), (1, .long 7237492)]) hx hb dX12_isWord_8 hl (by decide) rfl (fun ls hl => ?_)
    exact L10 ((400 - (0 : Int)).toNat + 1) 0 0 x71 x75 H locs ls w56 (by decide) (by decide) (show 0 ≤ x71.toInt by omega) (show x71.toInt ≤ 400 by omega) (show 0 ≤ x75.toInt by omega) (show x75.toInt ≤ 400 by omega) (show (x75.toInt = f0_.toInt ∨ (gi w0 1 (f0_.toInt).toNat).toInt = 32) by first | omega | assumption | (left; omega) | (left; decide) | (right; assumption)) (Nat.lt_succ_self _) hw hT hF c72 c76 (lv_sub hl [2, 3, 1, 0] rfl)
abbrev P_X12_opens_1 (ad : Nat → Nat) (cy : Nat → ClassId) (B : Int) (qr : Nat) (s1 : Int)  (w0 : va_W) : Int32 → va_W → Prop := fun r u => TW ksM ad cy B qr 12 u ∧ FE ksM [(12, 15, 15), (12, 19, 19), (12, 22, 22), (68, 0, 400)] w0 u ∧ ((r = 0 ∧ (∃ y : Int32, gi u 0 15 = y ∧ 1 ≤ y.toInt ∧ y.toInt ≤ 3205) ∧ (∃ y : Int32, gi u 0 19 = y ∧ 10 ≤ y.toInt ∧ y.toInt ≤ 10) ∧ (∃ y : Int32, gi u 0 22 = y ∧ 0 ≤ y.toInt ∧ y.toInt ≤ 399)) ∨ (r = 1 ∧ (∃ y : Int32, gi u 0 19 = y ∧ (-99) ≤ y.toInt ∧ y.toInt ≤ 10) ∧ (∃ y : Int32, gi u 0 22 = y ∧ 1 ≤ y.toInt ∧ y.toInt ≤ 400) ∧ E9 u (gi u 0 22).toInt ∧ ((gi u 0 22).toInt = (gi w0 0 22).toInt + 1) ∧ ((gi u 0 19).toInt = (gi w0 0 19).toInt + 1) ∧ ((binN u ((gi u 0 22).toInt).toNat : Int) = (gi u 0 22).toInt - (gi u 0 19).toInt)))
set_option maxHeartbeats 4000000 in
set_option maxRecDepth 100000 in
theorem k_X12_opens_1 (l : Launch) (adK adV : Nat → Nat) (dC : Nat → ClassId) (dI : Nat → Nat → Nat) (cy : Nat → ClassId) (ad : Nat → Nat) (B : Int) (hB0 : 100000 ≤ B) (hB1 : B ≤ 1073741824) (qr : Nat) (s1 : Int)   (w0 : va_W) (sz : Nat) (hT : TW ksM ad cy B qr 12 w0) (f0_ : Int32) (cf0_ : gi w0 0 19 = f0_) (rf0_ : (-100) ≤ f0_.toInt) (tf0_ : f0_.toInt ≤ 10) (f1_ : Int32) (cf1_ : gi w0 0 22 = f1_) (rf1_ : 0 ≤ f1_.toInt) (tf1_ : f1_.toInt ≤ 400) (pr0_ : f1_.toInt ≤ 399) (pr1_ : (binN w0 (f1_.toInt).toNat : Int) = f1_.toInt - f0_.toInt) (hE9 : E9 w0 (f1_.toInt)) : Met l yX12_opens wsX12_opens ({ frames := 2, cells := 0, slots := 0, locals := 34 }) (va_Pc [.ref (ad 0), .int 11] (wpreS adK adV dC dI cy sz w0)) (va_Qi (P_X12_opens_1 ad cy B qr s1  w0) (fun u : va_W => wpost dC dI cy (va_A w0 sz) u) (va_A w0 sz)) 0 0 (va_A w0 sz) := by
  refine Met.ofW (cc := cX12_opens) (maxL := 2) (ret := (some .boolean)) (by decide) rfl ?_
  intro p e s m args below meth c s₁ Bk hml hv
  obtain ⟨rfl, ⟨hsz, hP, hK, hD0⟩, hE, hSR⟩ := hv
  have hx := Bk.exec
  have hb := Bk.bytes
  have hr := Bk.returns
  have hlocks := Bk.notSynchronized
  have hC : CallFix p m c cX12_opens 2 s _ wsX12_opens RX12 := ⟨hx, hb, hml, findClass_of_methodNamed Bk.named, atoms_spec (ws := wsX12_opens) Bk.pre⟩
  subst hsz
  have hD := hD0.self (sz := s.heap.size)
  generalize hAe : va_A w0 s.heap.size = A at hD hE ⊢
  have hA : ∀ q : Nat, s.heap.size ≤ q → A q := fun q h => by rw [← hAe]; exact Or.inr h
  have hw : Wd dC dI A s.heap s.heap [] w0 := ⟨hP, hD, va_S.rf⟩
  have hF : FE ksM [(12, 15, 15), (12, 19, 19), (12, 22, 22), (68, 0, 400)] w0 w0 := FE.rf
  have hl := lv_entry ([.ref (ad 0), .int 11]) (n := 2) (Nat.le_of_ble_eq_true rfl)
  rw [lg_entry_eq]
  generalize (lg_sl ([.ref (ad 0), .int 11]) ++ List.replicate (2 - (lg_sl ([.ref (ad 0), .int 11])).length) Slot.unset).toArray = ls at hl ⊢
  have hl : lv_has ls 2 [(0, .ref (ad 0)), (1, .int 11)] := hl
  generalize hloc : ([] : List Loc) = locs at hw ⊢
  have hinX12 : ∀ w ∈ u_ws RX12 TX12 42, w ∈ wsX12_opens := fun _ h => List.mem_cons_of_mem _ (List.mem_append_right _ (h))
  have gl1 := bin_le w0 (f1_.toInt).toNat
  refine lv_aload_n hx hb dX12_opens_0 rfl (lv_at hl 0 rfl) ?_
  refine tk_geti hC hK hw hT hinX12 kM_at0 (by decide) rfl 19 (by decide) (List.mem_of_getElem? (i := 1) rfl) rfl rfl dX12_opens_1 (fun x2 c3 rx2 tx2 => ?_)
  refine wk_top f0_ (c3.symm.trans cf0_) ?_
  refine lv_bipush (v := 10) hx hb dX12_opens_4 (by decide) ?_
  refine lv_icmp_ne (tgt := 19) hx hb dX12_opens_6 (by decide) (fun c4 => ?_) (fun c4 => ?_)
  · have c4 : ¬ f0_.toInt = (10 : Int) := wk_eqF c4
    refine lv_aload_n hx hb dX12_opens_19 rfl (lv_at hl 0 rfl) ?_
    refine lv_dup hx hb dX12_opens_20 rfl ?_
    refine tk_geti hC hK hw hT hinX12 kM_at0 (by decide) rfl 19 (by decide) (List.mem_of_getElem? (i := 1) rfl) rfl rfl dX12_opens_21 (fun x5 c6 rx5 tx5 => ?_)
    refine wk_top f0_ (c6.symm.trans cf0_) ?_
    refine lv_iconst (v := 1) hx hb dX12_opens_24 (by decide) ?_
    refine lv_iadd hx hb dX12_opens_25 ?_
    refine lv_topi (fun x7 ex7 => ?_)
    have ex7 : x7.toInt = f0_.toInt + (1 : Int) := by rw [ex7]; exact wk_add (show (-2147483648) ≤ f0_.toInt + (1 : Int) by omega) (show f0_.toInt + (1 : Int) ≤ 2147483647 by omega)
    refine tk_puti hC hK hw hT hinX12 tyX12_ok nmX12 kM_at0 (by decide) rfl rfl 19 (by decide) (List.mem_of_getElem? (i := 1) rfl) rfl rfl rfl rfl (show (-100) ≤ x7.toInt by omega) (show x7.toInt ≤ 10 by omega) dX12_opens_26 (fun H locs w8 hw hT k10 c9 => ?_)
    have gn11 : binN w8 (f1_.toInt).toNat = binN w0 (f1_.toInt).toNat := bin_F1 _ k10 (by decide)
    have hE9 := E9_F1 k10 (by decide) hE9
    have hF := hF.put kM_at0 (k := 19) (by decide) k10
    have c12 := k10.gi (Or.inr (by decide)) cf1_
    refine lv_aload_n hx hb dX12_opens_29 rfl (lv_at hl 0 rfl) ?_
    refine tk_getA hC hK hw hT hinX12 kM_at0 (by decide) rfl 21 (by decide) (List.mem_of_getElem? (i := 3) rfl) rfl rfl dX12_opens_30 ?_
    refine lv_aload_n hx hb dX12_opens_33 rfl (lv_at hl 0 rfl) ?_
    refine tk_geti hC hK hw hT hinX12 kM_at0 (by decide) rfl 22 (by decide) (List.mem_of_getElem? (i := 4) rfl) rfl rfl dX12_opens_34 (fun x13 c14 rx13 tx13 => ?_)
    refine wk_top f1_ (c14.symm.trans c12) ?_
    refine lv_iload_n hx hb dX12_opens_37 rfl (lv_at hl 1 rfl) ?_
    refine tk_iast hC hK hw hT kM_at9 (by decide) rfl rfl (show 0 ≤ f1_.toInt by omega) (show f1_.toInt < 400 by omega) (by decide) (by decide) dX12_opens_38 (fun H locs w15 hw hT k17 c16 => ?_)
    have gn18 : binN w15 (f1_.toInt).toNat = binN w8 (f1_.toInt).toNat := bin_ge _ k17 (show (f1_.toInt).toNat ≤ f1_.toInt.toNat by omega)
    have gx19 : (gi w15 9 (f1_.toInt).toNat).toInt = (11 : Int) := by rw [show gi w15 9 (f1_.toInt).toNat = 11 from c16]; decide
    have hE9 := E9_put (o := f1_.toInt) (o' := f1_.toInt + 1) k17 (show ((f1_.toInt.toNat : Nat) : Int) = _ by omega) rfl (by rw [c16]; unfold e9; decide) (E9_le hE9 (by omega))
    have hF := hF.put kM_at9 (inE_of (a := 0) (b := 400) (by decide) (show 0 ≤ f1_.toInt.toNat by omega) (show f1_.toInt.toNat ≤ 400 by omega)) k17
    have c20 := k17.gi (Or.inl (tk_ne kM_at0 kM_at9 (by decide))) c12
    have c21 := k17.gi (Or.inl (tk_ne kM_at0 kM_at9 (by decide))) c9
    refine lv_aload_n hx hb dX12_opens_39 rfl (lv_at hl 0 rfl) ?_
    refine lv_dup hx hb dX12_opens_40 rfl ?_
    refine tk_geti hC hK hw hT hinX12 kM_at0 (by decide) rfl 22 (by decide) (List.mem_of_getElem? (i := 4) rfl) rfl rfl dX12_opens_41 (fun x22 c23 rx22 tx22 => ?_)
    refine wk_top f1_ (c23.symm.trans c20) ?_
    refine lv_iconst (v := 1) hx hb dX12_opens_44 (by decide) ?_
    refine lv_iadd hx hb dX12_opens_45 ?_
    refine lv_topi (fun x24 ex24 => ?_)
    have ex24 : x24.toInt = f1_.toInt + (1 : Int) := by rw [ex24]; exact wk_add (show (-2147483648) ≤ f1_.toInt + (1 : Int) by omega) (show f1_.toInt + (1 : Int) ≤ 2147483647 by omega)
    refine tk_puti hC hK hw hT hinX12 tyX12_ok nmX12 kM_at0 (by decide) rfl rfl 22 (by decide) (List.mem_of_getElem? (i := 4) rfl) rfl rfl rfl rfl (show 0 ≤ x24.toInt by omega) (show x24.toInt ≤ 400 by omega) dX12_opens_46 (fun H locs w25 hw hT k27 c26 => ?_)
    have gn28 : binN w25 (f1_.toInt).toNat = binN w15 (f1_.toInt).toNat := bin_F1 _ k27 (by decide)
    have gn29 : binN w25 (x24.toInt).toNat = binN w15 (x24.toInt).toNat := bin_F1 _ k27 (by decide)
    have gt30 := bin_top (w := w15) (a := x24.toInt) (b := f1_.toInt) (by omega) (by omega)
    have hE9 := E9_F1 k27 (by decide) hE9
    have hF := hF.put kM_at0 (k := 22) (by decide) k27
    have c31 := k27.gi (Or.inr (by decide)) c21
    refine lv_iconst (v := 1) hx hb dX12_opens_49 (by decide) ?_
    exact tk_zret hC hr rfl hlocks hK ⟨hT, hF, (Or.inr ⟨rfl, ⟨x7, c31, (show (-99) ≤ x7.toInt by omega), (show x7.toInt ≤ 10 by omega)⟩, ⟨x24, c26, (show 1 ≤ x24.toInt by omega), (show x24.toInt ≤ 400 by omega)⟩, (E9_le hE9 (by simp only [c26] <;> omega)), (by simp only [cf1_, c26]; omega), (by simp only [cf0_, c31]; omega), (by simp only [c31, c26]; omega)⟩)⟩ hw dX12_opens_50
  · have c4 : f0_.toInt = (10 : Int) := wk_eq.mp c4
    refine lv_aload_n hx hb dX12_opens_9 rfl (lv_at hl 0 rfl) ?_
    refine lv_iconst (v := 2) hx hb dX12_opens_10 (by decide) ?_
    refine lv_aload_n hx hb dX12_opens_11 rfl (lv_at hl 0 rfl) ?_
    refine tk_geti hC hK hw hT hinX12 kM_at0 (by decide) rfl 14 (by decide) (List.mem_of_getElem? (i := 2) rfl) rfl rfl dX12_opens_12 (fun x32 c33 rx32 tx32 => ?_)
    refine tk_Vi hC hK hw hT hA hE hSR kM_at0 (by decide) rfl (k_X12_fails_1 l adK adV dC dI cy ad B (by omega) (by omega) qr s1   2 (by decide) (by decide) x32 (show 0 ≤ x32.toInt by omega) (show x32.toInt ≤ 400 by omega) w0 s.heap.size hT ) (cwV 2 hC.2.2.2.2 gX12_opens_X12_fails rfl rfl rfl (by decide +kernel) ⟨Nat.le_of_ble_eq_true rfl, Nat.le_of_ble_eq_true rfl⟩) rfl hl.1 rfl (Nat.le_of_ble_eq_true rfl) dX12_opens_15 (fun r34 w36 H locs hp35 hw => ?_)
    obtain ⟨hT, k37, hg40⟩ := hp35
    have hE9 := E9_FE k37 (fun _ => rfl) hE9
    have gn41 : binN w36 (f1_.toInt).toNat = binN w0 (f1_.toInt).toNat := bin_FE _ k37 (fun _ => rfl)
    have hF := hF.tr k37 (by decide)
    have c42 := k37.gi kM_at0 (by decide) cf0_
    have c43 := k37.gi kM_at0 (by decide) cf1_
    have c44 := k37.gi kM_at0 (by decide) c33
    obtain ⟨rfl, ⟨x38, c39, rx38, tx38⟩⟩ := hg40
    exact tk_zret hC hr rfl hlocks hK ⟨hT, hF, (Or.inl ⟨rfl, ⟨x38, c39, (show 1 ≤ x38.toInt by omega), (show x38.toInt ≤ 3205 by omega)⟩, ⟨f0_, c42, (show 10 ≤ f0_.toInt by omega), (show f0_.toInt ≤ 10 by omega)⟩, ⟨f1_, c43, (show 0 ≤ f1_.toInt by omega), (show f1_.toInt ≤ 399 by omega)⟩⟩)⟩ hw dX12_opens_18
abbrev P_X12_opens_2 (ad : Nat → Nat) (cy : Nat → ClassId) (B : Int) (qr : Nat) (s1 : Int)  (w0 : va_W) : Int32 → va_W → Prop := fun r u => TW ksM ad cy B qr 12 u ∧ FE ksM [(12, 15, 15), (12, 19, 19), (12, 22, 22), (68, 0, 400)] w0 u ∧ ((r = 0 ∧ (∃ y : Int32, gi u 0 15 = y ∧ 1 ≤ y.toInt ∧ y.toInt ≤ 3205) ∧ (∃ y : Int32, gi u 0 19 = y ∧ 10 ≤ y.toInt ∧ y.toInt ≤ 10) ∧ (∃ y : Int32, gi u 0 22 = y ∧ 0 ≤ y.toInt ∧ y.toInt ≤ 399)) ∨ (r = 1 ∧ (∃ y : Int32, gi u 0 19 = y ∧ (-99) ≤ y.toInt ∧ y.toInt ≤ 10) ∧ (∃ y : Int32, gi u 0 22 = y ∧ 1 ≤ y.toInt ∧ y.toInt ≤ 400) ∧ E9 u (gi u 0 22).toInt ∧ ((gi u 0 22).toInt = (gi w0 0 22).toInt + 1) ∧ ((gi u 0 19).toInt = (gi w0 0 19).toInt + 1) ∧ ((binN u ((gi u 0 22).toInt).toNat : Int) = (gi u 0 22).toInt - (gi u 0 19).toInt)))
set_option maxHeartbeats 4000000 in
set_option maxRecDepth 100000 in
theorem k_X12_opens_2 (l : Launch) (adK adV : Nat → Nat) (dC : Nat → ClassId) (dI : Nat → Nat → Nat) (cy : Nat → ClassId) (ad : Nat → Nat) (B : Int) (hB0 : 100000 ≤ B) (hB1 : B ≤ 1073741824) (qr : Nat) (s1 : Int)   (w0 : va_W) (sz : Nat) (hT : TW ksM ad cy B qr 12 w0) (f0_ : Int32) (cf0_ : gi w0 0 19 = f0_) (rf0_ : (-100) ≤ f0_.toInt) (tf0_ : f0_.toInt ≤ 10) (f1_ : Int32) (cf1_ : gi w0 0 22 = f1_) (rf1_ : 0 ≤ f1_.toInt) (tf1_ : f1_.toInt ≤ 400) (pr0_ : f1_.toInt ≤ 399) (pr1_ : (binN w0 (f1_.toInt).toNat : Int) = f1_.toInt - f0_.toInt) (hE9 : E9 w0 (f1_.toInt)) : Met l yX12_opens wsX12_opens ({ frames := 2, cells := 0, slots := 0, locals := 34 }) (va_Pc [.ref (ad 0), .int 91] (wpreS adK adV dC dI cy sz w0)) (va_Qi (P_X12_opens_2 ad cy B qr s1  w0) (fun u : va_W => wpost dC dI cy (va_A w0 sz) u) (va_A w0 sz)) 0 0 (va_A w0 sz) := by
  refine Met.ofW (cc := cX12_opens) (maxL := 2) (ret := (some .boolean)) (by decide) rfl ?_
  intro p e s m args below meth c s₁ Bk hml hv
  obtain ⟨rfl, ⟨hsz, hP, hK, hD0⟩, hE, hSR⟩ := hv
  have hx := Bk.exec
  have hb := Bk.bytes
  have hr := Bk.returns
  have hlocks := Bk.notSynchronized
  have hC : CallFix p m c cX12_opens 2 s _ wsX12_opens RX12 := ⟨hx, hb, hml, findClass_of_methodNamed Bk.named, atoms_spec (ws := wsX12_opens) Bk.pre⟩
  subst hsz
  have hD := hD0.self (sz := s.heap.size)
  generalize hAe : va_A w0 s.heap.size = A at hD hE ⊢
  have hA : ∀ q : Nat, s.heap.size ≤ q → A q := fun q h => by rw [← hAe]; exact Or.inr h
  have hw : Wd dC dI A s.heap s.heap [] w0 := ⟨hP, hD, va_S.rf⟩
  have hF : FE ksM [(12, 15, 15), (12, 19, 19), (12, 22, 22), (68, 0, 400)] w0 w0 := FE.rf
  have hl := lv_entry ([.ref (ad 0), .int 91]) (n := 2) (Nat.le_of_ble_eq_true rfl)
  rw [lg_entry_eq]
  generalize (lg_sl ([.ref (ad 0), .int 91]) ++ List.replicate (2 - (lg_sl ([.ref (ad 0), .int 91])).length) Slot.unset).toArray = ls at hl ⊢
  have hl : lv_has ls 2 [(0, .ref (ad 0)), (1, .int 91)] := hl
  generalize hloc : ([] : List Loc) = locs at hw ⊢
  have hinX12 : ∀ w ∈ u_ws RX12 TX12 42, w ∈ wsX12_opens := fun _ h => List.mem_cons_of_mem _ (List.mem_append_right _ (h))
  have gl1 := bin_le w0 (f1_.toInt).toNat
  refine lv_aload_n hx hb dX12_opens_0 rfl (lv_at hl 0 rfl) ?_
  refine tk_geti hC hK hw hT hinX12 kM_at0 (by decide) rfl 19 (by decide) (List.mem_of_getElem? (i := 1) rfl) rfl rfl dX12_opens_1 (fun x2 c3 rx2 tx2 => ?_)
  refine wk_top f0_ (c3.symm.trans cf0_) ?_
  refine lv_bipush (v := 10) hx hb dX12_opens_4 (by decide) ?_
  refine lv_icmp_ne (tgt := 19) hx hb dX12_opens_6 (by decide) (fun c4 => ?_) (fun c4 => ?_)
  · have c4 : ¬ f0_.toInt = (10 : Int) := wk_eqF c4
    refine lv_aload_n hx hb dX12_opens_19 rfl (lv_at hl 0 rfl) ?_
    refine lv_dup hx hb dX12_opens_20 rfl ?_
    refine tk_geti hC hK hw hT hinX12 kM_at0 (by decide) rfl 19 (by decide) (List.mem_of_getElem? (i := 1) rfl) rfl rfl dX12_opens_21 (fun x5 c6 rx5 tx5 => ?_)
    refine wk_top f0_ (c6.symm.trans cf0_) ?_
    refine lv_iconst (v := 1) hx hb dX12_opens_24 (by decide) ?_
    refine lv_iadd hx hb dX12_opens_25 ?_
    refine lv_topi (fun x7 ex7 => ?_)
    have ex7 : x7.toInt = f0_.toInt + (1 : Int) := by rw [ex7]; exact wk_add (show (-2147483648) ≤ f0_.toInt + (1 : Int) by omega) (show f0_.toInt + (1 : Int) ≤ 2147483647 by omega)
    refine tk_puti hC hK hw hT hinX12 tyX12_ok nmX12 kM_at0 (by decide) rfl rfl 19 (by decide) (List.mem_of_getElem? (i := 1) rfl) rfl rfl rfl rfl (show (-100) ≤ x7.toInt by omega) (show x7.toInt ≤ 10 by omega) dX12_opens_26 (fun H locs w8 hw hT k10 c9 => ?_)
    have gn11 : binN w8 (f1_.toInt).toNat = binN w0 (f1_.toInt).toNat := bin_F1 _ k10 (by decide)
    have hE9 := E9_F1 k10 (by decide) hE9
    have hF := hF.put kM_at0 (k := 19) (by decide) k10
    have c12 := k10.gi (Or.inr (by decide)) cf1_
    refine lv_aload_n hx hb dX12_opens_29 rfl (lv_at hl 0 rfl) ?_
    refine tk_getA hC hK hw hT hinX12 kM_at0 (by decide) rfl 21 (by decide) (List.mem_of_getElem? (i := 3) rfl) rfl rfl dX12_opens_30 ?_
    refine lv_aload_n hx hb dX12_opens_33 rfl (lv_at hl 0 rfl) ?_
    refine tk_geti hC hK hw hT hinX12 kM_at0 (by decide) rfl 22 (by decide) (List.mem_of_getElem? (i := 4) rfl) rfl rfl dX12_opens_34 (fun x13 c14 rx13 tx13 => ?_)
    refine wk_top f1_ (c14.symm.trans c12) ?_
    refine lv_iload_n hx hb dX12_opens_37 rfl (lv_at hl 1 rfl) ?_
    refine tk_iast hC hK hw hT kM_at9 (by decide) rfl rfl (show 0 ≤ f1_.toInt by omega) (show f1_.toInt < 400 by omega) (by decide) (by decide) dX12_opens_38 (fun H locs w15 hw hT k17 c16 => ?_)
    have gn18 : binN w15 (f1_.toInt).toNat = binN w8 (f1_.toInt).toNat := bin_ge _ k17 (show (f1_.toInt).toNat ≤ f1_.toInt.toNat by omega)
    have gx19 : (gi w15 9 (f1_.toInt).toNat).toInt = (91 : Int) := by rw [show gi w15 9 (f1_.toInt).toNat = 91 from c16]; decide
    have hE9 := E9_put (o := f1_.toInt) (o' := f1_.toInt + 1) k17 (show ((f1_.toInt.toNat : Nat) : Int) = _ by omega) rfl (by rw [c16]; unfold e9; decide) (E9_le hE9 (by omega))
    have hF := hF.put kM_at9 (inE_of (a := 0) (b := 400) (by decide) (show 0 ≤ f1_.toInt.toNat by omega) (show f1_.toInt.toNat ≤ 400 by omega)) k17
    have c20 := k17.gi (Or.inl (tk_ne kM_at0 kM_at9 (by decide))) c12
    have c21 := k17.gi (Or.inl (tk_ne kM_at0 kM_at9 (by decide))) c9
    refine lv_aload_n hx hb dX12_opens_39 rfl (lv_at hl 0 rfl) ?_
    refine lv_dup hx hb dX12_opens_40 rfl ?_
    refine tk_geti hC hK hw hT hinX12 kM_at0 (by decide) rfl 22 (by decide) (List.mem_of_getElem? (i := 4) rfl) rfl rfl dX12_opens_41 (fun x22 c23 rx22 tx22 => ?_)
    refine wk_top f1_ (c23.symm.trans c20) ?_
    refine lv_iconst (v := 1) hx hb dX12_opens_44 (by decide) ?_
    refine lv_iadd hx hb dX12_opens_45 ?_
    refine lv_topi (fun x24 ex24 => ?_)
    have ex24 : x24.toInt = f1_.toInt + (1 : Int) := by rw [ex24]; exact wk_add (show (-2147483648) ≤ f1_.toInt + (1 : Int) by omega) (show f1_.toInt + (1 : Int) ≤ 2147483647 by omega)
    refine tk_puti hC hK hw hT hinX12 tyX12_ok nmX12 kM_at0 (by decide) rfl rfl 22 (by decide) (List.mem_of_getElem? (i := 4) rfl) rfl rfl rfl rfl (show 0 ≤ x24.toInt by omega) (show x24.toInt ≤ 400 by omega) dX12_opens_46 (fun H locs w25 hw hT k27 c26 => ?_)
    have gn28 : binN w25 (f1_.toInt).toNat = binN w15 (f1_.toInt).toNat := bin_F1 _ k27 (by decide)
    have gn29 : binN w25 (x24.toInt).toNat = binN w15 (x24.toInt).toNat := bin_F1 _ k27 (by decide)
    have gt30 := bin_top (w := w15) (a := x24.toInt) (b := f1_.toInt) (by omega) (by omega)
    have hE9 := E9_F1 k27 (by decide) hE9
    have hF := hF.put kM_at0 (k := 22) (by decide) k27
    have c31 := k27.gi (Or.inr (by decide)) c21
    refine lv_iconst (v := 1) hx hb dX12_opens_49 (by decide) ?_
    exact tk_zret hC hr rfl hlocks hK ⟨hT, hF, (Or.inr ⟨rfl, ⟨x7, c31, (show (-99) ≤ x7.toInt by omega), (show x7.toInt ≤ 10 by omega)⟩, ⟨x24, c26, (show 1 ≤ x24.toInt by omega), (show x24.toInt ≤ 400 by omega)⟩, (E9_le hE9 (by simp only [c26] <;> omega)), (by simp only [cf1_, c26]; omega), (by simp only [cf0_, c31]; omega), (by simp only [c31, c26]; omega)⟩)⟩ hw dX12_opens_50
  · have c4 : f0_.toInt = (10 : Int) := wk_eq.mp c4
    refine lv_aload_n hx hb dX12_opens_9 rfl (lv_at hl 0 rfl) ?_
    refine lv_iconst (v := 2) hx hb dX12_opens_10 (by decide) ?_
    refine lv_aload_n hx hb dX12_opens_11 rfl (lv_at hl 0 rfl) ?_
    refine tk_geti hC hK hw hT hinX12 kM_at0 (by decide) rfl 14 (by decide) (List.mem_of_getElem? (i := 2) rfl) rfl rfl dX12_opens_12 (fun x32 c33 rx32 tx32 => ?_)
    refine tk_Vi hC hK hw hT hA hE hSR kM_at0 (by decide) rfl (k_X12_fails_1 l adK adV dC dI cy ad B (by omega) (by omega) qr s1   2 (by decide) (by decide) x32 (show 0 ≤ x32.toInt by omega) (show x32.toInt ≤ 400 by omega) w0 s.heap.size hT ) (cwV 2 hC.2.2.2.2 gX12_opens_X12_fails rfl rfl rfl (by decide +kernel) ⟨Nat.le_of_ble_eq_true rfl, Nat.le_of_ble_eq_true rfl⟩) rfl hl.1 rfl (Nat.le_of_ble_eq_true rfl) dX12_opens_15 (fun r34 w36 H locs hp35 hw => ?_)
    obtain ⟨hT, k37, hg40⟩ := hp35
    have hE9 := E9_FE k37 (fun _ => rfl) hE9
    have gn41 : binN w36 (f1_.toInt).toNat = binN w0 (f1_.toInt).toNat := bin_FE _ k37 (fun _ => rfl)
    have hF := hF.tr k37 (by decide)
    have c42 := k37.gi kM_at0 (by decide) cf0_
    have c43 := k37.gi kM_at0 (by decide) cf1_
    have c44 := k37.gi kM_at0 (by decide) c33
    obtain ⟨rfl, ⟨x38, c39, rx38, tx38⟩⟩ := hg40
    exact tk_zret hC hr rfl hlocks hK ⟨hT, hF, (Or.inl ⟨rfl, ⟨x38, c39, (show 1 ≤ x38.toInt by omega), (show x38.toInt ≤ 3205 by omega)⟩, ⟨f0_, c42, (show 10 ≤ f0_.toInt by omega), (show f0_.toInt ≤ 10 by omega)⟩, ⟨f1_, c43, (show 0 ≤ f1_.toInt by omega), (show f1_.toInt ≤ 399 by omega)⟩⟩)⟩ hw dX12_opens_18
abbrev P_X12_fact_1 (ad : Nat → Nat) (cy : Nat → ClassId) (B : Int) (qr : Nat) (s1 : Int)  (gT gb gd : Int) (w0 : va_W) : Int32 → va_W → Prop := fun r u => TW ksM ad cy B qr 12 u ∧ FE ksM [(12, 14, 14), (12, 15, 15), (12, 16, 16), (12, 18, 18), (12, 19, 19), (12, 22, 22), (61, 0, 2400), (62, 0, 7), (68, 0, 400)] w0 u ∧ ((r = 0 ∧ (∃ y : Int32, gi u 0 1 = y ∧ 1 ≤ y.toInt ∧ y.toInt ≤ 400) ∧ (∃ y : Int32, gi u 0 15 = y ∧ 1 ≤ y.toInt ∧ y.toInt ≤ 3205) ∧ (∃ y : Int32, gi u 0 17 = y ∧ 0 ≤ y.toInt ∧ y.toInt ≤ 5) ∧ (∃ y : Int32, gi u 0 22 = y ∧ 0 ≤ y.toInt ∧ y.toInt ≤ 399) ∧ RLc u gT) ∨ (r = 0 ∧ (∃ y : Int32, gi u 0 1 = y ∧ 0 ≤ y.toInt ∧ y.toInt ≤ 400) ∧ (∃ y : Int32, gi u 0 15 = y ∧ 1 ≤ y.toInt ∧ y.toInt ≤ 3205) ∧ (∃ y : Int32, gi u 0 17 = y ∧ 0 ≤ y.toInt ∧ y.toInt ≤ 5) ∧ (∃ y : Int32, gi u 0 22 = y ∧ 0 ≤ y.toInt ∧ y.toInt ≤ 399) ∧ RLc u gT) ∨ (r = 1 ∧ (∃ y : Int32, gi u 0 1 = y ∧ 1 ≤ y.toInt ∧ y.toInt ≤ 400) ∧ (∃ y : Int32, gi u 0 17 = y ∧ 0 ≤ y.toInt ∧ y.toInt ≤ 5) ∧ (∃ y : Int32, gi u 0 18 = y ∧ 1 ≤ y.toInt ∧ y.toInt ≤ 60) ∧ (∃ y : Int32, gi u 0 22 = y ∧ 0 ≤ y.toInt ∧ y.toInt ≤ 390) ∧ OKW u gT gb ((gi u 0 22).toInt - (gi u 0 19).toInt + 1) ∧ E9 u (gi u 0 22).toInt ∧ (3 * ((gi u 3 ((gi u 0 17).toInt).toNat).toInt + (gi u 0 22).toInt) + 3 ≤ 14 * (gi u 0 18).toInt) ∧ ((gi u 0 22).toInt + 3 ≤ (gi u 0 19).toInt + (gi u 0 18).toInt) ∧ ((gi w0 0 18).toInt + 3 ≤ (gi u 0 18).toInt) ∧ ((gi u 3 ((gi u 0 17).toInt).toNat).toInt ≤ 280) ∧ ((gi u 0 22).toInt ≤ 280) ∧ ((binN u ((gi u 0 22).toInt).toNat : Int) = (gi u 0 22).toInt - (gi u 0 19).toInt)))
set_option maxHeartbeats 4000000 in
set_option maxRecDepth 100000 in
theorem k_X12_fact_1 (l : Launch) (adK adV : Nat → Nat) (dC : Nat → ClassId) (dI : Nat → Nat → Nat) (cy : Nat → ClassId) (ad : Nat → Nat) (B : Int) (hB0 : 100000 ≤ B) (hB1 : B ≤ 1073741824) (qr : Nat) (s1 : Int)   (w0 : va_W) (sz : Nat) (hT : TW ksM ad cy B qr 12 w0) (f0_ : Int32) (cf0_ : gi w0 0 17 = f0_) (rf0_ : 0 ≤ f0_.toInt) (tf0_ : f0_.toInt ≤ 5) (f1_ : Int32) (cf1_ : gi w0 0 18 = f1_) (rf1_ : 0 ≤ f1_.toInt) (tf1_ : f1_.toInt ≤ 60) (f2_ : Int32) (cf2_ : gi w0 0 19 = f2_) (rf2_ : (-100) ≤ f2_.toInt) (tf2_ : f2_.toInt ≤ 10) (f3_ : Int32) (cf3_ : gi w0 0 22 = f3_) (rf3_ : 0 ≤ f3_.toInt) (tf3_ : f3_.toInt ≤ 400) (f4_ : Int32) (cf4_ : gi w0 3 (f0_.toInt).toNat = f4_) (rf4_ : 0 ≤ f4_.toInt) (tf4_ : f4_.toInt ≤ 400) (pr0_ : 3 * (f4_.toInt + f3_.toInt) ≤ 14 * f1_.toInt) (pr1_ : f3_.toInt ≤ f2_.toInt + f1_.toInt) (pr2_ : f4_.toInt ≤ 280) (pr3_ : f3_.toInt ≤ 280) (pr4_ : (binN w0 (f3_.toInt).toNat : Int) = f3_.toInt - f2_.toInt) (gb gd : Int) (hO : OKW w0 f0_.toInt gb (f3_.toInt - f2_.toInt)) (hE9 : E9 w0 (f3_.toInt)) : Met l yX12_fact wsX12_fact ({ frames := 8, cells := 0, slots := 0, locals := 166 }) (va_Pc [.ref (ad 0)] (wpreS adK adV dC dI cy sz w0)) (va_Qi (P_X12_fact_1 ad cy B qr s1  f0_.toInt gb gd w0) (fun u : va_W => wpost dC dI cy (va_A w0 sz) u) (va_A w0 sz)) 0 0 (va_A w0 sz) := by
  refine Met.ofW (cc := cX12_fact) (maxL := 3) (ret := (some .boolean)) (by decide) rfl ?_
  intro p e s m args below meth c s₁ Bk hml hv
  obtain ⟨rfl, ⟨hsz, hP, hK, hD0⟩, hE, hSR⟩ := hv
  have hx := Bk.exec
  have hb := Bk.bytes
  have hr := Bk.returns
  have hlocks := Bk.notSynchronized
  have hC : CallFix p m c cX12_fact 3 s _ wsX12_fact RX12 := ⟨hx, hb, hml, findClass_of_methodNamed Bk.named, atoms_spec (ws := wsX12_fact) Bk.pre⟩
  subst hsz
  have hD := hD0.self (sz := s.heap.size)
  generalize hAe : va_A w0 s.heap.size = A at hD hE ⊢
  have hA : ∀ q : Nat, s.heap.size ≤ q → A q := fun q h => by rw [← hAe]; exact Or.inr h
  have hw : Wd dC dI A s.heap s.heap [] w0 := ⟨hP, hD, va_S.rf⟩
  have hF : FE ksM [(12, 14, 14), (12, 15, 15), (12, 16, 16), (12, 18, 18), (12, 19, 19), (12, 22, 22), (61, 0, 2400), (62, 0, 7), (68, 0, 400)] w0 w0 := FE.rf
  have hl := lv_entry ([.ref (ad 0)]) (n := 3) (Nat.le_of_ble_eq_true rfl)
  rw [lg_entry_eq]
  generalize (lg_sl ([.ref (ad 0)]) ++ List.replicate (3 - (lg_sl ([.ref (ad 0)])).length) Slot.unset).toArray = ls at hl ⊢
  have hl : lv_has ls 3 [(0, .ref (ad 0))] := hl
  generalize hloc : ([] : List Loc) = locs at hw ⊢
  have hinX12 : ∀ w ∈ u_ws RX12 TX12 42, w ∈ wsX12_fact := fun _ h => List.mem_cons_of_mem _ (List.mem_append_right _ (h))
  have gl0 := bin_le w0 (f3_.toInt).toNat
  have L2 : ∀ (n2 : Nat) (v2_1 : Int32) (f2_0_19 : Int32) (f2_0_22 : Int32) (H : Heap) (locs : List Loc) (ls : Array Slot) (w1 : va_W), 0 ≤ v2_1.toInt → v2_1.toInt ≤ 1 → 0 ≤ f0_.toInt → f0_.toInt ≤ 5 → 0 ≤ f1_.toInt → f1_.toInt ≤ 60 → (-100) ≤ f2_0_19.toInt → f2_0_19.toInt ≤ 10 → 0 ≤ f2_0_22.toInt → f2_0_22.toInt ≤ 390 → 0 ≤ f4_.toInt → f4_.toInt ≤ 280 → ((binN w1 (f2_0_22.toInt).toNat : Int) = f2_0_22.toInt - f2_0_19.toInt) → (f4_.toInt = f4_.toInt) → (f1_.toInt = f1_.toInt) → (f2_0_22.toInt + f2_.toInt = f3_.toInt + f2_0_19.toInt) → (f2_.toInt ≤ f2_0_19.toInt) → (f4_.toInt ≤ 280) → (f2_0_22.toInt ≤ 390) → (2 * (10 - f2_0_19.toInt) + v2_1.toInt).toNat < n2 → Wd dC dI A s.heap H locs w1 → TW ksM ad cy B qr 12 w1 → FE ksM [(12, 14, 14), (12, 15, 15), (12, 16, 16), (12, 18, 18), (12, 19, 19), (12, 22, 22), (61, 0, 2400), (62, 0, 7), (68, 0, 400)] w0 w1 → OKW w1 f0_.toInt gb (f2_0_22.toInt - f2_0_19.toInt) → E9 w1 (f2_0_22.toInt) → gi w1 0 17 = f0_ → gi w1 0 18 = f1_ → gi w1 0 19 = f2_0_19 → gi w1 0 22 = f2_0_22 → gi w1 3 (f0_.toInt).toNat = f4_ → lv_has ls 3 [(0, .ref (ad 0)), (1, .int v2_1)] → W p l e ({ frames := 8, cells := 0, slots := 0, locals := 166 }) s m (List.toArray [.ref (ad 0)]) below meth c H locs 0 0 (MQ below (va_Qi (P_X12_fact_1 ad cy B qr s1  f0_.toInt gb gd w0) (fun u : va_W => wpost dC dI cy A u) A) (List.toArray [.ref (ad 0)]) s 0 0 A) (F0 m 2 ls []) := by
    intro n2
    induction n2 with
    | zero => intro v2_1 f2_0_19 f2_0_22 H locs ls w1 r2 t3 r4 t5 r7 t8 r10 t11 r13 t14 r16 t17 hcr2_0 hcr2_1 hcr2_2 hcr2_3 hcr2_4 hcr2_5 hcr2_6 hm2 hw hT hF hO hE9 c6 c9 c12 c15 c18 hl; omega
    | succ n2 ih2 =>
      intro v2_1 f2_0_19 f2_0_22 H locs ls w1 r2 t3 r4 t5 r7 t8 r10 t11 r13 t14 r16 t17 hcr2_0 hcr2_1 hcr2_2 hcr2_3 hcr2_4 hcr2_5 hcr2_6 hm2 hw hT hF hO hE9 c6 c9 c12 c15 c18 hl
      have gl19 := bin_le w1 (f2_0_22.toInt).toNat
      refine lv_iload_n hx hb dX12_fact_2 rfl (lv_at hl 1 rfl) ?_
      refine lv_if_eq (tgt := 75) hx hb dX12_fact_3 (by decide) (fun c20 => ?_) (fun c20 => ?_)
      · have c20 : v2_1.toInt = (0 : Int) := wk_eq.mp c20
        refine lv_aload_n hx hb dX12_fact_75 rfl (lv_at hl 0 rfl) ?_
        refine tk_Vi hC hK hw hT hA hE hSR kM_at0 (by decide) rfl (k_X12_compare_1 l adK adV dC dI cy ad B (by omega) (by omega) qr s1    w1 H.size hT f0_ c6 (show 0 ≤ f0_.toInt by omega) (show f0_.toInt ≤ 5 by omega) f1_ c9 (show 0 ≤ f1_.toInt by omega) (show f1_.toInt ≤ 60 by omega) f4_ c18 (show 0 ≤ f4_.toInt by omega) (show f4_.toInt ≤ 400 by omega) (show 3 * f4_.toInt ≤ 14 * f1_.toInt + 30 by omega) (show f4_.toInt ≤ 290 by omega) gb (f2_0_22.toInt - f2_0_19.toInt) (by omega) (by omega) (OKW_cast hO (show f2_0_22.toInt - f2_0_19.toInt = f2_0_22.toInt - f2_0_19.toInt by omega))) (cwV 0 hC.2.2.2.2 gX12_fact_X12_compare rfl rfl rfl (by decide +kernel) ⟨Nat.le_of_ble_eq_true rfl, Nat.le_of_ble_eq_true rfl⟩) rfl hl.1 rfl (Nat.le_of_ble_eq_true rfl) dX12_fact_76 (fun r21 w23 H locs hp22 hw => ?_)
        obtain ⟨hT, k24, hg48⟩ := hp22
        have hE9 := E9_FE k24 (fun _ => rfl) hE9
        have gn49 : binN w23 (f2_0_22.toInt).toNat = binN w1 (f2_0_22.toInt).toNat := bin_FE _ k24 (fun _ => rfl)
        have hF := hF.tr k24 (by decide)
        have c50 := k24.gi kM_at0 (by decide) c6
        have c51 := k24.gi kM_at0 (by decide) c12
        have c52 := k24.gi kM_at0 (by decide) c15
        rcases hg48 with ⟨rfl, ⟨x25, c26, rx25, tx25⟩, ⟨x27, c28, rx27, tx27⟩, ⟨x29, c30, rx29, tx29⟩, hq31⟩ | ⟨rfl, ⟨x32, c33, rx32, tx32⟩, ⟨x34, c35, rx34, tx34⟩, ⟨x36, c37, rx36, tx36⟩, hq38⟩ | ⟨rfl, ⟨x39, c40, rx39, tx39⟩, ⟨x41, c42, rx41, tx41⟩, ⟨x43, c44, rx43, tx43⟩, hq45, g46, g47⟩
        · have ex29 : x29.toInt = f0_.toInt := by rw [← c50.symm.trans c30]
          obtain ⟨x53, c54, rx53, tx53⟩ := hT.rda (lo := 0) (hi := 400) (i := (f0_.toInt).toNat) kM_at3 rfl rfl (by omega)
          obtain ⟨x55, c56, rx55, tx55⟩ := hT.rdi (lo := 0) (hi := 60) (k := 18) kM_at0 (by decide) rfl
          have hR := hq31
          exact tk_zret hC hr rfl hlocks hK ⟨hT, hF, (Or.inl ⟨rfl, ⟨x25, c26, (show 1 ≤ x25.toInt by omega), (show x25.toInt ≤ 400 by omega)⟩, ⟨x27, c28, (show 1 ≤ x27.toInt by omega), (show x27.toInt ≤ 3205 by omega)⟩, ⟨f0_, c50, (show 0 ≤ f0_.toInt by omega), (show f0_.toInt ≤ 5 by omega)⟩, ⟨f2_0_22, c52, (show 0 ≤ f2_0_22.toInt by omega), (show f2_0_22.toInt ≤ 399 by omega)⟩, hR⟩)⟩ hw dX12_fact_79
        · have ex36 : x36.toInt = f0_.toInt := by rw [← c50.symm.trans c37]
          obtain ⟨x57, c58, rx57, tx57⟩ := hT.rda (lo := 0) (hi := 400) (i := (f0_.toInt).toNat) kM_at3 rfl rfl (by omega)
          obtain ⟨x59, c60, rx59, tx59⟩ := hT.rdi (lo := 0) (hi := 60) (k := 18) kM_at0 (by decide) rfl
          have hR := hq38
          exact tk_zret hC hr rfl hlocks hK ⟨hT, hF, (Or.inr (Or.inl ⟨rfl, ⟨x32, c33, (show 0 ≤ x32.toInt by omega), (show x32.toInt ≤ 400 by omega)⟩, ⟨x34, c35, (show 1 ≤ x34.toInt by omega), (show x34.toInt ≤ 3205 by omega)⟩, ⟨f0_, c50, (show 0 ≤ f0_.toInt by omega), (show f0_.toInt ≤ 5 by omega)⟩, ⟨f2_0_22, c52, (show 0 ≤ f2_0_22.toInt by omega), (show f2_0_22.toInt ≤ 399 by omega)⟩, hR⟩))⟩ hw dX12_fact_79
        · have ex41 : x41.toInt = f0_.toInt := by rw [← c50.symm.trans c42]
          obtain ⟨x61, c62, rx61, tx61⟩ := hT.rda (lo := 0) (hi := 400) (i := (f0_.toInt).toNat) kM_at3 rfl rfl (by omega)
          have g46 : 3 * x61.toInt + 33 ≤ 3 * f4_.toInt + 14 * (x43.toInt - f1_.toInt) := by have q := g46; simp only [c6, c50, c18, c62, c9, c44] at q; omega
          have g47 : f1_.toInt + 3 ≤ x43.toInt := by have q := g47; simp only [c6, c50, c9, c44] at q; omega
          have hO : OKW w23 f0_.toInt gb ((f2_0_22.toInt - f2_0_19.toInt) + 1) := by have q := hq45; exact OKW_cast q (by omega)
          exact tk_zret hC hr rfl hlocks hK ⟨hT, hF, (Or.inr (Or.inr ⟨rfl, ⟨x39, c40, (show 1 ≤ x39.toInt by omega), (show x39.toInt ≤ 400 by omega)⟩, ⟨f0_, c50, (show 0 ≤ f0_.toInt by omega), (show f0_.toInt ≤ 5 by omega)⟩, ⟨x43, c44, (show 1 ≤ x43.toInt by omega), (show x43.toInt ≤ 60 by omega)⟩, ⟨f2_0_22, c52, (show 0 ≤ f2_0_22.toInt by omega), (show f2_0_22.toInt ≤ 390 by omega)⟩, (OKW_cast hO (by simp only [c51, c52] <;> omega)), (E9_le hE9 (by simp only [c52] <;> omega)), (by simp only [c50, cf0_, c62, c44, c52]; omega), (by simp only [c50, cf0_, c51, c44, c52]; omega), (by simp only [c50, cf0_, cf1_, c44]; omega), (by simp only [c50, cf0_, c62]; omega), (by simp only [c50, cf0_, c52]; omega), (by simp only [c50, cf0_, c51, c52]; omega)⟩))⟩ hw dX12_fact_79
      · have c20 : ¬ v2_1.toInt = (0 : Int) := wk_eqF c20
        refine lv_iconst (v := 0) hx hb dX12_fact_6 (by decide) ?_
        refine lv_istore_n (lv' := [(1, .int 0), (0, .ref (ad 0))]) hx hb dX12_fact_7 rfl hl (by decide) rfl (fun ls hl => ?_)
        refine lv_aload_n hx hb dX12_fact_8 rfl (lv_at hl 1 rfl) ?_
        obtain ⟨x63, c64, rx63, tx63⟩ := hT.rdi (lo := 0) (hi := 400) (k := 14) kM_at0 (by decide) rfl
        refine tk_Vi hC hK hw hT hA hE hSR kM_at0 (by decide) rfl (k_X12_see_1 l adK adV dC dI cy ad B (by omega) (by omega) qr s1    w1 H.size hT x63 c64 (show 0 ≤ x63.toInt by omega) (show x63.toInt ≤ 400 by omega)) (cwV 0 hC.2.2.2.2 gX12_fact_X12_see rfl rfl rfl (by decide +kernel) ⟨Nat.le_of_ble_eq_true rfl, Nat.le_of_ble_eq_true rfl⟩) rfl hl.1 rfl (Nat.le_of_ble_eq_true rfl) dX12_fact_9 (fun r65 w67 H locs hp66 hw => ?_)
        obtain ⟨hT, k68, hg85⟩ := hp66
        have hO := OKW_FE k68 (fun _ => rfl) (fun _ => rfl) (fun _ => rfl) (fun _ => rfl) hO
        have hE9 := E9_FE k68 (fun _ => rfl) hE9
        have gn86 : binN w67 (f2_0_22.toInt).toNat = binN w1 (f2_0_22.toInt).toNat := bin_FE _ k68 (fun _ => rfl)
        have hF := hF.tr k68 (by decide)
        have c87 := k68.gi kM_at0 (by decide) c6
        have c88 := k68.gi kM_at0 (by decide) c9
        have c89 := k68.gi kM_at0 (by decide) c12
        have c90 := k68.gi kM_at0 (by decide) c15
        have c91 := k68.gi kM_at3 rfl c18
        rcases hg85 with ⟨g69, g70, ⟨x71, c72, rx71, tx71⟩, ⟨x73, c74, rx73, tx73⟩, g75, g76⟩ | ⟨rfl, ⟨x77, c78, rx77, tx77⟩, ⟨x79, c80, rx79, tx79⟩, g81⟩ | ⟨rfl, ⟨x82, c83, rx82, tx82⟩, g84⟩
        · have g75 : (gi w67 1 (x73.toInt).toNat).toInt ≠ 32 := by have q := g75; simp only [c6, c87, c74] at q; omega
          have g76 : (x73.toInt = x63.toInt ∨ (gi w1 1 (x63.toInt).toNat).toInt = 32) := by have q := g76; simp only [c6, c87, c64, c74] at q; omega
          refine lv_istore_n (lv' := [(2, .int r65), (1, .int 0), (0, .ref (ad 0))]) hx hb dX12_fact_12 rfl hl (by decide) rfl (fun ls hl => ?_)
          refine lv_aload_n hx hb dX12_fact_13 rfl (lv_at hl 2 rfl) ?_
          refine lv_ldc2 (v := 7237492) hx hb hC.2.2.2.1 (hC.2.2.2.2 _ (List.mem_of_getElem? (i := 1) rfl)) dX12_fact_14 ?_
          refine tk_Vi hC hK hw hT hA hE hSR kM_at0 (by decide) rfl (k_X12_isWord_20 l adK adV dC dI cy ad B (by omega) (by omega) qr s1    w67 H.size hT x73 c74 (show 0 ≤ x73.toInt by omega) (show x73.toInt ≤ 400 by omega)) (cwV 1 hC.2.2.2.2 gX12_fact_X12_isWord rfl rfl rfl (by decide +kernel) ⟨Nat.le_of_ble_eq_true rfl, Nat.le_of_ble_eq_true rfl⟩) rfl hl.1 rfl (Nat.le_of_ble_eq_true rfl) dX12_fact_17 (fun r94 w96 H locs hp95 hw => ?_)
          obtain ⟨hT, k97, hg104⟩ := hp95
          have hO := OKW_FE k97 (fun _ => rfl) (fun _ => rfl) (fun _ => rfl) (fun _ => rfl) hO
          have hE9 := E9_FE k97 (fun _ => rfl) hE9
          have gn105 : binN w96 (f2_0_22.toInt).toNat = binN w67 (f2_0_22.toInt).toNat := bin_FE _ k97 (fun _ => rfl)
          have hF := hF.tr k97 (by decide)
          have c106 := k97.gi kM_at0 (by decide) c87
          have c107 := k97.gi kM_at0 (by decide) c88
          have c108 := k97.gi kM_at0 (by decide) c89
          have c109 := k97.gi kM_at0 (by decide) c90
          have c110 := k97.gi kM_at3 rfl c91
          have c111 := k97.gi kM_at0 (by decide) c72
          rcases hg104 with ⟨rfl, ⟨x98, c99, rx98, tx98⟩, g100⟩ | ⟨rfl, ⟨x101, c102, rx101, tx101⟩, g103⟩
          · have ex98 : x98.toInt = x71.toInt := by rw [← c111.symm.trans c99]
            obtain ⟨x112, c113, rx112, tx112⟩ := hT.rdi (lo := 0) (hi := 400) (k := 14) kM_at0 (by decide) rfl
            have g100 : (x112.toInt = x73.toInt ∨ (gi w67 1 (x73.toInt).toNat).toInt = 32) := by have q := g100; simp only [c87, c106, c74, c113] at q; omega
            refine lv_if_eq (tgt := 43) hx hb dX12_fact_20 (by decide) (fun _ => ?_) (fun c => absurd (by decide) c)
            refine lv_iload_n hx hb dX12_fact_43 rfl (lv_at hl 0 rfl) ?_
            refine lv_bipush (v := 91) hx hb dX12_fact_44 (by decide) ?_
            refine lv_icmp_ne (tgt := 72) hx hb dX12_fact_46 (by decide) (fun c116 => ?_) (fun c116 => ?_)
            · have c116 : ¬ r65.toInt = (91 : Int) := wk_eqF c116
              refine lv_goto (tgt := 2) hx hb dX12_fact_72 (by decide) ?_
              exact ih2 0 f2_0_19 f2_0_22 H locs ls w96 (by decide) (by decide) (show 0 ≤ f0_.toInt by omega) (show f0_.toInt ≤ 5 by omega) (show 0 ≤ f1_.toInt by omega) (show f1_.toInt ≤ 60 by omega) (show (-100) ≤ f2_0_19.toInt by omega) (show f2_0_19.toInt ≤ 10 by omega) (show 0 ≤ f2_0_22.toInt by omega) (show f2_0_22.toInt ≤ 390 by omega) (show 0 ≤ f4_.toInt by omega) (show f4_.toInt ≤ 280 by omega) (show (binN w96 (f2_0_22.toInt).toNat : Int) = f2_0_22.toInt - f2_0_19.toInt by omega) (show f4_.toInt = f4_.toInt by omega) (show f1_.toInt = f1_.toInt by omega) (show f2_0_22.toInt + f2_.toInt = f3_.toInt + f2_0_19.toInt by omega) (show f2_.toInt ≤ f2_0_19.toInt by omega) (show f4_.toInt ≤ 280 by omega) (show f2_0_22.toInt ≤ 390 by omega) (show (2 * (10 - f2_0_19.toInt) + (0 : Int)).toNat < n2 by omega) hw hT hF (OKW_cast hO (show f2_0_22.toInt - f2_0_19.toInt = f2_0_22.toInt - f2_0_19.toInt by omega)) (E9_le hE9 (show f2_0_22.toInt ≤ _ by omega)) c106 c107 c108 c109 c110 (lv_sub hl [2, 1] rfl)
            · have c116 : r65.toInt = (91 : Int) := wk_eq.mp c116
              refine lv_aload_n hx hb dX12_fact_49 rfl (lv_at hl 2 rfl) ?_
              refine lv_bipush (v := 91) hx hb dX12_fact_50 (by decide) ?_
              refine tk_Vi hC hK hw hT hA hE hSR kM_at0 (by decide) rfl (k_X12_opens_2 l adK adV dC dI cy ad B (by omega) (by omega) qr s1    w96 H.size hT f2_0_19 c108 (show (-100) ≤ f2_0_19.toInt by omega) (show f2_0_19.toInt ≤ 10 by omega) f2_0_22 c109 (show 0 ≤ f2_0_22.toInt by omega) (show f2_0_22.toInt ≤ 400 by omega) (show f2_0_22.toInt ≤ 399 by omega) (show (binN w96 (f2_0_22.toInt).toNat : Int) = f2_0_22.toInt - f2_0_19.toInt by omega) (E9_le hE9 (show f2_0_22.toInt ≤ _ by omega))) (cwV 1 hC.2.2.2.2 gX12_fact_X12_opens rfl rfl rfl (by decide +kernel) ⟨Nat.le_of_ble_eq_true rfl, Nat.le_of_ble_eq_true rfl⟩) rfl hl.1 rfl (Nat.le_of_ble_eq_true rfl) dX12_fact_52 (fun r117 w119 H locs hp118 hw => ?_)
              obtain ⟨hT, k120, hg135⟩ := hp118
              have hO := OKW_FE k120 (fun _ => rfl) (fun _ => rfl) (fun _ => rfl) (fun _ => rfl) hO
              have hF := hF.tr k120 (by decide)
              have c136 := k120.gi kM_at0 (by decide) c106
              have c137 := k120.gi kM_at0 (by decide) c107
              have c138 := k120.gi kM_at3 rfl c110
              have c139 := k120.gi kM_at0 (by decide) c111
              have c140 := k120.gi kM_at0 (by decide) c113
              rcases hg135 with ⟨rfl, ⟨x121, c122, rx121, tx121⟩, ⟨x123, c124, rx123, tx123⟩, ⟨x125, c126, rx125, tx125⟩⟩ | ⟨rfl, ⟨x127, c128, rx127, tx127⟩, ⟨x129, c130, rx129, tx129⟩, hq131, g132, g133, g134⟩
              · refine lv_if_ne (tgt := 60) hx hb dX12_fact_55 (by decide) (fun c => absurd (by decide) c) (fun _ => ?_)
                refine lv_iconst (v := 0) hx hb dX12_fact_58 (by decide) ?_
                exact tk_zret hC hr rfl hlocks hK ⟨hT, hF, (Or.inl ⟨rfl, ⟨x71, c139, (show 1 ≤ x71.toInt by omega), (show x71.toInt ≤ 400 by omega)⟩, ⟨x121, c122, (show 1 ≤ x121.toInt by omega), (show x121.toInt ≤ 3205 by omega)⟩, ⟨f0_, c136, (show 0 ≤ f0_.toInt by omega), (show f0_.toInt ≤ 5 by omega)⟩, ⟨x125, c126, (show 0 ≤ x125.toInt by omega), (show x125.toInt ≤ 399 by omega)⟩, hO.1⟩)⟩ hw dX12_fact_59
              · have g132 : x129.toInt = f2_0_22.toInt + 1 := by have q := g132; simp only [c106, c136, c109, c130] at q; omega
                have g133 : x127.toInt = f2_0_19.toInt + 1 := by have q := g133; simp only [c106, c136, c108, c128] at q; omega
                have g134 : (binN w119 (x129.toInt).toNat : Int) = x129.toInt - x127.toInt := by have q := g134; simp only [c106, c136, c128, c130] at q; omega
                have hE9 : E9 w119 (x129.toInt) := by have q := hq131; simp only [c130] at q; exact q
                refine lv_if_ne (tgt := 60) hx hb dX12_fact_55 (by decide) (fun _ => ?_) (fun c => absurd c (by decide))
                have g141 : x112.toInt ≤ 399 := by omega
                refine lv_aload_n hx hb dX12_fact_60 rfl (lv_at hl 2 rfl) ?_
                refine lv_dup hx hb dX12_fact_61 rfl ?_
                refine tk_geti hC hK hw hT hinX12 kM_at0 (by decide) rfl 14 (by decide) (List.mem_of_getElem? (i := 2) rfl) rfl rfl dX12_fact_62 (fun x142 c143 rx142 tx142 => ?_)
                refine wk_top x112 (c143.symm.trans c140) ?_
                refine lv_iconst (v := 1) hx hb dX12_fact_65 (by decide) ?_
                refine lv_iadd hx hb dX12_fact_66 ?_
                refine lv_topi (fun x144 ex144 => ?_)
                have ex144 : x144.toInt = x112.toInt + (1 : Int) := by rw [ex144]; exact wk_add (show (-2147483648) ≤ x112.toInt + (1 : Int) by omega) (show x112.toInt + (1 : Int) ≤ 2147483647 by omega)
                refine tk_puti hC hK hw hT hinX12 tyX12_ok nmX12 kM_at0 (by decide) rfl rfl 14 (by decide) (List.mem_of_getElem? (i := 2) rfl) rfl rfl rfl rfl (show 0 ≤ x144.toInt by omega) (show x144.toInt ≤ 400 by omega) dX12_fact_67 (fun H locs w145 hw hT k147 c146 => ?_)
                have gn148 : binN w145 (x129.toInt).toNat = binN w119 (x129.toInt).toNat := bin_F1 _ k147 (by decide)
                have hO := OKW_F1 k147 (by decide) (by decide) (by decide) (by decide) hO
                have hE9 := E9_F1 k147 (by decide) hE9
                have hF := hF.put kM_at0 (k := 14) (by decide) k147
                have c149 := k147.gi (Or.inr (by decide)) c136
                have c150 := k147.gi (Or.inr (by decide)) c137
                have c151 := k147.gi (Or.inl (tk_ne kM_at3 kM_at0 (by decide))) c138
                have c152 := k147.gi (Or.inr (by decide)) c139
                have c153 := k147.gi (Or.inr (by decide)) c128
                have c154 := k147.gi (Or.inr (by decide)) c130
                refine lv_iconst (v := 1) hx hb dX12_fact_70 (by decide) ?_
                refine lv_istore_n (lv' := [(1, .int 1), (2, .int r65), (0, .ref (ad 0))]) hx hb dX12_fact_71 rfl hl (by decide) rfl (fun ls hl => ?_)
                refine lv_goto (tgt := 2) hx hb dX12_fact_72 (by decide) ?_
                exact ih2 1 x127 x129 H locs ls w145 (by decide) (by decide) (show 0 ≤ f0_.toInt by omega) (show f0_.toInt ≤ 5 by omega) (show 0 ≤ f1_.toInt by omega) (show f1_.toInt ≤ 60 by omega) (show (-100) ≤ x127.toInt by omega) (show x127.toInt ≤ 10 by omega) (show 0 ≤ x129.toInt by omega) (show x129.toInt ≤ 390 by omega) (show 0 ≤ f4_.toInt by omega) (show f4_.toInt ≤ 280 by omega) (show (binN w145 (x129.toInt).toNat : Int) = x129.toInt - x127.toInt by omega) (show f4_.toInt = f4_.toInt by omega) (show f1_.toInt = f1_.toInt by omega) (show x129.toInt + f2_.toInt = f3_.toInt + x127.toInt by omega) (show f2_.toInt ≤ x127.toInt by omega) (show f4_.toInt ≤ 280 by omega) (show x129.toInt ≤ 390 by omega) (show (2 * (10 - x127.toInt) + (1 : Int)).toNat < n2 by omega) hw hT hF (OKW_cast hO (show f2_0_22.toInt - f2_0_19.toInt = x129.toInt - x127.toInt by omega)) (E9_le hE9 (show x129.toInt ≤ _ by omega)) c149 c150 c153 c154 c151 (lv_sub hl [2, 0] rfl)
          · have ex101 : x101.toInt = x71.toInt := by rw [← c111.symm.trans c102]
            obtain ⟨x114, c115, rx114, tx114⟩ := hT.rdi (lo := 0) (hi := 400) (k := 14) kM_at0 (by decide) rfl
            have g103 : (x114.toInt = x73.toInt ∨ (gi w67 1 (x73.toInt).toNat).toInt = 32) := by have q := g103; simp only [c87, c106, c74, c115] at q; omega
            refine lv_if_eq (tgt := 43) hx hb dX12_fact_20 (by decide) (fun c => absurd c (by decide)) (fun _ => ?_)
            refine lv_aload_n hx hb dX12_fact_23 rfl (lv_at hl 2 rfl) ?_
            refine lv_bipush (v := 11) hx hb dX12_fact_24 (by decide) ?_
            refine tk_Vi hC hK hw hT hA hE hSR kM_at0 (by decide) rfl (k_X12_opens_1 l adK adV dC dI cy ad B (by omega) (by omega) qr s1    w96 H.size hT f2_0_19 c108 (show (-100) ≤ f2_0_19.toInt by omega) (show f2_0_19.toInt ≤ 10 by omega) f2_0_22 c109 (show 0 ≤ f2_0_22.toInt by omega) (show f2_0_22.toInt ≤ 400 by omega) (show f2_0_22.toInt ≤ 399 by omega) (show (binN w96 (f2_0_22.toInt).toNat : Int) = f2_0_22.toInt - f2_0_19.toInt by omega) (E9_le hE9 (show f2_0_22.toInt ≤ _ by omega))) (cwV 1 hC.2.2.2.2 gX12_fact_X12_opens rfl rfl rfl (by decide +kernel) ⟨Nat.le_of_ble_eq_true rfl, Nat.le_of_ble_eq_true rfl⟩) rfl hl.1 rfl (Nat.le_of_ble_eq_true rfl) dX12_fact_26 (fun r155 w157 H locs hp156 hw => ?_)
            obtain ⟨hT, k158, hg173⟩ := hp156
            have hO := OKW_FE k158 (fun _ => rfl) (fun _ => rfl) (fun _ => rfl) (fun _ => rfl) hO
            have hF := hF.tr k158 (by decide)
            have c174 := k158.gi kM_at0 (by decide) c106
            have c175 := k158.gi kM_at0 (by decide) c107
            have c176 := k158.gi kM_at3 rfl c110
            have c177 := k158.gi kM_at0 (by decide) c111
            have c178 := k158.gi kM_at0 (by decide) c115
            rcases hg173 with ⟨rfl, ⟨x159, c160, rx159, tx159⟩, ⟨x161, c162, rx161, tx161⟩, ⟨x163, c164, rx163, tx163⟩⟩ | ⟨rfl, ⟨x165, c166, rx165, tx165⟩, ⟨x167, c168, rx167, tx167⟩, hq169, g170, g171, g172⟩
            · refine lv_if_ne (tgt := 34) hx hb dX12_fact_29 (by decide) (fun c => absurd (by decide) c) (fun _ => ?_)
              refine lv_iconst (v := 0) hx hb dX12_fact_32 (by decide) ?_
              exact tk_zret hC hr rfl hlocks hK ⟨hT, hF, (Or.inl ⟨rfl, ⟨x71, c177, (show 1 ≤ x71.toInt by omega), (show x71.toInt ≤ 400 by omega)⟩, ⟨x159, c160, (show 1 ≤ x159.toInt by omega), (show x159.toInt ≤ 3205 by omega)⟩, ⟨f0_, c174, (show 0 ≤ f0_.toInt by omega), (show f0_.toInt ≤ 5 by omega)⟩, ⟨x163, c164, (show 0 ≤ x163.toInt by omega), (show x163.toInt ≤ 399 by omega)⟩, hO.1⟩)⟩ hw dX12_fact_33
            · have g170 : x167.toInt = f2_0_22.toInt + 1 := by have q := g170; simp only [c106, c174, c109, c168] at q; omega
              have g171 : x165.toInt = f2_0_19.toInt + 1 := by have q := g171; simp only [c106, c174, c108, c166] at q; omega
              have g172 : (binN w157 (x167.toInt).toNat : Int) = x167.toInt - x165.toInt := by have q := g172; simp only [c106, c174, c166, c168] at q; omega
              have hE9 : E9 w157 (x167.toInt) := by have q := hq169; simp only [c168] at q; exact q
              refine lv_if_ne (tgt := 34) hx hb dX12_fact_29 (by decide) (fun _ => ?_) (fun c => absurd c (by decide))
              refine lv_aload_n hx hb dX12_fact_34 rfl (lv_at hl 2 rfl) ?_
              refine tk_Vv hC hK hw hT hA hE hSR kM_at0 (by decide) rfl (k_X12_passWord_1 l adK adV dC dI cy ad B (by omega) (by omega) qr s1    w157 H.size hT ) (cwV 0 hC.2.2.2.2 gX12_fact_X12_passWord rfl rfl rfl (by decide +kernel) ⟨Nat.le_of_ble_eq_true rfl, Nat.le_of_ble_eq_true rfl⟩) rfl hl.1 rfl (Nat.le_of_ble_eq_true rfl) dX12_fact_35 (fun w181 H locs hp180 hw => ?_)
              obtain ⟨hT, k182, hg189⟩ := hp180
              have hO := OKW_FE k182 (fun _ => rfl) (fun _ => rfl) (fun _ => rfl) (fun _ => rfl) hO
              have hE9 := E9_FE k182 (fun _ => rfl) hE9
              have gn190 : binN w181 (x167.toInt).toNat = binN w157 (x167.toInt).toNat := bin_FE _ k182 (fun _ => rfl)
              have hF := hF.tr k182 (by decide)
              have c191 := k182.gi kM_at0 (by decide) c174
              have c192 := k182.gi kM_at0 (by decide) c175
              have c193 := k182.gi kM_at3 rfl c176
              have c194 := k182.gi kM_at0 (by decide) c177
              have c195 := k182.gi kM_at0 (by decide) c166
              have c196 := k182.gi kM_at0 (by decide) c168
              rcases hg189 with ⟨⟨x183, c184, rx183, tx183⟩, ⟨x185, c186, rx185, tx185⟩⟩ | ⟨x187, c188, rx187, tx187⟩
              · have ex183 : x183.toInt = x71.toInt := by rw [← c194.symm.trans c184]
                refine lv_iconst (v := 1) hx hb dX12_fact_38 (by decide) ?_
                refine lv_istore_n (lv' := [(1, .int 1), (2, .int r65), (0, .ref (ad 0))]) hx hb dX12_fact_39 rfl hl (by decide) rfl (fun ls hl => ?_)
                refine lv_goto (tgt := 72) hx hb dX12_fact_40 (by decide) ?_
                refine lv_goto (tgt := 2) hx hb dX12_fact_72 (by decide) ?_
                exact ih2 1 x165 x167 H locs ls w181 (by decide) (by decide) (show 0 ≤ f0_.toInt by omega) (show f0_.toInt ≤ 5 by omega) (show 0 ≤ f1_.toInt by omega) (show f1_.toInt ≤ 60 by omega) (show (-100) ≤ x165.toInt by omega) (show x165.toInt ≤ 10 by omega) (show 0 ≤ x167.toInt by omega) (show x167.toInt ≤ 390 by omega) (show 0 ≤ f4_.toInt by omega) (show f4_.toInt ≤ 280 by omega) (show (binN w181 (x167.toInt).toNat : Int) = x167.toInt - x165.toInt by omega) (show f4_.toInt = f4_.toInt by omega) (show f1_.toInt = f1_.toInt by omega) (show x167.toInt + f2_.toInt = f3_.toInt + x165.toInt by omega) (show f2_.toInt ≤ x165.toInt by omega) (show f4_.toInt ≤ 280 by omega) (show x167.toInt ≤ 390 by omega) (show (2 * (10 - x165.toInt) + (1 : Int)).toNat < n2 by omega) hw hT hF (OKW_cast hO (show f2_0_22.toInt - f2_0_19.toInt = x167.toInt - x165.toInt by omega)) (E9_le hE9 (show x167.toInt ≤ _ by omega)) c191 c192 c195 c196 c193 (lv_sub hl [2, 0] rfl)
              · have ex187 : x187.toInt = x71.toInt := by rw [← c194.symm.trans c188]
                refine lv_iconst (v := 1) hx hb dX12_fact_38 (by decide) ?_
                refine lv_istore_n (lv' := [(1, .int 1), (2, .int r65), (0, .ref (ad 0))]) hx hb dX12_fact_39 rfl hl (by decide) rfl (fun ls hl => ?_)
                refine lv_goto (tgt := 72) hx hb dX12_fact_40 (by decide) ?_
                refine lv_goto (tgt := 2) hx hb dX12_fact_72 (by decide) ?_
                exact ih2 1 x165 x167 H locs ls w181 (by decide) (by decide) (show 0 ≤ f0_.toInt by omega) (show f0_.toInt ≤ 5 by omega) (show 0 ≤ f1_.toInt by omega) (show f1_.toInt ≤ 60 by omega) (show (-100) ≤ x165.toInt by omega) (show x165.toInt ≤ 10 by omega) (show 0 ≤ x167.toInt by omega) (show x167.toInt ≤ 390 by omega) (show 0 ≤ f4_.toInt by omega) (show f4_.toInt ≤ 280 by omega) (show (binN w181 (x167.toInt).toNat : Int) = x167.toInt - x165.toInt by omega) (show f4_.toInt = f4_.toInt by omega) (show f1_.toInt = f1_.toInt by omega) (show x167.toInt + f2_.toInt = f3_.toInt + x165.toInt by omega) (show f2_.toInt ≤ x165.toInt by omega) (show f4_.toInt ≤ 280 by omega) (show x167.toInt ≤ 390 by omega) (show (2 * (10 - x165.toInt) + (1 : Int)).toNat < n2 by omega) hw hT hF (OKW_cast hO (show f2_0_22.toInt - f2_0_19.toInt = x167.toInt - x165.toInt by omega)) (E9_le hE9 (show x167.toInt ≤ _ by omega)) c191 c192 c195 c196 c193 (lv_sub hl [2, 0] rfl)
        · have g81 : (x79.toInt = x63.toInt ∨ (gi w1 1 (x63.toInt).toNat).toInt = 32) := by have q := g81; simp only [c6, c87, c64, c80] at q; omega
          refine lv_istore_n (lv' := [(2, .int (-1)), (1, .int 0), (0, .ref (ad 0))]) hx hb dX12_fact_12 rfl hl (by decide) rfl (fun ls hl => ?_)
          refine lv_aload_n hx hb dX12_fact_13 rfl (lv_at hl 2 rfl) ?_
          refine lv_ldc2 (v := 7237492) hx hb hC.2.2.2.1 (hC.2.2.2.2 _ (List.mem_of_getElem? (i := 1) rfl)) dX12_fact_14 ?_
          refine tk_Vi hC hK hw hT hA hE hSR kM_at0 (by decide) rfl (k_X12_isWord_20 l adK adV dC dI cy ad B (by omega) (by omega) qr s1    w67 H.size hT x79 c80 (show 0 ≤ x79.toInt by omega) (show x79.toInt ≤ 400 by omega)) (cwV 1 hC.2.2.2.2 gX12_fact_X12_isWord rfl rfl rfl (by decide +kernel) ⟨Nat.le_of_ble_eq_true rfl, Nat.le_of_ble_eq_true rfl⟩) rfl hl.1 rfl (Nat.le_of_ble_eq_true rfl) dX12_fact_17 (fun r197 w199 H locs hp198 hw => ?_)
          obtain ⟨hT, k200, hg207⟩ := hp198
          have hO := OKW_FE k200 (fun _ => rfl) (fun _ => rfl) (fun _ => rfl) (fun _ => rfl) hO
          have hE9 := E9_FE k200 (fun _ => rfl) hE9
          have gn208 : binN w199 (f2_0_22.toInt).toNat = binN w67 (f2_0_22.toInt).toNat := bin_FE _ k200 (fun _ => rfl)
          have hF := hF.tr k200 (by decide)
          have c209 := k200.gi kM_at0 (by decide) c87
          have c210 := k200.gi kM_at0 (by decide) c88
          have c211 := k200.gi kM_at0 (by decide) c89
          have c212 := k200.gi kM_at0 (by decide) c90
          have c213 := k200.gi kM_at3 rfl c91
          have c214 := k200.gi kM_at0 (by decide) c78
          rcases hg207 with ⟨rfl, ⟨x201, c202, rx201, tx201⟩, g203⟩ | ⟨rfl, ⟨x204, c205, rx204, tx204⟩, g206⟩
          · have ex201 : x201.toInt = x77.toInt := by rw [← c214.symm.trans c202]
            obtain ⟨x215, c216, rx215, tx215⟩ := hT.rdi (lo := 0) (hi := 400) (k := 14) kM_at0 (by decide) rfl
            have g203 : (x215.toInt = x79.toInt ∨ (gi w67 1 (x79.toInt).toNat).toInt = 32) := by have q := g203; simp only [c87, c209, c80, c216] at q; omega
            refine lv_if_eq (tgt := 43) hx hb dX12_fact_20 (by decide) (fun _ => ?_) (fun c => absurd (by decide) c)
            refine lv_iload_n hx hb dX12_fact_43 rfl (lv_at hl 0 rfl) ?_
            refine lv_bipush (v := 91) hx hb dX12_fact_44 (by decide) ?_
            refine lv_icmp_ne (tgt := 72) hx hb dX12_fact_46 (by decide) (fun _ => ?_) (fun c => absurd c (by decide))
            refine lv_goto (tgt := 2) hx hb dX12_fact_72 (by decide) ?_
            exact ih2 0 f2_0_19 f2_0_22 H locs ls w199 (by decide) (by decide) (show 0 ≤ f0_.toInt by omega) (show f0_.toInt ≤ 5 by omega) (show 0 ≤ f1_.toInt by omega) (show f1_.toInt ≤ 60 by omega) (show (-100) ≤ f2_0_19.toInt by omega) (show f2_0_19.toInt ≤ 10 by omega) (show 0 ≤ f2_0_22.toInt by omega) (show f2_0_22.toInt ≤ 390 by omega) (show 0 ≤ f4_.toInt by omega) (show f4_.toInt ≤ 280 by omega) (show (binN w199 (f2_0_22.toInt).toNat : Int) = f2_0_22.toInt - f2_0_19.toInt by omega) (show f4_.toInt = f4_.toInt by omega) (show f1_.toInt = f1_.toInt by omega) (show f2_0_22.toInt + f2_.toInt = f3_.toInt + f2_0_19.toInt by omega) (show f2_.toInt ≤ f2_0_19.toInt by omega) (show f4_.toInt ≤ 280 by omega) (show f2_0_22.toInt ≤ 390 by omega) (show (2 * (10 - f2_0_19.toInt) + (0 : Int)).toNat < n2 by omega) hw hT hF (OKW_cast hO (show f2_0_22.toInt - f2_0_19.toInt = f2_0_22.toInt - f2_0_19.toInt by omega)) (E9_le hE9 (show f2_0_22.toInt ≤ _ by omega)) c209 c210 c211 c212 c213 (lv_sub hl [2, 1] rfl)
          · have ex204 : x204.toInt = x77.toInt := by rw [← c214.symm.trans c205]
            obtain ⟨x217, c218, rx217, tx217⟩ := hT.rdi (lo := 0) (hi := 400) (k := 14) kM_at0 (by decide) rfl
            have g206 : (x217.toInt = x79.toInt ∨ (gi w67 1 (x79.toInt).toNat).toInt = 32) := by have q := g206; simp only [c87, c209, c80, c218] at q; omega
            refine lv_if_eq (tgt := 43) hx hb dX12_fact_20 (by decide) (fun c => absurd c (by decide)) (fun _ => ?_)
            refine lv_aload_n hx hb dX12_fact_23 rfl (lv_at hl 2 rfl) ?_
            refine lv_bipush (v := 11) hx hb dX12_fact_24 (by decide) ?_
            refine tk_Vi hC hK hw hT hA hE hSR kM_at0 (by decide) rfl (k_X12_opens_1 l adK adV dC dI cy ad B (by omega) (by omega) qr s1    w199 H.size hT f2_0_19 c211 (show (-100) ≤ f2_0_19.toInt by omega) (show f2_0_19.toInt ≤ 10 by omega) f2_0_22 c212 (show 0 ≤ f2_0_22.toInt by omega) (show f2_0_22.toInt ≤ 400 by omega) (show f2_0_22.toInt ≤ 399 by omega) (show (binN w199 (f2_0_22.toInt).toNat : Int) = f2_0_22.toInt - f2_0_19.toInt by omega) (E9_le hE9 (show f2_0_22.toInt ≤ _ by omega))) (cwV 1 hC.2.2.2.2 gX12_fact_X12_opens rfl rfl rfl (by decide +kernel) ⟨Nat.le_of_ble_eq_true rfl, Nat.le_of_ble_eq_true rfl⟩) rfl hl.1 rfl (Nat.le_of_ble_eq_true rfl) dX12_fact_26 (fun r219 w221 H locs hp220 hw => ?_)
            obtain ⟨hT, k222, hg237⟩ := hp220
            have hO := OKW_FE k222 (fun _ => rfl) (fun _ => rfl) (fun _ => rfl) (fun _ => rfl) hO
            have hF := hF.tr k222 (by decide)
            have c238 := k222.gi kM_at0 (by decide) c209
            have c239 := k222.gi kM_at0 (by decide) c210
            have c240 := k222.gi kM_at3 rfl c213
            have c241 := k222.gi kM_at0 (by decide) c214
            have c242 := k222.gi kM_at0 (by decide) c218
            rcases hg237 with ⟨rfl, ⟨x223, c224, rx223, tx223⟩, ⟨x225, c226, rx225, tx225⟩, ⟨x227, c228, rx227, tx227⟩⟩ | ⟨rfl, ⟨x229, c230, rx229, tx229⟩, ⟨x231, c232, rx231, tx231⟩, hq233, g234, g235, g236⟩
            · refine lv_if_ne (tgt := 34) hx hb dX12_fact_29 (by decide) (fun c => absurd (by decide) c) (fun _ => ?_)
              refine lv_iconst (v := 0) hx hb dX12_fact_32 (by decide) ?_
              exact tk_zret hC hr rfl hlocks hK ⟨hT, hF, (Or.inl ⟨rfl, ⟨x77, c241, (show 1 ≤ x77.toInt by omega), (show x77.toInt ≤ 400 by omega)⟩, ⟨x223, c224, (show 1 ≤ x223.toInt by omega), (show x223.toInt ≤ 3205 by omega)⟩, ⟨f0_, c238, (show 0 ≤ f0_.toInt by omega), (show f0_.toInt ≤ 5 by omega)⟩, ⟨x227, c228, (show 0 ≤ x227.toInt by omega), (show x227.toInt ≤ 399 by omega)⟩, hO.1⟩)⟩ hw dX12_fact_33
            · have g234 : x231.toInt = f2_0_22.toInt + 1 := by have q := g234; simp only [c209, c238, c212, c232] at q; omega
              have g235 : x229.toInt = f2_0_19.toInt + 1 := by have q := g235; simp only [c209, c238, c211, c230] at q; omega
              have g236 : (binN w221 (x231.toInt).toNat : Int) = x231.toInt - x229.toInt := by have q := g236; simp only [c209, c238, c230, c232] at q; omega
              have hE9 : E9 w221 (x231.toInt) := by have q := hq233; simp only [c232] at q; exact q
              refine lv_if_ne (tgt := 34) hx hb dX12_fact_29 (by decide) (fun _ => ?_) (fun c => absurd c (by decide))
              refine lv_aload_n hx hb dX12_fact_34 rfl (lv_at hl 2 rfl) ?_
              refine tk_Vv hC hK hw hT hA hE hSR kM_at0 (by decide) rfl (k_X12_passWord_1 l adK adV dC dI cy ad B (by omega) (by omega) qr s1    w221 H.size hT ) (cwV 0 hC.2.2.2.2 gX12_fact_X12_passWord rfl rfl rfl (by decide +kernel) ⟨Nat.le_of_ble_eq_true rfl, Nat.le_of_ble_eq_true rfl⟩) rfl hl.1 rfl (Nat.le_of_ble_eq_true rfl) dX12_fact_35 (fun w245 H locs hp244 hw => ?_)
              obtain ⟨hT, k246, hg253⟩ := hp244
              have hO := OKW_FE k246 (fun _ => rfl) (fun _ => rfl) (fun _ => rfl) (fun _ => rfl) hO
              have hE9 := E9_FE k246 (fun _ => rfl) hE9
              have gn254 : binN w245 (x231.toInt).toNat = binN w221 (x231.toInt).toNat := bin_FE _ k246 (fun _ => rfl)
              have hF := hF.tr k246 (by decide)
              have c255 := k246.gi kM_at0 (by decide) c238
              have c256 := k246.gi kM_at0 (by decide) c239
              have c257 := k246.gi kM_at3 rfl c240
              have c258 := k246.gi kM_at0 (by decide) c241
              have c259 := k246.gi kM_at0 (by decide) c230
              have c260 := k246.gi kM_at0 (by decide) c232
              rcases hg253 with ⟨⟨x247, c248, rx247, tx247⟩, ⟨x249, c250, rx249, tx249⟩⟩ | ⟨x251, c252, rx251, tx251⟩
              · have ex247 : x247.toInt = x77.toInt := by rw [← c258.symm.trans c248]
                refine lv_iconst (v := 1) hx hb dX12_fact_38 (by decide) ?_
                refine lv_istore_n (lv' := [(1, .int 1), (2, .int (-1)), (0, .ref (ad 0))]) hx hb dX12_fact_39 rfl hl (by decide) rfl (fun ls hl => ?_)
                refine lv_goto (tgt := 72) hx hb dX12_fact_40 (by decide) ?_
                refine lv_goto (tgt := 2) hx hb dX12_fact_72 (by decide) ?_
                exact ih2 1 x229 x231 H locs ls w245 (by decide) (by decide) (show 0 ≤ f0_.toInt by omega) (show f0_.toInt ≤ 5 by omega) (show 0 ≤ f1_.toInt by omega) (show f1_.toInt ≤ 60 by omega) (show (-100) ≤ x229.toInt by omega) (show x229.toInt ≤ 10 by omega) (show 0 ≤ x231.toInt by omega) (show x231.toInt ≤ 390 by omega) (show 0 ≤ f4_.toInt by omega) (show f4_.toInt ≤ 280 by omega) (show (binN w245 (x231.toInt).toNat : Int) = x231.toInt - x229.toInt by omega) (show f4_.toInt = f4_.toInt by omega) (show f1_.toInt = f1_.toInt by omega) (show x231.toInt + f2_.toInt = f3_.toInt + x229.toInt by omega) (show f2_.toInt ≤ x229.toInt by omega) (show f4_.toInt ≤ 280 by omega) (show x231.toInt ≤ 390 by omega) (show (2 * (10 - x229.toInt) + (1 : Int)).toNat < n2 by omega) hw hT hF (OKW_cast hO (show f2_0_22.toInt - f2_0_19.toInt = x231.toInt - x229.toInt by omega)) (E9_le hE9 (show x231.toInt ≤ _ by omega)) c255 c256 c259 c260 c257 (lv_sub hl [2, 0] rfl)
              · have ex251 : x251.toInt = x77.toInt := by rw [← c258.symm.trans c252]
                refine lv_iconst (v := 1) hx hb dX12_fact_38 (by decide) ?_
                refine lv_istore_n (lv' := [(1, .int 1), (2, .int (-1)), (0, .ref (ad 0))]) hx hb dX12_fact_39 rfl hl (by decide) rfl (fun ls hl => ?_)
                refine lv_goto (tgt := 72) hx hb dX12_fact_40 (by decide) ?_
                refine lv_goto (tgt := 2) hx hb dX12_fact_72 (by decide) ?_
                exact ih2 1 x229 x231 H locs ls w245 (by decide) (by decide) (show 0 ≤ f0_.toInt by omega) (show f0_.toInt ≤ 5 by omega) (show 0 ≤ f1_.toInt by omega) (show f1_.toInt ≤ 60 by omega) (show (-100) ≤ x229.toInt by omega) (show x229.toInt ≤ 10 by omega) (show 0 ≤ x231.toInt by omega) (show x231.toInt ≤ 390 by omega) (show 0 ≤ f4_.toInt by omega) (show f4_.toInt ≤ 280 by omega) (show (binN w245 (x231.toInt).toNat : Int) = x231.toInt - x229.toInt by omega) (show f4_.toInt = f4_.toInt by omega) (show f1_.toInt = f1_.toInt by omega) (show x231.toInt + f2_.toInt = f3_.toInt + x229.toInt by omega) (show f2_.toInt ≤ x229.toInt by omega) (show f4_.toInt ≤ 280 by omega) (show x231.toInt ≤ 390 by omega) (show (2 * (10 - x229.toInt) + (1 : Int)).toNat < n2 by omega) hw hT hF (OKW_cast hO (show f2_0_22.toInt - f2_0_19.toInt = x231.toInt - x229.toInt by omega)) (E9_le hE9 (show x231.toInt ≤ _ by omega)) c255 c256 c259 c260 c257 (lv_sub hl [2, 0] rfl)
        · obtain ⟨x92, c93, rx92, tx92⟩ := hT.rdi (lo := 0) (hi := 400) (k := 14) kM_at0 (by decide) rfl
          have g84 : (x92.toInt = x63.toInt ∨ (gi w1 1 (x63.toInt).toNat).toInt = 32) := by have q := g84; simp only [c6, c87, c64, c93] at q; omega
          refine lv_istore_n (lv' := [(2, .int (-1)), (1, .int 0), (0, .ref (ad 0))]) hx hb dX12_fact_12 rfl hl (by decide) rfl (fun ls hl => ?_)
          refine lv_aload_n hx hb dX12_fact_13 rfl (lv_at hl 2 rfl) ?_
          refine lv_ldc2 (v := 7237492) hx hb hC.2.2.2.1 (hC.2.2.2.2 _ (List.mem_of_getElem? (i := 1) rfl)) dX12_fact_14 ?_
          refine tk_Vi hC hK hw hT hA hE hSR kM_at0 (by decide) rfl (k_X12_isWord_20 l adK adV dC dI cy ad B (by omega) (by omega) qr s1    w67 H.size hT x92 c93 (show 0 ≤ x92.toInt by omega) (show x92.toInt ≤ 400 by omega)) (cwV 1 hC.2.2.2.2 gX12_fact_X12_isWord rfl rfl rfl (by decide +kernel) ⟨Nat.le_of_ble_eq_true rfl, Nat.le_of_ble_eq_true rfl⟩) rfl hl.1 rfl (Nat.le_of_ble_eq_true rfl) dX12_fact_17 (fun r261 w263 H locs hp262 hw => ?_)
          obtain ⟨hT, k264, hg271⟩ := hp262
          have hO := OKW_FE k264 (fun _ => rfl) (fun _ => rfl) (fun _ => rfl) (fun _ => rfl) hO
          have hE9 := E9_FE k264 (fun _ => rfl) hE9
          have gn272 : binN w263 (f2_0_22.toInt).toNat = binN w67 (f2_0_22.toInt).toNat := bin_FE _ k264 (fun _ => rfl)
          have hF := hF.tr k264 (by decide)
          have c273 := k264.gi kM_at0 (by decide) c87
          have c274 := k264.gi kM_at0 (by decide) c88
          have c275 := k264.gi kM_at0 (by decide) c89
          have c276 := k264.gi kM_at0 (by decide) c90
          have c277 := k264.gi kM_at3 rfl c91
          have c278 := k264.gi kM_at0 (by decide) c83
          rcases hg271 with ⟨rfl, ⟨x265, c266, rx265, tx265⟩, g267⟩ | ⟨rfl, ⟨x268, c269, rx268, tx268⟩, g270⟩
          · have ex265 : x265.toInt = x82.toInt := by rw [← c278.symm.trans c266]
            obtain ⟨x279, c280, rx279, tx279⟩ := hT.rdi (lo := 0) (hi := 400) (k := 14) kM_at0 (by decide) rfl
            have g267 : (x279.toInt = x92.toInt ∨ (gi w67 1 (x92.toInt).toNat).toInt = 32) := by have q := g267; simp only [c87, c273, c93, c280] at q; omega
            refine lv_if_eq (tgt := 43) hx hb dX12_fact_20 (by decide) (fun _ => ?_) (fun c => absurd (by decide) c)
            refine lv_iload_n hx hb dX12_fact_43 rfl (lv_at hl 0 rfl) ?_
            refine lv_bipush (v := 91) hx hb dX12_fact_44 (by decide) ?_
            refine lv_icmp_ne (tgt := 72) hx hb dX12_fact_46 (by decide) (fun _ => ?_) (fun c => absurd c (by decide))
            refine lv_goto (tgt := 2) hx hb dX12_fact_72 (by decide) ?_
            exact ih2 0 f2_0_19 f2_0_22 H locs ls w263 (by decide) (by decide) (show 0 ≤ f0_.toInt by omega) (show f0_.toInt ≤ 5 by omega) (show 0 ≤ f1_.toInt by omega) (show f1_.toInt ≤ 60 by omega) (show (-100) ≤ f2_0_19.toInt by omega) (show f2_0_19.toInt ≤ 10 by omega) (show 0 ≤ f2_0_22.toInt by omega) (show f2_0_22.toInt ≤ 390 by omega) (show 0 ≤ f4_.toInt by omega) (show f4_.toInt ≤ 280 by omega) (show (binN w263 (f2_0_22.toInt).toNat : Int) = f2_0_22.toInt - f2_0_19.toInt by omega) (show f4_.toInt = f4_.toInt by omega) (show f1_.toInt = f1_.toInt by omega) (show f2_0_22.toInt + f2_.toInt = f3_.toInt + f2_0_19.toInt by omega) (show f2_.toInt ≤ f2_0_19.toInt by omega) (show f4_.toInt ≤ 280 by omega) (show f2_0_22.toInt ≤ 390 by omega) (show (2 * (10 - f2_0_19.toInt) + (0 : Int)).toNat < n2 by omega) hw hT hF (OKW_cast hO (show f2_0_22.toInt - f2_0_19.toInt = f2_0_22.toInt - f2_0_19.toInt by omega)) (E9_le hE9 (show f2_0_22.toInt ≤ _ by omega)) c273 c274 c275 c276 c277 (lv_sub hl [2, 1] rfl)
          · have ex268 : x268.toInt = x82.toInt := by rw [← c278.symm.trans c269]
            obtain ⟨x281, c282, rx281, tx281⟩ := hT.rdi (lo := 0) (hi := 400) (k := 14) kM_at0 (by decide) rfl
            have g270 : (x281.toInt = x92.toInt ∨ (gi w67 1 (x92.toInt).toNat).toInt = 32) := by have q := g270; simp only [c87, c273, c93, c282] at q; omega
            refine lv_if_eq (tgt := 43) hx hb dX12_fact_20 (by decide) (fun c => absurd c (by decide)) (fun _ => ?_)
            refine lv_aload_n hx hb dX12_fact_23 rfl (lv_at hl 2 rfl) ?_
            refine lv_bipush (v := 11) hx hb dX12_fact_24 (by decide) ?_
            refine tk_Vi hC hK hw hT hA hE hSR kM_at0 (by decide) rfl (k_X12_opens_1 l adK adV dC dI cy ad B (by omega) (by omega) qr s1    w263 H.size hT f2_0_19 c275 (show (-100) ≤ f2_0_19.toInt by omega) (show f2_0_19.toInt ≤ 10 by omega) f2_0_22 c276 (show 0 ≤ f2_0_22.toInt by omega) (show f2_0_22.toInt ≤ 400 by omega) (show f2_0_22.toInt ≤ 399 by omega) (show (binN w263 (f2_0_22.toInt).toNat : Int) = f2_0_22.toInt - f2_0_19.toInt by omega) (E9_le hE9 (show f2_0_22.toInt ≤ _ by omega))) (cwV 1 hC.2.2.2.2 gX12_fact_X12_opens rfl rfl rfl (by decide +kernel) ⟨Nat.le_of_ble_eq_true rfl, Nat.le_of_ble_eq_true rfl⟩) rfl hl.1 rfl (Nat.le_of_ble_eq_true rfl) dX12_fact_26 (fun r283 w285 H locs hp284 hw => ?_)
            obtain ⟨hT, k286, hg301⟩ := hp284
            have hO := OKW_FE k286 (fun _ => rfl) (fun _ => rfl) (fun _ => rfl) (fun _ => rfl) hO
            have hF := hF.tr k286 (by decide)
            have c302 := k286.gi kM_at0 (by decide) c273
            have c303 := k286.gi kM_at0 (by decide) c274
            have c304 := k286.gi kM_at3 rfl c277
            have c305 := k286.gi kM_at0 (by decide) c278
            have c306 := k286.gi kM_at0 (by decide) c282
            rcases hg301 with ⟨rfl, ⟨x287, c288, rx287, tx287⟩, ⟨x289, c290, rx289, tx289⟩, ⟨x291, c292, rx291, tx291⟩⟩ | ⟨rfl, ⟨x293, c294, rx293, tx293⟩, ⟨x295, c296, rx295, tx295⟩, hq297, g298, g299, g300⟩
            · refine lv_if_ne (tgt := 34) hx hb dX12_fact_29 (by decide) (fun c => absurd (by decide) c) (fun _ => ?_)
              refine lv_iconst (v := 0) hx hb dX12_fact_32 (by decide) ?_
              exact tk_zret hC hr rfl hlocks hK ⟨hT, hF, (Or.inr (Or.inl ⟨rfl, ⟨x82, c305, (show 0 ≤ x82.toInt by omega), (show x82.toInt ≤ 400 by omega)⟩, ⟨x287, c288, (show 1 ≤ x287.toInt by omega), (show x287.toInt ≤ 3205 by omega)⟩, ⟨f0_, c302, (show 0 ≤ f0_.toInt by omega), (show f0_.toInt ≤ 5 by omega)⟩, ⟨x291, c292, (show 0 ≤ x291.toInt by omega), (show x291.toInt ≤ 399 by omega)⟩, hO.1⟩))⟩ hw dX12_fact_33
            · have g298 : x295.toInt = f2_0_22.toInt + 1 := by have q := g298; simp only [c273, c302, c276, c296] at q; omega
              have g299 : x293.toInt = f2_0_19.toInt + 1 := by have q := g299; simp only [c273, c302, c275, c294] at q; omega
              have g300 : (binN w285 (x295.toInt).toNat : Int) = x295.toInt - x293.toInt := by have q := g300; simp only [c273, c302, c294, c296] at q; omega
              have hE9 : E9 w285 (x295.toInt) := by have q := hq297; simp only [c296] at q; exact q
              refine lv_if_ne (tgt := 34) hx hb dX12_fact_29 (by decide) (fun _ => ?_) (fun c => absurd c (by decide))
              refine lv_aload_n hx hb dX12_fact_34 rfl (lv_at hl 2 rfl) ?_
              refine tk_Vv hC hK hw hT hA hE hSR kM_at0 (by decide) rfl (k_X12_passWord_1 l adK adV dC dI cy ad B (by omega) (by omega) qr s1    w285 H.size hT ) (cwV 0 hC.2.2.2.2 gX12_fact_X12_passWord rfl rfl rfl (by decide +kernel) ⟨Nat.le_of_ble_eq_true rfl, Nat.le_of_ble_eq_true rfl⟩) rfl hl.1 rfl (Nat.le_of_ble_eq_true rfl) dX12_fact_35 (fun w309 H locs hp308 hw => ?_)
              obtain ⟨hT, k310, hg317⟩ := hp308
              have hO := OKW_FE k310 (fun _ => rfl) (fun _ => rfl) (fun _ => rfl) (fun _ => rfl) hO
              have hE9 := E9_FE k310 (fun _ => rfl) hE9
              have gn318 : binN w309 (x295.toInt).toNat = binN w285 (x295.toInt).toNat := bin_FE _ k310 (fun _ => rfl)
              have hF := hF.tr k310 (by decide)
              have c319 := k310.gi kM_at0 (by decide) c302
              have c320 := k310.gi kM_at0 (by decide) c303
              have c321 := k310.gi kM_at3 rfl c304
              have c322 := k310.gi kM_at0 (by decide) c305
              have c323 := k310.gi kM_at0 (by decide) c294
              have c324 := k310.gi kM_at0 (by decide) c296
              rcases hg317 with ⟨⟨x311, c312, rx311, tx311⟩, ⟨x313, c314, rx313, tx313⟩⟩ | ⟨x315, c316, rx315, tx315⟩
              · have ex311 : x311.toInt = x82.toInt := by rw [← c322.symm.trans c312]
                refine lv_iconst (v := 1) hx hb dX12_fact_38 (by decide) ?_
                refine lv_istore_n (lv' := [(1, .int 1), (2, .int (-1)), (0, .ref (ad 0))]) hx hb dX12_fact_39 rfl hl (by decide) rfl (fun ls hl => ?_)
                refine lv_goto (tgt := 72) hx hb dX12_fact_40 (by decide) ?_
                refine lv_goto (tgt := 2) hx hb dX12_fact_72 (by decide) ?_
                exact ih2 1 x293 x295 H locs ls w309 (by decide) (by decide) (show 0 ≤ f0_.toInt by omega) (show f0_.toInt ≤ 5 by omega) (show 0 ≤ f1_.toInt by omega) (show f1_.toInt ≤ 60 by omega) (show (-100) ≤ x293.toInt by omega) (show x293.toInt ≤ 10 by omega) (show 0 ≤ x295.toInt by omega) (show x295.toInt ≤ 390 by omega) (show 0 ≤ f4_.toInt by omega) (show f4_.toInt ≤ 280 by omega) (show (binN w309 (x295.toInt).toNat : Int) = x295.toInt - x293.toInt by omega) (show f4_.toInt = f4_.toInt by omega) (show f1_.toInt = f1_.toInt by omega) (show x295.toInt + f2_.toInt = f3_.toInt + x293.toInt by omega) (show f2_.toInt ≤ x293.toInt by omega) (show f4_.toInt ≤ 280 by omega) (show x295.toInt ≤ 390 by omega) (show (2 * (10 - x293.toInt) + (1 : Int)).toNat < n2 by omega) hw hT hF (OKW_cast hO (show f2_0_22.toInt - f2_0_19.toInt = x295.toInt - x293.toInt by omega)) (E9_le hE9 (show x295.toInt ≤ _ by omega)) c319 c320 c323 c324 c321 (lv_sub hl [2, 0] rfl)
              · have ex315 : x315.toInt = x82.toInt := by rw [← c322.symm.trans c316]
                refine lv_iconst (v := 1) hx hb dX12_fact_38 (by decide) ?_
                refine lv_istore_n (lv' := [(1, .int 1), (2, .int (-1)), (0, .ref (ad 0))]) hx hb dX12_fact_39 rfl hl (by decide) rfl (fun ls hl => ?_)
                refine lv_goto (tgt := 72) hx hb dX12_fact_40 (by decide) ?_
                refine lv_goto (tgt := 2) hx hb dX12_fact_72 (by decide) ?_
                exact ih2 1 x293 x295 H locs ls w309 (by decide) (by decide) (show 0 ≤ f0_.toInt by omega) (show f0_.toInt ≤ 5 by omega) (show 0 ≤ f1_.toInt by omega) (show f1_.toInt ≤ 60 by omega) (show (-100) ≤ x293.toInt by omega) (show x293.toInt ≤ 10 by omega) (show 0 ≤ x295.toInt by omega) (show x295.toInt ≤ 390 by omega) (show 0 ≤ f4_.toInt by omega) (show f4_.toInt ≤ 280 by omega) (show (binN w309 (x295.toInt).toNat : Int) = x295.toInt - x293.toInt by omega) (show f4_.toInt = f4_.toInt by omega) (show f1_.toInt = f1_.toInt by omega) (show x295.toInt + f2_.toInt = f3_.toInt + x293.toInt by omega) (show f2_.toInt ≤ x293.toInt by omega) (show f4_.toInt ≤ 280 by omega) (show x295.toInt ≤ 390 by omega) (show (2 * (10 - x293.toInt) + (1 : Int)).toNat < n2 by omega) hw hT hF (OKW_cast hO (show f2_0_22.toInt - f2_0_19.toInt = x295.toInt - x293.toInt by omega)) (E9_le hE9 (show x295.toInt ≤ _ by omega)) c319 c320 c323 c324 c321 (lv_sub hl [2, 0] rfl)
  have gl325 := bin_le w0 (f3_.toInt).toNat
  refine lv_iconst (v := 1) hx hb dX12_fact_0 (by decide) ?_
  refine lv_istore_n (lv' := [(1, .int 1), (0, .ref (ad 0))]) hx hb dX12_fact_1 rfl hl (by decide) rfl (fun ls hl => ?_)
  exact L2 ((2 * (10 - f2_.toInt) + (1 : Int)).toNat + 1) 1 f2_ f3_ s.heap locs ls w0 (by decide) (by decide) (show 0 ≤ f0_.toInt by omega) (show f0_.toInt ≤ 5 by omega) (show 0 ≤ f1_.toInt by omega) (show f1_.toInt ≤ 60 by omega) (show (-100) ≤ f2_.toInt by omega) (show f2_.toInt ≤ 10 by omega) (show 0 ≤ f3_.toInt by omega) (show f3_.toInt ≤ 390 by omega) (show 0 ≤ f4_.toInt by omega) (show f4_.toInt ≤ 280 by omega) (show (binN w0 (f3_.toInt).toNat : Int) = f3_.toInt - f2_.toInt by omega) (show f4_.toInt = f4_.toInt by omega) (show f1_.toInt = f1_.toInt by omega) (show f3_.toInt + f2_.toInt = f3_.toInt + f2_.toInt by omega) (show f2_.toInt ≤ f2_.toInt by omega) (show f4_.toInt ≤ 280 by omega) (show f3_.toInt ≤ 390 by omega) (Nat.lt_succ_self _) hw hT hF (OKW_cast hO (show f3_.toInt - f2_.toInt = f3_.toInt - f2_.toInt by omega)) (E9_le hE9 (show f3_.toInt ≤ _ by omega)) cf0_ cf1_ cf2_ cf3_ cf4_ (lv_sub hl [1, 0] rfl)
abbrev P_X12_isWord_21 (ad : Nat → Nat) (cy : Nat → ClassId) (B : Int) (qr : Nat) (s1 : Int)  (w0 : va_W) : Int32 → va_W → Prop := fun r u => TW ksM ad cy B qr 12 u ∧ FE ksM [(12, 14, 14)] w0 u ∧ ((r = 0 ∧ (∃ y : Int32, gi u 0 1 = y ∧ 0 ≤ y.toInt ∧ y.toInt ≤ 400) ∧ (((gi u 0 14).toInt = (gi w0 0 14).toInt ∨ (gi w0 1 ((gi w0 0 14).toInt).toNat).toInt = 32))) ∨ (r = 1 ∧ (∃ y : Int32, gi u 0 1 = y ∧ 0 ≤ y.toInt ∧ y.toInt ≤ 400) ∧ (((gi u 0 14).toInt = (gi w0 0 14).toInt ∨ (gi w0 1 ((gi w0 0 14).toInt).toNat).toInt = 32))))
set_option maxHeartbeats 4000000 in
set_option maxRecDepth 100000 in
theorem k_X12_isWord_21 (l : Launch) (adK adV : Nat → Nat) (dC : Nat → ClassId) (dI : Nat → Nat → Nat) (cy : Nat → ClassId) (ad : Nat → Nat) (B : Int) (hB0 : 100000 ≤ B) (hB1 : B ≤ 1073741824) (qr : Nat) (s1 : Int)   (w0 : va_W) (sz : Nat) (hT : TW ksM ad cy B qr 12 w0) (f0_ : Int32) (cf0_ : gi w0 0 14 = f0_) (rf0_ : 0 ≤ f0_.toInt) (tf0_ : f0_.toInt ≤ 400) : Met l yX12_isWord wsX12_isWord ({ frames := 2, cells := 0, slots := 0, locals := 33 }) (va_Pc [.ref (ad 0), .long 28530] (wpreS adK adV dC dI cy sz w0)) (va_Qi (P_X12_isWord_21 ad cy B qr s1  w0) (fun u : va_W => wpost dC dI cy (va_A w0 sz) u) (va_A w0 sz)) 0 0 (va_A w0 sz) := by
  refine Met.ofW (cc := cX12_isWord) (maxL := 6) (ret := (some .boolean)) (by decide) rfl ?_
  intro p e s m args below meth c s₁ Bk hml hv
  obtain ⟨rfl, ⟨hsz, hP, hK, hD0⟩, hE, hSR⟩ := hv
  have hx := Bk.exec
  have hb := Bk.bytes
  have hr := Bk.returns
  have hlocks := Bk.notSynchronized
  have hC : CallFix p m c cX12_isWord 6 s _ wsX12_isWord RX12 := ⟨hx, hb, hml, findClass_of_methodNamed Bk.named, atoms_spec (ws := wsX12_isWord) Bk.pre⟩
  subst hsz
  have hD := hD0.self (sz := s.heap.size)
  generalize hAe : va_A w0 s.heap.size = A at hD hE ⊢
  have hA : ∀ q : Nat, s.heap.size ≤ q → A q := fun q h => by rw [← hAe]; exact Or.inr h
  have hw : Wd dC dI A s.heap s.heap [] w0 := ⟨hP, hD, va_S.rf⟩
  have hF : FE ksM [(12, 14, 14)] w0 w0 := FE.rf
  have hl := lv_entry ([.ref (ad 0), .long 28530]) (n := 6) (Nat.le_of_ble_eq_true rfl)
  rw [lg_entry_eq]
  generalize (lg_sl ([.ref (ad 0), .long 28530]) ++ List.replicate (6 - (lg_sl ([.ref (ad 0), .long 28530])).length) Slot.unset).toArray = ls at hl ⊢
  have hl : lv_has ls 6 [(0, .ref (ad 0)), (1, .long 28530)] := hl
  generalize hloc : ([] : List Loc) = locs at hw ⊢
  have hinX12 : ∀ w ∈ u_ws RX12 TX12 42, w ∈ wsX12_isWord := fun _ h => List.mem_cons_of_mem _ (List.mem_append_right _ (h))
  have J78 : ∀ (v78_3 : Int64) (v78_5 : Int32) (f78_0_1 : Int32) (f78_0_14 : Int32) (H : Heap) (locs : List Loc) (ls : Array Slot) (w1 : va_W), 0 ≤ v78_5.toInt → v78_5.toInt ≤ 400 → 0 ≤ f78_0_1.toInt → f78_0_1.toInt ≤ 400 → 0 ≤ f78_0_14.toInt → f78_0_14.toInt ≤ 400 → ((f78_0_14.toInt = f0_.toInt ∨ (gi w0 1 (f0_.toInt).toNat).toInt = 32)) → Wd dC dI A s.heap H locs w1 → TW ksM ad cy B qr 12 w1 → FE ksM [(12, 14, 14)] w0 w1 → gi w1 0 1 = f78_0_1 → gi w1 0 14 = f78_0_14 → lv_has ls 6 [(0, .ref (ad 0)), (1, .long 28530), (3, .long v78_3), (5, .int v78_5)] → W p l e ({ frames := 2, cells := 0, slots := 0, locals := 33 }) s m (List.toArray [.ref (ad 0), .long 28530]) below meth c H locs 0 0 (MQ below (va_Qi (P_X12_isWord_21 ad cy B qr s1  w0) (fun u : va_W => wpost dC dI cy A u) A) (List.toArray [.ref (ad 0), .long 28530]) s 0 0 A) (F0 m 78 ls []) := by
    intro v78_3 v78_5 f78_0_1 f78_0_14 H locs ls w1 r2 t3 r4 t5 r7 t8 hcr78_0 hw hT hF c6 c9 hl
    refine lv_iconst (v := 0) hx hb dX12_isWord_78 (by decide) ?_
    exact tk_zret hC hr rfl hlocks hK ⟨hT, hF, (Or.inl ⟨rfl, ⟨f78_0_1, c6, (show 0 ≤ f78_0_1.toInt by omega), (show f78_0_1.toInt ≤ 400 by omega)⟩, (by simp only [cf0_, c9]; omega)⟩)⟩ hw dX12_isWord_79
  have L10 : ∀ (n10 : Nat) (v10_3 : Int64) (v10_5 : Int32) (f10_0_1 : Int32) (f10_0_14 : Int32) (H : Heap) (locs : List Loc) (ls : Array Slot) (w10 : va_W), 0 ≤ v10_5.toInt → v10_5.toInt ≤ 400 → 0 ≤ f10_0_1.toInt → f10_0_1.toInt ≤ 400 → 0 ≤ f10_0_14.toInt → f10_0_14.toInt ≤ 400 → ((f10_0_14.toInt = f0_.toInt ∨ (gi w0 1 (f0_.toInt).toNat).toInt = 32)) → (400 - v10_5.toInt).toNat < n10 → Wd dC dI A s.heap H locs w10 → TW ksM ad cy B qr 12 w10 → FE ksM [(12, 14, 14)] w0 w10 → gi w10 0 1 = f10_0_1 → gi w10 0 14 = f10_0_14 → lv_has ls 6 [(0, .ref (ad 0)), (1, .long 28530), (3, .long v10_3), (5, .int v10_5)] → W p l e ({ frames := 2, cells := 0, slots := 0, locals := 33 }) s m (List.toArray [.ref (ad 0), .long 28530]) below meth c H locs 0 0 (MQ below (va_Qi (P_X12_isWord_21 ad cy B qr s1  w0) (fun u : va_W => wpost dC dI cy A u) A) (List.toArray [.ref (ad 0), .long 28530]) s 0 0 A) (F0 m 10 ls []) := by
    intro n10
    induction n10 with
    | zero => intro v10_3 v10_5 f10_0_1 f10_0_14 H locs ls w10 r11 t12 r13 t14 r16 t17 hcr10_0 hm10 hw hT hF c15 c18 hl; omega
    | succ n10 ih10 =>
      intro v10_3 v10_5 f10_0_1 f10_0_14 H locs ls w10 r11 t12 r13 t14 r16 t17 hcr10_0 hm10 hw hT hF c15 c18 hl
      have J50 : ∀ (v50_3 : Int64) (H : Heap) (locs : List Loc) (ls : Array Slot) (w19 : va_W), 0 ≤ v10_5.toInt → v10_5.toInt ≤ 399 → 1 ≤ f10_0_1.toInt → f10_0_1.toInt ≤ 400 → 0 ≤ f10_0_14.toInt → f10_0_14.toInt ≤ 399 → ((f10_0_14.toInt = f0_.toInt ∨ (gi w0 1 (f0_.toInt).toNat).toInt = 32)) → Wd dC dI A s.heap H locs w19 → TW ksM ad cy B qr 12 w19 → FE ksM [(12, 14, 14)] w0 w19 → gi w19 0 1 = f10_0_1 → gi w19 0 14 = f10_0_14 → lv_has ls 6 [(0, .ref (ad 0)), (1, .long 28530), (3, .long v50_3), (5, .int v10_5)] → W p l e ({ frames := 2, cells := 0, slots := 0, locals := 33 }) s m (List.toArray [.ref (ad 0), .long 28530]) below meth c H locs 0 0 (MQ below (va_Qi (P_X12_isWord_21 ad cy B qr s1  w0) (fun u : va_W => wpost dC dI cy A u) A) (List.toArray [.ref (ad 0), .long 28530]) s 0 0 A) (F0 m 50 ls []) := by
        intro v50_3 H locs ls w19 r20 t21 r22 t23 r25 t26 hcr50_0 hw hT hF c24 c27 hl
        obtain ⟨x28, ex28⟩ : ∃ y : Int32, y = v10_5 + Int32.ofInt 1 := ⟨_, rfl⟩
        refine lv_iinc (v := x28) (lv' := [(5, .int x28), (0, .ref (ad 0)), (1, .long 28530), (3, .long v50_3)]) hx hb dX12_isWord_50 hl (k := 3) rfl ex28.symm (by decide) rfl (fun ls hl => ?_)
        have ex28 : x28.toInt = v10_5.toInt + 1 := by rw [ex28]; exact wk_add (y := 1) (show -2147483648 ≤ v10_5.toInt + 1 by omega) (show v10_5.toInt + 1 ≤ 2147483647 by omega)
        refine lv_goto (tgt := 10) hx hb dX12_isWord_53 (by decide) ?_
        exact ih10 v50_3 x28 f10_0_1 f10_0_14 H locs ls w19 (show 0 ≤ x28.toInt by omega) (show x28.toInt ≤ 400 by omega) (show 0 ≤ f10_0_1.toInt by omega) (show f10_0_1.toInt ≤ 400 by omega) (show 0 ≤ f10_0_14.toInt by omega) (show f10_0_14.toInt ≤ 400 by omega) (show (f10_0_14.toInt = f0_.toInt ∨ (gi w0 1 (f0_.toInt).toNat).toInt = 32) by first | omega | assumption | (left; omega) | (left; decide) | (right; assumption)) (show (400 - x28.toInt).toNat < n10 by omega) hw hT hF c24 c27 (lv_sub hl [1, 2, 3, 0] rfl)
      refine lv_aload_n hx hb dX12_isWord_10 rfl (lv_at hl 0 rfl) ?_
      refine lv_aload_n hx hb dX12_isWord_11 rfl (lv_at hl 0 rfl) ?_
      refine tk_geti hC hK hw hT hinX12 kM_at0 (by decide) rfl 14 (by decide) (List.mem_of_getElem? (i := 1) rfl) rfl rfl dX12_isWord_12 (fun x29 c30 rx29 tx29 => ?_)
      refine wk_top f10_0_14 (c30.symm.trans c18) ?_
      refine lv_iload hx hb dX12_isWord_15 (lv_at hl 3 rfl) ?_
      refine lv_iadd hx hb dX12_isWord_17 ?_
      refine lv_topi (fun x31 ex31 => ?_)
      have ex31 : x31.toInt = f10_0_14.toInt + v10_5.toInt := by rw [ex31]; exact wk_add (show (-2147483648) ≤ f10_0_14.toInt + v10_5.toInt by omega) (show f10_0_14.toInt + v10_5.toInt ≤ 2147483647 by omega)
      refine tk_Vi hC hK hw hT hA hE hSR kM_at0 (by decide) rfl (k_X12_isLetter_1 l adK adV dC dI cy ad B (by omega) (by omega) qr s1   x31 (show 0 ≤ x31.toInt by omega) (show x31.toInt ≤ 800 by omega) w10 H.size hT ) (cwV 1 hC.2.2.2.2 gX12_isWord_X12_isLetter rfl rfl rfl (by decide +kernel) ⟨Nat.le_of_ble_eq_true rfl, Nat.le_of_ble_eq_true rfl⟩) rfl hl.1 rfl (Nat.le_of_ble_eq_true rfl) dX12_isWord_18 (fun r32 w34 H locs hp33 hw => ?_)
      obtain ⟨rfl, hg41⟩ := hp33
      rcases hg41 with ⟨rfl, ⟨x36, c37, rx36, tx36⟩⟩ | ⟨rfl, g38, ⟨x39, c40, rx39, tx39⟩⟩
      · have ex36 : x36.toInt = f10_0_1.toInt := by rw [← c15.symm.trans c37]
        refine lv_if_eq (tgt := 56) hx hb dX12_isWord_21 (by decide) (fun _ => ?_) (fun c => absurd (by decide) c)
        refine lv_iload hx hb dX12_isWord_56 (lv_at hl 3 rfl) ?_
        refine lv_if_le (tgt := 78) hx hb dX12_isWord_58 (by decide) (fun c42 => ?_) (fun c42 => ?_)
        · have c42 : v10_5.toInt ≤ (0 : Int) := wk_le.mp c42
          exact J78 v10_3 v10_5 f10_0_1 f10_0_14 H locs ls w10 (show 0 ≤ v10_5.toInt by omega) (show v10_5.toInt ≤ 400 by omega) (show 0 ≤ f10_0_1.toInt by omega) (show f10_0_1.toInt ≤ 400 by omega) (show 0 ≤ f10_0_14.toInt by omega) (show f10_0_14.toInt ≤ 400 by omega) (show (f10_0_14.toInt = f0_.toInt ∨ (gi w0 1 (f0_.toInt).toNat).toInt = 32) by first | omega | assumption | (left; omega) | (left; decide) | (right; assumption))  hw hT hF c15 c18 (lv_sub hl [0, 1, 2, 3] rfl)
        · have c42 : (0 : Int) < v10_5.toInt := wk_leF c42
          refine lv_iload hx hb dX12_isWord_61 (lv_at hl 3 rfl) ?_
          refine lv_bipush (v := 8) hx hb dX12_isWord_63 (by decide) ?_
          refine lv_icmp_ge (tgt := 78) hx hb dX12_isWord_65 (by decide) (fun c43 => ?_) (fun c43 => ?_)
          · have c43 : (8 : Int) ≤ v10_5.toInt := wk_le.mp c43
            exact J78 v10_3 v10_5 f10_0_1 f10_0_14 H locs ls w10 (show 0 ≤ v10_5.toInt by omega) (show v10_5.toInt ≤ 400 by omega) (show 0 ≤ f10_0_1.toInt by omega) (show f10_0_1.toInt ≤ 400 by omega) (show 0 ≤ f10_0_14.toInt by omega) (show f10_0_14.toInt ≤ 400 by omega) (show (f10_0_14.toInt = f0_.toInt ∨ (gi w0 1 (f0_.toInt).toNat).toInt = 32) by first | omega | assumption | (left; omega) | (left; decide) | (right; assumption))  hw hT hF c15 c18 (lv_sub hl [0, 1, 2, 3] rfl)
          · have c43 : v10_5.toInt < (8 : Int) := wk_leF c43
            refine lv_lload_n hx hb dX12_isWord_68 rfl (lv_at hl 2 rfl) ?_
            refine lv_lload_n hx hb dX12_isWord_69 rfl (lv_at hl 1 rfl) ?_
            refine W.lcmp hx hb dX12_isWord_70 ?_
            refine lv_if_ne (tgt := 78) hx hb dX12_isWord_71 (by decide) (fun c44 => ?_) (fun c44 => ?_)
            · have c44 : ¬ v10_3.toInt = (28530 : Int) := wk_ceF c44
              exact J78 v10_3 v10_5 f10_0_1 f10_0_14 H locs ls w10 (show 0 ≤ v10_5.toInt by omega) (show v10_5.toInt ≤ 400 by omega) (show 0 ≤ f10_0_1.toInt by omega) (show f10_0_1.toInt ≤ 400 by omega) (show 0 ≤ f10_0_14.toInt by omega) (show f10_0_14.toInt ≤ 400 by omega) (show (f10_0_14.toInt = f0_.toInt ∨ (gi w0 1 (f0_.toInt).toNat).toInt = 32) by first | omega | assumption | (left; omega) | (left; decide) | (right; assumption))  hw hT hF c15 c18 (lv_sub hl [0, 1, 2, 3] rfl)
            · have c44 : v10_3.toInt = (28530 : Int) := wk_ceT c44
              refine lv_iconst (v := 1) hx hb dX12_isWord_74 (by decide) ?_
              refine lv_goto (tgt := 79) hx hb dX12_isWord_75 (by decide) ?_
              exact tk_zret hC hr rfl hlocks hK ⟨hT, hF, (Or.inr ⟨rfl, ⟨f10_0_1, c15, (show 0 ≤ f10_0_1.toInt by omega), (show f10_0_1.toInt ≤ 400 by omega)⟩, (by simp only [cf0_, c18]; omega)⟩)⟩ hw dX12_isWord_79
      · have ex39 : x39.toInt = f10_0_1.toInt := by rw [← c15.symm.trans c40]
        refine lv_if_eq (tgt := 56) hx hb dX12_isWord_21 (by decide) (fun c => absurd c (by decide)) (fun _ => ?_)
        refine lv_iload hx hb dX12_isWord_24 (lv_at hl 3 rfl) ?_
        refine lv_bipush (v := 8) hx hb dX12_isWord_26 (by decide) ?_
        refine lv_icmp_ge (tgt := 50) hx hb dX12_isWord_28 (by decide) (fun c45 => ?_) (fun c45 => ?_)
        · have c45 : (8 : Int) ≤ v10_5.toInt := wk_le.mp c45
          exact J50 v10_3 H locs ls w10 (show 0 ≤ v10_5.toInt by omega) (show v10_5.toInt ≤ 399 by omega) (show 1 ≤ f10_0_1.toInt by omega) (show f10_0_1.toInt ≤ 400 by omega) (show 0 ≤ f10_0_14.toInt by omega) (show f10_0_14.toInt ≤ 399 by omega) (show (f10_0_14.toInt = f0_.toInt ∨ (gi w0 1 (f0_.toInt).toNat).toInt = 32) by first | omega | assumption | (left; omega) | (left; decide) | (right; assumption))  hw hT hF c15 c18 (lv_sub hl [0, 1, 2, 3] rfl)
        · have c45 : v10_5.toInt < (8 : Int) := wk_leF c45
          refine lv_lload_n hx hb dX12_isWord_31 rfl (lv_at hl 2 rfl) ?_
          refine lv_bipush (v := 8) hx hb dX12_isWord_32 (by decide) ?_
          refine lv_lshl hx hb dX12_isWord_34 rfl ?_
          refine lv_topl (fun x46 ex46 => ?_)
          refine lv_aload_n hx hb dX12_isWord_35 rfl (lv_at hl 0 rfl) ?_
          refine tk_getA hC hK hw hT hinX12 kM_at0 (by decide) rfl 0 (by decide) (List.mem_of_getElem? (i := 2) rfl) rfl rfl dX12_isWord_36 ?_
          refine lv_aload_n hx hb dX12_isWord_39 rfl (lv_at hl 0 rfl) ?_
          refine tk_geti hC hK hw hT hinX12 kM_at0 (by decide) rfl 14 (by decide) (List.mem_of_getElem? (i := 1) rfl) rfl rfl dX12_isWord_40 (fun x47 c48 rx47 tx47 => ?_)
          refine wk_top f10_0_14 (c48.symm.trans c18) ?_
          refine lv_iload hx hb dX12_isWord_43 (lv_at hl 3 rfl) ?_
          refine lv_iadd hx hb dX12_isWord_45 ?_
          refine lv_topi (fun x49 ex49 => ?_)
          have ex49 : x49.toInt = f10_0_14.toInt + v10_5.toInt := by rw [ex49]; exact wk_add (show (-2147483648) ≤ f10_0_14.toInt + v10_5.toInt by omega) (show f10_0_14.toInt + v10_5.toInt ≤ 2147483647 by omega)
          refine tk_bald hC hK hw hT kM_at1 rfl rfl (show 0 ≤ x49.toInt by omega) (show x49.toInt < 400 by omega) dX12_isWord_46 (fun x50 c51 rx50 tx50 => ?_)
          have c51 : gi w10 1 (1 * f10_0_14.toInt + 1 * v10_5.toInt + 0).toNat = x50 := (congrArg (gi w10 1) (congrArg Int.toNat (show 1 * f10_0_14.toInt + 1 * v10_5.toInt + 0 = x49.toInt by omega))).trans c51
          refine lv_i2l hx hb dX12_isWord_47 rfl ?_
          refine lv_topl (fun x52 ex52 => ?_)
          have ex52 : x52.toInt = x50.toInt := by rw [ex52]; exact wk_i2l _
          have bx52 := wk_i32 x50
          refine lv_lor hx hb dX12_isWord_48 ?_
          refine lv_topl (fun x53 ex53 => ?_)
          refine lv_lstore_n (lv' := [(3, .long x53), (0, .ref (ad 0)), (1, .long 28530), (5, .int v10_5)]) hx hb dX12_isWord_49 rfl hl (by decide) rfl (fun ls hl => ?_)
          exact J50 x53 H locs ls w10 (show 0 ≤ v10_5.toInt by omega) (show v10_5.toInt ≤ 399 by omega) (show 1 ≤ f10_0_1.toInt by omega) (show f10_0_1.toInt ≤ 400 by omega) (show 0 ≤ f10_0_14.toInt by omega) (show f10_0_14.toInt ≤ 399 by omega) (show (f10_0_14.toInt = f0_.toInt ∨ (gi w0 1 (f0_.toInt).toNat).toInt = 32) by first | omega | assumption | (left; omega) | (left; decide) | (right; assumption) | (right; rw [c51]; omega) | (right; rw [c51]; decide))  hw hT hF c15 c18 (lv_sub hl [1, 2, 0, 3] rfl)
  refine lv_aload_n hx hb dX12_isWord_0 rfl (lv_at hl 0 rfl) ?_
  refine tk_Vi hC hK hw hT hA hE hSR kM_at0 (by decide) rfl (k_X12_see_1 l adK adV dC dI cy ad B (by omega) (by omega) qr s1    w0 s.heap.size hT f0_ cf0_ (show 0 ≤ f0_.toInt by omega) (show f0_.toInt ≤ 400 by omega)) (cwV 0 hC.2.2.2.2 gX12_isWord_X12_see rfl rfl rfl (by decide +kernel) ⟨Nat.le_of_ble_eq_true rfl, Nat.le_of_ble_eq_true rfl⟩) rfl hl.1 rfl (Nat.le_of_ble_eq_true rfl) dX12_isWord_1 (fun r54 w56 H locs hp55 hw => ?_)
  obtain ⟨hT, k57, hg74⟩ := hp55
  have hF := hF.tr k57 (by decide)
  rcases hg74 with ⟨g58, g59, ⟨x60, c61, rx60, tx60⟩, ⟨x62, c63, rx62, tx62⟩, g64, g65⟩ | ⟨rfl, ⟨x66, c67, rx66, tx66⟩, ⟨x68, c69, rx68, tx68⟩, g70⟩ | ⟨rfl, ⟨x71, c72, rx71, tx71⟩, g73⟩
  · have g64 : (gi w56 1 (x62.toInt).toNat).toInt ≠ 32 := by have q := g64; simp only [c63] at q; omega
    have g65 : (x62.toInt = f0_.toInt ∨ (gi w0 1 (f0_.toInt).toNat).toInt = 32) := by have q := g65; simp only [cf0_, c63] at q; omega
    refine lv_pop hx hb dX12_isWord_4 rfl ?_
    refine lv_lconst (v := 0) hx hb dX12_isWord_5 (by decide) ?_
    refine lv_lstore_n (lv' := [(3, .long 0), (0, .ref (ad 0)), (1, .long 28530)]) hx hb dX12_isWord_6 rfl hl (by decide) rfl (fun ls hl => ?_)
    refine lv_iconst (v := 0) hx hb dX12_isWord_7 (by decide) ?_
    refine lv_istore (lv' := [(5, .int 0), (3, .long 0), (0, .ref (ad 0)), (1, .long 28530)]) hx hb dX12_isWord_8 hl (by decide) rfl (fun ls hl => ?_)
    exact L10 ((400 - (0 : Int)).toNat + 1) 0 0 x60 x62 H locs ls w56 (by decide) (by decide) (show 0 ≤ x60.toInt by omega) (show x60.toInt ≤ 400 by omega) (show 0 ≤ x62.toInt by omega) (show x62.toInt ≤ 400 by omega) (show (x62.toInt = f0_.toInt ∨ (gi w0 1 (f0_.toInt).toNat).toInt = 32) by first | omega | assumption | (left; omega) | (left; decide) | (right; assumption)) (Nat.lt_succ_self _) hw hT hF c61 c63 (lv_sub hl [2, 3, 1, 0] rfl)
  · have g70 : (x68.toInt = f0_.toInt ∨ (gi w0 1 (f0_.toInt).toNat).toInt = 32) := by have q := g70; simp only [cf0_, c69] at q; omega
    refine lv_pop hx hb dX12_isWord_4 rfl ?_
    refine lv_lconst (v := 0) hx hb dX12_isWord_5 (by decide) ?_
    refine lv_lstore_n (lv' := [(3, .long 0), (0, .ref (ad 0)), (1, .long 28530)]) hx hb dX12_isWord_6 rfl hl (by decide) rfl (fun ls hl => ?_)
    refine lv_iconst (v := 0) hx hb dX12_isWord_7 (by decide) ?_
    refine lv_istore (lv' := [(5, .int 0), (3, .long 0), (0, .ref (ad 0)), (1, .long 28530)]) hx hb dX12_isWord_8 hl (by decide) rfl (fun ls hl => ?_)
    exact L10 ((400 - (0 : Int)).toNat + 1) 0 0 x66 x68 H locs ls w56 (by decide) (by decide) (show 0 ≤ x66.toInt by omega) (show x66.toInt ≤ 400 by omega) (show 0 ≤ x68.toInt by omega) (show x68.toInt ≤ 400 by omega) (show (x68.toInt = f0_.toInt ∨ (gi w0 1 (f0_.toInt).toNat).toInt = 32) by first | omega | assumption | (left; omega) | (left; decide) | (right; assumption)) (Nat.lt_succ_self _) hw hT hF c67 c69 (lv_sub hl [2, 3, 1, 0] rfl)
  · obtain ⟨x75, c76, rx75, tx75⟩ := hT.rdi (lo := 0) (hi := 400) (k := 14) kM_at0 (by decide) rfl
    have g73 : (x75.toInt = f0_.toInt ∨ (gi w0 1 (f0_.toInt).toNat).toInt = 32) := by have q := g73; simp only [cf0_, c76] at q; omega
    refine lv_pop hx hb dX12_isWord_4 rfl ?_
    refine lv_lconst (v := 0) hx hb dX12_isWord_5 (by decide) ?_
    refine lv_lstore_n (lv' := [(3, .long 0), (0, .ref (ad 0)), (1, .long 28530)]) hx hb dX12_isWord_6 rfl hl (by decide) rfl (fun ls hl => ?_)
    refine lv_iconst (v := 0) hx hb dX12_isWord_7 (by decide) ?_
    refine lv_istore (lv' := [(5, .int 0), (3, .long 0), (0, .ref (ad 0)), (1, .long 28530)]) hx hb dX12_isWord_8 hl (by decide) rfl (fun ls hl => ?_)
    exact L10 ((400 - (0 : Int)).toNat + 1) 0 0 x71 x75 H locs ls w56 (by decide) (by decide) (show 0 ≤ x71.toInt by omega) (show x71.toInt ≤ 400 by omega) (show 0 ≤ x75.toInt by omega) (show x75.toInt ≤ 400 by omega) (show (x75.toInt = f0_.toInt ∨ (gi w0 1 (f0_.toInt).toNat).toInt = 32) by first | omega | assumption | (left; omega) | (left; decide) | (right; assumption)) (Nat.lt_succ_self _) hw hT hF c72 c76 (lv_sub hl [2, 3, 1, 0] rfl)
abbrev P_X12_isWord_22 (ad : Nat → Nat) (cy : Nat → ClassId) (B : Int) (qr : Nat) (s1 : Int)  (w0 : va_W) : Int32 → va_W → Prop := fun r u => TW ksM ad cy B qr 12 u ∧ FE ksM [(12, 14, 14)] w0 u ∧ ((r = 0 ∧ (∃ y : Int32, gi u 0 1 = y ∧ 0 ≤ y.toInt ∧ y.toInt ≤ 400) ∧ (((gi u 0 14).toInt = (gi w0 0 14).toInt ∨ (gi w0 1 ((gi w0 0 14).toInt).toNat).toInt = 32))) ∨ (r = 1 ∧ (∃ y : Int32, gi u 0 1 = y ∧ 0 ≤ y.toInt ∧ y.toInt ≤ 400) ∧ (((gi u 0 14).toInt = (gi w0 0 14).toInt ∨ (gi w0 1 ((gi w0 0 14).toInt).toNat).toInt = 32))))
set_option maxHeartbeats 4000000 in
set_option maxRecDepth 100000 in
theorem k_X12_isWord_22 (l : Launch) (adK adV : Nat → Nat) (dC : Nat → ClassId) (dI : Nat → Nat → Nat) (cy : Nat → ClassId) (ad : Nat → Nat) (B : Int) (hB0 : 100000 ≤ B) (hB1 : B ≤ 1073741824) (qr : Nat) (s1 : Int)   (w0 : va_W) (sz : Nat) (hT : TW ksM ad cy B qr 12 w0) (f0_ : Int32) (cf0_ : gi w0 0 14 = f0_) (rf0_ : 0 ≤ f0_.toInt) (tf0_ : f0_.toInt ≤ 400) : Met l yX12_isWord wsX12_isWord ({ frames := 2, cells := 0, slots := 0, locals := 33 }) (va_Pc [.ref (ad 0), .long 6385252] (wpreS adK adV dC dI cy sz w0)) (va_Qi (P_X12_isWord_22 ad cy B qr s1  w0) (fun u : va_W => wpost dC dI cy (va_A w0 sz) u) (va_A w0 sz)) 0 0 (va_A w0 sz) := by
  refine Met.ofW (cc := cX12_isWord) (maxL := 6) (ret := (some .boolean)) (by decide) rfl ?_
  intro p e s m args below meth c s₁ Bk hml hv
  obtain ⟨rfl, ⟨hsz, hP, hK, hD0⟩, hE, hSR⟩ := hv
  have hx := Bk.exec
  have hb := Bk.bytes
  have hr := Bk.returns
  have hlocks := Bk.notSynchronized
  have hC : CallFix p m c cX12_isWord 6 s _ wsX12_isWord RX12 := ⟨hx, hb, hml, findClass_of_methodNamed Bk.named, atoms_spec (ws := wsX12_isWord) Bk.pre⟩
  subst hsz
  have hD := hD0.self (sz := s.heap.size)
  generalize hAe : va_A w0 s.heap.size = A at hD hE ⊢
  have hA : ∀ q : Nat, s.heap.size ≤ q → A q := fun q h => by rw [← hAe]; exact Or.inr h
  have hw : Wd dC dI A s.heap s.heap [] w0 := ⟨hP, hD, va_S.rf⟩
  have hF : FE ksM [(12, 14, 14)] w0 w0 := FE.rf
  have hl := lv_entry ([.ref (ad 0), .long 6385252]) (n := 6) (Nat.le_of_ble_eq_true rfl)
  rw [lg_entry_eq]
  generalize (lg_sl ([.ref (ad 0), .long 6385252]) ++ List.replicate (6 - (lg_sl ([.ref (ad 0), .long 6385252])).length) Slot.unset).toArray = ls at hl ⊢
  have hl : lv_has ls 6 [(0, .ref (ad 0)), (1, .long 6385252)] := hl
  generalize hloc : ([] : List Loc) = locs at hw ⊢
  have hinX12 : ∀ w ∈ u_ws RX12 TX12 42, w ∈ wsX12_isWord := fun _ h => List.mem_cons_of_mem _ (List.mem_append_right _ (h))
  have J78 : ∀ (v78_3 : Int64) (v78_5 : Int32) (f78_0_1 : Int32) (f78_0_14 : Int32) (H : Heap) (locs : List Loc) (ls : Array Slot) (w1 : va_W), 0 ≤ v78_5.toInt → v78_5.toInt ≤ 400 → 0 ≤ f78_0_1.toInt → f78_0_1.toInt ≤ 400 → 0 ≤ f78_0_14.toInt → f78_0_14.toInt ≤ 400 → ((f78_0_14.toInt = f0_.toInt ∨ (gi w0 1 (f0_.toInt).toNat).toInt = 32)) → Wd dC dI A s.heap H locs w1 → TW ksM ad cy B qr 12 w1 → FE ksM [(12, 14, 14)] w0 w1 → gi w1 0 1 = f78_0_1 → gi w1 0 14 = f78_0_14 → lv_has ls 6 [(0, .ref (ad 0)), (1, .long 6385252), (3, .long v78_3), (5, .int v78_5)] → W p l e ({ frames := 2, cells := 0, slots := 0, locals := 33 }) s m (List.toArray [.ref (ad 0), .long 6385252]) below meth c H locs 0 0 (MQ below (va_Qi (P_X12_isWord_22 ad cy B qr s1  w0) (fun u : va_W => wpost dC dI cy A u) A) (List.toArray [.ref (ad 0), .long 6385252]) s 0 0 A) (F0 m 78 ls []) := by
    intro v78_3 v78_5 f78_0_1 f78_0_14 H locs ls w1 r2 t3 r4 t5 r7 t8 hcr78_0 hw hT hF c6 c9 hl
    refine lv_iconst (v := 0) hx hb dX12_isWord_78 (by decide) ?_
    exact tk_zret hC hr rfl hlocks hK ⟨hT, hF, (Or.inl ⟨rfl, ⟨f78_0_1, c6, (show 0 ≤ f78_0_1.toInt by omega), (show f78_0_1.toInt ≤ 400 by omega)⟩, (by simp only [cf0_, c9]; omega)⟩)⟩ hw dX12_isWord_79
  have L10 : ∀ (n10 : Nat) (v10_3 : Int64) (v10_5 : Int32) (f10_0_1 : Int32) (f10_0_14 : Int32) (H : Heap) (locs : List Loc) (ls : Array Slot) (w10 : va_W), 0 ≤ v10_5.toInt → v10_5.toInt ≤ 400 → 0 ≤ f10_0_1.toInt → f10_0_1.toInt ≤ 400 → 0 ≤ f10_0_14.toInt → f10_0_14.toInt ≤ 400 → ((f10_0_14.toInt = f0_.toInt ∨ (gi w0 1 (f0_.toInt).toNat).toInt = 32)) → (400 - v10_5.toInt).toNat < n10 → Wd dC dI A s.heap H locs w10 → TW ksM ad cy B qr 12 w10 → FE ksM [(12, 14, 14)] w0 w10 → gi w10 0 1 = f10_0_1 → gi w10 0 14 = f10_0_14 → lv_has ls 6 [(0, .ref (ad 0)), (1, .long 6385252), (3, .long v10_3), (5, .int v10_5)] → W p l e ({ frames := 2, cells := 0, slots := 0, locals := 33 }) s m (List.toArray [.ref (ad 0), .long 6385252]) below meth c H locs 0 0 (MQ below (va_Qi (P_X12_isWord_22 ad cy B qr s1  w0) (fun u : va_W => wpost dC dI cy A u) A) (List.toArray [.ref (ad 0), .long 6385252]) s 0 0 A) (F0 m 10 ls []) := by
    intro n10
    induction n10 with
    | zero => intro v10_3 v10_5 f10_0_1 f10_0_14 H locs ls w10 r11 t12 r13 t14 r16 t17 hcr10_0 hm10 hw hT hF c15 c18 hl; omega
    | succ n10 ih10 =>
      intro v10_3 v10_5 f10_0_1 f10_0_14 H locs ls w10 r11 t12 r13 t14 r16 t17 hcr10_0 hm10 hw hT hF c15 c18 hl
      have J50 : ∀ (v50_3 : Int64) (H : Heap) (locs : List Loc) (ls : Array Slot) (w19 : va_W), 0 ≤ v10_5.toInt → v10_5.toInt ≤ 399 → 1 ≤ f10_0_1.toInt → f10_0_1.toInt ≤ 400 → 0 ≤ f10_0_14.toInt → f10_0_14.toInt ≤ 399 → ((f10_0_14.toInt = f0_.toInt ∨ (gi w0 1 (f0_.toInt).toNat).toInt = 32)) → Wd dC dI A s.heap H locs w19 → TW ksM ad cy B qr 12 w19 → FE ksM [(12, 14, 14)] w0 w19 → gi w19 0 1 = f10_0_1 → gi w19 0 14 = f10_0_14 → lv_has ls 6 [(0, .ref (ad 0)), (1, .long 6385252), (3, .long v50_3), (5, .int v10_5)] → W p l e ({ frames := 2, cells := 0, slots := 0, locals := 33 }) s m (List.toArray [.ref (ad 0), .long 6385252]) below meth c H locs 0 0 (MQ below (va_Qi (P_X12_isWord_22 ad cy B qr s1  w0) (fun u : va_W => wpost dC dI cy A u) A) (List.toArray [.ref (ad 0), .long 6385252]) s 0 0 A) (F0 m 50 ls []) := by
        intro v50_3 H locs ls w19 r20 t21 r22 t23 r25 t26 hcr50_0 hw hT hF c24 c27 hl
        obtain ⟨x28, ex28⟩ : ∃ y : Int32, y = v10_5 + Int32.ofInt 1 := ⟨_, rfl⟩
        refine lv_iinc (v := x28) (lv' := [(5, .int x28), (0, .ref (ad 0)), (1, .long 6385252), (3, .long v50_3)]) hx hb dX12_isWord_50 hl (k := 3) rfl ex28.symm (by decide) rfl (fun ls hl => ?_)
        have ex28 : x28.toInt = v10_5.toInt + 1 := by rw [ex28]; exact wk_add (y := 1) (show -2147483648 ≤ v10_5.toInt + 1 by omega) (show v10_5.toInt + 1 ≤ 2147483647 by omega)
        refine lv_goto (tgt := 10) hx hb dX12_isWord_53 (by decide) ?_
        exact ih10 v50_3 x28 f10_0_1 f10_0_14 H locs ls w19 (show 0 ≤ x28.toInt by omega) (show x28.toInt ≤ 400 by omega) (show 0 ≤ f10_0_1.toInt by omega) (show f10_0_1.toInt ≤ 400 by omega) (show 0 ≤ f10_0_14.toInt by omega) (show f10_0_14.toInt ≤ 400 by omega) (show (f10_0_14.toInt = f0_.toInt ∨ (gi w0 1 (f0_.toInt).toNat).toInt = 32) by first | omega | assumption | (left; omega) | (left; decide) | (right; assumption)) (show (400 - x28.toInt).toNat < n10 by omega) hw hT hF c24 c27 (lv_sub hl [1, 2, 3, 0] rfl)
      refine lv_aload_n hx hb dX12_isWord_10 rfl (lv_at hl 0 rfl) ?_
      refine lv_aload_n hx hb dX12_isWord_11 rfl (lv_at hl 0 rfl) ?_
      refine tk_geti hC hK hw hT hinX12 kM_at0 (by decide) rfl 14 (by decide) (List.mem_of_getElem? (i := 1) rfl) rfl rfl dX12_isWord_12 (fun x29 c30 rx29 tx29 => ?_)
      refine wk_top f10_0_14 (c30.symm.trans c18) ?_
      refine lv_iload hx hb dX12_isWord_15 (lv_at hl 3 rfl) ?_
      refine lv_iadd hx hb dX12_isWord_17 ?_
      refine lv_topi (fun x31 ex31 => ?_)
      have ex31 : x31.toInt = f10_0_14.toInt + v10_5.toInt := by rw [ex31]; exact wk_add (show (-2147483648) ≤ f10_0_14.toInt + v10_5.toInt by omega) (show f10_0_14.toInt + v10_5.toInt ≤ 2147483647 by omega)
      refine tk_Vi hC hK hw hT hA hE hSR kM_at0 (by decide) rfl (k_X12_isLetter_1 l adK adV dC dI cy ad B (by omega) (by omega) qr s1   x31 (show 0 ≤ x31.toInt by omega) (show x31.toInt ≤ 800 by omega) w10 H.size hT ) (cwV 1 hC.2.2.2.2 gX12_isWord_X12_isLetter rfl rfl rfl (by decide +kernel) ⟨Nat.le_of_ble_eq_true rfl, Nat.le_of_ble_eq_true rfl⟩) rfl hl.1 rfl (Nat.le_of_ble_eq_true rfl) dX12_isWord_18 (fun r32 w34 H locs hp33 hw => ?_)
      obtain ⟨rfl, hg41⟩ := hp33
      rcases hg41 with ⟨rfl, ⟨x36, c37, rx36, tx36⟩⟩ | ⟨rfl, g38, ⟨x39, c40, rx39, tx39⟩⟩
      · have ex36 : x36.toInt = f10_0_1.toInt := by rw [← c15.symm.trans c37]
        refine lv_if_eq (tgt := 56) hx hb dX12_isWord_21 (by decide) (fun _ => ?_) (fun c => absurd (by decide) c)
        refine lv_iload hx hb dX12_isWord_56 (lv_at hl 3 rfl) ?_
        refine lv_if_le (tgt := 78) hx hb dX12_isWord_58 (by decide) (fun c42 => ?_) (fun c42 => ?_)
        · have c42 : v10_5.toInt ≤ (0 : Int) := wk_le.mp c42
          exact J78 v10_3 v10_5 f10_0_1 f10_0_14 H locs ls w10 (show 0 ≤ v10_5.toInt by omega) (show v10_5.toInt ≤ 400 by omega) (show 0 ≤ f10_0_1.toInt by omega) (show f10_0_1.toInt ≤ 400 by omega) (show 0 ≤ f10_0_14.toInt by omega) (show f10_0_14.toInt ≤ 400 by omega) (show (f10_0_14.toInt = f0_.toInt ∨ (gi w0 1 (f0_.toInt).toNat).toInt = 32) by first | omega | assumption | (left; omega) | (left; decide) | (right; assumption))  hw hT hF c15 c18 (lv_sub hl [0, 1, 2, 3] rfl)
        · have c42 : (0 : Int) < v10_5.toInt := wk_leF c42
          refine lv_iload hx hb dX12_isWord_61 (lv_at hl 3 rfl) ?_
          refine lv_bipush (v := 8) hx hb dX12_isWord_63 (by decide) ?_
          refine lv_icmp_ge (tgt := 78) hx hb dX12_isWord_65 (by decide) (fun c43 => ?_) (fun c43 => ?_)
          · have c43 : (8 : Int) ≤ v10_5.toInt := wk_le.mp c43
            exact J78 v10_3 v10_5 f10_0_1 f10_0_14 H locs ls w10 (show 0 ≤ v10_5.toInt by omega) (show v10_5.toInt ≤ 400 by omega) (show 0 ≤ f10_0_1.toInt by omega) (show f10_0_1.toInt ≤ 400 by omega) (show 0 ≤ f10_0_14.toInt by omega) (show f10_0_14.toInt ≤ 400 by omega) (show (f10_0_14.toInt = f0_.toInt ∨ (gi w0 1 (f0_.toInt).toNat).toInt = 32) by first | omega | assumption | (left; omega) | (left; decide) | (right; assumption))  hw hT hF c15 c18 (lv_sub hl [0, 1, 2, 3] rfl)
          · have c43 : v10_5.toInt < (8 : Int) := wk_leF c43
            refine lv_lload_n hx hb dX12_isWord_68 rfl (lv_at hl 2 rfl) ?_
            refine lv_lload_n hx hb dX12_isWord_69 rfl (lv_at hl 1 rfl) ?_
            refine W.lcmp hx hb dX12_isWord_70 ?_
            refine lv_if_ne (tgt := 78) hx hb dX12_isWord_71 (by decide) (fun c44 => ?_) (fun c44 => ?_)
            · have c44 : ¬ v10_3.toInt = (6385252 : Int) := wk_ceF c44
              exact J78 v10_3 v10_5 f10_0_1 f10_0_14 H locs ls w10 (show 0 ≤ v10_5.toInt by omega) (show v10_5.toInt ≤ 400 by omega) (show 0 ≤ f10_0_1.toInt by omega) (show f10_0_1.toInt ≤ 400 by omega) (show 0 ≤ f10_0_14.toInt by omega) (show f10_0_14.toInt ≤ 400 by omega) (show (f10_0_14.toInt = f0_.toInt ∨ (gi w0 1 (f0_.toInt).toNat).toInt = 32) by first | omega | assumption | (left; omega) | (left; decide) | (right; assumption))  hw hT hF c15 c18 (lv_sub hl [0, 1, 2, 3] rfl)
            · have c44 : v10_3.toInt = (6385252 : Int) := wk_ceT c44
              refine lv_iconst (v := 1) hx hb dX12_isWord_74 (by decide) ?_
              refine lv_goto (tgt := 79) hx hb dX12_isWord_75 (by decide) ?_
              exact tk_zret hC hr rfl hlocks hK ⟨hT, hF, (Or.inr ⟨rfl, ⟨f10_0_1, c15, (show 0 ≤ f10_0_1.toInt by omega), (show f10_0_1.toInt ≤ 400 by omega)⟩, (by simp only [cf0_, c18]; omega)⟩)⟩ hw dX12_isWord_79
      · have ex39 : x39.toInt = f10_0_1.toInt := by rw [← c15.symm.trans c40]
        refine lv_if_eq (tgt := 56) hx hb dX12_isWord_21 (by decide) (fun c => absurd c (by decide)) (fun _ => ?_)
        refine lv_iload hx hb dX12_isWord_24 (lv_at hl 3 rfl) ?_
        refine lv_bipush (v := 8) hx hb dX12_isWord_26 (by decide) ?_
        refine lv_icmp_ge (tgt := 50) hx hb dX12_isWord_28 (by decide) (fun c45 => ?_) (fun c45 => ?_)
        · have c45 : (8 : Int) ≤ v10_5.toInt := wk_le.mp c45
          exact J50 v10_3 H locs ls w10 (show 0 ≤ v10_5.toInt by omega) (show v10_5.toInt ≤ 399 by omega) (show 1 ≤ f10_0_1.toInt by omega) (show f10_0_1.toInt ≤ 400 by omega) (show 0 ≤ f10_0_14.toInt by omega) (show f10_0_14.toInt ≤ 399 by omega) (show (f10_0_14.toInt = f0_.toInt ∨ (gi w0 1 (f0_.toInt).toNat).toInt = 32) by first | omega | assumption | (left; omega) | (left; decide) | (right; assumption))  hw hT hF c15 c18 (lv_sub hl [0, 1, 2, 3] rfl)
        · have c45 : v10_5.toInt < (8 : Int) := wk_leF c45
          refine lv_lload_n hx hb dX12_isWord_31 rfl (lv_at hl 2 rfl) ?_
          refine lv_bipush (v := 8) hx hb dX12_isWord_32 (by decide) ?_
          refine lv_lshl hx hb dX12_isWord_34 rfl ?_
          refine lv_topl (fun x46 ex46 => ?_)
          refine lv_aload_n hx hb dX12_isWord_35 rfl (lv_at hl 0 rfl) ?_
          refine tk_getA hC hK hw hT hinX12 kM_at0 (by decide) rfl 0 (by decide) (List.mem_of_getElem? (i := 2) rfl) rfl rfl dX12_isWord_36 ?_
          refine lv_aload_n hx hb dX12_isWord_39 rfl (lv_at hl 0 rfl) ?_
          refine tk_geti hC hK hw hT hinX12 kM_at0 (by decide) rfl 14 (by decide) (List.mem_of_getElem? (i := 1) rfl) rfl rfl dX12_isWord_40 (fun x47 c48 rx47 tx47 => ?_)
          refine wk_top f10_0_14 (c48.symm.trans c18) ?_
          refine lv_iload hx hb dX12_isWord_43 (lv_at hl 3 rfl) ?_
          refine lv_iadd hx hb dX12_isWord_45 ?_
          refine lv_topi (fun x49 ex49 => ?_)
          have ex49 : x49.toInt = f10_0_14.toInt + v10_5.toInt := by rw [ex49]; exact wk_add (show (-2147483648) ≤ f10_0_14.toInt + v10_5.toInt by omega) (show f10_0_14.toInt + v10_5.toInt ≤ 2147483647 by omega)
          refine tk_bald hC hK hw hT kM_at1 rfl rfl (show 0 ≤ x49.toInt by omega) (show x49.toInt < 400 by omega) dX12_isWord_46 (fun x50 c51 rx50 tx50 => ?_)
          have c51 : gi w10 1 (1 * f10_0_14.toInt + 1 * v10_5.toInt + 0).toNat = x50 := (congrArg (gi w10 1) (congrArg Int.toNat (show 1 * f10_0_14.toInt + 1 * v10_5.toInt + 0 = x49.toInt by omega))).trans c51
          refine lv_i2l hx hb dX12_isWord_47 rfl ?_
          refine lv_topl (fun x52 ex52 => ?_)
          have ex52 : x52.toInt = x50.toInt := by rw [ex52]; exact wk_i2l _
          have bx52 := wk_i32 x50
          refine lv_lor hx hb dX12_isWord_48 ?_
          refine lv_topl (fun x53 ex53 => ?_)
          refine lv_lstore_n (lv' := [(3, .long x53), (0, .ref (ad 0)), (1, .long 6385252), (5, .int v10_5)]) hx hb dX12_isWord_49 rfl hl (by decide) rfl (fun ls hl => ?_)
          exact J50 x53 H locs ls w10 (show 0 ≤ v10_5.toInt by omega) (show v10_5.toInt ≤ 399 by omega) (show 1 ≤ f10_0_1.toInt by omega) (show f10_0_1.toInt ≤ 400 by omega) (show 0 ≤ f10_0_14.toInt by omega) (show f10_0_14.toInt ≤ 399 by omega) (show (f10_0_14.toInt = f0_.toInt ∨ (gi w0 1 (f0_.toInt).toNat).toInt = 32) by first | omega | assumption | (left; omega) | (left; decide) | (right; assumption) | (right; rw [c51]; omega) | (right; rw [c51]; decide))  hw hT hF c15 c18 (lv_sub hl [1, 2, 0, 3] rfl)
  refine lv_aload_n hx hb dX12_isWord_0 rfl (lv_at hl 0 rfl) ?_
  refine tk_Vi hC hK hw hT hA hE hSR kM_at0 (by decide) rfl (k_X12_see_1 l adK adV dC dI cy ad B (by omega) (by omega) qr s1    w0 s.heap.size hT f0_ cf0_ (show 0 ≤ f0_.toInt by omega) (show f0_.toInt ≤ 400 by omega)) (cwV 0 hC.2.2.2.2 gX12_isWord_X12_see rfl rfl rfl (by decide +kernel) ⟨Nat.le_of_ble_eq_true rfl, Nat.le_of_ble_eq_true rfl⟩) rfl hl.1 rfl (Nat.le_of_ble_eq_true rfl) dX12_isWord_1 (fun r54 w56 H locs hp55 hw => ?_)
  obtain ⟨hT, k57, hg74⟩ := hp55
  have hF := hF.tr k57 (by decide)
  rcases hg74 with ⟨g58, g59, ⟨x60, c61, rx60, tx60⟩, ⟨x62, c63, rx62, tx62⟩, g64, g65⟩ | ⟨rfl, ⟨x66, c67, rx66, tx66⟩, ⟨x68, c69, rx68, tx68⟩, g70⟩ | ⟨rfl, ⟨x71, c72, rx71, tx71⟩, g73⟩
  · have g64 : (gi w56 1 (x62.toInt).toNat).toInt ≠ 32 := by have q := g64; simp only [c63] at q; omega
    have g65 : (x62.toInt = f0_.toInt ∨ (gi w0 1 (f0_.toInt).toNat).toInt = 32) := by have q := g65; simp only [cf0_, c63] at q; omega
    refine lv_pop hx hb dX12_isWord_4 rfl ?_
    refine lv_lconst (v := 0) hx hb dX12_isWord_5 (by decide) ?_
    refine lv_lstore_n (lv' := [(3, .long 0), (0, .ref (ad 0)), (1, .long 6385252)]) hx hb dX12_isWord_6 rfl hl (by decide) rfl (fun ls hl => ?_)
    refine lv_iconst (v := 0) hx hb dX12_isWord_7 (by decide) ?_
    refine lv_istore (lv' := [(5, .int 0), (3, .long 0), (0, .ref (ad 0)), (1, .long 6385252)]) hx hb dX12_isWord_8 hl (by decide) rfl (fun ls hl => ?_)
    exact L10 ((400 - (0 : Int)).toNat + 1) 0 0 x60 x62 H locs ls w56 (by decide) (by decide) (show 0 ≤ x60.toInt by omega) (show x60.toInt ≤ 400 by omega) (show 0 ≤ x62.toInt by omega) (show x62.toInt ≤ 400 by omega) (show (x62.toInt = f0_.toInt ∨ (gi w0 1 (f0_.toInt).toNat).toInt = 32) by first | omega | assumption | (left; omega) | (left; decide) | (right; assumption)) (Nat.lt_succ_self _) hw hT hF c61 c63 (lv_sub hl [2, 3, 1, 0] rfl)
  · have g70 : (x68.toInt = f0_.toInt ∨ (gi w0 1 (f0_.toInt).toNat).toInt = 32) := by have q := g70; simp only [cf0_, c69] at q; omega
    refine lv_pop hx hb dX12_isWord_4 rfl ?_
    refine lv_lconst (v := 0) hx hb dX12_isWord_5 (by decide) ?_
    refine lv_lstore_n (lv' := [(3, .long 0), (0, .ref (ad 0)), (1, .long 6385252)]) hx hb dX12_isWord_6 rfl hl (by decide) rfl (fun ls hl => ?_)
    refine lv_iconst (v := 0) hx hb dX12_isWord_7 (by decide) ?_
    refine lv_istore (lv' := [(5, .int 0), (3, .long 0), (0, .ref (ad 0)), (1, .long 6385252)]) hx hb dX12_isWord_8 hl (by decide) rfl (fun ls hl => ?_)
    exact L10 ((400 - (0 : Int)).toNat + 1) 0 0 x66 x68 H locs ls w56 (by decide) (by decide) (show 0 ≤ x66.toInt by omega) (show x66.toInt ≤ 400 by omega) (show 0 ≤ x68.toInt by omega) (show x68.toInt ≤ 400 by omega) (show (x68.toInt = f0_.toInt ∨ (gi w0 1 (f0_.toInt).toNat).toInt = 32) by first | omega | assumption | (left; omega) | (left; decide) | (right; assumption)) (Nat.lt_succ_self _) hw hT hF c67 c69 (lv_sub hl [2, 3, 1, 0] rfl)
  · obtain ⟨x75, c76, rx75, tx75⟩ := hT.rdi (lo := 0) (hi := 400) (k := 14) kM_at0 (by decide) rfl
    have g73 : (x75.toInt = f0_.toInt ∨ (gi w0 1 (f0_.toInt).toNat).toInt = 32) := by have q := g73; simp only [cf0_, c76] at q; omega
    refine lv_pop hx hb dX12_isWord_4 rfl ?_
    refine lv_lconst (v := 0) hx hb dX12_isWord_5 (by decide) ?_
    refine lv_lstore_n (lv' := [(3, .long 0), (0, .ref (ad 0)), (1, .long 6385252)]) hx hb dX12_isWord_6 rfl hl (by decide) rfl (fun ls hl => ?_)
    refine lv_iconst (v := 0) hx hb dX12_isWord_7 (by decide) ?_
    refine lv_istore (lv' := [(5, .int 0), (3, .long 0), (0, .ref (ad 0)), (1, .long 6385252)]) hx hb dX12_isWord_8 hl (by decide) rfl (fun ls hl => ?_)
    exact L10 ((400 - (0 : Int)).toNat + 1) 0 0 x71 x75 H locs ls w56 (by decide) (by decide) (show 0 ≤ x71.toInt by omega) (show x71.toInt ≤ 400 by omega) (show 0 ≤ x75.toInt by omega) (show x75.toInt ≤ 400 by omega) (show (x75.toInt = f0_.toInt ∨ (gi w0 1 (f0_.toInt).toNat).toInt = 32) by first | omega | assumption | (left; omega) | (left; decide) | (right; assumption)) (Nat.lt_succ_self _) hw hT hF c72 c76 (lv_sub hl [2, 3, 1, 0] rfl)
abbrev P_X12_settles_3 (ad : Nat → Nat) (cy : Nat → ClassId) (B : Int) (qr : Nat) (s1 : Int)  (gT gb gd : Int) (w0 : va_W) : va_W → Prop := fun u => TW ksM ad cy B qr 12 u ∧ FE ksM [(12, 19, 19), (12, 22, 22), (61, 0, 2400), (62, 0, 7)] w0 u ∧ (((∃ y : Int32, gi u 0 17 = y ∧ 0 ≤ y.toInt ∧ y.toInt ≤ 5) ∧ (∃ y : Int32, gi u 0 19 = y ∧ (-60) ≤ y.toInt ∧ y.toInt ≤ 10) ∧ (∃ y : Int32, gi u 0 22 = y ∧ 0 ≤ y.toInt ∧ y.toInt ≤ 390) ∧ OKW u gT gb ((gi u 0 22).toInt - (gi u 0 19).toInt + 1) ∧ E9 u (gi u 0 22).toInt ∧ ((gi u 3 ((gi u 0 17).toInt).toNat).toInt + (gi u 0 22).toInt = (gi w0 3 ((gi w0 0 17).toInt).toNat).toInt + (gi w0 0 22).toInt) ∧ ((gi u 0 22).toInt ≤ (gi w0 0 22).toInt) ∧ ((gi u 0 22).toInt + (gi w0 0 19).toInt ≤ (gi w0 0 22).toInt + (gi u 0 19).toInt) ∧ ((gi u 0 22).toInt ≤ (gi u 0 19).toInt + (gi w0 0 18).toInt) ∧ ((gi u 0 22).toInt ≤ 390) ∧ ((gi u 3 ((gi u 0 17).toInt).toNat).toInt ≤ 390) ∧ (brkN w0 ((gi u 0 22).toInt).toNat = brkN w0 ((gi w0 0 22).toInt).toNat) ∧ ((binN u ((gi u 0 22).toInt).toNat : Int) = (gi u 0 22).toInt - (gi u 0 19).toInt)))
set_option maxHeartbeats 4000000 in
set_option maxRecDepth 100000 in
theorem k_X12_settles_3 (l : Launch) (adK adV : Nat → Nat) (dC : Nat → ClassId) (dI : Nat → Nat → Nat) (cy : Nat → ClassId) (ad : Nat → Nat) (B : Int) (hB0 : 100000 ≤ B) (hB1 : B ≤ 1073741824) (qr : Nat) (s1 : Int)   (w0 : va_W) (sz : Nat) (hT : TW ksM ad cy B qr 12 w0) (f0_ : Int32) (cf0_ : gi w0 0 17 = f0_) (rf0_ : 0 ≤ f0_.toInt) (tf0_ : f0_.toInt ≤ 5) (f1_ : Int32) (cf1_ : gi w0 0 18 = f1_) (rf1_ : 0 ≤ f1_.toInt) (tf1_ : f1_.toInt ≤ 60) (f2_ : Int32) (cf2_ : gi w0 0 19 = f2_) (rf2_ : (-100) ≤ f2_.toInt) (tf2_ : f2_.toInt ≤ 10) (f3_ : Int32) (cf3_ : gi w0 0 22 = f3_) (rf3_ : 0 ≤ f3_.toInt) (tf3_ : f3_.toInt ≤ 400) (f4_ : Int32) (cf4_ : gi w0 3 (f0_.toInt).toNat = f4_) (rf4_ : 0 ≤ f4_.toInt) (tf4_ : f4_.toInt ≤ 400) (pr0_ : f4_.toInt + f3_.toInt ≤ 390) (pr1_ : f3_.toInt ≤ f2_.toInt + f1_.toInt) (pr2_ : f4_.toInt ≤ 390) (pr3_ : f3_.toInt ≤ 390) (pr4_ : (binN w0 (f3_.toInt).toNat : Int) = f3_.toInt - f2_.toInt) (gb gd : Int) (hO : OKW w0 f0_.toInt gb (f3_.toInt - f2_.toInt + 1)) (hE9 : E9 w0 (f3_.toInt)) : Met l yX12_settles wsX12_settles ({ frames := 2, cells := 0, slots := 0, locals := 34 }) (va_Pc [.ref (ad 0), .int 2] (wpreS adK adV dC dI cy sz w0)) (va_Qv (P_X12_settles_3 ad cy B qr s1  f0_.toInt gb gd w0) (fun u : va_W => wpost dC dI cy (va_A w0 sz) u) (va_A w0 sz)) 0 0 (va_A w0 sz) := by
  refine Met.ofW (cc := cX12_settles) (maxL := 2) (ret := none) (by decide) rfl ?_
  intro p e s m args below meth c s₁ Bk hml hv
  obtain ⟨rfl, ⟨hsz, hP, hK, hD0⟩, hE, hSR⟩ := hv
  have hx := Bk.exec
  have hb := Bk.bytes
  have hr := Bk.returns
  have hlocks := Bk.notSynchronized
  have hC : CallFix p m c cX12_settles 2 s _ wsX12_settles RX12 := ⟨hx, hb, hml, findClass_of_methodNamed Bk.named, atoms_spec (ws := wsX12_settles) Bk.pre⟩
  subst hsz
  have hD := hD0.self (sz := s.heap.size)
  generalize hAe : va_A w0 s.heap.size = A at hD hE ⊢
  have hA : ∀ q : Nat, s.heap.size ≤ q → A q := fun q h => by rw [← hAe]; exact Or.inr h
  have hw : Wd dC dI A s.heap s.heap [] w0 := ⟨hP, hD, va_S.rf⟩
  have hF : FE ksM [(12, 19, 19), (12, 22, 22), (61, 0, 2400), (62, 0, 7)] w0 w0 := FE.rf
  have hl := lv_entry ([.ref (ad 0), .int 2]) (n := 2) (Nat.le_of_ble_eq_true rfl)
  rw [lg_entry_eq]
  generalize (lg_sl ([.ref (ad 0), .int 2]) ++ List.replicate (2 - (lg_sl ([.ref (ad 0), .int 2])).length) Slot.unset).toArray = ls at hl ⊢
  have hl : lv_has ls 2 [(0, .ref (ad 0)), (1, .int 2)] := hl
  generalize hloc : ([] : List Loc) = locs at hw ⊢
  have hinX12 : ∀ w ∈ u_ws RX12 TX12 42, w ∈ wsX12_settles := fun _ h => List.mem_cons_of_mem _ (List.mem_append_right _ (h))
  have L0 : ∀ (n0 : Nat) (f0_0_19 : Int32) (f0_0_22 : Int32) (f0_3__f0__toInt_toNat : Int32) (H : Heap) (locs : List Loc) (ls : Array Slot) (w1 : va_W), 0 ≤ f0_.toInt → f0_.toInt ≤ 5 → 0 ≤ f1_.toInt → f1_.toInt ≤ 60 → (-60) ≤ f0_0_19.toInt → f0_0_19.toInt ≤ 10 → 0 ≤ f0_0_22.toInt → f0_0_22.toInt ≤ 390 → 0 ≤ f0_3__f0__toInt_toNat.toInt → f0_3__f0__toInt_toNat.toInt ≤ 390 → ((binN w1 (f0_0_22.toInt).toNat : Int) = f0_0_22.toInt - f0_0_19.toInt) → (f0_3__f0__toInt_toNat.toInt + f0_0_22.toInt = f4_.toInt + f3_.toInt) → (f0_0_22.toInt ≤ f3_.toInt) → (f0_0_22.toInt + f2_.toInt ≤ f3_.toInt + f0_0_19.toInt) → (f0_0_22.toInt ≤ f0_0_19.toInt + f1_.toInt) → (f0_3__f0__toInt_toNat.toInt ≤ 390) → (f0_0_22.toInt ≤ 390) → (-60 ≤ f0_0_19.toInt) → (brkN w0 (f0_0_22.toInt).toNat = brkN w0 (f3_.toInt).toNat) → (f0_0_22.toInt - 0).toNat < n0 → Wd dC dI A s.heap H locs w1 → TW ksM ad cy B qr 12 w1 → FE ksM [(12, 19, 19), (12, 22, 22), (61, 0, 2400), (62, 0, 7)] w0 w1 → OKW w1 f0_.toInt gb (f0_0_22.toInt - f0_0_19.toInt + 1) → E9 w1 (f0_0_22.toInt) → gi w1 0 17 = f0_ → gi w1 0 18 = f1_ → gi w1 0 19 = f0_0_19 → gi w1 0 22 = f0_0_22 → gi w1 3 (f0_.toInt).toNat = f0_3__f0__toInt_toNat → lv_has ls 2 [(0, .ref (ad 0)), (1, .int 2)] → W p l e ({ frames := 2, cells := 0, slots := 0, locals := 34 }) s m (List.toArray [.ref (ad 0), .int 2]) below meth c H locs 0 0 (MQ below (va_Qv (P_X12_settles_3 ad cy B qr s1  f0_.toInt gb gd w0) (fun u : va_W => wpost dC dI cy A u) A) (List.toArray [.ref (ad 0), .int 2]) s 0 0 A) (F0 m 0 ls []) := by
    intro n0
    induction n0 with
    | zero => intro f0_0_19 f0_0_22 f0_3__f0__toInt_toNat H locs ls w1 r2 t3 r5 t6 r8 t9 r11 t12 r14 t15 hcr0_0 hcr0_1 hcr0_2 hcr0_3 hcr0_4 hcr0_5 hcr0_6 hcr0_7 hcr0_8 hm0 hw hT hF hO hE9 c4 c7 c10 c13 c16 hl; omega
    | succ n0 ih0 =>
      intro f0_0_19 f0_0_22 f0_3__f0__toInt_toNat H locs ls w1 r2 t3 r5 t6 r8 t9 r11 t12 r14 t15 hcr0_0 hcr0_1 hcr0_2 hcr0_3 hcr0_4 hcr0_5 hcr0_6 hcr0_7 hcr0_8 hm0 hw hT hF hO hE9 c4 c7 c10 c13 c16 hl
      have gl17 := bin_le w1 (f0_0_22.toInt).toNat
      refine lv_aload_n hx hb dX12_settles_0 rfl (lv_at hl 0 rfl) ?_
      refine tk_geti hC hK hw hT hinX12 kM_at0 (by decide) rfl 22 (by decide) (List.mem_of_getElem? (i := 1) rfl) rfl rfl dX12_settles_1 (fun x18 c19 rx18 tx18 => ?_)
      refine wk_top f0_0_22 (c19.symm.trans c13) ?_
      refine lv_if_le (tgt := 76) hx hb dX12_settles_4 (by decide) (fun c20 => ?_) (fun c20 => ?_)
      · have c20 : f0_0_22.toInt ≤ (0 : Int) := wk_le.mp c20
        exact tk_vret hC hr hlocks hK ⟨hT, hF, ⟨⟨f0_, c4, (show 0 ≤ f0_.toInt by omega), (show f0_.toInt ≤ 5 by omega)⟩, ⟨f0_0_19, c10, (show (-60) ≤ f0_0_19.toInt by omega), (show f0_0_19.toInt ≤ 10 by omega)⟩, ⟨f0_0_22, c13, (show 0 ≤ f0_0_22.toInt by omega), (show f0_0_22.toInt ≤ 390 by omega)⟩, (OKW_cast hO (by simp only [c10, c13] <;> omega)), (E9_le hE9 (by simp only [c13] <;> omega)), (by simp only [c4, cf0_, cf4_, c16, cf3_, c13]; omega), (by simp only [c4, cf0_, cf3_, c13]; omega), (by simp only [c4, cf0_, cf2_, c10, cf3_, c13]; omega), (by simp only [c4, cf0_, c10, cf1_, c13]; omega), (by simp only [c4, cf0_, c13]; omega), (by simp only [c4, cf0_, c16]; omega), (by simp only [c4, cf0_, cf3_, c13, c16]; omega), (by simp only [c4, cf0_, c10, c13]; omega)⟩⟩ hw dX12_settles_76
      · have c20 : (0 : Int) < f0_0_22.toInt := wk_leF c20
        refine lv_aload_n hx hb dX12_settles_7 rfl (lv_at hl 0 rfl) ?_
        refine tk_getA hC hK hw hT hinX12 kM_at0 (by decide) rfl 21 (by decide) (List.mem_of_getElem? (i := 2) rfl) rfl rfl dX12_settles_8 ?_
        refine lv_aload_n hx hb dX12_settles_11 rfl (lv_at hl 0 rfl) ?_
        refine tk_geti hC hK hw hT hinX12 kM_at0 (by decide) rfl 22 (by decide) (List.mem_of_getElem? (i := 1) rfl) rfl rfl dX12_settles_12 (fun x21 c22 rx21 tx21 => ?_)
        refine wk_top f0_0_22 (c22.symm.trans c13) ?_
        refine lv_iconst (v := 1) hx hb dX12_settles_15 (by decide) ?_
        refine lv_isub hx hb dX12_settles_16 ?_
        refine lv_topi (fun x23 ex23 => ?_)
        have ex23 : x23.toInt = f0_0_22.toInt - (1 : Int) := by rw [ex23]; exact wk_sub (show (-2147483648) ≤ f0_0_22.toInt - (1 : Int) by omega) (show f0_0_22.toInt - (1 : Int) ≤ 2147483647 by omega)
        refine tk_iald hC hK hw hT kM_at9 rfl rfl (show 0 ≤ x23.toInt by omega) (show x23.toInt < 400 by omega) dX12_settles_17 (fun x24 c25 rx24 tx24 => ?_)
        have c25 : gi w1 9 (1 * f0_0_22.toInt + -1).toNat = x24 := (congrArg (gi w1 9) (congrArg Int.toNat (show 1 * f0_0_22.toInt + -1 = x23.toInt by omega))).trans c25
        refine tk_Si hC hK hw hT hA hE hSR (k_X12_strength_1 l adK adV dC dI cy ad B (by omega) (by omega) qr s1   x24 w1 H.size hT ) (va_cwS 1 hC.2.2.2.2 gX12_settles_X12_strength rfl rfl rfl (by decide +kernel) ⟨Nat.le_of_ble_eq_true rfl, Nat.le_of_ble_eq_true rfl⟩) rfl hl.1 rfl (Nat.le_of_ble_eq_true rfl) dX12_settles_18 (fun r26 w28 H locs hp27 hw => ?_)
        obtain ⟨rfl, hg37⟩ := hp27
        rcases hg37 with ⟨rfl, hq30⟩ | ⟨rfl, g31, g32⟩ | ⟨rfl, g33, g34⟩ | ⟨rfl, g35, g36⟩
        · refine lv_iload_n hx hb dX12_settles_21 rfl (lv_at hl 1 rfl) ?_
          refine lv_icmp_lt (tgt := 76) hx hb dX12_settles_22 (by decide) (fun _ => ?_) (fun c => absurd (by decide) c)
          exact tk_vret hC hr hlocks hK ⟨hT, hF, ⟨⟨f0_, c4, (show 0 ≤ f0_.toInt by omega), (show f0_.toInt ≤ 5 by omega)⟩, ⟨f0_0_19, c10, (show (-60) ≤ f0_0_19.toInt by omega), (show f0_0_19.toInt ≤ 10 by omega)⟩, ⟨f0_0_22, c13, (show 0 ≤ f0_0_22.toInt by omega), (show f0_0_22.toInt ≤ 390 by omega)⟩, (OKW_cast hO (by simp only [c10, c13] <;> omega)), (E9_le hE9 (by simp only [c13] <;> omega)), (by simp only [c4, cf0_, cf4_, c16, cf3_, c13]; omega), (by simp only [c4, cf0_, cf3_, c13]; omega), (by simp only [c4, cf0_, cf2_, c10, cf3_, c13]; omega), (by simp only [c4, cf0_, c10, cf1_, c13]; omega), (by simp only [c4, cf0_, c13]; omega), (by simp only [c4, cf0_, c16]; omega), (by simp only [c4, cf0_, cf3_, c13, c16, c25]; omega), (by simp only [c4, cf0_, c10, c13]; omega)⟩⟩ hw dX12_settles_76
        · refine lv_iload_n hx hb dX12_settles_21 rfl (lv_at hl 1 rfl) ?_
          refine lv_icmp_lt (tgt := 76) hx hb dX12_settles_22 (by decide) (fun _ => ?_) (fun c => absurd (by decide) c)
          exact tk_vret hC hr hlocks hK ⟨hT, hF, ⟨⟨f0_, c4, (show 0 ≤ f0_.toInt by omega), (show f0_.toInt ≤ 5 by omega)⟩, ⟨f0_0_19, c10, (show (-60) ≤ f0_0_19.toInt by omega), (show f0_0_19.toInt ≤ 10 by omega)⟩, ⟨f0_0_22, c13, (show 0 ≤ f0_0_22.toInt by omega), (show f0_0_22.toInt ≤ 390 by omega)⟩, (OKW_cast hO (by simp only [c10, c13] <;> omega)), (E9_le hE9 (by simp only [c13] <;> omega)), (by simp only [c4, cf0_, cf4_, c16, cf3_, c13]; omega), (by simp only [c4, cf0_, cf3_, c13]; omega), (by simp only [c4, cf0_, cf2_, c10, cf3_, c13]; omega), (by simp only [c4, cf0_, c10, cf1_, c13]; omega), (by simp only [c4, cf0_, c13]; omega), (by simp only [c4, cf0_, c16]; omega), (by simp only [c4, cf0_, cf3_, c13, c16, c25]; omega), (by simp only [c4, cf0_, c10, c13]; omega)⟩⟩ hw dX12_settles_76
        · refine lv_iload_n hx hb dX12_settles_21 rfl (lv_at hl 1 rfl) ?_
          refine lv_icmp_lt (tgt := 76) hx hb dX12_settles_22 (by decide) (fun c => absurd c (by decide)) (fun _ => ?_)
          refine lv_aload_n hx hb dX12_settles_25 rfl (lv_at hl 0 rfl) ?_
          refine lv_dup hx hb dX12_settles_26 rfl ?_
          refine tk_geti hC hK hw hT hinX12 kM_at0 (by decide) rfl 22 (by decide) (List.mem_of_getElem? (i := 1) rfl) rfl rfl dX12_settles_27 (fun x38 c39 rx38 tx38 => ?_)
          refine wk_top f0_0_22 (c39.symm.trans c13) ?_
          refine lv_iconst (v := 1) hx hb dX12_settles_30 (by decide) ?_
          refine lv_isub hx hb dX12_settles_31 ?_
          refine lv_topi (fun x40 ex40 => ?_)
          have ex40 : x40.toInt = f0_0_22.toInt - (1 : Int) := by rw [ex40]; exact wk_sub (show (-2147483648) ≤ f0_0_22.toInt - (1 : Int) by omega) (show f0_0_22.toInt - (1 : Int) ≤ 2147483647 by omega)
          refine tk_puti hC hK hw hT hinX12 tyX12_ok nmX12 kM_at0 (by decide) rfl rfl 22 (by decide) (List.mem_of_getElem? (i := 1) rfl) rfl rfl rfl rfl (show 0 ≤ x40.toInt by omega) (show x40.toInt ≤ 400 by omega) dX12_settles_32 (fun H locs w41 hw hT k43 c42 => ?_)
          have gn44 : binN w41 (f0_0_22.toInt).toNat = binN w1 (f0_0_22.toInt).toNat := bin_F1 _ k43 (by decide)
          have gn45 : binN w41 (x40.toInt).toNat = binN w1 (x40.toInt).toNat := bin_F1 _ k43 (by decide)
          have gt46 := bin_top (w := w1) (a := f0_0_22.toInt) (b := x40.toInt) (by omega) (by omega)
          have gx47 : (gi w1 9 (x40.toInt).toNat).toInt = x24.toInt := by rw [show (x40.toInt) = 1 * f0_0_22.toInt + -1 by omega, c25]
          have hO := OKW_F1 k43 (by decide) (by decide) (by decide) (by decide) hO
          have hE9 := E9_F1 k43 (by decide) hE9
          have hF := hF.put kM_at0 (k := 22) (by decide) k43
          have c48 := k43.gi (Or.inr (by decide)) c4
          have c49 := k43.gi (Or.inr (by decide)) c7
          have c50 := k43.gi (Or.inr (by decide)) c10
          have c51 := k43.gi (Or.inl (tk_ne kM_at3 kM_at0 (by decide))) c16
          have c52 := k43.gi (Or.inl (tk_ne kM_at9 kM_at0 (by decide))) c25
          refine lv_aload_n hx hb dX12_settles_35 rfl (lv_at hl 0 rfl) ?_
          refine lv_aload_n hx hb dX12_settles_36 rfl (lv_at hl 0 rfl) ?_
          refine tk_getA hC hK hw hT hinX12 kM_at0 (by decide) rfl 21 (by decide) (List.mem_of_getElem? (i := 2) rfl) rfl rfl dX12_settles_37 ?_
          refine lv_aload_n hx hb dX12_settles_40 rfl (lv_at hl 0 rfl) ?_
          refine tk_geti hC hK hw hT hinX12 kM_at0 (by decide) rfl 22 (by decide) (List.mem_of_getElem? (i := 1) rfl) rfl rfl dX12_settles_41 (fun x53 c54 rx53 tx53 => ?_)
          refine wk_top x40 (c54.symm.trans c42) ?_
          refine tk_iald hC hK hw hT kM_at9 rfl rfl (show 0 ≤ x40.toInt by omega) (show x40.toInt < 400 by omega) dX12_settles_44 (fun x55 c56 rx55 tx55 => ?_)
          have c56 : gi w41 9 (1 * f0_0_22.toInt + -1).toNat = x55 := (congrArg (gi w41 9) (congrArg Int.toNat (show 1 * f0_0_22.toInt + -1 = x40.toInt by omega))).trans c56
          refine wk_top x24 (c56.symm.trans c52) ?_
          refine lv_iconst (v := 0) hx hb dX12_settles_45 (by decide) ?_
          obtain rfl : x24 = 12 := wk_eq.mpr (show x24.toInt = 12 by omega)
          refine tk_Vv hC hK hw hT hA hE hSR kM_at0 (by decide) rfl (k_X12_puts_1 l adK adV dC dI cy ad B (by omega) (by omega) qr s1   12 (by decide) (by decide) 0 (by decide) (by decide) w41 H.size hT f0_ c48 (show 0 ≤ f0_.toInt by omega) (show f0_.toInt ≤ 5 by omega) f0_3__f0__toInt_toNat c51 (show 0 ≤ f0_3__f0__toInt_toNat.toInt by omega) (show f0_3__f0__toInt_toNat.toInt ≤ 400 by omega) (show f0_3__f0__toInt_toNat.toInt ≤ 399 by omega)) (cwV 2 hC.2.2.2.2 gX12_settles_X12_puts rfl rfl rfl (by decide +kernel) ⟨Nat.le_of_ble_eq_true rfl, Nat.le_of_ble_eq_true rfl⟩) rfl hl.1 rfl (Nat.le_of_ble_eq_true rfl) dX12_settles_46 (fun w59 H locs hp58 hw => ?_)
          obtain ⟨hT, k60, hg65⟩ := hp58
          have hE9 := E9_FE k60 (fun _ => rfl) hE9
          have gn66 : binN w59 (x40.toInt).toNat = binN w41 (x40.toInt).toNat := bin_FE _ k60 (fun _ => rfl)
          have hF := hF.tr k60 (by decide)
          have c67 := k60.gi kM_at0 (by decide) c48
          have c68 := k60.gi kM_at0 (by decide) c49
          have c69 := k60.gi kM_at0 (by decide) c50
          have c70 := k60.gi kM_at9 rfl c52
          have c71 := k60.gi kM_at0 (by decide) c42
          obtain ⟨⟨x61, c62, rx61, tx61⟩, hq63, g64⟩ := hg65
          have ex61 : x61.toInt = f0_.toInt := by rw [← c67.symm.trans c62]
          obtain ⟨x72, c73, rx72, tx72⟩ := hT.rda (lo := 0) (hi := 400) (i := (f0_.toInt).toNat) kM_at3 rfl rfl (by omega)
          have g64 : x72.toInt = f0_3__f0__toInt_toNat.toInt + 1 := by have q := g64; simp only [c48, c67, c51, c73] at q; omega
          have hO : OKW w59 f0_.toInt gb ((f0_0_22.toInt - f0_0_19.toInt + 1) - 1) := OKW_put hO (by have q := hq63; rw [c48] at q; exact q) (by rw [c51]; omega) (fun x hx => by simp only [(show (12 : Int32).toInt = 12 by decide), (show (0 : Int32).toInt = 0 by decide)] at hx; exact okT_bin (by omega) (by omega) (by omega) (by omega)) (by omega) (by omega)
          refine lv_aload_n hx hb dX12_settles_49 rfl (lv_at hl 0 rfl) ?_
          refine tk_getA hC hK hw hT hinX12 kM_at0 (by decide) rfl 21 (by decide) (List.mem_of_getElem? (i := 2) rfl) rfl rfl dX12_settles_50 ?_
          refine lv_aload_n hx hb dX12_settles_53 rfl (lv_at hl 0 rfl) ?_
          refine tk_geti hC hK hw hT hinX12 kM_at0 (by decide) rfl 22 (by decide) (List.mem_of_getElem? (i := 1) rfl) rfl rfl dX12_settles_54 (fun x74 c75 rx74 tx74 => ?_)
          refine wk_top x40 (c75.symm.trans c71) ?_
          refine tk_iald hC hK hw hT kM_at9 rfl rfl (show 0 ≤ x40.toInt by omega) (show x40.toInt < 400 by omega) dX12_settles_57 (fun x76 c77 rx76 tx76 => ?_)
          have c77 : gi w59 9 (1 * f0_0_22.toInt + -1).toNat = x76 := (congrArg (gi w59 9) (congrArg Int.toNat (show 1 * f0_0_22.toInt + -1 = x40.toInt by omega))).trans c77
          refine wk_top 12 (c77.symm.trans c70) ?_
          refine lv_bipush (v := 11) hx hb dX12_settles_58 (by decide) ?_
          refine lv_icmp_ne (tgt := 0) hx hb dX12_settles_60 (by decide) (fun _ => ?_) (fun c => absurd c (by decide))
          exact ih0 f0_0_19 x40 x72 H locs ls w59 (show 0 ≤ f0_.toInt by omega) (show f0_.toInt ≤ 5 by omega) (show 0 ≤ f1_.toInt by omega) (show f1_.toInt ≤ 60 by omega) (show (-60) ≤ f0_0_19.toInt by omega) (show f0_0_19.toInt ≤ 10 by omega) (show 0 ≤ x40.toInt by omega) (show x40.toInt ≤ 390 by omega) (show 0 ≤ x72.toInt by omega) (show x72.toInt ≤ 390 by omega) (show (binN w59 (x40.toInt).toNat : Int) = x40.toInt - f0_0_19.toInt by omega) (show x72.toInt + x40.toInt = f4_.toInt + f3_.toInt by omega) (show x40.toInt ≤ f3_.toInt by omega) (show x40.toInt + f2_.toInt ≤ f3_.toInt + f0_0_19.toInt by omega) (show x40.toInt ≤ f0_0_19.toInt + f1_.toInt by omega) (show x72.toInt ≤ 390 by omega) (show x40.toInt ≤ 390 by omega) (show -60 ≤ f0_0_19.toInt by omega) (show brkN w0 (x40.toInt).toNat = brkN w0 (f3_.toInt).toNat from ((brk_step (by omega) (show f0_0_22.toInt = x40.toInt + 1 by omega) (show ¬ (gi w0 9 (x40.toInt).toNat).toInt = 91 by first | (rw [show (x40.toInt) = 1 * f0_0_22.toInt + -1 by omega, ← hF.gi kM_at9 rfl rfl, c70]; omega) | (rw [show (x40.toInt) = 1 * f0_0_22.toInt + -1 by omega, ← hF.gi kM_at9 rfl rfl, c70]; decide))).trans hcr0_8)) (show (x40.toInt - 0).toNat < n0 by omega) hw hT hF (OKW_cast hO (show (f0_0_22.toInt - f0_0_19.toInt + 1) - 1 = x40.toInt - f0_0_19.toInt + 1 by omega)) (E9_le hE9 (show x40.toInt ≤ _ by omega)) c67 c68 c69 c71 c73 (lv_sub hl [0, 1] rfl)
        · refine lv_iload_n hx hb dX12_settles_21 rfl (lv_at hl 1 rfl) ?_
          refine lv_icmp_lt (tgt := 76) hx hb dX12_settles_22 (by decide) (fun c => absurd c (by decide)) (fun _ => ?_)
          refine lv_aload_n hx hb dX12_settles_25 rfl (lv_at hl 0 rfl) ?_
          refine lv_dup hx hb dX12_settles_26 rfl ?_
          refine tk_geti hC hK hw hT hinX12 kM_at0 (by decide) rfl 22 (by decide) (List.mem_of_getElem? (i := 1) rfl) rfl rfl dX12_settles_27 (fun x78 c79 rx78 tx78 => ?_)
          refine wk_top f0_0_22 (c79.symm.trans c13) ?_
          refine lv_iconst (v := 1) hx hb dX12_settles_30 (by decide) ?_
          refine lv_isub hx hb dX12_settles_31 ?_
          refine lv_topi (fun x80 ex80 => ?_)
          have ex80 : x80.toInt = f0_0_22.toInt - (1 : Int) := by rw [ex80]; exact wk_sub (show (-2147483648) ≤ f0_0_22.toInt - (1 : Int) by omega) (show f0_0_22.toInt - (1 : Int) ≤ 2147483647 by omega)
          refine tk_puti hC hK hw hT hinX12 tyX12_ok nmX12 kM_at0 (by decide) rfl rfl 22 (by decide) (List.mem_of_getElem? (i := 1) rfl) rfl rfl rfl rfl (show 0 ≤ x80.toInt by omega) (show x80.toInt ≤ 400 by omega) dX12_settles_32 (fun H locs w81 hw hT k83 c82 => ?_)
          have gn84 : binN w81 (f0_0_22.toInt).toNat = binN w1 (f0_0_22.toInt).toNat := bin_F1 _ k83 (by decide)
          have gn85 : binN w81 (x80.toInt).toNat = binN w1 (x80.toInt).toNat := bin_F1 _ k83 (by decide)
          have gt86 := bin_top (w := w1) (a := f0_0_22.toInt) (b := x80.toInt) (by omega) (by omega)
          have gx87 : (gi w1 9 (x80.toInt).toNat).toInt = x24.toInt := by rw [show (x80.toInt) = 1 * f0_0_22.toInt + -1 by omega, c25]
          have hO := OKW_F1 k83 (by decide) (by decide) (by decide) (by decide) hO
          have hE9 := E9_F1 k83 (by decide) hE9
          have hF := hF.put kM_at0 (k := 22) (by decide) k83
          have c88 := k83.gi (Or.inr (by decide)) c4
          have c89 := k83.gi (Or.inr (by decide)) c7
          have c90 := k83.gi (Or.inr (by decide)) c10
          have c91 := k83.gi (Or.inl (tk_ne kM_at3 kM_at0 (by decide))) c16
          have c92 := k83.gi (Or.inl (tk_ne kM_at9 kM_at0 (by decide))) c25
          refine lv_aload_n hx hb dX12_settles_35 rfl (lv_at hl 0 rfl) ?_
          refine lv_aload_n hx hb dX12_settles_36 rfl (lv_at hl 0 rfl) ?_
          refine tk_getA hC hK hw hT hinX12 kM_at0 (by decide) rfl 21 (by decide) (List.mem_of_getElem? (i := 2) rfl) rfl rfl dX12_settles_37 ?_
          refine lv_aload_n hx hb dX12_settles_40 rfl (lv_at hl 0 rfl) ?_
          refine tk_geti hC hK hw hT hinX12 kM_at0 (by decide) rfl 22 (by decide) (List.mem_of_getElem? (i := 1) rfl) rfl rfl dX12_settles_41 (fun x93 c94 rx93 tx93 => ?_)
          refine wk_top x80 (c94.symm.trans c82) ?_
          refine tk_iald hC hK hw hT kM_at9 rfl rfl (show 0 ≤ x80.toInt by omega) (show x80.toInt < 400 by omega) dX12_settles_44 (fun x95 c96 rx95 tx95 => ?_)
          have c96 : gi w81 9 (1 * f0_0_22.toInt + -1).toNat = x95 := (congrArg (gi w81 9) (congrArg Int.toNat (show 1 * f0_0_22.toInt + -1 = x80.toInt by omega))).trans c96
          refine wk_top x24 (c96.symm.trans c92) ?_
          refine lv_iconst (v := 0) hx hb dX12_settles_45 (by decide) ?_
          obtain rfl : x24 = 11 := wk_eq.mpr (show x24.toInt = 11 by omega)
          refine tk_Vv hC hK hw hT hA hE hSR kM_at0 (by decide) rfl (k_X12_puts_1 l adK adV dC dI cy ad B (by omega) (by omega) qr s1   11 (by decide) (by decide) 0 (by decide) (by decide) w81 H.size hT f0_ c88 (show 0 ≤ f0_.toInt by omega) (show f0_.toInt ≤ 5 by omega) f0_3__f0__toInt_toNat c91 (show 0 ≤ f0_3__f0__toInt_toNat.toInt by omega) (show f0_3__f0__toInt_toNat.toInt ≤ 400 by omega) (show f0_3__f0__toInt_toNat.toInt ≤ 399 by omega)) (cwV 2 hC.2.2.2.2 gX12_settles_X12_puts rfl rfl rfl (by decide +kernel) ⟨Nat.le_of_ble_eq_true rfl, Nat.le_of_ble_eq_true rfl⟩) rfl hl.1 rfl (Nat.le_of_ble_eq_true rfl) dX12_settles_46 (fun w99 H locs hp98 hw => ?_)
          obtain ⟨hT, k100, hg105⟩ := hp98
          have hE9 := E9_FE k100 (fun _ => rfl) hE9
          have gn106 : binN w99 (x80.toInt).toNat = binN w81 (x80.toInt).toNat := bin_FE _ k100 (fun _ => rfl)
          have hF := hF.tr k100 (by decide)
          have c107 := k100.gi kM_at0 (by decide) c88
          have c108 := k100.gi kM_at0 (by decide) c89
          have c109 := k100.gi kM_at0 (by decide) c90
          have c110 := k100.gi kM_at9 rfl c92
          have c111 := k100.gi kM_at0 (by decide) c82
          obtain ⟨⟨x101, c102, rx101, tx101⟩, hq103, g104⟩ := hg105
          have ex101 : x101.toInt = f0_.toInt := by rw [← c107.symm.trans c102]
          obtain ⟨x112, c113, rx112, tx112⟩ := hT.rda (lo := 0) (hi := 400) (i := (f0_.toInt).toNat) kM_at3 rfl rfl (by omega)
          have g104 : x112.toInt = f0_3__f0__toInt_toNat.toInt + 1 := by have q := g104; simp only [c88, c107, c91, c113] at q; omega
          have hO : OKW w99 f0_.toInt gb ((f0_0_22.toInt - f0_0_19.toInt + 1)) := OKW_put hO (by have q := hq103; rw [c88] at q; exact q) (by rw [c91]; omega) (fun x hx => by simp only [(show (11 : Int32).toInt = 11 by decide), (show (0 : Int32).toInt = 0 by decide)] at hx; exact okT_not (by omega) (by omega)) (by omega) (by omega)
          refine lv_aload_n hx hb dX12_settles_49 rfl (lv_at hl 0 rfl) ?_
          refine tk_getA hC hK hw hT hinX12 kM_at0 (by decide) rfl 21 (by decide) (List.mem_of_getElem? (i := 2) rfl) rfl rfl dX12_settles_50 ?_
          refine lv_aload_n hx hb dX12_settles_53 rfl (lv_at hl 0 rfl) ?_
          refine tk_geti hC hK hw hT hinX12 kM_at0 (by decide) rfl 22 (by decide) (List.mem_of_getElem? (i := 1) rfl) rfl rfl dX12_settles_54 (fun x114 c115 rx114 tx114 => ?_)
          refine wk_top x80 (c115.symm.trans c111) ?_
          refine tk_iald hC hK hw hT kM_at9 rfl rfl (show 0 ≤ x80.toInt by omega) (show x80.toInt < 400 by omega) dX12_settles_57 (fun x116 c117 rx116 tx116 => ?_)
          have c117 : gi w99 9 (1 * f0_0_22.toInt + -1).toNat = x116 := (congrArg (gi w99 9) (congrArg Int.toNat (show 1 * f0_0_22.toInt + -1 = x80.toInt by omega))).trans c117
          refine wk_top 11 (c117.symm.trans c110) ?_
          refine lv_bipush (v := 11) hx hb dX12_settles_58 (by decide) ?_
          refine lv_icmp_ne (tgt := 0) hx hb dX12_settles_60 (by decide) (fun c => absurd (by decide) c) (fun _ => ?_)
          refine lv_aload_n hx hb dX12_settles_63 rfl (lv_at hl 0 rfl) ?_
          refine lv_dup hx hb dX12_settles_64 rfl ?_
          refine tk_geti hC hK hw hT hinX12 kM_at0 (by decide) rfl 19 (by decide) (List.mem_of_getElem? (i := 3) rfl) rfl rfl dX12_settles_65 (fun x118 c119 rx118 tx118 => ?_)
          refine wk_top f0_0_19 (c119.symm.trans c109) ?_
          refine lv_iconst (v := 1) hx hb dX12_settles_68 (by decide) ?_
          refine lv_isub hx hb dX12_settles_69 ?_
          refine lv_topi (fun x120 ex120 => ?_)
          have ex120 : x120.toInt = f0_0_19.toInt - (1 : Int) := by rw [ex120]; exact wk_sub (show (-2147483648) ≤ f0_0_19.toInt - (1 : Int) by omega) (show f0_0_19.toInt - (1 : Int) ≤ 2147483647 by omega)
          refine tk_puti hC hK hw hT hinX12 tyX12_ok nmX12 kM_at0 (by decide) rfl rfl 19 (by decide) (List.mem_of_getElem? (i := 3) rfl) rfl rfl rfl rfl (show (-100) ≤ x120.toInt by omega) (show x120.toInt ≤ 10 by omega) dX12_settles_70 (fun H locs w121 hw hT k123 c122 => ?_)
          have gn124 : binN w121 (x80.toInt).toNat = binN w99 (x80.toInt).toNat := bin_F1 _ k123 (by decide)
          have hO := OKW_F1 k123 (by decide) (by decide) (by decide) (by decide) hO
          have hE9 := E9_F1 k123 (by decide) hE9
          have hF := hF.put kM_at0 (k := 19) (by decide) k123
          have c125 := k123.gi (Or.inr (by decide)) c107
          have c126 := k123.gi (Or.inr (by decide)) c108
          have c127 := k123.gi (Or.inl (tk_ne kM_at9 kM_at0 (by decide))) c110
          have c128 := k123.gi (Or.inr (by decide)) c111
          have c129 := k123.gi (Or.inl (tk_ne kM_at3 kM_at0 (by decide))) c113
          refine lv_goto (tgt := 0) hx hb dX12_settles_73 (by decide) ?_
          exact ih0 x120 x80 x112 H locs ls w121 (show 0 ≤ f0_.toInt by omega) (show f0_.toInt ≤ 5 by omega) (show 0 ≤ f1_.toInt by omega) (show f1_.toInt ≤ 60 by omega) (show (-60) ≤ x120.toInt by omega) (show x120.toInt ≤ 10 by omega) (show 0 ≤ x80.toInt by omega) (show x80.toInt ≤ 390 by omega) (show 0 ≤ x112.toInt by omega) (show x112.toInt ≤ 390 by omega) (show (binN w121 (x80.toInt).toNat : Int) = x80.toInt - x120.toInt by omega) (show x112.toInt + x80.toInt = f4_.toInt + f3_.toInt by omega) (show x80.toInt ≤ f3_.toInt by omega) (show x80.toInt + f2_.toInt ≤ f3_.toInt + x120.toInt by omega) (show x80.toInt ≤ x120.toInt + f1_.toInt by omega) (show x112.toInt ≤ 390 by omega) (show x80.toInt ≤ 390 by omega) (show -60 ≤ x120.toInt by omega) (show brkN w0 (x80.toInt).toNat = brkN w0 (f3_.toInt).toNat from ((brk_step (by omega) (show f0_0_22.toInt = x80.toInt + 1 by omega) (show ¬ (gi w0 9 (x80.toInt).toNat).toInt = 91 by first | (rw [show (x80.toInt) = 1 * f0_0_22.toInt + -1 by omega, ← hF.gi kM_at9 rfl rfl, c127]; omega) | (rw [show (x80.toInt) = 1 * f0_0_22.toInt + -1 by omega, ← hF.gi kM_at9 rfl rfl, c127]; decide))).trans hcr0_8)) (show (x80.toInt - 0).toNat < n0 by omega) hw hT hF (OKW_cast hO (show (f0_0_22.toInt - f0_0_19.toInt + 1) = x80.toInt - x120.toInt + 1 by omega)) (E9_le hE9 (show x80.toInt ≤ _ by omega)) c125 c126 c122 c128 c129 (lv_sub hl [0, 1] rfl)
  exact L0 ((f3_.toInt - 0).toNat + 1) f2_ f3_ f4_ s.heap locs ls w0 (show 0 ≤ f0_.toInt by omega) (show f0_.toInt ≤ 5 by omega) (show 0 ≤ f1_.toInt by omega) (show f1_.toInt ≤ 60 by omega) (show (-60) ≤ f2_.toInt by omega) (show f2_.toInt ≤ 10 by omega) (show 0 ≤ f3_.toInt by omega) (show f3_.toInt ≤ 390 by omega) (show 0 ≤ f4_.toInt by omega) (show f4_.toInt ≤ 390 by omega) (show (binN w0 (f3_.toInt).toNat : Int) = f3_.toInt - f2_.toInt by omega) (show f4_.toInt + f3_.toInt = f4_.toInt + f3_.toInt by omega) (show f3_.toInt ≤ f3_.toInt by omega) (show f3_.toInt + f2_.toInt ≤ f3_.toInt + f2_.toInt by omega) (show f3_.toInt ≤ f2_.toInt + f1_.toInt by omega) (show f4_.toInt ≤ 390 by omega) (show f3_.toInt ≤ 390 by omega) (show -60 ≤ f2_.toInt by omega) (show brkN w0 (f3_.toInt).toNat = brkN w0 (f3_.toInt).toNat from rfl) (Nat.lt_succ_self _) hw hT hF (OKW_cast hO (show f3_.toInt - f2_.toInt + 1 = f3_.toInt - f2_.toInt + 1 by omega)) (E9_le hE9 (show f3_.toInt ≤ _ by omega)) cf0_ cf1_ cf2_ cf3_ cf4_ (lv_sub hl [0, 1] rfl)
abbrev P_X12_strength_2 (ad : Nat → Nat) (cy : Nat → ClassId) (B : Int) (qr : Nat) (s1 : Int)  (w0 : va_W) : Int32 → va_W → Prop := fun r u => w0 = u ∧ ((r = 2))
set_option maxHeartbeats 4000000 in
set_option maxRecDepth 100000 in
theorem k_X12_strength_2 (l : Launch) (adK adV : Nat → Nat) (dC : Nat → ClassId) (dI : Nat → Nat → Nat) (cy : Nat → ClassId) (ad : Nat → Nat) (B : Int) (hB0 : 100000 ≤ B) (hB1 : B ≤ 1073741824) (qr : Nat) (s1 : Int)   (w0 : va_W) (sz : Nat) (hT : TW ksM ad cy B qr 12 w0)  : Met l yX12_strength wsX12_strength ({ frames := 1, cells := 0, slots := 0, locals := 12 }) (va_Pc [.int 12] (wpreS adK adV dC dI cy sz w0)) (va_Qi (P_X12_strength_2 ad cy B qr s1  w0) (fun u : va_W => wpost dC dI cy (va_A w0 sz) u) (va_A w0 sz)) 0 0 (va_A w0 sz) := by
  refine Met.ofW (cc := cX12_strength) (maxL := 1) (ret := (some .int)) (by decide) rfl ?_
  intro p e s m args below meth c s₁ Bk hml hv
  obtain ⟨rfl, ⟨hsz, hP, hK, hD0⟩, hE, hSR⟩ := hv
  have hx := Bk.exec
  have hb := Bk.bytes
  have hr := Bk.returns
  have hlocks := Bk.notSynchronized
  have hC : CallFix p m c cX12_strength 1 s _ wsX12_strength RX12 := ⟨hx, hb, hml, findClass_of_methodNamed Bk.named, atoms_spec (ws := wsX12_strength) Bk.pre⟩
  subst hsz
  have hD := hD0.self (sz := s.heap.size)
  generalize hAe : va_A w0 s.heap.size = A at hD hE ⊢
  have hA : ∀ q : Nat, s.heap.size ≤ q → A q := fun q h => by rw [← hAe]; exact Or.inr h
  have hw : Wd dC dI A s.heap s.heap [] w0 := ⟨hP, hD, va_S.rf⟩
  have hF : FE ksM ([] : List (Nat × Nat × Nat)) w0 w0 := FE.rf
  have hl := lv_entry ([.int 12]) (n := 1) (Nat.le_of_ble_eq_true rfl)
  rw [lg_entry_eq]
  generalize (lg_sl ([.int 12]) ++ List.replicate (1 - (lg_sl ([.int 12])).length) Slot.unset).toArray = ls at hl ⊢
  have hl : lv_has ls 1 [(0, .int 12)] := hl
  generalize hloc : ([] : List Loc) = locs at hw ⊢
  refine lv_iload_n hx hb dX12_strength_0 rfl (lv_at hl 0 rfl) ?_
  refine lv_bipush (v := 13) hx hb dX12_strength_1 (by decide) ?_
  refine lv_icmp_ne (tgt := 10) hx hb dX12_strength_3 (by decide) (fun _ => ?_) (fun c => absurd c (by decide))
  refine lv_iload_n hx hb dX12_strength_10 rfl (lv_at hl 0 rfl) ?_
  refine lv_bipush (v := 12) hx hb dX12_strength_11 (by decide) ?_
  refine lv_icmp_ne (tgt := 20) hx hb dX12_strength_13 (by decide) (fun c => absurd (by decide) c) (fun _ => ?_)
  refine lv_iconst (v := 2) hx hb dX12_strength_16 (by decide) ?_
  refine lv_goto (tgt := 31) hx hb dX12_strength_17 (by decide) ?_
  exact tk_iret hC hr hlocks hK ⟨rfl, rfl⟩ hw dX12_strength_31
abbrev P_X12_strength_3 (ad : Nat → Nat) (cy : Nat → ClassId) (B : Int) (qr : Nat) (s1 : Int)  (w0 : va_W) : Int32 → va_W → Prop := fun r u => w0 = u ∧ ((r = 1))
set_option maxHeartbeats 4000000 in
set_option maxRecDepth 100000 in
theorem k_X12_strength_3 (l : Launch) (adK adV : Nat → Nat) (dC : Nat → ClassId) (dI : Nat → Nat → Nat) (cy : Nat → ClassId) (ad : Nat → Nat) (B : Int) (hB0 : 100000 ≤ B) (hB1 : B ≤ 1073741824) (qr : Nat) (s1 : Int)   (w0 : va_W) (sz : Nat) (hT : TW ksM ad cy B qr 12 w0)  : Met l yX12_strength wsX12_strength ({ frames := 1, cells := 0, slots := 0, locals := 12 }) (va_Pc [.int 13] (wpreS adK adV dC dI cy sz w0)) (va_Qi (P_X12_strength_3 ad cy B qr s1  w0) (fun u : va_W => wpost dC dI cy (va_A w0 sz) u) (va_A w0 sz)) 0 0 (va_A w0 sz) := by
  refine Met.ofW (cc := cX12_strength) (maxL := 1) (ret := (some .int)) (by decide) rfl ?_
  intro p e s m args below meth c s₁ Bk hml hv
  obtain ⟨rfl, ⟨hsz, hP, hK, hD0⟩, hE, hSR⟩ := hv
  have hx := Bk.exec
  have hb := Bk.bytes
  have hr := Bk.returns
  have hlocks := Bk.notSynchronized
  have hC : CallFix p m c cX12_strength 1 s _ wsX12_strength RX12 := ⟨hx, hb, hml, findClass_of_methodNamed Bk.named, atoms_spec (ws := wsX12_strength) Bk.pre⟩
  subst hsz
  have hD := hD0.self (sz := s.heap.size)
  generalize hAe : va_A w0 s.heap.size = A at hD hE ⊢
  have hA : ∀ q : Nat, s.heap.size ≤ q → A q := fun q h => by rw [← hAe]; exact Or.inr h
  have hw : Wd dC dI A s.heap s.heap [] w0 := ⟨hP, hD, va_S.rf⟩
  have hF : FE ksM ([] : List (Nat × Nat × Nat)) w0 w0 := FE.rf
  have hl := lv_entry ([.int 13]) (n := 1) (Nat.le_of_ble_eq_true rfl)
  rw [lg_entry_eq]
  generalize (lg_sl ([.int 13]) ++ List.replicate (1 - (lg_sl ([.int 13])).length) Slot.unset).toArray = ls at hl ⊢
  have hl : lv_has ls 1 [(0, .int 13)] := hl
  generalize hloc : ([] : List Loc) = locs at hw ⊢
  refine lv_iload_n hx hb dX12_strength_0 rfl (lv_at hl 0 rfl) ?_
  refine lv_bipush (v := 13) hx hb dX12_strength_1 (by decide) ?_
  refine lv_icmp_ne (tgt := 10) hx hb dX12_strength_3 (by decide) (fun c => absurd (by decide) c) (fun _ => ?_)
  refine lv_iconst (v := 1) hx hb dX12_strength_6 (by decide) ?_
  refine lv_goto (tgt := 31) hx hb dX12_strength_7 (by decide) ?_
  exact tk_iret hC hr hlocks hK ⟨rfl, rfl⟩ hw dX12_strength_31
abbrev P_X12_tested_1 (ad : Nat → Nat) (cy : Nat → ClassId) (B : Int) (qr : Nat) (s1 : Int)  (gT gb gd : Int) (w0 : va_W) : Int32 → va_W → Prop := fun r u => TW ksM ad cy B qr 12 u ∧ FE ksM [(12, 14, 14), (12, 15, 15), (12, 16, 16), (12, 18, 18), (12, 19, 19), (12, 22, 22), (61, 0, 2400), (62, 0, 7), (68, 0, 400)] w0 u ∧ ((r = 0 ∧ (∃ y : Int32, gi u 0 1 = y ∧ 1 ≤ y.toInt ∧ y.toInt ≤ 400) ∧ (∃ y : Int32, gi u 0 15 = y ∧ 1 ≤ y.toInt ∧ y.toInt ≤ 3205) ∧ (∃ y : Int32, gi u 0 17 = y ∧ 0 ≤ y.toInt ∧ y.toInt ≤ 5) ∧ (∃ y : Int32, gi u 0 22 = y ∧ 0 ≤ y.toInt ∧ y.toInt ≤ 399) ∧ RLc u gT) ∨ (r = 0 ∧ (∃ y : Int32, gi u 0 1 = y ∧ 0 ≤ y.toInt ∧ y.toInt ≤ 400) ∧ (∃ y : Int32, gi u 0 15 = y ∧ 1 ≤ y.toInt ∧ y.toInt ≤ 3205) ∧ (∃ y : Int32, gi u 0 17 = y ∧ 0 ≤ y.toInt ∧ y.toInt ≤ 5) ∧ (∃ y : Int32, gi u 0 22 = y ∧ 0 ≤ y.toInt ∧ y.toInt ≤ 399) ∧ RLc u gT) ∨ (r = 1 ∧ (∃ y : Int32, gi u 0 17 = y ∧ 0 ≤ y.toInt ∧ y.toInt ≤ 5) ∧ (∃ y : Int32, gi u 0 19 = y ∧ (-60) ≤ y.toInt ∧ y.toInt ≤ 10) ∧ (∃ y : Int32, gi u 0 22 = y ∧ 0 ≤ y.toInt ∧ y.toInt ≤ 390) ∧ OKW u gT gb (1) ∧ (3 * (gi u 3 ((gi u 0 17).toInt).toNat).toInt ≤ 14 * (gi u 0 18).toInt)))
set_option maxHeartbeats 4000000 in
set_option maxRecDepth 100000 in
theorem k_X12_tested_1 (l : Launch) (adK adV : Nat → Nat) (dC : Nat → ClassId) (dI : Nat → Nat → Nat) (cy : Nat → ClassId) (ad : Nat → Nat) (B : Int) (hB0 : 100000 ≤ B) (hB1 : B ≤ 1073741824) (qr : Nat) (s1 : Int)   (w0 : va_W) (sz : Nat) (hT : TW ksM ad cy B qr 12 w0) (f0_ : Int32) (cf0_ : gi w0 0 17 = f0_) (rf0_ : 0 ≤ f0_.toInt) (tf0_ : f0_.toInt ≤ 5) (f1_ : Int32) (cf1_ : gi w0 0 18 = f1_) (rf1_ : 0 ≤ f1_.toInt) (tf1_ : f1_.toInt ≤ 60) (f2_ : Int32) (cf2_ : gi w0 0 19 = f2_) (rf2_ : (-100) ≤ f2_.toInt) (tf2_ : f2_.toInt ≤ 10) (f3_ : Int32) (cf3_ : gi w0 0 22 = f3_) (rf3_ : 0 ≤ f3_.toInt) (tf3_ : f3_.toInt ≤ 400) (f4_ : Int32) (cf4_ : gi w0 3 (f0_.toInt).toNat = f4_) (rf4_ : 0 ≤ f4_.toInt) (tf4_ : f4_.toInt ≤ 400) (pr0_ : 3 * f4_.toInt ≤ 14 * f1_.toInt) (pr1_ : f4_.toInt ≤ 280) (gb gd : Int) (hO : OKW w0 f0_.toInt gb (0))  : Met l yX12_tested wsX12_tested ({ frames := 9, cells := 0, slots := 0, locals := 188 }) (va_Pc [.ref (ad 0)] (wpreS adK adV dC dI cy sz w0)) (va_Qi (P_X12_tested_1 ad cy B qr s1  f0_.toInt gb gd w0) (fun u : va_W => wpost dC dI cy (va_A w0 sz) u) (va_A w0 sz)) 0 0 (va_A w0 sz) := by
  refine Met.ofW (cc := cX12_tested) (maxL := 3) (ret := (some .boolean)) (by decide) rfl ?_
  intro p e s m args below meth c s₁ Bk hml hv
  obtain ⟨rfl, ⟨hsz, hP, hK, hD0⟩, hE, hSR⟩ := hv
  have hx := Bk.exec
  have hb := Bk.bytes
  have hr := Bk.returns
  have hlocks := Bk.notSynchronized
  have hC : CallFix p m c cX12_tested 3 s _ wsX12_tested RX12 := ⟨hx, hb, hml, findClass_of_methodNamed Bk.named, atoms_spec (ws := wsX12_tested) Bk.pre⟩
  subst hsz
  have hD := hD0.self (sz := s.heap.size)
  generalize hAe : va_A w0 s.heap.size = A at hD hE ⊢
  have hA : ∀ q : Nat, s.heap.size ≤ q → A q := fun q h => by rw [← hAe]; exact Or.inr h
  have hw : Wd dC dI A s.heap s.heap [] w0 := ⟨hP, hD, va_S.rf⟩
  have hF : FE ksM [(12, 14, 14), (12, 15, 15), (12, 16, 16), (12, 18, 18), (12, 19, 19), (12, 22, 22), (61, 0, 2400), (62, 0, 7), (68, 0, 400)] w0 w0 := FE.rf
  have hl := lv_entry ([.ref (ad 0)]) (n := 3) (Nat.le_of_ble_eq_true rfl)
  rw [lg_entry_eq]
  generalize (lg_sl ([.ref (ad 0)]) ++ List.replicate (3 - (lg_sl ([.ref (ad 0)])).length) Slot.unset).toArray = ls at hl ⊢
  have hl : lv_has ls 3 [(0, .ref (ad 0))] := hl
  generalize hloc : ([] : List Loc) = locs at hw ⊢
  have hinX12 : ∀ w ∈ u_ws RX12 TX12 42, w ∈ wsX12_tested := fun _ h => List.mem_cons_of_mem _ (List.mem_append_right _ (h))
  have L12 : ∀ (n12 : Nat) (v12_1 : Int32) (f12_0_18 : Int32) (f12_0_19 : Int32) (f12_0_22 : Int32) (f12_3__f0__toInt_toNat : Int32) (H : Heap) (locs : List Loc) (ls : Array Slot) (w1 : va_W), 0 ≤ v12_1.toInt → v12_1.toInt ≤ 1 → 0 ≤ f0_.toInt → f0_.toInt ≤ 5 → 0 ≤ f12_0_18.toInt → f12_0_18.toInt ≤ 60 → (-60) ≤ f12_0_19.toInt → f12_0_19.toInt ≤ 10 → 0 ≤ f12_0_22.toInt → f12_0_22.toInt ≤ 280 → 0 ≤ f12_3__f0__toInt_toNat.toInt → f12_3__f0__toInt_toNat.toInt ≤ 280 → ((binN w1 (f12_0_22.toInt).toNat : Int) = f12_0_22.toInt - f12_0_19.toInt) → (3 * (f12_3__f0__toInt_toNat.toInt + f12_0_22.toInt) ≤ 14 * f12_0_18.toInt) → (f12_0_22.toInt ≤ f12_0_19.toInt + f12_0_18.toInt) → (f12_3__f0__toInt_toNat.toInt ≤ 280) → (f12_0_22.toInt ≤ 280) → (-60 ≤ f12_0_19.toInt) → (60 - f12_0_18.toInt).toNat < n12 → Wd dC dI A s.heap H locs w1 → TW ksM ad cy B qr 12 w1 → FE ksM [(12, 14, 14), (12, 15, 15), (12, 16, 16), (12, 18, 18), (12, 19, 19), (12, 22, 22), (61, 0, 2400), (62, 0, 7), (68, 0, 400)] w0 w1 → OKW w1 f0_.toInt gb (f12_0_22.toInt - f12_0_19.toInt + 1 - v12_1.toInt) → E9 w1 (f12_0_22.toInt) → gi w1 0 17 = f0_ → gi w1 0 18 = f12_0_18 → gi w1 0 19 = f12_0_19 → gi w1 0 22 = f12_0_22 → gi w1 3 (f0_.toInt).toNat = f12_3__f0__toInt_toNat → lv_has ls 3 [(0, .ref (ad 0)), (1, .int v12_1)] → W p l e ({ frames := 9, cells := 0, slots := 0, locals := 188 }) s m (List.toArray [.ref (ad 0)]) below meth c H locs 0 0 (MQ below (va_Qi (P_X12_tested_1 ad cy B qr s1  f0_.toInt gb gd w0) (fun u : va_W => wpost dC dI cy A u) A) (List.toArray [.ref (ad 0)]) s 0 0 A) (F0 m 12 ls []) := by
    intro n12
    induction n12 with
    | zero => intro v12_1 f12_0_18 f12_0_19 f12_0_22 f12_3__f0__toInt_toNat H locs ls w1 r2 t3 r4 t5 r7 t8 r10 t11 r13 t14 r16 t17 hcr12_0 hcr12_1 hcr12_2 hcr12_3 hcr12_4 hcr12_5 hm12 hw hT hF hO hE9 c6 c9 c12 c15 c18 hl; omega
    | succ n12 ih12 =>
      intro v12_1 f12_0_18 f12_0_19 f12_0_22 f12_3__f0__toInt_toNat H locs ls w1 r2 t3 r4 t5 r7 t8 r10 t11 r13 t14 r16 t17 hcr12_0 hcr12_1 hcr12_2 hcr12_3 hcr12_4 hcr12_5 hm12 hw hT hF hO hE9 c6 c9 c12 c15 c18 hl
      have J49 : ∀ (f49_0_1 : Int32) (f49_0_14 : Int32) (f49_0_18 : Int32) (f49_0_19 : Int32) (f49_0_22 : Int32) (f49_3__f0__toInt_toNat : Int32) (H : Heap) (locs : List Loc) (ls : Array Slot) (w19 : va_W), 1 ≤ f49_0_1.toInt → f49_0_1.toInt ≤ 400 → 0 ≤ f49_0_14.toInt → f49_0_14.toInt ≤ 400 → 0 ≤ f0_.toInt → f0_.toInt ≤ 5 → 1 ≤ f49_0_18.toInt → f49_0_18.toInt ≤ 60 → (-60) ≤ f49_0_19.toInt → f49_0_19.toInt ≤ 10 → 0 ≤ f49_0_22.toInt → f49_0_22.toInt ≤ 280 → 0 ≤ f49_3__f0__toInt_toNat.toInt → f49_3__f0__toInt_toNat.toInt ≤ 280 → ((binN w19 (f49_0_22.toInt).toNat : Int) = f49_0_22.toInt - f49_0_19.toInt) → (f12_0_18.toInt + 3 ≤ f49_0_18.toInt) → (3 * (f49_3__f0__toInt_toNat.toInt + f49_0_22.toInt) + 3 ≤ 14 * f49_0_18.toInt) → (f49_0_22.toInt + 3 ≤ f49_0_19.toInt + f49_0_18.toInt) → (f49_3__f0__toInt_toNat.toInt ≤ 280) → (f49_0_22.toInt ≤ 280) → (-60 ≤ f49_0_19.toInt) → Wd dC dI A s.heap H locs w19 → TW ksM ad cy B qr 12 w19 → FE ksM [(12, 14, 14), (12, 15, 15), (12, 16, 16), (12, 18, 18), (12, 19, 19), (12, 22, 22), (61, 0, 2400), (62, 0, 7), (68, 0, 400)] w0 w19 → OKW w19 f0_.toInt gb (f49_0_22.toInt - f49_0_19.toInt + 1) → E9 w19 (f49_0_22.toInt) → gi w19 0 1 = f49_0_1 → gi w19 0 14 = f49_0_14 → gi w19 0 17 = f0_ → gi w19 0 18 = f49_0_18 → gi w19 0 19 = f49_0_19 → gi w19 0 22 = f49_0_22 → gi w19 3 (f0_.toInt).toNat = f49_3__f0__toInt_toNat → lv_has ls 3 [(0, .ref (ad 0)), (1, .int 1)] → W p l e ({ frames := 9, cells := 0, slots := 0, locals := 188 }) s m (List.toArray [.ref (ad 0)]) below meth c H locs 0 0 (MQ below (va_Qi (P_X12_tested_1 ad cy B qr s1  f0_.toInt gb gd w0) (fun u : va_W => wpost dC dI cy A u) A) (List.toArray [.ref (ad 0)]) s 0 0 A) (F0 m 49 ls []) := by
        intro f49_0_1 f49_0_14 f49_0_18 f49_0_19 f49_0_22 f49_3__f0__toInt_toNat H locs ls w19 r20 t21 r23 t24 r26 t27 r29 t30 r32 t33 r35 t36 r38 t39 hcr49_0 hcr49_1 hcr49_2 hcr49_3 hcr49_4 hcr49_5 hcr49_6 hw hT hF hO hE9 c22 c25 c28 c31 c34 c37 c40 hl
        have gl41 := bin_le w19 (f49_0_22.toInt).toNat
        refine lv_iconst (v := 1) hx hb dX12_tested_49 (by decide) ?_
        refine lv_goto (tgt := 54) hx hb dX12_tested_50 (by decide) ?_
        refine lv_istore_n (lv' := [(1, .int 1), (0, .ref (ad 0))]) hx hb dX12_tested_54 rfl hl (by decide) rfl (fun ls hl => ?_)
        refine lv_iload_n hx hb dX12_tested_55 rfl (lv_at hl 0 rfl) ?_
        refine lv_if_eq (tgt := 12) hx hb dX12_tested_56 (by decide) (fun c => absurd c (by decide)) (fun _ => ?_)
        refine lv_aload_n hx hb dX12_tested_59 rfl (lv_at hl 1 rfl) ?_
        refine lv_ldc2 (v := 6385252) hx hb hC.2.2.2.1 (hC.2.2.2.2 _ (List.mem_of_getElem? (i := 3) rfl)) dX12_tested_60 ?_
        refine tk_Vi hC hK hw hT hA hE hSR kM_at0 (by decide) rfl (k_X12_isWord_22 l adK adV dC dI cy ad B (by omega) (by omega) qr s1    w19 H.size hT f49_0_14 c25 (show 0 ≤ f49_0_14.toInt by omega) (show f49_0_14.toInt ≤ 400 by omega)) (cwV 1 hC.2.2.2.2 gX12_tested_X12_isWord rfl rfl rfl (by decide +kernel) ⟨Nat.le_of_ble_eq_true rfl, Nat.le_of_ble_eq_true rfl⟩) rfl hl.1 rfl (Nat.le_of_ble_eq_true rfl) dX12_tested_63 (fun r42 w44 H locs hp43 hw => ?_)
        obtain ⟨hT, k45, hg52⟩ := hp43
        have hO := OKW_FE k45 (fun _ => rfl) (fun _ => rfl) (fun _ => rfl) (fun _ => rfl) hO
        have hE9 := E9_FE k45 (fun _ => rfl) hE9
        have gn53 : binN w44 (f49_0_22.toInt).toNat = binN w19 (f49_0_22.toInt).toNat := bin_FE _ k45 (fun _ => rfl)
        have hF := hF.tr k45 (by decide)
        have c54 := k45.gi kM_at0 (by decide) c22
        have c55 := k45.gi kM_at0 (by decide) c28
        have c56 := k45.gi kM_at0 (by decide) c31
        have c57 := k45.gi kM_at0 (by decide) c34
        have c58 := k45.gi kM_at0 (by decide) c37
        have c59 := k45.gi kM_at3 rfl c40
        rcases hg52 with ⟨rfl, ⟨x46, c47, rx46, tx46⟩, g48⟩ | ⟨rfl, ⟨x49, c50, rx49, tx49⟩, g51⟩
        · have ex46 : x46.toInt = f49_0_1.toInt := by rw [← c54.symm.trans c47]
          obtain ⟨x60, c61, rx60, tx60⟩ := hT.rdi (lo := 0) (hi := 400) (k := 14) kM_at0 (by decide) rfl
          have g48 : (x60.toInt = f49_0_14.toInt ∨ (gi w19 1 (f49_0_14.toInt).toNat).toInt = 32) := by have q := g48; simp only [c28, c55, c25, c61] at q; omega
          refine lv_if_eq (tgt := 74) hx hb dX12_tested_66 (by decide) (fun _ => ?_) (fun c => absurd (by decide) c)
          refine lv_bipush (v := 13) hx hb dX12_tested_74 (by decide) ?_
          refine lv_istore_n (lv' := [(2, .int 13), (1, .int 1), (0, .ref (ad 0))]) hx hb dX12_tested_76 rfl hl (by decide) rfl (fun ls hl => ?_)
          refine lv_aload_n hx hb dX12_tested_77 rfl (lv_at hl 2 rfl) ?_
          refine tk_Vv hC hK hw hT hA hE hSR kM_at0 (by decide) rfl (k_X12_passWord_1 l adK adV dC dI cy ad B (by omega) (by omega) qr s1    w44 H.size hT ) (cwV 0 hC.2.2.2.2 gX12_tested_X12_passWord rfl rfl rfl (by decide +kernel) ⟨Nat.le_of_ble_eq_true rfl, Nat.le_of_ble_eq_true rfl⟩) rfl hl.1 rfl (Nat.le_of_ble_eq_true rfl) dX12_tested_78 (fun w66 H locs hp65 hw => ?_)
          obtain ⟨hT, k67, hg74⟩ := hp65
          have hO := OKW_FE k67 (fun _ => rfl) (fun _ => rfl) (fun _ => rfl) (fun _ => rfl) hO
          have hE9 := E9_FE k67 (fun _ => rfl) hE9
          have gn75 : binN w66 (f49_0_22.toInt).toNat = binN w44 (f49_0_22.toInt).toNat := bin_FE _ k67 (fun _ => rfl)
          have hF := hF.tr k67 (by decide)
          have c76 := k67.gi kM_at0 (by decide) c54
          have c77 := k67.gi kM_at0 (by decide) c55
          have c78 := k67.gi kM_at0 (by decide) c56
          have c79 := k67.gi kM_at0 (by decide) c57
          have c80 := k67.gi kM_at0 (by decide) c58
          have c81 := k67.gi kM_at3 rfl c59
          rcases hg74 with ⟨⟨x68, c69, rx68, tx68⟩, ⟨x70, c71, rx70, tx70⟩⟩ | ⟨x72, c73, rx72, tx72⟩
          · have ex68 : x68.toInt = f49_0_1.toInt := by rw [← c76.symm.trans c69]
            refine lv_aload_n hx hb dX12_tested_81 rfl (lv_at hl 2 rfl) ?_
            refine lv_iload_n hx hb dX12_tested_82 rfl (lv_at hl 0 rfl) ?_
            refine tk_Si hC hK hw hT hA hE hSR (k_X12_strength_3 l adK adV dC dI cy ad B (by omega) (by omega) qr s1    w66 H.size hT ) (va_cwS 1 hC.2.2.2.2 gX12_tested_X12_strength rfl rfl rfl (by decide +kernel) ⟨Nat.le_of_ble_eq_true rfl, Nat.le_of_ble_eq_true rfl⟩) rfl hl.1 rfl (Nat.le_of_ble_eq_true rfl) dX12_tested_83 (fun r82 w84 H locs hp83 hw => ?_)
            obtain ⟨rfl, hg86⟩ := hp83
            obtain rfl := hg86
            refine tk_Vv hC hK hw hT hA hE hSR kM_at0 (by decide) rfl (k_X12_settles_1 l adK adV dC dI cy ad B (by omega) (by omega) qr s1    w66 H.size hT f0_ c77 (show 0 ≤ f0_.toInt by omega) (show f0_.toInt ≤ 5 by omega) f49_0_18 c78 (show 0 ≤ f49_0_18.toInt by omega) (show f49_0_18.toInt ≤ 60 by omega) f49_0_19 c79 (show (-100) ≤ f49_0_19.toInt by omega) (show f49_0_19.toInt ≤ 10 by omega) f49_0_22 c80 (show 0 ≤ f49_0_22.toInt by omega) (show f49_0_22.toInt ≤ 400 by omega) f49_3__f0__toInt_toNat c81 (show 0 ≤ f49_3__f0__toInt_toNat.toInt by omega) (show f49_3__f0__toInt_toNat.toInt ≤ 400 by omega) (show f49_3__f0__toInt_toNat.toInt + f49_0_22.toInt ≤ 390 by omega) (show f49_0_22.toInt ≤ f49_0_19.toInt + f49_0_18.toInt by omega) (show f49_3__f0__toInt_toNat.toInt ≤ 390 by omega) (show f49_0_22.toInt ≤ 390 by omega) (show (binN w66 (f49_0_22.toInt).toNat : Int) = f49_0_22.toInt - f49_0_19.toInt by omega) gb (f49_0_22.toInt - f49_0_19.toInt + 1) (OKW_cast hO (show f49_0_22.toInt - f49_0_19.toInt + 1 = f49_0_22.toInt - f49_0_19.toInt + 1 by omega)) (E9_le hE9 (show f49_0_22.toInt ≤ _ by omega))) (cwV 1 hC.2.2.2.2 gX12_tested_X12_settles rfl rfl rfl (by decide +kernel) ⟨Nat.le_of_ble_eq_true rfl, Nat.le_of_ble_eq_true rfl⟩) rfl hl.1 rfl (Nat.le_of_ble_eq_true rfl) dX12_tested_86 (fun w89 H locs hp88 hw => ?_)
            obtain ⟨hT, k90, hg108⟩ := hp88
            have gn109 : binN w89 (f49_0_22.toInt).toNat = binN w66 (f49_0_22.toInt).toNat := bin_FE _ k90 (fun _ => rfl)
            have hF := hF.tr k90 (by decide)
            have c110 := k90.gi kM_at0 (by decide) c76
            have c111 := k90.gi kM_at0 (by decide) c77
            have c112 := k90.gi kM_at0 (by decide) c78
            have c113 := k90.gi kM_at0 (by decide) c71
            obtain ⟨⟨x91, c92, rx91, tx91⟩, ⟨x93, c94, rx93, tx93⟩, ⟨x95, c96, rx95, tx95⟩, hq97, hq98, hq99, g100, g101, g102, g103, g104, g105, g106, g107⟩ := hg108
            have ex91 : x91.toInt = f0_.toInt := by rw [← c111.symm.trans c92]
            obtain ⟨x114, c115, rx114, tx114⟩ := hT.rda (lo := 0) (hi := 400) (i := (f0_.toInt).toNat) kM_at3 rfl rfl (by omega)
            have g100 : x114.toInt + x95.toInt = f49_3__f0__toInt_toNat.toInt + f49_0_22.toInt := by have q := g100; simp only [c77, c111, c81, c115, c80, c96] at q; omega
            have g101 : x95.toInt ≤ f49_0_22.toInt := by have q := g101; simp only [c77, c111, c80, c96] at q; omega
            have g102 : x95.toInt + f49_0_19.toInt ≤ f49_0_22.toInt + x93.toInt := by have q := g102; simp only [c77, c111, c79, c94, c80, c96] at q; omega
            have g103 : x95.toInt ≤ x93.toInt + f49_0_18.toInt := by have q := g103; simp only [c77, c111, c94, c78, c96] at q; omega
            have g104 : x95.toInt ≤ 390 := by have q := g104; simp only [c77, c111, c96] at q; omega
            have g105 : x114.toInt ≤ 390 := by have q := g105; simp only [c77, c111, c115] at q; omega
            have g106 : brkN w66 (x95.toInt).toNat = brkN w66 (f49_0_22.toInt).toNat := by have q := g106; simp only [c77, c111, c80, c96] at q; omega
            have g107 : (binN w89 (x95.toInt).toNat : Int) = x95.toInt - x93.toInt := by have q := g107; simp only [c77, c111, c94, c96] at q; omega
            have hO : OKW w89 f0_.toInt gb (x95.toInt - x93.toInt + 1) := by have q := hq98; simp only [c94, c96] at q; exact OKW_cast q (by omega)
            have hE9 : E9 w89 (x95.toInt) := by have q := hq99; simp only [c96] at q; exact q
            refine lv_aload_n hx hb dX12_tested_89 rfl (lv_at hl 2 rfl) ?_
            refine tk_getA hC hK hw hT hinX12 kM_at0 (by decide) rfl 21 (by decide) (List.mem_of_getElem? (i := 5) rfl) rfl rfl dX12_tested_90 ?_
            refine lv_aload_n hx hb dX12_tested_93 rfl (lv_at hl 2 rfl) ?_
            refine tk_geti hC hK hw hT hinX12 kM_at0 (by decide) rfl 22 (by decide) (List.mem_of_getElem? (i := 1) rfl) rfl rfl dX12_tested_94 (fun x116 c117 rx116 tx116 => ?_)
            refine wk_top x95 (c117.symm.trans c96) ?_
            refine lv_iload_n hx hb dX12_tested_97 rfl (lv_at hl 0 rfl) ?_
            refine tk_iast hC hK hw hT kM_at9 (by decide) rfl rfl (show 0 ≤ x95.toInt by omega) (show x95.toInt < 400 by omega) (by decide) (by decide) dX12_tested_98 (fun H locs w118 hw hT k120 c119 => ?_)
            have gn121 : binN w118 (x95.toInt).toNat = binN w89 (x95.toInt).toNat := bin_ge _ k120 (show (x95.toInt).toNat ≤ x95.toInt.toNat by omega)
            have gx122 : (gi w118 9 (x95.toInt).toNat).toInt = (13 : Int) := by rw [show gi w118 9 (x95.toInt).toNat = 13 from c119]; decide
            have hO := OKW_F1 k120 (by decide) (by decide) (by decide) (by decide) hO
            have hE9 := E9_put (o := x95.toInt) (o' := x95.toInt + 1) k120 (show ((x95.toInt.toNat : Nat) : Int) = _ by omega) rfl (by rw [c119]; unfold e9; decide) (E9_le hE9 (by omega))
            have hF := hF.put kM_at9 (inE_of (a := 0) (b := 400) (by decide) (show 0 ≤ x95.toInt.toNat by omega) (show x95.toInt.toNat ≤ 400 by omega)) k120
            have c123 := k120.gi (Or.inl (tk_ne kM_at0 kM_at9 (by decide))) c110
            have c124 := k120.gi (Or.inl (tk_ne kM_at0 kM_at9 (by decide))) c111
            have c125 := k120.gi (Or.inl (tk_ne kM_at0 kM_at9 (by decide))) c112
            have c126 := k120.gi (Or.inl (tk_ne kM_at0 kM_at9 (by decide))) c113
            have c127 := k120.gi (Or.inl (tk_ne kM_at0 kM_at9 (by decide))) c94
            have c128 := k120.gi (Or.inl (tk_ne kM_at0 kM_at9 (by decide))) c96
            have c129 := k120.gi (Or.inl (tk_ne kM_at3 kM_at9 (by decide))) c115
            refine lv_aload_n hx hb dX12_tested_99 rfl (lv_at hl 2 rfl) ?_
            refine lv_dup hx hb dX12_tested_100 rfl ?_
            refine tk_geti hC hK hw hT hinX12 kM_at0 (by decide) rfl 22 (by decide) (List.mem_of_getElem? (i := 1) rfl) rfl rfl dX12_tested_101 (fun x130 c131 rx130 tx130 => ?_)
            refine wk_top x95 (c131.symm.trans c128) ?_
            refine lv_iconst (v := 1) hx hb dX12_tested_104 (by decide) ?_
            refine lv_iadd hx hb dX12_tested_105 ?_
            refine lv_topi (fun x132 ex132 => ?_)
            have ex132 : x132.toInt = x95.toInt + (1 : Int) := by rw [ex132]; exact wk_add (show (-2147483648) ≤ x95.toInt + (1 : Int) by omega) (show x95.toInt + (1 : Int) ≤ 2147483647 by omega)
            refine tk_puti hC hK hw hT hinX12 tyX12_ok nmX12 kM_at0 (by decide) rfl rfl 22 (by decide) (List.mem_of_getElem? (i := 1) rfl) rfl rfl rfl rfl (show 0 ≤ x132.toInt by omega) (show x132.toInt ≤ 400 by omega) dX12_tested_106 (fun H locs w133 hw hT k135 c134 => ?_)
            have gn136 : binN w133 (x95.toInt).toNat = binN w118 (x95.toInt).toNat := bin_F1 _ k135 (by decide)
            have gn137 : binN w133 (x132.toInt).toNat = binN w118 (x132.toInt).toNat := bin_F1 _ k135 (by decide)
            have gt138 := bin_top (w := w118) (a := x132.toInt) (b := x95.toInt) (by omega) (by omega)
            have hO := OKW_F1 k135 (by decide) (by decide) (by decide) (by decide) hO
            have hE9 := E9_F1 k135 (by decide) hE9
            have hF := hF.put kM_at0 (k := 22) (by decide) k135
            have c139 := k135.gi (Or.inr (by decide)) c123
            have c140 := k135.gi (Or.inr (by decide)) c124
            have c141 := k135.gi (Or.inr (by decide)) c125
            have c142 := k135.gi (Or.inr (by decide)) c126
            have c143 := k135.gi (Or.inr (by decide)) c127
            have c144 := k135.gi (Or.inl (tk_ne kM_at3 kM_at0 (by decide))) c129
            refine lv_goto (tgt := 12) hx hb dX12_tested_109 (by decide) ?_
            exact ih12 1 f49_0_18 x93 x132 x114 H locs ls w133 (by decide) (by decide) (show 0 ≤ f0_.toInt by omega) (show f0_.toInt ≤ 5 by omega) (show 0 ≤ f49_0_18.toInt by omega) (show f49_0_18.toInt ≤ 60 by omega) (show (-60) ≤ x93.toInt by omega) (show x93.toInt ≤ 10 by omega) (show 0 ≤ x132.toInt by omega) (show x132.toInt ≤ 280 by omega) (show 0 ≤ x114.toInt by omega) (show x114.toInt ≤ 280 by omega) (show (binN w133 (x132.toInt).toNat : Int) = x132.toInt - x93.toInt by omega) (show 3 * (x114.toInt + x132.toInt) ≤ 14 * f49_0_18.toInt by omega) (show x132.toInt ≤ x93.toInt + f49_0_18.toInt by omega) (show x114.toInt ≤ 280 by omega) (show x132.toInt ≤ 280 by omega) (show -60 ≤ x93.toInt by omega) (show (60 - f49_0_18.toInt).toNat < n12 by omega) hw hT hF (OKW_cast hO (show x95.toInt - x93.toInt + 1 = x132.toInt - x93.toInt + 1 - (1 : Int) by omega)) (E9_le hE9 (show x132.toInt ≤ _ by omega)) c140 c141 c143 c134 c144 (lv_sub hl [2, 1] rfl)
          · have ex72 : x72.toInt = f49_0_1.toInt := by rw [← c76.symm.trans c73]
            refine lv_aload_n hx hb dX12_tested_81 rfl (lv_at hl 2 rfl) ?_
            refine lv_iload_n hx hb dX12_tested_82 rfl (lv_at hl 0 rfl) ?_
            refine tk_Si hC hK hw hT hA hE hSR (k_X12_strength_3 l adK adV dC dI cy ad B (by omega) (by omega) qr s1    w66 H.size hT ) (va_cwS 1 hC.2.2.2.2 gX12_tested_X12_strength rfl rfl rfl (by decide +kernel) ⟨Nat.le_of_ble_eq_true rfl, Nat.le_of_ble_eq_true rfl⟩) rfl hl.1 rfl (Nat.le_of_ble_eq_true rfl) dX12_tested_83 (fun r145 w147 H locs hp146 hw => ?_)
            obtain ⟨rfl, hg149⟩ := hp146
            obtain rfl := hg149
            refine tk_Vv hC hK hw hT hA hE hSR kM_at0 (by decide) rfl (k_X12_settles_1 l adK adV dC dI cy ad B (by omega) (by omega) qr s1    w66 H.size hT f0_ c77 (show 0 ≤ f0_.toInt by omega) (show f0_.toInt ≤ 5 by omega) f49_0_18 c78 (show 0 ≤ f49_0_18.toInt by omega) (show f49_0_18.toInt ≤ 60 by omega) f49_0_19 c79 (show (-100) ≤ f49_0_19.toInt by omega) (show f49_0_19.toInt ≤ 10 by omega) f49_0_22 c80 (show 0 ≤ f49_0_22.toInt by omega) (show f49_0_22.toInt ≤ 400 by omega) f49_3__f0__toInt_toNat c81 (show 0 ≤ f49_3__f0__toInt_toNat.toInt by omega) (show f49_3__f0__toInt_toNat.toInt ≤ 400 by omega) (show f49_3__f0__toInt_toNat.toInt + f49_0_22.toInt ≤ 390 by omega) (show f49_0_22.toInt ≤ f49_0_19.toInt + f49_0_18.toInt by omega) (show f49_3__f0__toInt_toNat.toInt ≤ 390 by omega) (show f49_0_22.toInt ≤ 390 by omega) (show (binN w66 (f49_0_22.toInt).toNat : Int) = f49_0_22.toInt - f49_0_19.toInt by omega) gb (f49_0_22.toInt - f49_0_19.toInt + 1) (OKW_cast hO (show f49_0_22.toInt - f49_0_19.toInt + 1 = f49_0_22.toInt - f49_0_19.toInt + 1 by omega)) (E9_le hE9 (show f49_0_22.toInt ≤ _ by omega))) (cwV 1 hC.2.2.2.2 gX12_tested_X12_settles rfl rfl rfl (by decide +kernel) ⟨Nat.le_of_ble_eq_true rfl, Nat.le_of_ble_eq_true rfl⟩) rfl hl.1 rfl (Nat.le_of_ble_eq_true rfl) dX12_tested_86 (fun w152 H locs hp151 hw => ?_)
            obtain ⟨hT, k153, hg171⟩ := hp151
            have gn172 : binN w152 (f49_0_22.toInt).toNat = binN w66 (f49_0_22.toInt).toNat := bin_FE _ k153 (fun _ => rfl)
            have hF := hF.tr k153 (by decide)
            have c173 := k153.gi kM_at0 (by decide) c76
            have c174 := k153.gi kM_at0 (by decide) c77
            have c175 := k153.gi kM_at0 (by decide) c78
            obtain ⟨⟨x154, c155, rx154, tx154⟩, ⟨x156, c157, rx156, tx156⟩, ⟨x158, c159, rx158, tx158⟩, hq160, hq161, hq162, g163, g164, g165, g166, g167, g168, g169, g170⟩ := hg171
            have ex154 : x154.toInt = f0_.toInt := by rw [← c174.symm.trans c155]
            obtain ⟨x176, c177, rx176, tx176⟩ := hT.rda (lo := 0) (hi := 400) (i := (f0_.toInt).toNat) kM_at3 rfl rfl (by omega)
            have g163 : x176.toInt + x158.toInt = f49_3__f0__toInt_toNat.toInt + f49_0_22.toInt := by have q := g163; simp only [c77, c174, c81, c177, c80, c159] at q; omega
            have g164 : x158.toInt ≤ f49_0_22.toInt := by have q := g164; simp only [c77, c174, c80, c159] at q; omega
            have g165 : x158.toInt + f49_0_19.toInt ≤ f49_0_22.toInt + x156.toInt := by have q := g165; simp only [c77, c174, c79, c157, c80, c159] at q; omega
            have g166 : x158.toInt ≤ x156.toInt + f49_0_18.toInt := by have q := g166; simp only [c77, c174, c157, c78, c159] at q; omega
            have g167 : x158.toInt ≤ 390 := by have q := g167; simp only [c77, c174, c159] at q; omega
            have g168 : x176.toInt ≤ 390 := by have q := g168; simp only [c77, c174, c177] at q; omega
            have g169 : brkN w66 (x158.toInt).toNat = brkN w66 (f49_0_22.toInt).toNat := by have q := g169; simp only [c77, c174, c80, c159] at q; omega
            have g170 : (binN w152 (x158.toInt).toNat : Int) = x158.toInt - x156.toInt := by have q := g170; simp only [c77, c174, c157, c159] at q; omega
            have hO : OKW w152 f0_.toInt gb (x158.toInt - x156.toInt + 1) := by have q := hq161; simp only [c157, c159] at q; exact OKW_cast q (by omega)
            have hE9 : E9 w152 (x158.toInt) := by have q := hq162; simp only [c159] at q; exact q
            refine lv_aload_n hx hb dX12_tested_89 rfl (lv_at hl 2 rfl) ?_
            refine tk_getA hC hK hw hT hinX12 kM_at0 (by decide) rfl 21 (by decide) (List.mem_of_getElem? (i := 5) rfl) rfl rfl dX12_tested_90 ?_
            refine lv_aload_n hx hb dX12_tested_93 rfl (lv_at hl 2 rfl) ?_
            refine tk_geti hC hK hw hT hinX12 kM_at0 (by decide) rfl 22 (by decide) (List.mem_of_getElem? (i := 1) rfl) rfl rfl dX12_tested_94 (fun x178 c179 rx178 tx178 => ?_)
            refine wk_top x158 (c179.symm.trans c159) ?_
            refine lv_iload_n hx hb dX12_tested_97 rfl (lv_at hl 0 rfl) ?_
            refine tk_iast hC hK hw hT kM_at9 (by decide) rfl rfl (show 0 ≤ x158.toInt by omega) (show x158.toInt < 400 by omega) (by decide) (by decide) dX12_tested_98 (fun H locs w180 hw hT k182 c181 => ?_)
            have gn183 : binN w180 (x158.toInt).toNat = binN w152 (x158.toInt).toNat := bin_ge _ k182 (show (x158.toInt).toNat ≤ x158.toInt.toNat by omega)
            have gx184 : (gi w180 9 (x158.toInt).toNat).toInt = (13 : Int) := by rw [show gi w180 9 (x158.toInt).toNat = 13 from c181]; decide
            have hO := OKW_F1 k182 (by decide) (by decide) (by decide) (by decide) hO
            have hE9 := E9_put (o := x158.toInt) (o' := x158.toInt + 1) k182 (show ((x158.toInt.toNat : Nat) : Int) = _ by omega) rfl (by rw [c181]; unfold e9; decide) (E9_le hE9 (by omega))
            have hF := hF.put kM_at9 (inE_of (a := 0) (b := 400) (by decide) (show 0 ≤ x158.toInt.toNat by omega) (show x158.toInt.toNat ≤ 400 by omega)) k182
            have c185 := k182.gi (Or.inl (tk_ne kM_at0 kM_at9 (by decide))) c173
            have c186 := k182.gi (Or.inl (tk_ne kM_at0 kM_at9 (by decide))) c174
            have c187 := k182.gi (Or.inl (tk_ne kM_at0 kM_at9 (by decide))) c175
            have c188 := k182.gi (Or.inl (tk_ne kM_at0 kM_at9 (by decide))) c157
            have c189 := k182.gi (Or.inl (tk_ne kM_at0 kM_at9 (by decide))) c159
            have c190 := k182.gi (Or.inl (tk_ne kM_at3 kM_at9 (by decide))) c177
            refine lv_aload_n hx hb dX12_tested_99 rfl (lv_at hl 2 rfl) ?_
            refine lv_dup hx hb dX12_tested_100 rfl ?_
            refine tk_geti hC hK hw hT hinX12 kM_at0 (by decide) rfl 22 (by decide) (List.mem_of_getElem? (i := 1) rfl) rfl rfl dX12_tested_101 (fun x191 c192 rx191 tx191 => ?_)
            refine wk_top x158 (c192.symm.trans c189) ?_
            refine lv_iconst (v := 1) hx hb dX12_tested_104 (by decide) ?_
            refine lv_iadd hx hb dX12_tested_105 ?_
            refine lv_topi (fun x193 ex193 => ?_)
            have ex193 : x193.toInt = x158.toInt + (1 : Int) := by rw [ex193]; exact wk_add (show (-2147483648) ≤ x158.toInt + (1 : Int) by omega) (show x158.toInt + (1 : Int) ≤ 2147483647 by omega)
            refine tk_puti hC hK hw hT hinX12 tyX12_ok nmX12 kM_at0 (by decide) rfl rfl 22 (by decide) (List.mem_of_getElem? (i := 1) rfl) rfl rfl rfl rfl (show 0 ≤ x193.toInt by omega) (show x193.toInt ≤ 400 by omega) dX12_tested_106 (fun H locs w194 hw hT k196 c195 => ?_)
            have gn197 : binN w194 (x158.toInt).toNat = binN w180 (x158.toInt).toNat := bin_F1 _ k196 (by decide)
            have gn198 : binN w194 (x193.toInt).toNat = binN w180 (x193.toInt).toNat := bin_F1 _ k196 (by decide)
            have gt199 := bin_top (w := w180) (a := x193.toInt) (b := x158.toInt) (by omega) (by omega)
            have hO := OKW_F1 k196 (by decide) (by decide) (by decide) (by decide) hO
            have hE9 := E9_F1 k196 (by decide) hE9
            have hF := hF.put kM_at0 (k := 22) (by decide) k196
            have c200 := k196.gi (Or.inr (by decide)) c185
            have c201 := k196.gi (Or.inr (by decide)) c186
            have c202 := k196.gi (Or.inr (by decide)) c187
            have c203 := k196.gi (Or.inr (by decide)) c188
            have c204 := k196.gi (Or.inl (tk_ne kM_at3 kM_at0 (by decide))) c190
            refine lv_goto (tgt := 12) hx hb dX12_tested_109 (by decide) ?_
            exact ih12 1 f49_0_18 x156 x193 x176 H locs ls w194 (by decide) (by decide) (show 0 ≤ f0_.toInt by omega) (show f0_.toInt ≤ 5 by omega) (show 0 ≤ f49_0_18.toInt by omega) (show f49_0_18.toInt ≤ 60 by omega) (show (-60) ≤ x156.toInt by omega) (show x156.toInt ≤ 10 by omega) (show 0 ≤ x193.toInt by omega) (show x193.toInt ≤ 280 by omega) (show 0 ≤ x176.toInt by omega) (show x176.toInt ≤ 280 by omega) (show (binN w194 (x193.toInt).toNat : Int) = x193.toInt - x156.toInt by omega) (show 3 * (x176.toInt + x193.toInt) ≤ 14 * f49_0_18.toInt by omega) (show x193.toInt ≤ x156.toInt + f49_0_18.toInt by omega) (show x176.toInt ≤ 280 by omega) (show x193.toInt ≤ 280 by omega) (show -60 ≤ x156.toInt by omega) (show (60 - f49_0_18.toInt).toNat < n12 by omega) hw hT hF (OKW_cast hO (show x158.toInt - x156.toInt + 1 = x193.toInt - x156.toInt + 1 - (1 : Int) by omega)) (E9_le hE9 (show x193.toInt ≤ _ by omega)) c201 c202 c203 c195 c204 (lv_sub hl [2, 1] rfl)
        · have ex49 : x49.toInt = f49_0_1.toInt := by rw [← c54.symm.trans c50]
          obtain ⟨x62, c63, rx62, tx62⟩ := hT.rdi (lo := 0) (hi := 400) (k := 14) kM_at0 (by decide) rfl
          have g51 : (x62.toInt = f49_0_14.toInt ∨ (gi w19 1 (f49_0_14.toInt).toNat).toInt = 32) := by have q := g51; simp only [c28, c55, c25, c63] at q; omega
          refine lv_if_eq (tgt := 74) hx hb dX12_tested_66 (by decide) (fun c => absurd c (by decide)) (fun _ => ?_)
          refine lv_bipush (v := 12) hx hb dX12_tested_69 (by decide) ?_
          refine lv_goto (tgt := 76) hx hb dX12_tested_71 (by decide) ?_
          refine lv_istore_n (lv' := [(2, .int 12), (1, .int 1), (0, .ref (ad 0))]) hx hb dX12_tested_76 rfl hl (by decide) rfl (fun ls hl => ?_)
          refine lv_aload_n hx hb dX12_tested_77 rfl (lv_at hl 2 rfl) ?_
          refine tk_Vv hC hK hw hT hA hE hSR kM_at0 (by decide) rfl (k_X12_passWord_1 l adK adV dC dI cy ad B (by omega) (by omega) qr s1    w44 H.size hT ) (cwV 0 hC.2.2.2.2 gX12_tested_X12_passWord rfl rfl rfl (by decide +kernel) ⟨Nat.le_of_ble_eq_true rfl, Nat.le_of_ble_eq_true rfl⟩) rfl hl.1 rfl (Nat.le_of_ble_eq_true rfl) dX12_tested_78 (fun w207 H locs hp206 hw => ?_)
          obtain ⟨hT, k208, hg215⟩ := hp206
          have hO := OKW_FE k208 (fun _ => rfl) (fun _ => rfl) (fun _ => rfl) (fun _ => rfl) hO
          have hE9 := E9_FE k208 (fun _ => rfl) hE9
          have gn216 : binN w207 (f49_0_22.toInt).toNat = binN w44 (f49_0_22.toInt).toNat := bin_FE _ k208 (fun _ => rfl)
          have hF := hF.tr k208 (by decide)
          have c217 := k208.gi kM_at0 (by decide) c54
          have c218 := k208.gi kM_at0 (by decide) c55
          have c219 := k208.gi kM_at0 (by decide) c56
          have c220 := k208.gi kM_at0 (by decide) c57
          have c221 := k208.gi kM_at0 (by decide) c58
          have c222 := k208.gi kM_at3 rfl c59
          rcases hg215 with ⟨⟨x209, c210, rx209, tx209⟩, ⟨x211, c212, rx211, tx211⟩⟩ | ⟨x213, c214, rx213, tx213⟩
          · have ex209 : x209.toInt = f49_0_1.toInt := by rw [← c217.symm.trans c210]
            refine lv_aload_n hx hb dX12_tested_81 rfl (lv_at hl 2 rfl) ?_
            refine lv_iload_n hx hb dX12_tested_82 rfl (lv_at hl 0 rfl) ?_
            refine tk_Si hC hK hw hT hA hE hSR (k_X12_strength_2 l adK adV dC dI cy ad B (by omega) (by omega) qr s1    w207 H.size hT ) (va_cwS 1 hC.2.2.2.2 gX12_tested_X12_strength rfl rfl rfl (by decide +kernel) ⟨Nat.le_of_ble_eq_true rfl, Nat.le_of_ble_eq_true rfl⟩) rfl hl.1 rfl (Nat.le_of_ble_eq_true rfl) dX12_tested_83 (fun r223 w225 H locs hp224 hw => ?_)
            obtain ⟨rfl, hg227⟩ := hp224
            obtain rfl := hg227
            refine tk_Vv hC hK hw hT hA hE hSR kM_at0 (by decide) rfl (k_X12_settles_3 l adK adV dC dI cy ad B (by omega) (by omega) qr s1    w207 H.size hT f0_ c218 (show 0 ≤ f0_.toInt by omega) (show f0_.toInt ≤ 5 by omega) f49_0_18 c219 (show 0 ≤ f49_0_18.toInt by omega) (show f49_0_18.toInt ≤ 60 by omega) f49_0_19 c220 (show (-100) ≤ f49_0_19.toInt by omega) (show f49_0_19.toInt ≤ 10 by omega) f49_0_22 c221 (show 0 ≤ f49_0_22.toInt by omega) (show f49_0_22.toInt ≤ 400 by omega) f49_3__f0__toInt_toNat c222 (show 0 ≤ f49_3__f0__toInt_toNat.toInt by omega) (show f49_3__f0__toInt_toNat.toInt ≤ 400 by omega) (show f49_3__f0__toInt_toNat.toInt + f49_0_22.toInt ≤ 390 by omega) (show f49_0_22.toInt ≤ f49_0_19.toInt + f49_0_18.toInt by omega) (show f49_3__f0__toInt_toNat.toInt ≤ 390 by omega) (show f49_0_22.toInt ≤ 390 by omega) (show (binN w207 (f49_0_22.toInt).toNat : Int) = f49_0_22.toInt - f49_0_19.toInt by omega) gb (f49_0_22.toInt - f49_0_19.toInt + 1) (OKW_cast hO (show f49_0_22.toInt - f49_0_19.toInt + 1 = f49_0_22.toInt - f49_0_19.toInt + 1 by omega)) (E9_le hE9 (show f49_0_22.toInt ≤ _ by omega))) (cwV 1 hC.2.2.2.2 gX12_tested_X12_settles rfl rfl rfl (by decide +kernel) ⟨Nat.le_of_ble_eq_true rfl, Nat.le_of_ble_eq_true rfl⟩) rfl hl.1 rfl (Nat.le_of_ble_eq_true rfl) dX12_tested_86 (fun w230 H locs hp229 hw => ?_)
            obtain ⟨hT, k231, hg248⟩ := hp229
            have gn249 : binN w230 (f49_0_22.toInt).toNat = binN w207 (f49_0_22.toInt).toNat := bin_FE _ k231 (fun _ => rfl)
            have hF := hF.tr k231 (by decide)
            have c250 := k231.gi kM_at0 (by decide) c217
            have c251 := k231.gi kM_at0 (by decide) c218
            have c252 := k231.gi kM_at0 (by decide) c219
            have c253 := k231.gi kM_at0 (by decide) c212
            obtain ⟨⟨x232, c233, rx232, tx232⟩, ⟨x234, c235, rx234, tx234⟩, ⟨x236, c237, rx236, tx236⟩, hq238, hq239, g240, g241, g242, g243, g244, g245, g246, g247⟩ := hg248
            have ex232 : x232.toInt = f0_.toInt := by rw [← c251.symm.trans c233]
            obtain ⟨x254, c255, rx254, tx254⟩ := hT.rda (lo := 0) (hi := 400) (i := (f0_.toInt).toNat) kM_at3 rfl rfl (by omega)
            have g240 : x254.toInt + x236.toInt = f49_3__f0__toInt_toNat.toInt + f49_0_22.toInt := by have q := g240; simp only [c218, c251, c222, c255, c221, c237] at q; omega
            have g241 : x236.toInt ≤ f49_0_22.toInt := by have q := g241; simp only [c218, c251, c221, c237] at q; omega
            have g242 : x236.toInt + f49_0_19.toInt ≤ f49_0_22.toInt + x234.toInt := by have q := g242; simp only [c218, c251, c220, c235, c221, c237] at q; omega
            have g243 : x236.toInt ≤ x234.toInt + f49_0_18.toInt := by have q := g243; simp only [c218, c251, c235, c219, c237] at q; omega
            have g244 : x236.toInt ≤ 390 := by have q := g244; simp only [c218, c251, c237] at q; omega
            have g245 : x254.toInt ≤ 390 := by have q := g245; simp only [c218, c251, c255] at q; omega
            have g246 : brkN w207 (x236.toInt).toNat = brkN w207 (f49_0_22.toInt).toNat := by have q := g246; simp only [c218, c251, c221, c237] at q; omega
            have g247 : (binN w230 (x236.toInt).toNat : Int) = x236.toInt - x234.toInt := by have q := g247; simp only [c218, c251, c235, c237] at q; omega
            have hO : OKW w230 f0_.toInt gb (x236.toInt - x234.toInt + 1) := by have q := hq238; simp only [c235, c237] at q; exact OKW_cast q (by omega)
            have hE9 : E9 w230 (x236.toInt) := by have q := hq239; simp only [c237] at q; exact q
            refine lv_aload_n hx hb dX12_tested_89 rfl (lv_at hl 2 rfl) ?_
            refine tk_getA hC hK hw hT hinX12 kM_at0 (by decide) rfl 21 (by decide) (List.mem_of_getElem? (i := 5) rfl) rfl rfl dX12_tested_90 ?_
            refine lv_aload_n hx hb dX12_tested_93 rfl (lv_at hl 2 rfl) ?_
            refine tk_geti hC hK hw hT hinX12 kM_at0 (by decide) rfl 22 (by decide) (List.mem_of_getElem? (i := 1) rfl) rfl rfl dX12_tested_94 (fun x256 c257 rx256 tx256 => ?_)
            refine wk_top x236 (c257.symm.trans c237) ?_
            refine lv_iload_n hx hb dX12_tested_97 rfl (lv_at hl 0 rfl) ?_
            refine tk_iast hC hK hw hT kM_at9 (by decide) rfl rfl (show 0 ≤ x236.toInt by omega) (show x236.toInt < 400 by omega) (by decide) (by decide) dX12_tested_98 (fun H locs w258 hw hT k260 c259 => ?_)
            have gn261 : binN w258 (x236.toInt).toNat = binN w230 (x236.toInt).toNat := bin_ge _ k260 (show (x236.toInt).toNat ≤ x236.toInt.toNat by omega)
            have gx262 : (gi w258 9 (x236.toInt).toNat).toInt = (12 : Int) := by rw [show gi w258 9 (x236.toInt).toNat = 12 from c259]; decide
            have hO := OKW_F1 k260 (by decide) (by decide) (by decide) (by decide) hO
            have hE9 := E9_put (o := x236.toInt) (o' := x236.toInt + 1) k260 (show ((x236.toInt.toNat : Nat) : Int) = _ by omega) rfl (by rw [c259]; unfold e9; decide) (E9_le hE9 (by omega))
            have hF := hF.put kM_at9 (inE_of (a := 0) (b := 400) (by decide) (show 0 ≤ x236.toInt.toNat by omega) (show x236.toInt.toNat ≤ 400 by omega)) k260
            have c263 := k260.gi (Or.inl (tk_ne kM_at0 kM_at9 (by decide))) c250
            have c264 := k260.gi (Or.inl (tk_ne kM_at0 kM_at9 (by decide))) c251
            have c265 := k260.gi (Or.inl (tk_ne kM_at0 kM_at9 (by decide))) c252
            have c266 := k260.gi (Or.inl (tk_ne kM_at0 kM_at9 (by decide))) c253
            have c267 := k260.gi (Or.inl (tk_ne kM_at0 kM_at9 (by decide))) c235
            have c268 := k260.gi (Or.inl (tk_ne kM_at0 kM_at9 (by decide))) c237
            have c269 := k260.gi (Or.inl (tk_ne kM_at3 kM_at9 (by decide))) c255
            refine lv_aload_n hx hb dX12_tested_99 rfl (lv_at hl 2 rfl) ?_
            refine lv_dup hx hb dX12_tested_100 rfl ?_
            refine tk_geti hC hK hw hT hinX12 kM_at0 (by decide) rfl 22 (by decide) (List.mem_of_getElem? (i := 1) rfl) rfl rfl dX12_tested_101 (fun x270 c271 rx270 tx270 => ?_)
            refine wk_top x236 (c271.symm.trans c268) ?_
            refine lv_iconst (v := 1) hx hb dX12_tested_104 (by decide) ?_
            refine lv_iadd hx hb dX12_tested_105 ?_
            refine lv_topi (fun x272 ex272 => ?_)
            have ex272 : x272.toInt = x236.toInt + (1 : Int) := by rw [ex272]; exact wk_add (show (-2147483648) ≤ x236.toInt + (1 : Int) by omega) (show x236.toInt + (1 : Int) ≤ 2147483647 by omega)
            refine tk_puti hC hK hw hT hinX12 tyX12_ok nmX12 kM_at0 (by decide) rfl rfl 22 (by decide) (List.mem_of_getElem? (i := 1) rfl) rfl rfl rfl rfl (show 0 ≤ x272.toInt by omega) (show x272.toInt ≤ 400 by omega) dX12_tested_106 (fun H locs w273 hw hT k275 c274 => ?_)
            have gn276 : binN w273 (x236.toInt).toNat = binN w258 (x236.toInt).toNat := bin_F1 _ k275 (by decide)
            have gn277 : binN w273 (x272.toInt).toNat = binN w258 (x272.toInt).toNat := bin_F1 _ k275 (by decide)
            have gt278 := bin_top (w := w258) (a := x272.toInt) (b := x236.toInt) (by omega) (by omega)
            have hO := OKW_F1 k275 (by decide) (by decide) (by decide) (by decide) hO
            have hE9 := E9_F1 k275 (by decide) hE9
            have hF := hF.put kM_at0 (k := 22) (by decide) k275
            have c279 := k275.gi (Or.inr (by decide)) c263
            have c280 := k275.gi (Or.inr (by decide)) c264
            have c281 := k275.gi (Or.inr (by decide)) c265
            have c282 := k275.gi (Or.inr (by decide)) c266
            have c283 := k275.gi (Or.inr (by decide)) c267
            have c284 := k275.gi (Or.inl (tk_ne kM_at3 kM_at0 (by decide))) c269
            refine lv_goto (tgt := 12) hx hb dX12_tested_109 (by decide) ?_
            exact ih12 1 f49_0_18 x234 x272 x254 H locs ls w273 (by decide) (by decide) (show 0 ≤ f0_.toInt by omega) (show f0_.toInt ≤ 5 by omega) (show 0 ≤ f49_0_18.toInt by omega) (show f49_0_18.toInt ≤ 60 by omega) (show (-60) ≤ x234.toInt by omega) (show x234.toInt ≤ 10 by omega) (show 0 ≤ x272.toInt by omega) (show x272.toInt ≤ 280 by omega) (show 0 ≤ x254.toInt by omega) (show x254.toInt ≤ 280 by omega) (show (binN w273 (x272.toInt).toNat : Int) = x272.toInt - x234.toInt by omega) (show 3 * (x254.toInt + x272.toInt) ≤ 14 * f49_0_18.toInt by omega) (show x272.toInt ≤ x234.toInt + f49_0_18.toInt by omega) (show x254.toInt ≤ 280 by omega) (show x272.toInt ≤ 280 by omega) (show -60 ≤ x234.toInt by omega) (show (60 - f49_0_18.toInt).toNat < n12 by omega) hw hT hF (OKW_cast hO (show x236.toInt - x234.toInt + 1 = x272.toInt - x234.toInt + 1 - (1 : Int) by omega)) (E9_le hE9 (show x272.toInt ≤ _ by omega)) c280 c281 c283 c274 c284 (lv_sub hl [2, 1] rfl)
          · have ex213 : x213.toInt = f49_0_1.toInt := by rw [← c217.symm.trans c214]
            refine lv_aload_n hx hb dX12_tested_81 rfl (lv_at hl 2 rfl) ?_
            refine lv_iload_n hx hb dX12_tested_82 rfl (lv_at hl 0 rfl) ?_
            refine tk_Si hC hK hw hT hA hE hSR (k_X12_strength_2 l adK adV dC dI cy ad B (by omega) (by omega) qr s1    w207 H.size hT ) (va_cwS 1 hC.2.2.2.2 gX12_tested_X12_strength rfl rfl rfl (by decide +kernel) ⟨Nat.le_of_ble_eq_true rfl, Nat.le_of_ble_eq_true rfl⟩) rfl hl.1 rfl (Nat.le_of_ble_eq_true rfl) dX12_tested_83 (fun r285 w287 H locs hp286 hw => ?_)
            obtain ⟨rfl, hg289⟩ := hp286
            obtain rfl := hg289
            refine tk_Vv hC hK hw hT hA hE hSR kM_at0 (by decide) rfl (k_X12_settles_3 l adK adV dC dI cy ad B (by omega) (by omega) qr s1    w207 H.size hT f0_ c218 (show 0 ≤ f0_.toInt by omega) (show f0_.toInt ≤ 5 by omega) f49_0_18 c219 (show 0 ≤ f49_0_18.toInt by omega) (show f49_0_18.toInt ≤ 60 by omega) f49_0_19 c220 (show (-100) ≤ f49_0_19.toInt by omega) (show f49_0_19.toInt ≤ 10 by omega) f49_0_22 c221 (show 0 ≤ f49_0_22.toInt by omega) (show f49_0_22.toInt ≤ 400 by omega) f49_3__f0__toInt_toNat c222 (show 0 ≤ f49_3__f0__toInt_toNat.toInt by omega) (show f49_3__f0__toInt_toNat.toInt ≤ 400 by omega) (show f49_3__f0__toInt_toNat.toInt + f49_0_22.toInt ≤ 390 by omega) (show f49_0_22.toInt ≤ f49_0_19.toInt + f49_0_18.toInt by omega) (show f49_3__f0__toInt_toNat.toInt ≤ 390 by omega) (show f49_0_22.toInt ≤ 390 by omega) (show (binN w207 (f49_0_22.toInt).toNat : Int) = f49_0_22.toInt - f49_0_19.toInt by omega) gb (f49_0_22.toInt - f49_0_19.toInt + 1) (OKW_cast hO (show f49_0_22.toInt - f49_0_19.toInt + 1 = f49_0_22.toInt - f49_0_19.toInt + 1 by omega)) (E9_le hE9 (show f49_0_22.toInt ≤ _ by omega))) (cwV 1 hC.2.2.2.2 gX12_tested_X12_settles rfl rfl rfl (by decide +kernel) ⟨Nat.le_of_ble_eq_true rfl, Nat.le_of_ble_eq_true rfl⟩) rfl hl.1 rfl (Nat.le_of_ble_eq_true rfl) dX12_tested_86 (fun w292 H locs hp291 hw => ?_)
            obtain ⟨hT, k293, hg310⟩ := hp291
            have gn311 : binN w292 (f49_0_22.toInt).toNat = binN w207 (f49_0_22.toInt).toNat := bin_FE _ k293 (fun _ => rfl)
            have hF := hF.tr k293 (by decide)
            have c312 := k293.gi kM_at0 (by decide) c217
            have c313 := k293.gi kM_at0 (by decide) c218
            have c314 := k293.gi kM_at0 (by decide) c219
            obtain ⟨⟨x294, c295, rx294, tx294⟩, ⟨x296, c297, rx296, tx296⟩, ⟨x298, c299, rx298, tx298⟩, hq300, hq301, g302, g303, g304, g305, g306, g307, g308, g309⟩ := hg310
            have ex294 : x294.toInt = f0_.toInt := by rw [← c313.symm.trans c295]
            obtain ⟨x315, c316, rx315, tx315⟩ := hT.rda (lo := 0) (hi := 400) (i := (f0_.toInt).toNat) kM_at3 rfl rfl (by omega)
            have g302 : x315.toInt + x298.toInt = f49_3__f0__toInt_toNat.toInt + f49_0_22.toInt := by have q := g302; simp only [c218, c313, c222, c316, c221, c299] at q; omega
            have g303 : x298.toInt ≤ f49_0_22.toInt := by have q := g303; simp only [c218, c313, c221, c299] at q; omega
            have g304 : x298.toInt + f49_0_19.toInt ≤ f49_0_22.toInt + x296.toInt := by have q := g304; simp only [c218, c313, c220, c297, c221, c299] at q; omega
            have g305 : x298.toInt ≤ x296.toInt + f49_0_18.toInt := by have q := g305; simp only [c218, c313, c297, c219, c299] at q; omega
            have g306 : x298.toInt ≤ 390 := by have q := g306; simp only [c218, c313, c299] at q; omega
            have g307 : x315.toInt ≤ 390 := by have q := g307; simp only [c218, c313, c316] at q; omega
            have g308 : brkN w207 (x298.toInt).toNat = brkN w207 (f49_0_22.toInt).toNat := by have q := g308; simp only [c218, c313, c221, c299] at q; omega
            have g309 : (binN w292 (x298.toInt).toNat : Int) = x298.toInt - x296.toInt := by have q := g309; simp only [c218, c313, c297, c299] at q; omega
            have hO : OKW w292 f0_.toInt gb (x298.toInt - x296.toInt + 1) := by have q := hq300; simp only [c297, c299] at q; exact OKW_cast q (by omega)
            have hE9 : E9 w292 (x298.toInt) := by have q := hq301; simp only [c299] at q; exact q
            refine lv_aload_n hx hb dX12_tested_89 rfl (lv_at hl 2 rfl) ?_
            refine tk_getA hC hK hw hT hinX12 kM_at0 (by decide) rfl 21 (by decide) (List.mem_of_getElem? (i := 5) rfl) rfl rfl dX12_tested_90 ?_
            refine lv_aload_n hx hb dX12_tested_93 rfl (lv_at hl 2 rfl) ?_
            refine tk_geti hC hK hw hT hinX12 kM_at0 (by decide) rfl 22 (by decide) (List.mem_of_getElem? (i := 1) rfl) rfl rfl dX12_tested_94 (fun x317 c318 rx317 tx317 => ?_)
            refine wk_top x298 (c318.symm.trans c299) ?_
            refine lv_iload_n hx hb dX12_tested_97 rfl (lv_at hl 0 rfl) ?_
            refine tk_iast hC hK hw hT kM_at9 (by decide) rfl rfl (show 0 ≤ x298.toInt by omega) (show x298.toInt < 400 by omega) (by decide) (by decide) dX12_tested_98 (fun H locs w319 hw hT k321 c320 => ?_)
            have gn322 : binN w319 (x298.toInt).toNat = binN w292 (x298.toInt).toNat := bin_ge _ k321 (show (x298.toInt).toNat ≤ x298.toInt.toNat by omega)
            have gx323 : (gi w319 9 (x298.toInt).toNat).toInt = (12 : Int) := by rw [show gi w319 9 (x298.toInt).toNat = 12 from c320]; decide
            have hO := OKW_F1 k321 (by decide) (by decide) (by decide) (by decide) hO
            have hE9 := E9_put (o := x298.toInt) (o' := x298.toInt + 1) k321 (show ((x298.toInt.toNat : Nat) : Int) = _ by omega) rfl (by rw [c320]; unfold e9; decide) (E9_le hE9 (by omega))
            have hF := hF.put kM_at9 (inE_of (a := 0) (b := 400) (by decide) (show 0 ≤ x298.toInt.toNat by omega) (show x298.toInt.toNat ≤ 400 by omega)) k321
            have c324 := k321.gi (Or.inl (tk_ne kM_at0 kM_at9 (by decide))) c312
            have c325 := k321.gi (Or.inl (tk_ne kM_at0 kM_at9 (by decide))) c313
            have c326 := k321.gi (Or.inl (tk_ne kM_at0 kM_at9 (by decide))) c314
            have c327 := k321.gi (Or.inl (tk_ne kM_at0 kM_at9 (by decide))) c297
            have c328 := k321.gi (Or.inl (tk_ne kM_at0 kM_at9 (by decide))) c299
            have c329 := k321.gi (Or.inl (tk_ne kM_at3 kM_at9 (by decide))) c316
            refine lv_aload_n hx hb dX12_tested_99 rfl (lv_at hl 2 rfl) ?_
            refine lv_dup hx hb dX12_tested_100 rfl ?_
            refine tk_geti hC hK hw hT hinX12 kM_at0 (by decide) rfl 22 (by decide) (List.mem_of_getElem? (i := 1) rfl) rfl rfl dX12_tested_101 (fun x330 c331 rx330 tx330 => ?_)
            refine wk_top x298 (c331.symm.trans c328) ?_
            refine lv_iconst (v := 1) hx hb dX12_tested_104 (by decide) ?_
            refine lv_iadd hx hb dX12_tested_105 ?_
            refine lv_topi (fun x332 ex332 => ?_)
            have ex332 : x332.toInt = x298.toInt + (1 : Int) := by rw [ex332]; exact wk_add (show (-2147483648) ≤ x298.toInt + (1 : Int) by omega) (show x298.toInt + (1 : Int) ≤ 2147483647 by omega)
            refine tk_puti hC hK hw hT hinX12 tyX12_ok nmX12 kM_at0 (by decide) rfl rfl 22 (by decide) (List.mem_of_getElem? (i := 1) rfl) rfl rfl rfl rfl (show 0 ≤ x332.toInt by omega) (show x332.toInt ≤ 400 by omega) dX12_tested_106 (fun H locs w333 hw hT k335 c334 => ?_)
            have gn336 : binN w333 (x298.toInt).toNat = binN w319 (x298.toInt).toNat := bin_F1 _ k335 (by decide)
            have gn337 : binN w333 (x332.toInt).toNat = binN w319 (x332.toInt).toNat := bin_F1 _ k335 (by decide)
            have gt338 := bin_top (w := w319) (a := x332.toInt) (b := x298.toInt) (by omega) (by omega)
            have hO := OKW_F1 k335 (by decide) (by decide) (by decide) (by decide) hO
            have hE9 := E9_F1 k335 (by decide) hE9
            have hF := hF.put kM_at0 (k := 22) (by decide) k335
            have c339 := k335.gi (Or.inr (by decide)) c324
            have c340 := k335.gi (Or.inr (by decide)) c325
            have c341 := k335.gi (Or.inr (by decide)) c326
            have c342 := k335.gi (Or.inr (by decide)) c327
            have c343 := k335.gi (Or.inl (tk_ne kM_at3 kM_at0 (by decide))) c329
            refine lv_goto (tgt := 12) hx hb dX12_tested_109 (by decide) ?_
            exact ih12 1 f49_0_18 x296 x332 x315 H locs ls w333 (by decide) (by decide) (show 0 ≤ f0_.toInt by omega) (show f0_.toInt ≤ 5 by omega) (show 0 ≤ f49_0_18.toInt by omega) (show f49_0_18.toInt ≤ 60 by omega) (show (-60) ≤ x296.toInt by omega) (show x296.toInt ≤ 10 by omega) (show 0 ≤ x332.toInt by omega) (show x332.toInt ≤ 280 by omega) (show 0 ≤ x315.toInt by omega) (show x315.toInt ≤ 280 by omega) (show (binN w333 (x332.toInt).toNat : Int) = x332.toInt - x296.toInt by omega) (show 3 * (x315.toInt + x332.toInt) ≤ 14 * f49_0_18.toInt by omega) (show x332.toInt ≤ x296.toInt + f49_0_18.toInt by omega) (show x315.toInt ≤ 280 by omega) (show x332.toInt ≤ 280 by omega) (show -60 ≤ x296.toInt by omega) (show (60 - f49_0_18.toInt).toNat < n12 by omega) hw hT hF (OKW_cast hO (show x298.toInt - x296.toInt + 1 = x332.toInt - x296.toInt + 1 - (1 : Int) by omega)) (E9_le hE9 (show x332.toInt ≤ _ by omega)) c340 c341 c342 c334 c343 (lv_sub hl [2, 1] rfl)
      have gl344 := bin_le w1 (f12_0_22.toInt).toNat
      refine lv_iload_n hx hb dX12_tested_12 rfl (lv_at hl 1 rfl) ?_
      refine lv_if_eq (tgt := 112) hx hb dX12_tested_13 (by decide) (fun c345 => ?_) (fun c345 => ?_)
      · have c345 : v12_1.toInt = (0 : Int) := wk_eq.mp c345
        refine lv_aload_n hx hb dX12_tested_112 rfl (lv_at hl 0 rfl) ?_
        refine tk_Vi hC hK hw hT hA hE hSR kM_at0 (by decide) rfl (k_X12_isInside_1 l adK adV dC dI cy ad B (by omega) (by omega) qr s1    w1 H.size hT ) (cwV 0 hC.2.2.2.2 gX12_tested_X12_isInside rfl rfl rfl (by decide +kernel) ⟨Nat.le_of_ble_eq_true rfl, Nat.le_of_ble_eq_true rfl⟩) rfl hl.1 rfl (Nat.le_of_ble_eq_true rfl) dX12_tested_113 (fun r346 w348 H locs hp347 hw => ?_)
        obtain ⟨rfl, hg354⟩ := hp347
        rcases hg354 with ⟨rfl, hq350⟩ | ⟨rfl, ⟨x351, c352, rx351, tx351⟩, hq353⟩
        · refine lv_if_eq (tgt := 134) hx hb dX12_tested_116 (by decide) (fun _ => ?_) (fun c => absurd (by decide) c)
          refine lv_aload_n hx hb dX12_tested_134 rfl (lv_at hl 0 rfl) ?_
          refine lv_iconst (v := 1) hx hb dX12_tested_135 (by decide) ?_
          refine tk_Vv hC hK hw hT hA hE hSR kM_at0 (by decide) rfl (k_X12_settles_1 l adK adV dC dI cy ad B (by omega) (by omega) qr s1    w1 H.size hT f0_ c6 (show 0 ≤ f0_.toInt by omega) (show f0_.toInt ≤ 5 by omega) f12_0_18 c9 (show 0 ≤ f12_0_18.toInt by omega) (show f12_0_18.toInt ≤ 60 by omega) f12_0_19 c12 (show (-100) ≤ f12_0_19.toInt by omega) (show f12_0_19.toInt ≤ 10 by omega) f12_0_22 c15 (show 0 ≤ f12_0_22.toInt by omega) (show f12_0_22.toInt ≤ 400 by omega) f12_3__f0__toInt_toNat c18 (show 0 ≤ f12_3__f0__toInt_toNat.toInt by omega) (show f12_3__f0__toInt_toNat.toInt ≤ 400 by omega) (show f12_3__f0__toInt_toNat.toInt + f12_0_22.toInt ≤ 390 by omega) (show f12_0_22.toInt ≤ f12_0_19.toInt + f12_0_18.toInt by omega) (show f12_3__f0__toInt_toNat.toInt ≤ 390 by omega) (show f12_0_22.toInt ≤ 390 by omega) (show (binN w1 (f12_0_22.toInt).toNat : Int) = f12_0_22.toInt - f12_0_19.toInt by omega) gb (f12_0_22.toInt - f12_0_19.toInt + 1 - v12_1.toInt) (OKW_cast hO (show f12_0_22.toInt - f12_0_19.toInt + 1 - v12_1.toInt = f12_0_22.toInt - f12_0_19.toInt + 1 by omega)) (E9_le hE9 (show f12_0_22.toInt ≤ _ by omega))) (cwV 1 hC.2.2.2.2 gX12_tested_X12_settles rfl rfl rfl (by decide +kernel) ⟨Nat.le_of_ble_eq_true rfl, Nat.le_of_ble_eq_true rfl⟩) rfl hl.1 rfl (Nat.le_of_ble_eq_true rfl) dX12_tested_136 (fun w357 H locs hp356 hw => ?_)
          obtain ⟨hT, k358, hg376⟩ := hp356
          have gn377 : binN w357 (f12_0_22.toInt).toNat = binN w1 (f12_0_22.toInt).toNat := bin_FE _ k358 (fun _ => rfl)
          have hF := hF.tr k358 (by decide)
          have c378 := k358.gi kM_at0 (by decide) c6
          have c379 := k358.gi kM_at0 (by decide) c9
          obtain ⟨⟨x359, c360, rx359, tx359⟩, ⟨x361, c362, rx361, tx361⟩, ⟨x363, c364, rx363, tx363⟩, hq365, hq366, hq367, g368, g369, g370, g371, g372, g373, g374, g375⟩ := hg376
          have ex359 : x359.toInt = f0_.toInt := by rw [← c378.symm.trans c360]
          obtain ⟨x380, c381, rx380, tx380⟩ := hT.rda (lo := 0) (hi := 400) (i := (f0_.toInt).toNat) kM_at3 rfl rfl (by omega)
          have g368 : x380.toInt + x363.toInt = f12_3__f0__toInt_toNat.toInt + f12_0_22.toInt := by have q := g368; simp only [c6, c378, c18, c381, c15, c364] at q; omega
          have g369 : x363.toInt ≤ f12_0_22.toInt := by have q := g369; simp only [c6, c378, c15, c364] at q; omega
          have g370 : x363.toInt + f12_0_19.toInt ≤ f12_0_22.toInt + x361.toInt := by have q := g370; simp only [c6, c378, c12, c362, c15, c364] at q; omega
          have g371 : x363.toInt ≤ x361.toInt + f12_0_18.toInt := by have q := g371; simp only [c6, c378, c362, c9, c364] at q; omega
          have g372 : x363.toInt ≤ 390 := by have q := g372; simp only [c6, c378, c364] at q; omega
          have g373 : x380.toInt ≤ 390 := by have q := g373; simp only [c6, c378, c381] at q; omega
          have g374 : brkN w1 (x363.toInt).toNat = brkN w1 (f12_0_22.toInt).toNat := by have q := g374; simp only [c6, c378, c15, c364] at q; omega
          have g375 : (binN w357 (x363.toInt).toNat : Int) = x363.toInt - x361.toInt := by have q := g375; simp only [c6, c378, c362, c364] at q; omega
          have hO : OKW w357 f0_.toInt gb (x363.toInt - x361.toInt + 1) := by have q := hq366; simp only [c362, c364] at q; exact OKW_cast q (by omega)
          have hE9 : E9 w357 (x363.toInt) := by have q := hq367; simp only [c364] at q; exact q
          have hz382 : ∀ k : Int, 0 ≤ k → k < x363.toInt → ¬ (gi w357 9 k.toNat).toInt = 91 := fun k h0 h1 => by rw [show gi w357 9 k.toNat = gi w1 9 k.toNat from k358.gi kM_at9 rfl rfl]; exact hq350 k h0 (by rw [c15]; omega)
          have hz383 := hq365
          rw [c364] at hz383
          have hz384 := E9_end hE9 (by omega) hz382 hz383
          have gz385 : binN w357 (x363.toInt).toNat = 0 := by rw [hz384]; rfl
          refine lv_iconst (v := 1) hx hb dX12_tested_139 (by decide) ?_
          exact tk_zret hC hr rfl hlocks hK ⟨hT, hF, (Or.inr (Or.inr ⟨rfl, ⟨f0_, c378, (show 0 ≤ f0_.toInt by omega), (show f0_.toInt ≤ 5 by omega)⟩, ⟨x361, c362, (show (-60) ≤ x361.toInt by omega), (show x361.toInt ≤ 10 by omega)⟩, ⟨x363, c364, (show 0 ≤ x363.toInt by omega), (show x363.toInt ≤ 390 by omega)⟩, (OKW_cast hO (by omega)), (by simp only [c378, cf0_, c381, c379]; omega)⟩))⟩ hw dX12_tested_140
        · have ex351 : x351.toInt = f12_0_22.toInt := by rw [← c15.symm.trans c352]
          refine lv_if_eq (tgt := 134) hx hb dX12_tested_116 (by decide) (fun c => absurd c (by decide)) (fun _ => ?_)
          refine lv_aload_n hx hb dX12_tested_119 rfl (lv_at hl 0 rfl) ?_
          obtain ⟨x386, c387, rx386, tx386⟩ := hT.rdi (lo := 0) (hi := 400) (k := 14) kM_at0 (by decide) rfl
          refine tk_Vi hC hK hw hT hA hE hSR kM_at0 (by decide) rfl (k_X12_see_1 l adK adV dC dI cy ad B (by omega) (by omega) qr s1    w1 H.size hT x386 c387 (show 0 ≤ x386.toInt by omega) (show x386.toInt ≤ 400 by omega)) (cwV 0 hC.2.2.2.2 gX12_tested_X12_see rfl rfl rfl (by decide +kernel) ⟨Nat.le_of_ble_eq_true rfl, Nat.le_of_ble_eq_true rfl⟩) rfl hl.1 rfl (Nat.le_of_ble_eq_true rfl) dX12_tested_120 (fun r388 w390 H locs hp389 hw => ?_)
          obtain ⟨hT, k391, hg408⟩ := hp389
          have hO := OKW_FE k391 (fun _ => rfl) (fun _ => rfl) (fun _ => rfl) (fun _ => rfl) hO
          have hE9 := E9_FE k391 (fun _ => rfl) hE9
          have gn409 : binN w390 (f12_0_22.toInt).toNat = binN w1 (f12_0_22.toInt).toNat := bin_FE _ k391 (fun _ => rfl)
          have hF := hF.tr k391 (by decide)
          have c410 := k391.gi kM_at0 (by decide) c6
          have c411 := k391.gi kM_at0 (by decide) c9
          have c412 := k391.gi kM_at0 (by decide) c12
          have c413 := k391.gi kM_at0 (by decide) c15
          have c414 := k391.gi kM_at3 rfl c18
          rcases hg408 with ⟨g392, g393, ⟨x394, c395, rx394, tx394⟩, ⟨x396, c397, rx396, tx396⟩, g398, g399⟩ | ⟨rfl, ⟨x400, c401, rx400, tx400⟩, ⟨x402, c403, rx402, tx402⟩, g404⟩ | ⟨rfl, ⟨x405, c406, rx405, tx405⟩, g407⟩
          · have g398 : (gi w390 1 (x396.toInt).toNat).toInt ≠ 32 := by have q := g398; simp only [c6, c410, c397] at q; omega
            have g399 : (x396.toInt = x386.toInt ∨ (gi w1 1 (x386.toInt).toNat).toInt = 32) := by have q := g399; simp only [c6, c410, c387, c397] at q; omega
            refine lv_pop hx hb dX12_tested_123 rfl ?_
            refine lv_aload_n hx hb dX12_tested_124 rfl (lv_at hl 0 rfl) ?_
            refine lv_iconst (v := 0) hx hb dX12_tested_125 (by decide) ?_
            refine lv_aload_n hx hb dX12_tested_126 rfl (lv_at hl 0 rfl) ?_
            refine tk_geti hC hK hw hT hinX12 kM_at0 (by decide) rfl 14 (by decide) (List.mem_of_getElem? (i := 6) rfl) rfl rfl dX12_tested_127 (fun x417 c418 rx417 tx417 => ?_)
            refine wk_top x396 (c418.symm.trans c397) ?_
            refine tk_Vi hC hK hw hT hA hE hSR kM_at0 (by decide) rfl (k_X12_fails_1 l adK adV dC dI cy ad B (by omega) (by omega) qr s1   0 (by decide) (by decide) x396 (show 0 ≤ x396.toInt by omega) (show x396.toInt ≤ 400 by omega) w390 H.size hT ) (cwV 2 hC.2.2.2.2 gX12_tested_X12_fails rfl rfl rfl (by decide +kernel) ⟨Nat.le_of_ble_eq_true rfl, Nat.le_of_ble_eq_true rfl⟩) rfl hl.1 rfl (Nat.le_of_ble_eq_true rfl) dX12_tested_130 (fun r419 w421 H locs hp420 hw => ?_)
            obtain ⟨hT, k422, hg425⟩ := hp420
            have hO := OKW_FE k422 (fun _ => rfl) (fun _ => rfl) (fun _ => rfl) (fun _ => rfl) hO
            have hE9 := E9_FE k422 (fun _ => rfl) hE9
            have gn426 : binN w421 (f12_0_22.toInt).toNat = binN w390 (f12_0_22.toInt).toNat := bin_FE _ k422 (fun _ => rfl)
            have hF := hF.tr k422 (by decide)
            have c427 := k422.gi kM_at0 (by decide) c410
            have c428 := k422.gi kM_at0 (by decide) c411
            have c429 := k422.gi kM_at0 (by decide) c412
            have c430 := k422.gi kM_at0 (by decide) c413
            have c431 := k422.gi kM_at3 rfl c414
            have c432 := k422.gi kM_at0 (by decide) c395
            have c433 := k422.gi kM_at0 (by decide) c397
            obtain ⟨rfl, ⟨x423, c424, rx423, tx423⟩⟩ := hg425
            exact tk_zret hC hr rfl hlocks hK ⟨hT, hF, (Or.inl ⟨rfl, ⟨x394, c432, (show 1 ≤ x394.toInt by omega), (show x394.toInt ≤ 400 by omega)⟩, ⟨x423, c424, (show 1 ≤ x423.toInt by omega), (show x423.toInt ≤ 3205 by omega)⟩, ⟨f0_, c427, (show 0 ≤ f0_.toInt by omega), (show f0_.toInt ≤ 5 by omega)⟩, ⟨f12_0_22, c430, (show 0 ≤ f12_0_22.toInt by omega), (show f12_0_22.toInt ≤ 399 by omega)⟩, hO.1⟩)⟩ hw dX12_tested_133
          · have g404 : (x402.toInt = x386.toInt ∨ (gi w1 1 (x386.toInt).toNat).toInt = 32) := by have q := g404; simp only [c6, c410, c387, c403] at q; omega
            refine lv_pop hx hb dX12_tested_123 rfl ?_
            refine lv_aload_n hx hb dX12_tested_124 rfl (lv_at hl 0 rfl) ?_
            refine lv_iconst (v := 0) hx hb dX12_tested_125 (by decide) ?_
            refine lv_aload_n hx hb dX12_tested_126 rfl (lv_at hl 0 rfl) ?_
            refine tk_geti hC hK hw hT hinX12 kM_at0 (by decide) rfl 14 (by decide) (List.mem_of_getElem? (i := 6) rfl) rfl rfl dX12_tested_127 (fun x434 c435 rx434 tx434 => ?_)
            refine wk_top x402 (c435.symm.trans c403) ?_
            refine tk_Vi hC hK hw hT hA hE hSR kM_at0 (by decide) rfl (k_X12_fails_1 l adK adV dC dI cy ad B (by omega) (by omega) qr s1   0 (by decide) (by decide) x402 (show 0 ≤ x402.toInt by omega) (show x402.toInt ≤ 400 by omega) w390 H.size hT ) (cwV 2 hC.2.2.2.2 gX12_tested_X12_fails rfl rfl rfl (by decide +kernel) ⟨Nat.le_of_ble_eq_true rfl, Nat.le_of_ble_eq_true rfl⟩) rfl hl.1 rfl (Nat.le_of_ble_eq_true rfl) dX12_tested_130 (fun r436 w438 H locs hp437 hw => ?_)
            obtain ⟨hT, k439, hg442⟩ := hp437
            have hO := OKW_FE k439 (fun _ => rfl) (fun _ => rfl) (fun _ => rfl) (fun _ => rfl) hO
            have hE9 := E9_FE k439 (fun _ => rfl) hE9
            have gn443 : binN w438 (f12_0_22.toInt).toNat = binN w390 (f12_0_22.toInt).toNat := bin_FE _ k439 (fun _ => rfl)
            have hF := hF.tr k439 (by decide)
            have c444 := k439.gi kM_at0 (by decide) c410
            have c445 := k439.gi kM_at0 (by decide) c411
            have c446 := k439.gi kM_at0 (by decide) c412
            have c447 := k439.gi kM_at0 (by decide) c413
            have c448 := k439.gi kM_at3 rfl c414
            have c449 := k439.gi kM_at0 (by decide) c401
            have c450 := k439.gi kM_at0 (by decide) c403
            obtain ⟨rfl, ⟨x440, c441, rx440, tx440⟩⟩ := hg442
            exact tk_zret hC hr rfl hlocks hK ⟨hT, hF, (Or.inl ⟨rfl, ⟨x400, c449, (show 1 ≤ x400.toInt by omega), (show x400.toInt ≤ 400 by omega)⟩, ⟨x440, c441, (show 1 ≤ x440.toInt by omega), (show x440.toInt ≤ 3205 by omega)⟩, ⟨f0_, c444, (show 0 ≤ f0_.toInt by omega), (show f0_.toInt ≤ 5 by omega)⟩, ⟨f12_0_22, c447, (show 0 ≤ f12_0_22.toInt by omega), (show f12_0_22.toInt ≤ 399 by omega)⟩, hO.1⟩)⟩ hw dX12_tested_133
          · obtain ⟨x415, c416, rx415, tx415⟩ := hT.rdi (lo := 0) (hi := 400) (k := 14) kM_at0 (by decide) rfl
            have g407 : (x415.toInt = x386.toInt ∨ (gi w1 1 (x386.toInt).toNat).toInt = 32) := by have q := g407; simp only [c6, c410, c387, c416] at q; omega
            refine lv_pop hx hb dX12_tested_123 rfl ?_
            refine lv_aload_n hx hb dX12_tested_124 rfl (lv_at hl 0 rfl) ?_
            refine lv_iconst (v := 0) hx hb dX12_tested_125 (by decide) ?_
            refine lv_aload_n hx hb dX12_tested_126 rfl (lv_at hl 0 rfl) ?_
            refine tk_geti hC hK hw hT hinX12 kM_at0 (by decide) rfl 14 (by decide) (List.mem_of_getElem? (i := 6) rfl) rfl rfl dX12_tested_127 (fun x451 c452 rx451 tx451 => ?_)
            refine wk_top x415 (c452.symm.trans c416) ?_
            refine tk_Vi hC hK hw hT hA hE hSR kM_at0 (by decide) rfl (k_X12_fails_1 l adK adV dC dI cy ad B (by omega) (by omega) qr s1   0 (by decide) (by decide) x415 (show 0 ≤ x415.toInt by omega) (show x415.toInt ≤ 400 by omega) w390 H.size hT ) (cwV 2 hC.2.2.2.2 gX12_tested_X12_fails rfl rfl rfl (by decide +kernel) ⟨Nat.le_of_ble_eq_true rfl, Nat.le_of_ble_eq_true rfl⟩) rfl hl.1 rfl (Nat.le_of_ble_eq_true rfl) dX12_tested_130 (fun r453 w455 H locs hp454 hw => ?_)
            obtain ⟨hT, k456, hg459⟩ := hp454
            have hO := OKW_FE k456 (fun _ => rfl) (fun _ => rfl) (fun _ => rfl) (fun _ => rfl) hO
            have hE9 := E9_FE k456 (fun _ => rfl) hE9
            have gn460 : binN w455 (f12_0_22.toInt).toNat = binN w390 (f12_0_22.toInt).toNat := bin_FE _ k456 (fun _ => rfl)
            have hF := hF.tr k456 (by decide)
            have c461 := k456.gi kM_at0 (by decide) c410
            have c462 := k456.gi kM_at0 (by decide) c411
            have c463 := k456.gi kM_at0 (by decide) c412
            have c464 := k456.gi kM_at0 (by decide) c413
            have c465 := k456.gi kM_at3 rfl c414
            have c466 := k456.gi kM_at0 (by decide) c406
            have c467 := k456.gi kM_at0 (by decide) c416
            obtain ⟨rfl, ⟨x457, c458, rx457, tx457⟩⟩ := hg459
            exact tk_zret hC hr rfl hlocks hK ⟨hT, hF, (Or.inr (Or.inl ⟨rfl, ⟨x405, c466, (show 0 ≤ x405.toInt by omega), (show x405.toInt ≤ 400 by omega)⟩, ⟨x457, c458, (show 1 ≤ x457.toInt by omega), (show x457.toInt ≤ 3205 by omega)⟩, ⟨f0_, c461, (show 0 ≤ f0_.toInt by omega), (show f0_.toInt ≤ 5 by omega)⟩, ⟨f12_0_22, c464, (show 0 ≤ f12_0_22.toInt by omega), (show f12_0_22.toInt ≤ 399 by omega)⟩, hO.1⟩))⟩ hw dX12_tested_133
      · have c345 : ¬ v12_1.toInt = (0 : Int) := wk_eqF c345
        refine lv_aload_n hx hb dX12_tested_16 rfl (lv_at hl 0 rfl) ?_
        refine tk_Vi hC hK hw hT hA hE hSR kM_at0 (by decide) rfl (k_X12_fact_1 l adK adV dC dI cy ad B (by omega) (by omega) qr s1    w1 H.size hT f0_ c6 (show 0 ≤ f0_.toInt by omega) (show f0_.toInt ≤ 5 by omega) f12_0_18 c9 (show 0 ≤ f12_0_18.toInt by omega) (show f12_0_18.toInt ≤ 60 by omega) f12_0_19 c12 (show (-100) ≤ f12_0_19.toInt by omega) (show f12_0_19.toInt ≤ 10 by omega) f12_0_22 c15 (show 0 ≤ f12_0_22.toInt by omega) (show f12_0_22.toInt ≤ 400 by omega) f12_3__f0__toInt_toNat c18 (show 0 ≤ f12_3__f0__toInt_toNat.toInt by omega) (show f12_3__f0__toInt_toNat.toInt ≤ 400 by omega) (show 3 * (f12_3__f0__toInt_toNat.toInt + f12_0_22.toInt) ≤ 14 * f12_0_18.toInt by omega) (show f12_0_22.toInt ≤ f12_0_19.toInt + f12_0_18.toInt by omega) (show f12_3__f0__toInt_toNat.toInt ≤ 280 by omega) (show f12_0_22.toInt ≤ 280 by omega) (show (binN w1 (f12_0_22.toInt).toNat : Int) = f12_0_22.toInt - f12_0_19.toInt by omega) gb (f12_0_22.toInt - f12_0_19.toInt + 1 - v12_1.toInt) (OKW_cast hO (show f12_0_22.toInt - f12_0_19.toInt + 1 - v12_1.toInt = f12_0_22.toInt - f12_0_19.toInt by omega)) (E9_le hE9 (show f12_0_22.toInt ≤ _ by omega))) (cwV 0 hC.2.2.2.2 gX12_tested_X12_fact rfl rfl rfl (by decide +kernel) ⟨Nat.le_of_ble_eq_true rfl, Nat.le_of_ble_eq_true rfl⟩) rfl hl.1 rfl (Nat.le_of_ble_eq_true rfl) dX12_tested_17 (fun r468 w470 H locs hp469 hw => ?_)
        obtain ⟨hT, k471, hg506⟩ := hp469
        have hF := hF.tr k471 (by decide)
        have c507 := k471.gi kM_at0 (by decide) c6
        rcases hg506 with ⟨rfl, ⟨x472, c473, rx472, tx472⟩, ⟨x474, c475, rx474, tx474⟩, ⟨x476, c477, rx476, tx476⟩, ⟨x478, c479, rx478, tx478⟩, hq480⟩ | ⟨rfl, ⟨x481, c482, rx481, tx481⟩, ⟨x483, c484, rx483, tx483⟩, ⟨x485, c486, rx485, tx485⟩, ⟨x487, c488, rx487, tx487⟩, hq489⟩ | ⟨rfl, ⟨x490, c491, rx490, tx490⟩, ⟨x492, c493, rx492, tx492⟩, ⟨x494, c495, rx494, tx494⟩, ⟨x496, c497, rx496, tx496⟩, hq498, hq499, g500, g501, g502, g503, g504, g505⟩
        · have ex476 : x476.toInt = f0_.toInt := by rw [← c507.symm.trans c477]
          obtain ⟨x508, c509, rx508, tx508⟩ := hT.rda (lo := 0) (hi := 400) (i := (f0_.toInt).toNat) kM_at3 rfl rfl (by omega)
          obtain ⟨x510, c511, rx510, tx510⟩ := hT.rdi (lo := 0) (hi := 60) (k := 18) kM_at0 (by decide) rfl
          obtain ⟨x512, c513, rx512, tx512⟩ := hT.rdi (lo := (-100)) (hi := 10) (k := 19) kM_at0 (by decide) rfl
          have hR := hq480
          refine lv_if_ne (tgt := 25) hx hb dX12_tested_20 (by decide) (fun c => absurd (by decide) c) (fun _ => ?_)
          refine lv_iconst (v := 0) hx hb dX12_tested_23 (by decide) ?_
          exact tk_zret hC hr rfl hlocks hK ⟨hT, hF, (Or.inl ⟨rfl, ⟨x472, c473, (show 1 ≤ x472.toInt by omega), (show x472.toInt ≤ 400 by omega)⟩, ⟨x474, c475, (show 1 ≤ x474.toInt by omega), (show x474.toInt ≤ 3205 by omega)⟩, ⟨f0_, c507, (show 0 ≤ f0_.toInt by omega), (show f0_.toInt ≤ 5 by omega)⟩, ⟨x478, c479, (show 0 ≤ x478.toInt by omega), (show x478.toInt ≤ 399 by omega)⟩, hR⟩)⟩ hw dX12_tested_24
        · have ex485 : x485.toInt = f0_.toInt := by rw [← c507.symm.trans c486]
          obtain ⟨x514, c515, rx514, tx514⟩ := hT.rda (lo := 0) (hi := 400) (i := (f0_.toInt).toNat) kM_at3 rfl rfl (by omega)
          obtain ⟨x516, c517, rx516, tx516⟩ := hT.rdi (lo := 0) (hi := 60) (k := 18) kM_at0 (by decide) rfl
          obtain ⟨x518, c519, rx518, tx518⟩ := hT.rdi (lo := (-100)) (hi := 10) (k := 19) kM_at0 (by decide) rfl
          have hR := hq489
          refine lv_if_ne (tgt := 25) hx hb dX12_tested_20 (by decide) (fun c => absurd (by decide) c) (fun _ => ?_)
          refine lv_iconst (v := 0) hx hb dX12_tested_23 (by decide) ?_
          exact tk_zret hC hr rfl hlocks hK ⟨hT, hF, (Or.inr (Or.inl ⟨rfl, ⟨x481, c482, (show 0 ≤ x481.toInt by omega), (show x481.toInt ≤ 400 by omega)⟩, ⟨x483, c484, (show 1 ≤ x483.toInt by omega), (show x483.toInt ≤ 3205 by omega)⟩, ⟨f0_, c507, (show 0 ≤ f0_.toInt by omega), (show f0_.toInt ≤ 5 by omega)⟩, ⟨x487, c488, (show 0 ≤ x487.toInt by omega), (show x487.toInt ≤ 399 by omega)⟩, hR⟩))⟩ hw dX12_tested_24
        · have ex492 : x492.toInt = f0_.toInt := by rw [← c507.symm.trans c493]
          obtain ⟨x520, c521, rx520, tx520⟩ := hT.rda (lo := 0) (hi := 400) (i := (f0_.toInt).toNat) kM_at3 rfl rfl (by omega)
          obtain ⟨x522, c523, rx522, tx522⟩ := hT.rdi (lo := (-100)) (hi := 10) (k := 19) kM_at0 (by decide) rfl
          have g500 : 3 * (x520.toInt + x496.toInt) + 3 ≤ 14 * x494.toInt := by have q := g500; simp only [c6, c507, c521, c495, c497] at q; omega
          have g501 : x496.toInt + 3 ≤ x522.toInt + x494.toInt := by have q := g501; simp only [c6, c507, c523, c495, c497] at q; omega
          have g502 : f12_0_18.toInt + 3 ≤ x494.toInt := by have q := g502; simp only [c6, c507, c9, c495] at q; omega
          have g503 : x520.toInt ≤ 280 := by have q := g503; simp only [c6, c507, c521] at q; omega
          have g504 : x496.toInt ≤ 280 := by have q := g504; simp only [c6, c507, c497] at q; omega
          have g505 : (binN w470 (x496.toInt).toNat : Int) = x496.toInt - x522.toInt := by have q := g505; simp only [c6, c507, c523, c497] at q; omega
          have hO : OKW w470 f0_.toInt gb (x496.toInt - x522.toInt + 1) := by have q := hq498; simp only [c523, c497] at q; exact OKW_cast q (by omega)
          have hE9 : E9 w470 (x496.toInt) := by have q := hq499; simp only [c497] at q; exact q
          refine lv_if_ne (tgt := 25) hx hb dX12_tested_20 (by decide) (fun _ => ?_) (fun c => absurd c (by decide))
          refine lv_aload_n hx hb dX12_tested_25 rfl (lv_at hl 0 rfl) ?_
          refine tk_Vv hC hK hw hT hA hE hSR kM_at0 (by decide) rfl (k_X12_closes_1 l adK adV dC dI cy ad B (by omega) (by omega) qr s1    w470 H.size hT f0_ c507 (show 0 ≤ f0_.toInt by omega) (show f0_.toInt ≤ 5 by omega) x494 c495 (show 0 ≤ x494.toInt by omega) (show x494.toInt ≤ 60 by omega) x522 c523 (show (-100) ≤ x522.toInt by omega) (show x522.toInt ≤ 10 by omega) x496 c497 (show 0 ≤ x496.toInt by omega) (show x496.toInt ≤ 400 by omega) x520 c521 (show 0 ≤ x520.toInt by omega) (show x520.toInt ≤ 400 by omega) (show x520.toInt + x496.toInt ≤ 390 by omega) (show x496.toInt ≤ x522.toInt + x494.toInt by omega) (show x520.toInt ≤ 390 by omega) (show x496.toInt ≤ 390 by omega) (show (binN w470 (x496.toInt).toNat : Int) = x496.toInt - x522.toInt by omega) gb (x496.toInt - x522.toInt + 1) (OKW_cast hO (show x496.toInt - x522.toInt + 1 = x496.toInt - x522.toInt + 1 by omega)) (E9_le hE9 (show x496.toInt ≤ _ by omega))) (cwV 0 hC.2.2.2.2 gX12_tested_X12_closes rfl rfl rfl (by decide +kernel) ⟨Nat.le_of_ble_eq_true rfl, Nat.le_of_ble_eq_true rfl⟩) rfl hl.1 rfl (Nat.le_of_ble_eq_true rfl) dX12_tested_26 (fun w526 H locs hp525 hw => ?_)
          obtain ⟨hT, k527, hg544⟩ := hp525
          have gn545 : binN w526 (x496.toInt).toNat = binN w470 (x496.toInt).toNat := bin_FE _ k527 (fun _ => rfl)
          have hF := hF.tr k527 (by decide)
          have c546 := k527.gi kM_at0 (by decide) c507
          have c547 := k527.gi kM_at0 (by decide) c491
          have c548 := k527.gi kM_at0 (by decide) c495
          obtain ⟨⟨x528, c529, rx528, tx528⟩, ⟨x530, c531, rx530, tx530⟩, ⟨x532, c533, rx532, tx532⟩, ⟨x534, c535, rx534, tx534⟩, hq536, hq537, g538, g539, g540, g541, g542, g543⟩ := hg544
          have ex528 : x528.toInt = x490.toInt := by rw [← c547.symm.trans c529]
          have ex530 : x530.toInt = f0_.toInt := by rw [← c546.symm.trans c531]
          obtain ⟨x549, c550, rx549, tx549⟩ := hT.rda (lo := 0) (hi := 400) (i := (f0_.toInt).toNat) kM_at3 rfl rfl (by omega)
          have g538 : x549.toInt + x534.toInt ≤ x520.toInt + x496.toInt := by have q := g538; simp only [c507, c546, c521, c550, c497, c535] at q; omega
          have g539 : x534.toInt + x522.toInt ≤ x496.toInt + x532.toInt := by have q := g539; simp only [c507, c546, c523, c533, c497, c535] at q; omega
          have g540 : x534.toInt ≤ x532.toInt + x494.toInt := by have q := g540; simp only [c507, c546, c533, c495, c535] at q; omega
          have g541 : x534.toInt ≤ 390 := by have q := g541; simp only [c507, c546, c535] at q; omega
          have g542 : x549.toInt ≤ 390 := by have q := g542; simp only [c507, c546, c550] at q; omega
          have g543 : (binN w526 (x534.toInt).toNat : Int) = x534.toInt - x532.toInt := by have q := g543; simp only [c507, c546, c533, c535] at q; omega
          have hO : OKW w526 f0_.toInt gb (x534.toInt - x532.toInt + 1) := by have q := hq536; simp only [c533, c535] at q; exact OKW_cast q (by omega)
          have hE9 : E9 w526 (x534.toInt) := by have q := hq537; simp only [c535] at q; exact q
          refine lv_aload_n hx hb dX12_tested_29 rfl (lv_at hl 0 rfl) ?_
          refine lv_ldc2 (v := 6385252) hx hb hC.2.2.2.1 (hC.2.2.2.2 _ (List.mem_of_getElem? (i := 3) rfl)) dX12_tested_30 ?_
          obtain ⟨x551, c552, rx551, tx551⟩ := hT.rdi (lo := 0) (hi := 400) (k := 14) kM_at0 (by decide) rfl
          refine tk_Vi hC hK hw hT hA hE hSR kM_at0 (by decide) rfl (k_X12_isWord_22 l adK adV dC dI cy ad B (by omega) (by omega) qr s1    w526 H.size hT x551 c552 (show 0 ≤ x551.toInt by omega) (show x551.toInt ≤ 400 by omega)) (cwV 1 hC.2.2.2.2 gX12_tested_X12_isWord rfl rfl rfl (by decide +kernel) ⟨Nat.le_of_ble_eq_true rfl, Nat.le_of_ble_eq_true rfl⟩) rfl hl.1 rfl (Nat.le_of_ble_eq_true rfl) dX12_tested_33 (fun r553 w555 H locs hp554 hw => ?_)
          obtain ⟨hT, k556, hg563⟩ := hp554
          have hO := OKW_FE k556 (fun _ => rfl) (fun _ => rfl) (fun _ => rfl) (fun _ => rfl) hO
          have hE9 := E9_FE k556 (fun _ => rfl) hE9
          have gn564 : binN w555 (x534.toInt).toNat = binN w526 (x534.toInt).toNat := bin_FE _ k556 (fun _ => rfl)
          have hF := hF.tr k556 (by decide)
          have c565 := k556.gi kM_at0 (by decide) c546
          have c566 := k556.gi kM_at0 (by decide) c547
          have c567 := k556.gi kM_at0 (by decide) c548
          have c568 := k556.gi kM_at0 (by decide) c533
          have c569 := k556.gi kM_at0 (by decide) c535
          have c570 := k556.gi kM_at3 rfl c550
          rcases hg563 with ⟨rfl, ⟨x557, c558, rx557, tx557⟩, g559⟩ | ⟨rfl, ⟨x560, c561, rx560, tx560⟩, g562⟩
          · have ex557 : x557.toInt = x490.toInt := by rw [← c566.symm.trans c558]
            obtain ⟨x571, c572, rx571, tx571⟩ := hT.rdi (lo := 0) (hi := 400) (k := 14) kM_at0 (by decide) rfl
            have g559 : (x571.toInt = x551.toInt ∨ (gi w526 1 (x551.toInt).toNat).toInt = 32) := by have q := g559; simp only [c546, c565, c552, c572] at q; omega
            refine lv_if_ne (tgt := 49) hx hb dX12_tested_36 (by decide) (fun c => absurd (by decide) c) (fun _ => ?_)
            refine lv_aload_n hx hb dX12_tested_39 rfl (lv_at hl 0 rfl) ?_
            refine lv_ldc2 (v := 28530) hx hb hC.2.2.2.1 (hC.2.2.2.2 _ (List.mem_of_getElem? (i := 4) rfl)) dX12_tested_40 ?_
            refine tk_Vi hC hK hw hT hA hE hSR kM_at0 (by decide) rfl (k_X12_isWord_21 l adK adV dC dI cy ad B (by omega) (by omega) qr s1    w555 H.size hT x571 c572 (show 0 ≤ x571.toInt by omega) (show x571.toInt ≤ 400 by omega)) (cwV 1 hC.2.2.2.2 gX12_tested_X12_isWord rfl rfl rfl (by decide +kernel) ⟨Nat.le_of_ble_eq_true rfl, Nat.le_of_ble_eq_true rfl⟩) rfl hl.1 rfl (Nat.le_of_ble_eq_true rfl) dX12_tested_43 (fun r575 w577 H locs hp576 hw => ?_)
            obtain ⟨hT, k578, hg585⟩ := hp576
            have hO := OKW_FE k578 (fun _ => rfl) (fun _ => rfl) (fun _ => rfl) (fun _ => rfl) hO
            have hE9 := E9_FE k578 (fun _ => rfl) hE9
            have gn586 : binN w577 (x534.toInt).toNat = binN w555 (x534.toInt).toNat := bin_FE _ k578 (fun _ => rfl)
            have hF := hF.tr k578 (by decide)
            have c587 := k578.gi kM_at0 (by decide) c565
            have c588 := k578.gi kM_at0 (by decide) c566
            have c589 := k578.gi kM_at0 (by decide) c567
            have c590 := k578.gi kM_at0 (by decide) c568
            have c591 := k578.gi kM_at0 (by decide) c569
            have c592 := k578.gi kM_at3 rfl c570
            rcases hg585 with ⟨rfl, ⟨x579, c580, rx579, tx579⟩, g581⟩ | ⟨rfl, ⟨x582, c583, rx582, tx582⟩, g584⟩
            · have ex579 : x579.toInt = x490.toInt := by rw [← c588.symm.trans c580]
              obtain ⟨x593, c594, rx593, tx593⟩ := hT.rdi (lo := 0) (hi := 400) (k := 14) kM_at0 (by decide) rfl
              have g581 : (x593.toInt = x571.toInt ∨ (gi w555 1 (x571.toInt).toNat).toInt = 32) := by have q := g581; simp only [c565, c587, c572, c594] at q; omega
              refine lv_if_eq (tgt := 53) hx hb dX12_tested_46 (by decide) (fun _ => ?_) (fun c => absurd (by decide) c)
              refine lv_iconst (v := 0) hx hb dX12_tested_53 (by decide) ?_
              refine lv_istore_n (lv' := [(1, .int 0), (0, .ref (ad 0))]) hx hb dX12_tested_54 rfl hl (by decide) rfl (fun ls hl => ?_)
              refine lv_iload_n hx hb dX12_tested_55 rfl (lv_at hl 0 rfl) ?_
              refine lv_if_eq (tgt := 12) hx hb dX12_tested_56 (by decide) (fun _ => ?_) (fun c => absurd (by decide) c)
              exact ih12 0 x494 x532 x534 x549 H locs ls w577 (by decide) (by decide) (show 0 ≤ f0_.toInt by omega) (show f0_.toInt ≤ 5 by omega) (show 0 ≤ x494.toInt by omega) (show x494.toInt ≤ 60 by omega) (show (-60) ≤ x532.toInt by omega) (show x532.toInt ≤ 10 by omega) (show 0 ≤ x534.toInt by omega) (show x534.toInt ≤ 280 by omega) (show 0 ≤ x549.toInt by omega) (show x549.toInt ≤ 280 by omega) (show (binN w577 (x534.toInt).toNat : Int) = x534.toInt - x532.toInt by omega) (show 3 * (x549.toInt + x534.toInt) ≤ 14 * x494.toInt by omega) (show x534.toInt ≤ x532.toInt + x494.toInt by omega) (show x549.toInt ≤ 280 by omega) (show x534.toInt ≤ 280 by omega) (show -60 ≤ x532.toInt by omega) (show (60 - x494.toInt).toNat < n12 by omega) hw hT hF (OKW_cast hO (show x534.toInt - x532.toInt + 1 = x534.toInt - x532.toInt + 1 - (0 : Int) by omega)) (E9_le hE9 (show x534.toInt ≤ _ by omega)) c587 c589 c590 c591 c592 (lv_sub hl [1, 0] rfl)
            · have ex582 : x582.toInt = x490.toInt := by rw [← c588.symm.trans c583]
              obtain ⟨x595, c596, rx595, tx595⟩ := hT.rdi (lo := 0) (hi := 400) (k := 14) kM_at0 (by decide) rfl
              have g584 : (x595.toInt = x571.toInt ∨ (gi w555 1 (x571.toInt).toNat).toInt = 32) := by have q := g584; simp only [c565, c587, c572, c596] at q; omega
              refine lv_if_eq (tgt := 53) hx hb dX12_tested_46 (by decide) (fun c => absurd c (by decide)) (fun _ => ?_)
              have hOk := hO
              obtain rfl : v12_1 = 1 := wk_eq.mpr (show v12_1.toInt = 1 by omega)
              have hO := hOk
              exact J49 x490 x595 x494 x532 x534 x549 H locs ls w577 (show 1 ≤ x490.toInt by omega) (show x490.toInt ≤ 400 by omega) (show 0 ≤ x595.toInt by omega) (show x595.toInt ≤ 400 by omega) (show 0 ≤ f0_.toInt by omega) (show f0_.toInt ≤ 5 by omega) (show 1 ≤ x494.toInt by omega) (show x494.toInt ≤ 60 by omega) (show (-60) ≤ x532.toInt by omega) (show x532.toInt ≤ 10 by omega) (show 0 ≤ x534.toInt by omega) (show x534.toInt ≤ 280 by omega) (show 0 ≤ x549.toInt by omega) (show x549.toInt ≤ 280 by omega) (show (binN w577 (x534.toInt).toNat : Int) = x534.toInt - x532.toInt by omega) (show f12_0_18.toInt + 3 ≤ x494.toInt by omega) (show 3 * (x549.toInt + x534.toInt) + 3 ≤ 14 * x494.toInt by omega) (show x534.toInt + 3 ≤ x532.toInt + x494.toInt by omega) (show x549.toInt ≤ 280 by omega) (show x534.toInt ≤ 280 by omega) (show -60 ≤ x532.toInt by omega)  hw hT hF (OKW_cast hO (show x534.toInt - x532.toInt + 1 = x534.toInt - x532.toInt + 1 by omega)) (E9_le hE9 (show x534.toInt ≤ _ by omega)) c588 c596 c587 c589 c590 c591 c592 (lv_sub hl [0, 1] rfl)
          · have ex560 : x560.toInt = x490.toInt := by rw [← c566.symm.trans c561]
            obtain ⟨x573, c574, rx573, tx573⟩ := hT.rdi (lo := 0) (hi := 400) (k := 14) kM_at0 (by decide) rfl
            have g562 : (x573.toInt = x551.toInt ∨ (gi w526 1 (x551.toInt).toNat).toInt = 32) := by have q := g562; simp only [c546, c565, c552, c574] at q; omega
            refine lv_if_ne (tgt := 49) hx hb dX12_tested_36 (by decide) (fun _ => ?_) (fun c => absurd c (by decide))
            have hOk := hO
            obtain rfl : v12_1 = 1 := wk_eq.mpr (show v12_1.toInt = 1 by omega)
            have hO := hOk
            exact J49 x490 x573 x494 x532 x534 x549 H locs ls w555 (show 1 ≤ x490.toInt by omega) (show x490.toInt ≤ 400 by omega) (show 0 ≤ x573.toInt by omega) (show x573.toInt ≤ 400 by omega) (show 0 ≤ f0_.toInt by omega) (show f0_.toInt ≤ 5 by omega) (show 1 ≤ x494.toInt by omega) (show x494.toInt ≤ 60 by omega) (show (-60) ≤ x532.toInt by omega) (show x532.toInt ≤ 10 by omega) (show 0 ≤ x534.toInt by omega) (show x534.toInt ≤ 280 by omega) (show 0 ≤ x549.toInt by omega) (show x549.toInt ≤ 280 by omega) (show (binN w555 (x534.toInt).toNat : Int) = x534.toInt - x532.toInt by omega) (show f12_0_18.toInt + 3 ≤ x494.toInt by omega) (show 3 * (x549.toInt + x534.toInt) + 3 ≤ 14 * x494.toInt by omega) (show x534.toInt + 3 ≤ x532.toInt + x494.toInt by omega) (show x549.toInt ≤ 280 by omega) (show x534.toInt ≤ 280 by omega) (show -60 ≤ x532.toInt by omega)  hw hT hF (OKW_cast hO (show x534.toInt - x532.toInt + 1 = x534.toInt - x532.toInt + 1 by omega)) (E9_le hE9 (show x534.toInt ≤ _ by omega)) c566 c574 c565 c567 c568 c569 c570 (lv_sub hl [0, 1] rfl)
  have gl597 := bin_le w0 (f3_.toInt).toNat
  refine lv_aload_n hx hb dX12_tested_0 rfl (lv_at hl 0 rfl) ?_
  refine lv_iconst (v := 0) hx hb dX12_tested_1 (by decide) ?_
  refine tk_puti hC hK hw hT hinX12 tyX12_ok nmX12 kM_at0 (by decide) rfl rfl 22 (by decide) (List.mem_of_getElem? (i := 1) rfl) rfl rfl rfl rfl (by decide) (by decide) dX12_tested_2 (fun H locs w598 hw hT k600 c599 => ?_)
  have gn601 : binN w598 (f3_.toInt).toNat = binN w0 (f3_.toInt).toNat := bin_F1 _ k600 (by decide)
  have gn602 : binN w598 ((0 : Int)).toNat = binN w0 ((0 : Int)).toNat := bin_F1 _ k600 (by decide)
  have gn603 : binN w598 ((0 : Int)).toNat = 0 := rfl
  have hO := OKW_F1 k600 (by decide) (by decide) (by decide) (by decide) hO
  have hE9 : E9 w598 0 := fun j hj => absurd hj (by omega)
  have hF := hF.put kM_at0 (k := 22) (by decide) k600
  have c604 := k600.gi (Or.inr (by decide)) cf0_
  have c605 := k600.gi (Or.inr (by decide)) cf1_
  have c606 := k600.gi (Or.inr (by decide)) cf2_
  have c607 := k600.gi (Or.inl (tk_ne kM_at3 kM_at0 (by decide))) cf4_
  refine lv_aload_n hx hb dX12_tested_5 rfl (lv_at hl 0 rfl) ?_
  refine lv_iconst (v := 0) hx hb dX12_tested_6 (by decide) ?_
  refine tk_puti hC hK hw hT hinX12 tyX12_ok nmX12 kM_at0 (by decide) rfl rfl 19 (by decide) (List.mem_of_getElem? (i := 2) rfl) rfl rfl rfl rfl (by decide) (by decide) dX12_tested_7 (fun H locs w608 hw hT k610 c609 => ?_)
  have gn611 : binN w608 ((0 : Int)).toNat = binN w598 ((0 : Int)).toNat := bin_F1 _ k610 (by decide)
  have hO := OKW_F1 k610 (by decide) (by decide) (by decide) (by decide) hO
  have hE9 := E9_F1 k610 (by decide) hE9
  have hF := hF.put kM_at0 (k := 19) (by decide) k610
  have c612 := k610.gi (Or.inr (by decide)) c604
  have c613 := k610.gi (Or.inr (by decide)) c605
  have c614 := k610.gi (Or.inl (tk_ne kM_at3 kM_at0 (by decide))) c607
  have c615 := k610.gi (Or.inr (by decide)) c599
  refine lv_iconst (v := 1) hx hb dX12_tested_10 (by decide) ?_
  refine lv_istore_n (lv' := [(1, .int 1), (0, .ref (ad 0))]) hx hb dX12_tested_11 rfl hl (by decide) rfl (fun ls hl => ?_)
  exact L12 ((60 - f1_.toInt).toNat + 1) 1 f1_ 0 0 f4_ H locs ls w608 (by decide) (by decide) (show 0 ≤ f0_.toInt by omega) (show f0_.toInt ≤ 5 by omega) (show 0 ≤ f1_.toInt by omega) (show f1_.toInt ≤ 60 by omega) (by decide) (by decide) (by decide) (by decide) (show 0 ≤ f4_.toInt by omega) (show f4_.toInt ≤ 280 by omega) (show (binN w608 ((0 : Int)).toNat : Int) = (0 : Int) - (0 : Int) by omega) (show 3 * (f4_.toInt + (0 : Int)) ≤ 14 * f1_.toInt by omega) (show (0 : Int) ≤ (0 : Int) + f1_.toInt by omega) (show f4_.toInt ≤ 280 by omega) (show (0 : Int) ≤ 280 by omega) (show -60 ≤ (0 : Int) by omega) (Nat.lt_succ_self _) hw hT hF (OKW_cast hO (show 0 = (0 : Int) - (0 : Int) + 1 - (1 : Int) by omega)) (E9_le hE9 (show (0 : Int) ≤ _ by omega)) c612 c613 c609 c615 c614 (lv_sub hl [1, 0] rfl)
abbrev P_X12_isDoingHere_1 (ad : Nat → Nat) (cy : Nat → ClassId) (B : Int) (qr : Nat) (s1 : Int)  (gT : Int) (w0 : va_W) : Int32 → va_W → Prop := fun r u => TW ksM ad cy B qr 12 u ∧ FE ksM [(12, 14, 14), (12, 15, 15), (12, 16, 16), (12, 18, 18), (12, 19, 19), (12, 22, 22), (61, 0, 2400), (62, 0, 7), (63, 0, 216), (64, 0, 6), (68, 0, 400)] w0 u ∧ ((r = 0 ∧ (∃ y : Int32, gi u 0 1 = y ∧ 1 ≤ y.toInt ∧ y.toInt ≤ 400) ∧ (∃ y : Int32, gi u 0 15 = y ∧ 1 ≤ y.toInt ∧ y.toInt ≤ 3205) ∧ (∃ y : Int32, gi u 0 17 = y ∧ 0 ≤ y.toInt ∧ y.toInt ≤ 5) ∧ (∃ y : Int32, gi u 0 22 = y ∧ 0 ≤ y.toInt ∧ y.toInt ≤ 399) ∧ RLc u gT) ∨ (r = 0 ∧ (∃ y : Int32, gi u 0 1 = y ∧ 0 ≤ y.toInt ∧ y.toInt ≤ 400) ∧ (∃ y : Int32, gi u 0 15 = y ∧ 1 ≤ y.toInt ∧ y.toInt ≤ 3205) ∧ (∃ y : Int32, gi u 0 17 = y ∧ 0 ≤ y.toInt ∧ y.toInt ≤ 5) ∧ (∃ y : Int32, gi u 0 22 = y ∧ 0 ≤ y.toInt ∧ y.toInt ≤ 399) ∧ RLc u gT) ∨ (r = 1 ∧ (∃ y : Int32, gi u 0 1 = y ∧ 1 ≤ y.toInt ∧ y.toInt ≤ 400) ∧ (∃ y : Int32, gi u 0 17 = y ∧ 0 ≤ y.toInt ∧ y.toInt ≤ 5) ∧ RLc u gT ∧ (3 * (gi u 3 ((gi u 0 17).toInt).toNat).toInt ≤ 14 * (gi u 0 18).toInt) ∧ ((gi u 5 ((gi u 0 17).toInt).toNat).toInt = (gi w0 5 ((gi w0 0 17).toInt).toNat).toInt + 1)) ∨ (r = 1 ∧ (∃ y : Int32, gi u 0 1 = y ∧ 0 ≤ y.toInt ∧ y.toInt ≤ 400) ∧ (∃ y : Int32, gi u 0 17 = y ∧ 0 ≤ y.toInt ∧ y.toInt ≤ 5) ∧ RLc u gT ∧ (3 * (gi u 3 ((gi u 0 17).toInt).toNat).toInt ≤ 14 * (gi u 0 18).toInt) ∧ ((gi u 5 ((gi u 0 17).toInt).toNat).toInt = (gi w0 5 ((gi w0 0 17).toInt).toNat).toInt + 1)))
set_option maxHeartbeats 4000000 in
set_option maxRecDepth 100000 in
theorem k_X12_isDoingHere_1 (l : Launch) (adK adV : Nat → Nat) (dC : Nat → ClassId) (dI : Nat → Nat → Nat) (cy : Nat → ClassId) (ad : Nat → Nat) (B : Int) (hB0 : 100000 ≤ B) (hB1 : B ≤ 1073741824) (qr : Nat) (s1 : Int)   (w0 : va_W) (sz : Nat) (hT : TW ksM ad cy B qr 12 w0) (f0_ : Int32) (cf0_ : gi w0 0 17 = f0_) (rf0_ : 0 ≤ f0_.toInt) (tf0_ : f0_.toInt ≤ 5) (f1_ : Int32) (cf1_ : gi w0 0 18 = f1_) (rf1_ : 0 ≤ f1_.toInt) (tf1_ : f1_.toInt ≤ 60) (f2_ : Int32) (cf2_ : gi w0 3 (f0_.toInt).toNat = f2_) (rf2_ : 0 ≤ f2_.toInt) (tf2_ : f2_.toInt ≤ 400) (f3_ : Int32) (cf3_ : gi w0 5 (f0_.toInt).toNat = f3_) (rf3_ : 0 ≤ f3_.toInt) (tf3_ : f3_.toInt ≤ 12) (pr0_ : 3 * f2_.toInt ≤ 14 * f1_.toInt) (pr1_ : f2_.toInt ≤ 280) (pr2_ : f3_.toInt ≤ 11) (hR : RLc w0 f0_.toInt) : Met l yX12_isDoingHere wsX12_isDoingHere ({ frames := 10, cells := 0, slots := 0, locals := 210 }) (va_Pc [.ref (ad 0), .int (-1)] (wpreS adK adV dC dI cy sz w0)) (va_Qi (P_X12_isDoingHere_1 ad cy B qr s1  f0_.toInt w0) (fun u : va_W => wpost dC dI cy (va_A w0 sz) u) (va_A w0 sz)) 0 0 (va_A w0 sz) := by
  refine Met.ofW (cc := cX12_isDoingHere) (maxL := 3) (ret := (some .boolean)) (by decide) rfl ?_
  intro p e s m args below meth c s₁ Bk hml hv
  obtain ⟨rfl, ⟨hsz, hP, hK, hD0⟩, hE, hSR⟩ := hv
  have hx := Bk.exec
  have hb := Bk.bytes
  have hr := Bk.returns
  have hlocks := Bk.notSynchronized
  have hC : CallFix p m c cX12_isDoingHere 3 s _ wsX12_isDoingHere RX12 := ⟨hx, hb, hml, findClass_of_methodNamed Bk.named, atoms_spec (ws := wsX12_isDoingHere) Bk.pre⟩
  subst hsz
  have hD := hD0.self (sz := s.heap.size)
  generalize hAe : va_A w0 s.heap.size = A at hD hE ⊢
  have hA : ∀ q : Nat, s.heap.size ≤ q → A q := fun q h => by rw [← hAe]; exact Or.inr h
  have hw : Wd dC dI A s.heap s.heap [] w0 := ⟨hP, hD, va_S.rf⟩
  have hF : FE ksM [(12, 14, 14), (12, 15, 15), (12, 16, 16), (12, 18, 18), (12, 19, 19), (12, 22, 22), (61, 0, 2400), (62, 0, 7), (63, 0, 216), (64, 0, 6), (68, 0, 400)] w0 w0 := FE.rf
  have hl := lv_entry ([.ref (ad 0), .int (-1)]) (n := 3) (Nat.le_of_ble_eq_true rfl)
  rw [lg_entry_eq]
  generalize (lg_sl ([.ref (ad 0), .int (-1)]) ++ List.replicate (3 - (lg_sl ([.ref (ad 0), .int (-1)])).length) Slot.unset).toArray = ls at hl ⊢
  have hl : lv_has ls 3 [(0, .ref (ad 0)), (1, .int (-1))] := hl
  generalize hloc : ([] : List Loc) = locs at hw ⊢
  have hinX12 : ∀ w ∈ u_ws RX12 TX12 42, w ∈ wsX12_isDoingHere := fun _ h => List.mem_cons_of_mem _ (List.mem_append_right _ (h))
  refine lv_aload_n hx hb dX12_isDoingHere_0 rfl (lv_at hl 0 rfl) ?_
  refine tk_Vv hC hK hw hT hA hE hSR kM_at0 (by decide) rfl (k_X12_passWord_1 l adK adV dC dI cy ad B (by omega) (by omega) qr s1    w0 s.heap.size hT ) (cwV 0 hC.2.2.2.2 gX12_isDoingHere_X12_passWord rfl rfl rfl (by decide +kernel) ⟨Nat.le_of_ble_eq_true rfl, Nat.le_of_ble_eq_true rfl⟩) rfl hl.1 rfl (Nat.le_of_ble_eq_true rfl) dX12_isDoingHere_1 (fun w3 H locs hp2 hw => ?_)
  obtain ⟨hT, k4, hg11⟩ := hp2
  have hR := RL_FE k4 (fun _ => rfl) (fun _ => rfl) (fun _ => rfl) (fun _ => rfl) hR
  have hF := hF.tr k4 (by decide)
  have c12 := k4.gi kM_at0 (by decide) cf0_
  have c13 := k4.gi kM_at0 (by decide) cf1_
  have c14 := k4.gi kM_at3 rfl cf2_
  have c15 := k4.gi kM_at5 rfl cf3_
  rcases hg11 with ⟨⟨x5, c6, rx5, tx5⟩, ⟨x7, c8, rx7, tx7⟩⟩ | ⟨x9, c10, rx9, tx9⟩
  · refine lv_bipush (v := 36) hx hb dX12_isDoingHere_4 (by decide) ?_
    refine lv_aload_n hx hb dX12_isDoingHere_6 rfl (lv_at hl 0 rfl) ?_
    refine tk_geti hC hK hw hT hinX12 kM_at0 (by decide) rfl 17 (by decide) (List.mem_of_getElem? (i := 1) rfl) rfl rfl dX12_isDoingHere_7 (fun x16 c17 rx16 tx16 => ?_)
    refine wk_top f0_ (c17.symm.trans c12) ?_
    refine lv_imul hx hb dX12_isDoingHere_10 ?_
    refine lv_topi (fun x18 ex18 => ?_)
    have ex18 : x18.toInt = (36 : Int) * f0_.toInt := by rw [ex18]; exact wk_mul (show (-2147483648) ≤ (36 : Int) * f0_.toInt by omega) (show (36 : Int) * f0_.toInt ≤ 2147483647 by omega)
    refine lv_iconst (v := 3) hx hb dX12_isDoingHere_11 (by decide) ?_
    refine lv_aload_n hx hb dX12_isDoingHere_12 rfl (lv_at hl 0 rfl) ?_
    refine tk_getA hC hK hw hT hinX12 kM_at0 (by decide) rfl 6 (by decide) (List.mem_of_getElem? (i := 2) rfl) rfl rfl dX12_isDoingHere_13 ?_
    refine lv_aload_n hx hb dX12_isDoingHere_16 rfl (lv_at hl 0 rfl) ?_
    refine tk_geti hC hK hw hT hinX12 kM_at0 (by decide) rfl 17 (by decide) (List.mem_of_getElem? (i := 1) rfl) rfl rfl dX12_isDoingHere_17 (fun x19 c20 rx19 tx19 => ?_)
    refine wk_top f0_ (c20.symm.trans c12) ?_
    refine tk_iald hC hK hw hT kM_at5 rfl rfl (show 0 ≤ f0_.toInt by omega) (show f0_.toInt < 6 by omega) dX12_isDoingHere_20 (fun x21 c22 rx21 tx21 => ?_)
    have c22 : gi w3 5 (f0_.toInt).toNat = x21 := (congrArg (gi w3 5) (congrArg Int.toNat (show f0_.toInt = f0_.toInt by omega))).trans c22
    refine wk_top f3_ (c22.symm.trans c15) ?_
    refine lv_imul hx hb dX12_isDoingHere_21 ?_
    refine lv_topi (fun x23 ex23 => ?_)
    have ex23 : x23.toInt = (3 : Int) * f3_.toInt := by rw [ex23]; exact wk_mul (show (-2147483648) ≤ (3 : Int) * f3_.toInt by omega) (show (3 : Int) * f3_.toInt ≤ 2147483647 by omega)
    refine lv_iadd hx hb dX12_isDoingHere_22 ?_
    refine lv_topi (fun x24 ex24 => ?_)
    have ex24 : x24.toInt = x18.toInt + x23.toInt := by rw [ex24]; exact wk_add (show (-2147483648) ≤ x18.toInt + x23.toInt by omega) (show x18.toInt + x23.toInt ≤ 2147483647 by omega)
    refine lv_istore_n (lv' := [(2, .int x24), (0, .ref (ad 0)), (1, .int (-1))]) hx hb dX12_isDoingHere_23 rfl hl (by decide) rfl (fun ls hl => ?_)
    refine lv_aload_n hx hb dX12_isDoingHere_24 rfl (lv_at hl 1 rfl) ?_
    refine tk_getA hC hK hw hT hinX12 kM_at0 (by decide) rfl 5 (by decide) (List.mem_of_getElem? (i := 3) rfl) rfl rfl dX12_isDoingHere_25 ?_
    refine lv_iload_n hx hb dX12_isDoingHere_28 rfl (lv_at hl 0 rfl) ?_
    refine lv_iload_n hx hb dX12_isDoingHere_29 rfl (lv_at hl 2 rfl) ?_
    refine tk_iast hC hK hw hT kM_at4 (by decide) rfl rfl (show 0 ≤ x24.toInt by omega) (show x24.toInt < 216 by omega) (by decide) (by decide) dX12_isDoingHere_30 (fun H locs w25 hw hT k27 c26 => ?_)
    have hR := RL_clause hR k27 (show 36 * f0_.toInt + 3 * (gi w3 5 (f0_.toInt).toNat).toInt ≤ ((x24.toInt.toNat : Nat) : Int) by rw [c15]; omega) (show ((x24.toInt.toNat : Nat) : Int) < 36 * f0_.toInt + 36 by omega) (fun r hr => by obtain ⟨x, e, t⟩ := hT.rda (lo := 0) (hi := 12) (i := r) kM_at5 rfl rfl hr; rw [e]; exact t)
    have hF := hF.put kM_at4 (inE_of (a := 0) (b := 216) (by decide) (show 0 ≤ x24.toInt.toNat by omega) (show x24.toInt.toNat ≤ 216 by omega)) k27
    have c28 := k27.gi (Or.inl (tk_ne kM_at0 kM_at4 (by decide))) c12
    have c29 := k27.gi (Or.inl (tk_ne kM_at0 kM_at4 (by decide))) c13
    have c30 := k27.gi (Or.inl (tk_ne kM_at3 kM_at4 (by decide))) c14
    have c31 := k27.gi (Or.inl (tk_ne kM_at5 kM_at4 (by decide))) c15
    have c32 := k27.gi (Or.inl (tk_ne kM_at0 kM_at4 (by decide))) c6
    have c33 := k27.gi (Or.inl (tk_ne kM_at0 kM_at4 (by decide))) c8
    have c26 : gi w25 4 (36 * f0_.toInt + 3 * f3_.toInt + 0).toNat = (-1) := (congrArg (gi w25 4) (congrArg Int.toNat (show 36 * f0_.toInt + 3 * f3_.toInt + 0 = x24.toInt by omega))).trans c26
    refine lv_aload_n hx hb dX12_isDoingHere_31 rfl (lv_at hl 1 rfl) ?_
    refine tk_getA hC hK hw hT hinX12 kM_at0 (by decide) rfl 5 (by decide) (List.mem_of_getElem? (i := 3) rfl) rfl rfl dX12_isDoingHere_32 ?_
    refine lv_iload_n hx hb dX12_isDoingHere_35 rfl (lv_at hl 0 rfl) ?_
    refine lv_iconst (v := 1) hx hb dX12_isDoingHere_36 (by decide) ?_
    refine lv_iadd hx hb dX12_isDoingHere_37 ?_
    refine lv_topi (fun x34 ex34 => ?_)
    have ex34 : x34.toInt = x24.toInt + (1 : Int) := by rw [ex34]; exact wk_add (show (-2147483648) ≤ x24.toInt + (1 : Int) by omega) (show x24.toInt + (1 : Int) ≤ 2147483647 by omega)
    refine lv_iconst (v := (-1)) hx hb dX12_isDoingHere_38 (by decide) ?_
    refine tk_iast hC hK hw hT kM_at4 (by decide) rfl rfl (show 0 ≤ x34.toInt by omega) (show x34.toInt < 216 by omega) (by decide) (by decide) dX12_isDoingHere_39 (fun H locs w35 hw hT k37 c36 => ?_)
    have hR := RL_clause hR k37 (show 36 * f0_.toInt + 3 * (gi w25 5 (f0_.toInt).toNat).toInt ≤ ((x34.toInt.toNat : Nat) : Int) by rw [c31]; omega) (show ((x34.toInt.toNat : Nat) : Int) < 36 * f0_.toInt + 36 by omega) (fun r hr => by obtain ⟨x, e, t⟩ := hT.rda (lo := 0) (hi := 12) (i := r) kM_at5 rfl rfl hr; rw [e]; exact t)
    have hF := hF.put kM_at4 (inE_of (a := 0) (b := 216) (by decide) (show 0 ≤ x34.toInt.toNat by omega) (show x34.toInt.toNat ≤ 216 by omega)) k37
    have c38 := k37.gi (Or.inl (tk_ne kM_at0 kM_at4 (by decide))) c28
    have c39 := k37.gi (Or.inl (tk_ne kM_at0 kM_at4 (by decide))) c29
    have c40 := k37.gi (Or.inl (tk_ne kM_at3 kM_at4 (by decide))) c30
    have c41 := k37.gi (Or.inl (tk_ne kM_at5 kM_at4 (by decide))) c31
    have c42 := k37.gi (Or.inl (tk_ne kM_at0 kM_at4 (by decide))) c32
    have c43 := k37.gi (Or.inl (tk_ne kM_at0 kM_at4 (by decide))) c33
    have c44 := k37.gi (Or.inr (show (36 * f0_.toInt + 3 * f3_.toInt + 0).toNat ≠ x34.toInt.toNat by omega)) c26
    have c36 : gi w35 4 (36 * f0_.toInt + 3 * f3_.toInt + 1).toNat = (-1) := (congrArg (gi w35 4) (congrArg Int.toNat (show 36 * f0_.toInt + 3 * f3_.toInt + 1 = x34.toInt by omega))).trans c36
    refine lv_aload_n hx hb dX12_isDoingHere_40 rfl (lv_at hl 1 rfl) ?_
    refine lv_ldc2 (v := 26982) hx hb hC.2.2.2.1 (hC.2.2.2.2 _ (List.mem_of_getElem? (i := 4) rfl)) dX12_isDoingHere_41 ?_
    refine tk_Vi hC hK hw hT hA hE hSR kM_at0 (by decide) rfl (k_X12_takesWord_1 l adK adV dC dI cy ad B (by omega) (by omega) qr s1    w35 H.size hT ) (cwV 1 hC.2.2.2.2 gX12_isDoingHere_X12_takesWord rfl rfl rfl (by decide +kernel) ⟨Nat.le_of_ble_eq_true rfl, Nat.le_of_ble_eq_true rfl⟩) rfl hl.1 rfl (Nat.le_of_ble_eq_true rfl) dX12_isDoingHere_44 (fun r45 w47 H locs hp46 hw => ?_)
    obtain ⟨hT, k48, hg57⟩ := hp46
    have hR := RL_FE k48 (fun _ => rfl) (fun _ => rfl) (fun _ => rfl) (fun _ => rfl) hR
    have hF := hF.tr k48 (by decide)
    have c58 := k48.gi kM_at0 (by decide) c38
    have c59 := k48.gi kM_at0 (by decide) c39
    have c60 := k48.gi kM_at3 rfl c40
    have c61 := k48.gi kM_at5 rfl c41
    have c62 := k48.gi kM_at0 (by decide) c42
    have c63 := k48.gi kM_at4 rfl c44
    have c64 := k48.gi kM_at4 rfl c36
    rcases hg57 with ⟨rfl, ⟨x49, c50, rx49, tx49⟩⟩ | ⟨rfl, ⟨x51, c52, rx51, tx51⟩, ⟨x53, c54, rx53, tx53⟩⟩ | ⟨rfl, ⟨x55, c56, rx55, tx55⟩⟩
    · have ex49 : x49.toInt = x5.toInt := by rw [← c62.symm.trans c50]
      refine lv_if_eq (tgt := 76) hx hb dX12_isDoingHere_47 (by decide) (fun _ => ?_) (fun c => absurd (by decide) c)
      refine lv_aload_n hx hb dX12_isDoingHere_76 rfl (lv_at hl 1 rfl) ?_
      refine tk_getA hC hK hw hT hinX12 kM_at0 (by decide) rfl 5 (by decide) (List.mem_of_getElem? (i := 3) rfl) rfl rfl dX12_isDoingHere_77 ?_
      refine lv_iload_n hx hb dX12_isDoingHere_80 rfl (lv_at hl 0 rfl) ?_
      refine lv_iconst (v := 2) hx hb dX12_isDoingHere_81 (by decide) ?_
      refine lv_iadd hx hb dX12_isDoingHere_82 ?_
      refine lv_topi (fun x65 ex65 => ?_)
      have ex65 : x65.toInt = x24.toInt + (2 : Int) := by rw [ex65]; exact wk_add (show (-2147483648) ≤ x24.toInt + (2 : Int) by omega) (show x24.toInt + (2 : Int) ≤ 2147483647 by omega)
      refine lv_aload_n hx hb dX12_isDoingHere_83 rfl (lv_at hl 1 rfl) ?_
      refine tk_getA hC hK hw hT hinX12 kM_at0 (by decide) rfl 4 (by decide) (List.mem_of_getElem? (i := 5) rfl) rfl rfl dX12_isDoingHere_84 ?_
      refine lv_aload_n hx hb dX12_isDoingHere_87 rfl (lv_at hl 1 rfl) ?_
      refine tk_geti hC hK hw hT hinX12 kM_at0 (by decide) rfl 17 (by decide) (List.mem_of_getElem? (i := 1) rfl) rfl rfl dX12_isDoingHere_88 (fun x66 c67 rx66 tx66 => ?_)
      refine wk_top f0_ (c67.symm.trans c58) ?_
      refine tk_iald hC hK hw hT kM_at3 rfl rfl (show 0 ≤ f0_.toInt by omega) (show f0_.toInt < 7 by omega) dX12_isDoingHere_91 (fun x68 c69 rx68 tx68 => ?_)
      have c69 : gi w47 3 (f0_.toInt).toNat = x68 := (congrArg (gi w47 3) (congrArg Int.toNat (show f0_.toInt = f0_.toInt by omega))).trans c69
      refine wk_top f2_ (c69.symm.trans c60) ?_
      refine tk_iast hC hK hw hT kM_at4 (by decide) rfl rfl (show 0 ≤ x65.toInt by omega) (show x65.toInt < 216 by omega) (wk_i32 f2_).1 (wk_i32 f2_).2 dX12_isDoingHere_92 (fun H locs w70 hw hT k72 c71 => ?_)
      have hR := RL_clause hR k72 (show 36 * f0_.toInt + 3 * (gi w47 5 (f0_.toInt).toNat).toInt ≤ ((x65.toInt.toNat : Nat) : Int) by rw [c61]; omega) (show ((x65.toInt.toNat : Nat) : Int) < 36 * f0_.toInt + 36 by omega) (fun r hr => by obtain ⟨x, e, t⟩ := hT.rda (lo := 0) (hi := 12) (i := r) kM_at5 rfl rfl hr; rw [e]; exact t)
      have hF := hF.put kM_at4 (inE_of (a := 0) (b := 216) (by decide) (show 0 ≤ x65.toInt.toNat by omega) (show x65.toInt.toNat ≤ 216 by omega)) k72
      have c73 := k72.gi (Or.inl (tk_ne kM_at0 kM_at4 (by decide))) c58
      have c74 := k72.gi (Or.inl (tk_ne kM_at0 kM_at4 (by decide))) c59
      have c75 := k72.gi (Or.inl (tk_ne kM_at3 kM_at4 (by decide))) c60
      have c76 := k72.gi (Or.inl (tk_ne kM_at5 kM_at4 (by decide))) c61
      have c77 := k72.gi (Or.inl (tk_ne kM_at0 kM_at4 (by decide))) c62
      have c78 := k72.gi (Or.inr (show (36 * f0_.toInt + 3 * f3_.toInt + 0).toNat ≠ x65.toInt.toNat by omega)) c63
      have c79 := k72.gi (Or.inr (show (36 * f0_.toInt + 3 * f3_.toInt + 1).toNat ≠ x65.toInt.toNat by omega)) c64
      have c71 : gi w70 4 (36 * f0_.toInt + 3 * f3_.toInt + 2).toNat = f2_ := (congrArg (gi w70 4) (congrArg Int.toNat (show 36 * f0_.toInt + 3 * f3_.toInt + 2 = x65.toInt by omega))).trans c71
      refine lv_aload_n hx hb dX12_isDoingHere_93 rfl (lv_at hl 1 rfl) ?_
      refine tk_getA hC hK hw hT hinX12 kM_at0 (by decide) rfl 6 (by decide) (List.mem_of_getElem? (i := 2) rfl) rfl rfl dX12_isDoingHere_94 ?_
      refine lv_aload_n hx hb dX12_isDoingHere_97 rfl (lv_at hl 1 rfl) ?_
      refine tk_geti hC hK hw hT hinX12 kM_at0 (by decide) rfl 17 (by decide) (List.mem_of_getElem? (i := 1) rfl) rfl rfl dX12_isDoingHere_98 (fun x80 c81 rx80 tx80 => ?_)
      refine wk_top f0_ (c81.symm.trans c73) ?_
      refine lv_dup2_11 hx hb dX12_isDoingHere_101 rfl rfl ?_
      refine tk_iald hC hK hw hT kM_at5 rfl rfl (show 0 ≤ f0_.toInt by omega) (show f0_.toInt < 6 by omega) dX12_isDoingHere_102 (fun x82 c83 rx82 tx82 => ?_)
      have c83 : gi w70 5 (f0_.toInt).toNat = x82 := (congrArg (gi w70 5) (congrArg Int.toNat (show f0_.toInt = f0_.toInt by omega))).trans c83
      refine wk_top f3_ (c83.symm.trans c76) ?_
      refine lv_iconst (v := 1) hx hb dX12_isDoingHere_103 (by decide) ?_
      refine lv_iadd hx hb dX12_isDoingHere_104 ?_
      refine lv_topi (fun x84 ex84 => ?_)
      have ex84 : x84.toInt = f3_.toInt + (1 : Int) := by rw [ex84]; exact wk_add (show (-2147483648) ≤ f3_.toInt + (1 : Int) by omega) (show f3_.toInt + (1 : Int) ≤ 2147483647 by omega)
      refine tk_iast hC hK hw hT kM_at5 (by decide) rfl rfl (show 0 ≤ f0_.toInt by omega) (show f0_.toInt < 6 by omega) (show 0 ≤ x84.toInt by omega) (show x84.toInt ≤ 12 by omega) dX12_isDoingHere_105 (fun H locs w85 hw hT k87 c86 => ?_)
      have hR := RL_add (t := f0_.toInt) (K := f3_) (b := (-1)) hR k87 c76 (by rw [show gi w85 5 (f0_.toInt).toNat = x84 from c86]; omega) (by omega) c79 (c71.trans c75.symm) (by rw [c75]; omega) (Or.inl (by decide))
      have hF := hF.put kM_at5 (inE_of (a := 0) (b := 6) (by decide) (show 0 ≤ f0_.toInt.toNat by omega) (show f0_.toInt.toNat ≤ 6 by omega)) k87
      have c88 := k87.gi (Or.inl (tk_ne kM_at0 kM_at5 (by decide))) c73
      have c89 := k87.gi (Or.inl (tk_ne kM_at0 kM_at5 (by decide))) c74
      have c90 := k87.gi (Or.inl (tk_ne kM_at3 kM_at5 (by decide))) c75
      have c91 := k87.gi (Or.inl (tk_ne kM_at0 kM_at5 (by decide))) c77
      have c92 := k87.gi (Or.inl (tk_ne kM_at4 kM_at5 (by decide))) c78
      have c93 := k87.gi (Or.inl (tk_ne kM_at4 kM_at5 (by decide))) c79
      have c94 := k87.gi (Or.inl (tk_ne kM_at4 kM_at5 (by decide))) c71
      have c86 : gi w85 5 (f0_.toInt).toNat = x84 := (congrArg (gi w85 5) (congrArg Int.toNat (show f0_.toInt = f0_.toInt by omega))).trans c86
      refine lv_iconst (v := 1) hx hb dX12_isDoingHere_106 (by decide) ?_
      exact tk_zret hC hr rfl hlocks hK ⟨hT, hF, (Or.inr (Or.inr (Or.inl ⟨rfl, ⟨x5, c91, (show 1 ≤ x5.toInt by omega), (show x5.toInt ≤ 400 by omega)⟩, ⟨f0_, c88, (show 0 ≤ f0_.toInt by omega), (show f0_.toInt ≤ 5 by omega)⟩, hR, (by simp only [c88, cf0_, c90, c89]; omega), (by simp only [c88, cf0_, cf3_, c86]; omega)⟩)))⟩ hw dX12_isDoingHere_107
    · have ex51 : x51.toInt = x5.toInt := by rw [← c62.symm.trans c52]
      refine lv_if_eq (tgt := 76) hx hb dX12_isDoingHere_47 (by decide) (fun c => absurd c (by decide)) (fun _ => ?_)
      refine lv_aload_n hx hb dX12_isDoingHere_50 rfl (lv_at hl 1 rfl) ?_
      refine tk_getA hC hK hw hT hinX12 kM_at0 (by decide) rfl 5 (by decide) (List.mem_of_getElem? (i := 3) rfl) rfl rfl dX12_isDoingHere_51 ?_
      refine lv_iload_n hx hb dX12_isDoingHere_54 rfl (lv_at hl 0 rfl) ?_
      refine lv_iconst (v := 1) hx hb dX12_isDoingHere_55 (by decide) ?_
      refine lv_iadd hx hb dX12_isDoingHere_56 ?_
      refine lv_topi (fun x95 ex95 => ?_)
      have ex95 : x95.toInt = x24.toInt + (1 : Int) := by rw [ex95]; exact wk_add (show (-2147483648) ≤ x24.toInt + (1 : Int) by omega) (show x24.toInt + (1 : Int) ≤ 2147483647 by omega)
      refine lv_aload_n hx hb dX12_isDoingHere_57 rfl (lv_at hl 1 rfl) ?_
      refine tk_getA hC hK hw hT hinX12 kM_at0 (by decide) rfl 4 (by decide) (List.mem_of_getElem? (i := 5) rfl) rfl rfl dX12_isDoingHere_58 ?_
      refine lv_aload_n hx hb dX12_isDoingHere_61 rfl (lv_at hl 1 rfl) ?_
      refine tk_geti hC hK hw hT hinX12 kM_at0 (by decide) rfl 17 (by decide) (List.mem_of_getElem? (i := 1) rfl) rfl rfl dX12_isDoingHere_62 (fun x96 c97 rx96 tx96 => ?_)
      refine wk_top f0_ (c97.symm.trans c58) ?_
      refine tk_iald hC hK hw hT kM_at3 rfl rfl (show 0 ≤ f0_.toInt by omega) (show f0_.toInt < 7 by omega) dX12_isDoingHere_65 (fun x98 c99 rx98 tx98 => ?_)
      have c99 : gi w47 3 (f0_.toInt).toNat = x98 := (congrArg (gi w47 3) (congrArg Int.toNat (show f0_.toInt = f0_.toInt by omega))).trans c99
      refine wk_top f2_ (c99.symm.trans c60) ?_
      refine tk_iast hC hK hw hT kM_at4 (by decide) rfl rfl (show 0 ≤ x95.toInt by omega) (show x95.toInt < 216 by omega) (wk_i32 f2_).1 (wk_i32 f2_).2 dX12_isDoingHere_66 (fun H locs w100 hw hT k102 c101 => ?_)
      have hR := RL_clause hR k102 (show 36 * f0_.toInt + 3 * (gi w47 5 (f0_.toInt).toNat).toInt ≤ ((x95.toInt.toNat : Nat) : Int) by rw [c61]; omega) (show ((x95.toInt.toNat : Nat) : Int) < 36 * f0_.toInt + 36 by omega) (fun r hr => by obtain ⟨x, e, t⟩ := hT.rda (lo := 0) (hi := 12) (i := r) kM_at5 rfl rfl hr; rw [e]; exact t)
      have hF := hF.put kM_at4 (inE_of (a := 0) (b := 216) (by decide) (show 0 ≤ x95.toInt.toNat by omega) (show x95.toInt.toNat ≤ 216 by omega)) k102
      have c103 := k102.gi (Or.inl (tk_ne kM_at0 kM_at4 (by decide))) c58
      have c104 := k102.gi (Or.inl (tk_ne kM_at0 kM_at4 (by decide))) c59
      have c105 := k102.gi (Or.inl (tk_ne kM_at3 kM_at4 (by decide))) c60
      have c106 := k102.gi (Or.inl (tk_ne kM_at5 kM_at4 (by decide))) c61
      have c107 := k102.gi (Or.inl (tk_ne kM_at0 kM_at4 (by decide))) c62
      have c108 := k102.gi (Or.inr (show (36 * f0_.toInt + 3 * f3_.toInt + 0).toNat ≠ x95.toInt.toNat by omega)) c63
      have c109 := k102.gi (Or.inl (tk_ne kM_at0 kM_at4 (by decide))) c54
      have c101 : gi w100 4 (36 * f0_.toInt + 3 * f3_.toInt + 1).toNat = f2_ := (congrArg (gi w100 4) (congrArg Int.toNat (show 36 * f0_.toInt + 3 * f3_.toInt + 1 = x95.toInt by omega))).trans c101
      refine lv_aload_n hx hb dX12_isDoingHere_67 rfl (lv_at hl 1 rfl) ?_
      obtain ⟨x110, c111, rx110, tx110⟩ := hT.rdi (lo := 0) (hi := 400) (k := 22) kM_at0 (by decide) rfl
      obtain ⟨x112, c113, rx112, tx112⟩ := hT.rdi (lo := (-100)) (hi := 10) (k := 19) kM_at0 (by decide) rfl
      refine tk_Vi hC hK hw hT hA hE hSR kM_at0 (by decide) rfl (k_X12_tested_1 l adK adV dC dI cy ad B (by omega) (by omega) qr s1    w100 H.size hT f0_ c103 (show 0 ≤ f0_.toInt by omega) (show f0_.toInt ≤ 5 by omega) f1_ c104 (show 0 ≤ f1_.toInt by omega) (show f1_.toInt ≤ 60 by omega) x112 c113 (show (-100) ≤ x112.toInt by omega) (show x112.toInt ≤ 10 by omega) x110 c111 (show 0 ≤ x110.toInt by omega) (show x110.toInt ≤ 400 by omega) f2_ c105 (show 0 ≤ f2_.toInt by omega) (show f2_.toInt ≤ 400 by omega) (show 3 * f2_.toInt ≤ 14 * f1_.toInt by omega) (show f2_.toInt ≤ 280 by omega) f2_.toInt 0 (OKW_nil hR (by rw [c105]) (by omega))) (cwV 0 hC.2.2.2.2 gX12_isDoingHere_X12_tested rfl rfl rfl (by decide +kernel) ⟨Nat.le_of_ble_eq_true rfl, Nat.le_of_ble_eq_true rfl⟩) rfl hl.1 rfl (Nat.le_of_ble_eq_true rfl) dX12_isDoingHere_68 (fun r114 w116 H locs hp115 hw => ?_)
      obtain ⟨hT, k117, hg144⟩ := hp115
      have hF := hF.tr k117 (by decide)
      have c145 := k117.gi kM_at0 (by decide) c103
      have c146 := k117.gi kM_at5 rfl c106
      have c147 := k117.gi kM_at0 (by decide) c107
      have c148 := k117.gi kM_at4 rfl c108
      have c149 := k117.gi kM_at4 rfl c101
      rcases hg144 with ⟨rfl, ⟨x118, c119, rx118, tx118⟩, ⟨x120, c121, rx120, tx120⟩, ⟨x122, c123, rx122, tx122⟩, ⟨x124, c125, rx124, tx124⟩, hq126⟩ | ⟨rfl, ⟨x127, c128, rx127, tx127⟩, ⟨x129, c130, rx129, tx129⟩, ⟨x131, c132, rx131, tx131⟩, ⟨x133, c134, rx133, tx133⟩, hq135⟩ | ⟨rfl, ⟨x136, c137, rx136, tx136⟩, ⟨x138, c139, rx138, tx138⟩, ⟨x140, c141, rx140, tx140⟩, hq142, g143⟩
      · have ex118 : x118.toInt = x5.toInt := by rw [← c147.symm.trans c119]
        have ex122 : x122.toInt = f0_.toInt := by rw [← c145.symm.trans c123]
        obtain ⟨x150, c151, rx150, tx150⟩ := hT.rda (lo := 0) (hi := 400) (i := (f0_.toInt).toNat) kM_at3 rfl rfl (by omega)
        obtain ⟨x152, c153, rx152, tx152⟩ := hT.rdi (lo := 0) (hi := 60) (k := 18) kM_at0 (by decide) rfl
        obtain ⟨x154, c155, rx154, tx154⟩ := hT.rdi (lo := (-100)) (hi := 10) (k := 19) kM_at0 (by decide) rfl
        have hR := hq126
        refine lv_if_ne (tgt := 76) hx hb dX12_isDoingHere_71 (by decide) (fun c => absurd (by decide) c) (fun _ => ?_)
        refine lv_iconst (v := 0) hx hb dX12_isDoingHere_74 (by decide) ?_
        exact tk_zret hC hr rfl hlocks hK ⟨hT, hF, (Or.inl ⟨rfl, ⟨x5, c147, (show 1 ≤ x5.toInt by omega), (show x5.toInt ≤ 400 by omega)⟩, ⟨x120, c121, (show 1 ≤ x120.toInt by omega), (show x120.toInt ≤ 3205 by omega)⟩, ⟨f0_, c145, (show 0 ≤ f0_.toInt by omega), (show f0_.toInt ≤ 5 by omega)⟩, ⟨x124, c125, (show 0 ≤ x124.toInt by omega), (show x124.toInt ≤ 399 by omega)⟩, hR⟩)⟩ hw dX12_isDoingHere_75
      · have ex127 : x127.toInt = x5.toInt := by rw [← c147.symm.trans c128]
        have ex131 : x131.toInt = f0_.toInt := by rw [← c145.symm.trans c132]
        obtain ⟨x156, c157, rx156, tx156⟩ := hT.rda (lo := 0) (hi := 400) (i := (f0_.toInt).toNat) kM_at3 rfl rfl (by omega)
        obtain ⟨x158, c159, rx158, tx158⟩ := hT.rdi (lo := 0) (hi := 60) (k := 18) kM_at0 (by decide) rfl
        obtain ⟨x160, c161, rx160, tx160⟩ := hT.rdi (lo := (-100)) (hi := 10) (k := 19) kM_at0 (by decide) rfl
        have hR := hq135
        refine lv_if_ne (tgt := 76) hx hb dX12_isDoingHere_71 (by decide) (fun c => absurd (by decide) c) (fun _ => ?_)
        refine lv_iconst (v := 0) hx hb dX12_isDoingHere_74 (by decide) ?_
        exact tk_zret hC hr rfl hlocks hK ⟨hT, hF, (Or.inl ⟨rfl, ⟨x5, c147, (show 1 ≤ x5.toInt by omega), (show x5.toInt ≤ 400 by omega)⟩, ⟨x129, c130, (show 1 ≤ x129.toInt by omega), (show x129.toInt ≤ 3205 by omega)⟩, ⟨f0_, c145, (show 0 ≤ f0_.toInt by omega), (show f0_.toInt ≤ 5 by omega)⟩, ⟨x133, c134, (show 0 ≤ x133.toInt by omega), (show x133.toInt ≤ 399 by omega)⟩, hR⟩)⟩ hw dX12_isDoingHere_75
      · have ex136 : x136.toInt = f0_.toInt := by rw [← c145.symm.trans c137]
        obtain ⟨x162, c163, rx162, tx162⟩ := hT.rda (lo := 0) (hi := 400) (i := (f0_.toInt).toNat) kM_at3 rfl rfl (by omega)
        obtain ⟨x164, c165, rx164, tx164⟩ := hT.rdi (lo := 0) (hi := 60) (k := 18) kM_at0 (by decide) rfl
        have g143 : 3 * x162.toInt ≤ 14 * x164.toInt := by have q := g143; simp only [c103, c145, c163, c165] at q; omega
        have hO : OKW w116 f0_.toInt f2_.toInt (1) := by have q := hq142; exact OKW_cast q (by omega)
        refine lv_if_ne (tgt := 76) hx hb dX12_isDoingHere_71 (by decide) (fun _ => ?_) (fun c => absurd c (by decide))
        refine lv_aload_n hx hb dX12_isDoingHere_76 rfl (lv_at hl 1 rfl) ?_
        refine tk_getA hC hK hw hT hinX12 kM_at0 (by decide) rfl 5 (by decide) (List.mem_of_getElem? (i := 3) rfl) rfl rfl dX12_isDoingHere_77 ?_
        refine lv_iload_n hx hb dX12_isDoingHere_80 rfl (lv_at hl 0 rfl) ?_
        refine lv_iconst (v := 2) hx hb dX12_isDoingHere_81 (by decide) ?_
        refine lv_iadd hx hb dX12_isDoingHere_82 ?_
        refine lv_topi (fun x166 ex166 => ?_)
        have ex166 : x166.toInt = x24.toInt + (2 : Int) := by rw [ex166]; exact wk_add (show (-2147483648) ≤ x24.toInt + (2 : Int) by omega) (show x24.toInt + (2 : Int) ≤ 2147483647 by omega)
        refine lv_aload_n hx hb dX12_isDoingHere_83 rfl (lv_at hl 1 rfl) ?_
        refine tk_getA hC hK hw hT hinX12 kM_at0 (by decide) rfl 4 (by decide) (List.mem_of_getElem? (i := 5) rfl) rfl rfl dX12_isDoingHere_84 ?_
        refine lv_aload_n hx hb dX12_isDoingHere_87 rfl (lv_at hl 1 rfl) ?_
        refine tk_geti hC hK hw hT hinX12 kM_at0 (by decide) rfl 17 (by decide) (List.mem_of_getElem? (i := 1) rfl) rfl rfl dX12_isDoingHere_88 (fun x167 c168 rx167 tx167 => ?_)
        refine wk_top f0_ (c168.symm.trans c145) ?_
        refine tk_iald hC hK hw hT kM_at3 rfl rfl (show 0 ≤ f0_.toInt by omega) (show f0_.toInt < 7 by omega) dX12_isDoingHere_91 (fun x169 c170 rx169 tx169 => ?_)
        have c170 : gi w116 3 (f0_.toInt).toNat = x169 := (congrArg (gi w116 3) (congrArg Int.toNat (show f0_.toInt = f0_.toInt by omega))).trans c170
        refine wk_top x162 (c170.symm.trans c163) ?_
        refine tk_iast hC hK hw hT kM_at4 (by decide) rfl rfl (show 0 ≤ x166.toInt by omega) (show x166.toInt < 216 by omega) (wk_i32 x162).1 (wk_i32 x162).2 dX12_isDoingHere_92 (fun H locs w171 hw hT k173 c172 => ?_)
        have hO := OKW_clause hO k173 (show 36 * f0_.toInt + 3 * (gi w116 5 (f0_.toInt).toNat).toInt ≤ ((x166.toInt.toNat : Nat) : Int) by rw [c146]; omega) (show ((x166.toInt.toNat : Nat) : Int) < 36 * f0_.toInt + 36 by omega) (fun r hr => by obtain ⟨x, e, t⟩ := hT.rda (lo := 0) (hi := 12) (i := r) kM_at5 rfl rfl hr; rw [e]; exact t)
        have hF := hF.put kM_at4 (inE_of (a := 0) (b := 216) (by decide) (show 0 ≤ x166.toInt.toNat by omega) (show x166.toInt.toNat ≤ 216 by omega)) k173
        have c174 := k173.gi (Or.inl (tk_ne kM_at0 kM_at4 (by decide))) c145
        have c175 := k173.gi (Or.inl (tk_ne kM_at5 kM_at4 (by decide))) c146
        have c176 := k173.gi (Or.inl (tk_ne kM_at0 kM_at4 (by decide))) c147
        have c177 := k173.gi (Or.inr (show (36 * f0_.toInt + 3 * f3_.toInt + 0).toNat ≠ x166.toInt.toNat by omega)) c148
        have c178 := k173.gi (Or.inr (show (36 * f0_.toInt + 3 * f3_.toInt + 1).toNat ≠ x166.toInt.toNat by omega)) c149
        have c179 := k173.gi (Or.inl (tk_ne kM_at0 kM_at4 (by decide))) c139
        have c180 := k173.gi (Or.inl (tk_ne kM_at0 kM_at4 (by decide))) c141
        have c181 := k173.gi (Or.inl (tk_ne kM_at3 kM_at4 (by decide))) c163
        have c182 := k173.gi (Or.inl (tk_ne kM_at0 kM_at4 (by decide))) c165
        have c172 : gi w171 4 (36 * f0_.toInt + 3 * f3_.toInt + 2).toNat = x162 := (congrArg (gi w171 4) (congrArg Int.toNat (show 36 * f0_.toInt + 3 * f3_.toInt + 2 = x166.toInt by omega))).trans c172
        refine lv_aload_n hx hb dX12_isDoingHere_93 rfl (lv_at hl 1 rfl) ?_
        refine tk_getA hC hK hw hT hinX12 kM_at0 (by decide) rfl 6 (by decide) (List.mem_of_getElem? (i := 2) rfl) rfl rfl dX12_isDoingHere_94 ?_
        refine lv_aload_n hx hb dX12_isDoingHere_97 rfl (lv_at hl 1 rfl) ?_
        refine tk_geti hC hK hw hT hinX12 kM_at0 (by decide) rfl 17 (by decide) (List.mem_of_getElem? (i := 1) rfl) rfl rfl dX12_isDoingHere_98 (fun x183 c184 rx183 tx183 => ?_)
        refine wk_top f0_ (c184.symm.trans c174) ?_
        refine lv_dup2_11 hx hb dX12_isDoingHere_101 rfl rfl ?_
        refine tk_iald hC hK hw hT kM_at5 rfl rfl (show 0 ≤ f0_.toInt by omega) (show f0_.toInt < 6 by omega) dX12_isDoingHere_102 (fun x185 c186 rx185 tx185 => ?_)
        have c186 : gi w171 5 (f0_.toInt).toNat = x185 := (congrArg (gi w171 5) (congrArg Int.toNat (show f0_.toInt = f0_.toInt by omega))).trans c186
        refine wk_top f3_ (c186.symm.trans c175) ?_
        refine lv_iconst (v := 1) hx hb dX12_isDoingHere_103 (by decide) ?_
        refine lv_iadd hx hb dX12_isDoingHere_104 ?_
        refine lv_topi (fun x187 ex187 => ?_)
        have ex187 : x187.toInt = f3_.toInt + (1 : Int) := by rw [ex187]; exact wk_add (show (-2147483648) ≤ f3_.toInt + (1 : Int) by omega) (show f3_.toInt + (1 : Int) ≤ 2147483647 by omega)
        refine tk_iast hC hK hw hT kM_at5 (by decide) rfl rfl (show 0 ≤ f0_.toInt by omega) (show f0_.toInt < 6 by omega) (show 0 ≤ x187.toInt by omega) (show x187.toInt ≤ 12 by omega) dX12_isDoingHere_105 (fun H locs w188 hw hT k190 c189 => ?_)
        have hR := RL_add (t := f0_.toInt) (K := f3_) (b := f2_) hO.1 k190 c175 (by rw [show gi w188 5 (f0_.toInt).toNat = x187 from c189]; omega) (by omega) c178 (c172.trans c181.symm) (by rw [c181]; omega) (Or.inr (OKW_cast hO (by omega)))
        have hF := hF.put kM_at5 (inE_of (a := 0) (b := 6) (by decide) (show 0 ≤ f0_.toInt.toNat by omega) (show f0_.toInt.toNat ≤ 6 by omega)) k190
        have c191 := k190.gi (Or.inl (tk_ne kM_at0 kM_at5 (by decide))) c174
        have c192 := k190.gi (Or.inl (tk_ne kM_at0 kM_at5 (by decide))) c176
        have c193 := k190.gi (Or.inl (tk_ne kM_at4 kM_at5 (by decide))) c177
        have c194 := k190.gi (Or.inl (tk_ne kM_at4 kM_at5 (by decide))) c178
        have c195 := k190.gi (Or.inl (tk_ne kM_at0 kM_at5 (by decide))) c179
        have c196 := k190.gi (Or.inl (tk_ne kM_at0 kM_at5 (by decide))) c180
        have c197 := k190.gi (Or.inl (tk_ne kM_at3 kM_at5 (by decide))) c181
        have c198 := k190.gi (Or.inl (tk_ne kM_at0 kM_at5 (by decide))) c182
        have c199 := k190.gi (Or.inl (tk_ne kM_at4 kM_at5 (by decide))) c172
        have c189 : gi w188 5 (f0_.toInt).toNat = x187 := (congrArg (gi w188 5) (congrArg Int.toNat (show f0_.toInt = f0_.toInt by omega))).trans c189
        refine lv_iconst (v := 1) hx hb dX12_isDoingHere_106 (by decide) ?_
        exact tk_zret hC hr rfl hlocks hK ⟨hT, hF, (Or.inr (Or.inr (Or.inl ⟨rfl, ⟨x5, c192, (show 1 ≤ x5.toInt by omega), (show x5.toInt ≤ 400 by omega)⟩, ⟨f0_, c191, (show 0 ≤ f0_.toInt by omega), (show f0_.toInt ≤ 5 by omega)⟩, hR, (by simp only [c191, cf0_, c197, c198]; omega), (by simp only [c191, cf0_, cf3_, c189]; omega)⟩)))⟩ hw dX12_isDoingHere_107
    · have ex55 : x55.toInt = x5.toInt := by rw [← c62.symm.trans c56]
      refine lv_if_eq (tgt := 76) hx hb dX12_isDoingHere_47 (by decide) (fun c => absurd c (by decide)) (fun _ => ?_)
      refine lv_aload_n hx hb dX12_isDoingHere_50 rfl (lv_at hl 1 rfl) ?_
      refine tk_getA hC hK hw hT hinX12 kM_at0 (by decide) rfl 5 (by decide) (List.mem_of_getElem? (i := 3) rfl) rfl rfl dX12_isDoingHere_51 ?_
      refine lv_iload_n hx hb dX12_isDoingHere_54 rfl (lv_at hl 0 rfl) ?_
      refine lv_iconst (v := 1) hx hb dX12_isDoingHere_55 (by decide) ?_
      refine lv_iadd hx hb dX12_isDoingHere_56 ?_
      refine lv_topi (fun x200 ex200 => ?_)
      have ex200 : x200.toInt = x24.toInt + (1 : Int) := by rw [ex200]; exact wk_add (show (-2147483648) ≤ x24.toInt + (1 : Int) by omega) (show x24.toInt + (1 : Int) ≤ 2147483647 by omega)
      refine lv_aload_n hx hb dX12_isDoingHere_57 rfl (lv_at hl 1 rfl) ?_
      refine tk_getA hC hK hw hT hinX12 kM_at0 (by decide) rfl 4 (by decide) (List.mem_of_getElem? (i := 5) rfl) rfl rfl dX12_isDoingHere_58 ?_
      refine lv_aload_n hx hb dX12_isDoingHere_61 rfl (lv_at hl 1 rfl) ?_
      refine tk_geti hC hK hw hT hinX12 kM_at0 (by decide) rfl 17 (by decide) (List.mem_of_getElem? (i := 1) rfl) rfl rfl dX12_isDoingHere_62 (fun x201 c202 rx201 tx201 => ?_)
      refine wk_top f0_ (c202.symm.trans c58) ?_
      refine tk_iald hC hK hw hT kM_at3 rfl rfl (show 0 ≤ f0_.toInt by omega) (show f0_.toInt < 7 by omega) dX12_isDoingHere_65 (fun x203 c204 rx203 tx203 => ?_)
      have c204 : gi w47 3 (f0_.toInt).toNat = x203 := (congrArg (gi w47 3) (congrArg Int.toNat (show f0_.toInt = f0_.toInt by omega))).trans c204
      refine wk_top f2_ (c204.symm.trans c60) ?_
      refine tk_iast hC hK hw hT kM_at4 (by decide) rfl rfl (show 0 ≤ x200.toInt by omega) (show x200.toInt < 216 by omega) (wk_i32 f2_).1 (wk_i32 f2_).2 dX12_isDoingHere_66 (fun H locs w205 hw hT k207 c206 => ?_)
      have hR := RL_clause hR k207 (show 36 * f0_.toInt + 3 * (gi w47 5 (f0_.toInt).toNat).toInt ≤ ((x200.toInt.toNat : Nat) : Int) by rw [c61]; omega) (show ((x200.toInt.toNat : Nat) : Int) < 36 * f0_.toInt + 36 by omega) (fun r hr => by obtain ⟨x, e, t⟩ := hT.rda (lo := 0) (hi := 12) (i := r) kM_at5 rfl rfl hr; rw [e]; exact t)
      have hF := hF.put kM_at4 (inE_of (a := 0) (b := 216) (by decide) (show 0 ≤ x200.toInt.toNat by omega) (show x200.toInt.toNat ≤ 216 by omega)) k207
      have c208 := k207.gi (Or.inl (tk_ne kM_at0 kM_at4 (by decide))) c58
      have c209 := k207.gi (Or.inl (tk_ne kM_at0 kM_at4 (by decide))) c59
      have c210 := k207.gi (Or.inl (tk_ne kM_at3 kM_at4 (by decide))) c60
      have c211 := k207.gi (Or.inl (tk_ne kM_at5 kM_at4 (by decide))) c61
      have c212 := k207.gi (Or.inl (tk_ne kM_at0 kM_at4 (by decide))) c62
      have c213 := k207.gi (Or.inr (show (36 * f0_.toInt + 3 * f3_.toInt + 0).toNat ≠ x200.toInt.toNat by omega)) c63
      have c206 : gi w205 4 (36 * f0_.toInt + 3 * f3_.toInt + 1).toNat = f2_ := (congrArg (gi w205 4) (congrArg Int.toNat (show 36 * f0_.toInt + 3 * f3_.toInt + 1 = x200.toInt by omega))).trans c206
      refine lv_aload_n hx hb dX12_isDoingHere_67 rfl (lv_at hl 1 rfl) ?_
      obtain ⟨x214, c215, rx214, tx214⟩ := hT.rdi (lo := 0) (hi := 400) (k := 22) kM_at0 (by decide) rfl
      obtain ⟨x216, c217, rx216, tx216⟩ := hT.rdi (lo := (-100)) (hi := 10) (k := 19) kM_at0 (by decide) rfl
      refine tk_Vi hC hK hw hT hA hE hSR kM_at0 (by decide) rfl (k_X12_tested_1 l adK adV dC dI cy ad B (by omega) (by omega) qr s1    w205 H.size hT f0_ c208 (show 0 ≤ f0_.toInt by omega) (show f0_.toInt ≤ 5 by omega) f1_ c209 (show 0 ≤ f1_.toInt by omega) (show f1_.toInt ≤ 60 by omega) x216 c217 (show (-100) ≤ x216.toInt by omega) (show x216.toInt ≤ 10 by omega) x214 c215 (show 0 ≤ x214.toInt by omega) (show x214.toInt ≤ 400 by omega) f2_ c210 (show 0 ≤ f2_.toInt by omega) (show f2_.toInt ≤ 400 by omega) (show 3 * f2_.toInt ≤ 14 * f1_.toInt by omega) (show f2_.toInt ≤ 280 by omega) f2_.toInt 0 (OKW_nil hR (by rw [c210]) (by omega))) (cwV 0 hC.2.2.2.2 gX12_isDoingHere_X12_tested rfl rfl rfl (by decide +kernel) ⟨Nat.le_of_ble_eq_true rfl, Nat.le_of_ble_eq_true rfl⟩) rfl hl.1 rfl (Nat.le_of_ble_eq_true rfl) dX12_isDoingHere_68 (fun r218 w220 H locs hp219 hw => ?_)
      obtain ⟨hT, k221, hg248⟩ := hp219
      have hF := hF.tr k221 (by decide)
      have c249 := k221.gi kM_at0 (by decide) c208
      have c250 := k221.gi kM_at5 rfl c211
      have c251 := k221.gi kM_at0 (by decide) c212
      have c252 := k221.gi kM_at4 rfl c213
      have c253 := k221.gi kM_at4 rfl c206
      rcases hg248 with ⟨rfl, ⟨x222, c223, rx222, tx222⟩, ⟨x224, c225, rx224, tx224⟩, ⟨x226, c227, rx226, tx226⟩, ⟨x228, c229, rx228, tx228⟩, hq230⟩ | ⟨rfl, ⟨x231, c232, rx231, tx231⟩, ⟨x233, c234, rx233, tx233⟩, ⟨x235, c236, rx235, tx235⟩, ⟨x237, c238, rx237, tx237⟩, hq239⟩ | ⟨rfl, ⟨x240, c241, rx240, tx240⟩, ⟨x242, c243, rx242, tx242⟩, ⟨x244, c245, rx244, tx244⟩, hq246, g247⟩
      · have ex222 : x222.toInt = x5.toInt := by rw [← c251.symm.trans c223]
        have ex226 : x226.toInt = f0_.toInt := by rw [← c249.symm.trans c227]
        obtain ⟨x254, c255, rx254, tx254⟩ := hT.rda (lo := 0) (hi := 400) (i := (f0_.toInt).toNat) kM_at3 rfl rfl (by omega)
        obtain ⟨x256, c257, rx256, tx256⟩ := hT.rdi (lo := 0) (hi := 60) (k := 18) kM_at0 (by decide) rfl
        obtain ⟨x258, c259, rx258, tx258⟩ := hT.rdi (lo := (-100)) (hi := 10) (k := 19) kM_at0 (by decide) rfl
        have hR := hq230
        refine lv_if_ne (tgt := 76) hx hb dX12_isDoingHere_71 (by decide) (fun c => absurd (by decide) c) (fun _ => ?_)
        refine lv_iconst (v := 0) hx hb dX12_isDoingHere_74 (by decide) ?_
        exact tk_zret hC hr rfl hlocks hK ⟨hT, hF, (Or.inl ⟨rfl, ⟨x5, c251, (show 1 ≤ x5.toInt by omega), (show x5.toInt ≤ 400 by omega)⟩, ⟨x224, c225, (show 1 ≤ x224.toInt by omega), (show x224.toInt ≤ 3205 by omega)⟩, ⟨f0_, c249, (show 0 ≤ f0_.toInt by omega), (show f0_.toInt ≤ 5 by omega)⟩, ⟨x228, c229, (show 0 ≤ x228.toInt by omega), (show x228.toInt ≤ 399 by omega)⟩, hR⟩)⟩ hw dX12_isDoingHere_75
      · have ex231 : x231.toInt = x5.toInt := by rw [← c251.symm.trans c232]
        have ex235 : x235.toInt = f0_.toInt := by rw [← c249.symm.trans c236]
        obtain ⟨x260, c261, rx260, tx260⟩ := hT.rda (lo := 0) (hi := 400) (i := (f0_.toInt).toNat) kM_at3 rfl rfl (by omega)
        obtain ⟨x262, c263, rx262, tx262⟩ := hT.rdi (lo := 0) (hi := 60) (k := 18) kM_at0 (by decide) rfl
        obtain ⟨x264, c265, rx264, tx264⟩ := hT.rdi (lo := (-100)) (hi := 10) (k := 19) kM_at0 (by decide) rfl
        have hR := hq239
        refine lv_if_ne (tgt := 76) hx hb dX12_isDoingHere_71 (by decide) (fun c => absurd (by decide) c) (fun _ => ?_)
        refine lv_iconst (v := 0) hx hb dX12_isDoingHere_74 (by decide) ?_
        exact tk_zret hC hr rfl hlocks hK ⟨hT, hF, (Or.inl ⟨rfl, ⟨x5, c251, (show 1 ≤ x5.toInt by omega), (show x5.toInt ≤ 400 by omega)⟩, ⟨x233, c234, (show 1 ≤ x233.toInt by omega), (show x233.toInt ≤ 3205 by omega)⟩, ⟨f0_, c249, (show 0 ≤ f0_.toInt by omega), (show f0_.toInt ≤ 5 by omega)⟩, ⟨x237, c238, (show 0 ≤ x237.toInt by omega), (show x237.toInt ≤ 399 by omega)⟩, hR⟩)⟩ hw dX12_isDoingHere_75
      · have ex240 : x240.toInt = f0_.toInt := by rw [← c249.symm.trans c241]
        obtain ⟨x266, c267, rx266, tx266⟩ := hT.rda (lo := 0) (hi := 400) (i := (f0_.toInt).toNat) kM_at3 rfl rfl (by omega)
        obtain ⟨x268, c269, rx268, tx268⟩ := hT.rdi (lo := 0) (hi := 60) (k := 18) kM_at0 (by decide) rfl
        have g247 : 3 * x266.toInt ≤ 14 * x268.toInt := by have q := g247; simp only [c208, c249, c267, c269] at q; omega
        have hO : OKW w220 f0_.toInt f2_.toInt (1) := by have q := hq246; exact OKW_cast q (by omega)
        refine lv_if_ne (tgt := 76) hx hb dX12_isDoingHere_71 (by decide) (fun _ => ?_) (fun c => absurd c (by decide))
        refine lv_aload_n hx hb dX12_isDoingHere_76 rfl (lv_at hl 1 rfl) ?_
        refine tk_getA hC hK hw hT hinX12 kM_at0 (by decide) rfl 5 (by decide) (List.mem_of_getElem? (i := 3) rfl) rfl rfl dX12_isDoingHere_77 ?_
        refine lv_iload_n hx hb dX12_isDoingHere_80 rfl (lv_at hl 0 rfl) ?_
        refine lv_iconst (v := 2) hx hb dX12_isDoingHere_81 (by decide) ?_
        refine lv_iadd hx hb dX12_isDoingHere_82 ?_
        refine lv_topi (fun x270 ex270 => ?_)
        have ex270 : x270.toInt = x24.toInt + (2 : Int) := by rw [ex270]; exact wk_add (show (-2147483648) ≤ x24.toInt + (2 : Int) by omega) (show x24.toInt + (2 : Int) ≤ 2147483647 by omega)
        refine lv_aload_n hx hb dX12_isDoingHere_83 rfl (lv_at hl 1 rfl) ?_
        refine tk_getA hC hK hw hT hinX12 kM_at0 (by decide) rfl 4 (by decide) (List.mem_of_getElem? (i := 5) rfl) rfl rfl dX12_isDoingHere_84 ?_
        refine lv_aload_n hx hb dX12_isDoingHere_87 rfl (lv_at hl 1 rfl) ?_
        refine tk_geti hC hK hw hT hinX12 kM_at0 (by decide) rfl 17 (by decide) (List.mem_of_getElem? (i := 1) rfl) rfl rfl dX12_isDoingHere_88 (fun x271 c272 rx271 tx271 => ?_)
        refine wk_top f0_ (c272.symm.trans c249) ?_
        refine tk_iald hC hK hw hT kM_at3 rfl rfl (show 0 ≤ f0_.toInt by omega) (show f0_.toInt < 7 by omega) dX12_isDoingHere_91 (fun x273 c274 rx273 tx273 => ?_)
        have c274 : gi w220 3 (f0_.toInt).toNat = x273 := (congrArg (gi w220 3) (congrArg Int.toNat (show f0_.toInt = f0_.toInt by omega))).trans c274
        refine wk_top x266 (c274.symm.trans c267) ?_
        refine tk_iast hC hK hw hT kM_at4 (by decide) rfl rfl (show 0 ≤ x270.toInt by omega) (show x270.toInt < 216 by omega) (wk_i32 x266).1 (wk_i32 x266).2 dX12_isDoingHere_92 (fun H locs w275 hw hT k277 c276 => ?_)
        have hO := OKW_clause hO k277 (show 36 * f0_.toInt + 3 * (gi w220 5 (f0_.toInt).toNat).toInt ≤ ((x270.toInt.toNat : Nat) : Int) by rw [c250]; omega) (show ((x270.toInt.toNat : Nat) : Int) < 36 * f0_.toInt + 36 by omega) (fun r hr => by obtain ⟨x, e, t⟩ := hT.rda (lo := 0) (hi := 12) (i := r) kM_at5 rfl rfl hr; rw [e]; exact t)
        have hF := hF.put kM_at4 (inE_of (a := 0) (b := 216) (by decide) (show 0 ≤ x270.toInt.toNat by omega) (show x270.toInt.toNat ≤ 216 by omega)) k277
        have c278 := k277.gi (Or.inl (tk_ne kM_at0 kM_at4 (by decide))) c249
        have c279 := k277.gi (Or.inl (tk_ne kM_at5 kM_at4 (by decide))) c250
        have c280 := k277.gi (Or.inl (tk_ne kM_at0 kM_at4 (by decide))) c251
        have c281 := k277.gi (Or.inr (show (36 * f0_.toInt + 3 * f3_.toInt + 0).toNat ≠ x270.toInt.toNat by omega)) c252
        have c282 := k277.gi (Or.inr (show (36 * f0_.toInt + 3 * f3_.toInt + 1).toNat ≠ x270.toInt.toNat by omega)) c253
        have c283 := k277.gi (Or.inl (tk_ne kM_at0 kM_at4 (by decide))) c243
        have c284 := k277.gi (Or.inl (tk_ne kM_at0 kM_at4 (by decide))) c245
        have c285 := k277.gi (Or.inl (tk_ne kM_at3 kM_at4 (by decide))) c267
        have c286 := k277.gi (Or.inl (tk_ne kM_at0 kM_at4 (by decide))) c269
        have c276 : gi w275 4 (36 * f0_.toInt + 3 * f3_.toInt + 2).toNat = x266 := (congrArg (gi w275 4) (congrArg Int.toNat (show 36 * f0_.toInt + 3 * f3_.toInt + 2 = x270.toInt by omega))).trans c276
        refine lv_aload_n hx hb dX12_isDoingHere_93 rfl (lv_at hl 1 rfl) ?_
        refine tk_getA hC hK hw hT hinX12 kM_at0 (by decide) rfl 6 (by decide) (List.mem_of_getElem? (i := 2) rfl) rfl rfl dX12_isDoingHere_94 ?_
        refine lv_aload_n hx hb dX12_isDoingHere_97 rfl (lv_at hl 1 rfl) ?_
        refine tk_geti hC hK hw hT hinX12 kM_at0 (by decide) rfl 17 (by decide) (List.mem_of_getElem? (i := 1) rfl) rfl rfl dX12_isDoingHere_98 (fun x287 c288 rx287 tx287 => ?_)
        refine wk_top f0_ (c288.symm.trans c278) ?_
        refine lv_dup2_11 hx hb dX12_isDoingHere_101 rfl rfl ?_
        refine tk_iald hC hK hw hT kM_at5 rfl rfl (show 0 ≤ f0_.toInt by omega) (show f0_.toInt < 6 by omega) dX12_isDoingHere_102 (fun x289 c290 rx289 tx289 => ?_)
        have c290 : gi w275 5 (f0_.toInt).toNat = x289 := (congrArg (gi w275 5) (congrArg Int.toNat (show f0_.toInt = f0_.toInt by omega))).trans c290
        refine wk_top f3_ (c290.symm.trans c279) ?_
        refine lv_iconst (v := 1) hx hb dX12_isDoingHere_103 (by decide) ?_
        refine lv_iadd hx hb dX12_isDoingHere_104 ?_
        refine lv_topi (fun x291 ex291 => ?_)
        have ex291 : x291.toInt = f3_.toInt + (1 : Int) := by rw [ex291]; exact wk_add (show (-2147483648) ≤ f3_.toInt + (1 : Int) by omega) (show f3_.toInt + (1 : Int) ≤ 2147483647 by omega)
        refine tk_iast hC hK hw hT kM_at5 (by decide) rfl rfl (show 0 ≤ f0_.toInt by omega) (show f0_.toInt < 6 by omega) (show 0 ≤ x291.toInt by omega) (show x291.toInt ≤ 12 by omega) dX12_isDoingHere_105 (fun H locs w292 hw hT k294 c293 => ?_)
        have hR := RL_add (t := f0_.toInt) (K := f3_) (b := f2_) hO.1 k294 c279 (by rw [show gi w292 5 (f0_.toInt).toNat = x291 from c293]; omega) (by omega) c282 (c276.trans c285.symm) (by rw [c285]; omega) (Or.inr (OKW_cast hO (by omega)))
        have hF := hF.put kM_at5 (inE_of (a := 0) (b := 6) (by decide) (show 0 ≤ f0_.toInt.toNat by omega) (show f0_.toInt.toNat ≤ 6 by omega)) k294
        have c295 := k294.gi (Or.inl (tk_ne kM_at0 kM_at5 (by decide))) c278
        have c296 := k294.gi (Or.inl (tk_ne kM_at0 kM_at5 (by decide))) c280
        have c297 := k294.gi (Or.inl (tk_ne kM_at4 kM_at5 (by decide))) c281
        have c298 := k294.gi (Or.inl (tk_ne kM_at4 kM_at5 (by decide))) c282
        have c299 := k294.gi (Or.inl (tk_ne kM_at0 kM_at5 (by decide))) c283
        have c300 := k294.gi (Or.inl (tk_ne kM_at0 kM_at5 (by decide))) c284
        have c301 := k294.gi (Or.inl (tk_ne kM_at3 kM_at5 (by decide))) c285
        have c302 := k294.gi (Or.inl (tk_ne kM_at0 kM_at5 (by decide))) c286
        have c303 := k294.gi (Or.inl (tk_ne kM_at4 kM_at5 (by decide))) c276
        have c293 : gi w292 5 (f0_.toInt).toNat = x291 := (congrArg (gi w292 5) (congrArg Int.toNat (show f0_.toInt = f0_.toInt by omega))).trans c293
        refine lv_iconst (v := 1) hx hb dX12_isDoingHere_106 (by decide) ?_
        exact tk_zret hC hr rfl hlocks hK ⟨hT, hF, (Or.inr (Or.inr (Or.inl ⟨rfl, ⟨x5, c296, (show 1 ≤ x5.toInt by omega), (show x5.toInt ≤ 400 by omega)⟩, ⟨f0_, c295, (show 0 ≤ f0_.toInt by omega), (show f0_.toInt ≤ 5 by omega)⟩, hR, (by simp only [c295, cf0_, c301, c302]; omega), (by simp only [c295, cf0_, cf3_, c293]; omega)⟩)))⟩ hw dX12_isDoingHere_107
  · refine lv_bipush (v := 36) hx hb dX12_isDoingHere_4 (by decide) ?_
    refine lv_aload_n hx hb dX12_isDoingHere_6 rfl (lv_at hl 0 rfl) ?_
    refine tk_geti hC hK hw hT hinX12 kM_at0 (by decide) rfl 17 (by decide) (List.mem_of_getElem? (i := 1) rfl) rfl rfl dX12_isDoingHere_7 (fun x304 c305 rx304 tx304 => ?_)
    refine wk_top f0_ (c305.symm.trans c12) ?_
    refine lv_imul hx hb dX12_isDoingHere_10 ?_
    refine lv_topi (fun x306 ex306 => ?_)
    have ex306 : x306.toInt = (36 : Int) * f0_.toInt := by rw [ex306]; exact wk_mul (show (-2147483648) ≤ (36 : Int) * f0_.toInt by omega) (show (36 : Int) * f0_.toInt ≤ 2147483647 by omega)
    refine lv_iconst (v := 3) hx hb dX12_isDoingHere_11 (by decide) ?_
    refine lv_aload_n hx hb dX12_isDoingHere_12 rfl (lv_at hl 0 rfl) ?_
    refine tk_getA hC hK hw hT hinX12 kM_at0 (by decide) rfl 6 (by decide) (List.mem_of_getElem? (i := 2) rfl) rfl rfl dX12_isDoingHere_13 ?_
    refine lv_aload_n hx hb dX12_isDoingHere_16 rfl (lv_at hl 0 rfl) ?_
    refine tk_geti hC hK hw hT hinX12 kM_at0 (by decide) rfl 17 (by decide) (List.mem_of_getElem? (i := 1) rfl) rfl rfl dX12_isDoingHere_17 (fun x307 c308 rx307 tx307 => ?_)
    refine wk_top f0_ (c308.symm.trans c12) ?_
    refine tk_iald hC hK hw hT kM_at5 rfl rfl (show 0 ≤ f0_.toInt by omega) (show f0_.toInt < 6 by omega) dX12_isDoingHere_20 (fun x309 c310 rx309 tx309 => ?_)
    have c310 : gi w3 5 (f0_.toInt).toNat = x309 := (congrArg (gi w3 5) (congrArg Int.toNat (show f0_.toInt = f0_.toInt by omega))).trans c310
    refine wk_top f3_ (c310.symm.trans c15) ?_
    refine lv_imul hx hb dX12_isDoingHere_21 ?_
    refine lv_topi (fun x311 ex311 => ?_)
    have ex311 : x311.toInt = (3 : Int) * f3_.toInt := by rw [ex311]; exact wk_mul (show (-2147483648) ≤ (3 : Int) * f3_.toInt by omega) (show (3 : Int) * f3_.toInt ≤ 2147483647 by omega)
    refine lv_iadd hx hb dX12_isDoingHere_22 ?_
    refine lv_topi (fun x312 ex312 => ?_)
    have ex312 : x312.toInt = x306.toInt + x311.toInt := by rw [ex312]; exact wk_add (show (-2147483648) ≤ x306.toInt + x311.toInt by omega) (show x306.toInt + x311.toInt ≤ 2147483647 by omega)
    refine lv_istore_n (lv' := [(2, .int x312), (0, .ref (ad 0)), (1, .int (-1))]) hx hb dX12_isDoingHere_23 rfl hl (by decide) rfl (fun ls hl => ?_)
    refine lv_aload_n hx hb dX12_isDoingHere_24 rfl (lv_at hl 1 rfl) ?_
    refine tk_getA hC hK hw hT hinX12 kM_at0 (by decide) rfl 5 (by decide) (List.mem_of_getElem? (i := 3) rfl) rfl rfl dX12_isDoingHere_25 ?_
    refine lv_iload_n hx hb dX12_isDoingHere_28 rfl (lv_at hl 0 rfl) ?_
    refine lv_iload_n hx hb dX12_isDoingHere_29 rfl (lv_at hl 2 rfl) ?_
    refine tk_iast hC hK hw hT kM_at4 (by decide) rfl rfl (show 0 ≤ x312.toInt by omega) (show x312.toInt < 216 by omega) (by decide) (by decide) dX12_isDoingHere_30 (fun H locs w313 hw hT k315 c314 => ?_)
    have hR := RL_clause hR k315 (show 36 * f0_.toInt + 3 * (gi w3 5 (f0_.toInt).toNat).toInt ≤ ((x312.toInt.toNat : Nat) : Int) by rw [c15]; omega) (show ((x312.toInt.toNat : Nat) : Int) < 36 * f0_.toInt + 36 by omega) (fun r hr => by obtain ⟨x, e, t⟩ := hT.rda (lo := 0) (hi := 12) (i := r) kM_at5 rfl rfl hr; rw [e]; exact t)
    have hF := hF.put kM_at4 (inE_of (a := 0) (b := 216) (by decide) (show 0 ≤ x312.toInt.toNat by omega) (show x312.toInt.toNat ≤ 216 by omega)) k315
    have c316 := k315.gi (Or.inl (tk_ne kM_at0 kM_at4 (by decide))) c12
    have c317 := k315.gi (Or.inl (tk_ne kM_at0 kM_at4 (by decide))) c13
    have c318 := k315.gi (Or.inl (tk_ne kM_at3 kM_at4 (by decide))) c14
    have c319 := k315.gi (Or.inl (tk_ne kM_at5 kM_at4 (by decide))) c15
    have c320 := k315.gi (Or.inl (tk_ne kM_at0 kM_at4 (by decide))) c10
    have c314 : gi w313 4 (36 * f0_.toInt + 3 * f3_.toInt + 0).toNat = (-1) := (congrArg (gi w313 4) (congrArg Int.toNat (show 36 * f0_.toInt + 3 * f3_.toInt + 0 = x312.toInt by omega))).trans c314
    refine lv_aload_n hx hb dX12_isDoingHere_31 rfl (lv_at hl 1 rfl) ?_
    refine tk_getA hC hK hw hT hinX12 kM_at0 (by decide) rfl 5 (by decide) (List.mem_of_getElem? (i := 3) rfl) rfl rfl dX12_isDoingHere_32 ?_
    refine lv_iload_n hx hb dX12_isDoingHere_35 rfl (lv_at hl 0 rfl) ?_
    refine lv_iconst (v := 1) hx hb dX12_isDoingHere_36 (by decide) ?_
    refine lv_iadd hx hb dX12_isDoingHere_37 ?_
    refine lv_topi (fun x321 ex321 => ?_)
    have ex321 : x321.toInt = x312.toInt + (1 : Int) := by rw [ex321]; exact wk_add (show (-2147483648) ≤ x312.toInt + (1 : Int) by omega) (show x312.toInt + (1 : Int) ≤ 2147483647 by omega)
    refine lv_iconst (v := (-1)) hx hb dX12_isDoingHere_38 (by decide) ?_
    refine tk_iast hC hK hw hT kM_at4 (by decide) rfl rfl (show 0 ≤ x321.toInt by omega) (show x321.toInt < 216 by omega) (by decide) (by decide) dX12_isDoingHere_39 (fun H locs w322 hw hT k324 c323 => ?_)
    have hR := RL_clause hR k324 (show 36 * f0_.toInt + 3 * (gi w313 5 (f0_.toInt).toNat).toInt ≤ ((x321.toInt.toNat : Nat) : Int) by rw [c319]; omega) (show ((x321.toInt.toNat : Nat) : Int) < 36 * f0_.toInt + 36 by omega) (fun r hr => by obtain ⟨x, e, t⟩ := hT.rda (lo := 0) (hi := 12) (i := r) kM_at5 rfl rfl hr; rw [e]; exact t)
    have hF := hF.put kM_at4 (inE_of (a := 0) (b := 216) (by decide) (show 0 ≤ x321.toInt.toNat by omega) (show x321.toInt.toNat ≤ 216 by omega)) k324
    have c325 := k324.gi (Or.inl (tk_ne kM_at0 kM_at4 (by decide))) c316
    have c326 := k324.gi (Or.inl (tk_ne kM_at0 kM_at4 (by decide))) c317
    have c327 := k324.gi (Or.inl (tk_ne kM_at3 kM_at4 (by decide))) c318
    have c328 := k324.gi (Or.inl (tk_ne kM_at5 kM_at4 (by decide))) c319
    have c329 := k324.gi (Or.inl (tk_ne kM_at0 kM_at4 (by decide))) c320
    have c330 := k324.gi (Or.inr (show (36 * f0_.toInt + 3 * f3_.toInt + 0).toNat ≠ x321.toInt.toNat by omega)) c314
    have c323 : gi w322 4 (36 * f0_.toInt + 3 * f3_.toInt + 1).toNat = (-1) := (congrArg (gi w322 4) (congrArg Int.toNat (show 36 * f0_.toInt + 3 * f3_.toInt + 1 = x321.toInt by omega))).trans c323
    refine lv_aload_n hx hb dX12_isDoingHere_40 rfl (lv_at hl 1 rfl) ?_
    refine lv_ldc2 (v := 26982) hx hb hC.2.2.2.1 (hC.2.2.2.2 _ (List.mem_of_getElem? (i := 4) rfl)) dX12_isDoingHere_41 ?_
    refine tk_Vi hC hK hw hT hA hE hSR kM_at0 (by decide) rfl (k_X12_takesWord_1 l adK adV dC dI cy ad B (by omega) (by omega) qr s1    w322 H.size hT ) (cwV 1 hC.2.2.2.2 gX12_isDoingHere_X12_takesWord rfl rfl rfl (by decide +kernel) ⟨Nat.le_of_ble_eq_true rfl, Nat.le_of_ble_eq_true rfl⟩) rfl hl.1 rfl (Nat.le_of_ble_eq_true rfl) dX12_isDoingHere_44 (fun r331 w333 H locs hp332 hw => ?_)
    obtain ⟨hT, k334, hg343⟩ := hp332
    have hR := RL_FE k334 (fun _ => rfl) (fun _ => rfl) (fun _ => rfl) (fun _ => rfl) hR
    have hF := hF.tr k334 (by decide)
    have c344 := k334.gi kM_at0 (by decide) c325
    have c345 := k334.gi kM_at0 (by decide) c326
    have c346 := k334.gi kM_at3 rfl c327
    have c347 := k334.gi kM_at5 rfl c328
    have c348 := k334.gi kM_at0 (by decide) c329
    have c349 := k334.gi kM_at4 rfl c330
    have c350 := k334.gi kM_at4 rfl c323
    rcases hg343 with ⟨rfl, ⟨x335, c336, rx335, tx335⟩⟩ | ⟨rfl, ⟨x337, c338, rx337, tx337⟩, ⟨x339, c340, rx339, tx339⟩⟩ | ⟨rfl, ⟨x341, c342, rx341, tx341⟩⟩
    · have ex335 : x335.toInt = x9.toInt := by rw [← c348.symm.trans c336]
      refine lv_if_eq (tgt := 76) hx hb dX12_isDoingHere_47 (by decide) (fun _ => ?_) (fun c => absurd (by decide) c)
      refine lv_aload_n hx hb dX12_isDoingHere_76 rfl (lv_at hl 1 rfl) ?_
      refine tk_getA hC hK hw hT hinX12 kM_at0 (by decide) rfl 5 (by decide) (List.mem_of_getElem? (i := 3) rfl) rfl rfl dX12_isDoingHere_77 ?_
      refine lv_iload_n hx hb dX12_isDoingHere_80 rfl (lv_at hl 0 rfl) ?_
      refine lv_iconst (v := 2) hx hb dX12_isDoingHere_81 (by decide) ?_
      refine lv_iadd hx hb dX12_isDoingHere_82 ?_
      refine lv_topi (fun x351 ex351 => ?_)
      have ex351 : x351.toInt = x312.toInt + (2 : Int) := by rw [ex351]; exact wk_add (show (-2147483648) ≤ x312.toInt + (2 : Int) by omega) (show x312.toInt + (2 : Int) ≤ 2147483647 by omega)
      refine lv_aload_n hx hb dX12_isDoingHere_83 rfl (lv_at hl 1 rfl) ?_
      refine tk_getA hC hK hw hT hinX12 kM_at0 (by decide) rfl 4 (by decide) (List.mem_of_getElem? (i := 5) rfl) rfl rfl dX12_isDoingHere_84 ?_
      refine lv_aload_n hx hb dX12_isDoingHere_87 rfl (lv_at hl 1 rfl) ?_
      refine tk_geti hC hK hw hT hinX12 kM_at0 (by decide) rfl 17 (by decide) (List.mem_of_getElem? (i := 1) rfl) rfl rfl dX12_isDoingHere_88 (fun x352 c353 rx352 tx352 => ?_)
      refine wk_top f0_ (c353.symm.trans c344) ?_
      refine tk_iald hC hK hw hT kM_at3 rfl rfl (show 0 ≤ f0_.toInt by omega) (show f0_.toInt < 7 by omega) dX12_isDoingHere_91 (fun x354 c355 rx354 tx354 => ?_)
      have c355 : gi w333 3 (f0_.toInt).toNat = x354 := (congrArg (gi w333 3) (congrArg Int.toNat (show f0_.toInt = f0_.toInt by omega))).trans c355
      refine wk_top f2_ (c355.symm.trans c346) ?_
      refine tk_iast hC hK hw hT kM_at4 (by decide) rfl rfl (show 0 ≤ x351.toInt by omega) (show x351.toInt < 216 by omega) (wk_i32 f2_).1 (wk_i32 f2_).2 dX12_isDoingHere_92 (fun H locs w356 hw hT k358 c357 => ?_)
      have hR := RL_clause hR k358 (show 36 * f0_.toInt + 3 * (gi w333 5 (f0_.toInt).toNat).toInt ≤ ((x351.toInt.toNat : Nat) : Int) by rw [c347]; omega) (show ((x351.toInt.toNat : Nat) : Int) < 36 * f0_.toInt + 36 by omega) (fun r hr => by obtain ⟨x, e, t⟩ := hT.rda (lo := 0) (hi := 12) (i := r) kM_at5 rfl rfl hr; rw [e]; exact t)
      have hF := hF.put kM_at4 (inE_of (a := 0) (b := 216) (by decide) (show 0 ≤ x351.toInt.toNat by omega) (show x351.toInt.toNat ≤ 216 by omega)) k358
      have c359 := k358.gi (Or.inl (tk_ne kM_at0 kM_at4 (by decide))) c344
      have c360 := k358.gi (Or.inl (tk_ne kM_at0 kM_at4 (by decide))) c345
      have c361 := k358.gi (Or.inl (tk_ne kM_at3 kM_at4 (by decide))) c346
      have c362 := k358.gi (Or.inl (tk_ne kM_at5 kM_at4 (by decide))) c347
      have c363 := k358.gi (Or.inl (tk_ne kM_at0 kM_at4 (by decide))) c348
      have c364 := k358.gi (Or.inr (show (36 * f0_.toInt + 3 * f3_.toInt + 0).toNat ≠ x351.toInt.toNat by omega)) c349
      have c365 := k358.gi (Or.inr (show (36 * f0_.toInt + 3 * f3_.toInt + 1).toNat ≠ x351.toInt.toNat by omega)) c350
      have c357 : gi w356 4 (36 * f0_.toInt + 3 * f3_.toInt + 2).toNat = f2_ := (congrArg (gi w356 4) (congrArg Int.toNat (show 36 * f0_.toInt + 3 * f3_.toInt + 2 = x351.toInt by omega))).trans c357
      refine lv_aload_n hx hb dX12_isDoingHere_93 rfl (lv_at hl 1 rfl) ?_
      refine tk_getA hC hK hw hT hinX12 kM_at0 (by decide) rfl 6 (by decide) (List.mem_of_getElem? (i := 2) rfl) rfl rfl dX12_isDoingHere_94 ?_
      refine lv_aload_n hx hb dX12_isDoingHere_97 rfl (lv_at hl 1 rfl) ?_
      refine tk_geti hC hK hw hT hinX12 kM_at0 (by decide) rfl 17 (by decide) (List.mem_of_getElem? (i := 1) rfl) rfl rfl dX12_isDoingHere_98 (fun x366 c367 rx366 tx366 => ?_)
      refine wk_top f0_ (c367.symm.trans c359) ?_
      refine lv_dup2_11 hx hb dX12_isDoingHere_101 rfl rfl ?_
      refine tk_iald hC hK hw hT kM_at5 rfl rfl (show 0 ≤ f0_.toInt by omega) (show f0_.toInt < 6 by omega) dX12_isDoingHere_102 (fun x368 c369 rx368 tx368 => ?_)
      have c369 : gi w356 5 (f0_.toInt).toNat = x368 := (congrArg (gi w356 5) (congrArg Int.toNat (show f0_.toInt = f0_.toInt by omega))).trans c369
      refine wk_top f3_ (c369.symm.trans c362) ?_
      refine lv_iconst (v := 1) hx hb dX12_isDoingHere_103 (by decide) ?_
      refine lv_iadd hx hb dX12_isDoingHere_104 ?_
      refine lv_topi (fun x370 ex370 => ?_)
      have ex370 : x370.toInt = f3_.toInt + (1 : Int) := by rw [ex370]; exact wk_add (show (-2147483648) ≤ f3_.toInt + (1 : Int) by omega) (show f3_.toInt + (1 : Int) ≤ 2147483647 by omega)
      refine tk_iast hC hK hw hT kM_at5 (by decide) rfl rfl (show 0 ≤ f0_.toInt by omega) (show f0_.toInt < 6 by omega) (show 0 ≤ x370.toInt by omega) (show x370.toInt ≤ 12 by omega) dX12_isDoingHere_105 (fun H locs w371 hw hT k373 c372 => ?_)
      have hR := RL_add (t := f0_.toInt) (K := f3_) (b := (-1)) hR k373 c362 (by rw [show gi w371 5 (f0_.toInt).toNat = x370 from c372]; omega) (by omega) c365 (c357.trans c361.symm) (by rw [c361]; omega) (Or.inl (by decide))
      have hF := hF.put kM_at5 (inE_of (a := 0) (b := 6) (by decide) (show 0 ≤ f0_.toInt.toNat by omega) (show f0_.toInt.toNat ≤ 6 by omega)) k373
      have c374 := k373.gi (Or.inl (tk_ne kM_at0 kM_at5 (by decide))) c359
      have c375 := k373.gi (Or.inl (tk_ne kM_at0 kM_at5 (by decide))) c360
      have c376 := k373.gi (Or.inl (tk_ne kM_at3 kM_at5 (by decide))) c361
      have c377 := k373.gi (Or.inl (tk_ne kM_at0 kM_at5 (by decide))) c363
      have c378 := k373.gi (Or.inl (tk_ne kM_at4 kM_at5 (by decide))) c364
      have c379 := k373.gi (Or.inl (tk_ne kM_at4 kM_at5 (by decide))) c365
      have c380 := k373.gi (Or.inl (tk_ne kM_at4 kM_at5 (by decide))) c357
      have c372 : gi w371 5 (f0_.toInt).toNat = x370 := (congrArg (gi w371 5) (congrArg Int.toNat (show f0_.toInt = f0_.toInt by omega))).trans c372
      refine lv_iconst (v := 1) hx hb dX12_isDoingHere_106 (by decide) ?_
      exact tk_zret hC hr rfl hlocks hK ⟨hT, hF, (Or.inr (Or.inr (Or.inr ⟨rfl, ⟨x9, c377, (show 0 ≤ x9.toInt by omega), (show x9.toInt ≤ 400 by omega)⟩, ⟨f0_, c374, (show 0 ≤ f0_.toInt by omega), (show f0_.toInt ≤ 5 by omega)⟩, hR, (by simp only [c374, cf0_, c376, c375]; omega), (by simp only [c374, cf0_, cf3_, c372]; omega)⟩)))⟩ hw dX12_isDoingHere_107
    · have ex337 : x337.toInt = x9.toInt := by rw [← c348.symm.trans c338]
      refine lv_if_eq (tgt := 76) hx hb dX12_isDoingHere_47 (by decide) (fun c => absurd c (by decide)) (fun _ => ?_)
      refine lv_aload_n hx hb dX12_isDoingHere_50 rfl (lv_at hl 1 rfl) ?_
      refine tk_getA hC hK hw hT hinX12 kM_at0 (by decide) rfl 5 (by decide) (List.mem_of_getElem? (i := 3) rfl) rfl rfl dX12_isDoingHere_51 ?_
      refine lv_iload_n hx hb dX12_isDoingHere_54 rfl (lv_at hl 0 rfl) ?_
      refine lv_iconst (v := 1) hx hb dX12_isDoingHere_55 (by decide) ?_
      refine lv_iadd hx hb dX12_isDoingHere_56 ?_
      refine lv_topi (fun x381 ex381 => ?_)
      have ex381 : x381.toInt = x312.toInt + (1 : Int) := by rw [ex381]; exact wk_add (show (-2147483648) ≤ x312.toInt + (1 : Int) by omega) (show x312.toInt + (1 : Int) ≤ 2147483647 by omega)
      refine lv_aload_n hx hb dX12_isDoingHere_57 rfl (lv_at hl 1 rfl) ?_
      refine tk_getA hC hK hw hT hinX12 kM_at0 (by decide) rfl 4 (by decide) (List.mem_of_getElem? (i := 5) rfl) rfl rfl dX12_isDoingHere_58 ?_
      refine lv_aload_n hx hb dX12_isDoingHere_61 rfl (lv_at hl 1 rfl) ?_
      refine tk_geti hC hK hw hT hinX12 kM_at0 (by decide) rfl 17 (by decide) (List.mem_of_getElem? (i := 1) rfl) rfl rfl dX12_isDoingHere_62 (fun x382 c383 rx382 tx382 => ?_)
      refine wk_top f0_ (c383.symm.trans c344) ?_
      refine tk_iald hC hK hw hT kM_at3 rfl rfl (show 0 ≤ f0_.toInt by omega) (show f0_.toInt < 7 by omega) dX12_isDoingHere_65 (fun x384 c385 rx384 tx384 => ?_)
      have c385 : gi w333 3 (f0_.toInt).toNat = x384 := (congrArg (gi w333 3) (congrArg Int.toNat (show f0_.toInt = f0_.toInt by omega))).trans c385
      refine wk_top f2_ (c385.symm.trans c346) ?_
      refine tk_iast hC hK hw hT kM_at4 (by decide) rfl rfl (show 0 ≤ x381.toInt by omega) (show x381.toInt < 216 by omega) (wk_i32 f2_).1 (wk_i32 f2_).2 dX12_isDoingHere_66 (fun H locs w386 hw hT k388 c387 => ?_)
      have hR := RL_clause hR k388 (show 36 * f0_.toInt + 3 * (gi w333 5 (f0_.toInt).toNat).toInt ≤ ((x381.toInt.toNat : Nat) : Int) by rw [c347]; omega) (show ((x381.toInt.toNat : Nat) : Int) < 36 * f0_.toInt + 36 by omega) (fun r hr => by obtain ⟨x, e, t⟩ := hT.rda (lo := 0) (hi := 12) (i := r) kM_at5 rfl rfl hr; rw [e]; exact t)
      have hF := hF.put kM_at4 (inE_of (a := 0) (b := 216) (by decide) (show 0 ≤ x381.toInt.toNat by omega) (show x381.toInt.toNat ≤ 216 by omega)) k388
      have c389 := k388.gi (Or.inl (tk_ne kM_at0 kM_at4 (by decide))) c344
      have c390 := k388.gi (Or.inl (tk_ne kM_at0 kM_at4 (by decide))) c345
      have c391 := k388.gi (Or.inl (tk_ne kM_at3 kM_at4 (by decide))) c346
      have c392 := k388.gi (Or.inl (tk_ne kM_at5 kM_at4 (by decide))) c347
      have c393 := k388.gi (Or.inl (tk_ne kM_at0 kM_at4 (by decide))) c348
      have c394 := k388.gi (Or.inr (show (36 * f0_.toInt + 3 * f3_.toInt + 0).toNat ≠ x381.toInt.toNat by omega)) c349
      have c395 := k388.gi (Or.inl (tk_ne kM_at0 kM_at4 (by decide))) c340
      have c387 : gi w386 4 (36 * f0_.toInt + 3 * f3_.toInt + 1).toNat = f2_ := (congrArg (gi w386 4) (congrArg Int.toNat (show 36 * f0_.toInt + 3 * f3_.toInt + 1 = x381.toInt by omega))).trans c387
      refine lv_aload_n hx hb dX12_isDoingHere_67 rfl (lv_at hl 1 rfl) ?_
      obtain ⟨x396, c397, rx396, tx396⟩ := hT.rdi (lo := 0) (hi := 400) (k := 22) kM_at0 (by decide) rfl
      obtain ⟨x398, c399, rx398, tx398⟩ := hT.rdi (lo := (-100)) (hi := 10) (k := 19) kM_at0 (by decide) rfl
      refine tk_Vi hC hK hw hT hA hE hSR kM_at0 (by decide) rfl (k_X12_tested_1 l adK adV dC dI cy ad B (by omega) (by omega) qr s1    w386 H.size hT f0_ c389 (show 0 ≤ f0_.toInt by omega) (show f0_.toInt ≤ 5 by omega) f1_ c390 (show 0 ≤ f1_.toInt by omega) (show f1_.toInt ≤ 60 by omega) x398 c399 (show (-100) ≤ x398.toInt by omega) (show x398.toInt ≤ 10 by omega) x396 c397 (show 0 ≤ x396.toInt by omega) (show x396.toInt ≤ 400 by omega) f2_ c391 (show 0 ≤ f2_.toInt by omega) (show f2_.toInt ≤ 400 by omega) (show 3 * f2_.toInt ≤ 14 * f1_.toInt by omega) (show f2_.toInt ≤ 280 by omega) f2_.toInt 0 (OKW_nil hR (by rw [c391]) (by omega))) (cwV 0 hC.2.2.2.2 gX12_isDoingHere_X12_tested rfl rfl rfl (by decide +kernel) ⟨Nat.le_of_ble_eq_true rfl, Nat.le_of_ble_eq_true rfl⟩) rfl hl.1 rfl (Nat.le_of_ble_eq_true rfl) dX12_isDoingHere_68 (fun r400 w402 H locs hp401 hw => ?_)
      obtain ⟨hT, k403, hg430⟩ := hp401
      have hF := hF.tr k403 (by decide)
      have c431 := k403.gi kM_at0 (by decide) c389
      have c432 := k403.gi kM_at5 rfl c392
      have c433 := k403.gi kM_at0 (by decide) c393
      have c434 := k403.gi kM_at4 rfl c394
      have c435 := k403.gi kM_at4 rfl c387
      rcases hg430 with ⟨rfl, ⟨x404, c405, rx404, tx404⟩, ⟨x406, c407, rx406, tx406⟩, ⟨x408, c409, rx408, tx408⟩, ⟨x410, c411, rx410, tx410⟩, hq412⟩ | ⟨rfl, ⟨x413, c414, rx413, tx413⟩, ⟨x415, c416, rx415, tx415⟩, ⟨x417, c418, rx417, tx417⟩, ⟨x419, c420, rx419, tx419⟩, hq421⟩ | ⟨rfl, ⟨x422, c423, rx422, tx422⟩, ⟨x424, c425, rx424, tx424⟩, ⟨x426, c427, rx426, tx426⟩, hq428, g429⟩
      · have ex404 : x404.toInt = x9.toInt := by rw [← c433.symm.trans c405]
        have ex408 : x408.toInt = f0_.toInt := by rw [← c431.symm.trans c409]
        obtain ⟨x436, c437, rx436, tx436⟩ := hT.rda (lo := 0) (hi := 400) (i := (f0_.toInt).toNat) kM_at3 rfl rfl (by omega)
        obtain ⟨x438, c439, rx438, tx438⟩ := hT.rdi (lo := 0) (hi := 60) (k := 18) kM_at0 (by decide) rfl
        obtain ⟨x440, c441, rx440, tx440⟩ := hT.rdi (lo := (-100)) (hi := 10) (k := 19) kM_at0 (by decide) rfl
        have hR := hq412
        refine lv_if_ne (tgt := 76) hx hb dX12_isDoingHere_71 (by decide) (fun c => absurd (by decide) c) (fun _ => ?_)
        refine lv_iconst (v := 0) hx hb dX12_isDoingHere_74 (by decide) ?_
        exact tk_zret hC hr rfl hlocks hK ⟨hT, hF, (Or.inl ⟨rfl, ⟨x9, c433, (show 1 ≤ x9.toInt by omega), (show x9.toInt ≤ 400 by omega)⟩, ⟨x406, c407, (show 1 ≤ x406.toInt by omega), (show x406.toInt ≤ 3205 by omega)⟩, ⟨f0_, c431, (show 0 ≤ f0_.toInt by omega), (show f0_.toInt ≤ 5 by omega)⟩, ⟨x410, c411, (show 0 ≤ x410.toInt by omega), (show x410.toInt ≤ 399 by omega)⟩, hR⟩)⟩ hw dX12_isDoingHere_75
      · have ex413 : x413.toInt = x9.toInt := by rw [← c433.symm.trans c414]
        have ex417 : x417.toInt = f0_.toInt := by rw [← c431.symm.trans c418]
        obtain ⟨x442, c443, rx442, tx442⟩ := hT.rda (lo := 0) (hi := 400) (i := (f0_.toInt).toNat) kM_at3 rfl rfl (by omega)
        obtain ⟨x444, c445, rx444, tx444⟩ := hT.rdi (lo := 0) (hi := 60) (k := 18) kM_at0 (by decide) rfl
        obtain ⟨x446, c447, rx446, tx446⟩ := hT.rdi (lo := (-100)) (hi := 10) (k := 19) kM_at0 (by decide) rfl
        have hR := hq421
        refine lv_if_ne (tgt := 76) hx hb dX12_isDoingHere_71 (by decide) (fun c => absurd (by decide) c) (fun _ => ?_)
        refine lv_iconst (v := 0) hx hb dX12_isDoingHere_74 (by decide) ?_
        exact tk_zret hC hr rfl hlocks hK ⟨hT, hF, (Or.inl ⟨rfl, ⟨x9, c433, (show 1 ≤ x9.toInt by omega), (show x9.toInt ≤ 400 by omega)⟩, ⟨x415, c416, (show 1 ≤ x415.toInt by omega), (show x415.toInt ≤ 3205 by omega)⟩, ⟨f0_, c431, (show 0 ≤ f0_.toInt by omega), (show f0_.toInt ≤ 5 by omega)⟩, ⟨x419, c420, (show 0 ≤ x419.toInt by omega), (show x419.toInt ≤ 399 by omega)⟩, hR⟩)⟩ hw dX12_isDoingHere_75
      · have ex422 : x422.toInt = f0_.toInt := by rw [← c431.symm.trans c423]
        obtain ⟨x448, c449, rx448, tx448⟩ := hT.rda (lo := 0) (hi := 400) (i := (f0_.toInt).toNat) kM_at3 rfl rfl (by omega)
        obtain ⟨x450, c451, rx450, tx450⟩ := hT.rdi (lo := 0) (hi := 60) (k := 18) kM_at0 (by decide) rfl
        have g429 : 3 * x448.toInt ≤ 14 * x450.toInt := by have q := g429; simp only [c389, c431, c449, c451] at q; omega
        have hO : OKW w402 f0_.toInt f2_.toInt (1) := by have q := hq428; exact OKW_cast q (by omega)
        refine lv_if_ne (tgt := 76) hx hb dX12_isDoingHere_71 (by decide) (fun _ => ?_) (fun c => absurd c (by decide))
        refine lv_aload_n hx hb dX12_isDoingHere_76 rfl (lv_at hl 1 rfl) ?_
        refine tk_getA hC hK hw hT hinX12 kM_at0 (by decide) rfl 5 (by decide) (List.mem_of_getElem? (i := 3) rfl) rfl rfl dX12_isDoingHere_77 ?_
        refine lv_iload_n hx hb dX12_isDoingHere_80 rfl (lv_at hl 0 rfl) ?_
        refine lv_iconst (v := 2) hx hb dX12_isDoingHere_81 (by decide) ?_
        refine lv_iadd hx hb dX12_isDoingHere_82 ?_
        refine lv_topi (fun x452 ex452 => ?_)
        have ex452 : x452.toInt = x312.toInt + (2 : Int) := by rw [ex452]; exact wk_add (show (-2147483648) ≤ x312.toInt + (2 : Int) by omega) (show x312.toInt + (2 : Int) ≤ 2147483647 by omega)
        refine lv_aload_n hx hb dX12_isDoingHere_83 rfl (lv_at hl 1 rfl) ?_
        refine tk_getA hC hK hw hT hinX12 kM_at0 (by decide) rfl 4 (by decide) (List.mem_of_getElem? (i := 5) rfl) rfl rfl dX12_isDoingHere_84 ?_
        refine lv_aload_n hx hb dX12_isDoingHere_87 rfl (lv_at hl 1 rfl) ?_
        refine tk_geti hC hK hw hT hinX12 kM_at0 (by decide) rfl 17 (by decide) (List.mem_of_getElem? (i := 1) rfl) rfl rfl dX12_isDoingHere_88 (fun x453 c454 rx453 tx453 => ?_)
        refine wk_top f0_ (c454.symm.trans c431) ?_
        refine tk_iald hC hK hw hT kM_at3 rfl rfl (show 0 ≤ f0_.toInt by omega) (show f0_.toInt < 7 by omega) dX12_isDoingHere_91 (fun x455 c456 rx455 tx455 => ?_)
        have c456 : gi w402 3 (f0_.toInt).toNat = x455 := (congrArg (gi w402 3) (congrArg Int.toNat (show f0_.toInt = f0_.toInt by omega))).trans c456
        refine wk_top x448 (c456.symm.trans c449) ?_
        refine tk_iast hC hK hw hT kM_at4 (by decide) rfl rfl (show 0 ≤ x452.toInt by omega) (show x452.toInt < 216 by omega) (wk_i32 x448).1 (wk_i32 x448).2 dX12_isDoingHere_92 (fun H locs w457 hw hT k459 c458 => ?_)
        have hO := OKW_clause hO k459 (show 36 * f0_.toInt + 3 * (gi w402 5 (f0_.toInt).toNat).toInt ≤ ((x452.toInt.toNat : Nat) : Int) by rw [c432]; omega) (show ((x452.toInt.toNat : Nat) : Int) < 36 * f0_.toInt + 36 by omega) (fun r hr => by obtain ⟨x, e, t⟩ := hT.rda (lo := 0) (hi := 12) (i := r) kM_at5 rfl rfl hr; rw [e]; exact t)
        have hF := hF.put kM_at4 (inE_of (a := 0) (b := 216) (by decide) (show 0 ≤ x452.toInt.toNat by omega) (show x452.toInt.toNat ≤ 216 by omega)) k459
        have c460 := k459.gi (Or.inl (tk_ne kM_at0 kM_at4 (by decide))) c431
        have c461 := k459.gi (Or.inl (tk_ne kM_at5 kM_at4 (by decide))) c432
        have c462 := k459.gi (Or.inl (tk_ne kM_at0 kM_at4 (by decide))) c433
        have c463 := k459.gi (Or.inr (show (36 * f0_.toInt + 3 * f3_.toInt + 0).toNat ≠ x452.toInt.toNat by omega)) c434
        have c464 := k459.gi (Or.inr (show (36 * f0_.toInt + 3 * f3_.toInt + 1).toNat ≠ x452.toInt.toNat by omega)) c435
        have c465 := k459.gi (Or.inl (tk_ne kM_at0 kM_at4 (by decide))) c425
        have c466 := k459.gi (Or.inl (tk_ne kM_at0 kM_at4 (by decide))) c427
        have c467 := k459.gi (Or.inl (tk_ne kM_at3 kM_at4 (by decide))) c449
        have c468 := k459.gi (Or.inl (tk_ne kM_at0 kM_at4 (by decide))) c451
        have c458 : gi w457 4 (36 * f0_.toInt + 3 * f3_.toInt + 2).toNat = x448 := (congrArg (gi w457 4) (congrArg Int.toNat (show 36 * f0_.toInt + 3 * f3_.toInt + 2 = x452.toInt by omega))).trans c458
        refine lv_aload_n hx hb dX12_isDoingHere_93 rfl (lv_at hl 1 rfl) ?_
        refine tk_getA hC hK hw hT hinX12 kM_at0 (by decide) rfl 6 (by decide) (List.mem_of_getElem? (i := 2) rfl) rfl rfl dX12_isDoingHere_94 ?_
        refine lv_aload_n hx hb dX12_isDoingHere_97 rfl (lv_at hl 1 rfl) ?_
        refine tk_geti hC hK hw hT hinX12 kM_at0 (by decide) rfl 17 (by decide) (List.mem_of_getElem? (i := 1) rfl) rfl rfl dX12_isDoingHere_98 (fun x469 c470 rx469 tx469 => ?_)
        refine wk_top f0_ (c470.symm.trans c460) ?_
        refine lv_dup2_11 hx hb dX12_isDoingHere_101 rfl rfl ?_
        refine tk_iald hC hK hw hT kM_at5 rfl rfl (show 0 ≤ f0_.toInt by omega) (show f0_.toInt < 6 by omega) dX12_isDoingHere_102 (fun x471 c472 rx471 tx471 => ?_)
        have c472 : gi w457 5 (f0_.toInt).toNat = x471 := (congrArg (gi w457 5) (congrArg Int.toNat (show f0_.toInt = f0_.toInt by omega))).trans c472
        refine wk_top f3_ (c472.symm.trans c461) ?_
        refine lv_iconst (v := 1) hx hb dX12_isDoingHere_103 (by decide) ?_
        refine lv_iadd hx hb dX12_isDoingHere_104 ?_
        refine lv_topi (fun x473 ex473 => ?_)
        have ex473 : x473.toInt = f3_.toInt + (1 : Int) := by rw [ex473]; exact wk_add (show (-2147483648) ≤ f3_.toInt + (1 : Int) by omega) (show f3_.toInt + (1 : Int) ≤ 2147483647 by omega)
        refine tk_iast hC hK hw hT kM_at5 (by decide) rfl rfl (show 0 ≤ f0_.toInt by omega) (show f0_.toInt < 6 by omega) (show 0 ≤ x473.toInt by omega) (show x473.toInt ≤ 12 by omega) dX12_isDoingHere_105 (fun H locs w474 hw hT k476 c475 => ?_)
        have hR := RL_add (t := f0_.toInt) (K := f3_) (b := f2_) hO.1 k476 c461 (by rw [show gi w474 5 (f0_.toInt).toNat = x473 from c475]; omega) (by omega) c464 (c458.trans c467.symm) (by rw [c467]; omega) (Or.inr (OKW_cast hO (by omega)))
        have hF := hF.put kM_at5 (inE_of (a := 0) (b := 6) (by decide) (show 0 ≤ f0_.toInt.toNat by omega) (show f0_.toInt.toNat ≤ 6 by omega)) k476
        have c477 := k476.gi (Or.inl (tk_ne kM_at0 kM_at5 (by decide))) c460
        have c478 := k476.gi (Or.inl (tk_ne kM_at0 kM_at5 (by decide))) c462
        have c479 := k476.gi (Or.inl (tk_ne kM_at4 kM_at5 (by decide))) c463
        have c480 := k476.gi (Or.inl (tk_ne kM_at4 kM_at5 (by decide))) c464
        have c481 := k476.gi (Or.inl (tk_ne kM_at0 kM_at5 (by decide))) c465
        have c482 := k476.gi (Or.inl (tk_ne kM_at0 kM_at5 (by decide))) c466
        have c483 := k476.gi (Or.inl (tk_ne kM_at3 kM_at5 (by decide))) c467
        have c484 := k476.gi (Or.inl (tk_ne kM_at0 kM_at5 (by decide))) c468
        have c485 := k476.gi (Or.inl (tk_ne kM_at4 kM_at5 (by decide))) c458
        have c475 : gi w474 5 (f0_.toInt).toNat = x473 := (congrArg (gi w474 5) (congrArg Int.toNat (show f0_.toInt = f0_.toInt by omega))).trans c475
        refine lv_iconst (v := 1) hx hb dX12_isDoingHere_106 (by decide) ?_
        exact tk_zret hC hr rfl hlocks hK ⟨hT, hF, (Or.inr (Or.inr (Or.inl ⟨rfl, ⟨x9, c478, (show 1 ≤ x9.toInt by omega), (show x9.toInt ≤ 400 by omega)⟩, ⟨f0_, c477, (show 0 ≤ f0_.toInt by omega), (show f0_.toInt ≤ 5 by omega)⟩, hR, (by simp only [c477, cf0_, c483, c484]; omega), (by simp only [c477, cf0_, cf3_, c475]; omega)⟩)))⟩ hw dX12_isDoingHere_107
    · have ex341 : x341.toInt = x9.toInt := by rw [← c348.symm.trans c342]
      refine lv_if_eq (tgt := 76) hx hb dX12_isDoingHere_47 (by decide) (fun c => absurd c (by decide)) (fun _ => ?_)
      refine lv_aload_n hx hb dX12_isDoingHere_50 rfl (lv_at hl 1 rfl) ?_
      refine tk_getA hC hK hw hT hinX12 kM_at0 (by decide) rfl 5 (by decide) (List.mem_of_getElem? (i := 3) rfl) rfl rfl dX12_isDoingHere_51 ?_
      refine lv_iload_n hx hb dX12_isDoingHere_54 rfl (lv_at hl 0 rfl) ?_
      refine lv_iconst (v := 1) hx hb dX12_isDoingHere_55 (by decide) ?_
      refine lv_iadd hx hb dX12_isDoingHere_56 ?_
      refine lv_topi (fun x486 ex486 => ?_)
      have ex486 : x486.toInt = x312.toInt + (1 : Int) := by rw [ex486]; exact wk_add (show (-2147483648) ≤ x312.toInt + (1 : Int) by omega) (show x312.toInt + (1 : Int) ≤ 2147483647 by omega)
      refine lv_aload_n hx hb dX12_isDoingHere_57 rfl (lv_at hl 1 rfl) ?_
      refine tk_getA hC hK hw hT hinX12 kM_at0 (by decide) rfl 4 (by decide) (List.mem_of_getElem? (i := 5) rfl) rfl rfl dX12_isDoingHere_58 ?_
      refine lv_aload_n hx hb dX12_isDoingHere_61 rfl (lv_at hl 1 rfl) ?_
      refine tk_geti hC hK hw hT hinX12 kM_at0 (by decide) rfl 17 (by decide) (List.mem_of_getElem? (i := 1) rfl) rfl rfl dX12_isDoingHere_62 (fun x487 c488 rx487 tx487 => ?_)
      refine wk_top f0_ (c488.symm.trans c344) ?_
      refine tk_iald hC hK hw hT kM_at3 rfl rfl (show 0 ≤ f0_.toInt by omega) (show f0_.toInt < 7 by omega) dX12_isDoingHere_65 (fun x489 c490 rx489 tx489 => ?_)
      have c490 : gi w333 3 (f0_.toInt).toNat = x489 := (congrArg (gi w333 3) (congrArg Int.toNat (show f0_.toInt = f0_.toInt by omega))).trans c490
      refine wk_top f2_ (c490.symm.trans c346) ?_
      refine tk_iast hC hK hw hT kM_at4 (by decide) rfl rfl (show 0 ≤ x486.toInt by omega) (show x486.toInt < 216 by omega) (wk_i32 f2_).1 (wk_i32 f2_).2 dX12_isDoingHere_66 (fun H locs w491 hw hT k493 c492 => ?_)
      have hR := RL_clause hR k493 (show 36 * f0_.toInt + 3 * (gi w333 5 (f0_.toInt).toNat).toInt ≤ ((x486.toInt.toNat : Nat) : Int) by rw [c347]; omega) (show ((x486.toInt.toNat : Nat) : Int) < 36 * f0_.toInt + 36 by omega) (fun r hr => by obtain ⟨x, e, t⟩ := hT.rda (lo := 0) (hi := 12) (i := r) kM_at5 rfl rfl hr; rw [e]; exact t)
      have hF := hF.put kM_at4 (inE_of (a := 0) (b := 216) (by decide) (show 0 ≤ x486.toInt.toNat by omega) (show x486.toInt.toNat ≤ 216 by omega)) k493
      have c494 := k493.gi (Or.inl (tk_ne kM_at0 kM_at4 (by decide))) c344
      have c495 := k493.gi (Or.inl (tk_ne kM_at0 kM_at4 (by decide))) c345
      have c496 := k493.gi (Or.inl (tk_ne kM_at3 kM_at4 (by decide))) c346
      have c497 := k493.gi (Or.inl (tk_ne kM_at5 kM_at4 (by decide))) c347
      have c498 := k493.gi (Or.inl (tk_ne kM_at0 kM_at4 (by decide))) c348
      have c499 := k493.gi (Or.inr (show (36 * f0_.toInt + 3 * f3_.toInt + 0).toNat ≠ x486.toInt.toNat by omega)) c349
      have c492 : gi w491 4 (36 * f0_.toInt + 3 * f3_.toInt + 1).toNat = f2_ := (congrArg (gi w491 4) (congrArg Int.toNat (show 36 * f0_.toInt + 3 * f3_.toInt + 1 = x486.toInt by omega))).trans c492
      refine lv_aload_n hx hb dX12_isDoingHere_67 rfl (lv_at hl 1 rfl) ?_
      obtain ⟨x500, c501, rx500, tx500⟩ := hT.rdi (lo := 0) (hi := 400) (k := 22) kM_at0 (by decide) rfl
      obtain ⟨x502, c503, rx502, tx502⟩ := hT.rdi (lo := (-100)) (hi := 10) (k := 19) kM_at0 (by decide) rfl
      refine tk_Vi hC hK hw hT hA hE hSR kM_at0 (by decide) rfl (k_X12_tested_1 l adK adV dC dI cy ad B (by omega) (by omega) qr s1    w491 H.size hT f0_ c494 (show 0 ≤ f0_.toInt by omega) (show f0_.toInt ≤ 5 by omega) f1_ c495 (show 0 ≤ f1_.toInt by omega) (show f1_.toInt ≤ 60 by omega) x502 c503 (show (-100) ≤ x502.toInt by omega) (show x502.toInt ≤ 10 by omega) x500 c501 (show 0 ≤ x500.toInt by omega) (show x500.toInt ≤ 400 by omega) f2_ c496 (show 0 ≤ f2_.toInt by omega) (show f2_.toInt ≤ 400 by omega) (show 3 * f2_.toInt ≤ 14 * f1_.toInt by omega) (show f2_.toInt ≤ 280 by omega) f2_.toInt 0 (OKW_nil hR (by rw [c496]) (by omega))) (cwV 0 hC.2.2.2.2 gX12_isDoingHere_X12_tested rfl rfl rfl (by decide +kernel) ⟨Nat.le_of_ble_eq_true rfl, Nat.le_of_ble_eq_true rfl⟩) rfl hl.1 rfl (Nat.le_of_ble_eq_true rfl) dX12_isDoingHere_68 (fun r504 w506 H locs hp505 hw => ?_)
      obtain ⟨hT, k507, hg534⟩ := hp505
      have hF := hF.tr k507 (by decide)
      have c535 := k507.gi kM_at0 (by decide) c494
      have c536 := k507.gi kM_at5 rfl c497
      have c537 := k507.gi kM_at0 (by decide) c498
      have c538 := k507.gi kM_at4 rfl c499
      have c539 := k507.gi kM_at4 rfl c492
      rcases hg534 with ⟨rfl, ⟨x508, c509, rx508, tx508⟩, ⟨x510, c511, rx510, tx510⟩, ⟨x512, c513, rx512, tx512⟩, ⟨x514, c515, rx514, tx514⟩, hq516⟩ | ⟨rfl, ⟨x517, c518, rx517, tx517⟩, ⟨x519, c520, rx519, tx519⟩, ⟨x521, c522, rx521, tx521⟩, ⟨x523, c524, rx523, tx523⟩, hq525⟩ | ⟨rfl, ⟨x526, c527, rx526, tx526⟩, ⟨x528, c529, rx528, tx528⟩, ⟨x530, c531, rx530, tx530⟩, hq532, g533⟩
      · have ex508 : x508.toInt = x9.toInt := by rw [← c537.symm.trans c509]
        have ex512 : x512.toInt = f0_.toInt := by rw [← c535.symm.trans c513]
        obtain ⟨x540, c541, rx540, tx540⟩ := hT.rda (lo := 0) (hi := 400) (i := (f0_.toInt).toNat) kM_at3 rfl rfl (by omega)
        obtain ⟨x542, c543, rx542, tx542⟩ := hT.rdi (lo := 0) (hi := 60) (k := 18) kM_at0 (by decide) rfl
        obtain ⟨x544, c545, rx544, tx544⟩ := hT.rdi (lo := (-100)) (hi := 10) (k := 19) kM_at0 (by decide) rfl
        have hR := hq516
        refine lv_if_ne (tgt := 76) hx hb dX12_isDoingHere_71 (by decide) (fun c => absurd (by decide) c) (fun _ => ?_)
        refine lv_iconst (v := 0) hx hb dX12_isDoingHere_74 (by decide) ?_
        exact tk_zret hC hr rfl hlocks hK ⟨hT, hF, (Or.inl ⟨rfl, ⟨x9, c537, (show 1 ≤ x9.toInt by omega), (show x9.toInt ≤ 400 by omega)⟩, ⟨x510, c511, (show 1 ≤ x510.toInt by omega), (show x510.toInt ≤ 3205 by omega)⟩, ⟨f0_, c535, (show 0 ≤ f0_.toInt by omega), (show f0_.toInt ≤ 5 by omega)⟩, ⟨x514, c515, (show 0 ≤ x514.toInt by omega), (show x514.toInt ≤ 399 by omega)⟩, hR⟩)⟩ hw dX12_isDoingHere_75
      · have ex517 : x517.toInt = x9.toInt := by rw [← c537.symm.trans c518]
        have ex521 : x521.toInt = f0_.toInt := by rw [← c535.symm.trans c522]
        obtain ⟨x546, c547, rx546, tx546⟩ := hT.rda (lo := 0) (hi := 400) (i := (f0_.toInt).toNat) kM_at3 rfl rfl (by omega)
        obtain ⟨x548, c549, rx548, tx548⟩ := hT.rdi (lo := 0) (hi := 60) (k := 18) kM_at0 (by decide) rfl
        obtain ⟨x550, c551, rx550, tx550⟩ := hT.rdi (lo := (-100)) (hi := 10) (k := 19) kM_at0 (by decide) rfl
        have hR := hq525
        refine lv_if_ne (tgt := 76) hx hb dX12_isDoingHere_71 (by decide) (fun c => absurd (by decide) c) (fun _ => ?_)
        refine lv_iconst (v := 0) hx hb dX12_isDoingHere_74 (by decide) ?_
        exact tk_zret hC hr rfl hlocks hK ⟨hT, hF, (Or.inr (Or.inl ⟨rfl, ⟨x9, c537, (show 0 ≤ x9.toInt by omega), (show x9.toInt ≤ 400 by omega)⟩, ⟨x519, c520, (show 1 ≤ x519.toInt by omega), (show x519.toInt ≤ 3205 by omega)⟩, ⟨f0_, c535, (show 0 ≤ f0_.toInt by omega), (show f0_.toInt ≤ 5 by omega)⟩, ⟨x523, c524, (show 0 ≤ x523.toInt by omega), (show x523.toInt ≤ 399 by omega)⟩, hR⟩))⟩ hw dX12_isDoingHere_75
      · have ex526 : x526.toInt = f0_.toInt := by rw [← c535.symm.trans c527]
        obtain ⟨x552, c553, rx552, tx552⟩ := hT.rda (lo := 0) (hi := 400) (i := (f0_.toInt).toNat) kM_at3 rfl rfl (by omega)
        obtain ⟨x554, c555, rx554, tx554⟩ := hT.rdi (lo := 0) (hi := 60) (k := 18) kM_at0 (by decide) rfl
        have g533 : 3 * x552.toInt ≤ 14 * x554.toInt := by have q := g533; simp only [c494, c535, c553, c555] at q; omega
        have hO : OKW w506 f0_.toInt f2_.toInt (1) := by have q := hq532; exact OKW_cast q (by omega)
        refine lv_if_ne (tgt := 76) hx hb dX12_isDoingHere_71 (by decide) (fun _ => ?_) (fun c => absurd c (by decide))
        refine lv_aload_n hx hb dX12_isDoingHere_76 rfl (lv_at hl 1 rfl) ?_
        refine tk_getA hC hK hw hT hinX12 kM_at0 (by decide) rfl 5 (by decide) (List.mem_of_getElem? (i := 3) rfl) rfl rfl dX12_isDoingHere_77 ?_
        refine lv_iload_n hx hb dX12_isDoingHere_80 rfl (lv_at hl 0 rfl) ?_
        refine lv_iconst (v := 2) hx hb dX12_isDoingHere_81 (by decide) ?_
        refine lv_iadd hx hb dX12_isDoingHere_82 ?_
        refine lv_topi (fun x556 ex556 => ?_)
        have ex556 : x556.toInt = x312.toInt + (2 : Int) := by rw [ex556]; exact wk_add (show (-2147483648) ≤ x312.toInt + (2 : Int) by omega) (show x312.toInt + (2 : Int) ≤ 2147483647 by omega)
        refine lv_aload_n hx hb dX12_isDoingHere_83 rfl (lv_at hl 1 rfl) ?_
        refine tk_getA hC hK hw hT hinX12 kM_at0 (by decide) rfl 4 (by decide) (List.mem_of_getElem? (i := 5) rfl) rfl rfl dX12_isDoingHere_84 ?_
        refine lv_aload_n hx hb dX12_isDoingHere_87 rfl (lv_at hl 1 rfl) ?_
        refine tk_geti hC hK hw hT hinX12 kM_at0 (by decide) rfl 17 (by decide) (List.mem_of_getElem? (i := 1) rfl) rfl rfl dX12_isDoingHere_88 (fun x557 c558 rx557 tx557 => ?_)
        refine wk_top f0_ (c558.symm.trans c535) ?_
        refine tk_iald hC hK hw hT kM_at3 rfl rfl (show 0 ≤ f0_.toInt by omega) (show f0_.toInt < 7 by omega) dX12_isDoingHere_91 (fun x559 c560 rx559 tx559 => ?_)
        have c560 : gi w506 3 (f0_.toInt).toNat = x559 := (congrArg (gi w506 3) (congrArg Int.toNat (show f0_.toInt = f0_.toInt by omega))).trans c560
        refine wk_top x552 (c560.symm.trans c553) ?_
        refine tk_iast hC hK hw hT kM_at4 (by decide) rfl rfl (show 0 ≤ x556.toInt by omega) (show x556.toInt < 216 by omega) (wk_i32 x552).1 (wk_i32 x552).2 dX12_isDoingHere_92 (fun H locs w561 hw hT k563 c562 => ?_)
        have hO := OKW_clause hO k563 (show 36 * f0_.toInt + 3 * (gi w506 5 (f0_.toInt).toNat).toInt ≤ ((x556.toInt.toNat : Nat) : Int) by rw [c536]; omega) (show ((x556.toInt.toNat : Nat) : Int) < 36 * f0_.toInt + 36 by omega) (fun r hr => by obtain ⟨x, e, t⟩ := hT.rda (lo := 0) (hi := 12) (i := r) kM_at5 rfl rfl hr; rw [e]; exact t)
        have hF := hF.put kM_at4 (inE_of (a := 0) (b := 216) (by decide) (show 0 ≤ x556.toInt.toNat by omega) (show x556.toInt.toNat ≤ 216 by omega)) k563
        have c564 := k563.gi (Or.inl (tk_ne kM_at0 kM_at4 (by decide))) c535
        have c565 := k563.gi (Or.inl (tk_ne kM_at5 kM_at4 (by decide))) c536
        have c566 := k563.gi (Or.inl (tk_ne kM_at0 kM_at4 (by decide))) c537
        have c567 := k563.gi (Or.inr (show (36 * f0_.toInt + 3 * f3_.toInt + 0).toNat ≠ x556.toInt.toNat by omega)) c538
        have c568 := k563.gi (Or.inr (show (36 * f0_.toInt + 3 * f3_.toInt + 1).toNat ≠ x556.toInt.toNat by omega)) c539
        have c569 := k563.gi (Or.inl (tk_ne kM_at0 kM_at4 (by decide))) c529
        have c570 := k563.gi (Or.inl (tk_ne kM_at0 kM_at4 (by decide))) c531
        have c571 := k563.gi (Or.inl (tk_ne kM_at3 kM_at4 (by decide))) c553
        have c572 := k563.gi (Or.inl (tk_ne kM_at0 kM_at4 (by decide))) c555
        have c562 : gi w561 4 (36 * f0_.toInt + 3 * f3_.toInt + 2).toNat = x552 := (congrArg (gi w561 4) (congrArg Int.toNat (show 36 * f0_.toInt + 3 * f3_.toInt + 2 = x556.toInt by omega))).trans c562
        refine lv_aload_n hx hb dX12_isDoingHere_93 rfl (lv_at hl 1 rfl) ?_
        refine tk_getA hC hK hw hT hinX12 kM_at0 (by decide) rfl 6 (by decide) (List.mem_of_getElem? (i := 2) rfl) rfl rfl dX12_isDoingHere_94 ?_
        refine lv_aload_n hx hb dX12_isDoingHere_97 rfl (lv_at hl 1 rfl) ?_
        refine tk_geti hC hK hw hT hinX12 kM_at0 (by decide) rfl 17 (by decide) (List.mem_of_getElem? (i := 1) rfl) rfl rfl dX12_isDoingHere_98 (fun x573 c574 rx573 tx573 => ?_)
        refine wk_top f0_ (c574.symm.trans c564) ?_
        refine lv_dup2_11 hx hb dX12_isDoingHere_101 rfl rfl ?_
        refine tk_iald hC hK hw hT kM_at5 rfl rfl (show 0 ≤ f0_.toInt by omega) (show f0_.toInt < 6 by omega) dX12_isDoingHere_102 (fun x575 c576 rx575 tx575 => ?_)
        have c576 : gi w561 5 (f0_.toInt).toNat = x575 := (congrArg (gi w561 5) (congrArg Int.toNat (show f0_.toInt = f0_.toInt by omega))).trans c576
        refine wk_top f3_ (c576.symm.trans c565) ?_
        refine lv_iconst (v := 1) hx hb dX12_isDoingHere_103 (by decide) ?_
        refine lv_iadd hx hb dX12_isDoingHere_104 ?_
        refine lv_topi (fun x577 ex577 => ?_)
        have ex577 : x577.toInt = f3_.toInt + (1 : Int) := by rw [ex577]; exact wk_add (show (-2147483648) ≤ f3_.toInt + (1 : Int) by omega) (show f3_.toInt + (1 : Int) ≤ 2147483647 by omega)
        refine tk_iast hC hK hw hT kM_at5 (by decide) rfl rfl (show 0 ≤ f0_.toInt by omega) (show f0_.toInt < 6 by omega) (show 0 ≤ x577.toInt by omega) (show x577.toInt ≤ 12 by omega) dX12_isDoingHere_105 (fun H locs w578 hw hT k580 c579 => ?_)
        have hR := RL_add (t := f0_.toInt) (K := f3_) (b := f2_) hO.1 k580 c565 (by rw [show gi w578 5 (f0_.toInt).toNat = x577 from c579]; omega) (by omega) c568 (c562.trans c571.symm) (by rw [c571]; omega) (Or.inr (OKW_cast hO (by omega)))
        have hF := hF.put kM_at5 (inE_of (a := 0) (b := 6) (by decide) (show 0 ≤ f0_.toInt.toNat by omega) (show f0_.toInt.toNat ≤ 6 by omega)) k580
        have c581 := k580.gi (Or.inl (tk_ne kM_at0 kM_at5 (by decide))) c564
        have c582 := k580.gi (Or.inl (tk_ne kM_at0 kM_at5 (by decide))) c566
        have c583 := k580.gi (Or.inl (tk_ne kM_at4 kM_at5 (by decide))) c567
        have c584 := k580.gi (Or.inl (tk_ne kM_at4 kM_at5 (by decide))) c568
        have c585 := k580.gi (Or.inl (tk_ne kM_at0 kM_at5 (by decide))) c569
        have c586 := k580.gi (Or.inl (tk_ne kM_at0 kM_at5 (by decide))) c570
        have c587 := k580.gi (Or.inl (tk_ne kM_at3 kM_at5 (by decide))) c571
        have c588 := k580.gi (Or.inl (tk_ne kM_at0 kM_at5 (by decide))) c572
        have c589 := k580.gi (Or.inl (tk_ne kM_at4 kM_at5 (by decide))) c562
        have c579 : gi w578 5 (f0_.toInt).toNat = x577 := (congrArg (gi w578 5) (congrArg Int.toNat (show f0_.toInt = f0_.toInt by omega))).trans c579
        refine lv_iconst (v := 1) hx hb dX12_isDoingHere_106 (by decide) ?_
        exact tk_zret hC hr rfl hlocks hK ⟨hT, hF, (Or.inr (Or.inr (Or.inr ⟨rfl, ⟨x9, c582, (show 0 ≤ x9.toInt by omega), (show x9.toInt ≤ 400 by omega)⟩, ⟨f0_, c581, (show 0 ≤ f0_.toInt by omega), (show f0_.toInt ≤ 5 by omega)⟩, hR, (by simp only [c581, cf0_, c587, c588]; omega), (by simp only [c581, cf0_, cf3_, c579]; omega)⟩)))⟩ hw dX12_isDoingHere_107
abbrev P_X12_isDoingHere_2 (ad : Nat → Nat) (cy : Nat → ClassId) (B : Int) (qr : Nat) (s1 : Int) (a1 : Int32) (gT : Int) (w0 : va_W) : Int32 → va_W → Prop := fun r u => TW ksM ad cy B qr 12 u ∧ FE ksM [(12, 14, 14), (12, 15, 15), (12, 16, 16), (12, 18, 18), (12, 19, 19), (12, 22, 22), (61, 0, 2400), (62, 0, 7), (63, 0, 216), (64, 0, 6), (68, 0, 400)] w0 u ∧ ((r = 0 ∧ (∃ y : Int32, gi u 0 1 = y ∧ 1 ≤ y.toInt ∧ y.toInt ≤ 400) ∧ (∃ y : Int32, gi u 0 15 = y ∧ 1 ≤ y.toInt ∧ y.toInt ≤ 3205) ∧ (∃ y : Int32, gi u 0 17 = y ∧ 0 ≤ y.toInt ∧ y.toInt ≤ 5) ∧ (∃ y : Int32, gi u 0 22 = y ∧ 0 ≤ y.toInt ∧ y.toInt ≤ 399) ∧ RLc u gT) ∨ (r = 0 ∧ (∃ y : Int32, gi u 0 1 = y ∧ 0 ≤ y.toInt ∧ y.toInt ≤ 400) ∧ (∃ y : Int32, gi u 0 15 = y ∧ 1 ≤ y.toInt ∧ y.toInt ≤ 3205) ∧ (∃ y : Int32, gi u 0 17 = y ∧ 0 ≤ y.toInt ∧ y.toInt ≤ 5) ∧ (∃ y : Int32, gi u 0 22 = y ∧ 0 ≤ y.toInt ∧ y.toInt ≤ 399) ∧ RLc u gT) ∨ (r = 1 ∧ (∃ y : Int32, gi u 0 1 = y ∧ 1 ≤ y.toInt ∧ y.toInt ≤ 400) ∧ (∃ y : Int32, gi u 0 17 = y ∧ 0 ≤ y.toInt ∧ y.toInt ≤ 5) ∧ RLc u gT ∧ (3 * (gi u 3 ((gi u 0 17).toInt).toNat).toInt ≤ 14 * (gi u 0 18).toInt) ∧ ((gi u 5 ((gi u 0 17).toInt).toNat).toInt = (gi w0 5 ((gi w0 0 17).toInt).toNat).toInt + 1)) ∨ (r = 1 ∧ (∃ y : Int32, gi u 0 1 = y ∧ 0 ≤ y.toInt ∧ y.toInt ≤ 400) ∧ (∃ y : Int32, gi u 0 17 = y ∧ 0 ≤ y.toInt ∧ y.toInt ≤ 5) ∧ RLc u gT ∧ (3 * (gi u 3 ((gi u 0 17).toInt).toNat).toInt ≤ 14 * (gi u 0 18).toInt) ∧ ((gi u 5 ((gi u 0 17).toInt).toNat).toInt = (gi w0 5 ((gi w0 0 17).toInt).toNat).toInt + 1)))
set_option maxHeartbeats 4000000 in
set_option maxRecDepth 100000 in
theorem k_X12_isDoingHere_2 (l : Launch) (adK adV : Nat → Nat) (dC : Nat → ClassId) (dI : Nat → Nat → Nat) (cy : Nat → ClassId) (ad : Nat → Nat) (B : Int) (hB0 : 100000 ≤ B) (hB1 : B ≤ 1073741824) (qr : Nat) (s1 : Int)  (a1 : Int32) (ra1 : 0 ≤ a1.toInt) (ta1 : a1.toInt ≤ 3) (w0 : va_W) (sz : Nat) (hT : TW ksM ad cy B qr 12 w0) (f0_ : Int32) (cf0_ : gi w0 0 17 = f0_) (rf0_ : 0 ≤ f0_.toInt) (tf0_ : f0_.toInt ≤ 5) (f1_ : Int32) (cf1_ : gi w0 0 18 = f1_) (rf1_ : 0 ≤ f1_.toInt) (tf1_ : f1_.toInt ≤ 60) (f2_ : Int32) (cf2_ : gi w0 3 (f0_.toInt).toNat = f2_) (rf2_ : 0 ≤ f2_.toInt) (tf2_ : f2_.toInt ≤ 400) (f3_ : Int32) (cf3_ : gi w0 5 (f0_.toInt).toNat = f3_) (rf3_ : 0 ≤ f3_.toInt) (tf3_ : f3_.toInt ≤ 12) (pr0_ : 3 * f2_.toInt ≤ 14 * f1_.toInt) (pr1_ : f2_.toInt ≤ 280) (pr2_ : f3_.toInt ≤ 11) (hR : RLc w0 f0_.toInt) : Met l yX12_isDoingHere wsX12_isDoingHere ({ frames := 10, cells := 0, slots := 0, locals := 210 }) (va_Pc [.ref (ad 0), .int a1] (wpreS adK adV dC dI cy sz w0)) (va_Qi (P_X12_isDoingHere_2 ad cy B qr s1 a1 f0_.toInt w0) (fun u : va_W => wpost dC dI cy (va_A w0 sz) u) (va_A w0 sz)) 0 0 (va_A w0 sz) := by
  refine Met.ofW (cc := cX12_isDoingHere) (maxL := 3) (ret := (some .boolean)) (by decide) rfl ?_
  intro p e s m args below meth c s₁ Bk hml hv
  obtain ⟨rfl, ⟨hsz, hP, hK, hD0⟩, hE, hSR⟩ := hv
  have hx := Bk.exec
  have hb := Bk.bytes
  have hr := Bk.returns
  have hlocks := Bk.notSynchronized
  have hC : CallFix p m c cX12_isDoingHere 3 s _ wsX12_isDoingHere RX12 := ⟨hx, hb, hml, findClass_of_methodNamed Bk.named, atoms_spec (ws := wsX12_isDoingHere) Bk.pre⟩
  subst hsz
  have hD := hD0.self (sz := s.heap.size)
  generalize hAe : va_A w0 s.heap.size = A at hD hE ⊢
  have hA : ∀ q : Nat, s.heap.size ≤ q → A q := fun q h => by rw [← hAe]; exact Or.inr h
  have hw : Wd dC dI A s.heap s.heap [] w0 := ⟨hP, hD, va_S.rf⟩
  have hF : FE ksM [(12, 14, 14), (12, 15, 15), (12, 16, 16), (12, 18, 18), (12, 19, 19), (12, 22, 22), (61, 0, 2400), (62, 0, 7), (63, 0, 216), (64, 0, 6), (68, 0, 400)] w0 w0 := FE.rf
  have hl := lv_entry ([.ref (ad 0), .int a1]) (n := 3) (Nat.le_of_ble_eq_true rfl)
  rw [lg_entry_eq]
  generalize (lg_sl ([.ref (ad 0), .int a1]) ++ List.replicate (3 - (lg_sl ([.ref (ad 0), .int a1])).length) Slot.unset).toArray = ls at hl ⊢
  have hl : lv_has ls 3 [(0, .ref (ad 0)), (1, .int a1)] := hl
  generalize hloc : ([] : List Loc) = locs at hw ⊢
  have hinX12 : ∀ w ∈ u_ws RX12 TX12 42, w ∈ wsX12_isDoingHere := fun _ h => List.mem_cons_of_mem _ (List.mem_append_right _ (h))
  refine lv_aload_n hx hb dX12_isDoingHere_0 rfl (lv_at hl 0 rfl) ?_
  refine tk_Vv hC hK hw hT hA hE hSR kM_at0 (by decide) rfl (k_X12_passWord_1 l adK adV dC dI cy ad B (by omega) (by omega) qr s1    w0 s.heap.size hT ) (cwV 0 hC.2.2.2.2 gX12_isDoingHere_X12_passWord rfl rfl rfl (by decide +kernel) ⟨Nat.le_of_ble_eq_true rfl, Nat.le_of_ble_eq_true rfl⟩) rfl hl.1 rfl (Nat.le_of_ble_eq_true rfl) dX12_isDoingHere_1 (fun w3 H locs hp2 hw => ?_)
  obtain ⟨hT, k4, hg11⟩ := hp2
  have hR := RL_FE k4 (fun _ => rfl) (fun _ => rfl) (fun _ => rfl) (fun _ => rfl) hR
  have hF := hF.tr k4 (by decide)
  have c12 := k4.gi kM_at0 (by decide) cf0_
  have c13 := k4.gi kM_at0 (by decide) cf1_
  have c14 := k4.gi kM_at3 rfl cf2_
  have c15 := k4.gi kM_at5 rfl cf3_
  rcases hg11 with ⟨⟨x5, c6, rx5, tx5⟩, ⟨x7, c8, rx7, tx7⟩⟩ | ⟨x9, c10, rx9, tx9⟩
  · refine lv_bipush (v := 36) hx hb dX12_isDoingHere_4 (by decide) ?_
    refine lv_aload_n hx hb dX12_isDoingHere_6 rfl (lv_at hl 0 rfl) ?_
    refine tk_geti hC hK hw hT hinX12 kM_at0 (by decide) rfl 17 (by decide) (List.mem_of_getElem? (i := 1) rfl) rfl rfl dX12_isDoingHere_7 (fun x16 c17 rx16 tx16 => ?_)
    refine wk_top f0_ (c17.symm.trans c12) ?_
    refine lv_imul hx hb dX12_isDoingHere_10 ?_
    refine lv_topi (fun x18 ex18 => ?_)
    have ex18 : x18.toInt = (36 : Int) * f0_.toInt := by rw [ex18]; exact wk_mul (show (-2147483648) ≤ (36 : Int) * f0_.toInt by omega) (show (36 : Int) * f0_.toInt ≤ 2147483647 by omega)
    refine lv_iconst (v := 3) hx hb dX12_isDoingHere_11 (by decide) ?_
    refine lv_aload_n hx hb dX12_isDoingHere_12 rfl (lv_at hl 0 rfl) ?_
    refine tk_getA hC hK hw hT hinX12 kM_at0 (by decide) rfl 6 (by decide) (List.mem_of_getElem? (i := 2) rfl) rfl rfl dX12_isDoingHere_13 ?_
    refine lv_aload_n hx hb dX12_isDoingHere_16 rfl (lv_at hl 0 rfl) ?_
    refine tk_geti hC hK hw hT hinX12 kM_at0 (by decide) rfl 17 (by decide) (List.mem_of_getElem? (i := 1) rfl) rfl rfl dX12_isDoingHere_17 (fun x19 c20 rx19 tx19 => ?_)
    refine wk_top f0_ (c20.symm.trans c12) ?_
    refine tk_iald hC hK hw hT kM_at5 rfl rfl (show 0 ≤ f0_.toInt by omega) (show f0_.toInt < 6 by omega) dX12_isDoingHere_20 (fun x21 c22 rx21 tx21 => ?_)
    have c22 : gi w3 5 (f0_.toInt).toNat = x21 := (congrArg (gi w3 5) (congrArg Int.toNat (show f0_.toInt = f0_.toInt by omega))).trans c22
    refine wk_top f3_ (c22.symm.trans c15) ?_
    refine lv_imul hx hb dX12_isDoingHere_21 ?_
    refine lv_topi (fun x23 ex23 => ?_)
    have ex23 : x23.toInt = (3 : Int) * f3_.toInt := by rw [ex23]; exact wk_mul (show (-2147483648) ≤ (3 : Int) * f3_.toInt by omega) (show (3 : Int) * f3_.toInt ≤ 2147483647 by omega)
    refine lv_iadd hx hb dX12_isDoingHere_22 ?_
    refine lv_topi (fun x24 ex24 => ?_)
    have ex24 : x24.toInt = x18.toInt + x23.toInt := by rw [ex24]; exact wk_add (show (-2147483648) ≤ x18.toInt + x23.toInt by omega) (show x18.toInt + x23.toInt ≤ 2147483647 by omega)
    refine lv_istore_n (lv' := [(2, .int x24), (0, .ref (ad 0)), (1, .int a1)]) hx hb dX12_isDoingHere_23 rfl hl (by decide) rfl (fun ls hl => ?_)
    refine lv_aload_n hx hb dX12_isDoingHere_24 rfl (lv_at hl 1 rfl) ?_
    refine tk_getA hC hK hw hT hinX12 kM_at0 (by decide) rfl 5 (by decide) (List.mem_of_getElem? (i := 3) rfl) rfl rfl dX12_isDoingHere_25 ?_
    refine lv_iload_n hx hb dX12_isDoingHere_28 rfl (lv_at hl 0 rfl) ?_
    refine lv_iload_n hx hb dX12_isDoingHere_29 rfl (lv_at hl 2 rfl) ?_
    refine tk_iast hC hK hw hT kM_at4 (by decide) rfl rfl (show 0 ≤ x24.toInt by omega) (show x24.toInt < 216 by omega) (wk_i32 a1).1 (wk_i32 a1).2 dX12_isDoingHere_30 (fun H locs w25 hw hT k27 c26 => ?_)
    have hR := RL_clause hR k27 (show 36 * f0_.toInt + 3 * (gi w3 5 (f0_.toInt).toNat).toInt ≤ ((x24.toInt.toNat : Nat) : Int) by rw [c15]; omega) (show ((x24.toInt.toNat : Nat) : Int) < 36 * f0_.toInt + 36 by omega) (fun r hr => by obtain ⟨x, e, t⟩ := hT.rda (lo := 0) (hi := 12) (i := r) kM_at5 rfl rfl hr; rw [e]; exact t)
    have hF := hF.put kM_at4 (inE_of (a := 0) (b := 216) (by decide) (show 0 ≤ x24.toInt.toNat by omega) (show x24.toInt.toNat ≤ 216 by omega)) k27
    have c28 := k27.gi (Or.inl (tk_ne kM_at0 kM_at4 (by decide))) c12
    have c29 := k27.gi (Or.inl (tk_ne kM_at0 kM_at4 (by decide))) c13
    have c30 := k27.gi (Or.inl (tk_ne kM_at3 kM_at4 (by decide))) c14
    have c31 := k27.gi (Or.inl (tk_ne kM_at5 kM_at4 (by decide))) c15
    have c32 := k27.gi (Or.inl (tk_ne kM_at0 kM_at4 (by decide))) c6
    have c33 := k27.gi (Or.inl (tk_ne kM_at0 kM_at4 (by decide))) c8
    have c26 : gi w25 4 (36 * f0_.toInt + 3 * f3_.toInt + 0).toNat = a1 := (congrArg (gi w25 4) (congrArg Int.toNat (show 36 * f0_.toInt + 3 * f3_.toInt + 0 = x24.toInt by omega))).trans c26
    refine lv_aload_n hx hb dX12_isDoingHere_31 rfl (lv_at hl 1 rfl) ?_
    refine tk_getA hC hK hw hT hinX12 kM_at0 (by decide) rfl 5 (by decide) (List.mem_of_getElem? (i := 3) rfl) rfl rfl dX12_isDoingHere_32 ?_
    refine lv_iload_n hx hb dX12_isDoingHere_35 rfl (lv_at hl 0 rfl) ?_
    refine lv_iconst (v := 1) hx hb dX12_isDoingHere_36 (by decide) ?_
    refine lv_iadd hx hb dX12_isDoingHere_37 ?_
    refine lv_topi (fun x34 ex34 => ?_)
    have ex34 : x34.toInt = x24.toInt + (1 : Int) := by rw [ex34]; exact wk_add (show (-2147483648) ≤ x24.toInt + (1 : Int) by omega) (show x24.toInt + (1 : Int) ≤ 2147483647 by omega)
    refine lv_iconst (v := (-1)) hx hb dX12_isDoingHere_38 (by decide) ?_
    refine tk_iast hC hK hw hT kM_at4 (by decide) rfl rfl (show 0 ≤ x34.toInt by omega) (show x34.toInt < 216 by omega) (by decide) (by decide) dX12_isDoingHere_39 (fun H locs w35 hw hT k37 c36 => ?_)
    have hR := RL_clause hR k37 (show 36 * f0_.toInt + 3 * (gi w25 5 (f0_.toInt).toNat).toInt ≤ ((x34.toInt.toNat : Nat) : Int) by rw [c31]; omega) (show ((x34.toInt.toNat : Nat) : Int) < 36 * f0_.toInt + 36 by omega) (fun r hr => by obtain ⟨x, e, t⟩ := hT.rda (lo := 0) (hi := 12) (i := r) kM_at5 rfl rfl hr; rw [e]; exact t)
    have hF := hF.put kM_at4 (inE_of (a := 0) (b := 216) (by decide) (show 0 ≤ x34.toInt.toNat by omega) (show x34.toInt.toNat ≤ 216 by omega)) k37
    have c38 := k37.gi (Or.inl (tk_ne kM_at0 kM_at4 (by decide))) c28
    have c39 := k37.gi (Or.inl (tk_ne kM_at0 kM_at4 (by decide))) c29
    have c40 := k37.gi (Or.inl (tk_ne kM_at3 kM_at4 (by decide))) c30
    have c41 := k37.gi (Or.inl (tk_ne kM_at5 kM_at4 (by decide))) c31
    have c42 := k37.gi (Or.inl (tk_ne kM_at0 kM_at4 (by decide))) c32
    have c43 := k37.gi (Or.inl (tk_ne kM_at0 kM_at4 (by decide))) c33
    have c44 := k37.gi (Or.inr (show (36 * f0_.toInt + 3 * f3_.toInt + 0).toNat ≠ x34.toInt.toNat by omega)) c26
    have c36 : gi w35 4 (36 * f0_.toInt + 3 * f3_.toInt + 1).toNat = (-1) := (congrArg (gi w35 4) (congrArg Int.toNat (show 36 * f0_.toInt + 3 * f3_.toInt + 1 = x34.toInt by omega))).trans c36
    refine lv_aload_n hx hb dX12_isDoingHere_40 rfl (lv_at hl 1 rfl) ?_
    refine lv_ldc2 (v := 26982) hx hb hC.2.2.2.1 (hC.2.2.2.2 _ (List.mem_of_getElem? (i := 4) rfl)) dX12_isDoingHere_41 ?_
    refine tk_Vi hC hK hw hT hA hE hSR kM_at0 (by decide) rfl (k_X12_takesWord_1 l adK adV dC dI cy ad B (by omega) (by omega) qr s1    w35 H.size hT ) (cwV 1 hC.2.2.2.2 gX12_isDoingHere_X12_takesWord rfl rfl rfl (by decide +kernel) ⟨Nat.le_of_ble_eq_true rfl, Nat.le_of_ble_eq_true rfl⟩) rfl hl.1 rfl (Nat.le_of_ble_eq_true rfl) dX12_isDoingHere_44 (fun r45 w47 H locs hp46 hw => ?_)
    obtain ⟨hT, k48, hg57⟩ := hp46
    have hR := RL_FE k48 (fun _ => rfl) (fun _ => rfl) (fun _ => rfl) (fun _ => rfl) hR
    have hF := hF.tr k48 (by decide)
    have c58 := k48.gi kM_at0 (by decide) c38
    have c59 := k48.gi kM_at0 (by decide) c39
    have c60 := k48.gi kM_at3 rfl c40
    have c61 := k48.gi kM_at5 rfl c41
    have c62 := k48.gi kM_at0 (by decide) c42
    have c63 := k48.gi kM_at4 rfl c44
    have c64 := k48.gi kM_at4 rfl c36
    rcases hg57 with ⟨rfl, ⟨x49, c50, rx49, tx49⟩⟩ | ⟨rfl, ⟨x51, c52, rx51, tx51⟩, ⟨x53, c54, rx53, tx53⟩⟩ | ⟨rfl, ⟨x55, c56, rx55, tx55⟩⟩
    · have ex49 : x49.toInt = x5.toInt := by rw [← c62.symm.trans c50]
      refine lv_if_eq (tgt := 76) hx hb dX12_isDoingHere_47 (by decide) (fun _ => ?_) (fun c => absurd (by decide) c)
      refine lv_aload_n hx hb dX12_isDoingHere_76 rfl (lv_at hl 1 rfl) ?_
      refine tk_getA hC hK hw hT hinX12 kM_at0 (by decide) rfl 5 (by decide) (List.mem_of_getElem? (i := 3) rfl) rfl rfl dX12_isDoingHere_77 ?_
      refine lv_iload_n hx hb dX12_isDoingHere_80 rfl (lv_at hl 0 rfl) ?_
      refine lv_iconst (v := 2) hx hb dX12_isDoingHere_81 (by decide) ?_
      refine lv_iadd hx hb dX12_isDoingHere_82 ?_
      refine lv_topi (fun x65 ex65 => ?_)
      have ex65 : x65.toInt = x24.toInt + (2 : Int) := by rw [ex65]; exact wk_add (show (-2147483648) ≤ x24.toInt + (2 : Int) by omega) (show x24.toInt + (2 : Int) ≤ 2147483647 by omega)
      refine lv_aload_n hx hb dX12_isDoingHere_83 rfl (lv_at hl 1 rfl) ?_
      refine tk_getA hC hK hw hT hinX12 kM_at0 (by decide) rfl 4 (by decide) (List.mem_of_getElem? (i := 5) rfl) rfl rfl dX12_isDoingHere_84 ?_
      refine lv_aload_n hx hb dX12_isDoingHere_87 rfl (lv_at hl 1 rfl) ?_
      refine tk_geti hC hK hw hT hinX12 kM_at0 (by decide) rfl 17 (by decide) (List.mem_of_getElem? (i := 1) rfl) rfl rfl dX12_isDoingHere_88 (fun x66 c67 rx66 tx66 => ?_)
      refine wk_top f0_ (c67.symm.trans c58) ?_
      refine tk_iald hC hK hw hT kM_at3 rfl rfl (show 0 ≤ f0_.toInt by omega) (show f0_.toInt < 7 by omega) dX12_isDoingHere_91 (fun x68 c69 rx68 tx68 => ?_)
      have c69 : gi w47 3 (f0_.toInt).toNat = x68 := (congrArg (gi w47 3) (congrArg Int.toNat (show f0_.toInt = f0_.toInt by omega))).trans c69
      refine wk_top f2_ (c69.symm.trans c60) ?_
      refine tk_iast hC hK hw hT kM_at4 (by decide) rfl rfl (show 0 ≤ x65.toInt by omega) (show x65.toInt < 216 by omega) (wk_i32 f2_).1 (wk_i32 f2_).2 dX12_isDoingHere_92 (fun H locs w70 hw hT k72 c71 => ?_)
      have hR := RL_clause hR k72 (show 36 * f0_.toInt + 3 * (gi w47 5 (f0_.toInt).toNat).toInt ≤ ((x65.toInt.toNat : Nat) : Int) by rw [c61]; omega) (show ((x65.toInt.toNat : Nat) : Int) < 36 * f0_.toInt + 36 by omega) (fun r hr => by obtain ⟨x, e, t⟩ := hT.rda (lo := 0) (hi := 12) (i := r) kM_at5 rfl rfl hr; rw [e]; exact t)
      have hF := hF.put kM_at4 (inE_of (a := 0) (b := 216) (by decide) (show 0 ≤ x65.toInt.toNat by omega) (show x65.toInt.toNat ≤ 216 by omega)) k72
      have c73 := k72.gi (Or.inl (tk_ne kM_at0 kM_at4 (by decide))) c58
      have c74 := k72.gi (Or.inl (tk_ne kM_at0 kM_at4 (by decide))) c59
      have c75 := k72.gi (Or.inl (tk_ne kM_at3 kM_at4 (by decide))) c60
      have c76 := k72.gi (Or.inl (tk_ne kM_at5 kM_at4 (by decide))) c61
      have c77 := k72.gi (Or.inl (tk_ne kM_at0 kM_at4 (by decide))) c62
      have c78 := k72.gi (Or.inr (show (36 * f0_.toInt + 3 * f3_.toInt + 0).toNat ≠ x65.toInt.toNat by omega)) c63
      have c79 := k72.gi (Or.inr (show (36 * f0_.toInt + 3 * f3_.toInt + 1).toNat ≠ x65.toInt.toNat by omega)) c64
      have c71 : gi w70 4 (36 * f0_.toInt + 3 * f3_.toInt + 2).toNat = f2_ := (congrArg (gi w70 4) (congrArg Int.toNat (show 36 * f0_.toInt + 3 * f3_.toInt + 2 = x65.toInt by omega))).trans c71
      refine lv_aload_n hx hb dX12_isDoingHere_93 rfl (lv_at hl 1 rfl) ?_
      refine tk_getA hC hK hw hT hinX12 kM_at0 (by decide) rfl 6 (by decide) (List.mem_of_getElem? (i := 2) rfl) rfl rfl dX12_isDoingHere_94 ?_
      refine lv_aload_n hx hb dX12_isDoingHere_97 rfl (lv_at hl 1 rfl) ?_
      refine tk_geti hC hK hw hT hinX12 kM_at0 (by decide) rfl 17 (by decide) (List.mem_of_getElem? (i := 1) rfl) rfl rfl dX12_isDoingHere_98 (fun x80 c81 rx80 tx80 => ?_)
      refine wk_top f0_ (c81.symm.trans c73) ?_
      refine lv_dup2_11 hx hb dX12_isDoingHere_101 rfl rfl ?_
      refine tk_iald hC hK hw hT kM_at5 rfl rfl (show 0 ≤ f0_.toInt by omega) (show f0_.toInt < 6 by omega) dX12_isDoingHere_102 (fun x82 c83 rx82 tx82 => ?_)
      have c83 : gi w70 5 (f0_.toInt).toNat = x82 := (congrArg (gi w70 5) (congrArg Int.toNat (show f0_.toInt = f0_.toInt by omega))).trans c83
      refine wk_top f3_ (c83.symm.trans c76) ?_
      refine lv_iconst (v := 1) hx hb dX12_isDoingHere_103 (by decide) ?_
      refine lv_iadd hx hb dX12_isDoingHere_104 ?_
      refine lv_topi (fun x84 ex84 => ?_)
      have ex84 : x84.toInt = f3_.toInt + (1 : Int) := by rw [ex84]; exact wk_add (show (-2147483648) ≤ f3_.toInt + (1 : Int) by omega) (show f3_.toInt + (1 : Int) ≤ 2147483647 by omega)
      refine tk_iast hC hK hw hT kM_at5 (by decide) rfl rfl (show 0 ≤ f0_.toInt by omega) (show f0_.toInt < 6 by omega) (show 0 ≤ x84.toInt by omega) (show x84.toInt ≤ 12 by omega) dX12_isDoingHere_105 (fun H locs w85 hw hT k87 c86 => ?_)
      have hR := RL_add (t := f0_.toInt) (K := f3_) (b := (-1)) hR k87 c76 (by rw [show gi w85 5 (f0_.toInt).toNat = x84 from c86]; omega) (by omega) c79 (c71.trans c75.symm) (by rw [c75]; omega) (Or.inl (by decide))
      have hF := hF.put kM_at5 (inE_of (a := 0) (b := 6) (by decide) (show 0 ≤ f0_.toInt.toNat by omega) (show f0_.toInt.toNat ≤ 6 by omega)) k87
      have c88 := k87.gi (Or.inl (tk_ne kM_at0 kM_at5 (by decide))) c73
      have c89 := k87.gi (Or.inl (tk_ne kM_at0 kM_at5 (by decide))) c74
      have c90 := k87.gi (Or.inl (tk_ne kM_at3 kM_at5 (by decide))) c75
      have c91 := k87.gi (Or.inl (tk_ne kM_at0 kM_at5 (by decide))) c77
      have c92 := k87.gi (Or.inl (tk_ne kM_at4 kM_at5 (by decide))) c78
      have c93 := k87.gi (Or.inl (tk_ne kM_at4 kM_at5 (by decide))) c79
      have c94 := k87.gi (Or.inl (tk_ne kM_at4 kM_at5 (by decide))) c71
      have c86 : gi w85 5 (f0_.toInt).toNat = x84 := (congrArg (gi w85 5) (congrArg Int.toNat (show f0_.toInt = f0_.toInt by omega))).trans c86
      refine lv_iconst (v := 1) hx hb dX12_isDoingHere_106 (by decide) ?_
      exact tk_zret hC hr rfl hlocks hK ⟨hT, hF, (Or.inr (Or.inr (Or.inl ⟨rfl, ⟨x5, c91, (show 1 ≤ x5.toInt by omega), (show x5.toInt ≤ 400 by omega)⟩, ⟨f0_, c88, (show 0 ≤ f0_.toInt by omega), (show f0_.toInt ≤ 5 by omega)⟩, hR, (by simp only [c88, cf0_, c90, c89]; omega), (by simp only [c88, cf0_, cf3_, c86]; omega)⟩)))⟩ hw dX12_isDoingHere_107
    · have ex51 : x51.toInt = x5.toInt := by rw [← c62.symm.trans c52]
      refine lv_if_eq (tgt := 76) hx hb dX12_isDoingHere_47 (by decide) (fun c => absurd c (by decide)) (fun _ => ?_)
      refine lv_aload_n hx hb dX12_isDoingHere_50 rfl (lv_at hl 1 rfl) ?_
      refine tk_getA hC hK hw hT hinX12 kM_at0 (by decide) rfl 5 (by decide) (List.mem_of_getElem? (i := 3) rfl) rfl rfl dX12_isDoingHere_51 ?_
      refine lv_iload_n hx hb dX12_isDoingHere_54 rfl (lv_at hl 0 rfl) ?_
      refine lv_iconst (v := 1) hx hb dX12_isDoingHere_55 (by decide) ?_
      refine lv_iadd hx hb dX12_isDoingHere_56 ?_
      refine lv_topi (fun x95 ex95 => ?_)
      have ex95 : x95.toInt = x24.toInt + (1 : Int) := by rw [ex95]; exact wk_add (show (-2147483648) ≤ x24.toInt + (1 : Int) by omega) (show x24.toInt + (1 : Int) ≤ 2147483647 by omega)
      refine lv_aload_n hx hb dX12_isDoingHere_57 rfl (lv_at hl 1 rfl) ?_
      refine tk_getA hC hK hw hT hinX12 kM_at0 (by decide) rfl 4 (by decide) (List.mem_of_getElem? (i := 5) rfl) rfl rfl dX12_isDoingHere_58 ?_
      refine lv_aload_n hx hb dX12_isDoingHere_61 rfl (lv_at hl 1 rfl) ?_
      refine tk_geti hC hK hw hT hinX12 kM_at0 (by decide) rfl 17 (by decide) (List.mem_of_getElem? (i := 1) rfl) rfl rfl dX12_isDoingHere_62 (fun x96 c97 rx96 tx96 => ?_)
      refine wk_top f0_ (c97.symm.trans c58) ?_
      refine tk_iald hC hK hw hT kM_at3 rfl rfl (show 0 ≤ f0_.toInt by omega) (show f0_.toInt < 7 by omega) dX12_isDoingHere_65 (fun x98 c99 rx98 tx98 => ?_)
      have c99 : gi w47 3 (f0_.toInt).toNat = x98 := (congrArg (gi w47 3) (congrArg Int.toNat (show f0_.toInt = f0_.toInt by omega))).trans c99
      refine wk_top f2_ (c99.symm.trans c60) ?_
      refine tk_iast hC hK hw hT kM_at4 (by decide) rfl rfl (show 0 ≤ x95.toInt by omega) (show x95.toInt < 216 by omega) (wk_i32 f2_).1 (wk_i32 f2_).2 dX12_isDoingHere_66 (fun H locs w100 hw hT k102 c101 => ?_)
      have hR := RL_clause hR k102 (show 36 * f0_.toInt + 3 * (gi w47 5 (f0_.toInt).toNat).toInt ≤ ((x95.toInt.toNat : Nat) : Int) by rw [c61]; omega) (show ((x95.toInt.toNat : Nat) : Int) < 36 * f0_.toInt + 36 by omega) (fun r hr => by obtain ⟨x, e, t⟩ := hT.rda (lo := 0) (hi := 12) (i := r) kM_at5 rfl rfl hr; rw [e]; exact t)
      have hF := hF.put kM_at4 (inE_of (a := 0) (b := 216) (by decide) (show 0 ≤ x95.toInt.toNat by omega) (show x95.toInt.toNat ≤ 216 by omega)) k102
      have c103 := k102.gi (Or.inl (tk_ne kM_at0 kM_at4 (by decide))) c58
      have c104 := k102.gi (Or.inl (tk_ne kM_at0 kM_at4 (by decide))) c59
      have c105 := k102.gi (Or.inl (tk_ne kM_at3 kM_at4 (by decide))) c60
      have c106 := k102.gi (Or.inl (tk_ne kM_at5 kM_at4 (by decide))) c61
      have c107 := k102.gi (Or.inl (tk_ne kM_at0 kM_at4 (by decide))) c62
      have c108 := k102.gi (Or.inr (show (36 * f0_.toInt + 3 * f3_.toInt + 0).toNat ≠ x95.toInt.toNat by omega)) c63
      have c109 := k102.gi (Or.inl (tk_ne kM_at0 kM_at4 (by decide))) c54
      have c101 : gi w100 4 (36 * f0_.toInt + 3 * f3_.toInt + 1).toNat = f2_ := (congrArg (gi w100 4) (congrArg Int.toNat (show 36 * f0_.toInt + 3 * f3_.toInt + 1 = x95.toInt by omega))).trans c101
      refine lv_aload_n hx hb dX12_isDoingHere_67 rfl (lv_at hl 1 rfl) ?_
      obtain ⟨x110, c111, rx110, tx110⟩ := hT.rdi (lo := 0) (hi := 400) (k := 22) kM_at0 (by decide) rfl
      obtain ⟨x112, c113, rx112, tx112⟩ := hT.rdi (lo := (-100)) (hi := 10) (k := 19) kM_at0 (by decide) rfl
      refine tk_Vi hC hK hw hT hA hE hSR kM_at0 (by decide) rfl (k_X12_tested_1 l adK adV dC dI cy ad B (by omega) (by omega) qr s1    w100 H.size hT f0_ c103 (show 0 ≤ f0_.toInt by omega) (show f0_.toInt ≤ 5 by omega) f1_ c104 (show 0 ≤ f1_.toInt by omega) (show f1_.toInt ≤ 60 by omega) x112 c113 (show (-100) ≤ x112.toInt by omega) (show x112.toInt ≤ 10 by omega) x110 c111 (show 0 ≤ x110.toInt by omega) (show x110.toInt ≤ 400 by omega) f2_ c105 (show 0 ≤ f2_.toInt by omega) (show f2_.toInt ≤ 400 by omega) (show 3 * f2_.toInt ≤ 14 * f1_.toInt by omega) (show f2_.toInt ≤ 280 by omega) f2_.toInt 0 (OKW_nil hR (by rw [c105]) (by omega))) (cwV 0 hC.2.2.2.2 gX12_isDoingHere_X12_tested rfl rfl rfl (by decide +kernel) ⟨Nat.le_of_ble_eq_true rfl, Nat.le_of_ble_eq_true rfl⟩) rfl hl.1 rfl (Nat.le_of_ble_eq_true rfl) dX12_isDoingHere_68 (fun r114 w116 H locs hp115 hw => ?_)
      obtain ⟨hT, k117, hg144⟩ := hp115
      have hF := hF.tr k117 (by decide)
      have c145 := k117.gi kM_at0 (by decide) c103
      have c146 := k117.gi kM_at5 rfl c106
      have c147 := k117.gi kM_at0 (by decide) c107
      have c148 := k117.gi kM_at4 rfl c108
      have c149 := k117.gi kM_at4 rfl c101
      rcases hg144 with ⟨rfl, ⟨x118, c119, rx118, tx118⟩, ⟨x120, c121, rx120, tx120⟩, ⟨x122, c123, rx122, tx122⟩, ⟨x124, c125, rx124, tx124⟩, hq126⟩ | ⟨rfl, ⟨x127, c128, rx127, tx127⟩, ⟨x129, c130, rx129, tx129⟩, ⟨x131, c132, rx131, tx131⟩, ⟨x133, c134, rx133, tx133⟩, hq135⟩ | ⟨rfl, ⟨x136, c137, rx136, tx136⟩, ⟨x138, c139, rx138, tx138⟩, ⟨x140, c141, rx140, tx140⟩, hq142, g143⟩
      · have ex118 : x118.toInt = x5.toInt := by rw [← c147.symm.trans c119]
        have ex122 : x122.toInt = f0_.toInt := by rw [← c145.symm.trans c123]
        obtain ⟨x150, c151, rx150, tx150⟩ := hT.rda (lo := 0) (hi := 400) (i := (f0_.toInt).toNat) kM_at3 rfl rfl (by omega)
        obtain ⟨x152, c153, rx152, tx152⟩ := hT.rdi (lo := 0) (hi := 60) (k := 18) kM_at0 (by decide) rfl
        obtain ⟨x154, c155, rx154, tx154⟩ := hT.rdi (lo := (-100)) (hi := 10) (k := 19) kM_at0 (by decide) rfl
        have hR := hq126
        refine lv_if_ne (tgt := 76) hx hb dX12_isDoingHere_71 (by decide) (fun c => absurd (by decide) c) (fun _ => ?_)
        refine lv_iconst (v := 0) hx hb dX12_isDoingHere_74 (by decide) ?_
        exact tk_zret hC hr rfl hlocks hK ⟨hT, hF, (Or.inl ⟨rfl, ⟨x5, c147, (show 1 ≤ x5.toInt by omega), (show x5.toInt ≤ 400 by omega)⟩, ⟨x120, c121, (show 1 ≤ x120.toInt by omega), (show x120.toInt ≤ 3205 by omega)⟩, ⟨f0_, c145, (show 0 ≤ f0_.toInt by omega), (show f0_.toInt ≤ 5 by omega)⟩, ⟨x124, c125, (show 0 ≤ x124.toInt by omega), (show x124.toInt ≤ 399 by omega)⟩, hR⟩)⟩ hw dX12_isDoingHere_75
      · have ex127 : x127.toInt = x5.toInt := by rw [← c147.symm.trans c128]
        have ex131 : x131.toInt = f0_.toInt := by rw [← c145.symm.trans c132]
        obtain ⟨x156, c157, rx156, tx156⟩ := hT.rda (lo := 0) (hi := 400) (i := (f0_.toInt).toNat) kM_at3 rfl rfl (by omega)
        obtain ⟨x158, c159, rx158, tx158⟩ := hT.rdi (lo := 0) (hi := 60) (k := 18) kM_at0 (by decide) rfl
        obtain ⟨x160, c161, rx160, tx160⟩ := hT.rdi (lo := (-100)) (hi := 10) (k := 19) kM_at0 (by decide) rfl
        have hR := hq135
        refine lv_if_ne (tgt := 76) hx hb dX12_isDoingHere_71 (by decide) (fun c => absurd (by decide) c) (fun _ => ?_)
        refine lv_iconst (v := 0) hx hb dX12_isDoingHere_74 (by decide) ?_
        exact tk_zret hC hr rfl hlocks hK ⟨hT, hF, (Or.inl ⟨rfl, ⟨x5, c147, (show 1 ≤ x5.toInt by omega), (show x5.toInt ≤ 400 by omega)⟩, ⟨x129, c130, (show 1 ≤ x129.toInt by omega), (show x129.toInt ≤ 3205 by omega)⟩, ⟨f0_, c145, (show 0 ≤ f0_.toInt by omega), (show f0_.toInt ≤ 5 by omega)⟩, ⟨x133, c134, (show 0 ≤ x133.toInt by omega), (show x133.toInt ≤ 399 by omega)⟩, hR⟩)⟩ hw dX12_isDoingHere_75
      · have ex136 : x136.toInt = f0_.toInt := by rw [← c145.symm.trans c137]
        obtain ⟨x162, c163, rx162, tx162⟩ := hT.rda (lo := 0) (hi := 400) (i := (f0_.toInt).toNat) kM_at3 rfl rfl (by omega)
        obtain ⟨x164, c165, rx164, tx164⟩ := hT.rdi (lo := 0) (hi := 60) (k := 18) kM_at0 (by decide) rfl
        have g143 : 3 * x162.toInt ≤ 14 * x164.toInt := by have q := g143; simp only [c103, c145, c163, c165] at q; omega
        have hO : OKW w116 f0_.toInt f2_.toInt (1) := by have q := hq142; exact OKW_cast q (by omega)
        refine lv_if_ne (tgt := 76) hx hb dX12_isDoingHere_71 (by decide) (fun _ => ?_) (fun c => absurd c (by decide))
        refine lv_aload_n hx hb dX12_isDoingHere_76 rfl (lv_at hl 1 rfl) ?_
        refine tk_getA hC hK hw hT hinX12 kM_at0 (by decide) rfl 5 (by decide) (List.mem_of_getElem? (i := 3) rfl) rfl rfl dX12_isDoingHere_77 ?_
        refine lv_iload_n hx hb dX12_isDoingHere_80 rfl (lv_at hl 0 rfl) ?_
        refine lv_iconst (v := 2) hx hb dX12_isDoingHere_81 (by decide) ?_
        refine lv_iadd hx hb dX12_isDoingHere_82 ?_
        refine lv_topi (fun x166 ex166 => ?_)
        have ex166 : x166.toInt = x24.toInt + (2 : Int) := by rw [ex166]; exact wk_add (show (-2147483648) ≤ x24.toInt + (2 : Int) by omega) (show x24.toInt + (2 : Int) ≤ 2147483647 by omega)
        refine lv_aload_n hx hb dX12_isDoingHere_83 rfl (lv_at hl 1 rfl) ?_
        refine tk_getA hC hK hw hT hinX12 kM_at0 (by decide) rfl 4 (by decide) (List.mem_of_getElem? (i := 5) rfl) rfl rfl dX12_isDoingHere_84 ?_
        refine lv_aload_n hx hb dX12_isDoingHere_87 rfl (lv_at hl 1 rfl) ?_
        refine tk_geti hC hK hw hT hinX12 kM_at0 (by decide) rfl 17 (by decide) (List.mem_of_getElem? (i := 1) rfl) rfl rfl dX12_isDoingHere_88 (fun x167 c168 rx167 tx167 => ?_)
        refine wk_top f0_ (c168.symm.trans c145) ?_
        refine tk_iald hC hK hw hT kM_at3 rfl rfl (show 0 ≤ f0_.toInt by omega) (show f0_.toInt < 7 by omega) dX12_isDoingHere_91 (fun x169 c170 rx169 tx169 => ?_)
        have c170 : gi w116 3 (f0_.toInt).toNat = x169 := (congrArg (gi w116 3) (congrArg Int.toNat (show f0_.toInt = f0_.toInt by omega))).trans c170
        refine wk_top x162 (c170.symm.trans c163) ?_
        refine tk_iast hC hK hw hT kM_at4 (by decide) rfl rfl (show 0 ≤ x166.toInt by omega) (show x166.toInt < 216 by omega) (wk_i32 x162).1 (wk_i32 x162).2 dX12_isDoingHere_92 (fun H locs w171 hw hT k173 c172 => ?_)
        have hO := OKW_clause hO k173 (show 36 * f0_.toInt + 3 * (gi w116 5 (f0_.toInt).toNat).toInt ≤ ((x166.toInt.toNat : Nat) : Int) by rw [c146]; omega) (show ((x166.toInt.toNat : Nat) : Int) < 36 * f0_.toInt + 36 by omega) (fun r hr => by obtain ⟨x, e, t⟩ := hT.rda (lo := 0) (hi := 12) (i := r) kM_at5 rfl rfl hr; rw [e]; exact t)
        have hF := hF.put kM_at4 (inE_of (a := 0) (b := 216) (by decide) (show 0 ≤ x166.toInt.toNat by omega) (show x166.toInt.toNat ≤ 216 by omega)) k173
        have c174 := k173.gi (Or.inl (tk_ne kM_at0 kM_at4 (by decide))) c145
        have c175 := k173.gi (Or.inl (tk_ne kM_at5 kM_at4 (by decide))) c146
        have c176 := k173.gi (Or.inl (tk_ne kM_at0 kM_at4 (by decide))) c147
        have c177 := k173.gi (Or.inr (show (36 * f0_.toInt + 3 * f3_.toInt + 0).toNat ≠ x166.toInt.toNat by omega)) c148
        have c178 := k173.gi (Or.inr (show (36 * f0_.toInt + 3 * f3_.toInt + 1).toNat ≠ x166.toInt.toNat by omega)) c149
        have c179 := k173.gi (Or.inl (tk_ne kM_at0 kM_at4 (by decide))) c139
        have c180 := k173.gi (Or.inl (tk_ne kM_at0 kM_at4 (by decide))) c141
        have c181 := k173.gi (Or.inl (tk_ne kM_at3 kM_at4 (by decide))) c163
        have c182 := k173.gi (Or.inl (tk_ne kM_at0 kM_at4 (by decide))) c165
        have c172 : gi w171 4 (36 * f0_.toInt + 3 * f3_.toInt + 2).toNat = x162 := (congrArg (gi w171 4) (congrArg Int.toNat (show 36 * f0_.toInt + 3 * f3_.toInt + 2 = x166.toInt by omega))).trans c172
        refine lv_aload_n hx hb dX12_isDoingHere_93 rfl (lv_at hl 1 rfl) ?_
        refine tk_getA hC hK hw hT hinX12 kM_at0 (by decide) rfl 6 (by decide) (List.mem_of_getElem? (i := 2) rfl) rfl rfl dX12_isDoingHere_94 ?_
        refine lv_aload_n hx hb dX12_isDoingHere_97 rfl (lv_at hl 1 rfl) ?_
        refine tk_geti hC hK hw hT hinX12 kM_at0 (by decide) rfl 17 (by decide) (List.mem_of_getElem? (i := 1) rfl) rfl rfl dX12_isDoingHere_98 (fun x183 c184 rx183 tx183 => ?_)
        refine wk_top f0_ (c184.symm.trans c174) ?_
        refine lv_dup2_11 hx hb dX12_isDoingHere_101 rfl rfl ?_
        refine tk_iald hC hK hw hT kM_at5 rfl rfl (show 0 ≤ f0_.toInt by omega) (show f0_.toInt < 6 by omega) dX12_isDoingHere_102 (fun x185 c186 rx185 tx185 => ?_)
        have c186 : gi w171 5 (f0_.toInt).toNat = x185 := (congrArg (gi w171 5) (congrArg Int.toNat (show f0_.toInt = f0_.toInt by omega))).trans c186
        refine wk_top f3_ (c186.symm.trans c175) ?_
        refine lv_iconst (v := 1) hx hb dX12_isDoingHere_103 (by decide) ?_
        refine lv_iadd hx hb dX12_isDoingHere_104 ?_
        refine lv_topi (fun x187 ex187 => ?_)
        have ex187 : x187.toInt = f3_.toInt + (1 : Int) := by rw [ex187]; exact wk_add (show (-2147483648) ≤ f3_.toInt + (1 : Int) by omega) (show f3_.toInt + (1 : Int) ≤ 2147483647 by omega)
        refine tk_iast hC hK hw hT kM_at5 (by decide) rfl rfl (show 0 ≤ f0_.toInt by omega) (show f0_.toInt < 6 by omega) (show 0 ≤ x187.toInt by omega) (show x187.toInt ≤ 12 by omega) dX12_isDoingHere_105 (fun H locs w188 hw hT k190 c189 => ?_)
        have hR := RL_add (t := f0_.toInt) (K := f3_) (b := f2_) hO.1 k190 c175 (by rw [show gi w188 5 (f0_.toInt).toNat = x187 from c189]; omega) (by omega) c178 (c172.trans c181.symm) (by rw [c181]; omega) (Or.inr (OKW_cast hO (by omega)))
        have hF := hF.put kM_at5 (inE_of (a := 0) (b := 6) (by decide) (show 0 ≤ f0_.toInt.toNat by omega) (show f0_.toInt.toNat ≤ 6 by omega)) k190
        have c191 := k190.gi (Or.inl (tk_ne kM_at0 kM_at5 (by decide))) c174
        have c192 := k190.gi (Or.inl (tk_ne kM_at0 kM_at5 (by decide))) c176
        have c193 := k190.gi (Or.inl (tk_ne kM_at4 kM_at5 (by decide))) c177
        have c194 := k190.gi (Or.inl (tk_ne kM_at4 kM_at5 (by decide))) c178
        have c195 := k190.gi (Or.inl (tk_ne kM_at0 kM_at5 (by decide))) c179
        have c196 := k190.gi (Or.inl (tk_ne kM_at0 kM_at5 (by decide))) c180
        have c197 := k190.gi (Or.inl (tk_ne kM_at3 kM_at5 (by decide))) c181
        have c198 := k190.gi (Or.inl (tk_ne kM_at0 kM_at5 (by decide))) c182
        have c199 := k190.gi (Or.inl (tk_ne kM_at4 kM_at5 (by decide))) c172
        have c189 : gi w188 5 (f0_.toInt).toNat = x187 := (congrArg (gi w188 5) (congrArg Int.toNat (show f0_.toInt = f0_.toInt by omega))).trans c189
        refine lv_iconst (v := 1) hx hb dX12_isDoingHere_106 (by decide) ?_
        exact tk_zret hC hr rfl hlocks hK ⟨hT, hF, (Or.inr (Or.inr (Or.inl ⟨rfl, ⟨x5, c192, (show 1 ≤ x5.toInt by omega), (show x5.toInt ≤ 400 by omega)⟩, ⟨f0_, c191, (show 0 ≤ f0_.toInt by omega), (show f0_.toInt ≤ 5 by omega)⟩, hR, (by simp only [c191, cf0_, c197, c198]; omega), (by simp only [c191, cf0_, cf3_, c189]; omega)⟩)))⟩ hw dX12_isDoingHere_107
    · have ex55 : x55.toInt = x5.toInt := by rw [← c62.symm.trans c56]
      refine lv_if_eq (tgt := 76) hx hb dX12_isDoingHere_47 (by decide) (fun c => absurd c (by decide)) (fun _ => ?_)
      refine lv_aload_n hx hb dX12_isDoingHere_50 rfl (lv_at hl 1 rfl) ?_
      refine tk_getA hC hK hw hT hinX12 kM_at0 (by decide) rfl 5 (by decide) (List.mem_of_getElem? (i := 3) rfl) rfl rfl dX12_isDoingHere_51 ?_
      refine lv_iload_n hx hb dX12_isDoingHere_54 rfl (lv_at hl 0 rfl) ?_
      refine lv_iconst (v := 1) hx hb dX12_isDoingHere_55 (by decide) ?_
      refine lv_iadd hx hb dX12_isDoingHere_56 ?_
      refine lv_topi (fun x200 ex200 => ?_)
      have ex200 : x200.toInt = x24.toInt + (1 : Int) := by rw [ex200]; exact wk_add (show (-2147483648) ≤ x24.toInt + (1 : Int) by omega) (show x24.toInt + (1 : Int) ≤ 2147483647 by omega)
      refine lv_aload_n hx hb dX12_isDoingHere_57 rfl (lv_at hl 1 rfl) ?_
      refine tk_getA hC hK hw hT hinX12 kM_at0 (by decide) rfl 4 (by decide) (List.mem_of_getElem? (i := 5) rfl) rfl rfl dX12_isDoingHere_58 ?_
      refine lv_aload_n hx hb dX12_isDoingHere_61 rfl (lv_at hl 1 rfl) ?_
      refine tk_geti hC hK hw hT hinX12 kM_at0 (by decide) rfl 17 (by decide) (List.mem_of_getElem? (i := 1) rfl) rfl rfl dX12_isDoingHere_62 (fun x201 c202 rx201 tx201 => ?_)
      refine wk_top f0_ (c202.symm.trans c58) ?_
      refine tk_iald hC hK hw hT kM_at3 rfl rfl (show 0 ≤ f0_.toInt by omega) (show f0_.toInt < 7 by omega) dX12_isDoingHere_65 (fun x203 c204 rx203 tx203 => ?_)
      have c204 : gi w47 3 (f0_.toInt).toNat = x203 := (congrArg (gi w47 3) (congrArg Int.toNat (show f0_.toInt = f0_.toInt by omega))).trans c204
      refine wk_top f2_ (c204.symm.trans c60) ?_
      refine tk_iast hC hK hw hT kM_at4 (by decide) rfl rfl (show 0 ≤ x200.toInt by omega) (show x200.toInt < 216 by omega) (wk_i32 f2_).1 (wk_i32 f2_).2 dX12_isDoingHere_66 (fun H locs w205 hw hT k207 c206 => ?_)
      have hR := RL_clause hR k207 (show 36 * f0_.toInt + 3 * (gi w47 5 (f0_.toInt).toNat).toInt ≤ ((x200.toInt.toNat : Nat) : Int) by rw [c61]; omega) (show ((x200.toInt.toNat : Nat) : Int) < 36 * f0_.toInt + 36 by omega) (fun r hr => by obtain ⟨x, e, t⟩ := hT.rda (lo := 0) (hi := 12) (i := r) kM_at5 rfl rfl hr; rw [e]; exact t)
      have hF := hF.put kM_at4 (inE_of (a := 0) (b := 216) (by decide) (show 0 ≤ x200.toInt.toNat by omega) (show x200.toInt.toNat ≤ 216 by omega)) k207
      have c208 := k207.gi (Or.inl (tk_ne kM_at0 kM_at4 (by decide))) c58
      have c209 := k207.gi (Or.inl (tk_ne kM_at0 kM_at4 (by decide))) c59
      have c210 := k207.gi (Or.inl (tk_ne kM_at3 kM_at4 (by decide))) c60
      have c211 := k207.gi (Or.inl (tk_ne kM_at5 kM_at4 (by decide))) c61
      have c212 := k207.gi (Or.inl (tk_ne kM_at0 kM_at4 (by decide))) c62
      have c213 := k207.gi (Or.inr (show (36 * f0_.toInt + 3 * f3_.toInt + 0).toNat ≠ x200.toInt.toNat by omega)) c63
      have c206 : gi w205 4 (36 * f0_.toInt + 3 * f3_.toInt + 1).toNat = f2_ := (congrArg (gi w205 4) (congrArg Int.toNat (show 36 * f0_.toInt + 3 * f3_.toInt + 1 = x200.toInt by omega))).trans c206
      refine lv_aload_n hx hb dX12_isDoingHere_67 rfl (lv_at hl 1 rfl) ?_
      obtain ⟨x214, c215, rx214, tx214⟩ := hT.rdi (lo := 0) (hi := 400) (k := 22) kM_at0 (by decide) rfl
      obtain ⟨x216, c217, rx216, tx216⟩ := hT.rdi (lo := (-100)) (hi := 10) (k := 19) kM_at0 (by decide) rfl
      refine tk_Vi hC hK hw hT hA hE hSR kM_at0 (by decide) rfl (k_X12_tested_1 l adK adV dC dI cy ad B (by omega) (by omega) qr s1    w205 H.size hT f0_ c208 (show 0 ≤ f0_.toInt by omega) (show f0_.toInt ≤ 5 by omega) f1_ c209 (show 0 ≤ f1_.toInt by omega) (show f1_.toInt ≤ 60 by omega) x216 c217 (show (-100) ≤ x216.toInt by omega) (show x216.toInt ≤ 10 by omega) x214 c215 (show 0 ≤ x214.toInt by omega) (show x214.toInt ≤ 400 by omega) f2_ c210 (show 0 ≤ f2_.toInt by omega) (show f2_.toInt ≤ 400 by omega) (show 3 * f2_.toInt ≤ 14 * f1_.toInt by omega) (show f2_.toInt ≤ 280 by omega) f2_.toInt 0 (OKW_nil hR (by rw [c210]) (by omega))) (cwV 0 hC.2.2.2.2 gX12_isDoingHere_X12_tested rfl rfl rfl (by decide +kernel) ⟨Nat.le_of_ble_eq_true rfl, Nat.le_of_ble_eq_true rfl⟩) rfl hl.1 rfl (Nat.le_of_ble_eq_true rfl) dX12_isDoingHere_68 (fun r218 w220 H locs hp219 hw => ?_)
      obtain ⟨hT, k221, hg248⟩ := hp219
      have hF := hF.tr k221 (by decide)
      have c249 := k221.gi kM_at0 (by decide) c208
      have c250 := k221.gi kM_at5 rfl c211
      have c251 := k221.gi kM_at0 (by decide) c212
      have c252 := k221.gi kM_at4 rfl c213
      have c253 := k221.gi kM_at4 rfl c206
      rcases hg248 with ⟨rfl, ⟨x222, c223, rx222, tx222⟩, ⟨x224, c225, rx224, tx224⟩, ⟨x226, c227, rx226, tx226⟩, ⟨x228, c229, rx228, tx228⟩, hq230⟩ | ⟨rfl, ⟨x231, c232, rx231, tx231⟩, ⟨x233, c234, rx233, tx233⟩, ⟨x235, c236, rx235, tx235⟩, ⟨x237, c238, rx237, tx237⟩, hq239⟩ | ⟨rfl, ⟨x240, c241, rx240, tx240⟩, ⟨x242, c243, rx242, tx242⟩, ⟨x244, c245, rx244, tx244⟩, hq246, g247⟩
      · have ex222 : x222.toInt = x5.toInt := by rw [← c251.symm.trans c223]
        have ex226 : x226.toInt = f0_.toInt := by rw [← c249.symm.trans c227]
        obtain ⟨x254, c255, rx254, tx254⟩ := hT.rda (lo := 0) (hi := 400) (i := (f0_.toInt).toNat) kM_at3 rfl rfl (by omega)
        obtain ⟨x256, c257, rx256, tx256⟩ := hT.rdi (lo := 0) (hi := 60) (k := 18) kM_at0 (by decide) rfl
        obtain ⟨x258, c259, rx258, tx258⟩ := hT.rdi (lo := (-100)) (hi := 10) (k := 19) kM_at0 (by decide) rfl
        have hR := hq230
        refine lv_if_ne (tgt := 76) hx hb dX12_isDoingHere_71 (by decide) (fun c => absurd (by decide) c) (fun _ => ?_)
        refine lv_iconst (v := 0) hx hb dX12_isDoingHere_74 (by decide) ?_
        exact tk_zret hC hr rfl hlocks hK ⟨hT, hF, (Or.inl ⟨rfl, ⟨x5, c251, (show 1 ≤ x5.toInt by omega), (show x5.toInt ≤ 400 by omega)⟩, ⟨x224, c225, (show 1 ≤ x224.toInt by omega), (show x224.toInt ≤ 3205 by omega)⟩, ⟨f0_, c249, (show 0 ≤ f0_.toInt by omega), (show f0_.toInt ≤ 5 by omega)⟩, ⟨x228, c229, (show 0 ≤ x228.toInt by omega), (show x228.toInt ≤ 399 by omega)⟩, hR⟩)⟩ hw dX12_isDoingHere_75
      · have ex231 : x231.toInt = x5.toInt := by rw [← c251.symm.trans c232]
        have ex235 : x235.toInt = f0_.toInt := by rw [← c249.symm.trans c236]
        obtain ⟨x260, c261, rx260, tx260⟩ := hT.rda (lo := 0) (hi := 400) (i := (f0_.toInt).toNat) kM_at3 rfl rfl (by omega)
        obtain ⟨x262, c263, rx262, tx262⟩ := hT.rdi (lo := 0) (hi := 60) (k := 18) kM_at0 (by decide) rfl
        obtain ⟨x264, c265, rx264, tx264⟩ := hT.rdi (lo := (-100)) (hi := 10) (k := 19) kM_at0 (by decide) rfl
        have hR := hq239
        refine lv_if_ne (tgt := 76) hx hb dX12_isDoingHere_71 (by decide) (fun c => absurd (by decide) c) (fun _ => ?_)
        refine lv_iconst (v := 0) hx hb dX12_isDoingHere_74 (by decide) ?_
        exact tk_zret hC hr rfl hlocks hK ⟨hT, hF, (Or.inl ⟨rfl, ⟨x5, c251, (show 1 ≤ x5.toInt by omega), (show x5.toInt ≤ 400 by omega)⟩, ⟨x233, c234, (show 1 ≤ x233.toInt by omega), (show x233.toInt ≤ 3205 by omega)⟩, ⟨f0_, c249, (show 0 ≤ f0_.toInt by omega), (show f0_.toInt ≤ 5 by omega)⟩, ⟨x237, c238, (show 0 ≤ x237.toInt by omega), (show x237.toInt ≤ 399 by omega)⟩, hR⟩)⟩ hw dX12_isDoingHere_75
      · have ex240 : x240.toInt = f0_.toInt := by rw [← c249.symm.trans c241]
        obtain ⟨x266, c267, rx266, tx266⟩ := hT.rda (lo := 0) (hi := 400) (i := (f0_.toInt).toNat) kM_at3 rfl rfl (by omega)
        obtain ⟨x268, c269, rx268, tx268⟩ := hT.rdi (lo := 0) (hi := 60) (k := 18) kM_at0 (by decide) rfl
        have g247 : 3 * x266.toInt ≤ 14 * x268.toInt := by have q := g247; simp only [c208, c249, c267, c269] at q; omega
        have hO : OKW w220 f0_.toInt f2_.toInt (1) := by have q := hq246; exact OKW_cast q (by omega)
        refine lv_if_ne (tgt := 76) hx hb dX12_isDoingHere_71 (by decide) (fun _ => ?_) (fun c => absurd c (by decide))
        refine lv_aload_n hx hb dX12_isDoingHere_76 rfl (lv_at hl 1 rfl) ?_
        refine tk_getA hC hK hw hT hinX12 kM_at0 (by decide) rfl 5 (by decide) (List.mem_of_getElem? (i := 3) rfl) rfl rfl dX12_isDoingHere_77 ?_
        refine lv_iload_n hx hb dX12_isDoingHere_80 rfl (lv_at hl 0 rfl) ?_
        refine lv_iconst (v := 2) hx hb dX12_isDoingHere_81 (by decide) ?_
        refine lv_iadd hx hb dX12_isDoingHere_82 ?_
        refine lv_topi (fun x270 ex270 => ?_)
        have ex270 : x270.toInt = x24.toInt + (2 : Int) := by rw [ex270]; exact wk_add (show (-2147483648) ≤ x24.toInt + (2 : Int) by omega) (show x24.toInt + (2 : Int) ≤ 2147483647 by omega)
        refine lv_aload_n hx hb dX12_isDoingHere_83 rfl (lv_at hl 1 rfl) ?_
        refine tk_getA hC hK hw hT hinX12 kM_at0 (by decide) rfl 4 (by decide) (List.mem_of_getElem? (i := 5) rfl) rfl rfl dX12_isDoingHere_84 ?_
        refine lv_aload_n hx hb dX12_isDoingHere_87 rfl (lv_at hl 1 rfl) ?_
        refine tk_geti hC hK hw hT hinX12 kM_at0 (by decide) rfl 17 (by decide) (List.mem_of_getElem? (i := 1) rfl) rfl rfl dX12_isDoingHere_88 (fun x271 c272 rx271 tx271 => ?_)
        refine wk_top f0_ (c272.symm.trans c249) ?_
        refine tk_iald hC hK hw hT kM_at3 rfl rfl (show 0 ≤ f0_.toInt by omega) (show f0_.toInt < 7 by omega) dX12_isDoingHere_91 (fun x273 c274 rx273 tx273 => ?_)
        have c274 : gi w220 3 (f0_.toInt).toNat = x273 := (congrArg (gi w220 3) (congrArg Int.toNat (show f0_.toInt = f0_.toInt by omega))).trans c274
        refine wk_top x266 (c274.symm.trans c267) ?_
        refine tk_iast hC hK hw hT kM_at4 (by decide) rfl rfl (show 0 ≤ x270.toInt by omega) (show x270.toInt < 216 by omega) (wk_i32 x266).1 (wk_i32 x266).2 dX12_isDoingHere_92 (fun H locs w275 hw hT k277 c276 => ?_)
        have hO := OKW_clause hO k277 (show 36 * f0_.toInt + 3 * (gi w220 5 (f0_.toInt).toNat).toInt ≤ ((x270.toInt.toNat : Nat) : Int) by rw [c250]; omega) (show ((x270.toInt.toNat : Nat) : Int) < 36 * f0_.toInt + 36 by omega) (fun r hr => by obtain ⟨x, e, t⟩ := hT.rda (lo := 0) (hi := 12) (i := r) kM_at5 rfl rfl hr; rw [e]; exact t)
        have hF := hF.put kM_at4 (inE_of (a := 0) (b := 216) (by decide) (show 0 ≤ x270.toInt.toNat by omega) (show x270.toInt.toNat ≤ 216 by omega)) k277
        have c278 := k277.gi (Or.inl (tk_ne kM_at0 kM_at4 (by decide))) c249
        have c279 := k277.gi (Or.inl (tk_ne kM_at5 kM_at4 (by decide))) c250
        have c280 := k277.gi (Or.inl (tk_ne kM_at0 kM_at4 (by decide))) c251
        have c281 := k277.gi (Or.inr (show (36 * f0_.toInt + 3 * f3_.toInt + 0).toNat ≠ x270.toInt.toNat by omega)) c252
        have c282 := k277.gi (Or.inr (show (36 * f0_.toInt + 3 * f3_.toInt + 1).toNat ≠ x270.toInt.toNat by omega)) c253
        have c283 := k277.gi (Or.inl (tk_ne kM_at0 kM_at4 (by decide))) c243
        have c284 := k277.gi (Or.inl (tk_ne kM_at0 kM_at4 (by decide))) c245
        have c285 := k277.gi (Or.inl (tk_ne kM_at3 kM_at4 (by decide))) c267
        have c286 := k277.gi (Or.inl (tk_ne kM_at0 kM_at4 (by decide))) c269
        have c276 : gi w275 4 (36 * f0_.toInt + 3 * f3_.toInt + 2).toNat = x266 := (congrArg (gi w275 4) (congrArg Int.toNat (show 36 * f0_.toInt + 3 * f3_.toInt + 2 = x270.toInt by omega))).trans c276
        refine lv_aload_n hx hb dX12_isDoingHere_93 rfl (lv_at hl 1 rfl) ?_
        refine tk_getA hC hK hw hT hinX12 kM_at0 (by decide) rfl 6 (by decide) (List.mem_of_getElem? (i := 2) rfl) rfl rfl dX12_isDoingHere_94 ?_
        refine lv_aload_n hx hb dX12_isDoingHere_97 rfl (lv_at hl 1 rfl) ?_
        refine tk_geti hC hK hw hT hinX12 kM_at0 (by decide) rfl 17 (by decide) (List.mem_of_getElem? (i := 1) rfl) rfl rfl dX12_isDoingHere_98 (fun x287 c288 rx287 tx287 => ?_)
        refine wk_top f0_ (c288.symm.trans c278) ?_
        refine lv_dup2_11 hx hb dX12_isDoingHere_101 rfl rfl ?_
        refine tk_iald hC hK hw hT kM_at5 rfl rfl (show 0 ≤ f0_.toInt by omega) (show f0_.toInt < 6 by omega) dX12_isDoingHere_102 (fun x289 c290 rx289 tx289 => ?_)
        have c290 : gi w275 5 (f0_.toInt).toNat = x289 := (congrArg (gi w275 5) (congrArg Int.toNat (show f0_.toInt = f0_.toInt by omega))).trans c290
        refine wk_top f3_ (c290.symm.trans c279) ?_
        refine lv_iconst (v := 1) hx hb dX12_isDoingHere_103 (by decide) ?_
        refine lv_iadd hx hb dX12_isDoingHere_104 ?_
        refine lv_topi (fun x291 ex291 => ?_)
        have ex291 : x291.toInt = f3_.toInt + (1 : Int) := by rw [ex291]; exact wk_add (show (-2147483648) ≤ f3_.toInt + (1 : Int) by omega) (show f3_.toInt + (1 : Int) ≤ 2147483647 by omega)
        refine tk_iast hC hK hw hT kM_at5 (by decide) rfl rfl (show 0 ≤ f0_.toInt by omega) (show f0_.toInt < 6 by omega) (show 0 ≤ x291.toInt by omega) (show x291.toInt ≤ 12 by omega) dX12_isDoingHere_105 (fun H locs w292 hw hT k294 c293 => ?_)
        have hR := RL_add (t := f0_.toInt) (K := f3_) (b := f2_) hO.1 k294 c279 (by rw [show gi w292 5 (f0_.toInt).toNat = x291 from c293]; omega) (by omega) c282 (c276.trans c285.symm) (by rw [c285]; omega) (Or.inr (OKW_cast hO (by omega)))
        have hF := hF.put kM_at5 (inE_of (a := 0) (b := 6) (by decide) (show 0 ≤ f0_.toInt.toNat by omega) (show f0_.toInt.toNat ≤ 6 by omega)) k294
        have c295 := k294.gi (Or.inl (tk_ne kM_at0 kM_at5 (by decide))) c278
        have c296 := k294.gi (Or.inl (tk_ne kM_at0 kM_at5 (by decide))) c280
        have c297 := k294.gi (Or.inl (tk_ne kM_at4 kM_at5 (by decide))) c281
        have c298 := k294.gi (Or.inl (tk_ne kM_at4 kM_at5 (by decide))) c282
        have c299 := k294.gi (Or.inl (tk_ne kM_at0 kM_at5 (by decide))) c283
        have c300 := k294.gi (Or.inl (tk_ne kM_at0 kM_at5 (by decide))) c284
        have c301 := k294.gi (Or.inl (tk_ne kM_at3 kM_at5 (by decide))) c285
        have c302 := k294.gi (Or.inl (tk_ne kM_at0 kM_at5 (by decide))) c286
        have c303 := k294.gi (Or.inl (tk_ne kM_at4 kM_at5 (by decide))) c276
        have c293 : gi w292 5 (f0_.toInt).toNat = x291 := (congrArg (gi w292 5) (congrArg Int.toNat (show f0_.toInt = f0_.toInt by omega))).trans c293
        refine lv_iconst (v := 1) hx hb dX12_isDoingHere_106 (by decide) ?_
        exact tk_zret hC hr rfl hlocks hK ⟨hT, hF, (Or.inr (Or.inr (Or.inl ⟨rfl, ⟨x5, c296, (show 1 ≤ x5.toInt by omega), (show x5.toInt ≤ 400 by omega)⟩, ⟨f0_, c295, (show 0 ≤ f0_.toInt by omega), (show f0_.toInt ≤ 5 by omega)⟩, hR, (by simp only [c295, cf0_, c301, c302]; omega), (by simp only [c295, cf0_, cf3_, c293]; omega)⟩)))⟩ hw dX12_isDoingHere_107
  · refine lv_bipush (v := 36) hx hb dX12_isDoingHere_4 (by decide) ?_
    refine lv_aload_n hx hb dX12_isDoingHere_6 rfl (lv_at hl 0 rfl) ?_
    refine tk_geti hC hK hw hT hinX12 kM_at0 (by decide) rfl 17 (by decide) (List.mem_of_getElem? (i := 1) rfl) rfl rfl dX12_isDoingHere_7 (fun x304 c305 rx304 tx304 => ?_)
    refine wk_top f0_ (c305.symm.trans c12) ?_
    refine lv_imul hx hb dX12_isDoingHere_10 ?_
    refine lv_topi (fun x306 ex306 => ?_)
    have ex306 : x306.toInt = (36 : Int) * f0_.toInt := by rw [ex306]; exact wk_mul (show (-2147483648) ≤ (36 : Int) * f0_.toInt by omega) (show (36 : Int) * f0_.toInt ≤ 2147483647 by omega)
    refine lv_iconst (v := 3) hx hb dX12_isDoingHere_11 (by decide) ?_
    refine lv_aload_n hx hb dX12_isDoingHere_12 rfl (lv_at hl 0 rfl) ?_
    refine tk_getA hC hK hw hT hinX12 kM_at0 (by decide) rfl 6 (by decide) (List.mem_of_getElem? (i := 2) rfl) rfl rfl dX12_isDoingHere_13 ?_
    refine lv_aload_n hx hb dX12_isDoingHere_16 rfl (lv_at hl 0 rfl) ?_
    refine tk_geti hC hK hw hT hinX12 kM_at0 (by decide) rfl 17 (by decide) (List.mem_of_getElem? (i := 1) rfl) rfl rfl dX12_isDoingHere_17 (fun x307 c308 rx307 tx307 => ?_)
    refine wk_top f0_ (c308.symm.trans c12) ?_
    refine tk_iald hC hK hw hT kM_at5 rfl rfl (show 0 ≤ f0_.toInt by omega) (show f0_.toInt < 6 by omega) dX12_isDoingHere_20 (fun x309 c310 rx309 tx309 => ?_)
    have c310 : gi w3 5 (f0_.toInt).toNat = x309 := (congrArg (gi w3 5) (congrArg Int.toNat (show f0_.toInt = f0_.toInt by omega))).trans c310
    refine wk_top f3_ (c310.symm.trans c15) ?_
    refine lv_imul hx hb dX12_isDoingHere_21 ?_
    refine lv_topi (fun x311 ex311 => ?_)
    have ex311 : x311.toInt = (3 : Int) * f3_.toInt := by rw [ex311]; exact wk_mul (show (-2147483648) ≤ (3 : Int) * f3_.toInt by omega) (show (3 : Int) * f3_.toInt ≤ 2147483647 by omega)
    refine lv_iadd hx hb dX12_isDoingHere_22 ?_
    refine lv_topi (fun x312 ex312 => ?_)
    have ex312 : x312.toInt = x306.toInt + x311.toInt := by rw [ex312]; exact wk_add (show (-2147483648) ≤ x306.toInt + x311.toInt by omega) (show x306.toInt + x311.toInt ≤ 2147483647 by omega)
    refine lv_istore_n (lv' := [(2, .int x312), (0, .ref (ad 0)), (1, .int a1)]) hx hb dX12_isDoingHere_23 rfl hl (by decide) rfl (fun ls hl => ?_)
    refine lv_aload_n hx hb dX12_isDoingHere_24 rfl (lv_at hl 1 rfl) ?_
    refine tk_getA hC hK hw hT hinX12 kM_at0 (by decide) rfl 5 (by decide) (List.mem_of_getElem? (i := 3) rfl) rfl rfl dX12_isDoingHere_25 ?_
    refine lv_iload_n hx hb dX12_isDoingHere_28 rfl (lv_at hl 0 rfl) ?_
    refine lv_iload_n hx hb dX12_isDoingHere_29 rfl (lv_at hl 2 rfl) ?_
    refine tk_iast hC hK hw hT kM_at4 (by decide) rfl rfl (show 0 ≤ x312.toInt by omega) (show x312.toInt < 216 by omega) (wk_i32 a1).1 (wk_i32 a1).2 dX12_isDoingHere_30 (fun H locs w313 hw hT k315 c314 => ?_)
    have hR := RL_clause hR k315 (show 36 * f0_.toInt + 3 * (gi w3 5 (f0_.toInt).toNat).toInt ≤ ((x312.toInt.toNat : Nat) : Int) by rw [c15]; omega) (show ((x312.toInt.toNat : Nat) : Int) < 36 * f0_.toInt + 36 by omega) (fun r hr => by obtain ⟨x, e, t⟩ := hT.rda (lo := 0) (hi := 12) (i := r) kM_at5 rfl rfl hr; rw [e]; exact t)
    have hF := hF.put kM_at4 (inE_of (a := 0) (b := 216) (by decide) (show 0 ≤ x312.toInt.toNat by omega) (show x312.toInt.toNat ≤ 216 by omega)) k315
    have c316 := k315.gi (Or.inl (tk_ne kM_at0 kM_at4 (by decide))) c12
    have c317 := k315.gi (Or.inl (tk_ne kM_at0 kM_at4 (by decide))) c13
    have c318 := k315.gi (Or.inl (tk_ne kM_at3 kM_at4 (by decide))) c14
    have c319 := k315.gi (Or.inl (tk_ne kM_at5 kM_at4 (by decide))) c15
    have c320 := k315.gi (Or.inl (tk_ne kM_at0 kM_at4 (by decide))) c10
    have c314 : gi w313 4 (36 * f0_.toInt + 3 * f3_.toInt + 0).toNat = a1 := (congrArg (gi w313 4) (congrArg Int.toNat (show 36 * f0_.toInt + 3 * f3_.toInt + 0 = x312.toInt by omega))).trans c314
    refine lv_aload_n hx hb dX12_isDoingHere_31 rfl (lv_at hl 1 rfl) ?_
    refine tk_getA hC hK hw hT hinX12 kM_at0 (by decide) rfl 5 (by decide) (List.mem_of_getElem? (i := 3) rfl) rfl rfl dX12_isDoingHere_32 ?_
    refine lv_iload_n hx hb dX12_isDoingHere_35 rfl (lv_at hl 0 rfl) ?_
    refine lv_iconst (v := 1) hx hb dX12_isDoingHere_36 (by decide) ?_
    refine lv_iadd hx hb dX12_isDoingHere_37 ?_
    refine lv_topi (fun x321 ex321 => ?_)
    have ex321 : x321.toInt = x312.toInt + (1 : Int) := by rw [ex321]; exact wk_add (show (-2147483648) ≤ x312.toInt + (1 : Int) by omega) (show x312.toInt + (1 : Int) ≤ 2147483647 by omega)
    refine lv_iconst (v := (-1)) hx hb dX12_isDoingHere_38 (by decide) ?_
    refine tk_iast hC hK hw hT kM_at4 (by decide) rfl rfl (show 0 ≤ x321.toInt by omega) (show x321.toInt < 216 by omega) (by decide) (by decide) dX12_isDoingHere_39 (fun H locs w322 hw hT k324 c323 => ?_)
    have hR := RL_clause hR k324 (show 36 * f0_.toInt + 3 * (gi w313 5 (f0_.toInt).toNat).toInt ≤ ((x321.toInt.toNat : Nat) : Int) by rw [c319]; omega) (show ((x321.toInt.toNat : Nat) : Int) < 36 * f0_.toInt + 36 by omega) (fun r hr => by obtain ⟨x, e, t⟩ := hT.rda (lo := 0) (hi := 12) (i := r) kM_at5 rfl rfl hr; rw [e]; exact t)
    have hF := hF.put kM_at4 (inE_of (a := 0) (b := 216) (by decide) (show 0 ≤ x321.toInt.toNat by omega) (show x321.toInt.toNat ≤ 216 by omega)) k324
    have c325 := k324.gi (Or.inl (tk_ne kM_at0 kM_at4 (by decide))) c316
    have c326 := k324.gi (Or.inl (tk_ne kM_at0 kM_at4 (by decide))) c317
    have c327 := k324.gi (Or.inl (tk_ne kM_at3 kM_at4 (by decide))) c318
    have c328 := k324.gi (Or.inl (tk_ne kM_at5 kM_at4 (by decide))) c319
    have c329 := k324.gi (Or.inl (tk_ne kM_at0 kM_at4 (by decide))) c320
    have c330 := k324.gi (Or.inr (show (36 * f0_.toInt + 3 * f3_.toInt + 0).toNat ≠ x321.toInt.toNat by omega)) c314
    have c323 : gi w322 4 (36 * f0_.toInt + 3 * f3_.toInt + 1).toNat = (-1) := (congrArg (gi w322 4) (congrArg Int.toNat (show 36 * f0_.toInt + 3 * f3_.toInt + 1 = x321.toInt by omega))).trans c323
    refine lv_aload_n hx hb dX12_isDoingHere_40 rfl (lv_at hl 1 rfl) ?_
    refine lv_ldc2 (v := 26982) hx hb hC.2.2.2.1 (hC.2.2.2.2 _ (List.mem_of_getElem? (i := 4) rfl)) dX12_isDoingHere_41 ?_
    refine tk_Vi hC hK hw hT hA hE hSR kM_at0 (by decide) rfl (k_X12_takesWord_1 l adK adV dC dI cy ad B (by omega) (by omega) qr s1    w322 H.size hT ) (cwV 1 hC.2.2.2.2 gX12_isDoingHere_X12_takesWord rfl rfl rfl (by decide +kernel) ⟨Nat.le_of_ble_eq_true rfl, Nat.le_of_ble_eq_true rfl⟩) rfl hl.1 rfl (Nat.le_of_ble_eq_true rfl) dX12_isDoingHere_44 (fun r331 w333 H locs hp332 hw => ?_)
    obtain ⟨hT, k334, hg343⟩ := hp332
    have hR := RL_FE k334 (fun _ => rfl) (fun _ => rfl) (fun _ => rfl) (fun _ => rfl) hR
    have hF := hF.tr k334 (by decide)
    have c344 := k334.gi kM_at0 (by decide) c325
    have c345 := k334.gi kM_at0 (by decide) c326
    have c346 := k334.gi kM_at3 rfl c327
    have c347 := k334.gi kM_at5 rfl c328
    have c348 := k334.gi kM_at0 (by decide) c329
    have c349 := k334.gi kM_at4 rfl c330
    have c350 := k334.gi kM_at4 rfl c323
    rcases hg343 with ⟨rfl, ⟨x335, c336, rx335, tx335⟩⟩ | ⟨rfl, ⟨x337, c338, rx337, tx337⟩, ⟨x339, c340, rx339, tx339⟩⟩ | ⟨rfl, ⟨x341, c342, rx341, tx341⟩⟩
    · have ex335 : x335.toInt = x9.toInt := by rw [← c348.symm.trans c336]
      refine lv_if_eq (tgt := 76) hx hb dX12_isDoingHere_47 (by decide) (fun _ => ?_) (fun c => absurd (by decide) c)
      refine lv_aload_n hx hb dX12_isDoingHere_76 rfl (lv_at hl 1 rfl) ?_
      refine tk_getA hC hK hw hT hinX12 kM_at0 (by decide) rfl 5 (by decide) (List.mem_of_getElem? (i := 3) rfl) rfl rfl dX12_isDoingHere_77 ?_
      refine lv_iload_n hx hb dX12_isDoingHere_80 rfl (lv_at hl 0 rfl) ?_
      refine lv_iconst (v := 2) hx hb dX12_isDoingHere_81 (by decide) ?_
      refine lv_iadd hx hb dX12_isDoingHere_82 ?_
      refine lv_topi (fun x351 ex351 => ?_)
      have ex351 : x351.toInt = x312.toInt + (2 : Int) := by rw [ex351]; exact wk_add (show (-2147483648) ≤ x312.toInt + (2 : Int) by omega) (show x312.toInt + (2 : Int) ≤ 2147483647 by omega)
      refine lv_aload_n hx hb dX12_isDoingHere_83 rfl (lv_at hl 1 rfl) ?_
      refine tk_getA hC hK hw hT hinX12 kM_at0 (by decide) rfl 4 (by decide) (List.mem_of_getElem? (i := 5) rfl) rfl rfl dX12_isDoingHere_84 ?_
      refine lv_aload_n hx hb dX12_isDoingHere_87 rfl (lv_at hl 1 rfl) ?_
      refine tk_geti hC hK hw hT hinX12 kM_at0 (by decide) rfl 17 (by decide) (List.mem_of_getElem? (i := 1) rfl) rfl rfl dX12_isDoingHere_88 (fun x352 c353 rx352 tx352 => ?_)
      refine wk_top f0_ (c353.symm.trans c344) ?_
      refine tk_iald hC hK hw hT kM_at3 rfl rfl (show 0 ≤ f0_.toInt by omega) (show f0_.toInt < 7 by omega) dX12_isDoingHere_91 (fun x354 c355 rx354 tx354 => ?_)
      have c355 : gi w333 3 (f0_.toInt).toNat = x354 := (congrArg (gi w333 3) (congrArg Int.toNat (show f0_.toInt = f0_.toInt by omega))).trans c355
      refine wk_top f2_ (c355.symm.trans c346) ?_
      refine tk_iast hC hK hw hT kM_at4 (by decide) rfl rfl (show 0 ≤ x351.toInt by omega) (show x351.toInt < 216 by omega) (wk_i32 f2_).1 (wk_i32 f2_).2 dX12_isDoingHere_92 (fun H locs w356 hw hT k358 c357 => ?_)
      have hR := RL_clause hR k358 (show 36 * f0_.toInt + 3 * (gi w333 5 (f0_.toInt).toNat).toInt ≤ ((x351.toInt.toNat : Nat) : Int) by rw [c347]; omega) (show ((x351.toInt.toNat : Nat) : Int) < 36 * f0_.toInt + 36 by omega) (fun r hr => by obtain ⟨x, e, t⟩ := hT.rda (lo := 0) (hi := 12) (i := r) kM_at5 rfl rfl hr; rw [e]; exact t)
      have hF := hF.put kM_at4 (inE_of (a := 0) (b := 216) (by decide) (show 0 ≤ x351.toInt.toNat by omega) (show x351.toInt.toNat ≤ 216 by omega)) k358
      have c359 := k358.gi (Or.inl (tk_ne kM_at0 kM_at4 (by decide))) c344
      have c360 := k358.gi (Or.inl (tk_ne kM_at0 kM_at4 (by decide))) c345
      have c361 := k358.gi (Or.inl (tk_ne kM_at3 kM_at4 (by decide))) c346
      have c362 := k358.gi (Or.inl (tk_ne kM_at5 kM_at4 (by decide))) c347
      have c363 := k358.gi (Or.inl (tk_ne kM_at0 kM_at4 (by decide))) c348
      have c364 := k358.gi (Or.inr (show (36 * f0_.toInt + 3 * f3_.toInt + 0).toNat ≠ x351.toInt.toNat by omega)) c349
      have c365 := k358.gi (Or.inr (show (36 * f0_.toInt + 3 * f3_.toInt + 1).toNat ≠ x351.toInt.toNat by omega)) c350
      have c357 : gi w356 4 (36 * f0_.toInt + 3 * f3_.toInt + 2).toNat = f2_ := (congrArg (gi w356 4) (congrArg Int.toNat (show 36 * f0_.toInt + 3 * f3_.toInt + 2 = x351.toInt by omega))).trans c357
      refine lv_aload_n hx hb dX12_isDoingHere_93 rfl (lv_at hl 1 rfl) ?_
      refine tk_getA hC hK hw hT hinX12 kM_at0 (by decide) rfl 6 (by decide) (List.mem_of_getElem? (i := 2) rfl) rfl rfl dX12_isDoingHere_94 ?_
      refine lv_aload_n hx hb dX12_isDoingHere_97 rfl (lv_at hl 1 rfl) ?_
      refine tk_geti hC hK hw hT hinX12 kM_at0 (by decide) rfl 17 (by decide) (List.mem_of_getElem? (i := 1) rfl) rfl rfl dX12_isDoingHere_98 (fun x366 c367 rx366 tx366 => ?_)
      refine wk_top f0_ (c367.symm.trans c359) ?_
      refine lv_dup2_11 hx hb dX12_isDoingHere_101 rfl rfl ?_
      refine tk_iald hC hK hw hT kM_at5 rfl rfl (show 0 ≤ f0_.toInt by omega) (show f0_.toInt < 6 by omega) dX12_isDoingHere_102 (fun x368 c369 rx368 tx368 => ?_)
      have c369 : gi w356 5 (f0_.toInt).toNat = x368 := (congrArg (gi w356 5) (congrArg Int.toNat (show f0_.toInt = f0_.toInt by omega))).trans c369
      refine wk_top f3_ (c369.symm.trans c362) ?_
      refine lv_iconst (v := 1) hx hb dX12_isDoingHere_103 (by decide) ?_
      refine lv_iadd hx hb dX12_isDoingHere_104 ?_
      refine lv_topi (fun x370 ex370 => ?_)
      have ex370 : x370.toInt = f3_.toInt + (1 : Int) := by rw [ex370]; exact wk_add (show (-2147483648) ≤ f3_.toInt + (1 : Int) by omega) (show f3_.toInt + (1 : Int) ≤ 2147483647 by omega)
      refine tk_iast hC hK hw hT kM_at5 (by decide) rfl rfl (show 0 ≤ f0_.toInt by omega) (show f0_.toInt < 6 by omega) (show 0 ≤ x370.toInt by omega) (show x370.toInt ≤ 12 by omega) dX12_isDoingHere_105 (fun H locs w371 hw hT k373 c372 => ?_)
      have hR := RL_add (t := f0_.toInt) (K := f3_) (b := (-1)) hR k373 c362 (by rw [show gi w371 5 (f0_.toInt).toNat = x370 from c372]; omega) (by omega) c365 (c357.trans c361.symm) (by rw [c361]; omega) (Or.inl (by decide))
      have hF := hF.put kM_at5 (inE_of (a := 0) (b := 6) (by decide) (show 0 ≤ f0_.toInt.toNat by omega) (show f0_.toInt.toNat ≤ 6 by omega)) k373
      have c374 := k373.gi (Or.inl (tk_ne kM_at0 kM_at5 (by decide))) c359
      have c375 := k373.gi (Or.inl (tk_ne kM_at0 kM_at5 (by decide))) c360
      have c376 := k373.gi (Or.inl (tk_ne kM_at3 kM_at5 (by decide))) c361
      have c377 := k373.gi (Or.inl (tk_ne kM_at0 kM_at5 (by decide))) c363
      have c378 := k373.gi (Or.inl (tk_ne kM_at4 kM_at5 (by decide))) c364
      have c379 := k373.gi (Or.inl (tk_ne kM_at4 kM_at5 (by decide))) c365
      have c380 := k373.gi (Or.inl (tk_ne kM_at4 kM_at5 (by decide))) c357
      have c372 : gi w371 5 (f0_.toInt).toNat = x370 := (congrArg (gi w371 5) (congrArg Int.toNat (show f0_.toInt = f0_.toInt by omega))).trans c372
      refine lv_iconst (v := 1) hx hb dX12_isDoingHere_106 (by decide) ?_
      exact tk_zret hC hr rfl hlocks hK ⟨hT, hF, (Or.inr (Or.inr (Or.inr ⟨rfl, ⟨x9, c377, (show 0 ≤ x9.toInt by omega), (show x9.toInt ≤ 400 by omega)⟩, ⟨f0_, c374, (show 0 ≤ f0_.toInt by omega), (show f0_.toInt ≤ 5 by omega)⟩, hR, (by simp only [c374, cf0_, c376, c375]; omega), (by simp only [c374, cf0_, cf3_, c372]; omega)⟩)))⟩ hw dX12_isDoingHere_107
    · have ex337 : x337.toInt = x9.toInt := by rw [← c348.symm.trans c338]
      refine lv_if_eq (tgt := 76) hx hb dX12_isDoingHere_47 (by decide) (fun c => absurd c (by decide)) (fun _ => ?_)
      refine lv_aload_n hx hb dX12_isDoingHere_50 rfl (lv_at hl 1 rfl) ?_
      refine tk_getA hC hK hw hT hinX12 kM_at0 (by decide) rfl 5 (by decide) (List.mem_of_getElem? (i := 3) rfl) rfl rfl dX12_isDoingHere_51 ?_
      refine lv_iload_n hx hb dX12_isDoingHere_54 rfl (lv_at hl 0 rfl) ?_
      refine lv_iconst (v := 1) hx hb dX12_isDoingHere_55 (by decide) ?_
      refine lv_iadd hx hb dX12_isDoingHere_56 ?_
      refine lv_topi (fun x381 ex381 => ?_)
      have ex381 : x381.toInt = x312.toInt + (1 : Int) := by rw [ex381]; exact wk_add (show (-2147483648) ≤ x312.toInt + (1 : Int) by omega) (show x312.toInt + (1 : Int) ≤ 2147483647 by omega)
      refine lv_aload_n hx hb dX12_isDoingHere_57 rfl (lv_at hl 1 rfl) ?_
      refine tk_getA hC hK hw hT hinX12 kM_at0 (by decide) rfl 4 (by decide) (List.mem_of_getElem? (i := 5) rfl) rfl rfl dX12_isDoingHere_58 ?_
      refine lv_aload_n hx hb dX12_isDoingHere_61 rfl (lv_at hl 1 rfl) ?_
      refine tk_geti hC hK hw hT hinX12 kM_at0 (by decide) rfl 17 (by decide) (List.mem_of_getElem? (i := 1) rfl) rfl rfl dX12_isDoingHere_62 (fun x382 c383 rx382 tx382 => ?_)
      refine wk_top f0_ (c383.symm.trans c344) ?_
      refine tk_iald hC hK hw hT kM_at3 rfl rfl (show 0 ≤ f0_.toInt by omega) (show f0_.toInt < 7 by omega) dX12_isDoingHere_65 (fun x384 c385 rx384 tx384 => ?_)
      have c385 : gi w333 3 (f0_.toInt).toNat = x384 := (congrArg (gi w333 3) (congrArg Int.toNat (show f0_.toInt = f0_.toInt by omega))).trans c385
      refine wk_top f2_ (c385.symm.trans c346) ?_
      refine tk_iast hC hK hw hT kM_at4 (by decide) rfl rfl (show 0 ≤ x381.toInt by omega) (show x381.toInt < 216 by omega) (wk_i32 f2_).1 (wk_i32 f2_).2 dX12_isDoingHere_66 (fun H locs w386 hw hT k388 c387 => ?_)
      have hR := RL_clause hR k388 (show 36 * f0_.toInt + 3 * (gi w333 5 (f0_.toInt).toNat).toInt ≤ ((x381.toInt.toNat : Nat) : Int) by rw [c347]; omega) (show ((x381.toInt.toNat : Nat) : Int) < 36 * f0_.toInt + 36 by omega) (fun r hr => by obtain ⟨x, e, t⟩ := hT.rda (lo := 0) (hi := 12) (i := r) kM_at5 rfl rfl hr; rw [e]; exact t)
      have hF := hF.put kM_at4 (inE_of (a := 0) (b := 216) (by decide) (show 0 ≤ x381.toInt.toNat by omega) (show x381.toInt.toNat ≤ 216 by omega)) k388
      have c389 := k388.gi (Or.inl (tk_ne kM_at0 kM_at4 (by decide))) c344
      have c390 := k388.gi (Or.inl (tk_ne kM_at0 kM_at4 (by decide))) c345
      have c391 := k388.gi (Or.inl (tk_ne kM_at3 kM_at4 (by decide))) c346
      have c392 := k388.gi (Or.inl (tk_ne kM_at5 kM_at4 (by decide))) c347
      have c393 := k388.gi (Or.inl (tk_ne kM_at0 kM_at4 (by decide))) c348
      have c394 := k388.gi (Or.inr (show (36 * f0_.toInt + 3 * f3_.toInt + 0).toNat ≠ x381.toInt.toNat by omega)) c349
      have c395 := k388.gi (Or.inl (tk_ne kM_at0 kM_at4 (by decide))) c340
      have c387 : gi w386 4 (36 * f0_.toInt + 3 * f3_.toInt + 1).toNat = f2_ := (congrArg (gi w386 4) (congrArg Int.toNat (show 36 * f0_.toInt + 3 * f3_.toInt + 1 = x381.toInt by omega))).trans c387
      refine lv_aload_n hx hb dX12_isDoingHere_67 rfl (lv_at hl 1 rfl) ?_
      obtain ⟨x396, c397, rx396, tx396⟩ := hT.rdi (lo := 0) (hi := 400) (k := 22) kM_at0 (by decide) rfl
      obtain ⟨x398, c399, rx398, tx398⟩ := hT.rdi (lo := (-100)) (hi := 10) (k := 19) kM_at0 (by decide) rfl
      refine tk_Vi hC hK hw hT hA hE hSR kM_at0 (by decide) rfl (k_X12_tested_1 l adK adV dC dI cy ad B (by omega) (by omega) qr s1    w386 H.size hT f0_ c389 (show 0 ≤ f0_.toInt by omega) (show f0_.toInt ≤ 5 by omega) f1_ c390 (show 0 ≤ f1_.toInt by omega) (show f1_.toInt ≤ 60 by omega) x398 c399 (show (-100) ≤ x398.toInt by omega) (show x398.toInt ≤ 10 by omega) x396 c397 (show 0 ≤ x396.toInt by omega) (show x396.toInt ≤ 400 by omega) f2_ c391 (show 0 ≤ f2_.toInt by omega) (show f2_.toInt ≤ 400 by omega) (show 3 * f2_.toInt ≤ 14 * f1_.toInt by omega) (show f2_.toInt ≤ 280 by omega) f2_.toInt 0 (OKW_nil hR (by rw [c391]) (by omega))) (cwV 0 hC.2.2.2.2 gX12_isDoingHere_X12_tested rfl rfl rfl (by decide +kernel) ⟨Nat.le_of_ble_eq_true rfl, Nat.le_of_ble_eq_true rfl⟩) rfl hl.1 rfl (Nat.le_of_ble_eq_true rfl) dX12_isDoingHere_68 (fun r400 w402 H locs hp401 hw => ?_)
      obtain ⟨hT, k403, hg430⟩ := hp401
      have hF := hF.tr k403 (by decide)
      have c431 := k403.gi kM_at0 (by decide) c389
      have c432 := k403.gi kM_at5 rfl c392
      have c433 := k403.gi kM_at0 (by decide) c393
      have c434 := k403.gi kM_at4 rfl c394
      have c435 := k403.gi kM_at4 rfl c387
      rcases hg430 with ⟨rfl, ⟨x404, c405, rx404, tx404⟩, ⟨x406, c407, rx406, tx406⟩, ⟨x408, c409, rx408, tx408⟩, ⟨x410, c411, rx410, tx410⟩, hq412⟩ | ⟨rfl, ⟨x413, c414, rx413, tx413⟩, ⟨x415, c416, rx415, tx415⟩, ⟨x417, c418, rx417, tx417⟩, ⟨x419, c420, rx419, tx419⟩, hq421⟩ | ⟨rfl, ⟨x422, c423, rx422, tx422⟩, ⟨x424, c425, rx424, tx424⟩, ⟨x426, c427, rx426, tx426⟩, hq428, g429⟩
      · have ex404 : x404.toInt = x9.toInt := by rw [← c433.symm.trans c405]
        have ex408 : x408.toInt = f0_.toInt := by rw [← c431.symm.trans c409]
        obtain ⟨x436, c437, rx436, tx436⟩ := hT.rda (lo := 0) (hi := 400) (i := (f0_.toInt).toNat) kM_at3 rfl rfl (by omega)
        obtain ⟨x438, c439, rx438, tx438⟩ := hT.rdi (lo := 0) (hi := 60) (k := 18) kM_at0 (by decide) rfl
        obtain ⟨x440, c441, rx440, tx440⟩ := hT.rdi (lo := (-100)) (hi := 10) (k := 19) kM_at0 (by decide) rfl
        have hR := hq412
        refine lv_if_ne (tgt := 76) hx hb dX12_isDoingHere_71 (by decide) (fun c => absurd (by decide) c) (fun _ => ?_)
        refine lv_iconst (v := 0) hx hb dX12_isDoingHere_74 (by decide) ?_
        exact tk_zret hC hr rfl hlocks hK ⟨hT, hF, (Or.inl ⟨rfl, ⟨x9, c433, (show 1 ≤ x9.toInt by omega), (show x9.toInt ≤ 400 by omega)⟩, ⟨x406, c407, (show 1 ≤ x406.toInt by omega), (show x406.toInt ≤ 3205 by omega)⟩, ⟨f0_, c431, (show 0 ≤ f0_.toInt by omega), (show f0_.toInt ≤ 5 by omega)⟩, ⟨x410, c411, (show 0 ≤ x410.toInt by omega), (show x410.toInt ≤ 399 by omega)⟩, hR⟩)⟩ hw dX12_isDoingHere_75
      · have ex413 : x413.toInt = x9.toInt := by rw [← c433.symm.trans c414]
        have ex417 : x417.toInt = f0_.toInt := by rw [← c431.symm.trans c418]
        obtain ⟨x442, c443, rx442, tx442⟩ := hT.rda (lo := 0) (hi := 400) (i := (f0_.toInt).toNat) kM_at3 rfl rfl (by omega)
        obtain ⟨x444, c445, rx444, tx444⟩ := hT.rdi (lo := 0) (hi := 60) (k := 18) kM_at0 (by decide) rfl
        obtain ⟨x446, c447, rx446, tx446⟩ := hT.rdi (lo := (-100)) (hi := 10) (k := 19) kM_at0 (by decide) rfl
        have hR := hq421
        refine lv_if_ne (tgt := 76) hx hb dX12_isDoingHere_71 (by decide) (fun c => absurd (by decide) c) (fun _ => ?_)
        refine lv_iconst (v := 0) hx hb dX12_isDoingHere_74 (by decide) ?_
        exact tk_zret hC hr rfl hlocks hK ⟨hT, hF, (Or.inl ⟨rfl, ⟨x9, c433, (show 1 ≤ x9.toInt by omega), (show x9.toInt ≤ 400 by omega)⟩, ⟨x415, c416, (show 1 ≤ x415.toInt by omega), (show x415.toInt ≤ 3205 by omega)⟩, ⟨f0_, c431, (show 0 ≤ f0_.toInt by omega), (show f0_.toInt ≤ 5 by omega)⟩, ⟨x419, c420, (show 0 ≤ x419.toInt by omega), (show x419.toInt ≤ 399 by omega)⟩, hR⟩)⟩ hw dX12_isDoingHere_75
      · have ex422 : x422.toInt = f0_.toInt := by rw [← c431.symm.trans c423]
        obtain ⟨x448, c449, rx448, tx448⟩ := hT.rda (lo := 0) (hi := 400) (i := (f0_.toInt).toNat) kM_at3 rfl rfl (by omega)
        obtain ⟨x450, c451, rx450, tx450⟩ := hT.rdi (lo := 0) (hi := 60) (k := 18) kM_at0 (by decide) rfl
        have g429 : 3 * x448.toInt ≤ 14 * x450.toInt := by have q := g429; simp only [c389, c431, c449, c451] at q; omega
        have hO : OKW w402 f0_.toInt f2_.toInt (1) := by have q := hq428; exact OKW_cast q (by omega)
        refine lv_if_ne (tgt := 76) hx hb dX12_isDoingHere_71 (by decide) (fun _ => ?_) (fun c => absurd c (by decide))
        refine lv_aload_n hx hb dX12_isDoingHere_76 rfl (lv_at hl 1 rfl) ?_
        refine tk_getA hC hK hw hT hinX12 kM_at0 (by decide) rfl 5 (by decide) (List.mem_of_getElem? (i := 3) rfl) rfl rfl dX12_isDoingHere_77 ?_
        refine lv_iload_n hx hb dX12_isDoingHere_80 rfl (lv_at hl 0 rfl) ?_
        refine lv_iconst (v := 2) hx hb dX12_isDoingHere_81 (by decide) ?_
        refine lv_iadd hx hb dX12_isDoingHere_82 ?_
        refine lv_topi (fun x452 ex452 => ?_)
        have ex452 : x452.toInt = x312.toInt + (2 : Int) := by rw [ex452]; exact wk_add (show (-2147483648) ≤ x312.toInt + (2 : Int) by omega) (show x312.toInt + (2 : Int) ≤ 2147483647 by omega)
        refine lv_aload_n hx hb dX12_isDoingHere_83 rfl (lv_at hl 1 rfl) ?_
        refine tk_getA hC hK hw hT hinX12 kM_at0 (by decide) rfl 4 (by decide) (List.mem_of_getElem? (i := 5) rfl) rfl rfl dX12_isDoingHere_84 ?_
        refine lv_aload_n hx hb dX12_isDoingHere_87 rfl (lv_at hl 1 rfl) ?_
        refine tk_geti hC hK hw hT hinX12 kM_at0 (by decide) rfl 17 (by decide) (List.mem_of_getElem? (i := 1) rfl) rfl rfl dX12_isDoingHere_88 (fun x453 c454 rx453 tx453 => ?_)
        refine wk_top f0_ (c454.symm.trans c431) ?_
        refine tk_iald hC hK hw hT kM_at3 rfl rfl (show 0 ≤ f0_.toInt by omega) (show f0_.toInt < 7 by omega) dX12_isDoingHere_91 (fun x455 c456 rx455 tx455 => ?_)
        have c456 : gi w402 3 (f0_.toInt).toNat = x455 := (congrArg (gi w402 3) (congrArg Int.toNat (show f0_.toInt = f0_.toInt by omega))).trans c456
        refine wk_top x448 (c456.symm.trans c449) ?_
        refine tk_iast hC hK hw hT kM_at4 (by decide) rfl rfl (show 0 ≤ x452.toInt by omega) (show x452.toInt < 216 by omega) (wk_i32 x448).1 (wk_i32 x448).2 dX12_isDoingHere_92 (fun H locs w457 hw hT k459 c458 => ?_)
        have hO := OKW_clause hO k459 (show 36 * f0_.toInt + 3 * (gi w402 5 (f0_.toInt).toNat).toInt ≤ ((x452.toInt.toNat : Nat) : Int) by rw [c432]; omega) (show ((x452.toInt.toNat : Nat) : Int) < 36 * f0_.toInt + 36 by omega) (fun r hr => by obtain ⟨x, e, t⟩ := hT.rda (lo := 0) (hi := 12) (i := r) kM_at5 rfl rfl hr; rw [e]; exact t)
        have hF := hF.put kM_at4 (inE_of (a := 0) (b := 216) (by decide) (show 0 ≤ x452.toInt.toNat by omega) (show x452.toInt.toNat ≤ 216 by omega)) k459
        have c460 := k459.gi (Or.inl (tk_ne kM_at0 kM_at4 (by decide))) c431
        have c461 := k459.gi (Or.inl (tk_ne kM_at5 kM_at4 (by decide))) c432
        have c462 := k459.gi (Or.inl (tk_ne kM_at0 kM_at4 (by decide))) c433
        have c463 := k459.gi (Or.inr (show (36 * f0_.toInt + 3 * f3_.toInt + 0).toNat ≠ x452.toInt.toNat by omega)) c434
        have c464 := k459.gi (Or.inr (show (36 * f0_.toInt + 3 * f3_.toInt + 1).toNat ≠ x452.toInt.toNat by omega)) c435
        have c465 := k459.gi (Or.inl (tk_ne kM_at0 kM_at4 (by decide))) c425
        have c466 := k459.gi (Or.inl (tk_ne kM_at0 kM_at4 (by decide))) c427
        have c467 := k459.gi (Or.inl (tk_ne kM_at3 kM_at4 (by decide))) c449
        have c468 := k459.gi (Or.inl (tk_ne kM_at0 kM_at4 (by decide))) c451
        have c458 : gi w457 4 (36 * f0_.toInt + 3 * f3_.toInt + 2).toNat = x448 := (congrArg (gi w457 4) (congrArg Int.toNat (show 36 * f0_.toInt + 3 * f3_.toInt + 2 = x452.toInt by omega))).trans c458
        refine lv_aload_n hx hb dX12_isDoingHere_93 rfl (lv_at hl 1 rfl) ?_
        refine tk_getA hC hK hw hT hinX12 kM_at0 (by decide) rfl 6 (by decide) (List.mem_of_getElem? (i := 2) rfl) rfl rfl dX12_isDoingHere_94 ?_
        refine lv_aload_n hx hb dX12_isDoingHere_97 rfl (lv_at hl 1 rfl) ?_
        refine tk_geti hC hK hw hT hinX12 kM_at0 (by decide) rfl 17 (by decide) (List.mem_of_getElem? (i := 1) rfl) rfl rfl dX12_isDoingHere_98 (fun x469 c470 rx469 tx469 => ?_)
        refine wk_top f0_ (c470.symm.trans c460) ?_
        refine lv_dup2_11 hx hb dX12_isDoingHere_101 rfl rfl ?_
        refine tk_iald hC hK hw hT kM_at5 rfl rfl (show 0 ≤ f0_.toInt by omega) (show f0_.toInt < 6 by omega) dX12_isDoingHere_102 (fun x471 c472 rx471 tx471 => ?_)
        have c472 : gi w457 5 (f0_.toInt).toNat = x471 := (congrArg (gi w457 5) (congrArg Int.toNat (show f0_.toInt = f0_.toInt by omega))).trans c472
        refine wk_top f3_ (c472.symm.trans c461) ?_
        refine lv_iconst (v := 1) hx hb dX12_isDoingHere_103 (by decide) ?_
        refine lv_iadd hx hb dX12_isDoingHere_104 ?_
        refine lv_topi (fun x473 ex473 => ?_)
        have ex473 : x473.toInt = f3_.toInt + (1 : Int) := by rw [ex473]; exact wk_add (show (-2147483648) ≤ f3_.toInt + (1 : Int) by omega) (show f3_.toInt + (1 : Int) ≤ 2147483647 by omega)
        refine tk_iast hC hK hw hT kM_at5 (by decide) rfl rfl (show 0 ≤ f0_.toInt by omega) (show f0_.toInt < 6 by omega) (show 0 ≤ x473.toInt by omega) (show x473.toInt ≤ 12 by omega) dX12_isDoingHere_105 (fun H locs w474 hw hT k476 c475 => ?_)
        have hR := RL_add (t := f0_.toInt) (K := f3_) (b := f2_) hO.1 k476 c461 (by rw [show gi w474 5 (f0_.toInt).toNat = x473 from c475]; omega) (by omega) c464 (c458.trans c467.symm) (by rw [c467]; omega) (Or.inr (OKW_cast hO (by omega)))
        have hF := hF.put kM_at5 (inE_of (a := 0) (b := 6) (by decide) (show 0 ≤ f0_.toInt.toNat by omega) (show f0_.toInt.toNat ≤ 6 by omega)) k476
        have c477 := k476.gi (Or.inl (tk_ne kM_at0 kM_at5 (by decide))) c460
        have c478 := k476.gi (Or.inl (tk_ne kM_at0 kM_at5 (by decide))) c462
        have c479 := k476.gi (Or.inl (tk_ne kM_at4 kM_at5 (by decide))) c463
        have c480 := k476.gi (Or.inl (tk_ne kM_at4 kM_at5 (by decide))) c464
        have c481 := k476.gi (Or.inl (tk_ne kM_at0 kM_at5 (by decide))) c465
        have c482 := k476.gi (Or.inl (tk_ne kM_at0 kM_at5 (by decide))) c466
        have c483 := k476.gi (Or.inl (tk_ne kM_at3 kM_at5 (by decide))) c467
        have c484 := k476.gi (Or.inl (tk_ne kM_at0 kM_at5 (by decide))) c468
        have c485 := k476.gi (Or.inl (tk_ne kM_at4 kM_at5 (by decide))) c458
        have c475 : gi w474 5 (f0_.toInt).toNat = x473 := (congrArg (gi w474 5) (congrArg Int.toNat (show f0_.toInt = f0_.toInt by omega))).trans c475
        refine lv_iconst (v := 1) hx hb dX12_isDoingHere_106 (by decide) ?_
        exact tk_zret hC hr rfl hlocks hK ⟨hT, hF, (Or.inr (Or.inr (Or.inl ⟨rfl, ⟨x9, c478, (show 1 ≤ x9.toInt by omega), (show x9.toInt ≤ 400 by omega)⟩, ⟨f0_, c477, (show 0 ≤ f0_.toInt by omega), (show f0_.toInt ≤ 5 by omega)⟩, hR, (by simp only [c477, cf0_, c483, c484]; omega), (by simp only [c477, cf0_, cf3_, c475]; omega)⟩)))⟩ hw dX12_isDoingHere_107
    · have ex341 : x341.toInt = x9.toInt := by rw [← c348.symm.trans c342]
      refine lv_if_eq (tgt := 76) hx hb dX12_isDoingHere_47 (by decide) (fun c => absurd c (by decide)) (fun _ => ?_)
      refine lv_aload_n hx hb dX12_isDoingHere_50 rfl (lv_at hl 1 rfl) ?_
      refine tk_getA hC hK hw hT hinX12 kM_at0 (by decide) rfl 5 (by decide) (List.mem_of_getElem? (i := 3) rfl) rfl rfl dX12_isDoingHere_51 ?_
      refine lv_iload_n hx hb dX12_isDoingHere_54 rfl (lv_at hl 0 rfl) ?_
      refine lv_iconst (v := 1) hx hb dX12_isDoingHere_55 (by decide) ?_
      refine lv_iadd hx hb dX12_isDoingHere_56 ?_
      refine lv_topi (fun x486 ex486 => ?_)
      have ex486 : x486.toInt = x312.toInt + (1 : Int) := by rw [ex486]; exact wk_add (show (-2147483648) ≤ x312.toInt + (1 : Int) by omega) (show x312.toInt + (1 : Int) ≤ 2147483647 by omega)
      refine lv_aload_n hx hb dX12_isDoingHere_57 rfl (lv_at hl 1 rfl) ?_
      refine tk_getA hC hK hw hT hinX12 kM_at0 (by decide) rfl 4 (by decide) (List.mem_of_getElem? (i := 5) rfl) rfl rfl dX12_isDoingHere_58 ?_
      refine lv_aload_n hx hb dX12_isDoingHere_61 rfl (lv_at hl 1 rfl) ?_
      refine tk_geti hC hK hw hT hinX12 kM_at0 (by decide) rfl 17 (by decide) (List.mem_of_getElem? (i := 1) rfl) rfl rfl dX12_isDoingHere_62 (fun x487 c488 rx487 tx487 => ?_)
      refine wk_top f0_ (c488.symm.trans c344) ?_
      refine tk_iald hC hK hw hT kM_at3 rfl rfl (show 0 ≤ f0_.toInt by omega) (show f0_.toInt < 7 by omega) dX12_isDoingHere_65 (fun x489 c490 rx489 tx489 => ?_)
      have c490 : gi w333 3 (f0_.toInt).toNat = x489 := (congrArg (gi w333 3) (congrArg Int.toNat (show f0_.toInt = f0_.toInt by omega))).trans c490
      refine wk_top f2_ (c490.symm.trans c346) ?_
      refine tk_iast hC hK hw hT kM_at4 (by decide) rfl rfl (show 0 ≤ x486.toInt by omega) (show x486.toInt < 216 by omega) (wk_i32 f2_).1 (wk_i32 f2_).2 dX12_isDoingHere_66 (fun H locs w491 hw hT k493 c492 => ?_)
      have hR := RL_clause hR k493 (show 36 * f0_.toInt + 3 * (gi w333 5 (f0_.toInt).toNat).toInt ≤ ((x486.toInt.toNat : Nat) : Int) by rw [c347]; omega) (show ((x486.toInt.toNat : Nat) : Int) < 36 * f0_.toInt + 36 by omega) (fun r hr => by obtain ⟨x, e, t⟩ := hT.rda (lo := 0) (hi := 12) (i := r) kM_at5 rfl rfl hr; rw [e]; exact t)
      have hF := hF.put kM_at4 (inE_of (a := 0) (b := 216) (by decide) (show 0 ≤ x486.toInt.toNat by omega) (show x486.toInt.toNat ≤ 216 by omega)) k493
      have c494 := k493.gi (Or.inl (tk_ne kM_at0 kM_at4 (by decide))) c344
      have c495 := k493.gi (Or.inl (tk_ne kM_at0 kM_at4 (by decide))) c345
      have c496 := k493.gi (Or.inl (tk_ne kM_at3 kM_at4 (by decide))) c346
      have c497 := k493.gi (Or.inl (tk_ne kM_at5 kM_at4 (by decide))) c347
      have c498 := k493.gi (Or.inl (tk_ne kM_at0 kM_at4 (by decide))) c348
      have c499 := k493.gi (Or.inr (show (36 * f0_.toInt + 3 * f3_.toInt + 0).toNat ≠ x486.toInt.toNat by omega)) c349
      have c492 : gi w491 4 (36 * f0_.toInt + 3 * f3_.toInt + 1).toNat = f2_ := (congrArg (gi w491 4) (congrArg Int.toNat (show 36 * f0_.toInt + 3 * f3_.toInt + 1 = x486.toInt by omega))).trans c492
      refine lv_aload_n hx hb dX12_isDoingHere_67 rfl (lv_at hl 1 rfl) ?_
      obtain ⟨x500, c501, rx500, tx500⟩ := hT.rdi (lo := 0) (hi := 400) (k := 22) kM_at0 (by decide) rfl
      obtain ⟨x502, c503, rx502, tx502⟩ := hT.rdi (lo := (-100)) (hi := 10) (k := 19) kM_at0 (by decide) rfl
      refine tk_Vi hC hK hw hT hA hE hSR kM_at0 (by decide) rfl (k_X12_tested_1 l adK adV dC dI cy ad B (by omega) (by omega) qr s1    w491 H.size hT f0_ c494 (show 0 ≤ f0_.toInt by omega) (show f0_.toInt ≤ 5 by omega) f1_ c495 (show 0 ≤ f1_.toInt by omega) (show f1_.toInt ≤ 60 by omega) x502 c503 (show (-100) ≤ x502.toInt by omega) (show x502.toInt ≤ 10 by omega) x500 c501 (show 0 ≤ x500.toInt by omega) (show x500.toInt ≤ 400 by omega) f2_ c496 (show 0 ≤ f2_.toInt by omega) (show f2_.toInt ≤ 400 by omega) (show 3 * f2_.toInt ≤ 14 * f1_.toInt by omega) (show f2_.toInt ≤ 280 by omega) f2_.toInt 0 (OKW_nil hR (by rw [c496]) (by omega))) (cwV 0 hC.2.2.2.2 gX12_isDoingHere_X12_tested rfl rfl rfl (by decide +kernel) ⟨Nat.le_of_ble_eq_true rfl, Nat.le_of_ble_eq_true rfl⟩) rfl hl.1 rfl (Nat.le_of_ble_eq_true rfl) dX12_isDoingHere_68 (fun r504 w506 H locs hp505 hw => ?_)
      obtain ⟨hT, k507, hg534⟩ := hp505
      have hF := hF.tr k507 (by decide)
      have c535 := k507.gi kM_at0 (by decide) c494
      have c536 := k507.gi kM_at5 rfl c497
      have c537 := k507.gi kM_at0 (by decide) c498
      have c538 := k507.gi kM_at4 rfl c499
      have c539 := k507.gi kM_at4 rfl c492
      rcases hg534 with ⟨rfl, ⟨x508, c509, rx508, tx508⟩, ⟨x510, c511, rx510, tx510⟩, ⟨x512, c513, rx512, tx512⟩, ⟨x514, c515, rx514, tx514⟩, hq516⟩ | ⟨rfl, ⟨x517, c518, rx517, tx517⟩, ⟨x519, c520, rx519, tx519⟩, ⟨x521, c522, rx521, tx521⟩, ⟨x523, c524, rx523, tx523⟩, hq525⟩ | ⟨rfl, ⟨x526, c527, rx526, tx526⟩, ⟨x528, c529, rx528, tx528⟩, ⟨x530, c531, rx530, tx530⟩, hq532, g533⟩
      · have ex508 : x508.toInt = x9.toInt := by rw [← c537.symm.trans c509]
        have ex512 : x512.toInt = f0_.toInt := by rw [← c535.symm.trans c513]
        obtain ⟨x540, c541, rx540, tx540⟩ := hT.rda (lo := 0) (hi := 400) (i := (f0_.toInt).toNat) kM_at3 rfl rfl (by omega)
        obtain ⟨x542, c543, rx542, tx542⟩ := hT.rdi (lo := 0) (hi := 60) (k := 18) kM_at0 (by decide) rfl
        obtain ⟨x544, c545, rx544, tx544⟩ := hT.rdi (lo := (-100)) (hi := 10) (k := 19) kM_at0 (by decide) rfl
        have hR := hq516
        refine lv_if_ne (tgt := 76) hx hb dX12_isDoingHere_71 (by decide) (fun c => absurd (by decide) c) (fun _ => ?_)
        refine lv_iconst (v := 0) hx hb dX12_isDoingHere_74 (by decide) ?_
        exact tk_zret hC hr rfl hlocks hK ⟨hT, hF, (Or.inl ⟨rfl, ⟨x9, c537, (show 1 ≤ x9.toInt by omega), (show x9.toInt ≤ 400 by omega)⟩, ⟨x510, c511, (show 1 ≤ x510.toInt by omega), (show x510.toInt ≤ 3205 by omega)⟩, ⟨f0_, c535, (show 0 ≤ f0_.toInt by omega), (show f0_.toInt ≤ 5 by omega)⟩, ⟨x514, c515, (show 0 ≤ x514.toInt by omega), (show x514.toInt ≤ 399 by omega)⟩, hR⟩)⟩ hw dX12_isDoingHere_75
      · have ex517 : x517.toInt = x9.toInt := by rw [← c537.symm.trans c518]
        have ex521 : x521.toInt = f0_.toInt := by rw [← c535.symm.trans c522]
        obtain ⟨x546, c547, rx546, tx546⟩ := hT.rda (lo := 0) (hi := 400) (i := (f0_.toInt).toNat) kM_at3 rfl rfl (by omega)
        obtain ⟨x548, c549, rx548, tx548⟩ := hT.rdi (lo := 0) (hi := 60) (k := 18) kM_at0 (by decide) rfl
        obtain ⟨x550, c551, rx550, tx550⟩ := hT.rdi (lo := (-100)) (hi := 10) (k := 19) kM_at0 (by decide) rfl
        have hR := hq525
        refine lv_if_ne (tgt := 76) hx hb dX12_isDoingHere_71 (by decide) (fun c => absurd (by decide) c) (fun _ => ?_)
        refine lv_iconst (v := 0) hx hb dX12_isDoingHere_74 (by decide) ?_
        exact tk_zret hC hr rfl hlocks hK ⟨hT, hF, (Or.inr (Or.inl ⟨rfl, ⟨x9, c537, (show 0 ≤ x9.toInt by omega), (show x9.toInt ≤ 400 by omega)⟩, ⟨x519, c520, (show 1 ≤ x519.toInt by omega), (show x519.toInt ≤ 3205 by omega)⟩, ⟨f0_, c535, (show 0 ≤ f0_.toInt by omega), (show f0_.toInt ≤ 5 by omega)⟩, ⟨x523, c524, (show 0 ≤ x523.toInt by omega), (show x523.toInt ≤ 399 by omega)⟩, hR⟩))⟩ hw dX12_isDoingHere_75
      · have ex526 : x526.toInt = f0_.toInt := by rw [← c535.symm.trans c527]
        obtain ⟨x552, c553, rx552, tx552⟩ := hT.rda (lo := 0) (hi := 400) (i := (f0_.toInt).toNat) kM_at3 rfl rfl (by omega)
        obtain ⟨x554, c555, rx554, tx554⟩ := hT.rdi (lo := 0) (hi := 60) (k := 18) kM_at0 (by decide) rfl
        have g533 : 3 * x552.toInt ≤ 14 * x554.toInt := by have q := g533; simp only [c494, c535, c553, c555] at q; omega
        have hO : OKW w506 f0_.toInt f2_.toInt (1) := by have q := hq532; exact OKW_cast q (by omega)
        refine lv_if_ne (tgt := 76) hx hb dX12_isDoingHere_71 (by decide) (fun _ => ?_) (fun c => absurd c (by decide))
        refine lv_aload_n hx hb dX12_isDoingHere_76 rfl (lv_at hl 1 rfl) ?_
        refine tk_getA hC hK hw hT hinX12 kM_at0 (by decide) rfl 5 (by decide) (List.mem_of_getElem? (i := 3) rfl) rfl rfl dX12_isDoingHere_77 ?_
        refine lv_iload_n hx hb dX12_isDoingHere_80 rfl (lv_at hl 0 rfl) ?_
        refine lv_iconst (v := 2) hx hb dX12_isDoingHere_81 (by decide) ?_
        refine lv_iadd hx hb dX12_isDoingHere_82 ?_
        refine lv_topi (fun x556 ex556 => ?_)
        have ex556 : x556.toInt = x312.toInt + (2 : Int) := by rw [ex556]; exact wk_add (show (-2147483648) ≤ x312.toInt + (2 : Int) by omega) (show x312.toInt + (2 : Int) ≤ 2147483647 by omega)
        refine lv_aload_n hx hb dX12_isDoingHere_83 rfl (lv_at hl 1 rfl) ?_
        refine tk_getA hC hK hw hT hinX12 kM_at0 (by decide) rfl 4 (by decide) (List.mem_of_getElem? (i := 5) rfl) rfl rfl dX12_isDoingHere_84 ?_
        refine lv_aload_n hx hb dX12_isDoingHere_87 rfl (lv_at hl 1 rfl) ?_
        refine tk_geti hC hK hw hT hinX12 kM_at0 (by decide) rfl 17 (by decide) (List.mem_of_getElem? (i := 1) rfl) rfl rfl dX12_isDoingHere_88 (fun x557 c558 rx557 tx557 => ?_)
        refine wk_top f0_ (c558.symm.trans c535) ?_
        refine tk_iald hC hK hw hT kM_at3 rfl rfl (show 0 ≤ f0_.toInt by omega) (show f0_.toInt < 7 by omega) dX12_isDoingHere_91 (fun x559 c560 rx559 tx559 => ?_)
        have c560 : gi w506 3 (f0_.toInt).toNat = x559 := (congrArg (gi w506 3) (congrArg Int.toNat (show f0_.toInt = f0_.toInt by omega))).trans c560
        refine wk_top x552 (c560.symm.trans c553) ?_
        refine tk_iast hC hK hw hT kM_at4 (by decide) rfl rfl (show 0 ≤ x556.toInt by omega) (show x556.toInt < 216 by omega) (wk_i32 x552).1 (wk_i32 x552).2 dX12_isDoingHere_92 (fun H locs w561 hw hT k563 c562 => ?_)
        have hO := OKW_clause hO k563 (show 36 * f0_.toInt + 3 * (gi w506 5 (f0_.toInt).toNat).toInt ≤ ((x556.toInt.toNat : Nat) : Int) by rw [c536]; omega) (show ((x556.toInt.toNat : Nat) : Int) < 36 * f0_.toInt + 36 by omega) (fun r hr => by obtain ⟨x, e, t⟩ := hT.rda (lo := 0) (hi := 12) (i := r) kM_at5 rfl rfl hr; rw [e]; exact t)
        have hF := hF.put kM_at4 (inE_of (a := 0) (b := 216) (by decide) (show 0 ≤ x556.toInt.toNat by omega) (show x556.toInt.toNat ≤ 216 by omega)) k563
        have c564 := k563.gi (Or.inl (tk_ne kM_at0 kM_at4 (by decide))) c535
        have c565 := k563.gi (Or.inl (tk_ne kM_at5 kM_at4 (by decide))) c536
        have c566 := k563.gi (Or.inl (tk_ne kM_at0 kM_at4 (by decide))) c537
        have c567 := k563.gi (Or.inr (show (36 * f0_.toInt + 3 * f3_.toInt + 0).toNat ≠ x556.toInt.toNat by omega)) c538
        have c568 := k563.gi (Or.inr (show (36 * f0_.toInt + 3 * f3_.toInt + 1).toNat ≠ x556.toInt.toNat by omega)) c539
        have c569 := k563.gi (Or.inl (tk_ne kM_at0 kM_at4 (by decide))) c529
        have c570 := k563.gi (Or.inl (tk_ne kM_at0 kM_at4 (by decide))) c531
        have c571 := k563.gi (Or.inl (tk_ne kM_at3 kM_at4 (by decide))) c553
        have c572 := k563.gi (Or.inl (tk_ne kM_at0 kM_at4 (by decide))) c555
        have c562 : gi w561 4 (36 * f0_.toInt + 3 * f3_.toInt + 2).toNat = x552 := (congrArg (gi w561 4) (congrArg Int.toNat (show 36 * f0_.toInt + 3 * f3_.toInt + 2 = x556.toInt by omega))).trans c562
        refine lv_aload_n hx hb dX12_isDoingHere_93 rfl (lv_at hl 1 rfl) ?_
        refine tk_getA hC hK hw hT hinX12 kM_at0 (by decide) rfl 6 (by decide) (List.mem_of_getElem? (i := 2) rfl) rfl rfl dX12_isDoingHere_94 ?_
        refine lv_aload_n hx hb dX12_isDoingHere_97 rfl (lv_at hl 1 rfl) ?_
        refine tk_geti hC hK hw hT hinX12 kM_at0 (by decide) rfl 17 (by decide) (List.mem_of_getElem? (i := 1) rfl) rfl rfl dX12_isDoingHere_98 (fun x573 c574 rx573 tx573 => ?_)
        refine wk_top f0_ (c574.symm.trans c564) ?_
        refine lv_dup2_11 hx hb dX12_isDoingHere_101 rfl rfl ?_
        refine tk_iald hC hK hw hT kM_at5 rfl rfl (show 0 ≤ f0_.toInt by omega) (show f0_.toInt < 6 by omega) dX12_isDoingHere_102 (fun x575 c576 rx575 tx575 => ?_)
        have c576 : gi w561 5 (f0_.toInt).toNat = x575 := (congrArg (gi w561 5) (congrArg Int.toNat (show f0_.toInt = f0_.toInt by omega))).trans c576
        refine wk_top f3_ (c576.symm.trans c565) ?_
        refine lv_iconst (v := 1) hx hb dX12_isDoingHere_103 (by decide) ?_
        refine lv_iadd hx hb dX12_isDoingHere_104 ?_
        refine lv_topi (fun x577 ex577 => ?_)
        have ex577 : x577.toInt = f3_.toInt + (1 : Int) := by rw [ex577]; exact wk_add (show (-2147483648) ≤ f3_.toInt + (1 : Int) by omega) (show f3_.toInt + (1 : Int) ≤ 2147483647 by omega)
        refine tk_iast hC hK hw hT kM_at5 (by decide) rfl rfl (show 0 ≤ f0_.toInt by omega) (show f0_.toInt < 6 by omega) (show 0 ≤ x577.toInt by omega) (show x577.toInt ≤ 12 by omega) dX12_isDoingHere_105 (fun H locs w578 hw hT k580 c579 => ?_)
        have hR := RL_add (t := f0_.toInt) (K := f3_) (b := f2_) hO.1 k580 c565 (by rw [show gi w578 5 (f0_.toInt).toNat = x577 from c579]; omega) (by omega) c568 (c562.trans c571.symm) (by rw [c571]; omega) (Or.inr (OKW_cast hO (by omega)))
        have hF := hF.put kM_at5 (inE_of (a := 0) (b := 6) (by decide) (show 0 ≤ f0_.toInt.toNat by omega) (show f0_.toInt.toNat ≤ 6 by omega)) k580
        have c581 := k580.gi (Or.inl (tk_ne kM_at0 kM_at5 (by decide))) c564
        have c582 := k580.gi (Or.inl (tk_ne kM_at0 kM_at5 (by decide))) c566
        have c583 := k580.gi (Or.inl (tk_ne kM_at4 kM_at5 (by decide))) c567
        have c584 := k580.gi (Or.inl (tk_ne kM_at4 kM_at5 (by decide))) c568
        have c585 := k580.gi (Or.inl (tk_ne kM_at0 kM_at5 (by decide))) c569
        have c586 := k580.gi (Or.inl (tk_ne kM_at0 kM_at5 (by decide))) c570
        have c587 := k580.gi (Or.inl (tk_ne kM_at3 kM_at5 (by decide))) c571
        have c588 := k580.gi (Or.inl (tk_ne kM_at0 kM_at5 (by decide))) c572
        have c589 := k580.gi (Or.inl (tk_ne kM_at4 kM_at5 (by decide))) c562
        have c579 : gi w578 5 (f0_.toInt).toNat = x577 := (congrArg (gi w578 5) (congrArg Int.toNat (show f0_.toInt = f0_.toInt by omega))).trans c579
        refine lv_iconst (v := 1) hx hb dX12_isDoingHere_106 (by decide) ?_
        exact tk_zret hC hr rfl hlocks hK ⟨hT, hF, (Or.inr (Or.inr (Or.inr ⟨rfl, ⟨x9, c582, (show 0 ≤ x9.toInt by omega), (show x9.toInt ≤ 400 by omega)⟩, ⟨f0_, c581, (show 0 ≤ f0_.toInt by omega), (show f0_.toInt ≤ 5 by omega)⟩, hR, (by simp only [c581, cf0_, c587, c588]; omega), (by simp only [c581, cf0_, cf3_, c579]; omega)⟩)))⟩ hw dX12_isDoingHere_107
