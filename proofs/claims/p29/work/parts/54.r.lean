abbrev P_X12_isWord_20 (ad : Nat → Nat) (cy : Nat → ClassId) (B : Int) (qr : Nat) (s1 : Int)  (w0 : va_W) : Int32 → va_W → Prop := fun r u => TW ksM ad cy B qr 12 u ∧ FE ksM [(12, 14, 14)] w0 u ∧ ((r = 0 ∧ (∃ y : Int32, gi u 0 1 = y ∧ 0 ≤ y.toInt ∧ y.toInt ≤ 400) ∧ (((gi u 0 14).toInt = (gi w0 0 14).toInt ∨ (gi w0 1 ((gi w0 0 14).toInt).toNat).toInt = 32))) ∨ (r = 1 ∧ (∃ y : Int32, gi u 0 1 = y ∧ 0 ≤ y.toInt ∧ y.toInt ≤ 400) ∧ (((gi u 0 14).toInt = (gi w0 0 14).toInt ∨ (gi w0 1 ((gi w0 0 14).toInt).toNat).toInt = 32))))
set_option maxHeartbeats 4000000 in
set_option maxRecDepth 100000 in
theorem k_X12_isWord_20 (l : Launch) (adK adV : Nat → Nat) (dC : Nat → ClassId) (dI : Nat → Nat → Nat) (cy : Nat → ClassId) (ad : Nat → Nat) (B : Int) (hB0 : 100000 ≤ B) (hB1 : B ≤ 1073741824) (qr : Nat) (s1 : Int)   (w0 : va_W) (sz : Nat) (hT : TW ksM ad cy B qr 12 w0) (f0_ : Int32) (cf0_ : gi w0 0 14 = f0_) (rf0_ : 0 ≤ f0_.toInt) (tf0_ : f0_.toInt ≤ 400) : Met l yX12_isWord wsX12_isWord ({ frames := 2, cells := 0, slots := 0, locals := 33 }) (va_Pc [.ref (ad 0), .long 7237492] (wpreS adK adV dC dI cy sz w0)) (va_Qi (P_X12_isWord_20 ad cy B qr s1  w0) (fun u : va_W => wpost dC dI cy (va_A w0 sz) u) (va_A w0 sz)) 0 0 (va_A w0 sz) := by
  refine Met.ofW (cc := cX12_isWord) (maxL := 6) (ret := (some .boolean)) (by decide) rfl ?_
  intro p e s m args below meth c s₁ Bk hml hv
  obtain ⟨rfl, ⟨hsz, hP, hK, hD0⟩, hE, hSR⟩ := hv
  have hx := Bk.exec
  have hb := Bk.bytes
  have hr := Bk.returns
  have hlocks := Bk.notSynchronized
  have hC : CallFix p m c cX12_isWord 6 s _ wsX12_isWord RX12 := ⟨hx, hb, hml, findClass_of_methodNamed Bk.named, atoms_spec (ws := wsX12_isWord) Bk.pre⟩
  subst hsz
  have hD := hD0.self (sz := s.heap.size)
  generalize hAe : va_A w0 s.heap.size = A at hD hE ⊢
  have hA : ∀ q : Nat, s.heap.size ≤ q → A q := fun q h => by rw [← hAe]; exact Or.inr h
  have hw : Wd dC dI A s.heap s.heap [] w0 := ⟨hP, hD, va_S.rf⟩
  have hF : FE ksM [(12, 14, 14)] w0 w0 := FE.rf
  have hl := lv_entry ([.ref (ad 0), .long 7237492]) (n := 6) (Nat.le_of_ble_eq_true rfl)
  rw [lg_entry_eq]
  generalize (lg_sl ([.ref (ad 0), .long 7237492]) ++ List.replicate (6 - (lg_sl ([.ref (ad 0), .long 7237492])).length) Slot.unset).toArray = ls at hl ⊢
  have hl : lv_has ls 6 [(0, .ref (ad 0)), (1, .long 7237492)] := hl
  generalize hloc : ([] : List Loc) = locs at hw ⊢
  have hinX12 : ∀ w ∈ u_ws RX12 TX12 42, w ∈ wsX12_isWord := fun _ h => List.mem_cons_of_mem _ (List.mem_append_right _ (h))
  have J78 : ∀ (v78_3 : Int64) (v78_5 : Int32) (f78_0_1 : Int32) (f78_0_14 : Int32) (H : Heap) (locs : List Loc) (ls : Array Slot) (w1 : va_W), 0 ≤ v78_5.toInt → v78_5.toInt ≤ 400 → 0 ≤ f78_0_1.toInt → f78_0_1.toInt ≤ 400 → 0 ≤ f78_0_14.toInt → f78_0_14.toInt ≤ 400 → ((f78_0_14.toInt = f0_.toInt ∨ (gi w0 1 (f0_.toInt).toNat).toInt = 32)) → Wd dC dI A s.heap H locs w1 → TW ksM ad cy B qr 12 w1 → FE ksM [(12, 14, 14)] w0 w1 → gi w1 0 1 = f78_0_1 → gi w1 0 14 = f78_0_14 → lv_has ls 6 [(0, .ref (ad 0)), (1, .long 7237492), (3, .long v78_3), (5, .int v78_5)] → W p l e ({ frames := 2, cells := 0, slots := 0, locals := 33 }) s m (List.toArray [.ref (ad 0), .long 7237492]) below meth c H locs 0 0 (MQ below (va_Qi (P_X12_isWord_20 ad cy B qr s1  w0) (fun u : va_W => wpost dC dI cy A u) A) (List.toArray [.ref (ad 0), .long 7237492]) s 0 0 A) (F0 m 78 ls []) := by
    intro v78_3 v78_5 f78_0_1 f78_0_14 H locs ls w1 r2 t3 r4 t5 r7 t8 hcr78_0 hw hT hF c6 c9 hl
    refine lv_iconst (v := 0) hx hb dX12_isWord_78 (by decide) ?_
    exact tk_zret hC hr rfl hlocks hK ⟨hT, hF, (Or.inl ⟨rfl, ⟨f78_0_1, c6, (show 0 ≤ f78_0_1.toInt by omega), (show f78_0_1.toInt ≤ 400 by omega)⟩, (by simp only [cf0_, c9]; omega)⟩)⟩ hw dX12_isWord_79
  have L10 : ∀ (n10 : Nat) (v10_3 : Int64) (v10_5 : Int32) (f10_0_1 : Int32) (f10_0_14 : Int32) (H : Heap) (locs : List Loc) (ls : Array Slot) (w10 : va_W), 0 ≤ v10_5.toInt → v10_5.toInt ≤ 400 → 0 ≤ f10_0_1.toInt → f10_0_1.toInt ≤ 400 → 0 ≤ f10_0_14.toInt → f10_0_14.toInt ≤ 400 → ((f10_0_14.toInt = f0_.toInt ∨ (gi w0 1 (f0_.toInt).toNat).toInt = 32)) → (400 - v10_5.toInt).toNat < n10 → Wd dC dI A s.heap H locs w10 → TW ksM ad cy B qr 12 w10 → FE ksM [(12, 14, 14)] w0 w10 → gi w10 0 1 = f10_0_1 → gi w10 0 14 = f10_0_14 → lv_has ls 6 [(0, .ref (ad 0)), (1, .long 7237492), (3, .long v10_3), (5, .int v10_5)] → W p l e ({ frames := 2, cells := 0, slots := 0, locals := 33 }) s m (List.toArray [.ref (ad 0), .long 7237492]) below meth c H locs 0 0 (MQ below (va_Qi (P_X12_isWord_20 ad cy B qr s1  w0) (fun u : va_W => wpost dC dI cy A u) A) (List.toArray [.ref (ad 0), .long 7237492]) s 0 0 A) (F0 m 10 ls []) := by
    intro n10
    induction n10 with
    | zero => intro v10_3 v10_5 f10_0_1 f10_0_14 H locs ls w10 r11 t12 r13 t14 r16 t17 hcr10_0 hm10 hw hT hF c15 c18 hl; omega
    | succ n10 ih10 =>
      intro v10_3 v10_5 f10_0_1 f10_0_14 H locs ls w10 r11 t12 r13 t14 r16 t17 hcr10_0 hm10 hw hT hF c15 c18 hl
      have J50 : ∀ (v50_3 : Int64) (H : Heap) (locs : List Loc) (ls : Array Slot) (w19 : va_W), 0 ≤ v10_5.toInt → v10_5.toInt ≤ 399 → 1 ≤ f10_0_1.toInt → f10_0_1.toInt ≤ 400 → 0 ≤ f10_0_14.toInt → f10_0_14.toInt ≤ 399 → ((f10_0_14.toInt = f0_.toInt ∨ (gi w0 1 (f0_.toInt).toNat).toInt = 32)) → Wd dC dI A s.heap H locs w19 → TW ksM ad cy B qr 12 w19 → FE ksM [(12, 14, 14)] w0 w19 → gi w19 0 1 = f10_0_1 → gi w19 0 14 = f10_0_14 → lv_has ls 6 [(0, .ref (ad 0)), (1, .long 7237492), (3, .long v50_3), (5, .int v10_5)] → W p l e ({ frames := 2, cells := 0, slots := 0, locals := 33 }) s m (List.toArray [.ref (ad 0), .long 7237492]) below meth c H locs 0 0 (MQ below (va_Qi (P_X12_isWord_20 ad cy B qr s1  w0) (fun u : va_W => wpost dC dI cy A u) A) (List.toArray [.ref (ad 0), .long 7237492]) s 0 0 A) (F0 m 50 ls []) := by
        intro v50_3 H locs ls w19 r20 t21 r22 t23 r25 t26 hcr50_0 hw hT hF c24 c27 hl
        obtain ⟨x28, ex28⟩ : ∃ y : Int32, y = v10_5 + Int32.ofInt 1 := ⟨_, rfl⟩
        refine lv_iinc (v := x28) (lv' := [(5, .int x28), (0, .ref (ad 0)), (1, .long 7237492), (3, .long v50_3)]) hx hb dX12_isWord_50 hl (k := 3) rfl ex28.symm (by decide) rfl (fun ls hl => ?_)
        have ex28 : x28.toInt = v10_5.toInt + 1 := by rw [ex28]; exact wk_add (y := 1) (show -2147483648 ≤ v10_5.toInt + 1 by omega) (show v10_5.toInt + 1 ≤ 2147483647 by omega)
        refine lv_goto (tgt := 10) hx hb dX12_isWord_53 (by decide) ?_
        exact ih10 v50_3 x28 f10_0_1 f10_0_14 H locs ls w19 (show 0 ≤ x28.toInt by omega) (show x28.toInt ≤ 400 by omega) (show 0 ≤ f10_0_1.toInt by omega) (show f10_0_1.toInt ≤ 400 by omega) (show 0 ≤ f10_0_14.toInt by omega) (show f10_0_14.toInt ≤ 400 by omega) (show (f10_0_14.toInt = f0_.toInt ∨ (gi w0 1 (f0_.toInt).toNat).toInt = 32) by first | omega | assumption | (left; omega) | (left; decide) | (right; assumption)) (show (400 - x28.toInt).toNat < n10 by omega) hw hT hF c24 c27 (lv_sub hl [1, 2, 3, 0] rfl)
      refine lv_aload_n hx hb dX12_isWord_10 rfl (lv_at hl 0 rfl) ?_
      refine lv_aload_n hx hb dX12_isWord_11 rfl (lv_at hl 0 rfl) ?_
      refine tk_geti hC hK hw hT hinX12 kM_at0 (by decide) rfl 14 (by decide) (List.mem_of_getElem? (i := 1) rfl) rfl rfl dX12_isWord_12 (fun x29 c30 rx29 tx29 => ?_)
      refine wk_top f10_0_14 (c30.symm.trans c18) ?_
      refine lv_iload hx hb dX12_isWord_15 (lv_at hl 3 rfl) ?_
      refine lv_iadd hx hb dX12_isWord_17 ?_
      refine lv_topi (fun x31 ex31 => ?_)
      have ex31 : x31.toInt = f10_0_14.toInt + v10_5.toInt := by rw [ex31]; exact wk_add (show (-2147483648) ≤ f10_0_14.toInt + v10_5.toInt by omega) (show f10_0_14.toInt + v10_5.toInt ≤ 2147483647 by omega)
      refine tk_Vi hC hK hw hT hA hE hSR kM_at0 (by decide) rfl (k_X12_isLetter_1 l adK adV dC dI cy ad B (by omega) (by omega) qr s1   x31 (show 0 ≤ x31.toInt by omega) (show x31.toInt ≤ 800 by omega) w10 H.size hT ) (cwV 1 hC.2.2.2.2 gX12_isWord_X12_isLetter rfl rfl rfl (by decide +kernel) ⟨Nat.le_of_ble_eq_true rfl, Nat.le_of_ble_eq_true rfl⟩) rfl hl.1 rfl (Nat.le_of_ble_eq_true rfl) dX12_isWord_18 (fun r32 w34 H locs hp33 hw => ?_)
      obtain ⟨rfl, hg41⟩ := hp33
      rcases hg41 with ⟨rfl, ⟨x36, c37, rx36, tx36⟩⟩ | ⟨rfl, g38, ⟨x39, c40, rx39, tx39⟩⟩
      · have ex36 : x36.toInt = f10_0_1.toInt := by rw [← c15.symm.trans c37]
        refine lv_if_eq (tgt := 56) hx hb dX12_isWord_21 (by decide) (fun _ => ?_) (fun c => absurd (by decide) c)
        refine lv_iload hx hb dX12_isWord_56 (lv_at hl 3 rfl) ?_
        refine lv_if_le (tgt := 78) hx hb dX12_isWord_58 (by decide) (fun c42 => ?_) (fun c42 => ?_)
        · have c42 : v10_5.toInt ≤ (0 : Int) := wk_le.mp c42
          exact J78 v10_3 v10_5 f10_0_1 f10_0_14 H locs ls w10 (show 0 ≤ v10_5.toInt by omega) (show v10_5.toInt ≤ 400 by omega) (show 0 ≤ f10_0_1.toInt by omega) (show f10_0_1.toInt ≤ 400 by omega) (show 0 ≤ f10_0_14.toInt by omega) (show f10_0_14.toInt ≤ 400 by omega) (show (f10_0_14.toInt = f0_.toInt ∨ (gi w0 1 (f0_.toInt).toNat).toInt = 32) by first | omega | assumption | (left; omega) | (left; decide) | (right; assumption))  hw hT hF c15 c18 (lv_sub hl [0, 1, 2, 3] rfl)
        · have c42 : (0 : Int) < v10_5.toInt := wk_leF c42
          refine lv_iload hx hb dX12_isWord_61 (lv_at hl 3 rfl) ?_
          refine lv_bipush (v := 8) hx hb dX12_isWord_63 (by decide) ?_
          refine lv_icmp_ge (tgt := 78) hx hb dX12_isWord_65 (by decide) (fun c43 => ?_) (fun c43 => ?_)
          · have c43 : (8 : Int) ≤ v10_5.toInt := wk_le.mp c43
            exact J78 v10_3 v10_5 f10_0_1 f10_0_14 H locs ls w10 (show 0 ≤ v10_5.toInt by omega) (show v10_5.toInt ≤ 400 by omega) (show 0 ≤ f10_0_1.toInt by omega) (show f10_0_1.toInt ≤ 400 by omega) (show 0 ≤ f10_0_14.toInt by omega) (show f10_0_14.toInt ≤ 400 by omega) (show (f10_0_14.toInt = f0_.toInt ∨ (gi w0 1 (f0_.toInt).toNat).toInt = 32) by first | omega | assumption | (left; omega) | (left; decide) | (right; assumption))  hw hT hF c15 c18 (lv_sub hl [0, 1, 2, 3] rfl)
          · have c43 : v10_5.toInt < (8 : Int) := wk_leF c43
            refine lv_lload_n hx hb dX12_isWord_68 rfl (lv_at hl 2 rfl) ?_
            refine lv_lload_n hx hb dX12_isWord_69 rfl (lv_at hl 1 rfl) ?_
            refine W.lcmp hx hb dX12_isWord_70 ?_
            refine lv_if_ne (tgt := 78) hx hb dX12_isWord_71 (by decide) (fun c44 => ?_) (fun c44 => ?_)
            · have c44 : ¬ v10_3.toInt = (7237492 : Int) := wk_ceF c44
              exact J78 v10_3 v10_5 f10_0_1 f10_0_14 H locs ls w10 (show 0 ≤ v10_5.toInt by omega) (show v10_5.toInt ≤ 400 by omega) (show 0 ≤ f10_0_1.toInt by omega) (show f10_0_1.toInt ≤ 400 by omega) (show 0 ≤ f10_0_14.toInt by omega) (show f10_0_14.toInt ≤ 400 by omega) (show (f10_0_14.toInt = f0_.toInt ∨ (gi w0 1 (f0_.toInt).toNat).toInt = 32) by first | omega | assumption | (left; omega) | (left; decide) | (right; assumption))  hw hT hF c15 c18 (lv_sub hl [0, 1, 2, 3] rfl)
            · have c44 : v10_3.toInt = (7237492 : Int) := wk_ceT c44
              refine lv_iconst (v := 1) hx hb dX12_isWord_74 (by decide) ?_
              refine lv_goto (tgt := 79) hx hb dX12_isWord_75 (by decide) ?_
              exact tk_zret hC hr rfl hlocks hK ⟨hT, hF, (Or.inr ⟨rfl, ⟨f10_0_1, c15, (show 0 ≤ f10_0_1.toInt by omega), (show f10_0_1.toInt ≤ 400 by omega)⟩, (by simp only [cf0_, c18]; omega)⟩)⟩ hw dX12_isWord_79
      · have ex39 : x39.toInt = f10_0_1.toInt := by rw [← c15.symm.trans c40]
        refine lv_if_eq (tgt := 56) hx hb dX12_isWord_21 (by decide) (fun c => absurd c (by decide)) (fun _ => ?_)
        refine lv_iload hx hb dX12_isWord_24 (lv_at hl 3 rfl) ?_
        refine lv_bipush (v := 8) hx hb dX12_isWord_26 (by decide) ?_
        refine lv_icmp_ge (tgt := 50) hx hb dX12_isWord_28 (by decide) (fun c45 => ?_) (fun c45 => ?_)
        · have c45 : (8 : Int) ≤ v10_5.toInt := wk_le.mp c45
          exact J50 v10_3 H locs ls w10 (show 0 ≤ v10_5.toInt by omega) (show v10_5.toInt ≤ 399 by omega) (show 1 ≤ f10_0_1.toInt by omega) (show f10_0_1.toInt ≤ 400 by omega) (show 0 ≤ f10_0_14.toInt by omega) (show f10_0_14.toInt ≤ 399 by omega) (show (f10_0_14.toInt = f0_.toInt ∨ (gi w0 1 (f0_.toInt).toNat).toInt = 32) by first | omega | assumption | (left; omega) | (left; decide) | (right; assumption))  hw hT hF c15 c18 (lv_sub hl [0, 1, 2, 3] rfl)
        · have c45 : v10_5.toInt < (8 : Int) := wk_leF c45
          refine lv_lload_n hx hb dX12_isWord_31 rfl (lv_at hl 2 rfl) ?_
          refine lv_bipush (v := 8) hx hb dX12_isWord_32 (by decide) ?_
          refine lv_lshl hx hb dX12_isWord_34 rfl ?_
          refine lv_topl (fun x46 ex46 => ?_)
          refine lv_aload_n hx hb dX12_isWord_35 rfl (lv_at hl 0 rfl) ?_
          refine tk_getA hC hK hw hT hinX12 kM_at0 (by decide) rfl 0 (by decide) (List.mem_of_getElem? (i := 2) rfl) rfl rfl dX12_isWord_36 ?_
          refine lv_aload_n hx hb dX12_isWord_39 rfl (lv_at hl 0 rfl) ?_
          refine tk_geti hC hK hw hT hinX12 kM_at0 (by decide) rfl 14 (by decide) (List.mem_of_getElem? (i := 1) rfl) rfl rfl dX12_isWord_40 (fun x47 c48 rx47 tx47 => ?_)
          refine wk_top f10_0_14 (c48.symm.trans c18) ?_
          refine lv_iload hx hb dX12_isWord_43 (lv_at hl 3 rfl) ?_
          refine lv_iadd hx hb dX12_isWord_45 ?_
          refine lv_topi (fun x49 ex49 => ?_)
          have ex49 : x49.toInt = f10_0_14.toInt + v10_5.toInt := by rw [ex49]; exact wk_add (show (-2147483648) ≤ f10_0_14.toInt + v10_5.toInt by omega) (show f10_0_14.toInt + v10_5.toInt ≤ 2147483647 by omega)
          refine tk_bald hC hK hw hT kM_at1 rfl rfl (show 0 ≤ x49.toInt by omega) (show x49.toInt < 400 by omega) dX12_isWord_46 (fun x50 c51 rx50 tx50 => ?_)
          have c51 : gi w10 1 (1 * f10_0_14.toInt + 1 * v10_5.toInt + 0).toNat = x50 := (congrArg (gi w10 1) (congrArg Int.toNat (show 1 * f10_0_14.toInt + 1 * v10_5.toInt + 0 = x49.toInt by omega))).trans c51
          refine lv_i2l hx hb dX12_isWord_47 rfl ?_
          refine lv_topl (fun x52 ex52 => ?_)
          have ex52 : x52.toInt = x50.toInt := by rw [ex52]; exact wk_i2l _
          have bx52 := wk_i32 x50
          refine lv_lor hx hb dX12_isWord_48 ?_
          refine lv_topl (fun x53 ex53 => ?_)
          refine lv_lstore_n (lv' := [(3, .long x53), (0, .ref (ad 0)), (1, .long 7237492), (5, .int v10_5)]) hx hb dX12_isWord_49 rfl hl (by decide) rfl (fun ls hl => ?_)
          exact J50 x53 H locs ls w10 (show 0 ≤ v10_5.toInt by omega) (show v10_5.toInt ≤ 399 by omega) (show 1 ≤ f10_0_1.toInt by omega) (show f10_0_1.toInt ≤ 400 by omega) (show 0 ≤ f10_0_14.toInt by omega) (show f10_0_14.toInt ≤ 399 by omega) (show (f10_0_14.toInt = f0_.toInt ∨ (gi w0 1 (f0_.toInt).toNat).toInt = 32) by first | omega | assumption | (left; omega) | (left; decide) | (right; assumption) | (right; rw [c51]; omega) | (right; rw [c51]; decide))  hw hT hF c15 c18 (lv_sub hl [1, 2, 0, 3] rfl)
  refine lv_aload_n hx hb dX12_isWord_0 rfl (lv_at hl 0 rfl) ?_
  refine tk_Vi hC hK hw hT hA hE hSR kM_at0 (by decide) rfl (k_X12_see_1 l adK adV dC dI cy ad B (by omega) (by omega) qr s1    w0 s.heap.size hT f0_ cf0_ (show 0 ≤ f0_.toInt by omega) (show f0_.toInt ≤ 400 by omega)) (cwV 0 hC.2.2.2.2 gX12_isWord_X12_see rfl rfl rfl (by decide +kernel) ⟨Nat.le_of_ble_eq_true rfl, Nat.le_of_ble_eq_true rfl⟩) rfl hl.1 rfl (Nat.le_of_ble_eq_true rfl) dX12_isWord_1 (fun r54 w56 H locs hp55 hw => ?_)
  obtain ⟨hT, k57, hg74⟩ := hp55
  have hF := hF.tr k57 (by decide)
  rcases hg74 with ⟨g58, g59, ⟨x60, c61, rx60, tx60⟩, ⟨x62, c63, rx62, tx62⟩, g64, g65⟩ | ⟨rfl, ⟨x66, c67, rx66, tx66⟩, ⟨x68, c69, rx68, tx68⟩, g70⟩ | ⟨rfl, ⟨x71, c72, rx71, tx71⟩, g73⟩
  · have g64 : (gi w56 1 (x62.toInt).toNat).toInt ≠ 32 := by have q := g64; simp only [c63] at q; omega
    have g65 : (x62.toInt = f0_.toInt ∨ (gi w0 1 (f0_.toInt).toNat).toInt = 32) := by have q := g65; simp only [cf0_, c63] at q; omega
    refine lv_pop hx hb dX12_isWord_4 rfl ?_
    refine lv_lconst (v := 0) hx hb dX12_isWord_5 (by decide) ?_
    refine lv_lstore_n (lv' := [(3, .long 0), (0, .ref (ad 0)), (1, .long 7237492)]) hx hb dX12_isWord_6 rfl hl (by decide) rfl (fun ls hl => ?_)
    refine lv_iconst (v := 0) hx hb dX12_isWord_7 (by decide) ?_
    refine lv_istore (lv' := [(5, .int 0), (3, .long 0), (0, .ref (ad 0)), (1, .long 7237492)]) hx hb dX12_isWord_8 hl (by decide) rfl (fun ls hl => ?_)
    exact L10 ((400 - (0 : Int)).toNat + 1) 0 0 x60 x62 H locs ls w56 (by decide) (by decide) (show 0 ≤ x60.toInt by omega) (show x60.toInt ≤ 400 by omega) (show 0 ≤ x62.toInt by omega) (show x62.toInt ≤ 400 by omega) (show (x62.toInt = f0_.toInt ∨ (gi w0 1 (f0_.toInt).toNat).toInt = 32) by first | omega | assumption | (left; omega) | (left; decide) | (right; assumption)) (Nat.lt_succ_self _) hw hT hF c61 c63 (lv_sub hl [2, 3, 1, 0] rfl)
  · have g70 : (x68.toInt = f0_.toInt ∨ (gi w0 1 (f0_.toInt).toNat).toInt = 32) := by have q := g70; simp only [cf0_, c69] at q; omega
    refine lv_pop hx hb dX12_isWord_4 rfl ?_
    refine lv_lconst (v := 0) hx hb dX12_isWord_5 (by decide) ?_
    refine lv_lstore_n (lv' := [(3, .long 0), (0, .ref (ad 0)), (1, .long 7237492)]) hx hb dX12_isWord_6 rfl hl (by decide) rfl (fun ls hl => ?_)
    refine lv_iconst (v := 0) hx hb dX12_isWord_7 (by decide) ?_
    refine lv_istore (lv' := [(5, .int 0), (3, .long 0), (0, .ref (ad 0)), (1, .long 7237492)]) hx hb dX12_isWord_8 hl (by decide) rfl (fun ls hl => ?_)
    exact L10 ((400 - (0 : Int)).toNat + 1) 0 0 x66 x68 H locs ls w56 (by decide) (by decide) (show 0 ≤ x66.toInt by omega) (show x66.toInt ≤ 400 by omega) (show 0 ≤ x68.toInt by omega) (show x68.toInt ≤ 400 by omega) (show (x68.toInt = f0_.toInt ∨ (gi w0 1 (f0_.toInt).toNat).toInt = 32) by first | omega | assumption | (left; omega) | (left; decide) | (right; assumption)) (Nat.lt_succ_self _) hw hT hF c67 c69 (lv_sub hl [2, 3, 1, 0] rfl)
  · obtain ⟨x75, c76, rx75, tx75⟩ := hT.rdi (lo := 0) (hi := 400) (k := 14) kM_at0 (by decide) rfl
    have g73 : (x75.toInt = f0_.toInt ∨ (gi w0 1 (f0_.toInt).toNat).toInt = 32) := by have q := g73; simp only [cf0_, c76] at q; omega
    refine lv_pop hx hb dX12_isWord_4 rfl ?_
    refine lv_lconst (v := 0) hx hb dX12_isWord_5 (by decide) ?_
    refine lv_lstore_n (lv' := [(3, .long 0), (0, .ref (ad 0)), (1, .long 7237492)]) hx hb dX12_isWord_6 rfl hl (by decide) rfl (fun ls hl => ?_)
    refine lv_iconst (v := 0) hx hb dX12_isWord_7 (by decide) ?_
    refine lv_istore (lv' := [(5, .int 0), (3, .long 0), (0, .ref (ad 0)), (1, .long 7237492)]) hx hb dX12_isWord_8 hl (by decide) rfl (fun ls hl => ?_)
    exact L10 ((400 - (0 : Int)).toNat + 1) 0 0 x71 x75 H locs ls w56 (by decide) (by decide) (show 0 ≤ x71.toInt by omega) (show x71.toInt ≤ 400 by omega) (show 0 ≤ x75.toInt by omega) (show x75.toInt ≤ 400 by omega) (show (x75.toInt = f0_.toInt ∨ (gi w0 1 (f0_.toInt).toNat).toInt = 32) by first | omega | assumption | (left; omega) | (left; decide) | (right; assumption)) (Nat.lt_succ_self _) hw hT hF c72 c76 (lv_sub hl [2, 3, 1, 0] rfl)
abbrev P_X12_opens_1 (ad : Nat → Nat) (cy : Nat → ClassId) (B : Int) (qr : Nat) (s1 : Int)  (w0 : va_W) : Int32 → va_W → Prop := fun r u => TW ksM ad cy B qr 12 u ∧ FE ksM [(12, 15, 15), (12, 19, 19), (12, 22, 22), (68, 0, 400)] w0 u ∧ ((r = 0 ∧ (∃ y : Int32, gi u 0 15 = y ∧ 1 ≤ y.toInt ∧ y.toInt ≤ 3205) ∧ (∃ y : Int32, gi u 0 19 = y ∧ 10 ≤ y.toInt ∧ y.toInt ≤ 10) ∧ (∃ y : Int32, gi u 0 22 = y ∧ 0 ≤ y.toInt ∧ y.toInt ≤ 399)) ∨ (r = 1 ∧ (∃ y : Int32, gi u 0 19 = y ∧ (-99) ≤ y.toInt ∧ y.toInt ≤ 10) ∧ (∃ y : Int32, gi u 0 22 = y ∧ 1 ≤ y.toInt ∧ y.toInt ≤ 400) ∧ ((gi u 0 22).toInt = (gi w0 0 22).toInt + 1) ∧ ((gi u 0 19).toInt = (gi w0 0 19).toInt + 1) ∧ ((binN u ((gi u 0 22).toInt).toNat : Int) = (gi u 0 22).toInt - (gi u 0 19).toInt)))
set_option maxHeartbeats 4000000 in
set_option maxRecDepth 100000 in
theorem k_X12_opens_1 (l : Launch) (adK adV : Nat → Nat) (dC : Nat → ClassId) (dI : Nat → Nat → Nat) (cy : Nat → ClassId) (ad : Nat → Nat) (B : Int) (hB0 : 100000 ≤ B) (hB1 : B ≤ 1073741824) (qr : Nat) (s1 : Int)   (w0 : va_W) (sz : Nat) (hT : TW ksM ad cy B qr 12 w0) (f0_ : Int32) (cf0_ : gi w0 0 19 = f0_) (rf0_ : (-100) ≤ f0_.toInt) (tf0_ : f0_.toInt ≤ 10) (f1_ : Int32) (cf1_ : gi w0 0 22 = f1_) (rf1_ : 0 ≤ f1_.toInt) (tf1_ : f1_.toInt ≤ 400) (pr0_ : f1_.toInt ≤ 399) (pr1_ : (binN w0 (f1_.toInt).toNat : Int) = f1_.toInt - f0_.toInt) : Met l yX12_opens wsX12_opens ({ frames := 2, cells := 0, slots := 0, locals := 34 }) (va_Pc [.ref (ad 0), .int 11] (wpreS adK adV dC dI cy sz w0)) (va_Qi (P_X12_opens_1 ad cy B qr s1  w0) (fun u : va_W => wpost dC dI cy (va_A w0 sz) u) (va_A w0 sz)) 0 0 (va_A w0 sz) := by
  refine Met.ofW (cc := cX12_opens) (maxL := 2) (ret := (some .boolean)) (by decide) rfl ?_
  intro p e s m args below meth c s₁ Bk hml hv
  obtain ⟨rfl, ⟨hsz, hP, hK, hD0⟩, hE, hSR⟩ := hv
  have hx := Bk.exec
  have hb := Bk.bytes
  have hr := Bk.returns
  have hlocks := Bk.notSynchronized
  have hC : CallFix p m c cX12_opens 2 s _ wsX12_opens RX12 := ⟨hx, hb, hml, findClass_of_methodNamed Bk.named, atoms_spec (ws := wsX12_opens) Bk.pre⟩
  subst hsz
  have hD := hD0.self (sz := s.heap.size)
  generalize hAe : va_A w0 s.heap.size = A at hD hE ⊢
  have hA : ∀ q : Nat, s.heap.size ≤ q → A q := fun q h => by rw [← hAe]; exact Or.inr h
  have hw : Wd dC dI A s.heap s.heap [] w0 := ⟨hP, hD, va_S.rf⟩
  have hF : FE ksM [(12, 15, 15), (12, 19, 19), (12, 22, 22), (68, 0, 400)] w0 w0 := FE.rf
  have hl := lv_entry ([.ref (ad 0), .int 11]) (n := 2) (Nat.le_of_ble_eq_true rfl)
  rw [lg_entry_eq]
  generalize (lg_sl ([.ref (ad 0), .int 11]) ++ List.replicate (2 - (lg_sl ([.ref (ad 0), .int 11])).length) Slot.unset).toArray = ls at hl ⊢
  have hl : lv_has ls 2 [(0, .ref (ad 0)), (1, .int 11)] := hl
  generalize hloc : ([] : List Loc) = locs at hw ⊢
  have hinX12 : ∀ w ∈ u_ws RX12 TX12 42, w ∈ wsX12_opens := fun _ h => List.mem_cons_of_mem _ (List.mem_append_right _ (h))
  have gl1 := bin_le w0 (f1_.toInt).toNat
  refine lv_aload_n hx hb dX12_opens_0 rfl (lv_at hl 0 rfl) ?_
  refine tk_geti hC hK hw hT hinX12 kM_at0 (by decide) rfl 19 (by decide) (List.mem_of_getElem? (i := 1) rfl) rfl rfl dX12_opens_1 (fun x2 c3 rx2 tx2 => ?_)
  refine wk_top f0_ (c3.symm.trans cf0_) ?_
  refine lv_bipush (v := 10) hx hb dX12_opens_4 (by decide) ?_
  refine lv_icmp_ne (tgt := 19) hx hb dX12_opens_6 (by decide) (fun c4 => ?_) (fun c4 => ?_)
  · have c4 : ¬ f0_.toInt = (10 : Int) := wk_eqF c4
    refine lv_aload_n hx hb dX12_opens_19 rfl (lv_at hl 0 rfl) ?_
    refine lv_dup hx hb dX12_opens_20 rfl ?_
    refine tk_geti hC hK hw hT hinX12 kM_at0 (by decide) rfl 19 (by decide) (List.mem_of_getElem? (i := 1) rfl) rfl rfl dX12_opens_21 (fun x5 c6 rx5 tx5 => ?_)
    refine wk_top f0_ (c6.symm.trans cf0_) ?_
    refine lv_iconst (v := 1) hx hb dX12_opens_24 (by decide) ?_
    refine lv_iadd hx hb dX12_opens_25 ?_
    refine lv_topi (fun x7 ex7 => ?_)
    have ex7 : x7.toInt = f0_.toInt + (1 : Int) := by rw [ex7]; exact wk_add (show (-2147483648) ≤ f0_.toInt + (1 : Int) by omega) (show f0_.toInt + (1 : Int) ≤ 2147483647 by omega)
    refine tk_puti hC hK hw hT hinX12 tyX12_ok nmX12 kM_at0 (by decide) rfl rfl 19 (by decide) (List.mem_of_getElem? (i := 1) rfl) rfl rfl rfl rfl (show (-100) ≤ x7.toInt by omega) (show x7.toInt ≤ 10 by omega) dX12_opens_26 (fun H locs w8 hw hT k10 c9 => ?_)
    have gn11 : binN w8 (f1_.toInt).toNat = binN w0 (f1_.toInt).toNat := bin_F1 _ k10 (by decide)
    have hF := hF.put kM_at0 (k := 19) (by decide) k10
    have c12 := k10.gi (Or.inr (by decide)) cf1_
    refine lv_aload_n hx hb dX12_opens_29 rfl (lv_at hl 0 rfl) ?_
    refine tk_getA hC hK hw hT hinX12 kM_at0 (by decide) rfl 21 (by decide) (List.mem_of_getElem? (i := 3) rfl) rfl rfl dX12_opens_30 ?_
    refine lv_aload_n hx hb dX12_opens_33 rfl (lv_at hl 0 rfl) ?_
    refine tk_geti hC hK hw hT hinX12 kM_at0 (by decide) rfl 22 (by decide) (List.mem_of_getElem? (i := 4) rfl) rfl rfl dX12_opens_34 (fun x13 c14 rx13 tx13 => ?_)
    refine wk_top f1_ (c14.symm.trans c12) ?_
    refine lv_iload_n hx hb dX12_opens_37 rfl (lv_at hl 1 rfl) ?_
    refine tk_iast hC hK hw hT kM_at9 (by decide) rfl rfl (show 0 ≤ f1_.toInt by omega) (show f1_.toInt < 400 by omega) (by decide) (by decide) dX12_opens_38 (fun H locs w15 hw hT k17 c16 => ?_)
    have gn18 : binN w15 (f1_.toInt).toNat = binN w8 (f1_.toInt).toNat := bin_ge _ k17 (show (f1_.toInt).toNat ≤ f1_.toInt.toNat by omega)
    have gx19 : (gi w15 9 (f1_.toInt).toNat).toInt = (11 : Int) := by rw [show gi w15 9 (f1_.toInt).toNat = 11 from c16]; decide
    have hF := hF.put kM_at9 (inE_of (a := 0) (b := 400) (by decide) (show 0 ≤ f1_.toInt.toNat by omega) (show f1_.toInt.toNat ≤ 400 by omega)) k17
    have c20 := k17.gi (Or.inl (tk_ne kM_at0 kM_at9 (by decide))) c12
    have c21 := k17.gi (Or.inl (tk_ne kM_at0 kM_at9 (by decide))) c9
    refine lv_aload_n hx hb dX12_opens_39 rfl (lv_at hl 0 rfl) ?_
    refine lv_dup hx hb dX12_opens_40 rfl ?_
    refine tk_geti hC hK hw hT hinX12 kM_at0 (by decide) rfl 22 (by decide) (List.mem_of_getElem? (i := 4) rfl) rfl rfl dX12_opens_41 (fun x22 c23 rx22 tx22 => ?_)
    refine wk_top f1_ (c23.symm.trans c20) ?_
    refine lv_iconst (v := 1) hx hb dX12_opens_44 (by decide) ?_
    refine lv_iadd hx hb dX12_opens_45 ?_
    refine lv_topi (fun x24 ex24 => ?_)
    have ex24 : x24.toInt = f1_.toInt + (1 : Int) := by rw [ex24]; exact wk_add (show (-2147483648) ≤ f1_.toInt + (1 : Int) by omega) (show f1_.toInt + (1 : Int) ≤ 2147483647 by omega)
    refine tk_puti hC hK hw hT hinX12 tyX12_ok nmX12 kM_at0 (by decide) rfl rfl 22 (by decide) (List.mem_of_getElem? (i := 4) rfl) rfl rfl rfl rfl (show 0 ≤ x24.toInt by omega) (show x24.toInt ≤ 400 by omega) dX12_opens_46 (fun H locs w25 hw hT k27 c26 => ?_)
    have gn28 : binN w25 (f1_.toInt).toNat = binN w15 (f1_.toInt).toNat := bin_F1 _ k27 (by decide)
    have gn29 : binN w25 (x24.toInt).toNat = binN w15 (x24.toInt).toNat := bin_F1 _ k27 (by decide)
    have gt30 := bin_top (w := w15) (a := x24.toInt) (b := f1_.toInt) (by omega) (by omega)
    have hF := hF.put kM_at0 (k := 22) (by decide) k27
    have c31 := k27.gi (Or.inr (by decide)) c21
    refine lv_iconst (v := 1) hx hb dX12_opens_49 (by decide) ?_
    exact tk_zret hC hr rfl hlocks hK ⟨hT, hF, (Or.inr ⟨rfl, ⟨x7, c31, (show (-99) ≤ x7.toInt by omega), (show x7.toInt ≤ 10 by omega)⟩, ⟨x24, c26, (show 1 ≤ x24.toInt by omega), (show x24.toInt ≤ 400 by omega)⟩, (by simp only [cf1_, c26]; omega), (by simp only [cf0_, c31]; omega), (by simp only [c31, c26]; omega)⟩)⟩ hw dX12_opens_50
  · have c4 : f0_.toInt = (10 : Int) := wk_eq.mp c4
    refine lv_aload_n hx hb dX12_opens_9 rfl (lv_at hl 0 rfl) ?_
    refine lv_iconst (v := 2) hx hb dX12_opens_10 (by decide) ?_
    refine lv_aload_n hx hb dX12_opens_11 rfl (lv_at hl 0 rfl) ?_
    refine tk_geti hC hK hw hT hinX12 kM_at0 (by decide) rfl 14 (by decide) (List.mem_of_getElem? (i := 2) rfl) rfl rfl dX12_opens_12 (fun x32 c33 rx32 tx32 => ?_)
    refine tk_Vi hC hK hw hT hA hE hSR kM_at0 (by decide) rfl (k_X12_fails_1 l adK adV dC dI cy ad B (by omega) (by omega) qr s1   2 (by decide) (by decide) x32 (show 0 ≤ x32.toInt by omega) (show x32.toInt ≤ 400 by omega) w0 s.heap.size hT ) (cwV 2 hC.2.2.2.2 gX12_opens_X12_fails rfl rfl rfl (by decide +kernel) ⟨Nat.le_of_ble_eq_true rfl, Nat.le_of_ble_eq_true rfl⟩) rfl hl.1 rfl (Nat.le_of_ble_eq_true rfl) dX12_opens_15 (fun r34 w36 H locs hp35 hw => ?_)
    obtain ⟨hT, k37, hg40⟩ := hp35
    have gn41 : binN w36 (f1_.toInt).toNat = binN w0 (f1_.toInt).toNat := bin_FE _ k37 (fun _ => rfl)
    have hF := hF.tr k37 (by decide)
    have c42 := k37.gi kM_at0 (by decide) cf0_
    have c43 := k37.gi kM_at0 (by decide) cf1_
    have c44 := k37.gi kM_at0 (by decide) c33
    obtain ⟨rfl, ⟨x38, c39, rx38, tx38⟩⟩ := hg40
    exact tk_zret hC hr rfl hlocks hK ⟨hT, hF, (Or.inl ⟨rfl, ⟨x38, c39, (show 1 ≤ x38.toInt by omega), (show x38.toInt ≤ 3205 by omega)⟩, ⟨f0_, c42, (show 10 ≤ f0_.toInt by omega), (show f0_.toInt ≤ 10 by omega)⟩, ⟨f1_, c43, (show 0 ≤ f1_.toInt by omega), (show f1_.toInt ≤ 399 by omega)⟩⟩)⟩ hw dX12_opens_18
abbrev P_X12_opens_2 (ad : Nat → Nat) (cy : Nat → ClassId) (B : Int) (qr : Nat) (s1 : Int)  (w0 : va_W) : Int32 → va_W → Prop := fun r u => TW ksM ad cy B qr 12 u ∧ FE ksM [(12, 15, 15), (12, 19, 19), (12, 22, 22), (68, 0, 400)] w0 u ∧ ((r = 0 ∧ (∃ y : Int32, gi u 0 15 = y ∧ 1 ≤ y.toInt ∧ y.toInt ≤ 3205) ∧ (∃ y : Int32, gi u 0 19 = y ∧ 10 ≤ y.toInt ∧ y.toInt ≤ 10) ∧ (∃ y : Int32, gi u 0 22 = y ∧ 0 ≤ y.toInt ∧ y.toInt ≤ 399)) ∨ (r = 1 ∧ (∃ y : Int32, gi u 0 19 = y ∧ (-99) ≤ y.toInt ∧ y.toInt ≤ 10) ∧ (∃ y : Int32, gi u 0 22 = y ∧ 1 ≤ y.toInt ∧ y.toInt ≤ 400) ∧ ((gi u 0 22).toInt = (gi w0 0 22).toInt + 1) ∧ ((gi u 0 19).toInt = (gi w0 0 19).toInt + 1) ∧ ((binN u ((gi u 0 22).toInt).toNat : Int) = (gi u 0 22).toInt - (gi u 0 19).toInt)))
set_option maxHeartbeats 4000000 in
set_option maxRecDepth 100000 in
theorem k_X12_opens_2 (l : Launch) (adK adV : Nat → Nat) (dC : Nat → ClassId) (dI : Nat → Nat → Nat) (cy : Nat → ClassId) (ad : Nat → Nat) (B : Int) (hB0 : 100000 ≤ B) (hB1 : B ≤ 1073741824) (qr : Nat) (s1 : Int)   (w0 : va_W) (sz : Nat) (hT : TW ksM ad cy B qr 12 w0) (f0_ : Int32) (cf0_ : gi w0 0 19 = f0_) (rf0_ : (-100) ≤ f0_.toInt) (tf0_ : f0_.toInt ≤ 10) (f1_ : Int32) (cf1_ : gi w0 0 22 = f1_) (rf1_ : 0 ≤ f1_.toInt) (tf1_ : f1_.toInt ≤ 400) (pr0_ : f1_.toInt ≤ 399) (pr1_ : (binN w0 (f1_.toInt).toNat : Int) = f1_.toInt - f0_.toInt) : Met l yX12_opens wsX12_opens ({ frames := 2, cells := 0, slots := 0, locals := 34 }) (va_Pc [.ref (ad 0), .int 91] (wpreS adK adV dC dI cy sz w0)) (va_Qi (P_X12_opens_2 ad cy B qr s1  w0) (fun u : va_W => wpost dC dI cy (va_A w0 sz) u) (va_A w0 sz)) 0 0 (va_A w0 sz) := by
  refine Met.ofW (cc := cX12_opens) (maxL := 2) (ret := (some .boolean)) (by decide) rfl ?_
  intro p e s m args below meth c s₁ Bk hml hv
  obtain ⟨rfl, ⟨hsz, hP, hK, hD0⟩, hE, hSR⟩ := hv
  have hx := Bk.exec
  have hb := Bk.bytes
  have hr := Bk.returns
  have hlocks := Bk.notSynchronized
  have hC : CallFix p m c cX12_opens 2 s _ wsX12_opens RX12 := ⟨hx, hb, hml, findClass_of_methodNamed Bk.named, atoms_spec (ws := wsX12_opens) Bk.pre⟩
  subst hsz
  have hD := hD0.self (sz := s.heap.size)
  generalize hAe : va_A w0 s.heap.size = A at hD hE ⊢
  have hA : ∀ q : Nat, s.heap.size ≤ q → A q := fun q h => by rw [← hAe]; exact Or.inr h
  have hw : Wd dC dI A s.heap s.heap [] w0 := ⟨hP, hD, va_S.rf⟩
  have hF : FE ksM [(12, 15, 15), (12, 19, 19), (12, 22, 22), (68, 0, 400)] w0 w0 := FE.rf
  have hl := lv_entry ([.ref (ad 0), .int 91]) (n := 2) (Nat.le_of_ble_eq_true rfl)
  rw [lg_entry_eq]
  generalize (lg_sl ([.ref (ad 0), .int 91]) ++ List.replicate (2 - (lg_sl ([.ref (ad 0), .int 91])).length) Slot.unset).toArray = ls at hl ⊢
  have hl : lv_has ls 2 [(0, .ref (ad 0)), (1, .int 91)] := hl
  generalize hloc : ([] : List Loc) = locs at hw ⊢
  have hinX12 : ∀ w ∈ u_ws RX12 TX12 42, w ∈ wsX12_opens := fun _ h => List.mem_cons_of_mem _ (List.mem_append_right _ (h))
  have gl1 := bin_le w0 (f1_.toInt).toNat
  refine lv_aload_n hx hb dX12_opens_0 rfl (lv_at hl 0 rfl) ?_
  refine tk_geti hC hK hw hT hinX12 kM_at0 (by decide) rfl 19 (by decide) (List.mem_of_getElem? (i := 1) rfl) rfl rfl dX12_opens_1 (fun x2 c3 rx2 tx2 => ?_)
  refine wk_top f0_ (c3.symm.trans cf0_) ?_
  refine lv_bipush (v := 10) hx hb dX12_opens_4 (by decide) ?_
  refine lv_icmp_ne (tgt := 19) hx hb dX12_opens_6 (by decide) (fun c4 => ?_) (fun c4 => ?_)
  · have c4 : ¬ f0_.toInt = (10 : Int) := wk_eqF c4
    refine lv_aload_n hx hb dX12_opens_19 rfl (lv_at hl 0 rfl) ?_
    refine lv_dup hx hb dX12_opens_20 rfl ?_
    refine tk_geti hC hK hw hT hinX12 kM_at0 (by decide) rfl 19 (by decide) (List.mem_of_getElem? (i := 1) rfl) rfl rfl dX12_opens_21 (fun x5 c6 rx5 tx5 => ?_)
    refine wk_top f0_ (c6.symm.trans cf0_) ?_
    refine lv_iconst (v := 1) hx hb dX12_opens_24 (by decide) ?_
    refine lv_iadd hx hb dX12_opens_25 ?_
    refine lv_topi (fun x7 ex7 => ?_)
    have ex7 : x7.toInt = f0_.toInt + (1 : Int) := by rw [ex7]; exact wk_add (show (-2147483648) ≤ f0_.toInt + (1 : Int) by omega) (show f0_.toInt + (1 : Int) ≤ 2147483647 by omega)
    refine tk_puti hC hK hw hT hinX12 tyX12_ok nmX12 kM_at0 (by decide) rfl rfl 19 (by decide) (List.mem_of_getElem? (i := 1) rfl) rfl rfl rfl rfl (show (-100) ≤ x7.toInt by omega) (show x7.toInt ≤ 10 by omega) dX12_opens_26 (fun H locs w8 hw hT k10 c9 => ?_)
    have gn11 : binN w8 (f1_.toInt).toNat = binN w0 (f1_.toInt).toNat := bin_F1 _ k10 (by decide)
    have hF := hF.put kM_at0 (k := 19) (by decide) k10
    have c12 := k10.gi (Or.inr (by decide)) cf1_
    refine lv_aload_n hx hb dX12_opens_29 rfl (lv_at hl 0 rfl) ?_
    refine tk_getA hC hK hw hT hinX12 kM_at0 (by decide) rfl 21 (by decide) (List.mem_of_getElem? (i := 3) rfl) rfl rfl dX12_opens_30 ?_
    refine lv_aload_n hx hb dX12_opens_33 rfl (lv_at hl 0 rfl) ?_
    refine tk_geti hC hK hw hT hinX12 kM_at0 (by decide) rfl 22 (by decide) (List.mem_of_getElem? (i := 4) rfl) rfl rfl dX12_opens_34 (fun x13 c14 rx13 tx13 => ?_)
    refine wk_top f1_ (c14.symm.trans c12) ?_
    refine lv_iload_n hx hb dX12_opens_37 rfl (lv_at hl 1 rfl) ?_
    refine tk_iast hC hK hw hT kM_at9 (by decide) rfl rfl (show 0 ≤ f1_.toInt by omega) (show f1_.toInt < 400 by omega) (by decide) (by decide) dX12_opens_38 (fun H locs w15 hw hT k17 c16 => ?_)
    have gn18 : binN w15 (f1_.toInt).toNat = binN w8 (f1_.toInt).toNat := bin_ge _ k17 (show (f1_.toInt).toNat ≤ f1_.toInt.toNat by omega)
    have gx19 : (gi w15 9 (f1_.toInt).toNat).toInt = (91 : Int) := by rw [show gi w15 9 (f1_.toInt).toNat = 91 from c16]; decide
    have hF := hF.put kM_at9 (inE_of (a := 0) (b := 400) (by decide) (show 0 ≤ f1_.toInt.toNat by omega) (show f1_.toInt.toNat ≤ 400 by omega)) k17
    have c20 := k17.gi (Or.inl (tk_ne kM_at0 kM_at9 (by decide))) c12
    have c21 := k17.gi (Or.inl (tk_ne kM_at0 kM_at9 (by decide))) c9
    refine lv_aload_n hx hb dX12_opens_39 rfl (lv_at hl 0 rfl) ?_
    refine lv_dup hx hb dX12_opens_40 rfl ?_
    refine tk_geti hC hK hw hT hinX12 kM_at0 (by decide) rfl 22 (by decide) (List.mem_of_getElem? (i := 4) rfl) rfl rfl dX12_opens_41 (fun x22 c23 rx22 tx22 => ?_)
    refine wk_top f1_ (c23.symm.trans c20) ?_
    refine lv_iconst (v := 1) hx hb dX12_opens_44 (by decide) ?_
    refine lv_iadd hx hb dX12_opens_45 ?_
    refine lv_topi (fun x24 ex24 => ?_)
    have ex24 : x24.toInt = f1_.toInt + (1 : Int) := by rw [ex24]; exact wk_add (show (-2147483648) ≤ f1_.toInt + (1 : Int) by omega) (show f1_.toInt + (1 : Int) ≤ 2147483647 by omega)
    refine tk_puti hC hK hw hT hinX12 tyX12_ok nmX12 kM_at0 (by decide) rfl rfl 22 (by decide) (List.mem_of_getElem? (i := 4) rfl) rfl rfl rfl rfl (show 0 ≤ x24.toInt by omega) (show x24.toInt ≤ 400 by omega) dX12_opens_46 (fun H locs w25 hw hT k27 c26 => ?_)
    have gn28 : binN w25 (f1_.toInt).toNat = binN w15 (f1_.toInt).toNat := bin_F1 _ k27 (by decide)
    have gn29 : binN w25 (x24.toInt).toNat = binN w15 (x24.toInt).toNat := bin_F1 _ k27 (by decide)
    have gt30 := bin_top (w := w15) (a := x24.toInt) (b := f1_.toInt) (by omega) (by omega)
    have hF := hF.put kM_at0 (k := 22) (by decide) k27
    have c31 := k27.gi (Or.inr (by decide)) c21
    refine lv_iconst (v := 1) hx hb dX12_opens_49 (by decide) ?_
    exact tk_zret hC hr rfl hlocks hK ⟨hT, hF, (Or.inr ⟨rfl, ⟨x7, c31, (show (-99) ≤ x7.toInt by omega), (show x7.toInt ≤ 10 by omega)⟩, ⟨x24, c26, (show 1 ≤ x24.toInt by omega), (show x24.toInt ≤ 400 by omega)⟩, (by simp only [cf1_, c26]; omega), (by simp only [cf0_, c31]; omega), (by simp only [c31, c26]; omega)⟩)⟩ hw dX12_opens_50
  · have c4 : f0_.toInt = (10 : Int) := wk_eq.mp c4
    refine lv_aload_n hx hb dX12_opens_9 rfl (lv_at hl 0 rfl) ?_
    refine lv_iconst (v := 2) hx hb dX12_opens_10 (by decide) ?_
    refine lv_aload_n hx hb dX12_opens_11 rfl (lv_at hl 0 rfl) ?_
    refine tk_geti hC hK hw hT hinX12 kM_at0 (by decide) rfl 14 (by decide) (List.mem_of_getElem? (i := 2) rfl) rfl rfl dX12_opens_12 (fun x32 c33 rx32 tx32 => ?_)
    refine tk_Vi hC hK hw hT hA hE hSR kM_at0 (by decide) rfl (k_X12_fails_1 l adK adV dC dI cy ad B (by omega) (by omega) qr s1   2 (by decide) (by decide) x32 (show 0 ≤ x32.toInt by omega) (show x32.toInt ≤ 400 by omega) w0 s.heap.size hT ) (cwV 2 hC.2.2.2.2 gX12_opens_X12_fails rfl rfl rfl (by decide +kernel) ⟨Nat.le_of_ble_eq_true rfl, Nat.le_of_ble_eq_true rfl⟩) rfl hl.1 rfl (Nat.le_of_ble_eq_true rfl) dX12_opens_15 (fun r34 w36 H locs hp35 hw => ?_)
    obtain ⟨hT, k37, hg40⟩ := hp35
    have gn41 : binN w36 (f1_.toInt).toNat = binN w0 (f1_.toInt).toNat := bin_FE _ k37 (fun _ => rfl)
    have hF := hF.tr k37 (by decide)
    have c42 := k37.gi kM_at0 (by decide) cf0_
    have c43 := k37.gi kM_at0 (by decide) cf1_
    have c44 := k37.gi kM_at0 (by decide) c33
    obtain ⟨rfl, ⟨x38, c39, rx38, tx38⟩⟩ := hg40
    exact tk_zret hC hr rfl hlocks hK ⟨hT, hF, (Or.inl ⟨rfl, ⟨x38, c39, (show 1 ≤ x38.toInt by omega), (show x38.toInt ≤ 3205 by omega)⟩, ⟨f0_, c42, (show 10 ≤ f0_.toInt by omega), (show f0_.toInt ≤ 10 by omega)⟩, ⟨f1_, c43, (show 0 ≤ f1_.toInt by omega), (show f1_.toInt ≤ 399 by omega)⟩⟩)⟩ hw dX12_opens_18
abbrev P_X12_fact_1 (ad : Nat → Nat) (cy : Nat → ClassId) (B : Int) (qr : Nat) (s1 : Int)  (w0 : va_W) : Int32 → va_W → Prop := fun r u => TW ksM ad cy B qr 12 u ∧ FE ksM [(12, 14, 14), (12, 15, 15), (12, 16, 16), (12, 18, 18), (12, 19, 19), (12, 22, 22), (61, 0, 2400), (62, 0, 7), (68, 0, 400)] w0 u ∧ ((r = 0 ∧ (∃ y : Int32, gi u 0 1 = y ∧ 1 ≤ y.toInt ∧ y.toInt ≤ 400) ∧ (∃ y : Int32, gi u 0 15 = y ∧ 1 ≤ y.toInt ∧ y.toInt ≤ 3205) ∧ (∃ y : Int32, gi u 0 17 = y ∧ 0 ≤ y.toInt ∧ y.toInt ≤ 5) ∧ (∃ y : Int32, gi u 0 22 = y ∧ 0 ≤ y.toInt ∧ y.toInt ≤ 399)) ∨ (r = 0 ∧ (∃ y : Int32, gi u 0 1 = y ∧ 0 ≤ y.toInt ∧ y.toInt ≤ 400) ∧ (∃ y : Int32, gi u 0 15 = y ∧ 1 ≤ y.toInt ∧ y.toInt ≤ 3205) ∧ (∃ y : Int32, gi u 0 17 = y ∧ 0 ≤ y.toInt ∧ y.toInt ≤ 5) ∧ (∃ y : Int32, gi u 0 22 = y ∧ 0 ≤ y.toInt ∧ y.toInt ≤ 399)) ∨ (r = 1 ∧ (∃ y : Int32, gi u 0 1 = y ∧ 1 ≤ y.toInt ∧ y.toInt ≤ 400) ∧ (∃ y : Int32, gi u 0 17 = y ∧ 0 ≤ y.toInt ∧ y.toInt ≤ 5) ∧ (∃ y : Int32, gi u 0 18 = y ∧ 1 ≤ y.toInt ∧ y.toInt ≤ 60) ∧ (∃ y : Int32, gi u 0 22 = y ∧ 0 ≤ y.toInt ∧ y.toInt ≤ 390) ∧ (3 * ((gi u 3 ((gi u 0 17).toInt).toNat).toInt + (gi u 0 22).toInt) + 3 ≤ 14 * (gi u 0 18).toInt) ∧ ((gi u 0 22).toInt + 3 ≤ (gi u 0 19).toInt + (gi u 0 18).toInt) ∧ ((gi w0 0 18).toInt + 3 ≤ (gi u 0 18).toInt) ∧ ((gi u 3 ((gi u 0 17).toInt).toNat).toInt ≤ 280) ∧ ((gi u 0 22).toInt ≤ 280) ∧ ((binN u ((gi u 0 22).toInt).toNat : Int) = (gi u 0 22).toInt - (gi u 0 19).toInt)))
set_option maxHeartbeats 4000000 in
set_option maxRecDepth 100000 in
theorem k_X12_fact_1 (l : Launch) (adK adV : Nat → Nat) (dC : Nat → ClassId) (dI : Nat → Nat → Nat) (cy : Nat → ClassId) (ad : Nat → Nat) (B : Int) (hB0 : 100000 ≤ B) (hB1 : B ≤ 1073741824) (qr : Nat) (s1 : Int)   (w0 : va_W) (sz : Nat) (hT : TW ksM ad cy B qr 12 w0) (f0_ : Int32) (cf0_ : gi w0 0 17 = f0_) (rf0_ : 0 ≤ f0_.toInt) (tf0_ : f0_.toInt ≤ 5) (f1_ : Int32) (cf1_ : gi w0 0 18 = f1_) (rf1_ : 0 ≤ f1_.toInt) (tf1_ : f1_.toInt ≤ 60) (f2_ : Int32) (cf2_ : gi w0 0 19 = f2_) (rf2_ : (-100) ≤ f2_.toInt) (tf2_ : f2_.toInt ≤ 10) (f3_ : Int32) (cf3_ : gi w0 0 22 = f3_) (rf3_ : 0 ≤ f3_.toInt) (tf3_ : f3_.toInt ≤ 400) (f4_ : Int32) (cf4_ : gi w0 3 (f0_.toInt).toNat = f4_) (rf4_ : 0 ≤ f4_.toInt) (tf4_ : f4_.toInt ≤ 400) (pr0_ : 3 * (f4_.toInt + f3_.toInt) ≤ 14 * f1_.toInt) (pr1_ : f3_.toInt ≤ f2_.toInt + f1_.toInt) (pr2_ : f4_.toInt ≤ 280) (pr3_ : f3_.toInt ≤ 280) (pr4_ : (binN w0 (f3_.toInt).toNat : Int) = f3_.toInt - f2_.toInt) : Met l yX12_fact wsX12_fact ({ frames := 8, cells := 0, slots := 0, locals := 166 }) (va_Pc [.ref (ad 0)] (wpreS adK adV dC dI cy sz w0)) (va_Qi (P_X12_fact_1 ad cy B qr s1  w0) (fun u : va_W => wpost dC dI cy (va_A w0 sz) u) (va_A w0 sz)) 0 0 (va_A w0 sz) := by
  refine Met.ofW (cc := cX12_fact) (maxL := 3) (ret := (some .boolean)) (by decide) rfl ?_
  intro p e s m args below meth c s₁ Bk hml hv
  obtain ⟨rfl, ⟨hsz, hP, hK, hD0⟩, hE, hSR⟩ := hv
  have hx := Bk.exec
  have hb := Bk.bytes
  have hr := Bk.returns
  have hlocks := Bk.notSynchronized
  have hC : CallFix p m c cX12_fact 3 s _ wsX12_fact RX12 := ⟨hx, hb, hml, findClass_of_methodNamed Bk.named, atoms_spec (ws := wsX12_fact) Bk.pre⟩
  subst hsz
  have hD := hD0.self (sz := s.heap.size)
  generalize hAe : va_A w0 s.heap.size = A at hD hE ⊢
  have hA : ∀ q : Nat, s.heap.size ≤ q → A q := fun q h => by rw [← hAe]; exact Or.inr h
  have hw : Wd dC dI A s.heap s.heap [] w0 := ⟨hP, hD, va_S.rf⟩
  have hF : FE ksM [(12, 14, 14), (12, 15, 15), (12, 16, 16), (12, 18, 18), (12, 19, 19), (12, 22, 22), (61, 0, 2400), (62, 0, 7), (68, 0, 400)] w0 w0 := FE.rf
  have hl := lv_entry ([.ref (ad 0)]) (n := 3) (Nat.le_of_ble_eq_true rfl)
  rw [lg_entry_eq]
  generalize (lg_sl ([.ref (ad 0)]) ++ List.replicate (3 - (lg_sl ([.ref (ad 0)])).length) Slot.unset).toArray = ls at hl ⊢
  have hl : lv_has ls 3 [(0, .ref (ad 0))] := hl
  generalize hloc : ([] : List Loc) = locs at hw ⊢
  have hinX12 : ∀ w ∈ u_ws RX12 TX12 42, w ∈ wsX12_fact := fun _ h => List.mem_cons_of_mem _ (List.mem_append_right _ (h))
  have L2 : ∀ (n2 : Nat) (v2_1 : Int32) (f2_0_19 : Int32) (f2_0_22 : Int32) (H : Heap) (locs : List Loc) (ls : Array Slot) (w1 : va_W), 0 ≤ v2_1.toInt → v2_1.toInt ≤ 1 → 0 ≤ f0_.toInt → f0_.toInt ≤ 5 → 0 ≤ f1_.toInt → f1_.toInt ≤ 60 → (-100) ≤ f2_0_19.toInt → f2_0_19.toInt ≤ 10 → 0 ≤ f2_0_22.toInt → f2_0_22.toInt ≤ 390 → 0 ≤ f4_.toInt → f4_.toInt ≤ 280 → ((binN w1 (f2_0_22.toInt).toNat : Int) = f2_0_22.toInt - f2_0_19.toInt) → (f4_.toInt = f4_.toInt) → (f1_.toInt = f1_.toInt) → (f2_0_22.toInt + f2_.toInt = f3_.toInt + f2_0_19.toInt) → (f2_.toInt ≤ f2_0_19.toInt) → (f4_.toInt ≤ 280) → (f2_0_22.toInt ≤ 390) → (2 * (10 - f2_0_19.toInt) + v2_1.toInt).toNat < n2 → Wd dC dI A s.heap H locs w1 → TW ksM ad cy B qr 12 w1 → FE ksM [(12, 14, 14), (12, 15, 15), (12, 16, 16), (12, 18, 18), (12, 19, 19), (12, 22, 22), (61, 0, 2400), (62, 0, 7), (68, 0, 400)] w0 w1 → gi w1 0 17 = f0_ → gi w1 0 18 = f1_ → gi w1 0 19 = f2_0_19 → gi w1 0 22 = f2_0_22 → gi w1 3 (f0_.toInt).toNat = f4_ → lv_has ls 3 [(0, .ref (ad 0)), (1, .int v2_1)] → W p l e ({ frames := 8, cells := 0, slots := 0, locals := 166 }) s m (List.toArray [.ref (ad 0)]) below meth c H locs 0 0 (MQ below (va_Qi (P_X12_fact_1 ad cy B qr s1  w0) (fun u : va_W => wpost dC dI cy A u) A) (List.toArray [.ref (ad 0)]) s 0 0 A) (F0 m 2 ls []) := by
    intro n2
    induction n2 with
    | zero => intro v2_1 f2_0_19 f2_0_22 H locs ls w1 r2 t3 r4 t5 r7 t8 r10 t11 r13 t14 r16 t17 hcr2_0 hcr2_1 hcr2_2 hcr2_3 hcr2_4 hcr2_5 hcr2_6 hm2 hw hT hF c6 c9 c12 c15 c18 hl; omega
    | succ n2 ih2 =>
      intro v2_1 f2_0_19 f2_0_22 H locs ls w1 r2 t3 r4 t5 r7 t8 r10 t11 r13 t14 r16 t17 hcr2_0 hcr2_1 hcr2_2 hcr2_3 hcr2_4 hcr2_5 hcr2_6 hm2 hw hT hF c6 c9 c12 c15 c18 hl
      have gl19 := bin_le w1 (f2_0_22.toInt).toNat
      refine lv_iload_n hx hb dX12_fact_2 rfl (lv_at hl 1 rfl) ?_
      refine lv_if_eq (tgt := 75) hx hb dX12_fact_3 (by decide) (fun c20 => ?_) (fun c20 => ?_)
      · have c20 : v2_1.toInt = (0 : Int) := wk_eq.mp c20
        refine lv_aload_n hx hb dX12_fact_75 rfl (lv_at hl 0 rfl) ?_
        refine tk_Vi hC hK hw hT hA hE hSR kM_at0 (by decide) rfl (k_X12_compare_1 l adK adV dC dI cy ad B (by omega) (by omega) qr s1    w1 H.size hT f0_ c6 (show 0 ≤ f0_.toInt by omega) (show f0_.toInt ≤ 5 by omega) f1_ c9 (show 0 ≤ f1_.toInt by omega) (show f1_.toInt ≤ 60 by omega) f4_ c18 (show 0 ≤ f4_.toInt by omega) (show f4_.toInt ≤ 400 by omega) (show 3 * f4_.toInt ≤ 14 * f1_.toInt + 30 by omega) (show f4_.toInt ≤ 290 by omega)) (cwV 0 hC.2.2.2.2 gX12_fact_X12_compare rfl rfl rfl (by decide +kernel) ⟨Nat.le_of_ble_eq_true rfl, Nat.le_of_ble_eq_true rfl⟩) rfl hl.1 rfl (Nat.le_of_ble_eq_true rfl) dX12_fact_76 (fun r21 w23 H locs hp22 hw => ?_)
        obtain ⟨hT, k24, hg45⟩ := hp22
        have gn46 : binN w23 (f2_0_22.toInt).toNat = binN w1 (f2_0_22.toInt).toNat := bin_FE _ k24 (fun _ => rfl)
        have hF := hF.tr k24 (by decide)
        have c47 := k24.gi kM_at0 (by decide) c6
        have c48 := k24.gi kM_at0 (by decide) c12
        have c49 := k24.gi kM_at0 (by decide) c15
        rcases hg45 with ⟨rfl, ⟨x25, c26, rx25, tx25⟩, ⟨x27, c28, rx27, tx27⟩, ⟨x29, c30, rx29, tx29⟩⟩ | ⟨rfl, ⟨x31, c32, rx31, tx31⟩, ⟨x33, c34, rx33, tx33⟩, ⟨x35, c36, rx35, tx35⟩⟩ | ⟨rfl, ⟨x37, c38, rx37, tx37⟩, ⟨x39, c40, rx39, tx39⟩, ⟨x41, c42, rx41, tx41⟩, g43, g44⟩
        · have ex29 : x29.toInt = f0_.toInt := by rw [← c47.symm.trans c30]
          obtain ⟨x50, c51, rx50, tx50⟩ := hT.rda (lo := 0) (hi := 400) (i := (f0_.toInt).toNat) kM_at3 rfl rfl (by omega)
          obtain ⟨x52, c53, rx52, tx52⟩ := hT.rdi (lo := 0) (hi := 60) (k := 18) kM_at0 (by decide) rfl
          exact tk_zret hC hr rfl hlocks hK ⟨hT, hF, (Or.inl ⟨rfl, ⟨x25, c26, (show 1 ≤ x25.toInt by omega), (show x25.toInt ≤ 400 by omega)⟩, ⟨x27, c28, (show 1 ≤ x27.toInt by omega), (show x27.toInt ≤ 3205 by omega)⟩, ⟨f0_, c47, (show 0 ≤ f0_.toInt by omega), (show f0_.toInt ≤ 5 by omega)⟩, ⟨f2_0_22, c49, (show 0 ≤ f2_0_22.toInt by omega), (show f2_0_22.toInt ≤ 399 by omega)⟩⟩)⟩ hw dX12_fact_79
        · have ex35 : x35.toInt = f0_.toInt := by rw [← c47.symm.trans c36]
          obtain ⟨x54, c55, rx54, tx54⟩ := hT.rda (lo := 0) (hi := 400) (i := (f0_.toInt).toNat) kM_at3 rfl rfl (by omega)
          obtain ⟨x56, c57, rx56, tx56⟩ := hT.rdi (lo := 0) (hi := 60) (k := 18) kM_at0 (by decide) rfl
          exact tk_zret hC hr rfl hlocks hK ⟨hT, hF, (Or.inr (Or.inl ⟨rfl, ⟨x31, c32, (show 0 ≤ x31.toInt by omega), (show x31.toInt ≤ 400 by omega)⟩, ⟨x33, c34, (show 1 ≤ x33.toInt by omega), (show x33.toInt ≤ 3205 by omega)⟩, ⟨f0_, c47, (show 0 ≤ f0_.toInt by omega), (show f0_.toInt ≤ 5 by omega)⟩, ⟨f2_0_22, c49, (show 0 ≤ f2_0_22.toInt by omega), (show f2_0_22.toInt ≤ 399 by omega)⟩⟩))⟩ hw dX12_fact_79
        · have ex39 : x39.toInt = f0_.toInt := by rw [← c47.symm.trans c40]
          obtain ⟨x58, c59, rx58, tx58⟩ := hT.rda (lo := 0) (hi := 400) (i := (f0_.toInt).toNat) kM_at3 rfl rfl (by omega)
          have g43 : 3 * x58.toInt + 33 ≤ 3 * f4_.toInt + 14 * (x41.toInt - f1_.toInt) := by have q := g43; simp only [c6, c47, c18, c59, c9, c42] at q; omega
          have g44 : f1_.toInt + 3 ≤ x41.toInt := by have q := g44; simp only [c6, c47, c9, c42] at q; omega
          exact tk_zret hC hr rfl hlocks hK ⟨hT, hF, (Or.inr (Or.inr ⟨rfl, ⟨x37, c38, (show 1 ≤ x37.toInt by omega), (show x37.toInt ≤ 400 by omega)⟩, ⟨f0_, c47, (show 0 ≤ f0_.toInt by omega), (show f0_.toInt ≤ 5 by omega)⟩, ⟨x41, c42, (show 1 ≤ x41.toInt by omega), (show x41.toInt ≤ 60 by omega)⟩, ⟨f2_0_22, c49, (show 0 ≤ f2_0_22.toInt by omega), (show f2_0_22.toInt ≤ 390 by omega)⟩, (by simp only [c47, cf0_, c59, c42, c49]; omega), (by simp only [c47, cf0_, c48, c42, c49]; omega), (by simp only [c47, cf0_, cf1_, c42]; omega), (by simp only [c47, cf0_, c59]; omega), (by simp only [c47, cf0_, c49]; omega), (by simp only [c47, cf0_, c48, c49]; omega)⟩))⟩ hw dX12_fact_79
      · have c20 : ¬ v2_1.toInt = (0 : Int) := wk_eqF c20
        refine lv_iconst (v := 0) hx hb dX12_fact_6 (by decide) ?_
        refine lv_istore_n (lv' := [(1, .int 0), (0, .ref (ad 0))]) hx hb dX12_fact_7 rfl hl (by decide) rfl (fun ls hl => ?_)
        refine lv_aload_n hx hb dX12_fact_8 rfl (lv_at hl 1 rfl) ?_
        obtain ⟨x60, c61, rx60, tx60⟩ := hT.rdi (lo := 0) (hi := 400) (k := 14) kM_at0 (by decide) rfl
        refine tk_Vi hC hK hw hT hA hE hSR kM_at0 (by decide) rfl (k_X12_see_1 l adK adV dC dI cy ad B (by omega) (by omega) qr s1    w1 H.size hT x60 c61 (show 0 ≤ x60.toInt by omega) (show x60.toInt ≤ 400 by omega)) (cwV 0 hC.2.2.2.2 gX12_fact_X12_see rfl rfl rfl (by decide +kernel) ⟨Nat.le_of_ble_eq_true rfl, Nat.le_of_ble_eq_true rfl⟩) rfl hl.1 rfl (Nat.le_of_ble_eq_true rfl) dX12_fact_9 (fun r62 w64 H locs hp63 hw => ?_)
        obtain ⟨hT, k65, hg82⟩ := hp63
        have gn83 : binN w64 (f2_0_22.toInt).toNat = binN w1 (f2_0_22.toInt).toNat := bin_FE _ k65 (fun _ => rfl)
        have hF := hF.tr k65 (by decide)
        have c84 := k65.gi kM_at0 (by decide) c6
        have c85 := k65.gi kM_at0 (by decide) c9
        have c86 := k65.gi kM_at0 (by decide) c12
        have c87 := k65.gi kM_at0 (by decide) c15
        have c88 := k65.gi kM_at3 rfl c18
        rcases hg82 with ⟨g66, g67, ⟨x68, c69, rx68, tx68⟩, ⟨x70, c71, rx70, tx70⟩, g72, g73⟩ | ⟨rfl, ⟨x74, c75, rx74, tx74⟩, ⟨x76, c77, rx76, tx76⟩, g78⟩ | ⟨rfl, ⟨x79, c80, rx79, tx79⟩, g81⟩
        · have g72 : (gi w64 1 (x70.toInt).toNat).toInt ≠ 32 := by have q := g72; simp only [c6, c84, c71] at q; omega
          have g73 : (x70.toInt = x60.toInt ∨ (gi w1 1 (x60.toInt).toNat).toInt = 32) := by have q := g73; simp only [c6, c84, c61, c71] at q; omega
          refine lv_istore_n (lv' := [(2, .int r62), (1, .int 0), (0, .ref (ad 0))]) hx hb dX12_fact_12 rfl hl (by decide) rfl (fun ls hl => ?_)
          refine lv_aload_n hx hb dX12_fact_13 rfl (lv_at hl 2 rfl) ?_
          refine lv_ldc2 (v := 7237492) hx hb hC.2.2.2.1 (hC.2.2.2.2 _ (List.mem_of_getElem? (i := 1) rfl)) dX12_fact_14 ?_
          refine tk_Vi hC hK hw hT hA hE hSR kM_at0 (by decide) rfl (k_X12_isWord_20 l adK adV dC dI cy ad B (by omega) (by omega) qr s1    w64 H.size hT x70 c71 (show 0 ≤ x70.toInt by omega) (show x70.toInt ≤ 400 by omega)) (cwV 1 hC.2.2.2.2 gX12_fact_X12_isWord rfl rfl rfl (by decide +kernel) ⟨Nat.le_of_ble_eq_true rfl, Nat.le_of_ble_eq_true rfl⟩) rfl hl.1 rfl (Nat.le_of_ble_eq_true rfl) dX12_fact_17 (fun r91 w93 H locs hp92 hw => ?_)
          obtain ⟨hT, k94, hg101⟩ := hp92
          have gn102 : binN w93 (f2_0_22.toInt).toNat = binN w64 (f2_0_22.toInt).toNat := bin_FE _ k94 (fun _ => rfl)
          have hF := hF.tr k94 (by decide)
          have c103 := k94.gi kM_at0 (by decide) c84
          have c104 := k94.gi kM_at0 (by decide) c85
          have c105 := k94.gi kM_at0 (by decide) c86
          have c106 := k94.gi kM_at0 (by decide) c87
          have c107 := k94.gi kM_at3 rfl c88
          have c108 := k94.gi kM_at0 (by decide) c69
          rcases hg101 with ⟨rfl, ⟨x95, c96, rx95, tx95⟩, g97⟩ | ⟨rfl, ⟨x98, c99, rx98, tx98⟩, g100⟩
          · have ex95 : x95.toInt = x68.toInt := by rw [← c108.symm.trans c96]
            obtain ⟨x109, c110, rx109, tx109⟩ := hT.rdi (lo := 0) (hi := 400) (k := 14) kM_at0 (by decide) rfl
            have g97 : (x109.toInt = x70.toInt ∨ (gi w64 1 (x70.toInt).toNat).toInt = 32) := by have q := g97; simp only [c84, c103, c71, c110] at q; omega
            refine lv_if_eq (tgt := 43) hx hb dX12_fact_20 (by decide) (fun _ => ?_) (fun c => absurd (by decide) c)
            refine lv_iload_n hx hb dX12_fact_43 rfl (lv_at hl 0 rfl) ?_
            refine lv_bipush (v := 91) hx hb dX12_fact_44 (by decide) ?_
            refine lv_icmp_ne (tgt := 72) hx hb dX12_fact_46 (by decide) (fun c113 => ?_) (fun c113 => ?_)
            · have c113 : ¬ r62.toInt = (91 : Int) := wk_eqF c113
              refine lv_goto (tgt := 2) hx hb dX12_fact_72 (by decide) ?_
              exact ih2 0 f2_0_19 f2_0_22 H locs ls w93 (by decide) (by decide) (show 0 ≤ f0_.toInt by omega) (show f0_.toInt ≤ 5 by omega) (show 0 ≤ f1_.toInt by omega) (show f1_.toInt ≤ 60 by omega) (show (-100) ≤ f2_0_19.toInt by omega) (show f2_0_19.toInt ≤ 10 by omega) (show 0 ≤ f2_0_22.toInt by omega) (show f2_0_22.toInt ≤ 390 by omega) (show 0 ≤ f4_.toInt by omega) (show f4_.toInt ≤ 280 by omega) (show (binN w93 (f2_0_22.toInt).toNat : Int) = f2_0_22.toInt - f2_0_19.toInt by omega) (show f4_.toInt = f4_.toInt by omega) (show f1_.toInt = f1_.toInt by omega) (show f2_0_22.toInt + f2_.toInt = f3_.toInt + f2_0_19.toInt by omega) (show f2_.toInt ≤ f2_0_19.toInt by omega) (show f4_.toInt ≤ 280 by omega) (show f2_0_22.toInt ≤ 390 by omega) (show (2 * (10 - f2_0_19.toInt) + (0 : Int)).toNat < n2 by omega) hw hT hF c103 c104 c105 c106 c107 (lv_sub hl [2, 1] rfl)
            · have c113 : r62.toInt = (91 : Int) := wk_eq.mp c113
              refine lv_aload_n hx hb dX12_fact_49 rfl (lv_at hl 2 rfl) ?_
              refine lv_bipush (v := 91) hx hb dX12_fact_50 (by decide) ?_
              refine tk_Vi hC hK hw hT hA hE hSR kM_at0 (by decide) rfl (k_X12_opens_2 l adK adV dC dI cy ad B (by omega) (by omega) qr s1    w93 H.size hT f2_0_19 c105 (show (-100) ≤ f2_0_19.toInt by omega) (show f2_0_19.toInt ≤ 10 by omega) f2_0_22 c106 (show 0 ≤ f2_0_22.toInt by omega) (show f2_0_22.toInt ≤ 400 by omega) (show f2_0_22.toInt ≤ 399 by omega) (show (binN w93 (f2_0_22.toInt).toNat : Int) = f2_0_22.toInt - f2_0_19.toInt by omega)) (cwV 1 hC.2.2.2.2 gX12_fact_X12_opens rfl rfl rfl (by decide +kernel) ⟨Nat.le_of_ble_eq_true rfl, Nat.le_of_ble_eq_true rfl⟩) rfl hl.1 rfl (Nat.le_of_ble_eq_true rfl) dX12_fact_52 (fun r114 w116 H locs hp115 hw => ?_)
              obtain ⟨hT, k117, hg131⟩ := hp115
              have hF := hF.tr k117 (by decide)
              have c132 := k117.gi kM_at0 (by decide) c103
              have c133 := k117.gi kM_at0 (by decide) c104
              have c134 := k117.gi kM_at3 rfl c107
              have c135 := k117.gi kM_at0 (by decide) c108
              have c136 := k117.gi kM_at0 (by decide) c110
              rcases hg131 with ⟨rfl, ⟨x118, c119, rx118, tx118⟩, ⟨x120, c121, rx120, tx120⟩, ⟨x122, c123, rx122, tx122⟩⟩ | ⟨rfl, ⟨x124, c125, rx124, tx124⟩, ⟨x126, c127, rx126, tx126⟩, g128, g129, g130⟩
              · refine lv_if_ne (tgt := 60) hx hb dX12_fact_55 (by decide) (fun c => absurd (by decide) c) (fun _ => ?_)
                refine lv_iconst (v := 0) hx hb dX12_fact_58 (by decide) ?_
                exact tk_zret hC hr rfl hlocks hK ⟨hT, hF, (Or.inl ⟨rfl, ⟨x68, c135, (show 1 ≤ x68.toInt by omega), (show x68.toInt ≤ 400 by omega)⟩, ⟨x118, c119, (show 1 ≤ x118.toInt by omega), (show x118.toInt ≤ 3205 by omega)⟩, ⟨f0_, c132, (show 0 ≤ f0_.toInt by omega), (show f0_.toInt ≤ 5 by omega)⟩, ⟨x122, c123, (show 0 ≤ x122.toInt by omega), (show x122.toInt ≤ 399 by omega)⟩⟩)⟩ hw dX12_fact_59
              · have g128 : x126.toInt = f2_0_22.toInt + 1 := by have q := g128; simp only [c103, c132, c106, c127] at q; omega
                have g129 : x124.toInt = f2_0_19.toInt + 1 := by have q := g129; simp only [c103, c132, c105, c125] at q; omega
                have g130 : (binN w116 (x126.toInt).toNat : Int) = x126.toInt - x124.toInt := by have q := g130; simp only [c103, c132, c125, c127] at q; omega
                refine lv_if_ne (tgt := 60) hx hb dX12_fact_55 (by decide) (fun _ => ?_) (fun c => absurd c (by decide))
                have g137 : x109.toInt ≤ 399 := by omega
                refine lv_aload_n hx hb dX12_fact_60 rfl (lv_at hl 2 rfl) ?_
                refine lv_dup hx hb dX12_fact_61 rfl ?_
                refine tk_geti hC hK hw hT hinX12 kM_at0 (by decide) rfl 14 (by decide) (List.mem_of_getElem? (i := 2) rfl) rfl rfl dX12_fact_62 (fun x138 c139 rx138 tx138 => ?_)
                refine wk_top x109 (c139.symm.trans c136) ?_
                refine lv_iconst (v := 1) hx hb dX12_fact_65 (by decide) ?_
                refine lv_iadd hx hb dX12_fact_66 ?_
                refine lv_topi (fun x140 ex140 => ?_)
                have ex140 : x140.toInt = x109.toInt + (1 : Int) := by rw [ex140]; exact wk_add (show (-2147483648) ≤ x109.toInt + (1 : Int) by omega) (show x109.toInt + (1 : Int) ≤ 2147483647 by omega)
                refine tk_puti hC hK hw hT hinX12 tyX12_ok nmX12 kM_at0 (by decide) rfl rfl 14 (by decide) (List.mem_of_getElem? (i := 2) rfl) rfl rfl rfl rfl (show 0 ≤ x140.toInt by omega) (show x140.toInt ≤ 400 by omega) dX12_fact_67 (fun H locs w141 hw hT k143 c142 => ?_)
                have gn144 : binN w141 (x126.toInt).toNat = binN w116 (x126.toInt).toNat := bin_F1 _ k143 (by decide)
                have hF := hF.put kM_at0 (k := 14) (by decide) k143
                have c145 := k143.gi (Or.inr (by decide)) c132
                have c146 := k143.gi (Or.inr (by decide)) c133
                have c147 := k143.gi (Or.inl (tk_ne kM_at3 kM_at0 (by decide))) c134
                have c148 := k143.gi (Or.inr (by decide)) c135
                have c149 := k143.gi (Or.inr (by decide)) c125
                have c150 := k143.gi (Or.inr (by decide)) c127
                refine lv_iconst (v := 1) hx hb dX12_fact_70 (by decide) ?_
                refine lv_istore_n (lv' := [(1, .int 1), (2, .int r62), (0, .ref (ad 0))]) hx hb dX12_fact_71 rfl hl (by decide) rfl (fun ls hl => ?_)
                refine lv_goto (tgt := 2) hx hb dX12_fact_72 (by decide) ?_
                exact ih2 1 x124 x126 H locs ls w141 (by decide) (by decide) (show 0 ≤ f0_.toInt by omega) (show f0_.toInt ≤ 5 by omega) (show 0 ≤ f1_.toInt by omega) (show f1_.toInt ≤ 60 by omega) (show (-100) ≤ x124.toInt by omega) (show x124.toInt ≤ 10 by omega) (show 0 ≤ x126.toInt by omega) (show x126.toInt ≤ 390 by omega) (show 0 ≤ f4_.toInt by omega) (show f4_.toInt ≤ 280 by omega) (show (binN w141 (x126.toInt).toNat : Int) = x126.toInt - x124.toInt by omega) (show f4_.toInt = f4_.toInt by omega) (show f1_.toInt = f1_.toInt by omega) (show x126.toInt + f2_.toInt = f3_.toInt + x124.toInt by omega) (show f2_.toInt ≤ x124.toInt by omega) (show f4_.toInt ≤ 280 by omega) (show x126.toInt ≤ 390 by omega) (show (2 * (10 - x124.toInt) + (1 : Int)).toNat < n2 by omega) hw hT hF c145 c146 c149 c150 c147 (lv_sub hl [2, 0] rfl)
          · have ex98 : x98.toInt = x68.toInt := by rw [← c108.symm.trans c99]
            obtain ⟨x111, c112, rx111, tx111⟩ := hT.rdi (lo := 0) (hi := 400) (k := 14) kM_at0 (by decide) rfl
            have g100 : (x111.toInt = x70.toInt ∨ (gi w64 1 (x70.toInt).toNat).toInt = 32) := by have q := g100; simp only [c84, c103, c71, c112] at q; omega
            refine lv_if_eq (tgt := 43) hx hb dX12_fact_20 (by decide) (fun c => absurd c (by decide)) (fun _ => ?_)
            refine lv_aload_n hx hb dX12_fact_23 rfl (lv_at hl 2 rfl) ?_
            refine lv_bipush (v := 11) hx hb dX12_fact_24 (by decide) ?_
            refine tk_Vi hC hK hw hT hA hE hSR kM_at0 (by decide) rfl (k_X12_opens_1 l adK adV dC dI cy ad B (by omega) (by omega) qr s1    w93 H.size hT f2_0_19 c105 (show (-100) ≤ f2_0_19.toInt by omega) (show f2_0_19.toInt ≤ 10 by omega) f2_0_22 c106 (show 0 ≤ f2_0_22.toInt by omega) (show f2_0_22.toInt ≤ 400 by omega) (show f2_0_22.toInt ≤ 399 by omega) (show (binN w93 (f2_0_22.toInt).toNat : Int) = f2_0_22.toInt - f2_0_19.toInt by omega)) (cwV 1 hC.2.2.2.2 gX12_fact_X12_opens rfl rfl rfl (by decide +kernel) ⟨Nat.le_of_ble_eq_true rfl, Nat.le_of_ble_eq_true rfl⟩) rfl hl.1 rfl (Nat.le_of_ble_eq_true rfl) dX12_fact_26 (fun r151 w153 H locs hp152 hw => ?_)
            obtain ⟨hT, k154, hg168⟩ := hp152
            have hF := hF.tr k154 (by decide)
            have c169 := k154.gi kM_at0 (by decide) c103
            have c170 := k154.gi kM_at0 (by decide) c104
            have c171 := k154.gi kM_at3 rfl c107
            have c172 := k154.gi kM_at0 (by decide) c108
            have c173 := k154.gi kM_at0 (by decide) c112
            rcases hg168 with ⟨rfl, ⟨x155, c156, rx155, tx155⟩, ⟨x157, c158, rx157, tx157⟩, ⟨x159, c160, rx159, tx159⟩⟩ | ⟨rfl, ⟨x161, c162, rx161, tx161⟩, ⟨x163, c164, rx163, tx163⟩, g165, g166, g167⟩
            · refine lv_if_ne (tgt := 34) hx hb dX12_fact_29 (by decide) (fun c => absurd (by decide) c) (fun _ => ?_)
              refine lv_iconst (v := 0) hx hb dX12_fact_32 (by decide) ?_
              exact tk_zret hC hr rfl hlocks hK ⟨hT, hF, (Or.inl ⟨rfl, ⟨x68, c172, (show 1 ≤ x68.toInt by omega), (show x68.toInt ≤ 400 by omega)⟩, ⟨x155, c156, (show 1 ≤ x155.toInt by omega), (show x155.toInt ≤ 3205 by omega)⟩, ⟨f0_, c169, (show 0 ≤ f0_.toInt by omega), (show f0_.toInt ≤ 5 by omega)⟩, ⟨x159, c160, (show 0 ≤ x159.toInt by omega), (show x159.toInt ≤ 399 by omega)⟩⟩)⟩ hw dX12_fact_33
            · have g165 : x163.toInt = f2_0_22.toInt + 1 := by have q := g165; simp only [c103, c169, c106, c164] at q; omega
              have g166 : x161.toInt = f2_0_19.toInt + 1 := by have q := g166; simp only [c103, c169, c105, c162] at q; omega
              have g167 : (binN w153 (x163.toInt).toNat : Int) = x163.toInt - x161.toInt := by have q := g167; simp only [c103, c169, c162, c164] at q; omega
              refine lv_if_ne (tgt := 34) hx hb dX12_fact_29 (by decide) (fun _ => ?_) (fun c => absurd c (by decide))
              refine lv_aload_n hx hb dX12_fact_34 rfl (lv_at hl 2 rfl) ?_
              refine tk_Vv hC hK hw hT hA hE hSR kM_at0 (by decide) rfl (k_X12_passWord_1 l adK adV dC dI cy ad B (by omega) (by omega) qr s1    w153 H.size hT ) (cwV 0 hC.2.2.2.2 gX12_fact_X12_passWord rfl rfl rfl (by decide +kernel) ⟨Nat.le_of_ble_eq_true rfl, Nat.le_of_ble_eq_true rfl⟩) rfl hl.1 rfl (Nat.le_of_ble_eq_true rfl) dX12_fact_35 (fun w176 H locs hp175 hw => ?_)
              obtain ⟨hT, k177, hg184⟩ := hp175
              have gn185 : binN w176 (x163.toInt).toNat = binN w153 (x163.toInt).toNat := bin_FE _ k177 (fun _ => rfl)
              have hF := hF.tr k177 (by decide)
              have c186 := k177.gi kM_at0 (by decide) c169
              have c187 := k177.gi kM_at0 (by decide) c170
              have c188 := k177.gi kM_at3 rfl c171
              have c189 := k177.gi kM_at0 (by decide) c172
              have c190 := k177.gi kM_at0 (by decide) c162
              have c191 := k177.gi kM_at0 (by decide) c164
              rcases hg184 with ⟨⟨x178, c179, rx178, tx178⟩, ⟨x180, c181, rx180, tx180⟩⟩ | ⟨x182, c183, rx182, tx182⟩
              · have ex178 : x178.toInt = x68.toInt := by rw [← c189.symm.trans c179]
                refine lv_iconst (v := 1) hx hb dX12_fact_38 (by decide) ?_
                refine lv_istore_n (lv' := [(1, .int 1), (2, .int r62), (0, .ref (ad 0))]) hx hb dX12_fact_39 rfl hl (by decide) rfl (fun ls hl => ?_)
                refine lv_goto (tgt := 72) hx hb dX12_fact_40 (by decide) ?_
                refine lv_goto (tgt := 2) hx hb dX12_fact_72 (by decide) ?_
                exact ih2 1 x161 x163 H locs ls w176 (by decide) (by decide) (show 0 ≤ f0_.toInt by omega) (show f0_.toInt ≤ 5 by omega) (show 0 ≤ f1_.toInt by omega) (show f1_.toInt ≤ 60 by omega) (show (-100) ≤ x161.toInt by omega) (show x161.toInt ≤ 10 by omega) (show 0 ≤ x163.toInt by omega) (show x163.toInt ≤ 390 by omega) (show 0 ≤ f4_.toInt by omega) (show f4_.toInt ≤ 280 by omega) (show (binN w176 (x163.toInt).toNat : Int) = x163.toInt - x161.toInt by omega) (show f4_.toInt = f4_.toInt by omega) (show f1_.toInt = f1_.toInt by omega) (show x163.toInt + f2_.toInt = f3_.toInt + x161.toInt by omega) (show f2_.toInt ≤ x161.toInt by omega) (show f4_.toInt ≤ 280 by omega) (show x163.toInt ≤ 390 by omega) (show (2 * (10 - x161.toInt) + (1 : Int)).toNat < n2 by omega) hw hT hF c186 c187 c190 c191 c188 (lv_sub hl [2, 0] rfl)
              · have ex182 : x182.toInt = x68.toInt := by rw [← c189.symm.trans c183]
                refine lv_iconst (v := 1) hx hb dX12_fact_38 (by decide) ?_
                refine lv_istore_n (lv' := [(1, .int 1), (2, .int r62), (0, .ref (ad 0))]) hx hb dX12_fact_39 rfl hl (by decide) rfl (fun ls hl => ?_)
                refine lv_goto (tgt := 72) hx hb dX12_fact_40 (by decide) ?_
                refine lv_goto (tgt := 2) hx hb dX12_fact_72 (by decide) ?_
                exact ih2 1 x161 x163 H locs ls w176 (by decide) (by decide) (show 0 ≤ f0_.toInt by omega) (show f0_.toInt ≤ 5 by omega) (show 0 ≤ f1_.toInt by omega) (show f1_.toInt ≤ 60 by omega) (show (-100) ≤ x161.toInt by omega) (show x161.toInt ≤ 10 by omega) (show 0 ≤ x163.toInt by omega) (show x163.toInt ≤ 390 by omega) (show 0 ≤ f4_.toInt by omega) (show f4_.toInt ≤ 280 by omega) (show (binN w176 (x163.toInt).toNat : Int) = x163.toInt - x161.toInt by omega) (show f4_.toInt = f4_.toInt by omega) (show f1_.toInt = f1_.toInt by omega) (show x163.toInt + f2_.toInt = f3_.toInt + x161.toInt by omega) (show f2_.toInt ≤ x161.toInt by omega) (show f4_.toInt ≤ 280 by omega) (show x163.toInt ≤ 390 by omega) (show (2 * (10 - x161.toInt) + (1 : Int)).toNat < n2 by omega) hw hT hF c186 c187 c190 c191 c188 (lv_sub hl [2, 0] rfl)
        · have g78 : (x76.toInt = x60.toInt ∨ (gi w1 1 (x60.toInt).toNat).toInt = 32) := by have q := g78; simp only [c6, c84, c61, c77] at q; omega
          refine lv_istore_n (lv' := [(2, .int (-1)), (1, .int 0), (0, .ref (ad 0))]) hx hb dX12_fact_12 rfl hl (by decide) rfl (fun ls hl => ?_)
          refine lv_aload_n hx hb dX12_fact_13 rfl (lv_at hl 2 rfl) ?_
          refine lv_ldc2 (v := 7237492) hx hb hC.2.2.2.1 (hC.2.2.2.2 _ (List.mem_of_getElem? (i := 1) rfl)) dX12_fact_14 ?_
          refine tk_Vi hC hK hw hT hA hE hSR kM_at0 (by decide) rfl (k_X12_isWord_20 l adK adV dC dI cy ad B (by omega) (by omega) qr s1    w64 H.size hT x76 c77 (show 0 ≤ x76.toInt by omega) (show x76.toInt ≤ 400 by omega)) (cwV 1 hC.2.2.2.2 gX12_fact_X12_isWord rfl rfl rfl (by decide +kernel) ⟨Nat.le_of_ble_eq_true rfl, Nat.le_of_ble_eq_true rfl⟩) rfl hl.1 rfl (Nat.le_of_ble_eq_true rfl) dX12_fact_17 (fun r192 w194 H locs hp193 hw => ?_)
          obtain ⟨hT, k195, hg202⟩ := hp193
          have gn203 : binN w194 (f2_0_22.toInt).toNat = binN w64 (f2_0_22.toInt).toNat := bin_FE _ k195 (fun _ => rfl)
          have hF := hF.tr k195 (by decide)
          have c204 := k195.gi kM_at0 (by decide) c84
          have c205 := k195.gi kM_at0 (by decide) c85
          have c206 := k195.gi kM_at0 (by decide) c86
          have c207 := k195.gi kM_at0 (by decide) c87
          have c208 := k195.gi kM_at3 rfl c88
          have c209 := k195.gi kM_at0 (by decide) c75
          rcases hg202 with ⟨rfl, ⟨x196, c197, rx196, tx196⟩, g198⟩ | ⟨rfl, ⟨x199, c200, rx199, tx199⟩, g201⟩
          · have ex196 : x196.toInt = x74.toInt := by rw [← c209.symm.trans c197]
            obtain ⟨x210, c211, rx210, tx210⟩ := hT.rdi (lo := 0) (hi := 400) (k := 14) kM_at0 (by decide) rfl
            have g198 : (x210.toInt = x76.toInt ∨ (gi w64 1 (x76.toInt).toNat).toInt = 32) := by have q := g198; simp only [c84, c204, c77, c211] at q; omega
            refine lv_if_eq (tgt := 43) hx hb dX12_fact_20 (by decide) (fun _ => ?_) (fun c => absurd (by decide) c)
            refine lv_iload_n hx hb dX12_fact_43 rfl (lv_at hl 0 rfl) ?_
            refine lv_bipush (v := 91) hx hb dX12_fact_44 (by decide) ?_
            refine lv_icmp_ne (tgt := 72) hx hb dX12_fact_46 (by decide) (fun _ => ?_) (fun c => absurd c (by decide))
            refine lv_goto (tgt := 2) hx hb dX12_fact_72 (by decide) ?_
            exact ih2 0 f2_0_19 f2_0_22 H locs ls w194 (by decide) (by decide) (show 0 ≤ f0_.toInt by omega) (show f0_.toInt ≤ 5 by omega) (show 0 ≤ f1_.toInt by omega) (show f1_.toInt ≤ 60 by omega) (show (-100) ≤ f2_0_19.toInt by omega) (show f2_0_19.toInt ≤ 10 by omega) (show 0 ≤ f2_0_22.toInt by omega) (show f2_0_22.toInt ≤ 390 by omega) (show 0 ≤ f4_.toInt by omega) (show f4_.toInt ≤ 280 by omega) (show (binN w194 (f2_0_22.toInt).toNat : Int) = f2_0_22.toInt - f2_0_19.toInt by omega) (show f4_.toInt = f4_.toInt by omega) (show f1_.toInt = f1_.toInt by omega) (show f2_0_22.toInt + f2_.toInt = f3_.toInt + f2_0_19.toInt by omega) (show f2_.toInt ≤ f2_0_19.toInt by omega) (show f4_.toInt ≤ 280 by omega) (show f2_0_22.toInt ≤ 390 by omega) (show (2 * (10 - f2_0_19.toInt) + (0 : Int)).toNat < n2 by omega) hw hT hF c204 c205 c206 c207 c208 (lv_sub hl [2, 1] rfl)
          · have ex199 : x199.toInt = x74.toInt := by rw [← c209.symm.trans c200]
            obtain ⟨x212, c213, rx212, tx212⟩ := hT.rdi (lo := 0) (hi := 400) (k := 14) kM_at0 (by decide) rfl
            have g201 : (x212.toInt = x76.toInt ∨ (gi w64 1 (x76.toInt).toNat).toInt = 32) := by have q := g201; simp only [c84, c204, c77, c213] at q; omega
            refine lv_if_eq (tgt := 43) hx hb dX12_fact_20 (by decide) (fun c => absurd c (by decide)) (fun _ => ?_)
            refine lv_aload_n hx hb dX12_fact_23 rfl (lv_at hl 2 rfl) ?_
            refine lv_bipush (v := 11) hx hb dX12_fact_24 (by decide) ?_
            refine tk_Vi hC hK hw hT hA hE hSR kM_at0 (by decide) rfl (k_X12_opens_1 l adK adV dC dI cy ad B (by omega) (by omega) qr s1    w194 H.size hT f2_0_19 c206 (show (-100) ≤ f2_0_19.toInt by omega) (show f2_0_19.toInt ≤ 10 by omega) f2_0_22 c207 (show 0 ≤ f2_0_22.toInt by omega) (show f2_0_22.toInt ≤ 400 by omega) (show f2_0_22.toInt ≤ 399 by omega) (show (binN w194 (f2_0_22.toInt).toNat : Int) = f2_0_22.toInt - f2_0_19.toInt by omega)) (cwV 1 hC.2.2.2.2 gX12_fact_X12_opens rfl rfl rfl (by decide +kernel) ⟨Nat.le_of_ble_eq_true rfl, Nat.le_of_ble_eq_true rfl⟩) rfl hl.1 rfl (Nat.le_of_ble_eq_true rfl) dX12_fact_26 (fun r214 w216 H locs hp215 hw => ?_)
            obtain ⟨hT, k217, hg231⟩ := hp215
            have hF := hF.tr k217 (by decide)
            have c232 := k217.gi kM_at0 (by decide) c204
            have c233 := k217.gi kM_at0 (by decide) c205
            have c234 := k217.gi kM_at3 rfl c208
            have c235 := k217.gi kM_at0 (by decide) c209
            have c236 := k217.gi kM_at0 (by decide) c213
            rcases hg231 with ⟨rfl, ⟨x218, c219, rx218, tx218⟩, ⟨x220, c221, rx220, tx220⟩, ⟨x222, c223, rx222, tx222⟩⟩ | ⟨rfl, ⟨x224, c225, rx224, tx224⟩, ⟨x226, c227, rx226, tx226⟩, g228, g229, g230⟩
            · refine lv_if_ne (tgt := 34) hx hb dX12_fact_29 (by decide) (fun c => absurd (by decide) c) (fun _ => ?_)
              refine lv_iconst (v := 0) hx hb dX12_fact_32 (by decide) ?_
              exact tk_zret hC hr rfl hlocks hK ⟨hT, hF, (Or.inl ⟨rfl, ⟨x74, c235, (show 1 ≤ x74.toInt by omega), (show x74.toInt ≤ 400 by omega)⟩, ⟨x218, c219, (show 1 ≤ x218.toInt by omega), (show x218.toInt ≤ 3205 by omega)⟩, ⟨f0_, c232, (show 0 ≤ f0_.toInt by omega), (show f0_.toInt ≤ 5 by omega)⟩, ⟨x222, c223, (show 0 ≤ x222.toInt by omega), (show x222.toInt ≤ 399 by omega)⟩⟩)⟩ hw dX12_fact_33
            · have g228 : x226.toInt = f2_0_22.toInt + 1 := by have q := g228; simp only [c204, c232, c207, c227] at q; omega
              have g229 : x224.toInt = f2_0_19.toInt + 1 := by have q := g229; simp only [c204, c232, c206, c225] at q; omega
              have g230 : (binN w216 (x226.toInt).toNat : Int) = x226.toInt - x224.toInt := by have q := g230; simp only [c204, c232, c225, c227] at q; omega
              refine lv_if_ne (tgt := 34) hx hb dX12_fact_29 (by decide) (fun _ => ?_) (fun c => absurd c (by decide))
              refine lv_aload_n hx hb dX12_fact_34 rfl (lv_at hl 2 rfl) ?_
              refine tk_Vv hC hK hw hT hA hE hSR kM_at0 (by decide) rfl (k_X12_passWord_1 l adK adV dC dI cy ad B (by omega) (by omega) qr s1    w216 H.size hT ) (cwV 0 hC.2.2.2.2 gX12_fact_X12_passWord rfl rfl rfl (by decide +kernel) ⟨Nat.le_of_ble_eq_true rfl, Nat.le_of_ble_eq_true rfl⟩) rfl hl.1 rfl (Nat.le_of_ble_eq_true rfl) dX12_fact_35 (fun w239 H locs hp238 hw => ?_)
              obtain ⟨hT, k240, hg247⟩ := hp238
              have gn248 : binN w239 (x226.toInt).toNat = binN w216 (x226.toInt).toNat := bin_FE _ k240 (fun _ => rfl)
              have hF := hF.tr k240 (by decide)
              have c249 := k240.gi kM_at0 (by decide) c232
              have c250 := k240.gi kM_at0 (by decide) c233
              have c251 := k240.gi kM_at3 rfl c234
              have c252 := k240.gi kM_at0 (by decide) c235
              have c253 := k240.gi kM_at0 (by decide) c225
              have c254 := k240.gi kM_at0 (by decide) c227
              rcases hg247 with ⟨⟨x241, c242, rx241, tx241⟩, ⟨x243, c244, rx243, tx243⟩⟩ | ⟨x245, c246, rx245, tx245⟩
              · have ex241 : x241.toInt = x74.toInt := by rw [← c252.symm.trans c242]
                refine lv_iconst (v := 1) hx hb dX12_fact_38 (by decide) ?_
                refine lv_istore_n (lv' := [(1, .int 1), (2, .int (-1)), (0, .ref (ad 0))]) hx hb dX12_fact_39 rfl hl (by decide) rfl (fun ls hl => ?_)
                refine lv_goto (tgt := 72) hx hb dX12_fact_40 (by decide) ?_
                refine lv_goto (tgt := 2) hx hb dX12_fact_72 (by decide) ?_
                exact ih2 1 x224 x226 H locs ls w239 (by decide) (by decide) (show 0 ≤ f0_.toInt by omega) (show f0_.toInt ≤ 5 by omega) (show 0 ≤ f1_.toInt by omega) (show f1_.toInt ≤ 60 by omega) (show (-100) ≤ x224.toInt by omega) (show x224.toInt ≤ 10 by omega) (show 0 ≤ x226.toInt by omega) (show x226.toInt ≤ 390 by omega) (show 0 ≤ f4_.toInt by omega) (show f4_.toInt ≤ 280 by omega) (show (binN w239 (x226.toInt).toNat : Int) = x226.toInt - x224.toInt by omega) (show f4_.toInt = f4_.toInt by omega) (show f1_.toInt = f1_.toInt by omega) (show x226.toInt + f2_.toInt = f3_.toInt + x224.toInt by omega) (show f2_.toInt ≤ x224.toInt by omega) (show f4_.toInt ≤ 280 by omega) (show x226.toInt ≤ 390 by omega) (show (2 * (10 - x224.toInt) + (1 : Int)).toNat < n2 by omega) hw hT hF c249 c250 c253 c254 c251 (lv_sub hl [2, 0] rfl)
              · have ex245 : x245.toInt = x74.toInt := by rw [← c252.symm.trans c246]
                refine lv_iconst (v := 1) hx hb dX12_fact_38 (by decide) ?_
                refine lv_istore_n (lv' := [(1, .int 1), (2, .int (-1)), (0, .ref (ad 0))]) hx hb dX12_fact_39 rfl hl (by decide) rfl (fun ls hl => ?_)
                refine lv_goto (tgt := 72) hx hb dX12_fact_40 (by decide) ?_
                refine lv_goto (tgt := 2) hx hb dX12_fact_72 (by decide) ?_
                exact ih2 1 x224 x226 H locs ls w239 (by decide) (by decide) (show 0 ≤ f0_.toInt by omega) (show f0_.toInt ≤ 5 by omega) (show 0 ≤ f1_.toInt by omega) (show f1_.toInt ≤ 60 by omega) (show (-100) ≤ x224.toInt by omega) (show x224.toInt ≤ 10 by omega) (show 0 ≤ x226.toInt by omega) (show x226.toInt ≤ 390 by omega) (show 0 ≤ f4_.toInt by omega) (show f4_.toInt ≤ 280 by omega) (show (binN w239 (x226.toInt).toNat : Int) = x226.toInt - x224.toInt by omega) (show f4_.toInt = f4_.toInt by omega) (show f1_.toInt = f1_.toInt by omega) (show x226.toInt + f2_.toInt = f3_.toInt + x224.toInt by omega) (show f2_.toInt ≤ x224.toInt by omega) (show f4_.toInt ≤ 280 by omega) (show x226.toInt ≤ 390 by omega) (show (2 * (10 - x224.toInt) + (1 : Int)).toNat < n2 by omega) hw hT hF c249 c250 c253 c254 c251 (lv_sub hl [2, 0] rfl)
        · obtain ⟨x89, c90, rx89, tx89⟩ := hT.rdi (lo := 0) (hi := 400) (k := 14) kM_at0 (by decide) rfl
          have g81 : (x89.toInt = x60.toInt ∨ (gi w1 1 (x60.toInt).toNat).toInt = 32) := by have q := g81; simp only [c6, c84, c61, c90] at q; omega
          refine lv_istore_n (lv' := [(2, .int (-1)), (1, .int 0), (0, .ref (ad 0))]) hx hb dX12_fact_12 rfl hl (by decide) rfl (fun ls hl => ?_)
          refine lv_aload_n hx hb dX12_fact_13 rfl (lv_at hl 2 rfl) ?_
          refine lv_ldc2 (v := 7237492) hx hb hC.2.2.2.1 (hC.2.2.2.2 _ (List.mem_of_getElem? (i := 1) rfl)) dX12_fact_14 ?_
          refine tk_Vi hC hK hw hT hA hE hSR kM_at0 (by decide) rfl (k_X12_isWord_20 l adK adV dC dI cy ad B (by omega) (by omega) qr s1    w64 H.size hT x89 c90 (show 0 ≤ x89.toInt by omega) (show x89.toInt ≤ 400 by omega)) (cwV 1 hC.2.2.2.2 gX12_fact_X12_isWord rfl rfl rfl (by decide +kernel) ⟨Nat.le_of_ble_eq_true rfl, Nat.le_of_ble_eq_true rfl⟩) rfl hl.1 rfl (Nat.le_of_ble_eq_true rfl) dX12_fact_17 (fun r255 w257 H locs hp256 hw => ?_)
          obtain ⟨hT, k258, hg265⟩ := hp256
          have gn266 : binN w257 (f2_0_22.toInt).toNat = binN w64 (f2_0_22.toInt).toNat := bin_FE _ k258 (fun _ => rfl)
          have hF := hF.tr k258 (by decide)
          have c267 := k258.gi kM_at0 (by decide) c84
          have c268 := k258.gi kM_at0 (by decide) c85
          have c269 := k258.gi kM_at0 (by decide) c86
          have c270 := k258.gi kM_at0 (by decide) c87
          have c271 := k258.gi kM_at3 rfl c88
          have c272 := k258.gi kM_at0 (by decide) c80
          rcases hg265 with ⟨rfl, ⟨x259, c260, rx259, tx259⟩, g261⟩ | ⟨rfl, ⟨x262, c263, rx262, tx262⟩, g264⟩
          · have ex259 : x259.toInt = x79.toInt := by rw [← c272.symm.trans c260]
            obtain ⟨x273, c274, rx273, tx273⟩ := hT.rdi (lo := 0) (hi := 400) (k := 14) kM_at0 (by decide) rfl
            have g261 : (x273.toInt = x89.toInt ∨ (gi w64 1 (x89.toInt).toNat).toInt = 32) := by have q := g261; simp only [c84, c267, c90, c274] at q; omega
            refine lv_if_eq (tgt := 43) hx hb dX12_fact_20 (by decide) (fun _ => ?_) (fun c => absurd (by decide) c)
            refine lv_iload_n hx hb dX12_fact_43 rfl (lv_at hl 0 rfl) ?_
            refine lv_bipush (v := 91) hx hb dX12_fact_44 (by decide) ?_
            refine lv_icmp_ne (tgt := 72) hx hb dX12_fact_46 (by decide) (fun _ => ?_) (fun c => absurd c (by decide))
            refine lv_goto (tgt := 2) hx hb dX12_fact_72 (by decide) ?_
            exact ih2 0 f2_0_19 f2_0_22 H locs ls w257 (by decide) (by decide) (show 0 ≤ f0_.toInt by omega) (show f0_.toInt ≤ 5 by omega) (show 0 ≤ f1_.toInt by omega) (show f1_.toInt ≤ 60 by omega) (show (-100) ≤ f2_0_19.toInt by omega) (show f2_0_19.toInt ≤ 10 by omega) (show 0 ≤ f2_0_22.toInt by omega) (show f2_0_22.toInt ≤ 390 by omega) (show 0 ≤ f4_.toInt by omega) (show f4_.toInt ≤ 280 by omega) (show (binN w257 (f2_0_22.toInt).toNat : Int) = f2_0_22.toInt - f2_0_19.toInt by omega) (show f4_.toInt = f4_.toInt by omega) (show f1_.toInt = f1_.toInt by omega) (show f2_0_22.toInt + f2_.toInt = f3_.toInt + f2_0_19.toInt by omega) (show f2_.toInt ≤ f2_0_19.toInt by omega) (show f4_.toInt ≤ 280 by omega) (show f2_0_22.toInt ≤ 390 by omega) (show (2 * (10 - f2_0_19.toInt) + (0 : Int)).toNat < n2 by omega) hw hT hF c267 c268 c269 c270 c271 (lv_sub hl [2, 1] rfl)
          · have ex262 : x262.toInt = x79.toInt := by rw [← c272.symm.trans c263]
            obtain ⟨x275, c276, rx275, tx275⟩ := hT.rdi (lo := 0) (hi := 400) (k := 14) kM_at0 (by decide) rfl
            have g264 : (x275.toInt = x89.toInt ∨ (gi w64 1 (x89.toInt).toNat).toInt = 32) := by have q := g264; simp only [c84, c267, c90, c276] at q; omega
            refine lv_if_eq (tgt := 43) hx hb dX12_fact_20 (by decide) (fun c => absurd c (by decide)) (fun _ => ?_)
            refine lv_aload_n hx hb dX12_fact_23 rfl (lv_at hl 2 rfl) ?_
            refine lv_bipush (v := 11) hx hb dX12_fact_24 (by decide) ?_
            refine tk_Vi hC hK hw hT hA hE hSR kM_at0 (by decide) rfl (k_X12_opens_1 l adK adV dC dI cy ad B (by omega) (by omega) qr s1    w257 H.size hT f2_0_19 c269 (show (-100) ≤ f2_0_19.toInt by omega) (show f2_0_19.toInt ≤ 10 by omega) f2_0_22 c270 (show 0 ≤ f2_0_22.toInt by omega) (show f2_0_22.toInt ≤ 400 by omega) (show f2_0_22.toInt ≤ 399 by omega) (show (binN w257 (f2_0_22.toInt).toNat : Int) = f2_0_22.toInt - f2_0_19.toInt by omega)) (cwV 1 hC.2.2.2.2 gX12_fact_X12_opens rfl rfl rfl (by decide +kernel) ⟨Nat.le_of_ble_eq_true rfl, Nat.le_of_ble_eq_true rfl⟩) rfl hl.1 rfl (Nat.le_of_ble_eq_true rfl) dX12_fact_26 (fun r277 w279 H locs hp278 hw => ?_)
            obtain ⟨hT, k280, hg294⟩ := hp278
            have hF := hF.tr k280 (by decide)
            have c295 := k280.gi kM_at0 (by decide) c267
            have c296 := k280.gi kM_at0 (by decide) c268
            have c297 := k280.gi kM_at3 rfl c271
            have c298 := k280.gi kM_at0 (by decide) c272
            have c299 := k280.gi kM_at0 (by decide) c276
            rcases hg294 with ⟨rfl, ⟨x281, c282, rx281, tx281⟩, ⟨x283, c284, rx283, tx283⟩, ⟨x285, c286, rx285, tx285⟩⟩ | ⟨rfl, ⟨x287, c288, rx287, tx287⟩, ⟨x289, c290, rx289, tx289⟩, g291, g292, g293⟩
            · refine lv_if_ne (tgt := 34) hx hb dX12_fact_29 (by decide) (fun c => absurd (by decide) c) (fun _ => ?_)
              refine lv_iconst (v := 0) hx hb dX12_fact_32 (by decide) ?_
              exact tk_zret hC hr rfl hlocks hK ⟨hT, hF, (Or.inr (Or.inl ⟨rfl, ⟨x79, c298, (show 0 ≤ x79.toInt by omega), (show x79.toInt ≤ 400 by omega)⟩, ⟨x281, c282, (show 1 ≤ x281.toInt by omega), (show x281.toInt ≤ 3205 by omega)⟩, ⟨f0_, c295, (show 0 ≤ f0_.toInt by omega), (show f0_.toInt ≤ 5 by omega)⟩, ⟨x285, c286, (show 0 ≤ x285.toInt by omega), (show x285.toInt ≤ 399 by omega)⟩⟩))⟩ hw dX12_fact_33
            · have g291 : x289.toInt = f2_0_22.toInt + 1 := by have q := g291; simp only [c267, c295, c270, c290] at q; omega
              have g292 : x287.toInt = f2_0_19.toInt + 1 := by have q := g292; simp only [c267, c295, c269, c288] at q; omega
              have g293 : (binN w279 (x289.toInt).toNat : Int) = x289.toInt - x287.toInt := by have q := g293; simp only [c267, c295, c288, c290] at q; omega
              refine lv_if_ne (tgt := 34) hx hb dX12_fact_29 (by decide) (fun _ => ?_) (fun c => absurd c (by decide))
              refine lv_aload_n hx hb dX12_fact_34 rfl (lv_at hl 2 rfl) ?_
              refine tk_Vv hC hK hw hT hA hE hSR kM_at0 (by decide) rfl (k_X12_passWord_1 l adK adV dC dI cy ad B (by omega) (by omega) qr s1    w279 H.size hT ) (cwV 0 hC.2.2.2.2 gX12_fact_X12_passWord rfl rfl rfl (by decide +kernel) ⟨Nat.le_of_ble_eq_true rfl, Nat.le_of_ble_eq_true rfl⟩) rfl hl.1 rfl (Nat.le_of_ble_eq_true rfl) dX12_fact_35 (fun w302 H locs hp301 hw => ?_)
              obtain ⟨hT, k303, hg310⟩ := hp301
              have gn311 : binN w302 (x289.toInt).toNat = binN w279 (x289.toInt).toNat := bin_FE _ k303 (fun _ => rfl)
              have hF := hF.tr k303 (by decide)
              have c312 := k303.gi kM_at0 (by decide) c295
              have c313 := k303.gi kM_at0 (by decide) c296
              have c314 := k303.gi kM_at3 rfl c297
              have c315 := k303.gi kM_at0 (by decide) c298
              have c316 := k303.gi kM_at0 (by decide) c288
              have c317 := k303.gi kM_at0 (by decide) c290
              rcases hg310 with ⟨⟨x304, c305, rx304, tx304⟩, ⟨x306, c307, rx306, tx306⟩⟩ | ⟨x308, c309, rx308, tx308⟩
              · have ex304 : x304.toInt = x79.toInt := by rw [← c315.symm.trans c305]
                refine lv_iconst (v := 1) hx hb dX12_fact_38 (by decide) ?_
                refine lv_istore_n (lv' := [(1, .int 1), (2, .int (-1)), (0, .ref (ad 0))]) hx hb dX12_fact_39 rfl hl (by decide) rfl (fun ls hl => ?_)
                refine lv_goto (tgt := 72) hx hb dX12_fact_40 (by decide) ?_
                refine lv_goto (tgt := 2) hx hb dX12_fact_72 (by decide) ?_
                exact ih2 1 x287 x289 H locs ls w302 (by decide) (by decide) (show 0 ≤ f0_.toInt by omega) (show f0_.toInt ≤ 5 by omega) (show 0 ≤ f1_.toInt by omega) (show f1_.toInt ≤ 60 by omega) (show (-100) ≤ x287.toInt by omega) (show x287.toInt ≤ 10 by omega) (show 0 ≤ x289.toInt by omega) (show x289.toInt ≤ 390 by omega) (show 0 ≤ f4_.toInt by omega) (show f4_.toInt ≤ 280 by omega) (show (binN w302 (x289.toInt).toNat : Int) = x289.toInt - x287.toInt by omega) (show f4_.toInt = f4_.toInt by omega) (show f1_.toInt = f1_.toInt by omega) (show x289.toInt + f2_.toInt = f3_.toInt + x287.toInt by omega) (show f2_.toInt ≤ x287.toInt by omega) (show f4_.toInt ≤ 280 by omega) (show x289.toInt ≤ 390 by omega) (show (2 * (10 - x287.toInt) + (1 : Int)).toNat < n2 by omega) hw hT hF c312 c313 c316 c317 c314 (lv_sub hl [2, 0] rfl)
              · have ex308 : x308.toInt = x79.toInt := by rw [← c315.symm.trans c309]
                refine lv_iconst (v := 1) hx hb dX12_fact_38 (by decide) ?_
                refine lv_istore_n (lv' := [(1, .int 1), (2, .int (-1)), (0, .ref (ad 0))]) hx hb dX12_fact_39 rfl hl (by decide) rfl (fun ls hl => ?_)
                refine lv_goto (tgt := 72) hx hb dX12_fact_40 (by decide) ?_
                refine lv_goto (tgt := 2) hx hb dX12_fact_72 (by decide) ?_
                exact ih2 1 x287 x289 H locs ls w302 (by decide) (by decide) (show 0 ≤ f0_.toInt by omega) (show f0_.toInt ≤ 5 by omega) (show 0 ≤ f1_.toInt by omega) (show f1_.toInt ≤ 60 by omega) (show (-100) ≤ x287.toInt by omega) (show x287.toInt ≤ 10 by omega) (show 0 ≤ x289.toInt by omega) (show x289.toInt ≤ 390 by omega) (show 0 ≤ f4_.toInt by omega) (show f4_.toInt ≤ 280 by omega) (show (binN w302 (x289.toInt).toNat : Int) = x289.toInt - x287.toInt by omega) (show f4_.toInt = f4_.toInt by omega) (show f1_.toInt = f1_.toInt by omega) (show x289.toInt + f2_.toInt = f3_.toInt + x287.toInt by omega) (show f2_.toInt ≤ x287.toInt by omega) (show f4_.toInt ≤ 280 by omega) (show x289.toInt ≤ 390 by omega) (show (2 * (10 - x287.toInt) + (1 : Int)).toNat < n2 by omega) hw hT hF c312 c313 c316 c317 c314 (lv_sub hl [2, 0] rfl)
  have gl318 := bin_le w0 (f3_.toInt).toNat
  refine lv_iconst (v := 1) hx hb dX12_fact_0 (by decide) ?_
  refine lv_istore_n (lv' := [(1, .int 1), (0, .ref (ad 0))]) hx hb dX12_fact_1 rfl hl (by decide) rfl (fun ls hl => ?_)
  exact L2 ((2 * (10 - f2_.toInt) + (1 : Int)).toNat + 1) 1 f2_ f3_ s.heap locs ls w0 (by decide) (by decide) (show 0 ≤ f0_.toInt by omega) (show f0_.toInt ≤ 5 by omega) (show 0 ≤ f1_.toInt by omega) (show f1_.toInt ≤ 60 by omega) (show (-100) ≤ f2_.toInt by omega) (show f2_.toInt ≤ 10 by omega) (show 0 ≤ f3_.toInt by omega) (show f3_.toInt ≤ 390 by omega) (show 0 ≤ f4_.toInt by omega) (show f4_.toInt ≤ 280 by omega) (show (binN w0 (f3_.toInt).toNat : Int) = f3_.toInt - f2_.toInt by omega) (show f4_.toInt = f4_.toInt by omega) (show f1_.toInt = f1_.toInt by omega) (show f3_.toInt + f2_.toInt = f3_.toInt + f2_.toInt by omega) (show f2_.toInt ≤ f2_.toInt by omega) (show f4_.toInt ≤ 280 by omega) (show f3_.toInt ≤ 390 by omega) (Nat.lt_succ_self _) hw hT hF cf0_ cf1_ cf2_ cf3_ cf4_ (lv_sub hl [1, 0] rfl)
abbrev P_X12_isWord_21 (ad : Nat → Nat) (cy : Nat → ClassId) (B : Int) (qr : Nat) (s1 : Int)  (w0 : va_W) : Int32 → va_W → Prop := fun r u => TW ksM ad cy B qr 12 u ∧ FE ksM [(12, 14, 14)] w0 u ∧ ((r = 0 ∧ (∃ y : Int32, gi u 0 1 = y ∧ 0 ≤ y.toInt ∧ y.toInt ≤ 400) ∧ (((gi u 0 14).toInt = (gi w0 0 14).toInt ∨ (gi w0 1 ((gi w0 0 14).toInt).toNat).toInt = 32))) ∨ (r = 1 ∧ (∃ y : Int32, gi u 0 1 = y ∧ 0 ≤ y.toInt ∧ y.toInt ≤ 400) ∧ (((gi u 0 14).toInt = (gi w0 0 14).toInt ∨ (gi w0 1 ((gi w0 0 14).toInt).toNat).toInt = 32))))
set_option maxHeartbeats 4000000 in
set_option maxRecDepth 100000 in
theorem k_X12_isWord_21 (l : Launch) (adK adV : Nat → Nat) (dC : Nat → ClassId) (dI : Nat → Nat → Nat) (cy : Nat → ClassId) (ad : Nat → Nat) (B : Int) (hB0 : 100000 ≤ B) (hB1 : B ≤ 1073741824) (qr : Nat) (s1 : Int)   (w0 : va_W) (sz : Nat) (hT : TW ksM ad cy B qr 12 w0) (f0_ : Int32) (cf0_ : gi w0 0 14 = f0_) (rf0_ : 0 ≤ f0_.toInt) (tf0_ : f0_.toInt ≤ 400) : Met l yX12_isWord wsX12_isWord ({ frames := 2, cells := 0, slots := 0, locals := 33 }) (va_Pc [.ref (ad 0), .long 28530] (wpreS adK adV dC dI cy sz w0)) (va_Qi (P_X12_isWord_21 ad cy B qr s1  w0) (fun u : va_W => wpost dC dI cy (va_A w0 sz) u) (va_A w0 sz)) 0 0 (va_A w0 sz) := by
  refine Met.ofW (cc := cX12_isWord) (maxL := 6) (ret := (some .boolean)) (by decide) rfl ?_
  intro p e s m args below meth c s₁ Bk hml hv
  obtain ⟨rfl, ⟨hsz, hP, hK, hD0⟩, hE, hSR⟩ := hv
  have hx := Bk.exec
  have hb := Bk.bytes
  have hr := Bk.returns
  have hlocks := Bk.notSynchronized
  have hC : CallFix p m c cX12_isWord 6 s _ wsX12_isWord RX12 := ⟨hx, hb, hml, findClass_of_methodNamed Bk.named, atoms_spec (ws := wsX12_isWord) Bk.pre⟩
  subst hsz
  have hD := hD0.self (sz := s.heap.size)
  generalize hAe : va_A w0 s.heap.size = A at hD hE ⊢
  have hA : ∀ q : Nat, s.heap.size ≤ q → A q := fun q h => by rw [← hAe]; exact Or.inr h
  have hw : Wd dC dI A s.heap s.heap [] w0 := ⟨hP, hD, va_S.rf⟩
  have hF : FE ksM [(12, 14, 14)] w0 w0 := FE.rf
  have hl := lv_entry ([.ref (ad 0), .long 28530]) (n := 6) (Nat.le_of_ble_eq_true rfl)
  rw [lg_entry_eq]
  generalize (lg_sl ([.ref (ad 0), .long 28530]) ++ List.replicate (6 - (lg_sl ([.ref (ad 0), .long 28530])).length) Slot.unset).toArray = ls at hl ⊢
  have hl : lv_has ls 6 [(0, .ref (ad 0)), (1, .long 28530)] := hl
  generalize hloc : ([] : List Loc) = locs at hw ⊢
  have hinX12 : ∀ w ∈ u_ws RX12 TX12 42, w ∈ wsX12_isWord := fun _ h => List.mem_cons_of_mem _ (List.mem_append_right _ (h))
  have J78 : ∀ (v78_3 : Int64) (v78_5 : Int32) (f78_0_1 : Int32) (f78_0_14 : Int32) (H : Heap) (locs : List Loc) (ls : Array Slot) (w1 : va_W), 0 ≤ v78_5.toInt → v78_5.toInt ≤ 400 → 0 ≤ f78_0_1.toInt → f78_0_1.toInt ≤ 400 → 0 ≤ f78_0_14.toInt → f78_0_14.toInt ≤ 400 → ((f78_0_14.toInt = f0_.toInt ∨ (gi w0 1 (f0_.toInt).toNat).toInt = 32)) → Wd dC dI A s.heap H locs w1 → TW ksM ad cy B qr 12 w1 → FE ksM [(12, 14, 14)] w0 w1 → gi w1 0 1 = f78_0_1 → gi w1 0 14 = f78_0_14 → lv_has ls 6 [(0, .ref (ad 0)), (1, .long 28530), (3, .long v78_3), (5, .int v78_5)] → W p l e ({ frames := 2, cells := 0, slots := 0, locals := 33 }) s m (List.toArray [.ref (ad 0), .long 28530]) below meth c H locs 0 0 (MQ below (va_Qi (P_X12_isWord_21 ad cy B qr s1  w0) (fun u : va_W => wpost dC dI cy A u) A) (List.toArray [.ref (ad 0), .long 28530]) s 0 0 A) (F0 m 78 ls []) := by
    intro v78_3 v78_5 f78_0_1 f78_0_14 H locs ls w1 r2 t3 r4 t5 r7 t8 hcr78_0 hw hT hF c6 c9 hl
    refine lv_iconst (v := 0) hx hb dX12_isWord_78 (by decide) ?_
    exact tk_zret hC hr rfl hlocks hK ⟨hT, hF, (Or.inl ⟨rfl, ⟨f78_0_1, c6, (show 0 ≤ f78_0_1.toInt by omega), (show f78_0_1.toInt ≤ 400 by omega)⟩, (by simp only [cf0_, c9]; omega)⟩)⟩ hw dX12_isWord_79
  have L10 : ∀ (n10 : Nat) (v10_3 : Int64) (v10_5 : Int32) (f10_0_1 : Int32) (f10_0_14 : Int32) (H : Heap) (locs : List Loc) (ls : Array Slot) (w10 : va_W), 0 ≤ v10_5.toInt → v10_5.toInt ≤ 400 → 0 ≤ f10_0_1.toInt → f10_0_1.toInt ≤ 400 → 0 ≤ f10_0_14.toInt → f10_0_14.toInt ≤ 400 → ((f10_0_14.toInt = f0_.toInt ∨ (gi w0 1 (f0_.toInt).toNat).toInt = 32)) → (400 - v10_5.toInt).toNat < n10 → Wd dC dI A s.heap H locs w10 → TW ksM ad cy B qr 12 w10 → FE ksM [(12, 14, 14)] w0 w10 → gi w10 0 1 = f10_0_1 → gi w10 0 14 = f10_0_14 → lv_has ls 6 [(0, .ref (ad 0)), (1, .long 28530), (3, .long v10_3), (5, .int v10_5)] → W p l e ({ frames := 2, cells := 0, slots := 0, locals := 33 }) s m (List.toArray [.ref (ad 0), .long 28530]) below meth c H locs 0 0 (MQ below (va_Qi (P_X12_isWord_21 ad cy B qr s1  w0) (fun u : va_W => wpost dC dI cy A u) A) (List.toArray [.ref (ad 0), .long 28530]) s 0 0 A) (F0 m 10 ls []) := by
    intro n10
    induction n10 with
    | zero => intro v10_3 v10_5 f10_0_1 f10_0_14 H locs ls w10 r11 t12 r13 t14 r16 t17 hcr10_0 hm10 hw hT hF c15 c18 hl; omega
    | succ n10 ih10 =>
      intro v10_3 v10_5 f10_0_1 f10_0_14 H locs ls w10 r11 t12 r13 t14 r16 t17 hcr10_0 hm10 hw hT hF c15 c18 hl
      have J50 : ∀ (v50_3 : Int64) (H : Heap) (locs : List Loc) (ls : Array Slot) (w19 : va_W), 0 ≤ v10_5.toInt → v10_5.toInt ≤ 399 → 1 ≤ f10_0_1.toInt → f10_0_1.toInt ≤ 400 → 0 ≤ f10_0_14.toInt → f10_0_14.toInt ≤ 399 → ((f10_0_14.toInt = f0_.toInt ∨ (gi w0 1 (f0_.toInt).toNat).toInt = 32)) → Wd dC dI A s.heap H locs w19 → TW ksM ad cy B qr 12 w19 → FE ksM [(12, 14, 14)] w0 w19 → gi w19 0 1 = f10_0_1 → gi w19 0 14 = f10_0_14 → lv_has ls 6 [(0, .ref (ad 0)), (1, .long 28530), (3, .long v50_3), (5, .int v10_5)] → W p l e ({ frames := 2, cells := 0, slots := 0, locals := 33 }) s m (List.toArray [.ref (ad 0), .long 28530]) below meth c H locs 0 0 (MQ below (va_Qi (P_X12_isWord_21 ad cy B qr s1  w0) (fun u : va_W => wpost dC dI cy A u) A) (List.toArray [.ref (ad 0), .long 28530]) s 0 0 A) (F0 m 50 ls []) := by
        intro v50_3 H locs ls w19 r20 t21 r22 t23 r25 t26 hcr50_0 hw hT hF c24 c27 hl
        obtain ⟨x28, ex28⟩ : ∃ y : Int32, y = v10_5 + Int32.ofInt 1 := ⟨_, rfl⟩
        refine lv_iinc (v := x28) (lv' := [(5, .int x28), (0, .ref (ad 0)), (1, .long 28530), (3, .long v50_3)]) hx hb dX12_isWord_50 hl (k := 3) rfl ex28.symm (by decide) rfl (fun ls hl => ?_)
        have ex28 : x28.toInt = v10_5.toInt + 1 := by rw [ex28]; exact wk_add (y := 1) (show -2147483648 ≤ v10_5.toInt + 1 by omega) (show v10_5.toInt + 1 ≤ 2147483647 by omega)
        refine lv_goto (tgt := 10) hx hb dX12_isWord_53 (by decide) ?_
        exact ih10 v50_3 x28 f10_0_1 f10_0_14 H locs ls w19 (show 0 ≤ x28.toInt by omega) (show x28.toInt ≤ 400 by omega) (show 0 ≤ f10_0_1.toInt by omega) (show f10_0_1.toInt ≤ 400 by omega) (show 0 ≤ f10_0_14.toInt by omega) (show f10_0_14.toInt ≤ 400 by omega) (show (f10_0_14.toInt = f0_.toInt ∨ (gi w0 1 (f0_.toInt).toNat).toInt = 32) by first | omega | assumption | (left; omega) | (left; decide) | (right; assumption)) (show (400 - x28.toInt).toNat < n10 by omega) hw hT hF c24 c27 (lv_sub hl [1, 2, 3, 0] rfl)
      refine lv_aload_n hx hb dX12_isWord_10 rfl (lv_at hl 0 rfl) ?_
      refine lv_aload_n hx hb dX12_isWord_11 rfl (lv_at hl 0 rfl) ?_
      refine tk_geti hC hK hw hT hinX12 kM_at0 (by decide) rfl 14 (by decide) (List.mem_of_getElem? (i := 1) rfl) rfl rfl dX12_isWord_12 (fun x29 c30 rx29 tx29 => ?_)
      refine wk_top f10_0_14 (c30.symm.trans c18) ?_
      refine lv_iload hx hb dX12_isWord_15 (lv_at hl 3 rfl) ?_
      refine lv_iadd hx hb dX12_isWord_17 ?_
      refine lv_topi (fun x31 ex31 => ?_)
      have ex31 : x31.toInt = f10_0_14.toInt + v10_5.toInt := by rw [ex31]; exact wk_add (show (-2147483648) ≤ f10_0_14.toInt + v10_5.toInt by omega) (show f10_0_14.toInt + v10_5.toInt ≤ 2147483647 by omega)
      refine tk_Vi hC hK hw hT hA hE hSR kM_at0 (by decide) rfl (k_X12_isLetter_1 l adK adV dC dI cy ad B (by omega) (by omega) qr s1   x31 (show 0 ≤ x31.toInt by omega) (show x31.toInt ≤ 800 by omega) w10 H.size hT ) (cwV 1 hC.2.2.2.2 gX12_isWord_X12_isLetter rfl rfl rfl (by decide +kernel) ⟨Nat.le_of_ble_eq_true rfl, Nat.le_of_ble_eq_true rfl⟩) rfl hl.1 rfl (Nat.le_of_ble_eq_true rfl) dX12_isWord_18 (fun r32 w34 H locs hp33 hw => ?_)
      obtain ⟨rfl, hg41⟩ := hp33
      rcases hg41 with ⟨rfl, ⟨x36, c37, rx36, tx36⟩⟩ | ⟨rfl, g38, ⟨x39, c40, rx39, tx39⟩⟩
      · have ex36 : x36.toInt = f10_0_1.toInt := by rw [← c15.symm.trans c37]
        refine lv_if_eq (tgt := 56) hx hb dX12_isWord_21 (by decide) (fun _ => ?_) (fun c => absurd (by decide) c)
        refine lv_iload hx hb dX12_isWord_56 (lv_at hl 3 rfl) ?_
        refine lv_if_le (tgt := 78) hx hb dX12_isWord_58 (by decide) (fun c42 => ?_) (fun c42 => ?_)
        · have c42 : v10_5.toInt ≤ (0 : Int) := wk_le.mp c42
          exact J78 v10_3 v10_5 f10_0_1 f10_0_14 H locs ls w10 (show 0 ≤ v10_5.toInt by omega) (show v10_5.toInt ≤ 400 by omega) (show 0 ≤ f10_0_1.toInt by omega) (show f10_0_1.toInt ≤ 400 by omega) (show 0 ≤ f10_0_14.toInt by omega) (show f10_0_14.toInt ≤ 400 by omega) (show (f10_0_14.toInt = f0_.toInt ∨ (gi w0 1 (f0_.toInt).toNat).toInt = 32) by first | omega | assumption | (left; omega) | (left; decide) | (right; assumption))  hw hT hF c15 c18 (lv_sub hl [0, 1, 2, 3] rfl)
        · have c42 : (0 : Int) < v10_5.toInt := wk_leF c42
          refine lv_iload hx hb dX12_isWord_61 (lv_at hl 3 rfl) ?_
          refine lv_bipush (v := 8) hx hb dX12_isWord_63 (by decide) ?_
          refine lv_icmp_ge (tgt := 78) hx hb dX12_isWord_65 (by decide) (fun c43 => ?_) (fun c43 => ?_)
          · have c43 : (8 : Int) ≤ v10_5.toInt := wk_le.mp c43
            exact J78 v10_3 v10_5 f10_0_1 f10_0_14 H locs ls w10 (show 0 ≤ v10_5.toInt by omega) (show v10_5.toInt ≤ 400 by omega) (show 0 ≤ f10_0_1.toInt by omega) (show f10_0_1.toInt ≤ 400 by omega) (show 0 ≤ f10_0_14.toInt by omega) (show f10_0_14.toInt ≤ 400 by omega) (show (f10_0_14.toInt = f0_.toInt ∨ (gi w0 1 (f0_.toInt).toNat).toInt = 32) by first | omega | assumption | (left; omega) | (left; decide) | (right; assumption))  hw hT hF c15 c18 (lv_sub hl [0, 1, 2, 3] rfl)
          · have c43 : v10_5.toInt < (8 : Int) := wk_leF c43
            refine lv_lload_n hx hb dX12_isWord_68 rfl (lv_at hl 2 rfl) ?_
            refine lv_lload_n hx hb dX12_isWord_69 rfl (lv_at hl 1 rfl) ?_
            refine W.lcmp hx hb dX12_isWord_70 ?_
            refine lv_if_ne (tgt := 78) hx hb dX12_isWord_71 (by decide) (fun c44 => ?_) (fun c44 => ?_)
            · have c44 : ¬ v10_3.toInt = (28530 : Int) := wk_ceF c44
              exact J78 v10_3 v10_5 f10_0_1 f10_0_14 H locs ls w10 (show 0 ≤ v10_5.toInt by omega) (show v10_5.toInt ≤ 400 by omega) (show 0 ≤ f10_0_1.toInt by omega) (show f10_0_1.toInt ≤ 400 by omega) (show 0 ≤ f10_0_14.toInt by omega) (show f10_0_14.toInt ≤ 400 by omega) (show (f10_0_14.toInt = f0_.toInt ∨ (gi w0 1 (f0_.toInt).toNat).toInt = 32) by first | omega | assumption | (left; omega) | (left; decide) | (right; assumption))  hw hT hF c15 c18 (lv_sub hl [0, 1, 2, 3] rfl)
            · have c44 : v10_3.toInt = (28530 : Int) := wk_ceT c44
              refine lv_iconst (v := 1) hx hb dX12_isWord_74 (by decide) ?_
              refine lv_goto (tgt := 79) hx hb dX12_isWord_75 (by decide) ?_
              exact tk_zret hC hr rfl hlocks hK ⟨hT, hF, (Or.inr ⟨rfl, ⟨f10_0_1, c15, (show 0 ≤ f10_0_1.toInt by omega), (show f10_0_1.toInt ≤ 400 by omega)⟩, (by simp only [cf0_, c18]; omega)⟩)⟩ hw dX12_isWord_79
      · have ex39 : x39.toInt = f10_0_1.toInt := by rw [← c15.symm.trans c40]
        refine lv_if_eq (tgt := 56) hx hb dX12_isWord_21 (by decide) (fun c => absurd c (by decide)) (fun _ => ?_)
        refine lv_iload hx hb dX12_isWord_24 (lv_at hl 3 rfl) ?_
        refine lv_bipush (v := 8) hx hb dX12_isWord_26 (by decide) ?_
        refine lv_icmp_ge (tgt := 50) hx hb dX12_isWord_28 (by decide) (fun c45 => ?_) (fun c45 => ?_)
        · have c45 : (8 : Int) ≤ v10_5.toInt := wk_le.mp c45
          exact J50 v10_3 H locs ls w10 (show 0 ≤ v10_5.toInt by omega) (show v10_5.toInt ≤ 399 by omega) (show 1 ≤ f10_0_1.toInt by omega) (show f10_0_1.toInt ≤ 400 by omega) (show 0 ≤ f10_0_14.toInt by omega) (show f10_0_14.toInt ≤ 399 by omega) (show (f10_0_14.toInt = f0_.toInt ∨ (gi w0 1 (f0_.toInt).toNat).toInt = 32) by first | omega | assumption | (left; omega) | (left; decide) | (right; assumption))  hw hT hF c15 c18 (lv_sub hl [0, 1, 2, 3] rfl)
        · have c45 : v10_5.toInt < (8 : Int) := wk_leF c45
          refine lv_lload_n hx hb dX12_isWord_31 rfl (lv_at hl 2 rfl) ?_
          refine lv_bipush (v := 8) hx hb dX12_isWord_32 (by decide) ?_
          refine lv_lshl hx hb dX12_isWord_34 rfl ?_
          refine lv_topl (fun x46 ex46 => ?_)
          refine lv_aload_n hx hb dX12_isWord_35 rfl (lv_at hl 0 rfl) ?_
          refine tk_getA hC hK hw hT hinX12 kM_at0 (by decide) rfl 0 (by decide) (List.mem_of_getElem? (i := 2) rfl) rfl rfl dX12_isWord_36 ?_
          refine lv_aload_n hx hb dX12_isWord_39 rfl (lv_at hl 0 rfl) ?_
          refine tk_geti hC hK hw hT hinX12 kM_at0 (by decide) rfl 14 (by decide) (List.mem_of_getElem? (i := 1) rfl) rfl rfl dX12_isWord_40 (fun x47 c48 rx47 tx47 => ?_)
          refine wk_top f10_0_14 (c48.symm.trans c18) ?_
          refine lv_iload hx hb dX12_isWord_43 (lv_at hl 3 rfl) ?_
          refine lv_iadd hx hb dX12_isWord_45 ?_
          refine lv_topi (fun x49 ex49 => ?_)
          have ex49 : x49.toInt = f10_0_14.toInt + v10_5.toInt := by rw [ex49]; exact wk_add (show (-2147483648) ≤ f10_0_14.toInt + v10_5.toInt by omega) (show f10_0_14.toInt + v10_5.toInt ≤ 2147483647 by omega)
          refine tk_bald hC hK hw hT kM_at1 rfl rfl (show 0 ≤ x49.toInt by omega) (show x49.toInt < 400 by omega) dX12_isWord_46 (fun x50 c51 rx50 tx50 => ?_)
          have c51 : gi w10 1 (1 * f10_0_14.toInt + 1 * v10_5.toInt + 0).toNat = x50 := (congrArg (gi w10 1) (congrArg Int.toNat (show 1 * f10_0_14.toInt + 1 * v10_5.toInt + 0 = x49.toInt by omega))).trans c51
          refine lv_i2l hx hb dX12_isWord_47 rfl ?_
          refine lv_topl (fun x52 ex52 => ?_)
          have ex52 : x52.toInt = x50.toInt := by rw [ex52]; exact wk_i2l _
          have bx52 := wk_i32 x50
          refine lv_lor hx hb dX12_isWord_48 ?_
          refine lv_topl (fun x53 ex53 => ?_)
          refine lv_lstore_n (lv' := [(3, .long x53), (0, .ref (ad 0)), (1, .long 28530), (5, .int v10_5)]) hx hb dX12_isWord_49 rfl hl (by decide) rfl (fun ls hl => ?_)
          exact J50 x53 H locs ls w10 (show 0 ≤ v10_5.toInt by omega) (show v10_5.toInt ≤ 399 by omega) (show 1 ≤ f10_0_1.toInt by omega) (show f10_0_1.toInt ≤ 400 by omega) (show 0 ≤ f10_0_14.toInt by omega) (show f10_0_14.toInt ≤ 399 by omega) (show (f10_0_14.toInt = f0_.toInt ∨ (gi w0 1 (f0_.toInt).toNat).toInt = 32) by first | omega | assumption | (left; omega) | (left; decide) | (right; assumption) | (right; rw [c51]; omega) | (right; rw [c51]; decide))  hw hT hF c15 c18 (lv_sub hl [1, 2, 0, 3] rfl)
  refine lv_aload_n hx hb dX12_isWord_0 rfl (lv_at hl 0 rfl) ?_
  refine tk_Vi hC hK hw hT hA hE hSR kM_at0 (by decide) rfl (k_X12_see_1 l adK adV dC dI cy ad B (by omega) (by omega) qr s1    w0 s.heap.size hT f0_ cf0_ (show 0 ≤ f0_.toInt by omega) (show f0_.toInt ≤ 400 by omega)) (cwV 0 hC.2.2.2.2 gX12_isWord_X12_see rfl rfl rfl (by decide +kernel) ⟨Nat.le_of_ble_eq_true rfl, Nat.le_of_ble_eq_true rfl⟩) rfl hl.1 rfl (Nat.le_of_ble_eq_true rfl) dX12_isWord_1 (fun r54 w56 H locs hp55 hw => ?_)
  obtain ⟨hT, k57, hg74⟩ := hp55
  have hF := hF.tr k57 (by decide)
  rcases hg74 with ⟨g58, g59, ⟨x60, c61, rx60, tx60⟩, ⟨x62, c63, rx62, tx62⟩, g64, g65⟩ | ⟨rfl, ⟨x66, c67, rx66, tx66⟩, ⟨x68, c69, rx68, tx68⟩, g70⟩ | ⟨rfl, ⟨x71, c72, rx71, tx71⟩, g73⟩
  · have g64 : (gi w56 1 (x62.toInt).toNat).toInt ≠ 32 := by have q := g64; simp only [c63] at q; omega
    have g65 : (x62.toInt = f0_.toInt ∨ (gi w0 1 (f0_.toInt).toNat).toInt = 32) := by have q := g65; simp only [cf0_, c63] at q; omega
    refine lv_pop hx hb dX12_isWord_4 rfl ?_
    refine lv_lconst (v := 0) hx hb dX12_isWord_5 (by decide) ?_
    refine lv_lstore_n (lv' := [(3, .long 0), (0, .ref (ad 0)), (1, .long 28530)]) hx hb dX12_isWord_6 rfl hl (by decide) rfl (fun ls hl => ?_)
    refine lv_iconst (v := 0) hx hb dX12_isWord_7 (by decide) ?_
    refine lv_istore (lv' := [(5, .int 0), (3, .long 0), (0, .ref (ad 0)), (1, .long 28530)]) hx hb dX12_isWord_8 hl (by decide) rfl (fun ls hl => ?_)
    exact L10 ((400 - (0 : Int)).toNat + 1) 0 0 x60 x62 H locs ls w56 (by decide) (by decide) (show 0 ≤ x60.toInt by omega) (show x60.toInt ≤ 400 by omega) (show 0 ≤ x62.toInt by omega) (show x62.toInt ≤ 400 by omega) (show (x62.toInt = f0_.toInt ∨ (gi w0 1 (f0_.toInt).toNat).toInt = 32) by first | omega | assumption | (left; omega) | (left; decide) | (right; assumption)) (Nat.lt_succ_self _) hw hT hF c61 c63 (lv_sub hl [2, 3, 1, 0] rfl)
  · have g70 : (x68.toInt = f0_.toInt ∨ (gi w0 1 (f0_.toInt).toNat).toInt = 32) := by have q := g70; simp only [cf0_, c69] at q; omega
    refine lv_pop hx hb dX12_isWord_4 rfl ?_
    refine lv_lconst (v := 0) hx hb dX12_isWord_5 (by decide) ?_
    refine lv_lstore_n (lv' := [(3, .long 0), (0, .ref (ad 0)), (1, .long 28530)]) hx hb dX12_isWord_6 rfl hl (by decide) rfl (fun ls hl => ?_)
    refine lv_iconst (v := 0) hx hb dX12_isWord_7 (by decide) ?_
    refine lv_istore (lv' := [(5, .int 0), (3, .long 0), (0, .ref (ad 0)), (1, .long 28530)]) hx hb dX12_isWord_8 hl (by decide) rfl (fun ls hl => ?_)
    exact L10 ((400 - (0 : Int)).toNat + 1) 0 0 x66 x68 H locs ls w56 (by decide) (by decide) (show 0 ≤ x66.toInt by omega) (show x66.toInt ≤ 400 by omega) (show 0 ≤ x68.toInt by omega) (show x68.toInt ≤ 400 by omega) (show (x68.toInt = f0_.toInt ∨ (gi w0 1 (f0_.toInt).toNat).toInt = 32) by first | omega | assumption | (left; omega) | (left; decide) | (right; assumption)) (Nat.lt_succ_self _) hw hT hF c67 c69 (lv_sub hl [2, 3, 1, 0] rfl)
  · obtain ⟨x75, c76, rx75, tx75⟩ := hT.rdi (lo := 0) (hi := 400) (k := 14) kM_at0 (by decide) rfl
    have g73 : (x75.toInt = f0_.toInt ∨ (gi w0 1 (f0_.toInt).toNat).toInt = 32) := by have q := g73; simp only [cf0_, c76] at q; omega
    refine lv_pop hx hb dX12_isWord_4 rfl ?_
    refine lv_lconst (v := 0) hx hb dX12_isWord_5 (by decide) ?_
    refine lv_lstore_n (lv' := [(3, .long 0), (0, .ref (ad 0)), (1, .long 28530)]) hx hb dX12_isWord_6 rfl hl (by decide) rfl (fun ls hl => ?_)
    refine lv_iconst (v := 0) hx hb dX12_isWord_7 (by decide) ?_
    refine lv_istore (lv' := [(5, .int 0), (3, .long 0), (0, .ref (ad 0)), (1, .long 28530)]) hx hb dX12_isWord_8 hl (by decide) rfl (fun ls hl => ?_)
    exact L10 ((400 - (0 : Int)).toNat + 1) 0 0 x71 x75 H locs ls w56 (by decide) (by decide) (show 0 ≤ x71.toInt by omega) (show x71.toInt ≤ 400 by omega) (show 0 ≤ x75.toInt by omega) (show x75.toInt ≤ 400 by omega) (show (x75.toInt = f0_.toInt ∨ (gi w0 1 (f0_.toInt).toNat).toInt = 32) by first | omega | assumption | (left; omega) | (left; decide) | (right; assumption)) (Nat.lt_succ_self _) hw hT hF c72 c76 (lv_sub hl [2, 3, 1, 0] rfl)
abbrev P_X12_isWord_22 (ad : Nat → Nat) (cy : Nat → ClassId) (B : Int) (qr : Nat) (s1 : Int)  (w0 : va_W) : Int32 → va_W → Prop := fun r u => TW ksM ad cy B qr 12 u ∧ FE ksM [(12, 14, 14)] w0 u ∧ ((r = 0 ∧ (∃ y : Int32, gi u 0 1 = y ∧ 0 ≤ y.toInt ∧ y.toInt ≤ 400) ∧ (((gi u 0 14).toInt = (gi w0 0 14).toInt ∨ (gi w0 1 ((gi w0 0 14).toInt).toNat).toInt = 32))) ∨ (r = 1 ∧ (∃ y : Int32, gi u 0 1 = y ∧ 0 ≤ y.toInt ∧ y.toInt ≤ 400) ∧ (((gi u 0 14).toInt = (gi w0 0 14).toInt ∨ (gi w0 1 ((gi w0 0 14).toInt).toNat).toInt = 32))))
set_option maxHeartbeats 4000000 in
set_option maxRecDepth 100000 in
theorem k_X12_isWord_22 (l : Launch) (adK adV : Nat → Nat) (dC : Nat → ClassId) (dI : Nat → Nat → Nat) (cy : Nat → ClassId) (ad : Nat → Nat) (B : Int) (hB0 : 100000 ≤ B) (hB1 : B ≤ 1073741824) (qr : Nat) (s1 : Int)   (w0 : va_W) (sz : Nat) (hT : TW ksM ad cy B qr 12 w0) (f0_ : Int32) (cf0_ : gi w0 0 14 = f0_) (rf0_ : 0 ≤ f0_.toInt) (tf0_ : f0_.toInt ≤ 400) : Met l yX12_isWord wsX12_isWord ({ frames := 2, cells := 0, slots := 0, locals := 33 }) (va_Pc [.ref (ad 0), .long 6385252] (wpreS adK adV dC dI cy sz w0)) (va_Qi (P_X12_isWord_22 ad cy B qr s1  w0) (fun u : va_W => wpost dC dI cy (va_A w0 sz) u) (va_A w0 sz)) 0 0 (va_A w0 sz) := by
  refine Met.ofW (cc := cX12_isWord) (maxL := 6) (ret := (some .boolean)) (by decide) rfl ?_
  intro p e s m args below meth c s₁ Bk hml hv
  obtain ⟨rfl, ⟨hsz, hP, hK, hD0⟩, hE, hSR⟩ := hv
  have hx := Bk.exec
  have hb := Bk.bytes
  have hr := Bk.returns
  have hlocks := Bk.notSynchronized
  have hC : CallFix p m c cX12_isWord 6 s _ wsX12_isWord RX12 := ⟨hx, hb, hml, findClass_of_methodNamed Bk.named, atoms_spec (ws := wsX12_isWord) Bk.pre⟩
  subst hsz
  have hD := hD0.self (sz := s.heap.size)
  generalize hAe : va_A w0 s.heap.size = A at hD hE ⊢
  have hA : ∀ q : Nat, s.heap.size ≤ q → A q := fun q h => by rw [← hAe]; exact Or.inr h
  have hw : Wd dC dI A s.heap s.heap [] w0 := ⟨hP, hD, va_S.rf⟩
  have hF : FE ksM [(12, 14, 14)] w0 w0 := FE.rf
  have hl := lv_entry ([.ref (ad 0), .long 6385252]) (n := 6) (Nat.le_of_ble_eq_true rfl)
  rw [lg_entry_eq]
  generalize (lg_sl ([.ref (ad 0), .long 6385252]) ++ List.replicate (6 - (lg_sl ([.ref (ad 0), .long 6385252])).length) Slot.unset).toArray = ls at hl ⊢
  have hl : lv_has ls 6 [(0, .ref (ad 0)), (1, .long 6385252)] := hl
  generalize hloc : ([] : List Loc) = locs at hw ⊢
  have hinX12 : ∀ w ∈ u_ws RX12 TX12 42, w ∈ wsX12_isWord := fun _ h => List.mem_cons_of_mem _ (List.mem_append_right _ (h))
  have J78 : ∀ (v78_3 : Int64) (v78_5 : Int32) (f78_0_1 : Int32) (f78_0_14 : Int32) (H : Heap) (locs : List Loc) (ls : Array Slot) (w1 : va_W), 0 ≤ v78_5.toInt → v78_5.toInt ≤ 400 → 0 ≤ f78_0_1.toInt → f78_0_1.toInt ≤ 400 → 0 ≤ f78_0_14.toInt → f78_0_14.toInt ≤ 400 → ((f78_0_14.toInt = f0_.toInt ∨ (gi w0 1 (f0_.toInt).toNat).toInt = 32)) → Wd dC dI A s.heap H locs w1 → TW ksM ad cy B qr 12 w1 → FE ksM [(12, 14, 14)] w0 w1 → gi w1 0 1 = f78_0_1 → gi w1 0 14 = f78_0_14 → lv_has ls 6 [(0, .ref (ad 0)), (1, .long 6385252), (3, .long v78_3), (5, .int v78_5)] → W p l e ({ frames := 2, cells := 0, slots := 0, locals := 33 }) s m (List.toArray [.ref (ad 0), .long 6385252]) below meth c H locs 0 0 (MQ below (va_Qi (P_X12_isWord_22 ad cy B qr s1  w0) (fun u : va_W => wpost dC dI cy A u) A) (List.toArray [.ref (ad 0), .long 6385252]) s 0 0 A) (F0 m 78 ls []) := by
    intro v78_3 v78_5 f78_0_1 f78_0_14 H locs ls w1 r2 t3 r4 t5 r7 t8 hcr78_0 hw hT hF c6 c9 hl
    refine lv_iconst (v := 0) hx hb dX12_isWord_78 (by decide) ?_
    exact tk_zret hC hr rfl hlocks hK ⟨hT, hF, (Or.inl ⟨rfl, ⟨f78_0_1, c6, (show 0 ≤ f78_0_1.toInt by omega), (show f78_0_1.toInt ≤ 400 by omega)⟩, (by simp only [cf0_, c9]; omega)⟩)⟩ hw dX12_isWord_79
  have L10 : ∀ (n10 : Nat) (v10_3 : Int64) (v10_5 : Int32) (f10_0_1 : Int32) (f10_0_14 : Int32) (H : Heap) (locs : List Loc) (ls : Array Slot) (w10 : va_W), 0 ≤ v10_5.toInt → v10_5.toInt ≤ 400 → 0 ≤ f10_0_1.toInt → f10_0_1.toInt ≤ 400 → 0 ≤ f10_0_14.toInt → f10_0_14.toInt ≤ 400 → ((f10_0_14.toInt = f0_.toInt ∨ (gi w0 1 (f0_.toInt).toNat).toInt = 32)) → (400 - v10_5.toInt).toNat < n10 → Wd dC dI A s.heap H locs w10 → TW ksM ad cy B qr 12 w10 → FE ksM [(12, 14, 14)] w0 w10 → gi w10 0 1 = f10_0_1 → gi w10 0 14 = f10_0_14 → lv_has ls 6 [(0, .ref (ad 0)), (1, .long 6385252), (3, .long v10_3), (5, .int v10_5)] → W p l e ({ frames := 2, cells := 0, slots := 0, locals := 33 }) s m (List.toArray [.ref (ad 0), .long 6385252]) below meth c H locs 0 0 (MQ below (va_Qi (P_X12_isWord_22 ad cy B qr s1  w0) (fun u : va_W => wpost dC dI cy A u) A) (List.toArray [.ref (ad 0), .long 6385252]) s 0 0 A) (F0 m 10 ls []) := by
    intro n10
    induction n10 with
    | zero => intro v10_3 v10_5 f10_0_1 f10_0_14 H locs ls w10 r11 t12 r13 t14 r16 t17 hcr10_0 hm10 hw hT hF c15 c18 hl; omega
    | succ n10 ih10 =>
      intro v10_3 v10_5 f10_0_1 f10_0_14 H locs ls w10 r11 t12 r13 t14 r16 t17 hcr10_0 hm10 hw hT hF c15 c18 hl
      have J50 : ∀ (v50_3 : Int64) (H : Heap) (locs : List Loc) (ls : Array Slot) (w19 : va_W), 0 ≤ v10_5.toInt → v10_5.toInt ≤ 399 → 1 ≤ f10_0_1.toInt → f10_0_1.toInt ≤ 400 → 0 ≤ f10_0_14.toInt → f10_0_14.toInt ≤ 399 → ((f10_0_14.toInt = f0_.toInt ∨ (gi w0 1 (f0_.toInt).toNat).toInt = 32)) → Wd dC dI A s.heap H locs w19 → TW ksM ad cy B qr 12 w19 → FE ksM [(12, 14, 14)] w0 w19 → gi w19 0 1 = f10_0_1 → gi w19 0 14 = f10_0_14 → lv_has ls 6 [(0, .ref (ad 0)), (1, .long 6385252), (3, .long v50_3), (5, .int v10_5)] → W p l e ({ frames := 2, cells := 0, slots := 0, locals := 33 }) s m (List.toArray [.ref (ad 0), .long 6385252]) below meth c H locs 0 0 (MQ below (va_Qi (P_X12_isWord_22 ad cy B qr s1  w0) (fun u : va_W => wpost dC dI cy A u) A) (List.toArray [.ref (ad 0), .long 6385252]) s 0 0 A) (F0 m 50 ls []) := by
        intro v50_3 H locs ls w19 r20 t21 r22 t23 r25 t26 hcr50_0 hw hT hF c24 c27 hl
        obtain ⟨x28, ex28⟩ : ∃ y : Int32, y = v10_5 + Int32.ofInt 1 := ⟨_, rfl⟩
        refine lv_iinc (v := x28) (lv' := [(5, .int x28), (0, .ref (ad 0)), (1, .long 6385252), (3, .long v50_3)]) hx hb dX12_isWord_50 hl (k := 3) rfl ex28.symm (by decide) rfl (fun ls hl => ?_)
        have ex28 : x28.toInt = v10_5.toInt + 1 := by rw [ex28]; exact wk_add (y := 1) (show -2147483648 ≤ v10_5.toInt + 1 by omega) (show v10_5.toInt + 1 ≤ 2147483647 by omega)
        refine lv_goto (tgt := 10) hx hb dX12_isWord_53 (by decide) ?_
        exact ih10 v50_3 x28 f10_0_1 f10_0_14 H locs ls w19 (show 0 ≤ x28.toInt by omega) (show x28.toInt ≤ 400 by omega) (show 0 ≤ f10_0_1.toInt by omega) (show f10_0_1.toInt ≤ 400 by omega) (show 0 ≤ f10_0_14.toInt by omega) (show f10_0_14.toInt ≤ 400 by omega) (show (f10_0_14.toInt = f0_.toInt ∨ (gi w0 1 (f0_.toInt).toNat).toInt = 32) by first | omega | assumption | (left; omega) | (left; decide) | (right; assumption)) (show (400 - x28.toInt).toNat < n10 by omega) hw hT hF c24 c27 (lv_sub hl [1, 2, 3, 0] rfl)
      refine lv_aload_n hx hb dX12_isWord_10 rfl (lv_at hl 0 rfl) ?_
      refine lv_aload_n hx hb dX12_isWord_11 rfl (lv_at hl 0 rfl) ?_
      refine tk_geti hC hK hw hT hinX12 kM_at0 (by decide) rfl 14 (by decide) (List.mem_of_getElem? (i := 1) rfl) rfl rfl dX12_isWord_12 (fun x29 c30 rx29 tx29 => ?_)
      refine wk_top f10_0_14 (c30.symm.trans c18) ?_
      refine lv_iload hx hb dX12_isWord_15 (lv_at hl 3 rfl) ?_
      refine lv_iadd hx hb dX12_isWord_17 ?_
      refine lv_topi (fun x31 ex31 => ?_)
      have ex31 : x31.toInt = f10_0_14.toInt + v10_5.toInt := by rw [ex31]; exact wk_add (show (-2147483648) ≤ f10_0_14.toInt + v10_5.toInt by omega) (show f10_0_14.toInt + v10_5.toInt ≤ 2147483647 by omega)
      refine tk_Vi hC hK hw hT hA hE hSR kM_at0 (by decide) rfl (k_X12_isLetter_1 l adK adV dC dI cy ad B (by omega) (by omega) qr s1   x31 (show 0 ≤ x31.toInt by omega) (show x31.toInt ≤ 800 by omega) w10 H.size hT ) (cwV 1 hC.2.2.2.2 gX12_isWord_X12_isLetter rfl rfl rfl (by decide +kernel) ⟨Nat.le_of_ble_eq_true rfl, Nat.le_of_ble_eq_true rfl⟩) rfl hl.1 rfl (Nat.le_of_ble_eq_true rfl) dX12_isWord_18 (fun r32 w34 H locs hp33 hw => ?_)
      obtain ⟨rfl, hg41⟩ := hp33
      rcases hg41 with ⟨rfl, ⟨x36, c37, rx36, tx36⟩⟩ | ⟨rfl, g38, ⟨x39, c40, rx39, tx39⟩⟩
      · have ex36 : x36.toInt = f10_0_1.toInt := by rw [← c15.symm.trans c37]
        refine lv_if_eq (tgt := 56) hx hb dX12_isWord_21 (by decide) (fun _ => ?_) (fun c => absurd (by decide) c)
        refine lv_iload hx hb dX12_isWord_56 (lv_at hl 3 rfl) ?_
        refine lv_if_le (tgt := 78) hx hb dX12_isWord_58 (by decide) (fun c42 => ?_) (fun c42 => ?_)
        · have c42 : v10_5.toInt ≤ (0 : Int) := wk_le.mp c42
          exact J78 v10_3 v10_5 f10_0_1 f10_0_14 H locs ls w10 (show 0 ≤ v10_5.toInt by omega) (show v10_5.toInt ≤ 400 by omega) (show 0 ≤ f10_0_1.toInt by omega) (show f10_0_1.toInt ≤ 400 by omega) (show 0 ≤ f10_0_14.toInt by omega) (show f10_0_14.toInt ≤ 400 by omega) (show (f10_0_14.toInt = f0_.toInt ∨ (gi w0 1 (f0_.toInt).toNat).toInt = 32) by first | omega | assumption | (left; omega) | (left; decide) | (right; assumption))  hw hT hF c15 c18 (lv_sub hl [0, 1, 2, 3] rfl)
        · have c42 : (0 : Int) < v10_5.toInt := wk_leF c42
          refine lv_iload hx hb dX12_isWord_61 (lv_at hl 3 rfl) ?_
          refine lv_bipush (v := 8) hx hb dX12_isWord_63 (by decide) ?_
          refine lv_icmp_ge (tgt := 78) hx hb dX12_isWord_65 (by decide) (fun c43 => ?_) (fun c43 => ?_)
          · have c43 : (8 : Int) ≤ v10_5.toInt := wk_le.mp c43
            exact J78 v10_3 v10_5 f10_0_1 f10_0_14 H locs ls w10 (show 0 ≤ v10_5.toInt by omega) (show v10_5.toInt ≤ 400 by omega) (show 0 ≤ f10_0_1.toInt by omega) (show f10_0_1.toInt ≤ 400 by omega) (show 0 ≤ f10_0_14.toInt by omega) (show f10_0_14.toInt ≤ 400 by omega) (show (f10_0_14.toInt = f0_.toInt ∨ (gi w0 1 (f0_.toInt).toNat).toInt = 32) by first | omega | assumption | (left; omega) | (left; decide) | (right; assumption))  hw hT hF c15 c18 (lv_sub hl [0, 1, 2, 3] rfl)
          · have c43 : v10_5.toInt < (8 : Int) := wk_leF c43
            refine lv_lload_n hx hb dX12_isWord_68 rfl (lv_at hl 2 rfl) ?_
            refine lv_lload_n hx hb dX12_isWord_69 rfl (lv_at hl 1 rfl) ?_
            refine W.lcmp hx hb dX12_isWord_70 ?_
            refine lv_if_ne (tgt := 78) hx hb dX12_isWord_71 (by decide) (fun c44 => ?_) (fun c44 => ?_)
            · have c44 : ¬ v10_3.toInt = (6385252 : Int) := wk_ceF c44
              exact J78 v10_3 v10_5 f10_0_1 f10_0_14 H locs ls w10 (show 0 ≤ v10_5.toInt by omega) (show v10_5.toInt ≤ 400 by omega) (show 0 ≤ f10_0_1.toInt by omega) (show f10_0_1.toInt ≤ 400 by omega) (show 0 ≤ f10_0_14.toInt by omega) (show f10_0_14.toInt ≤ 400 by omega) (show (f10_0_14.toInt = f0_.toInt ∨ (gi w0 1 (f0_.toInt).toNat).toInt = 32) by first | omega | assumption | (left; omega) | (left; decide) | (right; assumption))  hw hT hF c15 c18 (lv_sub hl [0, 1, 2, 3] rfl)
            · have c44 : v10_3.toInt = (6385252 : Int) := wk_ceT c44
              refine lv_iconst (v := 1) hx hb dX12_isWord_74 (by decide) ?_
              refine lv_goto (tgt := 79) hx hb dX12_isWord_75 (by decide) ?_
              exact tk_zret hC hr rfl hlocks hK ⟨hT, hF, (Or.inr ⟨rfl, ⟨f10_0_1, c15, (show 0 ≤ f10_0_1.toInt by omega), (show f10_0_1.toInt ≤ 400 by omega)⟩, (by simp only [cf0_, c18]; omega)⟩)⟩ hw dX12_isWord_79
      · have ex39 : x39.toInt = f10_0_1.toInt := by rw [← c15.symm.trans c40]
        refine lv_if_eq (tgt := 56) hx hb dX12_isWord_21 (by decide) (fun c => absurd c (by decide)) (fun _ => ?_)
        refine lv_iload hx hb dX12_isWord_24 (lv_at hl 3 rfl) ?_
        refine lv_bipush (v := 8) hx hb dX12_isWord_26 (by decide) ?_
        refine lv_icmp_ge (tgt := 50) hx hb dX12_isWord_28 (by decide) (fun c45 => ?_) (fun c45 => ?_)
        · have c45 : (8 : Int) ≤ v10_5.toInt := wk_le.mp c45
          exact J50 v10_3 H locs ls w10 (show 0 ≤ v10_5.toInt by omega) (show v10_5.toInt ≤ 399 by omega) (show 1 ≤ f10_0_1.toInt by omega) (show f10_0_1.toInt ≤ 400 by omega) (show 0 ≤ f10_0_14.toInt by omega) (show f10_0_14.toInt ≤ 399 by omega) (show (f10_0_14.toInt = f0_.toInt ∨ (gi w0 1 (f0_.toInt).toNat).toInt = 32) by first | omega | assumption | (left; omega) | (left; decide) | (right; assumption))  hw hT hF c15 c18 (lv_sub hl [0, 1, 2, 3] rfl)
        · have c45 : v10_5.toInt < (8 : Int) := wk_leF c45
          refine lv_lload_n hx hb dX12_isWord_31 rfl (lv_at hl 2 rfl) ?_
          refine lv_bipush (v := 8) hx hb dX12_isWord_32 (by decide) ?_
          refine lv_lshl hx hb dX12_isWord_34 rfl ?_
          refine lv_topl (fun x46 ex46 => ?_)
          refine lv_aload_n hx hb dX12_isWord_35 rfl (lv_at hl 0 rfl) ?_
          refine tk_getA hC hK hw hT hinX12 kM_at0 (by decide) rfl 0 (by decide) (List.mem_of_getElem? (i := 2) rfl) rfl rfl dX12_isWord_36 ?_
          refine lv_aload_n hx hb dX12_isWord_39 rfl (lv_at hl 0 rfl) ?_
          refine tk_geti hC hK hw hT hinX12 kM_at0 (by decide) rfl 14 (by decide) (List.mem_of_getElem? (i := 1) rfl) rfl rfl dX12_isWord_40 (fun x47 c48 rx47 tx47 => ?_)
          refine wk_top f10_0_14 (c48.symm.trans c18) ?_
          refine lv_iload hx hb dX12_isWord_43 (lv_at hl 3 rfl) ?_
          refine lv_iadd hx hb dX12_isWord_45 ?_
          refine lv_topi (fun x49 ex49 => ?_)
          have ex49 : x49.toInt = f10_0_14.toInt + v10_5.toInt := by rw [ex49]; exact wk_add (show (-2147483648) ≤ f10_0_14.toInt + v10_5.toInt by omega) (show f10_0_14.toInt + v10_5.toInt ≤ 2147483647 by omega)
          refine tk_bald hC hK hw hT kM_at1 rfl rfl (show 0 ≤ x49.toInt by omega) (show x49.toInt < 400 by omega) dX12_isWord_46 (fun x50 c51 rx50 tx50 => ?_)
          have c51 : gi w10 1 (1 * f10_0_14.toInt + 1 * v10_5.toInt + 0).toNat = x50 := (congrArg (gi w10 1) (congrArg Int.toNat (show 1 * f10_0_14.toInt + 1 * v10_5.toInt + 0 = x49.toInt by omega))).trans c51
          refine lv_i2l hx hb dX12_isWord_47 rfl ?_
          refine lv_topl (fun x52 ex52 => ?_)
          have ex52 : x52.toInt = x50.toInt := by rw [ex52]; exact wk_i2l _
          have bx52 := wk_i32 x50
          refine lv_lor hx hb dX12_isWord_48 ?_
          refine lv_topl (fun x53 ex53 => ?_)
          refine lv_lstore_n (lv' := [(3, .long x53), (0, .ref (ad 0)), (1, .long 6385252), (5, .int v10_5)]) hx hb dX12_isWord_49 rfl hl (by decide) rfl (fun ls hl => ?_)
          exact J50 x53 H locs ls w10 (show 0 ≤ v10_5.toInt by omega) (show v10_5.toInt ≤ 399 by omega) (show 1 ≤ f10_0_1.toInt by omega) (show f10_0_1.toInt ≤ 400 by omega) (show 0 ≤ f10_0_14.toInt by omega) (show f10_0_14.toInt ≤ 399 by omega) (show (f10_0_14.toInt = f0_.toInt ∨ (gi w0 1 (f0_.toInt).toNat).toInt = 32) by first | omega | assumption | (left; omega) | (left; decide) | (right; assumption) | (right; rw [c51]; omega) | (right; rw [c51]; decide))  hw hT hF c15 c18 (lv_sub hl [1, 2, 0, 3] rfl)
  refine lv_aload_n hx hb dX12_isWord_0 rfl (lv_at hl 0 rfl) ?_
  refine tk_Vi hC hK hw hT hA hE hSR kM_at0 (by decide) rfl (k_X12_see_1 l adK adV dC dI cy ad B (by omega) (by omega) qr s1    w0 s.heap.size hT f0_ cf0_ (show 0 ≤ f0_.toInt by omega) (show f0_.toInt ≤ 400 by omega)) (cwV 0 hC.2.2.2.2 gX12_isWord_X12_see rfl rfl rfl (by decide +kernel) ⟨Nat.le_of_ble_eq_true rfl, Nat.le_of_ble_eq_true rfl⟩) rfl hl.1 rfl (Nat.le_of_ble_eq_true rfl) dX12_isWord_1 (fun r54 w56 H locs hp55 hw => ?_)
  obtain ⟨hT, k57, hg74⟩ := hp55
  have hF := hF.tr k57 (by decide)
  rcases hg74 with ⟨g58, g59, ⟨x60, c61, rx60, tx60⟩, ⟨x62, c63, rx62, tx62⟩, g64, g65⟩ | ⟨rfl, ⟨x66, c67, rx66, tx66⟩, ⟨x68, c69, rx68, tx68⟩, g70⟩ | ⟨rfl, ⟨x71, c72, rx71, tx71⟩, g73⟩
  · have g64 : (gi w56 1 (x62.toInt).toNat).toInt ≠ 32 := by have q := g64; simp only [c63] at q; omega
    have g65 : (x62.toInt = f0_.toInt ∨ (gi w0 1 (f0_.toInt).toNat).toInt = 32) := by have q := g65; simp only [cf0_, c63] at q; omega
    refine lv_pop hx hb dX12_isWord_4 rfl ?_
    refine lv_lconst (v := 0) hx hb dX12_isWord_5 (by decide) ?_
    refine lv_lstore_n (lv' := [(3, .long 0), (0, .ref (ad 0)), (1, .long 6385252)]) hx hb dX12_isWord_6 rfl hl (by decide) rfl (fun ls hl => ?_)
    refine lv_iconst (v := 0) hx hb dX12_isWord_7 (by decide) ?_
    refine lv_istore (lv' := [(5, .int 0), (3, .long 0), (0, .ref (ad 0)), (1, .long 6385252)]) hx hb dX12_isWord_8 hl (by decide) rfl (fun ls hl => ?_)
    exact L10 ((400 - (0 : Int)).toNat + 1) 0 0 x60 x62 H locs ls w56 (by decide) (by decide) (show 0 ≤ x60.toInt by omega) (show x60.toInt ≤ 400 by omega) (show 0 ≤ x62.toInt by omega) (show x62.toInt ≤ 400 by omega) (show (x62.toInt = f0_.toInt ∨ (gi w0 1 (f0_.toInt).toNat).toInt = 32) by first | omega | assumption | (left; omega) | (left; decide) | (right; assumption)) (Nat.lt_succ_self _) hw hT hF c61 c63 (lv_sub hl [2, 3, 1, 0] rfl)
  · have g70 : (x68.toInt = f0_.toInt ∨ (gi w0 1 (f0_.toInt).toNat).toInt = 32) := by have q := g70; simp only [cf0_, c69] at q; omega
    refine lv_pop hx hb dX12_isWord_4 rfl ?_
    refine lv_lconst (v := 0) hx hb dX12_isWord_5 (by decide) ?_
    refine lv_lstore_n (lv' := [(3, .long 0), (0, .ref (ad 0)), (1, .long 6385252)]) hx hb dX12_isWord_6 rfl hl (by decide) rfl (fun ls hl => ?_)
    refine lv_iconst (v := 0) hx hb dX12_isWord_7 (by decide) ?_
    refine lv_istore (lv' := [(5, .int 0), (3, .long 0), (0, .ref (ad 0)), (1, .long 6385252)]) hx hb dX12_isWord_8 hl (by decide) rfl (fun ls hl => ?_)
    exact L10 ((400 - (0 : Int)).toNat + 1) 0 0 x66 x68 H locs ls w56 (by decide) (by decide) (show 0 ≤ x66.toInt by omega) (show x66.toInt ≤ 400 by omega) (show 0 ≤ x68.toInt by omega) (show x68.toInt ≤ 400 by omega) (show (x68.toInt = f0_.toInt ∨ (gi w0 1 (f0_.toInt).toNat).toInt = 32) by first | omega | assumption | (left; omega) | (left; decide) | (right; assumption)) (Nat.lt_succ_self _) hw hT hF c67 c69 (lv_sub hl [2, 3, 1, 0] rfl)
  · obtain ⟨x75, c76, rx75, tx75⟩ := hT.rdi (lo := 0) (hi := 400) (k := 14) kM_at0 (by decide) rfl
    have g73 : (x75.toInt = f0_.toInt ∨ (gi w0 1 (f0_.toInt).toNat).toInt = 32) := by have q := g73; simp only [cf0_, c76] at q; omega
    refine lv_pop hx hb dX12_isWord_4 rfl ?_
    refine lv_lconst (v := 0) hx hb dX12_isWord_5 (by decide) ?_
    refine lv_lstore_n (lv' := [(3, .long 0), (0, .ref (ad 0)), (1, .long 6385252)]) hx hb dX12_isWord_6 rfl hl (by decide) rfl (fun ls hl => ?_)
    refine lv_iconst (v := 0) hx hb dX12_isWord_7 (by decide) ?_
    refine lv_istore (lv' := [(5, .int 0), (3, .long 0), (0, .ref (ad 0)), (1, .long 6385252)]) hx hb dX12_isWord_8 hl (by decide) rfl (fun ls hl => ?_)
    exact L10 ((400 - (0 : Int)).toNat + 1) 0 0 x71 x75 H locs ls w56 (by decide) (by decide) (show 0 ≤ x71.toInt by omega) (show x71.toInt ≤ 400 by omega) (show 0 ≤ x75.toInt by omega) (show x75.toInt ≤ 400 by omega) (show (x75.toInt = f0_.toInt ∨ (gi w0 1 (f0_.toInt).toNat).toInt = 32) by first | omega | assumption | (left; omega) | (left; decide) | (right; assumption)) (Nat.lt_succ_self _) hw hT hF c72 c76 (lv_sub hl [2, 3, 1, 0] rfl)
abbrev P_X12_settles_3 (ad : Nat → Nat) (cy : Nat → ClassId) (B : Int) (qr : Nat) (s1 : Int)  (w0 : va_W) : va_W → Prop := fun u => TW ksM ad cy B qr 12 u ∧ FE ksM [(12, 19, 19), (12, 22, 22), (61, 0, 2400), (62, 0, 7)] w0 u ∧ (((∃ y : Int32, gi u 0 17 = y ∧ 0 ≤ y.toInt ∧ y.toInt ≤ 5) ∧ (∃ y : Int32, gi u 0 19 = y ∧ (-60) ≤ y.toInt ∧ y.toInt ≤ 10) ∧ (∃ y : Int32, gi u 0 22 = y ∧ 0 ≤ y.toInt ∧ y.toInt ≤ 390) ∧ ((gi u 3 ((gi u 0 17).toInt).toNat).toInt + (gi u 0 22).toInt = (gi w0 3 ((gi w0 0 17).toInt).toNat).toInt + (gi w0 0 22).toInt) ∧ ((gi u 0 22).toInt ≤ (gi w0 0 22).toInt) ∧ ((gi u 0 22).toInt + (gi w0 0 19).toInt ≤ (gi w0 0 22).toInt + (gi u 0 19).toInt) ∧ ((gi u 0 22).toInt ≤ (gi u 0 19).toInt + (gi w0 0 18).toInt) ∧ ((gi u 0 22).toInt ≤ 390) ∧ ((gi u 3 ((gi u 0 17).toInt).toNat).toInt ≤ 390) ∧ (brkN w0 ((gi u 0 22).toInt).toNat = brkN w0 ((gi w0 0 22).toInt).toNat) ∧ ((binN u ((gi u 0 22).toInt).toNat : Int) = (gi u 0 22).toInt - (gi u 0 19).toInt)))
set_option maxHeartbeats 4000000 in
set_option maxRecDepth 100000 in
theorem k_X12_settles_3 (l : Launch) (adK adV : Nat → Nat) (dC : Nat → ClassId) (dI : Nat → Nat → Nat) (cy : Nat → ClassId) (ad : Nat → Nat) (B : Int) (hB0 : 100000 ≤ B) (hB1 : B ≤ 1073741824) (qr : Nat) (s1 : Int)   (w0 : va_W) (sz : Nat) (hT : TW ksM ad cy B qr 12 w0) (f0_ : Int32) (cf0_ : gi w0 0 17 = f0_) (rf0_ : 0 ≤ f0_.toInt) (tf0_ : f0_.toInt ≤ 5) (f1_ : Int32) (cf1_ : gi w0 0 18 = f1_) (rf1_ : 0 ≤ f1_.toInt) (tf1_ : f1_.toInt ≤ 60) (f2_ : Int32) (cf2_ : gi w0 0 19 = f2_) (rf2_ : (-100) ≤ f2_.toInt) (tf2_ : f2_.toInt ≤ 10) (f3_ : Int32) (cf3_ : gi w0 0 22 = f3_) (rf3_ : 0 ≤ f3_.toInt) (tf3_ : f3_.toInt ≤ 400) (f4_ : Int32) (cf4_ : gi w0 3 (f0_.toInt).toNat = f4_) (rf4_ : 0 ≤ f4_.toInt) (tf4_ : f4_.toInt ≤ 400) (pr0_ : f4_.toInt + f3_.toInt ≤ 390) (pr1_ : f3_.toInt ≤ f2_.toInt + f1_.toInt) (pr2_ : f4_.toInt ≤ 390) (pr3_ : f3_.toInt ≤ 390) (pr4_ : (binN w0 (f3_.toInt).toNat : Int) = f3_.toInt - f2_.toInt) : Met l yX12_settles wsX12_settles ({ frames := 2, cells := 0, slots := 0, locals := 34 }) (va_Pc [.ref (ad 0), .int 2] (wpreS adK adV dC dI cy sz w0)) (va_Qv (P_X12_settles_3 ad cy B qr s1  w0) (fun u : va_W => wpost dC dI cy (va_A w0 sz) u) (va_A w0 sz)) 0 0 (va_A w0 sz) := by
  refine Met.ofW (cc := cX12_settles) (maxL := 2) (ret := none) (by decide) rfl ?_
  intro p e s m args below meth c s₁ Bk hml hv
  obtain ⟨rfl, ⟨hsz, hP, hK, hD0⟩, hE, hSR⟩ := hv
  have hx := Bk.exec
  have hb := Bk.bytes
  have hr := Bk.returns
  have hlocks := Bk.notSynchronized
  have hC : CallFix p m c cX12_settles 2 s _ wsX12_settles RX12 := ⟨hx, hb, hml, findClass_of_methodNamed Bk.named, atoms_spec (ws := wsX12_settles) Bk.pre⟩
  subst hsz
  have hD := hD0.self (sz := s.heap.size)
  generalize hAe : va_A w0 s.heap.size = A at hD hE ⊢
  have hA : ∀ q : Nat, s.heap.size ≤ q → A q := fun q h => by rw [← hAe]; exact Or.inr h
  have hw : Wd dC dI A s.heap s.heap [] w0 := ⟨hP, hD, va_S.rf⟩
  have hF : FE ksM [(12, 19, 19), (12, 22, 22), (61, 0, 2400), (62, 0, 7)] w0 w0 := FE.rf
  have hl := lv_entry ([.ref (ad 0), .int 2]) (n := 2) (Nat.le_of_ble_eq_true rfl)
  rw [lg_entry_eq]
  generalize (lg_sl ([.ref (ad 0), .int 2]) ++ List.replicate (2 - (lg_sl ([.ref (ad 0), .int 2])).length) Slot.unset).toArray = ls at hl ⊢
  have hl : lv_has ls 2 [(0, .ref (ad 0)), (1, .int 2)] := hl
  generalize hloc : ([] : List Loc) = locs at hw ⊢
  have hinX12 : ∀ w ∈ u_ws RX12 TX12 42, w ∈ wsX12_settles := fun _ h => List.mem_cons_of_mem _ (List.mem_append_right _ (h))
  have L0 : ∀ (n0 : Nat) (f0_0_19 : Int32) (f0_0_22 : Int32) (f0_3__f0__toInt_toNat : Int32) (H : Heap) (locs : List Loc) (ls : Array Slot) (w1 : va_W), 0 ≤ f0_.toInt → f0_.toInt ≤ 5 → 0 ≤ f1_.toInt → f1_.toInt ≤ 60 → (-60) ≤ f0_0_19.toInt → f0_0_19.toInt ≤ 10 → 0 ≤ f0_0_22.toInt → f0_0_22.toInt ≤ 390 → 0 ≤ f0_3__f0__toInt_toNat.toInt → f0_3__f0__toInt_toNat.toInt ≤ 390 → ((binN w1 (f0_0_22.toInt).toNat : Int) = f0_0_22.toInt - f0_0_19.toInt) → (f0_3__f0__toInt_toNat.toInt + f0_0_22.toInt = f4_.toInt + f3_.toInt) → (f0_0_22.toInt ≤ f3_.toInt) → (f0_0_22.toInt + f2_.toInt ≤ f3_.toInt + f0_0_19.toInt) → (f0_0_22.toInt ≤ f0_0_19.toInt + f1_.toInt) → (f0_3__f0__toInt_toNat.toInt ≤ 390) → (f0_0_22.toInt ≤ 390) → (-60 ≤ f0_0_19.toInt) → (brkN w0 (f0_0_22.toInt).toNat = brkN w0 (f3_.toInt).toNat) → (f0_0_22.toInt - 0).toNat < n0 → Wd dC dI A s.heap H locs w1 → TW ksM ad cy B qr 12 w1 → FE ksM [(12, 19, 19), (12, 22, 22), (61, 0, 2400), (62, 0, 7)] w0 w1 → gi w1 0 17 = f0_ → gi w1 0 18 = f1_ → gi w1 0 19 = f0_0_19 → gi w1 0 22 = f0_0_22 → gi w1 3 (f0_.toInt).toNat = f0_3__f0__toInt_toNat → lv_has ls 2 [(0, .ref (ad 0)), (1, .int 2)] → W p l e ({ frames := 2, cells := 0, slots := 0, locals := 34 }) s m (List.toArray [.ref (ad 0), .int 2]) below meth c H locs 0 0 (MQ below (va_Qv (P_X12_settles_3 ad cy B qr s1  w0) (fun u : va_W => wpost dC dI cy A u) A) (List.toArray [.ref (ad 0), .int 2]) s 0 0 A) (F0 m 0 ls []) := by
    intro n0
    induction n0 with
    | zero => intro f0_0_19 f0_0_22 f0_3__f0__toInt_toNat H locs ls w1 r2 t3 r5 t6 r8 t9 r11 t12 r14 t15 hcr0_0 hcr0_1 hcr0_2 hcr0_3 hcr0_4 hcr0_5 hcr0_6 hcr0_7 hcr0_8 hm0 hw hT hF c4 c7 c10 c13 c16 hl; omega
    | succ n0 ih0 =>
      intro f0_0_19 f0_0_22 f0_3__f0__toInt_toNat H locs ls w1 r2 t3 r5 t6 r8 t9 r11 t12 r14 t15 hcr0_0 hcr0_1 hcr0_2 hcr0_3 hcr0_4 hcr0_5 hcr0_6 hcr0_7 hcr0_8 hm0 hw hT hF c4 c7 c10 c13 c16 hl
      have gl17 := bin_le w1 (f0_0_22.toInt).toNat
      refine lv_aload_n hx hb dX12_settles_0 rfl (lv_at hl 0 rfl) ?_
      refine tk_geti hC hK hw hT hinX12 kM_at0 (by decide) rfl 22 (by decide) (List.mem_of_getElem? (i := 1) rfl) rfl rfl dX12_settles_1 (fun x18 c19 rx18 tx18 => ?_)
      refine wk_top f0_0_22 (c19.symm.trans c13) ?_
      refine lv_if_le (tgt := 76) hx hb dX12_settles_4 (by decide) (fun c20 => ?_) (fun c20 => ?_)
      · have c20 : f0_0_22.toInt ≤ (0 : Int) := wk_le.mp c20
        exact tk_vret hC hr hlocks hK ⟨hT, hF, ⟨⟨f0_, c4, (show 0 ≤ f0_.toInt by omega), (show f0_.toInt ≤ 5 by omega)⟩, ⟨f0_0_19, c10, (show (-60) ≤ f0_0_19.toInt by omega), (show f0_0_19.toInt ≤ 10 by omega)⟩, ⟨f0_0_22, c13, (show 0 ≤ f0_0_22.toInt by omega), (show f0_0_22.toInt ≤ 390 by omega)⟩, (by simp only [c4, cf0_, cf4_, c16, cf3_, c13]; omega), (by simp only [c4, cf0_, cf3_, c13]; omega), (by simp only [c4, cf0_, cf2_, c10, cf3_, c13]; omega), (by simp only [c4, cf0_, c10, cf1_, c13]; omega), (by simp only [c4, cf0_, c13]; omega), (by simp only [c4, cf0_, c16]; omega), (by simp only [c4, cf0_, cf3_, c13, c16]; omega), (by simp only [c4, cf0_, c10, c13]; omega)⟩⟩ hw dX12_settles_76
      · have c20 : (0 : Int) < f0_0_22.toInt := wk_leF c20
        refine lv_aload_n hx hb dX12_settles_7 rfl (lv_at hl 0 rfl) ?_
        refine tk_getA hC hK hw hT hinX12 kM_at0 (by decide) rfl 21 (by decide) (List.mem_of_getElem? (i := 2) rfl) rfl rfl dX12_settles_8 ?_
        refine lv_aload_n hx hb dX12_settles_11 rfl (lv_at hl 0 rfl) ?_
        refine tk_geti hC hK hw hT hinX12 kM_at0 (by decide) rfl 22 (by decide) (List.mem_of_getElem? (i := 1) rfl) rfl rfl dX12_settles_12 (fun x21 c22 rx21 tx21 => ?_)
        refine wk_top f0_0_22 (c22.symm.trans c13) ?_
        refine lv_iconst (v := 1) hx hb dX12_settles_15 (by decide) ?_
        refine lv_isub hx hb dX12_settles_16 ?_
        refine lv_topi (fun x23 ex23 => ?_)
        have ex23 : x23.toInt = f0_0_22.toInt - (1 : Int) := by rw [ex23]; exact wk_sub (show (-2147483648) ≤ f0_0_22.toInt - (1 : Int) by omega) (show f0_0_22.toInt - (1 : Int) ≤ 2147483647 by omega)
        refine tk_iald hC hK hw hT kM_at9 rfl rfl (show 0 ≤ x23.toInt by omega) (show x23.toInt < 400 by omega) dX12_settles_17 (fun x24 c25 rx24 tx24 => ?_)
        have c25 : gi w1 9 (1 * f0_0_22.toInt + -1).toNat = x24 := (congrArg (gi w1 9) (congrArg Int.toNat (show 1 * f0_0_22.toInt + -1 = x23.toInt by omega))).trans c25
        refine tk_Si hC hK hw hT hA hE hSR (k_X12_strength_1 l adK adV dC dI cy ad B (by omega) (by omega) qr s1   x24 w1 H.size hT ) (va_cwS 1 hC.2.2.2.2 gX12_settles_X12_strength rfl rfl rfl (by decide +kernel) ⟨Nat.le_of_ble_eq_true rfl, Nat.le_of_ble_eq_true rfl⟩) rfl hl.1 rfl (Nat.le_of_ble_eq_true rfl) dX12_settles_18 (fun r26 w28 H locs hp27 hw => ?_)
        obtain ⟨rfl, hg37⟩ := hp27
        rcases hg37 with ⟨rfl, hq30⟩ | ⟨rfl, g31, g32⟩ | ⟨rfl, g33, g34⟩ | ⟨rfl, g35, g36⟩
        · refine lv_iload_n hx hb dX12_settles_21 rfl (lv_at hl 1 rfl) ?_
          refine lv_icmp_lt (tgt := 76) hx hb dX12_settles_22 (by decide) (fun _ => ?_) (fun c => absurd (by decide) c)
          exact tk_vret hC hr hlocks hK ⟨hT, hF, ⟨⟨f0_, c4, (show 0 ≤ f0_.toInt by omega), (show f0_.toInt ≤ 5 by omega)⟩, ⟨f0_0_19, c10, (show (-60) ≤ f0_0_19.toInt by omega), (show f0_0_19.toInt ≤ 10 by omega)⟩, ⟨f0_0_22, c13, (show 0 ≤ f0_0_22.toInt by omega), (show f0_0_22.toInt ≤ 390 by omega)⟩, (by simp only [c4, cf0_, cf4_, c16, cf3_, c13]; omega), (by simp only [c4, cf0_, cf3_, c13]; omega), (by simp only [c4, cf0_, cf2_, c10, cf3_, c13]; omega), (by simp only [c4, cf0_, c10, cf1_, c13]; omega), (by simp only [c4, cf0_, c13]; omega), (by simp only [c4, cf0_, c16]; omega), (by simp only [c4, cf0_, cf3_, c13, c16, c25]; omega), (by simp only [c4, cf0_, c10, c13]; omega)⟩⟩ hw dX12_settles_76
        · refine lv_iload_n hx hb dX12_settles_21 rfl (lv_at hl 1 rfl) ?_
          refine lv_icmp_lt (tgt := 76) hx hb dX12_settles_22 (by decide) (fun _ => ?_) (fun c => absurd (by decide) c)
          exact tk_vret hC hr hlocks hK ⟨hT, hF, ⟨⟨f0_, c4, (show 0 ≤ f0_.toInt by omega), (show f0_.toInt ≤ 5 by omega)⟩, ⟨f0_0_19, c10, (show (-60) ≤ f0_0_19.toInt by omega), (show f0_0_19.toInt ≤ 10 by omega)⟩, ⟨f0_0_22, c13, (show 0 ≤ f0_0_22.toInt by omega), (show f0_0_22.toInt ≤ 390 by omega)⟩, (by simp only [c4, cf0_, cf4_, c16, cf3_, c13]; omega), (by simp only [c4, cf0_, cf3_, c13]; omega), (by simp only [c4, cf0_, cf2_, c10, cf3_, c13]; omega), (by simp only [c4, cf0_, c10, cf1_, c13]; omega), (by simp only [c4, cf0_, c13]; omega), (by simp only [c4, cf0_, c16]; omega), (by simp only [c4, cf0_, cf3_, c13, c16, c25]; omega), (by simp only [c4, cf0_, c10, c13]; omega)⟩⟩ hw dX12_settles_76
        · refine lv_iload_n hx hb dX12_settles_21 rfl (lv_at hl 1 rfl) ?_
          refine lv_icmp_lt (tgt := 76) hx hb dX12_settles_22 (by decide) (fun c => absurd c (by decide)) (fun _ => ?_)
          refine lv_aload_n hx hb dX12_settles_25 rfl (lv_at hl 0 rfl) ?_
          refine lv_dup hx hb dX12_settles_26 rfl ?_
          refine tk_geti hC hK hw hT hinX12 kM_at0 (by decide) rfl 22 (by decide) (List.mem_of_getElem? (i := 1) rfl) rfl rfl dX12_settles_27 (fun x38 c39 rx38 tx38 => ?_)
          refine wk_top f0_0_22 (c39.symm.trans c13) ?_
          refine lv_iconst (v := 1) hx hb dX12_settles_30 (by decide) ?_
          refine lv_isub hx hb dX12_settles_31 ?_
          refine lv_topi (fun x40 ex40 => ?_)
          have ex40 : x40.toInt = f0_0_22.toInt - (1 : Int) := by rw [ex40]; exact wk_sub (show (-2147483648) ≤ f0_0_22.toInt - (1 : Int) by omega) (show f0_0_22.toInt - (1 : Int) ≤ 2147483647 by omega)
          refine tk_puti hC hK hw hT hinX12 tyX12_ok nmX12 kM_at0 (by decide) rfl rfl 22 (by decide) (List.mem_of_getElem? (i := 1) rfl) rfl rfl rfl rfl (show 0 ≤ x40.toInt by omega) (show x40.toInt ≤ 400 by omega) dX12_settles_32 (fun H locs w41 hw hT k43 c42 => ?_)
          have gn44 : binN w41 (f0_0_22.toInt).toNat = binN w1 (f0_0_22.toInt).toNat := bin_F1 _ k43 (by decide)
          have gn45 : binN w41 (x40.toInt).toNat = binN w1 (x40.toInt).toNat := bin_F1 _ k43 (by decide)
          have gt46 := bin_top (w := w1) (a := f0_0_22.toInt) (b := x40.toInt) (by omega) (by omega)
          have gx47 : (gi w1 9 (x40.toInt).toNat).toInt = x24.toInt := by rw [show (x40.toInt) = 1 * f0_0_22.toInt + -1 by omega, c25]
          have hF := hF.put kM_at0 (k := 22) (by decide) k43
          have c48 := k43.gi (Or.inr (by decide)) c4
          have c49 := k43.gi (Or.inr (by decide)) c7
          have c50 := k43.gi (Or.inr (by decide)) c10
          have c51 := k43.gi (Or.inl (tk_ne kM_at3 kM_at0 (by decide))) c16
          have c52 := k43.gi (Or.inl (tk_ne kM_at9 kM_at0 (by decide))) c25
          refine lv_aload_n hx hb dX12_settles_35 rfl (lv_at hl 0 rfl) ?_
          refine lv_aload_n hx hb dX12_settles_36 rfl (lv_at hl 0 rfl) ?_
          refine tk_getA hC hK hw hT hinX12 kM_at0 (by decide) rfl 21 (by decide) (List.mem_of_getElem? (i := 2) rfl) rfl rfl dX12_settles_37 ?_
          refine lv_aload_n hx hb dX12_settles_40 rfl (lv_at hl 0 rfl) ?_
          refine tk_geti hC hK hw hT hinX12 kM_at0 (by decide) rfl 22 (by decide) (List.mem_of_getElem? (i := 1) rfl) rfl rfl dX12_settles_41 (fun x53 c54 rx53 tx53 => ?_)
          refine wk_top x40 (c54.symm.trans c42) ?_
          refine tk_iald hC hK hw hT kM_at9 rfl rfl (show 0 ≤ x40.toInt by omega) (show x40.toInt < 400 by omega) dX12_settles_44 (fun x55 c56 rx55 tx55 => ?_)
          have c56 : gi w41 9 (1 * f0_0_22.toInt + -1).toNat = x55 := (congrArg (gi w41 9) (congrArg Int.toNat (show 1 * f0_0_22.toInt + -1 = x40.toInt by omega))).trans c56
          refine wk_top x24 (c56.symm.trans c52) ?_
          refine lv_iconst (v := 0) hx hb dX12_settles_45 (by decide) ?_
          obtain rfl : x24 = 12 := wk_eq.mpr (show x24.toInt = 12 by omega)
          refine tk_Vv hC hK hw hT hA hE hSR kM_at0 (by decide) rfl (k_X12_puts_1 l adK adV dC dI cy ad B (by omega) (by omega) qr s1   12 (by decide) (by decide) 0 w41 H.size hT f0_ c48 (show 0 ≤ f0_.toInt by omega) (show f0_.toInt ≤ 5 by omega) f0_3__f0__toInt_toNat c51 (show 0 ≤ f0_3__f0__toInt_toNat.toInt by omega) (show f0_3__f0__toInt_toNat.toInt ≤ 400 by omega) (show f0_3__f0__toInt_toNat.toInt ≤ 399 by omega)) (cwV 2 hC.2.2.2.2 gX12_settles_X12_puts rfl rfl rfl (by decide +kernel) ⟨Nat.le_of_ble_eq_true rfl, Nat.le_of_ble_eq_true rfl⟩) rfl hl.1 rfl (Nat.le_of_ble_eq_true rfl) dX12_settles_46 (fun w59 H locs hp58 hw => ?_)
          obtain ⟨hT, k60, hg64⟩ := hp58
          have gn65 : binN w59 (x40.toInt).toNat = binN w41 (x40.toInt).toNat := bin_FE _ k60 (fun _ => rfl)
          have hF := hF.tr k60 (by decide)
          have c66 := k60.gi kM_at0 (by decide) c48
          have c67 := k60.gi kM_at0 (by decide) c49
          have c68 := k60.gi kM_at0 (by decide) c50
          have c69 := k60.gi kM_at9 rfl c52
          have c70 := k60.gi kM_at0 (by decide) c42
          obtain ⟨⟨x61, c62, rx61, tx61⟩, g63⟩ := hg64
          have ex61 : x61.toInt = f0_.toInt := by rw [← c66.symm.trans c62]
          obtain ⟨x71, c72, rx71, tx71⟩ := hT.rda (lo := 0) (hi := 400) (i := (f0_.toInt).toNat) kM_at3 rfl rfl (by omega)
          have g63 : x71.toInt = f0_3__f0__toInt_toNat.toInt + 1 := by have q := g63; simp only [c48, c66, c51, c72] at q; omega
          refine lv_aload_n hx hb dX12_settles_49 rfl (lv_at hl 0 rfl) ?_
          refine tk_getA hC hK hw hT hinX12 kM_at0 (by decide) rfl 21 (by decide) (List.mem_of_getElem? (i := 2) rfl) rfl rfl dX12_settles_50 ?_
          refine lv_aload_n hx hb dX12_settles_53 rfl (lv_at hl 0 rfl) ?_
          refine tk_geti hC hK hw hT hinX12 kM_at0 (by decide) rfl 22 (by decide) (List.mem_of_getElem? (i := 1) rfl) rfl rfl dX12_settles_54 (fun x73 c74 rx73 tx73 => ?_)
          refine wk_top x40 (c74.symm.trans c70) ?_
          refine tk_iald hC hK hw hT kM_at9 rfl rfl (show 0 ≤ x40.toInt by omega) (show x40.toInt < 400 by omega) dX12_settles_57 (fun x75 c76 rx75 tx75 => ?_)
          have c76 : gi w59 9 (1 * f0_0_22.toInt + -1).toNat = x75 := (congrArg (gi w59 9) (congrArg Int.toNat (show 1 * f0_0_22.toInt + -1 = x40.toInt by omega))).trans c76
          refine wk_top 12 (c76.symm.trans c69) ?_
          refine lv_bipush (v := 11) hx hb dX12_settles_58 (by decide) ?_
          refine lv_icmp_ne (tgt := 0) hx hb dX12_settles_60 (by decide) (fun _ => ?_) (fun c => absurd c (by decide))
          exact ih0 f0_0_19 x40 x71 H locs ls w59 (show 0 ≤ f0_.toInt by omega) (show f0_.toInt ≤ 5 by omega) (show 0 ≤ f1_.toInt by omega) (show f1_.toInt ≤ 60 by omega) (show (-60) ≤ f0_0_19.toInt by omega) (show f0_0_19.toInt ≤ 10 by omega) (show 0 ≤ x40.toInt by omega) (show x40.toInt ≤ 390 by omega) (show 0 ≤ x71.toInt by omega) (show x71.toInt ≤ 390 by omega) (show (binN w59 (x40.toInt).toNat : Int) = x40.toInt - f0_0_19.toInt by omega) (show x71.toInt + x40.toInt = f4_.toInt + f3_.toInt by omega) (show x40.toInt ≤ f3_.toInt by omega) (show x40.toInt + f2_.toInt ≤ f3_.toInt + f0_0_19.toInt by omega) (show x40.toInt ≤ f0_0_19.toInt + f1_.toInt by omega) (show x71.toInt ≤ 390 by omega) (show x40.toInt ≤ 390 by omega) (show -60 ≤ f0_0_19.toInt by omega) (show brkN w0 (x40.toInt).toNat = brkN w0 (f3_.toInt).toNat from ((brk_step (by omega) (show f0_0_22.toInt = x40.toInt + 1 by omega) (show ¬ (gi w0 9 (x40.toInt).toNat).toInt = 91 by first | (rw [show (x40.toInt) = 1 * f0_0_22.toInt + -1 by omega, ← hF.gi kM_at9 rfl rfl, c69]; omega) | (rw [show (x40.toInt) = 1 * f0_0_22.toInt + -1 by omega, ← hF.gi kM_at9 rfl rfl, c69]; decide))).trans hcr0_8)) (show (x40.toInt - 0).toNat < n0 by omega) hw hT hF c66 c67 c68 c70 c72 (lv_sub hl [0, 1] rfl)
        · refine lv_iload_n hx hb dX12_settles_21 rfl (lv_at hl 1 rfl) ?_
          refine lv_icmp_lt (tgt := 76) hx hb dX12_settles_22 (by decide) (fun c => absurd c (by decide)) (fun _ => ?_)
          refine lv_aload_n hx hb dX12_settles_25 rfl (lv_at hl 0 rfl) ?_
          refine lv_dup hx hb dX12_settles_26 rfl ?_
          refine tk_geti hC hK hw hT hinX12 kM_at0 (by decide) rfl 22 (by decide) (List.mem_of_getElem? (i := 1) rfl) rfl rfl dX12_settles_27 (fun x77 c78 rx77 tx77 => ?_)
          refine wk_top f0_0_22 (c78.symm.trans c13) ?_
          refine lv_iconst (v := 1) hx hb dX12_settles_30 (by decide) ?_
          refine lv_isub hx hb dX12_settles_31 ?_
          refine lv_topi (fun x79 ex79 => ?_)
          have ex79 : x79.toInt = f0_0_22.toInt - (1 : Int) := by rw [ex79]; exact wk_sub (show (-2147483648) ≤ f0_0_22.toInt - (1 : Int) by omega) (show f0_0_22.toInt - (1 : Int) ≤ 2147483647 by omega)
          refine tk_puti hC hK hw hT hinX12 tyX12_ok nmX12 kM_at0 (by decide) rfl rfl 22 (by decide) (List.mem_of_getElem? (i := 1) rfl) rfl rfl rfl rfl (show 0 ≤ x79.toInt by omega) (show x79.toInt ≤ 400 by omega) dX12_settles_32 (fun H locs w80 hw hT k82 c81 => ?_)
          have gn83 : binN w80 (f0_0_22.toInt).toNat = binN w1 (f0_0_22.toInt).toNat := bin_F1 _ k82 (by decide)
          have gn84 : binN w80 (x79.toInt).toNat = binN w1 (x79.toInt).toNat := bin_F1 _ k82 (by decide)
          have gt85 := bin_top (w := w1) (a := f0_0_22.toInt) (b := x79.toInt) (by omega) (by omega)
          have gx86 : (gi w1 9 (x79.toInt).toNat).toInt = x24.toInt := by rw [show (x79.toInt) = 1 * f0_0_22.toInt + -1 by omega, c25]
          have hF := hF.put kM_at0 (k := 22) (by decide) k82
          have c87 := k82.gi (Or.inr (by decide)) c4
          have c88 := k82.gi (Or.inr (by decide)) c7
          have c89 := k82.gi (Or.inr (by decide)) c10
          have c90 := k82.gi (Or.inl (tk_ne kM_at3 kM_at0 (by decide))) c16
          have c91 := k82.gi (Or.inl (tk_ne kM_at9 kM_at0 (by decide))) c25
          refine lv_aload_n hx hb dX12_settles_35 rfl (lv_at hl 0 rfl) ?_
          refine lv_aload_n hx hb dX12_settles_36 rfl (lv_at hl 0 rfl) ?_
          refine tk_getA hC hK hw hT hinX12 kM_at0 (by decide) rfl 21 (by decide) (List.mem_of_getElem? (i := 2) rfl) rfl rfl dX12_settles_37 ?_
          refine lv_aload_n hx hb dX12_settles_40 rfl (lv_at hl 0 rfl) ?_
          refine tk_geti hC hK hw hT hinX12 kM_at0 (by decide) rfl 22 (by decide) (List.mem_of_getElem? (i := 1) rfl) rfl rfl dX12_settles_41 (fun x92 c93 rx92 tx92 => ?_)
          refine wk_top x79 (c93.symm.trans c81) ?_
          refine tk_iald hC hK hw hT kM_at9 rfl rfl (show 0 ≤ x79.toInt by omega) (show x79.toInt < 400 by omega) dX12_settles_44 (fun x94 c95 rx94 tx94 => ?_)
          have c95 : gi w80 9 (1 * f0_0_22.toInt + -1).toNat = x94 := (congrArg (gi w80 9) (congrArg Int.toNat (show 1 * f0_0_22.toInt + -1 = x79.toInt by omega))).trans c95
          refine wk_top x24 (c95.symm.trans c91) ?_
          refine lv_iconst (v := 0) hx hb dX12_settles_45 (by decide) ?_
          obtain rfl : x24 = 11 := wk_eq.mpr (show x24.toInt = 11 by omega)
          refine tk_Vv hC hK hw hT hA hE hSR kM_at0 (by decide) rfl (k_X12_puts_1 l adK adV dC dI cy ad B (by omega) (by omega) qr s1   11 (by decide) (by decide) 0 w80 H.size hT f0_ c87 (show 0 ≤ f0_.toInt by omega) (show f0_.toInt ≤ 5 by omega) f0_3__f0__toInt_toNat c90 (show 0 ≤ f0_3__f0__toInt_toNat.toInt by omega) (show f0_3__f0__toInt_toNat.toInt ≤ 400 by omega) (show f0_3__f0__toInt_toNat.toInt ≤ 399 by omega)) (cwV 2 hC.2.2.2.2 gX12_settles_X12_puts rfl rfl rfl (by decide +kernel) ⟨Nat.le_of_ble_eq_true rfl, Nat.le_of_ble_eq_true rfl⟩) rfl hl.1 rfl (Nat.le_of_ble_eq_true rfl) dX12_settles_46 (fun w98 H locs hp97 hw => ?_)
          obtain ⟨hT, k99, hg103⟩ := hp97
          have gn104 : binN w98 (x79.toInt).toNat = binN w80 (x79.toInt).toNat := bin_FE _ k99 (fun _ => rfl)
          have hF := hF.tr k99 (by decide)
          have c105 := k99.gi kM_at0 (by decide) c87
          have c106 := k99.gi kM_at0 (by decide) c88
          have c107 := k99.gi kM_at0 (by decide) c89
          have c108 := k99.gi kM_at9 rfl c91
          have c109 := k99.gi kM_at0 (by decide) c81
          obtain ⟨⟨x100, c101, rx100, tx100⟩, g102⟩ := hg103
          have ex100 : x100.toInt = f0_.toInt := by rw [← c105.symm.trans c101]
          obtain ⟨x110, c111, rx110, tx110⟩ := hT.rda (lo := 0) (hi := 400) (i := (f0_.toInt).toNat) kM_at3 rfl rfl (by omega)
          have g102 : x110.toInt = f0_3__f0__toInt_toNat.toInt + 1 := by have q := g102; simp only [c87, c105, c90, c111] at q; omega
          refine lv_aload_n hx hb dX12_settles_49 rfl (lv_at hl 0 rfl) ?_
          refine tk_getA hC hK hw hT hinX12 kM_at0 (by decide) rfl 21 (by decide) (List.mem_of_getElem? (i := 2) rfl) rfl rfl dX12_settles_50 ?_
          refine lv_aload_n hx hb dX12_settles_53 rfl (lv_at hl 0 rfl) ?_
          refine tk_geti hC hK hw hT hinX12 kM_at0 (by decide) rfl 22 (by decide) (List.mem_of_getElem? (i := 1) rfl) rfl rfl dX12_settles_54 (fun x112 c113 rx112 tx112 => ?_)
          refine wk_top x79 (c113.symm.trans c109) ?_
          refine tk_iald hC hK hw hT kM_at9 rfl rfl (show 0 ≤ x79.toInt by omega) (show x79.toInt < 400 by omega) dX12_settles_57 (fun x114 c115 rx114 tx114 => ?_)
          have c115 : gi w98 9 (1 * f0_0_22.toInt + -1).toNat = x114 := (congrArg (gi w98 9) (congrArg Int.toNat (show 1 * f0_0_22.toInt + -1 = x79.toInt by omega))).trans c115
          refine wk_top 11 (c115.symm.trans c108) ?_
          refine lv_bipush (v := 11) hx hb dX12_settles_58 (by decide) ?_
          refine lv_icmp_ne (tgt := 0) hx hb dX12_settles_60 (by decide) (fun c => absurd (by decide) c) (fun _ => ?_)
          refine lv_aload_n hx hb dX12_settles_63 rfl (lv_at hl 0 rfl) ?_
          refine lv_dup hx hb dX12_settles_64 rfl ?_
          refine tk_geti hC hK hw hT hinX12 kM_at0 (by decide) rfl 19 (by decide) (List.mem_of_getElem? (i := 3) rfl) rfl rfl dX12_settles_65 (fun x116 c117 rx116 tx116 => ?_)
          refine wk_top f0_0_19 (c117.symm.trans c107) ?_
          refine lv_iconst (v := 1) hx hb dX12_settles_68 (by decide) ?_
          refine lv_isub hx hb dX12_settles_69 ?_
          refine lv_topi (fun x118 ex118 => ?_)
          have ex118 : x118.toInt = f0_0_19.toInt - (1 : Int) := by rw [ex118]; exact wk_sub (show (-2147483648) ≤ f0_0_19.toInt - (1 : Int) by omega) (show f0_0_19.toInt - (1 : Int) ≤ 2147483647 by omega)
          refine tk_puti hC hK hw hT hinX12 tyX12_ok nmX12 kM_at0 (by decide) rfl rfl 19 (by decide) (List.mem_of_getElem? (i := 3) rfl) rfl rfl rfl rfl (show (-100) ≤ x118.toInt by omega) (show x118.toInt ≤ 10 by omega) dX12_settles_70 (fun H locs w119 hw hT k121 c120 => ?_)
          have gn122 : binN w119 (x79.toInt).toNat = binN w98 (x79.toInt).toNat := bin_F1 _ k121 (by decide)
          have hF := hF.put kM_at0 (k := 19) (by decide) k121
          have c123 := k121.gi (Or.inr (by decide)) c105
          have c124 := k121.gi (Or.inr (by decide)) c106
          have c125 := k121.gi (Or.inl (tk_ne kM_at9 kM_at0 (by decide))) c108
          have c126 := k121.gi (Or.inr (by decide)) c109
          have c127 := k121.gi (Or.inl (tk_ne kM_at3 kM_at0 (by decide))) c111
          refine lv_goto (tgt := 0) hx hb dX12_settles_73 (by decide) ?_
          exact ih0 x118 x79 x110 H locs ls w119 (show 0 ≤ f0_.toInt by omega) (show f0_.toInt ≤ 5 by omega) (show 0 ≤ f1_.toInt by omega) (show f1_.toInt ≤ 60 by omega) (show (-60) ≤ x118.toInt by omega) (show x118.toInt ≤ 10 by omega) (show 0 ≤ x79.toInt by omega) (show x79.toInt ≤ 390 by omega) (show 0 ≤ x110.toInt by omega) (show x110.toInt ≤ 390 by omega) (show (binN w119 (x79.toInt).toNat : Int) = x79.toInt - x118.toInt by omega) (show x110.toInt + x79.toInt = f4_.toInt + f3_.toInt by omega) (show x79.toInt ≤ f3_.toInt by omega) (show x79.toInt + f2_.toInt ≤ f3_.toInt + x118.toInt by omega) (show x79.toInt ≤ x118.toInt + f1_.toInt by omega) (show x110.toInt ≤ 390 by omega) (show x79.toInt ≤ 390 by omega) (show -60 ≤ x118.toInt by omega) (show brkN w0 (x79.toInt).toNat = brkN w0 (f3_.toInt).toNat from ((brk_step (by omega) (show f0_0_22.toInt = x79.toInt + 1 by omega) (show ¬ (gi w0 9 (x79.toInt).toNat).toInt = 91 by first | (rw [show (x79.toInt) = 1 * f0_0_22.toInt + -1 by omega, ← hF.gi kM_at9 rfl rfl, c125]; omega) | (rw [show (x79.toInt) = 1 * f0_0_22.toInt + -1 by omega, ← hF.gi kM_at9 rfl rfl, c125]; decide))).trans hcr0_8)) (show (x79.toInt - 0).toNat < n0 by omega) hw hT hF c123 c124 c120 c126 c127 (lv_sub hl [0, 1] rfl)
  exact L0 ((f3_.toInt - 0).toNat + 1) f2_ f3_ f4_ s.heap locs ls w0 (show 0 ≤ f0_.toInt by omega) (show f0_.toInt ≤ 5 by omega) (show 0 ≤ f1_.toInt by omega) (show f1_.toInt ≤ 60 by omega) (show (-60) ≤ f2_.toInt by omega) (show f2_.toInt ≤ 10 by omega) (show 0 ≤ f3_.toInt by omega) (show f3_.toInt ≤ 390 by omega) (show 0 ≤ f4_.toInt by omega) (show f4_.toInt ≤ 390 by omega) (show (binN w0 (f3_.toInt).toNat : Int) = f3_.toInt - f2_.toInt by omega) (show f4_.toInt + f3_.toInt = f4_.toInt + f3_.toInt by omega) (show f3_.toInt ≤ f3_.toInt by omega) (show f3_.toInt + f2_.toInt ≤ f3_.toInt + f2_.toInt by omega) (show f3_.toInt ≤ f2_.toInt + f1_.toInt by omega) (show f4_.toInt ≤ 390 by omega) (show f3_.toInt ≤ 390 by omega) (show -60 ≤ f2_.toInt by omega) (show brkN w0 (f3_.toInt).toNat = brkN w0 (f3_.toInt).toNat from rfl) (Nat.lt_succ_self _) hw hT hF cf0_ cf1_ cf2_ cf3_ cf4_ (lv_sub hl [0, 1] rfl)
abbrev P_X12_strength_2 (ad : Nat → Nat) (cy : Nat → ClassId) (B : Int) (qr : Nat) (s1 : Int)  (w0 : va_W) : Int32 → va_W → Prop := fun r u => w0 = u ∧ ((r = 2))
set_option maxHeartbeats 4000000 in
set_option maxRecDepth 100000 in
theorem k_X12_strength_2 (l : Launch) (adK adV : Nat → Nat) (dC : Nat → ClassId) (dI : Nat → Nat → Nat) (cy : Nat → ClassId) (ad : Nat → Nat) (B : Int) (hB0 : 100000 ≤ B) (hB1 : B ≤ 1073741824) (qr : Nat) (s1 : Int)   (w0 : va_W) (sz : Nat) (hT : TW ksM ad cy B qr 12 w0)  : Met l yX12_strength wsX12_strength ({ frames := 1, cells := 0, slots := 0, locals := 12 }) (va_Pc [.int 12] (wpreS adK adV dC dI cy sz w0)) (va_Qi (P_X12_strength_2 ad cy B qr s1  w0) (fun u : va_W => wpost dC dI cy (va_A w0 sz) u) (va_A w0 sz)) 0 0 (va_A w0 sz) := by
  refine Met.ofW (cc := cX12_strength) (maxL := 1) (ret := (some .int)) (by decide) rfl ?_
  intro p e s m args below meth c s₁ Bk hml hv
  obtain ⟨rfl, ⟨hsz, hP, hK, hD0⟩, hE, hSR⟩ := hv
  have hx := Bk.exec
  have hb := Bk.bytes
  have hr := Bk.returns
  have hlocks := Bk.notSynchronized
  have hC : CallFix p m c cX12_strength 1 s _ wsX12_strength RX12 := ⟨hx, hb, hml, findClass_of_methodNamed Bk.named, atoms_spec (ws := wsX12_strength) Bk.pre⟩
  subst hsz
  have hD := hD0.self (sz := s.heap.size)
  generalize hAe : va_A w0 s.heap.size = A at hD hE ⊢
  have hA : ∀ q : Nat, s.heap.size ≤ q → A q := fun q h => by rw [← hAe]; exact Or.inr h
  have hw : Wd dC dI A s.heap s.heap [] w0 := ⟨hP, hD, va_S.rf⟩
  have hF : FE ksM ([] : List (Nat × Nat × Nat)) w0 w0 := FE.rf
  have hl := lv_entry ([.int 12]) (n := 1) (Nat.le_of_ble_eq_true rfl)
  rw [lg_entry_eq]
  generalize (lg_sl ([.int 12]) ++ List.replicate (1 - (lg_sl ([.int 12])).length) Slot.unset).toArray = ls at hl ⊢
  have hl : lv_has ls 1 [(0, .int 12)] := hl
  generalize hloc : ([] : List Loc) = locs at hw ⊢
  refine lv_iload_n hx hb dX12_strength_0 rfl (lv_at hl 0 rfl) ?_
  refine lv_bipush (v := 13) hx hb dX12_strength_1 (by decide) ?_
  refine lv_icmp_ne (tgt := 10) hx hb dX12_strength_3 (by decide) (fun _ => ?_) (fun c => absurd c (by decide))
  refine lv_iload_n hx hb dX12_strength_10 rfl (lv_at hl 0 rfl) ?_
  refine lv_bipush (v := 12) hx hb dX12_strength_11 (by decide) ?_
  refine lv_icmp_ne (tgt := 20) hx hb dX12_strength_13 (by decide) (fun c => absurd (by decide) c) (fun _ => ?_)
  refine lv_iconst (v := 2) hx hb dX12_strength_16 (by decide) ?_
  refine lv_goto (tgt := 31) hx hb dX12_strength_17 (by decide) ?_
  exact tk_iret hC hr hlocks hK ⟨rfl, rfl⟩ hw dX12_strength_31
abbrev P_X12_strength_3 (ad : Nat → Nat) (cy : Nat → ClassId) (B : Int) (qr : Nat) (s1 : Int)  (w0 : va_W) : Int32 → va_W → Prop := fun r u => w0 = u ∧ ((r = 1))
set_option maxHeartbeats 4000000 in
set_option maxRecDepth 100000 in
theorem k_X12_strength_3 (l : Launch) (adK adV : Nat → Nat) (dC : Nat → ClassId) (dI : Nat → Nat → Nat) (cy : Nat → ClassId) (ad : Nat → Nat) (B : Int) (hB0 : 100000 ≤ B) (hB1 : B ≤ 1073741824) (qr : Nat) (s1 : Int)   (w0 : va_W) (sz : Nat) (hT : TW ksM ad cy B qr 12 w0)  : Met l yX12_strength wsX12_strength ({ frames := 1, cells := 0, slots := 0, locals := 12 }) (va_Pc [.int 13] (wpreS adK adV dC dI cy sz w0)) (va_Qi (P_X12_strength_3 ad cy B qr s1  w0) (fun u : va_W => wpost dC dI cy (va_A w0 sz) u) (va_A w0 sz)) 0 0 (va_A w0 sz) := by
  refine Met.ofW (cc := cX12_strength) (maxL := 1) (ret := (some .int)) (by decide) rfl ?_
  intro p e s m args below meth c s₁ Bk hml hv
  obtain ⟨rfl, ⟨hsz, hP, hK, hD0⟩, hE, hSR⟩ := hv
  have hx := Bk.exec
  have hb := Bk.bytes
  have hr := Bk.returns
  have hlocks := Bk.notSynchronized
  have hC : CallFix p m c cX12_strength 1 s _ wsX12_strength RX12 := ⟨hx, hb, hml, findClass_of_methodNamed Bk.named, atoms_spec (ws := wsX12_strength) Bk.pre⟩
  subst hsz
  have hD := hD0.self (sz := s.heap.size)
  generalize hAe : va_A w0 s.heap.size = A at hD hE ⊢
  have hA : ∀ q : Nat, s.heap.size ≤ q → A q := fun q h => by rw [← hAe]; exact Or.inr h
  have hw : Wd dC dI A s.heap s.heap [] w0 := ⟨hP, hD, va_S.rf⟩
  have hF : FE ksM ([] : List (Nat × Nat × Nat)) w0 w0 := FE.rf
  have hl := lv_entry ([.int 13]) (n := 1) (Nat.le_of_ble_eq_true rfl)
  rw [lg_entry_eq]
  generalize (lg_sl ([.int 13]) ++ List.replicate (1 - (lg_sl ([.int 13])).length) Slot.unset).toArray = ls at hl ⊢
  have hl : lv_has ls 1 [(0, .int 13)] := hl
  generalize hloc : ([] : List Loc) = locs at hw ⊢
  refine lv_iload_n hx hb dX12_strength_0 rfl (lv_at hl 0 rfl) ?_
  refine lv_bipush (v := 13) hx hb dX12_strength_1 (by decide) ?_
  refine lv_icmp_ne (tgt := 10) hx hb dX12_strength_3 (by decide) (fun c => absurd (by decide) c) (fun _ => ?_)
  refine lv_iconst (v := 1) hx hb dX12_strength_6 (by decide) ?_
  refine lv_goto (tgt := 31) hx hb dX12_strength_7 (by decide) ?_
  exact tk_iret hC hr hlocks hK ⟨rfl, rfl⟩ hw dX12_strength_31
abbrev P_X12_tested_1 (ad : Nat → Nat) (cy : Nat → ClassId) (B : Int) (qr : Nat) (s1 : Int)  (w0 : va_W) : Int32 → va_W → Prop := fun r u => TW ksM ad cy B qr 12 u ∧ FE ksM [(12, 14, 14), (12, 15, 15), (12, 16, 16), (12, 18, 18), (12, 19, 19), (12, 22, 22), (61, 0, 2400), (62, 0, 7), (68, 0, 400)] w0 u ∧ ((r = 0 ∧ (∃ y : Int32, gi u 0 1 = y ∧ 1 ≤ y.toInt ∧ y.toInt ≤ 400) ∧ (∃ y : Int32, gi u 0 15 = y ∧ 1 ≤ y.toInt ∧ y.toInt ≤ 3205) ∧ (∃ y : Int32, gi u 0 17 = y ∧ 0 ≤ y.toInt ∧ y.toInt ≤ 5) ∧ (∃ y : Int32, gi u 0 22 = y ∧ 0 ≤ y.toInt ∧ y.toInt ≤ 399)) ∨ (r = 0 ∧ (∃ y : Int32, gi u 0 1 = y ∧ 0 ≤ y.toInt ∧ y.toInt ≤ 400) ∧ (∃ y : Int32, gi u 0 15 = y ∧ 1 ≤ y.toInt ∧ y.toInt ≤ 3205) ∧ (∃ y : Int32, gi u 0 17 = y ∧ 0 ≤ y.toInt ∧ y.toInt ≤ 5) ∧ (∃ y : Int32, gi u 0 22 = y ∧ 0 ≤ y.toInt ∧ y.toInt ≤ 399)) ∨ (r = 1 ∧ (∃ y : Int32, gi u 0 17 = y ∧ 0 ≤ y.toInt ∧ y.toInt ≤ 5) ∧ (∃ y : Int32, gi u 0 19 = y ∧ (-60) ≤ y.toInt ∧ y.toInt ≤ 10) ∧ (∃ y : Int32, gi u 0 22 = y ∧ 0 ≤ y.toInt ∧ y.toInt ≤ 390) ∧ (3 * (gi u 3 ((gi u 0 17).toInt).toNat).toInt ≤ 14 * (gi u 0 18).toInt)))
set_option maxHeartbeats 4000000 in
set_option maxRecDepth 100000 in
theorem k_X12_tested_1 (l : Launch) (adK adV : Nat → Nat) (dC : Nat → ClassId) (dI : Nat → Nat → Nat) (cy : Nat → ClassId) (ad : Nat → Nat) (B : Int) (hB0 : 100000 ≤ B) (hB1 : B ≤ 1073741824) (qr : Nat) (s1 : Int)   (w0 : va_W) (sz : Nat) (hT : TW ksM ad cy B qr 12 w0) (f0_ : Int32) (cf0_ : gi w0 0 17 = f0_) (rf0_ : 0 ≤ f0_.toInt) (tf0_ : f0_.toInt ≤ 5) (f1_ : Int32) (cf1_ : gi w0 0 18 = f1_) (rf1_ : 0 ≤ f1_.toInt) (tf1_ : f1_.toInt ≤ 60) (f2_ : Int32) (cf2_ : gi w0 0 19 = f2_) (rf2_ : (-100) ≤ f2_.toInt) (tf2_ : f2_.toInt ≤ 10) (f3_ : Int32) (cf3_ : gi w0 0 22 = f3_) (rf3_ : 0 ≤ f3_.toInt) (tf3_ : f3_.toInt ≤ 400) (f4_ : Int32) (cf4_ : gi w0 3 (f0_.toInt).toNat = f4_) (rf4_ : 0 ≤ f4_.toInt) (tf4_ : f4_.toInt ≤ 400) (pr0_ : 3 * f4_.toInt ≤ 14 * f1_.toInt) (pr1_ : f4_.toInt ≤ 280) : Met l yX12_tested wsX12_tested ({ frames := 9, cells := 0, slots := 0, locals := 188 }) (va_Pc [.ref (ad 0)] (wpreS adK adV dC dI cy sz w0)) (va_Qi (P_X12_tested_1 ad cy B qr s1  w0) (fun u : va_W => wpost dC dI cy (va_A w0 sz) u) (va_A w0 sz)) 0 0 (va_A w0 sz) := by
  refine Met.ofW (cc := cX12_tested) (maxL := 3) (ret := (some .boolean)) (by decide) rfl ?_
  intro p e s m args below meth c s₁ Bk hml hv
  obtain ⟨rfl, ⟨hsz, hP, hK, hD0⟩, hE, hSR⟩ := hv
  have hx := Bk.exec
  have hb := Bk.bytes
  have hr := Bk.returns
  have hlocks := Bk.notSynchronized
  have hC : CallFix p m c cX12_tested 3 s _ wsX12_tested RX12 := ⟨hx, hb, hml, findClass_of_methodNamed Bk.named, atoms_spec (ws := wsX12_tested) Bk.pre⟩
  subst hsz
  have hD := hD0.self (sz := s.heap.size)
  generalize hAe : va_A w0 s.heap.size = A at hD hE ⊢
  have hA : ∀ q : Nat, s.heap.size ≤ q → A q := fun q h => by rw [← hAe]; exact Or.inr h
  have hw : Wd dC dI A s.heap s.heap [] w0 := ⟨hP, hD, va_S.rf⟩
  have hF : FE ksM [(12, 14, 14), (12, 15, 15), (12, 16, 16), (12, 18, 18), (12, 19, 19), (12, 22, 22), (61, 0, 2400), (62, 0, 7), (68, 0, 400)] w0 w0 := FE.rf
  have hl := lv_entry ([.ref (ad 0)]) (n := 3) (Nat.le_of_ble_eq_true rfl)
  rw [lg_entry_eq]
  generalize (lg_sl ([.ref (ad 0)]) ++ List.replicate (3 - (lg_sl ([.ref (ad 0)])).length) Slot.unset).toArray = ls at hl ⊢
  have hl : lv_has ls 3 [(0, .ref (ad 0))] := hl
  generalize hloc : ([] : List Loc) = locs at hw ⊢
  have hinX12 : ∀ w ∈ u_ws RX12 TX12 42, w ∈ wsX12_tested := fun _ h => List.mem_cons_of_mem _ (List.mem_append_right _ (h))
  have L12 : ∀ (n12 : Nat) (v12_1 : Int32) (f12_0_18 : Int32) (f12_0_19 : Int32) (f12_0_22 : Int32) (f12_3__f0__toInt_toNat : Int32) (H : Heap) (locs : List Loc) (ls : Array Slot) (w1 : va_W), 0 ≤ v12_1.toInt → v12_1.toInt ≤ 1 → 0 ≤ f0_.toInt → f0_.toInt ≤ 5 → 0 ≤ f12_0_18.toInt → f12_0_18.toInt ≤ 60 → (-60) ≤ f12_0_19.toInt → f12_0_19.toInt ≤ 10 → 0 ≤ f12_0_22.toInt → f12_0_22.toInt ≤ 280 → 0 ≤ f12_3__f0__toInt_toNat.toInt → f12_3__f0__toInt_toNat.toInt ≤ 280 → ((binN w1 (f12_0_22.toInt).toNat : Int) = f12_0_22.toInt - f12_0_19.toInt) → (3 * (f12_3__f0__toInt_toNat.toInt + f12_0_22.toInt) ≤ 14 * f12_0_18.toInt) → (f12_0_22.toInt ≤ f12_0_19.toInt + f12_0_18.toInt) → (f12_3__f0__toInt_toNat.toInt ≤ 280) → (f12_0_22.toInt ≤ 280) → (-60 ≤ f12_0_19.toInt) → (60 - f12_0_18.toInt).toNat < n12 → Wd dC dI A s.heap H locs w1 → TW ksM ad cy B qr 12 w1 → FE ksM [(12, 14, 14), (12, 15, 15), (12, 16, 16), (12, 18, 18), (12, 19, 19), (12, 22, 22), (61, 0, 2400), (62, 0, 7), (68, 0, 400)] w0 w1 → gi w1 0 17 = f0_ → gi w1 0 18 = f12_0_18 → gi w1 0 19 = f12_0_19 → gi w1 0 22 = f12_0_22 → gi w1 3 (f0_.toInt).toNat = f12_3__f0__toInt_toNat → lv_has ls 3 [(0, .ref (ad 0)), (1, .int v12_1)] → W p l e ({ frames := 9, cells := 0, slots := 0, locals := 188 }) s m (List.toArray [.ref (ad 0)]) below meth c H locs 0 0 (MQ below (va_Qi (P_X12_tested_1 ad cy B qr s1  w0) (fun u : va_W => wpost dC dI cy A u) A) (List.toArray [.ref (ad 0)]) s 0 0 A) (F0 m 12 ls []) := by
    intro n12
    induction n12 with
    | zero => intro v12_1 f12_0_18 f12_0_19 f12_0_22 f12_3__f0__toInt_toNat H locs ls w1 r2 t3 r4 t5 r7 t8 r10 t11 r13 t14 r16 t17 hcr12_0 hcr12_1 hcr12_2 hcr12_3 hcr12_4 hcr12_5 hm12 hw hT hF c6 c9 c12 c15 c18 hl; omega
    | succ n12 ih12 =>
      intro v12_1 f12_0_18 f12_0_19 f12_0_22 f12_3__f0__toInt_toNat H locs ls w1 r2 t3 r4 t5 r7 t8 r10 t11 r13 t14 r16 t17 hcr12_0 hcr12_1 hcr12_2 hcr12_3 hcr12_4 hcr12_5 hm12 hw hT hF c6 c9 c12 c15 c18 hl
      have J49 : ∀ (f49_0_1 : Int32) (f49_0_14 : Int32) (f49_0_18 : Int32) (f49_0_19 : Int32) (f49_0_22 : Int32) (f49_3__f0__toInt_toNat : Int32) (H : Heap) (locs : List Loc) (ls : Array Slot) (w19 : va_W), 1 ≤ f49_0_1.toInt → f49_0_1.toInt ≤ 400 → 0 ≤ f49_0_14.toInt → f49_0_14.toInt ≤ 400 → 0 ≤ f0_.toInt → f0_.toInt ≤ 5 → 1 ≤ f49_0_18.toInt → f49_0_18.toInt ≤ 60 → (-60) ≤ f49_0_19.toInt → f49_0_19.toInt ≤ 10 → 0 ≤ f49_0_22.toInt → f49_0_22.toInt ≤ 280 → 0 ≤ f49_3__f0__toInt_toNat.toInt → f49_3__f0__toInt_toNat.toInt ≤ 280 → ((binN w19 (f49_0_22.toInt).toNat : Int) = f49_0_22.toInt - f49_0_19.toInt) → (3 * (f49_3__f0__toInt_toNat.toInt + f49_0_22.toInt) ≤ 14 * f49_0_18.toInt) → (f49_0_22.toInt ≤ f49_0_19.toInt + f49_0_18.toInt) → (f49_3__f0__toInt_toNat.toInt ≤ 280) → (f49_0_22.toInt ≤ 280) → (-60 ≤ f49_0_19.toInt) → Wd dC dI A s.heap H locs w19 → TW ksM ad cy B qr 12 w19 → FE ksM [(12, 14, 14), (12, 15, 15), (12, 16, 16), (12, 18, 18), (12, 19, 19), (12, 22, 22), (61, 0, 2400), (62, 0, 7), (68, 0, 400)] w0 w19 → gi w19 0 1 = f49_0_1 → gi w19 0 14 = f49_0_14 → gi w19 0 17 = f0_ → gi w19 0 18 = f49_0_18 → gi w19 0 19 = f49_0_19 → gi w19 0 22 = f49_0_22 → gi w19 3 (f0_.toInt).toNat = f49_3__f0__toInt_toNat → lv_has ls 3 [(0, .ref (ad 0)), (1, .int 1)] → W p l e ({ frames := 9, cells := 0, slots := 0, locals := 188 }) s m (List.toArray [.ref (ad 0)]) below meth c H locs 0 0 (MQ below (va_Qi (P_X12_tested_1 ad cy B qr s1  w0) (fun u : va_W => wpost dC dI cy A u) A) (List.toArray [.ref (ad 0)]) s 0 0 A) (F0 m 49 ls []) := by
        intro f49_0_1 f49_0_14 f49_0_18 f49_0_19 f49_0_22 f49_3__f0__toInt_toNat H locs ls w19 r20 t21 r23 t24 r26 t27 r29 t30 r32 t33 r35 t36 r38 t39 hcr49_0 hcr49_1 hcr49_2 hcr49_3 hcr49_4 hcr49_5 hw hT hF c22 c25 c28 c31 c34 c37 c40 hl
        have gl41 := bin_le w19 (f49_0_22.toInt).toNat
        refine lv_iconst (v := 1) hx hb dX12_tested_49 (by decide) ?_
        refine lv_goto (tgt := 54) hx hb dX12_tested_50 (by decide) ?_
        refine lv_istore_n (lv' := [(1, .int 1), (0, .ref (ad 0))]) hx hb dX12_tested_54 rfl hl (by decide) rfl (fun ls hl => ?_)
        refine lv_iload_n hx hb dX12_tested_55 rfl (lv_at hl 0 rfl) ?_
        refine lv_if_eq (tgt := 12) hx hb dX12_tested_56 (by decide) (fun c => absurd c (by decide)) (fun _ => ?_)
        refine lv_aload_n hx hb dX12_tested_59 rfl (lv_at hl 1 rfl) ?_
        refine lv_ldc2 (v := 6385252) hx hb hC.2.2.2.1 (hC.2.2.2.2 _ (List.mem_of_getElem? (i := 3) rfl)) dX12_tested_60 ?_
        refine tk_Vi hC hK hw hT hA hE hSR kM_at0 (by decide) rfl (k_X12_isWord_22 l adK adV dC dI cy ad B (by omega) (by omega) qr s1    w19 H.size hT f49_0_14 c25 (show 0 ≤ f49_0_14.toInt by omega) (show f49_0_14.toInt ≤ 400 by omega)) (cwV 1 hC.2.2.2.2 gX12_tested_X12_isWord rfl rfl rfl (by decide +kernel) ⟨Nat.le_of_ble_eq_true rfl, Nat.le_of_ble_eq_true rfl⟩) rfl hl.1 rfl (Nat.le_of_ble_eq_true rfl) dX12_tested_63 (fun r42 w44 H locs hp43 hw => ?_)
        obtain ⟨hT, k45, hg52⟩ := hp43
        have gn53 : binN w44 (f49_0_22.toInt).toNat = binN w19 (f49_0_22.toInt).toNat := bin_FE _ k45 (fun _ => rfl)
        have hF := hF.tr k45 (by decide)
        have c54 := k45.gi kM_at0 (by decide) c22
        have c55 := k45.gi kM_at0 (by decide) c28
        have c56 := k45.gi kM_at0 (by decide) c31
        have c57 := k45.gi kM_at0 (by decide) c34
        have c58 := k45.gi kM_at0 (by decide) c37
        have c59 := k45.gi kM_at3 rfl c40
        rcases hg52 with ⟨rfl, ⟨x46, c47, rx46, tx46⟩, g48⟩ | ⟨rfl, ⟨x49, c50, rx49, tx49⟩, g51⟩
        · have ex46 : x46.toInt = f49_0_1.toInt := by rw [← c54.symm.trans c47]
          obtain ⟨x60, c61, rx60, tx60⟩ := hT.rdi (lo := 0) (hi := 400) (k := 14) kM_at0 (by decide) rfl
          have g48 : (x60.toInt = f49_0_14.toInt ∨ (gi w19 1 (f49_0_14.toInt).toNat).toInt = 32) := by have q := g48; simp only [c28, c55, c25, c61] at q; omega
          refine lv_if_eq (tgt := 74) hx hb dX12_tested_66 (by decide) (fun _ => ?_) (fun c => absurd (by decide) c)
          refine lv_bipush (v := 13) hx hb dX12_tested_74 (by decide) ?_
          refine lv_istore_n (lv' := [(2, .int 13), (1, .int 1), (0, .ref (ad 0))]) hx hb dX12_tested_76 rfl hl (by decide) rfl (fun ls hl => ?_)
          refine lv_aload_n hx hb dX12_tested_77 rfl (lv_at hl 2 rfl) ?_
          refine tk_Vv hC hK hw hT hA hE hSR kM_at0 (by decide) rfl (k_X12_passWord_1 l adK adV dC dI cy ad B (by omega) (by omega) qr s1    w44 H.size hT ) (cwV 0 hC.2.2.2.2 gX12_tested_X12_passWord rfl rfl rfl (by decide +kernel) ⟨Nat.le_of_ble_eq_true rfl, Nat.le_of_ble_eq_true rfl⟩) rfl hl.1 rfl (Nat.le_of_ble_eq_true rfl) dX12_tested_78 (fun w66 H locs hp65 hw => ?_)
          obtain ⟨hT, k67, hg74⟩ := hp65
          have gn75 : binN w66 (f49_0_22.toInt).toNat = binN w44 (f49_0_22.toInt).toNat := bin_FE _ k67 (fun _ => rfl)
          have hF := hF.tr k67 (by decide)
          have c76 := k67.gi kM_at0 (by decide) c54
          have c77 := k67.gi kM_at0 (by decide) c55
          have c78 := k67.gi kM_at0 (by decide) c56
          have c79 := k67.gi kM_at0 (by decide) c57
          have c80 := k67.gi kM_at0 (by decide) c58
          have c81 := k67.gi kM_at3 rfl c59
          rcases hg74 with ⟨⟨x68, c69, rx68, tx68⟩, ⟨x70, c71, rx70, tx70⟩⟩ | ⟨x72, c73, rx72, tx72⟩
          · have ex68 : x68.toInt = f49_0_1.toInt := by rw [← c76.symm.trans c69]
            refine lv_aload_n hx hb dX12_tested_81 rfl (lv_at hl 2 rfl) ?_
            refine lv_iload_n hx hb dX12_tested_82 rfl (lv_at hl 0 rfl) ?_
            refine tk_Si hC hK hw hT hA hE hSR (k_X12_strength_3 l adK adV dC dI cy ad B (by omega) (by omega) qr s1    w66 H.size hT ) (va_cwS 1 hC.2.2.2.2 gX12_tested_X12_strength rfl rfl rfl (by decide +kernel) ⟨Nat.le_of_ble_eq_true rfl, Nat.le_of_ble_eq_true rfl⟩) rfl hl.1 rfl (Nat.le_of_ble_eq_true rfl) dX12_tested_83 (fun r82 w84 H locs hp83 hw => ?_)
            obtain ⟨rfl, hg86⟩ := hp83
            obtain rfl := hg86
            refine tk_Vv hC hK hw hT hA hE hSR kM_at0 (by decide) rfl (k_X12_settles_1 l adK adV dC dI cy ad B (by omega) (by omega) qr s1    w66 H.size hT f0_ c77 (show 0 ≤ f0_.toInt by omega) (show f0_.toInt ≤ 5 by omega) f49_0_18 c78 (show 0 ≤ f49_0_18.toInt by omega) (show f49_0_18.toInt ≤ 60 by omega) f49_0_19 c79 (show (-100) ≤ f49_0_19.toInt by omega) (show f49_0_19.toInt ≤ 10 by omega) f49_0_22 c80 (show 0 ≤ f49_0_22.toInt by omega) (show f49_0_22.toInt ≤ 400 by omega) f49_3__f0__toInt_toNat c81 (show 0 ≤ f49_3__f0__toInt_toNat.toInt by omega) (show f49_3__f0__toInt_toNat.toInt ≤ 400 by omega) (show f49_3__f0__toInt_toNat.toInt + f49_0_22.toInt ≤ 390 by omega) (show f49_0_22.toInt ≤ f49_0_19.toInt + f49_0_18.toInt by omega) (show f49_3__f0__toInt_toNat.toInt ≤ 390 by omega) (show f49_0_22.toInt ≤ 390 by omega) (show (binN w66 (f49_0_22.toInt).toNat : Int) = f49_0_22.toInt - f49_0_19.toInt by omega)) (cwV 1 hC.2.2.2.2 gX12_tested_X12_settles rfl rfl rfl (by decide +kernel) ⟨Nat.le_of_ble_eq_true rfl, Nat.le_of_ble_eq_true rfl⟩) rfl hl.1 rfl (Nat.le_of_ble_eq_true rfl) dX12_tested_86 (fun w89 H locs hp88 hw => ?_)
            obtain ⟨hT, k90, hg106⟩ := hp88
            have gn107 : binN w89 (f49_0_22.toInt).toNat = binN w66 (f49_0_22.toInt).toNat := bin_FE _ k90 (fun _ => rfl)
            have hF := hF.tr k90 (by decide)
            have c108 := k90.gi kM_at0 (by decide) c76
            have c109 := k90.gi kM_at0 (by decide) c77
            have c110 := k90.gi kM_at0 (by decide) c78
            have c111 := k90.gi kM_at0 (by decide) c71
            obtain ⟨⟨x91, c92, rx91, tx91⟩, ⟨x93, c94, rx93, tx93⟩, ⟨x95, c96, rx95, tx95⟩, hq97, g98, g99, g100, g101, g102, g103, g104, g105⟩ := hg106
            have ex91 : x91.toInt = f0_.toInt := by rw [← c109.symm.trans c92]
            obtain ⟨x112, c113, rx112, tx112⟩ := hT.rda (lo := 0) (hi := 400) (i := (f0_.toInt).toNat) kM_at3 rfl rfl (by omega)
            have g98 : x112.toInt + x95.toInt = f49_3__f0__toInt_toNat.toInt + f49_0_22.toInt := by have q := g98; simp only [c77, c109, c81, c113, c80, c96] at q; omega
            have g99 : x95.toInt ≤ f49_0_22.toInt := by have q := g99; simp only [c77, c109, c80, c96] at q; omega
            have g100 : x95.toInt + f49_0_19.toInt ≤ f49_0_22.toInt + x93.toInt := by have q := g100; simp only [c77, c109, c79, c94, c80, c96] at q; omega
            have g101 : x95.toInt ≤ x93.toInt + f49_0_18.toInt := by have q := g101; simp only [c77, c109, c94, c78, c96] at q; omega
            have g102 : x95.toInt ≤ 390 := by have q := g102; simp only [c77, c109, c96] at q; omega
            have g103 : x112.toInt ≤ 390 := by have q := g103; simp only [c77, c109, c113] at q; omega
            have g104 : brkN w66 (x95.toInt).toNat = brkN w66 (f49_0_22.toInt).toNat := by have q := g104; simp only [c77, c109, c80, c96] at q; omega
            have g105 : (binN w89 (x95.toInt).toNat : Int) = x95.toInt - x93.toInt := by have q := g105; simp only [c77, c109, c94, c96] at q; omega
            refine lv_aload_n hx hb dX12_tested_89 rfl (lv_at hl 2 rfl) ?_
            refine tk_getA hC hK hw hT hinX12 kM_at0 (by decide) rfl 21 (by decide) (List.mem_of_getElem? (i := 5) rfl) rfl rfl dX12_tested_90 ?_
            refine lv_aload_n hx hb dX12_tested_93 rfl (lv_at hl 2 rfl) ?_
            refine tk_geti hC hK hw hT hinX12 kM_at0 (by decide) rfl 22 (by decide) (List.mem_of_getElem? (i := 1) rfl) rfl rfl dX12_tested_94 (fun x114 c115 rx114 tx114 => ?_)
            refine wk_top x95 (c115.symm.trans c96) ?_
            refine lv_iload_n hx hb dX12_tested_97 rfl (lv_at hl 0 rfl) ?_
            refine tk_iast hC hK hw hT kM_at9 (by decide) rfl rfl (show 0 ≤ x95.toInt by omega) (show x95.toInt < 400 by omega) (by decide) (by decide) dX12_tested_98 (fun H locs w116 hw hT k118 c117 => ?_)
            have gn119 : binN w116 (x95.toInt).toNat = binN w89 (x95.toInt).toNat := bin_ge _ k118 (show (x95.toInt).toNat ≤ x95.toInt.toNat by omega)
            have gx120 : (gi w116 9 (x95.toInt).toNat).toInt = (13 : Int) := by rw [show gi w116 9 (x95.toInt).toNat = 13 from c117]; decide
            have hF := hF.put kM_at9 (inE_of (a := 0) (b := 400) (by decide) (show 0 ≤ x95.toInt.toNat by omega) (show x95.toInt.toNat ≤ 400 by omega)) k118
            have c121 := k118.gi (Or.inl (tk_ne kM_at0 kM_at9 (by decide))) c108
            have c122 := k118.gi (Or.inl (tk_ne kM_at0 kM_at9 (by decide))) c109
            have c123 := k118.gi (Or.inl (tk_ne kM_at0 kM_at9 (by decide))) c110
            have c124 := k118.gi (Or.inl (tk_ne kM_at0 kM_at9 (by decide))) c111
            have c125 := k118.gi (Or.inl (tk_ne kM_at0 kM_at9 (by decide))) c94
            have c126 := k118.gi (Or.inl (tk_ne kM_at0 kM_at9 (by decide))) c96
            have c127 := k118.gi (Or.inl (tk_ne kM_at3 kM_at9 (by decide))) c113
            refine lv_aload_n hx hb dX12_tested_99 rfl (lv_at hl 2 rfl) ?_
            refine lv_dup hx hb dX12_tested_100 rfl ?_
            refine tk_geti hC hK hw hT hinX12 kM_at0 (by decide) rfl 22 (by decide) (List.mem_of_getElem? (i := 1) rfl) rfl rfl dX12_tested_101 (fun x128 c129 rx128 tx128 => ?_)
            refine wk_top x95 (c129.symm.trans c126) ?_
            refine lv_iconst (v := 1) hx hb dX12_tested_104 (by decide) ?_
            refine lv_iadd hx hb dX12_tested_105 ?_
            refine lv_topi (fun x130 ex130 => ?_)
            have ex130 : x130.toInt = x95.toInt + (1 : Int) := by rw [ex130]; exact wk_add (show (-2147483648) ≤ x95.toInt + (1 : Int) by omega) (show x95.toInt + (1 : Int) ≤ 2147483647 by omega)
            refine tk_puti hC hK hw hT hinX12 tyX12_ok nmX12 kM_at0 (by decide) rfl rfl 22 (by decide) (List.mem_of_getElem? (i := 1) rfl) rfl rfl rfl rfl (show 0 ≤ x130.toInt by omega) (show x130.toInt ≤ 400 by omega) dX12_tested_106 (fun H locs w131 hw hT k133 c132 => ?_)
            have gn134 : binN w131 (x95.toInt).toNat = binN w116 (x95.toInt).toNat := bin_F1 _ k133 (by decide)
            have gn135 : binN w131 (x130.toInt).toNat = binN w116 (x130.toInt).toNat := bin_F1 _ k133 (by decide)
            have gt136 := bin_top (w := w116) (a := x130.toInt) (b := x95.toInt) (by omega) (by omega)
            have hF := hF.put kM_at0 (k := 22) (by decide) k133
            have c137 := k133.gi (Or.inr (by decide)) c121
            have c138 := k133.gi (Or.inr (by decide)) c122
            have c139 := k133.gi (Or.inr (by decide)) c123
            have c140 := k133.gi (Or.inr (by decide)) c124
            have c141 := k133.gi (Or.inr (by decide)) c125
            have c142 := k133.gi (Or.inl (tk_ne kM_at3 kM_at0 (by decide))) c127
            refine lv_goto (tgt := 12) hx hb dX12_tested_109 (by decide) ?_
            exact ih12 1 f49_0_18 x93 x130 x112 H locs ls w131 (by decide) (by decide) (show 0 ≤ f0_.toInt by omega) (show f0_.toInt ≤ 5 by omega) (show 0 ≤ f49_0_18.toInt by omega) (show f49_0_18.toInt ≤ 60 by omega) (show (-60) ≤ x93.toInt by omega) (show x93.toInt ≤ 10 by omega) (show 0 ≤ x130.toInt by omega) (show x130.toInt ≤ 280 by omega) (show 0 ≤ x112.toInt by omega) (show x112.toInt ≤ 280 by omega) (show (binN w131 (x130.toInt).toNat : Int) = x130.toInt - x93.toInt by omega) (show 3 * (x112.toInt + x130.toInt) ≤ 14 * f49_0_18.toInt by omega) (show x130.toInt ≤ x93.toInt + f49_0_18.toInt by omega) (show x112.toInt ≤ 280 by omega) (show x130.toInt ≤ 280 by omega) (show -60 ≤ x93.toInt by omega) (show (60 - f49_0_18.toInt).toNat < n12 by omega) hw hT hF c138 c139 c141 c132 c142 (lv_sub hl [2, 1] rfl)
          · have ex72 : x72.toInt = f49_0_1.toInt := by rw [← c76.symm.trans c73]
            refine lv_aload_n hx hb dX12_tested_81 rfl (lv_at hl 2 rfl) ?_
            refine lv_iload_n hx hb dX12_tested_82 rfl (lv_at hl 0 rfl) ?_
            refine tk_Si hC hK hw hT hA hE hSR (k_X12_strength_3 l adK adV dC dI cy ad B (by omega) (by omega) qr s1    w66 H.size hT ) (va_cwS 1 hC.2.2.2.2 gX12_tested_X12_strength rfl rfl rfl (by decide +kernel) ⟨Nat.le_of_ble_eq_true rfl, Nat.le_of_ble_eq_true rfl⟩) rfl hl.1 rfl (Nat.le_of_ble_eq_true rfl) dX12_tested_83 (fun r143 w145 H locs hp144 hw => ?_)
            obtain ⟨rfl, hg147⟩ := hp144
            obtain rfl := hg147
            refine tk_Vv hC hK hw hT hA hE hSR kM_at0 (by decide) rfl (k_X12_settles_1 l adK adV dC dI cy ad B (by omega) (by omega) qr s1    w66 H.size hT f0_ c77 (show 0 ≤ f0_.toInt by omega) (show f0_.toInt ≤ 5 by omega) f49_0_18 c78 (show 0 ≤ f49_0_18.toInt by omega) (show f49_0_18.toInt ≤ 60 by omega) f49_0_19 c79 (show (-100) ≤ f49_0_19.toInt by omega) (show f49_0_19.toInt ≤ 10 by omega) f49_0_22 c80 (show 0 ≤ f49_0_22.toInt by omega) (show f49_0_22.toInt ≤ 400 by omega) f49_3__f0__toInt_toNat c81 (show 0 ≤ f49_3__f0__toInt_toNat.toInt by omega) (show f49_3__f0__toInt_toNat.toInt ≤ 400 by omega) (show f49_3__f0__toInt_toNat.toInt + f49_0_22.toInt ≤ 390 by omega) (show f49_0_22.toInt ≤ f49_0_19.toInt + f49_0_18.toInt by omega) (show f49_3__f0__toInt_toNat.toInt ≤ 390 by omega) (show f49_0_22.toInt ≤ 390 by omega) (show (binN w66 (f49_0_22.toInt).toNat : Int) = f49_0_22.toInt - f49_0_19.toInt by omega)) (cwV 1 hC.2.2.2.2 gX12_tested_X12_settles rfl rfl rfl (by decide +kernel) ⟨Nat.le_of_ble_eq_true rfl, Nat.le_of_ble_eq_true rfl⟩) rfl hl.1 rfl (Nat.le_of_ble_eq_true rfl) dX12_tested_86 (fun w150 H locs hp149 hw => ?_)
            obtain ⟨hT, k151, hg167⟩ := hp149
            have gn168 : binN w150 (f49_0_22.toInt).toNat = binN w66 (f49_0_22.toInt).toNat := bin_FE _ k151 (fun _ => rfl)
            have hF := hF.tr k151 (by decide)
            have c169 := k151.gi kM_at0 (by decide) c76
            have c170 := k151.gi kM_at0 (by decide) c77
            have c171 := k151.gi kM_at0 (by decide) c78
            obtain ⟨⟨x152, c153, rx152, tx152⟩, ⟨x154, c155, rx154, tx154⟩, ⟨x156, c157, rx156, tx156⟩, hq158, g159, g160, g161, g162, g163, g164, g165, g166⟩ := hg167
            have ex152 : x152.toInt = f0_.toInt := by rw [← c170.symm.trans c153]
            obtain ⟨x172, c173, rx172, tx172⟩ := hT.rda (lo := 0) (hi := 400) (i := (f0_.toInt).toNat) kM_at3 rfl rfl (by omega)
            have g159 : x172.toInt + x156.toInt = f49_3__f0__toInt_toNat.toInt + f49_0_22.toInt := by have q := g159; simp only [c77, c170, c81, c173, c80, c157] at q; omega
            have g160 : x156.toInt ≤ f49_0_22.toInt := by have q := g160; simp only [c77, c170, c80, c157] at q; omega
            have g161 : x156.toInt + f49_0_19.toInt ≤ f49_0_22.toInt + x154.toInt := by have q := g161; simp only [c77, c170, c79, c155, c80, c157] at q; omega
            have g162 : x156.toInt ≤ x154.toInt + f49_0_18.toInt := by have q := g162; simp only [c77, c170, c155, c78, c157] at q; omega
            have g163 : x156.toInt ≤ 390 := by have q := g163; simp only [c77, c170, c157] at q; omega
            have g164 : x172.toInt ≤ 390 := by have q := g164; simp only [c77, c170, c173] at q; omega
            have g165 : brkN w66 (x156.toInt).toNat = brkN w66 (f49_0_22.toInt).toNat := by have q := g165; simp only [c77, c170, c80, c157] at q; omega
            have g166 : (binN w150 (x156.toInt).toNat : Int) = x156.toInt - x154.toInt := by have q := g166; simp only [c77, c170, c155, c157] at q; omega
            refine lv_aload_n hx hb dX12_tested_89 rfl (lv_at hl 2 rfl) ?_
            refine tk_getA hC hK hw hT hinX12 kM_at0 (by decide) rfl 21 (by decide) (List.mem_of_getElem? (i := 5) rfl) rfl rfl dX12_tested_90 ?_
            refine lv_aload_n hx hb dX12_tested_93 rfl (lv_at hl 2 rfl) ?_
            refine tk_geti hC hK hw hT hinX12 kM_at0 (by decide) rfl 22 (by decide) (List.mem_of_getElem? (i := 1) rfl) rfl rfl dX12_tested_94 (fun x174 c175 rx174 tx174 => ?_)
            refine wk_top x156 (c175.symm.trans c157) ?_
            refine lv_iload_n hx hb dX12_tested_97 rfl (lv_at hl 0 rfl) ?_
            refine tk_iast hC hK hw hT kM_at9 (by decide) rfl rfl (show 0 ≤ x156.toInt by omega) (show x156.toInt < 400 by omega) (by decide) (by decide) dX12_tested_98 (fun H locs w176 hw hT k178 c177 => ?_)
            have gn179 : binN w176 (x156.toInt).toNat = binN w150 (x156.toInt).toNat := bin_ge _ k178 (show (x156.toInt).toNat ≤ x156.toInt.toNat by omega)
            have gx180 : (gi w176 9 (x156.toInt).toNat).toInt = (13 : Int) := by rw [show gi w176 9 (x156.toInt).toNat = 13 from c177]; decide
            have hF := hF.put kM_at9 (inE_of (a := 0) (b := 400) (by decide) (show 0 ≤ x156.toInt.toNat by omega) (show x156.toInt.toNat ≤ 400 by omega)) k178
            have c181 := k178.gi (Or.inl (tk_ne kM_at0 kM_at9 (by decide))) c169
            have c182 := k178.gi (Or.inl (tk_ne kM_at0 kM_at9 (by decide))) c170
            have c183 := k178.gi (Or.inl (tk_ne kM_at0 kM_at9 (by decide))) c171
            have c184 := k178.gi (Or.inl (tk_ne kM_at0 kM_at9 (by decide))) c155
            have c185 := k178.gi (Or.inl (tk_ne kM_at0 kM_at9 (by decide))) c157
            have c186 := k178.gi (Or.inl (tk_ne kM_at3 kM_at9 (by decide))) c173
            refine lv_aload_n hx hb dX12_tested_99 rfl (lv_at hl 2 rfl) ?_
            refine lv_dup hx hb dX12_tested_100 rfl ?_
            refine tk_geti hC hK hw hT hinX12 kM_at0 (by decide) rfl 22 (by decide) (List.mem_of_getElem? (i := 1) rfl) rfl rfl dX12_tested_101 (fun x187 c188 rx187 tx187 => ?_)
            refine wk_top x156 (c188.symm.trans c185) ?_
            refine lv_iconst (v := 1) hx hb dX12_tested_104 (by decide) ?_
            refine lv_iadd hx hb dX12_tested_105 ?_
            refine lv_topi (fun x189 ex189 => ?_)
            have ex189 : x189.toInt = x156.toInt + (1 : Int) := by rw [ex189]; exact wk_add (show (-2147483648) ≤ x156.toInt + (1 : Int) by omega) (show x156.toInt + (1 : Int) ≤ 2147483647 by omega)
            refine tk_puti hC hK hw hT hinX12 tyX12_ok nmX12 kM_at0 (by decide) rfl rfl 22 (by decide) (List.mem_of_getElem? (i := 1) rfl) rfl rfl rfl rfl (show 0 ≤ x189.toInt by omega) (show x189.toInt ≤ 400 by omega) dX12_tested_106 (fun H locs w190 hw hT k192 c191 => ?_)
            have gn193 : binN w190 (x156.toInt).toNat = binN w176 (x156.toInt).toNat := bin_F1 _ k192 (by decide)
            have gn194 : binN w190 (x189.toInt).toNat = binN w176 (x189.toInt).toNat := bin_F1 _ k192 (by decide)
            have gt195 := bin_top (w := w176) (a := x189.toInt) (b := x156.toInt) (by omega) (by omega)
            have hF := hF.put kM_at0 (k := 22) (by decide) k192
            have c196 := k192.gi (Or.inr (by decide)) c181
            have c197 := k192.gi (Or.inr (by decide)) c182
            have c198 := k192.gi (Or.inr (by decide)) c183
            have c199 := k192.gi (Or.inr (by decide)) c184
            have c200 := k192.gi (Or.inl (tk_ne kM_at3 kM_at0 (by decide))) c186
            refine lv_goto (tgt := 12) hx hb dX12_tested_109 (by decide) ?_
            exact ih12 1 f49_0_18 x154 x189 x172 H locs ls w190 (by decide) (by decide) (show 0 ≤ f0_.toInt by omega) (show f0_.toInt ≤ 5 by omega) (show 0 ≤ f49_0_18.toInt by omega) (show f49_0_18.toInt ≤ 60 by omega) (show (-60) ≤ x154.toInt by omega) (show x154.toInt ≤ 10 by omega) (show 0 ≤ x189.toInt by omega) (show x189.toInt ≤ 280 by omega) (show 0 ≤ x172.toInt by omega) (show x172.toInt ≤ 280 by omega) (show (binN w190 (x189.toInt).toNat : Int) = x189.toInt - x154.toInt by omega) (show 3 * (x172.toInt + x189.toInt) ≤ 14 * f49_0_18.toInt by omega) (show x189.toInt ≤ x154.toInt + f49_0_18.toInt by omega) (show x172.toInt ≤ 280 by omega) (show x189.toInt ≤ 280 by omega) (show -60 ≤ x154.toInt by omega) (show (60 - f49_0_18.toInt).toNat < n12 by omega) hw hT hF c197 c198 c199 c191 c200 (lv_sub hl [2, 1] rfl)
        · have ex49 : x49.toInt = f49_0_1.toInt := by rw [← c54.symm.trans c50]
          obtain ⟨x62, c63, rx62, tx62⟩ := hT.rdi (lo := 0) (hi := 400) (k := 14) kM_at0 (by decide) rfl
          have g51 : (x62.toInt = f49_0_14.toInt ∨ (gi w19 1 (f49_0_14.toInt).toNat).toInt = 32) := by have q := g51; simp only [c28, c55, c25, c63] at q; omega
          refine lv_if_eq (tgt := 74) hx hb dX12_tested_66 (by decide) (fun c => absurd c (by decide)) (fun _ => ?_)
          refine lv_bipush (v := 12) hx hb dX12_tested_69 (by decide) ?_
          refine lv_goto (tgt := 76) hx hb dX12_tested_71 (by decide) ?_
          refine lv_istore_n (lv' := [(2, .int 12), (1, .int 1), (0, .ref (ad 0))]) hx hb dX12_tested_76 rfl hl (by decide) rfl (fun ls hl => ?_)
          refine lv_aload_n hx hb dX12_tested_77 rfl (lv_at hl 2 rfl) ?_
          refine tk_Vv hC hK hw hT hA hE hSR kM_at0 (by decide) rfl (k_X12_passWord_1 l adK adV dC dI cy ad B (by omega) (by omega) qr s1    w44 H.size hT ) (cwV 0 hC.2.2.2.2 gX12_tested_X12_passWord rfl rfl rfl (by decide +kernel) ⟨Nat.le_of_ble_eq_true rfl, Nat.le_of_ble_eq_true rfl⟩) rfl hl.1 rfl (Nat.le_of_ble_eq_true rfl) dX12_tested_78 (fun w203 H locs hp202 hw => ?_)
          obtain ⟨hT, k204, hg211⟩ := hp202
          have gn212 : binN w203 (f49_0_22.toInt).toNat = binN w44 (f49_0_22.toInt).toNat := bin_FE _ k204 (fun _ => rfl)
          have hF := hF.tr k204 (by decide)
          have c213 := k204.gi kM_at0 (by decide) c54
          have c214 := k204.gi kM_at0 (by decide) c55
          have c215 := k204.gi kM_at0 (by decide) c56
          have c216 := k204.gi kM_at0 (by decide) c57
          have c217 := k204.gi kM_at0 (by decide) c58
          have c218 := k204.gi kM_at3 rfl c59
          rcases hg211 with ⟨⟨x205, c206, rx205, tx205⟩, ⟨x207, c208, rx207, tx207⟩⟩ | ⟨x209, c210, rx209, tx209⟩
          · have ex205 : x205.toInt = f49_0_1.toInt := by rw [← c213.symm.trans c206]
            refine lv_aload_n hx hb dX12_tested_81 rfl (lv_at hl 2 rfl) ?_
            refine lv_iload_n hx hb dX12_tested_82 rfl (lv_at hl 0 rfl) ?_
            refine tk_Si hC hK hw hT hA hE hSR (k_X12_strength_2 l adK adV dC dI cy ad B (by omega) (by omega) qr s1    w203 H.size hT ) (va_cwS 1 hC.2.2.2.2 gX12_tested_X12_strength rfl rfl rfl (by decide +kernel) ⟨Nat.le_of_ble_eq_true rfl, Nat.le_of_ble_eq_true rfl⟩) rfl hl.1 rfl (Nat.le_of_ble_eq_true rfl) dX12_tested_83 (fun r219 w221 H locs hp220 hw => ?_)
            obtain ⟨rfl, hg223⟩ := hp220
            obtain rfl := hg223
            refine tk_Vv hC hK hw hT hA hE hSR kM_at0 (by decide) rfl (k_X12_settles_3 l adK adV dC dI cy ad B (by omega) (by omega) qr s1    w203 H.size hT f0_ c214 (show 0 ≤ f0_.toInt by omega) (show f0_.toInt ≤ 5 by omega) f49_0_18 c215 (show 0 ≤ f49_0_18.toInt by omega) (show f49_0_18.toInt ≤ 60 by omega) f49_0_19 c216 (show (-100) ≤ f49_0_19.toInt by omega) (show f49_0_19.toInt ≤ 10 by omega) f49_0_22 c217 (show 0 ≤ f49_0_22.toInt by omega) (show f49_0_22.toInt ≤ 400 by omega) f49_3__f0__toInt_toNat c218 (show 0 ≤ f49_3__f0__toInt_toNat.toInt by omega) (show f49_3__f0__toInt_toNat.toInt ≤ 400 by omega) (show f49_3__f0__toInt_toNat.toInt + f49_0_22.toInt ≤ 390 by omega) (show f49_0_22.toInt ≤ f49_0_19.toInt + f49_0_18.toInt by omega) (show f49_3__f0__toInt_toNat.toInt ≤ 390 by omega) (show f49_0_22.toInt ≤ 390 by omega) (show (binN w203 (f49_0_22.toInt).toNat : Int) = f49_0_22.toInt - f49_0_19.toInt by omega)) (cwV 1 hC.2.2.2.2 gX12_tested_X12_settles rfl rfl rfl (by decide +kernel) ⟨Nat.le_of_ble_eq_true rfl, Nat.le_of_ble_eq_true rfl⟩) rfl hl.1 rfl (Nat.le_of_ble_eq_true rfl) dX12_tested_86 (fun w226 H locs hp225 hw => ?_)
            obtain ⟨hT, k227, hg242⟩ := hp225
            have gn243 : binN w226 (f49_0_22.toInt).toNat = binN w203 (f49_0_22.toInt).toNat := bin_FE _ k227 (fun _ => rfl)
            have hF := hF.tr k227 (by decide)
            have c244 := k227.gi kM_at0 (by decide) c213
            have c245 := k227.gi kM_at0 (by decide) c214
            have c246 := k227.gi kM_at0 (by decide) c215
            have c247 := k227.gi kM_at0 (by decide) c208
            obtain ⟨⟨x228, c229, rx228, tx228⟩, ⟨x230, c231, rx230, tx230⟩, ⟨x232, c233, rx232, tx232⟩, g234, g235, g236, g237, g238, g239, g240, g241⟩ := hg242
            have ex228 : x228.toInt = f0_.toInt := by rw [← c245.symm.trans c229]
            obtain ⟨x248, c249, rx248, tx248⟩ := hT.rda (lo := 0) (hi := 400) (i := (f0_.toInt).toNat) kM_at3 rfl rfl (by omega)
            have g234 : x248.toInt + x232.toInt = f49_3__f0__toInt_toNat.toInt + f49_0_22.toInt := by have q := g234; simp only [c214, c245, c218, c249, c217, c233] at q; omega
            have g235 : x232.toInt ≤ f49_0_22.toInt := by have q := g235; simp only [c214, c245, c217, c233] at q; omega
            have g236 : x232.toInt + f49_0_19.toInt ≤ f49_0_22.toInt + x230.toInt := by have q := g236; simp only [c214, c245, c216, c231, c217, c233] at q; omega
            have g237 : x232.toInt ≤ x230.toInt + f49_0_18.toInt := by have q := g237; simp only [c214, c245, c231, c215, c233] at q; omega
            have g238 : x232.toInt ≤ 390 := by have q := g238; simp only [c214, c245, c233] at q; omega
            have g239 : x248.toInt ≤ 390 := by have q := g239; simp only [c214, c245, c249] at q; omega
            have g240 : brkN w203 (x232.toInt).toNat = brkN w203 (f49_0_22.toInt).toNat := by have q := g240; simp only [c214, c245, c217, c233] at q; omega
            have g241 : (binN w226 (x232.toInt).toNat : Int) = x232.toInt - x230.toInt := by have q := g241; simp only [c214, c245, c231, c233] at q; omega
            refine lv_aload_n hx hb dX12_tested_89 rfl (lv_at hl 2 rfl) ?_
            refine tk_getA hC hK hw hT hinX12 kM_at0 (by decide) rfl 21 (by decide) (List.mem_of_getElem? (i := 5) rfl) rfl rfl dX12_tested_90 ?_
            refine lv_aload_n hx hb dX12_tested_93 rfl (lv_at hl 2 rfl) ?_
            refine tk_geti hC hK hw hT hinX12 kM_at0 (by decide) rfl 22 (by decide) (List.mem_of_getElem? (i := 1) rfl) rfl rfl dX12_tested_94 (fun x250 c251 rx250 tx250 => ?_)
            refine wk_top x232 (c251.symm.trans c233) ?_
            refine lv_iload_n hx hb dX12_tested_97 rfl (lv_at hl 0 rfl) ?_
            refine tk_iast hC hK hw hT kM_at9 (by decide) rfl rfl (show 0 ≤ x232.toInt by omega) (show x232.toInt < 400 by omega) (by decide) (by decide) dX12_tested_98 (fun H locs w252 hw hT k254 c253 => ?_)
            have gn255 : binN w252 (x232.toInt).toNat = binN w226 (x232.toInt).toNat := bin_ge _ k254 (show (x232.toInt).toNat ≤ x232.toInt.toNat by omega)
            have gx256 : (gi w252 9 (x232.toInt).toNat).toInt = (12 : Int) := by rw [show gi w252 9 (x232.toInt).toNat = 12 from c253]; decide
            have hF := hF.put kM_at9 (inE_of (a := 0) (b := 400) (by decide) (show 0 ≤ x232.toInt.toNat by omega) (show x232.toInt.toNat ≤ 400 by omega)) k254
            have c257 := k254.gi (Or.inl (tk_ne kM_at0 kM_at9 (by decide))) c244
            have c258 := k254.gi (Or.inl (tk_ne kM_at0 kM_at9 (by decide))) c245
            have c259 := k254.gi (Or.inl (tk_ne kM_at0 kM_at9 (by decide))) c246
            have c260 := k254.gi (Or.inl (tk_ne kM_at0 kM_at9 (by decide))) c247
            have c261 := k254.gi (Or.inl (tk_ne kM_at0 kM_at9 (by decide))) c231
            have c262 := k254.gi (Or.inl (tk_ne kM_at0 kM_at9 (by decide))) c233
            have c263 := k254.gi (Or.inl (tk_ne kM_at3 kM_at9 (by decide))) c249
            refine lv_aload_n hx hb dX12_tested_99 rfl (lv_at hl 2 rfl) ?_
            refine lv_dup hx hb dX12_tested_100 rfl ?_
            refine tk_geti hC hK hw hT hinX12 kM_at0 (by decide) rfl 22 (by decide) (List.mem_of_getElem? (i := 1) rfl) rfl rfl dX12_tested_101 (fun x264 c265 rx264 tx264 => ?_)
            refine wk_top x232 (c265.symm.trans c262) ?_
            refine lv_iconst (v := 1) hx hb dX12_tested_104 (by decide) ?_
            refine lv_iadd hx hb dX12_tested_105 ?_
            refine lv_topi (fun x266 ex266 => ?_)
            have ex266 : x266.toInt = x232.toInt + (1 : Int) := by rw [ex266]; exact wk_add (show (-2147483648) ≤ x232.toInt + (1 : Int) by omega) (show x232.toInt + (1 : Int) ≤ 2147483647 by omega)
            refine tk_puti hC hK hw hT hinX12 tyX12_ok nmX12 kM_at0 (by decide) rfl rfl 22 (by decide) (List.mem_of_getElem? (i := 1) rfl) rfl rfl rfl rfl (show 0 ≤ x266.toInt by omega) (show x266.toInt ≤ 400 by omega) dX12_tested_106 (fun H locs w267 hw hT k269 c268 => ?_)
            have gn270 : binN w267 (x232.toInt).toNat = binN w252 (x232.toInt).toNat := bin_F1 _ k269 (by decide)
            have gn271 : binN w267 (x266.toInt).toNat = binN w252 (x266.toInt).toNat := bin_F1 _ k269 (by decide)
            have gt272 := bin_top (w := w252) (a := x266.toInt) (b := x232.toInt) (by omega) (by omega)
            have hF := hF.put kM_at0 (k := 22) (by decide) k269
            have c273 := k269.gi (Or.inr (by decide)) c257
            have c274 := k269.gi (Or.inr (by decide)) c258
            have c275 := k269.gi (Or.inr (by decide)) c259
            have c276 := k269.gi (Or.inr (by decide)) c260
            have c277 := k269.gi (Or.inr (by decide)) c261
            have c278 := k269.gi (Or.inl (tk_ne kM_at3 kM_at0 (by decide))) c263
            refine lv_goto (tgt := 12) hx hb dX12_tested_109 (by decide) ?_
            exact ih12 1 f49_0_18 x230 x266 x248 H locs ls w267 (by decide) (by decide) (show 0 ≤ f0_.toInt by omega) (show f0_.toInt ≤ 5 by omega) (show 0 ≤ f49_0_18.toInt by omega) (show f49_0_18.toInt ≤ 60 by omega) (show (-60) ≤ x230.toInt by omega) (show x230.toInt ≤ 10 by omega) (show 0 ≤ x266.toInt by omega) (show x266.toInt ≤ 280 by omega) (show 0 ≤ x248.toInt by omega) (show x248.toInt ≤ 280 by omega) (show (binN w267 (x266.toInt).toNat : Int) = x266.toInt - x230.toInt by omega) (show 3 * (x248.toInt + x266.toInt) ≤ 14 * f49_0_18.toInt by omega) (show x266.toInt ≤ x230.toInt + f49_0_18.toInt by omega) (show x248.toInt ≤ 280 by omega) (show x266.toInt ≤ 280 by omega) (show -60 ≤ x230.toInt by omega) (show (60 - f49_0_18.toInt).toNat < n12 by omega) hw hT hF c274 c275 c277 c268 c278 (lv_sub hl [2, 1] rfl)
          · have ex209 : x209.toInt = f49_0_1.toInt := by rw [← c213.symm.trans c210]
            refine lv_aload_n hx hb dX12_tested_81 rfl (lv_at hl 2 rfl) ?_
            refine lv_iload_n hx hb dX12_tested_82 rfl (lv_at hl 0 rfl) ?_
            refine tk_Si hC hK hw hT hA hE hSR (k_X12_strength_2 l adK adV dC dI cy ad B (by omega) (by omega) qr s1    w203 H.size hT ) (va_cwS 1 hC.2.2.2.2 gX12_tested_X12_strength rfl rfl rfl (by decide +kernel) ⟨Nat.le_of_ble_eq_true rfl, Nat.le_of_ble_eq_true rfl⟩) rfl hl.1 rfl (Nat.le_of_ble_eq_true rfl) dX12_tested_83 (fun r279 w281 H locs hp280 hw => ?_)
            obtain ⟨rfl, hg283⟩ := hp280
            obtain rfl := hg283
            refine tk_Vv hC hK hw hT hA hE hSR kM_at0 (by decide) rfl (k_X12_settles_3 l adK adV dC dI cy ad B (by omega) (by omega) qr s1    w203 H.size hT f0_ c214 (show 0 ≤ f0_.toInt by omega) (show f0_.toInt ≤ 5 by omega) f49_0_18 c215 (show 0 ≤ f49_0_18.toInt by omega) (show f49_0_18.toInt ≤ 60 by omega) f49_0_19 c216 (show (-100) ≤ f49_0_19.toInt by omega) (show f49_0_19.toInt ≤ 10 by omega) f49_0_22 c217 (show 0 ≤ f49_0_22.toInt by omega) (show f49_0_22.toInt ≤ 400 by omega) f49_3__f0__toInt_toNat c218 (show 0 ≤ f49_3__f0__toInt_toNat.toInt by omega) (show f49_3__f0__toInt_toNat.toInt ≤ 400 by omega) (show f49_3__f0__toInt_toNat.toInt + f49_0_22.toInt ≤ 390 by omega) (show f49_0_22.toInt ≤ f49_0_19.toInt + f49_0_18.toInt by omega) (show f49_3__f0__toInt_toNat.toInt ≤ 390 by omega) (show f49_0_22.toInt ≤ 390 by omega) (show (binN w203 (f49_0_22.toInt).toNat : Int) = f49_0_22.toInt - f49_0_19.toInt by omega)) (cwV 1 hC.2.2.2.2 gX12_tested_X12_settles rfl rfl rfl (by decide +kernel) ⟨Nat.le_of_ble_eq_true rfl, Nat.le_of_ble_eq_true rfl⟩) rfl hl.1 rfl (Nat.le_of_ble_eq_true rfl) dX12_tested_86 (fun w286 H locs hp285 hw => ?_)
            obtain ⟨hT, k287, hg302⟩ := hp285
            have gn303 : binN w286 (f49_0_22.toInt).toNat = binN w203 (f49_0_22.toInt).toNat := bin_FE _ k287 (fun _ => rfl)
            have hF := hF.tr k287 (by decide)
            have c304 := k287.gi kM_at0 (by decide) c213
            have c305 := k287.gi kM_at0 (by decide) c214
            have c306 := k287.gi kM_at0 (by decide) c215
            obtain ⟨⟨x288, c289, rx288, tx288⟩, ⟨x290, c291, rx290, tx290⟩, ⟨x292, c293, rx292, tx292⟩, g294, g295, g296, g297, g298, g299, g300, g301⟩ := hg302
            have ex288 : x288.toInt = f0_.toInt := by rw [← c305.symm.trans c289]
            obtain ⟨x307, c308, rx307, tx307⟩ := hT.rda (lo := 0) (hi := 400) (i := (f0_.toInt).toNat) kM_at3 rfl rfl (by omega)
            have g294 : x307.toInt + x292.toInt = f49_3__f0__toInt_toNat.toInt + f49_0_22.toInt := by have q := g294; simp only [c214, c305, c218, c308, c217, c293] at q; omega
            have g295 : x292.toInt ≤ f49_0_22.toInt := by have q := g295; simp only [c214, c305, c217, c293] at q; omega
            have g296 : x292.toInt + f49_0_19.toInt ≤ f49_0_22.toInt + x290.toInt := by have q := g296; simp only [c214, c305, c216, c291, c217, c293] at q; omega
            have g297 : x292.toInt ≤ x290.toInt + f49_0_18.toInt := by have q := g297; simp only [c214, c305, c291, c215, c293] at q; omega
            have g298 : x292.toInt ≤ 390 := by have q := g298; simp only [c214, c305, c293] at q; omega
            have g299 : x307.toInt ≤ 390 := by have q := g299; simp only [c214, c305, c308] at q; omega
            have g300 : brkN w203 (x292.toInt).toNat = brkN w203 (f49_0_22.toInt).toNat := by have q := g300; simp only [c214, c305, c217, c293] at q; omega
            have g301 : (binN w286 (x292.toInt).toNat : Int) = x292.toInt - x290.toInt := by have q := g301; simp only [c214, c305, c291, c293] at q; omega
            refine lv_aload_n hx hb dX12_tested_89 rfl (lv_at hl 2 rfl) ?_
            refine tk_getA hC hK hw hT hinX12 kM_at0 (by decide) rfl 21 (by decide) (List.mem_of_getElem? (i := 5) rfl) rfl rfl dX12_tested_90 ?_
            refine lv_aload_n hx hb dX12_tested_93 rfl (lv_at hl 2 rfl) ?_
            refine tk_geti hC hK hw hT hinX12 kM_at0 (by decide) rfl 22 (by decide) (List.mem_of_getElem? (i := 1) rfl) rfl rfl dX12_tested_94 (fun x309 c310 rx309 tx309 => ?_)
            refine wk_top x292 (c310.symm.trans c293) ?_
            refine lv_iload_n hx hb dX12_tested_97 rfl (lv_at hl 0 rfl) ?_
            refine tk_iast hC hK hw hT kM_at9 (by decide) rfl rfl (show 0 ≤ x292.toInt by omega) (show x292.toInt < 400 by omega) (by decide) (by decide) dX12_tested_98 (fun H locs w311 hw hT k313 c312 => ?_)
            have gn314 : binN w311 (x292.toInt).toNat = binN w286 (x292.toInt).toNat := bin_ge _ k313 (show (x292.toInt).toNat ≤ x292.toInt.toNat by omega)
            have gx315 : (gi w311 9 (x292.toInt).toNat).toInt = (12 : Int) := by rw [show gi w311 9 (x292.toInt).toNat = 12 from c312]; decide
            have hF := hF.put kM_at9 (inE_of (a := 0) (b := 400) (by decide) (show 0 ≤ x292.toInt.toNat by omega) (show x292.toInt.toNat ≤ 400 by omega)) k313
            have c316 := k313.gi (Or.inl (tk_ne kM_at0 kM_at9 (by decide))) c304
            have c317 := k313.gi (Or.inl (tk_ne kM_at0 kM_at9 (by decide))) c305
            have c318 := k313.gi (Or.inl (tk_ne kM_at0 kM_at9 (by decide))) c306
            have c319 := k313.gi (Or.inl (tk_ne kM_at0 kM_at9 (by decide))) c291
            have c320 := k313.gi (Or.inl (tk_ne kM_at0 kM_at9 (by decide))) c293
            have c321 := k313.gi (Or.inl (tk_ne kM_at3 kM_at9 (by decide))) c308
            refine lv_aload_n hx hb dX12_tested_99 rfl (lv_at hl 2 rfl) ?_
            refine lv_dup hx hb dX12_tested_100 rfl ?_
            refine tk_geti hC hK hw hT hinX12 kM_at0 (by decide) rfl 22 (by decide) (List.mem_of_getElem? (i := 1) rfl) rfl rfl dX12_tested_101 (fun x322 c323 rx322 tx322 => ?_)
            refine wk_top x292 (c323.symm.trans c320) ?_
            refine lv_iconst (v := 1) hx hb dX12_tested_104 (by decide) ?_
            refine lv_iadd hx hb dX12_tested_105 ?_
            refine lv_topi (fun x324 ex324 => ?_)
            have ex324 : x324.toInt = x292.toInt + (1 : Int) := by rw [ex324]; exact wk_add (show (-2147483648) ≤ x292.toInt + (1 : Int) by omega) (show x292.toInt + (1 : Int) ≤ 2147483647 by omega)
            refine tk_puti hC hK hw hT hinX12 tyX12_ok nmX12 kM_at0 (by decide) rfl rfl 22 (by decide) (List.mem_of_getElem? (i := 1) rfl) rfl rfl rfl rfl (show 0 ≤ x324.toInt by omega) (show x324.toInt ≤ 400 by omega) dX12_tested_106 (fun H locs w325 hw hT k327 c326 => ?_)
            have gn328 : binN w325 (x292.toInt).toNat = binN w311 (x292.toInt).toNat := bin_F1 _ k327 (by decide)
            have gn329 : binN w325 (x324.toInt).toNat = binN w311 (x324.toInt).toNat := bin_F1 _ k327 (by decide)
            have gt330 := bin_top (w := w311) (a := x324.toInt) (b := x292.toInt) (by omega) (by omega)
            have hF := hF.put kM_at0 (k := 22) (by decide) k327
            have c331 := k327.gi (Or.inr (by decide)) c316
            have c332 := k327.gi (Or.inr (by decide)) c317
            have c333 := k327.gi (Or.inr (by decide)) c318
            have c334 := k327.gi (Or.inr (by decide)) c319
            have c335 := k327.gi (Or.inl (tk_ne kM_at3 kM_at0 (by decide))) c321
            refine lv_goto (tgt := 12) hx hb dX12_tested_109 (by decide) ?_
            exact ih12 1 f49_0_18 x290 x324 x307 H locs ls w325 (by decide) (by decide) (show 0 ≤ f0_.toInt by omega) (show f0_.toInt ≤ 5 by omega) (show 0 ≤ f49_0_18.toInt by omega) (show f49_0_18.toInt ≤ 60 by omega) (show (-60) ≤ x290.toInt by omega) (show x290.toInt ≤ 10 by omega) (show 0 ≤ x324.toInt by omega) (show x324.toInt ≤ 280 by omega) (show 0 ≤ x307.toInt by omega) (show x307.toInt ≤ 280 by omega) (show (binN w325 (x324.toInt).toNat : Int) = x324.toInt - x290.toInt by omega) (show 3 * (x307.toInt + x324.toInt) ≤ 14 * f49_0_18.toInt by omega) (show x324.toInt ≤ x290.toInt + f49_0_18.toInt by omega) (show x307.toInt ≤ 280 by omega) (show x324.toInt ≤ 280 by omega) (show -60 ≤ x290.toInt by omega) (show (60 - f49_0_18.toInt).toNat < n12 by omega) hw hT hF c332 c333 c334 c326 c335 (lv_sub hl [2, 1] rfl)
      have gl336 := bin_le w1 (f12_0_22.toInt).toNat
      refine lv_iload_n hx hb dX12_tested_12 rfl (lv_at hl 1 rfl) ?_
      refine lv_if_eq (tgt := 112) hx hb dX12_tested_13 (by decide) (fun c337 => ?_) (fun c337 => ?_)
      · have c337 : v12_1.toInt = (0 : Int) := wk_eq.mp c337
        refine lv_aload_n hx hb dX12_tested_112 rfl (lv_at hl 0 rfl) ?_
        refine tk_Vi hC hK hw hT hA hE hSR kM_at0 (by decide) rfl (k_X12_isInside_1 l adK adV dC dI cy ad B (by omega) (by omega) qr s1    w1 H.size hT ) (cwV 0 hC.2.2.2.2 gX12_tested_X12_isInside rfl rfl rfl (by decide +kernel) ⟨Nat.le_of_ble_eq_true rfl, Nat.le_of_ble_eq_true rfl⟩) rfl hl.1 rfl (Nat.le_of_ble_eq_true rfl) dX12_tested_113 (fun r338 w340 H locs hp339 hw => ?_)
        obtain ⟨rfl, hg345⟩ := hp339
        rcases hg345 with rfl | ⟨rfl, ⟨x342, c343, rx342, tx342⟩, hq344⟩
        · refine lv_if_eq (tgt := 134) hx hb dX12_tested_116 (by decide) (fun _ => ?_) (fun c => absurd (by decide) c)
          refine lv_aload_n hx hb dX12_tested_134 rfl (lv_at hl 0 rfl) ?_
          refine lv_iconst (v := 1) hx hb dX12_tested_135 (by decide) ?_
          refine tk_Vv hC hK hw hT hA hE hSR kM_at0 (by decide) rfl (k_X12_settles_1 l adK adV dC dI cy ad B (by omega) (by omega) qr s1    w1 H.size hT f0_ c6 (show 0 ≤ f0_.toInt by omega) (show f0_.toInt ≤ 5 by omega) f12_0_18 c9 (show 0 ≤ f12_0_18.toInt by omega) (show f12_0_18.toInt ≤ 60 by omega) f12_0_19 c12 (show (-100) ≤ f12_0_19.toInt by omega) (show f12_0_19.toInt ≤ 10 by omega) f12_0_22 c15 (show 0 ≤ f12_0_22.toInt by omega) (show f12_0_22.toInt ≤ 400 by omega) f12_3__f0__toInt_toNat c18 (show 0 ≤ f12_3__f0__toInt_toNat.toInt by omega) (show f12_3__f0__toInt_toNat.toInt ≤ 400 by omega) (show f12_3__f0__toInt_toNat.toInt + f12_0_22.toInt ≤ 390 by omega) (show f12_0_22.toInt ≤ f12_0_19.toInt + f12_0_18.toInt by omega) (show f12_3__f0__toInt_toNat.toInt ≤ 390 by omega) (show f12_0_22.toInt ≤ 390 by omega) (show (binN w1 (f12_0_22.toInt).toNat : Int) = f12_0_22.toInt - f12_0_19.toInt by omega)) (cwV 1 hC.2.2.2.2 gX12_tested_X12_settles rfl rfl rfl (by decide +kernel) ⟨Nat.le_of_ble_eq_true rfl, Nat.le_of_ble_eq_true rfl⟩) rfl hl.1 rfl (Nat.le_of_ble_eq_true rfl) dX12_tested_136 (fun w348 H locs hp347 hw => ?_)
          obtain ⟨hT, k349, hg365⟩ := hp347
          have gn366 : binN w348 (f12_0_22.toInt).toNat = binN w1 (f12_0_22.toInt).toNat := bin_FE _ k349 (fun _ => rfl)
          have hF := hF.tr k349 (by decide)
          have c367 := k349.gi kM_at0 (by decide) c6
          have c368 := k349.gi kM_at0 (by decide) c9
          obtain ⟨⟨x350, c351, rx350, tx350⟩, ⟨x352, c353, rx352, tx352⟩, ⟨x354, c355, rx354, tx354⟩, hq356, g357, g358, g359, g360, g361, g362, g363, g364⟩ := hg365
          have ex350 : x350.toInt = f0_.toInt := by rw [← c367.symm.trans c351]
          obtain ⟨x369, c370, rx369, tx369⟩ := hT.rda (lo := 0) (hi := 400) (i := (f0_.toInt).toNat) kM_at3 rfl rfl (by omega)
          have g357 : x369.toInt + x354.toInt = f12_3__f0__toInt_toNat.toInt + f12_0_22.toInt := by have q := g357; simp only [c6, c367, c18, c370, c15, c355] at q; omega
          have g358 : x354.toInt ≤ f12_0_22.toInt := by have q := g358; simp only [c6, c367, c15, c355] at q; omega
          have g359 : x354.toInt + f12_0_19.toInt ≤ f12_0_22.toInt + x352.toInt := by have q := g359; simp only [c6, c367, c12, c353, c15, c355] at q; omega
          have g360 : x354.toInt ≤ x352.toInt + f12_0_18.toInt := by have q := g360; simp only [c6, c367, c353, c9, c355] at q; omega
          have g361 : x354.toInt ≤ 390 := by have q := g361; simp only [c6, c367, c355] at q; omega
          have g362 : x369.toInt ≤ 390 := by have q := g362; simp only [c6, c367, c370] at q; omega
          have g363 : brkN w1 (x354.toInt).toNat = brkN w1 (f12_0_22.toInt).toNat := by have q := g363; simp only [c6, c367, c15, c355] at q; omega
          have g364 : (binN w348 (x354.toInt).toNat : Int) = x354.toInt - x352.toInt := by have q := g364; simp only [c6, c367, c353, c355] at q; omega
          refine lv_iconst (v := 1) hx hb dX12_tested_139 (by decide) ?_
          exact tk_zret hC hr rfl hlocks hK ⟨hT, hF, (Or.inr (Or.inr ⟨rfl, ⟨f0_, c367, (show 0 ≤ f0_.toInt by omega), (show f0_.toInt ≤ 5 by omega)⟩, ⟨x352, c353, (show (-60) ≤ x352.toInt by omega), (show x352.toInt ≤ 10 by omega)⟩, ⟨x354, c355, (show 0 ≤ x354.toInt by omega), (show x354.toInt ≤ 390 by omega)⟩, (by simp only [c367, cf0_, c370, c368]; omega)⟩))⟩ hw dX12_tested_140
        · have ex342 : x342.toInt = f12_0_22.toInt := by rw [← c15.symm.trans c343]
          refine lv_if_eq (tgt := 134) hx hb dX12_tested_116 (by decide) (fun c => absurd c (by decide)) (fun _ => ?_)
          refine lv_aload_n hx hb dX12_tested_119 rfl (lv_at hl 0 rfl) ?_
          obtain ⟨x371, c372, rx371, tx371⟩ := hT.rdi (lo := 0) (hi := 400) (k := 14) kM_at0 (by decide) rfl
          refine tk_Vi hC hK hw hT hA hE hSR kM_at0 (by decide) rfl (k_X12_see_1 l adK adV dC dI cy ad B (by omega) (by omega) qr s1    w1 H.size hT x371 c372 (show 0 ≤ x371.toInt by omega) (show x371.toInt ≤ 400 by omega)) (cwV 0 hC.2.2.2.2 gX12_tested_X12_see rfl rfl rfl (by decide +kernel) ⟨Nat.le_of_ble_eq_true rfl, Nat.le_of_ble_eq_true rfl⟩) rfl hl.1 rfl (Nat.le_of_ble_eq_true rfl) dX12_tested_120 (fun r373 w375 H locs hp374 hw => ?_)
          obtain ⟨hT, k376, hg393⟩ := hp374
          have gn394 : binN w375 (f12_0_22.toInt).toNat = binN w1 (f12_0_22.toInt).toNat := bin_FE _ k376 (fun _ => rfl)
          have hF := hF.tr k376 (by decide)
          have c395 := k376.gi kM_at0 (by decide) c6
          have c396 := k376.gi kM_at0 (by decide) c9
          have c397 := k376.gi kM_at0 (by decide) c12
          have c398 := k376.gi kM_at0 (by decide) c15
          have c399 := k376.gi kM_at3 rfl c18
          rcases hg393 with ⟨g377, g378, ⟨x379, c380, rx379, tx379⟩, ⟨x381, c382, rx381, tx381⟩, g383, g384⟩ | ⟨rfl, ⟨x385, c386, rx385, tx385⟩, ⟨x387, c388, rx387, tx387⟩, g389⟩ | ⟨rfl, ⟨x390, c391, rx390, tx390⟩, g392⟩
          · have g383 : (gi w375 1 (x381.toInt).toNat).toInt ≠ 32 := by have q := g383; simp only [c6, c395, c382] at q; omega
            have g384 : (x381.toInt = x371.toInt ∨ (gi w1 1 (x371.toInt).toNat).toInt = 32) := by have q := g384; simp only [c6, c395, c372, c382] at q; omega
            refine lv_pop hx hb dX12_tested_123 rfl ?_
            refine lv_aload_n hx hb dX12_tested_124 rfl (lv_at hl 0 rfl) ?_
            refine lv_iconst (v := 0) hx hb dX12_tested_125 (by decide) ?_
            refine lv_aload_n hx hb dX12_tested_126 rfl (lv_at hl 0 rfl) ?_
            refine tk_geti hC hK hw hT hinX12 kM_at0 (by decide) rfl 14 (by decide) (List.mem_of_getElem? (i := 6) rfl) rfl rfl dX12_tested_127 (fun x402 c403 rx402 tx402 => ?_)
            refine wk_top x381 (c403.symm.trans c382) ?_
            refine tk_Vi hC hK hw hT hA hE hSR kM_at0 (by decide) rfl (k_X12_fails_1 l adK adV dC dI cy ad B (by omega) (by omega) qr s1   0 (by decide) (by decide) x381 (show 0 ≤ x381.toInt by omega) (show x381.toInt ≤ 400 by omega) w375 H.size hT ) (cwV 2 hC.2.2.2.2 gX12_tested_X12_fails rfl rfl rfl (by decide +kernel) ⟨Nat.le_of_ble_eq_true rfl, Nat.le_of_ble_eq_true rfl⟩) rfl hl.1 rfl (Nat.le_of_ble_eq_true rfl) dX12_tested_130 (fun r404 w406 H locs hp405 hw => ?_)
            obtain ⟨hT, k407, hg410⟩ := hp405
            have gn411 : binN w406 (f12_0_22.toInt).toNat = binN w375 (f12_0_22.toInt).toNat := bin_FE _ k407 (fun _ => rfl)
            have hF := hF.tr k407 (by decide)
            have c412 := k407.gi kM_at0 (by decide) c395
            have c413 := k407.gi kM_at0 (by decide) c396
            have c414 := k407.gi kM_at0 (by decide) c397
            have c415 := k407.gi kM_at0 (by decide) c398
            have c416 := k407.gi kM_at3 rfl c399
            have c417 := k407.gi kM_at0 (by decide) c380
            have c418 := k407.gi kM_at0 (by decide) c382
            obtain ⟨rfl, ⟨x408, c409, rx408, tx408⟩⟩ := hg410
            exact tk_zret hC hr rfl hlocks hK ⟨hT, hF, (Or.inl ⟨rfl, ⟨x379, c417, (show 1 ≤ x379.toInt by omega), (show x379.toInt ≤ 400 by omega)⟩, ⟨x408, c409, (show 1 ≤ x408.toInt by omega), (show x408.toInt ≤ 3205 by omega)⟩, ⟨f0_, c412, (show 0 ≤ f0_.toInt by omega), (show f0_.toInt ≤ 5 by omega)⟩, ⟨f12_0_22, c415, (show 0 ≤ f12_0_22.toInt by omega), (show f12_0_22.toInt ≤ 399 by omega)⟩⟩)⟩ hw dX12_tested_133
          · have g389 : (x387.toInt = x371.toInt ∨ (gi w1 1 (x371.toInt).toNat).toInt = 32) := by have q := g389; simp only [c6, c395, c372, c388] at q; omega
            refine lv_pop hx hb dX12_tested_123 rfl ?_
            refine lv_aload_n hx hb dX12_tested_124 rfl (lv_at hl 0 rfl) ?_
            refine lv_iconst (v := 0) hx hb dX12_tested_125 (by decide) ?_
            refine lv_aload_n hx hb dX12_tested_126 rfl (lv_at hl 0 rfl) ?_
            refine tk_geti hC hK hw hT hinX12 kM_at0 (by decide) rfl 14 (by decide) (List.mem_of_getElem? (i := 6) rfl) rfl rfl dX12_tested_127 (fun x419 c420 rx419 tx419 => ?_)
            refine wk_top x387 (c420.symm.trans c388) ?_
            refine tk_Vi hC hK hw hT hA hE hSR kM_at0 (by decide) rfl (k_X12_fails_1 l adK adV dC dI cy ad B (by omega) (by omega) qr s1   0 (by decide) (by decide) x387 (show 0 ≤ x387.toInt by omega) (show x387.toInt ≤ 400 by omega) w375 H.size hT ) (cwV 2 hC.2.2.2.2 gX12_tested_X12_fails rfl rfl rfl (by decide +kernel) ⟨Nat.le_of_ble_eq_true rfl, Nat.le_of_ble_eq_true rfl⟩) rfl hl.1 rfl (Nat.le_of_ble_eq_true rfl) dX12_tested_130 (fun r421 w423 H locs hp422 hw => ?_)
            obtain ⟨hT, k424, hg427⟩ := hp422
            have gn428 : binN w423 (f12_0_22.toInt).toNat = binN w375 (f12_0_22.toInt).toNat := bin_FE _ k424 (fun _ => rfl)
            have hF := hF.tr k424 (by decide)
            have c429 := k424.gi kM_at0 (by decide) c395
            have c430 := k424.gi kM_at0 (by decide) c396
            have c431 := k424.gi kM_at0 (by decide) c397
            have c432 := k424.gi kM_at0 (by decide) c398
            have c433 := k424.gi kM_at3 rfl c399
            have c434 := k424.gi kM_at0 (by decide) c386
            have c435 := k424.gi kM_at0 (by decide) c388
            obtain ⟨rfl, ⟨x425, c426, rx425, tx425⟩⟩ := hg427
            exact tk_zret hC hr rfl hlocks hK ⟨hT, hF, (Or.inl ⟨rfl, ⟨x385, c434, (show 1 ≤ x385.toInt by omega), (show x385.toInt ≤ 400 by omega)⟩, ⟨x425, c426, (show 1 ≤ x425.toInt by omega), (show x425.toInt ≤ 3205 by omega)⟩, ⟨f0_, c429, (show 0 ≤ f0_.toInt by omega), (show f0_.toInt ≤ 5 by omega)⟩, ⟨f12_0_22, c432, (show 0 ≤ f12_0_22.toInt by omega), (show f12_0_22.toInt ≤ 399 by omega)⟩⟩)⟩ hw dX12_tested_133
          · obtain ⟨x400, c401, rx400, tx400⟩ := hT.rdi (lo := 0) (hi := 400) (k := 14) kM_at0 (by decide) rfl
            have g392 : (x400.toInt = x371.toInt ∨ (gi w1 1 (x371.toInt).toNat).toInt = 32) := by have q := g392; simp only [c6, c395, c372, c401] at q; omega
            refine lv_pop hx hb dX12_tested_123 rfl ?_
            refine lv_aload_n hx hb dX12_tested_124 rfl (lv_at hl 0 rfl) ?_
            refine lv_iconst (v := 0) hx hb dX12_tested_125 (by decide) ?_
            refine lv_aload_n hx hb dX12_tested_126 rfl (lv_at hl 0 rfl) ?_
            refine tk_geti hC hK hw hT hinX12 kM_at0 (by decide) rfl 14 (by decide) (List.mem_of_getElem? (i := 6) rfl) rfl rfl dX12_tested_127 (fun x436 c437 rx436 tx436 => ?_)
            refine wk_top x400 (c437.symm.trans c401) ?_
            refine tk_Vi hC hK hw hT hA hE hSR kM_at0 (by decide) rfl (k_X12_fails_1 l adK adV dC dI cy ad B (by omega) (by omega) qr s1   0 (by decide) (by decide) x400 (show 0 ≤ x400.toInt by omega) (show x400.toInt ≤ 400 by omega) w375 H.size hT ) (cwV 2 hC.2.2.2.2 gX12_tested_X12_fails rfl rfl rfl (by decide +kernel) ⟨Nat.le_of_ble_eq_true rfl, Nat.le_of_ble_eq_true rfl⟩) rfl hl.1 rfl (Nat.le_of_ble_eq_true rfl) dX12_tested_130 (fun r438 w440 H locs hp439 hw => ?_)
            obtain ⟨hT, k441, hg444⟩ := hp439
            have gn445 : binN w440 (f12_0_22.toInt).toNat = binN w375 (f12_0_22.toInt).toNat := bin_FE _ k441 (fun _ => rfl)
            have hF := hF.tr k441 (by decide)
            have c446 := k441.gi kM_at0 (by decide) c395
            have c447 := k441.gi kM_at0 (by decide) c396
            have c448 := k441.gi kM_at0 (by decide) c397
            have c449 := k441.gi kM_at0 (by decide) c398
            have c450 := k441.gi kM_at3 rfl c399
            have c451 := k441.gi kM_at0 (by decide) c391
            have c452 := k441.gi kM_at0 (by decide) c401
            obtain ⟨rfl, ⟨x442, c443, rx442, tx442⟩⟩ := hg444
            exact tk_zret hC hr rfl hlocks hK ⟨hT, hF, (Or.inr (Or.inl ⟨rfl, ⟨x390, c451, (show 0 ≤ x390.toInt by omega), (show x390.toInt ≤ 400 by omega)⟩, ⟨x442, c443, (show 1 ≤ x442.toInt by omega), (show x442.toInt ≤ 3205 by omega)⟩, ⟨f0_, c446, (show 0 ≤ f0_.toInt by omega), (show f0_.toInt ≤ 5 by omega)⟩, ⟨f12_0_22, c449, (show 0 ≤ f12_0_22.toInt by omega), (show f12_0_22.toInt ≤ 399 by omega)⟩⟩))⟩ hw dX12_tested_133
      · have c337 : ¬ v12_1.toInt = (0 : Int) := wk_eqF c337
        refine lv_aload_n hx hb dX12_tested_16 rfl (lv_at hl 0 rfl) ?_
        refine tk_Vi hC hK hw hT hA hE hSR kM_at0 (by decide) rfl (k_X12_fact_1 l adK adV dC dI cy ad B (by omega) (by omega) qr s1    w1 H.size hT f0_ c6 (show 0 ≤ f0_.toInt by omega) (show f0_.toInt ≤ 5 by omega) f12_0_18 c9 (show 0 ≤ f12_0_18.toInt by omega) (show f12_0_18.toInt ≤ 60 by omega) f12_0_19 c12 (show (-100) ≤ f12_0_19.toInt by omega) (show f12_0_19.toInt ≤ 10 by omega) f12_0_22 c15 (show 0 ≤ f12_0_22.toInt by omega) (show f12_0_22.toInt ≤ 400 by omega) f12_3__f0__toInt_toNat c18 (show 0 ≤ f12_3__f0__toInt_toNat.toInt by omega) (show f12_3__f0__toInt_toNat.toInt ≤ 400 by omega) (show 3 * (f12_3__f0__toInt_toNat.toInt + f12_0_22.toInt) ≤ 14 * f12_0_18.toInt by omega) (show f12_0_22.toInt ≤ f12_0_19.toInt + f12_0_18.toInt by omega) (show f12_3__f0__toInt_toNat.toInt ≤ 280 by omega) (show f12_0_22.toInt ≤ 280 by omega) (show (binN w1 (f12_0_22.toInt).toNat : Int) = f12_0_22.toInt - f12_0_19.toInt by omega)) (cwV 0 hC.2.2.2.2 gX12_tested_X12_fact rfl rfl rfl (by decide +kernel) ⟨Nat.le_of_ble_eq_true rfl, Nat.le_of_ble_eq_true rfl⟩) rfl hl.1 rfl (Nat.le_of_ble_eq_true rfl) dX12_tested_17 (fun r453 w455 H locs hp454 hw => ?_)
        obtain ⟨hT, k456, hg487⟩ := hp454
        have hF := hF.tr k456 (by decide)
        have c488 := k456.gi kM_at0 (by decide) c6
        rcases hg487 with ⟨rfl, ⟨x457, c458, rx457, tx457⟩, ⟨x459, c460, rx459, tx459⟩, ⟨x461, c462, rx461, tx461⟩, ⟨x463, c464, rx463, tx463⟩⟩ | ⟨rfl, ⟨x465, c466, rx465, tx465⟩, ⟨x467, c468, rx467, tx467⟩, ⟨x469, c470, rx469, tx469⟩, ⟨x471, c472, rx471, tx471⟩⟩ | ⟨rfl, ⟨x473, c474, rx473, tx473⟩, ⟨x475, c476, rx475, tx475⟩, ⟨x477, c478, rx477, tx477⟩, ⟨x479, c480, rx479, tx479⟩, g481, g482, g483, g484, g485, g486⟩
        · have ex461 : x461.toInt = f0_.toInt := by rw [← c488.symm.trans c462]
          obtain ⟨x489, c490, rx489, tx489⟩ := hT.rda (lo := 0) (hi := 400) (i := (f0_.toInt).toNat) kM_at3 rfl rfl (by omega)
          obtain ⟨x491, c492, rx491, tx491⟩ := hT.rdi (lo := 0) (hi := 60) (k := 18) kM_at0 (by decide) rfl
          obtain ⟨x493, c494, rx493, tx493⟩ := hT.rdi (lo := (-100)) (hi := 10) (k := 19) kM_at0 (by decide) rfl
          refine lv_if_ne (tgt := 25) hx hb dX12_tested_20 (by decide) (fun c => absurd (by decide) c) (fun _ => ?_)
          refine lv_iconst (v := 0) hx hb dX12_tested_23 (by decide) ?_
          exact tk_zret hC hr rfl hlocks hK ⟨hT, hF, (Or.inl ⟨rfl, ⟨x457, c458, (show 1 ≤ x457.toInt by omega), (show x457.toInt ≤ 400 by omega)⟩, ⟨x459, c460, (show 1 ≤ x459.toInt by omega), (show x459.toInt ≤ 3205 by omega)⟩, ⟨f0_, c488, (show 0 ≤ f0_.toInt by omega), (show f0_.toInt ≤ 5 by omega)⟩, ⟨x463, c464, (show 0 ≤ x463.toInt by omega), (show x463.toInt ≤ 399 by omega)⟩⟩)⟩ hw dX12_tested_24
        · have ex469 : x469.toInt = f0_.toInt := by rw [← c488.symm.trans c470]
          obtain ⟨x495, c496, rx495, tx495⟩ := hT.rda (lo := 0) (hi := 400) (i := (f0_.toInt).toNat) kM_at3 rfl rfl (by omega)
          obtain ⟨x497, c498, rx497, tx497⟩ := hT.rdi (lo := 0) (hi := 60) (k := 18) kM_at0 (by decide) rfl
          obtain ⟨x499, c500, rx499, tx499⟩ := hT.rdi (lo := (-100)) (hi := 10) (k := 19) kM_at0 (by decide) rfl
          refine lv_if_ne (tgt := 25) hx hb dX12_tested_20 (by decide) (fun c => absurd (by decide) c) (fun _ => ?_)
          refine lv_iconst (v := 0) hx hb dX12_tested_23 (by decide) ?_
          exact tk_zret hC hr rfl hlocks hK ⟨hT, hF, (Or.inr (Or.inl ⟨rfl, ⟨x465, c466, (show 0 ≤ x465.toInt by omega), (show x465.toInt ≤ 400 by omega)⟩, ⟨x467, c468, (show 1 ≤ x467.toInt by omega), (show x467.toInt ≤ 3205 by omega)⟩, ⟨f0_, c488, (show 0 ≤ f0_.toInt by omega), (show f0_.toInt ≤ 5 by omega)⟩, ⟨x471, c472, (show 0 ≤ x471.toInt by omega), (show x471.toInt ≤ 399 by omega)⟩⟩))⟩ hw dX12_tested_24
        · have ex475 : x475.toInt = f0_.toInt := by rw [← c488.symm.trans c476]
          obtain ⟨x501, c502, rx501, tx501⟩ := hT.rda (lo := 0) (hi := 400) (i := (f0_.toInt).toNat) kM_at3 rfl rfl (by omega)
          obtain ⟨x503, c504, rx503, tx503⟩ := hT.rdi (lo := (-100)) (hi := 10) (k := 19) kM_at0 (by decide) rfl
          have g481 : 3 * (x501.toInt + x479.toInt) + 3 ≤ 14 * x477.toInt := by have q := g481; simp only [c6, c488, c502, c478, c480] at q; omega
          have g482 : x479.toInt + 3 ≤ x503.toInt + x477.toInt := by have q := g482; simp only [c6, c488, c504, c478, c480] at q; omega
          have g483 : f12_0_18.toInt + 3 ≤ x477.toInt := by have q := g483; simp only [c6, c488, c9, c478] at q; omega
          have g484 : x501.toInt ≤ 280 := by have q := g484; simp only [c6, c488, c502] at q; omega
          have g485 : x479.toInt ≤ 280 := by have q := g485; simp only [c6, c488, c480] at q; omega
          have g486 : (binN w455 (x479.toInt).toNat : Int) = x479.toInt - x503.toInt := by have q := g486; simp only [c6, c488, c504, c480] at q; omega
          refine lv_if_ne (tgt := 25) hx hb dX12_tested_20 (by decide) (fun _ => ?_) (fun c => absurd c (by decide))
          refine lv_aload_n hx hb dX12_tested_25 rfl (lv_at hl 0 rfl) ?_
          refine tk_Vv hC hK hw hT hA hE hSR kM_at0 (by decide) rfl (k_X12_closes_1 l adK adV dC dI cy ad B (by omega) (by omega) qr s1    w455 H.size hT f0_ c488 (show 0 ≤ f0_.toInt by omega) (show f0_.toInt ≤ 5 by omega) x477 c478 (show 0 ≤ x477.toInt by omega) (show x477.toInt ≤ 60 by omega) x503 c504 (show (-100) ≤ x503.toInt by omega) (show x503.toInt ≤ 10 by omega) x479 c480 (show 0 ≤ x479.toInt by omega) (show x479.toInt ≤ 400 by omega) x501 c502 (show 0 ≤ x501.toInt by omega) (show x501.toInt ≤ 400 by omega) (show x501.toInt + x479.toInt ≤ 390 by omega) (show x479.toInt ≤ x503.toInt + x477.toInt by omega) (show x501.toInt ≤ 390 by omega) (show x479.toInt ≤ 390 by omega) (show (binN w455 (x479.toInt).toNat : Int) = x479.toInt - x503.toInt by omega)) (cwV 0 hC.2.2.2.2 gX12_tested_X12_closes rfl rfl rfl (by decide +kernel) ⟨Nat.le_of_ble_eq_true rfl, Nat.le_of_ble_eq_true rfl⟩) rfl hl.1 rfl (Nat.le_of_ble_eq_true rfl) dX12_tested_26 (fun w507 H locs hp506 hw => ?_)
          obtain ⟨hT, k508, hg523⟩ := hp506
          have gn524 : binN w507 (x479.toInt).toNat = binN w455 (x479.toInt).toNat := bin_FE _ k508 (fun _ => rfl)
          have hF := hF.tr k508 (by decide)
          have c525 := k508.gi kM_at0 (by decide) c488
          have c526 := k508.gi kM_at0 (by decide) c474
          have c527 := k508.gi kM_at0 (by decide) c478
          obtain ⟨⟨x509, c510, rx509, tx509⟩, ⟨x511, c512, rx511, tx511⟩, ⟨x513, c514, rx513, tx513⟩, ⟨x515, c516, rx515, tx515⟩, g517, g518, g519, g520, g521, g522⟩ := hg523
          have ex509 : x509.toInt = x473.toInt := by rw [← c526.symm.trans c510]
          have ex511 : x511.toInt = f0_.toInt := by rw [← c525.symm.trans c512]
          obtain ⟨x528, c529, rx528, tx528⟩ := hT.rda (lo := 0) (hi := 400) (i := (f0_.toInt).toNat) kM_at3 rfl rfl (by omega)
          have g517 : x528.toInt + x515.toInt ≤ x501.toInt + x479.toInt := by have q := g517; simp only [c488, c525, c502, c529, c480, c516] at q; omega
          have g518 : x515.toInt + x503.toInt ≤ x479.toInt + x513.toInt := by have q := g518; simp only [c488, c525, c504, c514, c480, c516] at q; omega
          have g519 : x515.toInt ≤ x513.toInt + x477.toInt := by have q := g519; simp only [c488, c525, c514, c478, c516] at q; omega
          have g520 : x515.toInt ≤ 390 := by have q := g520; simp only [c488, c525, c516] at q; omega
          have g521 : x528.toInt ≤ 390 := by have q := g521; simp only [c488, c525, c529] at q; omega
          have g522 : (binN w507 (x515.toInt).toNat : Int) = x515.toInt - x513.toInt := by have q := g522; simp only [c488, c525, c514, c516] at q; omega
          refine lv_aload_n hx hb dX12_tested_29 rfl (lv_at hl 0 rfl) ?_
          refine lv_ldc2 (v := 6385252) hx hb hC.2.2.2.1 (hC.2.2.2.2 _ (List.mem_of_getElem? (i := 3) rfl)) dX12_tested_30 ?_
          obtain ⟨x530, c531, rx530, tx530⟩ := hT.rdi (lo := 0) (hi := 400) (k := 14) kM_at0 (by decide) rfl
          refine tk_Vi hC hK hw hT hA hE hSR kM_at0 (by decide) rfl (k_X12_isWord_22 l adK adV dC dI cy ad B (by omega) (by omega) qr s1    w507 H.size hT x530 c531 (show 0 ≤ x530.toInt by omega) (show x530.toInt ≤ 400 by omega)) (cwV 1 hC.2.2.2.2 gX12_tested_X12_isWord rfl rfl rfl (by decide +kernel) ⟨Nat.le_of_ble_eq_true rfl, Nat.le_of_ble_eq_true rfl⟩) rfl hl.1 rfl (Nat.le_of_ble_eq_true rfl) dX12_tested_33 (fun r532 w534 H locs hp533 hw => ?_)
          obtain ⟨hT, k535, hg542⟩ := hp533
          have gn543 : binN w534 (x515.toInt).toNat = binN w507 (x515.toInt).toNat := bin_FE _ k535 (fun _ => rfl)
          have hF := hF.tr k535 (by decide)
          have c544 := k535.gi kM_at0 (by decide) c525
          have c545 := k535.gi kM_at0 (by decide) c526
          have c546 := k535.gi kM_at0 (by decide) c527
          have c547 := k535.gi kM_at0 (by decide) c514
          have c548 := k535.gi kM_at0 (by decide) c516
          have c549 := k535.gi kM_at3 rfl c529
          rcases hg542 with ⟨rfl, ⟨x536, c537, rx536, tx536⟩, g538⟩ | ⟨rfl, ⟨x539, c540, rx539, tx539⟩, g541⟩
          · have ex536 : x536.toInt = x473.toInt := by rw [← c545.symm.trans c537]
            obtain ⟨x550, c551, rx550, tx550⟩ := hT.rdi (lo := 0) (hi := 400) (k := 14) kM_at0 (by decide) rfl
            have g538 : (x550.toInt = x530.toInt ∨ (gi w507 1 (x530.toInt).toNat).toInt = 32) := by have q := g538; simp only [c525, c544, c531, c551] at q; omega
            refine lv_if_ne (tgt := 49) hx hb dX12_tested_36 (by decide) (fun c => absurd (by decide) c) (fun _ => ?_)
            refine lv_aload_n hx hb dX12_tested_39 rfl (lv_at hl 0 rfl) ?_
            refine lv_ldc2 (v := 28530) hx hb hC.2.2.2.1 (hC.2.2.2.2 _ (List.mem_of_getElem? (i := 4) rfl)) dX12_tested_40 ?_
            refine tk_Vi hC hK hw hT hA hE hSR kM_at0 (by decide) rfl (k_X12_isWord_21 l adK adV dC dI cy ad B (by omega) (by omega) qr s1    w534 H.size hT x550 c551 (show 0 ≤ x550.toInt by omega) (show x550.toInt ≤ 400 by omega)) (cwV 1 hC.2.2.2.2 gX12_tested_X12_isWord rfl rfl rfl (by decide +kernel) ⟨Nat.le_of_ble_eq_true rfl, Nat.le_of_ble_eq_true rfl⟩) rfl hl.1 rfl (Nat.le_of_ble_eq_true rfl) dX12_tested_43 (fun r554 w556 H locs hp555 hw => ?_)
            obtain ⟨hT, k557, hg564⟩ := hp555
            have gn565 : binN w556 (x515.toInt).toNat = binN w534 (x515.toInt).toNat := bin_FE _ k557 (fun _ => rfl)
            have hF := hF.tr k557 (by decide)
            have c566 := k557.gi kM_at0 (by decide) c544
            have c567 := k557.gi kM_at0 (by decide) c545
            have c568 := k557.gi kM_at0 (by decide) c546
            have c569 := k557.gi kM_at0 (by decide) c547
            have c570 := k557.gi kM_at0 (by decide) c548
            have c571 := k557.gi kM_at3 rfl c549
            rcases hg564 with ⟨rfl, ⟨x558, c559, rx558, tx558⟩, g560⟩ | ⟨rfl, ⟨x561, c562, rx561, tx561⟩, g563⟩
            · have ex558 : x558.toInt = x473.toInt := by rw [← c567.symm.trans c559]
              obtain ⟨x572, c573, rx572, tx572⟩ := hT.rdi (lo := 0) (hi := 400) (k := 14) kM_at0 (by decide) rfl
              have g560 : (x572.toInt = x550.toInt ∨ (gi w534 1 (x550.toInt).toNat).toInt = 32) := by have q := g560; simp only [c544, c566, c551, c573] at q; omega
              refine lv_if_eq (tgt := 53) hx hb dX12_tested_46 (by decide) (fun _ => ?_) (fun c => absurd (by decide) c)
              refine lv_iconst (v := 0) hx hb dX12_tested_53 (by decide) ?_
              refine lv_istore_n (lv' := [(1, .int 0), (0, .ref (ad 0))]) hx hb dX12_tested_54 rfl hl (by decide) rfl (fun ls hl => ?_)
              refine lv_iload_n hx hb dX12_tested_55 rfl (lv_at hl 0 rfl) ?_
              refine lv_if_eq (tgt := 12) hx hb dX12_tested_56 (by decide) (fun _ => ?_) (fun c => absurd (by decide) c)
              exact ih12 0 x477 x513 x515 x528 H locs ls w556 (by decide) (by decide) (show 0 ≤ f0_.toInt by omega) (show f0_.toInt ≤ 5 by omega) (show 0 ≤ x477.toInt by omega) (show x477.toInt ≤ 60 by omega) (show (-60) ≤ x513.toInt by omega) (show x513.toInt ≤ 10 by omega) (show 0 ≤ x515.toInt by omega) (show x515.toInt ≤ 280 by omega) (show 0 ≤ x528.toInt by omega) (show x528.toInt ≤ 280 by omega) (show (binN w556 (x515.toInt).toNat : Int) = x515.toInt - x513.toInt by omega) (show 3 * (x528.toInt + x515.toInt) ≤ 14 * x477.toInt by omega) (show x515.toInt ≤ x513.toInt + x477.toInt by omega) (show x528.toInt ≤ 280 by omega) (show x515.toInt ≤ 280 by omega) (show -60 ≤ x513.toInt by omega) (show (60 - x477.toInt).toNat < n12 by omega) hw hT hF c566 c568 c569 c570 c571 (lv_sub hl [1, 0] rfl)
            · have ex561 : x561.toInt = x473.toInt := by rw [← c567.symm.trans c562]
              obtain ⟨x574, c575, rx574, tx574⟩ := hT.rdi (lo := 0) (hi := 400) (k := 14) kM_at0 (by decide) rfl
              have g563 : (x574.toInt = x550.toInt ∨ (gi w534 1 (x550.toInt).toNat).toInt = 32) := by have q := g563; simp only [c544, c566, c551, c575] at q; omega
              refine lv_if_eq (tgt := 53) hx hb dX12_tested_46 (by decide) (fun c => absurd c (by decide)) (fun _ => ?_)
              obtain rfl : v12_1 = 1 := wk_eq.mpr (show v12_1.toInt = 1 by omega)
              exact J49 x473 x574 x477 x513 x515 x528 H locs ls w556 (show 1 ≤ x473.toInt by omega) (show x473.toInt ≤ 400 by omega) (show 0 ≤ x574.toInt by omega) (show x574.toInt ≤ 400 by omega) (show 0 ≤ f0_.toInt by omega) (show f0_.toInt ≤ 5 by omega) (show 1 ≤ x477.toInt by omega) (show x477.toInt ≤ 60 by omega) (show (-60) ≤ x513.toInt by omega) (show x513.toInt ≤ 10 by omega) (show 0 ≤ x515.toInt by omega) (show x515.toInt ≤ 280 by omega) (show 0 ≤ x528.toInt by omega) (show x528.toInt ≤ 280 by omega) (show (binN w556 (x515.toInt).toNat : Int) = x515.toInt - x513.toInt by omega) (show 3 * (x528.toInt + x515.toInt) ≤ 14 * x477.toInt by omega) (show x515.toInt ≤ x513.toInt + x477.toInt by omega) (show x528.toInt ≤ 280 by omega) (show x515.toInt ≤ 280 by omega) (show -60 ≤ x513.toInt by omega)  hw hT hF c567 c575 c566 c568 c569 c570 c571 (lv_sub hl [0, 1] rfl)
          · have ex539 : x539.toInt = x473.toInt := by rw [← c545.symm.trans c540]
            obtain ⟨x552, c553, rx552, tx552⟩ := hT.rdi (lo := 0) (hi := 400) (k := 14) kM_at0 (by decide) rfl
            have g541 : (x552.toInt = x530.toInt ∨ (gi w507 1 (x530.toInt).toNat).toInt = 32) := by have q := g541; simp only [c525, c544, c531, c553] at q; omega
            refine lv_if_ne (tgt := 49) hx hb dX12_tested_36 (by decide) (fun _ => ?_) (fun c => absurd c (by decide))
            obtain rfl : v12_1 = 1 := wk_eq.mpr (show v12_1.toInt = 1 by omega)
            exact J49 x473 x552 x477 x513 x515 x528 H locs ls w534 (show 1 ≤ x473.toInt by omega) (show x473.toInt ≤ 400 by omega) (show 0 ≤ x552.toInt by omega) (show x552.toInt ≤ 400 by omega) (show 0 ≤ f0_.toInt by omega) (show f0_.toInt ≤ 5 by omega) (show 1 ≤ x477.toInt by omega) (show x477.toInt ≤ 60 by omega) (show (-60) ≤ x513.toInt by omega) (show x513.toInt ≤ 10 by omega) (show 0 ≤ x515.toInt by omega) (show x515.toInt ≤ 280 by omega) (show 0 ≤ x528.toInt by omega) (show x528.toInt ≤ 280 by omega) (show (binN w534 (x515.toInt).toNat : Int) = x515.toInt - x513.toInt by omega) (show 3 * (x528.toInt + x515.toInt) ≤ 14 * x477.toInt by omega) (show x515.toInt ≤ x513.toInt + x477.toInt by omega) (show x528.toInt ≤ 280 by omega) (show x515.toInt ≤ 280 by omega) (show -60 ≤ x513.toInt by omega)  hw hT hF c545 c553 c544 c546 c547 c548 c549 (lv_sub hl [0, 1] rfl)
  have gl576 := bin_le w0 (f3_.toInt).toNat
  refine lv_aload_n hx hb dX12_tested_0 rfl (lv_at hl 0 rfl) ?_
  refine lv_iconst (v := 0) hx hb dX12_tested_1 (by decide) ?_
  refine tk_puti hC hK hw hT hinX12 tyX12_ok nmX12 kM_at0 (by decide) rfl rfl 22 (by decide) (List.mem_of_getElem? (i := 1) rfl) rfl rfl rfl rfl (by decide) (by decide) dX12_tested_2 (fun H locs w577 hw hT k579 c578 => ?_)
  have gn580 : binN w577 (f3_.toInt).toNat = binN w0 (f3_.toInt).toNat := bin_F1 _ k579 (by decide)
  have gn581 : binN w577 ((0 : Int)).toNat = binN w0 ((0 : Int)).toNat := bin_F1 _ k579 (by decide)
  have gn582 : binN w577 ((0 : Int)).toNat = 0 := rfl
  have hF := hF.put kM_at0 (k := 22) (by decide) k579
  have c583 := k579.gi (Or.inr (by decide)) cf0_
  have c584 := k579.gi (Or.inr (by decide)) cf1_
  have c585 := k579.gi (Or.inr (by decide)) cf2_
  have c586 := k579.gi (Or.inl (tk_ne kM_at3 kM_at0 (by decide))) cf4_
  refine lv_aload_n hx hb dX12_tested_5 rfl (lv_at hl 0 rfl) ?_
  refine lv_iconst (v := 0) hx hb dX12_tested_6 (by decide) ?_
  refine tk_puti hC hK hw hT hinX12 tyX12_ok nmX12 kM_at0 (by decide) rfl rfl 19 (by decide) (List.mem_of_getElem? (i := 2) rfl) rfl rfl rfl rfl (by decide) (by decide) dX12_tested_7 (fun H locs w587 hw hT k589 c588 => ?_)
  have gn590 : binN w587 ((0 : Int)).toNat = binN w577 ((0 : Int)).toNat := bin_F1 _ k589 (by decide)
  have hF := hF.put kM_at0 (k := 19) (by decide) k589
  have c591 := k589.gi (Or.inr (by decide)) c583
  have c592 := k589.gi (Or.inr (by decide)) c584
  have c593 := k589.gi (Or.inl (tk_ne kM_at3 kM_at0 (by decide))) c586
  have c594 := k589.gi (Or.inr (by decide)) c578
  refine lv_iconst (v := 1) hx hb dX12_tested_10 (by decide) ?_
  refine lv_istore_n (lv' := [(1, .int 1), (0, .ref (ad 0))]) hx hb dX12_tested_11 rfl hl (by decide) rfl (fun ls hl => ?_)
  exact L12 ((60 - f1_.toInt).toNat + 1) 1 f1_ 0 0 f4_ H locs ls w587 (by decide) (by decide) (show 0 ≤ f0_.toInt by omega) (show f0_.toInt ≤ 5 by omega) (show 0 ≤ f1_.toInt by omega) (show f1_.toInt ≤ 60 by omega) (by decide) (by decide) (by decide) (by decide) (show 0 ≤ f4_.toInt by omega) (show f4_.toInt ≤ 280 by omega) (show (binN w587 ((0 : Int)).toNat : Int) = (0 : Int) - (0 : Int) by omega) (show 3 * (f4_.toInt + (0 : Int)) ≤ 14 * f1_.toInt by omega) (show (0 : Int) ≤ (0 : Int) + f1_.toInt by omega) (show f4_.toInt ≤ 280 by omega) (show (0 : Int) ≤ 280 by omega) (show -60 ≤ (0 : Int) by omega) (Nat.lt_succ_self _) hw hT hF c591 c592 c588 c594 c593 (lv_sub hl [1, 0] rfl)
abbrev P_X12_isDoingHere_1 (ad : Nat → Nat) (cy : Nat → ClassId) (B : Int) (qr : Nat) (s1 : Int)  (w0 : va_W) : Int32 → va_W → Prop := fun r u => TW ksM ad cy B qr 12 u ∧ FE ksM [(12, 14, 14), (12, 15, 15), (12, 16, 16), (12, 18, 18), (12, 19, 19), (12, 22, 22), (61, 0, 2400), (62, 0, 7), (63, 0, 216), (64, 0, 6), (68, 0, 400)] w0 u ∧ ((r = 0 ∧ (∃ y : Int32, gi u 0 1 = y ∧ 1 ≤ y.toInt ∧ y.toInt ≤ 400) ∧ (∃ y : Int32, gi u 0 15 = y ∧ 1 ≤ y.toInt ∧ y.toInt ≤ 3205) ∧ (∃ y : Int32, gi u 0 17 = y ∧ 0 ≤ y.toInt ∧ y.toInt ≤ 5) ∧ (∃ y : Int32, gi u 0 22 = y ∧ 0 ≤ y.toInt ∧ y.toInt ≤ 399)) ∨ (r = 0 ∧ (∃ y : Int32, gi u 0 1 = y ∧ 0 ≤ y.toInt ∧ y.toInt ≤ 400) ∧ (∃ y : Int32, gi u 0 15 = y ∧ 1 ≤ y.toInt ∧ y.toInt ≤ 3205) ∧ (∃ y : Int32, gi u 0 17 = y ∧ 0 ≤ y.toInt ∧ y.toInt ≤ 5) ∧ (∃ y : Int32, gi u 0 22 = y ∧ 0 ≤ y.toInt ∧ y.toInt ≤ 399)) ∨ (r = 1 ∧ (∃ y : Int32, gi u 0 1 = y ∧ 0 ≤ y.toInt ∧ y.toInt ≤ 400) ∧ (∃ y : Int32, gi u 0 17 = y ∧ 0 ≤ y.toInt ∧ y.toInt ≤ 5) ∧ (3 * (gi u 3 ((gi u 0 17).toInt).toNat).toInt ≤ 14 * (gi u 0 18).toInt) ∧ ((gi u 5 ((gi u 0 17).toInt).toNat).toInt = (gi w0 5 ((gi w0 0 17).toInt).toNat).toInt + 1)))
set_option maxHeartbeats 4000000 in
set_option maxRecDepth 100000 in
theorem k_X12_isDoingHere_1 (l : Launch) (adK adV : Nat → Nat) (dC : Nat → ClassId) (dI : Nat → Nat → Nat) (cy : Nat → ClassId) (ad : Nat → Nat) (B : Int) (hB0 : 100000 ≤ B) (hB1 : B ≤ 1073741824) (qr : Nat) (s1 : Int)   (w0 : va_W) (sz : Nat) (hT : TW ksM ad cy B qr 12 w0) (f0_ : Int32) (cf0_ : gi w0 0 17 = f0_) (rf0_ : 0 ≤ f0_.toInt) (tf0_ : f0_.toInt ≤ 5) (f1_ : Int32) (cf1_ : gi w0 0 18 = f1_) (rf1_ : 0 ≤ f1_.toInt) (tf1_ : f1_.toInt ≤ 60) (f2_ : Int32) (cf2_ : gi w0 3 (f0_.toInt).toNat = f2_) (rf2_ : 0 ≤ f2_.toInt) (tf2_ : f2_.toInt ≤ 400) (f3_ : Int32) (cf3_ : gi w0 5 (f0_.toInt).toNat = f3_) (rf3_ : 0 ≤ f3_.toInt) (tf3_ : f3_.toInt ≤ 12) (pr0_ : 3 * f2_.toInt ≤ 14 * f1_.toInt) (pr1_ : f2_.toInt ≤ 280) (pr2_ : f3_.toInt ≤ 11) : Met l yX12_isDoingHere wsX12_isDoingHere ({ frames := 10, cells := 0, slots := 0, locals := 210 }) (va_Pc [.ref (ad 0), .int (-1)] (wpreS adK adV dC dI cy sz w0)) (va_Qi (P_X12_isDoingHere_1 ad cy B qr s1  w0) (fun u : va_W => wpost dC dI cy (va_A w0 sz) u) (va_A w0 sz)) 0 0 (va_A w0 sz) := by
  refine Met.ofW (cc := cX12_isDoingHere) (maxL := 3) (ret := (some .boolean)) (by decide) rfl ?_
  intro p e s m args below meth c s₁ Bk hml hv
  obtain ⟨rfl, ⟨hsz, hP, hK, hD0⟩, hE, hSR⟩ := hv
  have hx := Bk.exec
  have hb := Bk.bytes
  have hr := Bk.returns
  have hlocks := Bk.notSynchronized
  have hC : CallFix p m c cX12_isDoingHere 3 s _ wsX12_isDoingHere RX12 := ⟨hx, hb, hml, findClass_of_methodNamed Bk.named, atoms_spec (ws := wsX12_isDoingHere) Bk.pre⟩
  subst hsz
  have hD := hD0.self (sz := s.heap.size)
  generalize hAe : va_A w0 s.heap.size = A at hD hE ⊢
  have hA : ∀ q : Nat, s.heap.size ≤ q → A q := fun q h => by rw [← hAe]; exact Or.inr h
  have hw : Wd dC dI A s.heap s.heap [] w0 := ⟨hP, hD, va_S.rf⟩
  have hF : FE ksM [(12, 14, 14), (12, 15, 15), (12, 16, 16), (12, 18, 18), (12, 19, 19), (12, 22, 22), (61, 0, 2400), (62, 0, 7), (63, 0, 216), (64, 0, 6), (68, 0, 400)] w0 w0 := FE.rf
  have hl := lv_entry ([.ref (ad 0), .int (-1)]) (n := 3) (Nat.le_of_ble_eq_true rfl)
  rw [lg_entry_eq]
  generalize (lg_sl ([.ref (ad 0), .int (-1)]) ++ List.replicate (3 - (lg_sl ([.ref (ad 0), .int (-1)])).length) Slot.unset).toArray = ls at hl ⊢
  have hl : lv_has ls 3 [(0, .ref (ad 0)), (1, .int (-1))] := hl
  generalize hloc : ([] : List Loc) = locs at hw ⊢
  have hinX12 : ∀ w ∈ u_ws RX12 TX12 42, w ∈ wsX12_isDoingHere := fun _ h => List.mem_cons_of_mem _ (List.mem_append_right _ (h))
  have J76 : ∀ (v76_2 : Int32) (f76_0_1 : Int32) (f76_0_18 : Int32) (f76_3__f0__toInt_toNat : Int32) (H : Heap) (locs : List Loc) (ls : Array Slot) (w1 : va_W), 0 ≤ v76_2.toInt → v76_2.toInt ≤ 213 → 0 ≤ f76_0_1.toInt → f76_0_1.toInt ≤ 400 → 0 ≤ f0_.toInt → f0_.toInt ≤ 5 → 0 ≤ f76_0_18.toInt → f76_0_18.toInt ≤ 60 → 0 ≤ f76_3__f0__toInt_toNat.toInt → f76_3__f0__toInt_toNat.toInt ≤ 400 → 0 ≤ f3_.toInt → f3_.toInt ≤ 11 → (3 * f76_3__f0__toInt_toNat.toInt ≤ 14 * f76_0_18.toInt) → (f3_.toInt = f3_.toInt) → (f3_.toInt ≤ 11) → Wd dC dI A s.heap H locs w1 → TW ksM ad cy B qr 12 w1 → FE ksM [(12, 14, 14), (12, 15, 15), (12, 16, 16), (12, 18, 18), (12, 19, 19), (12, 22, 22), (61, 0, 2400), (62, 0, 7), (63, 0, 216), (64, 0, 6), (68, 0, 400)] w0 w1 → gi w1 0 1 = f76_0_1 → gi w1 0 17 = f0_ → gi w1 0 18 = f76_0_18 → gi w1 3 (f0_.toInt).toNat = f76_3__f0__toInt_toNat → gi w1 5 (f0_.toInt).toNat = f3_ → lv_has ls 3 [(0, .ref (ad 0)), (1, .int (-1)), (2, .int v76_2)] → W p l e ({ frames := 10, cells := 0, slots := 0, locals := 210 }) s m (List.toArray [.ref (ad 0), .int (-1)]) below meth c H locs 0 0 (MQ below (va_Qi (P_X12_isDoingHere_1 ad cy B qr s1  w0) (fun u : va_W => wpost dC dI cy A u) A) (List.toArray [.ref (ad 0), .int (-1)]) s 0 0 A) (F0 m 76 ls []) := by
    intro v76_2 f76_0_1 f76_0_18 f76_3__f0__toInt_toNat H locs ls w1 r2 t3 r4 t5 r7 t8 r10 t11 r13 t14 r16 t17 hcr76_0 hcr76_1 hcr76_2 hw hT hF c6 c9 c12 c15 c18 hl
    refine lv_aload_n hx hb dX12_isDoingHere_76 rfl (lv_at hl 0 rfl) ?_
    refine tk_getA hC hK hw hT hinX12 kM_at0 (by decide) rfl 5 (by decide) (List.mem_of_getElem? (i := 3) rfl) rfl rfl dX12_isDoingHere_77 ?_
    refine lv_iload_n hx hb dX12_isDoingHere_80 rfl (lv_at hl 2 rfl) ?_
    refine lv_iconst (v := 2) hx hb dX12_isDoingHere_81 (by decide) ?_
    refine lv_iadd hx hb dX12_isDoingHere_82 ?_
    refine lv_topi (fun x19 ex19 => ?_)
    have ex19 : x19.toInt = v76_2.toInt + (2 : Int) := by rw [ex19]; exact wk_add (show (-2147483648) ≤ v76_2.toInt + (2 : Int) by omega) (show v76_2.toInt + (2 : Int) ≤ 2147483647 by omega)
    refine lv_aload_n hx hb dX12_isDoingHere_83 rfl (lv_at hl 0 rfl) ?_
    refine tk_getA hC hK hw hT hinX12 kM_at0 (by decide) rfl 4 (by decide) (List.mem_of_getElem? (i := 5) rfl) rfl rfl dX12_isDoingHere_84 ?_
    refine lv_aload_n hx hb dX12_isDoingHere_87 rfl (lv_at hl 0 rfl) ?_
    refine tk_geti hC hK hw hT hinX12 kM_at0 (by decide) rfl 17 (by decide) (List.mem_of_getElem? (i := 1) rfl) rfl rfl dX12_isDoingHere_88 (fun x20 c21 rx20 tx20 => ?_)
    refine wk_top f0_ (c21.symm.trans c9) ?_
    refine tk_iald hC hK hw hT kM_at3 rfl rfl (show 0 ≤ f0_.toInt by omega) (show f0_.toInt < 7 by omega) dX12_isDoingHere_91 (fun x22 c23 rx22 tx22 => ?_)
    have c23 : gi w1 3 (f0_.toInt).toNat = x22 := (congrArg (gi w1 3) (congrArg Int.toNat (show f0_.toInt = f0_.toInt by omega))).trans c23
    refine wk_top f76_3__f0__toInt_toNat (c23.symm.trans c15) ?_
    refine tk_iast hC hK hw hT kM_at4 (by decide) rfl rfl (show 0 ≤ x19.toInt by omega) (show x19.toInt < 216 by omega) (wk_i32 f76_3__f0__toInt_toNat).1 (wk_i32 f76_3__f0__toInt_toNat).2 dX12_isDoingHere_92 (fun H locs w24 hw hT k26 c25 => ?_)
    have hF := hF.put kM_at4 (inE_of (a := 0) (b := 216) (by decide) (show 0 ≤ x19.toInt.toNat by omega) (show x19.toInt.toNat ≤ 216 by omega)) k26
    have c27 := k26.gi (Or.inl (tk_ne kM_at0 kM_at4 (by decide))) c6
    have c28 := k26.gi (Or.inl (tk_ne kM_at0 kM_at4 (by decide))) c9
    have c29 := k26.gi (Or.inl (tk_ne kM_at0 kM_at4 (by decide))) c12
    have c30 := k26.gi (Or.inl (tk_ne kM_at3 kM_at4 (by decide))) c15
    have c31 := k26.gi (Or.inl (tk_ne kM_at5 kM_at4 (by decide))) c18
    refine lv_aload_n hx hb dX12_isDoingHere_93 rfl (lv_at hl 0 rfl) ?_
    refine tk_getA hC hK hw hT hinX12 kM_at0 (by decide) rfl 6 (by decide) (List.mem_of_getElem? (i := 2) rfl) rfl rfl dX12_isDoingHere_94 ?_
    refine lv_aload_n hx hb dX12_isDoingHere_97 rfl (lv_at hl 0 rfl) ?_
    refine tk_geti hC hK hw hT hinX12 kM_at0 (by decide) rfl 17 (by decide) (List.mem_of_getElem? (i := 1) rfl) rfl rfl dX12_isDoingHere_98 (fun x32 c33 rx32 tx32 => ?_)
    refine wk_top f0_ (c33.symm.trans c28) ?_
    refine lv_dup2_11 hx hb dX12_isDoingHere_101 rfl rfl ?_
    refine tk_iald hC hK hw hT kM_at5 rfl rfl (show 0 ≤ f0_.toInt by omega) (show f0_.toInt < 6 by omega) dX12_isDoingHere_102 (fun x34 c35 rx34 tx34 => ?_)
    have c35 : gi w24 5 (f0_.toInt).toNat = x34 := (congrArg (gi w24 5) (congrArg Int.toNat (show f0_.toInt = f0_.toInt by omega))).trans c35
    refine wk_top f3_ (c35.symm.trans c31) ?_
    refine lv_iconst (v := 1) hx hb dX12_isDoingHere_103 (by decide) ?_
    refine lv_iadd hx hb dX12_isDoingHere_104 ?_
    refine lv_topi (fun x36 ex36 => ?_)
    have ex36 : x36.toInt = f3_.toInt + (1 : Int) := by rw [ex36]; exact wk_add (show (-2147483648) ≤ f3_.toInt + (1 : Int) by omega) (show f3_.toInt + (1 : Int) ≤ 2147483647 by omega)
    refine tk_iast hC hK hw hT kM_at5 (by decide) rfl rfl (show 0 ≤ f0_.toInt by omega) (show f0_.toInt < 6 by omega) (show 0 ≤ x36.toInt by omega) (show x36.toInt ≤ 12 by omega) dX12_isDoingHere_105 (fun H locs w37 hw hT k39 c38 => ?_)
    have hF := hF.put kM_at5 (inE_of (a := 0) (b := 6) (by decide) (show 0 ≤ f0_.toInt.toNat by omega) (show f0_.toInt.toNat ≤ 6 by omega)) k39
    have c40 := k39.gi (Or.inl (tk_ne kM_at0 kM_at5 (by decide))) c27
    have c41 := k39.gi (Or.inl (tk_ne kM_at0 kM_at5 (by decide))) c28
    have c42 := k39.gi (Or.inl (tk_ne kM_at0 kM_at5 (by decide))) c29
    have c43 := k39.gi (Or.inl (tk_ne kM_at3 kM_at5 (by decide))) c30
    have c38 : gi w37 5 (f0_.toInt).toNat = x36 := (congrArg (gi w37 5) (congrArg Int.toNat (show f0_.toInt = f0_.toInt by omega))).trans c38
    refine lv_iconst (v := 1) hx hb dX12_isDoingHere_106 (by decide) ?_
    exact tk_zret hC hr rfl hlocks hK ⟨hT, hF, (Or.inr (Or.inr ⟨rfl, ⟨f76_0_1, c40, (show 0 ≤ f76_0_1.toInt by omega), (show f76_0_1.toInt ≤ 400 by omega)⟩, ⟨f0_, c41, (show 0 ≤ f0_.toInt by omega), (show f0_.toInt ≤ 5 by omega)⟩, (by simp only [c41, cf0_, c43, c42]; omega), (by simp only [c41, cf0_, cf3_, c38]; omega)⟩))⟩ hw dX12_isDoingHere_107
  refine lv_aload_n hx hb dX12_isDoingHere_0 rfl (lv_at hl 0 rfl) ?_
  refine tk_Vv hC hK hw hT hA hE hSR kM_at0 (by decide) rfl (k_X12_passWord_1 l adK adV dC dI cy ad B (by omega) (by omega) qr s1    w0 s.heap.size hT ) (cwV 0 hC.2.2.2.2 gX12_isDoingHere_X12_passWord rfl rfl rfl (by decide +kernel) ⟨Nat.le_of_ble_eq_true rfl, Nat.le_of_ble_eq_true rfl⟩) rfl hl.1 rfl (Nat.le_of_ble_eq_true rfl) dX12_isDoingHere_1 (fun w46 H locs hp45 hw => ?_)
  obtain ⟨hT, k47, hg54⟩ := hp45
  have hF := hF.tr k47 (by decide)
  have c55 := k47.gi kM_at0 (by decide) cf0_
  have c56 := k47.gi kM_at0 (by decide) cf1_
  have c57 := k47.gi kM_at3 rfl cf2_
  have c58 := k47.gi kM_at5 rfl cf3_
  rcases hg54 with ⟨⟨x48, c49, rx48, tx48⟩, ⟨x50, c51, rx50, tx50⟩⟩ | ⟨x52, c53, rx52, tx52⟩
  · refine lv_bipush (v := 36) hx hb dX12_isDoingHere_4 (by decide) ?_
    refine lv_aload_n hx hb dX12_isDoingHere_6 rfl (lv_at hl 0 rfl) ?_
    refine tk_geti hC hK hw hT hinX12 kM_at0 (by decide) rfl 17 (by decide) (List.mem_of_getElem? (i := 1) rfl) rfl rfl dX12_isDoingHere_7 (fun x59 c60 rx59 tx59 => ?_)
    refine wk_top f0_ (c60.symm.trans c55) ?_
    refine lv_imul hx hb dX12_isDoingHere_10 ?_
    refine lv_topi (fun x61 ex61 => ?_)
    have ex61 : x61.toInt = (36 : Int) * f0_.toInt := by rw [ex61]; exact wk_mul (show (-2147483648) ≤ (36 : Int) * f0_.toInt by omega) (show (36 : Int) * f0_.toInt ≤ 2147483647 by omega)
    refine lv_iconst (v := 3) hx hb dX12_isDoingHere_11 (by decide) ?_
    refine lv_aload_n hx hb dX12_isDoingHere_12 rfl (lv_at hl 0 rfl) ?_
    refine tk_getA hC hK hw hT hinX12 kM_at0 (by decide) rfl 6 (by decide) (List.mem_of_getElem? (i := 2) rfl) rfl rfl dX12_isDoingHere_13 ?_
    refine lv_aload_n hx hb dX12_isDoingHere_16 rfl (lv_at hl 0 rfl) ?_
    refine tk_geti hC hK hw hT hinX12 kM_at0 (by decide) rfl 17 (by decide) (List.mem_of_getElem? (i := 1) rfl) rfl rfl dX12_isDoingHere_17 (fun x62 c63 rx62 tx62 => ?_)
    refine wk_top f0_ (c63.symm.trans c55) ?_
    refine tk_iald hC hK hw hT kM_at5 rfl rfl (show 0 ≤ f0_.toInt by omega) (show f0_.toInt < 6 by omega) dX12_isDoingHere_20 (fun x64 c65 rx64 tx64 => ?_)
    have c65 : gi w46 5 (f0_.toInt).toNat = x64 := (congrArg (gi w46 5) (congrArg Int.toNat (show f0_.toInt = f0_.toInt by omega))).trans c65
    refine wk_top f3_ (c65.symm.trans c58) ?_
    refine lv_imul hx hb dX12_isDoingHere_21 ?_
    refine lv_topi (fun x66 ex66 => ?_)
    have ex66 : x66.toInt = (3 : Int) * f3_.toInt := by rw [ex66]; exact wk_mul (show (-2147483648) ≤ (3 : Int) * f3_.toInt by omega) (show (3 : Int) * f3_.toInt ≤ 2147483647 by omega)
    refine lv_iadd hx hb dX12_isDoingHere_22 ?_
    refine lv_topi (fun x67 ex67 => ?_)
    have ex67 : x67.toInt = x61.toInt + x66.toInt := by rw [ex67]; exact wk_add (show (-2147483648) ≤ x61.toInt + x66.toInt by omega) (show x61.toInt + x66.toInt ≤ 2147483647 by omega)
    refine lv_istore_n (lv' := [(2, .int x67), (0, .ref (ad 0)), (1, .int (-1))]) hx hb dX12_isDoingHere_23 rfl hl (by decide) rfl (fun ls hl => ?_)
    refine lv_aload_n hx hb dX12_isDoingHere_24 rfl (lv_at hl 1 rfl) ?_
    refine tk_getA hC hK hw hT hinX12 kM_at0 (by decide) rfl 5 (by decide) (List.mem_of_getElem? (i := 3) rfl) rfl rfl dX12_isDoingHere_25 ?_
    refine lv_iload_n hx hb dX12_isDoingHere_28 rfl (lv_at hl 0 rfl) ?_
    refine lv_iload_n hx hb dX12_isDoingHere_29 rfl (lv_at hl 2 rfl) ?_
    refine tk_iast hC hK hw hT kM_at4 (by decide) rfl rfl (show 0 ≤ x67.toInt by omega) (show x67.toInt < 216 by omega) (by decide) (by decide) dX12_isDoingHere_30 (fun H locs w68 hw hT k70 c69 => ?_)
    have hF := hF.put kM_at4 (inE_of (a := 0) (b := 216) (by decide) (show 0 ≤ x67.toInt.toNat by omega) (show x67.toInt.toNat ≤ 216 by omega)) k70
    have c71 := k70.gi (Or.inl (tk_ne kM_at0 kM_at4 (by decide))) c55
    have c72 := k70.gi (Or.inl (tk_ne kM_at0 kM_at4 (by decide))) c56
    have c73 := k70.gi (Or.inl (tk_ne kM_at3 kM_at4 (by decide))) c57
    have c74 := k70.gi (Or.inl (tk_ne kM_at5 kM_at4 (by decide))) c58
    have c75 := k70.gi (Or.inl (tk_ne kM_at0 kM_at4 (by decide))) c49
    have c76 := k70.gi (Or.inl (tk_ne kM_at0 kM_at4 (by decide))) c51
    refine lv_aload_n hx hb dX12_isDoingHere_31 rfl (lv_at hl 1 rfl) ?_
    refine tk_getA hC hK hw hT hinX12 kM_at0 (by decide) rfl 5 (by decide) (List.mem_of_getElem? (i := 3) rfl) rfl rfl dX12_isDoingHere_32 ?_
    refine lv_iload_n hx hb dX12_isDoingHere_35 rfl (lv_at hl 0 rfl) ?_
    refine lv_iconst (v := 1) hx hb dX12_isDoingHere_36 (by decide) ?_
    refine lv_iadd hx hb dX12_isDoingHere_37 ?_
    refine lv_topi (fun x77 ex77 => ?_)
    have ex77 : x77.toInt = x67.toInt + (1 : Int) := by rw [ex77]; exact wk_add (show (-2147483648) ≤ x67.toInt + (1 : Int) by omega) (show x67.toInt + (1 : Int) ≤ 2147483647 by omega)
    refine lv_iconst (v := (-1)) hx hb dX12_isDoingHere_38 (by decide) ?_
    refine tk_iast hC hK hw hT kM_at4 (by decide) rfl rfl (show 0 ≤ x77.toInt by omega) (show x77.toInt < 216 by omega) (by decide) (by decide) dX12_isDoingHere_39 (fun H locs w78 hw hT k80 c79 => ?_)
    have hF := hF.put kM_at4 (inE_of (a := 0) (b := 216) (by decide) (show 0 ≤ x77.toInt.toNat by omega) (show x77.toInt.toNat ≤ 216 by omega)) k80
    have c81 := k80.gi (Or.inl (tk_ne kM_at0 kM_at4 (by decide))) c71
    have c82 := k80.gi (Or.inl (tk_ne kM_at0 kM_at4 (by decide))) c72
    have c83 := k80.gi (Or.inl (tk_ne kM_at3 kM_at4 (by decide))) c73
    have c84 := k80.gi (Or.inl (tk_ne kM_at5 kM_at4 (by decide))) c74
    have c85 := k80.gi (Or.inl (tk_ne kM_at0 kM_at4 (by decide))) c75
    have c86 := k80.gi (Or.inl (tk_ne kM_at0 kM_at4 (by decide))) c76
    refine lv_aload_n hx hb dX12_isDoingHere_40 rfl (lv_at hl 1 rfl) ?_
    refine lv_ldc2 (v := 26982) hx hb hC.2.2.2.1 (hC.2.2.2.2 _ (List.mem_of_getElem? (i := 4) rfl)) dX12_isDoingHere_41 ?_
    refine tk_Vi hC hK hw hT hA hE hSR kM_at0 (by decide) rfl (k_X12_takesWord_1 l adK adV dC dI cy ad B (by omega) (by omega) qr s1    w78 H.size hT ) (cwV 1 hC.2.2.2.2 gX12_isDoingHere_X12_takesWord rfl rfl rfl (by decide +kernel) ⟨Nat.le_of_ble_eq_true rfl, Nat.le_of_ble_eq_true rfl⟩) rfl hl.1 rfl (Nat.le_of_ble_eq_true rfl) dX12_isDoingHere_44 (fun r87 w89 H locs hp88 hw => ?_)
    obtain ⟨hT, k90, hg99⟩ := hp88
    have hF := hF.tr k90 (by decide)
    have c100 := k90.gi kM_at0 (by decide) c81
    have c101 := k90.gi kM_at0 (by decide) c82
    have c102 := k90.gi kM_at3 rfl c83
    have c103 := k90.gi kM_at5 rfl c84
    have c104 := k90.gi kM_at0 (by decide) c85
    rcases hg99 with ⟨rfl, ⟨x91, c92, rx91, tx91⟩⟩ | ⟨rfl, ⟨x93, c94, rx93, tx93⟩, ⟨x95, c96, rx95, tx95⟩⟩ | ⟨rfl, ⟨x97, c98, rx97, tx97⟩⟩
    · have ex91 : x91.toInt = x48.toInt := by rw [← c104.symm.trans c92]
      refine lv_if_eq (tgt := 76) hx hb dX12_isDoingHere_47 (by decide) (fun _ => ?_) (fun c => absurd (by decide) c)
      exact J76 x67 x48 f1_ f2_ H locs ls w89 (show 0 ≤ x67.toInt by omega) (show x67.toInt ≤ 213 by omega) (show 0 ≤ x48.toInt by omega) (show x48.toInt ≤ 400 by omega) (show 0 ≤ f0_.toInt by omega) (show f0_.toInt ≤ 5 by omega) (show 0 ≤ f1_.toInt by omega) (show f1_.toInt ≤ 60 by omega) (show 0 ≤ f2_.toInt by omega) (show f2_.toInt ≤ 400 by omega) (show 0 ≤ f3_.toInt by omega) (show f3_.toInt ≤ 11 by omega) (show 3 * f2_.toInt ≤ 14 * f1_.toInt by omega) (show f3_.toInt = f3_.toInt by omega) (show f3_.toInt ≤ 11 by omega)  hw hT hF c104 c100 c101 c102 c103 (lv_sub hl [1, 2, 0] rfl)
    · have ex93 : x93.toInt = x48.toInt := by rw [← c104.symm.trans c94]
      refine lv_if_eq (tgt := 76) hx hb dX12_isDoingHere_47 (by decide) (fun c => absurd c (by decide)) (fun _ => ?_)
      refine lv_aload_n hx hb dX12_isDoingHere_50 rfl (lv_at hl 1 rfl) ?_
      refine tk_getA hC hK hw hT hinX12 kM_at0 (by decide) rfl 5 (by decide) (List.mem_of_getElem? (i := 3) rfl) rfl rfl dX12_isDoingHere_51 ?_
      refine lv_iload_n hx hb dX12_isDoingHere_54 rfl (lv_at hl 0 rfl) ?_
      refine lv_iconst (v := 1) hx hb dX12_isDoingHere_55 (by decide) ?_
      refine lv_iadd hx hb dX12_isDoingHere_56 ?_
      refine lv_topi (fun x105 ex105 => ?_)
      have ex105 : x105.toInt = x67.toInt + (1 : Int) := by rw [ex105]; exact wk_add (show (-2147483648) ≤ x67.toInt + (1 : Int) by omega) (show x67.toInt + (1 : Int) ≤ 2147483647 by omega)
      refine lv_aload_n hx hb dX12_isDoingHere_57 rfl (lv_at hl 1 rfl) ?_
      refine tk_getA hC hK hw hT hinX12 kM_at0 (by decide) rfl 4 (by decide) (List.mem_of_getElem? (i := 5) rfl) rfl rfl dX12_isDoingHere_58 ?_
      refine lv_aload_n hx hb dX12_isDoingHere_61 rfl (lv_at hl 1 rfl) ?_
      refine tk_geti hC hK hw hT hinX12 kM_at0 (by decide) rfl 17 (by decide) (List.mem_of_getElem? (i := 1) rfl) rfl rfl dX12_isDoingHere_62 (fun x106 c107 rx106 tx106 => ?_)
      refine wk_top f0_ (c107.symm.trans c100) ?_
      refine tk_iald hC hK hw hT kM_at3 rfl rfl (show 0 ≤ f0_.toInt by omega) (show f0_.toInt < 7 by omega) dX12_isDoingHere_65 (fun x108 c109 rx108 tx108 => ?_)
      have c109 : gi w89 3 (f0_.toInt).toNat = x108 := (congrArg (gi w89 3) (congrArg Int.toNat (show f0_.toInt = f0_.toInt by omega))).trans c109
      refine wk_top f2_ (c109.symm.trans c102) ?_
      refine tk_iast hC hK hw hT kM_at4 (by decide) rfl rfl (show 0 ≤ x105.toInt by omega) (show x105.toInt < 216 by omega) (wk_i32 f2_).1 (wk_i32 f2_).2 dX12_isDoingHere_66 (fun H locs w110 hw hT k112 c111 => ?_)
      have hF := hF.put kM_at4 (inE_of (a := 0) (b := 216) (by decide) (show 0 ≤ x105.toInt.toNat by omega) (show x105.toInt.toNat ≤ 216 by omega)) k112
      have c113 := k112.gi (Or.inl (tk_ne kM_at0 kM_at4 (by decide))) c100
      have c114 := k112.gi (Or.inl (tk_ne kM_at0 kM_at4 (by decide))) c101
      have c115 := k112.gi (Or.inl (tk_ne kM_at3 kM_at4 (by decide))) c102
      have c116 := k112.gi (Or.inl (tk_ne kM_at5 kM_at4 (by decide))) c103
      have c117 := k112.gi (Or.inl (tk_ne kM_at0 kM_at4 (by decide))) c104
      have c118 := k112.gi (Or.inl (tk_ne kM_at0 kM_at4 (by decide))) c96
      refine lv_aload_n hx hb dX12_isDoingHere_67 rfl (lv_at hl 1 rfl) ?_
      obtain ⟨x119, c120, rx119, tx119⟩ := hT.rdi (lo := 0) (hi := 400) (k := 22) kM_at0 (by decide) rfl
      obtain ⟨x121, c122, rx121, tx121⟩ := hT.rdi (lo := (-100)) (hi := 10) (k := 19) kM_at0 (by decide) rfl
      refine tk_Vi hC hK hw hT hA hE hSR kM_at0 (by decide) rfl (k_X12_tested_1 l adK adV dC dI cy ad B (by omega) (by omega) qr s1    w110 H.size hT f0_ c113 (show 0 ≤ f0_.toInt by omega) (show f0_.toInt ≤ 5 by omega) f1_ c114 (show 0 ≤ f1_.toInt by omega) (show f1_.toInt ≤ 60 by omega) x121 c122 (show (-100) ≤ x121.toInt by omega) (show x121.toInt ≤ 10 by omega) x119 c120 (show 0 ≤ x119.toInt by omega) (show x119.toInt ≤ 400 by omega) f2_ c115 (show 0 ≤ f2_.toInt by omega) (show f2_.toInt ≤ 400 by omega) (show 3 * f2_.toInt ≤ 14 * f1_.toInt by omega) (show f2_.toInt ≤ 280 by omega)) (cwV 0 hC.2.2.2.2 gX12_isDoingHere_X12_tested rfl rfl rfl (by decide +kernel) ⟨Nat.le_of_ble_eq_true rfl, Nat.le_of_ble_eq_true rfl⟩) rfl hl.1 rfl (Nat.le_of_ble_eq_true rfl) dX12_isDoingHere_68 (fun r123 w125 H locs hp124 hw => ?_)
      obtain ⟨hT, k126, hg150⟩ := hp124
      have hF := hF.tr k126 (by decide)
      have c151 := k126.gi kM_at0 (by decide) c113
      have c152 := k126.gi kM_at5 rfl c116
      have c153 := k126.gi kM_at0 (by decide) c117
      rcases hg150 with ⟨rfl, ⟨x127, c128, rx127, tx127⟩, ⟨x129, c130, rx129, tx129⟩, ⟨x131, c132, rx131, tx131⟩, ⟨x133, c134, rx133, tx133⟩⟩ | ⟨rfl, ⟨x135, c136, rx135, tx135⟩, ⟨x137, c138, rx137, tx137⟩, ⟨x139, c140, rx139, tx139⟩, ⟨x141, c142, rx141, tx141⟩⟩ | ⟨rfl, ⟨x143, c144, rx143, tx143⟩, ⟨x145, c146, rx145, tx145⟩, ⟨x147, c148, rx147, tx147⟩, g149⟩
      · have ex127 : x127.toInt = x48.toInt := by rw [← c153.symm.trans c128]
        have ex131 : x131.toInt = f0_.toInt := by rw [← c151.symm.trans c132]
        obtain ⟨x154, c155, rx154, tx154⟩ := hT.rda (lo := 0) (hi := 400) (i := (f0_.toInt).toNat) kM_at3 rfl rfl (by omega)
        obtain ⟨x156, c157, rx156, tx156⟩ := hT.rdi (lo := 0) (hi := 60) (k := 18) kM_at0 (by decide) rfl
        obtain ⟨x158, c159, rx158, tx158⟩ := hT.rdi (lo := (-100)) (hi := 10) (k := 19) kM_at0 (by decide) rfl
        refine lv_if_ne (tgt := 76) hx hb dX12_isDoingHere_71 (by decide) (fun c => absurd (by decide) c) (fun _ => ?_)
        refine lv_iconst (v := 0) hx hb dX12_isDoingHere_74 (by decide) ?_
        exact tk_zret hC hr rfl hlocks hK ⟨hT, hF, (Or.inl ⟨rfl, ⟨x48, c153, (show 1 ≤ x48.toInt by omega), (show x48.toInt ≤ 400 by omega)⟩, ⟨x129, c130, (show 1 ≤ x129.toInt by omega), (show x129.toInt ≤ 3205 by omega)⟩, ⟨f0_, c151, (show 0 ≤ f0_.toInt by omega), (show f0_.toInt ≤ 5 by omega)⟩, ⟨x133, c134, (show 0 ≤ x133.toInt by omega), (show x133.toInt ≤ 399 by omega)⟩⟩)⟩ hw dX12_isDoingHere_75
      · have ex135 : x135.toInt = x48.toInt := by rw [← c153.symm.trans c136]
        have ex139 : x139.toInt = f0_.toInt := by rw [← c151.symm.trans c140]
        obtain ⟨x160, c161, rx160, tx160⟩ := hT.rda (lo := 0) (hi := 400) (i := (f0_.toInt).toNat) kM_at3 rfl rfl (by omega)
        obtain ⟨x162, c163, rx162, tx162⟩ := hT.rdi (lo := 0) (hi := 60) (k := 18) kM_at0 (by decide) rfl
        obtain ⟨x164, c165, rx164, tx164⟩ := hT.rdi (lo := (-100)) (hi := 10) (k := 19) kM_at0 (by decide) rfl
        refine lv_if_ne (tgt := 76) hx hb dX12_isDoingHere_71 (by decide) (fun c => absurd (by decide) c) (fun _ => ?_)
        refine lv_iconst (v := 0) hx hb dX12_isDoingHere_74 (by decide) ?_
        exact tk_zret hC hr rfl hlocks hK ⟨hT, hF, (Or.inl ⟨rfl, ⟨x48, c153, (show 1 ≤ x48.toInt by omega), (show x48.toInt ≤ 400 by omega)⟩, ⟨x137, c138, (show 1 ≤ x137.toInt by omega), (show x137.toInt ≤ 3205 by omega)⟩, ⟨f0_, c151, (show 0 ≤ f0_.toInt by omega), (show f0_.toInt ≤ 5 by omega)⟩, ⟨x141, c142, (show 0 ≤ x141.toInt by omega), (show x141.toInt ≤ 399 by omega)⟩⟩)⟩ hw dX12_isDoingHere_75
      · have ex143 : x143.toInt = f0_.toInt := by rw [← c151.symm.trans c144]
        obtain ⟨x166, c167, rx166, tx166⟩ := hT.rda (lo := 0) (hi := 400) (i := (f0_.toInt).toNat) kM_at3 rfl rfl (by omega)
        obtain ⟨x168, c169, rx168, tx168⟩ := hT.rdi (lo := 0) (hi := 60) (k := 18) kM_at0 (by decide) rfl
        have g149 : 3 * x166.toInt ≤ 14 * x168.toInt := by have q := g149; simp only [c113, c151, c167, c169] at q; omega
        refine lv_if_ne (tgt := 76) hx hb dX12_isDoingHere_71 (by decide) (fun _ => ?_) (fun c => absurd c (by decide))
        exact J76 x67 x48 x168 x166 H locs ls w125 (show 0 ≤ x67.toInt by omega) (show x67.toInt ≤ 213 by omega) (show 0 ≤ x48.toInt by omega) (show x48.toInt ≤ 400 by omega) (show 0 ≤ f0_.toInt by omega) (show f0_.toInt ≤ 5 by omega) (show 0 ≤ x168.toInt by omega) (show x168.toInt ≤ 60 by omega) (show 0 ≤ x166.toInt by omega) (show x166.toInt ≤ 400 by omega) (show 0 ≤ f3_.toInt by omega) (show f3_.toInt ≤ 11 by omega) (show 3 * x166.toInt ≤ 14 * x168.toInt by omega) (show f3_.toInt = f3_.toInt by omega) (show f3_.toInt ≤ 11 by omega)  hw hT hF c153 c151 c169 c167 c152 (lv_sub hl [1, 2, 0] rfl)
    · have ex97 : x97.toInt = x48.toInt := by rw [← c104.symm.trans c98]
      refine lv_if_eq (tgt := 76) hx hb dX12_isDoingHere_47 (by decide) (fun c => absurd c (by decide)) (fun _ => ?_)
      refine lv_aload_n hx hb dX12_isDoingHere_50 rfl (lv_at hl 1 rfl) ?_
      refine tk_getA hC hK hw hT hinX12 kM_at0 (by decide) rfl 5 (by decide) (List.mem_of_getElem? (i := 3) rfl) rfl rfl dX12_isDoingHere_51 ?_
      refine lv_iload_n hx hb dX12_isDoingHere_54 rfl (lv_at hl 0 rfl) ?_
      refine lv_iconst (v := 1) hx hb dX12_isDoingHere_55 (by decide) ?_
      refine lv_iadd hx hb dX12_isDoingHere_56 ?_
      refine lv_topi (fun x170 ex170 => ?_)
      have ex170 : x170.toInt = x67.toInt + (1 : Int) := by rw [ex170]; exact wk_add (show (-2147483648) ≤ x67.toInt + (1 : Int) by omega) (show x67.toInt + (1 : Int) ≤ 2147483647 by omega)
      refine lv_aload_n hx hb dX12_isDoingHere_57 rfl (lv_at hl 1 rfl) ?_
      refine tk_getA hC hK hw hT hinX12 kM_at0 (by decide) rfl 4 (by decide) (List.mem_of_getElem? (i := 5) rfl) rfl rfl dX12_isDoingHere_58 ?_
      refine lv_aload_n hx hb dX12_isDoingHere_61 rfl (lv_at hl 1 rfl) ?_
      refine tk_geti hC hK hw hT hinX12 kM_at0 (by decide) rfl 17 (by decide) (List.mem_of_getElem? (i := 1) rfl) rfl rfl dX12_isDoingHere_62 (fun x171 c172 rx171 tx171 => ?_)
      refine wk_top f0_ (c172.symm.trans c100) ?_
      refine tk_iald hC hK hw hT kM_at3 rfl rfl (show 0 ≤ f0_.toInt by omega) (show f0_.toInt < 7 by omega) dX12_isDoingHere_65 (fun x173 c174 rx173 tx173 => ?_)
      have c174 : gi w89 3 (f0_.toInt).toNat = x173 := (congrArg (gi w89 3) (congrArg Int.toNat (show f0_.toInt = f0_.toInt by omega))).trans c174
      refine wk_top f2_ (c174.symm.trans c102) ?_
      refine tk_iast hC hK hw hT kM_at4 (by decide) rfl rfl (show 0 ≤ x170.toInt by omega) (show x170.toInt < 216 by omega) (wk_i32 f2_).1 (wk_i32 f2_).2 dX12_isDoingHere_66 (fun H locs w175 hw hT k177 c176 => ?_)
      have hF := hF.put kM_at4 (inE_of (a := 0) (b := 216) (by decide) (show 0 ≤ x170.toInt.toNat by omega) (show x170.toInt.toNat ≤ 216 by omega)) k177
      have c178 := k177.gi (Or.inl (tk_ne kM_at0 kM_at4 (by decide))) c100
      have c179 := k177.gi (Or.inl (tk_ne kM_at0 kM_at4 (by decide))) c101
      have c180 := k177.gi (Or.inl (tk_ne kM_at3 kM_at4 (by decide))) c102
      have c181 := k177.gi (Or.inl (tk_ne kM_at5 kM_at4 (by decide))) c103
      have c182 := k177.gi (Or.inl (tk_ne kM_at0 kM_at4 (by decide))) c104
      refine lv_aload_n hx hb dX12_isDoingHere_67 rfl (lv_at hl 1 rfl) ?_
      obtain ⟨x183, c184, rx183, tx183⟩ := hT.rdi (lo := 0) (hi := 400) (k := 22) kM_at0 (by decide) rfl
      obtain ⟨x185, c186, rx185, tx185⟩ := hT.rdi (lo := (-100)) (hi := 10) (k := 19) kM_at0 (by decide) rfl
      refine tk_Vi hC hK hw hT hA hE hSR kM_at0 (by decide) rfl (k_X12_tested_1 l adK adV dC dI cy ad B (by omega) (by omega) qr s1    w175 H.size hT f0_ c178 (show 0 ≤ f0_.toInt by omega) (show f0_.toInt ≤ 5 by omega) f1_ c179 (show 0 ≤ f1_.toInt by omega) (show f1_.toInt ≤ 60 by omega) x185 c186 (show (-100) ≤ x185.toInt by omega) (show x185.toInt ≤ 10 by omega) x183 c184 (show 0 ≤ x183.toInt by omega) (show x183.toInt ≤ 400 by omega) f2_ c180 (show 0 ≤ f2_.toInt by omega) (show f2_.toInt ≤ 400 by omega) (show 3 * f2_.toInt ≤ 14 * f1_.toInt by omega) (show f2_.toInt ≤ 280 by omega)) (cwV 0 hC.2.2.2.2 gX12_isDoingHere_X12_tested rfl rfl rfl (by decide +kernel) ⟨Nat.le_of_ble_eq_true rfl, Nat.le_of_ble_eq_true rfl⟩) rfl hl.1 rfl (Nat.le_of_ble_eq_true rfl) dX12_isDoingHere_68 (fun r187 w189 H locs hp188 hw => ?_)
      obtain ⟨hT, k190, hg214⟩ := hp188
      have hF := hF.tr k190 (by decide)
      have c215 := k190.gi kM_at0 (by decide) c178
      have c216 := k190.gi kM_at5 rfl c181
      have c217 := k190.gi kM_at0 (by decide) c182
      rcases hg214 with ⟨rfl, ⟨x191, c192, rx191, tx191⟩, ⟨x193, c194, rx193, tx193⟩, ⟨x195, c196, rx195, tx195⟩, ⟨x197, c198, rx197, tx197⟩⟩ | ⟨rfl, ⟨x199, c200, rx199, tx199⟩, ⟨x201, c202, rx201, tx201⟩, ⟨x203, c204, rx203, tx203⟩, ⟨x205, c206, rx205, tx205⟩⟩ | ⟨rfl, ⟨x207, c208, rx207, tx207⟩, ⟨x209, c210, rx209, tx209⟩, ⟨x211, c212, rx211, tx211⟩, g213⟩
      · have ex191 : x191.toInt = x48.toInt := by rw [← c217.symm.trans c192]
        have ex195 : x195.toInt = f0_.toInt := by rw [← c215.symm.trans c196]
        obtain ⟨x218, c219, rx218, tx218⟩ := hT.rda (lo := 0) (hi := 400) (i := (f0_.toInt).toNat) kM_at3 rfl rfl (by omega)
        obtain ⟨x220, c221, rx220, tx220⟩ := hT.rdi (lo := 0) (hi := 60) (k := 18) kM_at0 (by decide) rfl
        obtain ⟨x222, c223, rx222, tx222⟩ := hT.rdi (lo := (-100)) (hi := 10) (k := 19) kM_at0 (by decide) rfl
        refine lv_if_ne (tgt := 76) hx hb dX12_isDoingHere_71 (by decide) (fun c => absurd (by decide) c) (fun _ => ?_)
        refine lv_iconst (v := 0) hx hb dX12_isDoingHere_74 (by decide) ?_
        exact tk_zret hC hr rfl hlocks hK ⟨hT, hF, (Or.inl ⟨rfl, ⟨x48, c217, (show 1 ≤ x48.toInt by omega), (show x48.toInt ≤ 400 by omega)⟩, ⟨x193, c194, (show 1 ≤ x193.toInt by omega), (show x193.toInt ≤ 3205 by omega)⟩, ⟨f0_, c215, (show 0 ≤ f0_.toInt by omega), (show f0_.toInt ≤ 5 by omega)⟩, ⟨x197, c198, (show 0 ≤ x197.toInt by omega), (show x197.toInt ≤ 399 by omega)⟩⟩)⟩ hw dX12_isDoingHere_75
      · have ex199 : x199.toInt = x48.toInt := by rw [← c217.symm.trans c200]
        have ex203 : x203.toInt = f0_.toInt := by rw [← c215.symm.trans c204]
        obtain ⟨x224, c225, rx224, tx224⟩ := hT.rda (lo := 0) (hi := 400) (i := (f0_.toInt).toNat) kM_at3 rfl rfl (by omega)
        obtain ⟨x226, c227, rx226, tx226⟩ := hT.rdi (lo := 0) (hi := 60) (k := 18) kM_at0 (by decide) rfl
        obtain ⟨x228, c229, rx228, tx228⟩ := hT.rdi (lo := (-100)) (hi := 10) (k := 19) kM_at0 (by decide) rfl
        refine lv_if_ne (tgt := 76) hx hb dX12_isDoingHere_71 (by decide) (fun c => absurd (by decide) c) (fun _ => ?_)
        refine lv_iconst (v := 0) hx hb dX12_isDoingHere_74 (by decide) ?_
        exact tk_zret hC hr rfl hlocks hK ⟨hT, hF, (Or.inl ⟨rfl, ⟨x48, c217, (show 1 ≤ x48.toInt by omega), (show x48.toInt ≤ 400 by omega)⟩, ⟨x201, c202, (show 1 ≤ x201.toInt by omega), (show x201.toInt ≤ 3205 by omega)⟩, ⟨f0_, c215, (show 0 ≤ f0_.toInt by omega), (show f0_.toInt ≤ 5 by omega)⟩, ⟨x205, c206, (show 0 ≤ x205.toInt by omega), (show x205.toInt ≤ 399 by omega)⟩⟩)⟩ hw dX12_isDoingHere_75
      · have ex207 : x207.toInt = f0_.toInt := by rw [← c215.symm.trans c208]
        obtain ⟨x230, c231, rx230, tx230⟩ := hT.rda (lo := 0) (hi := 400) (i := (f0_.toInt).toNat) kM_at3 rfl rfl (by omega)
        obtain ⟨x232, c233, rx232, tx232⟩ := hT.rdi (lo := 0) (hi := 60) (k := 18) kM_at0 (by decide) rfl
        have g213 : 3 * x230.toInt ≤ 14 * x232.toInt := by have q := g213; simp only [c178, c215, c231, c233] at q; omega
        refine lv_if_ne (tgt := 76) hx hb dX12_isDoingHere_71 (by decide) (fun _ => ?_) (fun c => absurd c (by decide))
        exact J76 x67 x48 x232 x230 H locs ls w189 (show 0 ≤ x67.toInt by omega) (show x67.toInt ≤ 213 by omega) (show 0 ≤ x48.toInt by omega) (show x48.toInt ≤ 400 by omega) (show 0 ≤ f0_.toInt by omega) (show f0_.toInt ≤ 5 by omega) (show 0 ≤ x232.toInt by omega) (show x232.toInt ≤ 60 by omega) (show 0 ≤ x230.toInt by omega) (show x230.toInt ≤ 400 by omega) (show 0 ≤ f3_.toInt by omega) (show f3_.toInt ≤ 11 by omega) (show 3 * x230.toInt ≤ 14 * x232.toInt by omega) (show f3_.toInt = f3_.toInt by omega) (show f3_.toInt ≤ 11 by omega)  hw hT hF c217 c215 c233 c231 c216 (lv_sub hl [1, 2, 0] rfl)
  · refine lv_bipush (v := 36) hx hb dX12_isDoingHere_4 (by decide) ?_
    refine lv_aload_n hx hb dX12_isDoingHere_6 rfl (lv_at hl 0 rfl) ?_
    refine tk_geti hC hK hw hT hinX12 kM_at0 (by decide) rfl 17 (by decide) (List.mem_of_getElem? (i := 1) rfl) rfl rfl dX12_isDoingHere_7 (fun x234 c235 rx234 tx234 => ?_)
    refine wk_top f0_ (c235.symm.trans c55) ?_
    refine lv_imul hx hb dX12_isDoingHere_10 ?_
    refine lv_topi (fun x236 ex236 => ?_)
    have ex236 : x236.toInt = (36 : Int) * f0_.toInt := by rw [ex236]; exact wk_mul (show (-2147483648) ≤ (36 : Int) * f0_.toInt by omega) (show (36 : Int) * f0_.toInt ≤ 2147483647 by omega)
    refine lv_iconst (v := 3) hx hb dX12_isDoingHere_11 (by decide) ?_
    refine lv_aload_n hx hb dX12_isDoingHere_12 rfl (lv_at hl 0 rfl) ?_
    refine tk_getA hC hK hw hT hinX12 kM_at0 (by decide) rfl 6 (by decide) (List.mem_of_getElem? (i := 2) rfl) rfl rfl dX12_isDoingHere_13 ?_
    refine lv_aload_n hx hb dX12_isDoingHere_16 rfl (lv_at hl 0 rfl) ?_
    refine tk_geti hC hK hw hT hinX12 kM_at0 (by decide) rfl 17 (by decide) (List.mem_of_getElem? (i := 1) rfl) rfl rfl dX12_isDoingHere_17 (fun x237 c238 rx237 tx237 => ?_)
    refine wk_top f0_ (c238.symm.trans c55) ?_
    refine tk_iald hC hK hw hT kM_at5 rfl rfl (show 0 ≤ f0_.toInt by omega) (show f0_.toInt < 6 by omega) dX12_isDoingHere_20 (fun x239 c240 rx239 tx239 => ?_)
    have c240 : gi w46 5 (f0_.toInt).toNat = x239 := (congrArg (gi w46 5) (congrArg Int.toNat (show f0_.toInt = f0_.toInt by omega))).trans c240
    refine wk_top f3_ (c240.symm.trans c58) ?_
    refine lv_imul hx hb dX12_isDoingHere_21 ?_
    refine lv_topi (fun x241 ex241 => ?_)
    have ex241 : x241.toInt = (3 : Int) * f3_.toInt := by rw [ex241]; exact wk_mul (show (-2147483648) ≤ (3 : Int) * f3_.toInt by omega) (show (3 : Int) * f3_.toInt ≤ 2147483647 by omega)
    refine lv_iadd hx hb dX12_isDoingHere_22 ?_
    refine lv_topi (fun x242 ex242 => ?_)
    have ex242 : x242.toInt = x236.toInt + x241.toInt := by rw [ex242]; exact wk_add (show (-2147483648) ≤ x236.toInt + x241.toInt by omega) (show x236.toInt + x241.toInt ≤ 2147483647 by omega)
    refine lv_istore_n (lv' := [(2, .int x242), (0, .ref (ad 0)), (1, .int (-1))]) hx hb dX12_isDoingHere_23 rfl hl (by decide) rfl (fun ls hl => ?_)
    refine lv_aload_n hx hb dX12_isDoingHere_24 rfl (lv_at hl 1 rfl) ?_
    refine tk_getA hC hK hw hT hinX12 kM_at0 (by decide) rfl 5 (by decide) (List.mem_of_getElem? (i := 3) rfl) rfl rfl dX12_isDoingHere_25 ?_
    refine lv_iload_n hx hb dX12_isDoingHere_28 rfl (lv_at hl 0 rfl) ?_
    refine lv_iload_n hx hb dX12_isDoingHere_29 rfl (lv_at hl 2 rfl) ?_
    refine tk_iast hC hK hw hT kM_at4 (by decide) rfl rfl (show 0 ≤ x242.toInt by omega) (show x242.toInt < 216 by omega) (by decide) (by decide) dX12_isDoingHere_30 (fun H locs w243 hw hT k245 c244 => ?_)
    have hF := hF.put kM_at4 (inE_of (a := 0) (b := 216) (by decide) (show 0 ≤ x242.toInt.toNat by omega) (show x242.toInt.toNat ≤ 216 by omega)) k245
    have c246 := k245.gi (Or.inl (tk_ne kM_at0 kM_at4 (by decide))) c55
    have c247 := k245.gi (Or.inl (tk_ne kM_at0 kM_at4 (by decide))) c56
    have c248 := k245.gi (Or.inl (tk_ne kM_at3 kM_at4 (by decide))) c57
    have c249 := k245.gi (Or.inl (tk_ne kM_at5 kM_at4 (by decide))) c58
    have c250 := k245.gi (Or.inl (tk_ne kM_at0 kM_at4 (by decide))) c53
    refine lv_aload_n hx hb dX12_isDoingHere_31 rfl (lv_at hl 1 rfl) ?_
    refine tk_getA hC hK hw hT hinX12 kM_at0 (by decide) rfl 5 (by decide) (List.mem_of_getElem? (i := 3) rfl) rfl rfl dX12_isDoingHere_32 ?_
    refine lv_iload_n hx hb dX12_isDoingHere_35 rfl (lv_at hl 0 rfl) ?_
    refine lv_iconst (v := 1) hx hb dX12_isDoingHere_36 (by decide) ?_
    refine lv_iadd hx hb dX12_isDoingHere_37 ?_
    refine lv_topi (fun x251 ex251 => ?_)
    have ex251 : x251.toInt = x242.toInt + (1 : Int) := by rw [ex251]; exact wk_add (show (-2147483648) ≤ x242.toInt + (1 : Int) by omega) (show x242.toInt + (1 : Int) ≤ 2147483647 by omega)
    refine lv_iconst (v := (-1)) hx hb dX12_isDoingHere_38 (by decide) ?_
    refine tk_iast hC hK hw hT kM_at4 (by decide) rfl rfl (show 0 ≤ x251.toInt by omega) (show x251.toInt < 216 by omega) (by decide) (by decide) dX12_isDoingHere_39 (fun H locs w252 hw hT k254 c253 => ?_)
    have hF := hF.put kM_at4 (inE_of (a := 0) (b := 216) (by decide) (show 0 ≤ x251.toInt.toNat by omega) (show x251.toInt.toNat ≤ 216 by omega)) k254
    have c255 := k254.gi (Or.inl (tk_ne kM_at0 kM_at4 (by decide))) c246
    have c256 := k254.gi (Or.inl (tk_ne kM_at0 kM_at4 (by decide))) c247
    have c257 := k254.gi (Or.inl (tk_ne kM_at3 kM_at4 (by decide))) c248
    have c258 := k254.gi (Or.inl (tk_ne kM_at5 kM_at4 (by decide))) c249
    have c259 := k254.gi (Or.inl (tk_ne kM_at0 kM_at4 (by decide))) c250
    refine lv_aload_n hx hb dX12_isDoingHere_40 rfl (lv_at hl 1 rfl) ?_
    refine lv_ldc2 (v := 26982) hx hb hC.2.2.2.1 (hC.2.2.2.2 _ (List.mem_of_getElem? (i := 4) rfl)) dX12_isDoingHere_41 ?_
    refine tk_Vi hC hK hw hT hA hE hSR kM_at0 (by decide) rfl (k_X12_takesWord_1 l adK adV dC dI cy ad B (by omega) (by omega) qr s1    w252 H.size hT ) (cwV 1 hC.2.2.2.2 gX12_isDoingHere_X12_takesWord rfl rfl rfl (by decide +kernel) ⟨Nat.le_of_ble_eq_true rfl, Nat.le_of_ble_eq_true rfl⟩) rfl hl.1 rfl (Nat.le_of_ble_eq_true rfl) dX12_isDoingHere_44 (fun r260 w262 H locs hp261 hw => ?_)
    obtain ⟨hT, k263, hg272⟩ := hp261
    have hF := hF.tr k263 (by decide)
    have c273 := k263.gi kM_at0 (by decide) c255
    have c274 := k263.gi kM_at0 (by decide) c256
    have c275 := k263.gi kM_at3 rfl c257
    have c276 := k263.gi kM_at5 rfl c258
    have c277 := k263.gi kM_at0 (by decide) c259
    rcases hg272 with ⟨rfl, ⟨x264, c265, rx264, tx264⟩⟩ | ⟨rfl, ⟨x266, c267, rx266, tx266⟩, ⟨x268, c269, rx268, tx268⟩⟩ | ⟨rfl, ⟨x270, c271, rx270, tx270⟩⟩
    · have ex264 : x264.toInt = x52.toInt := by rw [← c277.symm.trans c265]
      refine lv_if_eq (tgt := 76) hx hb dX12_isDoingHere_47 (by decide) (fun _ => ?_) (fun c => absurd (by decide) c)
      exact J76 x242 x52 f1_ f2_ H locs ls w262 (show 0 ≤ x242.toInt by omega) (show x242.toInt ≤ 213 by omega) (show 0 ≤ x52.toInt by omega) (show x52.toInt ≤ 400 by omega) (show 0 ≤ f0_.toInt by omega) (show f0_.toInt ≤ 5 by omega) (show 0 ≤ f1_.toInt by omega) (show f1_.toInt ≤ 60 by omega) (show 0 ≤ f2_.toInt by omega) (show f2_.toInt ≤ 400 by omega) (show 0 ≤ f3_.toInt by omega) (show f3_.toInt ≤ 11 by omega) (show 3 * f2_.toInt ≤ 14 * f1_.toInt by omega) (show f3_.toInt = f3_.toInt by omega) (show f3_.toInt ≤ 11 by omega)  hw hT hF c277 c273 c274 c275 c276 (lv_sub hl [1, 2, 0] rfl)
    · have ex266 : x266.toInt = x52.toInt := by rw [← c277.symm.trans c267]
      refine lv_if_eq (tgt := 76) hx hb dX12_isDoingHere_47 (by decide) (fun c => absurd c (by decide)) (fun _ => ?_)
      refine lv_aload_n hx hb dX12_isDoingHere_50 rfl (lv_at hl 1 rfl) ?_
      refine tk_getA hC hK hw hT hinX12 kM_at0 (by decide) rfl 5 (by decide) (List.mem_of_getElem? (i := 3) rfl) rfl rfl dX12_isDoingHere_51 ?_
      refine lv_iload_n hx hb dX12_isDoingHere_54 rfl (lv_at hl 0 rfl) ?_
      refine lv_iconst (v := 1) hx hb dX12_isDoingHere_55 (by decide) ?_
      refine lv_iadd hx hb dX12_isDoingHere_56 ?_
      refine lv_topi (fun x278 ex278 => ?_)
      have ex278 : x278.toInt = x242.toInt + (1 : Int) := by rw [ex278]; exact wk_add (show (-2147483648) ≤ x242.toInt + (1 : Int) by omega) (show x242.toInt + (1 : Int) ≤ 2147483647 by omega)
      refine lv_aload_n hx hb dX12_isDoingHere_57 rfl (lv_at hl 1 rfl) ?_
      refine tk_getA hC hK hw hT hinX12 kM_at0 (by decide) rfl 4 (by decide) (List.mem_of_getElem? (i := 5) rfl) rfl rfl dX12_isDoingHere_58 ?_
      refine lv_aload_n hx hb dX12_isDoingHere_61 rfl (lv_at hl 1 rfl) ?_
      refine tk_geti hC hK hw hT hinX12 kM_at0 (by decide) rfl 17 (by decide) (List.mem_of_getElem? (i := 1) rfl) rfl rfl dX12_isDoingHere_62 (fun x279 c280 rx279 tx279 => ?_)
      refine wk_top f0_ (c280.symm.trans c273) ?_
      refine tk_iald hC hK hw hT kM_at3 rfl rfl (show 0 ≤ f0_.toInt by omega) (show f0_.toInt < 7 by omega) dX12_isDoingHere_65 (fun x281 c282 rx281 tx281 => ?_)
      have c282 : gi w262 3 (f0_.toInt).toNat = x281 := (congrArg (gi w262 3) (congrArg Int.toNat (show f0_.toInt = f0_.toInt by omega))).trans c282
      refine wk_top f2_ (c282.symm.trans c275) ?_
      refine tk_iast hC hK hw hT kM_at4 (by decide) rfl rfl (show 0 ≤ x278.toInt by omega) (show x278.toInt < 216 by omega) (wk_i32 f2_).1 (wk_i32 f2_).2 dX12_isDoingHere_66 (fun H locs w283 hw hT k285 c284 => ?_)
      have hF := hF.put kM_at4 (inE_of (a := 0) (b := 216) (by decide) (show 0 ≤ x278.toInt.toNat by omega) (show x278.toInt.toNat ≤ 216 by omega)) k285
      have c286 := k285.gi (Or.inl (tk_ne kM_at0 kM_at4 (by decide))) c273
      have c287 := k285.gi (Or.inl (tk_ne kM_at0 kM_at4 (by decide))) c274
      have c288 := k285.gi (Or.inl (tk_ne kM_at3 kM_at4 (by decide))) c275
      have c289 := k285.gi (Or.inl (tk_ne kM_at5 kM_at4 (by decide))) c276
      have c290 := k285.gi (Or.inl (tk_ne kM_at0 kM_at4 (by decide))) c277
      have c291 := k285.gi (Or.inl (tk_ne kM_at0 kM_at4 (by decide))) c269
      refine lv_aload_n hx hb dX12_isDoingHere_67 rfl (lv_at hl 1 rfl) ?_
      obtain ⟨x292, c293, rx292, tx292⟩ := hT.rdi (lo := 0) (hi := 400) (k := 22) kM_at0 (by decide) rfl
      obtain ⟨x294, c295, rx294, tx294⟩ := hT.rdi (lo := (-100)) (hi := 10) (k := 19) kM_at0 (by decide) rfl
      refine tk_Vi hC hK hw hT hA hE hSR kM_at0 (by decide) rfl (k_X12_tested_1 l adK adV dC dI cy ad B (by omega) (by omega) qr s1    w283 H.size hT f0_ c286 (show 0 ≤ f0_.toInt by omega) (show f0_.toInt ≤ 5 by omega) f1_ c287 (show 0 ≤ f1_.toInt by omega) (show f1_.toInt ≤ 60 by omega) x294 c295 (show (-100) ≤ x294.toInt by omega) (show x294.toInt ≤ 10 by omega) x292 c293 (show 0 ≤ x292.toInt by omega) (show x292.toInt ≤ 400 by omega) f2_ c288 (show 0 ≤ f2_.toInt by omega) (show f2_.toInt ≤ 400 by omega) (show 3 * f2_.toInt ≤ 14 * f1_.toInt by omega) (show f2_.toInt ≤ 280 by omega)) (cwV 0 hC.2.2.2.2 gX12_isDoingHere_X12_tested rfl rfl rfl (by decide +kernel) ⟨Nat.le_of_ble_eq_true rfl, Nat.le_of_ble_eq_true rfl⟩) rfl hl.1 rfl (Nat.le_of_ble_eq_true rfl) dX12_isDoingHere_68 (fun r296 w298 H locs hp297 hw => ?_)
      obtain ⟨hT, k299, hg323⟩ := hp297
      have hF := hF.tr k299 (by decide)
      have c324 := k299.gi kM_at0 (by decide) c286
      have c325 := k299.gi kM_at5 rfl c289
      have c326 := k299.gi kM_at0 (by decide) c290
      rcases hg323 with ⟨rfl, ⟨x300, c301, rx300, tx300⟩, ⟨x302, c303, rx302, tx302⟩, ⟨x304, c305, rx304, tx304⟩, ⟨x306, c307, rx306, tx306⟩⟩ | ⟨rfl, ⟨x308, c309, rx308, tx308⟩, ⟨x310, c311, rx310, tx310⟩, ⟨x312, c313, rx312, tx312⟩, ⟨x314, c315, rx314, tx314⟩⟩ | ⟨rfl, ⟨x316, c317, rx316, tx316⟩, ⟨x318, c319, rx318, tx318⟩, ⟨x320, c321, rx320, tx320⟩, g322⟩
      · have ex300 : x300.toInt = x52.toInt := by rw [← c326.symm.trans c301]
        have ex304 : x304.toInt = f0_.toInt := by rw [← c324.symm.trans c305]
        obtain ⟨x327, c328, rx327, tx327⟩ := hT.rda (lo := 0) (hi := 400) (i := (f0_.toInt).toNat) kM_at3 rfl rfl (by omega)
        obtain ⟨x329, c330, rx329, tx329⟩ := hT.rdi (lo := 0) (hi := 60) (k := 18) kM_at0 (by decide) rfl
        obtain ⟨x331, c332, rx331, tx331⟩ := hT.rdi (lo := (-100)) (hi := 10) (k := 19) kM_at0 (by decide) rfl
        refine lv_if_ne (tgt := 76) hx hb dX12_isDoingHere_71 (by decide) (fun c => absurd (by decide) c) (fun _ => ?_)
        refine lv_iconst (v := 0) hx hb dX12_isDoingHere_74 (by decide) ?_
        exact tk_zret hC hr rfl hlocks hK ⟨hT, hF, (Or.inl ⟨rfl, ⟨x52, c326, (show 1 ≤ x52.toInt by omega), (show x52.toInt ≤ 400 by omega)⟩, ⟨x302, c303, (show 1 ≤ x302.toInt by omega), (show x302.toInt ≤ 3205 by omega)⟩, ⟨f0_, c324, (show 0 ≤ f0_.toInt by omega), (show f0_.toInt ≤ 5 by omega)⟩, ⟨x306, c307, (show 0 ≤ x306.toInt by omega), (show x306.toInt ≤ 399 by omega)⟩⟩)⟩ hw dX12_isDoingHere_75
      · have ex308 : x308.toInt = x52.toInt := by rw [← c326.symm.trans c309]
        have ex312 : x312.toInt = f0_.toInt := by rw [← c324.symm.trans c313]
        obtain ⟨x333, c334, rx333, tx333⟩ := hT.rda (lo := 0) (hi := 400) (i := (f0_.toInt).toNat) kM_at3 rfl rfl (by omega)
        obtain ⟨x335, c336, rx335, tx335⟩ := hT.rdi (lo := 0) (hi := 60) (k := 18) kM_at0 (by decide) rfl
        obtain ⟨x337, c338, rx337, tx337⟩ := hT.rdi (lo := (-100)) (hi := 10) (k := 19) kM_at0 (by decide) rfl
        refine lv_if_ne (tgt := 76) hx hb dX12_isDoingHere_71 (by decide) (fun c => absurd (by decide) c) (fun _ => ?_)
        refine lv_iconst (v := 0) hx hb dX12_isDoingHere_74 (by decide) ?_
        exact tk_zret hC hr rfl hlocks hK ⟨hT, hF, (Or.inl ⟨rfl, ⟨x52, c326, (show 1 ≤ x52.toInt by omega), (show x52.toInt ≤ 400 by omega)⟩, ⟨x310, c311, (show 1 ≤ x310.toInt by omega), (show x310.toInt ≤ 3205 by omega)⟩, ⟨f0_, c324, (show 0 ≤ f0_.toInt by omega), (show f0_.toInt ≤ 5 by omega)⟩, ⟨x314, c315, (show 0 ≤ x314.toInt by omega), (show x314.toInt ≤ 399 by omega)⟩⟩)⟩ hw dX12_isDoingHere_75
      · have ex316 : x316.toInt = f0_.toInt := by rw [← c324.symm.trans c317]
        obtain ⟨x339, c340, rx339, tx339⟩ := hT.rda (lo := 0) (hi := 400) (i := (f0_.toInt).toNat) kM_at3 rfl rfl (by omega)
        obtain ⟨x341, c342, rx341, tx341⟩ := hT.rdi (lo := 0) (hi := 60) (k := 18) kM_at0 (by decide) rfl
        have g322 : 3 * x339.toInt ≤ 14 * x341.toInt := by have q := g322; simp only [c286, c324, c340, c342] at q; omega
        refine lv_if_ne (tgt := 76) hx hb dX12_isDoingHere_71 (by decide) (fun _ => ?_) (fun c => absurd c (by decide))
        exact J76 x242 x52 x341 x339 H locs ls w298 (show 0 ≤ x242.toInt by omega) (show x242.toInt ≤ 213 by omega) (show 0 ≤ x52.toInt by omega) (show x52.toInt ≤ 400 by omega) (show 0 ≤ f0_.toInt by omega) (show f0_.toInt ≤ 5 by omega) (show 0 ≤ x341.toInt by omega) (show x341.toInt ≤ 60 by omega) (show 0 ≤ x339.toInt by omega) (show x339.toInt ≤ 400 by omega) (show 0 ≤ f3_.toInt by omega) (show f3_.toInt ≤ 11 by omega) (show 3 * x339.toInt ≤ 14 * x341.toInt by omega) (show f3_.toInt = f3_.toInt by omega) (show f3_.toInt ≤ 11 by omega)  hw hT hF c326 c324 c342 c340 c325 (lv_sub hl [1, 2, 0] rfl)
    · have ex270 : x270.toInt = x52.toInt := by rw [← c277.symm.trans c271]
      refine lv_if_eq (tgt := 76) hx hb dX12_isDoingHere_47 (by decide) (fun c => absurd c (by decide)) (fun _ => ?_)
      refine lv_aload_n hx hb dX12_isDoingHere_50 rfl (lv_at hl 1 rfl) ?_
      refine tk_getA hC hK hw hT hinX12 kM_at0 (by decide) rfl 5 (by decide) (List.mem_of_getElem? (i := 3) rfl) rfl rfl dX12_isDoingHere_51 ?_
      refine lv_iload_n hx hb dX12_isDoingHere_54 rfl (lv_at hl 0 rfl) ?_
      refine lv_iconst (v := 1) hx hb dX12_isDoingHere_55 (by decide) ?_
      refine lv_iadd hx hb dX12_isDoingHere_56 ?_
      refine lv_topi (fun x343 ex343 => ?_)
      have ex343 : x343.toInt = x242.toInt + (1 : Int) := by rw [ex343]; exact wk_add (show (-2147483648) ≤ x242.toInt + (1 : Int) by omega) (show x242.toInt + (1 : Int) ≤ 2147483647 by omega)
      refine lv_aload_n hx hb dX12_isDoingHere_57 rfl (lv_at hl 1 rfl) ?_
      refine tk_getA hC hK hw hT hinX12 kM_at0 (by decide) rfl 4 (by decide) (List.mem_of_getElem? (i := 5) rfl) rfl rfl dX12_isDoingHere_58 ?_
      refine lv_aload_n hx hb dX12_isDoingHere_61 rfl (lv_at hl 1 rfl) ?_
      refine tk_geti hC hK hw hT hinX12 kM_at0 (by decide) rfl 17 (by decide) (List.mem_of_getElem? (i := 1) rfl) rfl rfl dX12_isDoingHere_62 (fun x344 c345 rx344 tx344 => ?_)
      refine wk_top f0_ (c345.symm.trans c273) ?_
      refine tk_iald hC hK hw hT kM_at3 rfl rfl (show 0 ≤ f0_.toInt by omega) (show f0_.toInt < 7 by omega) dX12_isDoingHere_65 (fun x346 c347 rx346 tx346 => ?_)
      have c347 : gi w262 3 (f0_.toInt).toNat = x346 := (congrArg (gi w262 3) (congrArg Int.toNat (show f0_.toInt = f0_.toInt by omega))).trans c347
      refine wk_top f2_ (c347.symm.trans c275) ?_
      refine tk_iast hC hK hw hT kM_at4 (by decide) rfl rfl (show 0 ≤ x343.toInt by omega) (show x343.toInt < 216 by omega) (wk_i32 f2_).1 (wk_i32 f2_).2 dX12_isDoingHere_66 (fun H locs w348 hw hT k350 c349 => ?_)
      have hF := hF.put kM_at4 (inE_of (a := 0) (b := 216) (by decide) (show 0 ≤ x343.toInt.toNat by omega) (show x343.toInt.toNat ≤ 216 by omega)) k350
      have c351 := k350.gi (Or.inl (tk_ne kM_at0 kM_at4 (by decide))) c273
      have c352 := k350.gi (Or.inl (tk_ne kM_at0 kM_at4 (by decide))) c274
      have c353 := k350.gi (Or.inl (tk_ne kM_at3 kM_at4 (by decide))) c275
      have c354 := k350.gi (Or.inl (tk_ne kM_at5 kM_at4 (by decide))) c276
      have c355 := k350.gi (Or.inl (tk_ne kM_at0 kM_at4 (by decide))) c277
      refine lv_aload_n hx hb dX12_isDoingHere_67 rfl (lv_at hl 1 rfl) ?_
      obtain ⟨x356, c357, rx356, tx356⟩ := hT.rdi (lo := 0) (hi := 400) (k := 22) kM_at0 (by decide) rfl
      obtain ⟨x358, c359, rx358, tx358⟩ := hT.rdi (lo := (-100)) (hi := 10) (k := 19) kM_at0 (by decide) rfl
      refine tk_Vi hC hK hw hT hA hE hSR kM_at0 (by decide) rfl (k_X12_tested_1 l adK adV dC dI cy ad B (by omega) (by omega) qr s1    w348 H.size hT f0_ c351 (show 0 ≤ f0_.toInt by omega) (show f0_.toInt ≤ 5 by omega) f1_ c352 (show 0 ≤ f1_.toInt by omega) (show f1_.toInt ≤ 60 by omega) x358 c359 (show (-100) ≤ x358.toInt by omega) (show x358.toInt ≤ 10 by omega) x356 c357 (show 0 ≤ x356.toInt by omega) (show x356.toInt ≤ 400 by omega) f2_ c353 (show 0 ≤ f2_.toInt by omega) (show f2_.toInt ≤ 400 by omega) (show 3 * f2_.toInt ≤ 14 * f1_.toInt by omega) (show f2_.toInt ≤ 280 by omega)) (cwV 0 hC.2.2.2.2 gX12_isDoingHere_X12_tested rfl rfl rfl (by decide +kernel) ⟨Nat.le_of_ble_eq_true rfl, Nat.le_of_ble_eq_true rfl⟩) rfl hl.1 rfl (Nat.le_of_ble_eq_true rfl) dX12_isDoingHere_68 (fun r360 w362 H locs hp361 hw => ?_)
      obtain ⟨hT, k363, hg387⟩ := hp361
      have hF := hF.tr k363 (by decide)
      have c388 := k363.gi kM_at0 (by decide) c351
      have c389 := k363.gi kM_at5 rfl c354
      have c390 := k363.gi kM_at0 (by decide) c355
      rcases hg387 with ⟨rfl, ⟨x364, c365, rx364, tx364⟩, ⟨x366, c367, rx366, tx366⟩, ⟨x368, c369, rx368, tx368⟩, ⟨x370, c371, rx370, tx370⟩⟩ | ⟨rfl, ⟨x372, c373, rx372, tx372⟩, ⟨x374, c375, rx374, tx374⟩, ⟨x376, c377, rx376, tx376⟩, ⟨x378, c379, rx378, tx378⟩⟩ | ⟨rfl, ⟨x380, c381, rx380, tx380⟩, ⟨x382, c383, rx382, tx382⟩, ⟨x384, c385, rx384, tx384⟩, g386⟩
      · have ex364 : x364.toInt = x52.toInt := by rw [← c390.symm.trans c365]
        have ex368 : x368.toInt = f0_.toInt := by rw [← c388.symm.trans c369]
        obtain ⟨x391, c392, rx391, tx391⟩ := hT.rda (lo := 0) (hi := 400) (i := (f0_.toInt).toNat) kM_at3 rfl rfl (by omega)
        obtain ⟨x393, c394, rx393, tx393⟩ := hT.rdi (lo := 0) (hi := 60) (k := 18) kM_at0 (by decide) rfl
        obtain ⟨x395, c396, rx395, tx395⟩ := hT.rdi (lo := (-100)) (hi := 10) (k := 19) kM_at0 (by decide) rfl
        refine lv_if_ne (tgt := 76) hx hb dX12_isDoingHere_71 (by decide) (fun c => absurd (by decide) c) (fun _ => ?_)
        refine lv_iconst (v := 0) hx hb dX12_isDoingHere_74 (by decide) ?_
        exact tk_zret hC hr rfl hlocks hK ⟨hT, hF, (Or.inl ⟨rfl, ⟨x52, c390, (show 1 ≤ x52.toInt by omega), (show x52.toInt ≤ 400 by omega)⟩, ⟨x366, c367, (show 1 ≤ x366.toInt by omega), (show x366.toInt ≤ 3205 by omega)⟩, ⟨f0_, c388, (show 0 ≤ f0_.toInt by omega), (show f0_.toInt ≤ 5 by omega)⟩, ⟨x370, c371, (show 0 ≤ x370.toInt by omega), (show x370.toInt ≤ 399 by omega)⟩⟩)⟩ hw dX12_isDoingHere_75
      · have ex372 : x372.toInt = x52.toInt := by rw [← c390.symm.trans c373]
        have ex376 : x376.toInt = f0_.toInt := by rw [← c388.symm.trans c377]
        obtain ⟨x397, c398, rx397, tx397⟩ := hT.rda (lo := 0) (hi := 400) (i := (f0_.toInt).toNat) kM_at3 rfl rfl (by omega)
        obtain ⟨x399, c400, rx399, tx399⟩ := hT.rdi (lo := 0) (hi := 60) (k := 18) kM_at0 (by decide) rfl
        obtain ⟨x401, c402, rx401, tx401⟩ := hT.rdi (lo := (-100)) (hi := 10) (k := 19) kM_at0 (by decide) rfl
        refine lv_if_ne (tgt := 76) hx hb dX12_isDoingHere_71 (by decide) (fun c => absurd (by decide) c) (fun _ => ?_)
        refine lv_iconst (v := 0) hx hb dX12_isDoingHere_74 (by decide) ?_
        exact tk_zret hC hr rfl hlocks hK ⟨hT, hF, (Or.inr (Or.inl ⟨rfl, ⟨x52, c390, (show 0 ≤ x52.toInt by omega), (show x52.toInt ≤ 400 by omega)⟩, ⟨x374, c375, (show 1 ≤ x374.toInt by omega), (show x374.toInt ≤ 3205 by omega)⟩, ⟨f0_, c388, (show 0 ≤ f0_.toInt by omega), (show f0_.toInt ≤ 5 by omega)⟩, ⟨x378, c379, (show 0 ≤ x378.toInt by omega), (show x378.toInt ≤ 399 by omega)⟩⟩))⟩ hw dX12_isDoingHere_75
      · have ex380 : x380.toInt = f0_.toInt := by rw [← c388.symm.trans c381]
        obtain ⟨x403, c404, rx403, tx403⟩ := hT.rda (lo := 0) (hi := 400) (i := (f0_.toInt).toNat) kM_at3 rfl rfl (by omega)
        obtain ⟨x405, c406, rx405, tx405⟩ := hT.rdi (lo := 0) (hi := 60) (k := 18) kM_at0 (by decide) rfl
        have g386 : 3 * x403.toInt ≤ 14 * x405.toInt := by have q := g386; simp only [c351, c388, c404, c406] at q; omega
        refine lv_if_ne (tgt := 76) hx hb dX12_isDoingHere_71 (by decide) (fun _ => ?_) (fun c => absurd c (by decide))
        exact J76 x242 x52 x405 x403 H locs ls w362 (show 0 ≤ x242.toInt by omega) (show x242.toInt ≤ 213 by omega) (show 0 ≤ x52.toInt by omega) (show x52.toInt ≤ 400 by omega) (show 0 ≤ f0_.toInt by omega) (show f0_.toInt ≤ 5 by omega) (show 0 ≤ x405.toInt by omega) (show x405.toInt ≤ 60 by omega) (show 0 ≤ x403.toInt by omega) (show x403.toInt ≤ 400 by omega) (show 0 ≤ f3_.toInt by omega) (show f3_.toInt ≤ 11 by omega) (show 3 * x403.toInt ≤ 14 * x405.toInt by omega) (show f3_.toInt = f3_.toInt by omega) (show f3_.toInt ≤ 11 by omega)  hw hT hF c390 c388 c406 c404 c389 (lv_sub hl [1, 2, 0] rfl)
abbrev P_X12_isDoingHere_2 (ad : Nat → Nat) (cy : Nat → ClassId) (B : Int) (qr : Nat) (s1 : Int) (a1 : Int32) (w0 : va_W) : Int32 → va_W → Prop := fun r u => TW ksM ad cy B qr 12 u ∧ FE ksM [(12, 14, 14), (12, 15, 15), (12, 16, 16), (12, 18, 18), (12, 19, 19), (12, 22, 22), (61, 0, 2400), (62, 0, 7), (63, 0, 216), (64, 0, 6), (68, 0, 400)] w0 u ∧ ((r = 0 ∧ (∃ y : Int32, gi u 0 1 = y ∧ 1 ≤ y.toInt ∧ y.toInt ≤ 400) ∧ (∃ y : Int32, gi u 0 15 = y ∧ 1 ≤ y.toInt ∧ y.toInt ≤ 3205) ∧ (∃ y : Int32, gi u 0 17 = y ∧ 0 ≤ y.toInt ∧ y.toInt ≤ 5) ∧ (∃ y : Int32, gi u 0 22 = y ∧ 0 ≤ y.toInt ∧ y.toInt ≤ 399)) ∨ (r = 0 ∧ (∃ y : Int32, gi u 0 1 = y ∧ 0 ≤ y.toInt ∧ y.toInt ≤ 400) ∧ (∃ y : Int32, gi u 0 15 = y ∧ 1 ≤ y.toInt ∧ y.toInt ≤ 3205) ∧ (∃ y : Int32, gi u 0 17 = y ∧ 0 ≤ y.toInt ∧ y.toInt ≤ 5) ∧ (∃ y : Int32, gi u 0 22 = y ∧ 0 ≤ y.toInt ∧ y.toInt ≤ 399)) ∨ (r = 1 ∧ (∃ y : Int32, gi u 0 1 = y ∧ 0 ≤ y.toInt ∧ y.toInt ≤ 400) ∧ (∃ y : Int32, gi u 0 17 = y ∧ 0 ≤ y.toInt ∧ y.toInt ≤ 5) ∧ (3 * (gi u 3 ((gi u 0 17).toInt).toNat).toInt ≤ 14 * (gi u 0 18).toInt) ∧ ((gi u 5 ((gi u 0 17).toInt).toNat).toInt = (gi w0 5 ((gi w0 0 17).toInt).toNat).toInt + 1)))
set_option maxHeartbeats 4000000 in
set_option maxRecDepth 100000 in
theorem k_X12_isDoingHere_2 (l : Launch) (adK adV : Nat → Nat) (dC : Nat → ClassId) (dI : Nat → Nat → Nat) (cy : Nat → ClassId) (ad : Nat → Nat) (B : Int) (hB0 : 100000 ≤ B) (hB1 : B ≤ 1073741824) (qr : Nat) (s1 : Int)  (a1 : Int32) (ra1 : 0 ≤ a1.toInt) (ta1 : a1.toInt ≤ 3) (w0 : va_W) (sz : Nat) (hT : TW ksM ad cy B qr 12 w0) (f0_ : Int32) (cf0_ : gi w0 0 17 = f0_) (rf0_ : 0 ≤ f0_.toInt) (tf0_ : f0_.toInt ≤ 5) (f1_ : Int32) (cf1_ : gi w0 0 18 = f1_) (rf1_ : 0 ≤ f1_.toInt) (tf1_ : f1_.toInt ≤ 60) (f2_ : Int32) (cf2_ : gi w0 3 (f0_.toInt).toNat = f2_) (rf2_ : 0 ≤ f2_.toInt) (tf2_ : f2_.toInt ≤ 400) (f3_ : Int32) (cf3_ : gi w0 5 (f0_.toInt).toNat = f3_) (rf3_ : 0 ≤ f3_.toInt) (tf3_ : f3_.toInt ≤ 12) (pr0_ : 3 * f2_.toInt ≤ 14 * f1_.toInt) (pr1_ : f2_.toInt ≤ 280) (pr2_ : f3_.toInt ≤ 11) : Met l yX12_isDoingHere wsX12_isDoingHere ({ frames := 10, cells := 0, slots := 0, locals := 210 }) (va_Pc [.ref (ad 0), .int a1] (wpreS adK adV dC dI cy sz w0)) (va_Qi (P_X12_isDoingHere_2 ad cy B qr s1 a1 w0) (fun u : va_W => wpost dC dI cy (va_A w0 sz) u) (va_A w0 sz)) 0 0 (va_A w0 sz) := by
  refine Met.ofW (cc := cX12_isDoingHere) (maxL := 3) (ret := (some .boolean)) (by decide) rfl ?_
  intro p e s m args below meth c s₁ Bk hml hv
  obtain ⟨rfl, ⟨hsz, hP, hK, hD0⟩, hE, hSR⟩ := hv
  have hx := Bk.exec
  have hb := Bk.bytes
  have hr := Bk.returns
  have hlocks := Bk.notSynchronized
  have hC : CallFix p m c cX12_isDoingHere 3 s _ wsX12_isDoingHere RX12 := ⟨hx, hb, hml, findClass_of_methodNamed Bk.named, atoms_spec (ws := wsX12_isDoingHere) Bk.pre⟩
  subst hsz
  have hD := hD0.self (sz := s.heap.size)
  generalize hAe : va_A w0 s.heap.size = A at hD hE ⊢
  have hA : ∀ q : Nat, s.heap.size ≤ q → A q := fun q h => by rw [← hAe]; exact Or.inr h
  have hw : Wd dC dI A s.heap s.heap [] w0 := ⟨hP, hD, va_S.rf⟩
  have hF : FE ksM [(12, 14, 14), (12, 15, 15), (12, 16, 16), (12, 18, 18), (12, 19, 19), (12, 22, 22), (61, 0, 2400), (62, 0, 7), (63, 0, 216), (64, 0, 6), (68, 0, 400)] w0 w0 := FE.rf
  have hl := lv_entry ([.ref (ad 0), .int a1]) (n := 3) (Nat.le_of_ble_eq_true rfl)
  rw [lg_entry_eq]
  generalize (lg_sl ([.ref (ad 0), .int a1]) ++ List.replicate (3 - (lg_sl ([.ref (ad 0), .int a1])).length) Slot.unset).toArray = ls at hl ⊢
  have hl : lv_has ls 3 [(0, .ref (ad 0)), (1, .int a1)] := hl
  generalize hloc : ([] : List Loc) = locs at hw ⊢
  have hinX12 : ∀ w ∈ u_ws RX12 TX12 42, w ∈ wsX12_isDoingHere := fun _ h => List.mem_cons_of_mem _ (List.mem_append_right _ (h))
  have J76 : ∀ (v76_2 : Int32) (f76_0_1 : Int32) (f76_0_18 : Int32) (f76_3__f0__toInt_toNat : Int32) (H : Heap) (locs : List Loc) (ls : Array Slot) (w1 : va_W), 0 ≤ a1.toInt → a1.toInt ≤ 3 → 0 ≤ v76_2.toInt → v76_2.toInt ≤ 213 → 0 ≤ f76_0_1.toInt → f76_0_1.toInt ≤ 400 → 0 ≤ f0_.toInt → f0_.toInt ≤ 5 → 0 ≤ f76_0_18.toInt → f76_0_18.toInt ≤ 60 → 0 ≤ f76_3__f0__toInt_toNat.toInt → f76_3__f0__toInt_toNat.toInt ≤ 400 → 0 ≤ f3_.toInt → f3_.toInt ≤ 11 → (3 * f76_3__f0__toInt_toNat.toInt ≤ 14 * f76_0_18.toInt) → (f3_.toInt = f3_.toInt) → (f3_.toInt ≤ 11) → Wd dC dI A s.heap H locs w1 → TW ksM ad cy B qr 12 w1 → FE ksM [(12, 14, 14), (12, 15, 15), (12, 16, 16), (12, 18, 18), (12, 19, 19), (12, 22, 22), (61, 0, 2400), (62, 0, 7), (63, 0, 216), (64, 0, 6), (68, 0, 400)] w0 w1 → gi w1 0 1 = f76_0_1 → gi w1 0 17 = f0_ → gi w1 0 18 = f76_0_18 → gi w1 3 (f0_.toInt).toNat = f76_3__f0__toInt_toNat → gi w1 5 (f0_.toInt).toNat = f3_ → lv_has ls 3 [(0, .ref (ad 0)), (1, .int a1), (2, .int v76_2)] → W p l e ({ frames := 10, cells := 0, slots := 0, locals := 210 }) s m (List.toArray [.ref (ad 0), .int a1]) below meth c H locs 0 0 (MQ below (va_Qi (P_X12_isDoingHere_2 ad cy B qr s1 a1 w0) (fun u : va_W => wpost dC dI cy A u) A) (List.toArray [.ref (ad 0), .int a1]) s 0 0 A) (F0 m 76 ls []) := by
    intro v76_2 f76_0_1 f76_0_18 f76_3__f0__toInt_toNat H locs ls w1 r2 t3 r4 t5 r6 t7 r9 t10 r12 t13 r15 t16 r18 t19 hcr76_0 hcr76_1 hcr76_2 hw hT hF c8 c11 c14 c17 c20 hl
    refine lv_aload_n hx hb dX12_isDoingHere_76 rfl (lv_at hl 0 rfl) ?_
    refine tk_getA hC hK hw hT hinX12 kM_at0 (by decide) rfl 5 (by decide) (List.mem_of_getElem? (i := 3) rfl) rfl rfl dX12_isDoingHere_77 ?_
    refine lv_iload_n hx hb dX12_isDoingHere_80 rfl (lv_at hl 2 rfl) ?_
    refine lv_iconst (v := 2) hx hb dX12_isDoingHere_81 (by decide) ?_
    refine lv_iadd hx hb dX12_isDoingHere_82 ?_
    refine lv_topi (fun x21 ex21 => ?_)
    have ex21 : x21.toInt = v76_2.toInt + (2 : Int) := by rw [ex21]; exact wk_add (show (-2147483648) ≤ v76_2.toInt + (2 : Int) by omega) (show v76_2.toInt + (2 : Int) ≤ 2147483647 by omega)
    refine lv_aload_n hx hb dX12_isDoingHere_83 rfl (lv_at hl 0 rfl) ?_
    refine tk_getA hC hK hw hT hinX12 kM_at0 (by decide) rfl 4 (by decide) (List.mem_of_getElem? (i := 5) rfl) rfl rfl dX12_isDoingHere_84 ?_
    refine lv_aload_n hx hb dX12_isDoingHere_87 rfl (lv_at hl 0 rfl) ?_
    refine tk_geti hC hK hw hT hinX12 kM_at0 (by decide) rfl 17 (by decide) (List.mem_of_getElem? (i := 1) rfl) rfl rfl dX12_isDoingHere_88 (fun x22 c23 rx22 tx22 => ?_)
    refine wk_top f0_ (c23.symm.trans c11) ?_
    refine tk_iald hC hK hw hT kM_at3 rfl rfl (show 0 ≤ f0_.toInt by omega) (show f0_.toInt < 7 by omega) dX12_isDoingHere_91 (fun x24 c25 rx24 tx24 => ?_)
    have c25 : gi w1 3 (f0_.toInt).toNat = x24 := (congrArg (gi w1 3) (congrArg Int.toNat (show f0_.toInt = f0_.toInt by omega))).trans c25
    refine wk_top f76_3__f0__toInt_toNat (c25.symm.trans c17) ?_
    refine tk_iast hC hK hw hT kM_at4 (by decide) rfl rfl (show 0 ≤ x21.toInt by omega) (show x21.toInt < 216 by omega) (wk_i32 f76_3__f0__toInt_toNat).1 (wk_i32 f76_3__f0__toInt_toNat).2 dX12_isDoingHere_92 (fun H locs w26 hw hT k28 c27 => ?_)
    have hF := hF.put kM_at4 (inE_of (a := 0) (b := 216) (by decide) (show 0 ≤ x21.toInt.toNat by omega) (show x21.toInt.toNat ≤ 216 by omega)) k28
    have c29 := k28.gi (Or.inl (tk_ne kM_at0 kM_at4 (by decide))) c8
    have c30 := k28.gi (Or.inl (tk_ne kM_at0 kM_at4 (by decide))) c11
    have c31 := k28.gi (Or.inl (tk_ne kM_at0 kM_at4 (by decide))) c14
    have c32 := k28.gi (Or.inl (tk_ne kM_at3 kM_at4 (by decide))) c17
    have c33 := k28.gi (Or.inl (tk_ne kM_at5 kM_at4 (by decide))) c20
    refine lv_aload_n hx hb dX12_isDoingHere_93 rfl (lv_at hl 0 rfl) ?_
    refine tk_getA hC hK hw hT hinX12 kM_at0 (by decide) rfl 6 (by decide) (List.mem_of_getElem? (i := 2) rfl) rfl rfl dX12_isDoingHere_94 ?_
    refine lv_aload_n hx hb dX12_isDoingHere_97 rfl (lv_at hl 0 rfl) ?_
    refine tk_geti hC hK hw hT hinX12 kM_at0 (by decide) rfl 17 (by decide) (List.mem_of_getElem? (i := 1) rfl) rfl rfl dX12_isDoingHere_98 (fun x34 c35 rx34 tx34 => ?_)
    refine wk_top f0_ (c35.symm.trans c30) ?_
    refine lv_dup2_11 hx hb dX12_isDoingHere_101 rfl rfl ?_
    refine tk_iald hC hK hw hT kM_at5 rfl rfl (show 0 ≤ f0_.toInt by omega) (show f0_.toInt < 6 by omega) dX12_isDoingHere_102 (fun x36 c37 rx36 tx36 => ?_)
    have c37 : gi w26 5 (f0_.toInt).toNat = x36 := (congrArg (gi w26 5) (congrArg Int.toNat (show f0_.toInt = f0_.toInt by omega))).trans c37
    refine wk_top f3_ (c37.symm.trans c33) ?_
    refine lv_iconst (v := 1) hx hb dX12_isDoingHere_103 (by decide) ?_
    refine lv_iadd hx hb dX12_isDoingHere_104 ?_
    refine lv_topi (fun x38 ex38 => ?_)
    have ex38 : x38.toInt = f3_.toInt + (1 : Int) := by rw [ex38]; exact wk_add (show (-2147483648) ≤ f3_.toInt + (1 : Int) by omega) (show f3_.toInt + (1 : Int) ≤ 2147483647 by omega)
    refine tk_iast hC hK hw hT kM_at5 (by decide) rfl rfl (show 0 ≤ f0_.toInt by omega) (show f0_.toInt < 6 by omega) (show 0 ≤ x38.toInt by omega) (show x38.toInt ≤ 12 by omega) dX12_isDoingHere_105 (fun H locs w39 hw hT k41 c40 => ?_)
    have hF := hF.put kM_at5 (inE_of (a := 0) (b := 6) (by decide) (show 0 ≤ f0_.toInt.toNat by omega) (show f0_.toInt.toNat ≤ 6 by omega)) k41
    have c42 := k41.gi (Or.inl (tk_ne kM_at0 kM_at5 (by decide))) c29
    have c43 := k41.gi (Or.inl (tk_ne kM_at0 kM_at5 (by decide))) c30
    have c44 := k41.gi (Or.inl (tk_ne kM_at0 kM_at5 (by decide))) c31
    have c45 := k41.gi (Or.inl (tk_ne kM_at3 kM_at5 (by decide))) c32
    have c40 : gi w39 5 (f0_.toInt).toNat = x38 := (congrArg (gi w39 5) (congrArg Int.toNat (show f0_.toInt = f0_.toInt by omega))).trans c40
    refine lv_iconst (v := 1) hx hb dX12_isDoingHere_106 (by decide) ?_
    exact tk_zret hC hr rfl hlocks hK ⟨hT, hF, (Or.inr (Or.inr ⟨rfl, ⟨f76_0_1, c42, (show 0 ≤ f76_0_1.toInt by omega), (show f76_0_1.toInt ≤ 400 by omega)⟩, ⟨f0_, c43, (show 0 ≤ f0_.toInt by omega), (show f0_.toInt ≤ 5 by omega)⟩, (by simp only [c43, cf0_, c45, c44]; omega), (by simp only [c43, cf0_, cf3_, c40]; omega)⟩))⟩ hw dX12_isDoingHere_107
  refine lv_aload_n hx hb dX12_isDoingHere_0 rfl (lv_at hl 0 rfl) ?_
  refine tk_Vv hC hK hw hT hA hE hSR kM_at0 (by decide) rfl (k_X12_passWord_1 l adK adV dC dI cy ad B (by omega) (by omega) qr s1    w0 s.heap.size hT ) (cwV 0 hC.2.2.2.2 gX12_isDoingHere_X12_passWord rfl rfl rfl (by decide +kernel) ⟨Nat.le_of_ble_eq_true rfl, Nat.le_of_ble_eq_true rfl⟩) rfl hl.1 rfl (Nat.le_of_ble_eq_true rfl) dX12_isDoingHere_1 (fun w48 H locs hp47 hw => ?_)
  obtain ⟨hT, k49, hg56⟩ := hp47
  have hF := hF.tr k49 (by decide)
  have c57 := k49.gi kM_at0 (by decide) cf0_
  have c58 := k49.gi kM_at0 (by decide) cf1_
  have c59 := k49.gi kM_at3 rfl cf2_
  have c60 := k49.gi kM_at5 rfl cf3_
  rcases hg56 with ⟨⟨x50, c51, rx50, tx50⟩, ⟨x52, c53, rx52, tx52⟩⟩ | ⟨x54, c55, rx54, tx54⟩
  · refine lv_bipush (v := 36) hx hb dX12_isDoingHere_4 (by decide) ?_
    refine lv_aload_n hx hb dX12_isDoingHere_6 rfl (lv_at hl 0 rfl) ?_
    refine tk_geti hC hK hw hT hinX12 kM_at0 (by decide) rfl 17 (by decide) (List.mem_of_getElem? (i := 1) rfl) rfl rfl dX12_isDoingHere_7 (fun x61 c62 rx61 tx61 => ?_)
    refine wk_top f0_ (c62.symm.trans c57) ?_
    refine lv_imul hx hb dX12_isDoingHere_10 ?_
    refine lv_topi (fun x63 ex63 => ?_)
    have ex63 : x63.toInt = (36 : Int) * f0_.toInt := by rw [ex63]; exact wk_mul (show (-2147483648) ≤ (36 : Int) * f0_.toInt by omega) (show (36 : Int) * f0_.toInt ≤ 2147483647 by omega)
    refine lv_iconst (v := 3) hx hb dX12_isDoingHere_11 (by decide) ?_
    refine lv_aload_n hx hb dX12_isDoingHere_12 rfl (lv_at hl 0 rfl) ?_
    refine tk_getA hC hK hw hT hinX12 kM_at0 (by decide) rfl 6 (by decide) (List.mem_of_getElem? (i := 2) rfl) rfl rfl dX12_isDoingHere_13 ?_
    refine lv_aload_n hx hb dX12_isDoingHere_16 rfl (lv_at hl 0 rfl) ?_
    refine tk_geti hC hK hw hT hinX12 kM_at0 (by decide) rfl 17 (by decide) (List.mem_of_getElem? (i := 1) rfl) rfl rfl dX12_isDoingHere_17 (fun x64 c65 rx64 tx64 => ?_)
    refine wk_top f0_ (c65.symm.trans c57) ?_
    refine tk_iald hC hK hw hT kM_at5 rfl rfl (show 0 ≤ f0_.toInt by omega) (show f0_.toInt < 6 by omega) dX12_isDoingHere_20 (fun x66 c67 rx66 tx66 => ?_)
    have c67 : gi w48 5 (f0_.toInt).toNat = x66 := (congrArg (gi w48 5) (congrArg Int.toNat (show f0_.toInt = f0_.toInt by omega))).trans c67
    refine wk_top f3_ (c67.symm.trans c60) ?_
    refine lv_imul hx hb dX12_isDoingHere_21 ?_
    refine lv_topi (fun x68 ex68 => ?_)
    have ex68 : x68.toInt = (3 : Int) * f3_.toInt := by rw [ex68]; exact wk_mul (show (-2147483648) ≤ (3 : Int) * f3_.toInt by omega) (show (3 : Int) * f3_.toInt ≤ 2147483647 by omega)
    refine lv_iadd hx hb dX12_isDoingHere_22 ?_
    refine lv_topi (fun x69 ex69 => ?_)
    have ex69 : x69.toInt = x63.toInt + x68.toInt := by rw [ex69]; exact wk_add (show (-2147483648) ≤ x63.toInt + x68.toInt by omega) (show x63.toInt + x68.toInt ≤ 2147483647 by omega)
    refine lv_istore_n (lv' := [(2, .int x69), (0, .ref (ad 0)), (1, .int a1)]) hx hb dX12_isDoingHere_23 rfl hl (by decide) rfl (fun ls hl => ?_)
    refine lv_aload_n hx hb dX12_isDoingHere_24 rfl (lv_at hl 1 rfl) ?_
    refine tk_getA hC hK hw hT hinX12 kM_at0 (by decide) rfl 5 (by decide) (List.mem_of_getElem? (i := 3) rfl) rfl rfl dX12_isDoingHere_25 ?_
    refine lv_iload_n hx hb dX12_isDoingHere_28 rfl (lv_at hl 0 rfl) ?_
    refine lv_iload_n hx hb dX12_isDoingHere_29 rfl (lv_at hl 2 rfl) ?_
    refine tk_iast hC hK hw hT kM_at4 (by decide) rfl rfl (show 0 ≤ x69.toInt by omega) (show x69.toInt < 216 by omega) (wk_i32 a1).1 (wk_i32 a1).2 dX12_isDoingHere_30 (fun H locs w70 hw hT k72 c71 => ?_)
    have hF := hF.put kM_at4 (inE_of (a := 0) (b := 216) (by decide) (show 0 ≤ x69.toInt.toNat by omega) (show x69.toInt.toNat ≤ 216 by omega)) k72
    have c73 := k72.gi (Or.inl (tk_ne kM_at0 kM_at4 (by decide))) c57
    have c74 := k72.gi (Or.inl (tk_ne kM_at0 kM_at4 (by decide))) c58
    have c75 := k72.gi (Or.inl (tk_ne kM_at3 kM_at4 (by decide))) c59
    have c76 := k72.gi (Or.inl (tk_ne kM_at5 kM_at4 (by decide))) c60
    have c77 := k72.gi (Or.inl (tk_ne kM_at0 kM_at4 (by decide))) c51
    have c78 := k72.gi (Or.inl (tk_ne kM_at0 kM_at4 (by decide))) c53
    refine lv_aload_n hx hb dX12_isDoingHere_31 rfl (lv_at hl 1 rfl) ?_
    refine tk_getA hC hK hw hT hinX12 kM_at0 (by decide) rfl 5 (by decide) (List.mem_of_getElem? (i := 3) rfl) rfl rfl dX12_isDoingHere_32 ?_
    refine lv_iload_n hx hb dX12_isDoingHere_35 rfl (lv_at hl 0 rfl) ?_
    refine lv_iconst (v := 1) hx hb dX12_isDoingHere_36 (by decide) ?_
    refine lv_iadd hx hb dX12_isDoingHere_37 ?_
    refine lv_topi (fun x79 ex79 => ?_)
    have ex79 : x79.toInt = x69.toInt + (1 : Int) := by rw [ex79]; exact wk_add (show (-2147483648) ≤ x69.toInt + (1 : Int) by omega) (show x69.toInt + (1 : Int) ≤ 2147483647 by omega)
    refine lv_iconst (v := (-1)) hx hb dX12_isDoingHere_38 (by decide) ?_
    refine tk_iast hC hK hw hT kM_at4 (by decide) rfl rfl (show 0 ≤ x79.toInt by omega) (show x79.toInt < 216 by omega) (by decide) (by decide) dX12_isDoingHere_39 (fun H locs w80 hw hT k82 c81 => ?_)
    have hF := hF.put kM_at4 (inE_of (a := 0) (b := 216) (by decide) (show 0 ≤ x79.toInt.toNat by omega) (show x79.toInt.toNat ≤ 216 by omega)) k82
    have c83 := k82.gi (Or.inl (tk_ne kM_at0 kM_at4 (by decide))) c73
    have c84 := k82.gi (Or.inl (tk_ne kM_at0 kM_at4 (by decide))) c74
    have c85 := k82.gi (Or.inl (tk_ne kM_at3 kM_at4 (by decide))) c75
    have c86 := k82.gi (Or.inl (tk_ne kM_at5 kM_at4 (by decide))) c76
    have c87 := k82.gi (Or.inl (tk_ne kM_at0 kM_at4 (by decide))) c77
    have c88 := k82.gi (Or.inl (tk_ne kM_at0 kM_at4 (by decide))) c78
    refine lv_aload_n hx hb dX12_isDoingHere_40 rfl (lv_at hl 1 rfl) ?_
    refine lv_ldc2 (v := 26982) hx hb hC.2.2.2.1 (hC.2.2.2.2 _ (List.mem_of_getElem? (i := 4) rfl)) dX12_isDoingHere_41 ?_
    refine tk_Vi hC hK hw hT hA hE hSR kM_at0 (by decide) rfl (k_X12_takesWord_1 l adK adV dC dI cy ad B (by omega) (by omega) qr s1    w80 H.size hT ) (cwV 1 hC.2.2.2.2 gX12_isDoingHere_X12_takesWord rfl rfl rfl (by decide +kernel) ⟨Nat.le_of_ble_eq_true rfl, Nat.le_of_ble_eq_true rfl⟩) rfl hl.1 rfl (Nat.le_of_ble_eq_true rfl) dX12_isDoingHere_44 (fun r89 w91 H locs hp90 hw => ?_)
    obtain ⟨hT, k92, hg101⟩ := hp90
    have hF := hF.tr k92 (by decide)
    have c102 := k92.gi kM_at0 (by decide) c83
    have c103 := k92.gi kM_at0 (by decide) c84
    have c104 := k92.gi kM_at3 rfl c85
    have c105 := k92.gi kM_at5 rfl c86
    have c106 := k92.gi kM_at0 (by decide) c87
    rcases hg101 with ⟨rfl, ⟨x93, c94, rx93, tx93⟩⟩ | ⟨rfl, ⟨x95, c96, rx95, tx95⟩, ⟨x97, c98, rx97, tx97⟩⟩ | ⟨rfl, ⟨x99, c100, rx99, tx99⟩⟩
    · have ex93 : x93.toInt = x50.toInt := by rw [← c106.symm.trans c94]
      refine lv_if_eq (tgt := 76) hx hb dX12_isDoingHere_47 (by decide) (fun _ => ?_) (fun c => absurd (by decide) c)
      exact J76 x69 x50 f1_ f2_ H locs ls w91 (show 0 ≤ a1.toInt by omega) (show a1.toInt ≤ 3 by omega) (show 0 ≤ x69.toInt by omega) (show x69.toInt ≤ 213 by omega) (show 0 ≤ x50.toInt by omega) (show x50.toInt ≤ 400 by omega) (show 0 ≤ f0_.toInt by omega) (show f0_.toInt ≤ 5 by omega) (show 0 ≤ f1_.toInt by omega) (show f1_.toInt ≤ 60 by omega) (show 0 ≤ f2_.toInt by omega) (show f2_.toInt ≤ 400 by omega) (show 0 ≤ f3_.toInt by omega) (show f3_.toInt ≤ 11 by omega) (show 3 * f2_.toInt ≤ 14 * f1_.toInt by omega) (show f3_.toInt = f3_.toInt by omega) (show f3_.toInt ≤ 11 by omega)  hw hT hF c106 c102 c103 c104 c105 (lv_sub hl [1, 2, 0] rfl)
    · have ex95 : x95.toInt = x50.toInt := by rw [← c106.symm.trans c96]
      refine lv_if_eq (tgt := 76) hx hb dX12_isDoingHere_47 (by decide) (fun c => absurd c (by decide)) (fun _ => ?_)
      refine lv_aload_n hx hb dX12_isDoingHere_50 rfl (lv_at hl 1 rfl) ?_
      refine tk_getA hC hK hw hT hinX12 kM_at0 (by decide) rfl 5 (by decide) (List.mem_of_getElem? (i := 3) rfl) rfl rfl dX12_isDoingHere_51 ?_
      refine lv_iload_n hx hb dX12_isDoingHere_54 rfl (lv_at hl 0 rfl) ?_
      refine lv_iconst (v := 1) hx hb dX12_isDoingHere_55 (by decide) ?_
      refine lv_iadd hx hb dX12_isDoingHere_56 ?_
      refine lv_topi (fun x107 ex107 => ?_)
      have ex107 : x107.toInt = x69.toInt + (1 : Int) := by rw [ex107]; exact wk_add (show (-2147483648) ≤ x69.toInt + (1 : Int) by omega) (show x69.toInt + (1 : Int) ≤ 2147483647 by omega)
      refine lv_aload_n hx hb dX12_isDoingHere_57 rfl (lv_at hl 1 rfl) ?_
      refine tk_getA hC hK hw hT hinX12 kM_at0 (by decide) rfl 4 (by decide) (List.mem_of_getElem? (i := 5) rfl) rfl rfl dX12_isDoingHere_58 ?_
      refine lv_aload_n hx hb dX12_isDoingHere_61 rfl (lv_at hl 1 rfl) ?_
      refine tk_geti hC hK hw hT hinX12 kM_at0 (by decide) rfl 17 (by decide) (List.mem_of_getElem? (i := 1) rfl) rfl rfl dX12_isDoingHere_62 (fun x108 c109 rx108 tx108 => ?_)
      refine wk_top f0_ (c109.symm.trans c102) ?_
      refine tk_iald hC hK hw hT kM_at3 rfl rfl (show 0 ≤ f0_.toInt by omega) (show f0_.toInt < 7 by omega) dX12_isDoingHere_65 (fun x110 c111 rx110 tx110 => ?_)
      have c111 : gi w91 3 (f0_.toInt).toNat = x110 := (congrArg (gi w91 3) (congrArg Int.toNat (show f0_.toInt = f0_.toInt by omega))).trans c111
      refine wk_top f2_ (c111.symm.trans c104) ?_
      refine tk_iast hC hK hw hT kM_at4 (by decide) rfl rfl (show 0 ≤ x107.toInt by omega) (show x107.toInt < 216 by omega) (wk_i32 f2_).1 (wk_i32 f2_).2 dX12_isDoingHere_66 (fun H locs w112 hw hT k114 c113 => ?_)
      have hF := hF.put kM_at4 (inE_of (a := 0) (b := 216) (by decide) (show 0 ≤ x107.toInt.toNat by omega) (show x107.toInt.toNat ≤ 216 by omega)) k114
      have c115 := k114.gi (Or.inl (tk_ne kM_at0 kM_at4 (by decide))) c102
      have c116 := k114.gi (Or.inl (tk_ne kM_at0 kM_at4 (by decide))) c103
      have c117 := k114.gi (Or.inl (tk_ne kM_at3 kM_at4 (by decide))) c104
      have c118 := k114.gi (Or.inl (tk_ne kM_at5 kM_at4 (by decide))) c105
      have c119 := k114.gi (Or.inl (tk_ne kM_at0 kM_at4 (by decide))) c106
      have c120 := k114.gi (Or.inl (tk_ne kM_at0 kM_at4 (by decide))) c98
      refine lv_aload_n hx hb dX12_isDoingHere_67 rfl (lv_at hl 1 rfl) ?_
      obtain ⟨x121, c122, rx121, tx121⟩ := hT.rdi (lo := 0) (hi := 400) (k := 22) kM_at0 (by decide) rfl
      obtain ⟨x123, c124, rx123, tx123⟩ := hT.rdi (lo := (-100)) (hi := 10) (k := 19) kM_at0 (by decide) rfl
      refine tk_Vi hC hK hw hT hA hE hSR kM_at0 (by decide) rfl (k_X12_tested_1 l adK adV dC dI cy ad B (by omega) (by omega) qr s1    w112 H.size hT f0_ c115 (show 0 ≤ f0_.toInt by omega) (show f0_.toInt ≤ 5 by omega) f1_ c116 (show 0 ≤ f1_.toInt by omega) (show f1_.toInt ≤ 60 by omega) x123 c124 (show (-100) ≤ x123.toInt by omega) (show x123.toInt ≤ 10 by omega) x121 c122 (show 0 ≤ x121.toInt by omega) (show x121.toInt ≤ 400 by omega) f2_ c117 (show 0 ≤ f2_.toInt by omega) (show f2_.toInt ≤ 400 by omega) (show 3 * f2_.toInt ≤ 14 * f1_.toInt by omega) (show f2_.toInt ≤ 280 by omega)) (cwV 0 hC.2.2.2.2 gX12_isDoingHere_X12_tested rfl rfl rfl (by decide +kernel) ⟨Nat.le_of_ble_eq_true rfl, Nat.le_of_ble_eq_true rfl⟩) rfl hl.1 rfl (Nat.le_of_ble_eq_true rfl) dX12_isDoingHere_68 (fun r125 w127 H locs hp126 hw => ?_)
      obtain ⟨hT, k128, hg152⟩ := hp126
      have hF := hF.tr k128 (by decide)
      have c153 := k128.gi kM_at0 (by decide) c115
      have c154 := k128.gi kM_at5 rfl c118
      have c155 := k128.gi kM_at0 (by decide) c119
      rcases hg152 with ⟨rfl, ⟨x129, c130, rx129, tx129⟩, ⟨x131, c132, rx131, tx131⟩, ⟨x133, c134, rx133, tx133⟩, ⟨x135, c136, rx135, tx135⟩⟩ | ⟨rfl, ⟨x137, c138, rx137, tx137⟩, ⟨x139, c140, rx139, tx139⟩, ⟨x141, c142, rx141, tx141⟩, ⟨x143, c144, rx143, tx143⟩⟩ | ⟨rfl, ⟨x145, c146, rx145, tx145⟩, ⟨x147, c148, rx147, tx147⟩, ⟨x149, c150, rx149, tx149⟩, g151⟩
      · have ex129 : x129.toInt = x50.toInt := by rw [← c155.symm.trans c130]
        have ex133 : x133.toInt = f0_.toInt := by rw [← c153.symm.trans c134]
        obtain ⟨x156, c157, rx156, tx156⟩ := hT.rda (lo := 0) (hi := 400) (i := (f0_.toInt).toNat) kM_at3 rfl rfl (by omega)
        obtain ⟨x158, c159, rx158, tx158⟩ := hT.rdi (lo := 0) (hi := 60) (k := 18) kM_at0 (by decide) rfl
        obtain ⟨x160, c161, rx160, tx160⟩ := hT.rdi (lo := (-100)) (hi := 10) (k := 19) kM_at0 (by decide) rfl
        refine lv_if_ne (tgt := 76) hx hb dX12_isDoingHere_71 (by decide) (fun c => absurd (by decide) c) (fun _ => ?_)
        refine lv_iconst (v := 0) hx hb dX12_isDoingHere_74 (by decide) ?_
        exact tk_zret hC hr rfl hlocks hK ⟨hT, hF, (Or.inl ⟨rfl, ⟨x50, c155, (show 1 ≤ x50.toInt by omega), (show x50.toInt ≤ 400 by omega)⟩, ⟨x131, c132, (show 1 ≤ x131.toInt by omega), (show x131.toInt ≤ 3205 by omega)⟩, ⟨f0_, c153, (show 0 ≤ f0_.toInt by omega), (show f0_.toInt ≤ 5 by omega)⟩, ⟨x135, c136, (show 0 ≤ x135.toInt by omega), (show x135.toInt ≤ 399 by omega)⟩⟩)⟩ hw dX12_isDoingHere_75
      · have ex137 : x137.toInt = x50.toInt := by rw [← c155.symm.trans c138]
        have ex141 : x141.toInt = f0_.toInt := by rw [← c153.symm.trans c142]
        obtain ⟨x162, c163, rx162, tx162⟩ := hT.rda (lo := 0) (hi := 400) (i := (f0_.toInt).toNat) kM_at3 rfl rfl (by omega)
        obtain ⟨x164, c165, rx164, tx164⟩ := hT.rdi (lo := 0) (hi := 60) (k := 18) kM_at0 (by decide) rfl
        obtain ⟨x166, c167, rx166, tx166⟩ := hT.rdi (lo := (-100)) (hi := 10) (k := 19) kM_at0 (by decide) rfl
        refine lv_if_ne (tgt := 76) hx hb dX12_isDoingHere_71 (by decide) (fun c => absurd (by decide) c) (fun _ => ?_)
        refine lv_iconst (v := 0) hx hb dX12_isDoingHere_74 (by decide) ?_
        exact tk_zret hC hr rfl hlocks hK ⟨hT, hF, (Or.inl ⟨rfl, ⟨x50, c155, (show 1 ≤ x50.toInt by omega), (show x50.toInt ≤ 400 by omega)⟩, ⟨x139, c140, (show 1 ≤ x139.toInt by omega), (show x139.toInt ≤ 3205 by omega)⟩, ⟨f0_, c153, (show 0 ≤ f0_.toInt by omega), (show f0_.toInt ≤ 5 by omega)⟩, ⟨x143, c144, (show 0 ≤ x143.toInt by omega), (show x143.toInt ≤ 399 by omega)⟩⟩)⟩ hw dX12_isDoingHere_75
      · have ex145 : x145.toInt = f0_.toInt := by rw [← c153.symm.trans c146]
        obtain ⟨x168, c169, rx168, tx168⟩ := hT.rda (lo := 0) (hi := 400) (i := (f0_.toInt).toNat) kM_at3 rfl rfl (by omega)
        obtain ⟨x170, c171, rx170, tx170⟩ := hT.rdi (lo := 0) (hi := 60) (k := 18) kM_at0 (by decide) rfl
        have g151 : 3 * x168.toInt ≤ 14 * x170.toInt := by have q := g151; simp only [c115, c153, c169, c171] at q; omega
        refine lv_if_ne (tgt := 76) hx hb dX12_isDoingHere_71 (by decide) (fun _ => ?_) (fun c => absurd c (by decide))
        exact J76 x69 x50 x170 x168 H locs ls w127 (show 0 ≤ a1.toInt by omega) (show a1.toInt ≤ 3 by omega) (show 0 ≤ x69.toInt by omega) (show x69.toInt ≤ 213 by omega) (show 0 ≤ x50.toInt by omega) (show x50.toInt ≤ 400 by omega) (show 0 ≤ f0_.toInt by omega) (show f0_.toInt ≤ 5 by omega) (show 0 ≤ x170.toInt by omega) (show x170.toInt ≤ 60 by omega) (show 0 ≤ x168.toInt by omega) (show x168.toInt ≤ 400 by omega) (show 0 ≤ f3_.toInt by omega) (show f3_.toInt ≤ 11 by omega) (show 3 * x168.toInt ≤ 14 * x170.toInt by omega) (show f3_.toInt = f3_.toInt by omega) (show f3_.toInt ≤ 11 by omega)  hw hT hF c155 c153 c171 c169 c154 (lv_sub hl [1, 2, 0] rfl)
    · have ex99 : x99.toInt = x50.toInt := by rw [← c106.symm.trans c100]
      refine lv_if_eq (tgt := 76) hx hb dX12_isDoingHere_47 (by decide) (fun c => absurd c (by decide)) (fun _ => ?_)
      refine lv_aload_n hx hb dX12_isDoingHere_50 rfl (lv_at hl 1 rfl) ?_
      refine tk_getA hC hK hw hT hinX12 kM_at0 (by decide) rfl 5 (by decide) (List.mem_of_getElem? (i := 3) rfl) rfl rfl dX12_isDoingHere_51 ?_
      refine lv_iload_n hx hb dX12_isDoingHere_54 rfl (lv_at hl 0 rfl) ?_
      refine lv_iconst (v := 1) hx hb dX12_isDoingHere_55 (by decide) ?_
      refine lv_iadd hx hb dX12_isDoingHere_56 ?_
      refine lv_topi (fun x172 ex172 => ?_)
      have ex172 : x172.toInt = x69.toInt + (1 : Int) := by rw [ex172]; exact wk_add (show (-2147483648) ≤ x69.toInt + (1 : Int) by omega) (show x69.toInt + (1 : Int) ≤ 2147483647 by omega)
      refine lv_aload_n hx hb dX12_isDoingHere_57 rfl (lv_at hl 1 rfl) ?_
      refine tk_getA hC hK hw hT hinX12 kM_at0 (by decide) rfl 4 (by decide) (List.mem_of_getElem? (i := 5) rfl) rfl rfl dX12_isDoingHere_58 ?_
      refine lv_aload_n hx hb dX12_isDoingHere_61 rfl (lv_at hl 1 rfl) ?_
      refine tk_geti hC hK hw hT hinX12 kM_at0 (by decide) rfl 17 (by decide) (List.mem_of_getElem? (i := 1) rfl) rfl rfl dX12_isDoingHere_62 (fun x173 c174 rx173 tx173 => ?_)
      refine wk_top f0_ (c174.symm.trans c102) ?_
      refine tk_iald hC hK hw hT kM_at3 rfl rfl (show 0 ≤ f0_.toInt by omega) (show f0_.toInt < 7 by omega) dX12_isDoingHere_65 (fun x175 c176 rx175 tx175 => ?_)
      have c176 : gi w91 3 (f0_.toInt).toNat = x175 := (congrArg (gi w91 3) (congrArg Int.toNat (show f0_.toInt = f0_.toInt by omega))).trans c176
      refine wk_top f2_ (c176.symm.trans c104) ?_
      refine tk_iast hC hK hw hT kM_at4 (by decide) rfl rfl (show 0 ≤ x172.toInt by omega) (show x172.toInt < 216 by omega) (wk_i32 f2_).1 (wk_i32 f2_).2 dX12_isDoingHere_66 (fun H locs w177 hw hT k179 c178 => ?_)
      have hF := hF.put kM_at4 (inE_of (a := 0) (b := 216) (by decide) (show 0 ≤ x172.toInt.toNat by omega) (show x172.toInt.toNat ≤ 216 by omega)) k179
      have c180 := k179.gi (Or.inl (tk_ne kM_at0 kM_at4 (by decide))) c102
      have c181 := k179.gi (Or.inl (tk_ne kM_at0 kM_at4 (by decide))) c103
      have c182 := k179.gi (Or.inl (tk_ne kM_at3 kM_at4 (by decide))) c104
      have c183 := k179.gi (Or.inl (tk_ne kM_at5 kM_at4 (by decide))) c105
      have c184 := k179.gi (Or.inl (tk_ne kM_at0 kM_at4 (by decide))) c106
      refine lv_aload_n hx hb dX12_isDoingHere_67 rfl (lv_at hl 1 rfl) ?_
      obtain ⟨x185, c186, rx185, tx185⟩ := hT.rdi (lo := 0) (hi := 400) (k := 22) kM_at0 (by decide) rfl
      obtain ⟨x187, c188, rx187, tx187⟩ := hT.rdi (lo := (-100)) (hi := 10) (k := 19) kM_at0 (by decide) rfl
      refine tk_Vi hC hK hw hT hA hE hSR kM_at0 (by decide) rfl (k_X12_tested_1 l adK adV dC dI cy ad B (by omega) (by omega) qr s1    w177 H.size hT f0_ c180 (show 0 ≤ f0_.toInt by omega) (show f0_.toInt ≤ 5 by omega) f1_ c181 (show 0 ≤ f1_.toInt by omega) (show f1_.toInt ≤ 60 by omega) x187 c188 (show (-100) ≤ x187.toInt by omega) (show x187.toInt ≤ 10 by omega) x185 c186 (show 0 ≤ x185.toInt by omega) (show x185.toInt ≤ 400 by omega) f2_ c182 (show 0 ≤ f2_.toInt by omega) (show f2_.toInt ≤ 400 by omega) (show 3 * f2_.toInt ≤ 14 * f1_.toInt by omega) (show f2_.toInt ≤ 280 by omega)) (cwV 0 hC.2.2.2.2 gX12_isDoingHere_X12_tested rfl rfl rfl (by decide +kernel) ⟨Nat.le_of_ble_eq_true rfl, Nat.le_of_ble_eq_true rfl⟩) rfl hl.1 rfl (Nat.le_of_ble_eq_true rfl) dX12_isDoingHere_68 (fun r189 w191 H locs hp190 hw => ?_)
      obtain ⟨hT, k192, hg216⟩ := hp190
      have hF := hF.tr k192 (by decide)
      have c217 := k192.gi kM_at0 (by decide) c180
      have c218 := k192.gi kM_at5 rfl c183
      have c219 := k192.gi kM_at0 (by decide) c184
      rcases hg216 with ⟨rfl, ⟨x193, c194, rx193, tx193⟩, ⟨x195, c196, rx195, tx195⟩, ⟨x197, c198, rx197, tx197⟩, ⟨x199, c200, rx199, tx199⟩⟩ | ⟨rfl, ⟨x201, c202, rx201, tx201⟩, ⟨x203, c204, rx203, tx203⟩, ⟨x205, c206, rx205, tx205⟩, ⟨x207, c208, rx207, tx207⟩⟩ | ⟨rfl, ⟨x209, c210, rx209, tx209⟩, ⟨x211, c212, rx211, tx211⟩, ⟨x213, c214, rx213, tx213⟩, g215⟩
      · have ex193 : x193.toInt = x50.toInt := by rw [← c219.symm.trans c194]
        have ex197 : x197.toInt = f0_.toInt := by rw [← c217.symm.trans c198]
        obtain ⟨x220, c221, rx220, tx220⟩ := hT.rda (lo := 0) (hi := 400) (i := (f0_.toInt).toNat) kM_at3 rfl rfl (by omega)
        obtain ⟨x222, c223, rx222, tx222⟩ := hT.rdi (lo := 0) (hi := 60) (k := 18) kM_at0 (by decide) rfl
        obtain ⟨x224, c225, rx224, tx224⟩ := hT.rdi (lo := (-100)) (hi := 10) (k := 19) kM_at0 (by decide) rfl
        refine lv_if_ne (tgt := 76) hx hb dX12_isDoingHere_71 (by decide) (fun c => absurd (by decide) c) (fun _ => ?_)
        refine lv_iconst (v := 0) hx hb dX12_isDoingHere_74 (by decide) ?_
        exact tk_zret hC hr rfl hlocks hK ⟨hT, hF, (Or.inl ⟨rfl, ⟨x50, c219, (show 1 ≤ x50.toInt by omega), (show x50.toInt ≤ 400 by omega)⟩, ⟨x195, c196, (show 1 ≤ x195.toInt by omega), (show x195.toInt ≤ 3205 by omega)⟩, ⟨f0_, c217, (show 0 ≤ f0_.toInt by omega), (show f0_.toInt ≤ 5 by omega)⟩, ⟨x199, c200, (show 0 ≤ x199.toInt by omega), (show x199.toInt ≤ 399 by omega)⟩⟩)⟩ hw dX12_isDoingHere_75
      · have ex201 : x201.toInt = x50.toInt := by rw [← c219.symm.trans c202]
        have ex205 : x205.toInt = f0_.toInt := by rw [← c217.symm.trans c206]
        obtain ⟨x226, c227, rx226, tx226⟩ := hT.rda (lo := 0) (hi := 400) (i := (f0_.toInt).toNat) kM_at3 rfl rfl (by omega)
        obtain ⟨x228, c229, rx228, tx228⟩ := hT.rdi (lo := 0) (hi := 60) (k := 18) kM_at0 (by decide) rfl
        obtain ⟨x230, c231, rx230, tx230⟩ := hT.rdi (lo := (-100)) (hi := 10) (k := 19) kM_at0 (by decide) rfl
        refine lv_if_ne (tgt := 76) hx hb dX12_isDoingHere_71 (by decide) (fun c => absurd (by decide) c) (fun _ => ?_)
        refine lv_iconst (v := 0) hx hb dX12_isDoingHere_74 (by decide) ?_
        exact tk_zret hC hr rfl hlocks hK ⟨hT, hF, (Or.inl ⟨rfl, ⟨x50, c219, (show 1 ≤ x50.toInt by omega), (show x50.toInt ≤ 400 by omega)⟩, ⟨x203, c204, (show 1 ≤ x203.toInt by omega), (show x203.toInt ≤ 3205 by omega)⟩, ⟨f0_, c217, (show 0 ≤ f0_.toInt by omega), (show f0_.toInt ≤ 5 by omega)⟩, ⟨x207, c208, (show 0 ≤ x207.toInt by omega), (show x207.toInt ≤ 399 by omega)⟩⟩)⟩ hw dX12_isDoingHere_75
      · have ex209 : x209.toInt = f0_.toInt := by rw [← c217.symm.trans c210]
        obtain ⟨x232, c233, rx232, tx232⟩ := hT.rda (lo := 0) (hi := 400) (i := (f0_.toInt).toNat) kM_at3 rfl rfl (by omega)
        obtain ⟨x234, c235, rx234, tx234⟩ := hT.rdi (lo := 0) (hi := 60) (k := 18) kM_at0 (by decide) rfl
        have g215 : 3 * x232.toInt ≤ 14 * x234.toInt := by have q := g215; simp only [c180, c217, c233, c235] at q; omega
        refine lv_if_ne (tgt := 76) hx hb dX12_isDoingHere_71 (by decide) (fun _ => ?_) (fun c => absurd c (by decide))
        exact J76 x69 x50 x234 x232 H locs ls w191 (show 0 ≤ a1.toInt by omega) (show a1.toInt ≤ 3 by omega) (show 0 ≤ x69.toInt by omega) (show x69.toInt ≤ 213 by omega) (show 0 ≤ x50.toInt by omega) (show x50.toInt ≤ 400 by omega) (show 0 ≤ f0_.toInt by omega) (show f0_.toInt ≤ 5 by omega) (show 0 ≤ x234.toInt by omega) (show x234.toInt ≤ 60 by omega) (show 0 ≤ x232.toInt by omega) (show x232.toInt ≤ 400 by omega) (show 0 ≤ f3_.toInt by omega) (show f3_.toInt ≤ 11 by omega) (show 3 * x232.toInt ≤ 14 * x234.toInt by omega) (show f3_.toInt = f3_.toInt by omega) (show f3_.toInt ≤ 11 by omega)  hw hT hF c219 c217 c235 c233 c218 (lv_sub hl [1, 2, 0] rfl)
  · refine lv_bipush (v := 36) hx hb dX12_isDoingHere_4 (by decide) ?_
    refine lv_aload_n hx hb dX12_isDoingHere_6 rfl (lv_at hl 0 rfl) ?_
    refine tk_geti hC hK hw hT hinX12 kM_at0 (by decide) rfl 17 (by decide) (List.mem_of_getElem? (i := 1) rfl) rfl rfl dX12_isDoingHere_7 (fun x236 c237 rx236 tx236 => ?_)
    refine wk_top f0_ (c237.symm.trans c57) ?_
    refine lv_imul hx hb dX12_isDoingHere_10 ?_
    refine lv_topi (fun x238 ex238 => ?_)
    have ex238 : x238.toInt = (36 : Int) * f0_.toInt := by rw [ex238]; exact wk_mul (show (-2147483648) ≤ (36 : Int) * f0_.toInt by omega) (show (36 : Int) * f0_.toInt ≤ 2147483647 by omega)
    refine lv_iconst (v := 3) hx hb dX12_isDoingHere_11 (by decide) ?_
    refine lv_aload_n hx hb dX12_isDoingHere_12 rfl (lv_at hl 0 rfl) ?_
    refine tk_getA hC hK hw hT hinX12 kM_at0 (by decide) rfl 6 (by decide) (List.mem_of_getElem? (i := 2) rfl) rfl rfl dX12_isDoingHere_13 ?_
    refine lv_aload_n hx hb dX12_isDoingHere_16 rfl (lv_at hl 0 rfl) ?_
    refine tk_geti hC hK hw hT hinX12 kM_at0 (by decide) rfl 17 (by decide) (List.mem_of_getElem? (i := 1) rfl) rfl rfl dX12_isDoingHere_17 (fun x239 c240 rx239 tx239 => ?_)
    refine wk_top f0_ (c240.symm.trans c57) ?_
    refine tk_iald hC hK hw hT kM_at5 rfl rfl (show 0 ≤ f0_.toInt by omega) (show f0_.toInt < 6 by omega) dX12_isDoingHere_20 (fun x241 c242 rx241 tx241 => ?_)
    have c242 : gi w48 5 (f0_.toInt).toNat = x241 := (congrArg (gi w48 5) (congrArg Int.toNat (show f0_.toInt = f0_.toInt by omega))).trans c242
    refine wk_top f3_ (c242.symm.trans c60) ?_
    refine lv_imul hx hb dX12_isDoingHere_21 ?_
    refine lv_topi (fun x243 ex243 => ?_)
    have ex243 : x243.toInt = (3 : Int) * f3_.toInt := by rw [ex243]; exact wk_mul (show (-2147483648) ≤ (3 : Int) * f3_.toInt by omega) (show (3 : Int) * f3_.toInt ≤ 2147483647 by omega)
    refine lv_iadd hx hb dX12_isDoingHere_22 ?_
    refine lv_topi (fun x244 ex244 => ?_)
    have ex244 : x244.toInt = x238.toInt + x243.toInt := by rw [ex244]; exact wk_add (show (-2147483648) ≤ x238.toInt + x243.toInt by omega) (show x238.toInt + x243.toInt ≤ 2147483647 by omega)
    refine lv_istore_n (lv' := [(2, .int x244), (0, .ref (ad 0)), (1, .int a1)]) hx hb dX12_isDoingHere_23 rfl hl (by decide) rfl (fun ls hl => ?_)
    refine lv_aload_n hx hb dX12_isDoingHere_24 rfl (lv_at hl 1 rfl) ?_
    refine tk_getA hC hK hw hT hinX12 kM_at0 (by decide) rfl 5 (by decide) (List.mem_of_getElem? (i := 3) rfl) rfl rfl dX12_isDoingHere_25 ?_
    refine lv_iload_n hx hb dX12_isDoingHere_28 rfl (lv_at hl 0 rfl) ?_
    refine lv_iload_n hx hb dX12_isDoingHere_29 rfl (lv_at hl 2 rfl) ?_
    refine tk_iast hC hK hw hT kM_at4 (by decide) rfl rfl (show 0 ≤ x244.toInt by omega) (show x244.toInt < 216 by omega) (wk_i32 a1).1 (wk_i32 a1).2 dX12_isDoingHere_30 (fun H locs w245 hw hT k247 c246 => ?_)
    have hF := hF.put kM_at4 (inE_of (a := 0) (b := 216) (by decide) (show 0 ≤ x244.toInt.toNat by omega) (show x244.toInt.toNat ≤ 216 by omega)) k247
    have c248 := k247.gi (Or.inl (tk_ne kM_at0 kM_at4 (by decide))) c57
    have c249 := k247.gi (Or.inl (tk_ne kM_at0 kM_at4 (by decide))) c58
    have c250 := k247.gi (Or.inl (tk_ne kM_at3 kM_at4 (by decide))) c59
    have c251 := k247.gi (Or.inl (tk_ne kM_at5 kM_at4 (by decide))) c60
    have c252 := k247.gi (Or.inl (tk_ne kM_at0 kM_at4 (by decide))) c55
    refine lv_aload_n hx hb dX12_isDoingHere_31 rfl (lv_at hl 1 rfl) ?_
    refine tk_getA hC hK hw hT hinX12 kM_at0 (by decide) rfl 5 (by decide) (List.mem_of_getElem? (i := 3) rfl) rfl rfl dX12_isDoingHere_32 ?_
    refine lv_iload_n hx hb dX12_isDoingHere_35 rfl (lv_at hl 0 rfl) ?_
    refine lv_iconst (v := 1) hx hb dX12_isDoingHere_36 (by decide) ?_
    refine lv_iadd hx hb dX12_isDoingHere_37 ?_
    refine lv_topi (fun x253 ex253 => ?_)
    have ex253 : x253.toInt = x244.toInt + (1 : Int) := by rw [ex253]; exact wk_add (show (-2147483648) ≤ x244.toInt + (1 : Int) by omega) (show x244.toInt + (1 : Int) ≤ 2147483647 by omega)
    refine lv_iconst (v := (-1)) hx hb dX12_isDoingHere_38 (by decide) ?_
    refine tk_iast hC hK hw hT kM_at4 (by decide) rfl rfl (show 0 ≤ x253.toInt by omega) (show x253.toInt < 216 by omega) (by decide) (by decide) dX12_isDoingHere_39 (fun H locs w254 hw hT k256 c255 => ?_)
    have hF := hF.put kM_at4 (inE_of (a := 0) (b := 216) (by decide) (show 0 ≤ x253.toInt.toNat by omega) (show x253.toInt.toNat ≤ 216 by omega)) k256
    have c257 := k256.gi (Or.inl (tk_ne kM_at0 kM_at4 (by decide))) c248
    have c258 := k256.gi (Or.inl (tk_ne kM_at0 kM_at4 (by decide))) c249
    have c259 := k256.gi (Or.inl (tk_ne kM_at3 kM_at4 (by decide))) c250
    have c260 := k256.gi (Or.inl (tk_ne kM_at5 kM_at4 (by decide))) c251
    have c261 := k256.gi (Or.inl (tk_ne kM_at0 kM_at4 (by decide))) c252
    refine lv_aload_n hx hb dX12_isDoingHere_40 rfl (lv_at hl 1 rfl) ?_
    refine lv_ldc2 (v := 26982) hx hb hC.2.2.2.1 (hC.2.2.2.2 _ (List.mem_of_getElem? (i := 4) rfl)) dX12_isDoingHere_41 ?_
    refine tk_Vi hC hK hw hT hA hE hSR kM_at0 (by decide) rfl (k_X12_takesWord_1 l adK adV dC dI cy ad B (by omega) (by omega) qr s1    w254 H.size hT ) (cwV 1 hC.2.2.2.2 gX12_isDoingHere_X12_takesWord rfl rfl rfl (by decide +kernel) ⟨Nat.le_of_ble_eq_true rfl, Nat.le_of_ble_eq_true rfl⟩) rfl hl.1 rfl (Nat.le_of_ble_eq_true rfl) dX12_isDoingHere_44 (fun r262 w264 H locs hp263 hw => ?_)
    obtain ⟨hT, k265, hg274⟩ := hp263
    have hF := hF.tr k265 (by decide)
    have c275 := k265.gi kM_at0 (by decide) c257
    have c276 := k265.gi kM_at0 (by decide) c258
    have c277 := k265.gi kM_at3 rfl c259
    have c278 := k265.gi kM_at5 rfl c260
    have c279 := k265.gi kM_at0 (by decide) c261
    rcases hg274 with ⟨rfl, ⟨x266, c267, rx266, tx266⟩⟩ | ⟨rfl, ⟨x268, c269, rx268, tx268⟩, ⟨x270, c271, rx270, tx270⟩⟩ | ⟨rfl, ⟨x272, c273, rx272, tx272⟩⟩
    · have ex266 : x266.toInt = x54.toInt := by rw [← c279.symm.trans c267]
      refine lv_if_eq (tgt := 76) hx hb dX12_isDoingHere_47 (by decide) (fun _ => ?_) (fun c => absurd (by decide) c)
      exact J76 x244 x54 f1_ f2_ H locs ls w264 (show 0 ≤ a1.toInt by omega) (show a1.toInt ≤ 3 by omega) (show 0 ≤ x244.toInt by omega) (show x244.toInt ≤ 213 by omega) (show 0 ≤ x54.toInt by omega) (show x54.toInt ≤ 400 by omega) (show 0 ≤ f0_.toInt by omega) (show f0_.toInt ≤ 5 by omega) (show 0 ≤ f1_.toInt by omega) (show f1_.toInt ≤ 60 by omega) (show 0 ≤ f2_.toInt by omega) (show f2_.toInt ≤ 400 by omega) (show 0 ≤ f3_.toInt by omega) (show f3_.toInt ≤ 11 by omega) (show 3 * f2_.toInt ≤ 14 * f1_.toInt by omega) (show f3_.toInt = f3_.toInt by omega) (show f3_.toInt ≤ 11 by omega)  hw hT hF c279 c275 c276 c277 c278 (lv_sub hl [1, 2, 0] rfl)
    · have ex268 : x268.toInt = x54.toInt := by rw [← c279.symm.trans c269]
      refine lv_if_eq (tgt := 76) hx hb dX12_isDoingHere_47 (by decide) (fun c => absurd c (by decide)) (fun _ => ?_)
      refine lv_aload_n hx hb dX12_isDoingHere_50 rfl (lv_at hl 1 rfl) ?_
      refine tk_getA hC hK hw hT hinX12 kM_at0 (by decide) rfl 5 (by decide) (List.mem_of_getElem? (i := 3) rfl) rfl rfl dX12_isDoingHere_51 ?_
      refine lv_iload_n hx hb dX12_isDoingHere_54 rfl (lv_at hl 0 rfl) ?_
      refine lv_iconst (v := 1) hx hb dX12_isDoingHere_55 (by decide) ?_
      refine lv_iadd hx hb dX12_isDoingHere_56 ?_
      refine lv_topi (fun x280 ex280 => ?_)
      have ex280 : x280.toInt = x244.toInt + (1 : Int) := by rw [ex280]; exact wk_add (show (-2147483648) ≤ x244.toInt + (1 : Int) by omega) (show x244.toInt + (1 : Int) ≤ 2147483647 by omega)
      refine lv_aload_n hx hb dX12_isDoingHere_57 rfl (lv_at hl 1 rfl) ?_
      refine tk_getA hC hK hw hT hinX12 kM_at0 (by decide) rfl 4 (by decide) (List.mem_of_getElem? (i := 5) rfl) rfl rfl dX12_isDoingHere_58 ?_
      refine lv_aload_n hx hb dX12_isDoingHere_61 rfl (lv_at hl 1 rfl) ?_
      refine tk_geti hC hK hw hT hinX12 kM_at0 (by decide) rfl 17 (by decide) (List.mem_of_getElem? (i := 1) rfl) rfl rfl dX12_isDoingHere_62 (fun x281 c282 rx281 tx281 => ?_)
      refine wk_top f0_ (c282.symm.trans c275) ?_
      refine tk_iald hC hK hw hT kM_at3 rfl rfl (show 0 ≤ f0_.toInt by omega) (show f0_.toInt < 7 by omega) dX12_isDoingHere_65 (fun x283 c284 rx283 tx283 => ?_)
      have c284 : gi w264 3 (f0_.toInt).toNat = x283 := (congrArg (gi w264 3) (congrArg Int.toNat (show f0_.toInt = f0_.toInt by omega))).trans c284
      refine wk_top f2_ (c284.symm.trans c277) ?_
      refine tk_iast hC hK hw hT kM_at4 (by decide) rfl rfl (show 0 ≤ x280.toInt by omega) (show x280.toInt < 216 by omega) (wk_i32 f2_).1 (wk_i32 f2_).2 dX12_isDoingHere_66 (fun H locs w285 hw hT k287 c286 => ?_)
      have hF := hF.put kM_at4 (inE_of (a := 0) (b := 216) (by decide) (show 0 ≤ x280.toInt.toNat by omega) (show x280.toInt.toNat ≤ 216 by omega)) k287
      have c288 := k287.gi (Or.inl (tk_ne kM_at0 kM_at4 (by decide))) c275
      have c289 := k287.gi (Or.inl (tk_ne kM_at0 kM_at4 (by decide))) c276
      have c290 := k287.gi (Or.inl (tk_ne kM_at3 kM_at4 (by decide))) c277
      have c291 := k287.gi (Or.inl (tk_ne kM_at5 kM_at4 (by decide))) c278
      have c292 := k287.gi (Or.inl (tk_ne kM_at0 kM_at4 (by decide))) c279
      have c293 := k287.gi (Or.inl (tk_ne kM_at0 kM_at4 (by decide))) c271
      refine lv_aload_n hx hb dX12_isDoingHere_67 rfl (lv_at hl 1 rfl) ?_
      obtain ⟨x294, c295, rx294, tx294⟩ := hT.rdi (lo := 0) (hi := 400) (k := 22) kM_at0 (by decide) rfl
      obtain ⟨x296, c297, rx296, tx296⟩ := hT.rdi (lo := (-100)) (hi := 10) (k := 19) kM_at0 (by decide) rfl
      refine tk_Vi hC hK hw hT hA hE hSR kM_at0 (by decide) rfl (k_X12_tested_1 l adK adV dC dI cy ad B (by omega) (by omega) qr s1    w285 H.size hT f0_ c288 (show 0 ≤ f0_.toInt by omega) (show f0_.toInt ≤ 5 by omega) f1_ c289 (show 0 ≤ f1_.toInt by omega) (show f1_.toInt ≤ 60 by omega) x296 c297 (show (-100) ≤ x296.toInt by omega) (show x296.toInt ≤ 10 by omega) x294 c295 (show 0 ≤ x294.toInt by omega) (show x294.toInt ≤ 400 by omega) f2_ c290 (show 0 ≤ f2_.toInt by omega) (show f2_.toInt ≤ 400 by omega) (show 3 * f2_.toInt ≤ 14 * f1_.toInt by omega) (show f2_.toInt ≤ 280 by omega)) (cwV 0 hC.2.2.2.2 gX12_isDoingHere_X12_tested rfl rfl rfl (by decide +kernel) ⟨Nat.le_of_ble_eq_true rfl, Nat.le_of_ble_eq_true rfl⟩) rfl hl.1 rfl (Nat.le_of_ble_eq_true rfl) dX12_isDoingHere_68 (fun r298 w300 H locs hp299 hw => ?_)
      obtain ⟨hT, k301, hg325⟩ := hp299
      have hF := hF.tr k301 (by decide)
      have c326 := k301.gi kM_at0 (by decide) c288
      have c327 := k301.gi kM_at5 rfl c291
      have c328 := k301.gi kM_at0 (by decide) c292
      rcases hg325 with ⟨rfl, ⟨x302, c303, rx302, tx302⟩, ⟨x304, c305, rx304, tx304⟩, ⟨x306, c307, rx306, tx306⟩, ⟨x308, c309, rx308, tx308⟩⟩ | ⟨rfl, ⟨x310, c311, rx310, tx310⟩, ⟨x312, c313, rx312, tx312⟩, ⟨x314, c315, rx314, tx314⟩, ⟨x316, c317, rx316, tx316⟩⟩ | ⟨rfl, ⟨x318, c319, rx318, tx318⟩, ⟨x320, c321, rx320, tx320⟩, ⟨x322, c323, rx322, tx322⟩, g324⟩
      · have ex302 : x302.toInt = x54.toInt := by rw [← c328.symm.trans c303]
        have ex306 : x306.toInt = f0_.toInt := by rw [← c326.symm.trans c307]
        obtain ⟨x329, c330, rx329, tx329⟩ := hT.rda (lo := 0) (hi := 400) (i := (f0_.toInt).toNat) kM_at3 rfl rfl (by omega)
        obtain ⟨x331, c332, rx331, tx331⟩ := hT.rdi (lo := 0) (hi := 60) (k := 18) kM_at0 (by decide) rfl
        obtain ⟨x333, c334, rx333, tx333⟩ := hT.rdi (lo := (-100)) (hi := 10) (k := 19) kM_at0 (by decide) rfl
        refine lv_if_ne (tgt := 76) hx hb dX12_isDoingHere_71 (by decide) (fun c => absurd (by decide) c) (fun _ => ?_)
        refine lv_iconst (v := 0) hx hb dX12_isDoingHere_74 (by decide) ?_
        exact tk_zret hC hr rfl hlocks hK ⟨hT, hF, (Or.inl ⟨rfl, ⟨x54, c328, (show 1 ≤ x54.toInt by omega), (show x54.toInt ≤ 400 by omega)⟩, ⟨x304, c305, (show 1 ≤ x304.toInt by omega), (show x304.toInt ≤ 3205 by omega)⟩, ⟨f0_, c326, (show 0 ≤ f0_.toInt by omega), (show f0_.toInt ≤ 5 by omega)⟩, ⟨x308, c309, (show 0 ≤ x308.toInt by omega), (show x308.toInt ≤ 399 by omega)⟩⟩)⟩ hw dX12_isDoingHere_75
      · have ex310 : x310.toInt = x54.toInt := by rw [← c328.symm.trans c311]
        have ex314 : x314.toInt = f0_.toInt := by rw [← c326.symm.trans c315]
        obtain ⟨x335, c336, rx335, tx335⟩ := hT.rda (lo := 0) (hi := 400) (i := (f0_.toInt).toNat) kM_at3 rfl rfl (by omega)
        obtain ⟨x337, c338, rx337, tx337⟩ := hT.rdi (lo := 0) (hi := 60) (k := 18) kM_at0 (by decide) rfl
        obtain ⟨x339, c340, rx339, tx339⟩ := hT.rdi (lo := (-100)) (hi := 10) (k := 19) kM_at0 (by decide) rfl
        refine lv_if_ne (tgt := 76) hx hb dX12_isDoingHere_71 (by decide) (fun c => absurd (by decide) c) (fun _ => ?_)
        refine lv_iconst (v := 0) hx hb dX12_isDoingHere_74 (by decide) ?_
        exact tk_zret hC hr rfl hlocks hK ⟨hT, hF, (Or.inl ⟨rfl, ⟨x54, c328, (show 1 ≤ x54.toInt by omega), (show x54.toInt ≤ 400 by omega)⟩, ⟨x312, c313, (show 1 ≤ x312.toInt by omega), (show x312.toInt ≤ 3205 by omega)⟩, ⟨f0_, c326, (show 0 ≤ f0_.toInt by omega), (show f0_.toInt ≤ 5 by omega)⟩, ⟨x316, c317, (show 0 ≤ x316.toInt by omega), (show x316.toInt ≤ 399 by omega)⟩⟩)⟩ hw dX12_isDoingHere_75
      · have ex318 : x318.toInt = f0_.toInt := by rw [← c326.symm.trans c319]
        obtain ⟨x341, c342, rx341, tx341⟩ := hT.rda (lo := 0) (hi := 400) (i := (f0_.toInt).toNat) kM_at3 rfl rfl (by omega)
        obtain ⟨x343, c344, rx343, tx343⟩ := hT.rdi (lo := 0) (hi := 60) (k := 18) kM_at0 (by decide) rfl
        have g324 : 3 * x341.toInt ≤ 14 * x343.toInt := by have q := g324; simp only [c288, c326, c342, c344] at q; omega
        refine lv_if_ne (tgt := 76) hx hb dX12_isDoingHere_71 (by decide) (fun _ => ?_) (fun c => absurd c (by decide))
        exact J76 x244 x54 x343 x341 H locs ls w300 (show 0 ≤ a1.toInt by omega) (show a1.toInt ≤ 3 by omega) (show 0 ≤ x244.toInt by omega) (show x244.toInt ≤ 213 by omega) (show 0 ≤ x54.toInt by omega) (show x54.toInt ≤ 400 by omega) (show 0 ≤ f0_.toInt by omega) (show f0_.toInt ≤ 5 by omega) (show 0 ≤ x343.toInt by omega) (show x343.toInt ≤ 60 by omega) (show 0 ≤ x341.toInt by omega) (show x341.toInt ≤ 400 by omega) (show 0 ≤ f3_.toInt by omega) (show f3_.toInt ≤ 11 by omega) (show 3 * x341.toInt ≤ 14 * x343.toInt by omega) (show f3_.toInt = f3_.toInt by omega) (show f3_.toInt ≤ 11 by omega)  hw hT hF c328 c326 c344 c342 c327 (lv_sub hl [1, 2, 0] rfl)
    · have ex272 : x272.toInt = x54.toInt := by rw [← c279.symm.trans c273]
      refine lv_if_eq (tgt := 76) hx hb dX12_isDoingHere_47 (by decide) (fun c => absurd c (by decide)) (fun _ => ?_)
      refine lv_aload_n hx hb dX12_isDoingHere_50 rfl (lv_at hl 1 rfl) ?_
      refine tk_getA hC hK hw hT hinX12 kM_at0 (by decide) rfl 5 (by decide) (List.mem_of_getElem? (i := 3) rfl) rfl rfl dX12_isDoingHere_51 ?_
      refine lv_iload_n hx hb dX12_isDoingHere_54 rfl (lv_at hl 0 rfl) ?_
      refine lv_iconst (v := 1) hx hb dX12_isDoingHere_55 (by decide) ?_
      refine lv_iadd hx hb dX12_isDoingHere_56 ?_
      refine lv_topi (fun x345 ex345 => ?_)
      have ex345 : x345.toInt = x244.toInt + (1 : Int) := by rw [ex345]; exact wk_add (show (-2147483648) ≤ x244.toInt + (1 : Int) by omega) (show x244.toInt + (1 : Int) ≤ 2147483647 by omega)
      refine lv_aload_n hx hb dX12_isDoingHere_57 rfl (lv_at hl 1 rfl) ?_
      refine tk_getA hC hK hw hT hinX12 kM_at0 (by decide) rfl 4 (by decide) (List.mem_of_getElem? (i := 5) rfl) rfl rfl dX12_isDoingHere_58 ?_
      refine lv_aload_n hx hb dX12_isDoingHere_61 rfl (lv_at hl 1 rfl) ?_
      refine tk_geti hC hK hw hT hinX12 kM_at0 (by decide) rfl 17 (by decide) (List.mem_of_getElem? (i := 1) rfl) rfl rfl dX12_isDoingHere_62 (fun x346 c347 rx346 tx346 => ?_)
      refine wk_top f0_ (c347.symm.trans c275) ?_
      refine tk_iald hC hK hw hT kM_at3 rfl rfl (show 0 ≤ f0_.toInt by omega) (show f0_.toInt < 7 by omega) dX12_isDoingHere_65 (fun x348 c349 rx348 tx348 => ?_)
      have c349 : gi w264 3 (f0_.toInt).toNat = x348 := (congrArg (gi w264 3) (congrArg Int.toNat (show f0_.toInt = f0_.toInt by omega))).trans c349
      refine wk_top f2_ (c349.symm.trans c277) ?_
      refine tk_iast hC hK hw hT kM_at4 (by decide) rfl rfl (show 0 ≤ x345.toInt by omega) (show x345.toInt < 216 by omega) (wk_i32 f2_).1 (wk_i32 f2_).2 dX12_isDoingHere_66 (fun H locs w350 hw hT k352 c351 => ?_)
      have hF := hF.put kM_at4 (inE_of (a := 0) (b := 216) (by decide) (show 0 ≤ x345.toInt.toNat by omega) (show x345.toInt.toNat ≤ 216 by omega)) k352
      have c353 := k352.gi (Or.inl (tk_ne kM_at0 kM_at4 (by decide))) c275
      have c354 := k352.gi (Or.inl (tk_ne kM_at0 kM_at4 (by decide))) c276
      have c355 := k352.gi (Or.inl (tk_ne kM_at3 kM_at4 (by decide))) c277
      have c356 := k352.gi (Or.inl (tk_ne kM_at5 kM_at4 (by decide))) c278
      have c357 := k352.gi (Or.inl (tk_ne kM_at0 kM_at4 (by decide))) c279
      refine lv_aload_n hx hb dX12_isDoingHere_67 rfl (lv_at hl 1 rfl) ?_
      obtain ⟨x358, c359, rx358, tx358⟩ := hT.rdi (lo := 0) (hi := 400) (k := 22) kM_at0 (by decide) rfl
      obtain ⟨x360, c361, rx360, tx360⟩ := hT.rdi (lo := (-100)) (hi := 10) (k := 19) kM_at0 (by decide) rfl
      refine tk_Vi hC hK hw hT hA hE hSR kM_at0 (by decide) rfl (k_X12_tested_1 l adK adV dC dI cy ad B (by omega) (by omega) qr s1    w350 H.size hT f0_ c353 (show 0 ≤ f0_.toInt by omega) (show f0_.toInt ≤ 5 by omega) f1_ c354 (show 0 ≤ f1_.toInt by omega) (show f1_.toInt ≤ 60 by omega) x360 c361 (show (-100) ≤ x360.toInt by omega) (show x360.toInt ≤ 10 by omega) x358 c359 (show 0 ≤ x358.toInt by omega) (show x358.toInt ≤ 400 by omega) f2_ c355 (show 0 ≤ f2_.toInt by omega) (show f2_.toInt ≤ 400 by omega) (show 3 * f2_.toInt ≤ 14 * f1_.toInt by omega) (show f2_.toInt ≤ 280 by omega)) (cwV 0 hC.2.2.2.2 gX12_isDoingHere_X12_tested rfl rfl rfl (by decide +kernel) ⟨Nat.le_of_ble_eq_true rfl, Nat.le_of_ble_eq_true rfl⟩) rfl hl.1 rfl (Nat.le_of_ble_eq_true rfl) dX12_isDoingHere_68 (fun r362 w364 H locs hp363 hw => ?_)
      obtain ⟨hT, k365, hg389⟩ := hp363
      have hF := hF.tr k365 (by decide)
      have c390 := k365.gi kM_at0 (by decide) c353
      have c391 := k365.gi kM_at5 rfl c356
      have c392 := k365.gi kM_at0 (by decide) c357
      rcases hg389 with ⟨rfl, ⟨x366, c367, rx366, tx366⟩, ⟨x368, c369, rx368, tx368⟩, ⟨x370, c371, rx370, tx370⟩, ⟨x372, c373, rx372, tx372⟩⟩ | ⟨rfl, ⟨x374, c375, rx374, tx374⟩, ⟨x376, c377, rx376, tx376⟩, ⟨x378, c379, rx378, tx378⟩, ⟨x380, c381, rx380, tx380⟩⟩ | ⟨rfl, ⟨x382, c383, rx382, tx382⟩, ⟨x384, c385, rx384, tx384⟩, ⟨x386, c387, rx386, tx386⟩, g388⟩
      · have ex366 : x366.toInt = x54.toInt := by rw [← c392.symm.trans c367]
        have ex370 : x370.toInt = f0_.toInt := by rw [← c390.symm.trans c371]
        obtain ⟨x393, c394, rx393, tx393⟩ := hT.rda (lo := 0) (hi := 400) (i := (f0_.toInt).toNat) kM_at3 rfl rfl (by omega)
        obtain ⟨x395, c396, rx395, tx395⟩ := hT.rdi (lo := 0) (hi := 60) (k := 18) kM_at0 (by decide) rfl
        obtain ⟨x397, c398, rx397, tx397⟩ := hT.rdi (lo := (-100)) (hi := 10) (k := 19) kM_at0 (by decide) rfl
        refine lv_if_ne (tgt := 76) hx hb dX12_isDoingHere_71 (by decide) (fun c => absurd (by decide) c) (fun _ => ?_)
        refine lv_iconst (v := 0) hx hb dX12_isDoingHere_74 (by decide) ?_
        exact tk_zret hC hr rfl hlocks hK ⟨hT, hF, (Or.inl ⟨rfl, ⟨x54, c392, (show 1 ≤ x54.toInt by omega), (show x54.toInt ≤ 400 by omega)⟩, ⟨x368, c369, (show 1 ≤ x368.toInt by omega), (show x368.toInt ≤ 3205 by omega)⟩, ⟨f0_, c390, (show 0 ≤ f0_.toInt by omega), (show f0_.toInt ≤ 5 by omega)⟩, ⟨x372, c373, (show 0 ≤ x372.toInt by omega), (show x372.toInt ≤ 399 by omega)⟩⟩)⟩ hw dX12_isDoingHere_75
      · have ex374 : x374.toInt = x54.toInt := by rw [← c392.symm.trans c375]
        have ex378 : x378.toInt = f0_.toInt := by rw [← c390.symm.trans c379]
        obtain ⟨x399, c400, rx399, tx399⟩ := hT.rda (lo := 0) (hi := 400) (i := (f0_.toInt).toNat) kM_at3 rfl rfl (by omega)
        obtain ⟨x401, c402, rx401, tx401⟩ := hT.rdi (lo := 0) (hi := 60) (k := 18) kM_at0 (by decide) rfl
        obtain ⟨x403, c404, rx403, tx403⟩ := hT.rdi (lo := (-100)) (hi := 10) (k := 19) kM_at0 (by decide) rfl
        refine lv_if_ne (tgt := 76) hx hb dX12_isDoingHere_71 (by decide) (fun c => absurd (by decide) c) (fun _ => ?_)
        refine lv_iconst (v := 0) hx hb dX12_isDoingHere_74 (by decide) ?_
        exact tk_zret hC hr rfl hlocks hK ⟨hT, hF, (Or.inr (Or.inl ⟨rfl, ⟨x54, c392, (show 0 ≤ x54.toInt by omega), (show x54.toInt ≤ 400 by omega)⟩, ⟨x376, c377, (show 1 ≤ x376.toInt by omega), (show x376.toInt ≤ 3205 by omega)⟩, ⟨f0_, c390, (show 0 ≤ f0_.toInt by omega), (show f0_.toInt ≤ 5 by omega)⟩, ⟨x380, c381, (show 0 ≤ x380.toInt by omega), (show x380.toInt ≤ 399 by omega)⟩⟩))⟩ hw dX12_isDoingHere_75
      · have ex382 : x382.toInt = f0_.toInt := by rw [← c390.symm.trans c383]
        obtain ⟨x405, c406, rx405, tx405⟩ := hT.rda (lo := 0) (hi := 400) (i := (f0_.toInt).toNat) kM_at3 rfl rfl (by omega)
        obtain ⟨x407, c408, rx407, tx407⟩ := hT.rdi (lo := 0) (hi := 60) (k := 18) kM_at0 (by decide) rfl
        have g388 : 3 * x405.toInt ≤ 14 * x407.toInt := by have q := g388; simp only [c353, c390, c406, c408] at q; omega
        refine lv_if_ne (tgt := 76) hx hb dX12_isDoingHere_71 (by decide) (fun _ => ?_) (fun c => absurd c (by decide))
        exact J76 x244 x54 x407 x405 H locs ls w364 (show 0 ≤ a1.toInt by omega) (show a1.toInt ≤ 3 by omega) (show 0 ≤ x244.toInt by omega) (show x244.toInt ≤ 213 by omega) (show 0 ≤ x54.toInt by omega) (show x54.toInt ≤ 400 by omega) (show 0 ≤ f0_.toInt by omega) (show f0_.toInt ≤ 5 by omega) (show 0 ≤ x407.toInt by omega) (show x407.toInt ≤ 60 by omega) (show 0 ≤ x405.toInt by omega) (show x405.toInt ≤ 400 by omega) (show 0 ≤ f3_.toInt by omega) (show f3_.toInt ≤ 11 by omega) (show 3 * x405.toInt ≤ 14 * x407.toInt by omega) (show f3_.toInt = f3_.toInt by omega) (show f3_.toInt ≤ 11 by omega)  hw hT hF c392 c390 c408 c406 c391 (lv_sub hl [1, 2, 0] rfl)
abbrev P_X12_clauseHere_2 (ad : Nat → Nat) (cy : Nat → ClassId) (B : Int) (qr : Nat) (s1 : Int)  (w0 : va_W) : Int32 → va_W → Prop := fun r u => TW ksM ad cy B qr 12 u ∧ FE ksM [(12, 14, 14), (12, 15, 15), (12, 16, 16), (12, 18, 18), (12, 19, 19), (12, 20, 20), (12, 22, 22), (61, 0, 2400), (62, 0, 7), (63, 0, 216), (64, 0, 6), (68, 0, 400)] w0 u ∧ ((r = 0 ∧ (∃ y : Int32, gi u 0 1 = y ∧ 1 ≤ y.toInt ∧ y.toInt ≤ 400) ∧ (∃ y : Int32, gi u 0 15 = y ∧ 1 ≤ y.toInt ∧ y.toInt ≤ 3205) ∧ (∃ y : Int32, gi u 0 17 = y ∧ 0 ≤ y.toInt ∧ y.toInt ≤ 5) ∧ (∃ y : Int32, gi u 0 20 = y ∧ 0 ≤ y.toInt ∧ y.toInt ≤ 12) ∧ ((gi w0 0 20).toInt ≤ (gi u 0 20).toInt) ∧ ((gi u 0 20).toInt ≤ 12)) ∨ (r = 0 ∧ (∃ y : Int32, gi u 0 1 = y ∧ 0 ≤ y.toInt ∧ y.toInt ≤ 400) ∧ (∃ y : Int32, gi u 0 15 = y ∧ 1 ≤ y.toInt ∧ y.toInt ≤ 3205) ∧ (∃ y : Int32, gi u 0 17 = y ∧ 0 ≤ y.toInt ∧ y.toInt ≤ 5) ∧ (∃ y : Int32, gi u 0 20 = y ∧ 0 ≤ y.toInt ∧ y.toInt ≤ 12) ∧ ((gi w0 0 20).toInt ≤ (gi u 0 20).toInt) ∧ ((gi u 0 20).toInt ≤ 12)) ∨ (r = 1 ∧ (∃ y : Int32, gi u 0 1 = y ∧ 1 ≤ y.toInt ∧ y.toInt ≤ 400) ∧ (∃ y : Int32, gi u 0 17 = y ∧ 0 ≤ y.toInt ∧ y.toInt ≤ 5) ∧ (∃ y : Int32, gi u 0 20 = y ∧ 1 ≤ y.toInt ∧ y.toInt ≤ 12) ∧ (3 * (gi u 3 ((gi u 0 17).toInt).toNat).toInt ≤ 14 * (gi u 0 18).toInt) ∧ ((gi u 5 ((gi u 0 17).toInt).toNat).toInt ≤ (gi u 0 20).toInt) ∧ ((gi u 0 20).toInt = (gi w0 0 20).toInt + 1) ∧ ((gi u 0 20).toInt ≤ 12)) ∨ (r = 1 ∧ (∃ y : Int32, gi u 0 1 = y ∧ 0 ≤ y.toInt ∧ y.toInt ≤ 400) ∧ (∃ y : Int32, gi u 0 17 = y ∧ 0 ≤ y.toInt ∧ y.toInt ≤ 5) ∧ (∃ y : Int32, gi u 0 20 = y ∧ 1 ≤ y.toInt ∧ y.toInt ≤ 12) ∧ (3 * (gi u 3 ((gi u 0 17).toInt).toNat).toInt ≤ 14 * (gi u 0 18).toInt) ∧ ((gi u 5 ((gi u 0 17).toInt).toNat).toInt ≤ (gi u 0 20).toInt) ∧ ((gi u 0 20).toInt = (gi w0 0 20).toInt + 1) ∧ ((gi u 0 20).toInt ≤ 12)))
set_option maxHeartbeats 4000000 in
set_option maxRecDepth 100000 in
theorem k_X12_clauseHere_2 (l : Launch) (adK adV : Nat → Nat) (dC : Nat → ClassId) (dI : Nat → Nat → Nat) (cy : Nat → ClassId) (ad : Nat → Nat) (B : Int) (hB0 : 100000 ≤ B) (hB1 : B ≤ 1073741824) (qr : Nat) (s1 : Int)   (w0 : va_W) (sz : Nat) (hT : TW ksM ad cy B qr 12 w0) (f0_ : Int32) (cf0_ : gi w0 0 17 = f0_) (rf0_ : 0 ≤ f0_.toInt) (tf0_ : f0_.toInt ≤ 5) (f1_ : Int32) (cf1_ : gi w0 0 18 = f1_) (rf1_ : 0 ≤ f1_.toInt) (tf1_ : f1_.toInt ≤ 60) (f2_ : Int32) (cf2_ : gi w0 0 20 = f2_) (rf2_ : 0 ≤ f2_.toInt) (tf2_ : f2_.toInt ≤ 32) (f3_ : Int32) (cf3_ : gi w0 3 (f0_.toInt).toNat = f3_) (rf3_ : 0 ≤ f3_.toInt) (tf3_ : f3_.toInt ≤ 400) (f4_ : Int32) (cf4_ : gi w0 5 (f0_.toInt).toNat = f4_) (rf4_ : 0 ≤ f4_.toInt) (tf4_ : f4_.toInt ≤ 12) (pr0_ : 3 * f3_.toInt ≤ 14 * f1_.toInt) (pr1_ : f4_.toInt ≤ f2_.toInt) (pr2_ : f2_.toInt ≤ 12) (pr3_ : f3_.toInt ≤ 280) : Met l yX12_clauseHere wsX12_clauseHere ({ frames := 11, cells := 0, slots := 0, locals := 232 }) (va_Pc [.ref (ad 0)] (wpreS adK adV dC dI cy sz w0)) (va_Qi (P_X12_clauseHere_2 ad cy B qr s1  w0) (fun u : va_W => wpost dC dI cy (va_A w0 sz) u) (va_A w0 sz)) 0 0 (va_A w0 sz) := by
  refine Met.ofW (cc := cX12_clauseHere) (maxL := 4) (ret := (some .boolean)) (by decide) rfl ?_
  intro p e s m args below meth c s₁ Bk hml hv
  obtain ⟨rfl, ⟨hsz, hP, hK, hD0⟩, hE, hSR⟩ := hv
  have hx := Bk.exec
  have hb := Bk.bytes
  have hr := Bk.returns
  have hlocks := Bk.notSynchronized
  have hC : CallFix p m c cX12_clauseHere 4 s _ wsX12_clauseHere RX12 := ⟨hx, hb, hml, findClass_of_methodNamed Bk.named, atoms_spec (ws := wsX12_clauseHere) Bk.pre⟩
  subst hsz
  have hD := hD0.self (sz := s.heap.size)
  generalize hAe : va_A w0 s.heap.size = A at hD hE ⊢
  have hA : ∀ q : Nat, s.heap.size ≤ q → A q := fun q h => by rw [← hAe]; exact Or.inr h
  have hw : Wd dC dI A s.heap s.heap [] w0 := ⟨hP, hD, va_S.rf⟩
  have hF : FE ksM [(12, 14, 14), (12, 15, 15), (12, 16, 16), (12, 18, 18), (12, 19, 19), (12, 20, 20), (12, 22, 22), (61, 0, 2400), (62, 0, 7), (63, 0, 216), (64, 0, 6), (68, 0, 400)] w0 w0 := FE.rf
  have hl := lv_entry ([.ref (ad 0)]) (n := 4) (Nat.le_of_ble_eq_true rfl)
  rw [lg_entry_eq]
  generalize (lg_sl ([.ref (ad 0)]) ++ List.replicate (4 - (lg_sl ([.ref (ad 0)])).length) Slot.unset).toArray = ls at hl ⊢
  have hl : lv_has ls 4 [(0, .ref (ad 0))] := hl
  generalize hloc : ([] : List Loc) = locs at hw ⊢
  have hinX12 : ∀ w ∈ u_ws RX12 TX12 42, w ∈ wsX12_clauseHere := fun _ h => List.mem_cons_of_mem _ (List.mem_append_right _ (h))
  refine lv_aload_n hx hb dX12_clauseHere_0 rfl (lv_at hl 0 rfl) ?_
  obtain ⟨x1, c2, rx1, tx1⟩ := hT.rdi (lo := 0) (hi := 400) (k := 14) kM_at0 (by decide) rfl
  refine tk_Vi hC hK hw hT hA hE hSR kM_at0 (by decide) rfl (k_X12_see_1 l adK adV dC dI cy ad B (by omega) (by omega) qr s1    w0 s.heap.size hT x1 c2 (show 0 ≤ x1.toInt by omega) (show x1.toInt ≤ 400 by omega)) (cwV 0 hC.2.2.2.2 gX12_clauseHere_X12_see rfl rfl rfl (by decide +kernel) ⟨Nat.le_of_ble_eq_true rfl, Nat.le_of_ble_eq_true rfl⟩) rfl hl.1 rfl (Nat.le_of_ble_eq_true rfl) dX12_clauseHere_1 (fun r3 w5 H locs hp4 hw => ?_)
  obtain ⟨hT, k6, hg23⟩ := hp4
  have hF := hF.tr k6 (by decide)
  have c24 := k6.gi kM_at0 (by decide) cf0_
  have c25 := k6.gi kM_at0 (by decide) cf1_
  have c26 := k6.gi kM_at0 (by decide) cf2_
  have c27 := k6.gi kM_at3 rfl cf3_
  have c28 := k6.gi kM_at5 rfl cf4_
  rcases hg23 with ⟨g7, g8, ⟨x9, c10, rx9, tx9⟩, ⟨x11, c12, rx11, tx11⟩, g13, g14⟩ | ⟨rfl, ⟨x15, c16, rx15, tx15⟩, ⟨x17, c18, rx17, tx17⟩, g19⟩ | ⟨rfl, ⟨x20, c21, rx20, tx20⟩, g22⟩
  · have g13 : (gi w5 1 (x11.toInt).toNat).toInt ≠ 32 := by have q := g13; simp only [cf0_, c24, c12] at q; omega
    have g14 : (x11.toInt = x1.toInt ∨ (gi w0 1 (x1.toInt).toNat).toInt = 32) := by have q := g14; simp only [cf0_, c24, c2, c12] at q; omega
    refine lv_pop hx hb dX12_clauseHere_4 rfl ?_
    refine lv_aload_n hx hb dX12_clauseHere_5 rfl (lv_at hl 0 rfl) ?_
    refine tk_geti hC hK hw hT hinX12 kM_at0 (by decide) rfl 14 (by decide) (List.mem_of_getElem? (i := 1) rfl) rfl rfl dX12_clauseHere_6 (fun x31 c32 rx31 tx31 => ?_)
    refine wk_top x11 (c32.symm.trans c12) ?_
    refine lv_istore_n (lv' := [(1, .int x11), (0, .ref (ad 0))]) hx hb dX12_clauseHere_9 rfl hl (by decide) rfl (fun ls hl => ?_)
    refine lv_aload_n hx hb dX12_clauseHere_10 rfl (lv_at hl 1 rfl) ?_
    refine tk_geti hC hK hw hT hinX12 kM_at0 (by decide) rfl 17 (by decide) (List.mem_of_getElem? (i := 2) rfl) rfl rfl dX12_clauseHere_11 (fun x33 c34 rx33 tx33 => ?_)
    refine wk_top f0_ (c34.symm.trans c24) ?_
    refine lv_bipush (v := 6) hx hb dX12_clauseHere_14 (by decide) ?_
    refine lv_icmp_ne (tgt := 23) hx hb dX12_clauseHere_16 (by decide) (fun _ => ?_) (fun c => absurd (show f0_.toInt = (6 : Int) from wk_eq.mp c) (by omega))
    refine lv_iconst (v := 0) hx hb dX12_clauseHere_23 (by decide) ?_
    refine lv_istore_n (lv' := [(2, .int 0), (1, .int x11), (0, .ref (ad 0))]) hx hb dX12_clauseHere_24 rfl hl (by decide) rfl (fun ls hl => ?_)
    refine lv_iload_n hx hb dX12_clauseHere_25 rfl (lv_at hl 0 rfl) ?_
    refine lv_if_eq (tgt := 77) hx hb dX12_clauseHere_26 (by decide) (fun _ => ?_) (fun c => absurd (by decide) c)
    refine lv_aload_n hx hb dX12_clauseHere_77 rfl (lv_at hl 2 rfl) ?_
    refine tk_Vi hC hK hw hT hA hE hSR kM_at0 (by decide) rfl (k_X12_doingSort_1 l adK adV dC dI cy ad B (by omega) (by omega) qr s1    w5 H.size hT ) (cwV 0 hC.2.2.2.2 gX12_clauseHere_X12_doingSort rfl rfl rfl (by decide +kernel) ⟨Nat.le_of_ble_eq_true rfl, Nat.le_of_ble_eq_true rfl⟩) rfl hl.1 rfl (Nat.le_of_ble_eq_true rfl) dX12_clauseHere_78 (fun r35 w37 H locs hp36 hw => ?_)
    obtain ⟨hT, k38, hg45⟩ := hp36
    have hF := hF.tr k38 (by decide)
    have c46 := k38.gi kM_at0 (by decide) c24
    have c47 := k38.gi kM_at0 (by decide) c25
    have c48 := k38.gi kM_at0 (by decide) c26
    have c49 := k38.gi kM_at3 rfl c27
    have c50 := k38.gi kM_at5 rfl c28
    have c51 := k38.gi kM_at0 (by decide) c10
    rcases hg45 with ⟨g39, g40, ⟨x41, c42, rx41, tx41⟩⟩ | ⟨rfl, ⟨x43, c44, rx43, tx43⟩⟩
    · have ex41 : x41.toInt = x9.toInt := by rw [← c51.symm.trans c42]
      refine lv_if_lt (tgt := 88) hx hb dX12_clauseHere_81 (by decide) (fun c => absurd c (fun h => absurd (show r35.toInt < (0 : Int) from wk_lt.mp h) (by omega))) (fun _ => ?_)
      refine lv_iconst (v := 1) hx hb dX12_clauseHere_84 (by decide) ?_
      refine lv_goto (tgt := 89) hx hb dX12_clauseHere_85 (by decide) ?_
      refine lv_istore_n (lv' := [(3, .int 1), (2, .int 0), (1, .int x11), (0, .ref (ad 0))]) hx hb dX12_clauseHere_89 rfl hl (by decide) rfl (fun ls hl => ?_)
      refine lv_iload_n hx hb dX12_clauseHere_90 rfl (lv_at hl 0 rfl) ?_
      refine lv_if_ne (tgt := 101) hx hb dX12_clauseHere_91 (by decide) (fun _ => ?_) (fun c => absurd c (by decide))
      refine lv_aload_n hx hb dX12_clauseHere_101 rfl (lv_at hl 3 rfl) ?_
      refine tk_geti hC hK hw hT hinX12 kM_at0 (by decide) rfl 20 (by decide) (List.mem_of_getElem? (i := 7) rfl) rfl rfl dX12_clauseHere_102 (fun x52 c53 rx52 tx52 => ?_)
      refine wk_top f2_ (c53.symm.trans c48) ?_
      refine lv_iload_n hx hb dX12_clauseHere_105 rfl (lv_at hl 1 rfl) ?_
      refine lv_if_eq (tgt := 114) hx hb dX12_clauseHere_106 (by decide) (fun _ => ?_) (fun c => absurd (by decide) c)
      refine lv_bipush (v := 12) hx hb dX12_clauseHere_114 (by decide) ?_
      refine lv_icmp_ne (tgt := 126) hx hb dX12_clauseHere_116 (by decide) (fun c54 => ?_) (fun c54 => ?_)
      · have c54 : ¬ f2_.toInt = (12 : Int) := wk_eqF c54
        refine lv_aload_n hx hb dX12_clauseHere_126 rfl (lv_at hl 3 rfl) ?_
        refine lv_dup hx hb dX12_clauseHere_127 rfl ?_
        refine tk_geti hC hK hw hT hinX12 kM_at0 (by decide) rfl 20 (by decide) (List.mem_of_getElem? (i := 7) rfl) rfl rfl dX12_clauseHere_128 (fun x55 c56 rx55 tx55 => ?_)
        refine wk_top f2_ (c56.symm.trans c48) ?_
        refine lv_iconst (v := 1) hx hb dX12_clauseHere_131 (by decide) ?_
        refine lv_iadd hx hb dX12_clauseHere_132 ?_
        refine lv_topi (fun x57 ex57 => ?_)
        have ex57 : x57.toInt = f2_.toInt + (1 : Int) := by rw [ex57]; exact wk_add (show (-2147483648) ≤ f2_.toInt + (1 : Int) by omega) (show f2_.toInt + (1 : Int) ≤ 2147483647 by omega)
        refine tk_puti hC hK hw hT hinX12 tyX12_ok nmX12 kM_at0 (by decide) rfl rfl 20 (by decide) (List.mem_of_getElem? (i := 7) rfl) rfl rfl rfl rfl (show 0 ≤ x57.toInt by omega) (show x57.toInt ≤ 32 by omega) dX12_clauseHere_133 (fun H locs w58 hw hT k60 c59 => ?_)
        have hF := hF.put kM_at0 (k := 20) (by decide) k60
        have c61 := k60.gi (Or.inr (by decide)) c46
        have c62 := k60.gi (Or.inr (by decide)) c47
        have c63 := k60.gi (Or.inl (tk_ne kM_at3 kM_at0 (by decide))) c49
        have c64 := k60.gi (Or.inl (tk_ne kM_at5 kM_at0 (by decide))) c50
        have c65 := k60.gi (Or.inr (by decide)) c51
        refine lv_iload_n hx hb dX12_clauseHere_136 rfl (lv_at hl 1 rfl) ?_
        refine lv_if_eq (tgt := 148) hx hb dX12_clauseHere_137 (by decide) (fun _ => ?_) (fun c => absurd (by decide) c)
        refine lv_aload_n hx hb dX12_clauseHere_148 rfl (lv_at hl 3 rfl) ?_
        refine lv_aload_n hx hb dX12_clauseHere_149 rfl (lv_at hl 3 rfl) ?_
        refine tk_Vi hC hK hw hT hA hE hSR kM_at0 (by decide) rfl (k_X12_doingSort_1 l adK adV dC dI cy ad B (by omega) (by omega) qr s1    w58 H.size hT ) (cwV 0 hC.2.2.2.2 gX12_clauseHere_X12_doingSort rfl rfl rfl (by decide +kernel) ⟨Nat.le_of_ble_eq_true rfl, Nat.le_of_ble_eq_true rfl⟩) rfl hl.1 rfl (Nat.le_of_ble_eq_true rfl) dX12_clauseHere_150 (fun r66 w68 H locs hp67 hw => ?_)
        obtain ⟨hT, k69, hg76⟩ := hp67
        have hF := hF.tr k69 (by decide)
        have c77 := k69.gi kM_at0 (by decide) c61
        have c78 := k69.gi kM_at0 (by decide) c62
        have c79 := k69.gi kM_at3 rfl c63
        have c80 := k69.gi kM_at5 rfl c64
        have c81 := k69.gi kM_at0 (by decide) c65
        have c82 := k69.gi kM_at0 (by decide) c59
        rcases hg76 with ⟨g70, g71, ⟨x72, c73, rx72, tx72⟩⟩ | ⟨rfl, ⟨x74, c75, rx74, tx74⟩⟩
        · have ex72 : x72.toInt = x9.toInt := by rw [← c81.symm.trans c73]
          refine tk_Vi hC hK hw hT hA hE hSR kM_at0 (by decide) rfl (k_X12_isDoingHere_2 l adK adV dC dI cy ad B (by omega) (by omega) qr s1   r66 (show 0 ≤ r66.toInt by omega) (show r66.toInt ≤ 3 by omega) w68 H.size hT f0_ c77 (show 0 ≤ f0_.toInt by omega) (show f0_.toInt ≤ 5 by omega) f1_ c78 (show 0 ≤ f1_.toInt by omega) (show f1_.toInt ≤ 60 by omega) f3_ c79 (show 0 ≤ f3_.toInt by omega) (show f3_.toInt ≤ 400 by omega) f4_ c80 (show 0 ≤ f4_.toInt by omega) (show f4_.toInt ≤ 12 by omega) (show 3 * f3_.toInt ≤ 14 * f1_.toInt by omega) (show f3_.toInt ≤ 280 by omega) (show f4_.toInt ≤ 11 by omega)) (cwV 1 hC.2.2.2.2 gX12_clauseHere_X12_isDoingHere rfl rfl rfl (by decide +kernel) ⟨Nat.le_of_ble_eq_true rfl, Nat.le_of_ble_eq_true rfl⟩) rfl hl.1 rfl (Nat.le_of_ble_eq_true rfl) dX12_clauseHere_153 (fun r83 w85 H locs hp84 hw => ?_)
          obtain ⟨hT, k86, hg109⟩ := hp84
          have hF := hF.tr k86 (by decide)
          have c110 := k86.gi kM_at0 (by decide) c77
          have c111 := k86.gi kM_at0 (by decide) c81
          have c112 := k86.gi kM_at0 (by decide) c82
          rcases hg109 with ⟨rfl, ⟨x87, c88, rx87, tx87⟩, ⟨x89, c90, rx89, tx89⟩, ⟨x91, c92, rx91, tx91⟩, ⟨x93, c94, rx93, tx93⟩⟩ | ⟨rfl, ⟨x95, c96, rx95, tx95⟩, ⟨x97, c98, rx97, tx97⟩, ⟨x99, c100, rx99, tx99⟩, ⟨x101, c102, rx101, tx101⟩⟩ | ⟨rfl, ⟨x103, c104, rx103, tx103⟩, ⟨x105, c106, rx105, tx105⟩, g107, g108⟩
          · have ex87 : x87.toInt = x9.toInt := by rw [← c111.symm.trans c88]
            have ex91 : x91.toInt = f0_.toInt := by rw [← c110.symm.trans c92]
            obtain ⟨x113, c114, rx113, tx113⟩ := hT.rda (lo := 0) (hi := 400) (i := (f0_.toInt).toNat) kM_at3 rfl rfl (by omega)
            obtain ⟨x115, c116, rx115, tx115⟩ := hT.rdi (lo := 0) (hi := 60) (k := 18) kM_at0 (by decide) rfl
            obtain ⟨x117, c118, rx117, tx117⟩ := hT.rda (lo := 0) (hi := 12) (i := (f0_.toInt).toNat) kM_at5 rfl rfl (by omega)
            exact tk_zret hC hr rfl hlocks hK ⟨hT, hF, (Or.inl ⟨rfl, ⟨x9, c111, (show 1 ≤ x9.toInt by omega), (show x9.toInt ≤ 400 by omega)⟩, ⟨x89, c90, (show 1 ≤ x89.toInt by omega), (show x89.toInt ≤ 3205 by omega)⟩, ⟨f0_, c110, (show 0 ≤ f0_.toInt by omega), (show f0_.toInt ≤ 5 by omega)⟩, ⟨x57, c112, (show 0 ≤ x57.toInt by omega), (show x57.toInt ≤ 12 by omega)⟩, (by simp only [c110, cf0_, cf2_, c112]; omega), (by simp only [c110, cf0_, c112]; omega)⟩)⟩ hw dX12_clauseHere_156
          · have ex95 : x95.toInt = x9.toInt := by rw [← c111.symm.trans c96]
            have ex99 : x99.toInt = f0_.toInt := by rw [← c110.symm.trans c100]
            obtain ⟨x119, c120, rx119, tx119⟩ := hT.rda (lo := 0) (hi := 400) (i := (f0_.toInt).toNat) kM_at3 rfl rfl (by omega)
            obtain ⟨x121, c122, rx121, tx121⟩ := hT.rdi (lo := 0) (hi := 60) (k := 18) kM_at0 (by decide) rfl
            obtain ⟨x123, c124, rx123, tx123⟩ := hT.rda (lo := 0) (hi := 12) (i := (f0_.toInt).toNat) kM_at5 rfl rfl (by omega)
            exact tk_zret hC hr rfl hlocks hK ⟨hT, hF, (Or.inl ⟨rfl, ⟨x9, c111, (show 1 ≤ x9.toInt by omega), (show x9.toInt ≤ 400 by omega)⟩, ⟨x97, c98, (show 1 ≤ x97.toInt by omega), (show x97.toInt ≤ 3205 by omega)⟩, ⟨f0_, c110, (show 0 ≤ f0_.toInt by omega), (show f0_.toInt ≤ 5 by omega)⟩, ⟨x57, c112, (show 0 ≤ x57.toInt by omega), (show x57.toInt ≤ 12 by omega)⟩, (by simp only [c110, cf0_, cf2_, c112]; omega), (by simp only [c110, cf0_, c112]; omega)⟩)⟩ hw dX12_clauseHere_156
          · have ex103 : x103.toInt = x9.toInt := by rw [← c111.symm.trans c104]
            have ex105 : x105.toInt = f0_.toInt := by rw [← c110.symm.trans c106]
            obtain ⟨x125, c126, rx125, tx125⟩ := hT.rda (lo := 0) (hi := 400) (i := (f0_.toInt).toNat) kM_at3 rfl rfl (by omega)
            obtain ⟨x127, c128, rx127, tx127⟩ := hT.rdi (lo := 0) (hi := 60) (k := 18) kM_at0 (by decide) rfl
            obtain ⟨x129, c130, rx129, tx129⟩ := hT.rda (lo := 0) (hi := 12) (i := (f0_.toInt).toNat) kM_at5 rfl rfl (by omega)
            have g107 : 3 * x125.toInt ≤ 14 * x127.toInt := by have q := g107; simp only [c77, c110, c126, c128] at q; omega
            have g108 : x129.toInt = f4_.toInt + 1 := by have q := g108; simp only [c77, c110, c80, c130] at q; omega
            exact tk_zret hC hr rfl hlocks hK ⟨hT, hF, (Or.inr (Or.inr (Or.inl ⟨rfl, ⟨x9, c111, (show 1 ≤ x9.toInt by omega), (show x9.toInt ≤ 400 by omega)⟩, ⟨f0_, c110, (show 0 ≤ f0_.toInt by omega), (show f0_.toInt ≤ 5 by omega)⟩, ⟨x57, c112, (show 1 ≤ x57.toInt by omega), (show x57.toInt ≤ 12 by omega)⟩, (by simp only [c110, cf0_, c126, c128]; omega), (by simp only [c110, cf0_, c130, c112]; omega), (by simp only [c110, cf0_, cf2_, c112]; omega), (by simp only [c110, cf0_, c112]; omega)⟩)))⟩ hw dX12_clauseHere_156
        · have ex74 : x74.toInt = x9.toInt := by rw [← c81.symm.trans c75]
          refine tk_Vi hC hK hw hT hA hE hSR kM_at0 (by decide) rfl (k_X12_isDoingHere_1 l adK adV dC dI cy ad B (by omega) (by omega) qr s1    w68 H.size hT f0_ c77 (show 0 ≤ f0_.toInt by omega) (show f0_.toInt ≤ 5 by omega) f1_ c78 (show 0 ≤ f1_.toInt by omega) (show f1_.toInt ≤ 60 by omega) f3_ c79 (show 0 ≤ f3_.toInt by omega) (show f3_.toInt ≤ 400 by omega) f4_ c80 (show 0 ≤ f4_.toInt by omega) (show f4_.toInt ≤ 12 by omega) (show 3 * f3_.toInt ≤ 14 * f1_.toInt by omega) (show f3_.toInt ≤ 280 by omega) (show f4_.toInt ≤ 11 by omega)) (cwV 1 hC.2.2.2.2 gX12_clauseHere_X12_isDoingHere rfl rfl rfl (by decide +kernel) ⟨Nat.le_of_ble_eq_true rfl, Nat.le_of_ble_eq_true rfl⟩) rfl hl.1 rfl (Nat.le_of_ble_eq_true rfl) dX12_clauseHere_153 (fun r131 w133 H locs hp132 hw => ?_)
          obtain ⟨hT, k134, hg157⟩ := hp132
          have hF := hF.tr k134 (by decide)
          have c158 := k134.gi kM_at0 (by decide) c77
          have c159 := k134.gi kM_at0 (by decide) c81
          have c160 := k134.gi kM_at0 (by decide) c82
          rcases hg157 with ⟨rfl, ⟨x135, c136, rx135, tx135⟩, ⟨x137, c138, rx137, tx137⟩, ⟨x139, c140, rx139, tx139⟩, ⟨x141, c142, rx141, tx141⟩⟩ | ⟨rfl, ⟨x143, c144, rx143, tx143⟩, ⟨x145, c146, rx145, tx145⟩, ⟨x147, c148, rx147, tx147⟩, ⟨x149, c150, rx149, tx149⟩⟩ | ⟨rfl, ⟨x151, c152, rx151, tx151⟩, ⟨x153, c154, rx153, tx153⟩, g155, g156⟩
          · have ex135 : x135.toInt = x9.toInt := by rw [← c159.symm.trans c136]
            have ex139 : x139.toInt = f0_.toInt := by rw [← c158.symm.trans c140]
            obtain ⟨x161, c162, rx161, tx161⟩ := hT.rda (lo := 0) (hi := 400) (i := (f0_.toInt).toNat) kM_at3 rfl rfl (by omega)
            obtain ⟨x163, c164, rx163, tx163⟩ := hT.rdi (lo := 0) (hi := 60) (k := 18) kM_at0 (by decide) rfl
            obtain ⟨x165, c166, rx165, tx165⟩ := hT.rda (lo := 0) (hi := 12) (i := (f0_.toInt).toNat) kM_at5 rfl rfl (by omega)
            exact tk_zret hC hr rfl hlocks hK ⟨hT, hF, (Or.inl ⟨rfl, ⟨x9, c159, (show 1 ≤ x9.toInt by omega), (show x9.toInt ≤ 400 by omega)⟩, ⟨x137, c138, (show 1 ≤ x137.toInt by omega), (show x137.toInt ≤ 3205 by omega)⟩, ⟨f0_, c158, (show 0 ≤ f0_.toInt by omega), (show f0_.toInt ≤ 5 by omega)⟩, ⟨x57, c160, (show 0 ≤ x57.toInt by omega), (show x57.toInt ≤ 12 by omega)⟩, (by simp only [c158, cf0_, cf2_, c160]; omega), (by simp only [c158, cf0_, c160]; omega)⟩)⟩ hw dX12_clauseHere_156
          · have ex143 : x143.toInt = x9.toInt := by rw [← c159.symm.trans c144]
            have ex147 : x147.toInt = f0_.toInt := by rw [← c158.symm.trans c148]
            obtain ⟨x167, c168, rx167, tx167⟩ := hT.rda (lo := 0) (hi := 400) (i := (f0_.toInt).toNat) kM_at3 rfl rfl (by omega)
            obtain ⟨x169, c170, rx169, tx169⟩ := hT.rdi (lo := 0) (hi := 60) (k := 18) kM_at0 (by decide) rfl
            obtain ⟨x171, c172, rx171, tx171⟩ := hT.rda (lo := 0) (hi := 12) (i := (f0_.toInt).toNat) kM_at5 rfl rfl (by omega)
            exact tk_zret hC hr rfl hlocks hK ⟨hT, hF, (Or.inl ⟨rfl, ⟨x9, c159, (show 1 ≤ x9.toInt by omega), (show x9.toInt ≤ 400 by omega)⟩, ⟨x145, c146, (show 1 ≤ x145.toInt by omega), (show x145.toInt ≤ 3205 by omega)⟩, ⟨f0_, c158, (show 0 ≤ f0_.toInt by omega), (show f0_.toInt ≤ 5 by omega)⟩, ⟨x57, c160, (show 0 ≤ x57.toInt by omega), (show x57.toInt ≤ 12 by omega)⟩, (by simp only [c158, cf0_, cf2_, c160]; omega), (by simp only [c158, cf0_, c160]; omega)⟩)⟩ hw dX12_clauseHere_156
          · have ex151 : x151.toInt = x9.toInt := by rw [← c159.symm.trans c152]
            have ex153 : x153.toInt = f0_.toInt := by rw [← c158.symm.trans c154]
            obtain ⟨x173, c174, rx173, tx173⟩ := hT.rda (lo := 0) (hi := 400) (i := (f0_.toInt).toNat) kM_at3 rfl rfl (by omega)
            obtain ⟨x175, c176, rx175, tx175⟩ := hT.rdi (lo := 0) (hi := 60) (k := 18) kM_at0 (by decide) rfl
            obtain ⟨x177, c178, rx177, tx177⟩ := hT.rda (lo := 0) (hi := 12) (i := (f0_.toInt).toNat) kM_at5 rfl rfl (by omega)
            have g155 : 3 * x173.toInt ≤ 14 * x175.toInt := by have q := g155; simp only [c77, c158, c174, c176] at q; omega
            have g156 : x177.toInt = f4_.toInt + 1 := by have q := g156; simp only [c77, c158, c80, c178] at q; omega
            exact tk_zret hC hr rfl hlocks hK ⟨hT, hF, (Or.inr (Or.inr (Or.inl ⟨rfl, ⟨x9, c159, (show 1 ≤ x9.toInt by omega), (show x9.toInt ≤ 400 by omega)⟩, ⟨f0_, c158, (show 0 ≤ f0_.toInt by omega), (show f0_.toInt ≤ 5 by omega)⟩, ⟨x57, c160, (show 1 ≤ x57.toInt by omega), (show x57.toInt ≤ 12 by omega)⟩, (by simp only [c158, cf0_, c174, c176]; omega), (by simp only [c158, cf0_, c178, c160]; omega), (by simp only [c158, cf0_, cf2_, c160]; omega), (by simp only [c158, cf0_, c160]; omega)⟩)))⟩ hw dX12_clauseHere_156
      · have c54 : f2_.toInt = (12 : Int) := wk_eq.mp c54
        refine lv_aload_n hx hb dX12_clauseHere_119 rfl (lv_at hl 3 rfl) ?_
        refine lv_iconst (v := 4) hx hb dX12_clauseHere_120 (by decide) ?_
        refine lv_iload_n hx hb dX12_clauseHere_121 rfl (lv_at hl 2 rfl) ?_
        refine tk_Vi hC hK hw hT hA hE hSR kM_at0 (by decide) rfl (k_X12_fails_1 l adK adV dC dI cy ad B (by omega) (by omega) qr s1   4 (by decide) (by decide) x11 (show 0 ≤ x11.toInt by omega) (show x11.toInt ≤ 400 by omega) w37 H.size hT ) (cwV 2 hC.2.2.2.2 gX12_clauseHere_X12_fails rfl rfl rfl (by decide +kernel) ⟨Nat.le_of_ble_eq_true rfl, Nat.le_of_ble_eq_true rfl⟩) rfl hl.1 rfl (Nat.le_of_ble_eq_true rfl) dX12_clauseHere_122 (fun r179 w181 H locs hp180 hw => ?_)
        obtain ⟨hT, k182, hg185⟩ := hp180
        have hF := hF.tr k182 (by decide)
        have c186 := k182.gi kM_at0 (by decide) c46
        have c187 := k182.gi kM_at0 (by decide) c47
        have c188 := k182.gi kM_at0 (by decide) c48
        have c189 := k182.gi kM_at3 rfl c49
        have c190 := k182.gi kM_at5 rfl c50
        have c191 := k182.gi kM_at0 (by decide) c51
        obtain ⟨rfl, ⟨x183, c184, rx183, tx183⟩⟩ := hg185
        exact tk_zret hC hr rfl hlocks hK ⟨hT, hF, (Or.inl ⟨rfl, ⟨x9, c191, (show 1 ≤ x9.toInt by omega), (show x9.toInt ≤ 400 by omega)⟩, ⟨x183, c184, (show 1 ≤ x183.toInt by omega), (show x183.toInt ≤ 3205 by omega)⟩, ⟨f0_, c186, (show 0 ≤ f0_.toInt by omega), (show f0_.toInt ≤ 5 by omega)⟩, ⟨f2_, c188, (show 0 ≤ f2_.toInt by omega), (show f2_.toInt ≤ 12 by omega)⟩, (by simp only [c186, cf0_, cf2_, c188]; omega), (by simp only [c186, cf0_, c188]; omega)⟩)⟩ hw dX12_clauseHere_125
    · have ex43 : x43.toInt = x9.toInt := by rw [← c51.symm.trans c44]
      refine lv_if_lt (tgt := 88) hx hb dX12_clauseHere_81 (by decide) (fun _ => ?_) (fun c => absurd (by decide) c)
      refine lv_iconst (v := 0) hx hb dX12_clauseHere_88 (by decide) ?_
      refine lv_istore_n (lv' := [(3, .int 0), (2, .int 0), (1, .int x11), (0, .ref (ad 0))]) hx hb dX12_clauseHere_89 rfl hl (by decide) rfl (fun ls hl => ?_)
      refine lv_iload_n hx hb dX12_clauseHere_90 rfl (lv_at hl 0 rfl) ?_
      refine lv_if_ne (tgt := 101) hx hb dX12_clauseHere_91 (by decide) (fun c => absurd (by decide) c) (fun _ => ?_)
      refine lv_aload_n hx hb dX12_clauseHere_94 rfl (lv_at hl 3 rfl) ?_
      refine lv_iconst (v := 0) hx hb dX12_clauseHere_95 (by decide) ?_
      refine lv_iload_n hx hb dX12_clauseHere_96 rfl (lv_at hl 2 rfl) ?_
      refine tk_Vi hC hK hw hT hA hE hSR kM_at0 (by decide) rfl (k_X12_fails_1 l adK adV dC dI cy ad B (by omega) (by omega) qr s1   0 (by decide) (by decide) x11 (show 0 ≤ x11.toInt by omega) (show x11.toInt ≤ 400 by omega) w37 H.size hT ) (cwV 2 hC.2.2.2.2 gX12_clauseHere_X12_fails rfl rfl rfl (by decide +kernel) ⟨Nat.le_of_ble_eq_true rfl, Nat.le_of_ble_eq_true rfl⟩) rfl hl.1 rfl (Nat.le_of_ble_eq_true rfl) dX12_clauseHere_97 (fun r192 w194 H locs hp193 hw => ?_)
      obtain ⟨hT, k195, hg198⟩ := hp193
      have hF := hF.tr k195 (by decide)
      have c199 := k195.gi kM_at0 (by decide) c46
      have c200 := k195.gi kM_at0 (by decide) c47
      have c201 := k195.gi kM_at0 (by decide) c48
      have c202 := k195.gi kM_at3 rfl c49
      have c203 := k195.gi kM_at5 rfl c50
      have c204 := k195.gi kM_at0 (by decide) c51
      obtain ⟨rfl, ⟨x196, c197, rx196, tx196⟩⟩ := hg198
      exact tk_zret hC hr rfl hlocks hK ⟨hT, hF, (Or.inl ⟨rfl, ⟨x9, c204, (show 1 ≤ x9.toInt by omega), (show x9.toInt ≤ 400 by omega)⟩, ⟨x196, c197, (show 1 ≤ x196.toInt by omega), (show x196.toInt ≤ 3205 by omega)⟩, ⟨f0_, c199, (show 0 ≤ f0_.toInt by omega), (show f0_.toInt ≤ 5 by omega)⟩, ⟨f2_, c201, (show 0 ≤ f2_.toInt by omega), (show f2_.toInt ≤ 12 by omega)⟩, (by simp only [c199, cf0_, cf2_, c201]; omega), (by simp only [c199, cf0_, c201]; omega)⟩)⟩ hw dX12_clauseHere_100
  · have g19 : (x17.toInt = x1.toInt ∨ (gi w0 1 (x1.toInt).toNat).toInt = 32) := by have q := g19; simp only [cf0_, c24, c2, c18] at q; omega
    refine lv_pop hx hb dX12_clauseHere_4 rfl ?_
    refine lv_aload_n hx hb dX12_clauseHere_5 rfl (lv_at hl 0 rfl) ?_
    refine tk_geti hC hK hw hT hinX12 kM_at0 (by decide) rfl 14 (by decide) (List.mem_of_getElem? (i := 1) rfl) rfl rfl dX12_clauseHere_6 (fun x205 c206 rx205 tx205 => ?_)
    refine wk_top x17 (c206.symm.trans c18) ?_
    refine lv_istore_n (lv' := [(1, .int x17), (0, .ref (ad 0))]) hx hb dX12_clauseHere_9 rfl hl (by decide) rfl (fun ls hl => ?_)
    refine lv_aload_n hx hb dX12_clauseHere_10 rfl (lv_at hl 1 rfl) ?_
    refine tk_geti hC hK hw hT hinX12 kM_at0 (by decide) rfl 17 (by decide) (List.mem_of_getElem? (i := 2) rfl) rfl rfl dX12_clauseHere_11 (fun x207 c208 rx207 tx207 => ?_)
    refine wk_top f0_ (c208.symm.trans c24) ?_
    refine lv_bipush (v := 6) hx hb dX12_clauseHere_14 (by decide) ?_
    refine lv_icmp_ne (tgt := 23) hx hb dX12_clauseHere_16 (by decide) (fun _ => ?_) (fun c => absurd (show f0_.toInt = (6 : Int) from wk_eq.mp c) (by omega))
    refine lv_iconst (v := 0) hx hb dX12_clauseHere_23 (by decide) ?_
    refine lv_istore_n (lv' := [(2, .int 0), (1, .int x17), (0, .ref (ad 0))]) hx hb dX12_clauseHere_24 rfl hl (by decide) rfl (fun ls hl => ?_)
    refine lv_iload_n hx hb dX12_clauseHere_25 rfl (lv_at hl 0 rfl) ?_
    refine lv_if_eq (tgt := 77) hx hb dX12_clauseHere_26 (by decide) (fun _ => ?_) (fun c => absurd (by decide) c)
    refine lv_aload_n hx hb dX12_clauseHere_77 rfl (lv_at hl 2 rfl) ?_
    refine tk_Vi hC hK hw hT hA hE hSR kM_at0 (by decide) rfl (k_X12_doingSort_1 l adK adV dC dI cy ad B (by omega) (by omega) qr s1    w5 H.size hT ) (cwV 0 hC.2.2.2.2 gX12_clauseHere_X12_doingSort rfl rfl rfl (by decide +kernel) ⟨Nat.le_of_ble_eq_true rfl, Nat.le_of_ble_eq_true rfl⟩) rfl hl.1 rfl (Nat.le_of_ble_eq_true rfl) dX12_clauseHere_78 (fun r209 w211 H locs hp210 hw => ?_)
    obtain ⟨hT, k212, hg219⟩ := hp210
    have hF := hF.tr k212 (by decide)
    have c220 := k212.gi kM_at0 (by decide) c24
    have c221 := k212.gi kM_at0 (by decide) c25
    have c222 := k212.gi kM_at0 (by decide) c26
    have c223 := k212.gi kM_at3 rfl c27
    have c224 := k212.gi kM_at5 rfl c28
    have c225 := k212.gi kM_at0 (by decide) c16
    rcases hg219 with ⟨g213, g214, ⟨x215, c216, rx215, tx215⟩⟩ | ⟨rfl, ⟨x217, c218, rx217, tx217⟩⟩
    · have ex215 : x215.toInt = x15.toInt := by rw [← c225.symm.trans c216]
      refine lv_if_lt (tgt := 88) hx hb dX12_clauseHere_81 (by decide) (fun c => absurd c (fun h => absurd (show r209.toInt < (0 : Int) from wk_lt.mp h) (by omega))) (fun _ => ?_)
      refine lv_iconst (v := 1) hx hb dX12_clauseHere_84 (by decide) ?_
      refine lv_goto (tgt := 89) hx hb dX12_clauseHere_85 (by decide) ?_
      refine lv_istore_n (lv' := [(3, .int 1), (2, .int 0), (1, .int x17), (0, .ref (ad 0))]) hx hb dX12_clauseHere_89 rfl hl (by decide) rfl (fun ls hl => ?_)
      refine lv_iload_n hx hb dX12_clauseHere_90 rfl (lv_at hl 0 rfl) ?_
      refine lv_if_ne (tgt := 101) hx hb dX12_clauseHere_91 (by decide) (fun _ => ?_) (fun c => absurd c (by decide))
      refine lv_aload_n hx hb dX12_clauseHere_101 rfl (lv_at hl 3 rfl) ?_
      refine tk_geti hC hK hw hT hinX12 kM_at0 (by decide) rfl 20 (by decide) (List.mem_of_getElem? (i := 7) rfl) rfl rfl dX12_clauseHere_102 (fun x226 c227 rx226 tx226 => ?_)
      refine wk_top f2_ (c227.symm.trans c222) ?_
      refine lv_iload_n hx hb dX12_clauseHere_105 rfl (lv_at hl 1 rfl) ?_
      refine lv_if_eq (tgt := 114) hx hb dX12_clauseHere_106 (by decide) (fun _ => ?_) (fun c => absurd (by decide) c)
      refine lv_bipush (v := 12) hx hb dX12_clauseHere_114 (by decide) ?_
      refine lv_icmp_ne (tgt := 126) hx hb dX12_clauseHere_116 (by decide) (fun c228 => ?_) (fun c228 => ?_)
      · have c228 : ¬ f2_.toInt = (12 : Int) := wk_eqF c228
        refine lv_aload_n hx hb dX12_clauseHere_126 rfl (lv_at hl 3 rfl) ?_
        refine lv_dup hx hb dX12_clauseHere_127 rfl ?_
        refine tk_geti hC hK hw hT hinX12 kM_at0 (by decide) rfl 20 (by decide) (List.mem_of_getElem? (i := 7) rfl) rfl rfl dX12_clauseHere_128 (fun x229 c230 rx229 tx229 => ?_)
        refine wk_top f2_ (c230.symm.trans c222) ?_
        refine lv_iconst (v := 1) hx hb dX12_clauseHere_131 (by decide) ?_
        refine lv_iadd hx hb dX12_clauseHere_132 ?_
        refine lv_topi (fun x231 ex231 => ?_)
        have ex231 : x231.toInt = f2_.toInt + (1 : Int) := by rw [ex231]; exact wk_add (show (-2147483648) ≤ f2_.toInt + (1 : Int) by omega) (show f2_.toInt + (1 : Int) ≤ 2147483647 by omega)
        refine tk_puti hC hK hw hT hinX12 tyX12_ok nmX12 kM_at0 (by decide) rfl rfl 20 (by decide) (List.mem_of_getElem? (i := 7) rfl) rfl rfl rfl rfl (show 0 ≤ x231.toInt by omega) (show x231.toInt ≤ 32 by omega) dX12_clauseHere_133 (fun H locs w232 hw hT k234 c233 => ?_)
        have hF := hF.put kM_at0 (k := 20) (by decide) k234
        have c235 := k234.gi (Or.inr (by decide)) c220
        have c236 := k234.gi (Or.inr (by decide)) c221
        have c237 := k234.gi (Or.inl (tk_ne kM_at3 kM_at0 (by decide))) c223
        have c238 := k234.gi (Or.inl (tk_ne kM_at5 kM_at0 (by decide))) c224
        have c239 := k234.gi (Or.inr (by decide)) c225
        refine lv_iload_n hx hb dX12_clauseHere_136 rfl (lv_at hl 1 rfl) ?_
        refine lv_if_eq (tgt := 148) hx hb dX12_clauseHere_137 (by decide) (fun _ => ?_) (fun c => absurd (by decide) c)
        refine lv_aload_n hx hb dX12_clauseHere_148 rfl (lv_at hl 3 rfl) ?_
        refine lv_aload_n hx hb dX12_clauseHere_149 rfl (lv_at hl 3 rfl) ?_
        refine tk_Vi hC hK hw hT hA hE hSR kM_at0 (by decide) rfl (k_X12_doingSort_1 l adK adV dC dI cy ad B (by omega) (by omega) qr s1    w232 H.size hT ) (cwV 0 hC.2.2.2.2 gX12_clauseHere_X12_doingSort rfl rfl rfl (by decide +kernel) ⟨Nat.le_of_ble_eq_true rfl, Nat.le_of_ble_eq_true rfl⟩) rfl hl.1 rfl (Nat.le_of_ble_eq_true rfl) dX12_clauseHere_150 (fun r240 w242 H locs hp241 hw => ?_)
        obtain ⟨hT, k243, hg250⟩ := hp241
        have hF := hF.tr k243 (by decide)
        have c251 := k243.gi kM_at0 (by decide) c235
        have c252 := k243.gi kM_at0 (by decide) c236
        have c253 := k243.gi kM_at3 rfl c237
        have c254 := k243.gi kM_at5 rfl c238
        have c255 := k243.gi kM_at0 (by decide) c239
        have c256 := k243.gi kM_at0 (by decide) c233
        rcases hg250 with ⟨g244, g245, ⟨x246, c247, rx246, tx246⟩⟩ | ⟨rfl, ⟨x248, c249, rx248, tx248⟩⟩
        · have ex246 : x246.toInt = x15.toInt := by rw [← c255.symm.trans c247]
          refine tk_Vi hC hK hw hT hA hE hSR kM_at0 (by decide) rfl (k_X12_isDoingHere_2 l adK adV dC dI cy ad B (by omega) (by omega) qr s1   r240 (show 0 ≤ r240.toInt by omega) (show r240.toInt ≤ 3 by omega) w242 H.size hT f0_ c251 (show 0 ≤ f0_.toInt by omega) (show f0_.toInt ≤ 5 by omega) f1_ c252 (show 0 ≤ f1_.toInt by omega) (show f1_.toInt ≤ 60 by omega) f3_ c253 (show 0 ≤ f3_.toInt by omega) (show f3_.toInt ≤ 400 by omega) f4_ c254 (show 0 ≤ f4_.toInt by omega) (show f4_.toInt ≤ 12 by omega) (show 3 * f3_.toInt ≤ 14 * f1_.toInt by omega) (show f3_.toInt ≤ 280 by omega) (show f4_.toInt ≤ 11 by omega)) (cwV 1 hC.2.2.2.2 gX12_clauseHere_X12_isDoingHere rfl rfl rfl (by decide +kernel) ⟨Nat.le_of_ble_eq_true rfl, Nat.le_of_ble_eq_true rfl⟩) rfl hl.1 rfl (Nat.le_of_ble_eq_true rfl) dX12_clauseHere_153 (fun r257 w259 H locs hp258 hw => ?_)
          obtain ⟨hT, k260, hg283⟩ := hp258
          have hF := hF.tr k260 (by decide)
          have c284 := k260.gi kM_at0 (by decide) c251
          have c285 := k260.gi kM_at0 (by decide) c255
          have c286 := k260.gi kM_at0 (by decide) c256
          rcases hg283 with ⟨rfl, ⟨x261, c262, rx261, tx261⟩, ⟨x263, c264, rx263, tx263⟩, ⟨x265, c266, rx265, tx265⟩, ⟨x267, c268, rx267, tx267⟩⟩ | ⟨rfl, ⟨x269, c270, rx269, tx269⟩, ⟨x271, c272, rx271, tx271⟩, ⟨x273, c274, rx273, tx273⟩, ⟨x275, c276, rx275, tx275⟩⟩ | ⟨rfl, ⟨x277, c278, rx277, tx277⟩, ⟨x279, c280, rx279, tx279⟩, g281, g282⟩
          · have ex261 : x261.toInt = x15.toInt := by rw [← c285.symm.trans c262]
            have ex265 : x265.toInt = f0_.toInt := by rw [← c284.symm.trans c266]
            obtain ⟨x287, c288, rx287, tx287⟩ := hT.rda (lo := 0) (hi := 400) (i := (f0_.toInt).toNat) kM_at3 rfl rfl (by omega)
            obtain ⟨x289, c290, rx289, tx289⟩ := hT.rdi (lo := 0) (hi := 60) (k := 18) kM_at0 (by decide) rfl
            obtain ⟨x291, c292, rx291, tx291⟩ := hT.rda (lo := 0) (hi := 12) (i := (f0_.toInt).toNat) kM_at5 rfl rfl (by omega)
            exact tk_zret hC hr rfl hlocks hK ⟨hT, hF, (Or.inl ⟨rfl, ⟨x15, c285, (show 1 ≤ x15.toInt by omega), (show x15.toInt ≤ 400 by omega)⟩, ⟨x263, c264, (show 1 ≤ x263.toInt by omega), (show x263.toInt ≤ 3205 by omega)⟩, ⟨f0_, c284, (show 0 ≤ f0_.toInt by omega), (show f0_.toInt ≤ 5 by omega)⟩, ⟨x231, c286, (show 0 ≤ x231.toInt by omega), (show x231.toInt ≤ 12 by omega)⟩, (by simp only [c284, cf0_, cf2_, c286]; omega), (by simp only [c284, cf0_, c286]; omega)⟩)⟩ hw dX12_clauseHere_156
          · have ex269 : x269.toInt = x15.toInt := by rw [← c285.symm.trans c270]
            have ex273 : x273.toInt = f0_.toInt := by rw [← c284.symm.trans c274]
            obtain ⟨x293, c294, rx293, tx293⟩ := hT.rda (lo := 0) (hi := 400) (i := (f0_.toInt).toNat) kM_at3 rfl rfl (by omega)
            obtain ⟨x295, c296, rx295, tx295⟩ := hT.rdi (lo := 0) (hi := 60) (k := 18) kM_at0 (by decide) rfl
            obtain ⟨x297, c298, rx297, tx297⟩ := hT.rda (lo := 0) (hi := 12) (i := (f0_.toInt).toNat) kM_at5 rfl rfl (by omega)
            exact tk_zret hC hr rfl hlocks hK ⟨hT, hF, (Or.inl ⟨rfl, ⟨x15, c285, (show 1 ≤ x15.toInt by omega), (show x15.toInt ≤ 400 by omega)⟩, ⟨x271, c272, (show 1 ≤ x271.toInt by omega), (show x271.toInt ≤ 3205 by omega)⟩, ⟨f0_, c284, (show 0 ≤ f0_.toInt by omega), (show f0_.toInt ≤ 5 by omega)⟩, ⟨x231, c286, (show 0 ≤ x231.toInt by omega), (show x231.toInt ≤ 12 by omega)⟩, (by simp only [c284, cf0_, cf2_, c286]; omega), (by simp only [c284, cf0_, c286]; omega)⟩)⟩ hw dX12_clauseHere_156
          · have ex277 : x277.toInt = x15.toInt := by rw [← c285.symm.trans c278]
            have ex279 : x279.toInt = f0_.toInt := by rw [← c284.symm.trans c280]
            obtain ⟨x299, c300, rx299, tx299⟩ := hT.rda (lo := 0) (hi := 400) (i := (f0_.toInt).toNat) kM_at3 rfl rfl (by omega)
            obtain ⟨x301, c302, rx301, tx301⟩ := hT.rdi (lo := 0) (hi := 60) (k := 18) kM_at0 (by decide) rfl
            obtain ⟨x303, c304, rx303, tx303⟩ := hT.rda (lo := 0) (hi := 12) (i := (f0_.toInt).toNat) kM_at5 rfl rfl (by omega)
            have g281 : 3 * x299.toInt ≤ 14 * x301.toInt := by have q := g281; simp only [c251, c284, c300, c302] at q; omega
            have g282 : x303.toInt = f4_.toInt + 1 := by have q := g282; simp only [c251, c284, c254, c304] at q; omega
            exact tk_zret hC hr rfl hlocks hK ⟨hT, hF, (Or.inr (Or.inr (Or.inl ⟨rfl, ⟨x15, c285, (show 1 ≤ x15.toInt by omega), (show x15.toInt ≤ 400 by omega)⟩, ⟨f0_, c284, (show 0 ≤ f0_.toInt by omega), (show f0_.toInt ≤ 5 by omega)⟩, ⟨x231, c286, (show 1 ≤ x231.toInt by omega), (show x231.toInt ≤ 12 by omega)⟩, (by simp only [c284, cf0_, c300, c302]; omega), (by simp only [c284, cf0_, c304, c286]; omega), (by simp only [c284, cf0_, cf2_, c286]; omega), (by simp only [c284, cf0_, c286]; omega)⟩)))⟩ hw dX12_clauseHere_156
        · have ex248 : x248.toInt = x15.toInt := by rw [← c255.symm.trans c249]
          refine tk_Vi hC hK hw hT hA hE hSR kM_at0 (by decide) rfl (k_X12_isDoingHere_1 l adK adV dC dI cy ad B (by omega) (by omega) qr s1    w242 H.size hT f0_ c251 (show 0 ≤ f0_.toInt by omega) (show f0_.toInt ≤ 5 by omega) f1_ c252 (show 0 ≤ f1_.toInt by omega) (show f1_.toInt ≤ 60 by omega) f3_ c253 (show 0 ≤ f3_.toInt by omega) (show f3_.toInt ≤ 400 by omega) f4_ c254 (show 0 ≤ f4_.toInt by omega) (show f4_.toInt ≤ 12 by omega) (show 3 * f3_.toInt ≤ 14 * f1_.toInt by omega) (show f3_.toInt ≤ 280 by omega) (show f4_.toInt ≤ 11 by omega)) (cwV 1 hC.2.2.2.2 gX12_clauseHere_X12_isDoingHere rfl rfl rfl (by decide +kernel) ⟨Nat.le_of_ble_eq_true rfl, Nat.le_of_ble_eq_true rfl⟩) rfl hl.1 rfl (Nat.le_of_ble_eq_true rfl) dX12_clauseHere_153 (fun r305 w307 H locs hp306 hw => ?_)
          obtain ⟨hT, k308, hg331⟩ := hp306
          have hF := hF.tr k308 (by decide)
          have c332 := k308.gi kM_at0 (by decide) c251
          have c333 := k308.gi kM_at0 (by decide) c255
          have c334 := k308.gi kM_at0 (by decide) c256
          rcases hg331 with ⟨rfl, ⟨x309, c310, rx309, tx309⟩, ⟨x311, c312, rx311, tx311⟩, ⟨x313, c314, rx313, tx313⟩, ⟨x315, c316, rx315, tx315⟩⟩ | ⟨rfl, ⟨x317, c318, rx317, tx317⟩, ⟨x319, c320, rx319, tx319⟩, ⟨x321, c322, rx321, tx321⟩, ⟨x323, c324, rx323, tx323⟩⟩ | ⟨rfl, ⟨x325, c326, rx325, tx325⟩, ⟨x327, c328, rx327, tx327⟩, g329, g330⟩
          · have ex309 : x309.toInt = x15.toInt := by rw [← c333.symm.trans c310]
            have ex313 : x313.toInt = f0_.toInt := by rw [← c332.symm.trans c314]
            obtain ⟨x335, c336, rx335, tx335⟩ := hT.rda (lo := 0) (hi := 400) (i := (f0_.toInt).toNat) kM_at3 rfl rfl (by omega)
            obtain ⟨x337, c338, rx337, tx337⟩ := hT.rdi (lo := 0) (hi := 60) (k := 18) kM_at0 (by decide) rfl
            obtain ⟨x339, c340, rx339, tx339⟩ := hT.rda (lo := 0) (hi := 12) (i := (f0_.toInt).toNat) kM_at5 rfl rfl (by omega)
            exact tk_zret hC hr rfl hlocks hK ⟨hT, hF, (Or.inl ⟨rfl, ⟨x15, c333, (show 1 ≤ x15.toInt by omega), (show x15.toInt ≤ 400 by omega)⟩, ⟨x311, c312, (show 1 ≤ x311.toInt by omega), (show x311.toInt ≤ 3205 by omega)⟩, ⟨f0_, c332, (show 0 ≤ f0_.toInt by omega), (show f0_.toInt ≤ 5 by omega)⟩, ⟨x231, c334, (show 0 ≤ x231.toInt by omega), (show x231.toInt ≤ 12 by omega)⟩, (by simp only [c332, cf0_, cf2_, c334]; omega), (by simp only [c332, cf0_, c334]; omega)⟩)⟩ hw dX12_clauseHere_156
          · have ex317 : x317.toInt = x15.toInt := by rw [← c333.symm.trans c318]
            have ex321 : x321.toInt = f0_.toInt := by rw [← c332.symm.trans c322]
            obtain ⟨x341, c342, rx341, tx341⟩ := hT.rda (lo := 0) (hi := 400) (i := (f0_.toInt).toNat) kM_at3 rfl rfl (by omega)
            obtain ⟨x343, c344, rx343, tx343⟩ := hT.rdi (lo := 0) (hi := 60) (k := 18) kM_at0 (by decide) rfl
            obtain ⟨x345, c346, rx345, tx345⟩ := hT.rda (lo := 0) (hi := 12) (i := (f0_.toInt).toNat) kM_at5 rfl rfl (by omega)
            exact tk_zret hC hr rfl hlocks hK ⟨hT, hF, (Or.inl ⟨rfl, ⟨x15, c333, (show 1 ≤ x15.toInt by omega), (show x15.toInt ≤ 400 by omega)⟩, ⟨x319, c320, (show 1 ≤ x319.toInt by omega), (show x319.toInt ≤ 3205 by omega)⟩, ⟨f0_, c332, (show 0 ≤ f0_.toInt by omega), (show f0_.toInt ≤ 5 by omega)⟩, ⟨x231, c334, (show 0 ≤ x231.toInt by omega), (show x231.toInt ≤ 12 by omega)⟩, (by simp only [c332, cf0_, cf2_, c334]; omega), (by simp only [c332, cf0_, c334]; omega)⟩)⟩ hw dX12_clauseHere_156
          · have ex325 : x325.toInt = x15.toInt := by rw [← c333.symm.trans c326]
            have ex327 : x327.toInt = f0_.toInt := by rw [← c332.symm.trans c328]
            obtain ⟨x347, c348, rx347, tx347⟩ := hT.rda (lo := 0) (hi := 400) (i := (f0_.toInt).toNat) kM_at3 rfl rfl (by omega)
            obtain ⟨x349, c350, rx349, tx349⟩ := hT.rdi (lo := 0) (hi := 60) (k := 18) kM_at0 (by decide) rfl
            obtain ⟨x351, c352, rx351, tx351⟩ := hT.rda (lo := 0) (hi := 12) (i := (f0_.toInt).toNat) kM_at5 rfl rfl (by omega)
            have g329 : 3 * x347.toInt ≤ 14 * x349.toInt := by have q := g329; simp only [c251, c332, c348, c350] at q; omega
            have g330 : x351.toInt = f4_.toInt + 1 := by have q := g330; simp only [c251, c332, c254, c352] at q; omega
            exact tk_zret hC hr rfl hlocks hK ⟨hT, hF, (Or.inr (Or.inr (Or.inl ⟨rfl, ⟨x15, c333, (show 1 ≤ x15.toInt by omega), (show x15.toInt ≤ 400 by omega)⟩, ⟨f0_, c332, (show 0 ≤ f0_.toInt by omega), (show f0_.toInt ≤ 5 by omega)⟩, ⟨x231, c334, (show 1 ≤ x231.toInt by omega), (show x231.toInt ≤ 12 by omega)⟩, (by simp only [c332, cf0_, c348, c350]; omega), (by simp only [c332, cf0_, c352, c334]; omega), (by simp only [c332, cf0_, cf2_, c334]; omega), (by simp only [c332, cf0_, c334]; omega)⟩)))⟩ hw dX12_clauseHere_156
      · have c228 : f2_.toInt = (12 : Int) := wk_eq.mp c228
        refine lv_aload_n hx hb dX12_clauseHere_119 rfl (lv_at hl 3 rfl) ?_
        refine lv_iconst (v := 4) hx hb dX12_clauseHere_120 (by decide) ?_
        refine lv_iload_n hx hb dX12_clauseHere_121 rfl (lv_at hl 2 rfl) ?_
        refine tk_Vi hC hK hw hT hA hE hSR kM_at0 (by decide) rfl (k_X12_fails_1 l adK adV dC dI cy ad B (by omega) (by omega) qr s1   4 (by decide) (by decide) x17 (show 0 ≤ x17.toInt by omega) (show x17.toInt ≤ 400 by omega) w211 H.size hT ) (cwV 2 hC.2.2.2.2 gX12_clauseHere_X12_fails rfl rfl rfl (by decide +kernel) ⟨Nat.le_of_ble_eq_true rfl, Nat.le_of_ble_eq_true rfl⟩) rfl hl.1 rfl (Nat.le_of_ble_eq_true rfl) dX12_clauseHere_122 (fun r353 w355 H locs hp354 hw => ?_)
        obtain ⟨hT, k356, hg359⟩ := hp354
        have hF := hF.tr k356 (by decide)
        have c360 := k356.gi kM_at0 (by decide) c220
        have c361 := k356.gi kM_at0 (by decide) c221
        have c362 := k356.gi kM_at0 (by decide) c222
        have c363 := k356.gi kM_at3 rfl c223
        have c364 := k356.gi kM_at5 rfl c224
        have c365 := k356.gi kM_at0 (by decide) c225
        obtain ⟨rfl, ⟨x357, c358, rx357, tx357⟩⟩ := hg359
        exact tk_zret hC hr rfl hlocks hK ⟨hT, hF, (Or.inl ⟨rfl, ⟨x15, c365, (show 1 ≤ x15.toInt by omega), (show x15.toInt ≤ 400 by omega)⟩, ⟨x357, c358, (show 1 ≤ x357.toInt by omega), (show x357.toInt ≤ 3205 by omega)⟩, ⟨f0_, c360, (show 0 ≤ f0_.toInt by omega), (show f0_.toInt ≤ 5 by omega)⟩, ⟨f2_, c362, (show 0 ≤ f2_.toInt by omega), (show f2_.toInt ≤ 12 by omega)⟩, (by simp only [c360, cf0_, cf2_, c362]; omega), (by simp only [c360, cf0_, c362]; omega)⟩)⟩ hw dX12_clauseHere_125
    · have ex217 : x217.toInt = x15.toInt := by rw [← c225.symm.trans c218]
      refine lv_if_lt (tgt := 88) hx hb dX12_clauseHere_81 (by decide) (fun _ => ?_) (fun c => absurd (by decide) c)
      refine lv_iconst (v := 0) hx hb dX12_clauseHere_88 (by decide) ?_
      refine lv_istore_n (lv' := [(3, .int 0), (2, .int 0), (1, .int x17), (0, .ref (ad 0))]) hx hb dX12_clauseHere_89 rfl hl (by decide) rfl (fun ls hl => ?_)
      refine lv_iload_n hx hb dX12_clauseHere_90 rfl (lv_at hl 0 rfl) ?_
      refine lv_if_ne (tgt := 101) hx hb dX12_clauseHere_91 (by decide) (fun c => absurd (by decide) c) (fun _ => ?_)
      refine lv_aload_n hx hb dX12_clauseHere_94 rfl (lv_at hl 3 rfl) ?_
      refine lv_iconst (v := 0) hx hb dX12_clauseHere_95 (by decide) ?_
      refine lv_iload_n hx hb dX12_clauseHere_96 rfl (lv_at hl 2 rfl) ?_
      refine tk_Vi hC hK hw hT hA hE hSR kM_at0 (by decide) rfl (k_X12_fails_1 l adK adV dC dI cy ad B (by omega) (by omega) qr s1   0 (by decide) (by decide) x17 (show 0 ≤ x17.toInt by omega) (show x17.toInt ≤ 400 by omega) w211 H.size hT ) (cwV 2 hC.2.2.2.2 gX12_clauseHere_X12_fails rfl rfl rfl (by decide +kernel) ⟨Nat.le_of_ble_eq_true rfl, Nat.le_of_ble_eq_true rfl⟩) rfl hl.1 rfl (Nat.le_of_ble_eq_true rfl) dX12_clauseHere_97 (fun r366 w368 H locs hp367 hw => ?_)
      obtain ⟨hT, k369, hg372⟩ := hp367
      have hF := hF.tr k369 (by decide)
      have c373 := k369.gi kM_at0 (by decide) c220
      have c374 := k369.gi kM_at0 (by decide) c221
      have c375 := k369.gi kM_at0 (by decide) c222
      have c376 := k369.gi kM_at3 rfl c223
      have c377 := k369.gi kM_at5 rfl c224
      have c378 := k369.gi kM_at0 (by decide) c225
      obtain ⟨rfl, ⟨x370, c371, rx370, tx370⟩⟩ := hg372
      exact tk_zret hC hr rfl hlocks hK ⟨hT, hF, (Or.inl ⟨rfl, ⟨x15, c378, (show 1 ≤ x15.toInt by omega), (show x15.toInt ≤ 400 by omega)⟩, ⟨x370, c371, (show 1 ≤ x370.toInt by omega), (show x370.toInt ≤ 3205 by omega)⟩, ⟨f0_, c373, (show 0 ≤ f0_.toInt by omega), (show f0_.toInt ≤ 5 by omega)⟩, ⟨f2_, c375, (show 0 ≤ f2_.toInt by omega), (show f2_.toInt ≤ 12 by omega)⟩, (by simp only [c373, cf0_, cf2_, c375]; omega), (by simp only [c373, cf0_, c375]; omega)⟩)⟩ hw dX12_clauseHere_100
  · obtain ⟨x29, c30, rx29, tx29⟩ := hT.rdi (lo := 0) (hi := 400) (k := 14) kM_at0 (by decide) rfl
    have g22 : (x29.toInt = x1.toInt ∨ (gi w0 1 (x1.toInt).toNat).toInt = 32) := by have q := g22; simp only [cf0_, c24, c2, c30] at q; omega
    refine lv_pop hx hb dX12_clauseHere_4 rfl ?_
    refine lv_aload_n hx hb dX12_clauseHere_5 rfl (lv_at hl 0 rfl) ?_
    refine tk_geti hC hK hw hT hinX12 kM_at0 (by decide) rfl 14 (by decide) (List.mem_of_getElem? (i := 1) rfl) rfl rfl dX12_clauseHere_6 (fun x379 c380 rx379 tx379 => ?_)
    refine wk_top x29 (c380.symm.trans c30) ?_
    refine lv_istore_n (lv' := [(1, .int x29), (0, .ref (ad 0))]) hx hb dX12_clauseHere_9 rfl hl (by decide) rfl (fun ls hl => ?_)
    refine lv_aload_n hx hb dX12_clauseHere_10 rfl (lv_at hl 1 rfl) ?_
    refine tk_geti hC hK hw hT hinX12 kM_at0 (by decide) rfl 17 (by decide) (List.mem_of_getElem? (i := 2) rfl) rfl rfl dX12_clauseHere_11 (fun x381 c382 rx381 tx381 => ?_)
    refine wk_top f0_ (c382.symm.trans c24) ?_
    refine lv_bipush (v := 6) hx hb dX12_clauseHere_14 (by decide) ?_
    refine lv_icmp_ne (tgt := 23) hx hb dX12_clauseHere_16 (by decide) (fun _ => ?_) (fun c => absurd (show f0_.toInt = (6 : Int) from wk_eq.mp c) (by omega))
    refine lv_iconst (v := 0) hx hb dX12_clauseHere_23 (by decide) ?_
    refine lv_istore_n (lv' := [(2, .int 0), (1, .int x29), (0, .ref (ad 0))]) hx hb dX12_clauseHere_24 rfl hl (by decide) rfl (fun ls hl => ?_)
    refine lv_iload_n hx hb dX12_clauseHere_25 rfl (lv_at hl 0 rfl) ?_
    refine lv_if_eq (tgt := 77) hx hb dX12_clauseHere_26 (by decide) (fun _ => ?_) (fun c => absurd (by decide) c)
    refine lv_aload_n hx hb dX12_clauseHere_77 rfl (lv_at hl 2 rfl) ?_
    refine tk_Vi hC hK hw hT hA hE hSR kM_at0 (by decide) rfl (k_X12_doingSort_1 l adK adV dC dI cy ad B (by omega) (by omega) qr s1    w5 H.size hT ) (cwV 0 hC.2.2.2.2 gX12_clauseHere_X12_doingSort rfl rfl rfl (by decide +kernel) ⟨Nat.le_of_ble_eq_true rfl, Nat.le_of_ble_eq_true rfl⟩) rfl hl.1 rfl (Nat.le_of_ble_eq_true rfl) dX12_clauseHere_78 (fun r383 w385 H locs hp384 hw => ?_)
    obtain ⟨hT, k386, hg393⟩ := hp384
    have hF := hF.tr k386 (by decide)
    have c394 := k386.gi kM_at0 (by decide) c24
    have c395 := k386.gi kM_at0 (by decide) c25
    have c396 := k386.gi kM_at0 (by decide) c26
    have c397 := k386.gi kM_at3 rfl c27
    have c398 := k386.gi kM_at5 rfl c28
    have c399 := k386.gi kM_at0 (by decide) c21
    rcases hg393 with ⟨g387, g388, ⟨x389, c390, rx389, tx389⟩⟩ | ⟨rfl, ⟨x391, c392, rx391, tx391⟩⟩
    · have ex389 : x389.toInt = x20.toInt := by rw [← c399.symm.trans c390]
      refine lv_if_lt (tgt := 88) hx hb dX12_clauseHere_81 (by decide) (fun c => absurd c (fun h => absurd (show r383.toInt < (0 : Int) from wk_lt.mp h) (by omega))) (fun _ => ?_)
      refine lv_iconst (v := 1) hx hb dX12_clauseHere_84 (by decide) ?_
      refine lv_goto (tgt := 89) hx hb dX12_clauseHere_85 (by decide) ?_
      refine lv_istore_n (lv' := [(3, .int 1), (2, .int 0), (1, .int x29), (0, .ref (ad 0))]) hx hb dX12_clauseHere_89 rfl hl (by decide) rfl (fun ls hl => ?_)
      refine lv_iload_n hx hb dX12_clauseHere_90 rfl (lv_at hl 0 rfl) ?_
      refine lv_if_ne (tgt := 101) hx hb dX12_clauseHere_91 (by decide) (fun _ => ?_) (fun c => absurd c (by decide))
      refine lv_aload_n hx hb dX12_clauseHere_101 rfl (lv_at hl 3 rfl) ?_
      refine tk_geti hC hK hw hT hinX12 kM_at0 (by decide) rfl 20 (by decide) (List.mem_of_getElem? (i := 7) rfl) rfl rfl dX12_clauseHere_102 (fun x400 c401 rx400 tx400 => ?_)
      refine wk_top f2_ (c401.symm.trans c396) ?_
      refine lv_iload_n hx hb dX12_clauseHere_105 rfl (lv_at hl 1 rfl) ?_
      refine lv_if_eq (tgt := 114) hx hb dX12_clauseHere_106 (by decide) (fun _ => ?_) (fun c => absurd (by decide) c)
      refine lv_bipush (v := 12) hx hb dX12_clauseHere_114 (by decide) ?_
      refine lv_icmp_ne (tgt := 126) hx hb dX12_clauseHere_116 (by decide) (fun c402 => ?_) (fun c402 => ?_)
      · have c402 : ¬ f2_.toInt = (12 : Int) := wk_eqF c402
        refine lv_aload_n hx hb dX12_clauseHere_126 rfl (lv_at hl 3 rfl) ?_
        refine lv_dup hx hb dX12_clauseHere_127 rfl ?_
        refine tk_geti hC hK hw hT hinX12 kM_at0 (by decide) rfl 20 (by decide) (List.mem_of_getElem? (i := 7) rfl) rfl rfl dX12_clauseHere_128 (fun x403 c404 rx403 tx403 => ?_)
        refine wk_top f2_ (c404.symm.trans c396) ?_
        refine lv_iconst (v := 1) hx hb dX12_clauseHere_131 (by decide) ?_
        refine lv_iadd hx hb dX12_clauseHere_132 ?_
        refine lv_topi (fun x405 ex405 => ?_)
        have ex405 : x405.toInt = f2_.toInt + (1 : Int) := by rw [ex405]; exact wk_add (show (-2147483648) ≤ f2_.toInt + (1 : Int) by omega) (show f2_.toInt + (1 : Int) ≤ 2147483647 by omega)
        refine tk_puti hC hK hw hT hinX12 tyX12_ok nmX12 kM_at0 (by decide) rfl rfl 20 (by decide) (List.mem_of_getElem? (i := 7) rfl) rfl rfl rfl rfl (show 0 ≤ x405.toInt by omega) (show x405.toInt ≤ 32 by omega) dX12_clauseHere_133 (fun H locs w406 hw hT k408 c407 => ?_)
        have hF := hF.put kM_at0 (k := 20) (by decide) k408
        have c409 := k408.gi (Or.inr (by decide)) c394
        have c410 := k408.gi (Or.inr (by decide)) c395
        have c411 := k408.gi (Or.inl (tk_ne kM_at3 kM_at0 (by decide))) c397
        have c412 := k408.gi (Or.inl (tk_ne kM_at5 kM_at0 (by decide))) c398
        have c413 := k408.gi (Or.inr (by decide)) c399
        refine lv_iload_n hx hb dX12_clauseHere_136 rfl (lv_at hl 1 rfl) ?_
        refine lv_if_eq (tgt := 148) hx hb dX12_clauseHere_137 (by decide) (fun _ => ?_) (fun c => absurd (by decide) c)
        refine lv_aload_n hx hb dX12_clauseHere_148 rfl (lv_at hl 3 rfl) ?_
        refine lv_aload_n hx hb dX12_clauseHere_149 rfl (lv_at hl 3 rfl) ?_
        refine tk_Vi hC hK hw hT hA hE hSR kM_at0 (by decide) rfl (k_X12_doingSort_1 l adK adV dC dI cy ad B (by omega) (by omega) qr s1    w406 H.size hT ) (cwV 0 hC.2.2.2.2 gX12_clauseHere_X12_doingSort rfl rfl rfl (by decide +kernel) ⟨Nat.le_of_ble_eq_true rfl, Nat.le_of_ble_eq_true rfl⟩) rfl hl.1 rfl (Nat.le_of_ble_eq_true rfl) dX12_clauseHere_150 (fun r414 w416 H locs hp415 hw => ?_)
        obtain ⟨hT, k417, hg424⟩ := hp415
        have hF := hF.tr k417 (by decide)
        have c425 := k417.gi kM_at0 (by decide) c409
        have c426 := k417.gi kM_at0 (by decide) c410
        have c427 := k417.gi kM_at3 rfl c411
        have c428 := k417.gi kM_at5 rfl c412
        have c429 := k417.gi kM_at0 (by decide) c413
        have c430 := k417.gi kM_at0 (by decide) c407
        rcases hg424 with ⟨g418, g419, ⟨x420, c421, rx420, tx420⟩⟩ | ⟨rfl, ⟨x422, c423, rx422, tx422⟩⟩
        · have ex420 : x420.toInt = x20.toInt := by rw [← c429.symm.trans c421]
          refine tk_Vi hC hK hw hT hA hE hSR kM_at0 (by decide) rfl (k_X12_isDoingHere_2 l adK adV dC dI cy ad B (by omega) (by omega) qr s1   r414 (show 0 ≤ r414.toInt by omega) (show r414.toInt ≤ 3 by omega) w416 H.size hT f0_ c425 (show 0 ≤ f0_.toInt by omega) (show f0_.toInt ≤ 5 by omega) f1_ c426 (show 0 ≤ f1_.toInt by omega) (show f1_.toInt ≤ 60 by omega) f3_ c427 (show 0 ≤ f3_.toInt by omega) (show f3_.toInt ≤ 400 by omega) f4_ c428 (show 0 ≤ f4_.toInt by omega) (show f4_.toInt ≤ 12 by omega) (show 3 * f3_.toInt ≤ 14 * f1_.toInt by omega) (show f3_.toInt ≤ 280 by omega) (show f4_.toInt ≤ 11 by omega)) (cwV 1 hC.2.2.2.2 gX12_clauseHere_X12_isDoingHere rfl rfl rfl (by decide +kernel) ⟨Nat.le_of_ble_eq_true rfl, Nat.le_of_ble_eq_true rfl⟩) rfl hl.1 rfl (Nat.le_of_ble_eq_true rfl) dX12_clauseHere_153 (fun r431 w433 H locs hp432 hw => ?_)
          obtain ⟨hT, k434, hg457⟩ := hp432
          have hF := hF.tr k434 (by decide)
          have c458 := k434.gi kM_at0 (by decide) c425
          have c459 := k434.gi kM_at0 (by decide) c429
          have c460 := k434.gi kM_at0 (by decide) c430
          rcases hg457 with ⟨rfl, ⟨x435, c436, rx435, tx435⟩, ⟨x437, c438, rx437, tx437⟩, ⟨x439, c440, rx439, tx439⟩, ⟨x441, c442, rx441, tx441⟩⟩ | ⟨rfl, ⟨x443, c444, rx443, tx443⟩, ⟨x445, c446, rx445, tx445⟩, ⟨x447, c448, rx447, tx447⟩, ⟨x449, c450, rx449, tx449⟩⟩ | ⟨rfl, ⟨x451, c452, rx451, tx451⟩, ⟨x453, c454, rx453, tx453⟩, g455, g456⟩
          · have ex435 : x435.toInt = x20.toInt := by rw [← c459.symm.trans c436]
            have ex439 : x439.toInt = f0_.toInt := by rw [← c458.symm.trans c440]
            obtain ⟨x461, c462, rx461, tx461⟩ := hT.rda (lo := 0) (hi := 400) (i := (f0_.toInt).toNat) kM_at3 rfl rfl (by omega)
            obtain ⟨x463, c464, rx463, tx463⟩ := hT.rdi (lo := 0) (hi := 60) (k := 18) kM_at0 (by decide) rfl
            obtain ⟨x465, c466, rx465, tx465⟩ := hT.rda (lo := 0) (hi := 12) (i := (f0_.toInt).toNat) kM_at5 rfl rfl (by omega)
            exact tk_zret hC hr rfl hlocks hK ⟨hT, hF, (Or.inl ⟨rfl, ⟨x20, c459, (show 1 ≤ x20.toInt by omega), (show x20.toInt ≤ 400 by omega)⟩, ⟨x437, c438, (show 1 ≤ x437.toInt by omega), (show x437.toInt ≤ 3205 by omega)⟩, ⟨f0_, c458, (show 0 ≤ f0_.toInt by omega), (show f0_.toInt ≤ 5 by omega)⟩, ⟨x405, c460, (show 0 ≤ x405.toInt by omega), (show x405.toInt ≤ 12 by omega)⟩, (by simp only [c458, cf0_, cf2_, c460]; omega), (by simp only [c458, cf0_, c460]; omega)⟩)⟩ hw dX12_clauseHere_156
          · have ex443 : x443.toInt = x20.toInt := by rw [← c459.symm.trans c444]
            have ex447 : x447.toInt = f0_.toInt := by rw [← c458.symm.trans c448]
            obtain ⟨x467, c468, rx467, tx467⟩ := hT.rda (lo := 0) (hi := 400) (i := (f0_.toInt).toNat) kM_at3 rfl rfl (by omega)
            obtain ⟨x469, c470, rx469, tx469⟩ := hT.rdi (lo := 0) (hi := 60) (k := 18) kM_at0 (by decide) rfl
            obtain ⟨x471, c472, rx471, tx471⟩ := hT.rda (lo := 0) (hi := 12) (i := (f0_.toInt).toNat) kM_at5 rfl rfl (by omega)
            exact tk_zret hC hr rfl hlocks hK ⟨hT, hF, (Or.inr (Or.inl ⟨rfl, ⟨x20, c459, (show 0 ≤ x20.toInt by omega), (show x20.toInt ≤ 400 by omega)⟩, ⟨x445, c446, (show 1 ≤ x445.toInt by omega), (show x445.toInt ≤ 3205 by omega)⟩, ⟨f0_, c458, (show 0 ≤ f0_.toInt by omega), (show f0_.toInt ≤ 5 by omega)⟩, ⟨x405, c460, (show 0 ≤ x405.toInt by omega), (show x405.toInt ≤ 12 by omega)⟩, (by simp only [c458, cf0_, cf2_, c460]; omega), (by simp only [c458, cf0_, c460]; omega)⟩))⟩ hw dX12_clauseHere_156
          · have ex451 : x451.toInt = x20.toInt := by rw [← c459.symm.trans c452]
            have ex453 : x453.toInt = f0_.toInt := by rw [← c458.symm.trans c454]
            obtain ⟨x473, c474, rx473, tx473⟩ := hT.rda (lo := 0) (hi := 400) (i := (f0_.toInt).toNat) kM_at3 rfl rfl (by omega)
            obtain ⟨x475, c476, rx475, tx475⟩ := hT.rdi (lo := 0) (hi := 60) (k := 18) kM_at0 (by decide) rfl
            obtain ⟨x477, c478, rx477, tx477⟩ := hT.rda (lo := 0) (hi := 12) (i := (f0_.toInt).toNat) kM_at5 rfl rfl (by omega)
            have g455 : 3 * x473.toInt ≤ 14 * x475.toInt := by have q := g455; simp only [c425, c458, c474, c476] at q; omega
            have g456 : x477.toInt = f4_.toInt + 1 := by have q := g456; simp only [c425, c458, c428, c478] at q; omega
            exact tk_zret hC hr rfl hlocks hK ⟨hT, hF, (Or.inr (Or.inr (Or.inr ⟨rfl, ⟨x20, c459, (show 0 ≤ x20.toInt by omega), (show x20.toInt ≤ 400 by omega)⟩, ⟨f0_, c458, (show 0 ≤ f0_.toInt by omega), (show f0_.toInt ≤ 5 by omega)⟩, ⟨x405, c460, (show 1 ≤ x405.toInt by omega), (show x405.toInt ≤ 12 by omega)⟩, (by simp only [c458, cf0_, c474, c476]; omega), (by simp only [c458, cf0_, c478, c460]; omega), (by simp only [c458, cf0_, cf2_, c460]; omega), (by simp only [c458, cf0_, c460]; omega)⟩)))⟩ hw dX12_clauseHere_156
        · have ex422 : x422.toInt = x20.toInt := by rw [← c429.symm.trans c423]
          refine tk_Vi hC hK hw hT hA hE hSR kM_at0 (by decide) rfl (k_X12_isDoingHere_1 l adK adV dC dI cy ad B (by omega) (by omega) qr s1    w416 H.size hT f0_ c425 (show 0 ≤ f0_.toInt by omega) (show f0_.toInt ≤ 5 by omega) f1_ c426 (show 0 ≤ f1_.toInt by omega) (show f1_.toInt ≤ 60 by omega) f3_ c427 (show 0 ≤ f3_.toInt by omega) (show f3_.toInt ≤ 400 by omega) f4_ c428 (show 0 ≤ f4_.toInt by omega) (show f4_.toInt ≤ 12 by omega) (show 3 * f3_.toInt ≤ 14 * f1_.toInt by omega) (show f3_.toInt ≤ 280 by omega) (show f4_.toInt ≤ 11 by omega)) (cwV 1 hC.2.2.2.2 gX12_clauseHere_X12_isDoingHere rfl rfl rfl (by decide +kernel) ⟨Nat.le_of_ble_eq_true rfl, Nat.le_of_ble_eq_true rfl⟩) rfl hl.1 rfl (Nat.le_of_ble_eq_true rfl) dX12_clauseHere_153 (fun r479 w481 H locs hp480 hw => ?_)
          obtain ⟨hT, k482, hg505⟩ := hp480
          have hF := hF.tr k482 (by decide)
          have c506 := k482.gi kM_at0 (by decide) c425
          have c507 := k482.gi kM_at0 (by decide) c429
          have c508 := k482.gi kM_at0 (by decide) c430
          rcases hg505 with ⟨rfl, ⟨x483, c484, rx483, tx483⟩, ⟨x485, c486, rx485, tx485⟩, ⟨x487, c488, rx487, tx487⟩, ⟨x489, c490, rx489, tx489⟩⟩ | ⟨rfl, ⟨x491, c492, rx491, tx491⟩, ⟨x493, c494, rx493, tx493⟩, ⟨x495, c496, rx495, tx495⟩, ⟨x497, c498, rx497, tx497⟩⟩ | ⟨rfl, ⟨x499, c500, rx499, tx499⟩, ⟨x501, c502, rx501, tx501⟩, g503, g504⟩
          · have ex483 : x483.toInt = x20.toInt := by rw [← c507.symm.trans c484]
            have ex487 : x487.toInt = f0_.toInt := by rw [← c506.symm.trans c488]
            obtain ⟨x509, c510, rx509, tx509⟩ := hT.rda (lo := 0) (hi := 400) (i := (f0_.toInt).toNat) kM_at3 rfl rfl (by omega)
            obtain ⟨x511, c512, rx511, tx511⟩ := hT.rdi (lo := 0) (hi := 60) (k := 18) kM_at0 (by decide) rfl
            obtain ⟨x513, c514, rx513, tx513⟩ := hT.rda (lo := 0) (hi := 12) (i := (f0_.toInt).toNat) kM_at5 rfl rfl (by omega)
            exact tk_zret hC hr rfl hlocks hK ⟨hT, hF, (Or.inl ⟨rfl, ⟨x20, c507, (show 1 ≤ x20.toInt by omega), (show x20.toInt ≤ 400 by omega)⟩, ⟨x485, c486, (show 1 ≤ x485.toInt by omega), (show x485.toInt ≤ 3205 by omega)⟩, ⟨f0_, c506, (show 0 ≤ f0_.toInt by omega), (show f0_.toInt ≤ 5 by omega)⟩, ⟨x405, c508, (show 0 ≤ x405.toInt by omega), (show x405.toInt ≤ 12 by omega)⟩, (by simp only [c506, cf0_, cf2_, c508]; omega), (by simp only [c506, cf0_, c508]; omega)⟩)⟩ hw dX12_clauseHere_156
          · have ex491 : x491.toInt = x20.toInt := by rw [← c507.symm.trans c492]
            have ex495 : x495.toInt = f0_.toInt := by rw [← c506.symm.trans c496]
            obtain ⟨x515, c516, rx515, tx515⟩ := hT.rda (lo := 0) (hi := 400) (i := (f0_.toInt).toNat) kM_at3 rfl rfl (by omega)
            obtain ⟨x517, c518, rx517, tx517⟩ := hT.rdi (lo := 0) (hi := 60) (k := 18) kM_at0 (by decide) rfl
            obtain ⟨x519, c520, rx519, tx519⟩ := hT.rda (lo := 0) (hi := 12) (i := (f0_.toInt).toNat) kM_at5 rfl rfl (by omega)
            exact tk_zret hC hr rfl hlocks hK ⟨hT, hF, (Or.inr (Or.inl ⟨rfl, ⟨x20, c507, (show 0 ≤ x20.toInt by omega), (show x20.toInt ≤ 400 by omega)⟩, ⟨x493, c494, (show 1 ≤ x493.toInt by omega), (show x493.toInt ≤ 3205 by omega)⟩, ⟨f0_, c506, (show 0 ≤ f0_.toInt by omega), (show f0_.toInt ≤ 5 by omega)⟩, ⟨x405, c508, (show 0 ≤ x405.toInt by omega), (show x405.toInt ≤ 12 by omega)⟩, (by simp only [c506, cf0_, cf2_, c508]; omega), (by simp only [c506, cf0_, c508]; omega)⟩))⟩ hw dX12_clauseHere_156
          · have ex499 : x499.toInt = x20.toInt := by rw [← c507.symm.trans c500]
            have ex501 : x501.toInt = f0_.toInt := by rw [← c506.symm.trans c502]
            obtain ⟨x521, c522, rx521, tx521⟩ := hT.rda (lo := 0) (hi := 400) (i := (f0_.toInt).toNat) kM_at3 rfl rfl (by omega)
            obtain ⟨x523, c524, rx523, tx523⟩ := hT.rdi (lo := 0) (hi := 60) (k := 18) kM_at0 (by decide) rfl
            obtain ⟨x525, c526, rx525, tx525⟩ := hT.rda (lo := 0) (hi := 12) (i := (f0_.toInt).toNat) kM_at5 rfl rfl (by omega)
            have g503 : 3 * x521.toInt ≤ 14 * x523.toInt := by have q := g503; simp only [c425, c506, c522, c524] at q; omega
            have g504 : x525.toInt = f4_.toInt + 1 := by have q := g504; simp only [c425, c506, c428, c526] at q; omega
            exact tk_zret hC hr rfl hlocks hK ⟨hT, hF, (Or.inr (Or.inr (Or.inr ⟨rfl, ⟨x20, c507, (show 0 ≤ x20.toInt by omega), (show x20.toInt ≤ 400 by omega)⟩, ⟨f0_, c506, (show 0 ≤ f0_.toInt by omega), (show f0_.toInt ≤ 5 by omega)⟩, ⟨x405, c508, (show 1 ≤ x405.toInt by omega), (show x405.toInt ≤ 12 by omega)⟩, (by simp only [c506, cf0_, c522, c524]; omega), (by simp only [c506, cf0_, c526, c508]; omega), (by simp only [c506, cf0_, cf2_, c508]; omega), (by simp only [c506, cf0_, c508]; omega)⟩)))⟩ hw dX12_clauseHere_156
      · have c402 : f2_.toInt = (12 : Int) := wk_eq.mp c402
        refine lv_aload_n hx hb dX12_clauseHere_119 rfl (lv_at hl 3 rfl) ?_
        refine lv_iconst (v := 4) hx hb dX12_clauseHere_120 (by decide) ?_
        refine lv_iload_n hx hb dX12_clauseHere_121 rfl (lv_at hl 2 rfl) ?_
        refine tk_Vi hC hK hw hT hA hE hSR kM_at0 (by decide) rfl (k_X12_fails_1 l adK adV dC dI cy ad B (by omega) (by omega) qr s1   4 (by decide) (by decide) x29 (show 0 ≤ x29.toInt by omega) (show x29.toInt ≤ 400 by omega) w385 H.size hT ) (cwV 2 hC.2.2.2.2 gX12_clauseHere_X12_fails rfl rfl rfl (by decide +kernel) ⟨Nat.le_of_ble_eq_true rfl, Nat.le_of_ble_eq_true rfl⟩) rfl hl.1 rfl (Nat.le_of_ble_eq_true rfl) dX12_clauseHere_122 (fun r527 w529 H locs hp528 hw => ?_)
        obtain ⟨hT, k530, hg533⟩ := hp528
        have hF := hF.tr k530 (by decide)
        have c534 := k530.gi kM_at0 (by decide) c394
        have c535 := k530.gi kM_at0 (by decide) c395
        have c536 := k530.gi kM_at0 (by decide) c396
        have c537 := k530.gi kM_at3 rfl c397
        have c538 := k530.gi kM_at5 rfl c398
        have c539 := k530.gi kM_at0 (by decide) c399
        obtain ⟨rfl, ⟨x531, c532, rx531, tx531⟩⟩ := hg533
        exact tk_zret hC hr rfl hlocks hK ⟨hT, hF, (Or.inr (Or.inl ⟨rfl, ⟨x20, c539, (show 0 ≤ x20.toInt by omega), (show x20.toInt ≤ 400 by omega)⟩, ⟨x531, c532, (show 1 ≤ x531.toInt by omega), (show x531.toInt ≤ 3205 by omega)⟩, ⟨f0_, c534, (show 0 ≤ f0_.toInt by omega), (show f0_.toInt ≤ 5 by omega)⟩, ⟨f2_, c536, (show 0 ≤ f2_.toInt by omega), (show f2_.toInt ≤ 12 by omega)⟩, (by simp only [c534, cf0_, cf2_, c536]; omega), (by simp only [c534, cf0_, c536]; omega)⟩))⟩ hw dX12_clauseHere_125
    · have ex391 : x391.toInt = x20.toInt := by rw [← c399.symm.trans c392]
      refine lv_if_lt (tgt := 88) hx hb dX12_clauseHere_81 (by decide) (fun _ => ?_) (fun c => absurd (by decide) c)
      refine lv_iconst (v := 0) hx hb dX12_clauseHere_88 (by decide) ?_
      refine lv_istore_n (lv' := [(3, .int 0), (2, .int 0), (1, .int x29), (0, .ref (ad 0))]) hx hb dX12_clauseHere_89 rfl hl (by decide) rfl (fun ls hl => ?_)
      refine lv_iload_n hx hb dX12_clauseHere_90 rfl (lv_at hl 0 rfl) ?_
      refine lv_if_ne (tgt := 101) hx hb dX12_clauseHere_91 (by decide) (fun c => absurd (by decide) c) (fun _ => ?_)
      refine lv_aload_n hx hb dX12_clauseHere_94 rfl (lv_at hl 3 rfl) ?_
      refine lv_iconst (v := 0) hx hb dX12_clauseHere_95 (by decide) ?_
      refine lv_iload_n hx hb dX12_clauseHere_96 rfl (lv_at hl 2 rfl) ?_
      refine tk_Vi hC hK hw hT hA hE hSR kM_at0 (by decide) rfl (k_X12_fails_1 l adK adV dC dI cy ad B (by omega) (by omega) qr s1   0 (by decide) (by decide) x29 (show 0 ≤ x29.toInt by omega) (show x29.toInt ≤ 400 by omega) w385 H.size hT ) (cwV 2 hC.2.2.2.2 gX12_clauseHere_X12_fails rfl rfl rfl (by decide +kernel) ⟨Nat.le_of_ble_eq_true rfl, Nat.le_of_ble_eq_true rfl⟩) rfl hl.1 rfl (Nat.le_of_ble_eq_true rfl) dX12_clauseHere_97 (fun r540 w542 H locs hp541 hw => ?_)
      obtain ⟨hT, k543, hg546⟩ := hp541
      have hF := hF.tr k543 (by decide)
      have c547 := k543.gi kM_at0 (by decide) c394
      have c548 := k543.gi kM_at0 (by decide) c395
      have c549 := k543.gi kM_at0 (by decide) c396
      have c550 := k543.gi kM_at3 rfl c397
      have c551 := k543.gi kM_at5 rfl c398
      have c552 := k543.gi kM_at0 (by decide) c399
      obtain ⟨rfl, ⟨x544, c545, rx544, tx544⟩⟩ := hg546
      exact tk_zret hC hr rfl hlocks hK ⟨hT, hF, (Or.inr (Or.inl ⟨rfl, ⟨x20, c552, (show 0 ≤ x20.toInt by omega), (show x20.toInt ≤ 400 by omega)⟩, ⟨x544, c545, (show 1 ≤ x544.toInt by omega), (show x544.toInt ≤ 3205 by omega)⟩, ⟨f0_, c547, (show 0 ≤ f0_.toInt by omega), (show f0_.toInt ≤ 5 by omega)⟩, ⟨f2_, c549, (show 0 ≤ f2_.toInt by omega), (show f2_.toInt ≤ 12 by omega)⟩, (by simp only [c547, cf0_, cf2_, c549]; omega), (by simp only [c547, cf0_, c549]; omega)⟩))⟩ hw dX12_clauseHere_100
