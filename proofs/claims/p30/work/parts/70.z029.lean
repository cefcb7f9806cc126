abbrev Pz_X12_isWord_22 (ad : Nat → Nat) (cy : Nat → ClassId) (B : Int) (qr : Nat) (s1 : Int)  (w0 : va_W) : Int32 → va_W → Prop := fun r u => TW ksM ad cy B qr 12 u ∧ FE ksM [(12, 14, 14)] w0 u ∧ Ev (fun n => m_X12_isWord n 0 28530 (sI w0)) (r.toInt, sI u) ∧ ((r = 0 ∧ (∃ y : Int32, gi u 0 1 = y ∧ 0 ≤ y.toInt ∧ y.toInt ≤ 400) ∧ (((gi u 0 14).toInt = (gi w0 0 14).toInt ∨ (gi w0 1 ((gi w0 0 14).toInt).toNat).toInt = 32))) ∨ (r = 1 ∧ (∃ y : Int32, gi u 0 1 = y ∧ 0 ≤ y.toInt ∧ y.toInt ≤ 400) ∧ (((gi u 0 14).toInt = (gi w0 0 14).toInt ∨ (gi w0 1 ((gi w0 0 14).toInt).toNat).toInt = 32))))
set_option maxHeartbeats 4000000 in
set_option maxRecDepth 100000 in
theorem kz_X12_isWord_22 (l : Launch) (adK adV : Nat → Nat) (dC : Nat → ClassId) (dI : Nat → Nat → Nat) (cy : Nat → ClassId) (ad : Nat → Nat) (B : Int) (hB0 : 100000 ≤ B) (hB1 : B ≤ 1073741824) (qr : Nat) (s1 : Int)   (w0 : va_W) (sz : Nat) (hT : TW ksM ad cy B qr 12 w0) (f0_ : Int32) (cf0_ : gi w0 0 14 = f0_) (rf0_ : 0 ≤ f0_.toInt) (tf0_ : f0_.toInt ≤ 400) : Met l yX12_isWord (wu yX12_isWord cX12_isWord 6 (some .boolean)) ({ frames := 2, cells := 0, slots := 0, locals := 33 }) (va_Pc [.ref (ad 0), .long 28530] (wpreS adK adV dC dI cy sz w0)) (va_Qi (Pz_X12_isWord_22 ad cy B qr s1  w0) (fun u : va_W => wpost dC dI cy (va_A w0 sz) u) (va_A w0 sz)) 0 0 (va_A w0 sz) := by
  refine Met.ofW (cc := cX12_isWord) (maxL := 6) (ret := (some .boolean)) (by decide) rfl ?_
  intro p e s m args below meth c s₁ Bk hml hv
  obtain ⟨rfl, ⟨hsz, hP, hK, hD0⟩, hE, hSR⟩ := hv
  have hx := Bk.exec
  have hb := Bk.bytes
  have hr := Bk.returns
  have hlocks := Bk.notSynchronized
  have hC : CallFix p m c cX12_isWord 6 s _ (wu yX12_isWord cX12_isWord 6 (some .boolean)) RX12 := ⟨hx, hb, hml, findClass_of_methodNamed Bk.named, atoms_spec (ws := (wu yX12_isWord cX12_isWord 6 (some .boolean))) Bk.pre⟩
  subst hsz
  have hD := hD0.self (sz := s.heap.size)
  generalize hAe : va_A w0 s.heap.size = A at hD hE ⊢
  have hA : ∀ q : Nat, s.heap.size ≤ q → A q := fun q h => by rw [← hAe]; exact Or.inr h
  have hw : Wd dC dI A s.heap s.heap [] w0 := ⟨hP, hD, va_S.rf⟩
  have hF : FE ksM [(12, 14, 14)] w0 w0 := FE.rf
  have hl := lv_entry ([.ref (ad 0), .long 28530]) (n := 6) (Nat.le_of_ble_eq_true rfl)
  rw [lg_entry_eq]
  generalize (lg_sl ([.ref (ad 0), .long 28530]) ++ List.replicate (6 - (lg_sl ([.ref (ad 0), .long 28530])).length) Slot.unset).toArray = ls at hl ⊢
  have hl : lv_has ls 6 [(0, .ref (ad 0)), (1, .long 28530)] := hl
  generalize hloc : ([] : List Loc) = locs at hw ⊢
  have hinX12 : ∀ w ∈ u_ws RX12 TX12 42, w ∈ (wu yX12_isWord cX12_isWord 6 (some .boolean)) := fun _ h => List.mem_cons_of_mem _ (up_71 h)
  have J78 : ∀ (v78_3 : Int64) (v78_5 : Int32) (f78_0_1 : Int32) (f78_0_14 : Int32) (H : Heap) (locs : List Loc) (ls : Array Slot) (w1 : va_W), 0 ≤ v78_5.toInt → v78_5.toInt ≤ 400 → 0 ≤ f78_0_1.toInt → f78_0_1.toInt ≤ 400 → 0 ≤ f78_0_14.toInt → f78_0_14.toInt ≤ 400 → ((f78_0_14.toInt = f0_.toInt ∨ (gi w0 1 (f0_.toInt).toNat).toInt = 32)) → Wd dC dI A s.heap H locs w1 → TW ksM ad cy B qr 12 w1 → FE ksM [(12, 14, 14)] w0 w1 → gi w1 0 1 = f78_0_1 → gi w1 0 14 = f78_0_14 → TT (fun n => m_X12_isWord n 0 28530 (sI w0)) (fun n => b_X12_isWord_78 (j_X12_isWord 0 n) n 0 (sI w1)) → lv_has ls 6 [(0, .ref (ad 0)), (1, .long 28530), (3, .long v78_3), (5, .int v78_5)] → W p l e ({ frames := 2, cells := 0, slots := 0, locals := 33 }) s m (List.toArray [.ref (ad 0), .long 28530]) below meth c H locs 0 0 (MQ below (va_Qi (Pz_X12_isWord_22 ad cy B qr s1  w0) (fun u : va_W => wpost dC dI cy A u) A) (List.toArray [.ref (ad 0), .long 28530]) s 0 0 A) (F0 m 78 ls []) := by
    intro v78_3 v78_5 f78_0_1 f78_0_14 H locs ls w1 r2 t3 r4 t5 r7 t8 hcr78_0 hw hT hF c6 c9 hM hl
    refine lv_iconst (v := 0) hx hb dX12_isWord_78 (by decide) ?_
    exact tk_zret hC hr rfl hlocks hK ⟨hT, hF, hM.ret (by decide), (Or.inl ⟨rfl, ⟨f78_0_1, c6, (show 0 ≤ f78_0_1.toInt from r4), (show f78_0_1.toInt ≤ 400 from t5)⟩, (by simp only [cf0_, c9]; omega)⟩)⟩ hw dX12_isWord_79
  have L10 : ∀ (n10 : Nat) (v10_3 : Int64) (v10_5 : Int32) (f10_0_1 : Int32) (f10_0_14 : Int32) (H : Heap) (locs : List Loc) (ls : Array Slot) (w10 : va_W), 0 ≤ v10_5.toInt → v10_5.toInt ≤ 400 → 0 ≤ f10_0_1.toInt → f10_0_1.toInt ≤ 400 → 0 ≤ f10_0_14.toInt → f10_0_14.toInt ≤ 400 → ((f10_0_14.toInt = f0_.toInt ∨ (gi w0 1 (f0_.toInt).toNat).toInt = 32)) → (400 - v10_5.toInt).toNat < n10 → Wd dC dI A s.heap H locs w10 → TW ksM ad cy B qr 12 w10 → FE ksM [(12, 14, 14)] w0 w10 → gi w10 0 1 = f10_0_1 → gi w10 0 14 = f10_0_14 → TT (fun n => m_X12_isWord n 0 28530 (sI w0)) (fun n => j_X12_isWord 0 n 10 [(28530 : Int), v10_3.toInt, v10_5.toInt] (sI w10)) → lv_has ls 6 [(0, .ref (ad 0)), (1, .long 28530), (3, .long v10_3), (5, .int v10_5)] → W p l e ({ frames := 2, cells := 0, slots := 0, locals := 33 }) s m (List.toArray [.ref (ad 0), .long 28530]) below meth c H locs 0 0 (MQ below (va_Qi (Pz_X12_isWord_22 ad cy B qr s1  w0) (fun u : va_W => wpost dC dI cy A u) A) (List.toArray [.ref (ad 0), .long 28530]) s 0 0 A) (F0 m 10 ls []) := by
    intro n10
    induction n10 with
    | zero => intro v10_3 v10_5 f10_0_1 f10_0_14 H locs ls w10 r11 t12 r13 t14 r16 t17 hcr10_0 hm10 hw hT hF c15 c18 hM hl; omega
    | succ n10 ih10 =>
      intro v10_3 v10_5 f10_0_1 f10_0_14 H locs ls w10 r11 t12 r13 t14 r16 t17 hcr10_0 hm10 hw hT hF c15 c18 hM hl
      have J50 : ∀ (v50_3 : Int64) (H : Heap) (locs : List Loc) (ls : Array Slot) (w19 : va_W), 0 ≤ v10_5.toInt → v10_5.toInt ≤ 399 → 1 ≤ f10_0_1.toInt → f10_0_1.toInt ≤ 400 → 0 ≤ f10_0_14.toInt → f10_0_14.toInt ≤ 399 → ((f10_0_14.toInt = f0_.toInt ∨ (gi w0 1 (f0_.toInt).toNat).toInt = 32)) → Wd dC dI A s.heap H locs w19 → TW ksM ad cy B qr 12 w19 → FE ksM [(12, 14, 14)] w0 w19 → gi w19 0 1 = f10_0_1 → gi w19 0 14 = f10_0_14 → TT (fun n => m_X12_isWord n 0 28530 (sI w0)) (fun n => b_X12_isWord_50 (j_X12_isWord 0 n) n 0 (28530 : Int) (v50_3.toInt) (v10_5.toInt) (sI w19)) → lv_has ls 6 [(0, .ref (ad 0)), (1, .long 28530), (3, .long v50_3), (5, .int v10_5)] → W p l e ({ frames := 2, cells := 0, slots := 0, locals := 33 }) s m (List.toArray [.ref (ad 0), .long 28530]) below meth c H locs 0 0 (MQ below (va_Qi (Pz_X12_isWord_22 ad cy B qr s1  w0) (fun u : va_W => wpost dC dI cy A u) A) (List.toArray [.ref (ad 0), .long 28530]) s 0 0 A) (F0 m 50 ls []) := by
        intro v50_3 H locs ls w19 r20 t21 r22 t23 r25 t26 hcr50_0 hw hT hF c24 c27 hM hl
        obtain ⟨x28, ex28⟩ : ∃ y : Int32, y = v10_5 + Int32.ofInt 1 := ⟨_, rfl⟩
        have erx28 := ex28
        refine lv_iinc (v := x28) (lv' := [(5, .int x28), (0, .ref (ad 0)), (1, .long 28530), (3, .long v50_3)]) hx hb dX12_isWord_50 hl (k := 3) rfl ex28.symm (by decide) rfl (fun ls hl => ?_)
        have ex28 : x28.toInt = v10_5.toInt + 1 := by rw [ex28]; exact wk_add (y := 1) (show -2147483648 ≤ v10_5.toInt + 1 by omega) (show v10_5.toInt + 1 ≤ 2147483647 by omega)
        replace hM := hM.lt ex28.symm
        refine lv_goto (tgt := 10) hx hb dX12_isWord_53 (by decide) ?_
        exact ih10 v50_3 x28 f10_0_1 f10_0_14 H locs ls w19 (show 0 ≤ x28.toInt by first | with_reducible assumption | omega) (show x28.toInt ≤ 400 by first | with_reducible assumption | omega) (show 0 ≤ f10_0_1.toInt from r13) (show f10_0_1.toInt ≤ 400 from t23) (show 0 ≤ f10_0_14.toInt from r25) (show f10_0_14.toInt ≤ 400 from t17) (show (f10_0_14.toInt = f0_.toInt ∨ (gi w0 1 (f0_.toInt).toNat).toInt = 32) by first | omega | assumption | (left; omega) | (left; decide) | (right; assumption)) (show (400 - x28.toInt).toNat < n10 by first | exact tn_lt hm10 (by omega) (by omega) | omega) hw hT hF c24 c27 hM (lv_sub hl [1, 2, 3, 0] rfl)
      replace hM := hM.suc (fun _ => e_X12_isWord_10)
      refine lv_aload_n hx hb dX12_isWord_10 rfl (lv_at hl 0 rfl) ?_
      refine lv_aload_n hx hb dX12_isWord_11 rfl (lv_at hl 0 rfl) ?_
      refine tk_geti hC hK hw hT hinX12 kM_at0 (by decide) rfl 14 (by decide) (List.mem_cons_of_mem _ uw_19_18) rfl rfl dX12_isWord_12 (fun x29 c30 rx29 tx29 => ?_)
      refine wk_top f10_0_14 (c30.symm.trans c18) ?_
      replace hM := hM.rd (sI_at c18)
      refine lv_iload hx hb dX12_isWord_15 (lv_at hl 3 rfl) ?_
      refine lv_iadd hx hb dX12_isWord_17 ?_
      refine lv_topi (fun x31 ex31 => ?_)
      have ezx31 := ex31
      have ex31 : x31.toInt = f10_0_14.toInt + v10_5.toInt := by rw [ex31]; exact wk_add (show (-2147483648) ≤ f10_0_14.toInt + v10_5.toInt by omega) (show f10_0_14.toInt + v10_5.toInt ≤ 2147483647 by omega)
      replace hM := hM.lt ex31.symm
      refine tk_Vi hC hK hw hT hA hE hSR kM_at0 (by decide) rfl (kz_X12_isLetter_1 l adK adV dC dI cy ad B hB0 (Int.le_trans hB1 (by decide)) qr s1   x31 (show 0 ≤ x31.toInt by first | with_reducible assumption | omega) (show x31.toInt ≤ 800 by first | with_reducible assumption | omega) w10 H.size hT ) (cwV 1 hC.2.2.2.2 uV_RX12_101 rfl rfl rfl (by decide +kernel) ⟨Nat.le_of_ble_eq_true rfl, Nat.le_of_ble_eq_true rfl⟩) rfl hl.1 rfl (Nat.le_of_ble_eq_true rfl) dX12_isWord_18 (fun r32 w34 H locs hp33 hw => ?_)
      obtain ⟨rfl, hv42, hg41⟩ := hp33
      rcases hg41 with ⟨rfl, ⟨x36, c37, rx36, tx36⟩⟩ | ⟨rfl, g38, ⟨x39, c40, rx39, tx39⟩⟩
      · replace hM := hM.call (r' := 0) hv42 (by decide)
        have ex36 : x36.toInt = f10_0_1.toInt := by rw [← c15.symm.trans c37]
        refine lv_if_eq (tgt := 56) hx hb dX12_isWord_21 (by decide) (fun _ => ?_) (fun c => absurd (by decide) c)
        replace hM := hM.pos (by decide)
        refine lv_iload hx hb dX12_isWord_56 (lv_at hl 3 rfl) ?_
        refine lv_if_le (tgt := 78) hx hb dX12_isWord_58 (by decide) (fun c43 => ?_) (fun c43 => ?_)
        · have c43 : v10_5.toInt ≤ (0 : Int) := wk_le.mp c43
          replace hM := hM.pos c43
          exact J78 v10_3 v10_5 f10_0_1 f10_0_14 H locs ls w10 (show 0 ≤ v10_5.toInt from r11) (show v10_5.toInt ≤ 400 from t12) (show 0 ≤ f10_0_1.toInt from r13) (show f10_0_1.toInt ≤ 400 from t14) (show 0 ≤ f10_0_14.toInt from r16) (show f10_0_14.toInt ≤ 400 from t17) (show (f10_0_14.toInt = f0_.toInt ∨ (gi w0 1 (f0_.toInt).toNat).toInt = 32) by first | omega | assumption | (left; omega) | (left; decide) | (right; assumption))  hw hT hF c15 c18 hM (lv_sub hl [0, 1, 2, 3] rfl)
        · have c43 : (0 : Int) < v10_5.toInt := wk_leF c43
          replace hM := hM.neg (Int.not_le.mpr c43)
          refine lv_iload hx hb dX12_isWord_61 (lv_at hl 3 rfl) ?_
          refine lv_bipush (v := 8) hx hb dX12_isWord_63 (by decide) ?_
          refine lv_icmp_ge (tgt := 78) hx hb dX12_isWord_65 (by decide) (fun c44 => ?_) (fun c44 => ?_)
          · have c44 : (8 : Int) ≤ v10_5.toInt := wk_le.mp c44
            replace hM := hM.pos c44
            exact J78 v10_3 v10_5 f10_0_1 f10_0_14 H locs ls w10 (show 0 ≤ v10_5.toInt from r11) (show v10_5.toInt ≤ 400 from t12) (show 0 ≤ f10_0_1.toInt from r13) (show f10_0_1.toInt ≤ 400 from t14) (show 0 ≤ f10_0_14.toInt from r16) (show f10_0_14.toInt ≤ 400 from t17) (show (f10_0_14.toInt = f0_.toInt ∨ (gi w0 1 (f0_.toInt).toNat).toInt = 32) by first | omega | assumption | (left; omega) | (left; decide) | (right; assumption))  hw hT hF c15 c18 hM (lv_sub hl [0, 1, 2, 3] rfl)
          · have c44 : v10_5.toInt < (8 : Int) := wk_leF c44
            replace hM := hM.neg (Int.not_le.mpr c44)
            refine lv_lload_n hx hb dX12_isWord_68 rfl (lv_at hl 2 rfl) ?_
            refine lv_lload_n hx hb dX12_isWord_69 rfl (lv_at hl 1 rfl) ?_
            refine W.lcmp hx hb dX12_isWord_70 ?_
            refine lv_if_ne (tgt := 78) hx hb dX12_isWord_71 (by decide) (fun c45 => ?_) (fun c45 => ?_)
            · have c45 : ¬ v10_3.toInt = (28530 : Int) := wk_ceF c45
              replace hM := hM.pos c45
              exact J78 v10_3 v10_5 f10_0_1 f10_0_14 H locs ls w10 (show 0 ≤ v10_5.toInt from r11) (show v10_5.toInt ≤ 400 from t12) (show 0 ≤ f10_0_1.toInt from r13) (show f10_0_1.toInt ≤ 400 from t14) (show 0 ≤ f10_0_14.toInt from r16) (show f10_0_14.toInt ≤ 400 from t17) (show (f10_0_14.toInt = f0_.toInt ∨ (gi w0 1 (f0_.toInt).toNat).toInt = 32) by first | omega | assumption | (left; omega) | (left; decide) | (right; assumption))  hw hT hF c15 c18 hM (lv_sub hl [0, 1, 2, 3] rfl)
            · have c45 : v10_3.toInt = (28530 : Int) := wk_ceT c45
              replace hM := hM.neg (fun q => q c45)
              refine lv_iconst (v := 1) hx hb dX12_isWord_74 (by decide) ?_
              refine lv_goto (tgt := 79) hx hb dX12_isWord_75 (by decide) ?_
              exact tk_zret hC hr rfl hlocks hK ⟨hT, hF, hM.ret (by decide), (Or.inr ⟨rfl, ⟨f10_0_1, c15, (show 0 ≤ f10_0_1.toInt from r13), (show f10_0_1.toInt ≤ 400 from t14)⟩, (by simp only [cf0_, c18]; omega)⟩)⟩ hw dX12_isWord_79
      · replace hM := hM.call (r' := 1) hv42 (by decide)
        have ex39 : x39.toInt = f10_0_1.toInt := by rw [← c15.symm.trans c40]
        refine lv_if_eq (tgt := 56) hx hb dX12_isWord_21 (by decide) (fun c => absurd c (by decide)) (fun _ => ?_)
        replace hM := hM.neg (by decide)
        refine lv_iload hx hb dX12_isWord_24 (lv_at hl 3 rfl) ?_
        refine lv_bipush (v := 8) hx hb dX12_isWord_26 (by decide) ?_
        refine lv_icmp_ge (tgt := 50) hx hb dX12_isWord_28 (by decide) (fun c46 => ?_) (fun c46 => ?_)
        · have c46 : (8 : Int) ≤ v10_5.toInt := wk_le.mp c46
          replace hM := hM.pos c46
          exact J50 v10_3 H locs ls w10 (show 0 ≤ v10_5.toInt from r11) (show v10_5.toInt ≤ 399 by first | with_reducible assumption | omega) (show 1 ≤ f10_0_1.toInt by first | with_reducible assumption | omega) (show f10_0_1.toInt ≤ 400 from t14) (show 0 ≤ f10_0_14.toInt from r16) (show f10_0_14.toInt ≤ 399 by first | with_reducible assumption | omega) (show (f10_0_14.toInt = f0_.toInt ∨ (gi w0 1 (f0_.toInt).toNat).toInt = 32) by first | omega | assumption | (left; omega) | (left; decide) | (right; assumption))  hw hT hF c15 c18 hM (lv_sub hl [0, 1, 2, 3] rfl)
        · have c46 : v10_5.toInt < (8 : Int) := wk_leF c46
          replace hM := hM.neg (Int.not_le.mpr c46)
          refine lv_lload_n hx hb dX12_isWord_31 rfl (lv_at hl 2 rfl) ?_
          refine lv_bipush (v := 8) hx hb dX12_isWord_32 (by decide) ?_
          refine lv_lshl hx hb dX12_isWord_34 rfl ?_
          refine lv_topl (fun x47 ex47 => ?_)
          replace hM := hM.lt (mShlL_e ex47 rfl (by decide))
          refine lv_aload_n hx hb dX12_isWord_35 rfl (lv_at hl 0 rfl) ?_
          refine tk_getA hC hK hw hT hinX12 kM_at0 (by decide) rfl 0 (by decide) (List.mem_cons_of_mem _ uw_6_14) rfl rfl dX12_isWord_36 ?_
          refine lv_aload_n hx hb dX12_isWord_39 rfl (lv_at hl 0 rfl) ?_
          refine tk_geti hC hK hw hT hinX12 kM_at0 (by decide) rfl 14 (by decide) (List.mem_cons_of_mem _ uw_19_18) rfl rfl dX12_isWord_40 (fun x48 c49 rx48 tx48 => ?_)
          refine wk_top f10_0_14 (c49.symm.trans c18) ?_
          replace hM := hM.rd (sI_at c18)
          refine lv_iload hx hb dX12_isWord_43 (lv_at hl 3 rfl) ?_
          refine lv_iadd hx hb dX12_isWord_45 ?_
          refine lv_topi (fun x50 ex50 => ?_)
          have ezx50 := ex50
          have ex50 : x50.toInt = f10_0_14.toInt + v10_5.toInt := by rw [ex50]; exact wk_add (show (-2147483648) ≤ f10_0_14.toInt + v10_5.toInt by omega) (show f10_0_14.toInt + v10_5.toInt ≤ 2147483647 by omega)
          replace hM := hM.lt ex50.symm
          refine tk_bald hC hK hw hT kM_at1 rfl rfl (show 0 ≤ x50.toInt by first | with_reducible assumption | omega) (show x50.toInt < 400 by first | with_reducible assumption | omega) dX12_isWord_46 (fun x51 c52 rx51 tx51 => ?_)
          have hox51 := c52
          replace hM := hM.rd (sI_at hox51)
          have c52 : gi w10 1 (1 * f10_0_14.toInt + 1 * v10_5.toInt + 0).toNat = x51 := (congrArg (gi w10 1) (congrArg Int.toNat (show 1 * f10_0_14.toInt + 1 * v10_5.toInt + 0 = x50.toInt by first | exact Int.le_antisymm (by omega) (by omega) | omega))).trans c52
          refine lv_i2l hx hb dX12_isWord_47 rfl ?_
          refine lv_topl (fun x53 ex53 => ?_)
          have ex53 : x53.toInt = x51.toInt := by rw [ex53]; exact wk_i2l _
          have bx53 := wk_i32 x51
          replace hM := hM.lt ex53.symm
          refine lv_lor hx hb dX12_isWord_48 ?_
          refine lv_topl (fun x54 ex54 => ?_)
          have ezx54 := ex54
          replace hM := hM.lt (o64_e (f := fun x y => x ||| y) ezx54 rfl rfl)
          refine lv_lstore_n (lv' := [(3, .long x54), (0, .ref (ad 0)), (1, .long 28530), (5, .int v10_5)]) hx hb dX12_isWord_49 rfl hl (by decide) rfl (fun ls hl => ?_)
          exact J50 x54 H locs ls w10 (show 0 ≤ v10_5.toInt from r11) (show v10_5.toInt ≤ 399 by first | with_reducible assumption | omega) (show 1 ≤ f10_0_1.toInt by first | with_reducible assumption | omega) (show f10_0_1.toInt ≤ 400 from t14) (show 0 ≤ f10_0_14.toInt from r16) (show f10_0_14.toInt ≤ 399 by first | with_reducible assumption | omega) (show (f10_0_14.toInt = f0_.toInt ∨ (gi w0 1 (f0_.toInt).toNat).toInt = 32) by first | omega | assumption | (left; omega) | (left; decide) | (right; assumption) | (right; rw [c52]; omega) | (right; rw [c52]; decide))  hw hT hF c15 c18 hM (lv_sub hl [1, 2, 0, 3] rfl)
  have hM : TT (fun n => m_X12_isWord n 0 28530 (sI w0)) (fun n => m_X12_isWord n 0 28530 (sI w0)) := TT.rf
  refine lv_aload_n hx hb dX12_isWord_0 rfl (lv_at hl 0 rfl) ?_
  refine tk_Vi hC hK hw hT hA hE hSR kM_at0 (by decide) rfl (kz_X12_see_1 l adK adV dC dI cy ad B hB0 (Int.le_trans hB1 (by decide)) qr s1    w0 s.heap.size hT f0_ cf0_ (show 0 ≤ f0_.toInt from rf0_) (show f0_.toInt ≤ 400 from tf0_)) (cwV 0 hC.2.2.2.2 uV_RX12_97 rfl rfl rfl (by decide +kernel) ⟨Nat.le_of_ble_eq_true rfl, Nat.le_of_ble_eq_true rfl⟩) rfl hl.1 rfl (Nat.le_of_ble_eq_true rfl) dX12_isWord_1 (fun r55 w57 H locs hp56 hw => ?_)
  obtain ⟨hT, k58, hv76, hg75⟩ := hp56
  have hF := hF.tr k58 (by decide)
  rcases hg75 with ⟨g59, g60, ⟨x61, c62, rx61, tx61⟩, ⟨x63, c64, rx63, tx63⟩, g65, g66⟩ | ⟨rfl, ⟨x67, c68, rx67, tx67⟩, ⟨x69, c70, rx69, tx69⟩, g71⟩ | ⟨rfl, ⟨x72, c73, rx72, tx72⟩, g74⟩
  · replace hM := hM.call hv76 rfl
    have g65 : (gi w57 1 (x63.toInt).toNat).toInt ≠ 32 := by have q := g65; simp only [c64] at q; first | with_reducible exact q | omega
    have g66 : (x63.toInt = f0_.toInt ∨ (gi w0 1 (f0_.toInt).toNat).toInt = 32) := by have q := g66; simp only [cf0_, c64] at q; first | with_reducible exact q | omega
    refine lv_pop hx hb dX12_isWord_4 rfl ?_
    refine lv_lconst (v := 0) hx hb dX12_isWord_5 (by decide) ?_
    refine lv_lstore_n (lv' := [(3, .long 0), (0, .ref (ad 0)), (1, .long 28530)]) hx hb dX12_isWord_6 rfl hl (by decide) rfl (fun ls hl => ?_)
    refine lv_iconst (v := 0) hx hb dX12_isWord_7 (by decide) ?_
    refine lv_istore (lv' := [(5, .int 0), (3, .long 0), (0, .ref (ad 0)), (1, .long 28530)]) hx hb dX12_isWord_8 hl (by decide) rfl (fun ls hl => ?_)
    exact L10 ((400 - (0 : Int)).toNat + 1) 0 0 x61 x63 H locs ls w57 (by decide) (by decide) (show 0 ≤ x61.toInt by first | with_reducible assumption | omega) (show x61.toInt ≤ 400 by first | with_reducible assumption | omega) (show 0 ≤ x63.toInt by first | with_reducible assumption | omega) (show x63.toInt ≤ 400 by first | with_reducible assumption | omega) (show (x63.toInt = f0_.toInt ∨ (gi w0 1 (f0_.toInt).toNat).toInt = 32) by first | omega | assumption | (left; omega) | (left; decide) | (right; assumption)) (Nat.lt_succ_self _) hw hT hF c62 c64 hM (lv_sub hl [2, 3, 1, 0] rfl)
  · replace hM := hM.call (r' := (-1)) hv76 (by decide)
    have g71 : (x69.toInt = f0_.toInt ∨ (gi w0 1 (f0_.toInt).toNat).toInt = 32) := by have q := g71; simp only [cf0_, c70] at q; first | with_reducible exact q | omega
    refine lv_pop hx hb dX12_isWord_4 rfl ?_
    refine lv_lconst (v := 0) hx hb dX12_isWord_5 (by decide) ?_
    refine lv_lstore_n (lv' := [(3, .long 0), (0, .ref (ad 0)), (1, .long 28530)]) hx hb dX12_isWord_6 rfl hl (by decide) rfl (fun ls hl => ?_)
    refine lv_iconst (v := 0) hx hb dX12_isWord_7 (by decide) ?_
    refine lv_istore (lv' := [(5, .int 0), (3, .long 0), (0, .ref (ad 0)), (1, .long 28530)]) hx hb dX12_isWord_8 hl (by decide) rfl (fun ls hl => ?_)
    exact L10 ((400 - (0 : Int)).toNat + 1) 0 0 x67 x69 H locs ls w57 (by decide) (by decide) (show 0 ≤ x67.toInt by first | with_reducible assumption | omega) (show x67.toInt ≤ 400 by first | with_reducible assumption | omega) (show 0 ≤ x69.toInt by first | with_reducible assumption | omega) (show x69.toInt ≤ 400 by first | with_reducible assumption | omega) (show (x69.toInt = f0_.toInt ∨ (gi w0 1 (f0_.toInt).toNat).toInt = 32) by first | omega | assumption | (left; omega) | (left; decide) | (right; assumption)) (Nat.lt_succ_self _) hw hT hF c68 c70 hM (lv_sub hl [2, 3, 1, 0] rfl)
  · replace hM := hM.call (r' := (-1)) hv76 (by decide)
    obtain ⟨x77, c78, rx77, tx77⟩ := hT.rdi (lo := 0) (hi := 400) (k := 14) kM_at0 (by decide) rfl
    have g74 : (x77.toInt = f0_.toInt ∨ (gi w0 1 (f0_.toInt).toNat).toInt = 32) := by have q := g74; simp only [cf0_, c78] at q; first | with_reducible exact q | omega
    refine lv_pop hx hb dX12_isWord_4 rfl ?_
    refine lv_lconst (v := 0) hx hb dX12_isWord_5 (by decide) ?_
    refine lv_lstore_n (lv' := [(3, .long 0), (0, .ref (ad 0)), (1, .long 28530)]) hx hb dX12_isWord_6 rfl hl (by decide) rfl (fun ls hl => ?_)
    refine lv_iconst (v := 0) hx hb dX12_isWord_7 (by decide) ?_
    refine lv_istore (lv' := [(5, .int 0), (3, .long 0), (0, .ref (ad 0)), (1, .long 28530)]) hx hb dX12_isWord_8 hl (by decide) rfl (fun ls hl => ?_)
    exact L10 ((400 - (0 : Int)).toNat + 1) 0 0 x72 x77 H locs ls w57 (by decide) (by decide) (show 0 ≤ x72.toInt by first | with_reducible assumption | omega) (show x72.toInt ≤ 400 by first | with_reducible assumption | omega) (show 0 ≤ x77.toInt by first | with_reducible assumption | omega) (show x77.toInt ≤ 400 by first | with_reducible assumption | omega) (show (x77.toInt = f0_.toInt ∨ (gi w0 1 (f0_.toInt).toNat).toInt = 32) by first | omega | assumption | (left; omega) | (left; decide) | (right; assumption)) (Nat.lt_succ_self _) hw hT hF c73 c78 hM (lv_sub hl [2, 3, 1, 0] rfl)
abbrev Pz_X12_tested_1 (ad : Nat → Nat) (cy : Nat → ClassId) (B : Int) (qr : Nat) (s1 : Int)  (gT gb gd : Int) (w0 : va_W) : Int32 → va_W → Prop := fun r u => TW ksM ad cy B qr 12 u ∧ FE ksM [(12, 14, 14), (12, 15, 15), (12, 16, 16), (12, 18, 18), (12, 19, 19), (12, 22, 22), (61, 0, 2400), (62, 0, 7), (68, 0, 400)] w0 u ∧ Ev (fun n => m_X12_tested n 0 (sI w0)) (r.toInt, sI u) ∧ ((r = 0 ∧ (∃ y : Int32, gi u 0 1 = y ∧ 1 ≤ y.toInt ∧ y.toInt ≤ 400) ∧ (∃ y : Int32, gi u 0 15 = y ∧ 1 ≤ y.toInt ∧ y.toInt ≤ 3205) ∧ (∃ y : Int32, gi u 0 17 = y ∧ 0 ≤ y.toInt ∧ y.toInt ≤ 5) ∧ (∃ y : Int32, gi u 0 22 = y ∧ 0 ≤ y.toInt ∧ y.toInt ≤ 399) ∧ RLc u gT) ∨ (r = 0 ∧ (∃ y : Int32, gi u 0 1 = y ∧ 0 ≤ y.toInt ∧ y.toInt ≤ 400) ∧ (∃ y : Int32, gi u 0 15 = y ∧ 1 ≤ y.toInt ∧ y.toInt ≤ 3205) ∧ (∃ y : Int32, gi u 0 17 = y ∧ 0 ≤ y.toInt ∧ y.toInt ≤ 5) ∧ (∃ y : Int32, gi u 0 22 = y ∧ 0 ≤ y.toInt ∧ y.toInt ≤ 399) ∧ RLc u gT) ∨ (r = 1 ∧ (∃ y : Int32, gi u 0 17 = y ∧ 0 ≤ y.toInt ∧ y.toInt ≤ 5) ∧ (∃ y : Int32, gi u 0 19 = y ∧ (-60) ≤ y.toInt ∧ y.toInt ≤ 10) ∧ (∃ y : Int32, gi u 0 22 = y ∧ 0 ≤ y.toInt ∧ y.toInt ≤ 390) ∧ OKW u gT gb (1) ∧ (3 * (gi u 3 ((gi u 0 17).toInt).toNat).toInt ≤ 14 * (gi u 0 18).toInt)))
set_option maxHeartbeats 4000000 in
set_option maxRecDepth 100000 in
theorem kz_X12_tested_1 (l : Launch) (adK adV : Nat → Nat) (dC : Nat → ClassId) (dI : Nat → Nat → Nat) (cy : Nat → ClassId) (ad : Nat → Nat) (B : Int) (hB0 : 100000 ≤ B) (hB1 : B ≤ 1073741824) (qr : Nat) (s1 : Int)   (w0 : va_W) (sz : Nat) (hT : TW ksM ad cy B qr 12 w0) (f0_ : Int32) (cf0_ : gi w0 0 17 = f0_) (rf0_ : 0 ≤ f0_.toInt) (tf0_ : f0_.toInt ≤ 5) (f1_ : Int32) (cf1_ : gi w0 0 18 = f1_) (rf1_ : 0 ≤ f1_.toInt) (tf1_ : f1_.toInt ≤ 60) (f2_ : Int32) (cf2_ : gi w0 0 19 = f2_) (rf2_ : (-100) ≤ f2_.toInt) (tf2_ : f2_.toInt ≤ 10) (f3_ : Int32) (cf3_ : gi w0 0 22 = f3_) (rf3_ : 0 ≤ f3_.toInt) (tf3_ : f3_.toInt ≤ 400) (f4_ : Int32) (cf4_ : gi w0 3 (f0_.toInt).toNat = f4_) (rf4_ : 0 ≤ f4_.toInt) (tf4_ : f4_.toInt ≤ 400) (pr0_ : 3 * f4_.toInt ≤ 14 * f1_.toInt) (pr1_ : f4_.toInt ≤ 280) (gb gd : Int) (hO : OKW w0 f0_.toInt gb (0))  : Met l yX12_tested (wu yX12_tested cX12_tested 3 (some .boolean)) ({ frames := 9, cells := 0, slots := 0, locals := 188 }) (va_Pc [.ref (ad 0)] (wpreS adK adV dC dI cy sz w0)) (va_Qi (Pz_X12_tested_1 ad cy B qr s1  f0_.toInt gb gd w0) (fun u : va_W => wpost dC dI cy (va_A w0 sz) u) (va_A w0 sz)) 0 0 (va_A w0 sz) := by
  refine Met.ofW (cc := cX12_tested) (maxL := 3) (ret := (some .boolean)) (by decide) rfl ?_
  intro p e s m args below meth c s₁ Bk hml hv
  obtain ⟨rfl, ⟨hsz, hP, hK, hD0⟩, hE, hSR⟩ := hv
  have hx := Bk.exec
  have hb := Bk.bytes
  have hr := Bk.returns
  have hlocks := Bk.notSynchronized
  have hC : CallFix p m c cX12_tested 3 s _ (wu yX12_tested cX12_tested 3 (some .boolean)) RX12 := ⟨hx, hb, hml, findClass_of_methodNamed Bk.named, atoms_spec (ws := (wu yX12_tested cX12_tested 3 (some .boolean))) Bk.pre⟩
  subst hsz
  have hD := hD0.self (sz := s.heap.size)
  generalize hAe : va_A w0 s.heap.size = A at hD hE ⊢
  have hA : ∀ q : Nat, s.heap.size ≤ q → A q := fun q h => by rw [← hAe]; exact Or.inr h
  have hw : Wd dC dI A s.heap s.heap [] w0 := ⟨hP, hD, va_S.rf⟩
  have hF : FE ksM [(12, 14, 14), (12, 15, 15), (12, 16, 16), (12, 18, 18), (12, 19, 19), (12, 22, 22), (61, 0, 2400), (62, 0, 7), (68, 0, 400)] w0 w0 := FE.rf
  have hl := lv_entry ([.ref (ad 0)]) (n := 3) (Nat.le_of_ble_eq_true rfl)
  rw [lg_entry_eq]
  generalize (lg_sl ([.ref (ad 0)]) ++ List.replicate (3 - (lg_sl ([.ref (ad 0)])).length) Slot.unset).toArray = ls at hl ⊢
  have hl : lv_has ls 3 [(0, .ref (ad 0))] := hl
  generalize hloc : ([] : List Loc) = locs at hw ⊢
  have hinX12 : ∀ w ∈ u_ws RX12 TX12 42, w ∈ (wu yX12_tested cX12_tested 3 (some .boolean)) := fun _ h => List.mem_cons_of_mem _ (up_71 h)
  have L12 : ∀ (n12 : Nat) (v12_1 : Int32) (f12_0_18 : Int32) (f12_0_19 : Int32) (f12_0_22 : Int32) (f12_3__f0__toInt_toNat : Int32) (H : Heap) (locs : List Loc) (ls : Array Slot) (w1 : va_W), 0 ≤ v12_1.toInt → v12_1.toInt ≤ 1 → 0 ≤ f0_.toInt → f0_.toInt ≤ 5 → 0 ≤ f12_0_18.toInt → f12_0_18.toInt ≤ 60 → (-60) ≤ f12_0_19.toInt → f12_0_19.toInt ≤ 10 → 0 ≤ f12_0_22.toInt → f12_0_22.toInt ≤ 280 → 0 ≤ f12_3__f0__toInt_toNat.toInt → f12_3__f0__toInt_toNat.toInt ≤ 280 → ((binN w1 (f12_0_22.toInt).toNat : Int) = f12_0_22.toInt - f12_0_19.toInt) → (3 * (f12_3__f0__toInt_toNat.toInt + f12_0_22.toInt) ≤ 14 * f12_0_18.toInt) → (f12_0_22.toInt ≤ f12_0_19.toInt + f12_0_18.toInt) → (f12_3__f0__toInt_toNat.toInt ≤ 280) → (f12_0_22.toInt ≤ 280) → (-60 ≤ f12_0_19.toInt) → (60 - f12_0_18.toInt).toNat < n12 → Wd dC dI A s.heap H locs w1 → TW ksM ad cy B qr 12 w1 → FE ksM [(12, 14, 14), (12, 15, 15), (12, 16, 16), (12, 18, 18), (12, 19, 19), (12, 22, 22), (61, 0, 2400), (62, 0, 7), (68, 0, 400)] w0 w1 → OKW w1 f0_.toInt gb (f12_0_22.toInt - f12_0_19.toInt + 1 - v12_1.toInt) → E9 w1 (f12_0_22.toInt) → gi w1 0 17 = f0_ → gi w1 0 18 = f12_0_18 → gi w1 0 19 = f12_0_19 → gi w1 0 22 = f12_0_22 → gi w1 3 (f0_.toInt).toNat = f12_3__f0__toInt_toNat → TT (fun n => m_X12_tested n 0 (sI w0)) (fun n => j_X12_tested 0 n 12 [v12_1.toInt] (sI w1)) → lv_has ls 3 [(0, .ref (ad 0)), (1, .int v12_1)] → W p l e ({ frames := 9, cells := 0, slots := 0, locals := 188 }) s m (List.toArray [.ref (ad 0)]) below meth c H locs 0 0 (MQ below (va_Qi (Pz_X12_tested_1 ad cy B qr s1  f0_.toInt gb gd w0) (fun u : va_W => wpost dC dI cy A u) A) (List.toArray [.ref (ad 0)]) s 0 0 A) (F0 m 12 ls []) := by
    intro n12
    induction n12 with
    | zero => intro v12_1 f12_0_18 f12_0_19 f12_0_22 f12_3__f0__toInt_toNat H locs ls w1 r2 t3 r4 t5 r7 t8 r10 t11 r13 t14 r16 t17 hcr12_0 hcr12_1 hcr12_2 hcr12_3 hcr12_4 hcr12_5 hm12 hw hT hF hO hE9 c6 c9 c12 c15 c18 hM hl; omega
    | succ n12 ih12 =>
      intro v12_1 f12_0_18 f12_0_19 f12_0_22 f12_3__f0__toInt_toNat H locs ls w1 r2 t3 r4 t5 r7 t8 r10 t11 r13 t14 r16 t17 hcr12_0 hcr12_1 hcr12_2 hcr12_3 hcr12_4 hcr12_5 hm12 hw hT hF hO hE9 c6 c9 c12 c15 c18 hM hl
      have J49 : ∀ (f49_0_1 : Int32) (f49_0_14 : Int32) (f49_0_18 : Int32) (f49_0_19 : Int32) (f49_0_22 : Int32) (f49_3__f0__toInt_toNat : Int32) (H : Heap) (locs : List Loc) (ls : Array Slot) (w19 : va_W), 1 ≤ f49_0_1.toInt → f49_0_1.toInt ≤ 400 → 0 ≤ f49_0_14.toInt → f49_0_14.toInt ≤ 400 → 0 ≤ f0_.toInt → f0_.toInt ≤ 5 → 1 ≤ f49_0_18.toInt → f49_0_18.toInt ≤ 60 → (-60) ≤ f49_0_19.toInt → f49_0_19.toInt ≤ 10 → 0 ≤ f49_0_22.toInt → f49_0_22.toInt ≤ 280 → 0 ≤ f49_3__f0__toInt_toNat.toInt → f49_3__f0__toInt_toNat.toInt ≤ 280 → ((binN w19 (f49_0_22.toInt).toNat : Int) = f49_0_22.toInt - f49_0_19.toInt) → (f12_0_18.toInt + 3 ≤ f49_0_18.toInt) → (3 * (f49_3__f0__toInt_toNat.toInt + f49_0_22.toInt) + 3 ≤ 14 * f49_0_18.toInt) → (f49_0_22.toInt + 3 ≤ f49_0_19.toInt + f49_0_18.toInt) → (f49_3__f0__toInt_toNat.toInt ≤ 280) → (f49_0_22.toInt ≤ 280) → (-60 ≤ f49_0_19.toInt) → Wd dC dI A s.heap H locs w19 → TW ksM ad cy B qr 12 w19 → FE ksM [(12, 14, 14), (12, 15, 15), (12, 16, 16), (12, 18, 18), (12, 19, 19), (12, 22, 22), (61, 0, 2400), (62, 0, 7), (68, 0, 400)] w0 w19 → OKW w19 f0_.toInt gb (f49_0_22.toInt - f49_0_19.toInt + 1) → E9 w19 (f49_0_22.toInt) → gi w19 0 1 = f49_0_1 → gi w19 0 14 = f49_0_14 → gi w19 0 17 = f0_ → gi w19 0 18 = f49_0_18 → gi w19 0 19 = f49_0_19 → gi w19 0 22 = f49_0_22 → gi w19 3 (f0_.toInt).toNat = f49_3__f0__toInt_toNat → TT (fun n => m_X12_tested n 0 (sI w0)) (fun n => b_X12_tested_49 (j_X12_tested 0 n) n 0 (sI w19)) → lv_has ls 3 [(0, .ref (ad 0)), (1, .int 1)] → W p l e ({ frames := 9, cells := 0, slots := 0, locals := 188 }) s m (List.toArray [.ref (ad 0)]) below meth c H locs 0 0 (MQ below (va_Qi (Pz_X12_tested_1 ad cy B qr s1  f0_.toInt gb gd w0) (fun u : va_W => wpost dC dI cy A u) A) (List.toArray [.ref (ad 0)]) s 0 0 A) (F0 m 49 ls []) := by
        intro f49_0_1 f49_0_14 f49_0_18 f49_0_19 f49_0_22 f49_3__f0__toInt_toNat H locs ls w19 r20 t21 r23 t24 r26 t27 r29 t30 r32 t33 r35 t36 r38 t39 hcr49_0 hcr49_1 hcr49_2 hcr49_3 hcr49_4 hcr49_5 hcr49_6 hw hT hF hO hE9 c22 c25 c28 c31 c34 c37 c40 hM hl
        have hM : TT (fun n => m_X12_tested n 0 (sI w0)) (fun n => b_X12_tested_54 (j_X12_tested 0 n) n 0 1 (sI w19)) := hM
        have gl41 := bin_le w19 (f49_0_22.toInt).toNat
        refine lv_iconst (v := 1) hx hb dX12_tested_49 (by decide) ?_
        refine lv_goto (tgt := 54) hx hb dX12_tested_50 (by decide) ?_
        refine lv_istore_n (lv' := [(1, .int 1), (0, .ref (ad 0))]) hx hb dX12_tested_54 rfl hl (by decide) rfl (fun ls hl => ?_)
        refine lv_iload_n hx hb dX12_tested_55 rfl (lv_at hl 0 rfl) ?_
        refine lv_if_eq (tgt := 12) hx hb dX12_tested_56 (by decide) (fun c => absurd c (by decide)) (fun _ => ?_)
        replace hM := hM.neg (by decide)
        refine lv_aload_n hx hb dX12_tested_59 rfl (lv_at hl 1 rfl) ?_
        refine lv_ldc2 (v := 6385252) hx hb hC.2.2.2.1 (hC.2.2.2.2 _ (List.mem_cons_of_mem _ uw_23_15)) dX12_tested_60 ?_
        refine tk_Vi hC hK hw hT hA hE hSR kM_at0 (by decide) rfl (kz_X12_isWord_10 l adK adV dC dI cy ad B hB0 (Int.le_trans hB1 (by decide)) qr s1    w19 H.size hT f49_0_14 c25 (show 0 ≤ f49_0_14.toInt from r23) (show f49_0_14.toInt ≤ 400 from t24)) (cwV 1 hC.2.2.2.2 uV_RX12_105 rfl rfl rfl (by decide +kernel) ⟨Nat.le_of_ble_eq_true rfl, Nat.le_of_ble_eq_true rfl⟩) rfl hl.1 rfl (Nat.le_of_ble_eq_true rfl) dX12_tested_63 (fun r42 w44 H locs hp43 hw => ?_)
        obtain ⟨hT, k45, hv53, hg52⟩ := hp43
        have hO := OKW_FE k45 (fun _ => rfl) (fun _ => rfl) (fun _ => rfl) (fun _ => rfl) hO
        have hE9 := E9_FE k45 (fun _ => rfl) hE9
        have gn54 : binN w44 (f49_0_22.toInt).toNat = binN w19 (f49_0_22.toInt).toNat := bin_FE _ k45 (fun _ => rfl)
        have hF := hF.tr k45 (by decide)
        have c55 := k45.gi kM_at0 (by decide) c22
        have c56 := k45.gi kM_at0 (by decide) c28
        have c57 := k45.gi kM_at0 (by decide) c31
        have c58 := k45.gi kM_at0 (by decide) c34
        have c59 := k45.gi kM_at0 (by decide) c37
        have c60 := k45.gi kM_at3 rfl c40
        rcases hg52 with ⟨rfl, ⟨x46, c47, rx46, tx46⟩, g48⟩ | ⟨rfl, ⟨x49, c50, rx49, tx49⟩, g51⟩
        · replace hM := hM.call (r' := 0) hv53 (by decide)
          have ex46 : x46.toInt = f49_0_1.toInt := by rw [← c55.symm.trans c47]
          obtain ⟨x61, c62, rx61, tx61⟩ := hT.rdi (lo := 0) (hi := 400) (k := 14) kM_at0 (by decide) rfl
          have g48 : (x61.toInt = f49_0_14.toInt ∨ (gi w19 1 (f49_0_14.toInt).toNat).toInt = 32) := by have q := g48; simp only [c28, c56, c25, c62] at q; first | with_reducible exact q | omega
          refine lv_if_eq (tgt := 74) hx hb dX12_tested_66 (by decide) (fun _ => ?_) (fun c => absurd (by decide) c)
          replace hM := hM.pos (by decide)
          refine lv_bipush (v := 13) hx hb dX12_tested_74 (by decide) ?_
          refine lv_istore_n (lv' := [(2, .int 13), (1, .int 1), (0, .ref (ad 0))]) hx hb dX12_tested_76 rfl hl (by decide) rfl (fun ls hl => ?_)
          refine lv_aload_n hx hb dX12_tested_77 rfl (lv_at hl 2 rfl) ?_
          refine tk_Vv hC hK hw hT hA hE hSR kM_at0 (by decide) rfl (kz_X12_passWord_1 l adK adV dC dI cy ad B hB0 (Int.le_trans hB1 (by decide)) qr s1    w44 H.size hT ) (cwV 0 hC.2.2.2.2 uV_RX12_109 rfl rfl rfl (by decide +kernel) ⟨Nat.le_of_ble_eq_true rfl, Nat.le_of_ble_eq_true rfl⟩) rfl hl.1 rfl (Nat.le_of_ble_eq_true rfl) dX12_tested_78 (fun w67 H locs hp66 hw => ?_)
          obtain ⟨hT, k68, hv76, hg75⟩ := hp66
          have hO := OKW_FE k68 (fun _ => rfl) (fun _ => rfl) (fun _ => rfl) (fun _ => rfl) hO
          have hE9 := E9_FE k68 (fun _ => rfl) hE9
          have gn77 : binN w67 (f49_0_22.toInt).toNat = binN w44 (f49_0_22.toInt).toNat := bin_FE _ k68 (fun _ => rfl)
          have hF := hF.tr k68 (by decide)
          have c78 := k68.gi kM_at0 (by decide) c55
          have c79 := k68.gi kM_at0 (by decide) c56
          have c80 := k68.gi kM_at0 (by decide) c57
          have c81 := k68.gi kM_at0 (by decide) c58
          have c82 := k68.gi kM_at0 (by decide) c59
          have c83 := k68.gi kM_at3 rfl c60
          rcases hg75 with ⟨⟨x69, c70, rx69, tx69⟩, ⟨x71, c72, rx71, tx71⟩⟩ | ⟨x73, c74, rx73, tx73⟩
          · replace hM := hM.call hv76 rfl
            have ex69 : x69.toInt = f49_0_1.toInt := by rw [← c78.symm.trans c70]
            refine lv_aload_n hx hb dX12_tested_81 rfl (lv_at hl 2 rfl) ?_
            refine lv_iload_n hx hb dX12_tested_82 rfl (lv_at hl 0 rfl) ?_
            refine tk_Si hC hK hw hT hA hE hSR (kz_X12_strength_1 l adK adV dC dI cy ad B hB0 (Int.le_trans hB1 (by decide)) qr s1    w67 H.size hT ) (va_cwS 1 hC.2.2.2.2 uS_RX12_158 rfl rfl rfl (by decide +kernel) ⟨Nat.le_of_ble_eq_true rfl, Nat.le_of_ble_eq_true rfl⟩) rfl hl.1 rfl (Nat.le_of_ble_eq_true rfl) dX12_tested_83 (fun r84 w86 H locs hp85 hw => ?_)
            obtain ⟨rfl, hv89, hg88⟩ := hp85
            obtain rfl := hg88
            replace hM := hM.call (r' := 1) hv89 (by decide)
            refine tk_Vv hC hK hw hT hA hE hSR kM_at0 (by decide) rfl (kz_X12_settles_1 l adK adV dC dI cy ad B hB0 (Int.le_trans hB1 (by decide)) qr s1    w67 H.size hT f0_ c79 (show 0 ≤ f0_.toInt from r26) (show f0_.toInt ≤ 5 from t27) f49_0_18 c80 (show 0 ≤ f49_0_18.toInt from Int.le_trans (by decide) r29) (show f49_0_18.toInt ≤ 60 from t30) f49_0_19 c81 (show (-100) ≤ f49_0_19.toInt from Int.le_trans (by decide) r32) (show f49_0_19.toInt ≤ 10 from t33) f49_0_22 c82 (show 0 ≤ f49_0_22.toInt from r35) (show f49_0_22.toInt ≤ 400 from Int.le_trans t36 (by decide)) f49_3__f0__toInt_toNat c83 (show 0 ≤ f49_3__f0__toInt_toNat.toInt from r38) (show f49_3__f0__toInt_toNat.toInt ≤ 400 from Int.le_trans t39 (by decide)) (show f49_3__f0__toInt_toNat.toInt + f49_0_22.toInt ≤ 390 by omega) (show f49_0_22.toInt ≤ f49_0_19.toInt + f49_0_18.toInt by omega) (show f49_3__f0__toInt_toNat.toInt ≤ 390 from Int.le_trans t39 (by decide)) (show f49_0_22.toInt ≤ 390 from Int.le_trans t36 (by decide)) (show (binN w67 (f49_0_22.toInt).toNat : Int) = f49_0_22.toInt - f49_0_19.toInt by first | exact Int.le_antisymm (by omega) (by omega) | omega) gb (f49_0_22.toInt - f49_0_19.toInt + 1) (OKW_cast hO (show f49_0_22.toInt - f49_0_19.toInt + 1 = f49_0_22.toInt - f49_0_19.toInt + 1 from rfl)) (E9_le hE9 (show f49_0_22.toInt ≤ _ by omega))) (cwV 1 hC.2.2.2.2 uV_RX12_194 rfl rfl rfl (by decide +kernel) ⟨Nat.le_of_ble_eq_true rfl, Nat.le_of_ble_eq_true rfl⟩) rfl hl.1 rfl (Nat.le_of_ble_eq_true rfl) dX12_tested_86 (fun w92 H locs hp91 hw => ?_)
            obtain ⟨hT, k93, hv112, hg111⟩ := hp91
            have gn113 : binN w92 (f49_0_22.toInt).toNat = binN w67 (f49_0_22.toInt).toNat := bin_FE _ k93 (fun _ => rfl)
            have hF := hF.tr k93 (by decide)
            have c114 := k93.gi kM_at0 (by decide) c78
            have c115 := k93.gi kM_at0 (by decide) c79
            have c116 := k93.gi kM_at0 (by decide) c80
            have c117 := k93.gi kM_at0 (by decide) c72
            obtain ⟨⟨x94, c95, rx94, tx94⟩, ⟨x96, c97, rx96, tx96⟩, ⟨x98, c99, rx98, tx98⟩, hq100, hq101, hq102, g103, g104, g105, g106, g107, g108, g109, g110⟩ := hg111
            replace hM := hM.call hv112 rfl
            have ex94 : x94.toInt = f0_.toInt := by rw [← c115.symm.trans c95]
            obtain ⟨x118, c119, rx118, tx118⟩ := hT.rda (lo := 0) (hi := 400) (i := (f0_.toInt).toNat) kM_at3 rfl rfl (by omega)
            have g103 : x118.toInt + x98.toInt = f49_3__f0__toInt_toNat.toInt + f49_0_22.toInt := by have q := g103; simp only [c79, c115, c83, c119, c82, c99] at q; first | with_reducible exact q | omega
            have g104 : x98.toInt ≤ f49_0_22.toInt := by have q := g104; simp only [c79, c115, c82, c99] at q; first | with_reducible exact q | omega
            have g105 : x98.toInt + f49_0_19.toInt ≤ f49_0_22.toInt + x96.toInt := by have q := g105; simp only [c79, c115, c81, c97, c82, c99] at q; first | with_reducible exact q | omega
            have g106 : x98.toInt ≤ x96.toInt + f49_0_18.toInt := by have q := g106; simp only [c79, c115, c97, c80, c99] at q; first | with_reducible exact q | omega
            have g107 : x98.toInt ≤ 390 := by have q := g107; simp only [c79, c115, c99] at q; first | with_reducible exact q | omega
            have g108 : x118.toInt ≤ 390 := by have q := g108; simp only [c79, c115, c119] at q; first | with_reducible exact q | omega
            have g109 : brkN w67 (x98.toInt).toNat = brkN w67 (f49_0_22.toInt).toNat := by have q := g109; simp only [c79, c115, c82, c99] at q; first | with_reducible exact q | omega
            have g110 : (binN w92 (x98.toInt).toNat : Int) = x98.toInt - x96.toInt := by have q := g110; simp only [c79, c115, c97, c99] at q; first | with_reducible exact q | omega
            have hO : OKW w92 f0_.toInt gb (x98.toInt - x96.toInt + 1) := by have q := hq101; simp only [c97, c99] at q; exact OKW_cast q (by omega)
            have hE9 : E9 w92 (x98.toInt) := by have q := hq102; simp only [c99] at q; exact q
            refine lv_aload_n hx hb dX12_tested_89 rfl (lv_at hl 2 rfl) ?_
            refine tk_getA hC hK hw hT hinX12 kM_at0 (by decide) rfl 21 (by decide) (List.mem_cons_of_mem _ uw_6_22) rfl rfl dX12_tested_90 ?_
            refine lv_aload_n hx hb dX12_tested_93 rfl (lv_at hl 2 rfl) ?_
            refine tk_geti hC hK hw hT hinX12 kM_at0 (by decide) rfl 22 (by decide) (List.mem_cons_of_mem _ uw_23_13) rfl rfl dX12_tested_94 (fun x120 c121 rx120 tx120 => ?_)
            refine wk_top x98 (c121.symm.trans c99) ?_
            replace hM := hM.rd (sI_at c99)
            refine lv_iload_n hx hb dX12_tested_97 rfl (lv_at hl 0 rfl) ?_
            refine tk_iast hC hK hw hT kM_at9 (by decide) rfl rfl (show 0 ≤ x98.toInt by first | with_reducible assumption | omega) (show x98.toInt < 400 from Int.lt_of_le_of_lt g107 (by decide)) (by decide) (by decide) dX12_tested_98 (fun H locs w122 hw hT k124 c123 => ?_)
            replace hM := hM.wr (sI_upc k124 c123 (by decide))
            have gn125 : binN w122 (x98.toInt).toNat = binN w92 (x98.toInt).toNat := bin_ge _ k124 (show (x98.toInt).toNat ≤ x98.toInt.toNat by omega)
            have gx126 : (gi w122 9 (x98.toInt).toNat).toInt = (13 : Int) := by rw [show gi w122 9 (x98.toInt).toNat = 13 from c123]; decide
            have hO := OKW_F1 k124 (by decide) (by decide) (by decide) (by decide) hO
            have hE9 := E9_put (o := x98.toInt) (o' := x98.toInt + 1) k124 (show ((x98.toInt.toNat : Nat) : Int) = _ by first | exact Int.le_antisymm (by omega) (by omega) | omega) rfl (by rw [c123]; unfold e9; decide) (E9_le hE9 (by omega))
            have hF := hF.put kM_at9 (inE_of (a := 0) (b := 400) (by decide) (show 0 ≤ x98.toInt.toNat by omega) (show x98.toInt.toNat ≤ 400 by omega)) k124
            have c127 := k124.gi (Or.inl (tk_ne kM_at0 kM_at9 (by decide))) c114
            have c128 := k124.gi (Or.inl (tk_ne kM_at0 kM_at9 (by decide))) c115
            have c129 := k124.gi (Or.inl (tk_ne kM_at0 kM_at9 (by decide))) c116
            have c130 := k124.gi (Or.inl (tk_ne kM_at0 kM_at9 (by decide))) c117
            have c131 := k124.gi (Or.inl (tk_ne kM_at0 kM_at9 (by decide))) c97
            have c132 := k124.gi (Or.inl (tk_ne kM_at0 kM_at9 (by decide))) c99
            have c133 := k124.gi (Or.inl (tk_ne kM_at3 kM_at9 (by decide))) c119
            refine lv_aload_n hx hb dX12_tested_99 rfl (lv_at hl 2 rfl) ?_
            refine lv_dup hx hb dX12_tested_100 rfl ?_
            refine tk_geti hC hK hw hT hinX12 kM_at0 (by decide) rfl 22 (by decide) (List.mem_cons_of_mem _ uw_23_13) rfl rfl dX12_tested_101 (fun x134 c135 rx134 tx134 => ?_)
            refine wk_top x98 (c135.symm.trans c132) ?_
            replace hM := hM.rd (sI_at c132)
            refine lv_iconst (v := 1) hx hb dX12_tested_104 (by decide) ?_
            refine lv_iadd hx hb dX12_tested_105 ?_
            refine lv_topi (fun x136 ex136 => ?_)
            have ezx136 := ex136
            have ex136 : x136.toInt = x98.toInt + (1 : Int) := by rw [ex136]; exact wk_add (show (-2147483648) ≤ x98.toInt + (1 : Int) by omega) (show x98.toInt + (1 : Int) ≤ 2147483647 by omega)
            replace hM := hM.lt ex136.symm
            refine tk_puti hC hK hw hT hinX12 tyX12_ok nmX12 kM_at0 (by decide) rfl rfl 22 (by decide) (List.mem_cons_of_mem _ uw_23_13) rfl rfl rfl rfl (show 0 ≤ x136.toInt by first | with_reducible assumption | omega) (show x136.toInt ≤ 400 by first | with_reducible assumption | omega) dX12_tested_106 (fun H locs w137 hw hT k139 c138 => ?_)
            replace hM := hM.wr (sI_up k139 c138)
            have gn140 : binN w137 (x98.toInt).toNat = binN w122 (x98.toInt).toNat := bin_F1 _ k139 (by decide)
            have gn141 : binN w137 (x136.toInt).toNat = binN w122 (x136.toInt).toNat := bin_F1 _ k139 (by decide)
            have gt142 := bin_top (w := w122) (a := x136.toInt) (b := x98.toInt) (by omega) (by omega)
            have hO := OKW_F1 k139 (by decide) (by decide) (by decide) (by decide) hO
            have hE9 := E9_F1 k139 (by decide) hE9
            have hF := hF.put kM_at0 (k := 22) (by decide) k139
            have c143 := k139.gi (Or.inr (by decide)) c127
            have c144 := k139.gi (Or.inr (by decide)) c128
            have c145 := k139.gi (Or.inr (by decide)) c129
            have c146 := k139.gi (Or.inr (by decide)) c130
            have c147 := k139.gi (Or.inr (by decide)) c131
            have c148 := k139.gi (Or.inl (tk_ne kM_at3 kM_at0 (by decide))) c133
            refine lv_goto (tgt := 12) hx hb dX12_tested_109 (by decide) ?_
            exact ih12 1 f49_0_18 x96 x136 x118 H locs ls w137 (by decide) (by decide) (show 0 ≤ f0_.toInt from r26) (show f0_.toInt ≤ 5 from t27) (show 0 ≤ f49_0_18.toInt from Int.le_trans (by decide) r29) (show f49_0_18.toInt ≤ 60 from t30) (show (-60) ≤ x96.toInt by first | with_reducible assumption | omega) (show x96.toInt ≤ 10 by first | with_reducible assumption | omega) (show 0 ≤ x136.toInt by first | with_reducible assumption | omega) (show x136.toInt ≤ 280 by first | with_reducible assumption | omega) (show 0 ≤ x118.toInt by first | with_reducible assumption | omega) (show x118.toInt ≤ 280 by first | with_reducible assumption | omega) (show (binN w137 (x136.toInt).toNat : Int) = x136.toInt - x96.toInt by first | exact Int.le_antisymm (by omega) (by omega) | omega) (show 3 * (x118.toInt + x136.toInt) ≤ 14 * f49_0_18.toInt by omega) (show x136.toInt ≤ x96.toInt + f49_0_18.toInt by omega) (show x118.toInt ≤ 280 by first | with_reducible assumption | omega) (show x136.toInt ≤ 280 by first | with_reducible assumption | omega) (show -60 ≤ x96.toInt by first | with_reducible assumption | omega) (show (60 - f49_0_18.toInt).toNat < n12 by first | exact tn_lt hm12 (by omega) (by omega) | omega) hw hT hF (OKW_cast hO (show x98.toInt - x96.toInt + 1 = x136.toInt - x96.toInt + 1 - (1 : Int) by first | exact Int.le_antisymm (by omega) (by omega) | omega)) (E9_le hE9 (show x136.toInt ≤ _ by omega)) c144 c145 c147 c138 c148 hM (lv_sub hl [2, 1] rfl)
          · replace hM := hM.call hv76 rfl
            have ex73 : x73.toInt = f49_0_1.toInt := by rw [← c78.symm.trans c74]
            refine lv_aload_n hx hb dX12_tested_81 rfl (lv_at hl 2 rfl) ?_
            refine lv_iload_n hx hb dX12_tested_82 rfl (lv_at hl 0 rfl) ?_
            refine tk_Si hC hK hw hT hA hE hSR (kz_X12_strength_1 l adK adV dC dI cy ad B hB0 (Int.le_trans hB1 (by decide)) qr s1    w67 H.size hT ) (va_cwS 1 hC.2.2.2.2 uS_RX12_158 rfl rfl rfl (by decide +kernel) ⟨Nat.le_of_ble_eq_true rfl, Nat.le_of_ble_eq_true rfl⟩) rfl hl.1 rfl (Nat.le_of_ble_eq_true rfl) dX12_tested_83 (fun r149 w151 H locs hp150 hw => ?_)
            obtain ⟨rfl, hv154, hg153⟩ := hp150
            obtain rfl := hg153
            replace hM := hM.call (r' := 1) hv154 (by decide)
            refine tk_Vv hC hK hw hT hA hE hSR kM_at0 (by decide) rfl (kz_X12_settles_1 l adK adV dC dI cy ad B hB0 (Int.le_trans hB1 (by decide)) qr s1    w67 H.size hT f0_ c79 (show 0 ≤ f0_.toInt from r26) (show f0_.toInt ≤ 5 from t27) f49_0_18 c80 (show 0 ≤ f49_0_18.toInt from Int.le_trans (by decide) r29) (show f49_0_18.toInt ≤ 60 from t30) f49_0_19 c81 (show (-100) ≤ f49_0_19.toInt from Int.le_trans (by decide) r32) (show f49_0_19.toInt ≤ 10 from t33) f49_0_22 c82 (show 0 ≤ f49_0_22.toInt from r35) (show f49_0_22.toInt ≤ 400 from Int.le_trans t36 (by decide)) f49_3__f0__toInt_toNat c83 (show 0 ≤ f49_3__f0__toInt_toNat.toInt from r38) (show f49_3__f0__toInt_toNat.toInt ≤ 400 from Int.le_trans t39 (by decide)) (show f49_3__f0__toInt_toNat.toInt + f49_0_22.toInt ≤ 390 by omega) (show f49_0_22.toInt ≤ f49_0_19.toInt + f49_0_18.toInt by omega) (show f49_3__f0__toInt_toNat.toInt ≤ 390 from Int.le_trans t39 (by decide)) (show f49_0_22.toInt ≤ 390 from Int.le_trans t36 (by decide)) (show (binN w67 (f49_0_22.toInt).toNat : Int) = f49_0_22.toInt - f49_0_19.toInt by first | exact Int.le_antisymm (by omega) (by omega) | omega) gb (f49_0_22.toInt - f49_0_19.toInt + 1) (OKW_cast hO (show f49_0_22.toInt - f49_0_19.toInt + 1 = f49_0_22.toInt - f49_0_19.toInt + 1 from rfl)) (E9_le hE9 (show f49_0_22.toInt ≤ _ by omega))) (cwV 1 hC.2.2.2.2 uV_RX12_194 rfl rfl rfl (by decide +kernel) ⟨Nat.le_of_ble_eq_true rfl, Nat.le_of_ble_eq_true rfl⟩) rfl hl.1 rfl (Nat.le_of_ble_eq_true rfl) dX12_tested_86 (fun w157 H locs hp156 hw => ?_)
            obtain ⟨hT, k158, hv177, hg176⟩ := hp156
            have gn178 : binN w157 (f49_0_22.toInt).toNat = binN w67 (f49_0_22.toInt).toNat := bin_FE _ k158 (fun _ => rfl)
            have hF := hF.tr k158 (by decide)
            have c179 := k158.gi kM_at0 (by decide) c78
            have c180 := k158.gi kM_at0 (by decide) c79
            have c181 := k158.gi kM_at0 (by decide) c80
            obtain ⟨⟨x159, c160, rx159, tx159⟩, ⟨x161, c162, rx161, tx161⟩, ⟨x163, c164, rx163, tx163⟩, hq165, hq166, hq167, g168, g169, g170, g171, g172, g173, g174, g175⟩ := hg176
            replace hM := hM.call hv177 rfl
            have ex159 : x159.toInt = f0_.toInt := by rw [← c180.symm.trans c160]
            obtain ⟨x182, c183, rx182, tx182⟩ := hT.rda (lo := 0) (hi := 400) (i := (f0_.toInt).toNat) kM_at3 rfl rfl (by omega)
            have g168 : x182.toInt + x163.toInt = f49_3__f0__toInt_toNat.toInt + f49_0_22.toInt := by have q := g168; simp only [c79, c180, c83, c183, c82, c164] at q; first | with_reducible exact q | omega
            have g169 : x163.toInt ≤ f49_0_22.toInt := by have q := g169; simp only [c79, c180, c82, c164] at q; first | with_reducible exact q | omega
            have g170 : x163.toInt + f49_0_19.toInt ≤ f49_0_22.toInt + x161.toInt := by have q := g170; simp only [c79, c180, c81, c162, c82, c164] at q; first | with_reducible exact q | omega
            have g171 : x163.toInt ≤ x161.toInt + f49_0_18.toInt := by have q := g171; simp only [c79, c180, c162, c80, c164] at q; first | with_reducible exact q | omega
            have g172 : x163.toInt ≤ 390 := by have q := g172; simp only [c79, c180, c164] at q; first | with_reducible exact q | omega
            have g173 : x182.toInt ≤ 390 := by have q := g173; simp only [c79, c180, c183] at q; first | with_reducible exact q | omega
            have g174 : brkN w67 (x163.toInt).toNat = brkN w67 (f49_0_22.toInt).toNat := by have q := g174; simp only [c79, c180, c82, c164] at q; first | with_reducible exact q | omega
            have g175 : (binN w157 (x163.toInt).toNat : Int) = x163.toInt - x161.toInt := by have q := g175; simp only [c79, c180, c162, c164] at q; first | with_reducible exact q | omega
            have hO : OKW w157 f0_.toInt gb (x163.toInt - x161.toInt + 1) := by have q := hq166; simp only [c162, c164] at q; exact OKW_cast q (by omega)
            have hE9 : E9 w157 (x163.toInt) := by have q := hq167; simp only [c164] at q; exact q
            refine lv_aload_n hx hb dX12_tested_89 rfl (lv_at hl 2 rfl) ?_
            refine tk_getA hC hK hw hT hinX12 kM_at0 (by decide) rfl 21 (by decide) (List.mem_cons_of_mem _ uw_6_22) rfl rfl dX12_tested_90 ?_
            refine lv_aload_n hx hb dX12_tested_93 rfl (lv_at hl 2 rfl) ?_
            refine tk_geti hC hK hw hT hinX12 kM_at0 (by decide) rfl 22 (by decide) (List.mem_cons_of_mem _ uw_23_13) rfl rfl dX12_tested_94 (fun x184 c185 rx184 tx184 => ?_)
            refine wk_top x163 (c185.symm.trans c164) ?_
            replace hM := hM.rd (sI_at c164)
            refine lv_iload_n hx hb dX12_tested_97 rfl (lv_at hl 0 rfl) ?_
            refine tk_iast hC hK hw hT kM_at9 (by decide) rfl rfl (show 0 ≤ x163.toInt by first | with_reducible assumption | omega) (show x163.toInt < 400 from Int.lt_of_le_of_lt g172 (by decide)) (by decide) (by decide) dX12_tested_98 (fun H locs w186 hw hT k188 c187 => ?_)
            replace hM := hM.wr (sI_upc k188 c187 (by decide))
            have gn189 : binN w186 (x163.toInt).toNat = binN w157 (x163.toInt).toNat := bin_ge _ k188 (show (x163.toInt).toNat ≤ x163.toInt.toNat by omega)
            have gx190 : (gi w186 9 (x163.toInt).toNat).toInt = (13 : Int) := by rw [show gi w186 9 (x163.toInt).toNat = 13 from c187]; decide
            have hO := OKW_F1 k188 (by decide) (by decide) (by decide) (by decide) hO
            have hE9 := E9_put (o := x163.toInt) (o' := x163.toInt + 1) k188 (show ((x163.toInt.toNat : Nat) : Int) = _ by first | exact Int.le_antisymm (by omega) (by omega) | omega) rfl (by rw [c187]; unfold e9; decide) (E9_le hE9 (by omega))
            have hF := hF.put kM_at9 (inE_of (a := 0) (b := 400) (by decide) (show 0 ≤ x163.toInt.toNat by omega) (show x163.toInt.toNat ≤ 400 by omega)) k188
            have c191 := k188.gi (Or.inl (tk_ne kM_at0 kM_at9 (by decide))) c179
            have c192 := k188.gi (Or.inl (tk_ne kM_at0 kM_at9 (by decide))) c180
            have c193 := k188.gi (Or.inl (tk_ne kM_at0 kM_at9 (by decide))) c181
            have c194 := k188.gi (Or.inl (tk_ne kM_at0 kM_at9 (by decide))) c162
            have c195 := k188.gi (Or.inl (tk_ne kM_at0 kM_at9 (by decide))) c164
            have c196 := k188.gi (Or.inl (tk_ne kM_at3 kM_at9 (by decide))) c183
            refine lv_aload_n hx hb dX12_tested_99 rfl (lv_at hl 2 rfl) ?_
            refine lv_dup hx hb dX12_tested_100 rfl ?_
            refine tk_geti hC hK hw hT hinX12 kM_at0 (by decide) rfl 22 (by decide) (List.mem_cons_of_mem _ uw_23_13) rfl rfl dX12_tested_101 (fun x197 c198 rx197 tx197 => ?_)
            refine wk_top x163 (c198.symm.trans c195) ?_
            replace hM := hM.rd (sI_at c195)
            refine lv_iconst (v := 1) hx hb dX12_tested_104 (by decide) ?_
            refine lv_iadd hx hb dX12_tested_105 ?_
            refine lv_topi (fun x199 ex199 => ?_)
            have ezx199 := ex199
            have ex199 : x199.toInt = x163.toInt + (1 : Int) := by rw [ex199]; exact wk_add (show (-2147483648) ≤ x163.toInt + (1 : Int) by omega) (show x163.toInt + (1 : Int) ≤ 2147483647 by omega)
            replace hM := hM.lt ex199.symm
            refine tk_puti hC hK hw hT hinX12 tyX12_ok nmX12 kM_at0 (by decide) rfl rfl 22 (by decide) (List.mem_cons_of_mem _ uw_23_13) rfl rfl rfl rfl (show 0 ≤ x199.toInt by first | with_reducible assumption | omega) (show x199.toInt ≤ 400 by first | with_reducible assumption | omega) dX12_tested_106 (fun H locs w200 hw hT k202 c201 => ?_)
            replace hM := hM.wr (sI_up k202 c201)
            have gn203 : binN w200 (x163.toInt).toNat = binN w186 (x163.toInt).toNat := bin_F1 _ k202 (by decide)
            have gn204 : binN w200 (x199.toInt).toNat = binN w186 (x199.toInt).toNat := bin_F1 _ k202 (by decide)
            have gt205 := bin_top (w := w186) (a := x199.toInt) (b := x163.toInt) (by omega) (by omega)
            have hO := OKW_F1 k202 (by decide) (by decide) (by decide) (by decide) hO
            have hE9 := E9_F1 k202 (by decide) hE9
            have hF := hF.put kM_at0 (k := 22) (by decide) k202
            have c206 := k202.gi (Or.inr (by decide)) c191
            have c207 := k202.gi (Or.inr (by decide)) c192
            have c208 := k202.gi (Or.inr (by decide)) c193
            have c209 := k202.gi (Or.inr (by decide)) c194
            have c210 := k202.gi (Or.inl (tk_ne kM_at3 kM_at0 (by decide))) c196
            refine lv_goto (tgt := 12) hx hb dX12_tested_109 (by decide) ?_
            exact ih12 1 f49_0_18 x161 x199 x182 H locs ls w200 (by decide) (by decide) (show 0 ≤ f0_.toInt from r26) (show f0_.toInt ≤ 5 from t27) (show 0 ≤ f49_0_18.toInt from Int.le_trans (by decide) r29) (show f49_0_18.toInt ≤ 60 from t30) (show (-60) ≤ x161.toInt by first | with_reducible assumption | omega) (show x161.toInt ≤ 10 by first | with_reducible assumption | omega) (show 0 ≤ x199.toInt by first | with_reducible assumption | omega) (show x199.toInt ≤ 280 by first | with_reducible assumption | omega) (show 0 ≤ x182.toInt by first | with_reducible assumption | omega) (show x182.toInt ≤ 280 by first | with_reducible assumption | omega) (show (binN w200 (x199.toInt).toNat : Int) = x199.toInt - x161.toInt by first | exact Int.le_antisymm (by omega) (by omega) | omega) (show 3 * (x182.toInt + x199.toInt) ≤ 14 * f49_0_18.toInt by omega) (show x199.toInt ≤ x161.toInt + f49_0_18.toInt by omega) (show x182.toInt ≤ 280 by first | with_reducible assumption | omega) (show x199.toInt ≤ 280 by first | with_reducible assumption | omega) (show -60 ≤ x161.toInt by first | with_reducible assumption | omega) (show (60 - f49_0_18.toInt).toNat < n12 by first | exact tn_lt hm12 (by omega) (by omega) | omega) hw hT hF (OKW_cast hO (show x163.toInt - x161.toInt + 1 = x199.toInt - x161.toInt + 1 - (1 : Int) by first | exact Int.le_antisymm (by omega) (by omega) | omega)) (E9_le hE9 (show x199.toInt ≤ _ by omega)) c207 c208 c209 c201 c210 hM (lv_sub hl [2, 1] rfl)
        · replace hM := hM.call (r' := 1) hv53 (by decide)
          have ex49 : x49.toInt = f49_0_1.toInt := by rw [← c55.symm.trans c50]
          obtain ⟨x63, c64, rx63, tx63⟩ := hT.rdi (lo := 0) (hi := 400) (k := 14) kM_at0 (by decide) rfl
          have g51 : (x63.toInt = f49_0_14.toInt ∨ (gi w19 1 (f49_0_14.toInt).toNat).toInt = 32) := by have q := g51; simp only [c28, c56, c25, c64] at q; first | with_reducible exact q | omega
          refine lv_if_eq (tgt := 74) hx hb dX12_tested_66 (by decide) (fun c => absurd c (by decide)) (fun _ => ?_)
          replace hM := hM.neg (by decide)
          refine lv_bipush (v := 12) hx hb dX12_tested_69 (by decide) ?_
          refine lv_goto (tgt := 76) hx hb dX12_tested_71 (by decide) ?_
          refine lv_istore_n (lv' := [(2, .int 12), (1, .int 1), (0, .ref (ad 0))]) hx hb dX12_tested_76 rfl hl (by decide) rfl (fun ls hl => ?_)
          refine lv_aload_n hx hb dX12_tested_77 rfl (lv_at hl 2 rfl) ?_
          refine tk_Vv hC hK hw hT hA hE hSR kM_at0 (by decide) rfl (kz_X12_passWord_1 l adK adV dC dI cy ad B hB0 (Int.le_trans hB1 (by decide)) qr s1    w44 H.size hT ) (cwV 0 hC.2.2.2.2 uV_RX12_109 rfl rfl rfl (by decide +kernel) ⟨Nat.le_of_ble_eq_true rfl, Nat.le_of_ble_eq_true rfl⟩) rfl hl.1 rfl (Nat.le_of_ble_eq_true rfl) dX12_tested_78 (fun w213 H locs hp212 hw => ?_)
          obtain ⟨hT, k214, hv222, hg221⟩ := hp212
          have hO := OKW_FE k214 (fun _ => rfl) (fun _ => rfl) (fun _ => rfl) (fun _ => rfl) hO
          have hE9 := E9_FE k214 (fun _ => rfl) hE9
          have gn223 : binN w213 (f49_0_22.toInt).toNat = binN w44 (f49_0_22.toInt).toNat := bin_FE _ k214 (fun _ => rfl)
          have hF := hF.tr k214 (by decide)
          have c224 := k214.gi kM_at0 (by decide) c55
          have c225 := k214.gi kM_at0 (by decide) c56
          have c226 := k214.gi kM_at0 (by decide) c57
          have c227 := k214.gi kM_at0 (by decide) c58
          have c228 := k214.gi kM_at0 (by decide) c59
          have c229 := k214.gi kM_at3 rfl c60
          rcases hg221 with ⟨⟨x215, c216, rx215, tx215⟩, ⟨x217, c218, rx217, tx217⟩⟩ | ⟨x219, c220, rx219, tx219⟩
          · replace hM := hM.call hv222 rfl
            have ex215 : x215.toInt = f49_0_1.toInt := by rw [← c224.symm.trans c216]
            refine lv_aload_n hx hb dX12_tested_81 rfl (lv_at hl 2 rfl) ?_
            refine lv_iload_n hx hb dX12_tested_82 rfl (lv_at hl 0 rfl) ?_
            refine tk_Si hC hK hw hT hA hE hSR (kz_X12_strength_3 l adK adV dC dI cy ad B hB0 (Int.le_trans hB1 (by decide)) qr s1    w213 H.size hT ) (va_cwS 1 hC.2.2.2.2 uS_RX12_158 rfl rfl rfl (by decide +kernel) ⟨Nat.le_of_ble_eq_true rfl, Nat.le_of_ble_eq_true rfl⟩) rfl hl.1 rfl (Nat.le_of_ble_eq_true rfl) dX12_tested_83 (fun r230 w232 H locs hp231 hw => ?_)
            obtain ⟨rfl, hv235, hg234⟩ := hp231
            obtain rfl := hg234
            replace hM := hM.call (r' := 2) hv235 (by decide)
            refine tk_Vv hC hK hw hT hA hE hSR kM_at0 (by decide) rfl (kz_X12_settles_2 l adK adV dC dI cy ad B hB0 (Int.le_trans hB1 (by decide)) qr s1    w213 H.size hT f0_ c225 (show 0 ≤ f0_.toInt from r26) (show f0_.toInt ≤ 5 from t27) f49_0_18 c226 (show 0 ≤ f49_0_18.toInt from Int.le_trans (by decide) r29) (show f49_0_18.toInt ≤ 60 from t30) f49_0_19 c227 (show (-100) ≤ f49_0_19.toInt from Int.le_trans (by decide) r32) (show f49_0_19.toInt ≤ 10 from t33) f49_0_22 c228 (show 0 ≤ f49_0_22.toInt from r35) (show f49_0_22.toInt ≤ 400 from Int.le_trans t36 (by decide)) f49_3__f0__toInt_toNat c229 (show 0 ≤ f49_3__f0__toInt_toNat.toInt from r38) (show f49_3__f0__toInt_toNat.toInt ≤ 400 from Int.le_trans t39 (by decide)) (show f49_3__f0__toInt_toNat.toInt + f49_0_22.toInt ≤ 390 by omega) (show f49_0_22.toInt ≤ f49_0_19.toInt + f49_0_18.toInt by omega) (show f49_3__f0__toInt_toNat.toInt ≤ 390 from Int.le_trans t39 (by decide)) (show f49_0_22.toInt ≤ 390 from Int.le_trans t36 (by decide)) (show (binN w213 (f49_0_22.toInt).toNat : Int) = f49_0_22.toInt - f49_0_19.toInt by first | exact Int.le_antisymm (by omega) (by omega) | omega) gb (f49_0_22.toInt - f49_0_19.toInt + 1) (OKW_cast hO (show f49_0_22.toInt - f49_0_19.toInt + 1 = f49_0_22.toInt - f49_0_19.toInt + 1 from rfl)) (E9_le hE9 (show f49_0_22.toInt ≤ _ by omega))) (cwV 1 hC.2.2.2.2 uV_RX12_194 rfl rfl rfl (by decide +kernel) ⟨Nat.le_of_ble_eq_true rfl, Nat.le_of_ble_eq_true rfl⟩) rfl hl.1 rfl (Nat.le_of_ble_eq_true rfl) dX12_tested_86 (fun w238 H locs hp237 hw => ?_)
            obtain ⟨hT, k239, hv257, hg256⟩ := hp237
            have gn258 : binN w238 (f49_0_22.toInt).toNat = binN w213 (f49_0_22.toInt).toNat := bin_FE _ k239 (fun _ => rfl)
            have hF := hF.tr k239 (by decide)
            have c259 := k239.gi kM_at0 (by decide) c224
            have c260 := k239.gi kM_at0 (by decide) c225
            have c261 := k239.gi kM_at0 (by decide) c226
            have c262 := k239.gi kM_at0 (by decide) c218
            obtain ⟨⟨x240, c241, rx240, tx240⟩, ⟨x242, c243, rx242, tx242⟩, ⟨x244, c245, rx244, tx244⟩, hq246, hq247, g248, g249, g250, g251, g252, g253, g254, g255⟩ := hg256
            replace hM := hM.call hv257 rfl
            have ex240 : x240.toInt = f0_.toInt := by rw [← c260.symm.trans c241]
            obtain ⟨x263, c264, rx263, tx263⟩ := hT.rda (lo := 0) (hi := 400) (i := (f0_.toInt).toNat) kM_at3 rfl rfl (by omega)
            have g248 : x263.toInt + x244.toInt = f49_3__f0__toInt_toNat.toInt + f49_0_22.toInt := by have q := g248; simp only [c225, c260, c229, c264, c228, c245] at q; first | with_reducible exact q | omega
            have g249 : x244.toInt ≤ f49_0_22.toInt := by have q := g249; simp only [c225, c260, c228, c245] at q; first | with_reducible exact q | omega
            have g250 : x244.toInt + f49_0_19.toInt ≤ f49_0_22.toInt + x242.toInt := by have q := g250; simp only [c225, c260, c227, c243, c228, c245] at q; first | with_reducible exact q | omega
            have g251 : x244.toInt ≤ x242.toInt + f49_0_18.toInt := by have q := g251; simp only [c225, c260, c243, c226, c245] at q; first | with_reducible exact q | omega
            have g252 : x244.toInt ≤ 390 := by have q := g252; simp only [c225, c260, c245] at q; first | with_reducible exact q | omega
            have g253 : x263.toInt ≤ 390 := by have q := g253; simp only [c225, c260, c264] at q; first | with_reducible exact q | omega
            have g254 : brkN w213 (x244.toInt).toNat = brkN w213 (f49_0_22.toInt).toNat := by have q := g254; simp only [c225, c260, c228, c245] at q; first | with_reducible exact q | omega
            have g255 : (binN w238 (x244.toInt).toNat : Int) = x244.toInt - x242.toInt := by have q := g255; simp only [c225, c260, c243, c245] at q; first | with_reducible exact q | omega
            have hO : OKW w238 f0_.toInt gb (x244.toInt - x242.toInt + 1) := by have q := hq246; simp only [c243, c245] at q; exact OKW_cast q (by omega)
            have hE9 : E9 w238 (x244.toInt) := by have q := hq247; simp only [c245] at q; exact q
            refine lv_aload_n hx hb dX12_tested_89 rfl (lv_at hl 2 rfl) ?_
            refine tk_getA hC hK hw hT hinX12 kM_at0 (by decide) rfl 21 (by decide) (List.mem_cons_of_mem _ uw_6_22) rfl rfl dX12_tested_90 ?_
            refine lv_aload_n hx hb dX12_tested_93 rfl (lv_at hl 2 rfl) ?_
            refine tk_geti hC hK hw hT hinX12 kM_at0 (by decide) rfl 22 (by decide) (List.mem_cons_of_mem _ uw_23_13) rfl rfl dX12_tested_94 (fun x265 c266 rx265 tx265 => ?_)
            refine wk_top x244 (c266.symm.trans c245) ?_
            replace hM := hM.rd (sI_at c245)
            refine lv_iload_n hx hb dX12_tested_97 rfl (lv_at hl 0 rfl) ?_
            refine tk_iast hC hK hw hT kM_at9 (by decide) rfl rfl (show 0 ≤ x244.toInt by first | with_reducible assumption | omega) (show x244.toInt < 400 from Int.lt_of_le_of_lt g252 (by decide)) (by decide) (by decide) dX12_tested_98 (fun H locs w267 hw hT k269 c268 => ?_)
            replace hM := hM.wr (sI_upc k269 c268 (by decide))
            have gn270 : binN w267 (x244.toInt).toNat = binN w238 (x244.toInt).toNat := bin_ge _ k269 (show (x244.toInt).toNat ≤ x244.toInt.toNat by omega)
            have gx271 : (gi w267 9 (x244.toInt).toNat).toInt = (12 : Int) := by rw [show gi w267 9 (x244.toInt).toNat = 12 from c268]; decide
            have hO := OKW_F1 k269 (by decide) (by decide) (by decide) (by decide) hO
            have hE9 := E9_put (o := x244.toInt) (o' := x244.toInt + 1) k269 (show ((x244.toInt.toNat : Nat) : Int) = _ by first | exact Int.le_antisymm (by omega) (by omega) | omega) rfl (by rw [c268]; unfold e9; decide) (E9_le hE9 (by omega))
            have hF := hF.put kM_at9 (inE_of (a := 0) (b := 400) (by decide) (show 0 ≤ x244.toInt.toNat by omega) (show x244.toInt.toNat ≤ 400 by omega)) k269
            have c272 := k269.gi (Or.inl (tk_ne kM_at0 kM_at9 (by decide))) c259
            have c273 := k269.gi (Or.inl (tk_ne kM_at0 kM_at9 (by decide))) c260
            have c274 := k269.gi (Or.inl (tk_ne kM_at0 kM_at9 (by decide))) c261
            have c275 := k269.gi (Or.inl (tk_ne kM_at0 kM_at9 (by decide))) c262
            have c276 := k269.gi (Or.inl (tk_ne kM_at0 kM_at9 (by decide))) c243
            have c277 := k269.gi (Or.inl (tk_ne kM_at0 kM_at9 (by decide))) c245
            have c278 := k269.gi (Or.inl (tk_ne kM_at3 kM_at9 (by decide))) c264
            refine lv_aload_n hx hb dX12_tested_99 rfl (lv_at hl 2 rfl) ?_
            refine lv_dup hx hb dX12_tested_100 rfl ?_
            refine tk_geti hC hK hw hT hinX12 kM_at0 (by decide) rfl 22 (by decide) (List.mem_cons_of_mem _ uw_23_13) rfl rfl dX12_tested_101 (fun x279 c280 rx279 tx279 => ?_)
            refine wk_top x244 (c280.symm.trans c277) ?_
            replace hM := hM.rd (sI_at c277)
            refine lv_iconst (v := 1) hx hb dX12_tested_104 (by decide) ?_
            refine lv_iadd hx hb dX12_tested_105 ?_
            refine lv_topi (fun x281 ex281 => ?_)
            have ezx281 := ex281
            have ex281 : x281.toInt = x244.toInt + (1 : Int) := by rw [ex281]; exact wk_add (show (-2147483648) ≤ x244.toInt + (1 : Int) by omega) (show x244.toInt + (1 : Int) ≤ 2147483647 by omega)
            replace hM := hM.lt ex281.symm
            refine tk_puti hC hK hw hT hinX12 tyX12_ok nmX12 kM_at0 (by decide) rfl rfl 22 (by decide) (List.mem_cons_of_mem _ uw_23_13) rfl rfl rfl rfl (show 0 ≤ x281.toInt by first | with_reducible assumption | omega) (show x281.toInt ≤ 400 by first | with_reducible assumption | omega) dX12_tested_106 (fun H locs w282 hw hT k284 c283 => ?_)
            replace hM := hM.wr (sI_up k284 c283)
            have gn285 : binN w282 (x244.toInt).toNat = binN w267 (x244.toInt).toNat := bin_F1 _ k284 (by decide)
            have gn286 : binN w282 (x281.toInt).toNat = binN w267 (x281.toInt).toNat := bin_F1 _ k284 (by decide)
            have gt287 := bin_top (w := w267) (a := x281.toInt) (b := x244.toInt) (by omega) (by omega)
            have hO := OKW_F1 k284 (by decide) (by decide) (by decide) (by decide) hO
            have hE9 := E9_F1 k284 (by decide) hE9
            have hF := hF.put kM_at0 (k := 22) (by decide) k284
            have c288 := k284.gi (Or.inr (by decide)) c272
            have c289 := k284.gi (Or.inr (by decide)) c273
            have c290 := k284.gi (Or.inr (by decide)) c274
            have c291 := k284.gi (Or.inr (by decide)) c275
            have c292 := k284.gi (Or.inr (by decide)) c276
            have c293 := k284.gi (Or.inl (tk_ne kM_at3 kM_at0 (by decide))) c278
            refine lv_goto (tgt := 12) hx hb dX12_tested_109 (by decide) ?_
            exact ih12 1 f49_0_18 x242 x281 x263 H locs ls w282 (by decide) (by decide) (show 0 ≤ f0_.toInt from r26) (show f0_.toInt ≤ 5 from t27) (show 0 ≤ f49_0_18.toInt from Int.le_trans (by decide) r29) (show f49_0_18.toInt ≤ 60 from t30) (show (-60) ≤ x242.toInt by first | with_reducible assumption | omega) (show x242.toInt ≤ 10 by first | with_reducible assumption | omega) (show 0 ≤ x281.toInt by first | with_reducible assumption | omega) (show x281.toInt ≤ 280 by first | with_reducible assumption | omega) (show 0 ≤ x263.toInt by first | with_reducible assumption | omega) (show x263.toInt ≤ 280 by first | with_reducible assumption | omega) (show (binN w282 (x281.toInt).toNat : Int) = x281.toInt - x242.toInt by first | exact Int.le_antisymm (by omega) (by omega) | omega) (show 3 * (x263.toInt + x281.toInt) ≤ 14 * f49_0_18.toInt by omega) (show x281.toInt ≤ x242.toInt + f49_0_18.toInt by omega) (show x263.toInt ≤ 280 by first | with_reducible assumption | omega) (show x281.toInt ≤ 280 by first | with_reducible assumption | omega) (show -60 ≤ x242.toInt by first | with_reducible assumption | omega) (show (60 - f49_0_18.toInt).toNat < n12 by first | exact tn_lt hm12 (by omega) (by omega) | omega) hw hT hF (OKW_cast hO (show x244.toInt - x242.toInt + 1 = x281.toInt - x242.toInt + 1 - (1 : Int) by first | exact Int.le_antisymm (by omega) (by omega) | omega)) (E9_le hE9 (show x281.toInt ≤ _ by omega)) c289 c290 c292 c283 c293 hM (lv_sub hl [2, 1] rfl)
          · replace hM := hM.call hv222 rfl
            have ex219 : x219.toInt = f49_0_1.toInt := by rw [← c224.symm.trans c220]
            refine lv_aload_n hx hb dX12_tested_81 rfl (lv_at hl 2 rfl) ?_
            refine lv_iload_n hx hb dX12_tested_82 rfl (lv_at hl 0 rfl) ?_
            refine tk_Si hC hK hw hT hA hE hSR (kz_X12_strength_3 l adK adV dC dI cy ad B hB0 (Int.le_trans hB1 (by decide)) qr s1    w213 H.size hT ) (va_cwS 1 hC.2.2.2.2 uS_RX12_158 rfl rfl rfl (by decide +kernel) ⟨Nat.le_of_ble_eq_true rfl, Nat.le_of_ble_eq_true rfl⟩) rfl hl.1 rfl (Nat.le_of_ble_eq_true rfl) dX12_tested_83 (fun r294 w296 H locs hp295 hw => ?_)
            obtain ⟨rfl, hv299, hg298⟩ := hp295
            obtain rfl := hg298
            replace hM := hM.call (r' := 2) hv299 (by decide)
            refine tk_Vv hC hK hw hT hA hE hSR kM_at0 (by decide) rfl (kz_X12_settles_2 l adK adV dC dI cy ad B hB0 (Int.le_trans hB1 (by decide)) qr s1    w213 H.size hT f0_ c225 (show 0 ≤ f0_.toInt from r26) (show f0_.toInt ≤ 5 from t27) f49_0_18 c226 (show 0 ≤ f49_0_18.toInt from Int.le_trans (by decide) r29) (show f49_0_18.toInt ≤ 60 from t30) f49_0_19 c227 (show (-100) ≤ f49_0_19.toInt from Int.le_trans (by decide) r32) (show f49_0_19.toInt ≤ 10 from t33) f49_0_22 c228 (show 0 ≤ f49_0_22.toInt from r35) (show f49_0_22.toInt ≤ 400 from Int.le_trans t36 (by decide)) f49_3__f0__toInt_toNat c229 (show 0 ≤ f49_3__f0__toInt_toNat.toInt from r38) (show f49_3__f0__toInt_toNat.toInt ≤ 400 from Int.le_trans t39 (by decide)) (show f49_3__f0__toInt_toNat.toInt + f49_0_22.toInt ≤ 390 by omega) (show f49_0_22.toInt ≤ f49_0_19.toInt + f49_0_18.toInt by omega) (show f49_3__f0__toInt_toNat.toInt ≤ 390 from Int.le_trans t39 (by decide)) (show f49_0_22.toInt ≤ 390 from Int.le_trans t36 (by decide)) (show (binN w213 (f49_0_22.toInt).toNat : Int) = f49_0_22.toInt - f49_0_19.toInt by first | exact Int.le_antisymm (by omega) (by omega) | omega) gb (f49_0_22.toInt - f49_0_19.toInt + 1) (OKW_cast hO (show f49_0_22.toInt - f49_0_19.toInt + 1 = f49_0_22.toInt - f49_0_19.toInt + 1 from rfl)) (E9_le hE9 (show f49_0_22.toInt ≤ _ by omega))) (cwV 1 hC.2.2.2.2 uV_RX12_194 rfl rfl rfl (by decide +kernel) ⟨Nat.le_of_ble_eq_true rfl, Nat.le_of_ble_eq_true rfl⟩) rfl hl.1 rfl (Nat.le_of_ble_eq_true rfl) dX12_tested_86 (fun w302 H locs hp301 hw => ?_)
            obtain ⟨hT, k303, hv321, hg320⟩ := hp301
            have gn322 : binN w302 (f49_0_22.toInt).toNat = binN w213 (f49_0_22.toInt).toNat := bin_FE _ k303 (fun _ => rfl)
            have hF := hF.tr k303 (by decide)
            have c323 := k303.gi kM_at0 (by decide) c224
            have c324 := k303.gi kM_at0 (by decide) c225
            have c325 := k303.gi kM_at0 (by decide) c226
            obtain ⟨⟨x304, c305, rx304, tx304⟩, ⟨x306, c307, rx306, tx306⟩, ⟨x308, c309, rx308, tx308⟩, hq310, hq311, g312, g313, g314, g315, g316, g317, g318, g319⟩ := hg320
            replace hM := hM.call hv321 rfl
            have ex304 : x304.toInt = f0_.toInt := by rw [← c324.symm.trans c305]
            obtain ⟨x326, c327, rx326, tx326⟩ := hT.rda (lo := 0) (hi := 400) (i := (f0_.toInt).toNat) kM_at3 rfl rfl (by omega)
            have g312 : x326.toInt + x308.toInt = f49_3__f0__toInt_toNat.toInt + f49_0_22.toInt := by have q := g312; simp only [c225, c324, c229, c327, c228, c309] at q; first | with_reducible exact q | omega
            have g313 : x308.toInt ≤ f49_0_22.toInt := by have q := g313; simp only [c225, c324, c228, c309] at q; first | with_reducible exact q | omega
            have g314 : x308.toInt + f49_0_19.toInt ≤ f49_0_22.toInt + x306.toInt := by have q := g314; simp only [c225, c324, c227, c307, c228, c309] at q; first | with_reducible exact q | omega
            have g315 : x308.toInt ≤ x306.toInt + f49_0_18.toInt := by have q := g315; simp only [c225, c324, c307, c226, c309] at q; first | with_reducible exact q | omega
            have g316 : x308.toInt ≤ 390 := by have q := g316; simp only [c225, c324, c309] at q; first | with_reducible exact q | omega
            have g317 : x326.toInt ≤ 390 := by have q := g317; simp only [c225, c324, c327] at q; first | with_reducible exact q | omega
            have g318 : brkN w213 (x308.toInt).toNat = brkN w213 (f49_0_22.toInt).toNat := by have q := g318; simp only [c225, c324, c228, c309] at q; first | with_reducible exact q | omega
            have g319 : (binN w302 (x308.toInt).toNat : Int) = x308.toInt - x306.toInt := by have q := g319; simp only [c225, c324, c307, c309] at q; first | with_reducible exact q | omega
            have hO : OKW w302 f0_.toInt gb (x308.toInt - x306.toInt + 1) := by have q := hq310; simp only [c307, c309] at q; exact OKW_cast q (by omega)
            have hE9 : E9 w302 (x308.toInt) := by have q := hq311; simp only [c309] at q; exact q
            refine lv_aload_n hx hb dX12_tested_89 rfl (lv_at hl 2 rfl) ?_
            refine tk_getA hC hK hw hT hinX12 kM_at0 (by decide) rfl 21 (by decide) (List.mem_cons_of_mem _ uw_6_22) rfl rfl dX12_tested_90 ?_
            refine lv_aload_n hx hb dX12_tested_93 rfl (lv_at hl 2 rfl) ?_
            refine tk_geti hC hK hw hT hinX12 kM_at0 (by decide) rfl 22 (by decide) (List.mem_cons_of_mem _ uw_23_13) rfl rfl dX12_tested_94 (fun x328 c329 rx328 tx328 => ?_)
            refine wk_top x308 (c329.symm.trans c309) ?_
            replace hM := hM.rd (sI_at c309)
            refine lv_iload_n hx hb dX12_tested_97 rfl (lv_at hl 0 rfl) ?_
            refine tk_iast hC hK hw hT kM_at9 (by decide) rfl rfl (show 0 ≤ x308.toInt by first | with_reducible assumption | omega) (show x308.toInt < 400 from Int.lt_of_le_of_lt g316 (by decide)) (by decide) (by decide) dX12_tested_98 (fun H locs w330 hw hT k332 c331 => ?_)
            replace hM := hM.wr (sI_upc k332 c331 (by decide))
            have gn333 : binN w330 (x308.toInt).toNat = binN w302 (x308.toInt).toNat := bin_ge _ k332 (show (x308.toInt).toNat ≤ x308.toInt.toNat by omega)
            have gx334 : (gi w330 9 (x308.toInt).toNat).toInt = (12 : Int) := by rw [show gi w330 9 (x308.toInt).toNat = 12 from c331]; decide
            have hO := OKW_F1 k332 (by decide) (by decide) (by decide) (by decide) hO
            have hE9 := E9_put (o := x308.toInt) (o' := x308.toInt + 1) k332 (show ((x308.toInt.toNat : Nat) : Int) = _ by first | exact Int.le_antisymm (by omega) (by omega) | omega) rfl (by rw [c331]; unfold e9; decide) (E9_le hE9 (by omega))
            have hF := hF.put kM_at9 (inE_of (a := 0) (b := 400) (by decide) (show 0 ≤ x308.toInt.toNat by omega) (show x308.toInt.toNat ≤ 400 by omega)) k332
            have c335 := k332.gi (Or.inl (tk_ne kM_at0 kM_at9 (by decide))) c323
            have c336 := k332.gi (Or.inl (tk_ne kM_at0 kM_at9 (by decide))) c324
            have c337 := k332.gi (Or.inl (tk_ne kM_at0 kM_at9 (by decide))) c325
            have c338 := k332.gi (Or.inl (tk_ne kM_at0 kM_at9 (by decide))) c307
            have c339 := k332.gi (Or.inl (tk_ne kM_at0 kM_at9 (by decide))) c309
            have c340 := k332.gi (Or.inl (tk_ne kM_at3 kM_at9 (by decide))) c327
            refine lv_aload_n hx hb dX12_tested_99 rfl (lv_at hl 2 rfl) ?_
            refine lv_dup hx hb dX12_tested_100 rfl ?_
            refine tk_geti hC hK hw hT hinX12 kM_at0 (by decide) rfl 22 (by decide) (List.mem_cons_of_mem _ uw_23_13) rfl rfl dX12_tested_101 (fun x341 c342 rx341 tx341 => ?_)
            refine wk_top x308 (c342.symm.trans c339) ?_
            replace hM := hM.rd (sI_at c339)
            refine lv_iconst (v := 1) hx hb dX12_tested_104 (by decide) ?_
            refine lv_iadd hx hb dX12_tested_105 ?_
            refine lv_topi (fun x343 ex343 => ?_)
            have ezx343 := ex343
            have ex343 : x343.toInt = x308.toInt + (1 : Int) := by rw [ex343]; exact wk_add (show (-2147483648) ≤ x308.toInt + (1 : Int) by omega) (show x308.toInt + (1 : Int) ≤ 2147483647 by omega)
            replace hM := hM.lt ex343.symm
            refine tk_puti hC hK hw hT hinX12 tyX12_ok nmX12 kM_at0 (by decide) rfl rfl 22 (by decide) (List.mem_cons_of_mem _ uw_23_13) rfl rfl rfl rfl (show 0 ≤ x343.toInt by first | with_reducible assumption | omega) (show x343.toInt ≤ 400 by first | with_reducible assumption | omega) dX12_tested_106 (fun H locs w344 hw hT k346 c345 => ?_)
            replace hM := hM.wr (sI_up k346 c345)
            have gn347 : binN w344 (x308.toInt).toNat = binN w330 (x308.toInt).toNat := bin_F1 _ k346 (by decide)
            have gn348 : binN w344 (x343.toInt).toNat = binN w330 (x343.toInt).toNat := bin_F1 _ k346 (by decide)
            have gt349 := bin_top (w := w330) (a := x343.toInt) (b := x308.toInt) (by omega) (by omega)
            have hO := OKW_F1 k346 (by decide) (by decide) (by decide) (by decide) hO
            have hE9 := E9_F1 k346 (by decide) hE9
            have hF := hF.put kM_at0 (k := 22) (by decide) k346
            have c350 := k346.gi (Or.inr (by decide)) c335
            have c351 := k346.gi (Or.inr (by decide)) c336
            have c352 := k346.gi (Or.inr (by decide)) c337
            have c353 := k346.gi (Or.inr (by decide)) c338
            have c354 := k346.gi (Or.inl (tk_ne kM_at3 kM_at0 (by decide))) c340
            refine lv_goto (tgt := 12) hx hb dX12_tested_109 (by decide) ?_
            exact ih12 1 f49_0_18 x306 x343 x326 H locs ls w344 (by decide) (by decide) (show 0 ≤ f0_.toInt from r26) (show f0_.toInt ≤ 5 from t27) (show 0 ≤ f49_0_18.toInt from Int.le_trans (by decide) r29) (show f49_0_18.toInt ≤ 60 from t30) (show (-60) ≤ x306.toInt by first | with_reducible assumption | omega) (show x306.toInt ≤ 10 by first | with_reducible assumption | omega) (show 0 ≤ x343.toInt by first | with_reducible assumption | omega) (show x343.toInt ≤ 280 by first | with_reducible assumption | omega) (show 0 ≤ x326.toInt by first | with_reducible assumption | omega) (show x326.toInt ≤ 280 by first | with_reducible assumption | omega) (show (binN w344 (x343.toInt).toNat : Int) = x343.toInt - x306.toInt by first | exact Int.le_antisymm (by omega) (by omega) | omega) (show 3 * (x326.toInt + x343.toInt) ≤ 14 * f49_0_18.toInt by omega) (show x343.toInt ≤ x306.toInt + f49_0_18.toInt by omega) (show x326.toInt ≤ 280 by first | with_reducible assumption | omega) (show x343.toInt ≤ 280 by first | with_reducible assumption | omega) (show -60 ≤ x306.toInt by first | with_reducible assumption | omega) (show (60 - f49_0_18.toInt).toNat < n12 by first | exact tn_lt hm12 (by omega) (by omega) | omega) hw hT hF (OKW_cast hO (show x308.toInt - x306.toInt + 1 = x343.toInt - x306.toInt + 1 - (1 : Int) by first | exact Int.le_antisymm (by omega) (by omega) | omega)) (E9_le hE9 (show x343.toInt ≤ _ by omega)) c351 c352 c353 c345 c354 hM (lv_sub hl [2, 1] rfl)
      replace hM := hM.suc (fun _ => e_X12_tested_12)
      have gl355 := bin_le w1 (f12_0_22.toInt).toNat
      refine lv_iload_n hx hb dX12_tested_12 rfl (lv_at hl 1 rfl) ?_
      refine lv_if_eq (tgt := 112) hx hb dX12_tested_13 (by decide) (fun c356 => ?_) (fun c356 => ?_)
      · have c356 : v12_1.toInt = (0 : Int) := wk_eq.mp c356
        replace hM := hM.pos c356
        refine lv_aload_n hx hb dX12_tested_112 rfl (lv_at hl 0 rfl) ?_
        refine tk_Vi hC hK hw hT hA hE hSR kM_at0 (by decide) rfl (kz_X12_isInside_1 l adK adV dC dI cy ad B hB0 (Int.le_trans hB1 (by decide)) qr s1    w1 H.size hT ) (cwV 0 hC.2.2.2.2 uV_RX12_197 rfl rfl rfl (by decide +kernel) ⟨Nat.le_of_ble_eq_true rfl, Nat.le_of_ble_eq_true rfl⟩) rfl hl.1 rfl (Nat.le_of_ble_eq_true rfl) dX12_tested_113 (fun r357 w359 H locs hp358 hw => ?_)
        obtain ⟨rfl, hv366, hg365⟩ := hp358
        rcases hg365 with ⟨rfl, hq361⟩ | ⟨rfl, ⟨x362, c363, rx362, tx362⟩, hq364⟩
        · replace hM := hM.call (r' := 0) hv366 (by decide)
          refine lv_if_eq (tgt := 134) hx hb dX12_tested_116 (by decide) (fun _ => ?_) (fun c => absurd (by decide) c)
          replace hM := hM.pos (by decide)
          refine lv_aload_n hx hb dX12_tested_134 rfl (lv_at hl 0 rfl) ?_
          refine lv_iconst (v := 1) hx hb dX12_tested_135 (by decide) ?_
          refine tk_Vv hC hK hw hT hA hE hSR kM_at0 (by decide) rfl (kz_X12_settles_1 l adK adV dC dI cy ad B hB0 (Int.le_trans hB1 (by decide)) qr s1    w1 H.size hT f0_ c6 (show 0 ≤ f0_.toInt from r4) (show f0_.toInt ≤ 5 from t5) f12_0_18 c9 (show 0 ≤ f12_0_18.toInt from r7) (show f12_0_18.toInt ≤ 60 from t8) f12_0_19 c12 (show (-100) ≤ f12_0_19.toInt from Int.le_trans (by decide) r10) (show f12_0_19.toInt ≤ 10 from t11) f12_0_22 c15 (show 0 ≤ f12_0_22.toInt from r13) (show f12_0_22.toInt ≤ 400 from Int.le_trans t14 (by decide)) f12_3__f0__toInt_toNat c18 (show 0 ≤ f12_3__f0__toInt_toNat.toInt from r16) (show f12_3__f0__toInt_toNat.toInt ≤ 400 from Int.le_trans t17 (by decide)) (show f12_3__f0__toInt_toNat.toInt + f12_0_22.toInt ≤ 390 by omega) (show f12_0_22.toInt ≤ f12_0_19.toInt + f12_0_18.toInt by omega) (show f12_3__f0__toInt_toNat.toInt ≤ 390 from Int.le_trans t17 (by decide)) (show f12_0_22.toInt ≤ 390 from Int.le_trans t14 (by decide)) (show (binN w1 (f12_0_22.toInt).toNat : Int) = f12_0_22.toInt - f12_0_19.toInt by first | exact Int.le_antisymm (by omega) (by omega) | omega) gb (f12_0_22.toInt - f12_0_19.toInt + 1 - v12_1.toInt) (OKW_cast hO (show f12_0_22.toInt - f12_0_19.toInt + 1 - v12_1.toInt = f12_0_22.toInt - f12_0_19.toInt + 1 by first | exact Int.le_antisymm (by omega) (by omega) | omega)) (E9_le hE9 (show f12_0_22.toInt ≤ _ by omega))) (cwV 1 hC.2.2.2.2 uV_RX12_194 rfl rfl rfl (by decide +kernel) ⟨Nat.le_of_ble_eq_true rfl, Nat.le_of_ble_eq_true rfl⟩) rfl hl.1 rfl (Nat.le_of_ble_eq_true rfl) dX12_tested_136 (fun w369 H locs hp368 hw => ?_)
          obtain ⟨hT, k370, hv389, hg388⟩ := hp368
          have gn390 : binN w369 (f12_0_22.toInt).toNat = binN w1 (f12_0_22.toInt).toNat := bin_FE _ k370 (fun _ => rfl)
          have hF := hF.tr k370 (by decide)
          have c391 := k370.gi kM_at0 (by decide) c6
          have c392 := k370.gi kM_at0 (by decide) c9
          obtain ⟨⟨x371, c372, rx371, tx371⟩, ⟨x373, c374, rx373, tx373⟩, ⟨x375, c376, rx375, tx375⟩, hq377, hq378, hq379, g380, g381, g382, g383, g384, g385, g386, g387⟩ := hg388
          replace hM := hM.call hv389 rfl
          have ex371 : x371.toInt = f0_.toInt := by rw [← c391.symm.trans c372]
          obtain ⟨x393, c394, rx393, tx393⟩ := hT.rda (lo := 0) (hi := 400) (i := (f0_.toInt).toNat) kM_at3 rfl rfl (by omega)
          have g380 : x393.toInt + x375.toInt = f12_3__f0__toInt_toNat.toInt + f12_0_22.toInt := by have q := g380; simp only [c6, c391, c18, c394, c15, c376] at q; first | with_reducible exact q | omega
          have g381 : x375.toInt ≤ f12_0_22.toInt := by have q := g381; simp only [c6, c391, c15, c376] at q; first | with_reducible exact q | omega
          have g382 : x375.toInt + f12_0_19.toInt ≤ f12_0_22.toInt + x373.toInt := by have q := g382; simp only [c6, c391, c12, c374, c15, c376] at q; first | with_reducible exact q | omega
          have g383 : x375.toInt ≤ x373.toInt + f12_0_18.toInt := by have q := g383; simp only [c6, c391, c374, c9, c376] at q; first | with_reducible exact q | omega
          have g384 : x375.toInt ≤ 390 := by have q := g384; simp only [c6, c391, c376] at q; first | with_reducible exact q | omega
          have g385 : x393.toInt ≤ 390 := by have q := g385; simp only [c6, c391, c394] at q; first | with_reducible exact q | omega
          have g386 : brkN w1 (x375.toInt).toNat = brkN w1 (f12_0_22.toInt).toNat := by have q := g386; simp only [c6, c391, c15, c376] at q; first | with_reducible exact q | omega
          have g387 : (binN w369 (x375.toInt).toNat : Int) = x375.toInt - x373.toInt := by have q := g387; simp only [c6, c391, c374, c376] at q; first | with_reducible exact q | omega
          have hO : OKW w369 f0_.toInt gb (x375.toInt - x373.toInt + 1) := by have q := hq378; simp only [c374, c376] at q; exact OKW_cast q (by omega)
          have hE9 : E9 w369 (x375.toInt) := by have q := hq379; simp only [c376] at q; exact q
          have hz395 : ∀ k : Int, 0 ≤ k → k < x375.toInt → ¬ (gi w369 9 k.toNat).toInt = 91 := fun k h0 h1 => by rw [show gi w369 9 k.toNat = gi w1 9 k.toNat from k370.gi kM_at9 rfl rfl]; exact hq361 k h0 (by rw [c15]; omega)
          have hz396 := hq377
          rw [c376] at hz396
          have hz397 := E9_end hE9 (by omega) hz395 hz396
          have gz398 : binN w369 (x375.toInt).toNat = 0 := by rw [hz397]; rfl
          refine lv_iconst (v := 1) hx hb dX12_tested_139 (by decide) ?_
          exact tk_zret hC hr rfl hlocks hK ⟨hT, hF, hM.ret (by decide), (Or.inr (Or.inr ⟨rfl, ⟨f0_, c391, (show 0 ≤ f0_.toInt from r4), (show f0_.toInt ≤ 5 from t5)⟩, ⟨x373, c374, (show (-60) ≤ x373.toInt by first | with_reducible assumption | omega), (show x373.toInt ≤ 10 by first | with_reducible assumption | omega)⟩, ⟨x375, c376, (show 0 ≤ x375.toInt by first | with_reducible assumption | omega), (show x375.toInt ≤ 390 from g384)⟩, (OKW_cast hO (by omega)), (by simp only [c391, cf0_, c394, c392]; omega)⟩))⟩ hw dX12_tested_140
        · replace hM := hM.call (r' := 1) hv366 (by decide)
          have ex362 : x362.toInt = f12_0_22.toInt := by rw [← c15.symm.trans c363]
          refine lv_if_eq (tgt := 134) hx hb dX12_tested_116 (by decide) (fun c => absurd c (by decide)) (fun _ => ?_)
          replace hM := hM.neg (by decide)
          refine lv_aload_n hx hb dX12_tested_119 rfl (lv_at hl 0 rfl) ?_
          obtain ⟨x399, c400, rx399, tx399⟩ := hT.rdi (lo := 0) (hi := 400) (k := 14) kM_at0 (by decide) rfl
          refine tk_Vi hC hK hw hT hA hE hSR kM_at0 (by decide) rfl (kz_X12_see_1 l adK adV dC dI cy ad B hB0 (Int.le_trans hB1 (by decide)) qr s1    w1 H.size hT x399 c400 (show 0 ≤ x399.toInt by first | with_reducible assumption | omega) (show x399.toInt ≤ 400 by first | with_reducible assumption | omega)) (cwV 0 hC.2.2.2.2 uV_RX12_97 rfl rfl rfl (by decide +kernel) ⟨Nat.le_of_ble_eq_true rfl, Nat.le_of_ble_eq_true rfl⟩) rfl hl.1 rfl (Nat.le_of_ble_eq_true rfl) dX12_tested_120 (fun r401 w403 H locs hp402 hw => ?_)
          obtain ⟨hT, k404, hv422, hg421⟩ := hp402
          have hO := OKW_FE k404 (fun _ => rfl) (fun _ => rfl) (fun _ => rfl) (fun _ => rfl) hO
          have hE9 := E9_FE k404 (fun _ => rfl) hE9
          have gn423 : binN w403 (f12_0_22.toInt).toNat = binN w1 (f12_0_22.toInt).toNat := bin_FE _ k404 (fun _ => rfl)
          have hF := hF.tr k404 (by decide)
          have c424 := k404.gi kM_at0 (by decide) c6
          have c425 := k404.gi kM_at0 (by decide) c9
          have c426 := k404.gi kM_at0 (by decide) c12
          have c427 := k404.gi kM_at0 (by decide) c15
          have c428 := k404.gi kM_at3 rfl c18
          rcases hg421 with ⟨g405, g406, ⟨x407, c408, rx407, tx407⟩, ⟨x409, c410, rx409, tx409⟩, g411, g412⟩ | ⟨rfl, ⟨x413, c414, rx413, tx413⟩, ⟨x415, c416, rx415, tx415⟩, g417⟩ | ⟨rfl, ⟨x418, c419, rx418, tx418⟩, g420⟩
          · replace hM := hM.call hv422 rfl
            have g411 : (gi w403 1 (x409.toInt).toNat).toInt ≠ 32 := by have q := g411; simp only [c6, c424, c410] at q; first | with_reducible exact q | omega
            have g412 : (x409.toInt = x399.toInt ∨ (gi w1 1 (x399.toInt).toNat).toInt = 32) := by have q := g412; simp only [c6, c424, c400, c410] at q; first | with_reducible exact q | omega
            refine lv_pop hx hb dX12_tested_123 rfl ?_
            refine lv_aload_n hx hb dX12_tested_124 rfl (lv_at hl 0 rfl) ?_
            refine lv_iconst (v := 0) hx hb dX12_tested_125 (by decide) ?_
            refine lv_aload_n hx hb dX12_tested_126 rfl (lv_at hl 0 rfl) ?_
            refine tk_geti hC hK hw hT hinX12 kM_at0 (by decide) rfl 14 (by decide) (List.mem_cons_of_mem _ uw_19_18) rfl rfl dX12_tested_127 (fun x431 c432 rx431 tx431 => ?_)
            refine wk_top x409 (c432.symm.trans c410) ?_
            replace hM := hM.rd (sI_at c410)
            refine tk_Vi hC hK hw hT hA hE hSR kM_at0 (by decide) rfl (kz_X12_fails_1 l adK adV dC dI cy ad B hB0 (Int.le_trans hB1 (by decide)) qr s1   0 (by decide) (by decide) x409 (show 0 ≤ x409.toInt by first | with_reducible assumption | omega) (show x409.toInt ≤ 400 by first | with_reducible assumption | omega) w403 H.size hT ) (cwV 2 hC.2.2.2.2 uV_RX12_115 rfl rfl rfl (by decide +kernel) ⟨Nat.le_of_ble_eq_true rfl, Nat.le_of_ble_eq_true rfl⟩) rfl hl.1 rfl (Nat.le_of_ble_eq_true rfl) dX12_tested_130 (fun r433 w435 H locs hp434 hw => ?_)
            obtain ⟨hT, k436, hv440, hg439⟩ := hp434
            try simp only [show (0 : Int32).toInt = 0 by decide] at hv440
            have hO := OKW_FE k436 (fun _ => rfl) (fun _ => rfl) (fun _ => rfl) (fun _ => rfl) hO
            have hE9 := E9_FE k436 (fun _ => rfl) hE9
            have gn441 : binN w435 (f12_0_22.toInt).toNat = binN w403 (f12_0_22.toInt).toNat := bin_FE _ k436 (fun _ => rfl)
            have hF := hF.tr k436 (by decide)
            have c442 := k436.gi kM_at0 (by decide) c424
            have c443 := k436.gi kM_at0 (by decide) c425
            have c444 := k436.gi kM_at0 (by decide) c426
            have c445 := k436.gi kM_at0 (by decide) c427
            have c446 := k436.gi kM_at3 rfl c428
            have c447 := k436.gi kM_at0 (by decide) c408
            have c448 := k436.gi kM_at0 (by decide) c410
            obtain ⟨rfl, ⟨x437, c438, rx437, tx437⟩⟩ := hg439
            replace hM := hM.call (r' := 0) hv440 (by decide)
            exact tk_zret hC hr rfl hlocks hK ⟨hT, hF, hM.ret (by decide), (Or.inl ⟨rfl, ⟨x407, c447, (show 1 ≤ x407.toInt by first | with_reducible assumption | omega), (show x407.toInt ≤ 400 by first | with_reducible assumption | omega)⟩, ⟨x437, c438, (show 1 ≤ x437.toInt by first | with_reducible assumption | omega), (show x437.toInt ≤ 3205 by first | with_reducible assumption | omega)⟩, ⟨f0_, c442, (show 0 ≤ f0_.toInt from r4), (show f0_.toInt ≤ 5 from t5)⟩, ⟨f12_0_22, c445, (show 0 ≤ f12_0_22.toInt from r13), (show f12_0_22.toInt ≤ 399 from Int.le_trans t14 (by decide))⟩, hO.1⟩)⟩ hw dX12_tested_133
          · replace hM := hM.call (r' := (-1)) hv422 (by decide)
            have g417 : (x415.toInt = x399.toInt ∨ (gi w1 1 (x399.toInt).toNat).toInt = 32) := by have q := g417; simp only [c6, c424, c400, c416] at q; first | with_reducible exact q | omega
            refine lv_pop hx hb dX12_tested_123 rfl ?_
            refine lv_aload_n hx hb dX12_tested_124 rfl (lv_at hl 0 rfl) ?_
            refine lv_iconst (v := 0) hx hb dX12_tested_125 (by decide) ?_
            refine lv_aload_n hx hb dX12_tested_126 rfl (lv_at hl 0 rfl) ?_
            refine tk_geti hC hK hw hT hinX12 kM_at0 (by decide) rfl 14 (by decide) (List.mem_cons_of_mem _ uw_19_18) rfl rfl dX12_tested_127 (fun x449 c450 rx449 tx449 => ?_)
            refine wk_top x415 (c450.symm.trans c416) ?_
            replace hM := hM.rd (sI_at c416)
            refine tk_Vi hC hK hw hT hA hE hSR kM_at0 (by decide) rfl (kz_X12_fails_1 l adK adV dC dI cy ad B hB0 (Int.le_trans hB1 (by decide)) qr s1   0 (by decide) (by decide) x415 (show 0 ≤ x415.toInt by first | with_reducible assumption | omega) (show x415.toInt ≤ 400 by first | with_reducible assumption | omega) w403 H.size hT ) (cwV 2 hC.2.2.2.2 uV_RX12_115 rfl rfl rfl (by decide +kernel) ⟨Nat.le_of_ble_eq_true rfl, Nat.le_of_ble_eq_true rfl⟩) rfl hl.1 rfl (Nat.le_of_ble_eq_true rfl) dX12_tested_130 (fun r451 w453 H locs hp452 hw => ?_)
            obtain ⟨hT, k454, hv458, hg457⟩ := hp452
            try simp only [show (0 : Int32).toInt = 0 by decide] at hv458
            have hO := OKW_FE k454 (fun _ => rfl) (fun _ => rfl) (fun _ => rfl) (fun _ => rfl) hO
            have hE9 := E9_FE k454 (fun _ => rfl) hE9
            have gn459 : binN w453 (f12_0_22.toInt).toNat = binN w403 (f12_0_22.toInt).toNat := bin_FE _ k454 (fun _ => rfl)
            have hF := hF.tr k454 (by decide)
            have c460 := k454.gi kM_at0 (by decide) c424
            have c461 := k454.gi kM_at0 (by decide) c425
            have c462 := k454.gi kM_at0 (by decide) c426
            have c463 := k454.gi kM_at0 (by decide) c427
            have c464 := k454.gi kM_at3 rfl c428
            have c465 := k454.gi kM_at0 (by decide) c414
            have c466 := k454.gi kM_at0 (by decide) c416
            obtain ⟨rfl, ⟨x455, c456, rx455, tx455⟩⟩ := hg457
            replace hM := hM.call (r' := 0) hv458 (by decide)
            exact tk_zret hC hr rfl hlocks hK ⟨hT, hF, hM.ret (by decide), (Or.inl ⟨rfl, ⟨x413, c465, (show 1 ≤ x413.toInt by first | with_reducible assumption | omega), (show x413.toInt ≤ 400 by first | with_reducible assumption | omega)⟩, ⟨x455, c456, (show 1 ≤ x455.toInt by first | with_reducible assumption | omega), (show x455.toInt ≤ 3205 by first | with_reducible assumption | omega)⟩, ⟨f0_, c460, (show 0 ≤ f0_.toInt from r4), (show f0_.toInt ≤ 5 from t5)⟩, ⟨f12_0_22, c463, (show 0 ≤ f12_0_22.toInt from r13), (show f12_0_22.toInt ≤ 399 from Int.le_trans t14 (by decide))⟩, hO.1⟩)⟩ hw dX12_tested_133
          · replace hM := hM.call (r' := (-1)) hv422 (by decide)
            obtain ⟨x429, c430, rx429, tx429⟩ := hT.rdi (lo := 0) (hi := 400) (k := 14) kM_at0 (by decide) rfl
            have g420 : (x429.toInt = x399.toInt ∨ (gi w1 1 (x399.toInt).toNat).toInt = 32) := by have q := g420; simp only [c6, c424, c400, c430] at q; first | with_reducible exact q | omega
            refine lv_pop hx hb dX12_tested_123 rfl ?_
            refine lv_aload_n hx hb dX12_tested_124 rfl (lv_at hl 0 rfl) ?_
            refine lv_iconst (v := 0) hx hb dX12_tested_125 (by decide) ?_
            refine lv_aload_n hx hb dX12_tested_126 rfl (lv_at hl 0 rfl) ?_
            refine tk_geti hC hK hw hT hinX12 kM_at0 (by decide) rfl 14 (by decide) (List.mem_cons_of_mem _ uw_19_18) rfl rfl dX12_tested_127 (fun x467 c468 rx467 tx467 => ?_)
            refine wk_top x429 (c468.symm.trans c430) ?_
            replace hM := hM.rd (sI_at c430)
            refine tk_Vi hC hK hw hT hA hE hSR kM_at0 (by decide) rfl (kz_X12_fails_1 l adK adV dC dI cy ad B hB0 (Int.le_trans hB1 (by decide)) qr s1   0 (by decide) (by decide) x429 (show 0 ≤ x429.toInt by first | with_reducible assumption | omega) (show x429.toInt ≤ 400 by first | with_reducible assumption | omega) w403 H.size hT ) (cwV 2 hC.2.2.2.2 uV_RX12_115 rfl rfl rfl (by decide +kernel) ⟨Nat.le_of_ble_eq_true rfl, Nat.le_of_ble_eq_true rfl⟩) rfl hl.1 rfl (Nat.le_of_ble_eq_true rfl) dX12_tested_130 (fun r469 w471 H locs hp470 hw => ?_)
            obtain ⟨hT, k472, hv476, hg475⟩ := hp470
            try simp only [show (0 : Int32).toInt = 0 by decide] at hv476
            have hO := OKW_FE k472 (fun _ => rfl) (fun _ => rfl) (fun _ => rfl) (fun _ => rfl) hO
            have hE9 := E9_FE k472 (fun _ => rfl) hE9
            have gn477 : binN w471 (f12_0_22.toInt).toNat = binN w403 (f12_0_22.toInt).toNat := bin_FE _ k472 (fun _ => rfl)
            have hF := hF.tr k472 (by decide)
            have c478 := k472.gi kM_at0 (by decide) c424
            have c479 := k472.gi kM_at0 (by decide) c425
            have c480 := k472.gi kM_at0 (by decide) c426
            have c481 := k472.gi kM_at0 (by decide) c427
            have c482 := k472.gi kM_at3 rfl c428
            have c483 := k472.gi kM_at0 (by decide) c419
            have c484 := k472.gi kM_at0 (by decide) c430
            obtain ⟨rfl, ⟨x473, c474, rx473, tx473⟩⟩ := hg475
            replace hM := hM.call (r' := 0) hv476 (by decide)
            exact tk_zret hC hr rfl hlocks hK ⟨hT, hF, hM.ret (by decide), (Or.inr (Or.inl ⟨rfl, ⟨x418, c483, (show 0 ≤ x418.toInt by first | with_reducible assumption | omega), (show x418.toInt ≤ 400 by first | with_reducible assumption | omega)⟩, ⟨x473, c474, (show 1 ≤ x473.toInt by first | with_reducible assumption | omega), (show x473.toInt ≤ 3205 by first | with_reducible assumption | omega)⟩, ⟨f0_, c478, (show 0 ≤ f0_.toInt from r4), (show f0_.toInt ≤ 5 from t5)⟩, ⟨f12_0_22, c481, (show 0 ≤ f12_0_22.toInt from r13), (show f12_0_22.toInt ≤ 399 from Int.le_trans t14 (by decide))⟩, hO.1⟩))⟩ hw dX12_tested_133
      · have c356 : ¬ v12_1.toInt = (0 : Int) := wk_eqF c356
        replace hM := hM.neg c356
        refine lv_aload_n hx hb dX12_tested_16 rfl (lv_at hl 0 rfl) ?_
        refine tk_Vi hC hK hw hT hA hE hSR kM_at0 (by decide) rfl (kz_X12_fact_1 l adK adV dC dI cy ad B hB0 (Int.le_trans hB1 (by decide)) qr s1    w1 H.size hT f0_ c6 (show 0 ≤ f0_.toInt from r4) (show f0_.toInt ≤ 5 from t5) f12_0_18 c9 (show 0 ≤ f12_0_18.toInt from r7) (show f12_0_18.toInt ≤ 60 from t8) f12_0_19 c12 (show (-100) ≤ f12_0_19.toInt from Int.le_trans (by decide) r10) (show f12_0_19.toInt ≤ 10 from t11) f12_0_22 c15 (show 0 ≤ f12_0_22.toInt from r13) (show f12_0_22.toInt ≤ 400 from Int.le_trans t14 (by decide)) f12_3__f0__toInt_toNat c18 (show 0 ≤ f12_3__f0__toInt_toNat.toInt from r16) (show f12_3__f0__toInt_toNat.toInt ≤ 400 from Int.le_trans t17 (by decide)) (show 3 * (f12_3__f0__toInt_toNat.toInt + f12_0_22.toInt) ≤ 14 * f12_0_18.toInt by omega) (show f12_0_22.toInt ≤ f12_0_19.toInt + f12_0_18.toInt by omega) (show f12_3__f0__toInt_toNat.toInt ≤ 280 from t17) (show f12_0_22.toInt ≤ 280 from t14) (show (binN w1 (f12_0_22.toInt).toNat : Int) = f12_0_22.toInt - f12_0_19.toInt by first | exact Int.le_antisymm (by omega) (by omega) | omega) gb (f12_0_22.toInt - f12_0_19.toInt + 1 - v12_1.toInt) (OKW_cast hO (show f12_0_22.toInt - f12_0_19.toInt + 1 - v12_1.toInt = f12_0_22.toInt - f12_0_19.toInt by first | exact Int.le_antisymm (by omega) (by omega) | omega)) (E9_le hE9 (show f12_0_22.toInt ≤ _ by omega))) (cwV 0 hC.2.2.2.2 uV_RX12_200 rfl rfl rfl (by decide +kernel) ⟨Nat.le_of_ble_eq_true rfl, Nat.le_of_ble_eq_true rfl⟩) rfl hl.1 rfl (Nat.le_of_ble_eq_true rfl) dX12_tested_17 (fun r485 w487 H locs hp486 hw => ?_)
        obtain ⟨hT, k488, hv524, hg523⟩ := hp486
        have hF := hF.tr k488 (by decide)
        have c525 := k488.gi kM_at0 (by decide) c6
        rcases hg523 with ⟨rfl, ⟨x489, c490, rx489, tx489⟩, ⟨x491, c492, rx491, tx491⟩, ⟨x493, c494, rx493, tx493⟩, ⟨x495, c496, rx495, tx495⟩, hq497⟩ | ⟨rfl, ⟨x498, c499, rx498, tx498⟩, ⟨x500, c501, rx500, tx500⟩, ⟨x502, c503, rx502, tx502⟩, ⟨x504, c505, rx504, tx504⟩, hq506⟩ | ⟨rfl, ⟨x507, c508, rx507, tx507⟩, ⟨x509, c510, rx509, tx509⟩, ⟨x511, c512, rx511, tx511⟩, ⟨x513, c514, rx513, tx513⟩, hq515, hq516, g517, g518, g519, g520, g521, g522⟩
        · replace hM := hM.call (r' := 0) hv524 (by decide)
          have ex493 : x493.toInt = f0_.toInt := by rw [← c525.symm.trans c494]
          obtain ⟨x526, c527, rx526, tx526⟩ := hT.rda (lo := 0) (hi := 400) (i := (f0_.toInt).toNat) kM_at3 rfl rfl (by omega)
          obtain ⟨x528, c529, rx528, tx528⟩ := hT.rdi (lo := 0) (hi := 60) (k := 18) kM_at0 (by decide) rfl
          obtain ⟨x530, c531, rx530, tx530⟩ := hT.rdi (lo := (-100)) (hi := 10) (k := 19) kM_at0 (by decide) rfl
          have hR := hq497
          refine lv_if_ne (tgt := 25) hx hb dX12_tested_20 (by decide) (fun c => absurd (by decide) c) (fun _ => ?_)
          replace hM := hM.neg (by decide)
          refine lv_iconst (v := 0) hx hb dX12_tested_23 (by decide) ?_
          exact tk_zret hC hr rfl hlocks hK ⟨hT, hF, hM.ret (by decide), (Or.inl ⟨rfl, ⟨x489, c490, (show 1 ≤ x489.toInt by first | with_reducible assumption | omega), (show x489.toInt ≤ 400 by first | with_reducible assumption | omega)⟩, ⟨x491, c492, (show 1 ≤ x491.toInt by first | with_reducible assumption | omega), (show x491.toInt ≤ 3205 by first | with_reducible assumption | omega)⟩, ⟨f0_, c525, (show 0 ≤ f0_.toInt from r4), (show f0_.toInt ≤ 5 from t5)⟩, ⟨x495, c496, (show 0 ≤ x495.toInt by first | with_reducible assumption | omega), (show x495.toInt ≤ 399 by first | with_reducible assumption | omega)⟩, hR⟩)⟩ hw dX12_tested_24
        · replace hM := hM.call (r' := 0) hv524 (by decide)
          have ex502 : x502.toInt = f0_.toInt := by rw [← c525.symm.trans c503]
          obtain ⟨x532, c533, rx532, tx532⟩ := hT.rda (lo := 0) (hi := 400) (i := (f0_.toInt).toNat) kM_at3 rfl rfl (by omega)
          obtain ⟨x534, c535, rx534, tx534⟩ := hT.rdi (lo := 0) (hi := 60) (k := 18) kM_at0 (by decide) rfl
          obtain ⟨x536, c537, rx536, tx536⟩ := hT.rdi (lo := (-100)) (hi := 10) (k := 19) kM_at0 (by decide) rfl
          have hR := hq506
          refine lv_if_ne (tgt := 25) hx hb dX12_tested_20 (by decide) (fun c => absurd (by decide) c) (fun _ => ?_)
          replace hM := hM.neg (by decide)
          refine lv_iconst (v := 0) hx hb dX12_tested_23 (by decide) ?_
          exact tk_zret hC hr rfl hlocks hK ⟨hT, hF, hM.ret (by decide), (Or.inr (Or.inl ⟨rfl, ⟨x498, c499, (show 0 ≤ x498.toInt by first | with_reducible assumption | omega), (show x498.toInt ≤ 400 by first | with_reducible assumption | omega)⟩, ⟨x500, c501, (show 1 ≤ x500.toInt by first | with_reducible assumption | omega), (show x500.toInt ≤ 3205 by first | with_reducible assumption | omega)⟩, ⟨f0_, c525, (show 0 ≤ f0_.toInt from r4), (show f0_.toInt ≤ 5 from t5)⟩, ⟨x504, c505, (show 0 ≤ x504.toInt by first | with_reducible assumption | omega), (show x504.toInt ≤ 399 by first | with_reducible assumption | omega)⟩, hR⟩))⟩ hw dX12_tested_24
        · replace hM := hM.call (r' := 1) hv524 (by decide)
          have ex509 : x509.toInt = f0_.toInt := by rw [← c525.symm.trans c510]
          obtain ⟨x538, c539, rx538, tx538⟩ := hT.rda (lo := 0) (hi := 400) (i := (f0_.toInt).toNat) kM_at3 rfl rfl (by omega)
          obtain ⟨x540, c541, rx540, tx540⟩ := hT.rdi (lo := (-100)) (hi := 10) (k := 19) kM_at0 (by decide) rfl
          have g517 : 3 * (x538.toInt + x513.toInt) + 3 ≤ 14 * x511.toInt := by have q := g517; simp only [c6, c525, c539, c512, c514] at q; first | with_reducible exact q | omega
          have g518 : x513.toInt + 3 ≤ x540.toInt + x511.toInt := by have q := g518; simp only [c6, c525, c541, c512, c514] at q; first | with_reducible exact q | omega
          have g519 : f12_0_18.toInt + 3 ≤ x511.toInt := by have q := g519; simp only [c6, c525, c9, c512] at q; first | with_reducible exact q | omega
          have g520 : x538.toInt ≤ 280 := by have q := g520; simp only [c6, c525, c539] at q; first | with_reducible exact q | omega
          have g521 : x513.toInt ≤ 280 := by have q := g521; simp only [c6, c525, c514] at q; first | with_reducible exact q | omega
          have g522 : (binN w487 (x513.toInt).toNat : Int) = x513.toInt - x540.toInt := by have q := g522; simp only [c6, c525, c541, c514] at q; first | with_reducible exact q | omega
          have hO : OKW w487 f0_.toInt gb (x513.toInt - x540.toInt + 1) := by have q := hq515; simp only [c541, c514] at q; exact OKW_cast q (by omega)
          have hE9 : E9 w487 (x513.toInt) := by have q := hq516; simp only [c514] at q; exact q
          refine lv_if_ne (tgt := 25) hx hb dX12_tested_20 (by decide) (fun _ => ?_) (fun c => absurd c (by decide))
          replace hM := hM.pos (by decide)
          refine lv_aload_n hx hb dX12_tested_25 rfl (lv_at hl 0 rfl) ?_
          refine tk_Vv hC hK hw hT hA hE hSR kM_at0 (by decide) rfl (kz_X12_closes_1 l adK adV dC dI cy ad B hB0 (Int.le_trans hB1 (by decide)) qr s1    w487 H.size hT f0_ c525 (show 0 ≤ f0_.toInt from r4) (show f0_.toInt ≤ 5 from t5) x511 c512 (show 0 ≤ x511.toInt by first | with_reducible assumption | omega) (show x511.toInt ≤ 60 by first | with_reducible assumption | omega) x540 c541 (show (-100) ≤ x540.toInt by first | with_reducible assumption | omega) (show x540.toInt ≤ 10 by first | with_reducible assumption | omega) x513 c514 (show 0 ≤ x513.toInt by first | with_reducible assumption | omega) (show x513.toInt ≤ 400 from Int.le_trans g521 (by decide)) x538 c539 (show 0 ≤ x538.toInt by first | with_reducible assumption | omega) (show x538.toInt ≤ 400 from Int.le_trans g520 (by decide)) (show x538.toInt + x513.toInt ≤ 390 by omega) (show x513.toInt ≤ x540.toInt + x511.toInt by omega) (show x538.toInt ≤ 390 from Int.le_trans g520 (by decide)) (show x513.toInt ≤ 390 from Int.le_trans g521 (by decide)) (show (binN w487 (x513.toInt).toNat : Int) = x513.toInt - x540.toInt by first | exact Int.le_antisymm (by omega) (by omega) | omega) gb (x513.toInt - x540.toInt + 1) (OKW_cast hO (show x513.toInt - x540.toInt + 1 = x513.toInt - x540.toInt + 1 from rfl)) (E9_le hE9 (show x513.toInt ≤ _ by omega))) (cwV 0 hC.2.2.2.2 uV_RX12_203 rfl rfl rfl (by decide +kernel) ⟨Nat.le_of_ble_eq_true rfl, Nat.le_of_ble_eq_true rfl⟩) rfl hl.1 rfl (Nat.le_of_ble_eq_true rfl) dX12_tested_26 (fun w544 H locs hp543 hw => ?_)
          obtain ⟨hT, k545, hv563, hg562⟩ := hp543
          have gn564 : binN w544 (x513.toInt).toNat = binN w487 (x513.toInt).toNat := bin_FE _ k545 (fun _ => rfl)
          have hF := hF.tr k545 (by decide)
          have c565 := k545.gi kM_at0 (by decide) c525
          have c566 := k545.gi kM_at0 (by decide) c508
          have c567 := k545.gi kM_at0 (by decide) c512
          obtain ⟨⟨x546, c547, rx546, tx546⟩, ⟨x548, c549, rx548, tx548⟩, ⟨x550, c551, rx550, tx550⟩, ⟨x552, c553, rx552, tx552⟩, hq554, hq555, g556, g557, g558, g559, g560, g561⟩ := hg562
          replace hM := hM.call hv563 rfl
          have ex546 : x546.toInt = x507.toInt := by rw [← c566.symm.trans c547]
          have ex548 : x548.toInt = f0_.toInt := by rw [← c565.symm.trans c549]
          obtain ⟨x568, c569, rx568, tx568⟩ := hT.rda (lo := 0) (hi := 400) (i := (f0_.toInt).toNat) kM_at3 rfl rfl (by omega)
          have g556 : x568.toInt + x552.toInt ≤ x538.toInt + x513.toInt := by have q := g556; simp only [c525, c565, c539, c569, c514, c553] at q; first | with_reducible exact q | omega
          have g557 : x552.toInt + x540.toInt ≤ x513.toInt + x550.toInt := by have q := g557; simp only [c525, c565, c541, c551, c514, c553] at q; first | with_reducible exact q | omega
          have g558 : x552.toInt ≤ x550.toInt + x511.toInt := by have q := g558; simp only [c525, c565, c551, c512, c553] at q; first | with_reducible exact q | omega
          have g559 : x552.toInt ≤ 390 := by have q := g559; simp only [c525, c565, c553] at q; first | with_reducible exact q | omega
          have g560 : x568.toInt ≤ 390 := by have q := g560; simp only [c525, c565, c569] at q; first | with_reducible exact q | omega
          have g561 : (binN w544 (x552.toInt).toNat : Int) = x552.toInt - x550.toInt := by have q := g561; simp only [c525, c565, c551, c553] at q; first | with_reducible exact q | omega
          have hO : OKW w544 f0_.toInt gb (x552.toInt - x550.toInt + 1) := by have q := hq554; simp only [c551, c553] at q; exact OKW_cast q (by omega)
          have hE9 : E9 w544 (x552.toInt) := by have q := hq555; simp only [c553] at q; exact q
          refine lv_aload_n hx hb dX12_tested_29 rfl (lv_at hl 0 rfl) ?_
          refine lv_ldc2 (v := 6385252) hx hb hC.2.2.2.1 (hC.2.2.2.2 _ (List.mem_cons_of_mem _ uw_23_15)) dX12_tested_30 ?_
          obtain ⟨x570, c571, rx570, tx570⟩ := hT.rdi (lo := 0) (hi := 400) (k := 14) kM_at0 (by decide) rfl
          refine tk_Vi hC hK hw hT hA hE hSR kM_at0 (by decide) rfl (kz_X12_isWord_10 l adK adV dC dI cy ad B hB0 (Int.le_trans hB1 (by decide)) qr s1    w544 H.size hT x570 c571 (show 0 ≤ x570.toInt by first | with_reducible assumption | omega) (show x570.toInt ≤ 400 by first | with_reducible assumption | omega)) (cwV 1 hC.2.2.2.2 uV_RX12_105 rfl rfl rfl (by decide +kernel) ⟨Nat.le_of_ble_eq_true rfl, Nat.le_of_ble_eq_true rfl⟩) rfl hl.1 rfl (Nat.le_of_ble_eq_true rfl) dX12_tested_33 (fun r572 w574 H locs hp573 hw => ?_)
          obtain ⟨hT, k575, hv583, hg582⟩ := hp573
          have hO := OKW_FE k575 (fun _ => rfl) (fun _ => rfl) (fun _ => rfl) (fun _ => rfl) hO
          have hE9 := E9_FE k575 (fun _ => rfl) hE9
          have gn584 : binN w574 (x552.toInt).toNat = binN w544 (x552.toInt).toNat := bin_FE _ k575 (fun _ => rfl)
          have hF := hF.tr k575 (by decide)
          have c585 := k575.gi kM_at0 (by decide) c565
          have c586 := k575.gi kM_at0 (by decide) c566
          have c587 := k575.gi kM_at0 (by decide) c567
          have c588 := k575.gi kM_at0 (by decide) c551
          have c589 := k575.gi kM_at0 (by decide) c553
          have c590 := k575.gi kM_at3 rfl c569
          rcases hg582 with ⟨rfl, ⟨x576, c577, rx576, tx576⟩, g578⟩ | ⟨rfl, ⟨x579, c580, rx579, tx579⟩, g581⟩
          · replace hM := hM.call (r' := 0) hv583 (by decide)
            have ex576 : x576.toInt = x507.toInt := by rw [← c586.symm.trans c577]
            obtain ⟨x591, c592, rx591, tx591⟩ := hT.rdi (lo := 0) (hi := 400) (k := 14) kM_at0 (by decide) rfl
            have g578 : (x591.toInt = x570.toInt ∨ (gi w544 1 (x570.toInt).toNat).toInt = 32) := by have q := g578; simp only [c565, c585, c571, c592] at q; first | with_reducible exact q | omega
            refine lv_if_ne (tgt := 49) hx hb dX12_tested_36 (by decide) (fun c => absurd (by decide) c) (fun _ => ?_)
            replace hM := hM.neg (by decide)
            refine lv_aload_n hx hb dX12_tested_39 rfl (lv_at hl 0 rfl) ?_
            refine lv_ldc2 (v := 28530) hx hb hC.2.2.2.1 (hC.2.2.2.2 _ (List.mem_cons_of_mem _ uw_23_16)) dX12_tested_40 ?_
            refine tk_Vi hC hK hw hT hA hE hSR kM_at0 (by decide) rfl (kz_X12_isWord_22 l adK adV dC dI cy ad B hB0 (Int.le_trans hB1 (by decide)) qr s1    w574 H.size hT x591 c592 (show 0 ≤ x591.toInt by first | with_reducible assumption | omega) (show x591.toInt ≤ 400 by first | with_reducible assumption | omega)) (cwV 1 hC.2.2.2.2 uV_RX12_105 rfl rfl rfl (by decide +kernel) ⟨Nat.le_of_ble_eq_true rfl, Nat.le_of_ble_eq_true rfl⟩) rfl hl.1 rfl (Nat.le_of_ble_eq_true rfl) dX12_tested_43 (fun r595 w597 H locs hp596 hw => ?_)
            obtain ⟨hT, k598, hv606, hg605⟩ := hp596
            have hO := OKW_FE k598 (fun _ => rfl) (fun _ => rfl) (fun _ => rfl) (fun _ => rfl) hO
            have hE9 := E9_FE k598 (fun _ => rfl) hE9
            have gn607 : binN w597 (x552.toInt).toNat = binN w574 (x552.toInt).toNat := bin_FE _ k598 (fun _ => rfl)
            have hF := hF.tr k598 (by decide)
            have c608 := k598.gi kM_at0 (by decide) c585
            have c609 := k598.gi kM_at0 (by decide) c586
            have c610 := k598.gi kM_at0 (by decide) c587
            have c611 := k598.gi kM_at0 (by decide) c588
            have c612 := k598.gi kM_at0 (by decide) c589
            have c613 := k598.gi kM_at3 rfl c590
            rcases hg605 with ⟨rfl, ⟨x599, c600, rx599, tx599⟩, g601⟩ | ⟨rfl, ⟨x602, c603, rx602, tx602⟩, g604⟩
            · replace hM := hM.call (r' := 0) hv606 (by decide)
              have ex599 : x599.toInt = x507.toInt := by rw [← c609.symm.trans c600]
              obtain ⟨x614, c615, rx614, tx614⟩ := hT.rdi (lo := 0) (hi := 400) (k := 14) kM_at0 (by decide) rfl
              have g601 : (x614.toInt = x591.toInt ∨ (gi w574 1 (x591.toInt).toNat).toInt = 32) := by have q := g601; simp only [c585, c608, c592, c615] at q; first | with_reducible exact q | omega
              refine lv_if_eq (tgt := 53) hx hb dX12_tested_46 (by decide) (fun _ => ?_) (fun c => absurd (by decide) c)
              replace hM := hM.pos (by decide)
              refine lv_iconst (v := 0) hx hb dX12_tested_53 (by decide) ?_
              refine lv_istore_n (lv' := [(1, .int 0), (0, .ref (ad 0))]) hx hb dX12_tested_54 rfl hl (by decide) rfl (fun ls hl => ?_)
              refine lv_iload_n hx hb dX12_tested_55 rfl (lv_at hl 0 rfl) ?_
              refine lv_if_eq (tgt := 12) hx hb dX12_tested_56 (by decide) (fun _ => ?_) (fun c => absurd (by decide) c)
              replace hM := hM.pos (by decide)
              exact ih12 0 x511 x550 x552 x568 H locs ls w597 (by decide) (by decide) (show 0 ≤ f0_.toInt from r4) (show f0_.toInt ≤ 5 from t5) (show 0 ≤ x511.toInt by first | with_reducible assumption | omega) (show x511.toInt ≤ 60 by first | with_reducible assumption | omega) (show (-60) ≤ x550.toInt by first | with_reducible assumption | omega) (show x550.toInt ≤ 10 by first | with_reducible assumption | omega) (show 0 ≤ x552.toInt by first | with_reducible assumption | omega) (show x552.toInt ≤ 280 by first | with_reducible assumption | omega) (show 0 ≤ x568.toInt by first | with_reducible assumption | omega) (show x568.toInt ≤ 280 by first | with_reducible assumption | omega) (show (binN w597 (x552.toInt).toNat : Int) = x552.toInt - x550.toInt by first | exact Int.le_antisymm (by omega) (by omega) | omega) (show 3 * (x568.toInt + x552.toInt) ≤ 14 * x511.toInt by omega) (show x552.toInt ≤ x550.toInt + x511.toInt from g558) (show x568.toInt ≤ 280 by first | with_reducible assumption | omega) (show x552.toInt ≤ 280 by first | with_reducible assumption | omega) (show -60 ≤ x550.toInt by first | with_reducible assumption | omega) (show (60 - x511.toInt).toNat < n12 by first | exact tn_lt hm12 (by omega) (by omega) | omega) hw hT hF (OKW_cast hO (show x552.toInt - x550.toInt + 1 = x552.toInt - x550.toInt + 1 - (0 : Int) by first | exact Int.le_antisymm (by omega) (by omega) | omega)) (E9_le hE9 (show x552.toInt ≤ _ by omega)) c608 c610 c611 c612 c613 hM (lv_sub hl [1, 0] rfl)
            · replace hM := hM.call (r' := 1) hv606 (by decide)
              have ex602 : x602.toInt = x507.toInt := by rw [← c609.symm.trans c603]
              obtain ⟨x616, c617, rx616, tx616⟩ := hT.rdi (lo := 0) (hi := 400) (k := 14) kM_at0 (by decide) rfl
              have g604 : (x616.toInt = x591.toInt ∨ (gi w574 1 (x591.toInt).toNat).toInt = 32) := by have q := g604; simp only [c585, c608, c592, c617] at q; first | with_reducible exact q | omega
              refine lv_if_eq (tgt := 53) hx hb dX12_tested_46 (by decide) (fun c => absurd c (by decide)) (fun _ => ?_)
              replace hM := hM.neg (by decide)
              have hOk := hO
              obtain rfl : v12_1 = 1 := wk_eq.mpr (show v12_1.toInt = 1 by first | exact Int.le_antisymm (by omega) (by omega) | omega)
              have hO := hOk
              try simp only [show (1 : Int32).toInt = 1 by decide] at hM
              exact J49 x507 x616 x511 x550 x552 x568 H locs ls w597 (show 1 ≤ x507.toInt by first | with_reducible assumption | omega) (show x507.toInt ≤ 400 by first | with_reducible assumption | omega) (show 0 ≤ x616.toInt by first | with_reducible assumption | omega) (show x616.toInt ≤ 400 by first | with_reducible assumption | omega) (show 0 ≤ f0_.toInt from r4) (show f0_.toInt ≤ 5 from t5) (show 1 ≤ x511.toInt by first | with_reducible assumption | omega) (show x511.toInt ≤ 60 by first | with_reducible assumption | omega) (show (-60) ≤ x550.toInt by first | with_reducible assumption | omega) (show x550.toInt ≤ 10 by first | with_reducible assumption | omega) (show 0 ≤ x552.toInt by first | with_reducible assumption | omega) (show x552.toInt ≤ 280 by first | with_reducible assumption | omega) (show 0 ≤ x568.toInt by first | with_reducible assumption | omega) (show x568.toInt ≤ 280 by first | with_reducible assumption | omega) (show (binN w597 (x552.toInt).toNat : Int) = x552.toInt - x550.toInt by first | exact Int.le_antisymm (by omega) (by omega) | omega) (show f12_0_18.toInt + 3 ≤ x511.toInt from g519) (show 3 * (x568.toInt + x552.toInt) + 3 ≤ 14 * x511.toInt by omega) (show x552.toInt + 3 ≤ x550.toInt + x511.toInt by omega) (show x568.toInt ≤ 280 by first | with_reducible assumption | omega) (show x552.toInt ≤ 280 by first | with_reducible assumption | omega) (show -60 ≤ x550.toInt by first | with_reducible assumption | omega)  hw hT hF (OKW_cast hO (show x552.toInt - x550.toInt + 1 = x552.toInt - x550.toInt + 1 from rfl)) (E9_le hE9 (show x552.toInt ≤ _ by omega)) c609 c617 c608 c610 c611 c612 c613 hM (lv_sub hl [0, 1] rfl)
          · replace hM := hM.call (r' := 1) hv583 (by decide)
            have ex579 : x579.toInt = x507.toInt := by rw [← c586.symm.trans c580]
            obtain ⟨x593, c594, rx593, tx593⟩ := hT.rdi (lo := 0) (hi := 400) (k := 14) kM_at0 (by decide) rfl
            have g581 : (x593.toInt = x570.toInt ∨ (gi w544 1 (x570.toInt).toNat).toInt = 32) := by have q := g581; simp only [c565, c585, c571, c594] at q; first | with_reducible exact q | omega
            refine lv_if_ne (tgt := 49) hx hb dX12_tested_36 (by decide) (fun _ => ?_) (fun c => absurd c (by decide))
            replace hM := hM.pos (by decide)
            have hOk := hO
            obtain rfl : v12_1 = 1 := wk_eq.mpr (show v12_1.toInt = 1 by first | exact Int.le_antisymm (by omega) (by omega) | omega)
            have hO := hOk
            try simp only [show (1 : Int32).toInt = 1 by decide] at hM
            exact J49 x507 x593 x511 x550 x552 x568 H locs ls w574 (show 1 ≤ x507.toInt by first | with_reducible assumption | omega) (show x507.toInt ≤ 400 by first | with_reducible assumption | omega) (show 0 ≤ x593.toInt by first | with_reducible assumption | omega) (show x593.toInt ≤ 400 by first | with_reducible assumption | omega) (show 0 ≤ f0_.toInt from r4) (show f0_.toInt ≤ 5 from t5) (show 1 ≤ x511.toInt by first | with_reducible assumption | omega) (show x511.toInt ≤ 60 by first | with_reducible assumption | omega) (show (-60) ≤ x550.toInt by first | with_reducible assumption | omega) (show x550.toInt ≤ 10 by first | with_reducible assumption | omega) (show 0 ≤ x552.toInt by first | with_reducible assumption | omega) (show x552.toInt ≤ 280 by first | with_reducible assumption | omega) (show 0 ≤ x568.toInt by first | with_reducible assumption | omega) (show x568.toInt ≤ 280 by first | with_reducible assumption | omega) (show (binN w574 (x552.toInt).toNat : Int) = x552.toInt - x550.toInt by first | exact Int.le_antisymm (by omega) (by omega) | omega) (show f12_0_18.toInt + 3 ≤ x511.toInt from g519) (show 3 * (x568.toInt + x552.toInt) + 3 ≤ 14 * x511.toInt by omega) (show x552.toInt + 3 ≤ x550.toInt + x511.toInt by omega) (show x568.toInt ≤ 280 by first | with_reducible assumption | omega) (show x552.toInt ≤ 280 by first | with_reducible assumption | omega) (show -60 ≤ x550.toInt by first | with_reducible assumption | omega)  hw hT hF (OKW_cast hO (show x552.toInt - x550.toInt + 1 = x552.toInt - x550.toInt + 1 from rfl)) (E9_le hE9 (show x552.toInt ≤ _ by omega)) c586 c594 c585 c587 c588 c589 c590 hM (lv_sub hl [0, 1] rfl)
  have hM : TT (fun n => m_X12_tested n 0 (sI w0)) (fun n => m_X12_tested n 0 (sI w0)) := TT.rf
  have gl618 := bin_le w0 (f3_.toInt).toNat
  refine lv_aload_n hx hb dX12_tested_0 rfl (lv_at hl 0 rfl) ?_
  refine lv_iconst (v := 0) hx hb dX12_tested_1 (by decide) ?_
  refine tk_puti hC hK hw hT hinX12 tyX12_ok nmX12 kM_at0 (by decide) rfl rfl 22 (by decide) (List.mem_cons_of_mem _ uw_23_13) rfl rfl rfl rfl (by decide) (by decide) dX12_tested_2 (fun H locs w619 hw hT k621 c620 => ?_)
  replace hM := hM.wr (sI_upc k621 c620 (by decide))
  have gn622 : binN w619 (f3_.toInt).toNat = binN w0 (f3_.toInt).toNat := bin_F1 _ k621 (by decide)
  have gn623 : binN w619 ((0 : Int)).toNat = binN w0 ((0 : Int)).toNat := bin_F1 _ k621 (by decide)
  have gn624 : binN w619 ((0 : Int)).toNat = 0 := rfl
  have hO := OKW_F1 k621 (by decide) (by decide) (by decide) (by decide) hO
  have hE9 : E9 w619 0 := fun j hj => absurd hj (by omega)
  have hF := hF.put kM_at0 (k := 22) (by decide) k621
  have c625 := k621.gi (Or.inr (by decide)) cf0_
  have c626 := k621.gi (Or.inr (by decide)) cf1_
  have c627 := k621.gi (Or.inr (by decide)) cf2_
  have c628 := k621.gi (Or.inl (tk_ne kM_at3 kM_at0 (by decide))) cf4_
  refine lv_aload_n hx hb dX12_tested_5 rfl (lv_at hl 0 rfl) ?_
  refine lv_iconst (v := 0) hx hb dX12_tested_6 (by decide) ?_
  refine tk_puti hC hK hw hT hinX12 tyX12_ok nmX12 kM_at0 (by decide) rfl rfl 19 (by decide) (List.mem_cons_of_mem _ uw_23_14) rfl rfl rfl rfl (by decide) (by decide) dX12_tested_7 (fun H locs w629 hw hT k631 c630 => ?_)
  replace hM := hM.wr (sI_upc k631 c630 (by decide))
  have gn632 : binN w629 ((0 : Int)).toNat = binN w619 ((0 : Int)).toNat := bin_F1 _ k631 (by decide)
  have hO := OKW_F1 k631 (by decide) (by decide) (by decide) (by decide) hO
  have hE9 := E9_F1 k631 (by decide) hE9
  have hF := hF.put kM_at0 (k := 19) (by decide) k631
  have c633 := k631.gi (Or.inr (by decide)) c625
  have c634 := k631.gi (Or.inr (by decide)) c626
  have c635 := k631.gi (Or.inl (tk_ne kM_at3 kM_at0 (by decide))) c628
  have c636 := k631.gi (Or.inr (by decide)) c620
  refine lv_iconst (v := 1) hx hb dX12_tested_10 (by decide) ?_
  refine lv_istore_n (lv' := [(1, .int 1), (0, .ref (ad 0))]) hx hb dX12_tested_11 rfl hl (by decide) rfl (fun ls hl => ?_)
  exact L12 ((60 - f1_.toInt).toNat + 1) 1 f1_ 0 0 f4_ H locs ls w629 (by decide) (by decide) (show 0 ≤ f0_.toInt from rf0_) (show f0_.toInt ≤ 5 from tf0_) (show 0 ≤ f1_.toInt from rf1_) (show f1_.toInt ≤ 60 from tf1_) (by decide) (by decide) (by decide) (by decide) (show 0 ≤ f4_.toInt from rf4_) (show f4_.toInt ≤ 280 from pr1_) (show (binN w629 ((0 : Int)).toNat : Int) = (0 : Int) - (0 : Int) by omega) (show 3 * (f4_.toInt + (0 : Int)) ≤ 14 * f1_.toInt by omega) (show (0 : Int) ≤ (0 : Int) + f1_.toInt by omega) (show f4_.toInt ≤ 280 from pr1_) (show (0 : Int) ≤ 280 by omega) (show -60 ≤ (0 : Int) by omega) (Nat.lt_succ_self _) hw hT hF (OKW_cast hO (show 0 = (0 : Int) - (0 : Int) + 1 - (1 : Int) by first | exact Int.le_antisymm (by omega) (by omega) | omega)) (E9_le hE9 (show (0 : Int) ≤ _ by omega)) c633 c634 c630 c636 c635 hM (lv_sub hl [1, 0] rfl)
abbrev Pz_X12_isDoingHere_1 (ad : Nat → Nat) (cy : Nat → ClassId) (B : Int) (qr : Nat) (s1 : Int) (a1 : Int32) (gT : Int) (w0 : va_W) : Int32 → va_W → Prop := fun r u => TW ksM ad cy B qr 12 u ∧ FE ksM [(12, 14, 14), (12, 15, 15), (12, 16, 16), (12, 18, 18), (12, 19, 19), (12, 22, 22), (61, 0, 2400), (62, 0, 7), (63, 0, 216), (64, 0, 6), (68, 0, 400)] w0 u ∧ Ev (fun n => m_X12_isDoingHere n 0 a1.toInt (sI w0)) (r.toInt, sI u) ∧ ((r = 0 ∧ (∃ y : Int32, gi u 0 1 = y ∧ 1 ≤ y.toInt ∧ y.toInt ≤ 400) ∧ (∃ y : Int32, gi u 0 15 = y ∧ 1 ≤ y.toInt ∧ y.toInt ≤ 3205) ∧ (∃ y : Int32, gi u 0 17 = y ∧ 0 ≤ y.toInt ∧ y.toInt ≤ 5) ∧ (∃ y : Int32, gi u 0 22 = y ∧ 0 ≤ y.toInt ∧ y.toInt ≤ 399) ∧ RLc u gT) ∨ (r = 0 ∧ (∃ y : Int32, gi u 0 1 = y ∧ 0 ≤ y.toInt ∧ y.toInt ≤ 400) ∧ (∃ y : Int32, gi u 0 15 = y ∧ 1 ≤ y.toInt ∧ y.toInt ≤ 3205) ∧ (∃ y : Int32, gi u 0 17 = y ∧ 0 ≤ y.toInt ∧ y.toInt ≤ 5) ∧ (∃ y : Int32, gi u 0 22 = y ∧ 0 ≤ y.toInt ∧ y.toInt ≤ 399) ∧ RLc u gT) ∨ (r = 1 ∧ (∃ y : Int32, gi u 0 1 = y ∧ 1 ≤ y.toInt ∧ y.toInt ≤ 400) ∧ (∃ y : Int32, gi u 0 17 = y ∧ 0 ≤ y.toInt ∧ y.toInt ≤ 5) ∧ RLc u gT ∧ (3 * (gi u 3 ((gi u 0 17).toInt).toNat).toInt ≤ 14 * (gi u 0 18).toInt) ∧ ((gi u 5 ((gi u 0 17).toInt).toNat).toInt = (gi w0 5 ((gi w0 0 17).toInt).toNat).toInt + 1)) ∨ (r = 1 ∧ (∃ y : Int32, gi u 0 1 = y ∧ 0 ≤ y.toInt ∧ y.toInt ≤ 400) ∧ (∃ y : Int32, gi u 0 17 = y ∧ 0 ≤ y.toInt ∧ y.toInt ≤ 5) ∧ RLc u gT ∧ (3 * (gi u 3 ((gi u 0 17).toInt).toNat).toInt ≤ 14 * (gi u 0 18).toInt) ∧ ((gi u 5 ((gi u 0 17).toInt).toNat).toInt = (gi w0 5 ((gi w0 0 17).toInt).toNat).toInt + 1)))
set_option maxHeartbeats 4000000 in
set_option maxRecDepth 100000 in
theorem kz_X12_isDoingHere_1 (l : Launch) (adK adV : Nat → Nat) (dC : Nat → ClassId) (dI : Nat → Nat → Nat) (cy : Nat → ClassId) (ad : Nat → Nat) (B : Int) (hB0 : 100000 ≤ B) (hB1 : B ≤ 1073741824) (qr : Nat) (s1 : Int)  (a1 : Int32) (ra1 : 0 ≤ a1.toInt) (ta1 : a1.toInt ≤ 3) (w0 : va_W) (sz : Nat) (hT : TW ksM ad cy B qr 12 w0) (f0_ : Int32) (cf0_ : gi w0 0 17 = f0_) (rf0_ : 0 ≤ f0_.toInt) (tf0_ : f0_.toInt ≤ 5) (f1_ : Int32) (cf1_ : gi w0 0 18 = f1_) (rf1_ : 0 ≤ f1_.toInt) (tf1_ : f1_.toInt ≤ 60) (f2_ : Int32) (cf2_ : gi w0 3 (f0_.toInt).toNat = f2_) (rf2_ : 0 ≤ f2_.toInt) (tf2_ : f2_.toInt ≤ 400) (f3_ : Int32) (cf3_ : gi w0 5 (f0_.toInt).toNat = f3_) (rf3_ : 0 ≤ f3_.toInt) (tf3_ : f3_.toInt ≤ 12) (pr0_ : 3 * f2_.toInt ≤ 14 * f1_.toInt) (pr1_ : f2_.toInt ≤ 280) (pr2_ : f3_.toInt ≤ 11) (hR : RLc w0 f0_.toInt) : Met l yX12_isDoingHere (wu yX12_isDoingHere cX12_isDoingHere 3 (some .boolean)) ({ frames := 10, cells := 0, slots := 0, locals := 210 }) (va_Pc [.ref (ad 0), .int a1] (wpreS adK adV dC dI cy sz w0)) (va_Qi (Pz_X12_isDoingHere_1 ad cy B qr s1 a1 f0_.toInt w0) (fun u : va_W => wpost dC dI cy (va_A w0 sz) u) (va_A w0 sz)) 0 0 (va_A w0 sz) := by
  refine Met.ofW (cc := cX12_isDoingHere) (maxL := 3) (ret := (some .boolean)) (by decide) rfl ?_
  intro p e s m args below meth c s₁ Bk hml hv
  obtain ⟨rfl, ⟨hsz, hP, hK, hD0⟩, hE, hSR⟩ := hv
  have hx := Bk.exec
  have hb := Bk.bytes
  have hr := Bk.returns
  have hlocks := Bk.notSynchronized
  have hC : CallFix p m c cX12_isDoingHere 3 s _ (wu yX12_isDoingHere cX12_isDoingHere 3 (some .boolean)) RX12 := ⟨hx, hb, hml, findClass_of_methodNamed Bk.named, atoms_spec (ws := (wu yX12_isDoingHere cX12_isDoingHere 3 (some .boolean))) Bk.pre⟩
  subst hsz
  have hD := hD0.self (sz := s.heap.size)
  generalize hAe : va_A w0 s.heap.size = A at hD hE ⊢
  have hA : ∀ q : Nat, s.heap.size ≤ q → A q := fun q h => by rw [← hAe]; exact Or.inr h
  have hw : Wd dC dI A s.heap s.heap [] w0 := ⟨hP, hD, va_S.rf⟩
  have hF : FE ksM [(12, 14, 14), (12, 15, 15), (12, 16, 16), (12, 18, 18), (12, 19, 19), (12, 22, 22), (61, 0, 2400), (62, 0, 7), (63, 0, 216), (64, 0, 6), (68, 0, 400)] w0 w0 := FE.rf
  have hl := lv_entry ([.ref (ad 0), .int a1]) (n := 3) (Nat.le_of_ble_eq_true rfl)
  rw [lg_entry_eq]
  generalize (lg_sl ([.ref (ad 0), .int a1]) ++ List.replicate (3 - (lg_sl ([.ref (ad 0), .int a1])).length) Slot.unset).toArray = ls at hl ⊢
  have hl : lv_has ls 3 [(0, .ref (ad 0)), (1, .int a1)] := hl
  generalize hloc : ([] : List Loc) = locs at hw ⊢
  have hinX12 : ∀ w ∈ u_ws RX12 TX12 42, w ∈ (wu yX12_isDoingHere cX12_isDoingHere 3 (some .boolean)) := fun _ h => List.mem_cons_of_mem _ (up_71 h)
  have hM : TT (fun n => m_X12_isDoingHere n 0 a1.toInt (sI w0)) (fun n => m_X12_isDoingHere n 0 a1.toInt (sI w0)) := TT.rf
  refine lv_aload_n hx hb dX12_isDoingHere_0 rfl (lv_at hl 0 rfl) ?_
  refine tk_Vv hC hK hw hT hA hE hSR kM_at0 (by decide) rfl (kz_X12_passWord_1 l adK adV dC dI cy ad B hB0 (Int.le_trans hB1 (by decide)) qr s1    w0 s.heap.size hT ) (cwV 0 hC.2.2.2.2 uV_RX12_109 rfl rfl rfl (by decide +kernel) ⟨Nat.le_of_ble_eq_true rfl, Nat.le_of_ble_eq_true rfl⟩) rfl hl.1 rfl (Nat.le_of_ble_eq_true rfl) dX12_isDoingHere_1 (fun w3 H locs hp2 hw => ?_)
  obtain ⟨hT, k4, hv12, hg11⟩ := hp2
  have hR := RL_FE k4 (fun _ => rfl) (fun _ => rfl) (fun _ => rfl) (fun _ => rfl) hR
  have hF := hF.tr k4 (by decide)
  have c13 := k4.gi kM_at0 (by decide) cf0_
  have c14 := k4.gi kM_at0 (by decide) cf1_
  have c15 := k4.gi kM_at3 rfl cf2_
  have c16 := k4.gi kM_at5 rfl cf3_
  rcases hg11 with ⟨⟨x5, c6, rx5, tx5⟩, ⟨x7, c8, rx7, tx7⟩⟩ | ⟨x9, c10, rx9, tx9⟩
  · replace hM := hM.call hv12 rfl
    refine lv_bipush (v := 36) hx hb dX12_isDoingHere_4 (by decide) ?_
    refine lv_aload_n hx hb dX12_isDoingHere_6 rfl (lv_at hl 0 rfl) ?_
    refine tk_geti hC hK hw hT hinX12 kM_at0 (by decide) rfl 17 (by decide) (List.mem_cons_of_mem _ uw_19_7) rfl rfl dX12_isDoingHere_7 (fun x17 c18 rx17 tx17 => ?_)
    refine wk_top f0_ (c18.symm.trans c13) ?_
    replace hM := hM.rd (sI_at c13)
    refine lv_imul hx hb dX12_isDoingHere_10 ?_
    refine lv_topi (fun x19 ex19 => ?_)
    have ezx19 := ex19
    have ex19 : x19.toInt = (36 : Int) * f0_.toInt := by rw [ex19]; exact wk_mul (show (-2147483648) ≤ (36 : Int) * f0_.toInt by omega) (show (36 : Int) * f0_.toInt ≤ 2147483647 by omega)
    replace hM := hM.lt ex19.symm
    refine lv_iconst (v := 3) hx hb dX12_isDoingHere_11 (by decide) ?_
    refine lv_aload_n hx hb dX12_isDoingHere_12 rfl (lv_at hl 0 rfl) ?_
    refine tk_getA hC hK hw hT hinX12 kM_at0 (by decide) rfl 6 (by decide) (List.mem_cons_of_mem _ uw_6_18) rfl rfl dX12_isDoingHere_13 ?_
    refine lv_aload_n hx hb dX12_isDoingHere_16 rfl (lv_at hl 0 rfl) ?_
    refine tk_geti hC hK hw hT hinX12 kM_at0 (by decide) rfl 17 (by decide) (List.mem_cons_of_mem _ uw_19_7) rfl rfl dX12_isDoingHere_17 (fun x20 c21 rx20 tx20 => ?_)
    refine wk_top f0_ (c21.symm.trans c13) ?_
    replace hM := hM.rd (sI_at c13)
    refine tk_iald hC hK hw hT kM_at5 rfl rfl (show 0 ≤ f0_.toInt from rf0_) (show f0_.toInt < 6 from Int.lt_of_le_of_lt tf0_ (by decide)) dX12_isDoingHere_20 (fun x22 c23 rx22 tx22 => ?_)
    have hox22 := c23
    have c23 : gi w3 5 (f0_.toInt).toNat = x22 := (congrArg (gi w3 5) (congrArg Int.toNat (show f0_.toInt = f0_.toInt from rfl))).trans c23
    refine wk_top f3_ (c23.symm.trans c16) ?_
    replace hM := hM.rd ((sI_at hox22).trans (congrArg Int32.toInt (c23.symm.trans c16)))
    refine lv_imul hx hb dX12_isDoingHere_21 ?_
    refine lv_topi (fun x24 ex24 => ?_)
    have ezx24 := ex24
    have ex24 : x24.toInt = (3 : Int) * f3_.toInt := by rw [ex24]; exact wk_mul (show (-2147483648) ≤ (3 : Int) * f3_.toInt by omega) (show (3 : Int) * f3_.toInt ≤ 2147483647 by omega)
    replace hM := hM.lt ex24.symm
    refine lv_iadd hx hb dX12_isDoingHere_22 ?_
    refine lv_topi (fun x25 ex25 => ?_)
    have ezx25 := ex25
    have ex25 : x25.toInt = x19.toInt + x24.toInt := by rw [ex25]; exact wk_add (show (-2147483648) ≤ x19.toInt + x24.toInt by omega) (show x19.toInt + x24.toInt ≤ 2147483647 by omega)
    replace hM := hM.lt ex25.symm
    refine lv_istore_n (lv' := [(2, .int x25), (0, .ref (ad 0)), (1, .int a1)]) hx hb dX12_isDoingHere_23 rfl hl (by decide) rfl (fun ls hl => ?_)
    refine lv_aload_n hx hb dX12_isDoingHere_24 rfl (lv_at hl 1 rfl) ?_
    refine tk_getA hC hK hw hT hinX12 kM_at0 (by decide) rfl 5 (by decide) (List.mem_cons_of_mem _ uw_6_17) rfl rfl dX12_isDoingHere_25 ?_
    refine lv_iload_n hx hb dX12_isDoingHere_28 rfl (lv_at hl 0 rfl) ?_
    refine lv_iload_n hx hb dX12_isDoingHere_29 rfl (lv_at hl 2 rfl) ?_
    refine tk_iast hC hK hw hT kM_at4 (by decide) rfl rfl (show 0 ≤ x25.toInt by first | with_reducible assumption | omega) (show x25.toInt < 216 by first | with_reducible assumption | omega) (wk_i32 a1).1 (wk_i32 a1).2 dX12_isDoingHere_30 (fun H locs w26 hw hT k28 c27 => ?_)
    replace hM := hM.wr (sI_up k28 c27)
    have hR := RL_clause hR k28 (show 36 * f0_.toInt + 3 * (gi w3 5 (f0_.toInt).toNat).toInt ≤ ((x25.toInt.toNat : Nat) : Int) by rw [c16]; omega) (show ((x25.toInt.toNat : Nat) : Int) < 36 * f0_.toInt + 36 by omega) (fun r hr => by obtain ⟨x, e, t⟩ := hT.rda (lo := 0) (hi := 12) (i := r) kM_at5 rfl rfl hr; rw [e]; exact t)
    have hF := hF.put kM_at4 (inE_of (a := 0) (b := 216) (by decide) (show 0 ≤ x25.toInt.toNat by omega) (show x25.toInt.toNat ≤ 216 by omega)) k28
    have c29 := k28.gi (Or.inl (tk_ne kM_at0 kM_at4 (by decide))) c13
    have c30 := k28.gi (Or.inl (tk_ne kM_at0 kM_at4 (by decide))) c14
    have c31 := k28.gi (Or.inl (tk_ne kM_at3 kM_at4 (by decide))) c15
    have c32 := k28.gi (Or.inl (tk_ne kM_at5 kM_at4 (by decide))) c16
    have c33 := k28.gi (Or.inl (tk_ne kM_at0 kM_at4 (by decide))) c6
    have c34 := k28.gi (Or.inl (tk_ne kM_at0 kM_at4 (by decide))) c8
    have c27 : gi w26 4 (36 * f0_.toInt + 3 * f3_.toInt + 0).toNat = a1 := (congrArg (gi w26 4) (congrArg Int.toNat (show 36 * f0_.toInt + 3 * f3_.toInt + 0 = x25.toInt by first | exact Int.le_antisymm (by omega) (by omega) | omega))).trans c27
    refine lv_aload_n hx hb dX12_isDoingHere_31 rfl (lv_at hl 1 rfl) ?_
    refine tk_getA hC hK hw hT hinX12 kM_at0 (by decide) rfl 5 (by decide) (List.mem_cons_of_mem _ uw_6_17) rfl rfl dX12_isDoingHere_32 ?_
    refine lv_iload_n hx hb dX12_isDoingHere_35 rfl (lv_at hl 0 rfl) ?_
    refine lv_iconst (v := 1) hx hb dX12_isDoingHere_36 (by decide) ?_
    refine lv_iadd hx hb dX12_isDoingHere_37 ?_
    refine lv_topi (fun x35 ex35 => ?_)
    have ezx35 := ex35
    have ex35 : x35.toInt = x25.toInt + (1 : Int) := by rw [ex35]; exact wk_add (show (-2147483648) ≤ x25.toInt + (1 : Int) by omega) (show x25.toInt + (1 : Int) ≤ 2147483647 by omega)
    replace hM := hM.lt ex35.symm
    refine lv_iconst (v := (-1)) hx hb dX12_isDoingHere_38 (by decide) ?_
    refine tk_iast hC hK hw hT kM_at4 (by decide) rfl rfl (show 0 ≤ x35.toInt by first | with_reducible assumption | omega) (show x35.toInt < 216 by first | with_reducible assumption | omega) (by decide) (by decide) dX12_isDoingHere_39 (fun H locs w36 hw hT k38 c37 => ?_)
    replace hM := hM.wr (sI_upc k38 c37 (by decide))
    have hR := RL_clause hR k38 (show 36 * f0_.toInt + 3 * (gi w26 5 (f0_.toInt).toNat).toInt ≤ ((x35.toInt.toNat : Nat) : Int) by rw [c32]; omega) (show ((x35.toInt.toNat : Nat) : Int) < 36 * f0_.toInt + 36 by omega) (fun r hr => by obtain ⟨x, e, t⟩ := hT.rda (lo := 0) (hi := 12) (i := r) kM_at5 rfl rfl hr; rw [e]; exact t)
    have hF := hF.put kM_at4 (inE_of (a := 0) (b := 216) (by decide) (show 0 ≤ x35.toInt.toNat by omega) (show x35.toInt.toNat ≤ 216 by omega)) k38
    have c39 := k38.gi (Or.inl (tk_ne kM_at0 kM_at4 (by decide))) c29
    have c40 := k38.gi (Or.inl (tk_ne kM_at0 kM_at4 (by decide))) c30
    have c41 := k38.gi (Or.inl (tk_ne kM_at3 kM_at4 (by decide))) c31
    have c42 := k38.gi (Or.inl (tk_ne kM_at5 kM_at4 (by decide))) c32
    have c43 := k38.gi (Or.inl (tk_ne kM_at0 kM_at4 (by decide))) c33
    have c44 := k38.gi (Or.inl (tk_ne kM_at0 kM_at4 (by decide))) c34
    have c45 := k38.gi (Or.inr (show (36 * f0_.toInt + 3 * f3_.toInt + 0).toNat ≠ x35.toInt.toNat by omega)) c27
    have c37 : gi w36 4 (36 * f0_.toInt + 3 * f3_.toInt + 1).toNat = (-1) := (congrArg (gi w36 4) (congrArg Int.toNat (show 36 * f0_.toInt + 3 * f3_.toInt + 1 = x35.toInt by first | exact Int.le_antisymm (by omega) (by omega) | omega))).trans c37
    refine lv_aload_n hx hb dX12_isDoingHere_40 rfl (lv_at hl 1 rfl) ?_
    refine lv_ldc2 (v := 26982) hx hb hC.2.2.2.1 (hC.2.2.2.2 _ (List.mem_cons_of_mem _ uw_23_4)) dX12_isDoingHere_41 ?_
    refine tk_Vi hC hK hw hT hA hE hSR kM_at0 (by decide) rfl (kz_X12_takesWord_1 l adK adV dC dI cy ad B hB0 (Int.le_trans hB1 (by decide)) qr s1    w36 H.size hT ) (cwV 1 hC.2.2.2.2 uV_RX12_212 rfl rfl rfl (by decide +kernel) ⟨Nat.le_of_ble_eq_true rfl, Nat.le_of_ble_eq_true rfl⟩) rfl hl.1 rfl (Nat.le_of_ble_eq_true rfl) dX12_isDoingHere_44 (fun r46 w48 H locs hp47 hw => ?_)
    obtain ⟨hT, k49, hv59, hg58⟩ := hp47
    have hR := RL_FE k49 (fun _ => rfl) (fun _ => rfl) (fun _ => rfl) (fun _ => rfl) hR
    have hF := hF.tr k49 (by decide)
    have c60 := k49.gi kM_at0 (by decide) c39
    have c61 := k49.gi kM_at0 (by decide) c40
    have c62 := k49.gi kM_at3 rfl c41
    have c63 := k49.gi kM_at5 rfl c42
    have c64 := k49.gi kM_at0 (by decide) c43
    have c65 := k49.gi kM_at4 rfl c45
    have c66 := k49.gi kM_at4 rfl c37
    rcases hg58 with ⟨rfl, ⟨x50, c51, rx50, tx50⟩⟩ | ⟨rfl, ⟨x52, c53, rx52, tx52⟩, ⟨x54, c55, rx54, tx54⟩⟩ | ⟨rfl, ⟨x56, c57, rx56, tx56⟩⟩
    · replace hM := hM.call (r' := 0) hv59 (by decide)
      have ex50 : x50.toInt = x5.toInt := by rw [← c64.symm.trans c51]
      refine lv_if_eq (tgt := 76) hx hb dX12_isDoingHere_47 (by decide) (fun _ => ?_) (fun c => absurd (by decide) c)
      replace hM := hM.pos (by decide)
      refine lv_aload_n hx hb dX12_isDoingHere_76 rfl (lv_at hl 1 rfl) ?_
      refine tk_getA hC hK hw hT hinX12 kM_at0 (by decide) rfl 5 (by decide) (List.mem_cons_of_mem _ uw_6_17) rfl rfl dX12_isDoingHere_77 ?_
      refine lv_iload_n hx hb dX12_isDoingHere_80 rfl (lv_at hl 0 rfl) ?_
      refine lv_iconst (v := 2) hx hb dX12_isDoingHere_81 (by decide) ?_
      refine lv_iadd hx hb dX12_isDoingHere_82 ?_
      refine lv_topi (fun x67 ex67 => ?_)
      have ezx67 := ex67
      have ex67 : x67.toInt = x25.toInt + (2 : Int) := by rw [ex67]; exact wk_add (show (-2147483648) ≤ x25.toInt + (2 : Int) by omega) (show x25.toInt + (2 : Int) ≤ 2147483647 by omega)
      replace hM := hM.lt ex67.symm
      refine lv_aload_n hx hb dX12_isDoingHere_83 rfl (lv_at hl 1 rfl) ?_
      refine tk_getA hC hK hw hT hinX12 kM_at0 (by decide) rfl 4 (by decide) (List.mem_cons_of_mem _ uw_6_16) rfl rfl dX12_isDoingHere_84 ?_
      refine lv_aload_n hx hb dX12_isDoingHere_87 rfl (lv_at hl 1 rfl) ?_
      refine tk_geti hC hK hw hT hinX12 kM_at0 (by decide) rfl 17 (by decide) (List.mem_cons_of_mem _ uw_19_7) rfl rfl dX12_isDoingHere_88 (fun x68 c69 rx68 tx68 => ?_)
      refine wk_top f0_ (c69.symm.trans c60) ?_
      replace hM := hM.rd (sI_at c60)
      refine tk_iald hC hK hw hT kM_at3 rfl rfl (show 0 ≤ f0_.toInt from rf0_) (show f0_.toInt < 7 from Int.lt_of_le_of_lt tf0_ (by decide)) dX12_isDoingHere_91 (fun x70 c71 rx70 tx70 => ?_)
      have hox70 := c71
      have c71 : gi w48 3 (f0_.toInt).toNat = x70 := (congrArg (gi w48 3) (congrArg Int.toNat (show f0_.toInt = f0_.toInt from rfl))).trans c71
      refine wk_top f2_ (c71.symm.trans c62) ?_
      replace hM := hM.rd ((sI_at hox70).trans (congrArg Int32.toInt (c71.symm.trans c62)))
      refine tk_iast hC hK hw hT kM_at4 (by decide) rfl rfl (show 0 ≤ x67.toInt by first | with_reducible assumption | omega) (show x67.toInt < 216 by first | with_reducible assumption | omega) (wk_i32 f2_).1 (wk_i32 f2_).2 dX12_isDoingHere_92 (fun H locs w72 hw hT k74 c73 => ?_)
      replace hM := hM.wr (sI_up k74 c73)
      have hR := RL_clause hR k74 (show 36 * f0_.toInt + 3 * (gi w48 5 (f0_.toInt).toNat).toInt ≤ ((x67.toInt.toNat : Nat) : Int) by rw [c63]; omega) (show ((x67.toInt.toNat : Nat) : Int) < 36 * f0_.toInt + 36 by omega) (fun r hr => by obtain ⟨x, e, t⟩ := hT.rda (lo := 0) (hi := 12) (i := r) kM_at5 rfl rfl hr; rw [e]; exact t)
      have hF := hF.put kM_at4 (inE_of (a := 0) (b := 216) (by decide) (show 0 ≤ x67.toInt.toNat by omega) (show x67.toInt.toNat ≤ 216 by omega)) k74
      have c75 := k74.gi (Or.inl (tk_ne kM_at0 kM_at4 (by decide))) c60
      have c76 := k74.gi (Or.inl (tk_ne kM_at0 kM_at4 (by decide))) c61
      have c77 := k74.gi (Or.inl (tk_ne kM_at3 kM_at4 (by decide))) c62
      have c78 := k74.gi (Or.inl (tk_ne kM_at5 kM_at4 (by decide))) c63
      have c79 := k74.gi (Or.inl (tk_ne kM_at0 kM_at4 (by decide))) c64
      have c80 := k74.gi (Or.inr (show (36 * f0_.toInt + 3 * f3_.toInt + 0).toNat ≠ x67.toInt.toNat by omega)) c65
      have c81 := k74.gi (Or.inr (show (36 * f0_.toInt + 3 * f3_.toInt + 1).toNat ≠ x67.toInt.toNat by omega)) c66
      have c73 : gi w72 4 (36 * f0_.toInt + 3 * f3_.toInt + 2).toNat = f2_ := (congrArg (gi w72 4) (congrArg Int.toNat (show 36 * f0_.toInt + 3 * f3_.toInt + 2 = x67.toInt by first | exact Int.le_antisymm (by omega) (by omega) | omega))).trans c73
      refine lv_aload_n hx hb dX12_isDoingHere_93 rfl (lv_at hl 1 rfl) ?_
      refine tk_getA hC hK hw hT hinX12 kM_at0 (by decide) rfl 6 (by decide) (List.mem_cons_of_mem _ uw_6_18) rfl rfl dX12_isDoingHere_94 ?_
      refine lv_aload_n hx hb dX12_isDoingHere_97 rfl (lv_at hl 1 rfl) ?_
      refine tk_geti hC hK hw hT hinX12 kM_at0 (by decide) rfl 17 (by decide) (List.mem_cons_of_mem _ uw_19_7) rfl rfl dX12_isDoingHere_98 (fun x82 c83 rx82 tx82 => ?_)
      refine wk_top f0_ (c83.symm.trans c75) ?_
      replace hM := hM.rd (sI_at c75)
      refine lv_dup2_11 hx hb dX12_isDoingHere_101 rfl rfl ?_
      refine tk_iald hC hK hw hT kM_at5 rfl rfl (show 0 ≤ f0_.toInt from rf0_) (show f0_.toInt < 6 from Int.lt_of_le_of_lt tf0_ (by decide)) dX12_isDoingHere_102 (fun x84 c85 rx84 tx84 => ?_)
      have hox84 := c85
      have c85 : gi w72 5 (f0_.toInt).toNat = x84 := (congrArg (gi w72 5) (congrArg Int.toNat (show f0_.toInt = f0_.toInt from rfl))).trans c85
      refine wk_top f3_ (c85.symm.trans c78) ?_
      replace hM := hM.rd ((sI_at hox84).trans (congrArg Int32.toInt (c85.symm.trans c78)))
      refine lv_iconst (v := 1) hx hb dX12_isDoingHere_103 (by decide) ?_
      refine lv_iadd hx hb dX12_isDoingHere_104 ?_
      refine lv_topi (fun x86 ex86 => ?_)
      have ezx86 := ex86
      have ex86 : x86.toInt = f3_.toInt + (1 : Int) := by rw [ex86]; exact wk_add (show (-2147483648) ≤ f3_.toInt + (1 : Int) by omega) (show f3_.toInt + (1 : Int) ≤ 2147483647 by omega)
      replace hM := hM.lt ex86.symm
      refine tk_iast hC hK hw hT kM_at5 (by decide) rfl rfl (show 0 ≤ f0_.toInt from rf0_) (show f0_.toInt < 6 from Int.lt_of_le_of_lt tf0_ (by decide)) (show 0 ≤ x86.toInt by first | with_reducible assumption | omega) (show x86.toInt ≤ 12 by first | with_reducible assumption | omega) dX12_isDoingHere_105 (fun H locs w87 hw hT k89 c88 => ?_)
      replace hM := hM.wr (sI_up k89 c88)
      have hR := RL_add (t := f0_.toInt) (K := f3_) (b := (-1)) hR k89 c78 (by rw [show gi w87 5 (f0_.toInt).toNat = x86 from c88]; omega) (by omega) c81 (c73.trans c77.symm) (by rw [c77]; omega) (Or.inl (by decide))
      have hF := hF.put kM_at5 (inE_of (a := 0) (b := 6) (by decide) (show 0 ≤ f0_.toInt.toNat by omega) (show f0_.toInt.toNat ≤ 6 by omega)) k89
      have c90 := k89.gi (Or.inl (tk_ne kM_at0 kM_at5 (by decide))) c75
      have c91 := k89.gi (Or.inl (tk_ne kM_at0 kM_at5 (by decide))) c76
      have c92 := k89.gi (Or.inl (tk_ne kM_at3 kM_at5 (by decide))) c77
      have c93 := k89.gi (Or.inl (tk_ne kM_at0 kM_at5 (by decide))) c79
      have c94 := k89.gi (Or.inl (tk_ne kM_at4 kM_at5 (by decide))) c80
      have c95 := k89.gi (Or.inl (tk_ne kM_at4 kM_at5 (by decide))) c81
      have c96 := k89.gi (Or.inl (tk_ne kM_at4 kM_at5 (by decide))) c73
      have c88 : gi w87 5 (f0_.toInt).toNat = x86 := (congrArg (gi w87 5) (congrArg Int.toNat (show f0_.toInt = f0_.toInt from rfl))).trans c88
      refine lv_iconst (v := 1) hx hb dX12_isDoingHere_106 (by decide) ?_
      exact tk_zret hC hr rfl hlocks hK ⟨hT, hF, hM.ret (by decide), (Or.inr (Or.inr (Or.inl ⟨rfl, ⟨x5, c93, (show 1 ≤ x5.toInt by first | with_reducible assumption | omega), (show x5.toInt ≤ 400 by first | with_reducible assumption | omega)⟩, ⟨f0_, c90, (show 0 ≤ f0_.toInt from rf0_), (show f0_.toInt ≤ 5 from tf0_)⟩, hR, (by simp only [c90, cf0_, c92, c91]; omega), (by simp only [c90, cf0_, cf3_, c88]; omega)⟩)))⟩ hw dX12_isDoingHere_107
    · replace hM := hM.call (r' := 1) hv59 (by decide)
      have ex52 : x52.toInt = x5.toInt := by rw [← c64.symm.trans c53]
      refine lv_if_eq (tgt := 76) hx hb dX12_isDoingHere_47 (by decide) (fun c => absurd c (by decide)) (fun _ => ?_)
      replace hM := hM.neg (by decide)
      refine lv_aload_n hx hb dX12_isDoingHere_50 rfl (lv_at hl 1 rfl) ?_
      refine tk_getA hC hK hw hT hinX12 kM_at0 (by decide) rfl 5 (by decide) (List.mem_cons_of_mem _ uw_6_17) rfl rfl dX12_isDoingHere_51 ?_
      refine lv_iload_n hx hb dX12_isDoingHere_54 rfl (lv_at hl 0 rfl) ?_
      refine lv_iconst (v := 1) hx hb dX12_isDoingHere_55 (by decide) ?_
      refine lv_iadd hx hb dX12_isDoingHere_56 ?_
      refine lv_topi (fun x97 ex97 => ?_)
      have ezx97 := ex97
      have ex97 : x97.toInt = x25.toInt + (1 : Int) := by rw [ex97]; exact wk_add (show (-2147483648) ≤ x25.toInt + (1 : Int) by omega) (show x25.toInt + (1 : Int) ≤ 2147483647 by omega)
      replace hM := hM.lt ex97.symm
      refine lv_aload_n hx hb dX12_isDoingHere_57 rfl (lv_at hl 1 rfl) ?_
      refine tk_getA hC hK hw hT hinX12 kM_at0 (by decide) rfl 4 (by decide) (List.mem_cons_of_mem _ uw_6_16) rfl rfl dX12_isDoingHere_58 ?_
      refine lv_aload_n hx hb dX12_isDoingHere_61 rfl (lv_at hl 1 rfl) ?_
      refine tk_geti hC hK hw hT hinX12 kM_at0 (by decide) rfl 17 (by decide) (List.mem_cons_of_mem _ uw_19_7) rfl rfl dX12_isDoingHere_62 (fun x98 c99 rx98 tx98 => ?_)
      refine wk_top f0_ (c99.symm.trans c60) ?_
      replace hM := hM.rd (sI_at c60)
      refine tk_iald hC hK hw hT kM_at3 rfl rfl (show 0 ≤ f0_.toInt from rf0_) (show f0_.toInt < 7 from Int.lt_of_le_of_lt tf0_ (by decide)) dX12_isDoingHere_65 (fun x100 c101 rx100 tx100 => ?_)
      have hox100 := c101
      have c101 : gi w48 3 (f0_.toInt).toNat = x100 := (congrArg (gi w48 3) (congrArg Int.toNat (show f0_.toInt = f0_.toInt from rfl))).trans c101
      refine wk_top f2_ (c101.symm.trans c62) ?_
      replace hM := hM.rd ((sI_at hox100).trans (congrArg Int32.toInt (c101.symm.trans c62)))
      refine tk_iast hC hK hw hT kM_at4 (by decide) rfl rfl (show 0 ≤ x97.toInt by first | with_reducible assumption | omega) (show x97.toInt < 216 by first | with_reducible assumption | omega) (wk_i32 f2_).1 (wk_i32 f2_).2 dX12_isDoingHere_66 (fun H locs w102 hw hT k104 c103 => ?_)
      replace hM := hM.wr (sI_up k104 c103)
      have hR := RL_clause hR k104 (show 36 * f0_.toInt + 3 * (gi w48 5 (f0_.toInt).toNat).toInt ≤ ((x97.toInt.toNat : Nat) : Int) by rw [c63]; omega) (show ((x97.toInt.toNat : Nat) : Int) < 36 * f0_.toInt + 36 by omega) (fun r hr => by obtain ⟨x, e, t⟩ := hT.rda (lo := 0) (hi := 12) (i := r) kM_at5 rfl rfl hr; rw [e]; exact t)
      have hF := hF.put kM_at4 (inE_of (a := 0) (b := 216) (by decide) (show 0 ≤ x97.toInt.toNat by omega) (show x97.toInt.toNat ≤ 216 by omega)) k104
      have c105 := k104.gi (Or.inl (tk_ne kM_at0 kM_at4 (by decide))) c60
      have c106 := k104.gi (Or.inl (tk_ne kM_at0 kM_at4 (by decide))) c61
      have c107 := k104.gi (Or.inl (tk_ne kM_at3 kM_at4 (by decide))) c62
      have c108 := k104.gi (Or.inl (tk_ne kM_at5 kM_at4 (by decide))) c63
      have c109 := k104.gi (Or.inl (tk_ne kM_at0 kM_at4 (by decide))) c64
      have c110 := k104.gi (Or.inr (show (36 * f0_.toInt + 3 * f3_.toInt + 0).toNat ≠ x97.toInt.toNat by omega)) c65
      have c111 := k104.gi (Or.inl (tk_ne kM_at0 kM_at4 (by decide))) c55
      have c103 : gi w102 4 (36 * f0_.toInt + 3 * f3_.toInt + 1).toNat = f2_ := (congrArg (gi w102 4) (congrArg Int.toNat (show 36 * f0_.toInt + 3 * f3_.toInt + 1 = x97.toInt by first | exact Int.le_antisymm (by omega) (by omega) | omega))).trans c103
      refine lv_aload_n hx hb dX12_isDoingHere_67 rfl (lv_at hl 1 rfl) ?_
      obtain ⟨x112, c113, rx112, tx112⟩ := hT.rdi (lo := 0) (hi := 400) (k := 22) kM_at0 (by decide) rfl
      obtain ⟨x114, c115, rx114, tx114⟩ := hT.rdi (lo := (-100)) (hi := 10) (k := 19) kM_at0 (by decide) rfl
      refine tk_Vi hC hK hw hT hA hE hSR kM_at0 (by decide) rfl (kz_X12_tested_1 l adK adV dC dI cy ad B hB0 (Int.le_trans hB1 (by decide)) qr s1    w102 H.size hT f0_ c105 (show 0 ≤ f0_.toInt from rf0_) (show f0_.toInt ≤ 5 from tf0_) f1_ c106 (show 0 ≤ f1_.toInt from rf1_) (show f1_.toInt ≤ 60 from tf1_) x114 c115 (show (-100) ≤ x114.toInt by first | with_reducible assumption | omega) (show x114.toInt ≤ 10 by first | with_reducible assumption | omega) x112 c113 (show 0 ≤ x112.toInt by first | with_reducible assumption | omega) (show x112.toInt ≤ 400 by first | with_reducible assumption | omega) f2_ c107 (show 0 ≤ f2_.toInt from rf2_) (show f2_.toInt ≤ 400 from tf2_) (show 3 * f2_.toInt ≤ 14 * f1_.toInt from pr0_) (show f2_.toInt ≤ 280 from pr1_) f2_.toInt 0 (OKW_nil hR (by rw [c107]) (by omega))) (cwV 0 hC.2.2.2.2 uV_RX12_215 rfl rfl rfl (by decide +kernel) ⟨Nat.le_of_ble_eq_true rfl, Nat.le_of_ble_eq_true rfl⟩) rfl hl.1 rfl (Nat.le_of_ble_eq_true rfl) dX12_isDoingHere_68 (fun r116 w118 H locs hp117 hw => ?_)
      obtain ⟨hT, k119, hv147, hg146⟩ := hp117
      have hF := hF.tr k119 (by decide)
      have c148 := k119.gi kM_at0 (by decide) c105
      have c149 := k119.gi kM_at5 rfl c108
      have c150 := k119.gi kM_at0 (by decide) c109
      have c151 := k119.gi kM_at4 rfl c110
      have c152 := k119.gi kM_at4 rfl c103
      rcases hg146 with ⟨rfl, ⟨x120, c121, rx120, tx120⟩, ⟨x122, c123, rx122, tx122⟩, ⟨x124, c125, rx124, tx124⟩, ⟨x126, c127, rx126, tx126⟩, hq128⟩ | ⟨rfl, ⟨x129, c130, rx129, tx129⟩, ⟨x131, c132, rx131, tx131⟩, ⟨x133, c134, rx133, tx133⟩, ⟨x135, c136, rx135, tx135⟩, hq137⟩ | ⟨rfl, ⟨x138, c139, rx138, tx138⟩, ⟨x140, c141, rx140, tx140⟩, ⟨x142, c143, rx142, tx142⟩, hq144, g145⟩
      · replace hM := hM.call (r' := 0) hv147 (by decide)
        have ex120 : x120.toInt = x5.toInt := by rw [← c150.symm.trans c121]
        have ex124 : x124.toInt = f0_.toInt := by rw [← c148.symm.trans c125]
        obtain ⟨x153, c154, rx153, tx153⟩ := hT.rda (lo := 0) (hi := 400) (i := (f0_.toInt).toNat) kM_at3 rfl rfl (by omega)
        obtain ⟨x155, c156, rx155, tx155⟩ := hT.rdi (lo := 0) (hi := 60) (k := 18) kM_at0 (by decide) rfl
        obtain ⟨x157, c158, rx157, tx157⟩ := hT.rdi (lo := (-100)) (hi := 10) (k := 19) kM_at0 (by decide) rfl
        have hR := hq128
        refine lv_if_ne (tgt := 76) hx hb dX12_isDoingHere_71 (by decide) (fun c => absurd (by decide) c) (fun _ => ?_)
        replace hM := hM.neg (by decide)
        refine lv_iconst (v := 0) hx hb dX12_isDoingHere_74 (by decide) ?_
        exact tk_zret hC hr rfl hlocks hK ⟨hT, hF, hM.ret (by decide), (Or.inl ⟨rfl, ⟨x5, c150, (show 1 ≤ x5.toInt by first | with_reducible assumption | omega), (show x5.toInt ≤ 400 by first | with_reducible assumption | omega)⟩, ⟨x122, c123, (show 1 ≤ x122.toInt by first | with_reducible assumption | omega), (show x122.toInt ≤ 3205 by first | with_reducible assumption | omega)⟩, ⟨f0_, c148, (show 0 ≤ f0_.toInt from rf0_), (show f0_.toInt ≤ 5 from tf0_)⟩, ⟨x126, c127, (show 0 ≤ x126.toInt by first | with_reducible assumption | omega), (show x126.toInt ≤ 399 by first | with_reducible assumption | omega)⟩, hR⟩)⟩ hw dX12_isDoingHere_75
      · replace hM := hM.call (r' := 0) hv147 (by decide)
        have ex129 : x129.toInt = x5.toInt := by rw [← c150.symm.trans c130]
        have ex133 : x133.toInt = f0_.toInt := by rw [← c148.symm.trans c134]
        obtain ⟨x159, c160, rx159, tx159⟩ := hT.rda (lo := 0) (hi := 400) (i := (f0_.toInt).toNat) kM_at3 rfl rfl (by omega)
        obtain ⟨x161, c162, rx161, tx161⟩ := hT.rdi (lo := 0) (hi := 60) (k := 18) kM_at0 (by decide) rfl
        obtain ⟨x163, c164, rx163, tx163⟩ := hT.rdi (lo := (-100)) (hi := 10) (k := 19) kM_at0 (by decide) rfl
        have hR := hq137
        refine lv_if_ne (tgt := 76) hx hb dX12_isDoingHere_71 (by decide) (fun c => absurd (by decide) c) (fun _ => ?_)
        replace hM := hM.neg (by decide)
        refine lv_iconst (v := 0) hx hb dX12_isDoingHere_74 (by decide) ?_
        exact tk_zret hC hr rfl hlocks hK ⟨hT, hF, hM.ret (by decide), (Or.inl ⟨rfl, ⟨x5, c150, (show 1 ≤ x5.toInt by first | with_reducible assumption | omega), (show x5.toInt ≤ 400 by first | with_reducible assumption | omega)⟩, ⟨x131, c132, (show 1 ≤ x131.toInt by first | with_reducible assumption | omega), (show x131.toInt ≤ 3205 by first | with_reducible assumption | omega)⟩, ⟨f0_, c148, (show 0 ≤ f0_.toInt from rf0_), (show f0_.toInt ≤ 5 from tf0_)⟩, ⟨x135, c136, (show 0 ≤ x135.toInt by first | with_reducible assumption | omega), (show x135.toInt ≤ 399 by first | with_reducible assumption | omega)⟩, hR⟩)⟩ hw dX12_isDoingHere_75
      · replace hM := hM.call (r' := 1) hv147 (by decide)
        have ex138 : x138.toInt = f0_.toInt := by rw [← c148.symm.trans c139]
        obtain ⟨x165, c166, rx165, tx165⟩ := hT.rda (lo := 0) (hi := 400) (i := (f0_.toInt).toNat) kM_at3 rfl rfl (by omega)
        obtain ⟨x167, c168, rx167, tx167⟩ := hT.rdi (lo := 0) (hi := 60) (k := 18) kM_at0 (by decide) rfl
        have g145 : 3 * x165.toInt ≤ 14 * x167.toInt := by have q := g145; simp only [c105, c148, c166, c168] at q; first | with_reducible exact q | omega
        have hO : OKW w118 f0_.toInt f2_.toInt (1) := by have q := hq144; exact OKW_cast q (by omega)
        refine lv_if_ne (tgt := 76) hx hb dX12_isDoingHere_71 (by decide) (fun _ => ?_) (fun c => absurd c (by decide))
        replace hM := hM.pos (by decide)
        refine lv_aload_n hx hb dX12_isDoingHere_76 rfl (lv_at hl 1 rfl) ?_
        refine tk_getA hC hK hw hT hinX12 kM_at0 (by decide) rfl 5 (by decide) (List.mem_cons_of_mem _ uw_6_17) rfl rfl dX12_isDoingHere_77 ?_
        refine lv_iload_n hx hb dX12_isDoingHere_80 rfl (lv_at hl 0 rfl) ?_
        refine lv_iconst (v := 2) hx hb dX12_isDoingHere_81 (by decide) ?_
        refine lv_iadd hx hb dX12_isDoingHere_82 ?_
        refine lv_topi (fun x169 ex169 => ?_)
        have ezx169 := ex169
        have ex169 : x169.toInt = x25.toInt + (2 : Int) := by rw [ex169]; exact wk_add (show (-2147483648) ≤ x25.toInt + (2 : Int) by omega) (show x25.toInt + (2 : Int) ≤ 2147483647 by omega)
        replace hM := hM.lt ex169.symm
        refine lv_aload_n hx hb dX12_isDoingHere_83 rfl (lv_at hl 1 rfl) ?_
        refine tk_getA hC hK hw hT hinX12 kM_at0 (by decide) rfl 4 (by decide) (List.mem_cons_of_mem _ uw_6_16) rfl rfl dX12_isDoingHere_84 ?_
        refine lv_aload_n hx hb dX12_isDoingHere_87 rfl (lv_at hl 1 rfl) ?_
        refine tk_geti hC hK hw hT hinX12 kM_at0 (by decide) rfl 17 (by decide) (List.mem_cons_of_mem _ uw_19_7) rfl rfl dX12_isDoingHere_88 (fun x170 c171 rx170 tx170 => ?_)
        refine wk_top f0_ (c171.symm.trans c148) ?_
        replace hM := hM.rd (sI_at c148)
        refine tk_iald hC hK hw hT kM_at3 rfl rfl (show 0 ≤ f0_.toInt from rf0_) (show f0_.toInt < 7 from Int.lt_of_le_of_lt tf0_ (by decide)) dX12_isDoingHere_91 (fun x172 c173 rx172 tx172 => ?_)
        have hox172 := c173
        have c173 : gi w118 3 (f0_.toInt).toNat = x172 := (congrArg (gi w118 3) (congrArg Int.toNat (show f0_.toInt = f0_.toInt from rfl))).trans c173
        refine wk_top x165 (c173.symm.trans c166) ?_
        replace hM := hM.rd ((sI_at hox172).trans (congrArg Int32.toInt (c173.symm.trans c166)))
        refine tk_iast hC hK hw hT kM_at4 (by decide) rfl rfl (show 0 ≤ x169.toInt by first | with_reducible assumption | omega) (show x169.toInt < 216 by first | with_reducible assumption | omega) (wk_i32 x165).1 (wk_i32 x165).2 dX12_isDoingHere_92 (fun H locs w174 hw hT k176 c175 => ?_)
        replace hM := hM.wr (sI_up k176 c175)
        have hO := OKW_clause hO k176 (show 36 * f0_.toInt + 3 * (gi w118 5 (f0_.toInt).toNat).toInt ≤ ((x169.toInt.toNat : Nat) : Int) by rw [c149]; omega) (show ((x169.toInt.toNat : Nat) : Int) < 36 * f0_.toInt + 36 by omega) (fun r hr => by obtain ⟨x, e, t⟩ := hT.rda (lo := 0) (hi := 12) (i := r) kM_at5 rfl rfl hr; rw [e]; exact t)
        have hF := hF.put kM_at4 (inE_of (a := 0) (b := 216) (by decide) (show 0 ≤ x169.toInt.toNat by omega) (show x169.toInt.toNat ≤ 216 by omega)) k176
        have c177 := k176.gi (Or.inl (tk_ne kM_at0 kM_at4 (by decide))) c148
        have c178 := k176.gi (Or.inl (tk_ne kM_at5 kM_at4 (by decide))) c149
        have c179 := k176.gi (Or.inl (tk_ne kM_at0 kM_at4 (by decide))) c150
        have c180 := k176.gi (Or.inr (show (36 * f0_.toInt + 3 * f3_.toInt + 0).toNat ≠ x169.toInt.toNat by omega)) c151
        have c181 := k176.gi (Or.inr (show (36 * f0_.toInt + 3 * f3_.toInt + 1).toNat ≠ x169.toInt.toNat by omega)) c152
        have c182 := k176.gi (Or.inl (tk_ne kM_at0 kM_at4 (by decide))) c141
        have c183 := k176.gi (Or.inl (tk_ne kM_at0 kM_at4 (by decide))) c143
        have c184 := k176.gi (Or.inl (tk_ne kM_at3 kM_at4 (by decide))) c166
        have c185 := k176.gi (Or.inl (tk_ne kM_at0 kM_at4 (by decide))) c168
        have c175 : gi w174 4 (36 * f0_.toInt + 3 * f3_.toInt + 2).toNat = x165 := (congrArg (gi w174 4) (congrArg Int.toNat (show 36 * f0_.toInt + 3 * f3_.toInt + 2 = x169.toInt by first | exact Int.le_antisymm (by omega) (by omega) | omega))).trans c175
        refine lv_aload_n hx hb dX12_isDoingHere_93 rfl (lv_at hl 1 rfl) ?_
        refine tk_getA hC hK hw hT hinX12 kM_at0 (by decide) rfl 6 (by decide) (List.mem_cons_of_mem _ uw_6_18) rfl rfl dX12_isDoingHere_94 ?_
        refine lv_aload_n hx hb dX12_isDoingHere_97 rfl (lv_at hl 1 rfl) ?_
        refine tk_geti hC hK hw hT hinX12 kM_at0 (by decide) rfl 17 (by decide) (List.mem_cons_of_mem _ uw_19_7) rfl rfl dX12_isDoingHere_98 (fun x186 c187 rx186 tx186 => ?_)
        refine wk_top f0_ (c187.symm.trans c177) ?_
        replace hM := hM.rd (sI_at c177)
        refine lv_dup2_11 hx hb dX12_isDoingHere_101 rfl rfl ?_
        refine tk_iald hC hK hw hT kM_at5 rfl rfl (show 0 ≤ f0_.toInt from rf0_) (show f0_.toInt < 6 from Int.lt_of_le_of_lt tf0_ (by decide)) dX12_isDoingHere_102 (fun x188 c189 rx188 tx188 => ?_)
        have hox188 := c189
        have c189 : gi w174 5 (f0_.toInt).toNat = x188 := (congrArg (gi w174 5) (congrArg Int.toNat (show f0_.toInt = f0_.toInt from rfl))).trans c189
        refine wk_top f3_ (c189.symm.trans c178) ?_
        replace hM := hM.rd ((sI_at hox188).trans (congrArg Int32.toInt (c189.symm.trans c178)))
        refine lv_iconst (v := 1) hx hb dX12_isDoingHere_103 (by decide) ?_
        refine lv_iadd hx hb dX12_isDoingHere_104 ?_
        refine lv_topi (fun x190 ex190 => ?_)
        have ezx190 := ex190
        have ex190 : x190.toInt = f3_.toInt + (1 : Int) := by rw [ex190]; exact wk_add (show (-2147483648) ≤ f3_.toInt + (1 : Int) by omega) (show f3_.toInt + (1 : Int) ≤ 2147483647 by omega)
        replace hM := hM.lt ex190.symm
        refine tk_iast hC hK hw hT kM_at5 (by decide) rfl rfl (show 0 ≤ f0_.toInt from rf0_) (show f0_.toInt < 6 from Int.lt_of_le_of_lt tf0_ (by decide)) (show 0 ≤ x190.toInt by first | with_reducible assumption | omega) (show x190.toInt ≤ 12 by first | with_reducible assumption | omega) dX12_isDoingHere_105 (fun H locs w191 hw hT k193 c192 => ?_)
        replace hM := hM.wr (sI_up k193 c192)
        have hR := RL_add (t := f0_.toInt) (K := f3_) (b := f2_) hO.1 k193 c178 (by rw [show gi w191 5 (f0_.toInt).toNat = x190 from c192]; omega) (by omega) c181 (c175.trans c184.symm) (by rw [c184]; omega) (Or.inr (OKW_cast hO (by omega)))
        have hF := hF.put kM_at5 (inE_of (a := 0) (b := 6) (by decide) (show 0 ≤ f0_.toInt.toNat by omega) (show f0_.toInt.toNat ≤ 6 by omega)) k193
        have c194 := k193.gi (Or.inl (tk_ne kM_at0 kM_at5 (by decide))) c177
        have c195 := k193.gi (Or.inl (tk_ne kM_at0 kM_at5 (by decide))) c179
        have c196 := k193.gi (Or.inl (tk_ne kM_at4 kM_at5 (by decide))) c180
        have c197 := k193.gi (Or.inl (tk_ne kM_at4 kM_at5 (by decide))) c181
        have c198 := k193.gi (Or.inl (tk_ne kM_at0 kM_at5 (by decide))) c182
        have c199 := k193.gi (Or.inl (tk_ne kM_at0 kM_at5 (by decide))) c183
        have c200 := k193.gi (Or.inl (tk_ne kM_at3 kM_at5 (by decide))) c184
        have c201 := k193.gi (Or.inl (tk_ne kM_at0 kM_at5 (by decide))) c185
        have c202 := k193.gi (Or.inl (tk_ne kM_at4 kM_at5 (by decide))) c175
        have c192 : gi w191 5 (f0_.toInt).toNat = x190 := (congrArg (gi w191 5) (congrArg Int.toNat (show f0_.toInt = f0_.toInt from rfl))).trans c192
        refine lv_iconst (v := 1) hx hb dX12_isDoingHere_106 (by decide) ?_
        exact tk_zret hC hr rfl hlocks hK ⟨hT, hF, hM.ret (by decide), (Or.inr (Or.inr (Or.inl ⟨rfl, ⟨x5, c195, (show 1 ≤ x5.toInt by first | with_reducible assumption | omega), (show x5.toInt ≤ 400 by first | with_reducible assumption | omega)⟩, ⟨f0_, c194, (show 0 ≤ f0_.toInt from rf0_), (show f0_.toInt ≤ 5 from tf0_)⟩, hR, (by simp only [c194, cf0_, c200, c201]; omega), (by simp only [c194, cf0_, cf3_, c192]; omega)⟩)))⟩ hw dX12_isDoingHere_107
    · replace hM := hM.call (r' := 1) hv59 (by decide)
      have ex56 : x56.toInt = x5.toInt := by rw [← c64.symm.trans c57]
      refine lv_if_eq (tgt := 76) hx hb dX12_isDoingHere_47 (by decide) (fun c => absurd c (by decide)) (fun _ => ?_)
      replace hM := hM.neg (by decide)
      refine lv_aload_n hx hb dX12_isDoingHere_50 rfl (lv_at hl 1 rfl) ?_
      refine tk_getA hC hK hw hT hinX12 kM_at0 (by decide) rfl 5 (by decide) (List.mem_cons_of_mem _ uw_6_17) rfl rfl dX12_isDoingHere_51 ?_
      refine lv_iload_n hx hb dX12_isDoingHere_54 rfl (lv_at hl 0 rfl) ?_
      refine lv_iconst (v := 1) hx hb dX12_isDoingHere_55 (by decide) ?_
      refine lv_iadd hx hb dX12_isDoingHere_56 ?_
      refine lv_topi (fun x203 ex203 => ?_)
      have ezx203 := ex203
      have ex203 : x203.toInt = x25.toInt + (1 : Int) := by rw [ex203]; exact wk_add (show (-2147483648) ≤ x25.toInt + (1 : Int) by omega) (show x25.toInt + (1 : Int) ≤ 2147483647 by omega)
      replace hM := hM.lt ex203.symm
      refine lv_aload_n hx hb dX12_isDoingHere_57 rfl (lv_at hl 1 rfl) ?_
      refine tk_getA hC hK hw hT hinX12 kM_at0 (by decide) rfl 4 (by decide) (List.mem_cons_of_mem _ uw_6_16) rfl rfl dX12_isDoingHere_58 ?_
      refine lv_aload_n hx hb dX12_isDoingHere_61 rfl (lv_at hl 1 rfl) ?_
      refine tk_geti hC hK hw hT hinX12 kM_at0 (by decide) rfl 17 (by decide) (List.mem_cons_of_mem _ uw_19_7) rfl rfl dX12_isDoingHere_62 (fun x204 c205 rx204 tx204 => ?_)
      refine wk_top f0_ (c205.symm.trans c60) ?_
      replace hM := hM.rd (sI_at c60)
      refine tk_iald hC hK hw hT kM_at3 rfl rfl (show 0 ≤ f0_.toInt from rf0_) (show f0_.toInt < 7 from Int.lt_of_le_of_lt tf0_ (by decide)) dX12_isDoingHere_65 (fun x206 c207 rx206 tx206 => ?_)
      have hox206 := c207
      have c207 : gi w48 3 (f0_.toInt).toNat = x206 := (congrArg (gi w48 3) (congrArg Int.toNat (show f0_.toInt = f0_.toInt from rfl))).trans c207
      refine wk_top f2_ (c207.symm.trans c62) ?_
      replace hM := hM.rd ((sI_at hox206).trans (congrArg Int32.toInt (c207.symm.trans c62)))
      refine tk_iast hC hK hw hT kM_at4 (by decide) rfl rfl (show 0 ≤ x203.toInt by first | with_reducible assumption | omega) (show x203.toInt < 216 by first | with_reducible assumption | omega) (wk_i32 f2_).1 (wk_i32 f2_).2 dX12_isDoingHere_66 (fun H locs w208 hw hT k210 c209 => ?_)
      replace hM := hM.wr (sI_up k210 c209)
      have hR := RL_clause hR k210 (show 36 * f0_.toInt + 3 * (gi w48 5 (f0_.toInt).toNat).toInt ≤ ((x203.toInt.toNat : Nat) : Int) by rw [c63]; omega) (show ((x203.toInt.toNat : Nat) : Int) < 36 * f0_.toInt + 36 by omega) (fun r hr => by obtain ⟨x, e, t⟩ := hT.rda (lo := 0) (hi := 12) (i := r) kM_at5 rfl rfl hr; rw [e]; exact t)
      have hF := hF.put kM_at4 (inE_of (a := 0) (b := 216) (by decide) (show 0 ≤ x203.toInt.toNat by omega) (show x203.toInt.toNat ≤ 216 by omega)) k210
      have c211 := k210.gi (Or.inl (tk_ne kM_at0 kM_at4 (by decide))) c60
      have c212 := k210.gi (Or.inl (tk_ne kM_at0 kM_at4 (by decide))) c61
      have c213 := k210.gi (Or.inl (tk_ne kM_at3 kM_at4 (by decide))) c62
      have c214 := k210.gi (Or.inl (tk_ne kM_at5 kM_at4 (by decide))) c63
      have c215 := k210.gi (Or.inl (tk_ne kM_at0 kM_at4 (by decide))) c64
      have c216 := k210.gi (Or.inr (show (36 * f0_.toInt + 3 * f3_.toInt + 0).toNat ≠ x203.toInt.toNat by omega)) c65
      have c209 : gi w208 4 (36 * f0_.toInt + 3 * f3_.toInt + 1).toNat = f2_ := (congrArg (gi w208 4) (congrArg Int.toNat (show 36 * f0_.toInt + 3 * f3_.toInt + 1 = x203.toInt by first | exact Int.le_antisymm (by omega) (by omega) | omega))).trans c209
      refine lv_aload_n hx hb dX12_isDoingHere_67 rfl (lv_at hl 1 rfl) ?_
      obtain ⟨x217, c218, rx217, tx217⟩ := hT.rdi (lo := 0) (hi := 400) (k := 22) kM_at0 (by decide) rfl
      obtain ⟨x219, c220, rx219, tx219⟩ := hT.rdi (lo := (-100)) (hi := 10) (k := 19) kM_at0 (by decide) rfl
      refine tk_Vi hC hK hw hT hA hE hSR kM_at0 (by decide) rfl (kz_X12_tested_1 l adK adV dC dI cy ad B hB0 (Int.le_trans hB1 (by decide)) qr s1    w208 H.size hT f0_ c211 (show 0 ≤ f0_.toInt from rf0_) (show f0_.toInt ≤ 5 from tf0_) f1_ c212 (show 0 ≤ f1_.toInt from rf1_) (show f1_.toInt ≤ 60 from tf1_) x219 c220 (show (-100) ≤ x219.toInt by first | with_reducible assumption | omega) (show x219.toInt ≤ 10 by first | with_reducible assumption | omega) x217 c218 (show 0 ≤ x217.toInt by first | with_reducible assumption | omega) (show x217.toInt ≤ 400 by first | with_reducible assumption | omega) f2_ c213 (show 0 ≤ f2_.toInt from rf2_) (show f2_.toInt ≤ 400 from tf2_) (show 3 * f2_.toInt ≤ 14 * f1_.toInt from pr0_) (show f2_.toInt ≤ 280 from pr1_) f2_.toInt 0 (OKW_nil hR (by rw [c213]) (by omega))) (cwV 0 hC.2.2.2.2 uV_RX12_215 rfl rfl rfl (by decide +kernel) ⟨Nat.le_of_ble_eq_true rfl, Nat.le_of_ble_eq_true rfl⟩) rfl hl.1 rfl (Nat.le_of_ble_eq_true rfl) dX12_isDoingHere_68 (fun r221 w223 H locs hp222 hw => ?_)
      obtain ⟨hT, k224, hv252, hg251⟩ := hp222
      have hF := hF.tr k224 (by decide)
      have c253 := k224.gi kM_at0 (by decide) c211
      have c254 := k224.gi kM_at5 rfl c214
      have c255 := k224.gi kM_at0 (by decide) c215
      have c256 := k224.gi kM_at4 rfl c216
      have c257 := k224.gi kM_at4 rfl c209
      rcases hg251 with ⟨rfl, ⟨x225, c226, rx225, tx225⟩, ⟨x227, c228, rx227, tx227⟩, ⟨x229, c230, rx229, tx229⟩, ⟨x231, c232, rx231, tx231⟩, hq233⟩ | ⟨rfl, ⟨x234, c235, rx234, tx234⟩, ⟨x236, c237, rx236, tx236⟩, ⟨x238, c239, rx238, tx238⟩, ⟨x240, c241, rx240, tx240⟩, hq242⟩ | ⟨rfl, ⟨x243, c244, rx243, tx243⟩, ⟨x245, c246, rx245, tx245⟩, ⟨x247, c248, rx247, tx247⟩, hq249, g250⟩
      · replace hM := hM.call (r' := 0) hv252 (by decide)
        have ex225 : x225.toInt = x5.toInt := by rw [← c255.symm.trans c226]
        have ex229 : x229.toInt = f0_.toInt := by rw [← c253.symm.trans c230]
        obtain ⟨x258, c259, rx258, tx258⟩ := hT.rda (lo := 0) (hi := 400) (i := (f0_.toInt).toNat) kM_at3 rfl rfl (by omega)
        obtain ⟨x260, c261, rx260, tx260⟩ := hT.rdi (lo := 0) (hi := 60) (k := 18) kM_at0 (by decide) rfl
        obtain ⟨x262, c263, rx262, tx262⟩ := hT.rdi (lo := (-100)) (hi := 10) (k := 19) kM_at0 (by decide) rfl
        have hR := hq233
        refine lv_if_ne (tgt := 76) hx hb dX12_isDoingHere_71 (by decide) (fun c => absurd (by decide) c) (fun _ => ?_)
        replace hM := hM.neg (by decide)
        refine lv_iconst (v := 0) hx hb dX12_isDoingHere_74 (by decide) ?_
        exact tk_zret hC hr rfl hlocks hK ⟨hT, hF, hM.ret (by decide), (Or.inl ⟨rfl, ⟨x5, c255, (show 1 ≤ x5.toInt by first | with_reducible assumption | omega), (show x5.toInt ≤ 400 by first | with_reducible assumption | omega)⟩, ⟨x227, c228, (show 1 ≤ x227.toInt by first | with_reducible assumption | omega), (show x227.toInt ≤ 3205 by first | with_reducible assumption | omega)⟩, ⟨f0_, c253, (show 0 ≤ f0_.toInt from rf0_), (show f0_.toInt ≤ 5 from tf0_)⟩, ⟨x231, c232, (show 0 ≤ x231.toInt by first | with_reducible assumption | omega), (show x231.toInt ≤ 399 by first | with_reducible assumption | omega)⟩, hR⟩)⟩ hw dX12_isDoingHere_75
      · replace hM := hM.call (r' := 0) hv252 (by decide)
        have ex234 : x234.toInt = x5.toInt := by rw [← c255.symm.trans c235]
        have ex238 : x238.toInt = f0_.toInt := by rw [← c253.symm.trans c239]
        obtain ⟨x264, c265, rx264, tx264⟩ := hT.rda (lo := 0) (hi := 400) (i := (f0_.toInt).toNat) kM_at3 rfl rfl (by omega)
        obtain ⟨x266, c267, rx266, tx266⟩ := hT.rdi (lo := 0) (hi := 60) (k := 18) kM_at0 (by decide) rfl
        obtain ⟨x268, c269, rx268, tx268⟩ := hT.rdi (lo := (-100)) (hi := 10) (k := 19) kM_at0 (by decide) rfl
        have hR := hq242
        refine lv_if_ne (tgt := 76) hx hb dX12_isDoingHere_71 (by decide) (fun c => absurd (by decide) c) (fun _ => ?_)
        replace hM := hM.neg (by decide)
        refine lv_iconst (v := 0) hx hb dX12_isDoingHere_74 (by decide) ?_
        exact tk_zret hC hr rfl hlocks hK ⟨hT, hF, hM.ret (by decide), (Or.inl ⟨rfl, ⟨x5, c255, (show 1 ≤ x5.toInt by first | with_reducible assumption | omega), (show x5.toInt ≤ 400 by first | with_reducible assumption | omega)⟩, ⟨x236, c237, (show 1 ≤ x236.toInt by first | with_reducible assumption | omega), (show x236.toInt ≤ 3205 by first | with_reducible assumption | omega)⟩, ⟨f0_, c253, (show 0 ≤ f0_.toInt from rf0_), (show f0_.toInt ≤ 5 from tf0_)⟩, ⟨x240, c241, (show 0 ≤ x240.toInt by first | with_reducible assumption | omega), (show x240.toInt ≤ 399 by first | with_reducible assumption | omega)⟩, hR⟩)⟩ hw dX12_isDoingHere_75
      · replace hM := hM.call (r' := 1) hv252 (by decide)
        have ex243 : x243.toInt = f0_.toInt := by rw [← c253.symm.trans c244]
        obtain ⟨x270, c271, rx270, tx270⟩ := hT.rda (lo := 0) (hi := 400) (i := (f0_.toInt).toNat) kM_at3 rfl rfl (by omega)
        obtain ⟨x272, c273, rx272, tx272⟩ := hT.rdi (lo := 0) (hi := 60) (k := 18) kM_at0 (by decide) rfl
        have g250 : 3 * x270.toInt ≤ 14 * x272.toInt := by have q := g250; simp only [c211, c253, c271, c273] at q; first | with_reducible exact q | omega
        have hO : OKW w223 f0_.toInt f2_.toInt (1) := by have q := hq249; exact OKW_cast q (by omega)
        refine lv_if_ne (tgt := 76) hx hb dX12_isDoingHere_71 (by decide) (fun _ => ?_) (fun c => absurd c (by decide))
        replace hM := hM.pos (by decide)
        refine lv_aload_n hx hb dX12_isDoingHere_76 rfl (lv_at hl 1 rfl) ?_
        refine tk_getA hC hK hw hT hinX12 kM_at0 (by decide) rfl 5 (by decide) (List.mem_cons_of_mem _ uw_6_17) rfl rfl dX12_isDoingHere_77 ?_
        refine lv_iload_n hx hb dX12_isDoingHere_80 rfl (lv_at hl 0 rfl) ?_
        refine lv_iconst (v := 2) hx hb dX12_isDoingHere_81 (by decide) ?_
        refine lv_iadd hx hb dX12_isDoingHere_82 ?_
        refine lv_topi (fun x274 ex274 => ?_)
        have ezx274 := ex274
        have ex274 : x274.toInt = x25.toInt + (2 : Int) := by rw [ex274]; exact wk_add (show (-2147483648) ≤ x25.toInt + (2 : Int) by omega) (show x25.toInt + (2 : Int) ≤ 2147483647 by omega)
        replace hM := hM.lt ex274.symm
        refine lv_aload_n hx hb dX12_isDoingHere_83 rfl (lv_at hl 1 rfl) ?_
        refine tk_getA hC hK hw hT hinX12 kM_at0 (by decide) rfl 4 (by decide) (List.mem_cons_of_mem _ uw_6_16) rfl rfl dX12_isDoingHere_84 ?_
        refine lv_aload_n hx hb dX12_isDoingHere_87 rfl (lv_at hl 1 rfl) ?_
        refine tk_geti hC hK hw hT hinX12 kM_at0 (by decide) rfl 17 (by decide) (List.mem_cons_of_mem _ uw_19_7) rfl rfl dX12_isDoingHere_88 (fun x275 c276 rx275 tx275 => ?_)
        refine wk_top f0_ (c276.symm.trans c253) ?_
        replace hM := hM.rd (sI_at c253)
        refine tk_iald hC hK hw hT kM_at3 rfl rfl (show 0 ≤ f0_.toInt from rf0_) (show f0_.toInt < 7 from Int.lt_of_le_of_lt tf0_ (by decide)) dX12_isDoingHere_91 (fun x277 c278 rx277 tx277 => ?_)
        have hox277 := c278
        have c278 : gi w223 3 (f0_.toInt).toNat = x277 := (congrArg (gi w223 3) (congrArg Int.toNat (show f0_.toInt = f0_.toInt from rfl))).trans c278
        refine wk_top x270 (c278.symm.trans c271) ?_
        replace hM := hM.rd ((sI_at hox277).trans (congrArg Int32.toInt (c278.symm.trans c271)))
        refine tk_iast hC hK hw hT kM_at4 (by decide) rfl rfl (show 0 ≤ x274.toInt by first | with_reducible assumption | omega) (show x274.toInt < 216 by first | with_reducible assumption | omega) (wk_i32 x270).1 (wk_i32 x270).2 dX12_isDoingHere_92 (fun H locs w279 hw hT k281 c280 => ?_)
        replace hM := hM.wr (sI_up k281 c280)
        have hO := OKW_clause hO k281 (show 36 * f0_.toInt + 3 * (gi w223 5 (f0_.toInt).toNat).toInt ≤ ((x274.toInt.toNat : Nat) : Int) by rw [c254]; omega) (show ((x274.toInt.toNat : Nat) : Int) < 36 * f0_.toInt + 36 by omega) (fun r hr => by obtain ⟨x, e, t⟩ := hT.rda (lo := 0) (hi := 12) (i := r) kM_at5 rfl rfl hr; rw [e]; exact t)
        have hF := hF.put kM_at4 (inE_of (a := 0) (b := 216) (by decide) (show 0 ≤ x274.toInt.toNat by omega) (show x274.toInt.toNat ≤ 216 by omega)) k281
        have c282 := k281.gi (Or.inl (tk_ne kM_at0 kM_at4 (by decide))) c253
        have c283 := k281.gi (Or.inl (tk_ne kM_at5 kM_at4 (by decide))) c254
        have c284 := k281.gi (Or.inl (tk_ne kM_at0 kM_at4 (by decide))) c255
        have c285 := k281.gi (Or.inr (show (36 * f0_.toInt + 3 * f3_.toInt + 0).toNat ≠ x274.toInt.toNat by omega)) c256
        have c286 := k281.gi (Or.inr (show (36 * f0_.toInt + 3 * f3_.toInt + 1).toNat ≠ x274.toInt.toNat by omega)) c257
        have c287 := k281.gi (Or.inl (tk_ne kM_at0 kM_at4 (by decide))) c246
        have c288 := k281.gi (Or.inl (tk_ne kM_at0 kM_at4 (by decide))) c248
        have c289 := k281.gi (Or.inl (tk_ne kM_at3 kM_at4 (by decide))) c271
        have c290 := k281.gi (Or.inl (tk_ne kM_at0 kM_at4 (by decide))) c273
        have c280 : gi w279 4 (36 * f0_.toInt + 3 * f3_.toInt + 2).toNat = x270 := (congrArg (gi w279 4) (congrArg Int.toNat (show 36 * f0_.toInt + 3 * f3_.toInt + 2 = x274.toInt by first | exact Int.le_antisymm (by omega) (by omega) | omega))).trans c280
        refine lv_aload_n hx hb dX12_isDoingHere_93 rfl (lv_at hl 1 rfl) ?_
        refine tk_getA hC hK hw hT hinX12 kM_at0 (by decide) rfl 6 (by decide) (List.mem_cons_of_mem _ uw_6_18) rfl rfl dX12_isDoingHere_94 ?_
        refine lv_aload_n hx hb dX12_isDoingHere_97 rfl (lv_at hl 1 rfl) ?_
        refine tk_geti hC hK hw hT hinX12 kM_at0 (by decide) rfl 17 (by decide) (List.mem_cons_of_mem _ uw_19_7) rfl rfl dX12_isDoingHere_98 (fun x291 c292 rx291 tx291 => ?_)
        refine wk_top f0_ (c292.symm.trans c282) ?_
        replace hM := hM.rd (sI_at c282)
        refine lv_dup2_11 hx hb dX12_isDoingHere_101 rfl rfl ?_
        refine tk_iald hC hK hw hT kM_at5 rfl rfl (show 0 ≤ f0_.toInt from rf0_) (show f0_.toInt < 6 from Int.lt_of_le_of_lt tf0_ (by decide)) dX12_isDoingHere_102 (fun x293 c294 rx293 tx293 => ?_)
        have hox293 := c294
        have c294 : gi w279 5 (f0_.toInt).toNat = x293 := (congrArg (gi w279 5) (congrArg Int.toNat (show f0_.toInt = f0_.toInt from rfl))).trans c294
        refine wk_top f3_ (c294.symm.trans c283) ?_
        replace hM := hM.rd ((sI_at hox293).trans (congrArg Int32.toInt (c294.symm.trans c283)))
        refine lv_iconst (v := 1) hx hb dX12_isDoingHere_103 (by decide) ?_
        refine lv_iadd hx hb dX12_isDoingHere_104 ?_
        refine lv_topi (fun x295 ex295 => ?_)
        have ezx295 := ex295
        have ex295 : x295.toInt = f3_.toInt + (1 : Int) := by rw [ex295]; exact wk_add (show (-2147483648) ≤ f3_.toInt + (1 : Int) by omega) (show f3_.toInt + (1 : Int) ≤ 2147483647 by omega)
        replace hM := hM.lt ex295.symm
        refine tk_iast hC hK hw hT kM_at5 (by decide) rfl rfl (show 0 ≤ f0_.toInt from rf0_) (show f0_.toInt < 6 from Int.lt_of_le_of_lt tf0_ (by decide)) (show 0 ≤ x295.toInt by first | with_reducible assumption | omega) (show x295.toInt ≤ 12 by first | with_reducible assumption | omega) dX12_isDoingHere_105 (fun H locs w296 hw hT k298 c297 => ?_)
        replace hM := hM.wr (sI_up k298 c297)
        have hR := RL_add (t := f0_.toInt) (K := f3_) (b := f2_) hO.1 k298 c283 (by rw [show gi w296 5 (f0_.toInt).toNat = x295 from c297]; omega) (by omega) c286 (c280.trans c289.symm) (by rw [c289]; omega) (Or.inr (OKW_cast hO (by omega)))
        have hF := hF.put kM_at5 (inE_of (a := 0) (b := 6) (by decide) (show 0 ≤ f0_.toInt.toNat by omega) (show f0_.toInt.toNat ≤ 6 by omega)) k298
        have c299 := k298.gi (Or.inl (tk_ne kM_at0 kM_at5 (by decide))) c282
        have c300 := k298.gi (Or.inl (tk_ne kM_at0 kM_at5 (by decide))) c284
        have c301 := k298.gi (Or.inl (tk_ne kM_at4 kM_at5 (by decide))) c285
        have c302 := k298.gi (Or.inl (tk_ne kM_at4 kM_at5 (by decide))) c286
        have c303 := k298.gi (Or.inl (tk_ne kM_at0 kM_at5 (by decide))) c287
        have c304 := k298.gi (Or.inl (tk_ne kM_at0 kM_at5 (by decide))) c288
        have c305 := k298.gi (Or.inl (tk_ne kM_at3 kM_at5 (by decide))) c289
        have c306 := k298.gi (Or.inl (tk_ne kM_at0 kM_at5 (by decide))) c290
        have c307 := k298.gi (Or.inl (tk_ne kM_at4 kM_at5 (by decide))) c280
        have c297 : gi w296 5 (f0_.toInt).toNat = x295 := (congrArg (gi w296 5) (congrArg Int.toNat (show f0_.toInt = f0_.toInt from rfl))).trans c297
        refine lv_iconst (v := 1) hx hb dX12_isDoingHere_106 (by decide) ?_
        exact tk_zret hC hr rfl hlocks hK ⟨hT, hF, hM.ret (by decide), (Or.inr (Or.inr (Or.inl ⟨rfl, ⟨x5, c300, (show 1 ≤ x5.toInt by first | with_reducible assumption | omega), (show x5.toInt ≤ 400 by first | with_reducible assumption | omega)⟩, ⟨f0_, c299, (show 0 ≤ f0_.toInt from rf0_), (show f0_.toInt ≤ 5 from tf0_)⟩, hR, (by simp only [c299, cf0_, c305, c306]; omega), (by simp only [c299, cf0_, cf3_, c297]; omega)⟩)))⟩ hw dX12_isDoingHere_107
  · replace hM := hM.call hv12 rfl
    refine lv_bipush (v := 36) hx hb dX12_isDoingHere_4 (by decide) ?_
    refine lv_aload_n hx hb dX12_isDoingHere_6 rfl (lv_at hl 0 rfl) ?_
    refine tk_geti hC hK hw hT hinX12 kM_at0 (by decide) rfl 17 (by decide) (List.mem_cons_of_mem _ uw_19_7) rfl rfl dX12_isDoingHere_7 (fun x308 c309 rx308 tx308 => ?_)
    refine wk_top f0_ (c309.symm.trans c13) ?_
    replace hM := hM.rd (sI_at c13)
    refine lv_imul hx hb dX12_isDoingHere_10 ?_
    refine lv_topi (fun x310 ex310 => ?_)
    have ezx310 := ex310
    have ex310 : x310.toInt = (36 : Int) * f0_.toInt := by rw [ex310]; exact wk_mul (show (-2147483648) ≤ (36 : Int) * f0_.toInt by omega) (show (36 : Int) * f0_.toInt ≤ 2147483647 by omega)
    replace hM := hM.lt ex310.symm
    refine lv_iconst (v := 3) hx hb dX12_isDoingHere_11 (by decide) ?_
    refine lv_aload_n hx hb dX12_isDoingHere_12 rfl (lv_at hl 0 rfl) ?_
    refine tk_getA hC hK hw hT hinX12 kM_at0 (by decide) rfl 6 (by decide) (List.mem_cons_of_mem _ uw_6_18) rfl rfl dX12_isDoingHere_13 ?_
    refine lv_aload_n hx hb dX12_isDoingHere_16 rfl (lv_at hl 0 rfl) ?_
    refine tk_geti hC hK hw hT hinX12 kM_at0 (by decide) rfl 17 (by decide) (List.mem_cons_of_mem _ uw_19_7) rfl rfl dX12_isDoingHere_17 (fun x311 c312 rx311 tx311 => ?_)
    refine wk_top f0_ (c312.symm.trans c13) ?_
    replace hM := hM.rd (sI_at c13)
    refine tk_iald hC hK hw hT kM_at5 rfl rfl (show 0 ≤ f0_.toInt from rf0_) (show f0_.toInt < 6 from Int.lt_of_le_of_lt tf0_ (by decide)) dX12_isDoingHere_20 (fun x313 c314 rx313 tx313 => ?_)
    have hox313 := c314
    have c314 : gi w3 5 (f0_.toInt).toNat = x313 := (congrArg (gi w3 5) (congrArg Int.toNat (show f0_.toInt = f0_.toInt from rfl))).trans c314
    refine wk_top f3_ (c314.symm.trans c16) ?_
    replace hM := hM.rd ((sI_at hox313).trans (congrArg Int32.toInt (c314.symm.trans c16)))
    refine lv_imul hx hb dX12_isDoingHere_21 ?_
    refine lv_topi (fun x315 ex315 => ?_)
    have ezx315 := ex315
    have ex315 : x315.toInt = (3 : Int) * f3_.toInt := by rw [ex315]; exact wk_mul (show (-2147483648) ≤ (3 : Int) * f3_.toInt by omega) (show (3 : Int) * f3_.toInt ≤ 2147483647 by omega)
    replace hM := hM.lt ex315.symm
    refine lv_iadd hx hb dX12_isDoingHere_22 ?_
    refine lv_topi (fun x316 ex316 => ?_)
    have ezx316 := ex316
    have ex316 : x316.toInt = x310.toInt + x315.toInt := by rw [ex316]; exact wk_add (show (-2147483648) ≤ x310.toInt + x315.toInt by omega) (show x310.toInt + x315.toInt ≤ 2147483647 by omega)
    replace hM := hM.lt ex316.symm
    refine lv_istore_n (lv' := [(2, .int x316), (0, .ref (ad 0)), (1, .int a1)]) hx hb dX12_isDoingHere_23 rfl hl (by decide) rfl (fun ls hl => ?_)
    refine lv_aload_n hx hb dX12_isDoingHere_24 rfl (lv_at hl 1 rfl) ?_
    refine tk_getA hC hK hw hT hinX12 kM_at0 (by decide) rfl 5 (by decide) (List.mem_cons_of_mem _ uw_6_17) rfl rfl dX12_isDoingHere_25 ?_
    refine lv_iload_n hx hb dX12_isDoingHere_28 rfl (lv_at hl 0 rfl) ?_
    refine lv_iload_n hx hb dX12_isDoingHere_29 rfl (lv_at hl 2 rfl) ?_
    refine tk_iast hC hK hw hT kM_at4 (by decide) rfl rfl (show 0 ≤ x316.toInt by first | with_reducible assumption | omega) (show x316.toInt < 216 by first | with_reducible assumption | omega) (wk_i32 a1).1 (wk_i32 a1).2 dX12_isDoingHere_30 (fun H locs w317 hw hT k319 c318 => ?_)
    replace hM := hM.wr (sI_up k319 c318)
    have hR := RL_clause hR k319 (show 36 * f0_.toInt + 3 * (gi w3 5 (f0_.toInt).toNat).toInt ≤ ((x316.toInt.toNat : Nat) : Int) by rw [c16]; omega) (show ((x316.toInt.toNat : Nat) : Int) < 36 * f0_.toInt + 36 by omega) (fun r hr => by obtain ⟨x, e, t⟩ := hT.rda (lo := 0) (hi := 12) (i := r) kM_at5 rfl rfl hr; rw [e]; exact t)
    have hF := hF.put kM_at4 (inE_of (a := 0) (b := 216) (by decide) (show 0 ≤ x316.toInt.toNat by omega) (show x316.toInt.toNat ≤ 216 by omega)) k319
    have c320 := k319.gi (Or.inl (tk_ne kM_at0 kM_at4 (by decide))) c13
    have c321 := k319.gi (Or.inl (tk_ne kM_at0 kM_at4 (by decide))) c14
    have c322 := k319.gi (Or.inl (tk_ne kM_at3 kM_at4 (by decide))) c15
    have c323 := k319.gi (Or.inl (tk_ne kM_at5 kM_at4 (by decide))) c16
    have c324 := k319.gi (Or.inl (tk_ne kM_at0 kM_at4 (by decide))) c10
    have c318 : gi w317 4 (36 * f0_.toInt + 3 * f3_.toInt + 0).toNat = a1 := (congrArg (gi w317 4) (congrArg Int.toNat (show 36 * f0_.toInt + 3 * f3_.toInt + 0 = x316.toInt by first | exact Int.le_antisymm (by omega) (by omega) | omega))).trans c318
    refine lv_aload_n hx hb dX12_isDoingHere_31 rfl (lv_at hl 1 rfl) ?_
    refine tk_getA hC hK hw hT hinX12 kM_at0 (by decide) rfl 5 (by decide) (List.mem_cons_of_mem _ uw_6_17) rfl rfl dX12_isDoingHere_32 ?_
    refine lv_iload_n hx hb dX12_isDoingHere_35 rfl (lv_at hl 0 rfl) ?_
    refine lv_iconst (v := 1) hx hb dX12_isDoingHere_36 (by decide) ?_
    refine lv_iadd hx hb dX12_isDoingHere_37 ?_
    refine lv_topi (fun x325 ex325 => ?_)
    have ezx325 := ex325
    have ex325 : x325.toInt = x316.toInt + (1 : Int) := by rw [ex325]; exact wk_add (show (-2147483648) ≤ x316.toInt + (1 : Int) by omega) (show x316.toInt + (1 : Int) ≤ 2147483647 by omega)
    replace hM := hM.lt ex325.symm
    refine lv_iconst (v := (-1)) hx hb dX12_isDoingHere_38 (by decide) ?_
    refine tk_iast hC hK hw hT kM_at4 (by decide) rfl rfl (show 0 ≤ x325.toInt by first | with_reducible assumption | omega) (show x325.toInt < 216 by first | with_reducible assumption | omega) (by decide) (by decide) dX12_isDoingHere_39 (fun H locs w326 hw hT k328 c327 => ?_)
    replace hM := hM.wr (sI_upc k328 c327 (by decide))
    have hR := RL_clause hR k328 (show 36 * f0_.toInt + 3 * (gi w317 5 (f0_.toInt).toNat).toInt ≤ ((x325.toInt.toNat : Nat) : Int) by rw [c323]; omega) (show ((x325.toInt.toNat : Nat) : Int) < 36 * f0_.toInt + 36 by omega) (fun r hr => by obtain ⟨x, e, t⟩ := hT.rda (lo := 0) (hi := 12) (i := r) kM_at5 rfl rfl hr; rw [e]; exact t)
    have hF := hF.put kM_at4 (inE_of (a := 0) (b := 216) (by decide) (show 0 ≤ x325.toInt.toNat by omega) (show x325.toInt.toNat ≤ 216 by omega)) k328
    have c329 := k328.gi (Or.inl (tk_ne kM_at0 kM_at4 (by decide))) c320
    have c330 := k328.gi (Or.inl (tk_ne kM_at0 kM_at4 (by decide))) c321
    have c331 := k328.gi (Or.inl (tk_ne kM_at3 kM_at4 (by decide))) c322
    have c332 := k328.gi (Or.inl (tk_ne kM_at5 kM_at4 (by decide))) c323
    have c333 := k328.gi (Or.inl (tk_ne kM_at0 kM_at4 (by decide))) c324
    have c334 := k328.gi (Or.inr (show (36 * f0_.toInt + 3 * f3_.toInt + 0).toNat ≠ x325.toInt.toNat by omega)) c318
    have c327 : gi w326 4 (36 * f0_.toInt + 3 * f3_.toInt + 1).toNat = (-1) := (congrArg (gi w326 4) (congrArg Int.toNat (show 36 * f0_.toInt + 3 * f3_.toInt + 1 = x325.toInt by first | exact Int.le_antisymm (by omega) (by omega) | omega))).trans c327
    refine lv_aload_n hx hb dX12_isDoingHere_40 rfl (lv_at hl 1 rfl) ?_
    refine lv_ldc2 (v := 26982) hx hb hC.2.2.2.1 (hC.2.2.2.2 _ (List.mem_cons_of_mem _ uw_23_4)) dX12_isDoingHere_41 ?_
    refine tk_Vi hC hK hw hT hA hE hSR kM_at0 (by decide) rfl (kz_X12_takesWord_1 l adK adV dC dI cy ad B hB0 (Int.le_trans hB1 (by decide)) qr s1    w326 H.size hT ) (cwV 1 hC.2.2.2.2 uV_RX12_212 rfl rfl rfl (by decide +kernel) ⟨Nat.le_of_ble_eq_true rfl, Nat.le_of_ble_eq_true rfl⟩) rfl hl.1 rfl (Nat.le_of_ble_eq_true rfl) dX12_isDoingHere_44 (fun r335 w337 H locs hp336 hw => ?_)
    obtain ⟨hT, k338, hv348, hg347⟩ := hp336
    have hR := RL_FE k338 (fun _ => rfl) (fun _ => rfl) (fun _ => rfl) (fun _ => rfl) hR
    have hF := hF.tr k338 (by decide)
    have c349 := k338.gi kM_at0 (by decide) c329
    have c350 := k338.gi kM_at0 (by decide) c330
    have c351 := k338.gi kM_at3 rfl c331
    have c352 := k338.gi kM_at5 rfl c332
    have c353 := k338.gi kM_at0 (by decide) c333
    have c354 := k338.gi kM_at4 rfl c334
    have c355 := k338.gi kM_at4 rfl c327
    rcases hg347 with ⟨rfl, ⟨x339, c340, rx339, tx339⟩⟩ | ⟨rfl, ⟨x341, c342, rx341, tx341⟩, ⟨x343, c344, rx343, tx343⟩⟩ | ⟨rfl, ⟨x345, c346, rx345, tx345⟩⟩
    · replace hM := hM.call (r' := 0) hv348 (by decide)
      have ex339 : x339.toInt = x9.toInt := by rw [← c353.symm.trans c340]
      refine lv_if_eq (tgt := 76) hx hb dX12_isDoingHere_47 (by decide) (fun _ => ?_) (fun c => absurd (by decide) c)
      replace hM := hM.pos (by decide)
      refine lv_aload_n hx hb dX12_isDoingHere_76 rfl (lv_at hl 1 rfl) ?_
      refine tk_getA hC hK hw hT hinX12 kM_at0 (by decide) rfl 5 (by decide) (List.mem_cons_of_mem _ uw_6_17) rfl rfl dX12_isDoingHere_77 ?_
      refine lv_iload_n hx hb dX12_isDoingHere_80 rfl (lv_at hl 0 rfl) ?_
      refine lv_iconst (v := 2) hx hb dX12_isDoingHere_81 (by decide) ?_
      refine lv_iadd hx hb dX12_isDoingHere_82 ?_
      refine lv_topi (fun x356 ex356 => ?_)
      have ezx356 := ex356
      have ex356 : x356.toInt = x316.toInt + (2 : Int) := by rw [ex356]; exact wk_add (show (-2147483648) ≤ x316.toInt + (2 : Int) by omega) (show x316.toInt + (2 : Int) ≤ 2147483647 by omega)
      replace hM := hM.lt ex356.symm
      refine lv_aload_n hx hb dX12_isDoingHere_83 rfl (lv_at hl 1 rfl) ?_
      refine tk_getA hC hK hw hT hinX12 kM_at0 (by decide) rfl 4 (by decide) (List.mem_cons_of_mem _ uw_6_16) rfl rfl dX12_isDoingHere_84 ?_
      refine lv_aload_n hx hb dX12_isDoingHere_87 rfl (lv_at hl 1 rfl) ?_
      refine tk_geti hC hK hw hT hinX12 kM_at0 (by decide) rfl 17 (by decide) (List.mem_cons_of_mem _ uw_19_7) rfl rfl dX12_isDoingHere_88 (fun x357 c358 rx357 tx357 => ?_)
      refine wk_top f0_ (c358.symm.trans c349) ?_
      replace hM := hM.rd (sI_at c349)
      refine tk_iald hC hK hw hT kM_at3 rfl rfl (show 0 ≤ f0_.toInt from rf0_) (show f0_.toInt < 7 from Int.lt_of_le_of_lt tf0_ (by decide)) dX12_isDoingHere_91 (fun x359 c360 rx359 tx359 => ?_)
      have hox359 := c360
      have c360 : gi w337 3 (f0_.toInt).toNat = x359 := (congrArg (gi w337 3) (congrArg Int.toNat (show f0_.toInt = f0_.toInt from rfl))).trans c360
      refine wk_top f2_ (c360.symm.trans c351) ?_
      replace hM := hM.rd ((sI_at hox359).trans (congrArg Int32.toInt (c360.symm.trans c351)))
      refine tk_iast hC hK hw hT kM_at4 (by decide) rfl rfl (show 0 ≤ x356.toInt by first | with_reducible assumption | omega) (show x356.toInt < 216 by first | with_reducible assumption | omega) (wk_i32 f2_).1 (wk_i32 f2_).2 dX12_isDoingHere_92 (fun H locs w361 hw hT k363 c362 => ?_)
      replace hM := hM.wr (sI_up k363 c362)
      have hR := RL_clause hR k363 (show 36 * f0_.toInt + 3 * (gi w337 5 (f0_.toInt).toNat).toInt ≤ ((x356.toInt.toNat : Nat) : Int) by rw [c352]; omega) (show ((x356.toInt.toNat : Nat) : Int) < 36 * f0_.toInt + 36 by omega) (fun r hr => by obtain ⟨x, e, t⟩ := hT.rda (lo := 0) (hi := 12) (i := r) kM_at5 rfl rfl hr; rw [e]; exact t)
      have hF := hF.put kM_at4 (inE_of (a := 0) (b := 216) (by decide) (show 0 ≤ x356.toInt.toNat by omega) (show x356.toInt.toNat ≤ 216 by omega)) k363
      have c364 := k363.gi (Or.inl (tk_ne kM_at0 kM_at4 (by decide))) c349
      have c365 := k363.gi (Or.inl (tk_ne kM_at0 kM_at4 (by decide))) c350
      have c366 := k363.gi (Or.inl (tk_ne kM_at3 kM_at4 (by decide))) c351
      have c367 := k363.gi (Or.inl (tk_ne kM_at5 kM_at4 (by decide))) c352
      have c368 := k363.gi (Or.inl (tk_ne kM_at0 kM_at4 (by decide))) c353
      have c369 := k363.gi (Or.inr (show (36 * f0_.toInt + 3 * f3_.toInt + 0).toNat ≠ x356.toInt.toNat by omega)) c354
      have c370 := k363.gi (Or.inr (show (36 * f0_.toInt + 3 * f3_.toInt + 1).toNat ≠ x356.toInt.toNat by omega)) c355
      have c362 : gi w361 4 (36 * f0_.toInt + 3 * f3_.toInt + 2).toNat = f2_ := (congrArg (gi w361 4) (congrArg Int.toNat (show 36 * f0_.toInt + 3 * f3_.toInt + 2 = x356.toInt by first | exact Int.le_antisymm (by omega) (by omega) | omega))).trans c362
      refine lv_aload_n hx hb dX12_isDoingHere_93 rfl (lv_at hl 1 rfl) ?_
      refine tk_getA hC hK hw hT hinX12 kM_at0 (by decide) rfl 6 (by decide) (List.mem_cons_of_mem _ uw_6_18) rfl rfl dX12_isDoingHere_94 ?_
      refine lv_aload_n hx hb dX12_isDoingHere_97 rfl (lv_at hl 1 rfl) ?_
      refine tk_geti hC hK hw hT hinX12 kM_at0 (by decide) rfl 17 (by decide) (List.mem_cons_of_mem _ uw_19_7) rfl rfl dX12_isDoingHere_98 (fun x371 c372 rx371 tx371 => ?_)
      refine wk_top f0_ (c372.symm.trans c364) ?_
      replace hM := hM.rd (sI_at c364)
      refine lv_dup2_11 hx hb dX12_isDoingHere_101 rfl rfl ?_
      refine tk_iald hC hK hw hT kM_at5 rfl rfl (show 0 ≤ f0_.toInt from rf0_) (show f0_.toInt < 6 from Int.lt_of_le_of_lt tf0_ (by decide)) dX12_isDoingHere_102 (fun x373 c374 rx373 tx373 => ?_)
      have hox373 := c374
      have c374 : gi w361 5 (f0_.toInt).toNat = x373 := (congrArg (gi w361 5) (congrArg Int.toNat (show f0_.toInt = f0_.toInt from rfl))).trans c374
      refine wk_top f3_ (c374.symm.trans c367) ?_
      replace hM := hM.rd ((sI_at hox373).trans (congrArg Int32.toInt (c374.symm.trans c367)))
      refine lv_iconst (v := 1) hx hb dX12_isDoingHere_103 (by decide) ?_
      refine lv_iadd hx hb dX12_isDoingHere_104 ?_
      refine lv_topi (fun x375 ex375 => ?_)
      have ezx375 := ex375
      have ex375 : x375.toInt = f3_.toInt + (1 : Int) := by rw [ex375]; exact wk_add (show (-2147483648) ≤ f3_.toInt + (1 : Int) by omega) (show f3_.toInt + (1 : Int) ≤ 2147483647 by omega)
      replace hM := hM.lt ex375.symm
      refine tk_iast hC hK hw hT kM_at5 (by decide) rfl rfl (show 0 ≤ f0_.toInt from rf0_) (show f0_.toInt < 6 from Int.lt_of_le_of_lt tf0_ (by decide)) (show 0 ≤ x375.toInt by first | with_reducible assumption | omega) (show x375.toInt ≤ 12 by first | with_reducible assumption | omega) dX12_isDoingHere_105 (fun H locs w376 hw hT k378 c377 => ?_)
      replace hM := hM.wr (sI_up k378 c377)
      have hR := RL_add (t := f0_.toInt) (K := f3_) (b := (-1)) hR k378 c367 (by rw [show gi w376 5 (f0_.toInt).toNat = x375 from c377]; omega) (by omega) c370 (c362.trans c366.symm) (by rw [c366]; omega) (Or.inl (by decide))
      have hF := hF.put kM_at5 (inE_of (a := 0) (b := 6) (by decide) (show 0 ≤ f0_.toInt.toNat by omega) (show f0_.toInt.toNat ≤ 6 by omega)) k378
      have c379 := k378.gi (Or.inl (tk_ne kM_at0 kM_at5 (by decide))) c364
      have c380 := k378.gi (Or.inl (tk_ne kM_at0 kM_at5 (by decide))) c365
      have c381 := k378.gi (Or.inl (tk_ne kM_at3 kM_at5 (by decide))) c366
      have c382 := k378.gi (Or.inl (tk_ne kM_at0 kM_at5 (by decide))) c368
      have c383 := k378.gi (Or.inl (tk_ne kM_at4 kM_at5 (by decide))) c369
      have c384 := k378.gi (Or.inl (tk_ne kM_at4 kM_at5 (by decide))) c370
      have c385 := k378.gi (Or.inl (tk_ne kM_at4 kM_at5 (by decide))) c362
      have c377 : gi w376 5 (f0_.toInt).toNat = x375 := (congrArg (gi w376 5) (congrArg Int.toNat (show f0_.toInt = f0_.toInt from rfl))).trans c377
      refine lv_iconst (v := 1) hx hb dX12_isDoingHere_106 (by decide) ?_
      exact tk_zret hC hr rfl hlocks hK ⟨hT, hF, hM.ret (by decide), (Or.inr (Or.inr (Or.inr ⟨rfl, ⟨x9, c382, (show 0 ≤ x9.toInt by first | with_reducible assumption | omega), (show x9.toInt ≤ 400 by first | with_reducible assumption | omega)⟩, ⟨f0_, c379, (show 0 ≤ f0_.toInt from rf0_), (show f0_.toInt ≤ 5 from tf0_)⟩, hR, (by simp only [c379, cf0_, c381, c380]; omega), (by simp only [c379, cf0_, cf3_, c377]; omega)⟩)))⟩ hw dX12_isDoingHere_107
    · replace hM := hM.call (r' := 1) hv348 (by decide)
      have ex341 : x341.toInt = x9.toInt := by rw [← c353.symm.trans c342]
      refine lv_if_eq (tgt := 76) hx hb dX12_isDoingHere_47 (by decide) (fun c => absurd c (by decide)) (fun _ => ?_)
      replace hM := hM.neg (by decide)
      refine lv_aload_n hx hb dX12_isDoingHere_50 rfl (lv_at hl 1 rfl) ?_
      refine tk_getA hC hK hw hT hinX12 kM_at0 (by decide) rfl 5 (by decide) (List.mem_cons_of_mem _ uw_6_17) rfl rfl dX12_isDoingHere_51 ?_
      refine lv_iload_n hx hb dX12_isDoingHere_54 rfl (lv_at hl 0 rfl) ?_
      refine lv_iconst (v := 1) hx hb dX12_isDoingHere_55 (by decide) ?_
      refine lv_iadd hx hb dX12_isDoingHere_56 ?_
      refine lv_topi (fun x386 ex386 => ?_)
      have ezx386 := ex386
      have ex386 : x386.toInt = x316.toInt + (1 : Int) := by rw [ex386]; exact wk_add (show (-2147483648) ≤ x316.toInt + (1 : Int) by omega) (show x316.toInt + (1 : Int) ≤ 2147483647 by omega)
      replace hM := hM.lt ex386.symm
      refine lv_aload_n hx hb dX12_isDoingHere_57 rfl (lv_at hl 1 rfl) ?_
      refine tk_getA hC hK hw hT hinX12 kM_at0 (by decide) rfl 4 (by decide) (List.mem_cons_of_mem _ uw_6_16) rfl rfl dX12_isDoingHere_58 ?_
      refine lv_aload_n hx hb dX12_isDoingHere_61 rfl (lv_at hl 1 rfl) ?_
      refine tk_geti hC hK hw hT hinX12 kM_at0 (by decide) rfl 17 (by decide) (List.mem_cons_of_mem _ uw_19_7) rfl rfl dX12_isDoingHere_62 (fun x387 c388 rx387 tx387 => ?_)
      refine wk_top f0_ (c388.symm.trans c349) ?_
      replace hM := hM.rd (sI_at c349)
      refine tk_iald hC hK hw hT kM_at3 rfl rfl (show 0 ≤ f0_.toInt from rf0_) (show f0_.toInt < 7 from Int.lt_of_le_of_lt tf0_ (by decide)) dX12_isDoingHere_65 (fun x389 c390 rx389 tx389 => ?_)
      have hox389 := c390
      have c390 : gi w337 3 (f0_.toInt).toNat = x389 := (congrArg (gi w337 3) (congrArg Int.toNat (show f0_.toInt = f0_.toInt from rfl))).trans c390
      refine wk_top f2_ (c390.symm.trans c351) ?_
      replace hM := hM.rd ((sI_at hox389).trans (congrArg Int32.toInt (c390.symm.trans c351)))
      refine tk_iast hC hK hw hT kM_at4 (by decide) rfl rfl (show 0 ≤ x386.toInt by first | with_reducible assumption | omega) (show x386.toInt < 216 by first | with_reducible assumption | omega) (wk_i32 f2_).1 (wk_i32 f2_).2 dX12_isDoingHere_66 (fun H locs w391 hw hT k393 c392 => ?_)
      replace hM := hM.wr (sI_up k393 c392)
      have hR := RL_clause hR k393 (show 36 * f0_.toInt + 3 * (gi w337 5 (f0_.toInt).toNat).toInt ≤ ((x386.toInt.toNat : Nat) : Int) by rw [c352]; omega) (show ((x386.toInt.toNat : Nat) : Int) < 36 * f0_.toInt + 36 by omega) (fun r hr => by obtain ⟨x, e, t⟩ := hT.rda (lo := 0) (hi := 12) (i := r) kM_at5 rfl rfl hr; rw [e]; exact t)
      have hF := hF.put kM_at4 (inE_of (a := 0) (b := 216) (by decide) (show 0 ≤ x386.toInt.toNat by omega) (show x386.toInt.toNat ≤ 216 by omega)) k393
      have c394 := k393.gi (Or.inl (tk_ne kM_at0 kM_at4 (by decide))) c349
      have c395 := k393.gi (Or.inl (tk_ne kM_at0 kM_at4 (by decide))) c350
      have c396 := k393.gi (Or.inl (tk_ne kM_at3 kM_at4 (by decide))) c351
      have c397 := k393.gi (Or.inl (tk_ne kM_at5 kM_at4 (by decide))) c352
      have c398 := k393.gi (Or.inl (tk_ne kM_at0 kM_at4 (by decide))) c353
      have c399 := k393.gi (Or.inr (show (36 * f0_.toInt + 3 * f3_.toInt + 0).toNat ≠ x386.toInt.toNat by omega)) c354
      have c400 := k393.gi (Or.inl (tk_ne kM_at0 kM_at4 (by decide))) c344
      have c392 : gi w391 4 (36 * f0_.toInt + 3 * f3_.toInt + 1).toNat = f2_ := (congrArg (gi w391 4) (congrArg Int.toNat (show 36 * f0_.toInt + 3 * f3_.toInt + 1 = x386.toInt by first | exact Int.le_antisymm (by omega) (by omega) | omega))).trans c392
      refine lv_aload_n hx hb dX12_isDoingHere_67 rfl (lv_at hl 1 rfl) ?_
      obtain ⟨x401, c402, rx401, tx401⟩ := hT.rdi (lo := 0) (hi := 400) (k := 22) kM_at0 (by decide) rfl
      obtain ⟨x403, c404, rx403, tx403⟩ := hT.rdi (lo := (-100)) (hi := 10) (k := 19) kM_at0 (by decide) rfl
      refine tk_Vi hC hK hw hT hA hE hSR kM_at0 (by decide) rfl (kz_X12_tested_1 l adK adV dC dI cy ad B hB0 (Int.le_trans hB1 (by decide)) qr s1    w391 H.size hT f0_ c394 (show 0 ≤ f0_.toInt from rf0_) (show f0_.toInt ≤ 5 from tf0_) f1_ c395 (show 0 ≤ f1_.toInt from rf1_) (show f1_.toInt ≤ 60 from tf1_) x403 c404 (show (-100) ≤ x403.toInt by first | with_reducible assumption | omega) (show x403.toInt ≤ 10 by first | with_reducible assumption | omega) x401 c402 (show 0 ≤ x401.toInt by first | with_reducible assumption | omega) (show x401.toInt ≤ 400 by first | with_reducible assumption | omega) f2_ c396 (show 0 ≤ f2_.toInt from rf2_) (show f2_.toInt ≤ 400 from tf2_) (show 3 * f2_.toInt ≤ 14 * f1_.toInt from pr0_) (show f2_.toInt ≤ 280 from pr1_) f2_.toInt 0 (OKW_nil hR (by rw [c396]) (by omega))) (cwV 0 hC.2.2.2.2 uV_RX12_215 rfl rfl rfl (by decide +kernel) ⟨Nat.le_of_ble_eq_true rfl, Nat.le_of_ble_eq_true rfl⟩) rfl hl.1 rfl (Nat.le_of_ble_eq_true rfl) dX12_isDoingHere_68 (fun r405 w407 H locs hp406 hw => ?_)
      obtain ⟨hT, k408, hv436, hg435⟩ := hp406
      have hF := hF.tr k408 (by decide)
      have c437 := k408.gi kM_at0 (by decide) c394
      have c438 := k408.gi kM_at5 rfl c397
      have c439 := k408.gi kM_at0 (by decide) c398
      have c440 := k408.gi kM_at4 rfl c399
      have c441 := k408.gi kM_at4 rfl c392
      rcases hg435 with ⟨rfl, ⟨x409, c410, rx409, tx409⟩, ⟨x411, c412, rx411, tx411⟩, ⟨x413, c414, rx413, tx413⟩, ⟨x415, c416, rx415, tx415⟩, hq417⟩ | ⟨rfl, ⟨x418, c419, rx418, tx418⟩, ⟨x420, c421, rx420, tx420⟩, ⟨x422, c423, rx422, tx422⟩, ⟨x424, c425, rx424, tx424⟩, hq426⟩ | ⟨rfl, ⟨x427, c428, rx427, tx427⟩, ⟨x429, c430, rx429, tx429⟩, ⟨x431, c432, rx431, tx431⟩, hq433, g434⟩
      · replace hM := hM.call (r' := 0) hv436 (by decide)
        have ex409 : x409.toInt = x9.toInt := by rw [← c439.symm.trans c410]
        have ex413 : x413.toInt = f0_.toInt := by rw [← c437.symm.trans c414]
        obtain ⟨x442, c443, rx442, tx442⟩ := hT.rda (lo := 0) (hi := 400) (i := (f0_.toInt).toNat) kM_at3 rfl rfl (by omega)
        obtain ⟨x444, c445, rx444, tx444⟩ := hT.rdi (lo := 0) (hi := 60) (k := 18) kM_at0 (by decide) rfl
        obtain ⟨x446, c447, rx446, tx446⟩ := hT.rdi (lo := (-100)) (hi := 10) (k := 19) kM_at0 (by decide) rfl
        have hR := hq417
        refine lv_if_ne (tgt := 76) hx hb dX12_isDoingHere_71 (by decide) (fun c => absurd (by decide) c) (fun _ => ?_)
        replace hM := hM.neg (by decide)
        refine lv_iconst (v := 0) hx hb dX12_isDoingHere_74 (by decide) ?_
        exact tk_zret hC hr rfl hlocks hK ⟨hT, hF, hM.ret (by decide), (Or.inl ⟨rfl, ⟨x9, c439, (show 1 ≤ x9.toInt by first | with_reducible assumption | omega), (show x9.toInt ≤ 400 by first | with_reducible assumption | omega)⟩, ⟨x411, c412, (show 1 ≤ x411.toInt by first | with_reducible assumption | omega), (show x411.toInt ≤ 3205 by first | with_reducible assumption | omega)⟩, ⟨f0_, c437, (show 0 ≤ f0_.toInt from rf0_), (show f0_.toInt ≤ 5 from tf0_)⟩, ⟨x415, c416, (show 0 ≤ x415.toInt by first | with_reducible assumption | omega), (show x415.toInt ≤ 399 by first | with_reducible assumption | omega)⟩, hR⟩)⟩ hw dX12_isDoingHere_75
      · replace hM := hM.call (r' := 0) hv436 (by decide)
        have ex418 : x418.toInt = x9.toInt := by rw [← c439.symm.trans c419]
        have ex422 : x422.toInt = f0_.toInt := by rw [← c437.symm.trans c423]
        obtain ⟨x448, c449, rx448, tx448⟩ := hT.rda (lo := 0) (hi := 400) (i := (f0_.toInt).toNat) kM_at3 rfl rfl (by omega)
        obtain ⟨x450, c451, rx450, tx450⟩ := hT.rdi (lo := 0) (hi := 60) (k := 18) kM_at0 (by decide) rfl
        obtain ⟨x452, c453, rx452, tx452⟩ := hT.rdi (lo := (-100)) (hi := 10) (k := 19) kM_at0 (by decide) rfl
        have hR := hq426
        refine lv_if_ne (tgt := 76) hx hb dX12_isDoingHere_71 (by decide) (fun c => absurd (by decide) c) (fun _ => ?_)
        replace hM := hM.neg (by decide)
        refine lv_iconst (v := 0) hx hb dX12_isDoingHere_74 (by decide) ?_
        exact tk_zret hC hr rfl hlocks hK ⟨hT, hF, hM.ret (by decide), (Or.inl ⟨rfl, ⟨x9, c439, (show 1 ≤ x9.toInt by first | with_reducible assumption | omega), (show x9.toInt ≤ 400 by first | with_reducible assumption | omega)⟩, ⟨x420, c421, (show 1 ≤ x420.toInt by first | with_reducible assumption | omega), (show x420.toInt ≤ 3205 by first | with_reducible assumption | omega)⟩, ⟨f0_, c437, (show 0 ≤ f0_.toInt from rf0_), (show f0_.toInt ≤ 5 from tf0_)⟩, ⟨x424, c425, (show 0 ≤ x424.toInt by first | with_reducible assumption | omega), (show x424.toInt ≤ 399 by first | with_reducible assumption | omega)⟩, hR⟩)⟩ hw dX12_isDoingHere_75
      · replace hM := hM.call (r' := 1) hv436 (by decide)
        have ex427 : x427.toInt = f0_.toInt := by rw [← c437.symm.trans c428]
        obtain ⟨x454, c455, rx454, tx454⟩ := hT.rda (lo := 0) (hi := 400) (i := (f0_.toInt).toNat) kM_at3 rfl rfl (by omega)
        obtain ⟨x456, c457, rx456, tx456⟩ := hT.rdi (lo := 0) (hi := 60) (k := 18) kM_at0 (by decide) rfl
        have g434 : 3 * x454.toInt ≤ 14 * x456.toInt := by have q := g434; simp only [c394, c437, c455, c457] at q; first | with_reducible exact q | omega
        have hO : OKW w407 f0_.toInt f2_.toInt (1) := by have q := hq433; exact OKW_cast q (by omega)
        refine lv_if_ne (tgt := 76) hx hb dX12_isDoingHere_71 (by decide) (fun _ => ?_) (fun c => absurd c (by decide))
        replace hM := hM.pos (by decide)
        refine lv_aload_n hx hb dX12_isDoingHere_76 rfl (lv_at hl 1 rfl) ?_
        refine tk_getA hC hK hw hT hinX12 kM_at0 (by decide) rfl 5 (by decide) (List.mem_cons_of_mem _ uw_6_17) rfl rfl dX12_isDoingHere_77 ?_
        refine lv_iload_n hx hb dX12_isDoingHere_80 rfl (lv_at hl 0 rfl) ?_
        refine lv_iconst (v := 2) hx hb dX12_isDoingHere_81 (by decide) ?_
        refine lv_iadd hx hb dX12_isDoingHere_82 ?_
        refine lv_topi (fun x458 ex458 => ?_)
        have ezx458 := ex458
        have ex458 : x458.toInt = x316.toInt + (2 : Int) := by rw [ex458]; exact wk_add (show (-2147483648) ≤ x316.toInt + (2 : Int) by omega) (show x316.toInt + (2 : Int) ≤ 2147483647 by omega)
        replace hM := hM.lt ex458.symm
        refine lv_aload_n hx hb dX12_isDoingHere_83 rfl (lv_at hl 1 rfl) ?_
        refine tk_getA hC hK hw hT hinX12 kM_at0 (by decide) rfl 4 (by decide) (List.mem_cons_of_mem _ uw_6_16) rfl rfl dX12_isDoingHere_84 ?_
        refine lv_aload_n hx hb dX12_isDoingHere_87 rfl (lv_at hl 1 rfl) ?_
        refine tk_geti hC hK hw hT hinX12 kM_at0 (by decide) rfl 17 (by decide) (List.mem_cons_of_mem _ uw_19_7) rfl rfl dX12_isDoingHere_88 (fun x459 c460 rx459 tx459 => ?_)
        refine wk_top f0_ (c460.symm.trans c437) ?_
        replace hM := hM.rd (sI_at c437)
        refine tk_iald hC hK hw hT kM_at3 rfl rfl (show 0 ≤ f0_.toInt from rf0_) (show f0_.toInt < 7 from Int.lt_of_le_of_lt tf0_ (by decide)) dX12_isDoingHere_91 (fun x461 c462 rx461 tx461 => ?_)
        have hox461 := c462
        have c462 : gi w407 3 (f0_.toInt).toNat = x461 := (congrArg (gi w407 3) (congrArg Int.toNat (show f0_.toInt = f0_.toInt from rfl))).trans c462
        refine wk_top x454 (c462.symm.trans c455) ?_
        replace hM := hM.rd ((sI_at hox461).trans (congrArg Int32.toInt (c462.symm.trans c455)))
        refine tk_iast hC hK hw hT kM_at4 (by decide) rfl rfl (show 0 ≤ x458.toInt by first | with_reducible assumption | omega) (show x458.toInt < 216 by first | with_reducible assumption | omega) (wk_i32 x454).1 (wk_i32 x454).2 dX12_isDoingHere_92 (fun H locs w463 hw hT k465 c464 => ?_)
        replace hM := hM.wr (sI_up k465 c464)
        have hO := OKW_clause hO k465 (show 36 * f0_.toInt + 3 * (gi w407 5 (f0_.toInt).toNat).toInt ≤ ((x458.toInt.toNat : Nat) : Int) by rw [c438]; omega) (show ((x458.toInt.toNat : Nat) : Int) < 36 * f0_.toInt + 36 by omega) (fun r hr => by obtain ⟨x, e, t⟩ := hT.rda (lo := 0) (hi := 12) (i := r) kM_at5 rfl rfl hr; rw [e]; exact t)
        have hF := hF.put kM_at4 (inE_of (a := 0) (b := 216) (by decide) (show 0 ≤ x458.toInt.toNat by omega) (show x458.toInt.toNat ≤ 216 by omega)) k465
        have c466 := k465.gi (Or.inl (tk_ne kM_at0 kM_at4 (by decide))) c437
        have c467 := k465.gi (Or.inl (tk_ne kM_at5 kM_at4 (by decide))) c438
        have c468 := k465.gi (Or.inl (tk_ne kM_at0 kM_at4 (by decide))) c439
        have c469 := k465.gi (Or.inr (show (36 * f0_.toInt + 3 * f3_.toInt + 0).toNat ≠ x458.toInt.toNat by omega)) c440
        have c470 := k465.gi (Or.inr (show (36 * f0_.toInt + 3 * f3_.toInt + 1).toNat ≠ x458.toInt.toNat by omega)) c441
        have c471 := k465.gi (Or.inl (tk_ne kM_at0 kM_at4 (by decide))) c430
        have c472 := k465.gi (Or.inl (tk_ne kM_at0 kM_at4 (by decide))) c432
        have c473 := k465.gi (Or.inl (tk_ne kM_at3 kM_at4 (by decide))) c455
        have c474 := k465.gi (Or.inl (tk_ne kM_at0 kM_at4 (by decide))) c457
        have c464 : gi w463 4 (36 * f0_.toInt + 3 * f3_.toInt + 2).toNat = x454 := (congrArg (gi w463 4) (congrArg Int.toNat (show 36 * f0_.toInt + 3 * f3_.toInt + 2 = x458.toInt by first | exact Int.le_antisymm (by omega) (by omega) | omega))).trans c464
        refine lv_aload_n hx hb dX12_isDoingHere_93 rfl (lv_at hl 1 rfl) ?_
        refine tk_getA hC hK hw hT hinX12 kM_at0 (by decide) rfl 6 (by decide) (List.mem_cons_of_mem _ uw_6_18) rfl rfl dX12_isDoingHere_94 ?_
        refine lv_aload_n hx hb dX12_isDoingHere_97 rfl (lv_at hl 1 rfl) ?_
        refine tk_geti hC hK hw hT hinX12 kM_at0 (by decide) rfl 17 (by decide) (List.mem_cons_of_mem _ uw_19_7) rfl rfl dX12_isDoingHere_98 (fun x475 c476 rx475 tx475 => ?_)
        refine wk_top f0_ (c476.symm.trans c466) ?_
        replace hM := hM.rd (sI_at c466)
        refine lv_dup2_11 hx hb dX12_isDoingHere_101 rfl rfl ?_
        refine tk_iald hC hK hw hT kM_at5 rfl rfl (show 0 ≤ f0_.toInt from rf0_) (show f0_.toInt < 6 from Int.lt_of_le_of_lt tf0_ (by decide)) dX12_isDoingHere_102 (fun x477 c478 rx477 tx477 => ?_)
        have hox477 := c478
        have c478 : gi w463 5 (f0_.toInt).toNat = x477 := (congrArg (gi w463 5) (congrArg Int.toNat (show f0_.toInt = f0_.toInt from rfl))).trans c478
        refine wk_top f3_ (c478.symm.trans c467) ?_
        replace hM := hM.rd ((sI_at hox477).trans (congrArg Int32.toInt (c478.symm.trans c467)))
        refine lv_iconst (v := 1) hx hb dX12_isDoingHere_103 (by decide) ?_
        refine lv_iadd hx hb dX12_isDoingHere_104 ?_
        refine lv_topi (fun x479 ex479 => ?_)
        have ezx479 := ex479
        have ex479 : x479.toInt = f3_.toInt + (1 : Int) := by rw [ex479]; exact wk_add (show (-2147483648) ≤ f3_.toInt + (1 : Int) by omega) (show f3_.toInt + (1 : Int) ≤ 2147483647 by omega)
        replace hM := hM.lt ex479.symm
        refine tk_iast hC hK hw hT kM_at5 (by decide) rfl rfl (show 0 ≤ f0_.toInt from rf0_) (show f0_.toInt < 6 from Int.lt_of_le_of_lt tf0_ (by decide)) (show 0 ≤ x479.toInt by first | with_reducible assumption | omega) (show x479.toInt ≤ 12 by first | with_reducible assumption | omega) dX12_isDoingHere_105 (fun H locs w480 hw hT k482 c481 => ?_)
        replace hM := hM.wr (sI_up k482 c481)
        have hR := RL_add (t := f0_.toInt) (K := f3_) (b := f2_) hO.1 k482 c467 (by rw [show gi w480 5 (f0_.toInt).toNat = x479 from c481]; omega) (by omega) c470 (c464.trans c473.symm) (by rw [c473]; omega) (Or.inr (OKW_cast hO (by omega)))
        have hF := hF.put kM_at5 (inE_of (a := 0) (b := 6) (by decide) (show 0 ≤ f0_.toInt.toNat by omega) (show f0_.toInt.toNat ≤ 6 by omega)) k482
        have c483 := k482.gi (Or.inl (tk_ne kM_at0 kM_at5 (by decide))) c466
        have c484 := k482.gi (Or.inl (tk_ne kM_at0 kM_at5 (by decide))) c468
        have c485 := k482.gi (Or.inl (tk_ne kM_at4 kM_at5 (by decide))) c469
        have c486 := k482.gi (Or.inl (tk_ne kM_at4 kM_at5 (by decide))) c470
        have c487 := k482.gi (Or.inl (tk_ne kM_at0 kM_at5 (by decide))) c471
        have c488 := k482.gi (Or.inl (tk_ne kM_at0 kM_at5 (by decide))) c472
        have c489 := k482.gi (Or.inl (tk_ne kM_at3 kM_at5 (by decide))) c473
        have c490 := k482.gi (Or.inl (tk_ne kM_at0 kM_at5 (by decide))) c474
        have c491 := k482.gi (Or.inl (tk_ne kM_at4 kM_at5 (by decide))) c464
        have c481 : gi w480 5 (f0_.toInt).toNat = x479 := (congrArg (gi w480 5) (congrArg Int.toNat (show f0_.toInt = f0_.toInt from rfl))).trans c481
        refine lv_iconst (v := 1) hx hb dX12_isDoingHere_106 (by decide) ?_
        exact tk_zret hC hr rfl hlocks hK ⟨hT, hF, hM.ret (by decide), (Or.inr (Or.inr (Or.inl ⟨rfl, ⟨x9, c484, (show 1 ≤ x9.toInt by first | with_reducible assumption | omega), (show x9.toInt ≤ 400 by first | with_reducible assumption | omega)⟩, ⟨f0_, c483, (show 0 ≤ f0_.toInt from rf0_), (show f0_.toInt ≤ 5 from tf0_)⟩, hR, (by simp only [c483, cf0_, c489, c490]; omega), (by simp only [c483, cf0_, cf3_, c481]; omega)⟩)))⟩ hw dX12_isDoingHere_107
    · replace hM := hM.call (r' := 1) hv348 (by decide)
      have ex345 : x345.toInt = x9.toInt := by rw [← c353.symm.trans c346]
      refine lv_if_eq (tgt := 76) hx hb dX12_isDoingHere_47 (by decide) (fun c => absurd c (by decide)) (fun _ => ?_)
      replace hM := hM.neg (by decide)
      refine lv_aload_n hx hb dX12_isDoingHere_50 rfl (lv_at hl 1 rfl) ?_
      refine tk_getA hC hK hw hT hinX12 kM_at0 (by decide) rfl 5 (by decide) (List.mem_cons_of_mem _ uw_6_17) rfl rfl dX12_isDoingHere_51 ?_
      refine lv_iload_n hx hb dX12_isDoingHere_54 rfl (lv_at hl 0 rfl) ?_
      refine lv_iconst (v := 1) hx hb dX12_isDoingHere_55 (by decide) ?_
      refine lv_iadd hx hb dX12_isDoingHere_56 ?_
      refine lv_topi (fun x492 ex492 => ?_)
      have ezx492 := ex492
      have ex492 : x492.toInt = x316.toInt + (1 : Int) := by rw [ex492]; exact wk_add (show (-2147483648) ≤ x316.toInt + (1 : Int) by omega) (show x316.toInt + (1 : Int) ≤ 2147483647 by omega)
      replace hM := hM.lt ex492.symm
      refine lv_aload_n hx hb dX12_isDoingHere_57 rfl (lv_at hl 1 rfl) ?_
      refine tk_getA hC hK hw hT hinX12 kM_at0 (by decide) rfl 4 (by decide) (List.mem_cons_of_mem _ uw_6_16) rfl rfl dX12_isDoingHere_58 ?_
      refine lv_aload_n hx hb dX12_isDoingHere_61 rfl (lv_at hl 1 rfl) ?_
      refine tk_geti hC hK hw hT hinX12 kM_at0 (by decide) rfl 17 (by decide) (List.mem_cons_of_mem _ uw_19_7) rfl rfl dX12_isDoingHere_62 (fun x493 c494 rx493 tx493 => ?_)
      refine wk_top f0_ (c494.symm.trans c349) ?_
      replace hM := hM.rd (sI_at c349)
      refine tk_iald hC hK hw hT kM_at3 rfl rfl (show 0 ≤ f0_.toInt from rf0_) (show f0_.toInt < 7 from Int.lt_of_le_of_lt tf0_ (by decide)) dX12_isDoingHere_65 (fun x495 c496 rx495 tx495 => ?_)
      have hox495 := c496
      have c496 : gi w337 3 (f0_.toInt).toNat = x495 := (congrArg (gi w337 3) (congrArg Int.toNat (show f0_.toInt = f0_.toInt from rfl))).trans c496
      refine wk_top f2_ (c496.symm.trans c351) ?_
      replace hM := hM.rd ((sI_at hox495).trans (congrArg Int32.toInt (c496.symm.trans c351)))
      refine tk_iast hC hK hw hT kM_at4 (by decide) rfl rfl (show 0 ≤ x492.toInt by first | with_reducible assumption | omega) (show x492.toInt < 216 by first | with_reducible assumption | omega) (wk_i32 f2_).1 (wk_i32 f2_).2 dX12_isDoingHere_66 (fun H locs w497 hw hT k499 c498 => ?_)
      replace hM := hM.wr (sI_up k499 c498)
      have hR := RL_clause hR k499 (show 36 * f0_.toInt + 3 * (gi w337 5 (f0_.toInt).toNat).toInt ≤ ((x492.toInt.toNat : Nat) : Int) by rw [c352]; omega) (show ((x492.toInt.toNat : Nat) : Int) < 36 * f0_.toInt + 36 by omega) (fun r hr => by obtain ⟨x, e, t⟩ := hT.rda (lo := 0) (hi := 12) (i := r) kM_at5 rfl rfl hr; rw [e]; exact t)
      have hF := hF.put kM_at4 (inE_of (a := 0) (b := 216) (by decide) (show 0 ≤ x492.toInt.toNat by omega) (show x492.toInt.toNat ≤ 216 by omega)) k499
      have c500 := k499.gi (Or.inl (tk_ne kM_at0 kM_at4 (by decide))) c349
      have c501 := k499.gi (Or.inl (tk_ne kM_at0 kM_at4 (by decide))) c350
      have c502 := k499.gi (Or.inl (tk_ne kM_at3 kM_at4 (by decide))) c351
      have c503 := k499.gi (Or.inl (tk_ne kM_at5 kM_at4 (by decide))) c352
      have c504 := k499.gi (Or.inl (tk_ne kM_at0 kM_at4 (by decide))) c353
      have c505 := k499.gi (Or.inr (show (36 * f0_.toInt + 3 * f3_.toInt + 0).toNat ≠ x492.toInt.toNat by omega)) c354
      have c498 : gi w497 4 (36 * f0_.toInt + 3 * f3_.toInt + 1).toNat = f2_ := (congrArg (gi w497 4) (congrArg Int.toNat (show 36 * f0_.toInt + 3 * f3_.toInt + 1 = x492.toInt by first | exact Int.le_antisymm (by omega) (by omega) | omega))).trans c498
      refine lv_aload_n hx hb dX12_isDoingHere_67 rfl (lv_at hl 1 rfl) ?_
      obtain ⟨x506, c507, rx506, tx506⟩ := hT.rdi (lo := 0) (hi := 400) (k := 22) kM_at0 (by decide) rfl
      obtain ⟨x508, c509, rx508, tx508⟩ := hT.rdi (lo := (-100)) (hi := 10) (k := 19) kM_at0 (by decide) rfl
      refine tk_Vi hC hK hw hT hA hE hSR kM_at0 (by decide) rfl (kz_X12_tested_1 l adK adV dC dI cy ad B hB0 (Int.le_trans hB1 (by decide)) qr s1    w497 H.size hT f0_ c500 (show 0 ≤ f0_.toInt from rf0_) (show f0_.toInt ≤ 5 from tf0_) f1_ c501 (show 0 ≤ f1_.toInt from rf1_) (show f1_.toInt ≤ 60 from tf1_) x508 c509 (show (-100) ≤ x508.toInt by first | with_reducible assumption | omega) (show x508.toInt ≤ 10 by first | with_reducible assumption | omega) x506 c507 (show 0 ≤ x506.toInt by first | with_reducible assumption | omega) (show x506.toInt ≤ 400 by first | with_reducible assumption | omega) f2_ c502 (show 0 ≤ f2_.toInt from rf2_) (show f2_.toInt ≤ 400 from tf2_) (show 3 * f2_.toInt ≤ 14 * f1_.toInt from pr0_) (show f2_.toInt ≤ 280 from pr1_) f2_.toInt 0 (OKW_nil hR (by rw [c502]) (by omega))) (cwV 0 hC.2.2.2.2 uV_RX12_215 rfl rfl rfl (by decide +kernel) ⟨Nat.le_of_ble_eq_true rfl, Nat.le_of_ble_eq_true rfl⟩) rfl hl.1 rfl (Nat.le_of_ble_eq_true rfl) dX12_isDoingHere_68 (fun r510 w512 H locs hp511 hw => ?_)
      obtain ⟨hT, k513, hv541, hg540⟩ := hp511
      have hF := hF.tr k513 (by decide)
      have c542 := k513.gi kM_at0 (by decide) c500
      have c543 := k513.gi kM_at5 rfl c503
      have c544 := k513.gi kM_at0 (by decide) c504
      have c545 := k513.gi kM_at4 rfl c505
      have c546 := k513.gi kM_at4 rfl c498
      rcases hg540 with ⟨rfl, ⟨x514, c515, rx514, tx514⟩, ⟨x516, c517, rx516, tx516⟩, ⟨x518, c519, rx518, tx518⟩, ⟨x520, c521, rx520, tx520⟩, hq522⟩ | ⟨rfl, ⟨x523, c524, rx523, tx523⟩, ⟨x525, c526, rx525, tx525⟩, ⟨x527, c528, rx527, tx527⟩, ⟨x529, c530, rx529, tx529⟩, hq531⟩ | ⟨rfl, ⟨x532, c533, rx532, tx532⟩, ⟨x534, c535, rx534, tx534⟩, ⟨x536, c537, rx536, tx536⟩, hq538, g539⟩
      · replace hM := hM.call (r' := 0) hv541 (by decide)
        have ex514 : x514.toInt = x9.toInt := by rw [← c544.symm.trans c515]
        have ex518 : x518.toInt = f0_.toInt := by rw [← c542.symm.trans c519]
        obtain ⟨x547, c548, rx547, tx547⟩ := hT.rda (lo := 0) (hi := 400) (i := (f0_.toInt).toNat) kM_at3 rfl rfl (by omega)
        obtain ⟨x549, c550, rx549, tx549⟩ := hT.rdi (lo := 0) (hi := 60) (k := 18) kM_at0 (by decide) rfl
        obtain ⟨x551, c552, rx551, tx551⟩ := hT.rdi (lo := (-100)) (hi := 10) (k := 19) kM_at0 (by decide) rfl
        have hR := hq522
        refine lv_if_ne (tgt := 76) hx hb dX12_isDoingHere_71 (by decide) (fun c => absurd (by decide) c) (fun _ => ?_)
        replace hM := hM.neg (by decide)
        refine lv_iconst (v := 0) hx hb dX12_isDoingHere_74 (by decide) ?_
        exact tk_zret hC hr rfl hlocks hK ⟨hT, hF, hM.ret (by decide), (Or.inl ⟨rfl, ⟨x9, c544, (show 1 ≤ x9.toInt by first | with_reducible assumption | omega), (show x9.toInt ≤ 400 by first | with_reducible assumption | omega)⟩, ⟨x516, c517, (show 1 ≤ x516.toInt by first | with_reducible assumption | omega), (show x516.toInt ≤ 3205 by first | with_reducible assumption | omega)⟩, ⟨f0_, c542, (show 0 ≤ f0_.toInt from rf0_), (show f0_.toInt ≤ 5 from tf0_)⟩, ⟨x520, c521, (show 0 ≤ x520.toInt by first | with_reducible assumption | omega), (show x520.toInt ≤ 399 by first | with_reducible assumption | omega)⟩, hR⟩)⟩ hw dX12_isDoingHere_75
      · replace hM := hM.call (r' := 0) hv541 (by decide)
        have ex523 : x523.toInt = x9.toInt := by rw [← c544.symm.trans c524]
        have ex527 : x527.toInt = f0_.toInt := by rw [← c542.symm.trans c528]
        obtain ⟨x553, c554, rx553, tx553⟩ := hT.rda (lo := 0) (hi := 400) (i := (f0_.toInt).toNat) kM_at3 rfl rfl (by omega)
        obtain ⟨x555, c556, rx555, tx555⟩ := hT.rdi (lo := 0) (hi := 60) (k := 18) kM_at0 (by decide) rfl
        obtain ⟨x557, c558, rx557, tx557⟩ := hT.rdi (lo := (-100)) (hi := 10) (k := 19) kM_at0 (by decide) rfl
        have hR := hq531
        refine lv_if_ne (tgt := 76) hx hb dX12_isDoingHere_71 (by decide) (fun c => absurd (by decide) c) (fun _ => ?_)
        replace hM := hM.neg (by decide)
        refine lv_iconst (v := 0) hx hb dX12_isDoingHere_74 (by decide) ?_
        exact tk_zret hC hr rfl hlocks hK ⟨hT, hF, hM.ret (by decide), (Or.inr (Or.inl ⟨rfl, ⟨x9, c544, (show 0 ≤ x9.toInt by first | with_reducible assumption | omega), (show x9.toInt ≤ 400 by first | with_reducible assumption | omega)⟩, ⟨x525, c526, (show 1 ≤ x525.toInt by first | with_reducible assumption | omega), (show x525.toInt ≤ 3205 by first | with_reducible assumption | omega)⟩, ⟨f0_, c542, (show 0 ≤ f0_.toInt from rf0_), (show f0_.toInt ≤ 5 from tf0_)⟩, ⟨x529, c530, (show 0 ≤ x529.toInt by first | with_reducible assumption | omega), (show x529.toInt ≤ 399 by first | with_reducible assumption | omega)⟩, hR⟩))⟩ hw dX12_isDoingHere_75
      · replace hM := hM.call (r' := 1) hv541 (by decide)
        have ex532 : x532.toInt = f0_.toInt := by rw [← c542.symm.trans c533]
        obtain ⟨x559, c560, rx559, tx559⟩ := hT.rda (lo := 0) (hi := 400) (i := (f0_.toInt).toNat) kM_at3 rfl rfl (by omega)
        obtain ⟨x561, c562, rx561, tx561⟩ := hT.rdi (lo := 0) (hi := 60) (k := 18) kM_at0 (by decide) rfl
        have g539 : 3 * x559.toInt ≤ 14 * x561.toInt := by have q := g539; simp only [c500, c542, c560, c562] at q; first | with_reducible exact q | omega
        have hO : OKW w512 f0_.toInt f2_.toInt (1) := by have q := hq538; exact OKW_cast q (by omega)
        refine lv_if_ne (tgt := 76) hx hb dX12_isDoingHere_71 (by decide) (fun _ => ?_) (fun c => absurd c (by decide))
        replace hM := hM.pos (by decide)
        refine lv_aload_n hx hb dX12_isDoingHere_76 rfl (lv_at hl 1 rfl) ?_
        refine tk_getA hC hK hw hT hinX12 kM_at0 (by decide) rfl 5 (by decide) (List.mem_cons_of_mem _ uw_6_17) rfl rfl dX12_isDoingHere_77 ?_
        refine lv_iload_n hx hb dX12_isDoingHere_80 rfl (lv_at hl 0 rfl) ?_
        refine lv_iconst (v := 2) hx hb dX12_isDoingHere_81 (by decide) ?_
        refine lv_iadd hx hb dX12_isDoingHere_82 ?_
        refine lv_topi (fun x563 ex563 => ?_)
        have ezx563 := ex563
        have ex563 : x563.toInt = x316.toInt + (2 : Int) := by rw [ex563]; exact wk_add (show (-2147483648) ≤ x316.toInt + (2 : Int) by omega) (show x316.toInt + (2 : Int) ≤ 2147483647 by omega)
        replace hM := hM.lt ex563.symm
        refine lv_aload_n hx hb dX12_isDoingHere_83 rfl (lv_at hl 1 rfl) ?_
        refine tk_getA hC hK hw hT hinX12 kM_at0 (by decide) rfl 4 (by decide) (List.mem_cons_of_mem _ uw_6_16) rfl rfl dX12_isDoingHere_84 ?_
        refine lv_aload_n hx hb dX12_isDoingHere_87 rfl (lv_at hl 1 rfl) ?_
        refine tk_geti hC hK hw hT hinX12 kM_at0 (by decide) rfl 17 (by decide) (List.mem_cons_of_mem _ uw_19_7) rfl rfl dX12_isDoingHere_88 (fun x564 c565 rx564 tx564 => ?_)
        refine wk_top f0_ (c565.symm.trans c542) ?_
        replace hM := hM.rd (sI_at c542)
        refine tk_iald hC hK hw hT kM_at3 rfl rfl (show 0 ≤ f0_.toInt from rf0_) (show f0_.toInt < 7 from Int.lt_of_le_of_lt tf0_ (by decide)) dX12_isDoingHere_91 (fun x566 c567 rx566 tx566 => ?_)
        have hox566 := c567
        have c567 : gi w512 3 (f0_.toInt).toNat = x566 := (congrArg (gi w512 3) (congrArg Int.toNat (show f0_.toInt = f0_.toInt from rfl))).trans c567
        refine wk_top x559 (c567.symm.trans c560) ?_
        replace hM := hM.rd ((sI_at hox566).trans (congrArg Int32.toInt (c567.symm.trans c560)))
        refine tk_iast hC hK hw hT kM_at4 (by decide) rfl rfl (show 0 ≤ x563.toInt by first | with_reducible assumption | omega) (show x563.toInt < 216 by first | with_reducible assumption | omega) (wk_i32 x559).1 (wk_i32 x559).2 dX12_isDoingHere_92 (fun H locs w568 hw hT k570 c569 => ?_)
        replace hM := hM.wr (sI_up k570 c569)
        have hO := OKW_clause hO k570 (show 36 * f0_.toInt + 3 * (gi w512 5 (f0_.toInt).toNat).toInt ≤ ((x563.toInt.toNat : Nat) : Int) by rw [c543]; omega) (show ((x563.toInt.toNat : Nat) : Int) < 36 * f0_.toInt + 36 by omega) (fun r hr => by obtain ⟨x, e, t⟩ := hT.rda (lo := 0) (hi := 12) (i := r) kM_at5 rfl rfl hr; rw [e]; exact t)
        have hF := hF.put kM_at4 (inE_of (a := 0) (b := 216) (by decide) (show 0 ≤ x563.toInt.toNat by omega) (show x563.toInt.toNat ≤ 216 by omega)) k570
        have c571 := k570.gi (Or.inl (tk_ne kM_at0 kM_at4 (by decide))) c542
        have c572 := k570.gi (Or.inl (tk_ne kM_at5 kM_at4 (by decide))) c543
        have c573 := k570.gi (Or.inl (tk_ne kM_at0 kM_at4 (by decide))) c544
        have c574 := k570.gi (Or.inr (show (36 * f0_.toInt + 3 * f3_.toInt + 0).toNat ≠ x563.toInt.toNat by omega)) c545
        have c575 := k570.gi (Or.inr (show (36 * f0_.toInt + 3 * f3_.toInt + 1).toNat ≠ x563.toInt.toNat by omega)) c546
        have c576 := k570.gi (Or.inl (tk_ne kM_at0 kM_at4 (by decide))) c535
        have c577 := k570.gi (Or.inl (tk_ne kM_at0 kM_at4 (by decide))) c537
        have c578 := k570.gi (Or.inl (tk_ne kM_at3 kM_at4 (by decide))) c560
        have c579 := k570.gi (Or.inl (tk_ne kM_at0 kM_at4 (by decide))) c562
        have c569 : gi w568 4 (36 * f0_.toInt + 3 * f3_.toInt + 2).toNat = x559 := (congrArg (gi w568 4) (congrArg Int.toNat (show 36 * f0_.toInt + 3 * f3_.toInt + 2 = x563.toInt by first | exact Int.le_antisymm (by omega) (by omega) | omega))).trans c569
        refine lv_aload_n hx hb dX12_isDoingHere_93 rfl (lv_at hl 1 rfl) ?_
        refine tk_getA hC hK hw hT hinX12 kM_at0 (by decide) rfl 6 (by decide) (List.mem_cons_of_mem _ uw_6_18) rfl rfl dX12_isDoingHere_94 ?_
        refine lv_aload_n hx hb dX12_isDoingHere_97 rfl (lv_at hl 1 rfl) ?_
        refine tk_geti hC hK hw hT hinX12 kM_at0 (by decide) rfl 17 (by decide) (List.mem_cons_of_mem _ uw_19_7) rfl rfl dX12_isDoingHere_98 (fun x580 c581 rx580 tx580 => ?_)
        refine wk_top f0_ (c581.symm.trans c571) ?_
        replace hM := hM.rd (sI_at c571)
        refine lv_dup2_11 hx hb dX12_isDoingHere_101 rfl rfl ?_
        refine tk_iald hC hK hw hT kM_at5 rfl rfl (show 0 ≤ f0_.toInt from rf0_) (show f0_.toInt < 6 from Int.lt_of_le_of_lt tf0_ (by decide)) dX12_isDoingHere_102 (fun x582 c583 rx582 tx582 => ?_)
        have hox582 := c583
        have c583 : gi w568 5 (f0_.toInt).toNat = x582 := (congrArg (gi w568 5) (congrArg Int.toNat (show f0_.toInt = f0_.toInt from rfl))).trans c583
        refine wk_top f3_ (c583.symm.trans c572) ?_
        replace hM := hM.rd ((sI_at hox582).trans (congrArg Int32.toInt (c583.symm.trans c572)))
        refine lv_iconst (v := 1) hx hb dX12_isDoingHere_103 (by decide) ?_
        refine lv_iadd hx hb dX12_isDoingHere_104 ?_
        refine lv_topi (fun x584 ex584 => ?_)
        have ezx584 := ex584
        have ex584 : x584.toInt = f3_.toInt + (1 : Int) := by rw [ex584]; exact wk_add (show (-2147483648) ≤ f3_.toInt + (1 : Int) by omega) (show f3_.toInt + (1 : Int) ≤ 2147483647 by omega)
        replace hM := hM.lt ex584.symm
        refine tk_iast hC hK hw hT kM_at5 (by decide) rfl rfl (show 0 ≤ f0_.toInt from rf0_) (show f0_.toInt < 6 from Int.lt_of_le_of_lt tf0_ (by decide)) (show 0 ≤ x584.toInt by first | with_reducible assumption | omega) (show x584.toInt ≤ 12 by first | with_reducible assumption | omega) dX12_isDoingHere_105 (fun H locs w585 hw hT k587 c586 => ?_)
        replace hM := hM.wr (sI_up k587 c586)
        have hR := RL_add (t := f0_.toInt) (K := f3_) (b := f2_) hO.1 k587 c572 (by rw [show gi w585 5 (f0_.toInt).toNat = x584 from c586]; omega) (by omega) c575 (c569.trans c578.symm) (by rw [c578]; omega) (Or.inr (OKW_cast hO (by omega)))
        have hF := hF.put kM_at5 (inE_of (a := 0) (b := 6) (by decide) (show 0 ≤ f0_.toInt.toNat by omega) (show f0_.toInt.toNat ≤ 6 by omega)) k587
        have c588 := k587.gi (Or.inl (tk_ne kM_at0 kM_at5 (by decide))) c571
        have c589 := k587.gi (Or.inl (tk_ne kM_at0 kM_at5 (by decide))) c573
        have c590 := k587.gi (Or.inl (tk_ne kM_at4 kM_at5 (by decide))) c574
        have c591 := k587.gi (Or.inl (tk_ne kM_at4 kM_at5 (by decide))) c575
        have c592 := k587.gi (Or.inl (tk_ne kM_at0 kM_at5 (by decide))) c576
        have c593 := k587.gi (Or.inl (tk_ne kM_at0 kM_at5 (by decide))) c577
        have c594 := k587.gi (Or.inl (tk_ne kM_at3 kM_at5 (by decide))) c578
        have c595 := k587.gi (Or.inl (tk_ne kM_at0 kM_at5 (by decide))) c579
        have c596 := k587.gi (Or.inl (tk_ne kM_at4 kM_at5 (by decide))) c569
        have c586 : gi w585 5 (f0_.toInt).toNat = x584 := (congrArg (gi w585 5) (congrArg Int.toNat (show f0_.toInt = f0_.toInt from rfl))).trans c586
        refine lv_iconst (v := 1) hx hb dX12_isDoingHere_106 (by decide) ?_
        exact tk_zret hC hr rfl hlocks hK ⟨hT, hF, hM.ret (by decide), (Or.inr (Or.inr (Or.inr ⟨rfl, ⟨x9, c589, (show 0 ≤ x9.toInt by first | with_reducible assumption | omega), (show x9.toInt ≤ 400 by first | with_reducible assumption | omega)⟩, ⟨f0_, c588, (show 0 ≤ f0_.toInt from rf0_), (show f0_.toInt ≤ 5 from tf0_)⟩, hR, (by simp only [c588, cf0_, c594, c595]; omega), (by simp only [c588, cf0_, cf3_, c586]; omega)⟩)))⟩ hw dX12_isDoingHere_107
