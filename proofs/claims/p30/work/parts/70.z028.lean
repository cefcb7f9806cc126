abbrev Pz_X12_isWord_21 (ad : Nat → Nat) (cy : Nat → ClassId) (B : Int) (qr : Nat) (s1 : Int)  (w0 : va_W) : Int32 → va_W → Prop := fun r u => TW ksM ad cy B qr 12 u ∧ FE ksM [(12, 14, 14)] w0 u ∧ Ev (fun n => m_X12_isWord n 0 7237492 (sI w0)) (r.toInt, sI u) ∧ ((r = 0 ∧ (∃ y : Int32, gi u 0 1 = y ∧ 0 ≤ y.toInt ∧ y.toInt ≤ 400) ∧ (((gi u 0 14).toInt = (gi w0 0 14).toInt ∨ (gi w0 1 ((gi w0 0 14).toInt).toNat).toInt = 32))) ∨ (r = 1 ∧ (∃ y : Int32, gi u 0 1 = y ∧ 0 ≤ y.toInt ∧ y.toInt ≤ 400) ∧ (((gi u 0 14).toInt = (gi w0 0 14).toInt ∨ (gi w0 1 ((gi w0 0 14).toInt).toNat).toInt = 32))))
set_option maxHeartbeats 4000000 in
set_option maxRecDepth 100000 in
theorem kz_X12_isWord_21 (l : Launch) (adK adV : Nat → Nat) (dC : Nat → ClassId) (dI : Nat → Nat → Nat) (cy : Nat → ClassId) (ad : Nat → Nat) (B : Int) (hB0 : 100000 ≤ B) (hB1 : B ≤ 1073741824) (qr : Nat) (s1 : Int)   (w0 : va_W) (sz : Nat) (hT : TW ksM ad cy B qr 12 w0) (f0_ : Int32) (cf0_ : gi w0 0 14 = f0_) (rf0_ : 0 ≤ f0_.toInt) (tf0_ : f0_.toInt ≤ 400) : Met l yX12_isWord (wu yX12_isWord cX12_isWord 6 (some .boolean)) ({ frames := 2, cells := 0, slots := 0, locals := 33 }) (va_Pc [.ref (ad 0), .long 7237492] (wpreS adK adV dC dI cy sz w0)) (va_Qi (Pz_X12_isWord_21 ad cy B qr s1  w0) (fun u : va_W => wpost dC dI cy (va_A w0 sz) u) (va_A w0 sz)) 0 0 (va_A w0 sz) := by
  refine Met.ofW (cc := cX12_isWord) (maxL := 6) (ret := (some .boolean)) (by decide) rfl ?_
  intro p e s m args below meth c s₁ Bk hml hv
  obtain ⟨rfl, ⟨hsz, hP, hK, hD0⟩, hE, hSR⟩ := hv
  have hx := Bk.exec
  have hb := Bk.bytes
  have hr := Bk.returns
  have hlocks := Bk.notSynchronized
  have hC : CallFix p m c cX12_isWord 6 s _ (wu yX12_isWord cX12_isWord 6 (some .boolean)) RX12 := ⟨hx, hb, hml, findClass_of_methodNamed Bk.named, atoms_spec (ws := (wu yX12_isWord cX12_isWord 6 (some .boolean))) Bk.pre⟩
  subst hsz
  have hD := hD0.self (sz := s.heap.size)
  generalize hAe : va_A w0 s.heap.size = A at hD hE ⊢
  have hA : ∀ q : Nat, s.heap.size ≤ q → A q := fun q h => by rw [← hAe]; exact Or.inr h
  have hw : Wd dC dI A s.heap s.heap [] w0 := ⟨hP, hD, va_S.rf⟩
  have hF : FE ksM [(12, 14, 14)] w0 w0 := FE.rf
  have hl := lv_entry ([.ref (ad 0), .long 7237492]) (n := 6) (Nat.le_of_ble_eq_true rfl)
  rw [lg_entry_eq]
  generalize (lg_sl ([.ref (ad 0), .long 7237492]) ++ List.replicate (6 - (lg_sl ([.ref (ad 0), .long 7237492])).length) Slot.unset).toArray = ls at hl ⊢
  have hl : lv_has ls 6 [(0, .ref (ad 0)), (1, .long 7237492)] := hl
  generalize hloc : ([] : List Loc) = locs at hw ⊢
  have hinX12 : ∀ w ∈ u_ws RX12 TX12 42, w ∈ (wu yX12_isWord cX12_isWord 6 (some .boolean)) := fun _ h => List.mem_cons_of_mem _ (up_71 h)
  have J78 : ∀ (v78_3 : Int64) (v78_5 : Int32) (f78_0_1 : Int32) (f78_0_14 : Int32) (H : Heap) (locs : List Loc) (ls : Array Slot) (w1 : va_W), 0 ≤ v78_5.toInt → v78_5.toInt ≤ 400 → 0 ≤ f78_0_1.toInt → f78_0_1.toInt ≤ 400 → 0 ≤ f78_0_14.toInt → f78_0_14.toInt ≤ 400 → ((f78_0_14.toInt = f0_.toInt ∨ (gi w0 1 (f0_.toInt).toNat).toInt = 32)) → Wd dC dI A s.heap H locs w1 → TW ksM ad cy B qr 12 w1 → FE ksM [(12, 14, 14)] w0 w1 → gi w1 0 1 = f78_0_1 → gi w1 0 14 = f78_0_14 → TT (fun n => m_X12_isWord n 0 7237492 (sI w0)) (fun n => b_X12_isWord_78 (j_X12_isWord 0 n) n 0 (sI w1)) → lv_has ls 6 [(0, .ref (ad 0)), (1, .long 7237492), (3, .long v78_3), (5, .int v78_5)] → W p l e ({ frames := 2, cells := 0, slots := 0, locals := 33 }) s m (List.toArray [.ref (ad 0), .long 7237492]) below meth c H locs 0 0 (MQ below (va_Qi (Pz_X12_isWord_21 ad cy B qr s1  w0) (fun u : va_W => wpost dC dI cy A u) A) (List.toArray [.ref (ad 0), .long 7237492]) s 0 0 A) (F0 m 78 ls []) := by
    intro v78_3 v78_5 f78_0_1 f78_0_14 H locs ls w1 r2 t3 r4 t5 r7 t8 hcr78_0 hw hT hF c6 c9 hM hl
    refine lv_iconst (v := 0) hx hb dX12_isWord_78 (by decide) ?_
    exact tk_zret hC hr rfl hlocks hK ⟨hT, hF, hM.ret (by decide), (Or.inl ⟨rfl, ⟨f78_0_1, c6, (show 0 ≤ f78_0_1.toInt from r4), (show f78_0_1.toInt ≤ 400 from t5)⟩, (by simp only [cf0_, c9]; omega)⟩)⟩ hw dX12_isWord_79
  have L10 : ∀ (n10 : Nat) (v10_3 : Int64) (v10_5 : Int32) (f10_0_1 : Int32) (f10_0_14 : Int32) (H : Heap) (locs : List Loc) (ls : Array Slot) (w10 : va_W), 0 ≤ v10_5.toInt → v10_5.toInt ≤ 400 → 0 ≤ f10_0_1.toInt → f10_0_1.toInt ≤ 400 → 0 ≤ f10_0_14.toInt → f10_0_14.toInt ≤ 400 → ((f10_0_14.toInt = f0_.toInt ∨ (gi w0 1 (f0_.toInt).toNat).toInt = 32)) → (400 - v10_5.toInt).toNat < n10 → Wd dC dI A s.heap H locs w10 → TW ksM ad cy B qr 12 w10 → FE ksM [(12, 14, 14)] w0 w10 → gi w10 0 1 = f10_0_1 → gi w10 0 14 = f10_0_14 → TT (fun n => m_X12_isWord n 0 7237492 (sI w0)) (fun n => j_X12_isWord 0 n 10 [(7237492 : Int), v10_3.toInt, v10_5.toInt] (sI w10)) → lv_has ls 6 [(0, .ref (ad 0)), (1, .long 7237492), (3, .long v10_3), (5, .int v10_5)] → W p l e ({ frames := 2, cells := 0, slots := 0, locals := 33 }) s m (List.toArray [.ref (ad 0), .long 7237492]) below meth c H locs 0 0 (MQ below (va_Qi (Pz_X12_isWord_21 ad cy B qr s1  w0) (fun u : va_W => wpost dC dI cy A u) A) (List.toArray [.ref (ad 0), .long 7237492]) s 0 0 A) (F0 m 10 ls []) := by
    intro n10
    induction n10 with
    | zero => intro v10_3 v10_5 f10_0_1 f10_0_14 H locs ls w10 r11 t12 r13 t14 r16 t17 hcr10_0 hm10 hw hT hF c15 c18 hM hl; omega
    | succ n10 ih10 =>
      intro v10_3 v10_5 f10_0_1 f10_0_14 H locs ls w10 r11 t12 r13 t14 r16 t17 hcr10_0 hm10 hw hT hF c15 c18 hM hl
      have J50 : ∀ (v50_3 : Int64) (H : Heap) (locs : List Loc) (ls : Array Slot) (w19 : va_W), 0 ≤ v10_5.toInt → v10_5.toInt ≤ 399 → 1 ≤ f10_0_1.toInt → f10_0_1.toInt ≤ 400 → 0 ≤ f10_0_14.toInt → f10_0_14.toInt ≤ 399 → ((f10_0_14.toInt = f0_.toInt ∨ (gi w0 1 (f0_.toInt).toNat).toInt = 32)) → Wd dC dI A s.heap H locs w19 → TW ksM ad cy B qr 12 w19 → FE ksM [(12, 14, 14)] w0 w19 → gi w19 0 1 = f10_0_1 → gi w19 0 14 = f10_0_14 → TT (fun n => m_X12_isWord n 0 7237492 (sI w0)) (fun n => b_X12_isWord_50 (j_X12_isWord 0 n) n 0 (7237492 : Int) (v50_3.toInt) (v10_5.toInt) (sI w19)) → lv_has ls 6 [(0, .ref (ad 0)), (1, .long 7237492), (3, .long v50_3), (5, .int v10_5)] → W p l e ({ frames := 2, cells := 0, slots := 0, locals := 33 }) s m (List.toArray [.ref (ad 0), .long 7237492]) below meth c H locs 0 0 (MQ below (va_Qi (Pz_X12_isWord_21 ad cy B qr s1  w0) (fun u : va_W => wpost dC dI cy A u) A) (List.toArray [.ref (ad 0), .long 7237492]) s 0 0 A) (F0 m 50 ls []) := by
        intro v50_3 H locs ls w19 r20 t21 r22 t23 r25 t26 hcr50_0 hw hT hF c24 c27 hM hl
        obtain ⟨x28, ex28⟩ : ∃ y : Int32, y = v10_5 + Int32.ofInt 1 := ⟨_, rfl⟩
        have erx28 := ex28
        refine lv_iinc (v := x28) (lv' := [(5, .int x28), (0, .ref (ad 0)), (1, .long 7237492), (3, .long v50_3)]) hx hb dX12_isWord_50 hl (k := 3) rfl ex28.symm (by decide) rfl (fun ls hl => ?_)
        have ex28 : x28.toInt = v10_5.toInt + 1 := by rw [ex28]; exact wk_add (y := 1) (show -2147483648 ≤ v10_5.toInt + 1 by omega) (show v10_5.toInt + 1 ≤ 2147483647 by omega)
        replace hM := hM.lt ex28.symm
        refine lv_goto (tgt := 10) hx hb dX12_isWord_53 (by decide) ?_
        exact ih10 v50_3 x28 f10_0_1 f10_0_14 H locs ls w19 (show 0 ≤ x28.toInt by first | with_reducible assumption | omega) (show x28.toInt ≤ 400 by first | with_reducible assumption | omega) (show 0 ≤ f10_0_1.toInt from r13) (show f10_0_1.toInt ≤ 400 from t23) (show 0 ≤ f10_0_14.toInt from r25) (show f10_0_14.toInt ≤ 400 from t17) (show (f10_0_14.toInt = f0_.toInt ∨ (gi w0 1 (f0_.toInt).toNat).toInt = 32) by first | omega | assumption | (left; omega) | (left; decide) | (right; assumption)) (show (400 - x28.toInt).toNat < n10 by first | exact tn_lt hm10 (by omega) (by omega) | omega) hw hT hF c24 c27 hM (lv_sub hl [1, 2, 3, 0] rfl)
      replace hM := hM.suc (fun _ => e_X12_isWord_10)
      refine lv_aload_n hx hb dX12_isWord_10 rfl (lv_at hl 0 rfl) ?_
      refine lv_aload_n hx hb dX12_isWord_11 rfl (lv_at hl 0 rfl) ?_
      refine tk_geti hC hK hw hT hinX12 kM_at0 (by decide) rfl 14 (by decide) (List.mem_cons_of_mem _ uw_19_18) rfl rfl dX12_isWord_12 (fun x29 c30 rx29 tx29 => ?_)
      refine wk_top f10_0_14 (c30.symm.trans c18) ?_
      replace hM := hM.rd (sI_at c18)
      refine lv_iload hx hb dX12_isWord_15 (lv_at hl 3 rfl) ?_
      refine lv_iadd hx hb dX12_isWord_17 ?_
      refine lv_topi (fun x31 ex31 => ?_)
      have ezx31 := ex31
      have ex31 : x31.toInt = f10_0_14.toInt + v10_5.toInt := by rw [ex31]; exact wk_add (show (-2147483648) ≤ f10_0_14.toInt + v10_5.toInt by omega) (show f10_0_14.toInt + v10_5.toInt ≤ 2147483647 by omega)
      replace hM := hM.lt ex31.symm
      refine tk_Vi hC hK hw hT hA hE hSR kM_at0 (by decide) rfl (kz_X12_isLetter_1 l adK adV dC dI cy ad B hB0 (Int.le_trans hB1 (by decide)) qr s1   x31 (show 0 ≤ x31.toInt by first | with_reducible assumption | omega) (show x31.toInt ≤ 800 by first | with_reducible assumption | omega) w10 H.size hT ) (cwV 1 hC.2.2.2.2 uV_RX12_101 rfl rfl rfl (by decide +kernel) ⟨Nat.le_of_ble_eq_true rfl, Nat.le_of_ble_eq_true rfl⟩) rfl hl.1 rfl (Nat.le_of_ble_eq_true rfl) dX12_isWord_18 (fun r32 w34 H locs hp33 hw => ?_)
      obtain ⟨rfl, hv42, hg41⟩ := hp33
      rcases hg41 with ⟨rfl, ⟨x36, c37, rx36, tx36⟩⟩ | ⟨rfl, g38, ⟨x39, c40, rx39, tx39⟩⟩
      · replace hM := hM.call (r' := 0) hv42 (by decide)
        have ex36 : x36.toInt = f10_0_1.toInt := by rw [← c15.symm.trans c37]
        refine lv_if_eq (tgt := 56) hx hb dX12_isWord_21 (by decide) (fun _ => ?_) (fun c => absurd (by decide) c)
        replace hM := hM.pos (by decide)
        refine lv_iload hx hb dX12_isWord_56 (lv_at hl 3 rfl) ?_
        refine lv_if_le (tgt := 78) hx hb dX12_isWord_58 (by decide) (fun c43 => ?_) (fun c43 => ?_)
        · have c43 : v10_5.toInt ≤ (0 : Int) := wk_le.mp c43
          replace hM := hM.pos c43
          exact J78 v10_3 v10_5 f10_0_1 f10_0_14 H locs ls w10 (show 0 ≤ v10_5.toInt from r11) (show v10_5.toInt ≤ 400 from t12) (show 0 ≤ f10_0_1.toInt from r13) (show f10_0_1.toInt ≤ 400 from t14) (show 0 ≤ f10_0_14.toInt from r16) (show f10_0_14.toInt ≤ 400 from t17) (show (f10_0_14.toInt = f0_.toInt ∨ (gi w0 1 (f0_.toInt).toNat).toInt = 32) by first | omega | assumption | (left; omega) | (left; decide) | (right; assumption))  hw hT hF c15 c18 hM (lv_sub hl [0, 1, 2, 3] rfl)
        · have c43 : (0 : Int) < v10_5.toInt := wk_leF c43
          replace hM := hM.neg (Int.not_le.mpr c43)
          refine lv_iload hx hb dX12_isWord_61 (lv_at hl 3 rfl) ?_
          refine lv_bipush (v := 8) hx hb dX12_isWord_63 (by decide) ?_
          refine lv_icmp_ge (tgt := 78) hx hb dX12_isWord_65 (by decide) (fun c44 => ?_) (fun c44 => ?_)
          · have c44 : (8 : Int) ≤ v10_5.toInt := wk_le.mp c44
            replace hM := hM.pos c44
            exact J78 v10_3 v10_5 f10_0_1 f10_0_14 H locs ls w10 (show 0 ≤ v10_5.toInt from r11) (show v10_5.toInt ≤ 400 from t12) (show 0 ≤ f10_0_1.toInt from r13) (show f10_0_1.toInt ≤ 400 from t14) (show 0 ≤ f10_0_14.toInt from r16) (show f10_0_14.toInt ≤ 400 from t17) (show (f10_0_14.toInt = f0_.toInt ∨ (gi w0 1 (f0_.toInt).toNat).toInt = 32) by first | omega | assumption | (left; omega) | (left; decide) | (right; assumption))  hw hT hF c15 c18 hM (lv_sub hl [0, 1, 2, 3] rfl)
          · have c44 : v10_5.toInt < (8 : Int) := wk_leF c44
            replace hM := hM.neg (Int.not_le.mpr c44)
            refine lv_lload_n hx hb dX12_isWord_68 rfl (lv_at hl 2 rfl) ?_
            refine lv_lload_n hx hb dX12_isWord_69 rfl (lv_at hl 1 rfl) ?_
            refine W.lcmp hx hb dX12_isWord_70 ?_
            refine lv_if_ne (tgt := 78) hx hb dX12_isWord_71 (by decide) (fun c45 => ?_) (fun c45 => ?_)
            · have c45 : ¬ v10_3.toInt = (7237492 : Int) := wk_ceF c45
              replace hM := hM.pos c45
              exact J78 v10_3 v10_5 f10_0_1 f10_0_14 H locs ls w10 (show 0 ≤ v10_5.toInt from r11) (show v10_5.toInt ≤ 400 from t12) (show 0 ≤ f10_0_1.toInt from r13) (show f10_0_1.toInt ≤ 400 from t14) (show 0 ≤ f10_0_14.toInt from r16) (show f10_0_14.toInt ≤ 400 from t17) (show (f10_0_14.toInt = f0_.toInt ∨ (gi w0 1 (f0_.toInt).toNat).toInt = 32) by first | omega | assumption | (left; omega) | (left; decide) | (right; assumption))  hw hT hF c15 c18 hM (lv_sub hl [0, 1, 2, 3] rfl)
            · have c45 : v10_3.toInt = (7237492 : Int) := wk_ceT c45
              replace hM := hM.neg (fun q => q c45)
              refine lv_iconst (v := 1) hx hb dX12_isWord_74 (by decide) ?_
              refine lv_goto (tgt := 79) hx hb dX12_isWord_75 (by decide) ?_
              exact tk_zret hC hr rfl hlocks hK ⟨hT, hF, hM.ret (by decide), (Or.inr ⟨rfl, ⟨f10_0_1, c15, (show 0 ≤ f10_0_1.toInt from r13), (show f10_0_1.toInt ≤ 400 from t14)⟩, (by simp only [cf0_, c18]; omega)⟩)⟩ hw dX12_isWord_79
      · replace hM := hM.call (r' := 1) hv42 (by decide)
        have ex39 : x39.toInt = f10_0_1.toInt := by rw [← c15.symm.trans c40]
        refine lv_if_eq (tgt := 56) hx hb dX12_isWord_21 (by decide) (fun c => absurd c (by decide)) (fun _ => ?_)
        replace hM := hM.neg (by decide)
        refine lv_iload hx hb dX12_isWord_24 (lv_at hl 3 rfl) ?_
        refine lv_bipush (v := 8) hx hb dX12_isWord_26 (by decide) ?_
        refine lv_icmp_ge (tgt := 50) hx hb dX12_isWord_28 (by decide) (fun c46 => ?_) (fun c46 => ?_)
        · have c46 : (8 : Int) ≤ v10_5.toInt := wk_le.mp c46
          replace hM := hM.pos c46
          exact J50 v10_3 H locs ls w10 (show 0 ≤ v10_5.toInt from r11) (show v10_5.toInt ≤ 399 by first | with_reducible assumption | omega) (show 1 ≤ f10_0_1.toInt by first | with_reducible assumption | omega) (show f10_0_1.toInt ≤ 400 from t14) (show 0 ≤ f10_0_14.toInt from r16) (show f10_0_14.toInt ≤ 399 by first | with_reducible assumption | omega) (show (f10_0_14.toInt = f0_.toInt ∨ (gi w0 1 (f0_.toInt).toNat).toInt = 32) by first | omega | assumption | (left; omega) | (left; decide) | (right; assumption))  hw hT hF c15 c18 hM (lv_sub hl [0, 1, 2, 3] rfl)
        · have c46 : v10_5.toInt < (8 : Int) := wk_leF c46
          replace hM := hM.neg (Int.not_le.mpr c46)
          refine lv_lload_n hx hb dX12_isWord_31 rfl (lv_at hl 2 rfl) ?_
          refine lv_bipush (v := 8) hx hb dX12_isWord_32 (by decide) ?_
          refine lv_lshl hx hb dX12_isWord_34 rfl ?_
          refine lv_topl (fun x47 ex47 => ?_)
          replace hM := hM.lt (mShlL_e ex47 rfl (by decide))
          refine lv_aload_n hx hb dX12_isWord_35 rfl (lv_at hl 0 rfl) ?_
          refine tk_getA hC hK hw hT hinX12 kM_at0 (by decide) rfl 0 (by decide) (List.mem_cons_of_mem _ uw_6_14) rfl rfl dX12_isWord_36 ?_
          refine lv_aload_n hx hb dX12_isWord_39 rfl (lv_at hl 0 rfl) ?_
          refine tk_geti hC hK hw hT hinX12 kM_at0 (by decide) rfl 14 (by decide) (List.mem_cons_of_mem _ uw_19_18) rfl rfl dX12_isWord_40 (fun x48 c49 rx48 tx48 => ?_)
          refine wk_top f10_0_14 (c49.symm.trans c18) ?_
          replace hM := hM.rd (sI_at c18)
          refine lv_iload hx hb dX12_isWord_43 (lv_at hl 3 rfl) ?_
          refine lv_iadd hx hb dX12_isWord_45 ?_
          refine lv_topi (fun x50 ex50 => ?_)
          have ezx50 := ex50
          have ex50 : x50.toInt = f10_0_14.toInt + v10_5.toInt := by rw [ex50]; exact wk_add (show (-2147483648) ≤ f10_0_14.toInt + v10_5.toInt by omega) (show f10_0_14.toInt + v10_5.toInt ≤ 2147483647 by omega)
          replace hM := hM.lt ex50.symm
          refine tk_bald hC hK hw hT kM_at1 rfl rfl (show 0 ≤ x50.toInt by first | with_reducible assumption | omega) (show x50.toInt < 400 by first | with_reducible assumption | omega) dX12_isWord_46 (fun x51 c52 rx51 tx51 => ?_)
          have hox51 := c52
          replace hM := hM.rd (sI_at hox51)
          have c52 : gi w10 1 (1 * f10_0_14.toInt + 1 * v10_5.toInt + 0).toNat = x51 := (congrArg (gi w10 1) (congrArg Int.toNat (show 1 * f10_0_14.toInt + 1 * v10_5.toInt + 0 = x50.toInt by first | exact Int.le_antisymm (by omega) (by omega) | omega))).trans c52
          refine lv_i2l hx hb dX12_isWord_47 rfl ?_
          refine lv_topl (fun x53 ex53 => ?_)
          have ex53 : x53.toInt = x51.toInt := by rw [ex53]; exact wk_i2l _
          have bx53 := wk_i32 x51
          replace hM := hM.lt ex53.symm
          refine lv_lor hx hb dX12_isWord_48 ?_
          refine lv_topl (fun x54 ex54 => ?_)
          have ezx54 := ex54
          replace hM := hM.lt (o64_e (f := fun x y => x ||| y) ezx54 rfl rfl)
          refine lv_lstore_n (lv' := [(3, .long x54), (0, .ref (ad 0)), (1, .long 7237492), (5, .int v10_5)]) hx hb dX12_isWord_49 rfl hl (by decide) rfl (fun ls hl => ?_)
          exact J50 x54 H locs ls w10 (show 0 ≤ v10_5.toInt from r11) (show v10_5.toInt ≤ 399 by first | with_reducible assumption | omega) (show 1 ≤ f10_0_1.toInt by first | with_reducible assumption | omega) (show f10_0_1.toInt ≤ 400 from t14) (show 0 ≤ f10_0_14.toInt from r16) (show f10_0_14.toInt ≤ 399 by first | with_reducible assumption | omega) (show (f10_0_14.toInt = f0_.toInt ∨ (gi w0 1 (f0_.toInt).toNat).toInt = 32) by first | omega | assumption | (left; omega) | (left; decide) | (right; assumption) | (right; rw [c52]; omega) | (right; rw [c52]; decide))  hw hT hF c15 c18 hM (lv_sub hl [1, 2, 0, 3] rfl)
  have hM : TT (fun n => m_X12_isWord n 0 7237492 (sI w0)) (fun n => m_X12_isWord n 0 7237492 (sI w0)) := TT.rf
  refine lv_aload_n hx hb dX12_isWord_0 rfl (lv_at hl 0 rfl) ?_
  refine tk_Vi hC hK hw hT hA hE hSR kM_at0 (by decide) rfl (kz_X12_see_1 l adK adV dC dI cy ad B hB0 (Int.le_trans hB1 (by decide)) qr s1    w0 s.heap.size hT f0_ cf0_ (show 0 ≤ f0_.toInt from rf0_) (show f0_.toInt ≤ 400 from tf0_)) (cwV 0 hC.2.2.2.2 uV_RX12_97 rfl rfl rfl (by decide +kernel) ⟨Nat.le_of_ble_eq_true rfl, Nat.le_of_ble_eq_true rfl⟩) rfl hl.1 rfl (Nat.le_of_ble_eq_true rfl) dX12_isWord_1 (fun r55 w57 H locs hp56 hw => ?_)
  obtain ⟨hT, k58, hv76, hg75⟩ := hp56
  have hF := hF.tr k58 (by decide)
  rcases hg75 with ⟨g59, g60, ⟨x61, c62, rx61, tx61⟩, ⟨x63, c64, rx63, tx63⟩, g65, g66⟩ | ⟨rfl, ⟨x67, c68, rx67, tx67⟩, ⟨x69, c70, rx69, tx69⟩, g71⟩ | ⟨rfl, ⟨x72, c73, rx72, tx72⟩, g74⟩
  · replace hM := hM.call hv76 rfl
    have g65 : (gi w57 1 (x63.toInt).toNat).toInt ≠ 32 := by have q := g65; simp only [c64] at q; first | with_reducible exact q | omega
    have g66 : (x63.toInt = f0_.toInt ∨ (gi w0 1 (f0_.toInt).toNat).toInt = 32) := by have q := g66; simp only [cf0_, c64] at q; first | with_reducible exact q | omega
    refine lv_pop hx hb dX12_isWord_4 rfl ?_
    refine lv_lconst (v := 0) hx hb dX12_isWord_5 (by decide) ?_
    refine lv_lstore_n (lv' := [(3, .long 0), (0, .ref (ad 0)), (1, .long 7237492)]) hx hb dX12_isWord_6 rfl hl (by decide) rfl (fun ls hl => ?_)
    refine lv_iconst (v := 0) hx hb dX12_isWord_7 (by decide) ?_
    refine lv_istore (lv' := [(5, .int 0), (3, .long 0), (0, .ref (ad 0)), (1, .long 7237492)]) hx hb dX12_isWord_8 hl (by decide) rfl (fun ls hl => ?_)
    exact L10 ((400 - (0 : Int)).toNat + 1) 0 0 x61 x63 H locs ls w57 (by decide) (by decide) (show 0 ≤ x61.toInt by first | with_reducible assumption | omega) (show x61.toInt ≤ 400 by first | with_reducible assumption | omega) (show 0 ≤ x63.toInt by first | with_reducible assumption | omega) (show x63.toInt ≤ 400 by first | with_reducible assumption | omega) (show (x63.toInt = f0_.toInt ∨ (gi w0 1 (f0_.toInt).toNat).toInt = 32) by first | omega | assumption | (left; omega) | (left; decide) | (right; assumption)) (Nat.lt_succ_self _) hw hT hF c62 c64 hM (lv_sub hl [2, 3, 1, 0] rfl)
  · replace hM := hM.call (r' := (-1)) hv76 (by decide)
    have g71 : (x69.toInt = f0_.toInt ∨ (gi w0 1 (f0_.toInt).toNat).toInt = 32) := by have q := g71; simp only [cf0_, c70] at q; first | with_reducible exact q | omega
    refine lv_pop hx hb dX12_isWord_4 rfl ?_
    refine lv_lconst (v := 0) hx hb dX12_isWord_5 (by decide) ?_
    refine lv_lstore_n (lv' := [(3, .long 0), (0, .ref (ad 0)), (1, .long 7237492)]) hx hb dX12_isWord_6 rfl hl (by decide) rfl (fun ls hl => ?_)
    refine lv_iconst (v := 0) hx hb dX12_isWord_7 (by decide) ?_
    refine lv_istore (lv' := [(5, .int 0), (3, .long 0), (0, .ref (ad 0)), (1, .long 7237492)]) hx hb dX12_isWord_8 hl (by decide) rfl (fun ls hl => ?_)
    exact L10 ((400 - (0 : Int)).toNat + 1) 0 0 x67 x69 H locs ls w57 (by decide) (by decide) (show 0 ≤ x67.toInt by first | with_reducible assumption | omega) (show x67.toInt ≤ 400 by first | with_reducible assumption | omega) (show 0 ≤ x69.toInt by first | with_reducible assumption | omega) (show x69.toInt ≤ 400 by first | with_reducible assumption | omega) (show (x69.toInt = f0_.toInt ∨ (gi w0 1 (f0_.toInt).toNat).toInt = 32) by first | omega | assumption | (left; omega) | (left; decide) | (right; assumption)) (Nat.lt_succ_self _) hw hT hF c68 c70 hM (lv_sub hl [2, 3, 1, 0] rfl)
  · replace hM := hM.call (r' := (-1)) hv76 (by decide)
    obtain ⟨x77, c78, rx77, tx77⟩ := hT.rdi (lo := 0) (hi := 400) (k := 14) kM_at0 (by decide) rfl
    have g74 : (x77.toInt = f0_.toInt ∨ (gi w0 1 (f0_.toInt).toNat).toInt = 32) := by have q := g74; simp only [cf0_, c78] at q; first | with_reducible exact q | omega
    refine lv_pop hx hb dX12_isWord_4 rfl ?_
    refine lv_lconst (v := 0) hx hb dX12_isWord_5 (by decide) ?_
    refine lv_lstore_n (lv' := [(3, .long 0), (0, .ref (ad 0)), (1, .long 7237492)]) hx hb dX12_isWord_6 rfl hl (by decide) rfl (fun ls hl => ?_)
    refine lv_iconst (v := 0) hx hb dX12_isWord_7 (by decide) ?_
    refine lv_istore (lv' := [(5, .int 0), (3, .long 0), (0, .ref (ad 0)), (1, .long 7237492)]) hx hb dX12_isWord_8 hl (by decide) rfl (fun ls hl => ?_)
    exact L10 ((400 - (0 : Int)).toNat + 1) 0 0 x72 x77 H locs ls w57 (by decide) (by decide) (show 0 ≤ x72.toInt by first | with_reducible assumption | omega) (show x72.toInt ≤ 400 by first | with_reducible assumption | omega) (show 0 ≤ x77.toInt by first | with_reducible assumption | omega) (show x77.toInt ≤ 400 by first | with_reducible assumption | omega) (show (x77.toInt = f0_.toInt ∨ (gi w0 1 (f0_.toInt).toNat).toInt = 32) by first | omega | assumption | (left; omega) | (left; decide) | (right; assumption)) (Nat.lt_succ_self _) hw hT hF c73 c78 hM (lv_sub hl [2, 3, 1, 0] rfl)
abbrev Pz_X12_opens_1 (ad : Nat → Nat) (cy : Nat → ClassId) (B : Int) (qr : Nat) (s1 : Int)  (w0 : va_W) : Int32 → va_W → Prop := fun r u => TW ksM ad cy B qr 12 u ∧ FE ksM [(12, 15, 15), (12, 19, 19), (12, 22, 22), (68, 0, 400)] w0 u ∧ Ev (fun n => m_X12_opens n 0 91 (sI w0)) (r.toInt, sI u) ∧ ((r = 0 ∧ (∃ y : Int32, gi u 0 15 = y ∧ 1 ≤ y.toInt ∧ y.toInt ≤ 3205) ∧ (∃ y : Int32, gi u 0 19 = y ∧ 10 ≤ y.toInt ∧ y.toInt ≤ 10) ∧ (∃ y : Int32, gi u 0 22 = y ∧ 0 ≤ y.toInt ∧ y.toInt ≤ 399)) ∨ (r = 1 ∧ (∃ y : Int32, gi u 0 19 = y ∧ (-99) ≤ y.toInt ∧ y.toInt ≤ 10) ∧ (∃ y : Int32, gi u 0 22 = y ∧ 1 ≤ y.toInt ∧ y.toInt ≤ 400) ∧ E9 u (gi u 0 22).toInt ∧ ((gi u 0 22).toInt = (gi w0 0 22).toInt + 1) ∧ ((gi u 0 19).toInt = (gi w0 0 19).toInt + 1) ∧ ((binN u ((gi u 0 22).toInt).toNat : Int) = (gi u 0 22).toInt - (gi u 0 19).toInt)))
set_option maxHeartbeats 4000000 in
set_option maxRecDepth 100000 in
theorem kz_X12_opens_1 (l : Launch) (adK adV : Nat → Nat) (dC : Nat → ClassId) (dI : Nat → Nat → Nat) (cy : Nat → ClassId) (ad : Nat → Nat) (B : Int) (hB0 : 100000 ≤ B) (hB1 : B ≤ 1073741824) (qr : Nat) (s1 : Int)   (w0 : va_W) (sz : Nat) (hT : TW ksM ad cy B qr 12 w0) (f0_ : Int32) (cf0_ : gi w0 0 19 = f0_) (rf0_ : (-100) ≤ f0_.toInt) (tf0_ : f0_.toInt ≤ 10) (f1_ : Int32) (cf1_ : gi w0 0 22 = f1_) (rf1_ : 0 ≤ f1_.toInt) (tf1_ : f1_.toInt ≤ 400) (pr0_ : f1_.toInt ≤ 399) (pr1_ : (binN w0 (f1_.toInt).toNat : Int) = f1_.toInt - f0_.toInt) (hE9 : E9 w0 (f1_.toInt)) : Met l yX12_opens (wu yX12_opens cX12_opens 2 (some .boolean)) ({ frames := 2, cells := 0, slots := 0, locals := 34 }) (va_Pc [.ref (ad 0), .int 91] (wpreS adK adV dC dI cy sz w0)) (va_Qi (Pz_X12_opens_1 ad cy B qr s1  w0) (fun u : va_W => wpost dC dI cy (va_A w0 sz) u) (va_A w0 sz)) 0 0 (va_A w0 sz) := by
  refine Met.ofW (cc := cX12_opens) (maxL := 2) (ret := (some .boolean)) (by decide) rfl ?_
  intro p e s m args below meth c s₁ Bk hml hv
  obtain ⟨rfl, ⟨hsz, hP, hK, hD0⟩, hE, hSR⟩ := hv
  have hx := Bk.exec
  have hb := Bk.bytes
  have hr := Bk.returns
  have hlocks := Bk.notSynchronized
  have hC : CallFix p m c cX12_opens 2 s _ (wu yX12_opens cX12_opens 2 (some .boolean)) RX12 := ⟨hx, hb, hml, findClass_of_methodNamed Bk.named, atoms_spec (ws := (wu yX12_opens cX12_opens 2 (some .boolean))) Bk.pre⟩
  subst hsz
  have hD := hD0.self (sz := s.heap.size)
  generalize hAe : va_A w0 s.heap.size = A at hD hE ⊢
  have hA : ∀ q : Nat, s.heap.size ≤ q → A q := fun q h => by rw [← hAe]; exact Or.inr h
  have hw : Wd dC dI A s.heap s.heap [] w0 := ⟨hP, hD, va_S.rf⟩
  have hF : FE ksM [(12, 15, 15), (12, 19, 19), (12, 22, 22), (68, 0, 400)] w0 w0 := FE.rf
  have hl := lv_entry ([.ref (ad 0), .int 91]) (n := 2) (Nat.le_of_ble_eq_true rfl)
  rw [lg_entry_eq]
  generalize (lg_sl ([.ref (ad 0), .int 91]) ++ List.replicate (2 - (lg_sl ([.ref (ad 0), .int 91])).length) Slot.unset).toArray = ls at hl ⊢
  have hl : lv_has ls 2 [(0, .ref (ad 0)), (1, .int 91)] := hl
  generalize hloc : ([] : List Loc) = locs at hw ⊢
  have hinX12 : ∀ w ∈ u_ws RX12 TX12 42, w ∈ (wu yX12_opens cX12_opens 2 (some .boolean)) := fun _ h => List.mem_cons_of_mem _ (up_71 h)
  have hM : TT (fun n => m_X12_opens n 0 91 (sI w0)) (fun n => m_X12_opens n 0 91 (sI w0)) := TT.rf
  have gl1 := bin_le w0 (f1_.toInt).toNat
  refine lv_aload_n hx hb dX12_opens_0 rfl (lv_at hl 0 rfl) ?_
  refine tk_geti hC hK hw hT hinX12 kM_at0 (by decide) rfl 19 (by decide) (List.mem_cons_of_mem _ uw_23_14) rfl rfl dX12_opens_1 (fun x2 c3 rx2 tx2 => ?_)
  refine wk_top f0_ (c3.symm.trans cf0_) ?_
  replace hM := hM.rd (sI_at cf0_)
  refine lv_bipush (v := 10) hx hb dX12_opens_4 (by decide) ?_
  refine lv_icmp_ne (tgt := 19) hx hb dX12_opens_6 (by decide) (fun c4 => ?_) (fun c4 => ?_)
  · have c4 : ¬ f0_.toInt = (10 : Int) := wk_eqF c4
    replace hM := hM.pos c4
    refine lv_aload_n hx hb dX12_opens_19 rfl (lv_at hl 0 rfl) ?_
    refine lv_dup hx hb dX12_opens_20 rfl ?_
    refine tk_geti hC hK hw hT hinX12 kM_at0 (by decide) rfl 19 (by decide) (List.mem_cons_of_mem _ uw_23_14) rfl rfl dX12_opens_21 (fun x5 c6 rx5 tx5 => ?_)
    refine wk_top f0_ (c6.symm.trans cf0_) ?_
    replace hM := hM.rd (sI_at cf0_)
    refine lv_iconst (v := 1) hx hb dX12_opens_24 (by decide) ?_
    refine lv_iadd hx hb dX12_opens_25 ?_
    refine lv_topi (fun x7 ex7 => ?_)
    have ezx7 := ex7
    have ex7 : x7.toInt = f0_.toInt + (1 : Int) := by rw [ex7]; exact wk_add (show (-2147483648) ≤ f0_.toInt + (1 : Int) by omega) (show f0_.toInt + (1 : Int) ≤ 2147483647 by omega)
    replace hM := hM.lt ex7.symm
    refine tk_puti hC hK hw hT hinX12 tyX12_ok nmX12 kM_at0 (by decide) rfl rfl 19 (by decide) (List.mem_cons_of_mem _ uw_23_14) rfl rfl rfl rfl (show (-100) ≤ x7.toInt by first | with_reducible assumption | omega) (show x7.toInt ≤ 10 by first | with_reducible assumption | omega) dX12_opens_26 (fun H locs w8 hw hT k10 c9 => ?_)
    replace hM := hM.wr (sI_up k10 c9)
    have gn11 : binN w8 (f1_.toInt).toNat = binN w0 (f1_.toInt).toNat := bin_F1 _ k10 (by decide)
    have hE9 := E9_F1 k10 (by decide) hE9
    have hF := hF.put kM_at0 (k := 19) (by decide) k10
    have c12 := k10.gi (Or.inr (by decide)) cf1_
    refine lv_aload_n hx hb dX12_opens_29 rfl (lv_at hl 0 rfl) ?_
    refine tk_getA hC hK hw hT hinX12 kM_at0 (by decide) rfl 21 (by decide) (List.mem_cons_of_mem _ uw_6_22) rfl rfl dX12_opens_30 ?_
    refine lv_aload_n hx hb dX12_opens_33 rfl (lv_at hl 0 rfl) ?_
    refine tk_geti hC hK hw hT hinX12 kM_at0 (by decide) rfl 22 (by decide) (List.mem_cons_of_mem _ uw_23_13) rfl rfl dX12_opens_34 (fun x13 c14 rx13 tx13 => ?_)
    refine wk_top f1_ (c14.symm.trans c12) ?_
    replace hM := hM.rd (sI_at c12)
    refine lv_iload_n hx hb dX12_opens_37 rfl (lv_at hl 1 rfl) ?_
    refine tk_iast hC hK hw hT kM_at9 (by decide) rfl rfl (show 0 ≤ f1_.toInt from rf1_) (show f1_.toInt < 400 from Int.lt_of_le_of_lt pr0_ (by decide)) (by decide) (by decide) dX12_opens_38 (fun H locs w15 hw hT k17 c16 => ?_)
    replace hM := hM.wr (sI_upc k17 c16 (by decide))
    have gn18 : binN w15 (f1_.toInt).toNat = binN w8 (f1_.toInt).toNat := bin_ge _ k17 (show (f1_.toInt).toNat ≤ f1_.toInt.toNat by omega)
    have gx19 : (gi w15 9 (f1_.toInt).toNat).toInt = (91 : Int) := by rw [show gi w15 9 (f1_.toInt).toNat = 91 from c16]; decide
    have hE9 := E9_put (o := f1_.toInt) (o' := f1_.toInt + 1) k17 (show ((f1_.toInt.toNat : Nat) : Int) = _ by first | exact Int.le_antisymm (by omega) (by omega) | omega) rfl (by rw [c16]; unfold e9; decide) (E9_le hE9 (by omega))
    have hF := hF.put kM_at9 (inE_of (a := 0) (b := 400) (by decide) (show 0 ≤ f1_.toInt.toNat by omega) (show f1_.toInt.toNat ≤ 400 by omega)) k17
    have c20 := k17.gi (Or.inl (tk_ne kM_at0 kM_at9 (by decide))) c12
    have c21 := k17.gi (Or.inl (tk_ne kM_at0 kM_at9 (by decide))) c9
    refine lv_aload_n hx hb dX12_opens_39 rfl (lv_at hl 0 rfl) ?_
    refine lv_dup hx hb dX12_opens_40 rfl ?_
    refine tk_geti hC hK hw hT hinX12 kM_at0 (by decide) rfl 22 (by decide) (List.mem_cons_of_mem _ uw_23_13) rfl rfl dX12_opens_41 (fun x22 c23 rx22 tx22 => ?_)
    refine wk_top f1_ (c23.symm.trans c20) ?_
    replace hM := hM.rd (sI_at c20)
    refine lv_iconst (v := 1) hx hb dX12_opens_44 (by decide) ?_
    refine lv_iadd hx hb dX12_opens_45 ?_
    refine lv_topi (fun x24 ex24 => ?_)
    have ezx24 := ex24
    have ex24 : x24.toInt = f1_.toInt + (1 : Int) := by rw [ex24]; exact wk_add (show (-2147483648) ≤ f1_.toInt + (1 : Int) by omega) (show f1_.toInt + (1 : Int) ≤ 2147483647 by omega)
    replace hM := hM.lt ex24.symm
    refine tk_puti hC hK hw hT hinX12 tyX12_ok nmX12 kM_at0 (by decide) rfl rfl 22 (by decide) (List.mem_cons_of_mem _ uw_23_13) rfl rfl rfl rfl (show 0 ≤ x24.toInt by first | with_reducible assumption | omega) (show x24.toInt ≤ 400 by first | with_reducible assumption | omega) dX12_opens_46 (fun H locs w25 hw hT k27 c26 => ?_)
    replace hM := hM.wr (sI_up k27 c26)
    have gn28 : binN w25 (f1_.toInt).toNat = binN w15 (f1_.toInt).toNat := bin_F1 _ k27 (by decide)
    have gn29 : binN w25 (x24.toInt).toNat = binN w15 (x24.toInt).toNat := bin_F1 _ k27 (by decide)
    have gt30 := bin_top (w := w15) (a := x24.toInt) (b := f1_.toInt) (by omega) (by omega)
    have hE9 := E9_F1 k27 (by decide) hE9
    have hF := hF.put kM_at0 (k := 22) (by decide) k27
    have c31 := k27.gi (Or.inr (by decide)) c21
    refine lv_iconst (v := 1) hx hb dX12_opens_49 (by decide) ?_
    exact tk_zret hC hr rfl hlocks hK ⟨hT, hF, hM.ret (by decide), (Or.inr ⟨rfl, ⟨x7, c31, (show (-99) ≤ x7.toInt by first | with_reducible assumption | omega), (show x7.toInt ≤ 10 by first | with_reducible assumption | omega)⟩, ⟨x24, c26, (show 1 ≤ x24.toInt by first | with_reducible assumption | omega), (show x24.toInt ≤ 400 by first | with_reducible assumption | omega)⟩, (E9_le hE9 (by simp only [c26] <;> omega)), (by simp only [cf1_, c26]; omega), (by simp only [cf0_, c31]; omega), (by simp only [c31, c26]; omega)⟩)⟩ hw dX12_opens_50
  · have c4 : f0_.toInt = (10 : Int) := wk_eq.mp c4
    replace hM := hM.neg (fun q => q c4)
    refine lv_aload_n hx hb dX12_opens_9 rfl (lv_at hl 0 rfl) ?_
    refine lv_iconst (v := 2) hx hb dX12_opens_10 (by decide) ?_
    refine lv_aload_n hx hb dX12_opens_11 rfl (lv_at hl 0 rfl) ?_
    refine tk_geti hC hK hw hT hinX12 kM_at0 (by decide) rfl 14 (by decide) (List.mem_cons_of_mem _ uw_19_18) rfl rfl dX12_opens_12 (fun x32 c33 rx32 tx32 => ?_)
    replace hM := hM.rd (sI_at c33)
    refine tk_Vi hC hK hw hT hA hE hSR kM_at0 (by decide) rfl (kz_X12_fails_1 l adK adV dC dI cy ad B hB0 (Int.le_trans hB1 (by decide)) qr s1   2 (by decide) (by decide) x32 (show 0 ≤ x32.toInt from rx32) (show x32.toInt ≤ 400 from tx32) w0 s.heap.size hT ) (cwV 2 hC.2.2.2.2 uV_RX12_115 rfl rfl rfl (by decide +kernel) ⟨Nat.le_of_ble_eq_true rfl, Nat.le_of_ble_eq_true rfl⟩) rfl hl.1 rfl (Nat.le_of_ble_eq_true rfl) dX12_opens_15 (fun r34 w36 H locs hp35 hw => ?_)
    obtain ⟨hT, k37, hv41, hg40⟩ := hp35
    try simp only [show (2 : Int32).toInt = 2 by decide] at hv41
    have hE9 := E9_FE k37 (fun _ => rfl) hE9
    have gn42 : binN w36 (f1_.toInt).toNat = binN w0 (f1_.toInt).toNat := bin_FE _ k37 (fun _ => rfl)
    have hF := hF.tr k37 (by decide)
    have c43 := k37.gi kM_at0 (by decide) cf0_
    have c44 := k37.gi kM_at0 (by decide) cf1_
    have c45 := k37.gi kM_at0 (by decide) c33
    obtain ⟨rfl, ⟨x38, c39, rx38, tx38⟩⟩ := hg40
    replace hM := hM.call (r' := 0) hv41 (by decide)
    exact tk_zret hC hr rfl hlocks hK ⟨hT, hF, hM.ret (by decide), (Or.inl ⟨rfl, ⟨x38, c39, (show 1 ≤ x38.toInt by first | with_reducible assumption | omega), (show x38.toInt ≤ 3205 by first | with_reducible assumption | omega)⟩, ⟨f0_, c43, (show 10 ≤ f0_.toInt by first | with_reducible assumption | omega), (show f0_.toInt ≤ 10 from tf0_)⟩, ⟨f1_, c44, (show 0 ≤ f1_.toInt from rf1_), (show f1_.toInt ≤ 399 from pr0_)⟩⟩)⟩ hw dX12_opens_18
abbrev Pz_X12_opens_2 (ad : Nat → Nat) (cy : Nat → ClassId) (B : Int) (qr : Nat) (s1 : Int)  (w0 : va_W) : Int32 → va_W → Prop := fun r u => TW ksM ad cy B qr 12 u ∧ FE ksM [(12, 15, 15), (12, 19, 19), (12, 22, 22), (68, 0, 400)] w0 u ∧ Ev (fun n => m_X12_opens n 0 11 (sI w0)) (r.toInt, sI u) ∧ ((r = 0 ∧ (∃ y : Int32, gi u 0 15 = y ∧ 1 ≤ y.toInt ∧ y.toInt ≤ 3205) ∧ (∃ y : Int32, gi u 0 19 = y ∧ 10 ≤ y.toInt ∧ y.toInt ≤ 10) ∧ (∃ y : Int32, gi u 0 22 = y ∧ 0 ≤ y.toInt ∧ y.toInt ≤ 399)) ∨ (r = 1 ∧ (∃ y : Int32, gi u 0 19 = y ∧ (-99) ≤ y.toInt ∧ y.toInt ≤ 10) ∧ (∃ y : Int32, gi u 0 22 = y ∧ 1 ≤ y.toInt ∧ y.toInt ≤ 400) ∧ E9 u (gi u 0 22).toInt ∧ ((gi u 0 22).toInt = (gi w0 0 22).toInt + 1) ∧ ((gi u 0 19).toInt = (gi w0 0 19).toInt + 1) ∧ ((binN u ((gi u 0 22).toInt).toNat : Int) = (gi u 0 22).toInt - (gi u 0 19).toInt)))
set_option maxHeartbeats 4000000 in
set_option maxRecDepth 100000 in
theorem kz_X12_opens_2 (l : Launch) (adK adV : Nat → Nat) (dC : Nat → ClassId) (dI : Nat → Nat → Nat) (cy : Nat → ClassId) (ad : Nat → Nat) (B : Int) (hB0 : 100000 ≤ B) (hB1 : B ≤ 1073741824) (qr : Nat) (s1 : Int)   (w0 : va_W) (sz : Nat) (hT : TW ksM ad cy B qr 12 w0) (f0_ : Int32) (cf0_ : gi w0 0 19 = f0_) (rf0_ : (-100) ≤ f0_.toInt) (tf0_ : f0_.toInt ≤ 10) (f1_ : Int32) (cf1_ : gi w0 0 22 = f1_) (rf1_ : 0 ≤ f1_.toInt) (tf1_ : f1_.toInt ≤ 400) (pr0_ : f1_.toInt ≤ 399) (pr1_ : (binN w0 (f1_.toInt).toNat : Int) = f1_.toInt - f0_.toInt) (hE9 : E9 w0 (f1_.toInt)) : Met l yX12_opens (wu yX12_opens cX12_opens 2 (some .boolean)) ({ frames := 2, cells := 0, slots := 0, locals := 34 }) (va_Pc [.ref (ad 0), .int 11] (wpreS adK adV dC dI cy sz w0)) (va_Qi (Pz_X12_opens_2 ad cy B qr s1  w0) (fun u : va_W => wpost dC dI cy (va_A w0 sz) u) (va_A w0 sz)) 0 0 (va_A w0 sz) := by
  refine Met.ofW (cc := cX12_opens) (maxL := 2) (ret := (some .boolean)) (by decide) rfl ?_
  intro p e s m args below meth c s₁ Bk hml hv
  obtain ⟨rfl, ⟨hsz, hP, hK, hD0⟩, hE, hSR⟩ := hv
  have hx := Bk.exec
  have hb := Bk.bytes
  have hr := Bk.returns
  have hlocks := Bk.notSynchronized
  have hC : CallFix p m c cX12_opens 2 s _ (wu yX12_opens cX12_opens 2 (some .boolean)) RX12 := ⟨hx, hb, hml, findClass_of_methodNamed Bk.named, atoms_spec (ws := (wu yX12_opens cX12_opens 2 (some .boolean))) Bk.pre⟩
  subst hsz
  have hD := hD0.self (sz := s.heap.size)
  generalize hAe : va_A w0 s.heap.size = A at hD hE ⊢
  have hA : ∀ q : Nat, s.heap.size ≤ q → A q := fun q h => by rw [← hAe]; exact Or.inr h
  have hw : Wd dC dI A s.heap s.heap [] w0 := ⟨hP, hD, va_S.rf⟩
  have hF : FE ksM [(12, 15, 15), (12, 19, 19), (12, 22, 22), (68, 0, 400)] w0 w0 := FE.rf
  have hl := lv_entry ([.ref (ad 0), .int 11]) (n := 2) (Nat.le_of_ble_eq_true rfl)
  rw [lg_entry_eq]
  generalize (lg_sl ([.ref (ad 0), .int 11]) ++ List.replicate (2 - (lg_sl ([.ref (ad 0), .int 11])).length) Slot.unset).toArray = ls at hl ⊢
  have hl : lv_has ls 2 [(0, .ref (ad 0)), (1, .int 11)] := hl
  generalize hloc : ([] : List Loc) = locs at hw ⊢
  have hinX12 : ∀ w ∈ u_ws RX12 TX12 42, w ∈ (wu yX12_opens cX12_opens 2 (some .boolean)) := fun _ h => List.mem_cons_of_mem _ (up_71 h)
  have hM : TT (fun n => m_X12_opens n 0 11 (sI w0)) (fun n => m_X12_opens n 0 11 (sI w0)) := TT.rf
  have gl1 := bin_le w0 (f1_.toInt).toNat
  refine lv_aload_n hx hb dX12_opens_0 rfl (lv_at hl 0 rfl) ?_
  refine tk_geti hC hK hw hT hinX12 kM_at0 (by decide) rfl 19 (by decide) (List.mem_cons_of_mem _ uw_23_14) rfl rfl dX12_opens_1 (fun x2 c3 rx2 tx2 => ?_)
  refine wk_top f0_ (c3.symm.trans cf0_) ?_
  replace hM := hM.rd (sI_at cf0_)
  refine lv_bipush (v := 10) hx hb dX12_opens_4 (by decide) ?_
  refine lv_icmp_ne (tgt := 19) hx hb dX12_opens_6 (by decide) (fun c4 => ?_) (fun c4 => ?_)
  · have c4 : ¬ f0_.toInt = (10 : Int) := wk_eqF c4
    replace hM := hM.pos c4
    refine lv_aload_n hx hb dX12_opens_19 rfl (lv_at hl 0 rfl) ?_
    refine lv_dup hx hb dX12_opens_20 rfl ?_
    refine tk_geti hC hK hw hT hinX12 kM_at0 (by decide) rfl 19 (by decide) (List.mem_cons_of_mem _ uw_23_14) rfl rfl dX12_opens_21 (fun x5 c6 rx5 tx5 => ?_)
    refine wk_top f0_ (c6.symm.trans cf0_) ?_
    replace hM := hM.rd (sI_at cf0_)
    refine lv_iconst (v := 1) hx hb dX12_opens_24 (by decide) ?_
    refine lv_iadd hx hb dX12_opens_25 ?_
    refine lv_topi (fun x7 ex7 => ?_)
    have ezx7 := ex7
    have ex7 : x7.toInt = f0_.toInt + (1 : Int) := by rw [ex7]; exact wk_add (show (-2147483648) ≤ f0_.toInt + (1 : Int) by omega) (show f0_.toInt + (1 : Int) ≤ 2147483647 by omega)
    replace hM := hM.lt ex7.symm
    refine tk_puti hC hK hw hT hinX12 tyX12_ok nmX12 kM_at0 (by decide) rfl rfl 19 (by decide) (List.mem_cons_of_mem _ uw_23_14) rfl rfl rfl rfl (show (-100) ≤ x7.toInt by first | with_reducible assumption | omega) (show x7.toInt ≤ 10 by first | with_reducible assumption | omega) dX12_opens_26 (fun H locs w8 hw hT k10 c9 => ?_)
    replace hM := hM.wr (sI_up k10 c9)
    have gn11 : binN w8 (f1_.toInt).toNat = binN w0 (f1_.toInt).toNat := bin_F1 _ k10 (by decide)
    have hE9 := E9_F1 k10 (by decide) hE9
    have hF := hF.put kM_at0 (k := 19) (by decide) k10
    have c12 := k10.gi (Or.inr (by decide)) cf1_
    refine lv_aload_n hx hb dX12_opens_29 rfl (lv_at hl 0 rfl) ?_
    refine tk_getA hC hK hw hT hinX12 kM_at0 (by decide) rfl 21 (by decide) (List.mem_cons_of_mem _ uw_6_22) rfl rfl dX12_opens_30 ?_
    refine lv_aload_n hx hb dX12_opens_33 rfl (lv_at hl 0 rfl) ?_
    refine tk_geti hC hK hw hT hinX12 kM_at0 (by decide) rfl 22 (by decide) (List.mem_cons_of_mem _ uw_23_13) rfl rfl dX12_opens_34 (fun x13 c14 rx13 tx13 => ?_)
    refine wk_top f1_ (c14.symm.trans c12) ?_
    replace hM := hM.rd (sI_at c12)
    refine lv_iload_n hx hb dX12_opens_37 rfl (lv_at hl 1 rfl) ?_
    refine tk_iast hC hK hw hT kM_at9 (by decide) rfl rfl (show 0 ≤ f1_.toInt from rf1_) (show f1_.toInt < 400 from Int.lt_of_le_of_lt pr0_ (by decide)) (by decide) (by decide) dX12_opens_38 (fun H locs w15 hw hT k17 c16 => ?_)
    replace hM := hM.wr (sI_upc k17 c16 (by decide))
    have gn18 : binN w15 (f1_.toInt).toNat = binN w8 (f1_.toInt).toNat := bin_ge _ k17 (show (f1_.toInt).toNat ≤ f1_.toInt.toNat by omega)
    have gx19 : (gi w15 9 (f1_.toInt).toNat).toInt = (11 : Int) := by rw [show gi w15 9 (f1_.toInt).toNat = 11 from c16]; decide
    have hE9 := E9_put (o := f1_.toInt) (o' := f1_.toInt + 1) k17 (show ((f1_.toInt.toNat : Nat) : Int) = _ by first | exact Int.le_antisymm (by omega) (by omega) | omega) rfl (by rw [c16]; unfold e9; decide) (E9_le hE9 (by omega))
    have hF := hF.put kM_at9 (inE_of (a := 0) (b := 400) (by decide) (show 0 ≤ f1_.toInt.toNat by omega) (show f1_.toInt.toNat ≤ 400 by omega)) k17
    have c20 := k17.gi (Or.inl (tk_ne kM_at0 kM_at9 (by decide))) c12
    have c21 := k17.gi (Or.inl (tk_ne kM_at0 kM_at9 (by decide))) c9
    refine lv_aload_n hx hb dX12_opens_39 rfl (lv_at hl 0 rfl) ?_
    refine lv_dup hx hb dX12_opens_40 rfl ?_
    refine tk_geti hC hK hw hT hinX12 kM_at0 (by decide) rfl 22 (by decide) (List.mem_cons_of_mem _ uw_23_13) rfl rfl dX12_opens_41 (fun x22 c23 rx22 tx22 => ?_)
    refine wk_top f1_ (c23.symm.trans c20) ?_
    replace hM := hM.rd (sI_at c20)
    refine lv_iconst (v := 1) hx hb dX12_opens_44 (by decide) ?_
    refine lv_iadd hx hb dX12_opens_45 ?_
    refine lv_topi (fun x24 ex24 => ?_)
    have ezx24 := ex24
    have ex24 : x24.toInt = f1_.toInt + (1 : Int) := by rw [ex24]; exact wk_add (show (-2147483648) ≤ f1_.toInt + (1 : Int) by omega) (show f1_.toInt + (1 : Int) ≤ 2147483647 by omega)
    replace hM := hM.lt ex24.symm
    refine tk_puti hC hK hw hT hinX12 tyX12_ok nmX12 kM_at0 (by decide) rfl rfl 22 (by decide) (List.mem_cons_of_mem _ uw_23_13) rfl rfl rfl rfl (show 0 ≤ x24.toInt by first | with_reducible assumption | omega) (show x24.toInt ≤ 400 by first | with_reducible assumption | omega) dX12_opens_46 (fun H locs w25 hw hT k27 c26 => ?_)
    replace hM := hM.wr (sI_up k27 c26)
    have gn28 : binN w25 (f1_.toInt).toNat = binN w15 (f1_.toInt).toNat := bin_F1 _ k27 (by decide)
    have gn29 : binN w25 (x24.toInt).toNat = binN w15 (x24.toInt).toNat := bin_F1 _ k27 (by decide)
    have gt30 := bin_top (w := w15) (a := x24.toInt) (b := f1_.toInt) (by omega) (by omega)
    have hE9 := E9_F1 k27 (by decide) hE9
    have hF := hF.put kM_at0 (k := 22) (by decide) k27
    have c31 := k27.gi (Or.inr (by decide)) c21
    refine lv_iconst (v := 1) hx hb dX12_opens_49 (by decide) ?_
    exact tk_zret hC hr rfl hlocks hK ⟨hT, hF, hM.ret (by decide), (Or.inr ⟨rfl, ⟨x7, c31, (show (-99) ≤ x7.toInt by first | with_reducible assumption | omega), (show x7.toInt ≤ 10 by first | with_reducible assumption | omega)⟩, ⟨x24, c26, (show 1 ≤ x24.toInt by first | with_reducible assumption | omega), (show x24.toInt ≤ 400 by first | with_reducible assumption | omega)⟩, (E9_le hE9 (by simp only [c26] <;> omega)), (by simp only [cf1_, c26]; omega), (by simp only [cf0_, c31]; omega), (by simp only [c31, c26]; omega)⟩)⟩ hw dX12_opens_50
  · have c4 : f0_.toInt = (10 : Int) := wk_eq.mp c4
    replace hM := hM.neg (fun q => q c4)
    refine lv_aload_n hx hb dX12_opens_9 rfl (lv_at hl 0 rfl) ?_
    refine lv_iconst (v := 2) hx hb dX12_opens_10 (by decide) ?_
    refine lv_aload_n hx hb dX12_opens_11 rfl (lv_at hl 0 rfl) ?_
    refine tk_geti hC hK hw hT hinX12 kM_at0 (by decide) rfl 14 (by decide) (List.mem_cons_of_mem _ uw_19_18) rfl rfl dX12_opens_12 (fun x32 c33 rx32 tx32 => ?_)
    replace hM := hM.rd (sI_at c33)
    refine tk_Vi hC hK hw hT hA hE hSR kM_at0 (by decide) rfl (kz_X12_fails_1 l adK adV dC dI cy ad B hB0 (Int.le_trans hB1 (by decide)) qr s1   2 (by decide) (by decide) x32 (show 0 ≤ x32.toInt from rx32) (show x32.toInt ≤ 400 from tx32) w0 s.heap.size hT ) (cwV 2 hC.2.2.2.2 uV_RX12_115 rfl rfl rfl (by decide +kernel) ⟨Nat.le_of_ble_eq_true rfl, Nat.le_of_ble_eq_true rfl⟩) rfl hl.1 rfl (Nat.le_of_ble_eq_true rfl) dX12_opens_15 (fun r34 w36 H locs hp35 hw => ?_)
    obtain ⟨hT, k37, hv41, hg40⟩ := hp35
    try simp only [show (2 : Int32).toInt = 2 by decide] at hv41
    have hE9 := E9_FE k37 (fun _ => rfl) hE9
    have gn42 : binN w36 (f1_.toInt).toNat = binN w0 (f1_.toInt).toNat := bin_FE _ k37 (fun _ => rfl)
    have hF := hF.tr k37 (by decide)
    have c43 := k37.gi kM_at0 (by decide) cf0_
    have c44 := k37.gi kM_at0 (by decide) cf1_
    have c45 := k37.gi kM_at0 (by decide) c33
    obtain ⟨rfl, ⟨x38, c39, rx38, tx38⟩⟩ := hg40
    replace hM := hM.call (r' := 0) hv41 (by decide)
    exact tk_zret hC hr rfl hlocks hK ⟨hT, hF, hM.ret (by decide), (Or.inl ⟨rfl, ⟨x38, c39, (show 1 ≤ x38.toInt by first | with_reducible assumption | omega), (show x38.toInt ≤ 3205 by first | with_reducible assumption | omega)⟩, ⟨f0_, c43, (show 10 ≤ f0_.toInt by first | with_reducible assumption | omega), (show f0_.toInt ≤ 10 from tf0_)⟩, ⟨f1_, c44, (show 0 ≤ f1_.toInt from rf1_), (show f1_.toInt ≤ 399 from pr0_)⟩⟩)⟩ hw dX12_opens_18
abbrev Pz_X12_fact_1 (ad : Nat → Nat) (cy : Nat → ClassId) (B : Int) (qr : Nat) (s1 : Int)  (gT gb gd : Int) (w0 : va_W) : Int32 → va_W → Prop := fun r u => TW ksM ad cy B qr 12 u ∧ FE ksM [(12, 14, 14), (12, 15, 15), (12, 16, 16), (12, 18, 18), (12, 19, 19), (12, 22, 22), (61, 0, 2400), (62, 0, 7), (68, 0, 400)] w0 u ∧ Ev (fun n => m_X12_fact n 0 (sI w0)) (r.toInt, sI u) ∧ ((r = 0 ∧ (∃ y : Int32, gi u 0 1 = y ∧ 1 ≤ y.toInt ∧ y.toInt ≤ 400) ∧ (∃ y : Int32, gi u 0 15 = y ∧ 1 ≤ y.toInt ∧ y.toInt ≤ 3205) ∧ (∃ y : Int32, gi u 0 17 = y ∧ 0 ≤ y.toInt ∧ y.toInt ≤ 5) ∧ (∃ y : Int32, gi u 0 22 = y ∧ 0 ≤ y.toInt ∧ y.toInt ≤ 399) ∧ RLc u gT) ∨ (r = 0 ∧ (∃ y : Int32, gi u 0 1 = y ∧ 0 ≤ y.toInt ∧ y.toInt ≤ 400) ∧ (∃ y : Int32, gi u 0 15 = y ∧ 1 ≤ y.toInt ∧ y.toInt ≤ 3205) ∧ (∃ y : Int32, gi u 0 17 = y ∧ 0 ≤ y.toInt ∧ y.toInt ≤ 5) ∧ (∃ y : Int32, gi u 0 22 = y ∧ 0 ≤ y.toInt ∧ y.toInt ≤ 399) ∧ RLc u gT) ∨ (r = 1 ∧ (∃ y : Int32, gi u 0 1 = y ∧ 1 ≤ y.toInt ∧ y.toInt ≤ 400) ∧ (∃ y : Int32, gi u 0 17 = y ∧ 0 ≤ y.toInt ∧ y.toInt ≤ 5) ∧ (∃ y : Int32, gi u 0 18 = y ∧ 1 ≤ y.toInt ∧ y.toInt ≤ 60) ∧ (∃ y : Int32, gi u 0 22 = y ∧ 0 ≤ y.toInt ∧ y.toInt ≤ 390) ∧ OKW u gT gb ((gi u 0 22).toInt - (gi u 0 19).toInt + 1) ∧ E9 u (gi u 0 22).toInt ∧ (3 * ((gi u 3 ((gi u 0 17).toInt).toNat).toInt + (gi u 0 22).toInt) + 3 ≤ 14 * (gi u 0 18).toInt) ∧ ((gi u 0 22).toInt + 3 ≤ (gi u 0 19).toInt + (gi u 0 18).toInt) ∧ ((gi w0 0 18).toInt + 3 ≤ (gi u 0 18).toInt) ∧ ((gi u 3 ((gi u 0 17).toInt).toNat).toInt ≤ 280) ∧ ((gi u 0 22).toInt ≤ 280) ∧ ((binN u ((gi u 0 22).toInt).toNat : Int) = (gi u 0 22).toInt - (gi u 0 19).toInt)))
set_option maxHeartbeats 4000000 in
set_option maxRecDepth 100000 in
theorem kz_X12_fact_1 (l : Launch) (adK adV : Nat → Nat) (dC : Nat → ClassId) (dI : Nat → Nat → Nat) (cy : Nat → ClassId) (ad : Nat → Nat) (B : Int) (hB0 : 100000 ≤ B) (hB1 : B ≤ 1073741824) (qr : Nat) (s1 : Int)   (w0 : va_W) (sz : Nat) (hT : TW ksM ad cy B qr 12 w0) (f0_ : Int32) (cf0_ : gi w0 0 17 = f0_) (rf0_ : 0 ≤ f0_.toInt) (tf0_ : f0_.toInt ≤ 5) (f1_ : Int32) (cf1_ : gi w0 0 18 = f1_) (rf1_ : 0 ≤ f1_.toInt) (tf1_ : f1_.toInt ≤ 60) (f2_ : Int32) (cf2_ : gi w0 0 19 = f2_) (rf2_ : (-100) ≤ f2_.toInt) (tf2_ : f2_.toInt ≤ 10) (f3_ : Int32) (cf3_ : gi w0 0 22 = f3_) (rf3_ : 0 ≤ f3_.toInt) (tf3_ : f3_.toInt ≤ 400) (f4_ : Int32) (cf4_ : gi w0 3 (f0_.toInt).toNat = f4_) (rf4_ : 0 ≤ f4_.toInt) (tf4_ : f4_.toInt ≤ 400) (pr0_ : 3 * (f4_.toInt + f3_.toInt) ≤ 14 * f1_.toInt) (pr1_ : f3_.toInt ≤ f2_.toInt + f1_.toInt) (pr2_ : f4_.toInt ≤ 280) (pr3_ : f3_.toInt ≤ 280) (pr4_ : (binN w0 (f3_.toInt).toNat : Int) = f3_.toInt - f2_.toInt) (gb gd : Int) (hO : OKW w0 f0_.toInt gb (f3_.toInt - f2_.toInt)) (hE9 : E9 w0 (f3_.toInt)) : Met l yX12_fact (wu yX12_fact cX12_fact 3 (some .boolean)) ({ frames := 8, cells := 0, slots := 0, locals := 166 }) (va_Pc [.ref (ad 0)] (wpreS adK adV dC dI cy sz w0)) (va_Qi (Pz_X12_fact_1 ad cy B qr s1  f0_.toInt gb gd w0) (fun u : va_W => wpost dC dI cy (va_A w0 sz) u) (va_A w0 sz)) 0 0 (va_A w0 sz) := by
  refine Met.ofW (cc := cX12_fact) (maxL := 3) (ret := (some .boolean)) (by decide) rfl ?_
  intro p e s m args below meth c s₁ Bk hml hv
  obtain ⟨rfl, ⟨hsz, hP, hK, hD0⟩, hE, hSR⟩ := hv
  have hx := Bk.exec
  have hb := Bk.bytes
  have hr := Bk.returns
  have hlocks := Bk.notSynchronized
  have hC : CallFix p m c cX12_fact 3 s _ (wu yX12_fact cX12_fact 3 (some .boolean)) RX12 := ⟨hx, hb, hml, findClass_of_methodNamed Bk.named, atoms_spec (ws := (wu yX12_fact cX12_fact 3 (some .boolean))) Bk.pre⟩
  subst hsz
  have hD := hD0.self (sz := s.heap.size)
  generalize hAe : va_A w0 s.heap.size = A at hD hE ⊢
  have hA : ∀ q : Nat, s.heap.size ≤ q → A q := fun q h => by rw [← hAe]; exact Or.inr h
  have hw : Wd dC dI A s.heap s.heap [] w0 := ⟨hP, hD, va_S.rf⟩
  have hF : FE ksM [(12, 14, 14), (12, 15, 15), (12, 16, 16), (12, 18, 18), (12, 19, 19), (12, 22, 22), (61, 0, 2400), (62, 0, 7), (68, 0, 400)] w0 w0 := FE.rf
  have hl := lv_entry ([.ref (ad 0)]) (n := 3) (Nat.le_of_ble_eq_true rfl)
  rw [lg_entry_eq]
  generalize (lg_sl ([.ref (ad 0)]) ++ List.replicate (3 - (lg_sl ([.ref (ad 0)])).length) Slot.unset).toArray = ls at hl ⊢
  have hl : lv_has ls 3 [(0, .ref (ad 0))] := hl
  generalize hloc : ([] : List Loc) = locs at hw ⊢
  have hinX12 : ∀ w ∈ u_ws RX12 TX12 42, w ∈ (wu yX12_fact cX12_fact 3 (some .boolean)) := fun _ h => List.mem_cons_of_mem _ (up_71 h)
  have gl0 := bin_le w0 (f3_.toInt).toNat
  have L2 : ∀ (n2 : Nat) (v2_1 : Int32) (f2_0_19 : Int32) (f2_0_22 : Int32) (H : Heap) (locs : List Loc) (ls : Array Slot) (w1 : va_W), 0 ≤ v2_1.toInt → v2_1.toInt ≤ 1 → 0 ≤ f0_.toInt → f0_.toInt ≤ 5 → 0 ≤ f1_.toInt → f1_.toInt ≤ 60 → (-100) ≤ f2_0_19.toInt → f2_0_19.toInt ≤ 10 → 0 ≤ f2_0_22.toInt → f2_0_22.toInt ≤ 390 → 0 ≤ f4_.toInt → f4_.toInt ≤ 280 → ((binN w1 (f2_0_22.toInt).toNat : Int) = f2_0_22.toInt - f2_0_19.toInt) → (f4_.toInt = f4_.toInt) → (f1_.toInt = f1_.toInt) → (f2_0_22.toInt + f2_.toInt = f3_.toInt + f2_0_19.toInt) → (f2_.toInt ≤ f2_0_19.toInt) → (f4_.toInt ≤ 280) → (f2_0_22.toInt ≤ 390) → (2 * (10 - f2_0_19.toInt) + v2_1.toInt).toNat < n2 → Wd dC dI A s.heap H locs w1 → TW ksM ad cy B qr 12 w1 → FE ksM [(12, 14, 14), (12, 15, 15), (12, 16, 16), (12, 18, 18), (12, 19, 19), (12, 22, 22), (61, 0, 2400), (62, 0, 7), (68, 0, 400)] w0 w1 → OKW w1 f0_.toInt gb (f2_0_22.toInt - f2_0_19.toInt) → E9 w1 (f2_0_22.toInt) → gi w1 0 17 = f0_ → gi w1 0 18 = f1_ → gi w1 0 19 = f2_0_19 → gi w1 0 22 = f2_0_22 → gi w1 3 (f0_.toInt).toNat = f4_ → TT (fun n => m_X12_fact n 0 (sI w0)) (fun n => j_X12_fact 0 n 2 [v2_1.toInt] (sI w1)) → lv_has ls 3 [(0, .ref (ad 0)), (1, .int v2_1)] → W p l e ({ frames := 8, cells := 0, slots := 0, locals := 166 }) s m (List.toArray [.ref (ad 0)]) below meth c H locs 0 0 (MQ below (va_Qi (Pz_X12_fact_1 ad cy B qr s1  f0_.toInt gb gd w0) (fun u : va_W => wpost dC dI cy A u) A) (List.toArray [.ref (ad 0)]) s 0 0 A) (F0 m 2 ls []) := by
    intro n2
    induction n2 with
    | zero => intro v2_1 f2_0_19 f2_0_22 H locs ls w1 r2 t3 r4 t5 r7 t8 r10 t11 r13 t14 r16 t17 hcr2_0 hcr2_1 hcr2_2 hcr2_3 hcr2_4 hcr2_5 hcr2_6 hm2 hw hT hF hO hE9 c6 c9 c12 c15 c18 hM hl; omega
    | succ n2 ih2 =>
      intro v2_1 f2_0_19 f2_0_22 H locs ls w1 r2 t3 r4 t5 r7 t8 r10 t11 r13 t14 r16 t17 hcr2_0 hcr2_1 hcr2_2 hcr2_3 hcr2_4 hcr2_5 hcr2_6 hm2 hw hT hF hO hE9 c6 c9 c12 c15 c18 hM hl
      replace hM := hM.suc (fun _ => e_X12_fact_2)
      have gl19 := bin_le w1 (f2_0_22.toInt).toNat
      refine lv_iload_n hx hb dX12_fact_2 rfl (lv_at hl 1 rfl) ?_
      refine lv_if_eq (tgt := 75) hx hb dX12_fact_3 (by decide) (fun c20 => ?_) (fun c20 => ?_)
      · have c20 : v2_1.toInt = (0 : Int) := wk_eq.mp c20
        replace hM := hM.pos c20
        refine lv_aload_n hx hb dX12_fact_75 rfl (lv_at hl 0 rfl) ?_
        refine tk_Vi hC hK hw hT hA hE hSR kM_at0 (by decide) rfl (kz_X12_compare_1 l adK adV dC dI cy ad B hB0 (Int.le_trans hB1 (by decide)) qr s1    w1 H.size hT f0_ c6 (show 0 ≤ f0_.toInt from r4) (show f0_.toInt ≤ 5 from t5) f1_ c9 (show 0 ≤ f1_.toInt from r7) (show f1_.toInt ≤ 60 from t8) f4_ c18 (show 0 ≤ f4_.toInt from r16) (show f4_.toInt ≤ 400 from tf4_) (show 3 * f4_.toInt ≤ 14 * f1_.toInt + 30 by omega) (show f4_.toInt ≤ 290 from Int.le_trans t17 (by decide)) gb (f2_0_22.toInt - f2_0_19.toInt) (by omega) (by omega) (OKW_cast hO (show f2_0_22.toInt - f2_0_19.toInt = f2_0_22.toInt - f2_0_19.toInt from rfl))) (cwV 0 hC.2.2.2.2 uV_RX12_191 rfl rfl rfl (by decide +kernel) ⟨Nat.le_of_ble_eq_true rfl, Nat.le_of_ble_eq_true rfl⟩) rfl hl.1 rfl (Nat.le_of_ble_eq_true rfl) dX12_fact_76 (fun r21 w23 H locs hp22 hw => ?_)
        obtain ⟨hT, k24, hv49, hg48⟩ := hp22
        have hE9 := E9_FE k24 (fun _ => rfl) hE9
        have gn50 : binN w23 (f2_0_22.toInt).toNat = binN w1 (f2_0_22.toInt).toNat := bin_FE _ k24 (fun _ => rfl)
        have hF := hF.tr k24 (by decide)
        have c51 := k24.gi kM_at0 (by decide) c6
        have c52 := k24.gi kM_at0 (by decide) c12
        have c53 := k24.gi kM_at0 (by decide) c15
        rcases hg48 with ⟨rfl, ⟨x25, c26, rx25, tx25⟩, ⟨x27, c28, rx27, tx27⟩, ⟨x29, c30, rx29, tx29⟩, hq31⟩ | ⟨rfl, ⟨x32, c33, rx32, tx32⟩, ⟨x34, c35, rx34, tx34⟩, ⟨x36, c37, rx36, tx36⟩, hq38⟩ | ⟨rfl, ⟨x39, c40, rx39, tx39⟩, ⟨x41, c42, rx41, tx41⟩, ⟨x43, c44, rx43, tx43⟩, hq45, g46, g47⟩
        · replace hM := hM.call (r' := 0) hv49 (by decide)
          have ex29 : x29.toInt = f0_.toInt := by rw [← c51.symm.trans c30]
          obtain ⟨x54, c55, rx54, tx54⟩ := hT.rda (lo := 0) (hi := 400) (i := (f0_.toInt).toNat) kM_at3 rfl rfl (by omega)
          obtain ⟨x56, c57, rx56, tx56⟩ := hT.rdi (lo := 0) (hi := 60) (k := 18) kM_at0 (by decide) rfl
          have hR := hq31
          exact tk_zret hC hr rfl hlocks hK ⟨hT, hF, hM.ret (by decide), (Or.inl ⟨rfl, ⟨x25, c26, (show 1 ≤ x25.toInt by first | with_reducible assumption | omega), (show x25.toInt ≤ 400 by first | with_reducible assumption | omega)⟩, ⟨x27, c28, (show 1 ≤ x27.toInt by first | with_reducible assumption | omega), (show x27.toInt ≤ 3205 by first | with_reducible assumption | omega)⟩, ⟨f0_, c51, (show 0 ≤ f0_.toInt from r4), (show f0_.toInt ≤ 5 from t5)⟩, ⟨f2_0_22, c53, (show 0 ≤ f2_0_22.toInt from r13), (show f2_0_22.toInt ≤ 399 from Int.le_trans t14 (by decide))⟩, hR⟩)⟩ hw dX12_fact_79
        · replace hM := hM.call (r' := 0) hv49 (by decide)
          have ex36 : x36.toInt = f0_.toInt := by rw [← c51.symm.trans c37]
          obtain ⟨x58, c59, rx58, tx58⟩ := hT.rda (lo := 0) (hi := 400) (i := (f0_.toInt).toNat) kM_at3 rfl rfl (by omega)
          obtain ⟨x60, c61, rx60, tx60⟩ := hT.rdi (lo := 0) (hi := 60) (k := 18) kM_at0 (by decide) rfl
          have hR := hq38
          exact tk_zret hC hr rfl hlocks hK ⟨hT, hF, hM.ret (by decide), (Or.inr (Or.inl ⟨rfl, ⟨x32, c33, (show 0 ≤ x32.toInt by first | with_reducible assumption | omega), (show x32.toInt ≤ 400 by first | with_reducible assumption | omega)⟩, ⟨x34, c35, (show 1 ≤ x34.toInt by first | with_reducible assumption | omega), (show x34.toInt ≤ 3205 by first | with_reducible assumption | omega)⟩, ⟨f0_, c51, (show 0 ≤ f0_.toInt from r4), (show f0_.toInt ≤ 5 from t5)⟩, ⟨f2_0_22, c53, (show 0 ≤ f2_0_22.toInt from r13), (show f2_0_22.toInt ≤ 399 from Int.le_trans t14 (by decide))⟩, hR⟩))⟩ hw dX12_fact_79
        · replace hM := hM.call (r' := 1) hv49 (by decide)
          have ex41 : x41.toInt = f0_.toInt := by rw [← c51.symm.trans c42]
          obtain ⟨x62, c63, rx62, tx62⟩ := hT.rda (lo := 0) (hi := 400) (i := (f0_.toInt).toNat) kM_at3 rfl rfl (by omega)
          have g46 : 3 * x62.toInt + 33 ≤ 3 * f4_.toInt + 14 * (x43.toInt - f1_.toInt) := by have q := g46; simp only [c6, c51, c18, c63, c9, c44] at q; first | with_reducible exact q | omega
          have g47 : f1_.toInt + 3 ≤ x43.toInt := by have q := g47; simp only [c6, c51, c9, c44] at q; first | with_reducible exact q | omega
          have hO : OKW w23 f0_.toInt gb ((f2_0_22.toInt - f2_0_19.toInt) + 1) := by have q := hq45; exact OKW_cast q (by omega)
          exact tk_zret hC hr rfl hlocks hK ⟨hT, hF, hM.ret (by decide), (Or.inr (Or.inr ⟨rfl, ⟨x39, c40, (show 1 ≤ x39.toInt by first | with_reducible assumption | omega), (show x39.toInt ≤ 400 by first | with_reducible assumption | omega)⟩, ⟨f0_, c51, (show 0 ≤ f0_.toInt from r4), (show f0_.toInt ≤ 5 from t5)⟩, ⟨x43, c44, (show 1 ≤ x43.toInt by first | with_reducible assumption | omega), (show x43.toInt ≤ 60 by first | with_reducible assumption | omega)⟩, ⟨f2_0_22, c53, (show 0 ≤ f2_0_22.toInt from r13), (show f2_0_22.toInt ≤ 390 from t14)⟩, (OKW_cast hO (by simp only [c52, c53] <;> omega)), (E9_le hE9 (by simp only [c53] <;> omega)), (by simp only [c51, cf0_, c63, c44, c53]; omega), (by simp only [c51, cf0_, c52, c44, c53]; omega), (by simp only [c51, cf0_, cf1_, c44]; omega), (by simp only [c51, cf0_, c63]; omega), (by simp only [c51, cf0_, c53]; omega), (by simp only [c51, cf0_, c52, c53]; omega)⟩))⟩ hw dX12_fact_79
      · have c20 : ¬ v2_1.toInt = (0 : Int) := wk_eqF c20
        replace hM := hM.neg c20
        refine lv_iconst (v := 0) hx hb dX12_fact_6 (by decide) ?_
        refine lv_istore_n (lv' := [(1, .int 0), (0, .ref (ad 0))]) hx hb dX12_fact_7 rfl hl (by decide) rfl (fun ls hl => ?_)
        refine lv_aload_n hx hb dX12_fact_8 rfl (lv_at hl 1 rfl) ?_
        obtain ⟨x64, c65, rx64, tx64⟩ := hT.rdi (lo := 0) (hi := 400) (k := 14) kM_at0 (by decide) rfl
        refine tk_Vi hC hK hw hT hA hE hSR kM_at0 (by decide) rfl (kz_X12_see_1 l adK adV dC dI cy ad B hB0 (Int.le_trans hB1 (by decide)) qr s1    w1 H.size hT x64 c65 (show 0 ≤ x64.toInt by first | with_reducible assumption | omega) (show x64.toInt ≤ 400 by first | with_reducible assumption | omega)) (cwV 0 hC.2.2.2.2 uV_RX12_97 rfl rfl rfl (by decide +kernel) ⟨Nat.le_of_ble_eq_true rfl, Nat.le_of_ble_eq_true rfl⟩) rfl hl.1 rfl (Nat.le_of_ble_eq_true rfl) dX12_fact_9 (fun r66 w68 H locs hp67 hw => ?_)
        obtain ⟨hT, k69, hv87, hg86⟩ := hp67
        have hO := OKW_FE k69 (fun _ => rfl) (fun _ => rfl) (fun _ => rfl) (fun _ => rfl) hO
        have hE9 := E9_FE k69 (fun _ => rfl) hE9
        have gn88 : binN w68 (f2_0_22.toInt).toNat = binN w1 (f2_0_22.toInt).toNat := bin_FE _ k69 (fun _ => rfl)
        have hF := hF.tr k69 (by decide)
        have c89 := k69.gi kM_at0 (by decide) c6
        have c90 := k69.gi kM_at0 (by decide) c9
        have c91 := k69.gi kM_at0 (by decide) c12
        have c92 := k69.gi kM_at0 (by decide) c15
        have c93 := k69.gi kM_at3 rfl c18
        rcases hg86 with ⟨g70, g71, ⟨x72, c73, rx72, tx72⟩, ⟨x74, c75, rx74, tx74⟩, g76, g77⟩ | ⟨rfl, ⟨x78, c79, rx78, tx78⟩, ⟨x80, c81, rx80, tx80⟩, g82⟩ | ⟨rfl, ⟨x83, c84, rx83, tx83⟩, g85⟩
        · replace hM := hM.call hv87 rfl
          have g76 : (gi w68 1 (x74.toInt).toNat).toInt ≠ 32 := by have q := g76; simp only [c6, c89, c75] at q; first | with_reducible exact q | omega
          have g77 : (x74.toInt = x64.toInt ∨ (gi w1 1 (x64.toInt).toNat).toInt = 32) := by have q := g77; simp only [c6, c89, c65, c75] at q; first | with_reducible exact q | omega
          refine lv_istore_n (lv' := [(2, .int r66), (1, .int 0), (0, .ref (ad 0))]) hx hb dX12_fact_12 rfl hl (by decide) rfl (fun ls hl => ?_)
          refine lv_aload_n hx hb dX12_fact_13 rfl (lv_at hl 2 rfl) ?_
          refine lv_ldc2 (v := 7237492) hx hb hC.2.2.2.1 (hC.2.2.2.2 _ (List.mem_cons_of_mem _ uw_23_21)) dX12_fact_14 ?_
          refine tk_Vi hC hK hw hT hA hE hSR kM_at0 (by decide) rfl (kz_X12_isWord_21 l adK adV dC dI cy ad B hB0 (Int.le_trans hB1 (by decide)) qr s1    w68 H.size hT x74 c75 (show 0 ≤ x74.toInt by first | with_reducible assumption | omega) (show x74.toInt ≤ 400 by first | with_reducible assumption | omega)) (cwV 1 hC.2.2.2.2 uV_RX12_105 rfl rfl rfl (by decide +kernel) ⟨Nat.le_of_ble_eq_true rfl, Nat.le_of_ble_eq_true rfl⟩) rfl hl.1 rfl (Nat.le_of_ble_eq_true rfl) dX12_fact_17 (fun r96 w98 H locs hp97 hw => ?_)
          obtain ⟨hT, k99, hv107, hg106⟩ := hp97
          have hO := OKW_FE k99 (fun _ => rfl) (fun _ => rfl) (fun _ => rfl) (fun _ => rfl) hO
          have hE9 := E9_FE k99 (fun _ => rfl) hE9
          have gn108 : binN w98 (f2_0_22.toInt).toNat = binN w68 (f2_0_22.toInt).toNat := bin_FE _ k99 (fun _ => rfl)
          have hF := hF.tr k99 (by decide)
          have c109 := k99.gi kM_at0 (by decide) c89
          have c110 := k99.gi kM_at0 (by decide) c90
          have c111 := k99.gi kM_at0 (by decide) c91
          have c112 := k99.gi kM_at0 (by decide) c92
          have c113 := k99.gi kM_at3 rfl c93
          have c114 := k99.gi kM_at0 (by decide) c73
          rcases hg106 with ⟨rfl, ⟨x100, c101, rx100, tx100⟩, g102⟩ | ⟨rfl, ⟨x103, c104, rx103, tx103⟩, g105⟩
          · replace hM := hM.call (r' := 0) hv107 (by decide)
            have ex100 : x100.toInt = x72.toInt := by rw [← c114.symm.trans c101]
            obtain ⟨x115, c116, rx115, tx115⟩ := hT.rdi (lo := 0) (hi := 400) (k := 14) kM_at0 (by decide) rfl
            have g102 : (x115.toInt = x74.toInt ∨ (gi w68 1 (x74.toInt).toNat).toInt = 32) := by have q := g102; simp only [c89, c109, c75, c116] at q; first | with_reducible exact q | omega
            refine lv_if_eq (tgt := 43) hx hb dX12_fact_20 (by decide) (fun _ => ?_) (fun c => absurd (by decide) c)
            replace hM := hM.pos (by decide)
            refine lv_iload_n hx hb dX12_fact_43 rfl (lv_at hl 0 rfl) ?_
            refine lv_bipush (v := 91) hx hb dX12_fact_44 (by decide) ?_
            refine lv_icmp_ne (tgt := 72) hx hb dX12_fact_46 (by decide) (fun c119 => ?_) (fun c119 => ?_)
            · have c119 : ¬ r66.toInt = (91 : Int) := wk_eqF c119
              replace hM := hM.pos c119
              refine lv_goto (tgt := 2) hx hb dX12_fact_72 (by decide) ?_
              exact ih2 0 f2_0_19 f2_0_22 H locs ls w98 (by decide) (by decide) (show 0 ≤ f0_.toInt from r4) (show f0_.toInt ≤ 5 from t5) (show 0 ≤ f1_.toInt from r7) (show f1_.toInt ≤ 60 from t8) (show (-100) ≤ f2_0_19.toInt from r10) (show f2_0_19.toInt ≤ 10 from t11) (show 0 ≤ f2_0_22.toInt from r13) (show f2_0_22.toInt ≤ 390 from t14) (show 0 ≤ f4_.toInt from r16) (show f4_.toInt ≤ 280 from t17) (show (binN w98 (f2_0_22.toInt).toNat : Int) = f2_0_22.toInt - f2_0_19.toInt by first | exact Int.le_antisymm (by omega) (by omega) | omega) (show f4_.toInt = f4_.toInt from rfl) (show f1_.toInt = f1_.toInt from rfl) (show f2_0_22.toInt + f2_.toInt = f3_.toInt + f2_0_19.toInt by first | exact Int.le_antisymm (by omega) (by omega) | omega) (show f2_.toInt ≤ f2_0_19.toInt by omega) (show f4_.toInt ≤ 280 from t17) (show f2_0_22.toInt ≤ 390 from t14) (show (2 * (10 - f2_0_19.toInt) + (0 : Int)).toNat < n2 by first | exact tn_lt hm2 (by omega) (by omega) | omega) hw hT hF (OKW_cast hO (show f2_0_22.toInt - f2_0_19.toInt = f2_0_22.toInt - f2_0_19.toInt from rfl)) (E9_le hE9 (show f2_0_22.toInt ≤ _ by omega)) c109 c110 c111 c112 c113 hM (lv_sub hl [2, 1] rfl)
            · have c119 : r66.toInt = (91 : Int) := wk_eq.mp c119
              replace hM := hM.neg (fun q => q c119)
              refine lv_aload_n hx hb dX12_fact_49 rfl (lv_at hl 2 rfl) ?_
              refine lv_bipush (v := 91) hx hb dX12_fact_50 (by decide) ?_
              refine tk_Vi hC hK hw hT hA hE hSR kM_at0 (by decide) rfl (kz_X12_opens_1 l adK adV dC dI cy ad B hB0 (Int.le_trans hB1 (by decide)) qr s1    w98 H.size hT f2_0_19 c111 (show (-100) ≤ f2_0_19.toInt from r10) (show f2_0_19.toInt ≤ 10 from t11) f2_0_22 c112 (show 0 ≤ f2_0_22.toInt from r13) (show f2_0_22.toInt ≤ 400 from Int.le_trans t14 (by decide)) (show f2_0_22.toInt ≤ 399 from Int.le_trans t14 (by decide)) (show (binN w98 (f2_0_22.toInt).toNat : Int) = f2_0_22.toInt - f2_0_19.toInt by first | exact Int.le_antisymm (by omega) (by omega) | omega) (E9_le hE9 (show f2_0_22.toInt ≤ _ by omega))) (cwV 1 hC.2.2.2.2 uV_RX12_188 rfl rfl rfl (by decide +kernel) ⟨Nat.le_of_ble_eq_true rfl, Nat.le_of_ble_eq_true rfl⟩) rfl hl.1 rfl (Nat.le_of_ble_eq_true rfl) dX12_fact_52 (fun r120 w122 H locs hp121 hw => ?_)
              obtain ⟨hT, k123, hv139, hg138⟩ := hp121
              have hO := OKW_FE k123 (fun _ => rfl) (fun _ => rfl) (fun _ => rfl) (fun _ => rfl) hO
              have hF := hF.tr k123 (by decide)
              have c140 := k123.gi kM_at0 (by decide) c109
              have c141 := k123.gi kM_at0 (by decide) c110
              have c142 := k123.gi kM_at3 rfl c113
              have c143 := k123.gi kM_at0 (by decide) c114
              have c144 := k123.gi kM_at0 (by decide) c116
              rcases hg138 with ⟨rfl, ⟨x124, c125, rx124, tx124⟩, ⟨x126, c127, rx126, tx126⟩, ⟨x128, c129, rx128, tx128⟩⟩ | ⟨rfl, ⟨x130, c131, rx130, tx130⟩, ⟨x132, c133, rx132, tx132⟩, hq134, g135, g136, g137⟩
              · replace hM := hM.call (r' := 0) hv139 (by decide)
                refine lv_if_ne (tgt := 60) hx hb dX12_fact_55 (by decide) (fun c => absurd (by decide) c) (fun _ => ?_)
                replace hM := hM.neg (by decide)
                refine lv_iconst (v := 0) hx hb dX12_fact_58 (by decide) ?_
                exact tk_zret hC hr rfl hlocks hK ⟨hT, hF, hM.ret (by decide), (Or.inl ⟨rfl, ⟨x72, c143, (show 1 ≤ x72.toInt by first | with_reducible assumption | omega), (show x72.toInt ≤ 400 by first | with_reducible assumption | omega)⟩, ⟨x124, c125, (show 1 ≤ x124.toInt by first | with_reducible assumption | omega), (show x124.toInt ≤ 3205 by first | with_reducible assumption | omega)⟩, ⟨f0_, c140, (show 0 ≤ f0_.toInt from r4), (show f0_.toInt ≤ 5 from t5)⟩, ⟨x128, c129, (show 0 ≤ x128.toInt by first | with_reducible assumption | omega), (show x128.toInt ≤ 399 by first | with_reducible assumption | omega)⟩, hO.1⟩)⟩ hw dX12_fact_59
              · replace hM := hM.call (r' := 1) hv139 (by decide)
                have g135 : x132.toInt = f2_0_22.toInt + 1 := by have q := g135; simp only [c109, c140, c112, c133] at q; first | with_reducible exact q | omega
                have g136 : x130.toInt = f2_0_19.toInt + 1 := by have q := g136; simp only [c109, c140, c111, c131] at q; first | with_reducible exact q | omega
                have g137 : (binN w122 (x132.toInt).toNat : Int) = x132.toInt - x130.toInt := by have q := g137; simp only [c109, c140, c131, c133] at q; first | with_reducible exact q | omega
                have hE9 : E9 w122 (x132.toInt) := by have q := hq134; simp only [c133] at q; exact q
                refine lv_if_ne (tgt := 60) hx hb dX12_fact_55 (by decide) (fun _ => ?_) (fun c => absurd c (by decide))
                replace hM := hM.pos (by decide)
                have g145 : x115.toInt ≤ 399 := by omega
                refine lv_aload_n hx hb dX12_fact_60 rfl (lv_at hl 2 rfl) ?_
                refine lv_dup hx hb dX12_fact_61 rfl ?_
                refine tk_geti hC hK hw hT hinX12 kM_at0 (by decide) rfl 14 (by decide) (List.mem_cons_of_mem _ uw_19_18) rfl rfl dX12_fact_62 (fun x146 c147 rx146 tx146 => ?_)
                refine wk_top x115 (c147.symm.trans c144) ?_
                replace hM := hM.rd (sI_at c144)
                refine lv_iconst (v := 1) hx hb dX12_fact_65 (by decide) ?_
                refine lv_iadd hx hb dX12_fact_66 ?_
                refine lv_topi (fun x148 ex148 => ?_)
                have ezx148 := ex148
                have ex148 : x148.toInt = x115.toInt + (1 : Int) := by rw [ex148]; exact wk_add (show (-2147483648) ≤ x115.toInt + (1 : Int) by omega) (show x115.toInt + (1 : Int) ≤ 2147483647 by omega)
                replace hM := hM.lt ex148.symm
                refine tk_puti hC hK hw hT hinX12 tyX12_ok nmX12 kM_at0 (by decide) rfl rfl 14 (by decide) (List.mem_cons_of_mem _ uw_19_18) rfl rfl rfl rfl (show 0 ≤ x148.toInt by first | with_reducible assumption | omega) (show x148.toInt ≤ 400 by first | with_reducible assumption | omega) dX12_fact_67 (fun H locs w149 hw hT k151 c150 => ?_)
                replace hM := hM.wr (sI_up k151 c150)
                have gn152 : binN w149 (x132.toInt).toNat = binN w122 (x132.toInt).toNat := bin_F1 _ k151 (by decide)
                have hO := OKW_F1 k151 (by decide) (by decide) (by decide) (by decide) hO
                have hE9 := E9_F1 k151 (by decide) hE9
                have hF := hF.put kM_at0 (k := 14) (by decide) k151
                have c153 := k151.gi (Or.inr (by decide)) c140
                have c154 := k151.gi (Or.inr (by decide)) c141
                have c155 := k151.gi (Or.inl (tk_ne kM_at3 kM_at0 (by decide))) c142
                have c156 := k151.gi (Or.inr (by decide)) c143
                have c157 := k151.gi (Or.inr (by decide)) c131
                have c158 := k151.gi (Or.inr (by decide)) c133
                refine lv_iconst (v := 1) hx hb dX12_fact_70 (by decide) ?_
                refine lv_istore_n (lv' := [(1, .int 1), (2, .int r66), (0, .ref (ad 0))]) hx hb dX12_fact_71 rfl hl (by decide) rfl (fun ls hl => ?_)
                refine lv_goto (tgt := 2) hx hb dX12_fact_72 (by decide) ?_
                exact ih2 1 x130 x132 H locs ls w149 (by decide) (by decide) (show 0 ≤ f0_.toInt from r4) (show f0_.toInt ≤ 5 from t5) (show 0 ≤ f1_.toInt from r7) (show f1_.toInt ≤ 60 from t8) (show (-100) ≤ x130.toInt by first | with_reducible assumption | omega) (show x130.toInt ≤ 10 by first | with_reducible assumption | omega) (show 0 ≤ x132.toInt by first | with_reducible assumption | omega) (show x132.toInt ≤ 390 by first | with_reducible assumption | omega) (show 0 ≤ f4_.toInt from r16) (show f4_.toInt ≤ 280 from t17) (show (binN w149 (x132.toInt).toNat : Int) = x132.toInt - x130.toInt by first | exact Int.le_antisymm (by omega) (by omega) | omega) (show f4_.toInt = f4_.toInt from rfl) (show f1_.toInt = f1_.toInt from rfl) (show x132.toInt + f2_.toInt = f3_.toInt + x130.toInt by first | exact Int.le_antisymm (by omega) (by omega) | omega) (show f2_.toInt ≤ x130.toInt by omega) (show f4_.toInt ≤ 280 from t17) (show x132.toInt ≤ 390 by first | with_reducible assumption | omega) (show (2 * (10 - x130.toInt) + (1 : Int)).toNat < n2 by first | exact tn_lt hm2 (by omega) (by omega) | omega) hw hT hF (OKW_cast hO (show f2_0_22.toInt - f2_0_19.toInt = x132.toInt - x130.toInt by first | exact Int.le_antisymm (by omega) (by omega) | omega)) (E9_le hE9 (show x132.toInt ≤ _ by omega)) c153 c154 c157 c158 c155 hM (lv_sub hl [2, 0] rfl)
          · replace hM := hM.call (r' := 1) hv107 (by decide)
            have ex103 : x103.toInt = x72.toInt := by rw [← c114.symm.trans c104]
            obtain ⟨x117, c118, rx117, tx117⟩ := hT.rdi (lo := 0) (hi := 400) (k := 14) kM_at0 (by decide) rfl
            have g105 : (x117.toInt = x74.toInt ∨ (gi w68 1 (x74.toInt).toNat).toInt = 32) := by have q := g105; simp only [c89, c109, c75, c118] at q; first | with_reducible exact q | omega
            refine lv_if_eq (tgt := 43) hx hb dX12_fact_20 (by decide) (fun c => absurd c (by decide)) (fun _ => ?_)
            replace hM := hM.neg (by decide)
            refine lv_aload_n hx hb dX12_fact_23 rfl (lv_at hl 2 rfl) ?_
            refine lv_bipush (v := 11) hx hb dX12_fact_24 (by decide) ?_
            refine tk_Vi hC hK hw hT hA hE hSR kM_at0 (by decide) rfl (kz_X12_opens_2 l adK adV dC dI cy ad B hB0 (Int.le_trans hB1 (by decide)) qr s1    w98 H.size hT f2_0_19 c111 (show (-100) ≤ f2_0_19.toInt from r10) (show f2_0_19.toInt ≤ 10 from t11) f2_0_22 c112 (show 0 ≤ f2_0_22.toInt from r13) (show f2_0_22.toInt ≤ 400 from Int.le_trans t14 (by decide)) (show f2_0_22.toInt ≤ 399 from Int.le_trans t14 (by decide)) (show (binN w98 (f2_0_22.toInt).toNat : Int) = f2_0_22.toInt - f2_0_19.toInt by first | exact Int.le_antisymm (by omega) (by omega) | omega) (E9_le hE9 (show f2_0_22.toInt ≤ _ by omega))) (cwV 1 hC.2.2.2.2 uV_RX12_188 rfl rfl rfl (by decide +kernel) ⟨Nat.le_of_ble_eq_true rfl, Nat.le_of_ble_eq_true rfl⟩) rfl hl.1 rfl (Nat.le_of_ble_eq_true rfl) dX12_fact_26 (fun r159 w161 H locs hp160 hw => ?_)
            obtain ⟨hT, k162, hv178, hg177⟩ := hp160
            have hO := OKW_FE k162 (fun _ => rfl) (fun _ => rfl) (fun _ => rfl) (fun _ => rfl) hO
            have hF := hF.tr k162 (by decide)
            have c179 := k162.gi kM_at0 (by decide) c109
            have c180 := k162.gi kM_at0 (by decide) c110
            have c181 := k162.gi kM_at3 rfl c113
            have c182 := k162.gi kM_at0 (by decide) c114
            have c183 := k162.gi kM_at0 (by decide) c118
            rcases hg177 with ⟨rfl, ⟨x163, c164, rx163, tx163⟩, ⟨x165, c166, rx165, tx165⟩, ⟨x167, c168, rx167, tx167⟩⟩ | ⟨rfl, ⟨x169, c170, rx169, tx169⟩, ⟨x171, c172, rx171, tx171⟩, hq173, g174, g175, g176⟩
            · replace hM := hM.call (r' := 0) hv178 (by decide)
              refine lv_if_ne (tgt := 34) hx hb dX12_fact_29 (by decide) (fun c => absurd (by decide) c) (fun _ => ?_)
              replace hM := hM.neg (by decide)
              refine lv_iconst (v := 0) hx hb dX12_fact_32 (by decide) ?_
              exact tk_zret hC hr rfl hlocks hK ⟨hT, hF, hM.ret (by decide), (Or.inl ⟨rfl, ⟨x72, c182, (show 1 ≤ x72.toInt by first | with_reducible assumption | omega), (show x72.toInt ≤ 400 by first | with_reducible assumption | omega)⟩, ⟨x163, c164, (show 1 ≤ x163.toInt by first | with_reducible assumption | omega), (show x163.toInt ≤ 3205 by first | with_reducible assumption | omega)⟩, ⟨f0_, c179, (show 0 ≤ f0_.toInt from r4), (show f0_.toInt ≤ 5 from t5)⟩, ⟨x167, c168, (show 0 ≤ x167.toInt by first | with_reducible assumption | omega), (show x167.toInt ≤ 399 by first | with_reducible assumption | omega)⟩, hO.1⟩)⟩ hw dX12_fact_33
            · replace hM := hM.call (r' := 1) hv178 (by decide)
              have g174 : x171.toInt = f2_0_22.toInt + 1 := by have q := g174; simp only [c109, c179, c112, c172] at q; first | with_reducible exact q | omega
              have g175 : x169.toInt = f2_0_19.toInt + 1 := by have q := g175; simp only [c109, c179, c111, c170] at q; first | with_reducible exact q | omega
              have g176 : (binN w161 (x171.toInt).toNat : Int) = x171.toInt - x169.toInt := by have q := g176; simp only [c109, c179, c170, c172] at q; first | with_reducible exact q | omega
              have hE9 : E9 w161 (x171.toInt) := by have q := hq173; simp only [c172] at q; exact q
              refine lv_if_ne (tgt := 34) hx hb dX12_fact_29 (by decide) (fun _ => ?_) (fun c => absurd c (by decide))
              replace hM := hM.pos (by decide)
              refine lv_aload_n hx hb dX12_fact_34 rfl (lv_at hl 2 rfl) ?_
              refine tk_Vv hC hK hw hT hA hE hSR kM_at0 (by decide) rfl (kz_X12_passWord_1 l adK adV dC dI cy ad B hB0 (Int.le_trans hB1 (by decide)) qr s1    w161 H.size hT ) (cwV 0 hC.2.2.2.2 uV_RX12_109 rfl rfl rfl (by decide +kernel) ⟨Nat.le_of_ble_eq_true rfl, Nat.le_of_ble_eq_true rfl⟩) rfl hl.1 rfl (Nat.le_of_ble_eq_true rfl) dX12_fact_35 (fun w186 H locs hp185 hw => ?_)
              obtain ⟨hT, k187, hv195, hg194⟩ := hp185
              have hO := OKW_FE k187 (fun _ => rfl) (fun _ => rfl) (fun _ => rfl) (fun _ => rfl) hO
              have hE9 := E9_FE k187 (fun _ => rfl) hE9
              have gn196 : binN w186 (x171.toInt).toNat = binN w161 (x171.toInt).toNat := bin_FE _ k187 (fun _ => rfl)
              have hF := hF.tr k187 (by decide)
              have c197 := k187.gi kM_at0 (by decide) c179
              have c198 := k187.gi kM_at0 (by decide) c180
              have c199 := k187.gi kM_at3 rfl c181
              have c200 := k187.gi kM_at0 (by decide) c182
              have c201 := k187.gi kM_at0 (by decide) c170
              have c202 := k187.gi kM_at0 (by decide) c172
              rcases hg194 with ⟨⟨x188, c189, rx188, tx188⟩, ⟨x190, c191, rx190, tx190⟩⟩ | ⟨x192, c193, rx192, tx192⟩
              · replace hM := hM.call hv195 rfl
                have ex188 : x188.toInt = x72.toInt := by rw [← c200.symm.trans c189]
                refine lv_iconst (v := 1) hx hb dX12_fact_38 (by decide) ?_
                refine lv_istore_n (lv' := [(1, .int 1), (2, .int r66), (0, .ref (ad 0))]) hx hb dX12_fact_39 rfl hl (by decide) rfl (fun ls hl => ?_)
                refine lv_goto (tgt := 72) hx hb dX12_fact_40 (by decide) ?_
                refine lv_goto (tgt := 2) hx hb dX12_fact_72 (by decide) ?_
                exact ih2 1 x169 x171 H locs ls w186 (by decide) (by decide) (show 0 ≤ f0_.toInt from r4) (show f0_.toInt ≤ 5 from t5) (show 0 ≤ f1_.toInt from r7) (show f1_.toInt ≤ 60 from t8) (show (-100) ≤ x169.toInt by first | with_reducible assumption | omega) (show x169.toInt ≤ 10 by first | with_reducible assumption | omega) (show 0 ≤ x171.toInt by first | with_reducible assumption | omega) (show x171.toInt ≤ 390 by first | with_reducible assumption | omega) (show 0 ≤ f4_.toInt from r16) (show f4_.toInt ≤ 280 from t17) (show (binN w186 (x171.toInt).toNat : Int) = x171.toInt - x169.toInt by first | exact Int.le_antisymm (by omega) (by omega) | omega) (show f4_.toInt = f4_.toInt from rfl) (show f1_.toInt = f1_.toInt from rfl) (show x171.toInt + f2_.toInt = f3_.toInt + x169.toInt by first | exact Int.le_antisymm (by omega) (by omega) | omega) (show f2_.toInt ≤ x169.toInt by omega) (show f4_.toInt ≤ 280 from t17) (show x171.toInt ≤ 390 by first | with_reducible assumption | omega) (show (2 * (10 - x169.toInt) + (1 : Int)).toNat < n2 by first | exact tn_lt hm2 (by omega) (by omega) | omega) hw hT hF (OKW_cast hO (show f2_0_22.toInt - f2_0_19.toInt = x171.toInt - x169.toInt by first | exact Int.le_antisymm (by omega) (by omega) | omega)) (E9_le hE9 (show x171.toInt ≤ _ by omega)) c197 c198 c201 c202 c199 hM (lv_sub hl [2, 0] rfl)
              · replace hM := hM.call hv195 rfl
                have ex192 : x192.toInt = x72.toInt := by rw [← c200.symm.trans c193]
                refine lv_iconst (v := 1) hx hb dX12_fact_38 (by decide) ?_
                refine lv_istore_n (lv' := [(1, .int 1), (2, .int r66), (0, .ref (ad 0))]) hx hb dX12_fact_39 rfl hl (by decide) rfl (fun ls hl => ?_)
                refine lv_goto (tgt := 72) hx hb dX12_fact_40 (by decide) ?_
                refine lv_goto (tgt := 2) hx hb dX12_fact_72 (by decide) ?_
                exact ih2 1 x169 x171 H locs ls w186 (by decide) (by decide) (show 0 ≤ f0_.toInt from r4) (show f0_.toInt ≤ 5 from t5) (show 0 ≤ f1_.toInt from r7) (show f1_.toInt ≤ 60 from t8) (show (-100) ≤ x169.toInt by first | with_reducible assumption | omega) (show x169.toInt ≤ 10 by first | with_reducible assumption | omega) (show 0 ≤ x171.toInt by first | with_reducible assumption | omega) (show x171.toInt ≤ 390 by first | with_reducible assumption | omega) (show 0 ≤ f4_.toInt from r16) (show f4_.toInt ≤ 280 from t17) (show (binN w186 (x171.toInt).toNat : Int) = x171.toInt - x169.toInt by first | exact Int.le_antisymm (by omega) (by omega) | omega) (show f4_.toInt = f4_.toInt from rfl) (show f1_.toInt = f1_.toInt from rfl) (show x171.toInt + f2_.toInt = f3_.toInt + x169.toInt by first | exact Int.le_antisymm (by omega) (by omega) | omega) (show f2_.toInt ≤ x169.toInt by omega) (show f4_.toInt ≤ 280 from t17) (show x171.toInt ≤ 390 by first | with_reducible assumption | omega) (show (2 * (10 - x169.toInt) + (1 : Int)).toNat < n2 by first | exact tn_lt hm2 (by omega) (by omega) | omega) hw hT hF (OKW_cast hO (show f2_0_22.toInt - f2_0_19.toInt = x171.toInt - x169.toInt by first | exact Int.le_antisymm (by omega) (by omega) | omega)) (E9_le hE9 (show x171.toInt ≤ _ by omega)) c197 c198 c201 c202 c199 hM (lv_sub hl [2, 0] rfl)
        · replace hM := hM.call (r' := (-1)) hv87 (by decide)
          have g82 : (x80.toInt = x64.toInt ∨ (gi w1 1 (x64.toInt).toNat).toInt = 32) := by have q := g82; simp only [c6, c89, c65, c81] at q; first | with_reducible exact q | omega
          refine lv_istore_n (lv' := [(2, .int (-1)), (1, .int 0), (0, .ref (ad 0))]) hx hb dX12_fact_12 rfl hl (by decide) rfl (fun ls hl => ?_)
          refine lv_aload_n hx hb dX12_fact_13 rfl (lv_at hl 2 rfl) ?_
          refine lv_ldc2 (v := 7237492) hx hb hC.2.2.2.1 (hC.2.2.2.2 _ (List.mem_cons_of_mem _ uw_23_21)) dX12_fact_14 ?_
          refine tk_Vi hC hK hw hT hA hE hSR kM_at0 (by decide) rfl (kz_X12_isWord_21 l adK adV dC dI cy ad B hB0 (Int.le_trans hB1 (by decide)) qr s1    w68 H.size hT x80 c81 (show 0 ≤ x80.toInt by first | with_reducible assumption | omega) (show x80.toInt ≤ 400 by first | with_reducible assumption | omega)) (cwV 1 hC.2.2.2.2 uV_RX12_105 rfl rfl rfl (by decide +kernel) ⟨Nat.le_of_ble_eq_true rfl, Nat.le_of_ble_eq_true rfl⟩) rfl hl.1 rfl (Nat.le_of_ble_eq_true rfl) dX12_fact_17 (fun r203 w205 H locs hp204 hw => ?_)
          obtain ⟨hT, k206, hv214, hg213⟩ := hp204
          have hO := OKW_FE k206 (fun _ => rfl) (fun _ => rfl) (fun _ => rfl) (fun _ => rfl) hO
          have hE9 := E9_FE k206 (fun _ => rfl) hE9
          have gn215 : binN w205 (f2_0_22.toInt).toNat = binN w68 (f2_0_22.toInt).toNat := bin_FE _ k206 (fun _ => rfl)
          have hF := hF.tr k206 (by decide)
          have c216 := k206.gi kM_at0 (by decide) c89
          have c217 := k206.gi kM_at0 (by decide) c90
          have c218 := k206.gi kM_at0 (by decide) c91
          have c219 := k206.gi kM_at0 (by decide) c92
          have c220 := k206.gi kM_at3 rfl c93
          have c221 := k206.gi kM_at0 (by decide) c79
          rcases hg213 with ⟨rfl, ⟨x207, c208, rx207, tx207⟩, g209⟩ | ⟨rfl, ⟨x210, c211, rx210, tx210⟩, g212⟩
          · replace hM := hM.call (r' := 0) hv214 (by decide)
            have ex207 : x207.toInt = x78.toInt := by rw [← c221.symm.trans c208]
            obtain ⟨x222, c223, rx222, tx222⟩ := hT.rdi (lo := 0) (hi := 400) (k := 14) kM_at0 (by decide) rfl
            have g209 : (x222.toInt = x80.toInt ∨ (gi w68 1 (x80.toInt).toNat).toInt = 32) := by have q := g209; simp only [c89, c216, c81, c223] at q; first | with_reducible exact q | omega
            refine lv_if_eq (tgt := 43) hx hb dX12_fact_20 (by decide) (fun _ => ?_) (fun c => absurd (by decide) c)
            replace hM := hM.pos (by decide)
            refine lv_iload_n hx hb dX12_fact_43 rfl (lv_at hl 0 rfl) ?_
            refine lv_bipush (v := 91) hx hb dX12_fact_44 (by decide) ?_
            refine lv_icmp_ne (tgt := 72) hx hb dX12_fact_46 (by decide) (fun _ => ?_) (fun c => absurd c (by decide))
            replace hM := hM.pos (by decide)
            refine lv_goto (tgt := 2) hx hb dX12_fact_72 (by decide) ?_
            exact ih2 0 f2_0_19 f2_0_22 H locs ls w205 (by decide) (by decide) (show 0 ≤ f0_.toInt from r4) (show f0_.toInt ≤ 5 from t5) (show 0 ≤ f1_.toInt from r7) (show f1_.toInt ≤ 60 from t8) (show (-100) ≤ f2_0_19.toInt from r10) (show f2_0_19.toInt ≤ 10 from t11) (show 0 ≤ f2_0_22.toInt from r13) (show f2_0_22.toInt ≤ 390 from t14) (show 0 ≤ f4_.toInt from r16) (show f4_.toInt ≤ 280 from t17) (show (binN w205 (f2_0_22.toInt).toNat : Int) = f2_0_22.toInt - f2_0_19.toInt by first | exact Int.le_antisymm (by omega) (by omega) | omega) (show f4_.toInt = f4_.toInt from rfl) (show f1_.toInt = f1_.toInt from rfl) (show f2_0_22.toInt + f2_.toInt = f3_.toInt + f2_0_19.toInt by first | exact Int.le_antisymm (by omega) (by omega) | omega) (show f2_.toInt ≤ f2_0_19.toInt by omega) (show f4_.toInt ≤ 280 from t17) (show f2_0_22.toInt ≤ 390 from t14) (show (2 * (10 - f2_0_19.toInt) + (0 : Int)).toNat < n2 by first | exact tn_lt hm2 (by omega) (by omega) | omega) hw hT hF (OKW_cast hO (show f2_0_22.toInt - f2_0_19.toInt = f2_0_22.toInt - f2_0_19.toInt from rfl)) (E9_le hE9 (show f2_0_22.toInt ≤ _ by omega)) c216 c217 c218 c219 c220 hM (lv_sub hl [2, 1] rfl)
          · replace hM := hM.call (r' := 1) hv214 (by decide)
            have ex210 : x210.toInt = x78.toInt := by rw [← c221.symm.trans c211]
            obtain ⟨x224, c225, rx224, tx224⟩ := hT.rdi (lo := 0) (hi := 400) (k := 14) kM_at0 (by decide) rfl
            have g212 : (x224.toInt = x80.toInt ∨ (gi w68 1 (x80.toInt).toNat).toInt = 32) := by have q := g212; simp only [c89, c216, c81, c225] at q; first | with_reducible exact q | omega
            refine lv_if_eq (tgt := 43) hx hb dX12_fact_20 (by decide) (fun c => absurd c (by decide)) (fun _ => ?_)
            replace hM := hM.neg (by decide)
            refine lv_aload_n hx hb dX12_fact_23 rfl (lv_at hl 2 rfl) ?_
            refine lv_bipush (v := 11) hx hb dX12_fact_24 (by decide) ?_
            refine tk_Vi hC hK hw hT hA hE hSR kM_at0 (by decide) rfl (kz_X12_opens_2 l adK adV dC dI cy ad B hB0 (Int.le_trans hB1 (by decide)) qr s1    w205 H.size hT f2_0_19 c218 (show (-100) ≤ f2_0_19.toInt from r10) (show f2_0_19.toInt ≤ 10 from t11) f2_0_22 c219 (show 0 ≤ f2_0_22.toInt from r13) (show f2_0_22.toInt ≤ 400 from Int.le_trans t14 (by decide)) (show f2_0_22.toInt ≤ 399 from Int.le_trans t14 (by decide)) (show (binN w205 (f2_0_22.toInt).toNat : Int) = f2_0_22.toInt - f2_0_19.toInt by first | exact Int.le_antisymm (by omega) (by omega) | omega) (E9_le hE9 (show f2_0_22.toInt ≤ _ by omega))) (cwV 1 hC.2.2.2.2 uV_RX12_188 rfl rfl rfl (by decide +kernel) ⟨Nat.le_of_ble_eq_true rfl, Nat.le_of_ble_eq_true rfl⟩) rfl hl.1 rfl (Nat.le_of_ble_eq_true rfl) dX12_fact_26 (fun r226 w228 H locs hp227 hw => ?_)
            obtain ⟨hT, k229, hv245, hg244⟩ := hp227
            have hO := OKW_FE k229 (fun _ => rfl) (fun _ => rfl) (fun _ => rfl) (fun _ => rfl) hO
            have hF := hF.tr k229 (by decide)
            have c246 := k229.gi kM_at0 (by decide) c216
            have c247 := k229.gi kM_at0 (by decide) c217
            have c248 := k229.gi kM_at3 rfl c220
            have c249 := k229.gi kM_at0 (by decide) c221
            have c250 := k229.gi kM_at0 (by decide) c225
            rcases hg244 with ⟨rfl, ⟨x230, c231, rx230, tx230⟩, ⟨x232, c233, rx232, tx232⟩, ⟨x234, c235, rx234, tx234⟩⟩ | ⟨rfl, ⟨x236, c237, rx236, tx236⟩, ⟨x238, c239, rx238, tx238⟩, hq240, g241, g242, g243⟩
            · replace hM := hM.call (r' := 0) hv245 (by decide)
              refine lv_if_ne (tgt := 34) hx hb dX12_fact_29 (by decide) (fun c => absurd (by decide) c) (fun _ => ?_)
              replace hM := hM.neg (by decide)
              refine lv_iconst (v := 0) hx hb dX12_fact_32 (by decide) ?_
              exact tk_zret hC hr rfl hlocks hK ⟨hT, hF, hM.ret (by decide), (Or.inl ⟨rfl, ⟨x78, c249, (show 1 ≤ x78.toInt by first | with_reducible assumption | omega), (show x78.toInt ≤ 400 by first | with_reducible assumption | omega)⟩, ⟨x230, c231, (show 1 ≤ x230.toInt by first | with_reducible assumption | omega), (show x230.toInt ≤ 3205 by first | with_reducible assumption | omega)⟩, ⟨f0_, c246, (show 0 ≤ f0_.toInt from r4), (show f0_.toInt ≤ 5 from t5)⟩, ⟨x234, c235, (show 0 ≤ x234.toInt by first | with_reducible assumption | omega), (show x234.toInt ≤ 399 by first | with_reducible assumption | omega)⟩, hO.1⟩)⟩ hw dX12_fact_33
            · replace hM := hM.call (r' := 1) hv245 (by decide)
              have g241 : x238.toInt = f2_0_22.toInt + 1 := by have q := g241; simp only [c216, c246, c219, c239] at q; first | with_reducible exact q | omega
              have g242 : x236.toInt = f2_0_19.toInt + 1 := by have q := g242; simp only [c216, c246, c218, c237] at q; first | with_reducible exact q | omega
              have g243 : (binN w228 (x238.toInt).toNat : Int) = x238.toInt - x236.toInt := by have q := g243; simp only [c216, c246, c237, c239] at q; first | with_reducible exact q | omega
              have hE9 : E9 w228 (x238.toInt) := by have q := hq240; simp only [c239] at q; exact q
              refine lv_if_ne (tgt := 34) hx hb dX12_fact_29 (by decide) (fun _ => ?_) (fun c => absurd c (by decide))
              replace hM := hM.pos (by decide)
              refine lv_aload_n hx hb dX12_fact_34 rfl (lv_at hl 2 rfl) ?_
              refine tk_Vv hC hK hw hT hA hE hSR kM_at0 (by decide) rfl (kz_X12_passWord_1 l adK adV dC dI cy ad B hB0 (Int.le_trans hB1 (by decide)) qr s1    w228 H.size hT ) (cwV 0 hC.2.2.2.2 uV_RX12_109 rfl rfl rfl (by decide +kernel) ⟨Nat.le_of_ble_eq_true rfl, Nat.le_of_ble_eq_true rfl⟩) rfl hl.1 rfl (Nat.le_of_ble_eq_true rfl) dX12_fact_35 (fun w253 H locs hp252 hw => ?_)
              obtain ⟨hT, k254, hv262, hg261⟩ := hp252
              have hO := OKW_FE k254 (fun _ => rfl) (fun _ => rfl) (fun _ => rfl) (fun _ => rfl) hO
              have hE9 := E9_FE k254 (fun _ => rfl) hE9
              have gn263 : binN w253 (x238.toInt).toNat = binN w228 (x238.toInt).toNat := bin_FE _ k254 (fun _ => rfl)
              have hF := hF.tr k254 (by decide)
              have c264 := k254.gi kM_at0 (by decide) c246
              have c265 := k254.gi kM_at0 (by decide) c247
              have c266 := k254.gi kM_at3 rfl c248
              have c267 := k254.gi kM_at0 (by decide) c249
              have c268 := k254.gi kM_at0 (by decide) c237
              have c269 := k254.gi kM_at0 (by decide) c239
              rcases hg261 with ⟨⟨x255, c256, rx255, tx255⟩, ⟨x257, c258, rx257, tx257⟩⟩ | ⟨x259, c260, rx259, tx259⟩
              · replace hM := hM.call hv262 rfl
                have ex255 : x255.toInt = x78.toInt := by rw [← c267.symm.trans c256]
                refine lv_iconst (v := 1) hx hb dX12_fact_38 (by decide) ?_
                refine lv_istore_n (lv' := [(1, .int 1), (2, .int (-1)), (0, .ref (ad 0))]) hx hb dX12_fact_39 rfl hl (by decide) rfl (fun ls hl => ?_)
                refine lv_goto (tgt := 72) hx hb dX12_fact_40 (by decide) ?_
                refine lv_goto (tgt := 2) hx hb dX12_fact_72 (by decide) ?_
                exact ih2 1 x236 x238 H locs ls w253 (by decide) (by decide) (show 0 ≤ f0_.toInt from r4) (show f0_.toInt ≤ 5 from t5) (show 0 ≤ f1_.toInt from r7) (show f1_.toInt ≤ 60 from t8) (show (-100) ≤ x236.toInt by first | with_reducible assumption | omega) (show x236.toInt ≤ 10 by first | with_reducible assumption | omega) (show 0 ≤ x238.toInt by first | with_reducible assumption | omega) (show x238.toInt ≤ 390 by first | with_reducible assumption | omega) (show 0 ≤ f4_.toInt from r16) (show f4_.toInt ≤ 280 from t17) (show (binN w253 (x238.toInt).toNat : Int) = x238.toInt - x236.toInt by first | exact Int.le_antisymm (by omega) (by omega) | omega) (show f4_.toInt = f4_.toInt from rfl) (show f1_.toInt = f1_.toInt from rfl) (show x238.toInt + f2_.toInt = f3_.toInt + x236.toInt by first | exact Int.le_antisymm (by omega) (by omega) | omega) (show f2_.toInt ≤ x236.toInt by omega) (show f4_.toInt ≤ 280 from t17) (show x238.toInt ≤ 390 by first | with_reducible assumption | omega) (show (2 * (10 - x236.toInt) + (1 : Int)).toNat < n2 by first | exact tn_lt hm2 (by omega) (by omega) | omega) hw hT hF (OKW_cast hO (show f2_0_22.toInt - f2_0_19.toInt = x238.toInt - x236.toInt by first | exact Int.le_antisymm (by omega) (by omega) | omega)) (E9_le hE9 (show x238.toInt ≤ _ by omega)) c264 c265 c268 c269 c266 hM (lv_sub hl [2, 0] rfl)
              · replace hM := hM.call hv262 rfl
                have ex259 : x259.toInt = x78.toInt := by rw [← c267.symm.trans c260]
                refine lv_iconst (v := 1) hx hb dX12_fact_38 (by decide) ?_
                refine lv_istore_n (lv' := [(1, .int 1), (2, .int (-1)), (0, .ref (ad 0))]) hx hb dX12_fact_39 rfl hl (by decide) rfl (fun ls hl => ?_)
                refine lv_goto (tgt := 72) hx hb dX12_fact_40 (by decide) ?_
                refine lv_goto (tgt := 2) hx hb dX12_fact_72 (by decide) ?_
                exact ih2 1 x236 x238 H locs ls w253 (by decide) (by decide) (show 0 ≤ f0_.toInt from r4) (show f0_.toInt ≤ 5 from t5) (show 0 ≤ f1_.toInt from r7) (show f1_.toInt ≤ 60 from t8) (show (-100) ≤ x236.toInt by first | with_reducible assumption | omega) (show x236.toInt ≤ 10 by first | with_reducible assumption | omega) (show 0 ≤ x238.toInt by first | with_reducible assumption | omega) (show x238.toInt ≤ 390 by first | with_reducible assumption | omega) (show 0 ≤ f4_.toInt from r16) (show f4_.toInt ≤ 280 from t17) (show (binN w253 (x238.toInt).toNat : Int) = x238.toInt - x236.toInt by first | exact Int.le_antisymm (by omega) (by omega) | omega) (show f4_.toInt = f4_.toInt from rfl) (show f1_.toInt = f1_.toInt from rfl) (show x238.toInt + f2_.toInt = f3_.toInt + x236.toInt by first | exact Int.le_antisymm (by omega) (by omega) | omega) (show f2_.toInt ≤ x236.toInt by omega) (show f4_.toInt ≤ 280 from t17) (show x238.toInt ≤ 390 by first | with_reducible assumption | omega) (show (2 * (10 - x236.toInt) + (1 : Int)).toNat < n2 by first | exact tn_lt hm2 (by omega) (by omega) | omega) hw hT hF (OKW_cast hO (show f2_0_22.toInt - f2_0_19.toInt = x238.toInt - x236.toInt by first | exact Int.le_antisymm (by omega) (by omega) | omega)) (E9_le hE9 (show x238.toInt ≤ _ by omega)) c264 c265 c268 c269 c266 hM (lv_sub hl [2, 0] rfl)
        · replace hM := hM.call (r' := (-1)) hv87 (by decide)
          obtain ⟨x94, c95, rx94, tx94⟩ := hT.rdi (lo := 0) (hi := 400) (k := 14) kM_at0 (by decide) rfl
          have g85 : (x94.toInt = x64.toInt ∨ (gi w1 1 (x64.toInt).toNat).toInt = 32) := by have q := g85; simp only [c6, c89, c65, c95] at q; first | with_reducible exact q | omega
          refine lv_istore_n (lv' := [(2, .int (-1)), (1, .int 0), (0, .ref (ad 0))]) hx hb dX12_fact_12 rfl hl (by decide) rfl (fun ls hl => ?_)
          refine lv_aload_n hx hb dX12_fact_13 rfl (lv_at hl 2 rfl) ?_
          refine lv_ldc2 (v := 7237492) hx hb hC.2.2.2.1 (hC.2.2.2.2 _ (List.mem_cons_of_mem _ uw_23_21)) dX12_fact_14 ?_
          refine tk_Vi hC hK hw hT hA hE hSR kM_at0 (by decide) rfl (kz_X12_isWord_21 l adK adV dC dI cy ad B hB0 (Int.le_trans hB1 (by decide)) qr s1    w68 H.size hT x94 c95 (show 0 ≤ x94.toInt by first | with_reducible assumption | omega) (show x94.toInt ≤ 400 by first | with_reducible assumption | omega)) (cwV 1 hC.2.2.2.2 uV_RX12_105 rfl rfl rfl (by decide +kernel) ⟨Nat.le_of_ble_eq_true rfl, Nat.le_of_ble_eq_true rfl⟩) rfl hl.1 rfl (Nat.le_of_ble_eq_true rfl) dX12_fact_17 (fun r270 w272 H locs hp271 hw => ?_)
          obtain ⟨hT, k273, hv281, hg280⟩ := hp271
          have hO := OKW_FE k273 (fun _ => rfl) (fun _ => rfl) (fun _ => rfl) (fun _ => rfl) hO
          have hE9 := E9_FE k273 (fun _ => rfl) hE9
          have gn282 : binN w272 (f2_0_22.toInt).toNat = binN w68 (f2_0_22.toInt).toNat := bin_FE _ k273 (fun _ => rfl)
          have hF := hF.tr k273 (by decide)
          have c283 := k273.gi kM_at0 (by decide) c89
          have c284 := k273.gi kM_at0 (by decide) c90
          have c285 := k273.gi kM_at0 (by decide) c91
          have c286 := k273.gi kM_at0 (by decide) c92
          have c287 := k273.gi kM_at3 rfl c93
          have c288 := k273.gi kM_at0 (by decide) c84
          rcases hg280 with ⟨rfl, ⟨x274, c275, rx274, tx274⟩, g276⟩ | ⟨rfl, ⟨x277, c278, rx277, tx277⟩, g279⟩
          · replace hM := hM.call (r' := 0) hv281 (by decide)
            have ex274 : x274.toInt = x83.toInt := by rw [← c288.symm.trans c275]
            obtain ⟨x289, c290, rx289, tx289⟩ := hT.rdi (lo := 0) (hi := 400) (k := 14) kM_at0 (by decide) rfl
            have g276 : (x289.toInt = x94.toInt ∨ (gi w68 1 (x94.toInt).toNat).toInt = 32) := by have q := g276; simp only [c89, c283, c95, c290] at q; first | with_reducible exact q | omega
            refine lv_if_eq (tgt := 43) hx hb dX12_fact_20 (by decide) (fun _ => ?_) (fun c => absurd (by decide) c)
            replace hM := hM.pos (by decide)
            refine lv_iload_n hx hb dX12_fact_43 rfl (lv_at hl 0 rfl) ?_
            refine lv_bipush (v := 91) hx hb dX12_fact_44 (by decide) ?_
            refine lv_icmp_ne (tgt := 72) hx hb dX12_fact_46 (by decide) (fun _ => ?_) (fun c => absurd c (by decide))
            replace hM := hM.pos (by decide)
            refine lv_goto (tgt := 2) hx hb dX12_fact_72 (by decide) ?_
            exact ih2 0 f2_0_19 f2_0_22 H locs ls w272 (by decide) (by decide) (show 0 ≤ f0_.toInt from r4) (show f0_.toInt ≤ 5 from t5) (show 0 ≤ f1_.toInt from r7) (show f1_.toInt ≤ 60 from t8) (show (-100) ≤ f2_0_19.toInt from r10) (show f2_0_19.toInt ≤ 10 from t11) (show 0 ≤ f2_0_22.toInt from r13) (show f2_0_22.toInt ≤ 390 from t14) (show 0 ≤ f4_.toInt from r16) (show f4_.toInt ≤ 280 from t17) (show (binN w272 (f2_0_22.toInt).toNat : Int) = f2_0_22.toInt - f2_0_19.toInt by first | exact Int.le_antisymm (by omega) (by omega) | omega) (show f4_.toInt = f4_.toInt from rfl) (show f1_.toInt = f1_.toInt from rfl) (show f2_0_22.toInt + f2_.toInt = f3_.toInt + f2_0_19.toInt by first | exact Int.le_antisymm (by omega) (by omega) | omega) (show f2_.toInt ≤ f2_0_19.toInt by omega) (show f4_.toInt ≤ 280 from t17) (show f2_0_22.toInt ≤ 390 from t14) (show (2 * (10 - f2_0_19.toInt) + (0 : Int)).toNat < n2 by first | exact tn_lt hm2 (by omega) (by omega) | omega) hw hT hF (OKW_cast hO (show f2_0_22.toInt - f2_0_19.toInt = f2_0_22.toInt - f2_0_19.toInt from rfl)) (E9_le hE9 (show f2_0_22.toInt ≤ _ by omega)) c283 c284 c285 c286 c287 hM (lv_sub hl [2, 1] rfl)
          · replace hM := hM.call (r' := 1) hv281 (by decide)
            have ex277 : x277.toInt = x83.toInt := by rw [← c288.symm.trans c278]
            obtain ⟨x291, c292, rx291, tx291⟩ := hT.rdi (lo := 0) (hi := 400) (k := 14) kM_at0 (by decide) rfl
            have g279 : (x291.toInt = x94.toInt ∨ (gi w68 1 (x94.toInt).toNat).toInt = 32) := by have q := g279; simp only [c89, c283, c95, c292] at q; first | with_reducible exact q | omega
            refine lv_if_eq (tgt := 43) hx hb dX12_fact_20 (by decide) (fun c => absurd c (by decide)) (fun _ => ?_)
            replace hM := hM.neg (by decide)
            refine lv_aload_n hx hb dX12_fact_23 rfl (lv_at hl 2 rfl) ?_
            refine lv_bipush (v := 11) hx hb dX12_fact_24 (by decide) ?_
            refine tk_Vi hC hK hw hT hA hE hSR kM_at0 (by decide) rfl (kz_X12_opens_2 l adK adV dC dI cy ad B hB0 (Int.le_trans hB1 (by decide)) qr s1    w272 H.size hT f2_0_19 c285 (show (-100) ≤ f2_0_19.toInt from r10) (show f2_0_19.toInt ≤ 10 from t11) f2_0_22 c286 (show 0 ≤ f2_0_22.toInt from r13) (show f2_0_22.toInt ≤ 400 from Int.le_trans t14 (by decide)) (show f2_0_22.toInt ≤ 399 from Int.le_trans t14 (by decide)) (show (binN w272 (f2_0_22.toInt).toNat : Int) = f2_0_22.toInt - f2_0_19.toInt by first | exact Int.le_antisymm (by omega) (by omega) | omega) (E9_le hE9 (show f2_0_22.toInt ≤ _ by omega))) (cwV 1 hC.2.2.2.2 uV_RX12_188 rfl rfl rfl (by decide +kernel) ⟨Nat.le_of_ble_eq_true rfl, Nat.le_of_ble_eq_true rfl⟩) rfl hl.1 rfl (Nat.le_of_ble_eq_true rfl) dX12_fact_26 (fun r293 w295 H locs hp294 hw => ?_)
            obtain ⟨hT, k296, hv312, hg311⟩ := hp294
            have hO := OKW_FE k296 (fun _ => rfl) (fun _ => rfl) (fun _ => rfl) (fun _ => rfl) hO
            have hF := hF.tr k296 (by decide)
            have c313 := k296.gi kM_at0 (by decide) c283
            have c314 := k296.gi kM_at0 (by decide) c284
            have c315 := k296.gi kM_at3 rfl c287
            have c316 := k296.gi kM_at0 (by decide) c288
            have c317 := k296.gi kM_at0 (by decide) c292
            rcases hg311 with ⟨rfl, ⟨x297, c298, rx297, tx297⟩, ⟨x299, c300, rx299, tx299⟩, ⟨x301, c302, rx301, tx301⟩⟩ | ⟨rfl, ⟨x303, c304, rx303, tx303⟩, ⟨x305, c306, rx305, tx305⟩, hq307, g308, g309, g310⟩
            · replace hM := hM.call (r' := 0) hv312 (by decide)
              refine lv_if_ne (tgt := 34) hx hb dX12_fact_29 (by decide) (fun c => absurd (by decide) c) (fun _ => ?_)
              replace hM := hM.neg (by decide)
              refine lv_iconst (v := 0) hx hb dX12_fact_32 (by decide) ?_
              exact tk_zret hC hr rfl hlocks hK ⟨hT, hF, hM.ret (by decide), (Or.inr (Or.inl ⟨rfl, ⟨x83, c316, (show 0 ≤ x83.toInt by first | with_reducible assumption | omega), (show x83.toInt ≤ 400 by first | with_reducible assumption | omega)⟩, ⟨x297, c298, (show 1 ≤ x297.toInt by first | with_reducible assumption | omega), (show x297.toInt ≤ 3205 by first | with_reducible assumption | omega)⟩, ⟨f0_, c313, (show 0 ≤ f0_.toInt from r4), (show f0_.toInt ≤ 5 from t5)⟩, ⟨x301, c302, (show 0 ≤ x301.toInt by first | with_reducible assumption | omega), (show x301.toInt ≤ 399 by first | with_reducible assumption | omega)⟩, hO.1⟩))⟩ hw dX12_fact_33
            · replace hM := hM.call (r' := 1) hv312 (by decide)
              have g308 : x305.toInt = f2_0_22.toInt + 1 := by have q := g308; simp only [c283, c313, c286, c306] at q; first | with_reducible exact q | omega
              have g309 : x303.toInt = f2_0_19.toInt + 1 := by have q := g309; simp only [c283, c313, c285, c304] at q; first | with_reducible exact q | omega
              have g310 : (binN w295 (x305.toInt).toNat : Int) = x305.toInt - x303.toInt := by have q := g310; simp only [c283, c313, c304, c306] at q; first | with_reducible exact q | omega
              have hE9 : E9 w295 (x305.toInt) := by have q := hq307; simp only [c306] at q; exact q
              refine lv_if_ne (tgt := 34) hx hb dX12_fact_29 (by decide) (fun _ => ?_) (fun c => absurd c (by decide))
              replace hM := hM.pos (by decide)
              refine lv_aload_n hx hb dX12_fact_34 rfl (lv_at hl 2 rfl) ?_
              refine tk_Vv hC hK hw hT hA hE hSR kM_at0 (by decide) rfl (kz_X12_passWord_1 l adK adV dC dI cy ad B hB0 (Int.le_trans hB1 (by decide)) qr s1    w295 H.size hT ) (cwV 0 hC.2.2.2.2 uV_RX12_109 rfl rfl rfl (by decide +kernel) ⟨Nat.le_of_ble_eq_true rfl, Nat.le_of_ble_eq_true rfl⟩) rfl hl.1 rfl (Nat.le_of_ble_eq_true rfl) dX12_fact_35 (fun w320 H locs hp319 hw => ?_)
              obtain ⟨hT, k321, hv329, hg328⟩ := hp319
              have hO := OKW_FE k321 (fun _ => rfl) (fun _ => rfl) (fun _ => rfl) (fun _ => rfl) hO
              have hE9 := E9_FE k321 (fun _ => rfl) hE9
              have gn330 : binN w320 (x305.toInt).toNat = binN w295 (x305.toInt).toNat := bin_FE _ k321 (fun _ => rfl)
              have hF := hF.tr k321 (by decide)
              have c331 := k321.gi kM_at0 (by decide) c313
              have c332 := k321.gi kM_at0 (by decide) c314
              have c333 := k321.gi kM_at3 rfl c315
              have c334 := k321.gi kM_at0 (by decide) c316
              have c335 := k321.gi kM_at0 (by decide) c304
              have c336 := k321.gi kM_at0 (by decide) c306
              rcases hg328 with ⟨⟨x322, c323, rx322, tx322⟩, ⟨x324, c325, rx324, tx324⟩⟩ | ⟨x326, c327, rx326, tx326⟩
              · replace hM := hM.call hv329 rfl
                have ex322 : x322.toInt = x83.toInt := by rw [← c334.symm.trans c323]
                refine lv_iconst (v := 1) hx hb dX12_fact_38 (by decide) ?_
                refine lv_istore_n (lv' := [(1, .int 1), (2, .int (-1)), (0, .ref (ad 0))]) hx hb dX12_fact_39 rfl hl (by decide) rfl (fun ls hl => ?_)
                refine lv_goto (tgt := 72) hx hb dX12_fact_40 (by decide) ?_
                refine lv_goto (tgt := 2) hx hb dX12_fact_72 (by decide) ?_
                exact ih2 1 x303 x305 H locs ls w320 (by decide) (by decide) (show 0 ≤ f0_.toInt from r4) (show f0_.toInt ≤ 5 from t5) (show 0 ≤ f1_.toInt from r7) (show f1_.toInt ≤ 60 from t8) (show (-100) ≤ x303.toInt by first | with_reducible assumption | omega) (show x303.toInt ≤ 10 by first | with_reducible assumption | omega) (show 0 ≤ x305.toInt by first | with_reducible assumption | omega) (show x305.toInt ≤ 390 by first | with_reducible assumption | omega) (show 0 ≤ f4_.toInt from r16) (show f4_.toInt ≤ 280 from t17) (show (binN w320 (x305.toInt).toNat : Int) = x305.toInt - x303.toInt by first | exact Int.le_antisymm (by omega) (by omega) | omega) (show f4_.toInt = f4_.toInt from rfl) (show f1_.toInt = f1_.toInt from rfl) (show x305.toInt + f2_.toInt = f3_.toInt + x303.toInt by first | exact Int.le_antisymm (by omega) (by omega) | omega) (show f2_.toInt ≤ x303.toInt by omega) (show f4_.toInt ≤ 280 from t17) (show x305.toInt ≤ 390 by first | with_reducible assumption | omega) (show (2 * (10 - x303.toInt) + (1 : Int)).toNat < n2 by first | exact tn_lt hm2 (by omega) (by omega) | omega) hw hT hF (OKW_cast hO (show f2_0_22.toInt - f2_0_19.toInt = x305.toInt - x303.toInt by first | exact Int.le_antisymm (by omega) (by omega) | omega)) (E9_le hE9 (show x305.toInt ≤ _ by omega)) c331 c332 c335 c336 c333 hM (lv_sub hl [2, 0] rfl)
              · replace hM := hM.call hv329 rfl
                have ex326 : x326.toInt = x83.toInt := by rw [← c334.symm.trans c327]
                refine lv_iconst (v := 1) hx hb dX12_fact_38 (by decide) ?_
                refine lv_istore_n (lv' := [(1, .int 1), (2, .int (-1)), (0, .ref (ad 0))]) hx hb dX12_fact_39 rfl hl (by decide) rfl (fun ls hl => ?_)
                refine lv_goto (tgt := 72) hx hb dX12_fact_40 (by decide) ?_
                refine lv_goto (tgt := 2) hx hb dX12_fact_72 (by decide) ?_
                exact ih2 1 x303 x305 H locs ls w320 (by decide) (by decide) (show 0 ≤ f0_.toInt from r4) (show f0_.toInt ≤ 5 from t5) (show 0 ≤ f1_.toInt from r7) (show f1_.toInt ≤ 60 from t8) (show (-100) ≤ x303.toInt by first | with_reducible assumption | omega) (show x303.toInt ≤ 10 by first | with_reducible assumption | omega) (show 0 ≤ x305.toInt by first | with_reducible assumption | omega) (show x305.toInt ≤ 390 by first | with_reducible assumption | omega) (show 0 ≤ f4_.toInt from r16) (show f4_.toInt ≤ 280 from t17) (show (binN w320 (x305.toInt).toNat : Int) = x305.toInt - x303.toInt by first | exact Int.le_antisymm (by omega) (by omega) | omega) (show f4_.toInt = f4_.toInt from rfl) (show f1_.toInt = f1_.toInt from rfl) (show x305.toInt + f2_.toInt = f3_.toInt + x303.toInt by first | exact Int.le_antisymm (by omega) (by omega) | omega) (show f2_.toInt ≤ x303.toInt by omega) (show f4_.toInt ≤ 280 from t17) (show x305.toInt ≤ 390 by first | with_reducible assumption | omega) (show (2 * (10 - x303.toInt) + (1 : Int)).toNat < n2 by first | exact tn_lt hm2 (by omega) (by omega) | omega) hw hT hF (OKW_cast hO (show f2_0_22.toInt - f2_0_19.toInt = x305.toInt - x303.toInt by first | exact Int.le_antisymm (by omega) (by omega) | omega)) (E9_le hE9 (show x305.toInt ≤ _ by omega)) c331 c332 c335 c336 c333 hM (lv_sub hl [2, 0] rfl)
  have hM : TT (fun n => m_X12_fact n 0 (sI w0)) (fun n => m_X12_fact n 0 (sI w0)) := TT.rf
  have gl337 := bin_le w0 (f3_.toInt).toNat
  refine lv_iconst (v := 1) hx hb dX12_fact_0 (by decide) ?_
  refine lv_istore_n (lv' := [(1, .int 1), (0, .ref (ad 0))]) hx hb dX12_fact_1 rfl hl (by decide) rfl (fun ls hl => ?_)
  exact L2 ((2 * (10 - f2_.toInt) + (1 : Int)).toNat + 1) 1 f2_ f3_ s.heap locs ls w0 (by decide) (by decide) (show 0 ≤ f0_.toInt from rf0_) (show f0_.toInt ≤ 5 from tf0_) (show 0 ≤ f1_.toInt from rf1_) (show f1_.toInt ≤ 60 from tf1_) (show (-100) ≤ f2_.toInt from rf2_) (show f2_.toInt ≤ 10 from tf2_) (show 0 ≤ f3_.toInt from rf3_) (show f3_.toInt ≤ 390 from Int.le_trans pr3_ (by decide)) (show 0 ≤ f4_.toInt from rf4_) (show f4_.toInt ≤ 280 from pr2_) (show (binN w0 (f3_.toInt).toNat : Int) = f3_.toInt - f2_.toInt by first | exact Int.le_antisymm (by omega) (by omega) | omega) (show f4_.toInt = f4_.toInt from rfl) (show f1_.toInt = f1_.toInt from rfl) (show f3_.toInt + f2_.toInt = f3_.toInt + f2_.toInt from rfl) (show f2_.toInt ≤ f2_.toInt from Int.le_refl _) (show f4_.toInt ≤ 280 from pr2_) (show f3_.toInt ≤ 390 from Int.le_trans pr3_ (by decide)) (Nat.lt_succ_self _) hw hT hF (OKW_cast hO (show f3_.toInt - f2_.toInt = f3_.toInt - f2_.toInt from rfl)) (E9_le hE9 (show f3_.toInt ≤ _ by omega)) cf0_ cf1_ cf2_ cf3_ cf4_ hM (lv_sub hl [1, 0] rfl)
abbrev Pz_X12_settles_3 (ad : Nat → Nat) (cy : Nat → ClassId) (B : Int) (qr : Nat) (s1 : Int)  (gT gb gd : Int) (w0 : va_W) : va_W → Prop := fun u => TW ksM ad cy B qr 12 u ∧ FE ksM [(12, 19, 19), (12, 22, 22), (61, 0, 2400), (62, 0, 7)] w0 u ∧ Ev (fun n => m_X12_settles n 0 3 (sI w0)) (0, sI u) ∧ (((∃ y : Int32, gi u 0 17 = y ∧ 0 ≤ y.toInt ∧ y.toInt ≤ 5) ∧ (∃ y : Int32, gi u 0 19 = y ∧ (-60) ≤ y.toInt ∧ y.toInt ≤ 10) ∧ (∃ y : Int32, gi u 0 22 = y ∧ 0 ≤ y.toInt ∧ y.toInt ≤ 390) ∧ OKW u gT gb ((gi u 0 22).toInt - (gi u 0 19).toInt + 1) ∧ E9 u (gi u 0 22).toInt ∧ ((gi u 3 ((gi u 0 17).toInt).toNat).toInt + (gi u 0 22).toInt = (gi w0 3 ((gi w0 0 17).toInt).toNat).toInt + (gi w0 0 22).toInt) ∧ ((gi u 0 22).toInt ≤ (gi w0 0 22).toInt) ∧ ((gi u 0 22).toInt + (gi w0 0 19).toInt ≤ (gi w0 0 22).toInt + (gi u 0 19).toInt) ∧ ((gi u 0 22).toInt ≤ (gi u 0 19).toInt + (gi w0 0 18).toInt) ∧ ((gi u 0 22).toInt ≤ 390) ∧ ((gi u 3 ((gi u 0 17).toInt).toNat).toInt ≤ 390) ∧ (brkN w0 ((gi u 0 22).toInt).toNat = brkN w0 ((gi w0 0 22).toInt).toNat) ∧ ((binN u ((gi u 0 22).toInt).toNat : Int) = (gi u 0 22).toInt - (gi u 0 19).toInt)))
set_option maxHeartbeats 4000000 in
set_option maxRecDepth 100000 in
theorem kz_X12_settles_3 (l : Launch) (adK adV : Nat → Nat) (dC : Nat → ClassId) (dI : Nat → Nat → Nat) (cy : Nat → ClassId) (ad : Nat → Nat) (B : Int) (hB0 : 100000 ≤ B) (hB1 : B ≤ 1073741824) (qr : Nat) (s1 : Int)   (w0 : va_W) (sz : Nat) (hT : TW ksM ad cy B qr 12 w0) (f0_ : Int32) (cf0_ : gi w0 0 17 = f0_) (rf0_ : 0 ≤ f0_.toInt) (tf0_ : f0_.toInt ≤ 5) (f1_ : Int32) (cf1_ : gi w0 0 18 = f1_) (rf1_ : 0 ≤ f1_.toInt) (tf1_ : f1_.toInt ≤ 60) (f2_ : Int32) (cf2_ : gi w0 0 19 = f2_) (rf2_ : (-100) ≤ f2_.toInt) (tf2_ : f2_.toInt ≤ 10) (f3_ : Int32) (cf3_ : gi w0 0 22 = f3_) (rf3_ : 0 ≤ f3_.toInt) (tf3_ : f3_.toInt ≤ 400) (f4_ : Int32) (cf4_ : gi w0 3 (f0_.toInt).toNat = f4_) (rf4_ : 0 ≤ f4_.toInt) (tf4_ : f4_.toInt ≤ 400) (pr0_ : f4_.toInt + f3_.toInt ≤ 390) (pr1_ : f3_.toInt ≤ f2_.toInt + f1_.toInt) (pr2_ : f4_.toInt ≤ 390) (pr3_ : f3_.toInt ≤ 390) (pr4_ : (binN w0 (f3_.toInt).toNat : Int) = f3_.toInt - f2_.toInt) (gb gd : Int) (hO : OKW w0 f0_.toInt gb (f3_.toInt - f2_.toInt + 1)) (hE9 : E9 w0 (f3_.toInt)) : Met l yX12_settles (wu yX12_settles cX12_settles 2 none) ({ frames := 2, cells := 0, slots := 0, locals := 34 }) (va_Pc [.ref (ad 0), .int 3] (wpreS adK adV dC dI cy sz w0)) (va_Qv (Pz_X12_settles_3 ad cy B qr s1  f0_.toInt gb gd w0) (fun u : va_W => wpost dC dI cy (va_A w0 sz) u) (va_A w0 sz)) 0 0 (va_A w0 sz) := by
  refine Met.ofW (cc := cX12_settles) (maxL := 2) (ret := none) (by decide) rfl ?_
  intro p e s m args below meth c s₁ Bk hml hv
  obtain ⟨rfl, ⟨hsz, hP, hK, hD0⟩, hE, hSR⟩ := hv
  have hx := Bk.exec
  have hb := Bk.bytes
  have hr := Bk.returns
  have hlocks := Bk.notSynchronized
  have hC : CallFix p m c cX12_settles 2 s _ (wu yX12_settles cX12_settles 2 none) RX12 := ⟨hx, hb, hml, findClass_of_methodNamed Bk.named, atoms_spec (ws := (wu yX12_settles cX12_settles 2 none)) Bk.pre⟩
  subst hsz
  have hD := hD0.self (sz := s.heap.size)
  generalize hAe : va_A w0 s.heap.size = A at hD hE ⊢
  have hA : ∀ q : Nat, s.heap.size ≤ q → A q := fun q h => by rw [← hAe]; exact Or.inr h
  have hw : Wd dC dI A s.heap s.heap [] w0 := ⟨hP, hD, va_S.rf⟩
  have hF : FE ksM [(12, 19, 19), (12, 22, 22), (61, 0, 2400), (62, 0, 7)] w0 w0 := FE.rf
  have hl := lv_entry ([.ref (ad 0), .int 3]) (n := 2) (Nat.le_of_ble_eq_true rfl)
  rw [lg_entry_eq]
  generalize (lg_sl ([.ref (ad 0), .int 3]) ++ List.replicate (2 - (lg_sl ([.ref (ad 0), .int 3])).length) Slot.unset).toArray = ls at hl ⊢
  have hl : lv_has ls 2 [(0, .ref (ad 0)), (1, .int 3)] := hl
  generalize hloc : ([] : List Loc) = locs at hw ⊢
  have hinX12 : ∀ w ∈ u_ws RX12 TX12 42, w ∈ (wu yX12_settles cX12_settles 2 none) := fun _ h => List.mem_cons_of_mem _ (up_71 h)
  have L0 : ∀ (n0 : Nat) (f0_0_19 : Int32) (f0_0_22 : Int32) (f0_3__f0__toInt_toNat : Int32) (H : Heap) (locs : List Loc) (ls : Array Slot) (w1 : va_W), 0 ≤ f0_.toInt → f0_.toInt ≤ 5 → 0 ≤ f1_.toInt → f1_.toInt ≤ 60 → (-60) ≤ f0_0_19.toInt → f0_0_19.toInt ≤ 10 → 0 ≤ f0_0_22.toInt → f0_0_22.toInt ≤ 390 → 0 ≤ f0_3__f0__toInt_toNat.toInt → f0_3__f0__toInt_toNat.toInt ≤ 390 → ((binN w1 (f0_0_22.toInt).toNat : Int) = f0_0_22.toInt - f0_0_19.toInt) → (f0_3__f0__toInt_toNat.toInt + f0_0_22.toInt = f4_.toInt + f3_.toInt) → (f0_0_22.toInt ≤ f3_.toInt) → (f0_0_22.toInt + f2_.toInt ≤ f3_.toInt + f0_0_19.toInt) → (f0_0_22.toInt ≤ f0_0_19.toInt + f1_.toInt) → (f0_3__f0__toInt_toNat.toInt ≤ 390) → (f0_0_22.toInt ≤ 390) → (-60 ≤ f0_0_19.toInt) → (brkN w0 (f0_0_22.toInt).toNat = brkN w0 (f3_.toInt).toNat) → (f0_0_19.toInt - (-60)).toNat < n0 → Wd dC dI A s.heap H locs w1 → TW ksM ad cy B qr 12 w1 → FE ksM [(12, 19, 19), (12, 22, 22), (61, 0, 2400), (62, 0, 7)] w0 w1 → OKW w1 f0_.toInt gb (f0_0_22.toInt - f0_0_19.toInt + 1) → E9 w1 (f0_0_22.toInt) → gi w1 0 17 = f0_ → gi w1 0 18 = f1_ → gi w1 0 19 = f0_0_19 → gi w1 0 22 = f0_0_22 → gi w1 3 (f0_.toInt).toNat = f0_3__f0__toInt_toNat → TT (fun n => m_X12_settles n 0 3 (sI w0)) (fun n => j_X12_settles 0 n 0 [(3 : Int)] (sI w1)) → lv_has ls 2 [(0, .ref (ad 0)), (1, .int 3)] → W p l e ({ frames := 2, cells := 0, slots := 0, locals := 34 }) s m (List.toArray [.ref (ad 0), .int 3]) below meth c H locs 0 0 (MQ below (va_Qv (Pz_X12_settles_3 ad cy B qr s1  f0_.toInt gb gd w0) (fun u : va_W => wpost dC dI cy A u) A) (List.toArray [.ref (ad 0), .int 3]) s 0 0 A) (F0 m 0 ls []) := by
    intro n0
    induction n0 with
    | zero => intro f0_0_19 f0_0_22 f0_3__f0__toInt_toNat H locs ls w1 r2 t3 r5 t6 r8 t9 r11 t12 r14 t15 hcr0_0 hcr0_1 hcr0_2 hcr0_3 hcr0_4 hcr0_5 hcr0_6 hcr0_7 hcr0_8 hm0 hw hT hF hO hE9 c4 c7 c10 c13 c16 hM hl; omega
    | succ n0 ih0 =>
      intro f0_0_19 f0_0_22 f0_3__f0__toInt_toNat H locs ls w1 r2 t3 r5 t6 r8 t9 r11 t12 r14 t15 hcr0_0 hcr0_1 hcr0_2 hcr0_3 hcr0_4 hcr0_5 hcr0_6 hcr0_7 hcr0_8 hm0 hw hT hF hO hE9 c4 c7 c10 c13 c16 hM hl
      replace hM := hM.suc (fun _ => e_X12_settles_0)
      have gl17 := bin_le w1 (f0_0_22.toInt).toNat
      refine lv_aload_n hx hb dX12_settles_0 rfl (lv_at hl 0 rfl) ?_
      refine tk_geti hC hK hw hT hinX12 kM_at0 (by decide) rfl 22 (by decide) (List.mem_cons_of_mem _ uw_23_13) rfl rfl dX12_settles_1 (fun x18 c19 rx18 tx18 => ?_)
      refine wk_top f0_0_22 (c19.symm.trans c13) ?_
      replace hM := hM.rd (sI_at c13)
      refine lv_if_le (tgt := 76) hx hb dX12_settles_4 (by decide) (fun c20 => ?_) (fun c20 => ?_)
      · have c20 : f0_0_22.toInt ≤ (0 : Int) := wk_le.mp c20
        replace hM := hM.pos c20
        exact tk_vret hC hr hlocks hK ⟨hT, hF, hM.ret rfl, ⟨⟨f0_, c4, (show 0 ≤ f0_.toInt from r2), (show f0_.toInt ≤ 5 from t3)⟩, ⟨f0_0_19, c10, (show (-60) ≤ f0_0_19.toInt from r8), (show f0_0_19.toInt ≤ 10 from t9)⟩, ⟨f0_0_22, c13, (show 0 ≤ f0_0_22.toInt from r11), (show f0_0_22.toInt ≤ 390 from t12)⟩, (OKW_cast hO (by simp only [c10, c13] <;> omega)), (E9_le hE9 (by simp only [c13] <;> omega)), (by simp only [c4, cf0_, cf4_, c16, cf3_, c13]; omega), (by simp only [c4, cf0_, cf3_, c13]; omega), (by simp only [c4, cf0_, cf2_, c10, cf3_, c13]; omega), (by simp only [c4, cf0_, c10, cf1_, c13]; omega), (by simp only [c4, cf0_, c13]; omega), (by simp only [c4, cf0_, c16]; omega), (by simp only [c4, cf0_, cf3_, c13, c16]; omega), (by simp only [c4, cf0_, c10, c13]; omega)⟩⟩ hw dX12_settles_76
      · have c20 : (0 : Int) < f0_0_22.toInt := wk_leF c20
        replace hM := hM.neg (Int.not_le.mpr c20)
        refine lv_aload_n hx hb dX12_settles_7 rfl (lv_at hl 0 rfl) ?_
        refine tk_getA hC hK hw hT hinX12 kM_at0 (by decide) rfl 21 (by decide) (List.mem_cons_of_mem _ uw_6_22) rfl rfl dX12_settles_8 ?_
        refine lv_aload_n hx hb dX12_settles_11 rfl (lv_at hl 0 rfl) ?_
        refine tk_geti hC hK hw hT hinX12 kM_at0 (by decide) rfl 22 (by decide) (List.mem_cons_of_mem _ uw_23_13) rfl rfl dX12_settles_12 (fun x21 c22 rx21 tx21 => ?_)
        refine wk_top f0_0_22 (c22.symm.trans c13) ?_
        replace hM := hM.rd (sI_at c13)
        refine lv_iconst (v := 1) hx hb dX12_settles_15 (by decide) ?_
        refine lv_isub hx hb dX12_settles_16 ?_
        refine lv_topi (fun x23 ex23 => ?_)
        have ezx23 := ex23
        have ex23 : x23.toInt = f0_0_22.toInt - (1 : Int) := by rw [ex23]; exact wk_sub (show (-2147483648) ≤ f0_0_22.toInt - (1 : Int) by omega) (show f0_0_22.toInt - (1 : Int) ≤ 2147483647 by omega)
        replace hM := hM.lt ex23.symm
        refine tk_iald hC hK hw hT kM_at9 rfl rfl (show 0 ≤ x23.toInt by first | with_reducible assumption | omega) (show x23.toInt < 400 by first | with_reducible assumption | omega) dX12_settles_17 (fun x24 c25 rx24 tx24 => ?_)
        have hox24 := c25
        replace hM := hM.rd (sI_at hox24)
        have c25 : gi w1 9 (1 * f0_0_22.toInt + -1).toNat = x24 := (congrArg (gi w1 9) (congrArg Int.toNat (show 1 * f0_0_22.toInt + -1 = x23.toInt by first | exact Int.le_antisymm (by omega) (by omega) | omega))).trans c25
        refine tk_Si hC hK hw hT hA hE hSR (kz_X12_strength_2 l adK adV dC dI cy ad B hB0 (Int.le_trans hB1 (by decide)) qr s1   x24 w1 H.size hT ) (va_cwS 1 hC.2.2.2.2 uS_RX12_158 rfl rfl rfl (by decide +kernel) ⟨Nat.le_of_ble_eq_true rfl, Nat.le_of_ble_eq_true rfl⟩) rfl hl.1 rfl (Nat.le_of_ble_eq_true rfl) dX12_settles_18 (fun r26 w28 H locs hp27 hw => ?_)
        obtain ⟨rfl, hv38, hg37⟩ := hp27
        rcases hg37 with ⟨rfl, hq30⟩ | ⟨rfl, g31, g32⟩ | ⟨rfl, g33, g34⟩ | ⟨rfl, g35, g36⟩
        · replace hM := hM.call (r' := 0) hv38 (by decide)
          refine lv_iload_n hx hb dX12_settles_21 rfl (lv_at hl 1 rfl) ?_
          refine lv_icmp_lt (tgt := 76) hx hb dX12_settles_22 (by decide) (fun _ => ?_) (fun c => absurd (by decide) c)
          replace hM := hM.pos (by decide)
          exact tk_vret hC hr hlocks hK ⟨hT, hF, hM.ret rfl, ⟨⟨f0_, c4, (show 0 ≤ f0_.toInt from r2), (show f0_.toInt ≤ 5 from t3)⟩, ⟨f0_0_19, c10, (show (-60) ≤ f0_0_19.toInt from r8), (show f0_0_19.toInt ≤ 10 from t9)⟩, ⟨f0_0_22, c13, (show 0 ≤ f0_0_22.toInt from r11), (show f0_0_22.toInt ≤ 390 from t12)⟩, (OKW_cast hO (by simp only [c10, c13] <;> omega)), (E9_le hE9 (by simp only [c13] <;> omega)), (by simp only [c4, cf0_, cf4_, c16, cf3_, c13]; omega), (by simp only [c4, cf0_, cf3_, c13]; omega), (by simp only [c4, cf0_, cf2_, c10, cf3_, c13]; omega), (by simp only [c4, cf0_, c10, cf1_, c13]; omega), (by simp only [c4, cf0_, c13]; omega), (by simp only [c4, cf0_, c16]; omega), (by simp only [c4, cf0_, cf3_, c13, c16, c25]; omega), (by simp only [c4, cf0_, c10, c13]; omega)⟩⟩ hw dX12_settles_76
        · replace hM := hM.call (r' := 1) hv38 (by decide)
          refine lv_iload_n hx hb dX12_settles_21 rfl (lv_at hl 1 rfl) ?_
          refine lv_icmp_lt (tgt := 76) hx hb dX12_settles_22 (by decide) (fun _ => ?_) (fun c => absurd (by decide) c)
          replace hM := hM.pos (by decide)
          exact tk_vret hC hr hlocks hK ⟨hT, hF, hM.ret rfl, ⟨⟨f0_, c4, (show 0 ≤ f0_.toInt from r2), (show f0_.toInt ≤ 5 from t3)⟩, ⟨f0_0_19, c10, (show (-60) ≤ f0_0_19.toInt from r8), (show f0_0_19.toInt ≤ 10 from t9)⟩, ⟨f0_0_22, c13, (show 0 ≤ f0_0_22.toInt from r11), (show f0_0_22.toInt ≤ 390 from t12)⟩, (OKW_cast hO (by simp only [c10, c13] <;> omega)), (E9_le hE9 (by simp only [c13] <;> omega)), (by simp only [c4, cf0_, cf4_, c16, cf3_, c13]; omega), (by simp only [c4, cf0_, cf3_, c13]; omega), (by simp only [c4, cf0_, cf2_, c10, cf3_, c13]; omega), (by simp only [c4, cf0_, c10, cf1_, c13]; omega), (by simp only [c4, cf0_, c13]; omega), (by simp only [c4, cf0_, c16]; omega), (by simp only [c4, cf0_, cf3_, c13, c16, c25]; omega), (by simp only [c4, cf0_, c10, c13]; omega)⟩⟩ hw dX12_settles_76
        · replace hM := hM.call (r' := 2) hv38 (by decide)
          refine lv_iload_n hx hb dX12_settles_21 rfl (lv_at hl 1 rfl) ?_
          refine lv_icmp_lt (tgt := 76) hx hb dX12_settles_22 (by decide) (fun _ => ?_) (fun c => absurd (by decide) c)
          replace hM := hM.pos (by decide)
          exact tk_vret hC hr hlocks hK ⟨hT, hF, hM.ret rfl, ⟨⟨f0_, c4, (show 0 ≤ f0_.toInt from r2), (show f0_.toInt ≤ 5 from t3)⟩, ⟨f0_0_19, c10, (show (-60) ≤ f0_0_19.toInt from r8), (show f0_0_19.toInt ≤ 10 from t9)⟩, ⟨f0_0_22, c13, (show 0 ≤ f0_0_22.toInt from r11), (show f0_0_22.toInt ≤ 390 from t12)⟩, (OKW_cast hO (by simp only [c10, c13] <;> omega)), (E9_le hE9 (by simp only [c13] <;> omega)), (by simp only [c4, cf0_, cf4_, c16, cf3_, c13]; omega), (by simp only [c4, cf0_, cf3_, c13]; omega), (by simp only [c4, cf0_, cf2_, c10, cf3_, c13]; omega), (by simp only [c4, cf0_, c10, cf1_, c13]; omega), (by simp only [c4, cf0_, c13]; omega), (by simp only [c4, cf0_, c16]; omega), (by simp only [c4, cf0_, cf3_, c13, c16, c25]; omega), (by simp only [c4, cf0_, c10, c13]; omega)⟩⟩ hw dX12_settles_76
        · replace hM := hM.call (r' := 3) hv38 (by decide)
          refine lv_iload_n hx hb dX12_settles_21 rfl (lv_at hl 1 rfl) ?_
          refine lv_icmp_lt (tgt := 76) hx hb dX12_settles_22 (by decide) (fun c => absurd c (by decide)) (fun _ => ?_)
          replace hM := hM.neg (by decide)
          refine lv_aload_n hx hb dX12_settles_25 rfl (lv_at hl 0 rfl) ?_
          refine lv_dup hx hb dX12_settles_26 rfl ?_
          refine tk_geti hC hK hw hT hinX12 kM_at0 (by decide) rfl 22 (by decide) (List.mem_cons_of_mem _ uw_23_13) rfl rfl dX12_settles_27 (fun x39 c40 rx39 tx39 => ?_)
          refine wk_top f0_0_22 (c40.symm.trans c13) ?_
          replace hM := hM.rd (sI_at c13)
          refine lv_iconst (v := 1) hx hb dX12_settles_30 (by decide) ?_
          refine lv_isub hx hb dX12_settles_31 ?_
          refine lv_topi (fun x41 ex41 => ?_)
          have ezx41 := ex41
          have ex41 : x41.toInt = f0_0_22.toInt - (1 : Int) := by rw [ex41]; exact wk_sub (show (-2147483648) ≤ f0_0_22.toInt - (1 : Int) by omega) (show f0_0_22.toInt - (1 : Int) ≤ 2147483647 by omega)
          replace hM := hM.lt ex41.symm
          refine tk_puti hC hK hw hT hinX12 tyX12_ok nmX12 kM_at0 (by decide) rfl rfl 22 (by decide) (List.mem_cons_of_mem _ uw_23_13) rfl rfl rfl rfl (show 0 ≤ x41.toInt by first | with_reducible assumption | omega) (show x41.toInt ≤ 400 by first | with_reducible assumption | omega) dX12_settles_32 (fun H locs w42 hw hT k44 c43 => ?_)
          replace hM := hM.wr (sI_up k44 c43)
          have gn45 : binN w42 (f0_0_22.toInt).toNat = binN w1 (f0_0_22.toInt).toNat := bin_F1 _ k44 (by decide)
          have gn46 : binN w42 (x41.toInt).toNat = binN w1 (x41.toInt).toNat := bin_F1 _ k44 (by decide)
          have gt47 := bin_top (w := w1) (a := f0_0_22.toInt) (b := x41.toInt) (by omega) (by omega)
          have gx48 : (gi w1 9 (x41.toInt).toNat).toInt = x24.toInt := by rw [show (x41.toInt) = 1 * f0_0_22.toInt + -1 by omega, c25]
          have hO := OKW_F1 k44 (by decide) (by decide) (by decide) (by decide) hO
          have hE9 := E9_F1 k44 (by decide) hE9
          have hF := hF.put kM_at0 (k := 22) (by decide) k44
          have c49 := k44.gi (Or.inr (by decide)) c4
          have c50 := k44.gi (Or.inr (by decide)) c7
          have c51 := k44.gi (Or.inr (by decide)) c10
          have c52 := k44.gi (Or.inl (tk_ne kM_at3 kM_at0 (by decide))) c16
          have c53 := k44.gi (Or.inl (tk_ne kM_at9 kM_at0 (by decide))) c25
          refine lv_aload_n hx hb dX12_settles_35 rfl (lv_at hl 0 rfl) ?_
          refine lv_aload_n hx hb dX12_settles_36 rfl (lv_at hl 0 rfl) ?_
          refine tk_getA hC hK hw hT hinX12 kM_at0 (by decide) rfl 21 (by decide) (List.mem_cons_of_mem _ uw_6_22) rfl rfl dX12_settles_37 ?_
          refine lv_aload_n hx hb dX12_settles_40 rfl (lv_at hl 0 rfl) ?_
          refine tk_geti hC hK hw hT hinX12 kM_at0 (by decide) rfl 22 (by decide) (List.mem_cons_of_mem _ uw_23_13) rfl rfl dX12_settles_41 (fun x54 c55 rx54 tx54 => ?_)
          refine wk_top x41 (c55.symm.trans c43) ?_
          replace hM := hM.rd (sI_at c43)
          refine tk_iald hC hK hw hT kM_at9 rfl rfl (show 0 ≤ x41.toInt by first | with_reducible assumption | omega) (show x41.toInt < 400 by first | with_reducible assumption | omega) dX12_settles_44 (fun x56 c57 rx56 tx56 => ?_)
          have hox56 := c57
          have c57 : gi w42 9 (1 * f0_0_22.toInt + -1).toNat = x56 := (congrArg (gi w42 9) (congrArg Int.toNat (show 1 * f0_0_22.toInt + -1 = x41.toInt by first | exact Int.le_antisymm (by omega) (by omega) | omega))).trans c57
          refine wk_top x24 (c57.symm.trans c53) ?_
          replace hM := hM.rd ((sI_at hox56).trans (congrArg Int32.toInt (c57.symm.trans c53)))
          refine lv_iconst (v := 0) hx hb dX12_settles_45 (by decide) ?_
          obtain rfl : x24 = 11 := wk_eq.mpr (show x24.toInt = 11 by first | exact Int.le_antisymm (by omega) (by omega) | omega)
          try simp only [show (11 : Int32).toInt = 11 by decide] at hM
          refine tk_Vv hC hK hw hT hA hE hSR kM_at0 (by decide) rfl (kz_X12_puts_1 l adK adV dC dI cy ad B hB0 (Int.le_trans hB1 (by decide)) qr s1   11 (by decide) (by decide) 0 (by decide) (by decide) w42 H.size hT f0_ c49 (show 0 ≤ f0_.toInt from r2) (show f0_.toInt ≤ 5 from t3) f0_3__f0__toInt_toNat c52 (show 0 ≤ f0_3__f0__toInt_toNat.toInt from r14) (show f0_3__f0__toInt_toNat.toInt ≤ 400 from Int.le_trans t15 (by decide)) (show f0_3__f0__toInt_toNat.toInt ≤ 399 from Int.le_trans t15 (by decide))) (cwV 2 hC.2.2.2.2 uV_RX12_162 rfl rfl rfl (by decide +kernel) ⟨Nat.le_of_ble_eq_true rfl, Nat.le_of_ble_eq_true rfl⟩) rfl hl.1 rfl (Nat.le_of_ble_eq_true rfl) dX12_settles_46 (fun w60 H locs hp59 hw => ?_)
          obtain ⟨hT, k61, hv67, hg66⟩ := hp59
          try simp only [show (11 : Int32).toInt = 11 by decide] at hv67
          try simp only [show (0 : Int32).toInt = 0 by decide] at hv67
          have hE9 := E9_FE k61 (fun _ => rfl) hE9
          have gn68 : binN w60 (x41.toInt).toNat = binN w42 (x41.toInt).toNat := bin_FE _ k61 (fun _ => rfl)
          have hF := hF.tr k61 (by decide)
          have c69 := k61.gi kM_at0 (by decide) c49
          have c70 := k61.gi kM_at0 (by decide) c50
          have c71 := k61.gi kM_at0 (by decide) c51
          have c72 := k61.gi kM_at9 rfl c53
          have c73 := k61.gi kM_at0 (by decide) c43
          obtain ⟨⟨x62, c63, rx62, tx62⟩, hq64, g65⟩ := hg66
          replace hM := hM.call hv67 rfl
          have ex62 : x62.toInt = f0_.toInt := by rw [← c69.symm.trans c63]
          obtain ⟨x74, c75, rx74, tx74⟩ := hT.rda (lo := 0) (hi := 400) (i := (f0_.toInt).toNat) kM_at3 rfl rfl (by omega)
          have g65 : x74.toInt = f0_3__f0__toInt_toNat.toInt + 1 := by have q := g65; simp only [c49, c69, c52, c75] at q; first | with_reducible exact q | omega
          have hO : OKW w60 f0_.toInt gb ((f0_0_22.toInt - f0_0_19.toInt + 1)) := OKW_put hO (by have q := hq64; rw [c49] at q; exact q) (by rw [c52]; omega) (fun x hx => by simp only [(show (11 : Int32).toInt = 11 by decide), (show (0 : Int32).toInt = 0 by decide)] at hx; exact okT_not (by omega) (by omega)) (by omega) (by omega)
          refine lv_aload_n hx hb dX12_settles_49 rfl (lv_at hl 0 rfl) ?_
          refine tk_getA hC hK hw hT hinX12 kM_at0 (by decide) rfl 21 (by decide) (List.mem_cons_of_mem _ uw_6_22) rfl rfl dX12_settles_50 ?_
          refine lv_aload_n hx hb dX12_settles_53 rfl (lv_at hl 0 rfl) ?_
          refine tk_geti hC hK hw hT hinX12 kM_at0 (by decide) rfl 22 (by decide) (List.mem_cons_of_mem _ uw_23_13) rfl rfl dX12_settles_54 (fun x76 c77 rx76 tx76 => ?_)
          refine wk_top x41 (c77.symm.trans c73) ?_
          replace hM := hM.rd (sI_at c73)
          refine tk_iald hC hK hw hT kM_at9 rfl rfl (show 0 ≤ x41.toInt by first | with_reducible assumption | omega) (show x41.toInt < 400 by first | with_reducible assumption | omega) dX12_settles_57 (fun x78 c79 rx78 tx78 => ?_)
          have hox78 := c79
          have c79 : gi w60 9 (1 * f0_0_22.toInt + -1).toNat = x78 := (congrArg (gi w60 9) (congrArg Int.toNat (show 1 * f0_0_22.toInt + -1 = x41.toInt by first | exact Int.le_antisymm (by omega) (by omega) | omega))).trans c79
          refine wk_top 11 (c79.symm.trans c72) ?_
          replace hM := hM.rd (v := 11) ((sI_at hox78).trans ((congrArg Int32.toInt (c79.symm.trans c72)).trans (by decide)))
          refine lv_bipush (v := 11) hx hb dX12_settles_58 (by decide) ?_
          refine lv_icmp_ne (tgt := 0) hx hb dX12_settles_60 (by decide) (fun c => absurd (by decide) c) (fun _ => ?_)
          replace hM := hM.neg (by decide)
          refine lv_aload_n hx hb dX12_settles_63 rfl (lv_at hl 0 rfl) ?_
          refine lv_dup hx hb dX12_settles_64 rfl ?_
          refine tk_geti hC hK hw hT hinX12 kM_at0 (by decide) rfl 19 (by decide) (List.mem_cons_of_mem _ uw_23_14) rfl rfl dX12_settles_65 (fun x80 c81 rx80 tx80 => ?_)
          refine wk_top f0_0_19 (c81.symm.trans c71) ?_
          replace hM := hM.rd (sI_at c71)
          refine lv_iconst (v := 1) hx hb dX12_settles_68 (by decide) ?_
          refine lv_isub hx hb dX12_settles_69 ?_
          refine lv_topi (fun x82 ex82 => ?_)
          have ezx82 := ex82
          have ex82 : x82.toInt = f0_0_19.toInt - (1 : Int) := by rw [ex82]; exact wk_sub (show (-2147483648) ≤ f0_0_19.toInt - (1 : Int) by omega) (show f0_0_19.toInt - (1 : Int) ≤ 2147483647 by omega)
          replace hM := hM.lt ex82.symm
          refine tk_puti hC hK hw hT hinX12 tyX12_ok nmX12 kM_at0 (by decide) rfl rfl 19 (by decide) (List.mem_cons_of_mem _ uw_23_14) rfl rfl rfl rfl (show (-100) ≤ x82.toInt by first | with_reducible assumption | omega) (show x82.toInt ≤ 10 by first | with_reducible assumption | omega) dX12_settles_70 (fun H locs w83 hw hT k85 c84 => ?_)
          replace hM := hM.wr (sI_up k85 c84)
          have gn86 : binN w83 (x41.toInt).toNat = binN w60 (x41.toInt).toNat := bin_F1 _ k85 (by decide)
          have hO := OKW_F1 k85 (by decide) (by decide) (by decide) (by decide) hO
          have hE9 := E9_F1 k85 (by decide) hE9
          have hF := hF.put kM_at0 (k := 19) (by decide) k85
          have c87 := k85.gi (Or.inr (by decide)) c69
          have c88 := k85.gi (Or.inr (by decide)) c70
          have c89 := k85.gi (Or.inl (tk_ne kM_at9 kM_at0 (by decide))) c72
          have c90 := k85.gi (Or.inr (by decide)) c73
          have c91 := k85.gi (Or.inl (tk_ne kM_at3 kM_at0 (by decide))) c75
          refine lv_goto (tgt := 0) hx hb dX12_settles_73 (by decide) ?_
          exact ih0 x82 x41 x74 H locs ls w83 (show 0 ≤ f0_.toInt from r2) (show f0_.toInt ≤ 5 from t3) (show 0 ≤ f1_.toInt from r5) (show f1_.toInt ≤ 60 from t6) (show (-60) ≤ x82.toInt by first | with_reducible assumption | omega) (show x82.toInt ≤ 10 by first | with_reducible assumption | omega) (show 0 ≤ x41.toInt by first | with_reducible assumption | omega) (show x41.toInt ≤ 390 by first | with_reducible assumption | omega) (show 0 ≤ x74.toInt by first | with_reducible assumption | omega) (show x74.toInt ≤ 390 by first | with_reducible assumption | omega) (show (binN w83 (x41.toInt).toNat : Int) = x41.toInt - x82.toInt by first | exact Int.le_antisymm (by omega) (by omega) | omega) (show x74.toInt + x41.toInt = f4_.toInt + f3_.toInt by first | exact Int.le_antisymm (by omega) (by omega) | omega) (show x41.toInt ≤ f3_.toInt by omega) (show x41.toInt + f2_.toInt ≤ f3_.toInt + x82.toInt by omega) (show x41.toInt ≤ x82.toInt + f1_.toInt by omega) (show x74.toInt ≤ 390 by first | with_reducible assumption | omega) (show x41.toInt ≤ 390 by first | with_reducible assumption | omega) (show -60 ≤ x82.toInt by first | with_reducible assumption | omega) (show brkN w0 (x41.toInt).toNat = brkN w0 (f3_.toInt).toNat from ((brk_step (by omega) (show f0_0_22.toInt = x41.toInt + 1 by first | exact Int.le_antisymm (by omega) (by omega) | omega) (show ¬ (gi w0 9 (x41.toInt).toNat).toInt = 91 by first | (rw [show (x41.toInt) = 1 * f0_0_22.toInt + -1 by omega, ← hF.gi kM_at9 rfl rfl, c89]; omega) | (rw [show (x41.toInt) = 1 * f0_0_22.toInt + -1 by omega, ← hF.gi kM_at9 rfl rfl, c89]; decide))).trans hcr0_8)) (show (x82.toInt - (-60)).toNat < n0 by first | exact tn_lt hm0 (by omega) (by omega) | omega) hw hT hF (OKW_cast hO (show (f0_0_22.toInt - f0_0_19.toInt + 1) = x41.toInt - x82.toInt + 1 by first | exact Int.le_antisymm (by omega) (by omega) | omega)) (E9_le hE9 (show x41.toInt ≤ _ by omega)) c87 c88 c84 c90 c91 hM (lv_sub hl [0, 1] rfl)
  have hM : TT (fun n => m_X12_settles n 0 3 (sI w0)) (fun n => j_X12_settles 0 n 0 [3] (sI w0)) := TT.rf
  exact L0 ((f2_.toInt - (-60)).toNat + 1) f2_ f3_ f4_ s.heap locs ls w0 (show 0 ≤ f0_.toInt from rf0_) (show f0_.toInt ≤ 5 from tf0_) (show 0 ≤ f1_.toInt from rf1_) (show f1_.toInt ≤ 60 from tf1_) (show (-60) ≤ f2_.toInt by first | with_reducible assumption | omega) (show f2_.toInt ≤ 10 from tf2_) (show 0 ≤ f3_.toInt from rf3_) (show f3_.toInt ≤ 390 from pr3_) (show 0 ≤ f4_.toInt from rf4_) (show f4_.toInt ≤ 390 from pr2_) (show (binN w0 (f3_.toInt).toNat : Int) = f3_.toInt - f2_.toInt by first | exact Int.le_antisymm (by omega) (by omega) | omega) (show f4_.toInt + f3_.toInt = f4_.toInt + f3_.toInt from rfl) (show f3_.toInt ≤ f3_.toInt from Int.le_refl _) (show f3_.toInt + f2_.toInt ≤ f3_.toInt + f2_.toInt from Int.le_refl _) (show f3_.toInt ≤ f2_.toInt + f1_.toInt from pr1_) (show f4_.toInt ≤ 390 from pr2_) (show f3_.toInt ≤ 390 from pr3_) (show -60 ≤ f2_.toInt by first | with_reducible assumption | omega) (show brkN w0 (f3_.toInt).toNat = brkN w0 (f3_.toInt).toNat from rfl) (Nat.lt_succ_self _) hw hT hF (OKW_cast hO (show f3_.toInt - f2_.toInt + 1 = f3_.toInt - f2_.toInt + 1 from rfl)) (E9_le hE9 (show f3_.toInt ≤ _ by omega)) cf0_ cf1_ cf2_ cf3_ cf4_ hM (lv_sub hl [0, 1] rfl)
abbrev Pz_X12_closes_1 (ad : Nat → Nat) (cy : Nat → ClassId) (B : Int) (qr : Nat) (s1 : Int)  (gT gb gd : Int) (w0 : va_W) : va_W → Prop := fun u => TW ksM ad cy B qr 12 u ∧ FE ksM [(12, 14, 14), (12, 19, 19), (12, 22, 22), (61, 0, 2400), (62, 0, 7)] w0 u ∧ Ev (fun n => m_X12_closes n 0 (sI w0)) (0, sI u) ∧ (((∃ y : Int32, gi u 0 1 = y ∧ 0 ≤ y.toInt ∧ y.toInt ≤ 400) ∧ (∃ y : Int32, gi u 0 17 = y ∧ 0 ≤ y.toInt ∧ y.toInt ≤ 5) ∧ (∃ y : Int32, gi u 0 19 = y ∧ (-60) ≤ y.toInt ∧ y.toInt ≤ 10) ∧ (∃ y : Int32, gi u 0 22 = y ∧ 0 ≤ y.toInt ∧ y.toInt ≤ 390) ∧ OKW u gT gb ((gi u 0 22).toInt - (gi u 0 19).toInt + 1) ∧ E9 u (gi u 0 22).toInt ∧ ((gi u 3 ((gi u 0 17).toInt).toNat).toInt + (gi u 0 22).toInt ≤ (gi w0 3 ((gi w0 0 17).toInt).toNat).toInt + (gi w0 0 22).toInt) ∧ ((gi u 0 22).toInt + (gi w0 0 19).toInt ≤ (gi w0 0 22).toInt + (gi u 0 19).toInt) ∧ ((gi u 0 22).toInt ≤ (gi u 0 19).toInt + (gi w0 0 18).toInt) ∧ ((gi u 0 22).toInt ≤ 390) ∧ ((gi u 3 ((gi u 0 17).toInt).toNat).toInt ≤ 390) ∧ ((binN u ((gi u 0 22).toInt).toNat : Int) = (gi u 0 22).toInt - (gi u 0 19).toInt)))
set_option maxHeartbeats 4000000 in
set_option maxRecDepth 100000 in
theorem kz_X12_closes_1 (l : Launch) (adK adV : Nat → Nat) (dC : Nat → ClassId) (dI : Nat → Nat → Nat) (cy : Nat → ClassId) (ad : Nat → Nat) (B : Int) (hB0 : 100000 ≤ B) (hB1 : B ≤ 1073741824) (qr : Nat) (s1 : Int)   (w0 : va_W) (sz : Nat) (hT : TW ksM ad cy B qr 12 w0) (f0_ : Int32) (cf0_ : gi w0 0 17 = f0_) (rf0_ : 0 ≤ f0_.toInt) (tf0_ : f0_.toInt ≤ 5) (f1_ : Int32) (cf1_ : gi w0 0 18 = f1_) (rf1_ : 0 ≤ f1_.toInt) (tf1_ : f1_.toInt ≤ 60) (f2_ : Int32) (cf2_ : gi w0 0 19 = f2_) (rf2_ : (-100) ≤ f2_.toInt) (tf2_ : f2_.toInt ≤ 10) (f3_ : Int32) (cf3_ : gi w0 0 22 = f3_) (rf3_ : 0 ≤ f3_.toInt) (tf3_ : f3_.toInt ≤ 400) (f4_ : Int32) (cf4_ : gi w0 3 (f0_.toInt).toNat = f4_) (rf4_ : 0 ≤ f4_.toInt) (tf4_ : f4_.toInt ≤ 400) (pr0_ : f4_.toInt + f3_.toInt ≤ 390) (pr1_ : f3_.toInt ≤ f2_.toInt + f1_.toInt) (pr2_ : f4_.toInt ≤ 390) (pr3_ : f3_.toInt ≤ 390) (pr4_ : (binN w0 (f3_.toInt).toNat : Int) = f3_.toInt - f2_.toInt) (gb gd : Int) (hO : OKW w0 f0_.toInt gb (f3_.toInt - f2_.toInt + 1)) (hE9 : E9 w0 (f3_.toInt)) : Met l yX12_closes (wu yX12_closes cX12_closes 1 none) ({ frames := 3, cells := 0, slots := 0, locals := 55 }) (va_Pc [.ref (ad 0)] (wpreS adK adV dC dI cy sz w0)) (va_Qv (Pz_X12_closes_1 ad cy B qr s1  f0_.toInt gb gd w0) (fun u : va_W => wpost dC dI cy (va_A w0 sz) u) (va_A w0 sz)) 0 0 (va_A w0 sz) := by
  refine Met.ofW (cc := cX12_closes) (maxL := 1) (ret := none) (by decide) rfl ?_
  intro p e s m args below meth c s₁ Bk hml hv
  obtain ⟨rfl, ⟨hsz, hP, hK, hD0⟩, hE, hSR⟩ := hv
  have hx := Bk.exec
  have hb := Bk.bytes
  have hr := Bk.returns
  have hlocks := Bk.notSynchronized
  have hC : CallFix p m c cX12_closes 1 s _ (wu yX12_closes cX12_closes 1 none) RX12 := ⟨hx, hb, hml, findClass_of_methodNamed Bk.named, atoms_spec (ws := (wu yX12_closes cX12_closes 1 none)) Bk.pre⟩
  subst hsz
  have hD := hD0.self (sz := s.heap.size)
  generalize hAe : va_A w0 s.heap.size = A at hD hE ⊢
  have hA : ∀ q : Nat, s.heap.size ≤ q → A q := fun q h => by rw [← hAe]; exact Or.inr h
  have hw : Wd dC dI A s.heap s.heap [] w0 := ⟨hP, hD, va_S.rf⟩
  have hF : FE ksM [(12, 14, 14), (12, 19, 19), (12, 22, 22), (61, 0, 2400), (62, 0, 7)] w0 w0 := FE.rf
  have hl := lv_entry ([.ref (ad 0)]) (n := 1) (Nat.le_of_ble_eq_true rfl)
  rw [lg_entry_eq]
  generalize (lg_sl ([.ref (ad 0)]) ++ List.replicate (1 - (lg_sl ([.ref (ad 0)])).length) Slot.unset).toArray = ls at hl ⊢
  have hl : lv_has ls 1 [(0, .ref (ad 0))] := hl
  generalize hloc : ([] : List Loc) = locs at hw ⊢
  have hinX12 : ∀ w ∈ u_ws RX12 TX12 42, w ∈ (wu yX12_closes cX12_closes 1 none) := fun _ h => List.mem_cons_of_mem _ (up_71 h)
  have J64 : ∀ (f64_0_1 : Int32) (f64_0_14 : Int32) (f64_0_19 : Int32) (f64_0_22 : Int32) (f64_3__f0__toInt_toNat : Int32) (H : Heap) (locs : List Loc) (ls : Array Slot) (w1 : va_W), 0 ≤ f64_0_1.toInt → f64_0_1.toInt ≤ 400 → 0 ≤ f64_0_14.toInt → f64_0_14.toInt ≤ 400 → 0 ≤ f0_.toInt → f0_.toInt ≤ 5 → 0 ≤ f1_.toInt → f1_.toInt ≤ 60 → (-60) ≤ f64_0_19.toInt → f64_0_19.toInt ≤ 10 → 0 ≤ f64_0_22.toInt → f64_0_22.toInt ≤ 390 → 0 ≤ f64_3__f0__toInt_toNat.toInt → f64_3__f0__toInt_toNat.toInt ≤ 390 → ((binN w1 (f64_0_22.toInt).toNat : Int) = f64_0_22.toInt - f64_0_19.toInt) → (f64_3__f0__toInt_toNat.toInt + f64_0_22.toInt ≤ f4_.toInt + f3_.toInt) → (f64_0_22.toInt + f2_.toInt ≤ f3_.toInt + f64_0_19.toInt) → (f64_0_22.toInt ≤ f64_0_19.toInt + f1_.toInt) → (f64_3__f0__toInt_toNat.toInt ≤ 390) → (f64_0_22.toInt ≤ 390) → (-60 ≤ f64_0_19.toInt) → Wd dC dI A s.heap H locs w1 → TW ksM ad cy B qr 12 w1 → FE ksM [(12, 14, 14), (12, 19, 19), (12, 22, 22), (61, 0, 2400), (62, 0, 7)] w0 w1 → OKW w1 f0_.toInt gb (f64_0_22.toInt - f64_0_19.toInt + 1) → E9 w1 (f64_0_22.toInt) → gi w1 0 1 = f64_0_1 → gi w1 0 14 = f64_0_14 → gi w1 0 17 = f0_ → gi w1 0 18 = f1_ → gi w1 0 19 = f64_0_19 → gi w1 0 22 = f64_0_22 → gi w1 3 (f0_.toInt).toNat = f64_3__f0__toInt_toNat → TT (fun n => m_X12_closes n 0 (sI w0)) (fun n => b_X12_closes_64 (j_X12_closes 0 n) n 0 (sI w1)) → lv_has ls 1 [(0, .ref (ad 0))] → W p l e ({ frames := 3, cells := 0, slots := 0, locals := 55 }) s m (List.toArray [.ref (ad 0)]) below meth c H locs 0 0 (MQ below (va_Qv (Pz_X12_closes_1 ad cy B qr s1  f0_.toInt gb gd w0) (fun u : va_W => wpost dC dI cy A u) A) (List.toArray [.ref (ad 0)]) s 0 0 A) (F0 m 64 ls []) := by
    intro f64_0_1 f64_0_14 f64_0_19 f64_0_22 f64_3__f0__toInt_toNat H locs ls w1 r2 t3 r5 t6 r8 t9 r11 t12 r14 t15 r17 t18 r20 t21 hcr64_0 hcr64_1 hcr64_2 hcr64_3 hcr64_4 hcr64_5 hcr64_6 hw hT hF hO hE9 c4 c7 c10 c13 c16 c19 c22 hM hl
    have gl23 := bin_le w1 (f64_0_22.toInt).toNat
    exact tk_vret hC hr hlocks hK ⟨hT, hF, hM.ret rfl, ⟨⟨f64_0_1, c4, (show 0 ≤ f64_0_1.toInt from r2), (show f64_0_1.toInt ≤ 400 from t3)⟩, ⟨f0_, c10, (show 0 ≤ f0_.toInt from r8), (show f0_.toInt ≤ 5 from t9)⟩, ⟨f64_0_19, c16, (show (-60) ≤ f64_0_19.toInt from r14), (show f64_0_19.toInt ≤ 10 from t15)⟩, ⟨f64_0_22, c19, (show 0 ≤ f64_0_22.toInt from r17), (show f64_0_22.toInt ≤ 390 from t18)⟩, (OKW_cast hO (by simp only [c16, c19] <;> omega)), (E9_le hE9 (by simp only [c19] <;> omega)), (by simp only [c10, cf0_, cf4_, c22, cf3_, c19]; omega), (by simp only [c10, cf0_, cf2_, c16, cf3_, c19]; omega), (by simp only [c10, cf0_, c16, cf1_, c19]; omega), (by simp only [c10, cf0_, c19]; omega), (by simp only [c10, cf0_, c22]; omega), (by simp only [c10, cf0_, c16, c19]; omega)⟩⟩ hw dX12_closes_64
  have L5 : ∀ (n5 : Nat) (f5_0_19 : Int32) (f5_0_22 : Int32) (f5_3__f0__toInt_toNat : Int32) (H : Heap) (locs : List Loc) (ls : Array Slot) (w24 : va_W), 0 ≤ f0_.toInt → f0_.toInt ≤ 5 → 0 ≤ f1_.toInt → f1_.toInt ≤ 60 → (-60) ≤ f5_0_19.toInt → f5_0_19.toInt ≤ 10 → 0 ≤ f5_0_22.toInt → f5_0_22.toInt ≤ 390 → 0 ≤ f5_3__f0__toInt_toNat.toInt → f5_3__f0__toInt_toNat.toInt ≤ 390 → ((binN w24 (f5_0_22.toInt).toNat : Int) = f5_0_22.toInt - f5_0_19.toInt) → (f5_3__f0__toInt_toNat.toInt + f5_0_22.toInt ≤ f4_.toInt + f3_.toInt) → (f5_0_22.toInt + f2_.toInt ≤ f3_.toInt + f5_0_19.toInt) → (f5_0_22.toInt ≤ f5_0_19.toInt + f1_.toInt) → (f5_3__f0__toInt_toNat.toInt ≤ 390) → (f5_0_22.toInt ≤ 390) → (-60 ≤ f5_0_19.toInt) → (f5_0_22.toInt - 0).toNat < n5 → Wd dC dI A s.heap H locs w24 → TW ksM ad cy B qr 12 w24 → FE ksM [(12, 14, 14), (12, 19, 19), (12, 22, 22), (61, 0, 2400), (62, 0, 7)] w0 w24 → OKW w24 f0_.toInt gb (f5_0_22.toInt - f5_0_19.toInt + 1) → E9 w24 (f5_0_22.toInt) → gi w24 0 17 = f0_ → gi w24 0 18 = f1_ → gi w24 0 19 = f5_0_19 → gi w24 0 22 = f5_0_22 → gi w24 3 (f0_.toInt).toNat = f5_3__f0__toInt_toNat → TT (fun n => m_X12_closes n 0 (sI w0)) (fun n => j_X12_closes 0 n 5 [] (sI w24)) → lv_has ls 1 [(0, .ref (ad 0))] → W p l e ({ frames := 3, cells := 0, slots := 0, locals := 55 }) s m (List.toArray [.ref (ad 0)]) below meth c H locs 0 0 (MQ below (va_Qv (Pz_X12_closes_1 ad cy B qr s1  f0_.toInt gb gd w0) (fun u : va_W => wpost dC dI cy A u) A) (List.toArray [.ref (ad 0)]) s 0 0 A) (F0 m 5 ls []) := by
    intro n5
    induction n5 with
    | zero => intro f5_0_19 f5_0_22 f5_3__f0__toInt_toNat H locs ls w24 r25 t26 r28 t29 r31 t32 r34 t35 r37 t38 hcr5_0 hcr5_1 hcr5_2 hcr5_3 hcr5_4 hcr5_5 hcr5_6 hm5 hw hT hF hO hE9 c27 c30 c33 c36 c39 hM hl; omega
    | succ n5 ih5 =>
      intro f5_0_19 f5_0_22 f5_3__f0__toInt_toNat H locs ls w24 r25 t26 r28 t29 r31 t32 r34 t35 r37 t38 hcr5_0 hcr5_1 hcr5_2 hcr5_3 hcr5_4 hcr5_5 hcr5_6 hm5 hw hT hF hO hE9 c27 c30 c33 c36 c39 hM hl
      replace hM := hM.suc (fun _ => e_X12_closes_5)
      have gl40 := bin_le w24 (f5_0_22.toInt).toNat
      refine lv_aload_n hx hb dX12_closes_5 rfl (lv_at hl 0 rfl) ?_
      obtain ⟨x41, c42, rx41, tx41⟩ := hT.rdi (lo := 0) (hi := 400) (k := 14) kM_at0 (by decide) rfl
      refine tk_Vi hC hK hw hT hA hE hSR kM_at0 (by decide) rfl (kz_X12_see_1 l adK adV dC dI cy ad B hB0 (Int.le_trans hB1 (by decide)) qr s1    w24 H.size hT x41 c42 (show 0 ≤ x41.toInt by first | with_reducible assumption | omega) (show x41.toInt ≤ 400 by first | with_reducible assumption | omega)) (cwV 0 hC.2.2.2.2 uV_RX12_97 rfl rfl rfl (by decide +kernel) ⟨Nat.le_of_ble_eq_true rfl, Nat.le_of_ble_eq_true rfl⟩) rfl hl.1 rfl (Nat.le_of_ble_eq_true rfl) dX12_closes_6 (fun r43 w45 H locs hp44 hw => ?_)
      obtain ⟨hT, k46, hv64, hg63⟩ := hp44
      have hO := OKW_FE k46 (fun _ => rfl) (fun _ => rfl) (fun _ => rfl) (fun _ => rfl) hO
      have hE9 := E9_FE k46 (fun _ => rfl) hE9
      have gn65 : binN w45 (f5_0_22.toInt).toNat = binN w24 (f5_0_22.toInt).toNat := bin_FE _ k46 (fun _ => rfl)
      have hF := hF.tr k46 (by decide)
      have c66 := k46.gi kM_at0 (by decide) c27
      have c67 := k46.gi kM_at0 (by decide) c30
      have c68 := k46.gi kM_at0 (by decide) c33
      have c69 := k46.gi kM_at0 (by decide) c36
      have c70 := k46.gi kM_at3 rfl c39
      rcases hg63 with ⟨g47, g48, ⟨x49, c50, rx49, tx49⟩, ⟨x51, c52, rx51, tx51⟩, g53, g54⟩ | ⟨rfl, ⟨x55, c56, rx55, tx55⟩, ⟨x57, c58, rx57, tx57⟩, g59⟩ | ⟨rfl, ⟨x60, c61, rx60, tx60⟩, g62⟩
      · replace hM := hM.call hv64 rfl
        have g53 : (gi w45 1 (x51.toInt).toNat).toInt ≠ 32 := by have q := g53; simp only [c27, c66, c52] at q; first | with_reducible exact q | omega
        have g54 : (x51.toInt = x41.toInt ∨ (gi w24 1 (x41.toInt).toNat).toInt = 32) := by have q := g54; simp only [c27, c66, c42, c52] at q; first | with_reducible exact q | omega
        refine lv_bipush (v := 93) hx hb dX12_closes_9 (by decide) ?_
        refine lv_icmp_ne (tgt := 64) hx hb dX12_closes_11 (by decide) (fun c73 => ?_) (fun c73 => ?_)
        · have c73 : ¬ r43.toInt = (93 : Int) := wk_eqF c73
          replace hM := hM.pos c73
          exact J64 x49 x51 f5_0_19 f5_0_22 f5_3__f0__toInt_toNat H locs ls w45 (show 0 ≤ x49.toInt by first | with_reducible assumption | omega) (show x49.toInt ≤ 400 by first | with_reducible assumption | omega) (show 0 ≤ x51.toInt by first | with_reducible assumption | omega) (show x51.toInt ≤ 400 by first | with_reducible assumption | omega) (show 0 ≤ f0_.toInt from r25) (show f0_.toInt ≤ 5 from t26) (show 0 ≤ f1_.toInt from r28) (show f1_.toInt ≤ 60 from t29) (show (-60) ≤ f5_0_19.toInt from r31) (show f5_0_19.toInt ≤ 10 from t32) (show 0 ≤ f5_0_22.toInt from r34) (show f5_0_22.toInt ≤ 390 from t35) (show 0 ≤ f5_3__f0__toInt_toNat.toInt from r37) (show f5_3__f0__toInt_toNat.toInt ≤ 390 from t38) (show (binN w45 (f5_0_22.toInt).toNat : Int) = f5_0_22.toInt - f5_0_19.toInt by first | exact Int.le_antisymm (by omega) (by omega) | omega) (show f5_3__f0__toInt_toNat.toInt + f5_0_22.toInt ≤ f4_.toInt + f3_.toInt by omega) (show f5_0_22.toInt + f2_.toInt ≤ f3_.toInt + f5_0_19.toInt by omega) (show f5_0_22.toInt ≤ f5_0_19.toInt + f1_.toInt by omega) (show f5_3__f0__toInt_toNat.toInt ≤ 390 from t38) (show f5_0_22.toInt ≤ 390 from t35) (show -60 ≤ f5_0_19.toInt from r31)  hw hT hF (OKW_cast hO (show f5_0_22.toInt - f5_0_19.toInt + 1 = f5_0_22.toInt - f5_0_19.toInt + 1 from rfl)) (E9_le hE9 (show f5_0_22.toInt ≤ _ by omega)) c50 c52 c66 c67 c68 c69 c70 hM (lv_sub hl [0] rfl)
        · have c73 : r43.toInt = (93 : Int) := wk_eq.mp c73
          replace hM := hM.neg (fun q => q c73)
          refine lv_aload_n hx hb dX12_closes_14 rfl (lv_at hl 0 rfl) ?_
          refine tk_Vi hC hK hw hT hA hE hSR kM_at0 (by decide) rfl (kz_X12_isInside_1 l adK adV dC dI cy ad B hB0 (Int.le_trans hB1 (by decide)) qr s1    w45 H.size hT ) (cwV 0 hC.2.2.2.2 uV_RX12_197 rfl rfl rfl (by decide +kernel) ⟨Nat.le_of_ble_eq_true rfl, Nat.le_of_ble_eq_true rfl⟩) rfl hl.1 rfl (Nat.le_of_ble_eq_true rfl) dX12_closes_15 (fun r74 w76 H locs hp75 hw => ?_)
          obtain ⟨rfl, hv83, hg82⟩ := hp75
          rcases hg82 with ⟨rfl, hq78⟩ | ⟨rfl, ⟨x79, c80, rx79, tx79⟩, hq81⟩
          · replace hM := hM.call (r' := 0) hv83 (by decide)
            refine lv_if_eq (tgt := 64) hx hb dX12_closes_18 (by decide) (fun _ => ?_) (fun c => absurd (by decide) c)
            replace hM := hM.pos (by decide)
            exact J64 x49 x51 f5_0_19 f5_0_22 f5_3__f0__toInt_toNat H locs ls w45 (show 0 ≤ x49.toInt by first | with_reducible assumption | omega) (show x49.toInt ≤ 400 by first | with_reducible assumption | omega) (show 0 ≤ x51.toInt by first | with_reducible assumption | omega) (show x51.toInt ≤ 400 by first | with_reducible assumption | omega) (show 0 ≤ f0_.toInt from r25) (show f0_.toInt ≤ 5 from t26) (show 0 ≤ f1_.toInt from r28) (show f1_.toInt ≤ 60 from t29) (show (-60) ≤ f5_0_19.toInt from r31) (show f5_0_19.toInt ≤ 10 from t32) (show 0 ≤ f5_0_22.toInt from r34) (show f5_0_22.toInt ≤ 390 from t35) (show 0 ≤ f5_3__f0__toInt_toNat.toInt from r37) (show f5_3__f0__toInt_toNat.toInt ≤ 390 from t38) (show (binN w45 (f5_0_22.toInt).toNat : Int) = f5_0_22.toInt - f5_0_19.toInt by first | exact Int.le_antisymm (by omega) (by omega) | omega) (show f5_3__f0__toInt_toNat.toInt + f5_0_22.toInt ≤ f4_.toInt + f3_.toInt by omega) (show f5_0_22.toInt + f2_.toInt ≤ f3_.toInt + f5_0_19.toInt by omega) (show f5_0_22.toInt ≤ f5_0_19.toInt + f1_.toInt by omega) (show f5_3__f0__toInt_toNat.toInt ≤ 390 from t38) (show f5_0_22.toInt ≤ 390 from t35) (show -60 ≤ f5_0_19.toInt from r31)  hw hT hF (OKW_cast hO (show f5_0_22.toInt - f5_0_19.toInt + 1 = f5_0_22.toInt - f5_0_19.toInt + 1 from rfl)) (E9_le hE9 (show f5_0_22.toInt ≤ _ by omega)) c50 c52 c66 c67 c68 c69 c70 hM (lv_sub hl [0] rfl)
          · replace hM := hM.call (r' := 1) hv83 (by decide)
            have ex79 : x79.toInt = f5_0_22.toInt := by rw [← c69.symm.trans c80]
            refine lv_if_eq (tgt := 64) hx hb dX12_closes_18 (by decide) (fun c => absurd c (by decide)) (fun _ => ?_)
            replace hM := hM.neg (by decide)
            refine lv_aload_n hx hb dX12_closes_21 rfl (lv_at hl 0 rfl) ?_
            refine lv_iconst (v := 1) hx hb dX12_closes_22 (by decide) ?_
            refine tk_Vv hC hK hw hT hA hE hSR kM_at0 (by decide) rfl (kz_X12_settles_1 l adK adV dC dI cy ad B hB0 (Int.le_trans hB1 (by decide)) qr s1    w45 H.size hT f0_ c66 (show 0 ≤ f0_.toInt from r25) (show f0_.toInt ≤ 5 from t26) f1_ c67 (show 0 ≤ f1_.toInt from r28) (show f1_.toInt ≤ 60 from t29) f5_0_19 c68 (show (-100) ≤ f5_0_19.toInt from Int.le_trans (by decide) r31) (show f5_0_19.toInt ≤ 10 from t32) f5_0_22 c69 (show 0 ≤ f5_0_22.toInt from r34) (show f5_0_22.toInt ≤ 400 from Int.le_trans t35 (by decide)) f5_3__f0__toInt_toNat c70 (show 0 ≤ f5_3__f0__toInt_toNat.toInt from r37) (show f5_3__f0__toInt_toNat.toInt ≤ 400 from Int.le_trans t38 (by decide)) (show f5_3__f0__toInt_toNat.toInt + f5_0_22.toInt ≤ 390 by omega) (show f5_0_22.toInt ≤ f5_0_19.toInt + f1_.toInt by omega) (show f5_3__f0__toInt_toNat.toInt ≤ 390 from t38) (show f5_0_22.toInt ≤ 390 from t35) (show (binN w45 (f5_0_22.toInt).toNat : Int) = f5_0_22.toInt - f5_0_19.toInt by first | exact Int.le_antisymm (by omega) (by omega) | omega) gb (f5_0_22.toInt - f5_0_19.toInt + 1) (OKW_cast hO (show f5_0_22.toInt - f5_0_19.toInt + 1 = f5_0_22.toInt - f5_0_19.toInt + 1 from rfl)) (E9_le hE9 (show f5_0_22.toInt ≤ _ by omega))) (cwV 1 hC.2.2.2.2 uV_RX12_194 rfl rfl rfl (by decide +kernel) ⟨Nat.le_of_ble_eq_true rfl, Nat.le_of_ble_eq_true rfl⟩) rfl hl.1 rfl (Nat.le_of_ble_eq_true rfl) dX12_closes_23 (fun w86 H locs hp85 hw => ?_)
            obtain ⟨hT, k87, hv106, hg105⟩ := hp85
            have gn107 : binN w86 (f5_0_22.toInt).toNat = binN w45 (f5_0_22.toInt).toNat := bin_FE _ k87 (fun _ => rfl)
            have hF := hF.tr k87 (by decide)
            have c108 := k87.gi kM_at0 (by decide) c66
            have c109 := k87.gi kM_at0 (by decide) c67
            have c110 := k87.gi kM_at0 (by decide) c50
            have c111 := k87.gi kM_at0 (by decide) c52
            obtain ⟨⟨x88, c89, rx88, tx88⟩, ⟨x90, c91, rx90, tx90⟩, ⟨x92, c93, rx92, tx92⟩, hq94, hq95, hq96, g97, g98, g99, g100, g101, g102, g103, g104⟩ := hg105
            replace hM := hM.call hv106 rfl
            have ex88 : x88.toInt = f0_.toInt := by rw [← c108.symm.trans c89]
            obtain ⟨x112, c113, rx112, tx112⟩ := hT.rda (lo := 0) (hi := 400) (i := (f0_.toInt).toNat) kM_at3 rfl rfl (by omega)
            have g97 : x112.toInt + x92.toInt = f5_3__f0__toInt_toNat.toInt + f5_0_22.toInt := by have q := g97; simp only [c66, c108, c70, c113, c69, c93] at q; first | with_reducible exact q | omega
            have g98 : x92.toInt ≤ f5_0_22.toInt := by have q := g98; simp only [c66, c108, c69, c93] at q; first | with_reducible exact q | omega
            have g99 : x92.toInt + f5_0_19.toInt ≤ f5_0_22.toInt + x90.toInt := by have q := g99; simp only [c66, c108, c68, c91, c69, c93] at q; first | with_reducible exact q | omega
            have g100 : x92.toInt ≤ x90.toInt + f1_.toInt := by have q := g100; simp only [c66, c108, c91, c67, c93] at q; first | with_reducible exact q | omega
            have g101 : x92.toInt ≤ 390 := by have q := g101; simp only [c66, c108, c93] at q; first | with_reducible exact q | omega
            have g102 : x112.toInt ≤ 390 := by have q := g102; simp only [c66, c108, c113] at q; first | with_reducible exact q | omega
            have g103 : brkN w45 (x92.toInt).toNat = brkN w45 (f5_0_22.toInt).toNat := by have q := g103; simp only [c66, c108, c69, c93] at q; first | with_reducible exact q | omega
            have g104 : (binN w86 (x92.toInt).toNat : Int) = x92.toInt - x90.toInt := by have q := g104; simp only [c66, c108, c91, c93] at q; first | with_reducible exact q | omega
            have hO : OKW w86 f0_.toInt gb (x92.toInt - x90.toInt + 1) := by have q := hq95; simp only [c91, c93] at q; exact OKW_cast q (by omega)
            have hE9 : E9 w86 (x92.toInt) := by have q := hq96; simp only [c93] at q; exact q
            have hbl := brk_le w45 (x92.toInt).toNat
            have hbi := hq81
            rw [c69] at hbi
            have hsp114 := hq94
            rw [c93] at hsp114
            have g115 : 1 ≤ x92.toInt := by omega
            refine lv_aload_n hx hb dX12_closes_26 rfl (lv_at hl 0 rfl) ?_
            refine lv_dup hx hb dX12_closes_27 rfl ?_
            refine tk_geti hC hK hw hT hinX12 kM_at0 (by decide) rfl 22 (by decide) (List.mem_cons_of_mem _ uw_23_13) rfl rfl dX12_closes_28 (fun x116 c117 rx116 tx116 => ?_)
            refine wk_top x92 (c117.symm.trans c93) ?_
            replace hM := hM.rd (sI_at c93)
            refine lv_iconst (v := 1) hx hb dX12_closes_31 (by decide) ?_
            refine lv_isub hx hb dX12_closes_32 ?_
            refine lv_topi (fun x118 ex118 => ?_)
            have ezx118 := ex118
            have ex118 : x118.toInt = x92.toInt - (1 : Int) := by rw [ex118]; exact wk_sub (show (-2147483648) ≤ x92.toInt - (1 : Int) by omega) (show x92.toInt - (1 : Int) ≤ 2147483647 by omega)
            replace hM := hM.lt ex118.symm
            refine tk_puti hC hK hw hT hinX12 tyX12_ok nmX12 kM_at0 (by decide) rfl rfl 22 (by decide) (List.mem_cons_of_mem _ uw_23_13) rfl rfl rfl rfl (show 0 ≤ x118.toInt by first | with_reducible assumption | omega) (show x118.toInt ≤ 400 by first | with_reducible assumption | omega) dX12_closes_33 (fun H locs w119 hw hT k121 c120 => ?_)
            replace hM := hM.wr (sI_up k121 c120)
            have gn122 : binN w119 (x92.toInt).toNat = binN w86 (x92.toInt).toNat := bin_F1 _ k121 (by decide)
            have gn123 : binN w119 (x118.toInt).toNat = binN w86 (x118.toInt).toNat := bin_F1 _ k121 (by decide)
            have gt124 := bin_top (w := w86) (a := x92.toInt) (b := x118.toInt) (by omega) (by omega)
            have gx125 := hsp114
            rw [show (x92.toInt - 1) = x118.toInt by omega] at gx125
            have hO := OKW_F1 k121 (by decide) (by decide) (by decide) (by decide) hO
            have hE9 := E9_F1 k121 (by decide) hE9
            have hF := hF.put kM_at0 (k := 22) (by decide) k121
            have c126 := k121.gi (Or.inr (by decide)) c108
            have c127 := k121.gi (Or.inr (by decide)) c109
            have c128 := k121.gi (Or.inr (by decide)) c110
            have c129 := k121.gi (Or.inr (by decide)) c111
            have c130 := k121.gi (Or.inr (by decide)) c91
            have c131 := k121.gi (Or.inl (tk_ne kM_at3 kM_at0 (by decide))) c113
            refine lv_aload_n hx hb dX12_closes_36 rfl (lv_at hl 0 rfl) ?_
            refine lv_dup hx hb dX12_closes_37 rfl ?_
            refine tk_geti hC hK hw hT hinX12 kM_at0 (by decide) rfl 19 (by decide) (List.mem_cons_of_mem _ uw_23_14) rfl rfl dX12_closes_38 (fun x132 c133 rx132 tx132 => ?_)
            refine wk_top x90 (c133.symm.trans c130) ?_
            replace hM := hM.rd (sI_at c130)
            refine lv_iconst (v := 1) hx hb dX12_closes_41 (by decide) ?_
            refine lv_isub hx hb dX12_closes_42 ?_
            refine lv_topi (fun x134 ex134 => ?_)
            have ezx134 := ex134
            have ex134 : x134.toInt = x90.toInt - (1 : Int) := by rw [ex134]; exact wk_sub (show (-2147483648) ≤ x90.toInt - (1 : Int) by omega) (show x90.toInt - (1 : Int) ≤ 2147483647 by omega)
            replace hM := hM.lt ex134.symm
            refine tk_puti hC hK hw hT hinX12 tyX12_ok nmX12 kM_at0 (by decide) rfl rfl 19 (by decide) (List.mem_cons_of_mem _ uw_23_14) rfl rfl rfl rfl (show (-100) ≤ x134.toInt by first | with_reducible assumption | omega) (show x134.toInt ≤ 10 by first | with_reducible assumption | omega) dX12_closes_43 (fun H locs w135 hw hT k137 c136 => ?_)
            replace hM := hM.wr (sI_up k137 c136)
            have gn138 : binN w135 (x118.toInt).toNat = binN w119 (x118.toInt).toNat := bin_F1 _ k137 (by decide)
            have hO := OKW_F1 k137 (by decide) (by decide) (by decide) (by decide) hO
            have hE9 := E9_F1 k137 (by decide) hE9
            have hF := hF.put kM_at0 (k := 19) (by decide) k137
            have c139 := k137.gi (Or.inr (by decide)) c126
            have c140 := k137.gi (Or.inr (by decide)) c127
            have c141 := k137.gi (Or.inr (by decide)) c128
            have c142 := k137.gi (Or.inr (by decide)) c129
            have c143 := k137.gi (Or.inl (tk_ne kM_at3 kM_at0 (by decide))) c131
            have c144 := k137.gi (Or.inr (by decide)) c120
            refine lv_aload_n hx hb dX12_closes_46 rfl (lv_at hl 0 rfl) ?_
            refine lv_dup hx hb dX12_closes_47 rfl ?_
            refine tk_geti hC hK hw hT hinX12 kM_at0 (by decide) rfl 14 (by decide) (List.mem_cons_of_mem _ uw_19_18) rfl rfl dX12_closes_48 (fun x145 c146 rx145 tx145 => ?_)
            refine wk_top x51 (c146.symm.trans c142) ?_
            replace hM := hM.rd (sI_at c142)
            refine lv_iconst (v := 1) hx hb dX12_closes_51 (by decide) ?_
            refine lv_iadd hx hb dX12_closes_52 ?_
            refine lv_topi (fun x147 ex147 => ?_)
            have ezx147 := ex147
            have ex147 : x147.toInt = x51.toInt + (1 : Int) := by rw [ex147]; exact wk_add (show (-2147483648) ≤ x51.toInt + (1 : Int) by omega) (show x51.toInt + (1 : Int) ≤ 2147483647 by omega)
            replace hM := hM.lt ex147.symm
            refine tk_puti hC hK hw hT hinX12 tyX12_ok nmX12 kM_at0 (by decide) rfl rfl 14 (by decide) (List.mem_cons_of_mem _ uw_19_18) rfl rfl rfl rfl (show 0 ≤ x147.toInt by first | with_reducible assumption | omega) (show x147.toInt ≤ 400 by first | with_reducible assumption | omega) dX12_closes_53 (fun H locs w148 hw hT k150 c149 => ?_)
            replace hM := hM.wr (sI_up k150 c149)
            have gn151 : binN w148 (x118.toInt).toNat = binN w135 (x118.toInt).toNat := bin_F1 _ k150 (by decide)
            have hO := OKW_F1 k150 (by decide) (by decide) (by decide) (by decide) hO
            have hE9 := E9_F1 k150 (by decide) hE9
            have hF := hF.put kM_at0 (k := 14) (by decide) k150
            have c152 := k150.gi (Or.inr (by decide)) c139
            have c153 := k150.gi (Or.inr (by decide)) c140
            have c154 := k150.gi (Or.inr (by decide)) c141
            have c155 := k150.gi (Or.inl (tk_ne kM_at3 kM_at0 (by decide))) c143
            have c156 := k150.gi (Or.inr (by decide)) c144
            have c157 := k150.gi (Or.inr (by decide)) c136
            refine lv_aload_n hx hb dX12_closes_56 rfl (lv_at hl 0 rfl) ?_
            refine lv_iconst (v := 3) hx hb dX12_closes_57 (by decide) ?_
            refine tk_Vv hC hK hw hT hA hE hSR kM_at0 (by decide) rfl (kz_X12_settles_3 l adK adV dC dI cy ad B hB0 (Int.le_trans hB1 (by decide)) qr s1    w148 H.size hT f0_ c152 (show 0 ≤ f0_.toInt from r25) (show f0_.toInt ≤ 5 from t26) f1_ c153 (show 0 ≤ f1_.toInt from r28) (show f1_.toInt ≤ 60 from t29) x134 c157 (show (-100) ≤ x134.toInt by first | with_reducible assumption | omega) (show x134.toInt ≤ 10 by first | with_reducible assumption | omega) x118 c156 (show 0 ≤ x118.toInt by first | with_reducible assumption | omega) (show x118.toInt ≤ 400 by first | with_reducible assumption | omega) x112 c155 (show 0 ≤ x112.toInt by first | with_reducible assumption | omega) (show x112.toInt ≤ 400 from Int.le_trans g102 (by decide)) (show x112.toInt + x118.toInt ≤ 390 by omega) (show x118.toInt ≤ x134.toInt + f1_.toInt by omega) (show x112.toInt ≤ 390 from g102) (show x118.toInt ≤ 390 by first | with_reducible assumption | omega) (show (binN w148 (x118.toInt).toNat : Int) = x118.toInt - x134.toInt by first | exact Int.le_antisymm (by omega) (by omega) | omega) gb (x92.toInt - x90.toInt + 1) (OKW_cast hO (show x92.toInt - x90.toInt + 1 = x118.toInt - x134.toInt + 1 by first | exact Int.le_antisymm (by omega) (by omega) | omega)) (E9_le hE9 (show x118.toInt ≤ _ by omega))) (cwV 1 hC.2.2.2.2 uV_RX12_194 rfl rfl rfl (by decide +kernel) ⟨Nat.le_of_ble_eq_true rfl, Nat.le_of_ble_eq_true rfl⟩) rfl hl.1 rfl (Nat.le_of_ble_eq_true rfl) dX12_closes_58 (fun w160 H locs hp159 hw => ?_)
            obtain ⟨hT, k161, hv179, hg178⟩ := hp159
            have gn180 : binN w160 (x118.toInt).toNat = binN w148 (x118.toInt).toNat := bin_FE _ k161 (fun _ => rfl)
            have hF := hF.tr k161 (by decide)
            have c181 := k161.gi kM_at0 (by decide) c152
            have c182 := k161.gi kM_at0 (by decide) c153
            have c183 := k161.gi kM_at0 (by decide) c154
            have c184 := k161.gi kM_at0 (by decide) c149
            obtain ⟨⟨x162, c163, rx162, tx162⟩, ⟨x164, c165, rx164, tx164⟩, ⟨x166, c167, rx166, tx166⟩, hq168, hq169, g170, g171, g172, g173, g174, g175, g176, g177⟩ := hg178
            replace hM := hM.call hv179 rfl
            have ex162 : x162.toInt = f0_.toInt := by rw [← c181.symm.trans c163]
            obtain ⟨x185, c186, rx185, tx185⟩ := hT.rda (lo := 0) (hi := 400) (i := (f0_.toInt).toNat) kM_at3 rfl rfl (by omega)
            have g170 : x185.toInt + x166.toInt = x112.toInt + x118.toInt := by have q := g170; simp only [c152, c181, c155, c186, c156, c167] at q; first | with_reducible exact q | omega
            have g171 : x166.toInt ≤ x118.toInt := by have q := g171; simp only [c152, c181, c156, c167] at q; first | with_reducible exact q | omega
            have g172 : x166.toInt + x134.toInt ≤ x118.toInt + x164.toInt := by have q := g172; simp only [c152, c181, c157, c165, c156, c167] at q; first | with_reducible exact q | omega
            have g173 : x166.toInt ≤ x164.toInt + f1_.toInt := by have q := g173; simp only [c152, c181, c165, c153, c167] at q; first | with_reducible exact q | omega
            have g174 : x166.toInt ≤ 390 := by have q := g174; simp only [c152, c181, c167] at q; first | with_reducible exact q | omega
            have g175 : x185.toInt ≤ 390 := by have q := g175; simp only [c152, c181, c186] at q; first | with_reducible exact q | omega
            have g176 : brkN w148 (x166.toInt).toNat = brkN w148 (x118.toInt).toNat := by have q := g176; simp only [c152, c181, c156, c167] at q; first | with_reducible exact q | omega
            have g177 : (binN w160 (x166.toInt).toNat : Int) = x166.toInt - x164.toInt := by have q := g177; simp only [c152, c181, c165, c167] at q; first | with_reducible exact q | omega
            have hO : OKW w160 f0_.toInt gb (x166.toInt - x164.toInt + 1) := by have q := hq168; simp only [c165, c167] at q; exact OKW_cast q (by omega)
            have hE9 : E9 w160 (x166.toInt) := by have q := hq169; simp only [c167] at q; exact q
            refine lv_goto (tgt := 5) hx hb dX12_closes_61 (by decide) ?_
            exact ih5 x164 x166 x185 H locs ls w160 (show 0 ≤ f0_.toInt from r25) (show f0_.toInt ≤ 5 from t26) (show 0 ≤ f1_.toInt from r28) (show f1_.toInt ≤ 60 from t29) (show (-60) ≤ x164.toInt by first | with_reducible assumption | omega) (show x164.toInt ≤ 10 by first | with_reducible assumption | omega) (show 0 ≤ x166.toInt by first | with_reducible assumption | omega) (show x166.toInt ≤ 390 from g174) (show 0 ≤ x185.toInt by first | with_reducible assumption | omega) (show x185.toInt ≤ 390 from g175) (show (binN w160 (x166.toInt).toNat : Int) = x166.toInt - x164.toInt by first | exact Int.le_antisymm (by omega) (by omega) | omega) (show x185.toInt + x166.toInt ≤ f4_.toInt + f3_.toInt by omega) (show x166.toInt + f2_.toInt ≤ f3_.toInt + x164.toInt by omega) (show x166.toInt ≤ x164.toInt + f1_.toInt from g173) (show x185.toInt ≤ 390 from g175) (show x166.toInt ≤ 390 from g174) (show -60 ≤ x164.toInt by first | with_reducible assumption | omega) (show (x166.toInt - 0).toNat < n5 by first | exact tn_lt hm5 (by omega) (by omega) | omega) hw hT hF (OKW_cast hO (show x166.toInt - x164.toInt + 1 = x166.toInt - x164.toInt + 1 from rfl)) (E9_le hE9 (show x166.toInt ≤ _ by omega)) c181 c182 c165 c167 c186 hM (lv_sub hl [0] rfl)
      · replace hM := hM.call (r' := (-1)) hv64 (by decide)
        have g59 : (x57.toInt = x41.toInt ∨ (gi w24 1 (x41.toInt).toNat).toInt = 32) := by have q := g59; simp only [c27, c66, c42, c58] at q; first | with_reducible exact q | omega
        refine lv_bipush (v := 93) hx hb dX12_closes_9 (by decide) ?_
        refine lv_icmp_ne (tgt := 64) hx hb dX12_closes_11 (by decide) (fun _ => ?_) (fun c => absurd c (by decide))
        replace hM := hM.pos (by decide)
        exact J64 x55 x57 f5_0_19 f5_0_22 f5_3__f0__toInt_toNat H locs ls w45 (show 0 ≤ x55.toInt by first | with_reducible assumption | omega) (show x55.toInt ≤ 400 by first | with_reducible assumption | omega) (show 0 ≤ x57.toInt by first | with_reducible assumption | omega) (show x57.toInt ≤ 400 by first | with_reducible assumption | omega) (show 0 ≤ f0_.toInt from r25) (show f0_.toInt ≤ 5 from t26) (show 0 ≤ f1_.toInt from r28) (show f1_.toInt ≤ 60 from t29) (show (-60) ≤ f5_0_19.toInt from r31) (show f5_0_19.toInt ≤ 10 from t32) (show 0 ≤ f5_0_22.toInt from r34) (show f5_0_22.toInt ≤ 390 from t35) (show 0 ≤ f5_3__f0__toInt_toNat.toInt from r37) (show f5_3__f0__toInt_toNat.toInt ≤ 390 from t38) (show (binN w45 (f5_0_22.toInt).toNat : Int) = f5_0_22.toInt - f5_0_19.toInt by first | exact Int.le_antisymm (by omega) (by omega) | omega) (show f5_3__f0__toInt_toNat.toInt + f5_0_22.toInt ≤ f4_.toInt + f3_.toInt by omega) (show f5_0_22.toInt + f2_.toInt ≤ f3_.toInt + f5_0_19.toInt by omega) (show f5_0_22.toInt ≤ f5_0_19.toInt + f1_.toInt by omega) (show f5_3__f0__toInt_toNat.toInt ≤ 390 from t38) (show f5_0_22.toInt ≤ 390 from t35) (show -60 ≤ f5_0_19.toInt from r31)  hw hT hF (OKW_cast hO (show f5_0_22.toInt - f5_0_19.toInt + 1 = f5_0_22.toInt - f5_0_19.toInt + 1 from rfl)) (E9_le hE9 (show f5_0_22.toInt ≤ _ by omega)) c56 c58 c66 c67 c68 c69 c70 hM (lv_sub hl [0] rfl)
      · replace hM := hM.call (r' := (-1)) hv64 (by decide)
        obtain ⟨x71, c72, rx71, tx71⟩ := hT.rdi (lo := 0) (hi := 400) (k := 14) kM_at0 (by decide) rfl
        have g62 : (x71.toInt = x41.toInt ∨ (gi w24 1 (x41.toInt).toNat).toInt = 32) := by have q := g62; simp only [c27, c66, c42, c72] at q; first | with_reducible exact q | omega
        refine lv_bipush (v := 93) hx hb dX12_closes_9 (by decide) ?_
        refine lv_icmp_ne (tgt := 64) hx hb dX12_closes_11 (by decide) (fun _ => ?_) (fun c => absurd c (by decide))
        replace hM := hM.pos (by decide)
        exact J64 x60 x71 f5_0_19 f5_0_22 f5_3__f0__toInt_toNat H locs ls w45 (show 0 ≤ x60.toInt by first | with_reducible assumption | omega) (show x60.toInt ≤ 400 by first | with_reducible assumption | omega) (show 0 ≤ x71.toInt by first | with_reducible assumption | omega) (show x71.toInt ≤ 400 by first | with_reducible assumption | omega) (show 0 ≤ f0_.toInt from r25) (show f0_.toInt ≤ 5 from t26) (show 0 ≤ f1_.toInt from r28) (show f1_.toInt ≤ 60 from t29) (show (-60) ≤ f5_0_19.toInt from r31) (show f5_0_19.toInt ≤ 10 from t32) (show 0 ≤ f5_0_22.toInt from r34) (show f5_0_22.toInt ≤ 390 from t35) (show 0 ≤ f5_3__f0__toInt_toNat.toInt from r37) (show f5_3__f0__toInt_toNat.toInt ≤ 390 from t38) (show (binN w45 (f5_0_22.toInt).toNat : Int) = f5_0_22.toInt - f5_0_19.toInt by first | exact Int.le_antisymm (by omega) (by omega) | omega) (show f5_3__f0__toInt_toNat.toInt + f5_0_22.toInt ≤ f4_.toInt + f3_.toInt by omega) (show f5_0_22.toInt + f2_.toInt ≤ f3_.toInt + f5_0_19.toInt by omega) (show f5_0_22.toInt ≤ f5_0_19.toInt + f1_.toInt by omega) (show f5_3__f0__toInt_toNat.toInt ≤ 390 from t38) (show f5_0_22.toInt ≤ 390 from t35) (show -60 ≤ f5_0_19.toInt from r31)  hw hT hF (OKW_cast hO (show f5_0_22.toInt - f5_0_19.toInt + 1 = f5_0_22.toInt - f5_0_19.toInt + 1 from rfl)) (E9_le hE9 (show f5_0_22.toInt ≤ _ by omega)) c61 c72 c66 c67 c68 c69 c70 hM (lv_sub hl [0] rfl)
  have hM : TT (fun n => m_X12_closes n 0 (sI w0)) (fun n => m_X12_closes n 0 (sI w0)) := TT.rf
  have gl187 := bin_le w0 (f3_.toInt).toNat
  refine lv_aload_n hx hb dX12_closes_0 rfl (lv_at hl 0 rfl) ?_
  refine lv_iconst (v := 3) hx hb dX12_closes_1 (by decide) ?_
  refine tk_Vv hC hK hw hT hA hE hSR kM_at0 (by decide) rfl (kz_X12_settles_3 l adK adV dC dI cy ad B hB0 (Int.le_trans hB1 (by decide)) qr s1    w0 s.heap.size hT f0_ cf0_ (show 0 ≤ f0_.toInt from rf0_) (show f0_.toInt ≤ 5 from tf0_) f1_ cf1_ (show 0 ≤ f1_.toInt from rf1_) (show f1_.toInt ≤ 60 from tf1_) f2_ cf2_ (show (-100) ≤ f2_.toInt from rf2_) (show f2_.toInt ≤ 10 from tf2_) f3_ cf3_ (show 0 ≤ f3_.toInt from rf3_) (show f3_.toInt ≤ 400 from tf3_) f4_ cf4_ (show 0 ≤ f4_.toInt from rf4_) (show f4_.toInt ≤ 400 from tf4_) (show f4_.toInt + f3_.toInt ≤ 390 from pr0_) (show f3_.toInt ≤ f2_.toInt + f1_.toInt from pr1_) (show f4_.toInt ≤ 390 from pr2_) (show f3_.toInt ≤ 390 from pr3_) (show (binN w0 (f3_.toInt).toNat : Int) = f3_.toInt - f2_.toInt by first | exact Int.le_antisymm (by omega) (by omega) | omega) gb (f3_.toInt - f2_.toInt + 1) (OKW_cast hO (show f3_.toInt - f2_.toInt + 1 = f3_.toInt - f2_.toInt + 1 from rfl)) (E9_le hE9 (show f3_.toInt ≤ _ by omega))) (cwV 1 hC.2.2.2.2 uV_RX12_194 rfl rfl rfl (by decide +kernel) ⟨Nat.le_of_ble_eq_true rfl, Nat.le_of_ble_eq_true rfl⟩) rfl hl.1 rfl (Nat.le_of_ble_eq_true rfl) dX12_closes_2 (fun w190 H locs hp189 hw => ?_)
  obtain ⟨hT, k191, hv209, hg208⟩ := hp189
  have gn210 : binN w190 (f3_.toInt).toNat = binN w0 (f3_.toInt).toNat := bin_FE _ k191 (fun _ => rfl)
  have hF := hF.tr k191 (by decide)
  have c211 := k191.gi kM_at0 (by decide) cf0_
  have c212 := k191.gi kM_at0 (by decide) cf1_
  obtain ⟨⟨x192, c193, rx192, tx192⟩, ⟨x194, c195, rx194, tx194⟩, ⟨x196, c197, rx196, tx196⟩, hq198, hq199, g200, g201, g202, g203, g204, g205, g206, g207⟩ := hg208
  replace hM := hM.call hv209 rfl
  have ex192 : x192.toInt = f0_.toInt := by rw [← c211.symm.trans c193]
  obtain ⟨x213, c214, rx213, tx213⟩ := hT.rda (lo := 0) (hi := 400) (i := (f0_.toInt).toNat) kM_at3 rfl rfl (by omega)
  have g200 : x213.toInt + x196.toInt = f4_.toInt + f3_.toInt := by have q := g200; simp only [cf0_, c211, cf4_, c214, cf3_, c197] at q; first | with_reducible exact q | omega
  have g201 : x196.toInt ≤ f3_.toInt := by have q := g201; simp only [cf0_, c211, cf3_, c197] at q; first | with_reducible exact q | omega
  have g202 : x196.toInt + f2_.toInt ≤ f3_.toInt + x194.toInt := by have q := g202; simp only [cf0_, c211, cf2_, c195, cf3_, c197] at q; first | with_reducible exact q | omega
  have g203 : x196.toInt ≤ x194.toInt + f1_.toInt := by have q := g203; simp only [cf0_, c211, c195, cf1_, c197] at q; first | with_reducible exact q | omega
  have g204 : x196.toInt ≤ 390 := by have q := g204; simp only [cf0_, c211, c197] at q; first | with_reducible exact q | omega
  have g205 : x213.toInt ≤ 390 := by have q := g205; simp only [cf0_, c211, c214] at q; first | with_reducible exact q | omega
  have g206 : brkN w0 (x196.toInt).toNat = brkN w0 (f3_.toInt).toNat := by have q := g206; simp only [cf0_, c211, cf3_, c197] at q; first | with_reducible exact q | omega
  have g207 : (binN w190 (x196.toInt).toNat : Int) = x196.toInt - x194.toInt := by have q := g207; simp only [cf0_, c211, c195, c197] at q; first | with_reducible exact q | omega
  have hO : OKW w190 f0_.toInt gb (x196.toInt - x194.toInt + 1) := by have q := hq198; simp only [c195, c197] at q; exact OKW_cast q (by omega)
  have hE9 : E9 w190 (x196.toInt) := by have q := hq199; simp only [c197] at q; exact q
  exact L5 ((x196.toInt - 0).toNat + 1) x194 x196 x213 H locs ls w190 (show 0 ≤ f0_.toInt from rf0_) (show f0_.toInt ≤ 5 from tf0_) (show 0 ≤ f1_.toInt from rf1_) (show f1_.toInt ≤ 60 from tf1_) (show (-60) ≤ x194.toInt by first | with_reducible assumption | omega) (show x194.toInt ≤ 10 by first | with_reducible assumption | omega) (show 0 ≤ x196.toInt by first | with_reducible assumption | omega) (show x196.toInt ≤ 390 from g204) (show 0 ≤ x213.toInt by first | with_reducible assumption | omega) (show x213.toInt ≤ 390 from g205) (show (binN w190 (x196.toInt).toNat : Int) = x196.toInt - x194.toInt by first | exact Int.le_antisymm (by omega) (by omega) | omega) (show x213.toInt + x196.toInt ≤ f4_.toInt + f3_.toInt by omega) (show x196.toInt + f2_.toInt ≤ f3_.toInt + x194.toInt from g202) (show x196.toInt ≤ x194.toInt + f1_.toInt from g203) (show x213.toInt ≤ 390 from g205) (show x196.toInt ≤ 390 from g204) (show -60 ≤ x194.toInt by first | with_reducible assumption | omega) (Nat.lt_succ_self _) hw hT hF (OKW_cast hO (show x196.toInt - x194.toInt + 1 = x196.toInt - x194.toInt + 1 from rfl)) (E9_le hE9 (show x196.toInt ≤ _ by omega)) c211 c212 c195 c197 c214 hM (lv_sub hl [0] rfl)
