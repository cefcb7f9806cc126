abbrev P_X12_in_20 (ad : Nat → Nat) (cy : Nat → ClassId) (B : Int) (qr : Nat) (s1 : Int)  (w0 : va_W) : Int32 → va_W → Prop := fun r u => w0 = u ∧ ((r = 1))
set_option maxHeartbeats 4000000 in
set_option maxRecDepth 100000 in
theorem k_X12_in_20 (l : Launch) (adK adV : Nat → Nat) (dC : Nat → ClassId) (dI : Nat → Nat → Nat) (cy : Nat → ClassId) (ad : Nat → Nat) (B : Int) (hB0 : 100000 ≤ B) (hB1 : B ≤ 1073741824) (qr : Nat) (s1 : Int)   (w0 : va_W) (sz : Nat) (hT : TW ksM ad cy B qr 12 w0)  : Met l yX12_in wsX12_in ({ frames := 1, cells := 0, slots := 0, locals := 12 }) (va_Pc [.long 0, .long 0, .long 3] (wpreS adK adV dC dI cy sz w0)) (va_Qi (P_X12_in_20 ad cy B qr s1  w0) (fun u : va_W => wpost dC dI cy (va_A w0 sz) u) (va_A w0 sz)) 0 0 (va_A w0 sz) := by
  refine Met.ofW (cc := cX12_in) (maxL := 6) (ret := (some .boolean)) (by decide) rfl ?_
  intro p e s m args below meth c s₁ Bk hml hv
  obtain ⟨rfl, ⟨hsz, hP, hK, hD0⟩, hE, hSR⟩ := hv
  have hx := Bk.exec
  have hb := Bk.bytes
  have hr := Bk.returns
  have hlocks := Bk.notSynchronized
  have hC : CallFix p m c cX12_in 6 s _ wsX12_in RX12 := ⟨hx, hb, hml, findClass_of_methodNamed Bk.named, atoms_spec (ws := wsX12_in) Bk.pre⟩
  subst hsz
  have hD := hD0.self (sz := s.heap.size)
  generalize hAe : va_A w0 s.heap.size = A at hD hE ⊢
  have hA : ∀ q : Nat, s.heap.size ≤ q → A q := fun q h => by rw [← hAe]; exact Or.inr h
  have hw : Wd dC dI A s.heap s.heap [] w0 := ⟨hP, hD, va_S.rf⟩
  have hF : FE ksM ([] : List (Nat × Nat × Nat)) w0 w0 := FE.rf
  have hl := lv_entry ([.long 0, .long 0, .long 3]) (n := 6) (Nat.le_of_ble_eq_true rfl)
  rw [lg_entry_eq]
  generalize (lg_sl ([.long 0, .long 0, .long 3]) ++ List.replicate (6 - (lg_sl ([.long 0, .long 0, .long 3])).length) Slot.unset).toArray = ls at hl ⊢
  have hl : lv_has ls 6 [(0, .long 0), (2, .long 0), (4, .long 3)] := hl
  generalize hloc : ([] : List Loc) = locs at hw ⊢
  refine lv_lload_n hx hb dX12_in_0 rfl (lv_at hl 0 rfl) ?_
  refine lv_lload_n hx hb dX12_in_1 rfl (lv_at hl 1 rfl) ?_
  refine W.lcmp hx hb dX12_in_2 ?_
  refine wk_top 0 (by decide) ?_
  refine lv_if_lt (tgt := 17) hx hb dX12_in_3 (by decide) (fun c => absurd c (by decide)) (fun _ => ?_)
  refine lv_lload_n hx hb dX12_in_6 rfl (lv_at hl 0 rfl) ?_
  refine lv_lload hx hb dX12_in_7 (lv_at hl 2 rfl) ?_
  refine W.lcmp hx hb dX12_in_9 ?_
  refine wk_top (-1) (by decide) ?_
  refine lv_if_gt (tgt := 17) hx hb dX12_in_10 (by decide) (fun c => absurd c (by decide)) (fun _ => ?_)
  refine lv_iconst (v := 1) hx hb dX12_in_13 (by decide) ?_
  refine lv_goto (tgt := 18) hx hb dX12_in_14 (by decide) ?_
  exact tk_zret hC hr rfl hlocks hK ⟨rfl, rfl⟩ hw dX12_in_18
abbrev P_X12_image_2 (ad : Nat → Nat) (cy : Nat → ClassId) (B : Int) (qr : Nat) (s1 : Int)  (w0 : va_W) : Int32 → va_W → Prop := fun r u => TW ksM ad cy B qr 12 u ∧ FE ksM [(80, 0, 1184), (81, 0, 4)] w0 u ∧ ((0 ≤ r.toInt ∧ r.toInt ≤ 4 ∧ gi u 21 (9) = gi w0 12 9 ∧ ((gi u 22 0).toInt = 1) ∧ ((gi u 12 9).toInt = (gi w0 12 9).toInt) ∧ ((gi u 21 305).toInt = (gi w0 21 305).toInt) ∧ ((gi u 21 601).toInt = (gi w0 21 601).toInt) ∧ ((gi u 21 897).toInt = (gi w0 21 897).toInt) ∧ ((gi u 22 1).toInt = (gi w0 22 1).toInt) ∧ ((gi u 22 2).toInt = (gi w0 22 2).toInt) ∧ ((gi u 22 3).toInt = (gi w0 22 3).toInt)))
set_option maxHeartbeats 4000000 in
set_option maxRecDepth 100000 in
theorem k_X12_image_2 (l : Launch) (adK adV : Nat → Nat) (dC : Nat → ClassId) (dI : Nat → Nat → Nat) (cy : Nat → ClassId) (ad : Nat → Nat) (B : Int) (hB0 : 100000 ≤ B) (hB1 : B ≤ 1073741824) (qr : Nat) (s1 : Int)   (w0 : va_W) (sz : Nat) (hT : TW ksM ad cy B qr 12 w0) (f0_ : Int32) (cf0_ : gi w0 12 9 = f0_) (rf0_ : 0 ≤ f0_.toInt) (tf0_ : f0_.toInt ≤ 2147483647) (f1_ : Int32) (cf1_ : gi w0 21 305 = f1_) (rf1_ : 0 ≤ f1_.toInt) (tf1_ : f1_.toInt ≤ 2147483647) (f2_ : Int32) (cf2_ : gi w0 21 601 = f2_) (rf2_ : 0 ≤ f2_.toInt) (tf2_ : f2_.toInt ≤ 2147483647) (f3_ : Int32) (cf3_ : gi w0 21 897 = f3_) (rf3_ : 0 ≤ f3_.toInt) (tf3_ : f3_.toInt ≤ 2147483647) (f4_ : Int32) (cf4_ : gi w0 21 9 = f4_) (rf4_ : 0 ≤ f4_.toInt) (tf4_ : f4_.toInt ≤ 2147483647) (f5_ : Int32) (cf5_ : gi w0 22 0 = f5_) (rf5_ : 0 ≤ f5_.toInt) (tf5_ : f5_.toInt ≤ 1) (f6_ : Int32) (cf6_ : gi w0 22 1 = f6_) (rf6_ : 0 ≤ f6_.toInt) (tf6_ : f6_.toInt ≤ 1) (f7_ : Int32) (cf7_ : gi w0 22 2 = f7_) (rf7_ : 0 ≤ f7_.toInt) (tf7_ : f7_.toInt ≤ 1) (f8_ : Int32) (cf8_ : gi w0 22 3 = f8_) (rf8_ : 0 ≤ f8_.toInt) (tf8_ : f8_.toInt ≤ 1) : Met l yX12_image wsX12_image ({ frames := 2, cells := 0, slots := 0, locals := 37 }) (va_Pc [.ref (ad 0), .int 0] (wpreS adK adV dC dI cy sz w0)) (va_Qi (P_X12_image_2 ad cy B qr s1  w0) (fun u : va_W => wpost dC dI cy (va_A w0 sz) u) (va_A w0 sz)) 0 0 (va_A w0 sz) := by
  refine Met.ofW (cc := cX12_image) (maxL := 3) (ret := (some .int)) (by decide) rfl ?_
  intro p e s m args below meth c s₁ Bk hml hv
  obtain ⟨rfl, ⟨hsz, hP, hK, hD0⟩, hE, hSR⟩ := hv
  have hx := Bk.exec
  have hb := Bk.bytes
  have hr := Bk.returns
  have hlocks := Bk.notSynchronized
  have hC : CallFix p m c cX12_image 3 s _ wsX12_image RX12 := ⟨hx, hb, hml, findClass_of_methodNamed Bk.named, atoms_spec (ws := wsX12_image) Bk.pre⟩
  subst hsz
  have hD := hD0.self (sz := s.heap.size)
  generalize hAe : va_A w0 s.heap.size = A at hD hE ⊢
  have hA : ∀ q : Nat, s.heap.size ≤ q → A q := fun q h => by rw [← hAe]; exact Or.inr h
  have hw : Wd dC dI A s.heap s.heap [] w0 := ⟨hP, hD, va_S.rf⟩
  have hF : FE ksM [(80, 0, 1184), (81, 0, 4)] w0 w0 := FE.rf
  have hl := lv_entry ([.ref (ad 0), .int 0]) (n := 3) (Nat.le_of_ble_eq_true rfl)
  rw [lg_entry_eq]
  generalize (lg_sl ([.ref (ad 0), .int 0]) ++ List.replicate (3 - (lg_sl ([.ref (ad 0), .int 0])).length) Slot.unset).toArray = ls at hl ⊢
  have hl : lv_has ls 3 [(0, .ref (ad 0)), (1, .int 0)] := hl
  generalize hloc : ([] : List Loc) = locs at hw ⊢
  have hinX12 : ∀ w ∈ u_ws RX12 TX12 42, w ∈ wsX12_image := fun _ h => List.mem_cons_of_mem _ (List.mem_append_right _ (h))
  have L23 : ∀ (n23 : Nat) (v23_2 : Int32) (H : Heap) (locs : List Loc) (ls : Array Slot) (w1 : va_W), 0 ≤ v23_2.toInt → v23_2.toInt ≤ 296 → 0 ≤ f0_.toInt → 0 ≤ f1_.toInt → 0 ≤ f2_.toInt → 0 ≤ f3_.toInt → 0 ≤ f6_.toInt → f6_.toInt ≤ 1 → 0 ≤ f7_.toInt → f7_.toInt ≤ 1 → 0 ≤ f8_.toInt → f8_.toInt ≤ 1 → (v23_2.toInt ≤ 9 ∨ gi w1 21 (9) = gi w0 12 9) → (296 - v23_2.toInt).toNat < n23 → Wd dC dI A s.heap H locs w1 → TW ksM ad cy B qr 12 w1 → FE ksM [(80, 0, 1184), (81, 0, 4)] w0 w1 → gi w1 12 9 = f0_ → gi w1 21 305 = f1_ → gi w1 21 601 = f2_ → gi w1 21 897 = f3_ → gi w1 22 0 = 1 → gi w1 22 1 = f6_ → gi w1 22 2 = f7_ → gi w1 22 3 = f8_ → lv_has ls 3 [(0, .ref (ad 0)), (1, .int 0), (2, .int v23_2)] → W p l e ({ frames := 2, cells := 0, slots := 0, locals := 37 }) s m (List.toArray [.ref (ad 0), .int 0]) below meth c H locs 0 0 (MQ below (va_Qi (P_X12_image_2 ad cy B qr s1  w0) (fun u : va_W => wpost dC dI cy A u) A) (List.toArray [.ref (ad 0), .int 0]) s 0 0 A) (F0 m 23 ls []) := by
    intro n23
    induction n23 with
    | zero => intro v23_2 H locs ls w1 r2 t3 r4 r6 r8 r10 r13 t14 r16 t17 r19 t20 hcp0 hm23 hw hT hF c5 c7 c9 c11 c12 c15 c18 c21 hl; omega
    | succ n23 ih23 =>
      intro v23_2 H locs ls w1 r2 t3 r4 r6 r8 r10 r13 t14 r16 t17 r19 t20 hcp0 hm23 hw hT hF c5 c7 c9 c11 c12 c15 c18 c21 hl
      refine lv_iload_n hx hb dX12_image_23 rfl (lv_at hl 2 rfl) ?_
      refine lv_sipush (v := 296) hx hb dX12_image_24 (by decide) ?_
      refine lv_icmp_ge (tgt := 54) hx hb dX12_image_27 (by decide) (fun c22 => ?_) (fun c22 => ?_)
      · have c22 : (296 : Int) ≤ v23_2.toInt := wk_le.mp c22
        refine lv_aload_n hx hb dX12_image_54 rfl (lv_at hl 0 rfl) ?_
        refine tk_getA hC hK hw hT hinX12 kM_at0 (by decide) rfl 26 (by decide) (List.mem_of_getElem? (i := 4) rfl) rfl rfl dX12_image_55 ?_
        refine lv_iconst (v := 5) hx hb dX12_image_58 (by decide) ?_
        refine tk_ialdR hC hK hw hT kM_at12 rfl (by decide) (by decide) dX12_image_59 (fun x23 c24 Ex23 => ?_)
        have bx23 := tk_rgI rfl 5 1 1 0 4 (by decide +kernel) ⟨0, by decide, by decide⟩ Ex23
        have c24 : gi w1 12 5 = x23 := c24
        exact tk_iret hC hr hlocks hK ⟨hT, hF, ⟨(show 0 ≤ x23.toInt by omega), (show x23.toInt ≤ 4 by omega), (hcp0.resolve_left (by omega)), (by simp only [c12, (show (1 : Int32).toInt = 1 by decide)] <;> omega), (by simp only [cf0_, c5] <;> omega), (by simp only [cf1_, c7] <;> omega), (by simp only [cf2_, c9] <;> omega), (by simp only [cf3_, c11] <;> omega), (by simp only [cf6_, c15] <;> omega), (by simp only [cf7_, c18] <;> omega), (by simp only [cf8_, c21] <;> omega)⟩⟩ hw dX12_image_60
      · have c22 : v23_2.toInt < (296 : Int) := wk_leF c22
        refine lv_aload_n hx hb dX12_image_30 rfl (lv_at hl 0 rfl) ?_
        refine tk_getA hC hK hw hT hinX12 kM_at0 (by decide) rfl 40 (by decide) (List.mem_of_getElem? (i := 3) rfl) rfl rfl dX12_image_31 ?_
        refine lv_sipush (v := 296) hx hb dX12_image_34 (by decide) ?_
        refine lv_iload_n hx hb dX12_image_37 rfl (lv_at hl 1 rfl) ?_
        refine lv_imul hx hb dX12_image_38 ?_
        refine wk_top 0 (by decide) ?_
        refine lv_iload_n hx hb dX12_image_39 rfl (lv_at hl 2 rfl) ?_
        refine lv_iadd hx hb dX12_image_40 ?_
        refine lv_topi (fun x25 ex25 => ?_)
        have ex25 : x25.toInt = (0 : Int) + v23_2.toInt := by rw [ex25]; exact wk_add (show (-2147483648) ≤ (0 : Int) + v23_2.toInt by omega) (show (0 : Int) + v23_2.toInt ≤ 2147483647 by omega)
        refine lv_aload_n hx hb dX12_image_41 rfl (lv_at hl 0 rfl) ?_
        refine tk_getA hC hK hw hT hinX12 kM_at0 (by decide) rfl 26 (by decide) (List.mem_of_getElem? (i := 4) rfl) rfl rfl dX12_image_42 ?_
        refine lv_iload_n hx hb dX12_image_45 rfl (lv_at hl 2 rfl) ?_
        refine tk_ialdR hC hK hw hT kM_at12 rfl (show 0 ≤ v23_2.toInt by omega) (show v23_2.toInt < 296 by omega) dX12_image_46 (fun x26 c27 Ex26 => ?_)
        have lEx26 : gi w1 12 (v23_2.toInt).toNat = x26 := c27
        have c27 : gi w1 12 (v23_2.toInt).toNat = x26 := (congrArg (gi w1 12) (congrArg Int.toNat (show v23_2.toInt = v23_2.toInt by omega))).trans c27
        have hF0 := hF
        refine tk_iastR hC hK hw hT kM_at21 (by decide) rfl (show 0 ≤ x25.toInt by omega) (show x25.toInt < 1184 by omega) (tk_rgC rfl rfl (show v23_2.toInt.toNat % 296 = x25.toInt.toNat % 296 by omega) Ex26) dX12_image_47 (fun H locs w28 hw hT k30 c29 => ?_)
        have hF := hF.put kM_at21 (inE_of (a := 0) (b := 1184) (by decide) (show 0 ≤ x25.toInt.toNat by omega) (show x25.toInt.toNat ≤ 1184 by omega)) k30
        have c31 := k30.gi (Or.inl (tk_ne kM_at12 kM_at21 (by decide))) c5
        have c32 := k30.gi (Or.inr (show 305 ≠ x25.toInt.toNat by omega)) c7
        have c33 := k30.gi (Or.inr (show 601 ≠ x25.toInt.toNat by omega)) c9
        have c34 := k30.gi (Or.inr (show 897 ≠ x25.toInt.toNat by omega)) c11
        have c35 := k30.gi (Or.inl (tk_ne kM_at22 kM_at21 (by decide))) c12
        have c36 := k30.gi (Or.inl (tk_ne kM_at22 kM_at21 (by decide))) c15
        have c37 := k30.gi (Or.inl (tk_ne kM_at22 kM_at21 (by decide))) c18
        have c38 := k30.gi (Or.inl (tk_ne kM_at22 kM_at21 (by decide))) c21
        have c39 := k30.gi (Or.inl (tk_ne kM_at12 kM_at21 (by decide))) c27
        obtain ⟨x40, ex40⟩ : ∃ y : Int32, y = v23_2 + Int32.ofInt 1 := ⟨_, rfl⟩
        refine lv_iinc (v := x40) (lv' := [(2, .int x40), (0, .ref (ad 0)), (1, .int 0)]) hx hb dX12_image_48 hl (k := 2) rfl ex40.symm (by decide) rfl (fun ls hl => ?_)
        have ex40 : x40.toInt = v23_2.toInt + 1 := by rw [ex40]; exact wk_add (y := 1) (show -2147483648 ≤ v23_2.toInt + 1 by omega) (show v23_2.toInt + 1 ≤ 2147483647 by omega)
        refine lv_goto (tgt := 23) hx hb dX12_image_51 (by decide) ?_
        exact ih23 x40 H locs ls w28 (show 0 ≤ x40.toInt by omega) (show x40.toInt ≤ 296 by omega) (show 0 ≤ f0_.toInt by omega) (show 0 ≤ f1_.toInt by omega) (show 0 ≤ f2_.toInt by omega) (show 0 ≤ f3_.toInt by omega) (show 0 ≤ f6_.toInt by omega) (show f6_.toInt ≤ 1 by omega) (show 0 ≤ f7_.toInt by omega) (show f7_.toInt ≤ 1 by omega) (show 0 ≤ f8_.toInt by omega) (show f8_.toInt ≤ 1 by omega) (copy_at (d := 0) (by first | rfl | omega) hcp0 k30 (show x25.toInt = v23_2.toInt + 0 by omega) c29 lEx26 (hF0.gi kM_at12 rfl rfl) (by omega) (by omega) (by omega)) (show (296 - x40.toInt).toNat < n23 by omega) hw hT hF c31 c32 c33 c34 c35 c36 c37 c38 (lv_sub hl [1, 2, 0] rfl)
  refine lv_iload_n hx hb dX12_image_0 rfl (lv_at hl 1 rfl) ?_
  refine lv_i2l hx hb dX12_image_1 rfl ?_
  refine wk_topl 0 (by decide) ?_
  refine lv_lconst (v := 0) hx hb dX12_image_2 (by decide) ?_
  refine lv_ldc2 (v := 3) hx hb hC.2.2.2.1 (hC.2.2.2.2 _ (List.mem_of_getElem? (i := 1) rfl)) dX12_image_3 ?_
  refine tk_Si hC hK hw hT hA hE hSR (k_X12_in_20 l adK adV dC dI cy ad B (by omega) (by omega) qr s1    w0 s.heap.size hT ) (va_cwS 3 hC.2.2.2.2 gX12_image_X12_in rfl rfl rfl (by decide +kernel) ⟨Nat.le_of_ble_eq_true rfl, Nat.le_of_ble_eq_true rfl⟩) rfl hl.1 rfl (Nat.le_of_ble_eq_true rfl) dX12_image_6 (fun r41 w43 H locs hp42 hw => ?_)
  obtain ⟨rfl, hg45⟩ := hp42
  obtain rfl := hg45
  refine lv_if_ne (tgt := 14) hx hb dX12_image_9 (by decide) (fun _ => ?_) (fun c => absurd c (by decide))
  refine lv_aload_n hx hb dX12_image_14 rfl (lv_at hl 0 rfl) ?_
  refine tk_getA hC hK hw hT hinX12 kM_at0 (by decide) rfl 41 (by decide) (List.mem_of_getElem? (i := 2) rfl) rfl rfl dX12_image_15 ?_
  refine lv_iload_n hx hb dX12_image_18 rfl (lv_at hl 1 rfl) ?_
  refine lv_iconst (v := 1) hx hb dX12_image_19 (by decide) ?_
  refine tk_zast hC hK hw hT kM_at22 (by decide) rfl rfl (by decide) (by decide) (by decide) (by decide) dX12_image_20 (fun H locs w46 hw hT k48 c47 => ?_)
  have hF := hF.put kM_at22 (inE_of (a := 0) (b := 4) (by decide) (by decide) (by decide)) k48
  have c49 := k48.gi (Or.inl (tk_ne kM_at12 kM_at22 (by decide))) cf0_
  have c50 := k48.gi (Or.inl (tk_ne kM_at21 kM_at22 (by decide))) cf1_
  have c51 := k48.gi (Or.inl (tk_ne kM_at21 kM_at22 (by decide))) cf2_
  have c52 := k48.gi (Or.inl (tk_ne kM_at21 kM_at22 (by decide))) cf3_
  have c53 := k48.gi (Or.inl (tk_ne kM_at21 kM_at22 (by decide))) cf4_
  have c54 := k48.gi (Or.inr (by decide)) cf6_
  have c55 := k48.gi (Or.inr (by decide)) cf7_
  have c56 := k48.gi (Or.inr (by decide)) cf8_
  have c47 : gi w46 22 0 = 1 := c47
  refine lv_iconst (v := 0) hx hb dX12_image_21 (by decide) ?_
  refine lv_istore_n (lv' := [(2, .int 0), (0, .ref (ad 0)), (1, .int 0)]) hx hb dX12_image_22 rfl hl (by decide) rfl (fun ls hl => ?_)
  exact L23 ((296 - (0 : Int)).toNat + 1) 0 H locs ls w46 (by decide) (by decide) (show 0 ≤ f0_.toInt by omega) (show 0 ≤ f1_.toInt by omega) (show 0 ≤ f2_.toInt by omega) (show 0 ≤ f3_.toInt by omega) (show 0 ≤ f6_.toInt by omega) (show f6_.toInt ≤ 1 by omega) (show 0 ≤ f7_.toInt by omega) (show f7_.toInt ≤ 1 by omega) (show 0 ≤ f8_.toInt by omega) (show f8_.toInt ≤ 1 by omega) (show ((0 : Int) ≤ 9 ∨ gi w46 21 (9) = gi w0 12 9) from Or.inl (by omega)) (Nat.lt_succ_self _) hw hT hF c49 c50 c51 c52 c47 c54 c55 c56 (lv_sub hl [1, 2, 0] rfl)
abbrev P_X12_back_2 (ad : Nat → Nat) (cy : Nat → ClassId) (B : Int) (qr : Nat) (s1 : Int)  (w0 : va_W) : Int32 → va_W → Prop := fun r u => TW ksM ad cy B qr 12 u ∧ FE ksM [(71, 0, 295)] w0 u ∧ ((0 ≤ r.toInt ∧ r.toInt ≤ 4 ∧ gi u 12 9 = gi w0 21 (9) ∧ (1 ≤ (gi w0 22 0).toInt) ∧ ((gi u 21 9).toInt = (gi w0 21 9).toInt) ∧ ((gi u 21 305).toInt = (gi w0 21 305).toInt) ∧ ((gi u 21 601).toInt = (gi w0 21 601).toInt) ∧ ((gi u 21 897).toInt = (gi w0 21 897).toInt) ∧ ((gi u 22 0).toInt = (gi w0 22 0).toInt) ∧ ((gi u 22 1).toInt = (gi w0 22 1).toInt) ∧ ((gi u 22 2).toInt = (gi w0 22 2).toInt) ∧ ((gi u 22 3).toInt = (gi w0 22 3).toInt)) ∨ (r = (-1) ∧ ((gi w0 22 0).toInt = 0) ∧ ((gi u 12 9).toInt = (gi w0 12 9).toInt) ∧ ((gi u 21 9).toInt = (gi w0 21 9).toInt) ∧ ((gi u 21 305).toInt = (gi w0 21 305).toInt) ∧ ((gi u 21 601).toInt = (gi w0 21 601).toInt) ∧ ((gi u 21 897).toInt = (gi w0 21 897).toInt) ∧ ((gi u 22 0).toInt = (gi w0 22 0).toInt) ∧ ((gi u 22 1).toInt = (gi w0 22 1).toInt) ∧ ((gi u 22 2).toInt = (gi w0 22 2).toInt) ∧ ((gi u 22 3).toInt = (gi w0 22 3).toInt)))
set_option maxHeartbeats 4000000 in
set_option maxRecDepth 100000 in
theorem k_X12_back_2 (l : Launch) (adK adV : Nat → Nat) (dC : Nat → ClassId) (dI : Nat → Nat → Nat) (cy : Nat → ClassId) (ad : Nat → Nat) (B : Int) (hB0 : 100000 ≤ B) (hB1 : B ≤ 1073741824) (qr : Nat) (s1 : Int)   (w0 : va_W) (sz : Nat) (hT : TW ksM ad cy B qr 12 w0) (f0_ : Int32) (cf0_ : gi w0 12 9 = f0_) (rf0_ : 0 ≤ f0_.toInt) (tf0_ : f0_.toInt ≤ 2147483647) (f1_ : Int32) (cf1_ : gi w0 21 305 = f1_) (rf1_ : 0 ≤ f1_.toInt) (tf1_ : f1_.toInt ≤ 2147483647) (f2_ : Int32) (cf2_ : gi w0 21 601 = f2_) (rf2_ : 0 ≤ f2_.toInt) (tf2_ : f2_.toInt ≤ 2147483647) (f3_ : Int32) (cf3_ : gi w0 21 897 = f3_) (rf3_ : 0 ≤ f3_.toInt) (tf3_ : f3_.toInt ≤ 2147483647) (f4_ : Int32) (cf4_ : gi w0 21 9 = f4_) (rf4_ : 0 ≤ f4_.toInt) (tf4_ : f4_.toInt ≤ 2147483647) (f5_ : Int32) (cf5_ : gi w0 22 0 = f5_) (rf5_ : 0 ≤ f5_.toInt) (tf5_ : f5_.toInt ≤ 1) (f6_ : Int32) (cf6_ : gi w0 22 1 = f6_) (rf6_ : 0 ≤ f6_.toInt) (tf6_ : f6_.toInt ≤ 1) (f7_ : Int32) (cf7_ : gi w0 22 2 = f7_) (rf7_ : 0 ≤ f7_.toInt) (tf7_ : f7_.toInt ≤ 1) (f8_ : Int32) (cf8_ : gi w0 22 3 = f8_) (rf8_ : 0 ≤ f8_.toInt) (tf8_ : f8_.toInt ≤ 1) : Met l yX12_back wsX12_back ({ frames := 2, cells := 0, slots := 0, locals := 37 }) (va_Pc [.ref (ad 0), .int 0] (wpreS adK adV dC dI cy sz w0)) (va_Qi (P_X12_back_2 ad cy B qr s1  w0) (fun u : va_W => wpost dC dI cy (va_A w0 sz) u) (va_A w0 sz)) 0 0 (va_A w0 sz) := by
  refine Met.ofW (cc := cX12_back) (maxL := 3) (ret := (some .int)) (by decide) rfl ?_
  intro p e s m args below meth c s₁ Bk hml hv
  obtain ⟨rfl, ⟨hsz, hP, hK, hD0⟩, hE, hSR⟩ := hv
  have hx := Bk.exec
  have hb := Bk.bytes
  have hr := Bk.returns
  have hlocks := Bk.notSynchronized
  have hC : CallFix p m c cX12_back 3 s _ wsX12_back RX12 := ⟨hx, hb, hml, findClass_of_methodNamed Bk.named, atoms_spec (ws := wsX12_back) Bk.pre⟩
  subst hsz
  have hD := hD0.self (sz := s.heap.size)
  generalize hAe : va_A w0 s.heap.size = A at hD hE ⊢
  have hA : ∀ q : Nat, s.heap.size ≤ q → A q := fun q h => by rw [← hAe]; exact Or.inr h
  have hw : Wd dC dI A s.heap s.heap [] w0 := ⟨hP, hD, va_S.rf⟩
  have hF : FE ksM [(71, 0, 295)] w0 w0 := FE.rf
  have hl := lv_entry ([.ref (ad 0), .int 0]) (n := 3) (Nat.le_of_ble_eq_true rfl)
  rw [lg_entry_eq]
  generalize (lg_sl ([.ref (ad 0), .int 0]) ++ List.replicate (3 - (lg_sl ([.ref (ad 0), .int 0])).length) Slot.unset).toArray = ls at hl ⊢
  have hl : lv_has ls 3 [(0, .ref (ad 0)), (1, .int 0)] := hl
  generalize hloc : ([] : List Loc) = locs at hw ⊢
  have hinX12 : ∀ w ∈ u_ws RX12 TX12 42, w ∈ wsX12_back := fun _ h => List.mem_cons_of_mem _ (List.mem_append_right _ (h))
  have J21 : ∀ (H : Heap) (locs : List Loc) (ls : Array Slot) (w1 : va_W), 0 ≤ f0_.toInt → 0 ≤ f1_.toInt → 0 ≤ f2_.toInt → 0 ≤ f3_.toInt → 0 ≤ f4_.toInt → 0 ≤ f6_.toInt → f6_.toInt ≤ 1 → 0 ≤ f7_.toInt → f7_.toInt ≤ 1 → 0 ≤ f8_.toInt → f8_.toInt ≤ 1 → ((0 : Int) = f5_.toInt) → (f6_.toInt = f6_.toInt) → (f7_.toInt = f7_.toInt) → (f8_.toInt = f8_.toInt) → Wd dC dI A s.heap H locs w1 → TW ksM ad cy B qr 12 w1 → FE ksM [(71, 0, 295)] w0 w1 → gi w1 12 9 = f0_ → gi w1 21 305 = f1_ → gi w1 21 601 = f2_ → gi w1 21 897 = f3_ → gi w1 21 9 = f4_ → gi w1 22 0 = 0 → gi w1 22 1 = f6_ → gi w1 22 2 = f7_ → gi w1 22 3 = f8_ → lv_has ls 3 [(0, .ref (ad 0)), (1, .int 0)] → W p l e ({ frames := 2, cells := 0, slots := 0, locals := 37 }) s m (List.toArray [.ref (ad 0), .int 0]) below meth c H locs 0 0 (MQ below (va_Qi (P_X12_back_2 ad cy B qr s1  w0) (fun u : va_W => wpost dC dI cy A u) A) (List.toArray [.ref (ad 0), .int 0]) s 0 0 A) (F0 m 21 ls []) := by
    intro H locs ls w1 r2 r4 r6 r8 r10 r13 t14 r16 t17 r19 t20 hcr21_0 hcr21_1 hcr21_2 hcr21_3 hw hT hF c3 c5 c7 c9 c11 c12 c15 c18 c21 hl
    refine lv_iconst (v := (-1)) hx hb dX12_back_21 (by decide) ?_
    exact tk_iret hC hr hlocks hK ⟨hT, hF, (Or.inr ⟨rfl, (by simp only [cf5_] <;> omega), (by simp only [cf0_, c3] <;> omega), (by simp only [cf4_, c11] <;> omega), (by simp only [cf1_, c5] <;> omega), (by simp only [cf2_, c7] <;> omega), (by simp only [cf3_, c9] <;> omega), (by simp only [cf5_, c12, (show (0 : Int32).toInt = 0 by decide)] <;> omega), (by simp only [cf6_, c15] <;> omega), (by simp only [cf7_, c18] <;> omega), (by simp only [cf8_, c21] <;> omega)⟩)⟩ hw dX12_back_22
  have L25 : ∀ (n25 : Nat) (v25_2 : Int32) (f25_12_9 : Int32) (H : Heap) (locs : List Loc) (ls : Array Slot) (w22 : va_W), 0 ≤ v25_2.toInt → v25_2.toInt ≤ 296 → 0 ≤ f25_12_9.toInt → 0 ≤ f1_.toInt → 0 ≤ f2_.toInt → 0 ≤ f3_.toInt → 0 ≤ f4_.toInt → 0 ≤ f6_.toInt → f6_.toInt ≤ 1 → 0 ≤ f7_.toInt → f7_.toInt ≤ 1 → 0 ≤ f8_.toInt → f8_.toInt ≤ 1 → (v25_2.toInt ≤ 9 ∨ gi w22 12 (9) = gi w0 21 (9)) → ((1 : Int) = f5_.toInt) → (f6_.toInt = f6_.toInt) → (f7_.toInt = f7_.toInt) → (f8_.toInt = f8_.toInt) → (296 - v25_2.toInt).toNat < n25 → Wd dC dI A s.heap H locs w22 → TW ksM ad cy B qr 12 w22 → FE ksM [(71, 0, 295)] w0 w22 → gi w22 12 9 = f25_12_9 → gi w22 21 305 = f1_ → gi w22 21 601 = f2_ → gi w22 21 897 = f3_ → gi w22 21 9 = f4_ → gi w22 22 0 = 1 → gi w22 22 1 = f6_ → gi w22 22 2 = f7_ → gi w22 22 3 = f8_ → lv_has ls 3 [(0, .ref (ad 0)), (1, .int 0), (2, .int v25_2)] → W p l e ({ frames := 2, cells := 0, slots := 0, locals := 37 }) s m (List.toArray [.ref (ad 0), .int 0]) below meth c H locs 0 0 (MQ below (va_Qi (P_X12_back_2 ad cy B qr s1  w0) (fun u : va_W => wpost dC dI cy A u) A) (List.toArray [.ref (ad 0), .int 0]) s 0 0 A) (F0 m 25 ls []) := by
    intro n25
    induction n25 with
    | zero => intro v25_2 f25_12_9 H locs ls w22 r23 t24 r25 r27 r29 r31 r33 r36 t37 r39 t40 r42 t43 hcp0 hcr25_0 hcr25_1 hcr25_2 hcr25_3 hm25 hw hT hF c26 c28 c30 c32 c34 c35 c38 c41 c44 hl; omega
    | succ n25 ih25 =>
      intro v25_2 f25_12_9 H locs ls w22 r23 t24 r25 r27 r29 r31 r33 r36 t37 r39 t40 r42 t43 hcp0 hcr25_0 hcr25_1 hcr25_2 hcr25_3 hm25 hw hT hF c26 c28 c30 c32 c34 c35 c38 c41 c44 hl
      refine lv_iload_n hx hb dX12_back_25 rfl (lv_at hl 2 rfl) ?_
      refine lv_sipush (v := 296) hx hb dX12_back_26 (by decide) ?_
      refine lv_icmp_ge (tgt := 56) hx hb dX12_back_29 (by decide) (fun c45 => ?_) (fun c45 => ?_)
      · have c45 : (296 : Int) ≤ v25_2.toInt := wk_le.mp c45
        refine lv_aload_n hx hb dX12_back_56 rfl (lv_at hl 0 rfl) ?_
        refine tk_getA hC hK hw hT hinX12 kM_at0 (by decide) rfl 26 (by decide) (List.mem_of_getElem? (i := 3) rfl) rfl rfl dX12_back_57 ?_
        refine lv_iconst (v := 5) hx hb dX12_back_60 (by decide) ?_
        refine tk_ialdR hC hK hw hT kM_at12 rfl (by decide) (by decide) dX12_back_61 (fun x46 c47 Ex46 => ?_)
        have bx46 := tk_rgI rfl 5 1 1 0 4 (by decide +kernel) ⟨0, by decide, by decide⟩ Ex46
        have c47 : gi w22 12 5 = x46 := c47
        exact tk_iret hC hr hlocks hK ⟨hT, hF, (Or.inl ⟨(show 0 ≤ x46.toInt by omega), (show x46.toInt ≤ 4 by omega), (hcp0.resolve_left (by omega)), (by simp only [cf5_] <;> omega), (by simp only [cf4_, c34] <;> omega), (by simp only [cf1_, c28] <;> omega), (by simp only [cf2_, c30] <;> omega), (by simp only [cf3_, c32] <;> omega), (by simp only [cf5_, c35, (show (1 : Int32).toInt = 1 by decide)] <;> omega), (by simp only [cf6_, c38] <;> omega), (by simp only [cf7_, c41] <;> omega), (by simp only [cf8_, c44] <;> omega)⟩)⟩ hw dX12_back_62
      · have c45 : v25_2.toInt < (296 : Int) := wk_leF c45
        refine lv_aload_n hx hb dX12_back_32 rfl (lv_at hl 0 rfl) ?_
        refine tk_getA hC hK hw hT hinX12 kM_at0 (by decide) rfl 26 (by decide) (List.mem_of_getElem? (i := 3) rfl) rfl rfl dX12_back_33 ?_
        refine lv_iload_n hx hb dX12_back_36 rfl (lv_at hl 2 rfl) ?_
        refine lv_aload_n hx hb dX12_back_37 rfl (lv_at hl 0 rfl) ?_
        refine tk_getA hC hK hw hT hinX12 kM_at0 (by decide) rfl 40 (by decide) (List.mem_of_getElem? (i := 4) rfl) rfl rfl dX12_back_38 ?_
        refine lv_sipush (v := 296) hx hb dX12_back_41 (by decide) ?_
        refine lv_iload_n hx hb dX12_back_44 rfl (lv_at hl 1 rfl) ?_
        refine lv_imul hx hb dX12_back_45 ?_
        refine wk_top 0 (by decide) ?_
        refine lv_iload_n hx hb dX12_back_46 rfl (lv_at hl 2 rfl) ?_
        refine lv_iadd hx hb dX12_back_47 ?_
        refine lv_topi (fun x48 ex48 => ?_)
        have ex48 : x48.toInt = (0 : Int) + v25_2.toInt := by rw [ex48]; exact wk_add (show (-2147483648) ≤ (0 : Int) + v25_2.toInt by omega) (show (0 : Int) + v25_2.toInt ≤ 2147483647 by omega)
        refine tk_ialdR hC hK hw hT kM_at21 rfl (show 0 ≤ x48.toInt by omega) (show x48.toInt < 1184 by omega) dX12_back_48 (fun x49 c50 Ex49 => ?_)
        have lEx49 : gi w22 21 (x48.toInt).toNat = x49 := c50
        have hF0 := hF
        refine tk_iastR hC hK hw hT kM_at12 (by decide) rfl (show 0 ≤ v25_2.toInt by omega) (show v25_2.toInt < 296 by omega) (tk_rgC rfl rfl (show x48.toInt.toNat % 296 = v25_2.toInt.toNat % 296 by omega) Ex49) dX12_back_49 (fun H locs w51 hw hT k53 c52 => ?_)
        have hF := hF.put kM_at12 (inE_of (a := 0) (b := 295) (by decide) (show 0 ≤ v25_2.toInt.toNat by omega) (show v25_2.toInt.toNat ≤ 295 by omega)) k53
        have c54 := k53.gi (Or.inl (tk_ne kM_at21 kM_at12 (by decide))) c28
        have c55 := k53.gi (Or.inl (tk_ne kM_at21 kM_at12 (by decide))) c30
        have c56 := k53.gi (Or.inl (tk_ne kM_at21 kM_at12 (by decide))) c32
        have c57 := k53.gi (Or.inl (tk_ne kM_at21 kM_at12 (by decide))) c34
        have c58 := k53.gi (Or.inl (tk_ne kM_at22 kM_at12 (by decide))) c35
        have c59 := k53.gi (Or.inl (tk_ne kM_at22 kM_at12 (by decide))) c38
        have c60 := k53.gi (Or.inl (tk_ne kM_at22 kM_at12 (by decide))) c41
        have c61 := k53.gi (Or.inl (tk_ne kM_at22 kM_at12 (by decide))) c44
        obtain ⟨x62, ex62⟩ : ∃ y : Int32, y = v25_2 + Int32.ofInt 1 := ⟨_, rfl⟩
        refine lv_iinc (v := x62) (lv' := [(2, .int x62), (0, .ref (ad 0)), (1, .int 0)]) hx hb dX12_back_50 hl (k := 2) rfl ex62.symm (by decide) rfl (fun ls hl => ?_)
        have ex62 : x62.toInt = v25_2.toInt + 1 := by rw [ex62]; exact wk_add (y := 1) (show -2147483648 ≤ v25_2.toInt + 1 by omega) (show v25_2.toInt + 1 ≤ 2147483647 by omega)
        refine lv_goto (tgt := 25) hx hb dX12_back_53 (by decide) ?_
        obtain ⟨x63, c64, rx63, tx63⟩ := hT.rdR (lo := 0) (hi := 2147483647) (i := 9) kM_at12 rfl rfl (by decide) rfl rfl
        exact ih25 x62 x63 H locs ls w51 (show 0 ≤ x62.toInt by omega) (show x62.toInt ≤ 296 by omega) (show 0 ≤ x63.toInt by omega) (show 0 ≤ f1_.toInt by omega) (show 0 ≤ f2_.toInt by omega) (show 0 ≤ f3_.toInt by omega) (show 0 ≤ f4_.toInt by omega) (show 0 ≤ f6_.toInt by omega) (show f6_.toInt ≤ 1 by omega) (show 0 ≤ f7_.toInt by omega) (show f7_.toInt ≤ 1 by omega) (show 0 ≤ f8_.toInt by omega) (show f8_.toInt ≤ 1 by omega) (copy_at2 (d := 0) (by first | rfl | omega) hcp0 k53 (show x48.toInt = v25_2.toInt + 0 by omega) c52 lEx49 (hF0.gi kM_at21 rfl rfl) (by omega) (by omega) (by omega)) (show (1 : Int) = f5_.toInt by omega) (show f6_.toInt = f6_.toInt by omega) (show f7_.toInt = f7_.toInt by omega) (show f8_.toInt = f8_.toInt by omega) (show (296 - x62.toInt).toNat < n25 by omega) hw hT hF c64 c54 c55 c56 c57 c58 c59 c60 c61 (lv_sub hl [1, 2, 0] rfl)
  refine lv_iload_n hx hb dX12_back_0 rfl (lv_at hl 1 rfl) ?_
  refine lv_i2l hx hb dX12_back_1 rfl ?_
  refine wk_topl 0 (by decide) ?_
  refine lv_lconst (v := 0) hx hb dX12_back_2 (by decide) ?_
  refine lv_ldc2 (v := 3) hx hb hC.2.2.2.1 (hC.2.2.2.2 _ (List.mem_of_getElem? (i := 1) rfl)) dX12_back_3 ?_
  refine tk_Si hC hK hw hT hA hE hSR (k_X12_in_20 l adK adV dC dI cy ad B (by omega) (by omega) qr s1    w0 s.heap.size hT ) (va_cwS 3 hC.2.2.2.2 gX12_back_X12_in rfl rfl rfl (by decide +kernel) ⟨Nat.le_of_ble_eq_true rfl, Nat.le_of_ble_eq_true rfl⟩) rfl hl.1 rfl (Nat.le_of_ble_eq_true rfl) dX12_back_6 (fun r65 w67 H locs hp66 hw => ?_)
  obtain ⟨rfl, hg69⟩ := hp66
  obtain rfl := hg69
  refine lv_if_eq (tgt := 21) hx hb dX12_back_9 (by decide) (fun c => absurd c (by decide)) (fun _ => ?_)
  refine lv_aload_n hx hb dX12_back_12 rfl (lv_at hl 0 rfl) ?_
  refine tk_getA hC hK hw hT hinX12 kM_at0 (by decide) rfl 41 (by decide) (List.mem_of_getElem? (i := 2) rfl) rfl rfl dX12_back_13 ?_
  refine lv_iload_n hx hb dX12_back_16 rfl (lv_at hl 1 rfl) ?_
  refine tk_zald hC hK hw hT kM_at22 rfl rfl (by decide) (by decide) dX12_back_17 (fun x70 c71 rx70 tx70 => ?_)
  refine wk_top f5_ (c71.symm.trans cf5_) ?_
  refine lv_if_ne (tgt := 23) hx hb dX12_back_18 (by decide) (fun c72 => ?_) (fun c72 => ?_)
  · have c72 : ¬ f5_.toInt = (0 : Int) := wk_eqF c72
    refine lv_iconst (v := 0) hx hb dX12_back_23 (by decide) ?_
    refine lv_istore_n (lv' := [(2, .int 0), (0, .ref (ad 0)), (1, .int 0)]) hx hb dX12_back_24 rfl hl (by decide) rfl (fun ls hl => ?_)
    obtain rfl : f5_ = 1 := wk_eq.mpr (show f5_.toInt = 1 by omega)
    exact L25 ((296 - (0 : Int)).toNat + 1) 0 f0_ H locs ls w0 (by decide) (by decide) (show 0 ≤ f0_.toInt by omega) (show 0 ≤ f1_.toInt by omega) (show 0 ≤ f2_.toInt by omega) (show 0 ≤ f3_.toInt by omega) (show 0 ≤ f4_.toInt by omega) (show 0 ≤ f6_.toInt by omega) (show f6_.toInt ≤ 1 by omega) (show 0 ≤ f7_.toInt by omega) (show f7_.toInt ≤ 1 by omega) (show 0 ≤ f8_.toInt by omega) (show f8_.toInt ≤ 1 by omega) (show ((0 : Int) ≤ 9 ∨ gi w0 12 (9) = gi w0 21 (9)) from Or.inl (by omega)) (show (1 : Int) = (1 : Int) by omega) (show f6_.toInt = f6_.toInt by omega) (show f7_.toInt = f7_.toInt by omega) (show f8_.toInt = f8_.toInt by omega) (Nat.lt_succ_self _) hw hT hF cf0_ cf1_ cf2_ cf3_ cf4_ cf5_ cf6_ cf7_ cf8_ (lv_sub hl [1, 2, 0] rfl)
  · have c72 : f5_.toInt = (0 : Int) := wk_eq.mp c72
    obtain rfl : f5_ = 0 := wk_eq.mpr (show f5_.toInt = 0 by omega)
    exact J21  H locs ls w0 (show 0 ≤ f0_.toInt by omega) (show 0 ≤ f1_.toInt by omega) (show 0 ≤ f2_.toInt by omega) (show 0 ≤ f3_.toInt by omega) (show 0 ≤ f4_.toInt by omega) (show 0 ≤ f6_.toInt by omega) (show f6_.toInt ≤ 1 by omega) (show 0 ≤ f7_.toInt by omega) (show f7_.toInt ≤ 1 by omega) (show 0 ≤ f8_.toInt by omega) (show f8_.toInt ≤ 1 by omega) (show (0 : Int) = (0 : Int) by omega) (show f6_.toInt = f6_.toInt by omega) (show f7_.toInt = f7_.toInt by omega) (show f8_.toInt = f8_.toInt by omega)  hw hT hF cf0_ cf1_ cf2_ cf3_ cf4_ cf5_ cf6_ cf7_ cf8_ (lv_sub hl [0, 1] rfl)
abbrev P_X12_in_21 (ad : Nat → Nat) (cy : Nat → ClassId) (B : Int) (qr : Nat) (s1 : Int)  (w0 : va_W) : Int32 → va_W → Prop := fun r u => w0 = u ∧ ((r = 1))
set_option maxHeartbeats 4000000 in
set_option maxRecDepth 100000 in
theorem k_X12_in_21 (l : Launch) (adK adV : Nat → Nat) (dC : Nat → ClassId) (dI : Nat → Nat → Nat) (cy : Nat → ClassId) (ad : Nat → Nat) (B : Int) (hB0 : 100000 ≤ B) (hB1 : B ≤ 1073741824) (qr : Nat) (s1 : Int)   (w0 : va_W) (sz : Nat) (hT : TW ksM ad cy B qr 12 w0)  : Met l yX12_in wsX12_in ({ frames := 1, cells := 0, slots := 0, locals := 12 }) (va_Pc [.long 1, .long 0, .long 3] (wpreS adK adV dC dI cy sz w0)) (va_Qi (P_X12_in_21 ad cy B qr s1  w0) (fun u : va_W => wpost dC dI cy (va_A w0 sz) u) (va_A w0 sz)) 0 0 (va_A w0 sz) := by
  refine Met.ofW (cc := cX12_in) (maxL := 6) (ret := (some .boolean)) (by decide) rfl ?_
  intro p e s m args below meth c s₁ Bk hml hv
  obtain ⟨rfl, ⟨hsz, hP, hK, hD0⟩, hE, hSR⟩ := hv
  have hx := Bk.exec
  have hb := Bk.bytes
  have hr := Bk.returns
  have hlocks := Bk.notSynchronized
  have hC : CallFix p m c cX12_in 6 s _ wsX12_in RX12 := ⟨hx, hb, hml, findClass_of_methodNamed Bk.named, atoms_spec (ws := wsX12_in) Bk.pre⟩
  subst hsz
  have hD := hD0.self (sz := s.heap.size)
  generalize hAe : va_A w0 s.heap.size = A at hD hE ⊢
  have hA : ∀ q : Nat, s.heap.size ≤ q → A q := fun q h => by rw [← hAe]; exact Or.inr h
  have hw : Wd dC dI A s.heap s.heap [] w0 := ⟨hP, hD, va_S.rf⟩
  have hF : FE ksM ([] : List (Nat × Nat × Nat)) w0 w0 := FE.rf
  have hl := lv_entry ([.long 1, .long 0, .long 3]) (n := 6) (Nat.le_of_ble_eq_true rfl)
  rw [lg_entry_eq]
  generalize (lg_sl ([.long 1, .long 0, .long 3]) ++ List.replicate (6 - (lg_sl ([.long 1, .long 0, .long 3])).length) Slot.unset).toArray = ls at hl ⊢
  have hl : lv_has ls 6 [(0, .long 1), (2, .long 0), (4, .long 3)] := hl
  generalize hloc : ([] : List Loc) = locs at hw ⊢
  refine lv_lload_n hx hb dX12_in_0 rfl (lv_at hl 0 rfl) ?_
  refine lv_lload_n hx hb dX12_in_1 rfl (lv_at hl 1 rfl) ?_
  refine W.lcmp hx hb dX12_in_2 ?_
  refine wk_top 1 (by decide) ?_
  refine lv_if_lt (tgt := 17) hx hb dX12_in_3 (by decide) (fun c => absurd c (by decide)) (fun _ => ?_)
  refine lv_lload_n hx hb dX12_in_6 rfl (lv_at hl 0 rfl) ?_
  refine lv_lload hx hb dX12_in_7 (lv_at hl 2 rfl) ?_
  refine W.lcmp hx hb dX12_in_9 ?_
  refine wk_top (-1) (by decide) ?_
  refine lv_if_gt (tgt := 17) hx hb dX12_in_10 (by decide) (fun c => absurd c (by decide)) (fun _ => ?_)
  refine lv_iconst (v := 1) hx hb dX12_in_13 (by decide) ?_
  refine lv_goto (tgt := 18) hx hb dX12_in_14 (by decide) ?_
  exact tk_zret hC hr rfl hlocks hK ⟨rfl, rfl⟩ hw dX12_in_18
abbrev P_X12_image_3 (ad : Nat → Nat) (cy : Nat → ClassId) (B : Int) (qr : Nat) (s1 : Int)  (w0 : va_W) : Int32 → va_W → Prop := fun r u => TW ksM ad cy B qr 12 u ∧ FE ksM [(80, 0, 1184), (81, 0, 4)] w0 u ∧ ((0 ≤ r.toInt ∧ r.toInt ≤ 4 ∧ gi u 21 (305) = gi w0 12 9 ∧ ((gi u 22 1).toInt = 1) ∧ ((gi u 12 9).toInt = (gi w0 12 9).toInt) ∧ ((gi u 21 9).toInt = (gi w0 21 9).toInt) ∧ ((gi u 21 601).toInt = (gi w0 21 601).toInt) ∧ ((gi u 21 897).toInt = (gi w0 21 897).toInt) ∧ ((gi u 22 0).toInt = (gi w0 22 0).toInt) ∧ ((gi u 22 2).toInt = (gi w0 22 2).toInt) ∧ ((gi u 22 3).toInt = (gi w0 22 3).toInt)))
set_option maxHeartbeats 4000000 in
set_option maxRecDepth 100000 in
theorem k_X12_image_3 (l : Launch) (adK adV : Nat → Nat) (dC : Nat → ClassId) (dI : Nat → Nat → Nat) (cy : Nat → ClassId) (ad : Nat → Nat) (B : Int) (hB0 : 100000 ≤ B) (hB1 : B ≤ 1073741824) (qr : Nat) (s1 : Int)   (w0 : va_W) (sz : Nat) (hT : TW ksM ad cy B qr 12 w0) (f0_ : Int32) (cf0_ : gi w0 12 9 = f0_) (rf0_ : 0 ≤ f0_.toInt) (tf0_ : f0_.toInt ≤ 2147483647) (f1_ : Int32) (cf1_ : gi w0 21 305 = f1_) (rf1_ : 0 ≤ f1_.toInt) (tf1_ : f1_.toInt ≤ 2147483647) (f2_ : Int32) (cf2_ : gi w0 21 601 = f2_) (rf2_ : 0 ≤ f2_.toInt) (tf2_ : f2_.toInt ≤ 2147483647) (f3_ : Int32) (cf3_ : gi w0 21 897 = f3_) (rf3_ : 0 ≤ f3_.toInt) (tf3_ : f3_.toInt ≤ 2147483647) (f4_ : Int32) (cf4_ : gi w0 21 9 = f4_) (rf4_ : 0 ≤ f4_.toInt) (tf4_ : f4_.toInt ≤ 2147483647) (f5_ : Int32) (cf5_ : gi w0 22 0 = f5_) (rf5_ : 0 ≤ f5_.toInt) (tf5_ : f5_.toInt ≤ 1) (f6_ : Int32) (cf6_ : gi w0 22 1 = f6_) (rf6_ : 0 ≤ f6_.toInt) (tf6_ : f6_.toInt ≤ 1) (f7_ : Int32) (cf7_ : gi w0 22 2 = f7_) (rf7_ : 0 ≤ f7_.toInt) (tf7_ : f7_.toInt ≤ 1) (f8_ : Int32) (cf8_ : gi w0 22 3 = f8_) (rf8_ : 0 ≤ f8_.toInt) (tf8_ : f8_.toInt ≤ 1) : Met l yX12_image wsX12_image ({ frames := 2, cells := 0, slots := 0, locals := 37 }) (va_Pc [.ref (ad 0), .int 1] (wpreS adK adV dC dI cy sz w0)) (va_Qi (P_X12_image_3 ad cy B qr s1  w0) (fun u : va_W => wpost dC dI cy (va_A w0 sz) u) (va_A w0 sz)) 0 0 (va_A w0 sz) := by
  refine Met.ofW (cc := cX12_image) (maxL := 3) (ret := (some .int)) (by decide) rfl ?_
  intro p e s m args below meth c s₁ Bk hml hv
  obtain ⟨rfl, ⟨hsz, hP, hK, hD0⟩, hE, hSR⟩ := hv
  have hx := Bk.exec
  have hb := Bk.bytes
  have hr := Bk.returns
  have hlocks := Bk.notSynchronized
  have hC : CallFix p m c cX12_image 3 s _ wsX12_image RX12 := ⟨hx, hb, hml, findClass_of_methodNamed Bk.named, atoms_spec (ws := wsX12_image) Bk.pre⟩
  subst hsz
  have hD := hD0.self (sz := s.heap.size)
  generalize hAe : va_A w0 s.heap.size = A at hD hE ⊢
  have hA : ∀ q : Nat, s.heap.size ≤ q → A q := fun q h => by rw [← hAe]; exact Or.inr h
  have hw : Wd dC dI A s.heap s.heap [] w0 := ⟨hP, hD, va_S.rf⟩
  have hF : FE ksM [(80, 0, 1184), (81, 0, 4)] w0 w0 := FE.rf
  have hl := lv_entry ([.ref (ad 0), .int 1]) (n := 3) (Nat.le_of_ble_eq_true rfl)
  rw [lg_entry_eq]
  generalize (lg_sl ([.ref (ad 0), .int 1]) ++ List.replicate (3 - (lg_sl ([.ref (ad 0), .int 1])).length) Slot.unset).toArray = ls at hl ⊢
  have hl : lv_has ls 3 [(0, .ref (ad 0)), (1, .int 1)] := hl
  generalize hloc : ([] : List Loc) = locs at hw ⊢
  have hinX12 : ∀ w ∈ u_ws RX12 TX12 42, w ∈ wsX12_image := fun _ h => List.mem_cons_of_mem _ (List.mem_append_right _ (h))
  have L23 : ∀ (n23 : Nat) (v23_2 : Int32) (H : Heap) (locs : List Loc) (ls : Array Slot) (w1 : va_W), 0 ≤ v23_2.toInt → v23_2.toInt ≤ 296 → 0 ≤ f0_.toInt → 0 ≤ f2_.toInt → 0 ≤ f3_.toInt → 0 ≤ f4_.toInt → 0 ≤ f5_.toInt → f5_.toInt ≤ 1 → 0 ≤ f7_.toInt → f7_.toInt ≤ 1 → 0 ≤ f8_.toInt → f8_.toInt ≤ 1 → (v23_2.toInt ≤ 9 ∨ gi w1 21 (305) = gi w0 12 9) → (296 - v23_2.toInt).toNat < n23 → Wd dC dI A s.heap H locs w1 → TW ksM ad cy B qr 12 w1 → FE ksM [(80, 0, 1184), (81, 0, 4)] w0 w1 → gi w1 12 9 = f0_ → gi w1 21 601 = f2_ → gi w1 21 897 = f3_ → gi w1 21 9 = f4_ → gi w1 22 0 = f5_ → gi w1 22 1 = 1 → gi w1 22 2 = f7_ → gi w1 22 3 = f8_ → lv_has ls 3 [(0, .ref (ad 0)), (1, .int 1), (2, .int v23_2)] → W p l e ({ frames := 2, cells := 0, slots := 0, locals := 37 }) s m (List.toArray [.ref (ad 0), .int 1]) below meth c H locs 0 0 (MQ below (va_Qi (P_X12_image_3 ad cy B qr s1  w0) (fun u : va_W => wpost dC dI cy A u) A) (List.toArray [.ref (ad 0), .int 1]) s 0 0 A) (F0 m 23 ls []) := by
    intro n23
    induction n23 with
    | zero => intro v23_2 H locs ls w1 r2 t3 r4 r6 r8 r10 r12 t13 r16 t17 r19 t20 hcp0 hm23 hw hT hF c5 c7 c9 c11 c14 c15 c18 c21 hl; omega
    | succ n23 ih23 =>
      intro v23_2 H locs ls w1 r2 t3 r4 r6 r8 r10 r12 t13 r16 t17 r19 t20 hcp0 hm23 hw hT hF c5 c7 c9 c11 c14 c15 c18 c21 hl
      refine lv_iload_n hx hb dX12_image_23 rfl (lv_at hl 2 rfl) ?_
      refine lv_sipush (v := 296) hx hb dX12_image_24 (by decide) ?_
      refine lv_icmp_ge (tgt := 54) hx hb dX12_image_27 (by decide) (fun c22 => ?_) (fun c22 => ?_)
      · have c22 : (296 : Int) ≤ v23_2.toInt := wk_le.mp c22
        refine lv_aload_n hx hb dX12_image_54 rfl (lv_at hl 0 rfl) ?_
        refine tk_getA hC hK hw hT hinX12 kM_at0 (by decide) rfl 26 (by decide) (List.mem_of_getElem? (i := 4) rfl) rfl rfl dX12_image_55 ?_
        refine lv_iconst (v := 5) hx hb dX12_image_58 (by decide) ?_
        refine tk_ialdR hC hK hw hT kM_at12 rfl (by decide) (by decide) dX12_image_59 (fun x23 c24 Ex23 => ?_)
        have bx23 := tk_rgI rfl 5 1 1 0 4 (by decide +kernel) ⟨0, by decide, by decide⟩ Ex23
        have c24 : gi w1 12 5 = x23 := c24
        exact tk_iret hC hr hlocks hK ⟨hT, hF, ⟨(show 0 ≤ x23.toInt by omega), (show x23.toInt ≤ 4 by omega), (hcp0.resolve_left (by omega)), (by simp only [c15, (show (1 : Int32).toInt = 1 by decide)] <;> omega), (by simp only [cf0_, c5] <;> omega), (by simp only [cf4_, c11] <;> omega), (by simp only [cf2_, c7] <;> omega), (by simp only [cf3_, c9] <;> omega), (by simp only [cf5_, c14] <;> omega), (by simp only [cf7_, c18] <;> omega), (by simp only [cf8_, c21] <;> omega)⟩⟩ hw dX12_image_60
      · have c22 : v23_2.toInt < (296 : Int) := wk_leF c22
        refine lv_aload_n hx hb dX12_image_30 rfl (lv_at hl 0 rfl) ?_
        refine tk_getA hC hK hw hT hinX12 kM_at0 (by decide) rfl 40 (by decide) (List.mem_of_getElem? (i := 3) rfl) rfl rfl dX12_image_31 ?_
        refine lv_sipush (v := 296) hx hb dX12_image_34 (by decide) ?_
        refine lv_iload_n hx hb dX12_image_37 rfl (lv_at hl 1 rfl) ?_
        refine lv_imul hx hb dX12_image_38 ?_
        refine wk_top 296 (by decide) ?_
        refine lv_iload_n hx hb dX12_image_39 rfl (lv_at hl 2 rfl) ?_
        refine lv_iadd hx hb dX12_image_40 ?_
        refine lv_topi (fun x25 ex25 => ?_)
        have ex25 : x25.toInt = (296 : Int) + v23_2.toInt := by rw [ex25]; exact wk_add (show (-2147483648) ≤ (296 : Int) + v23_2.toInt by omega) (show (296 : Int) + v23_2.toInt ≤ 2147483647 by omega)
        refine lv_aload_n hx hb dX12_image_41 rfl (lv_at hl 0 rfl) ?_
        refine tk_getA hC hK hw hT hinX12 kM_at0 (by decide) rfl 26 (by decide) (List.mem_of_getElem? (i := 4) rfl) rfl rfl dX12_image_42 ?_
        refine lv_iload_n hx hb dX12_image_45 rfl (lv_at hl 2 rfl) ?_
        refine tk_ialdR hC hK hw hT kM_at12 rfl (show 0 ≤ v23_2.toInt by omega) (show v23_2.toInt < 296 by omega) dX12_image_46 (fun x26 c27 Ex26 => ?_)
        have lEx26 : gi w1 12 (v23_2.toInt).toNat = x26 := c27
        have c27 : gi w1 12 (v23_2.toInt).toNat = x26 := (congrArg (gi w1 12) (congrArg Int.toNat (show v23_2.toInt = v23_2.toInt by omega))).trans c27
        have hF0 := hF
        refine tk_iastR hC hK hw hT kM_at21 (by decide) rfl (show 0 ≤ x25.toInt by omega) (show x25.toInt < 1184 by omega) (tk_rgC rfl rfl (show v23_2.toInt.toNat % 296 = x25.toInt.toNat % 296 by omega) Ex26) dX12_image_47 (fun H locs w28 hw hT k30 c29 => ?_)
        have hF := hF.put kM_at21 (inE_of (a := 0) (b := 1184) (by decide) (show 0 ≤ x25.toInt.toNat by omega) (show x25.toInt.toNat ≤ 1184 by omega)) k30
        have c31 := k30.gi (Or.inl (tk_ne kM_at12 kM_at21 (by decide))) c5
        have c32 := k30.gi (Or.inr (show 601 ≠ x25.toInt.toNat by omega)) c7
        have c33 := k30.gi (Or.inr (show 897 ≠ x25.toInt.toNat by omega)) c9
        have c34 := k30.gi (Or.inr (show 9 ≠ x25.toInt.toNat by omega)) c11
        have c35 := k30.gi (Or.inl (tk_ne kM_at22 kM_at21 (by decide))) c14
        have c36 := k30.gi (Or.inl (tk_ne kM_at22 kM_at21 (by decide))) c15
        have c37 := k30.gi (Or.inl (tk_ne kM_at22 kM_at21 (by decide))) c18
        have c38 := k30.gi (Or.inl (tk_ne kM_at22 kM_at21 (by decide))) c21
        have c39 := k30.gi (Or.inl (tk_ne kM_at12 kM_at21 (by decide))) c27
        obtain ⟨x40, ex40⟩ : ∃ y : Int32, y = v23_2 + Int32.ofInt 1 := ⟨_, rfl⟩
        refine lv_iinc (v := x40) (lv' := [(2, .int x40), (0, .ref (ad 0)), (1, .int 1)]) hx hb dX12_image_48 hl (k := 2) rfl ex40.symm (by decide) rfl (fun ls hl => ?_)
        have ex40 : x40.toInt = v23_2.toInt + 1 := by rw [ex40]; exact wk_add (y := 1) (show -2147483648 ≤ v23_2.toInt + 1 by omega) (show v23_2.toInt + 1 ≤ 2147483647 by omega)
        refine lv_goto (tgt := 23) hx hb dX12_image_51 (by decide) ?_
        exact ih23 x40 H locs ls w28 (show 0 ≤ x40.toInt by omega) (show x40.toInt ≤ 296 by omega) (show 0 ≤ f0_.toInt by omega) (show 0 ≤ f2_.toInt by omega) (show 0 ≤ f3_.toInt by omega) (show 0 ≤ f4_.toInt by omega) (show 0 ≤ f5_.toInt by omega) (show f5_.toInt ≤ 1 by omega) (show 0 ≤ f7_.toInt by omega) (show f7_.toInt ≤ 1 by omega) (show 0 ≤ f8_.toInt by omega) (show f8_.toInt ≤ 1 by omega) (copy_at (d := 296) (by first | rfl | omega) hcp0 k30 (show x25.toInt = v23_2.toInt + 296 by omega) c29 lEx26 (hF0.gi kM_at12 rfl rfl) (by omega) (by omega) (by omega)) (show (296 - x40.toInt).toNat < n23 by omega) hw hT hF c31 c32 c33 c34 c35 c36 c37 c38 (lv_sub hl [1, 2, 0] rfl)
  refine lv_iload_n hx hb dX12_image_0 rfl (lv_at hl 1 rfl) ?_
  refine lv_i2l hx hb dX12_image_1 rfl ?_
  refine wk_topl 1 (by decide) ?_
  refine lv_lconst (v := 0) hx hb dX12_image_2 (by decide) ?_
  refine lv_ldc2 (v := 3) hx hb hC.2.2.2.1 (hC.2.2.2.2 _ (List.mem_of_getElem? (i := 1) rfl)) dX12_image_3 ?_
  refine tk_Si hC hK hw hT hA hE hSR (k_X12_in_21 l adK adV dC dI cy ad B (by omega) (by omega) qr s1    w0 s.heap.size hT ) (va_cwS 3 hC.2.2.2.2 gX12_image_X12_in rfl rfl rfl (by decide +kernel) ⟨Nat.le_of_ble_eq_true rfl, Nat.le_of_ble_eq_true rfl⟩) rfl hl.1 rfl (Nat.le_of_ble_eq_true rfl) dX12_image_6 (fun r41 w43 H locs hp42 hw => ?_)
  obtain ⟨rfl, hg45⟩ := hp42
  obtain rfl := hg45
  refine lv_if_ne (tgt := 14) hx hb dX12_image_9 (by decide) (fun _ => ?_) (fun c => absurd c (by decide))
  refine lv_aload_n hx hb dX12_image_14 rfl (lv_at hl 0 rfl) ?_
  refine tk_getA hC hK hw hT hinX12 kM_at0 (by decide) rfl 41 (by decide) (List.mem_of_getElem? (i := 2) rfl) rfl rfl dX12_image_15 ?_
  refine lv_iload_n hx hb dX12_image_18 rfl (lv_at hl 1 rfl) ?_
  refine lv_iconst (v := 1) hx hb dX12_image_19 (by decide) ?_
  refine tk_zast hC hK hw hT kM_at22 (by decide) rfl rfl (by decide) (by decide) (by decide) (by decide) dX12_image_20 (fun H locs w46 hw hT k48 c47 => ?_)
  have hF := hF.put kM_at22 (inE_of (a := 0) (b := 4) (by decide) (by decide) (by decide)) k48
  have c49 := k48.gi (Or.inl (tk_ne kM_at12 kM_at22 (by decide))) cf0_
  have c50 := k48.gi (Or.inl (tk_ne kM_at21 kM_at22 (by decide))) cf1_
  have c51 := k48.gi (Or.inl (tk_ne kM_at21 kM_at22 (by decide))) cf2_
  have c52 := k48.gi (Or.inl (tk_ne kM_at21 kM_at22 (by decide))) cf3_
  have c53 := k48.gi (Or.inl (tk_ne kM_at21 kM_at22 (by decide))) cf4_
  have c54 := k48.gi (Or.inr (by decide)) cf5_
  have c55 := k48.gi (Or.inr (by decide)) cf7_
  have c56 := k48.gi (Or.inr (by decide)) cf8_
  have c47 : gi w46 22 1 = 1 := c47
  refine lv_iconst (v := 0) hx hb dX12_image_21 (by decide) ?_
  refine lv_istore_n (lv' := [(2, .int 0), (0, .ref (ad 0)), (1, .int 1)]) hx hb dX12_image_22 rfl hl (by decide) rfl (fun ls hl => ?_)
  exact L23 ((296 - (0 : Int)).toNat + 1) 0 H locs ls w46 (by decide) (by decide) (show 0 ≤ f0_.toInt by omega) (show 0 ≤ f2_.toInt by omega) (show 0 ≤ f3_.toInt by omega) (show 0 ≤ f4_.toInt by omega) (show 0 ≤ f5_.toInt by omega) (show f5_.toInt ≤ 1 by omega) (show 0 ≤ f7_.toInt by omega) (show f7_.toInt ≤ 1 by omega) (show 0 ≤ f8_.toInt by omega) (show f8_.toInt ≤ 1 by omega) (show ((0 : Int) ≤ 9 ∨ gi w46 21 (305) = gi w0 12 9) from Or.inl (by omega)) (Nat.lt_succ_self _) hw hT hF c49 c51 c52 c53 c54 c47 c55 c56 (lv_sub hl [1, 2, 0] rfl)
abbrev P_X12_back_3 (ad : Nat → Nat) (cy : Nat → ClassId) (B : Int) (qr : Nat) (s1 : Int)  (w0 : va_W) : Int32 → va_W → Prop := fun r u => TW ksM ad cy B qr 12 u ∧ FE ksM [(71, 0, 295)] w0 u ∧ ((0 ≤ r.toInt ∧ r.toInt ≤ 4 ∧ gi u 12 9 = gi w0 21 (305) ∧ (1 ≤ (gi w0 22 1).toInt) ∧ ((gi u 21 9).toInt = (gi w0 21 9).toInt) ∧ ((gi u 21 305).toInt = (gi w0 21 305).toInt) ∧ ((gi u 21 601).toInt = (gi w0 21 601).toInt) ∧ ((gi u 21 897).toInt = (gi w0 21 897).toInt) ∧ ((gi u 22 0).toInt = (gi w0 22 0).toInt) ∧ ((gi u 22 1).toInt = (gi w0 22 1).toInt) ∧ ((gi u 22 2).toInt = (gi w0 22 2).toInt) ∧ ((gi u 22 3).toInt = (gi w0 22 3).toInt)) ∨ (r = (-1) ∧ ((gi w0 22 1).toInt = 0) ∧ ((gi u 12 9).toInt = (gi w0 12 9).toInt) ∧ ((gi u 21 9).toInt = (gi w0 21 9).toInt) ∧ ((gi u 21 305).toInt = (gi w0 21 305).toInt) ∧ ((gi u 21 601).toInt = (gi w0 21 601).toInt) ∧ ((gi u 21 897).toInt = (gi w0 21 897).toInt) ∧ ((gi u 22 0).toInt = (gi w0 22 0).toInt) ∧ ((gi u 22 1).toInt = (gi w0 22 1).toInt) ∧ ((gi u 22 2).toInt = (gi w0 22 2).toInt) ∧ ((gi u 22 3).toInt = (gi w0 22 3).toInt)))
set_option maxHeartbeats 4000000 in
set_option maxRecDepth 100000 in
theorem k_X12_back_3 (l : Launch) (adK adV : Nat → Nat) (dC : Nat → ClassId) (dI : Nat → Nat → Nat) (cy : Nat → ClassId) (ad : Nat → Nat) (B : Int) (hB0 : 100000 ≤ B) (hB1 : B ≤ 1073741824) (qr : Nat) (s1 : Int)   (w0 : va_W) (sz : Nat) (hT : TW ksM ad cy B qr 12 w0) (f0_ : Int32) (cf0_ : gi w0 12 9 = f0_) (rf0_ : 0 ≤ f0_.toInt) (tf0_ : f0_.toInt ≤ 2147483647) (f1_ : Int32) (cf1_ : gi w0 21 305 = f1_) (rf1_ : 0 ≤ f1_.toInt) (tf1_ : f1_.toInt ≤ 2147483647) (f2_ : Int32) (cf2_ : gi w0 21 601 = f2_) (rf2_ : 0 ≤ f2_.toInt) (tf2_ : f2_.toInt ≤ 2147483647) (f3_ : Int32) (cf3_ : gi w0 21 897 = f3_) (rf3_ : 0 ≤ f3_.toInt) (tf3_ : f3_.toInt ≤ 2147483647) (f4_ : Int32) (cf4_ : gi w0 21 9 = f4_) (rf4_ : 0 ≤ f4_.toInt) (tf4_ : f4_.toInt ≤ 2147483647) (f5_ : Int32) (cf5_ : gi w0 22 0 = f5_) (rf5_ : 0 ≤ f5_.toInt) (tf5_ : f5_.toInt ≤ 1) (f6_ : Int32) (cf6_ : gi w0 22 1 = f6_) (rf6_ : 0 ≤ f6_.toInt) (tf6_ : f6_.toInt ≤ 1) (f7_ : Int32) (cf7_ : gi w0 22 2 = f7_) (rf7_ : 0 ≤ f7_.toInt) (tf7_ : f7_.toInt ≤ 1) (f8_ : Int32) (cf8_ : gi w0 22 3 = f8_) (rf8_ : 0 ≤ f8_.toInt) (tf8_ : f8_.toInt ≤ 1) : Met l yX12_back wsX12_back ({ frames := 2, cells := 0, slots := 0, locals := 37 }) (va_Pc [.ref (ad 0), .int 1] (wpreS adK adV dC dI cy sz w0)) (va_Qi (P_X12_back_3 ad cy B qr s1  w0) (fun u : va_W => wpost dC dI cy (va_A w0 sz) u) (va_A w0 sz)) 0 0 (va_A w0 sz) := by
  refine Met.ofW (cc := cX12_back) (maxL := 3) (ret := (some .int)) (by decide) rfl ?_
  intro p e s m args below meth c s₁ Bk hml hv
  obtain ⟨rfl, ⟨hsz, hP, hK, hD0⟩, hE, hSR⟩ := hv
  have hx := Bk.exec
  have hb := Bk.bytes
  have hr := Bk.returns
  have hlocks := Bk.notSynchronized
  have hC : CallFix p m c cX12_back 3 s _ wsX12_back RX12 := ⟨hx, hb, hml, findClass_of_methodNamed Bk.named, atoms_spec (ws := wsX12_back) Bk.pre⟩
  subst hsz
  have hD := hD0.self (sz := s.heap.size)
  generalize hAe : va_A w0 s.heap.size = A at hD hE ⊢
  have hA : ∀ q : Nat, s.heap.size ≤ q → A q := fun q h => by rw [← hAe]; exact Or.inr h
  have hw : Wd dC dI A s.heap s.heap [] w0 := ⟨hP, hD, va_S.rf⟩
  have hF : FE ksM [(71, 0, 295)] w0 w0 := FE.rf
  have hl := lv_entry ([.ref (ad 0), .int 1]) (n := 3) (Nat.le_of_ble_eq_true rfl)
  rw [lg_entry_eq]
  generalize (lg_sl ([.ref (ad 0), .int 1]) ++ List.replicate (3 - (lg_sl ([.ref (ad 0), .int 1])).length) Slot.unset).toArray = ls at hl ⊢
  have hl : lv_has ls 3 [(0, .ref (ad 0)), (1, .int 1)] := hl
  generalize hloc : ([] : List Loc) = locs at hw ⊢
  have hinX12 : ∀ w ∈ u_ws RX12 TX12 42, w ∈ wsX12_back := fun _ h => List.mem_cons_of_mem _ (List.mem_append_right _ (h))
  have J21 : ∀ (H : Heap) (locs : List Loc) (ls : Array Slot) (w1 : va_W), 0 ≤ f0_.toInt → 0 ≤ f1_.toInt → 0 ≤ f2_.toInt → 0 ≤ f3_.toInt → 0 ≤ f4_.toInt → 0 ≤ f5_.toInt → f5_.toInt ≤ 1 → 0 ≤ f7_.toInt → f7_.toInt ≤ 1 → 0 ≤ f8_.toInt → f8_.toInt ≤ 1 → (f5_.toInt = f5_.toInt) → ((0 : Int) = f6_.toInt) → (f7_.toInt = f7_.toInt) → (f8_.toInt = f8_.toInt) → Wd dC dI A s.heap H locs w1 → TW ksM ad cy B qr 12 w1 → FE ksM [(71, 0, 295)] w0 w1 → gi w1 12 9 = f0_ → gi w1 21 305 = f1_ → gi w1 21 601 = f2_ → gi w1 21 897 = f3_ → gi w1 21 9 = f4_ → gi w1 22 0 = f5_ → gi w1 22 1 = 0 → gi w1 22 2 = f7_ → gi w1 22 3 = f8_ → lv_has ls 3 [(0, .ref (ad 0)), (1, .int 1)] → W p l e ({ frames := 2, cells := 0, slots := 0, locals := 37 }) s m (List.toArray [.ref (ad 0), .int 1]) below meth c H locs 0 0 (MQ below (va_Qi (P_X12_back_3 ad cy B qr s1  w0) (fun u : va_W => wpost dC dI cy A u) A) (List.toArray [.ref (ad 0), .int 1]) s 0 0 A) (F0 m 21 ls []) := by
    intro H locs ls w1 r2 r4 r6 r8 r10 r12 t13 r16 t17 r19 t20 hcr21_0 hcr21_1 hcr21_2 hcr21_3 hw hT hF c3 c5 c7 c9 c11 c14 c15 c18 c21 hl
    refine lv_iconst (v := (-1)) hx hb dX12_back_21 (by decide) ?_
    exact tk_iret hC hr hlocks hK ⟨hT, hF, (Or.inr ⟨rfl, (by simp only [cf6_] <;> omega), (by simp only [cf0_, c3] <;> omega), (by simp only [cf4_, c11] <;> omega), (by simp only [cf1_, c5] <;> omega), (by simp only [cf2_, c7] <;> omega), (by simp only [cf3_, c9] <;> omega), (by simp only [cf5_, c14] <;> omega), (by simp only [cf6_, c15, (show (0 : Int32).toInt = 0 by decide)] <;> omega), (by simp only [cf7_, c18] <;> omega), (by simp only [cf8_, c21] <;> omega)⟩)⟩ hw dX12_back_22
  have L25 : ∀ (n25 : Nat) (v25_2 : Int32) (f25_12_9 : Int32) (H : Heap) (locs : List Loc) (ls : Array Slot) (w22 : va_W), 0 ≤ v25_2.toInt → v25_2.toInt ≤ 296 → 0 ≤ f25_12_9.toInt → 0 ≤ f1_.toInt → 0 ≤ f2_.toInt → 0 ≤ f3_.toInt → 0 ≤ f4_.toInt → 0 ≤ f5_.toInt → f5_.toInt ≤ 1 → 0 ≤ f7_.toInt → f7_.toInt ≤ 1 → 0 ≤ f8_.toInt → f8_.toInt ≤ 1 → (v25_2.toInt ≤ 9 ∨ gi w22 12 (9) = gi w0 21 (305)) → (f5_.toInt = f5_.toInt) → ((1 : Int) = f6_.toInt) → (f7_.toInt = f7_.toInt) → (f8_.toInt = f8_.toInt) → (296 - v25_2.toInt).toNat < n25 → Wd dC dI A s.heap H locs w22 → TW ksM ad cy B qr 12 w22 → FE ksM [(71, 0, 295)] w0 w22 → gi w22 12 9 = f25_12_9 → gi w22 21 305 = f1_ → gi w22 21 601 = f2_ → gi w22 21 897 = f3_ → gi w22 21 9 = f4_ → gi w22 22 0 = f5_ → gi w22 22 1 = 1 → gi w22 22 2 = f7_ → gi w22 22 3 = f8_ → lv_has ls 3 [(0, .ref (ad 0)), (1, .int 1), (2, .int v25_2)] → W p l e ({ frames := 2, cells := 0, slots := 0, locals := 37 }) s m (List.toArray [.ref (ad 0), .int 1]) below meth c H locs 0 0 (MQ below (va_Qi (P_X12_back_3 ad cy B qr s1  w0) (fun u : va_W => wpost dC dI cy A u) A) (List.toArray [.ref (ad 0), .int 1]) s 0 0 A) (F0 m 25 ls []) := by
    intro n25
    induction n25 with
    | zero => intro v25_2 f25_12_9 H locs ls w22 r23 t24 r25 r27 r29 r31 r33 r35 t36 r39 t40 r42 t43 hcp0 hcr25_0 hcr25_1 hcr25_2 hcr25_3 hm25 hw hT hF c26 c28 c30 c32 c34 c37 c38 c41 c44 hl; omega
    | succ n25 ih25 =>
      intro v25_2 f25_12_9 H locs ls w22 r23 t24 r25 r27 r29 r31 r33 r35 t36 r39 t40 r42 t43 hcp0 hcr25_0 hcr25_1 hcr25_2 hcr25_3 hm25 hw hT hF c26 c28 c30 c32 c34 c37 c38 c41 c44 hl
      refine lv_iload_n hx hb dX12_back_25 rfl (lv_at hl 2 rfl) ?_
      refine lv_sipush (v := 296) hx hb dX12_back_26 (by decide) ?_
      refine lv_icmp_ge (tgt := 56) hx hb dX12_back_29 (by decide) (fun c45 => ?_) (fun c45 => ?_)
      · have c45 : (296 : Int) ≤ v25_2.toInt := wk_le.mp c45
        refine lv_aload_n hx hb dX12_back_56 rfl (lv_at hl 0 rfl) ?_
        refine tk_getA hC hK hw hT hinX12 kM_at0 (by decide) rfl 26 (by decide) (List.mem_of_getElem? (i := 3) rfl) rfl rfl dX12_back_57 ?_
        refine lv_iconst (v := 5) hx hb dX12_back_60 (by decide) ?_
        refine tk_ialdR hC hK hw hT kM_at12 rfl (by decide) (by decide) dX12_back_61 (fun x46 c47 Ex46 => ?_)
        have bx46 := tk_rgI rfl 5 1 1 0 4 (by decide +kernel) ⟨0, by decide, by decide⟩ Ex46
        have c47 : gi w22 12 5 = x46 := c47
        exact tk_iret hC hr hlocks hK ⟨hT, hF, (Or.inl ⟨(show 0 ≤ x46.toInt by omega), (show x46.toInt ≤ 4 by omega), (hcp0.resolve_left (by omega)), (by simp only [cf6_] <;> omega), (by simp only [cf4_, c34] <;> omega), (by simp only [cf1_, c28] <;> omega), (by simp only [cf2_, c30] <;> omega), (by simp only [cf3_, c32] <;> omega), (by simp only [cf5_, c37] <;> omega), (by simp only [cf6_, c38, (show (1 : Int32).toInt = 1 by decide)] <;> omega), (by simp only [cf7_, c41] <;> omega), (by simp only [cf8_, c44] <;> omega)⟩)⟩ hw dX12_back_62
      · have c45 : v25_2.toInt < (296 : Int) := wk_leF c45
        refine lv_aload_n hx hb dX12_back_32 rfl (lv_at hl 0 rfl) ?_
        refine tk_getA hC hK hw hT hinX12 kM_at0 (by decide) rfl 26 (by decide) (List.mem_of_getElem? (i := 3) rfl) rfl rfl dX12_back_33 ?_
        refine lv_iload_n hx hb dX12_back_36 rfl (lv_at hl 2 rfl) ?_
        refine lv_aload_n hx hb dX12_back_37 rfl (lv_at hl 0 rfl) ?_
        refine tk_getA hC hK hw hT hinX12 kM_at0 (by decide) rfl 40 (by decide) (List.mem_of_getElem? (i := 4) rfl) rfl rfl dX12_back_38 ?_
        refine lv_sipush (v := 296) hx hb dX12_back_41 (by decide) ?_
        refine lv_iload_n hx hb dX12_back_44 rfl (lv_at hl 1 rfl) ?_
        refine lv_imul hx hb dX12_back_45 ?_
        refine wk_top 296 (by decide) ?_
        refine lv_iload_n hx hb dX12_back_46 rfl (lv_at hl 2 rfl) ?_
        refine lv_iadd hx hb dX12_back_47 ?_
        refine lv_topi (fun x48 ex48 => ?_)
        have ex48 : x48.toInt = (296 : Int) + v25_2.toInt := by rw [ex48]; exact wk_add (show (-2147483648) ≤ (296 : Int) + v25_2.toInt by omega) (show (296 : Int) + v25_2.toInt ≤ 2147483647 by omega)
        refine tk_ialdR hC hK hw hT kM_at21 rfl (show 0 ≤ x48.toInt by omega) (show x48.toInt < 1184 by omega) dX12_back_48 (fun x49 c50 Ex49 => ?_)
        have lEx49 : gi w22 21 (x48.toInt).toNat = x49 := c50
        have hF0 := hF
        refine tk_iastR hC hK hw hT kM_at12 (by decide) rfl (show 0 ≤ v25_2.toInt by omega) (show v25_2.toInt < 296 by omega) (tk_rgC rfl rfl (show x48.toInt.toNat % 296 = v25_2.toInt.toNat % 296 by omega) Ex49) dX12_back_49 (fun H locs w51 hw hT k53 c52 => ?_)
        have hF := hF.put kM_at12 (inE_of (a := 0) (b := 295) (by decide) (show 0 ≤ v25_2.toInt.toNat by omega) (show v25_2.toInt.toNat ≤ 295 by omega)) k53
        have c54 := k53.gi (Or.inl (tk_ne kM_at21 kM_at12 (by decide))) c28
        have c55 := k53.gi (Or.inl (tk_ne kM_at21 kM_at12 (by decide))) c30
        have c56 := k53.gi (Or.inl (tk_ne kM_at21 kM_at12 (by decide))) c32
        have c57 := k53.gi (Or.inl (tk_ne kM_at21 kM_at12 (by decide))) c34
        have c58 := k53.gi (Or.inl (tk_ne kM_at22 kM_at12 (by decide))) c37
        have c59 := k53.gi (Or.inl (tk_ne kM_at22 kM_at12 (by decide))) c38
        have c60 := k53.gi (Or.inl (tk_ne kM_at22 kM_at12 (by decide))) c41
        have c61 := k53.gi (Or.inl (tk_ne kM_at22 kM_at12 (by decide))) c44
        obtain ⟨x62, ex62⟩ : ∃ y : Int32, y = v25_2 + Int32.ofInt 1 := ⟨_, rfl⟩
        refine lv_iinc (v := x62) (lv' := [(2, .int x62), (0, .ref (ad 0)), (1, .int 1)]) hx hb dX12_back_50 hl (k := 2) rfl ex62.symm (by decide) rfl (fun ls hl => ?_)
        have ex62 : x62.toInt = v25_2.toInt + 1 := by rw [ex62]; exact wk_add (y := 1) (show -2147483648 ≤ v25_2.toInt + 1 by omega) (show v25_2.toInt + 1 ≤ 2147483647 by omega)
        refine lv_goto (tgt := 25) hx hb dX12_back_53 (by decide) ?_
        obtain ⟨x63, c64, rx63, tx63⟩ := hT.rdR (lo := 0) (hi := 2147483647) (i := 9) kM_at12 rfl rfl (by decide) rfl rfl
        exact ih25 x62 x63 H locs ls w51 (show 0 ≤ x62.toInt by omega) (show x62.toInt ≤ 296 by omega) (show 0 ≤ x63.toInt by omega) (show 0 ≤ f1_.toInt by omega) (show 0 ≤ f2_.toInt by omega) (show 0 ≤ f3_.toInt by omega) (show 0 ≤ f4_.toInt by omega) (show 0 ≤ f5_.toInt by omega) (show f5_.toInt ≤ 1 by omega) (show 0 ≤ f7_.toInt by omega) (show f7_.toInt ≤ 1 by omega) (show 0 ≤ f8_.toInt by omega) (show f8_.toInt ≤ 1 by omega) (copy_at2 (d := 296) (by first | rfl | omega) hcp0 k53 (show x48.toInt = v25_2.toInt + 296 by omega) c52 lEx49 (hF0.gi kM_at21 rfl rfl) (by omega) (by omega) (by omega)) (show f5_.toInt = f5_.toInt by omega) (show (1 : Int) = f6_.toInt by omega) (show f7_.toInt = f7_.toInt by omega) (show f8_.toInt = f8_.toInt by omega) (show (296 - x62.toInt).toNat < n25 by omega) hw hT hF c64 c54 c55 c56 c57 c58 c59 c60 c61 (lv_sub hl [1, 2, 0] rfl)
  refine lv_iload_n hx hb dX12_back_0 rfl (lv_at hl 1 rfl) ?_
  refine lv_i2l hx hb dX12_back_1 rfl ?_
  refine wk_topl 1 (by decide) ?_
  refine lv_lconst (v := 0) hx hb dX12_back_2 (by decide) ?_
  refine lv_ldc2 (v := 3) hx hb hC.2.2.2.1 (hC.2.2.2.2 _ (List.mem_of_getElem? (i := 1) rfl)) dX12_back_3 ?_
  refine tk_Si hC hK hw hT hA hE hSR (k_X12_in_21 l adK adV dC dI cy ad B (by omega) (by omega) qr s1    w0 s.heap.size hT ) (va_cwS 3 hC.2.2.2.2 gX12_back_X12_in rfl rfl rfl (by decide +kernel) ⟨Nat.le_of_ble_eq_true rfl, Nat.le_of_ble_eq_true rfl⟩) rfl hl.1 rfl (Nat.le_of_ble_eq_true rfl) dX12_back_6 (fun r65 w67 H locs hp66 hw => ?_)
  obtain ⟨rfl, hg69⟩ := hp66
  obtain rfl := hg69
  refine lv_if_eq (tgt := 21) hx hb dX12_back_9 (by decide) (fun c => absurd c (by decide)) (fun _ => ?_)
  refine lv_aload_n hx hb dX12_back_12 rfl (lv_at hl 0 rfl) ?_
  refine tk_getA hC hK hw hT hinX12 kM_at0 (by decide) rfl 41 (by decide) (List.mem_of_getElem? (i := 2) rfl) rfl rfl dX12_back_13 ?_
  refine lv_iload_n hx hb dX12_back_16 rfl (lv_at hl 1 rfl) ?_
  refine tk_zald hC hK hw hT kM_at22 rfl rfl (by decide) (by decide) dX12_back_17 (fun x70 c71 rx70 tx70 => ?_)
  refine wk_top f6_ (c71.symm.trans cf6_) ?_
  refine lv_if_ne (tgt := 23) hx hb dX12_back_18 (by decide) (fun c72 => ?_) (fun c72 => ?_)
  · have c72 : ¬ f6_.toInt = (0 : Int) := wk_eqF c72
    refine lv_iconst (v := 0) hx hb dX12_back_23 (by decide) ?_
    refine lv_istore_n (lv' := [(2, .int 0), (0, .ref (ad 0)), (1, .int 1)]) hx hb dX12_back_24 rfl hl (by decide) rfl (fun ls hl => ?_)
    obtain rfl : f6_ = 1 := wk_eq.mpr (show f6_.toInt = 1 by omega)
    exact L25 ((296 - (0 : Int)).toNat + 1) 0 f0_ H locs ls w0 (by decide) (by decide) (show 0 ≤ f0_.toInt by omega) (show 0 ≤ f1_.toInt by omega) (show 0 ≤ f2_.toInt by omega) (show 0 ≤ f3_.toInt by omega) (show 0 ≤ f4_.toInt by omega) (show 0 ≤ f5_.toInt by omega) (show f5_.toInt ≤ 1 by omega) (show 0 ≤ f7_.toInt by omega) (show f7_.toInt ≤ 1 by omega) (show 0 ≤ f8_.toInt by omega) (show f8_.toInt ≤ 1 by omega) (show ((0 : Int) ≤ 9 ∨ gi w0 12 (9) = gi w0 21 (305)) from Or.inl (by omega)) (show f5_.toInt = f5_.toInt by omega) (show (1 : Int) = (1 : Int) by omega) (show f7_.toInt = f7_.toInt by omega) (show f8_.toInt = f8_.toInt by omega) (Nat.lt_succ_self _) hw hT hF cf0_ cf1_ cf2_ cf3_ cf4_ cf5_ cf6_ cf7_ cf8_ (lv_sub hl [1, 2, 0] rfl)
  · have c72 : f6_.toInt = (0 : Int) := wk_eq.mp c72
    obtain rfl : f6_ = 0 := wk_eq.mpr (show f6_.toInt = 0 by omega)
    exact J21  H locs ls w0 (show 0 ≤ f0_.toInt by omega) (show 0 ≤ f1_.toInt by omega) (show 0 ≤ f2_.toInt by omega) (show 0 ≤ f3_.toInt by omega) (show 0 ≤ f4_.toInt by omega) (show 0 ≤ f5_.toInt by omega) (show f5_.toInt ≤ 1 by omega) (show 0 ≤ f7_.toInt by omega) (show f7_.toInt ≤ 1 by omega) (show 0 ≤ f8_.toInt by omega) (show f8_.toInt ≤ 1 by omega) (show f5_.toInt = f5_.toInt by omega) (show (0 : Int) = (0 : Int) by omega) (show f7_.toInt = f7_.toInt by omega) (show f8_.toInt = f8_.toInt by omega)  hw hT hF cf0_ cf1_ cf2_ cf3_ cf4_ cf5_ cf6_ cf7_ cf8_ (lv_sub hl [0, 1] rfl)
abbrev P_X12_in_22 (ad : Nat → Nat) (cy : Nat → ClassId) (B : Int) (qr : Nat) (s1 : Int)  (w0 : va_W) : Int32 → va_W → Prop := fun r u => w0 = u ∧ ((r = 1))
set_option maxHeartbeats 4000000 in
set_option maxRecDepth 100000 in
theorem k_X12_in_22 (l : Launch) (adK adV : Nat → Nat) (dC : Nat → ClassId) (dI : Nat → Nat → Nat) (cy : Nat → ClassId) (ad : Nat → Nat) (B : Int) (hB0 : 100000 ≤ B) (hB1 : B ≤ 1073741824) (qr : Nat) (s1 : Int)   (w0 : va_W) (sz : Nat) (hT : TW ksM ad cy B qr 12 w0)  : Met l yX12_in wsX12_in ({ frames := 1, cells := 0, slots := 0, locals := 12 }) (va_Pc [.long 2, .long 0, .long 3] (wpreS adK adV dC dI cy sz w0)) (va_Qi (P_X12_in_22 ad cy B qr s1  w0) (fun u : va_W => wpost dC dI cy (va_A w0 sz) u) (va_A w0 sz)) 0 0 (va_A w0 sz) := by
  refine Met.ofW (cc := cX12_in) (maxL := 6) (ret := (some .boolean)) (by decide) rfl ?_
  intro p e s m args below meth c s₁ Bk hml hv
  obtain ⟨rfl, ⟨hsz, hP, hK, hD0⟩, hE, hSR⟩ := hv
  have hx := Bk.exec
  have hb := Bk.bytes
  have hr := Bk.returns
  have hlocks := Bk.notSynchronized
  have hC : CallFix p m c cX12_in 6 s _ wsX12_in RX12 := ⟨hx, hb, hml, findClass_of_methodNamed Bk.named, atoms_spec (ws := wsX12_in) Bk.pre⟩
  subst hsz
  have hD := hD0.self (sz := s.heap.size)
  generalize hAe : va_A w0 s.heap.size = A at hD hE ⊢
  have hA : ∀ q : Nat, s.heap.size ≤ q → A q := fun q h => by rw [← hAe]; exact Or.inr h
  have hw : Wd dC dI A s.heap s.heap [] w0 := ⟨hP, hD, va_S.rf⟩
  have hF : FE ksM ([] : List (Nat × Nat × Nat)) w0 w0 := FE.rf
  have hl := lv_entry ([.long 2, .long 0, .long 3]) (n := 6) (Nat.le_of_ble_eq_true rfl)
  rw [lg_entry_eq]
  generalize (lg_sl ([.long 2, .long 0, .long 3]) ++ List.replicate (6 - (lg_sl ([.long 2, .long 0, .long 3])).length) Slot.unset).toArray = ls at hl ⊢
  have hl : lv_has ls 6 [(0, .long 2), (2, .long 0), (4, .long 3)] := hl
  generalize hloc : ([] : List Loc) = locs at hw ⊢
  refine lv_lload_n hx hb dX12_in_0 rfl (lv_at hl 0 rfl) ?_
  refine lv_lload_n hx hb dX12_in_1 rfl (lv_at hl 1 rfl) ?_
  refine W.lcmp hx hb dX12_in_2 ?_
  refine wk_top 1 (by decide) ?_
  refine lv_if_lt (tgt := 17) hx hb dX12_in_3 (by decide) (fun c => absurd c (by decide)) (fun _ => ?_)
  refine lv_lload_n hx hb dX12_in_6 rfl (lv_at hl 0 rfl) ?_
  refine lv_lload hx hb dX12_in_7 (lv_at hl 2 rfl) ?_
  refine W.lcmp hx hb dX12_in_9 ?_
  refine wk_top (-1) (by decide) ?_
  refine lv_if_gt (tgt := 17) hx hb dX12_in_10 (by decide) (fun c => absurd c (by decide)) (fun _ => ?_)
  refine lv_iconst (v := 1) hx hb dX12_in_13 (by decide) ?_
  refine lv_goto (tgt := 18) hx hb dX12_in_14 (by decide) ?_
  exact tk_zret hC hr rfl hlocks hK ⟨rfl, rfl⟩ hw dX12_in_18
abbrev P_X12_image_4 (ad : Nat → Nat) (cy : Nat → ClassId) (B : Int) (qr : Nat) (s1 : Int)  (w0 : va_W) : Int32 → va_W → Prop := fun r u => TW ksM ad cy B qr 12 u ∧ FE ksM [(80, 0, 1184), (81, 0, 4)] w0 u ∧ ((0 ≤ r.toInt ∧ r.toInt ≤ 4 ∧ gi u 21 (601) = gi w0 12 9 ∧ ((gi u 22 2).toInt = 1) ∧ ((gi u 12 9).toInt = (gi w0 12 9).toInt) ∧ ((gi u 21 9).toInt = (gi w0 21 9).toInt) ∧ ((gi u 21 305).toInt = (gi w0 21 305).toInt) ∧ ((gi u 21 897).toInt = (gi w0 21 897).toInt) ∧ ((gi u 22 0).toInt = (gi w0 22 0).toInt) ∧ ((gi u 22 1).toInt = (gi w0 22 1).toInt) ∧ ((gi u 22 3).toInt = (gi w0 22 3).toInt)))
set_option maxHeartbeats 4000000 in
set_option maxRecDepth 100000 in
theorem k_X12_image_4 (l : Launch) (adK adV : Nat → Nat) (dC : Nat → ClassId) (dI : Nat → Nat → Nat) (cy : Nat → ClassId) (ad : Nat → Nat) (B : Int) (hB0 : 100000 ≤ B) (hB1 : B ≤ 1073741824) (qr : Nat) (s1 : Int)   (w0 : va_W) (sz : Nat) (hT : TW ksM ad cy B qr 12 w0) (f0_ : Int32) (cf0_ : gi w0 12 9 = f0_) (rf0_ : 0 ≤ f0_.toInt) (tf0_ : f0_.toInt ≤ 2147483647) (f1_ : Int32) (cf1_ : gi w0 21 305 = f1_) (rf1_ : 0 ≤ f1_.toInt) (tf1_ : f1_.toInt ≤ 2147483647) (f2_ : Int32) (cf2_ : gi w0 21 601 = f2_) (rf2_ : 0 ≤ f2_.toInt) (tf2_ : f2_.toInt ≤ 2147483647) (f3_ : Int32) (cf3_ : gi w0 21 897 = f3_) (rf3_ : 0 ≤ f3_.toInt) (tf3_ : f3_.toInt ≤ 2147483647) (f4_ : Int32) (cf4_ : gi w0 21 9 = f4_) (rf4_ : 0 ≤ f4_.toInt) (tf4_ : f4_.toInt ≤ 2147483647) (f5_ : Int32) (cf5_ : gi w0 22 0 = f5_) (rf5_ : 0 ≤ f5_.toInt) (tf5_ : f5_.toInt ≤ 1) (f6_ : Int32) (cf6_ : gi w0 22 1 = f6_) (rf6_ : 0 ≤ f6_.toInt) (tf6_ : f6_.toInt ≤ 1) (f7_ : Int32) (cf7_ : gi w0 22 2 = f7_) (rf7_ : 0 ≤ f7_.toInt) (tf7_ : f7_.toInt ≤ 1) (f8_ : Int32) (cf8_ : gi w0 22 3 = f8_) (rf8_ : 0 ≤ f8_.toInt) (tf8_ : f8_.toInt ≤ 1) : Met l yX12_image wsX12_image ({ frames := 2, cells := 0, slots := 0, locals := 37 }) (va_Pc [.ref (ad 0), .int 2] (wpreS adK adV dC dI cy sz w0)) (va_Qi (P_X12_image_4 ad cy B qr s1  w0) (fun u : va_W => wpost dC dI cy (va_A w0 sz) u) (va_A w0 sz)) 0 0 (va_A w0 sz) := by
  refine Met.ofW (cc := cX12_image) (maxL := 3) (ret := (some .int)) (by decide) rfl ?_
  intro p e s m args below meth c s₁ Bk hml hv
  obtain ⟨rfl, ⟨hsz, hP, hK, hD0⟩, hE, hSR⟩ := hv
  have hx := Bk.exec
  have hb := Bk.bytes
  have hr := Bk.returns
  have hlocks := Bk.notSynchronized
  have hC : CallFix p m c cX12_image 3 s _ wsX12_image RX12 := ⟨hx, hb, hml, findClass_of_methodNamed Bk.named, atoms_spec (ws := wsX12_image) Bk.pre⟩
  subst hsz
  have hD := hD0.self (sz := s.heap.size)
  generalize hAe : va_A w0 s.heap.size = A at hD hE ⊢
  have hA : ∀ q : Nat, s.heap.size ≤ q → A q := fun q h => by rw [← hAe]; exact Or.inr h
  have hw : Wd dC dI A s.heap s.heap [] w0 := ⟨hP, hD, va_S.rf⟩
  have hF : FE ksM [(80, 0, 1184), (81, 0, 4)] w0 w0 := FE.rf
  have hl := lv_entry ([.ref (ad 0), .int 2]) (n := 3) (Nat.le_of_ble_eq_true rfl)
  rw [lg_entry_eq]
  generalize (lg_sl ([.ref (ad 0), .int 2]) ++ List.replicate (3 - (lg_sl ([.ref (ad 0), .int 2])).length) Slot.unset).toArray = ls at hl ⊢
  have hl : lv_has ls 3 [(0, .ref (ad 0)), (1, .int 2)] := hl
  generalize hloc : ([] : List Loc) = locs at hw ⊢
  have hinX12 : ∀ w ∈ u_ws RX12 TX12 42, w ∈ wsX12_image := fun _ h => List.mem_cons_of_mem _ (List.mem_append_right _ (h))
  have L23 : ∀ (n23 : Nat) (v23_2 : Int32) (H : Heap) (locs : List Loc) (ls : Array Slot) (w1 : va_W), 0 ≤ v23_2.toInt → v23_2.toInt ≤ 296 → 0 ≤ f0_.toInt → 0 ≤ f1_.toInt → 0 ≤ f3_.toInt → 0 ≤ f4_.toInt → 0 ≤ f5_.toInt → f5_.toInt ≤ 1 → 0 ≤ f6_.toInt → f6_.toInt ≤ 1 → 0 ≤ f8_.toInt → f8_.toInt ≤ 1 → (v23_2.toInt ≤ 9 ∨ gi w1 21 (601) = gi w0 12 9) → (296 - v23_2.toInt).toNat < n23 → Wd dC dI A s.heap H locs w1 → TW ksM ad cy B qr 12 w1 → FE ksM [(80, 0, 1184), (81, 0, 4)] w0 w1 → gi w1 12 9 = f0_ → gi w1 21 305 = f1_ → gi w1 21 897 = f3_ → gi w1 21 9 = f4_ → gi w1 22 0 = f5_ → gi w1 22 1 = f6_ → gi w1 22 2 = 1 → gi w1 22 3 = f8_ → lv_has ls 3 [(0, .ref (ad 0)), (1, .int 2), (2, .int v23_2)] → W p l e ({ frames := 2, cells := 0, slots := 0, locals := 37 }) s m (List.toArray [.ref (ad 0), .int 2]) below meth c H locs 0 0 (MQ below (va_Qi (P_X12_image_4 ad cy B qr s1  w0) (fun u : va_W => wpost dC dI cy A u) A) (List.toArray [.ref (ad 0), .int 2]) s 0 0 A) (F0 m 23 ls []) := by
    intro n23
    induction n23 with
    | zero => intro v23_2 H locs ls w1 r2 t3 r4 r6 r8 r10 r12 t13 r15 t16 r19 t20 hcp0 hm23 hw hT hF c5 c7 c9 c11 c14 c17 c18 c21 hl; omega
    | succ n23 ih23 =>
      intro v23_2 H locs ls w1 r2 t3 r4 r6 r8 r10 r12 t13 r15 t16 r19 t20 hcp0 hm23 hw hT hF c5 c7 c9 c11 c14 c17 c18 c21 hl
      refine lv_iload_n hx hb dX12_image_23 rfl (lv_at hl 2 rfl) ?_
      refine lv_sipush (v := 296) hx hb dX12_image_24 (by decide) ?_
      refine lv_icmp_ge (tgt := 54) hx hb dX12_image_27 (by decide) (fun c22 => ?_) (fun c22 => ?_)
      · have c22 : (296 : Int) ≤ v23_2.toInt := wk_le.mp c22
        refine lv_aload_n hx hb dX12_image_54 rfl (lv_at hl 0 rfl) ?_
        refine tk_getA hC hK hw hT hinX12 kM_at0 (by decide) rfl 26 (by decide) (List.mem_of_getElem? (i := 4) rfl) rfl rfl dX12_image_55 ?_
        refine lv_iconst (v := 5) hx hb dX12_image_58 (by decide) ?_
        refine tk_ialdR hC hK hw hT kM_at12 rfl (by decide) (by decide) dX12_image_59 (fun x23 c24 Ex23 => ?_)
        have bx23 := tk_rgI rfl 5 1 1 0 4 (by decide +kernel) ⟨0, by decide, by decide⟩ Ex23
        have c24 : gi w1 12 5 = x23 := c24
        exact tk_iret hC hr hlocks hK ⟨hT, hF, ⟨(show 0 ≤ x23.toInt by omega), (show x23.toInt ≤ 4 by omega), (hcp0.resolve_left (by omega)), (by simp only [c18, (show (1 : Int32).toInt = 1 by decide)] <;> omega), (by simp only [cf0_, c5] <;> omega), (by simp only [cf4_, c11] <;> omega), (by simp only [cf1_, c7] <;> omega), (by simp only [cf3_, c9] <;> omega), (by simp only [cf5_, c14] <;> omega), (by simp only [cf6_, c17] <;> omega), (by simp only [cf8_, c21] <;> omega)⟩⟩ hw dX12_image_60
      · have c22 : v23_2.toInt < (296 : Int) := wk_leF c22
        refine lv_aload_n hx hb dX12_image_30 rfl (lv_at hl 0 rfl) ?_
        refine tk_getA hC hK hw hT hinX12 kM_at0 (by decide) rfl 40 (by decide) (List.mem_of_getElem? (i := 3) rfl) rfl rfl dX12_image_31 ?_
        refine lv_sipush (v := 296) hx hb dX12_image_34 (by decide) ?_
        refine lv_iload_n hx hb dX12_image_37 rfl (lv_at hl 1 rfl) ?_
        refine lv_imul hx hb dX12_image_38 ?_
        refine wk_top 592 (by decide) ?_
        refine lv_iload_n hx hb dX12_image_39 rfl (lv_at hl 2 rfl) ?_
        refine lv_iadd hx hb dX12_image_40 ?_
        refine lv_topi (fun x25 ex25 => ?_)
        have ex25 : x25.toInt = (592 : Int) + v23_2.toInt := by rw [ex25]; exact wk_add (show (-2147483648) ≤ (592 : Int) + v23_2.toInt by omega) (show (592 : Int) + v23_2.toInt ≤ 2147483647 by omega)
        refine lv_aload_n hx hb dX12_image_41 rfl (lv_at hl 0 rfl) ?_
        refine tk_getA hC hK hw hT hinX12 kM_at0 (by decide) rfl 26 (by decide) (List.mem_of_getElem? (i := 4) rfl) rfl rfl dX12_image_42 ?_
        refine lv_iload_n hx hb dX12_image_45 rfl (lv_at hl 2 rfl) ?_
        refine tk_ialdR hC hK hw hT kM_at12 rfl (show 0 ≤ v23_2.toInt by omega) (show v23_2.toInt < 296 by omega) dX12_image_46 (fun x26 c27 Ex26 => ?_)
        have lEx26 : gi w1 12 (v23_2.toInt).toNat = x26 := c27
        have c27 : gi w1 12 (v23_2.toInt).toNat = x26 := (congrArg (gi w1 12) (congrArg Int.toNat (show v23_2.toInt = v23_2.toInt by omega))).trans c27
        have hF0 := hF
        refine tk_iastR hC hK hw hT kM_at21 (by decide) rfl (show 0 ≤ x25.toInt by omega) (show x25.toInt < 1184 by omega) (tk_rgC rfl rfl (show v23_2.toInt.toNat % 296 = x25.toInt.toNat % 296 by omega) Ex26) dX12_image_47 (fun H locs w28 hw hT k30 c29 => ?_)
        have hF := hF.put kM_at21 (inE_of (a := 0) (b := 1184) (by decide) (show 0 ≤ x25.toInt.toNat by omega) (show x25.toInt.toNat ≤ 1184 by omega)) k30
        have c31 := k30.gi (Or.inl (tk_ne kM_at12 kM_at21 (by decide))) c5
        have c32 := k30.gi (Or.inr (show 305 ≠ x25.toInt.toNat by omega)) c7
        have c33 := k30.gi (Or.inr (show 897 ≠ x25.toInt.toNat by omega)) c9
        have c34 := k30.gi (Or.inr (show 9 ≠ x25.toInt.toNat by omega)) c11
        have c35 := k30.gi (Or.inl (tk_ne kM_at22 kM_at21 (by decide))) c14
        have c36 := k30.gi (Or.inl (tk_ne kM_at22 kM_at21 (by decide))) c17
        have c37 := k30.gi (Or.inl (tk_ne kM_at22 kM_at21 (by decide))) c18
        have c38 := k30.gi (Or.inl (tk_ne kM_at22 kM_at21 (by decide))) c21
        have c39 := k30.gi (Or.inl (tk_ne kM_at12 kM_at21 (by decide))) c27
        obtain ⟨x40, ex40⟩ : ∃ y : Int32, y = v23_2 + Int32.ofInt 1 := ⟨_, rfl⟩
        refine lv_iinc (v := x40) (lv' := [(2, .int x40), (0, .ref (ad 0)), (1, .int 2)]) hx hb dX12_image_48 hl (k := 2) rfl ex40.symm (by decide) rfl (fun ls hl => ?_)
        have ex40 : x40.toInt = v23_2.toInt + 1 := by rw [ex40]; exact wk_add (y := 1) (show -2147483648 ≤ v23_2.toInt + 1 by omega) (show v23_2.toInt + 1 ≤ 2147483647 by omega)
        refine lv_goto (tgt := 23) hx hb dX12_image_51 (by decide) ?_
        exact ih23 x40 H locs ls w28 (show 0 ≤ x40.toInt by omega) (show x40.toInt ≤ 296 by omega) (show 0 ≤ f0_.toInt by omega) (show 0 ≤ f1_.toInt by omega) (show 0 ≤ f3_.toInt by omega) (show 0 ≤ f4_.toInt by omega) (show 0 ≤ f5_.toInt by omega) (show f5_.toInt ≤ 1 by omega) (show 0 ≤ f6_.toInt by omega) (show f6_.toInt ≤ 1 by omega) (show 0 ≤ f8_.toInt by omega) (show f8_.toInt ≤ 1 by omega) (copy_at (d := 592) (by first | rfl | omega) hcp0 k30 (show x25.toInt = v23_2.toInt + 592 by omega) c29 lEx26 (hF0.gi kM_at12 rfl rfl) (by omega) (by omega) (by omega)) (show (296 - x40.toInt).toNat < n23 by omega) hw hT hF c31 c32 c33 c34 c35 c36 c37 c38 (lv_sub hl [1, 2, 0] rfl)
  refine lv_iload_n hx hb dX12_image_0 rfl (lv_at hl 1 rfl) ?_
  refine lv_i2l hx hb dX12_image_1 rfl ?_
  refine wk_topl 2 (by decide) ?_
  refine lv_lconst (v := 0) hx hb dX12_image_2 (by decide) ?_
  refine lv_ldc2 (v := 3) hx hb hC.2.2.2.1 (hC.2.2.2.2 _ (List.mem_of_getElem? (i := 1) rfl)) dX12_image_3 ?_
  refine tk_Si hC hK hw hT hA hE hSR (k_X12_in_22 l adK adV dC dI cy ad B (by omega) (by omega) qr s1    w0 s.heap.size hT ) (va_cwS 3 hC.2.2.2.2 gX12_image_X12_in rfl rfl rfl (by decide +kernel) ⟨Nat.le_of_ble_eq_true rfl, Nat.le_of_ble_eq_true rfl⟩) rfl hl.1 rfl (Nat.le_of_ble_eq_true rfl) dX12_image_6 (fun r41 w43 H locs hp42 hw => ?_)
  obtain ⟨rfl, hg45⟩ := hp42
  obtain rfl := hg45
  refine lv_if_ne (tgt := 14) hx hb dX12_image_9 (by decide) (fun _ => ?_) (fun c => absurd c (by decide))
  refine lv_aload_n hx hb dX12_image_14 rfl (lv_at hl 0 rfl) ?_
  refine tk_getA hC hK hw hT hinX12 kM_at0 (by decide) rfl 41 (by decide) (List.mem_of_getElem? (i := 2) rfl) rfl rfl dX12_image_15 ?_
  refine lv_iload_n hx hb dX12_image_18 rfl (lv_at hl 1 rfl) ?_
  refine lv_iconst (v := 1) hx hb dX12_image_19 (by decide) ?_
  refine tk_zast hC hK hw hT kM_at22 (by decide) rfl rfl (by decide) (by decide) (by decide) (by decide) dX12_image_20 (fun H locs w46 hw hT k48 c47 => ?_)
  have hF := hF.put kM_at22 (inE_of (a := 0) (b := 4) (by decide) (by decide) (by decide)) k48
  have c49 := k48.gi (Or.inl (tk_ne kM_at12 kM_at22 (by decide))) cf0_
  have c50 := k48.gi (Or.inl (tk_ne kM_at21 kM_at22 (by decide))) cf1_
  have c51 := k48.gi (Or.inl (tk_ne kM_at21 kM_at22 (by decide))) cf2_
  have c52 := k48.gi (Or.inl (tk_ne kM_at21 kM_at22 (by decide))) cf3_
  have c53 := k48.gi (Or.inl (tk_ne kM_at21 kM_at22 (by decide))) cf4_
  have c54 := k48.gi (Or.inr (by decide)) cf5_
  have c55 := k48.gi (Or.inr (by decide)) cf6_
  have c56 := k48.gi (Or.inr (by decide)) cf8_
  have c47 : gi w46 22 2 = 1 := c47
  refine lv_iconst (v := 0) hx hb dX12_image_21 (by decide) ?_
  refine lv_istore_n (lv' := [(2, .int 0), (0, .ref (ad 0)), (1, .int 2)]) hx hb dX12_image_22 rfl hl (by decide) rfl (fun ls hl => ?_)
  exact L23 ((296 - (0 : Int)).toNat + 1) 0 H locs ls w46 (by decide) (by decide) (show 0 ≤ f0_.toInt by omega) (show 0 ≤ f1_.toInt by omega) (show 0 ≤ f3_.toInt by omega) (show 0 ≤ f4_.toInt by omega) (show 0 ≤ f5_.toInt by omega) (show f5_.toInt ≤ 1 by omega) (show 0 ≤ f6_.toInt by omega) (show f6_.toInt ≤ 1 by omega) (show 0 ≤ f8_.toInt by omega) (show f8_.toInt ≤ 1 by omega) (show ((0 : Int) ≤ 9 ∨ gi w46 21 (601) = gi w0 12 9) from Or.inl (by omega)) (Nat.lt_succ_self _) hw hT hF c49 c50 c52 c53 c54 c55 c47 c56 (lv_sub hl [1, 2, 0] rfl)
abbrev P_X12_back_4 (ad : Nat → Nat) (cy : Nat → ClassId) (B : Int) (qr : Nat) (s1 : Int)  (w0 : va_W) : Int32 → va_W → Prop := fun r u => TW ksM ad cy B qr 12 u ∧ FE ksM [(71, 0, 295)] w0 u ∧ ((0 ≤ r.toInt ∧ r.toInt ≤ 4 ∧ gi u 12 9 = gi w0 21 (601) ∧ (1 ≤ (gi w0 22 2).toInt) ∧ ((gi u 21 9).toInt = (gi w0 21 9).toInt) ∧ ((gi u 21 305).toInt = (gi w0 21 305).toInt) ∧ ((gi u 21 601).toInt = (gi w0 21 601).toInt) ∧ ((gi u 21 897).toInt = (gi w0 21 897).toInt) ∧ ((gi u 22 0).toInt = (gi w0 22 0).toInt) ∧ ((gi u 22 1).toInt = (gi w0 22 1).toInt) ∧ ((gi u 22 2).toInt = (gi w0 22 2).toInt) ∧ ((gi u 22 3).toInt = (gi w0 22 3).toInt)) ∨ (r = (-1) ∧ ((gi w0 22 2).toInt = 0) ∧ ((gi u 12 9).toInt = (gi w0 12 9).toInt) ∧ ((gi u 21 9).toInt = (gi w0 21 9).toInt) ∧ ((gi u 21 305).toInt = (gi w0 21 305).toInt) ∧ ((gi u 21 601).toInt = (gi w0 21 601).toInt) ∧ ((gi u 21 897).toInt = (gi w0 21 897).toInt) ∧ ((gi u 22 0).toInt = (gi w0 22 0).toInt) ∧ ((gi u 22 1).toInt = (gi w0 22 1).toInt) ∧ ((gi u 22 2).toInt = (gi w0 22 2).toInt) ∧ ((gi u 22 3).toInt = (gi w0 22 3).toInt)))
set_option maxHeartbeats 4000000 in
set_option maxRecDepth 100000 in
theorem k_X12_back_4 (l : Launch) (adK adV : Nat → Nat) (dC : Nat → ClassId) (dI : Nat → Nat → Nat) (cy : Nat → ClassId) (ad : Nat → Nat) (B : Int) (hB0 : 100000 ≤ B) (hB1 : B ≤ 1073741824) (qr : Nat) (s1 : Int)   (w0 : va_W) (sz : Nat) (hT : TW ksM ad cy B qr 12 w0) (f0_ : Int32) (cf0_ : gi w0 12 9 = f0_) (rf0_ : 0 ≤ f0_.toInt) (tf0_ : f0_.toInt ≤ 2147483647) (f1_ : Int32) (cf1_ : gi w0 21 305 = f1_) (rf1_ : 0 ≤ f1_.toInt) (tf1_ : f1_.toInt ≤ 2147483647) (f2_ : Int32) (cf2_ : gi w0 21 601 = f2_) (rf2_ : 0 ≤ f2_.toInt) (tf2_ : f2_.toInt ≤ 2147483647) (f3_ : Int32) (cf3_ : gi w0 21 897 = f3_) (rf3_ : 0 ≤ f3_.toInt) (tf3_ : f3_.toInt ≤ 2147483647) (f4_ : Int32) (cf4_ : gi w0 21 9 = f4_) (rf4_ : 0 ≤ f4_.toInt) (tf4_ : f4_.toInt ≤ 2147483647) (f5_ : Int32) (cf5_ : gi w0 22 0 = f5_) (rf5_ : 0 ≤ f5_.toInt) (tf5_ : f5_.toInt ≤ 1) (f6_ : Int32) (cf6_ : gi w0 22 1 = f6_) (rf6_ : 0 ≤ f6_.toInt) (tf6_ : f6_.toInt ≤ 1) (f7_ : Int32) (cf7_ : gi w0 22 2 = f7_) (rf7_ : 0 ≤ f7_.toInt) (tf7_ : f7_.toInt ≤ 1) (f8_ : Int32) (cf8_ : gi w0 22 3 = f8_) (rf8_ : 0 ≤ f8_.toInt) (tf8_ : f8_.toInt ≤ 1) : Met l yX12_back wsX12_back ({ frames := 2, cells := 0, slots := 0, locals := 37 }) (va_Pc [.ref (ad 0), .int 2] (wpreS adK adV dC dI cy sz w0)) (va_Qi (P_X12_back_4 ad cy B qr s1  w0) (fun u : va_W => wpost dC dI cy (va_A w0 sz) u) (va_A w0 sz)) 0 0 (va_A w0 sz) := by
  refine Met.ofW (cc := cX12_back) (maxL := 3) (ret := (some .int)) (by decide) rfl ?_
  intro p e s m args below meth c s₁ Bk hml hv
  obtain ⟨rfl, ⟨hsz, hP, hK, hD0⟩, hE, hSR⟩ := hv
  have hx := Bk.exec
  have hb := Bk.bytes
  have hr := Bk.returns
  have hlocks := Bk.notSynchronized
  have hC : CallFix p m c cX12_back 3 s _ wsX12_back RX12 := ⟨hx, hb, hml, findClass_of_methodNamed Bk.named, atoms_spec (ws := wsX12_back) Bk.pre⟩
  subst hsz
  have hD := hD0.self (sz := s.heap.size)
  generalize hAe : va_A w0 s.heap.size = A at hD hE ⊢
  have hA : ∀ q : Nat, s.heap.size ≤ q → A q := fun q h => by rw [← hAe]; exact Or.inr h
  have hw : Wd dC dI A s.heap s.heap [] w0 := ⟨hP, hD, va_S.rf⟩
  have hF : FE ksM [(71, 0, 295)] w0 w0 := FE.rf
  have hl := lv_entry ([.ref (ad 0), .int 2]) (n := 3) (Nat.le_of_ble_eq_true rfl)
  rw [lg_entry_eq]
  generalize (lg_sl ([.ref (ad 0), .int 2]) ++ List.replicate (3 - (lg_sl ([.ref (ad 0), .int 2])).length) Slot.unset).toArray = ls at hl ⊢
  have hl : lv_has ls 3 [(0, .ref (ad 0)), (1, .int 2)] := hl
  generalize hloc : ([] : List Loc) = locs at hw ⊢
  have hinX12 : ∀ w ∈ u_ws RX12 TX12 42, w ∈ wsX12_back := fun _ h => List.mem_cons_of_mem _ (List.mem_append_right _ (h))
  have J21 : ∀ (H : Heap) (locs : List Loc) (ls : Array Slot) (w1 : va_W), 0 ≤ f0_.toInt → 0 ≤ f1_.toInt → 0 ≤ f2_.toInt → 0 ≤ f3_.toInt → 0 ≤ f4_.toInt → 0 ≤ f5_.toInt → f5_.toInt ≤ 1 → 0 ≤ f6_.toInt → f6_.toInt ≤ 1 → 0 ≤ f8_.toInt → f8_.toInt ≤ 1 → (f5_.toInt = f5_.toInt) → (f6_.toInt = f6_.toInt) → ((0 : Int) = f7_.toInt) → (f8_.toInt = f8_.toInt) → Wd dC dI A s.heap H locs w1 → TW ksM ad cy B qr 12 w1 → FE ksM [(71, 0, 295)] w0 w1 → gi w1 12 9 = f0_ → gi w1 21 305 = f1_ → gi w1 21 601 = f2_ → gi w1 21 897 = f3_ → gi w1 21 9 = f4_ → gi w1 22 0 = f5_ → gi w1 22 1 = f6_ → gi w1 22 2 = 0 → gi w1 22 3 = f8_ → lv_has ls 3 [(0, .ref (ad 0)), (1, .int 2)] → W p l e ({ frames := 2, cells := 0, slots := 0, locals := 37 }) s m (List.toArray [.ref (ad 0), .int 2]) below meth c H locs 0 0 (MQ below (va_Qi (P_X12_back_4 ad cy B qr s1  w0) (fun u : va_W => wpost dC dI cy A u) A) (List.toArray [.ref (ad 0), .int 2]) s 0 0 A) (F0 m 21 ls []) := by
    intro H locs ls w1 r2 r4 r6 r8 r10 r12 t13 r15 t16 r19 t20 hcr21_0 hcr21_1 hcr21_2 hcr21_3 hw hT hF c3 c5 c7 c9 c11 c14 c17 c18 c21 hl
    refine lv_iconst (v := (-1)) hx hb dX12_back_21 (by decide) ?_
    exact tk_iret hC hr hlocks hK ⟨hT, hF, (Or.inr ⟨rfl, (by simp only [cf7_] <;> omega), (by simp only [cf0_, c3] <;> omega), (by simp only [cf4_, c11] <;> omega), (by simp only [cf1_, c5] <;> omega), (by simp only [cf2_, c7] <;> omega), (by simp only [cf3_, c9] <;> omega), (by simp only [cf5_, c14] <;> omega), (by simp only [cf6_, c17] <;> omega), (by simp only [cf7_, c18, (show (0 : Int32).toInt = 0 by decide)] <;> omega), (by simp only [cf8_, c21] <;> omega)⟩)⟩ hw dX12_back_22
  have L25 : ∀ (n25 : Nat) (v25_2 : Int32) (f25_12_9 : Int32) (H : Heap) (locs : List Loc) (ls : Array Slot) (w22 : va_W), 0 ≤ v25_2.toInt → v25_2.toInt ≤ 296 → 0 ≤ f25_12_9.toInt → 0 ≤ f1_.toInt → 0 ≤ f2_.toInt → 0 ≤ f3_.toInt → 0 ≤ f4_.toInt → 0 ≤ f5_.toInt → f5_.toInt ≤ 1 → 0 ≤ f6_.toInt → f6_.toInt ≤ 1 → 0 ≤ f8_.toInt → f8_.toInt ≤ 1 → (v25_2.toInt ≤ 9 ∨ gi w22 12 (9) = gi w0 21 (601)) → (f5_.toInt = f5_.toInt) → (f6_.toInt = f6_.toInt) → ((1 : Int) = f7_.toInt) → (f8_.toInt = f8_.toInt) → (296 - v25_2.toInt).toNat < n25 → Wd dC dI A s.heap H locs w22 → TW ksM ad cy B qr 12 w22 → FE ksM [(71, 0, 295)] w0 w22 → gi w22 12 9 = f25_12_9 → gi w22 21 305 = f1_ → gi w22 21 601 = f2_ → gi w22 21 897 = f3_ → gi w22 21 9 = f4_ → gi w22 22 0 = f5_ → gi w22 22 1 = f6_ → gi w22 22 2 = 1 → gi w22 22 3 = f8_ → lv_has ls 3 [(0, .ref (ad 0)), (1, .int 2), (2, .int v25_2)] → W p l e ({ frames := 2, cells := 0, slots := 0, locals := 37 }) s m (List.toArray [.ref (ad 0), .int 2]) below meth c H locs 0 0 (MQ below (va_Qi (P_X12_back_4 ad cy B qr s1  w0) (fun u : va_W => wpost dC dI cy A u) A) (List.toArray [.ref (ad 0), .int 2]) s 0 0 A) (F0 m 25 ls []) := by
    intro n25
    induction n25 with
    | zero => intro v25_2 f25_12_9 H locs ls w22 r23 t24 r25 r27 r29 r31 r33 r35 t36 r38 t39 r42 t43 hcp0 hcr25_0 hcr25_1 hcr25_2 hcr25_3 hm25 hw hT hF c26 c28 c30 c32 c34 c37 c40 c41 c44 hl; omega
    | succ n25 ih25 =>
      intro v25_2 f25_12_9 H locs ls w22 r23 t24 r25 r27 r29 r31 r33 r35 t36 r38 t39 r42 t43 hcp0 hcr25_0 hcr25_1 hcr25_2 hcr25_3 hm25 hw hT hF c26 c28 c30 c32 c34 c37 c40 c41 c44 hl
      refine lv_iload_n hx hb dX12_back_25 rfl (lv_at hl 2 rfl) ?_
      refine lv_sipush (v := 296) hx hb dX12_back_26 (by decide) ?_
      refine lv_icmp_ge (tgt := 56) hx hb dX12_back_29 (by decide) (fun c45 => ?_) (fun c45 => ?_)
      · have c45 : (296 : Int) ≤ v25_2.toInt := wk_le.mp c45
        refine lv_aload_n hx hb dX12_back_56 rfl (lv_at hl 0 rfl) ?_
        refine tk_getA hC hK hw hT hinX12 kM_at0 (by decide) rfl 26 (by decide) (List.mem_of_getElem? (i := 3) rfl) rfl rfl dX12_back_57 ?_
        refine lv_iconst (v := 5) hx hb dX12_back_60 (by decide) ?_
        refine tk_ialdR hC hK hw hT kM_at12 rfl (by decide) (by decide) dX12_back_61 (fun x46 c47 Ex46 => ?_)
        have bx46 := tk_rgI rfl 5 1 1 0 4 (by decide +kernel) ⟨0, by decide, by decide⟩ Ex46
        have c47 : gi w22 12 5 = x46 := c47
        exact tk_iret hC hr hlocks hK ⟨hT, hF, (Or.inl ⟨(show 0 ≤ x46.toInt by omega), (show x46.toInt ≤ 4 by omega), (hcp0.resolve_left (by omega)), (by simp only [cf7_] <;> omega), (by simp only [cf4_, c34] <;> omega), (by simp only [cf1_, c28] <;> omega), (by simp only [cf2_, c30] <;> omega), (by simp only [cf3_, c32] <;> omega), (by simp only [cf5_, c37] <;> omega), (by simp only [cf6_, c40] <;> omega), (by simp only [cf7_, c41, (show (1 : Int32).toInt = 1 by decide)] <;> omega), (by simp only [cf8_, c44] <;> omega)⟩)⟩ hw dX12_back_62
      · have c45 : v25_2.toInt < (296 : Int) := wk_leF c45
        refine lv_aload_n hx hb dX12_back_32 rfl (lv_at hl 0 rfl) ?_
        refine tk_getA hC hK hw hT hinX12 kM_at0 (by decide) rfl 26 (by decide) (List.mem_of_getElem? (i := 3) rfl) rfl rfl dX12_back_33 ?_
        refine lv_iload_n hx hb dX12_back_36 rfl (lv_at hl 2 rfl) ?_
        refine lv_aload_n hx hb dX12_back_37 rfl (lv_at hl 0 rfl) ?_
        refine tk_getA hC hK hw hT hinX12 kM_at0 (by decide) rfl 40 (by decide) (List.mem_of_getElem? (i := 4) rfl) rfl rfl dX12_back_38 ?_
        refine lv_sipush (v := 296) hx hb dX12_back_41 (by decide) ?_
        refine lv_iload_n hx hb dX12_back_44 rfl (lv_at hl 1 rfl) ?_
        refine lv_imul hx hb dX12_back_45 ?_
        refine wk_top 592 (by decide) ?_
        refine lv_iload_n hx hb dX12_back_46 rfl (lv_at hl 2 rfl) ?_
        refine lv_iadd hx hb dX12_back_47 ?_
        refine lv_topi (fun x48 ex48 => ?_)
        have ex48 : x48.toInt = (592 : Int) + v25_2.toInt := by rw [ex48]; exact wk_add (show (-2147483648) ≤ (592 : Int) + v25_2.toInt by omega) (show (592 : Int) + v25_2.toInt ≤ 2147483647 by omega)
        refine tk_ialdR hC hK hw hT kM_at21 rfl (show 0 ≤ x48.toInt by omega) (show x48.toInt < 1184 by omega) dX12_back_48 (fun x49 c50 Ex49 => ?_)
        have lEx49 : gi w22 21 (x48.toInt).toNat = x49 := c50
        have hF0 := hF
        refine tk_iastR hC hK hw hT kM_at12 (by decide) rfl (show 0 ≤ v25_2.toInt by omega) (show v25_2.toInt < 296 by omega) (tk_rgC rfl rfl (show x48.toInt.toNat % 296 = v25_2.toInt.toNat % 296 by omega) Ex49) dX12_back_49 (fun H locs w51 hw hT k53 c52 => ?_)
        have hF := hF.put kM_at12 (inE_of (a := 0) (b := 295) (by decide) (show 0 ≤ v25_2.toInt.toNat by omega) (show v25_2.toInt.toNat ≤ 295 by omega)) k53
        have c54 := k53.gi (Or.inl (tk_ne kM_at21 kM_at12 (by decide))) c28
        have c55 := k53.gi (Or.inl (tk_ne kM_at21 kM_at12 (by decide))) c30
        have c56 := k53.gi (Or.inl (tk_ne kM_at21 kM_at12 (by decide))) c32
        have c57 := k53.gi (Or.inl (tk_ne kM_at21 kM_at12 (by decide))) c34
        have c58 := k53.gi (Or.inl (tk_ne kM_at22 kM_at12 (by decide))) c37
        have c59 := k53.gi (Or.inl (tk_ne kM_at22 kM_at12 (by decide))) c40
        have c60 := k53.gi (Or.inl (tk_ne kM_at22 kM_at12 (by decide))) c41
        have c61 := k53.gi (Or.inl (tk_ne kM_at22 kM_at12 (by decide))) c44
        obtain ⟨x62, ex62⟩ : ∃ y : Int32, y = v25_2 + Int32.ofInt 1 := ⟨_, rfl⟩
        refine lv_iinc (v := x62) (lv' := [(2, .int x62), (0, .ref (ad 0)), (1, .int 2)]) hx hb dX12_back_50 hl (k := 2) rfl ex62.symm (by decide) rfl (fun ls hl => ?_)
        have ex62 : x62.toInt = v25_2.toInt + 1 := by rw [ex62]; exact wk_add (y := 1) (show -2147483648 ≤ v25_2.toInt + 1 by omega) (show v25_2.toInt + 1 ≤ 2147483647 by omega)
        refine lv_goto (tgt := 25) hx hb dX12_back_53 (by decide) ?_
        obtain ⟨x63, c64, rx63, tx63⟩ := hT.rdR (lo := 0) (hi := 2147483647) (i := 9) kM_at12 rfl rfl (by decide) rfl rfl
        exact ih25 x62 x63 H locs ls w51 (show 0 ≤ x62.toInt by omega) (show x62.toInt ≤ 296 by omega) (show 0 ≤ x63.toInt by omega) (show 0 ≤ f1_.toInt by omega) (show 0 ≤ f2_.toInt by omega) (show 0 ≤ f3_.toInt by omega) (show 0 ≤ f4_.toInt by omega) (show 0 ≤ f5_.toInt by omega) (show f5_.toInt ≤ 1 by omega) (show 0 ≤ f6_.toInt by omega) (show f6_.toInt ≤ 1 by omega) (show 0 ≤ f8_.toInt by omega) (show f8_.toInt ≤ 1 by omega) (copy_at2 (d := 592) (by first | rfl | omega) hcp0 k53 (show x48.toInt = v25_2.toInt + 592 by omega) c52 lEx49 (hF0.gi kM_at21 rfl rfl) (by omega) (by omega) (by omega)) (show f5_.toInt = f5_.toInt by omega) (show f6_.toInt = f6_.toInt by omega) (show (1 : Int) = f7_.toInt by omega) (show f8_.toInt = f8_.toInt by omega) (show (296 - x62.toInt).toNat < n25 by omega) hw hT hF c64 c54 c55 c56 c57 c58 c59 c60 c61 (lv_sub hl [1, 2, 0] rfl)
  refine lv_iload_n hx hb dX12_back_0 rfl (lv_at hl 1 rfl) ?_
  refine lv_i2l hx hb dX12_back_1 rfl ?_
  refine wk_topl 2 (by decide) ?_
  refine lv_lconst (v := 0) hx hb dX12_back_2 (by decide) ?_
  refine lv_ldc2 (v := 3) hx hb hC.2.2.2.1 (hC.2.2.2.2 _ (List.mem_of_getElem? (i := 1) rfl)) dX12_back_3 ?_
  refine tk_Si hC hK hw hT hA hE hSR (k_X12_in_22 l adK adV dC dI cy ad B (by omega) (by omega) qr s1    w0 s.heap.size hT ) (va_cwS 3 hC.2.2.2.2 gX12_back_X12_in rfl rfl rfl (by decide +kernel) ⟨Nat.le_of_ble_eq_true rfl, Nat.le_of_ble_eq_true rfl⟩) rfl hl.1 rfl (Nat.le_of_ble_eq_true rfl) dX12_back_6 (fun r65 w67 H locs hp66 hw => ?_)
  obtain ⟨rfl, hg69⟩ := hp66
  obtain rfl := hg69
  refine lv_if_eq (tgt := 21) hx hb dX12_back_9 (by decide) (fun c => absurd c (by decide)) (fun _ => ?_)
  refine lv_aload_n hx hb dX12_back_12 rfl (lv_at hl 0 rfl) ?_
  refine tk_getA hC hK hw hT hinX12 kM_at0 (by decide) rfl 41 (by decide) (List.mem_of_getElem? (i := 2) rfl) rfl rfl dX12_back_13 ?_
  refine lv_iload_n hx hb dX12_back_16 rfl (lv_at hl 1 rfl) ?_
  refine tk_zald hC hK hw hT kM_at22 rfl rfl (by decide) (by decide) dX12_back_17 (fun x70 c71 rx70 tx70 => ?_)
  refine wk_top f7_ (c71.symm.trans cf7_) ?_
  refine lv_if_ne (tgt := 23) hx hb dX12_back_18 (by decide) (fun c72 => ?_) (fun c72 => ?_)
  · have c72 : ¬ f7_.toInt = (0 : Int) := wk_eqF c72
    refine lv_iconst (v := 0) hx hb dX12_back_23 (by decide) ?_
    refine lv_istore_n (lv' := [(2, .int 0), (0, .ref (ad 0)), (1, .int 2)]) hx hb dX12_back_24 rfl hl (by decide) rfl (fun ls hl => ?_)
    obtain rfl : f7_ = 1 := wk_eq.mpr (show f7_.toInt = 1 by omega)
    exact L25 ((296 - (0 : Int)).toNat + 1) 0 f0_ H locs ls w0 (by decide) (by decide) (show 0 ≤ f0_.toInt by omega) (show 0 ≤ f1_.toInt by omega) (show 0 ≤ f2_.toInt by omega) (show 0 ≤ f3_.toInt by omega) (show 0 ≤ f4_.toInt by omega) (show 0 ≤ f5_.toInt by omega) (show f5_.toInt ≤ 1 by omega) (show 0 ≤ f6_.toInt by omega) (show f6_.toInt ≤ 1 by omega) (show 0 ≤ f8_.toInt by omega) (show f8_.toInt ≤ 1 by omega) (show ((0 : Int) ≤ 9 ∨ gi w0 12 (9) = gi w0 21 (601)) from Or.inl (by omega)) (show f5_.toInt = f5_.toInt by omega) (show f6_.toInt = f6_.toInt by omega) (show (1 : Int) = (1 : Int) by omega) (show f8_.toInt = f8_.toInt by omega) (Nat.lt_succ_self _) hw hT hF cf0_ cf1_ cf2_ cf3_ cf4_ cf5_ cf6_ cf7_ cf8_ (lv_sub hl [1, 2, 0] rfl)
  · have c72 : f7_.toInt = (0 : Int) := wk_eq.mp c72
    obtain rfl : f7_ = 0 := wk_eq.mpr (show f7_.toInt = 0 by omega)
    exact J21  H locs ls w0 (show 0 ≤ f0_.toInt by omega) (show 0 ≤ f1_.toInt by omega) (show 0 ≤ f2_.toInt by omega) (show 0 ≤ f3_.toInt by omega) (show 0 ≤ f4_.toInt by omega) (show 0 ≤ f5_.toInt by omega) (show f5_.toInt ≤ 1 by omega) (show 0 ≤ f6_.toInt by omega) (show f6_.toInt ≤ 1 by omega) (show 0 ≤ f8_.toInt by omega) (show f8_.toInt ≤ 1 by omega) (show f5_.toInt = f5_.toInt by omega) (show f6_.toInt = f6_.toInt by omega) (show (0 : Int) = (0 : Int) by omega) (show f8_.toInt = f8_.toInt by omega)  hw hT hF cf0_ cf1_ cf2_ cf3_ cf4_ cf5_ cf6_ cf7_ cf8_ (lv_sub hl [0, 1] rfl)
abbrev P_X12_in_23 (ad : Nat → Nat) (cy : Nat → ClassId) (B : Int) (qr : Nat) (s1 : Int)  (w0 : va_W) : Int32 → va_W → Prop := fun r u => w0 = u ∧ ((r = 1))
set_option maxHeartbeats 4000000 in
set_option maxRecDepth 100000 in
theorem k_X12_in_23 (l : Launch) (adK adV : Nat → Nat) (dC : Nat → ClassId) (dI : Nat → Nat → Nat) (cy : Nat → ClassId) (ad : Nat → Nat) (B : Int) (hB0 : 100000 ≤ B) (hB1 : B ≤ 1073741824) (qr : Nat) (s1 : Int)   (w0 : va_W) (sz : Nat) (hT : TW ksM ad cy B qr 12 w0)  : Met l yX12_in wsX12_in ({ frames := 1, cells := 0, slots := 0, locals := 12 }) (va_Pc [.long 3, .long 0, .long 3] (wpreS adK adV dC dI cy sz w0)) (va_Qi (P_X12_in_23 ad cy B qr s1  w0) (fun u : va_W => wpost dC dI cy (va_A w0 sz) u) (va_A w0 sz)) 0 0 (va_A w0 sz) := by
  refine Met.ofW (cc := cX12_in) (maxL := 6) (ret := (some .boolean)) (by decide) rfl ?_
  intro p e s m args below meth c s₁ Bk hml hv
  obtain ⟨rfl, ⟨hsz, hP, hK, hD0⟩, hE, hSR⟩ := hv
  have hx := Bk.exec
  have hb := Bk.bytes
  have hr := Bk.returns
  have hlocks := Bk.notSynchronized
  have hC : CallFix p m c cX12_in 6 s _ wsX12_in RX12 := ⟨hx, hb, hml, findClass_of_methodNamed Bk.named, atoms_spec (ws := wsX12_in) Bk.pre⟩
  subst hsz
  have hD := hD0.self (sz := s.heap.size)
  generalize hAe : va_A w0 s.heap.size = A at hD hE ⊢
  have hA : ∀ q : Nat, s.heap.size ≤ q → A q := fun q h => by rw [← hAe]; exact Or.inr h
  have hw : Wd dC dI A s.heap s.heap [] w0 := ⟨hP, hD, va_S.rf⟩
  have hF : FE ksM ([] : List (Nat × Nat × Nat)) w0 w0 := FE.rf
  have hl := lv_entry ([.long 3, .long 0, .long 3]) (n := 6) (Nat.le_of_ble_eq_true rfl)
  rw [lg_entry_eq]
  generalize (lg_sl ([.long 3, .long 0, .long 3]) ++ List.replicate (6 - (lg_sl ([.long 3, .long 0, .long 3])).length) Slot.unset).toArray = ls at hl ⊢
  have hl : lv_has ls 6 [(0, .long 3), (2, .long 0), (4, .long 3)] := hl
  generalize hloc : ([] : List Loc) = locs at hw ⊢
  refine lv_lload_n hx hb dX12_in_0 rfl (lv_at hl 0 rfl) ?_
  refine lv_lload_n hx hb dX12_in_1 rfl (lv_at hl 1 rfl) ?_
  refine W.lcmp hx hb dX12_in_2 ?_
  refine wk_top 1 (by decide) ?_
  refine lv_if_lt (tgt := 17) hx hb dX12_in_3 (by decide) (fun c => absurd c (by decide)) (fun _ => ?_)
  refine lv_lload_n hx hb dX12_in_6 rfl (lv_at hl 0 rfl) ?_
  refine lv_lload hx hb dX12_in_7 (lv_at hl 2 rfl) ?_
  refine W.lcmp hx hb dX12_in_9 ?_
  refine wk_top 0 (by decide) ?_
  refine lv_if_gt (tgt := 17) hx hb dX12_in_10 (by decide) (fun c => absurd c (by decide)) (fun _ => ?_)
  refine lv_iconst (v := 1) hx hb dX12_in_13 (by decide) ?_
  refine lv_goto (tgt := 18) hx hb dX12_in_14 (by decide) ?_
  exact tk_zret hC hr rfl hlocks hK ⟨rfl, rfl⟩ hw dX12_in_18
abbrev P_X12_image_5 (ad : Nat → Nat) (cy : Nat → ClassId) (B : Int) (qr : Nat) (s1 : Int)  (w0 : va_W) : Int32 → va_W → Prop := fun r u => TW ksM ad cy B qr 12 u ∧ FE ksM [(80, 0, 1184), (81, 0, 4)] w0 u ∧ ((0 ≤ r.toInt ∧ r.toInt ≤ 4 ∧ gi u 21 (897) = gi w0 12 9 ∧ ((gi u 22 3).toInt = 1) ∧ ((gi u 12 9).toInt = (gi w0 12 9).toInt) ∧ ((gi u 21 9).toInt = (gi w0 21 9).toInt) ∧ ((gi u 21 305).toInt = (gi w0 21 305).toInt) ∧ ((gi u 21 601).toInt = (gi w0 21 601).toInt) ∧ ((gi u 22 0).toInt = (gi w0 22 0).toInt) ∧ ((gi u 22 1).toInt = (gi w0 22 1).toInt) ∧ ((gi u 22 2).toInt = (gi w0 22 2).toInt)))
set_option maxHeartbeats 4000000 in
set_option maxRecDepth 100000 in
theorem k_X12_image_5 (l : Launch) (adK adV : Nat → Nat) (dC : Nat → ClassId) (dI : Nat → Nat → Nat) (cy : Nat → ClassId) (ad : Nat → Nat) (B : Int) (hB0 : 100000 ≤ B) (hB1 : B ≤ 1073741824) (qr : Nat) (s1 : Int)   (w0 : va_W) (sz : Nat) (hT : TW ksM ad cy B qr 12 w0) (f0_ : Int32) (cf0_ : gi w0 12 9 = f0_) (rf0_ : 0 ≤ f0_.toInt) (tf0_ : f0_.toInt ≤ 2147483647) (f1_ : Int32) (cf1_ : gi w0 21 305 = f1_) (rf1_ : 0 ≤ f1_.toInt) (tf1_ : f1_.toInt ≤ 2147483647) (f2_ : Int32) (cf2_ : gi w0 21 601 = f2_) (rf2_ : 0 ≤ f2_.toInt) (tf2_ : f2_.toInt ≤ 2147483647) (f3_ : Int32) (cf3_ : gi w0 21 897 = f3_) (rf3_ : 0 ≤ f3_.toInt) (tf3_ : f3_.toInt ≤ 2147483647) (f4_ : Int32) (cf4_ : gi w0 21 9 = f4_) (rf4_ : 0 ≤ f4_.toInt) (tf4_ : f4_.toInt ≤ 2147483647) (f5_ : Int32) (cf5_ : gi w0 22 0 = f5_) (rf5_ : 0 ≤ f5_.toInt) (tf5_ : f5_.toInt ≤ 1) (f6_ : Int32) (cf6_ : gi w0 22 1 = f6_) (rf6_ : 0 ≤ f6_.toInt) (tf6_ : f6_.toInt ≤ 1) (f7_ : Int32) (cf7_ : gi w0 22 2 = f7_) (rf7_ : 0 ≤ f7_.toInt) (tf7_ : f7_.toInt ≤ 1) (f8_ : Int32) (cf8_ : gi w0 22 3 = f8_) (rf8_ : 0 ≤ f8_.toInt) (tf8_ : f8_.toInt ≤ 1) : Met l yX12_image wsX12_image ({ frames := 2, cells := 0, slots := 0, locals := 37 }) (va_Pc [.ref (ad 0), .int 3] (wpreS adK adV dC dI cy sz w0)) (va_Qi (P_X12_image_5 ad cy B qr s1  w0) (fun u : va_W => wpost dC dI cy (va_A w0 sz) u) (va_A w0 sz)) 0 0 (va_A w0 sz) := by
  refine Met.ofW (cc := cX12_image) (maxL := 3) (ret := (some .int)) (by decide) rfl ?_
  intro p e s m args below meth c s₁ Bk hml hv
  obtain ⟨rfl, ⟨hsz, hP, hK, hD0⟩, hE, hSR⟩ := hv
  have hx := Bk.exec
  have hb := Bk.bytes
  have hr := Bk.returns
  have hlocks := Bk.notSynchronized
  have hC : CallFix p m c cX12_image 3 s _ wsX12_image RX12 := ⟨hx, hb, hml, findClass_of_methodNamed Bk.named, atoms_spec (ws := wsX12_image) Bk.pre⟩
  subst hsz
  have hD := hD0.self (sz := s.heap.size)
  generalize hAe : va_A w0 s.heap.size = A at hD hE ⊢
  have hA : ∀ q : Nat, s.heap.size ≤ q → A q := fun q h => by rw [← hAe]; exact Or.inr h
  have hw : Wd dC dI A s.heap s.heap [] w0 := ⟨hP, hD, va_S.rf⟩
  have hF : FE ksM [(80, 0, 1184), (81, 0, 4)] w0 w0 := FE.rf
  have hl := lv_entry ([.ref (ad 0), .int 3]) (n := 3) (Nat.le_of_ble_eq_true rfl)
  rw [lg_entry_eq]
  generalize (lg_sl ([.ref (ad 0), .int 3]) ++ List.replicate (3 - (lg_sl ([.ref (ad 0), .int 3])).length) Slot.unset).toArray = ls at hl ⊢
  have hl : lv_has ls 3 [(0, .ref (ad 0)), (1, .int 3)] := hl
  generalize hloc : ([] : List Loc) = locs at hw ⊢
  have hinX12 : ∀ w ∈ u_ws RX12 TX12 42, w ∈ wsX12_image := fun _ h => List.mem_cons_of_mem _ (List.mem_append_right _ (h))
  have L23 : ∀ (n23 : Nat) (v23_2 : Int32) (H : Heap) (locs : List Loc) (ls : Array Slot) (w1 : va_W), 0 ≤ v23_2.toInt → v23_2.toInt ≤ 296 → 0 ≤ f0_.toInt → 0 ≤ f1_.toInt → 0 ≤ f2_.toInt → 0 ≤ f4_.toInt → 0 ≤ f5_.toInt → f5_.toInt ≤ 1 → 0 ≤ f6_.toInt → f6_.toInt ≤ 1 → 0 ≤ f7_.toInt → f7_.toInt ≤ 1 → (v23_2.toInt ≤ 9 ∨ gi w1 21 (897) = gi w0 12 9) → (296 - v23_2.toInt).toNat < n23 → Wd dC dI A s.heap H locs w1 → TW ksM ad cy B qr 12 w1 → FE ksM [(80, 0, 1184), (81, 0, 4)] w0 w1 → gi w1 12 9 = f0_ → gi w1 21 305 = f1_ → gi w1 21 601 = f2_ → gi w1 21 9 = f4_ → gi w1 22 0 = f5_ → gi w1 22 1 = f6_ → gi w1 22 2 = f7_ → gi w1 22 3 = 1 → lv_has ls 3 [(0, .ref (ad 0)), (1, .int 3), (2, .int v23_2)] → W p l e ({ frames := 2, cells := 0, slots := 0, locals := 37 }) s m (List.toArray [.ref (ad 0), .int 3]) below meth c H locs 0 0 (MQ below (va_Qi (P_X12_image_5 ad cy B qr s1  w0) (fun u : va_W => wpost dC dI cy A u) A) (List.toArray [.ref (ad 0), .int 3]) s 0 0 A) (F0 m 23 ls []) := by
    intro n23
    induction n23 with
    | zero => intro v23_2 H locs ls w1 r2 t3 r4 r6 r8 r10 r12 t13 r15 t16 r18 t19 hcp0 hm23 hw hT hF c5 c7 c9 c11 c14 c17 c20 c21 hl; omega
    | succ n23 ih23 =>
      intro v23_2 H locs ls w1 r2 t3 r4 r6 r8 r10 r12 t13 r15 t16 r18 t19 hcp0 hm23 hw hT hF c5 c7 c9 c11 c14 c17 c20 c21 hl
      refine lv_iload_n hx hb dX12_image_23 rfl (lv_at hl 2 rfl) ?_
      refine lv_sipush (v := 296) hx hb dX12_image_24 (by decide) ?_
      refine lv_icmp_ge (tgt := 54) hx hb dX12_image_27 (by decide) (fun c22 => ?_) (fun c22 => ?_)
      · have c22 : (296 : Int) ≤ v23_2.toInt := wk_le.mp c22
        refine lv_aload_n hx hb dX12_image_54 rfl (lv_at hl 0 rfl) ?_
        refine tk_getA hC hK hw hT hinX12 kM_at0 (by decide) rfl 26 (by decide) (List.mem_of_getElem? (i := 4) rfl) rfl rfl dX12_image_55 ?_
        refine lv_iconst (v := 5) hx hb dX12_image_58 (by decide) ?_
        refine tk_ialdR hC hK hw hT kM_at12 rfl (by decide) (by decide) dX12_image_59 (fun x23 c24 Ex23 => ?_)
        have bx23 := tk_rgI rfl 5 1 1 0 4 (by decide +kernel) ⟨0, by decide, by decide⟩ Ex23
        have c24 : gi w1 12 5 = x23 := c24
        exact tk_iret hC hr hlocks hK ⟨hT, hF, ⟨(show 0 ≤ x23.toInt by omega), (show x23.toInt ≤ 4 by omega), (hcp0.resolve_left (by omega)), (by simp only [c21, (show (1 : Int32).toInt = 1 by decide)] <;> omega), (by simp only [cf0_, c5] <;> omega), (by simp only [cf4_, c11] <;> omega), (by simp only [cf1_, c7] <;> omega), (by simp only [cf2_, c9] <;> omega), (by simp only [cf5_, c14] <;> omega), (by simp only [cf6_, c17] <;> omega), (by simp only [cf7_, c20] <;> omega)⟩⟩ hw dX12_image_60
      · have c22 : v23_2.toInt < (296 : Int) := wk_leF c22
        refine lv_aload_n hx hb dX12_image_30 rfl (lv_at hl 0 rfl) ?_
        refine tk_getA hC hK hw hT hinX12 kM_at0 (by decide) rfl 40 (by decide) (List.mem_of_getElem? (i := 3) rfl) rfl rfl dX12_image_31 ?_
        refine lv_sipush (v := 296) hx hb dX12_image_34 (by decide) ?_
        refine lv_iload_n hx hb dX12_image_37 rfl (lv_at hl 1 rfl) ?_
        refine lv_imul hx hb dX12_image_38 ?_
        refine wk_top 888 (by decide) ?_
        refine lv_iload_n hx hb dX12_image_39 rfl (lv_at hl 2 rfl) ?_
        refine lv_iadd hx hb dX12_image_40 ?_
        refine lv_topi (fun x25 ex25 => ?_)
        have ex25 : x25.toInt = (888 : Int) + v23_2.toInt := by rw [ex25]; exact wk_add (show (-2147483648) ≤ (888 : Int) + v23_2.toInt by omega) (show (888 : Int) + v23_2.toInt ≤ 2147483647 by omega)
        refine lv_aload_n hx hb dX12_image_41 rfl (lv_at hl 0 rfl) ?_
        refine tk_getA hC hK hw hT hinX12 kM_at0 (by decide) rfl 26 (by decide) (List.mem_of_getElem? (i := 4) rfl) rfl rfl dX12_image_42 ?_
        refine lv_iload_n hx hb dX12_image_45 rfl (lv_at hl 2 rfl) ?_
        refine tk_ialdR hC hK hw hT kM_at12 rfl (show 0 ≤ v23_2.toInt by omega) (show v23_2.toInt < 296 by omega) dX12_image_46 (fun x26 c27 Ex26 => ?_)
        have lEx26 : gi w1 12 (v23_2.toInt).toNat = x26 := c27
        have c27 : gi w1 12 (v23_2.toInt).toNat = x26 := (congrArg (gi w1 12) (congrArg Int.toNat (show v23_2.toInt = v23_2.toInt by omega))).trans c27
        have hF0 := hF
        refine tk_iastR hC hK hw hT kM_at21 (by decide) rfl (show 0 ≤ x25.toInt by omega) (show x25.toInt < 1184 by omega) (tk_rgC rfl rfl (show v23_2.toInt.toNat % 296 = x25.toInt.toNat % 296 by omega) Ex26) dX12_image_47 (fun H locs w28 hw hT k30 c29 => ?_)
        have hF := hF.put kM_at21 (inE_of (a := 0) (b := 1184) (by decide) (show 0 ≤ x25.toInt.toNat by omega) (show x25.toInt.toNat ≤ 1184 by omega)) k30
        have c31 := k30.gi (Or.inl (tk_ne kM_at12 kM_at21 (by decide))) c5
        have c32 := k30.gi (Or.inr (show 305 ≠ x25.toInt.toNat by omega)) c7
        have c33 := k30.gi (Or.inr (show 601 ≠ x25.toInt.toNat by omega)) c9
        have c34 := k30.gi (Or.inr (show 9 ≠ x25.toInt.toNat by omega)) c11
        have c35 := k30.gi (Or.inl (tk_ne kM_at22 kM_at21 (by decide))) c14
        have c36 := k30.gi (Or.inl (tk_ne kM_at22 kM_at21 (by decide))) c17
        have c37 := k30.gi (Or.inl (tk_ne kM_at22 kM_at21 (by decide))) c20
        have c38 := k30.gi (Or.inl (tk_ne kM_at22 kM_at21 (by decide))) c21
        have c39 := k30.gi (Or.inl (tk_ne kM_at12 kM_at21 (by decide))) c27
        obtain ⟨x40, ex40⟩ : ∃ y : Int32, y = v23_2 + Int32.ofInt 1 := ⟨_, rfl⟩
        refine lv_iinc (v := x40) (lv' := [(2, .int x40), (0, .ref (ad 0)), (1, .int 3)]) hx hb dX12_image_48 hl (k := 2) rfl ex40.symm (by decide) rfl (fun ls hl => ?_)
        have ex40 : x40.toInt = v23_2.toInt + 1 := by rw [ex40]; exact wk_add (y := 1) (show -2147483648 ≤ v23_2.toInt + 1 by omega) (show v23_2.toInt + 1 ≤ 2147483647 by omega)
        refine lv_goto (tgt := 23) hx hb dX12_image_51 (by decide) ?_
        exact ih23 x40 H locs ls w28 (show 0 ≤ x40.toInt by omega) (show x40.toInt ≤ 296 by omega) (show 0 ≤ f0_.toInt by omega) (show 0 ≤ f1_.toInt by omega) (show 0 ≤ f2_.toInt by omega) (show 0 ≤ f4_.toInt by omega) (show 0 ≤ f5_.toInt by omega) (show f5_.toInt ≤ 1 by omega) (show 0 ≤ f6_.toInt by omega) (show f6_.toInt ≤ 1 by omega) (show 0 ≤ f7_.toInt by omega) (show f7_.toInt ≤ 1 by omega) (copy_at (d := 888) (by first | rfl | omega) hcp0 k30 (show x25.toInt = v23_2.toInt + 888 by omega) c29 lEx26 (hF0.gi kM_at12 rfl rfl) (by omega) (by omega) (by omega)) (show (296 - x40.toInt).toNat < n23 by omega) hw hT hF c31 c32 c33 c34 c35 c36 c37 c38 (lv_sub hl [1, 2, 0] rfl)
  refine lv_iload_n hx hb dX12_image_0 rfl (lv_at hl 1 rfl) ?_
  refine lv_i2l hx hb dX12_image_1 rfl ?_
  refine wk_topl 3 (by decide) ?_
  refine lv_lconst (v := 0) hx hb dX12_image_2 (by decide) ?_
  refine lv_ldc2 (v := 3) hx hb hC.2.2.2.1 (hC.2.2.2.2 _ (List.mem_of_getElem? (i := 1) rfl)) dX12_image_3 ?_
  refine tk_Si hC hK hw hT hA hE hSR (k_X12_in_23 l adK adV dC dI cy ad B (by omega) (by omega) qr s1    w0 s.heap.size hT ) (va_cwS 3 hC.2.2.2.2 gX12_image_X12_in rfl rfl rfl (by decide +kernel) ⟨Nat.le_of_ble_eq_true rfl, Nat.le_of_ble_eq_true rfl⟩) rfl hl.1 rfl (Nat.le_of_ble_eq_true rfl) dX12_image_6 (fun r41 w43 H locs hp42 hw => ?_)
  obtain ⟨rfl, hg45⟩ := hp42
  obtain rfl := hg45
  refine lv_if_ne (tgt := 14) hx hb dX12_image_9 (by decide) (fun _ => ?_) (fun c => absurd c (by decide))
  refine lv_aload_n hx hb dX12_image_14 rfl (lv_at hl 0 rfl) ?_
  refine tk_getA hC hK hw hT hinX12 kM_at0 (by decide) rfl 41 (by decide) (List.mem_of_getElem? (i := 2) rfl) rfl rfl dX12_image_15 ?_
  refine lv_iload_n hx hb dX12_image_18 rfl (lv_at hl 1 rfl) ?_
  refine lv_iconst (v := 1) hx hb dX12_image_19 (by decide) ?_
  refine tk_zast hC hK hw hT kM_at22 (by decide) rfl rfl (by decide) (by decide) (by decide) (by decide) dX12_image_20 (fun H locs w46 hw hT k48 c47 => ?_)
  have hF := hF.put kM_at22 (inE_of (a := 0) (b := 4) (by decide) (by decide) (by decide)) k48
  have c49 := k48.gi (Or.inl (tk_ne kM_at12 kM_at22 (by decide))) cf0_
  have c50 := k48.gi (Or.inl (tk_ne kM_at21 kM_at22 (by decide))) cf1_
  have c51 := k48.gi (Or.inl (tk_ne kM_at21 kM_at22 (by decide))) cf2_
  have c52 := k48.gi (Or.inl (tk_ne kM_at21 kM_at22 (by decide))) cf3_
  have c53 := k48.gi (Or.inl (tk_ne kM_at21 kM_at22 (by decide))) cf4_
  have c54 := k48.gi (Or.inr (by decide)) cf5_
  have c55 := k48.gi (Or.inr (by decide)) cf6_
  have c56 := k48.gi (Or.inr (by decide)) cf7_
  have c47 : gi w46 22 3 = 1 := c47
  refine lv_iconst (v := 0) hx hb dX12_image_21 (by decide) ?_
  refine lv_istore_n (lv' := [(2, .int 0), (0, .ref (ad 0)), (1, .int 3)]) hx hb dX12_image_22 rfl hl (by decide) rfl (fun ls hl => ?_)
  exact L23 ((296 - (0 : Int)).toNat + 1) 0 H locs ls w46 (by decide) (by decide) (show 0 ≤ f0_.toInt by omega) (show 0 ≤ f1_.toInt by omega) (show 0 ≤ f2_.toInt by omega) (show 0 ≤ f4_.toInt by omega) (show 0 ≤ f5_.toInt by omega) (show f5_.toInt ≤ 1 by omega) (show 0 ≤ f6_.toInt by omega) (show f6_.toInt ≤ 1 by omega) (show 0 ≤ f7_.toInt by omega) (show f7_.toInt ≤ 1 by omega) (show ((0 : Int) ≤ 9 ∨ gi w46 21 (897) = gi w0 12 9) from Or.inl (by omega)) (Nat.lt_succ_self _) hw hT hF c49 c50 c51 c53 c54 c55 c56 c47 (lv_sub hl [1, 2, 0] rfl)
abbrev P_X12_back_5 (ad : Nat → Nat) (cy : Nat → ClassId) (B : Int) (qr : Nat) (s1 : Int)  (w0 : va_W) : Int32 → va_W → Prop := fun r u => TW ksM ad cy B qr 12 u ∧ FE ksM [(71, 0, 295)] w0 u ∧ ((0 ≤ r.toInt ∧ r.toInt ≤ 4 ∧ gi u 12 9 = gi w0 21 (897) ∧ (1 ≤ (gi w0 22 3).toInt) ∧ ((gi u 21 9).toInt = (gi w0 21 9).toInt) ∧ ((gi u 21 305).toInt = (gi w0 21 305).toInt) ∧ ((gi u 21 601).toInt = (gi w0 21 601).toInt) ∧ ((gi u 21 897).toInt = (gi w0 21 897).toInt) ∧ ((gi u 22 0).toInt = (gi w0 22 0).toInt) ∧ ((gi u 22 1).toInt = (gi w0 22 1).toInt) ∧ ((gi u 22 2).toInt = (gi w0 22 2).toInt) ∧ ((gi u 22 3).toInt = (gi w0 22 3).toInt)) ∨ (r = (-1) ∧ ((gi w0 22 3).toInt = 0) ∧ ((gi u 12 9).toInt = (gi w0 12 9).toInt) ∧ ((gi u 21 9).toInt = (gi w0 21 9).toInt) ∧ ((gi u 21 305).toInt = (gi w0 21 305).toInt) ∧ ((gi u 21 601).toInt = (gi w0 21 601).toInt) ∧ ((gi u 21 897).toInt = (gi w0 21 897).toInt) ∧ ((gi u 22 0).toInt = (gi w0 22 0).toInt) ∧ ((gi u 22 1).toInt = (gi w0 22 1).toInt) ∧ ((gi u 22 2).toInt = (gi w0 22 2).toInt) ∧ ((gi u 22 3).toInt = (gi w0 22 3).toInt)))
set_option maxHeartbeats 4000000 in
set_option maxRecDepth 100000 in
theorem k_X12_back_5 (l : Launch) (adK adV : Nat → Nat) (dC : Nat → ClassId) (dI : Nat → Nat → Nat) (cy : Nat → ClassId) (ad : Nat → Nat) (B : Int) (hB0 : 100000 ≤ B) (hB1 : B ≤ 1073741824) (qr : Nat) (s1 : Int)   (w0 : va_W) (sz : Nat) (hT : TW ksM ad cy B qr 12 w0) (f0_ : Int32) (cf0_ : gi w0 12 9 = f0_) (rf0_ : 0 ≤ f0_.toInt) (tf0_ : f0_.toInt ≤ 2147483647) (f1_ : Int32) (cf1_ : gi w0 21 305 = f1_) (rf1_ : 0 ≤ f1_.toInt) (tf1_ : f1_.toInt ≤ 2147483647) (f2_ : Int32) (cf2_ : gi w0 21 601 = f2_) (rf2_ : 0 ≤ f2_.toInt) (tf2_ : f2_.toInt ≤ 2147483647) (f3_ : Int32) (cf3_ : gi w0 21 897 = f3_) (rf3_ : 0 ≤ f3_.toInt) (tf3_ : f3_.toInt ≤ 2147483647) (f4_ : Int32) (cf4_ : gi w0 21 9 = f4_) (rf4_ : 0 ≤ f4_.toInt) (tf4_ : f4_.toInt ≤ 2147483647) (f5_ : Int32) (cf5_ : gi w0 22 0 = f5_) (rf5_ : 0 ≤ f5_.toInt) (tf5_ : f5_.toInt ≤ 1) (f6_ : Int32) (cf6_ : gi w0 22 1 = f6_) (rf6_ : 0 ≤ f6_.toInt) (tf6_ : f6_.toInt ≤ 1) (f7_ : Int32) (cf7_ : gi w0 22 2 = f7_) (rf7_ : 0 ≤ f7_.toInt) (tf7_ : f7_.toInt ≤ 1) (f8_ : Int32) (cf8_ : gi w0 22 3 = f8_) (rf8_ : 0 ≤ f8_.toInt) (tf8_ : f8_.toInt ≤ 1) : Met l yX12_back wsX12_back ({ frames := 2, cells := 0, slots := 0, locals := 37 }) (va_Pc [.ref (ad 0), .int 3] (wpreS adK adV dC dI cy sz w0)) (va_Qi (P_X12_back_5 ad cy B qr s1  w0) (fun u : va_W => wpost dC dI cy (va_A w0 sz) u) (va_A w0 sz)) 0 0 (va_A w0 sz) := by
  refine Met.ofW (cc := cX12_back) (maxL := 3) (ret := (some .int)) (by decide) rfl ?_
  intro p e s m args below meth c s₁ Bk hml hv
  obtain ⟨rfl, ⟨hsz, hP, hK, hD0⟩, hE, hSR⟩ := hv
  have hx := Bk.exec
  have hb := Bk.bytes
  have hr := Bk.returns
  have hlocks := Bk.notSynchronized
  have hC : CallFix p m c cX12_back 3 s _ wsX12_back RX12 := ⟨hx, hb, hml, findClass_of_methodNamed Bk.named, atoms_spec (ws := wsX12_back) Bk.pre⟩
  subst hsz
  have hD := hD0.self (sz := s.heap.size)
  generalize hAe : va_A w0 s.heap.size = A at hD hE ⊢
  have hA : ∀ q : Nat, s.heap.size ≤ q → A q := fun q h => by rw [← hAe]; exact Or.inr h
  have hw : Wd dC dI A s.heap s.heap [] w0 := ⟨hP, hD, va_S.rf⟩
  have hF : FE ksM [(71, 0, 295)] w0 w0 := FE.rf
  have hl := lv_entry ([.ref (ad 0), .int 3]) (n := 3) (Nat.le_of_ble_eq_true rfl)
  rw [lg_entry_eq]
  generalize (lg_sl ([.ref (ad 0), .int 3]) ++ List.replicate (3 - (lg_sl ([.ref (ad 0), .int 3])).length) Slot.unset).toArray = ls at hl ⊢
  have hl : lv_has ls 3 [(0, .ref (ad 0)), (1, .int 3)] := hl
  generalize hloc : ([] : List Loc) = locs at hw ⊢
  have hinX12 : ∀ w ∈ u_ws RX12 TX12 42, w ∈ wsX12_back := fun _ h => List.mem_cons_of_mem _ (List.mem_append_right _ (h))
  have J21 : ∀ (H : Heap) (locs : List Loc) (ls : Array Slot) (w1 : va_W), 0 ≤ f0_.toInt → 0 ≤ f1_.toInt → 0 ≤ f2_.toInt → 0 ≤ f3_.toInt → 0 ≤ f4_.toInt → 0 ≤ f5_.toInt → f5_.toInt ≤ 1 → 0 ≤ f6_.toInt → f6_.toInt ≤ 1 → 0 ≤ f7_.toInt → f7_.toInt ≤ 1 → (f5_.toInt = f5_.toInt) → (f6_.toInt = f6_.toInt) → (f7_.toInt = f7_.toInt) → ((0 : Int) = f8_.toInt) → Wd dC dI A s.heap H locs w1 → TW ksM ad cy B qr 12 w1 → FE ksM [(71, 0, 295)] w0 w1 → gi w1 12 9 = f0_ → gi w1 21 305 = f1_ → gi w1 21 601 = f2_ → gi w1 21 897 = f3_ → gi w1 21 9 = f4_ → gi w1 22 0 = f5_ → gi w1 22 1 = f6_ → gi w1 22 2 = f7_ → gi w1 22 3 = 0 → lv_has ls 3 [(0, .ref (ad 0)), (1, .int 3)] → W p l e ({ frames := 2, cells := 0, slots := 0, locals := 37 }) s m (List.toArray [.ref (ad 0), .int 3]) below meth c H locs 0 0 (MQ below (va_Qi (P_X12_back_5 ad cy B qr s1  w0) (fun u : va_W => wpost dC dI cy A u) A) (List.toArray [.ref (ad 0), .int 3]) s 0 0 A) (F0 m 21 ls []) := by
    intro H locs ls w1 r2 r4 r6 r8 r10 r12 t13 r15 t16 r18 t19 hcr21_0 hcr21_1 hcr21_2 hcr21_3 hw hT hF c3 c5 c7 c9 c11 c14 c17 c20 c21 hl
    refine lv_iconst (v := (-1)) hx hb dX12_back_21 (by decide) ?_
    exact tk_iret hC hr hlocks hK ⟨hT, hF, (Or.inr ⟨rfl, (by simp only [cf8_] <;> omega), (by simp only [cf0_, c3] <;> omega), (by simp only [cf4_, c11] <;> omega), (by simp only [cf1_, c5] <;> omega), (by simp only [cf2_, c7] <;> omega), (by simp only [cf3_, c9] <;> omega), (by simp only [cf5_, c14] <;> omega), (by simp only [cf6_, c17] <;> omega), (by simp only [cf7_, c20] <;> omega), (by simp only [cf8_, c21, (show (0 : Int32).toInt = 0 by decide)] <;> omega)⟩)⟩ hw dX12_back_22
  have L25 : ∀ (n25 : Nat) (v25_2 : Int32) (f25_12_9 : Int32) (H : Heap) (locs : List Loc) (ls : Array Slot) (w22 : va_W), 0 ≤ v25_2.toInt → v25_2.toInt ≤ 296 → 0 ≤ f25_12_9.toInt → 0 ≤ f1_.toInt → 0 ≤ f2_.toInt → 0 ≤ f3_.toInt → 0 ≤ f4_.toInt → 0 ≤ f5_.toInt → f5_.toInt ≤ 1 → 0 ≤ f6_.toInt → f6_.toInt ≤ 1 → 0 ≤ f7_.toInt → f7_.toInt ≤ 1 → (v25_2.toInt ≤ 9 ∨ gi w22 12 (9) = gi w0 21 (897)) → (f5_.toInt = f5_.toInt) → (f6_.toInt = f6_.toInt) → (f7_.toInt = f7_.toInt) → ((1 : Int) = f8_.toInt) → (296 - v25_2.toInt).toNat < n25 → Wd dC dI A s.heap H locs w22 → TW ksM ad cy B qr 12 w22 → FE ksM [(71, 0, 295)] w0 w22 → gi w22 12 9 = f25_12_9 → gi w22 21 305 = f1_ → gi w22 21 601 = f2_ → gi w22 21 897 = f3_ → gi w22 21 9 = f4_ → gi w22 22 0 = f5_ → gi w22 22 1 = f6_ → gi w22 22 2 = f7_ → gi w22 22 3 = 1 → lv_has ls 3 [(0, .ref (ad 0)), (1, .int 3), (2, .int v25_2)] → W p l e ({ frames := 2, cells := 0, slots := 0, locals := 37 }) s m (List.toArray [.ref (ad 0), .int 3]) below meth c H locs 0 0 (MQ below (va_Qi (P_X12_back_5 ad cy B qr s1  w0) (fun u : va_W => wpost dC dI cy A u) A) (List.toArray [.ref (ad 0), .int 3]) s 0 0 A) (F0 m 25 ls []) := by
    intro n25
    induction n25 with
    | zero => intro v25_2 f25_12_9 H locs ls w22 r23 t24 r25 r27 r29 r31 r33 r35 t36 r38 t39 r41 t42 hcp0 hcr25_0 hcr25_1 hcr25_2 hcr25_3 hm25 hw hT hF c26 c28 c30 c32 c34 c37 c40 c43 c44 hl; omega
    | succ n25 ih25 =>
      intro v25_2 f25_12_9 H locs ls w22 r23 t24 r25 r27 r29 r31 r33 r35 t36 r38 t39 r41 t42 hcp0 hcr25_0 hcr25_1 hcr25_2 hcr25_3 hm25 hw hT hF c26 c28 c30 c32 c34 c37 c40 c43 c44 hl
      refine lv_iload_n hx hb dX12_back_25 rfl (lv_at hl 2 rfl) ?_
      refine lv_sipush (v := 296) hx hb dX12_back_26 (by decide) ?_
      refine lv_icmp_ge (tgt := 56) hx hb dX12_back_29 (by decide) (fun c45 => ?_) (fun c45 => ?_)
      · have c45 : (296 : Int) ≤ v25_2.toInt := wk_le.mp c45
        refine lv_aload_n hx hb dX12_back_56 rfl (lv_at hl 0 rfl) ?_
        refine tk_getA hC hK hw hT hinX12 kM_at0 (by decide) rfl 26 (by decide) (List.mem_of_getElem? (i := 3) rfl) rfl rfl dX12_back_57 ?_
        refine lv_iconst (v := 5) hx hb dX12_back_60 (by decide) ?_
        refine tk_ialdR hC hK hw hT kM_at12 rfl (by decide) (by decide) dX12_back_61 (fun x46 c47 Ex46 => ?_)
        have bx46 := tk_rgI rfl 5 1 1 0 4 (by decide +kernel) ⟨0, by decide, by decide⟩ Ex46
        have c47 : gi w22 12 5 = x46 := c47
        exact tk_iret hC hr hlocks hK ⟨hT, hF, (Or.inl ⟨(show 0 ≤ x46.toInt by omega), (show x46.toInt ≤ 4 by omega), (hcp0.resolve_left (by omega)), (by simp only [cf8_] <;> omega), (by simp only [cf4_, c34] <;> omega), (by simp only [cf1_, c28] <;> omega), (by simp only [cf2_, c30] <;> omega), (by simp only [cf3_, c32] <;> omega), (by simp only [cf5_, c37] <;> omega), (by simp only [cf6_, c40] <;> omega), (by simp only [cf7_, c43] <;> omega), (by simp only [cf8_, c44, (show (1 : Int32).toInt = 1 by decide)] <;> omega)⟩)⟩ hw dX12_back_62
      · have c45 : v25_2.toInt < (296 : Int) := wk_leF c45
        refine lv_aload_n hx hb dX12_back_32 rfl (lv_at hl 0 rfl) ?_
        refine tk_getA hC hK hw hT hinX12 kM_at0 (by decide) rfl 26 (by decide) (List.mem_of_getElem? (i := 3) rfl) rfl rfl dX12_back_33 ?_
        refine lv_iload_n hx hb dX12_back_36 rfl (lv_at hl 2 rfl) ?_
        refine lv_aload_n hx hb dX12_back_37 rfl (lv_at hl 0 rfl) ?_
        refine tk_getA hC hK hw hT hinX12 kM_at0 (by decide) rfl 40 (by decide) (List.mem_of_getElem? (i := 4) rfl) rfl rfl dX12_back_38 ?_
        refine lv_sipush (v := 296) hx hb dX12_back_41 (by decide) ?_
        refine lv_iload_n hx hb dX12_back_44 rfl (lv_at hl 1 rfl) ?_
        refine lv_imul hx hb dX12_back_45 ?_
        refine wk_top 888 (by decide) ?_
        refine lv_iload_n hx hb dX12_back_46 rfl (lv_at hl 2 rfl) ?_
        refine lv_iadd hx hb dX12_back_47 ?_
        refine lv_topi (fun x48 ex48 => ?_)
        have ex48 : x48.toInt = (888 : Int) + v25_2.toInt := by rw [ex48]; exact wk_add (show (-2147483648) ≤ (888 : Int) + v25_2.toInt by omega) (show (888 : Int) + v25_2.toInt ≤ 2147483647 by omega)
        refine tk_ialdR hC hK hw hT kM_at21 rfl (show 0 ≤ x48.toInt by omega) (show x48.toInt < 1184 by omega) dX12_back_48 (fun x49 c50 Ex49 => ?_)
        have lEx49 : gi w22 21 (x48.toInt).toNat = x49 := c50
        have hF0 := hF
        refine tk_iastR hC hK hw hT kM_at12 (by decide) rfl (show 0 ≤ v25_2.toInt by omega) (show v25_2.toInt < 296 by omega) (tk_rgC rfl rfl (show x48.toInt.toNat % 296 = v25_2.toInt.toNat % 296 by omega) Ex49) dX12_back_49 (fun H locs w51 hw hT k53 c52 => ?_)
        have hF := hF.put kM_at12 (inE_of (a := 0) (b := 295) (by decide) (show 0 ≤ v25_2.toInt.toNat by omega) (show v25_2.toInt.toNat ≤ 295 by omega)) k53
        have c54 := k53.gi (Or.inl (tk_ne kM_at21 kM_at12 (by decide))) c28
        have c55 := k53.gi (Or.inl (tk_ne kM_at21 kM_at12 (by decide))) c30
        have c56 := k53.gi (Or.inl (tk_ne kM_at21 kM_at12 (by decide))) c32
        have c57 := k53.gi (Or.inl (tk_ne kM_at21 kM_at12 (by decide))) c34
        have c58 := k53.gi (Or.inl (tk_ne kM_at22 kM_at12 (by decide))) c37
        have c59 := k53.gi (Or.inl (tk_ne kM_at22 kM_at12 (by decide))) c40
        have c60 := k53.gi (Or.inl (tk_ne kM_at22 kM_at12 (by decide))) c43
        have c61 := k53.gi (Or.inl (tk_ne kM_at22 kM_at12 (by decide))) c44
        obtain ⟨x62, ex62⟩ : ∃ y : Int32, y = v25_2 + Int32.ofInt 1 := ⟨_, rfl⟩
        refine lv_iinc (v := x62) (lv' := [(2, .int x62), (0, .ref (ad 0)), (1, .int 3)]) hx hb dX12_back_50 hl (k := 2) rfl ex62.symm (by decide) rfl (fun ls hl => ?_)
        have ex62 : x62.toInt = v25_2.toInt + 1 := by rw [ex62]; exact wk_add (y := 1) (show -2147483648 ≤ v25_2.toInt + 1 by omega) (show v25_2.toInt + 1 ≤ 2147483647 by omega)
        refine lv_goto (tgt := 25) hx hb dX12_back_53 (by decide) ?_
        obtain ⟨x63, c64, rx63, tx63⟩ := hT.rdR (lo := 0) (hi := 2147483647) (i := 9) kM_at12 rfl rfl (by decide) rfl rfl
        exact ih25 x62 x63 H locs ls w51 (show 0 ≤ x62.toInt by omega) (show x62.toInt ≤ 296 by omega) (show 0 ≤ x63.toInt by omega) (show 0 ≤ f1_.toInt by omega) (show 0 ≤ f2_.toInt by omega) (show 0 ≤ f3_.toInt by omega) (show 0 ≤ f4_.toInt by omega) (show 0 ≤ f5_.toInt by omega) (show f5_.toInt ≤ 1 by omega) (show 0 ≤ f6_.toInt by omega) (show f6_.toInt ≤ 1 by omega) (show 0 ≤ f7_.toInt by omega) (show f7_.toInt ≤ 1 by omega) (copy_at2 (d := 888) (by first | rfl | omega) hcp0 k53 (show x48.toInt = v25_2.toInt + 888 by omega) c52 lEx49 (hF0.gi kM_at21 rfl rfl) (by omega) (by omega) (by omega)) (show f5_.toInt = f5_.toInt by omega) (show f6_.toInt = f6_.toInt by omega) (show f7_.toInt = f7_.toInt by omega) (show (1 : Int) = f8_.toInt by omega) (show (296 - x62.toInt).toNat < n25 by omega) hw hT hF c64 c54 c55 c56 c57 c58 c59 c60 c61 (lv_sub hl [1, 2, 0] rfl)
  refine lv_iload_n hx hb dX12_back_0 rfl (lv_at hl 1 rfl) ?_
  refine lv_i2l hx hb dX12_back_1 rfl ?_
  refine wk_topl 3 (by decide) ?_
  refine lv_lconst (v := 0) hx hb dX12_back_2 (by decide) ?_
  refine lv_ldc2 (v := 3) hx hb hC.2.2.2.1 (hC.2.2.2.2 _ (List.mem_of_getElem? (i := 1) rfl)) dX12_back_3 ?_
  refine tk_Si hC hK hw hT hA hE hSR (k_X12_in_23 l adK adV dC dI cy ad B (by omega) (by omega) qr s1    w0 s.heap.size hT ) (va_cwS 3 hC.2.2.2.2 gX12_back_X12_in rfl rfl rfl (by decide +kernel) ⟨Nat.le_of_ble_eq_true rfl, Nat.le_of_ble_eq_true rfl⟩) rfl hl.1 rfl (Nat.le_of_ble_eq_true rfl) dX12_back_6 (fun r65 w67 H locs hp66 hw => ?_)
  obtain ⟨rfl, hg69⟩ := hp66
  obtain rfl := hg69
  refine lv_if_eq (tgt := 21) hx hb dX12_back_9 (by decide) (fun c => absurd c (by decide)) (fun _ => ?_)
  refine lv_aload_n hx hb dX12_back_12 rfl (lv_at hl 0 rfl) ?_
  refine tk_getA hC hK hw hT hinX12 kM_at0 (by decide) rfl 41 (by decide) (List.mem_of_getElem? (i := 2) rfl) rfl rfl dX12_back_13 ?_
  refine lv_iload_n hx hb dX12_back_16 rfl (lv_at hl 1 rfl) ?_
  refine tk_zald hC hK hw hT kM_at22 rfl rfl (by decide) (by decide) dX12_back_17 (fun x70 c71 rx70 tx70 => ?_)
  refine wk_top f8_ (c71.symm.trans cf8_) ?_
  refine lv_if_ne (tgt := 23) hx hb dX12_back_18 (by decide) (fun c72 => ?_) (fun c72 => ?_)
  · have c72 : ¬ f8_.toInt = (0 : Int) := wk_eqF c72
    refine lv_iconst (v := 0) hx hb dX12_back_23 (by decide) ?_
    refine lv_istore_n (lv' := [(2, .int 0), (0, .ref (ad 0)), (1, .int 3)]) hx hb dX12_back_24 rfl hl (by decide) rfl (fun ls hl => ?_)
    obtain rfl : f8_ = 1 := wk_eq.mpr (show f8_.toInt = 1 by omega)
    exact L25 ((296 - (0 : Int)).toNat + 1) 0 f0_ H locs ls w0 (by decide) (by decide) (show 0 ≤ f0_.toInt by omega) (show 0 ≤ f1_.toInt by omega) (show 0 ≤ f2_.toInt by omega) (show 0 ≤ f3_.toInt by omega) (show 0 ≤ f4_.toInt by omega) (show 0 ≤ f5_.toInt by omega) (show f5_.toInt ≤ 1 by omega) (show 0 ≤ f6_.toInt by omega) (show f6_.toInt ≤ 1 by omega) (show 0 ≤ f7_.toInt by omega) (show f7_.toInt ≤ 1 by omega) (show ((0 : Int) ≤ 9 ∨ gi w0 12 (9) = gi w0 21 (897)) from Or.inl (by omega)) (show f5_.toInt = f5_.toInt by omega) (show f6_.toInt = f6_.toInt by omega) (show f7_.toInt = f7_.toInt by omega) (show (1 : Int) = (1 : Int) by omega) (Nat.lt_succ_self _) hw hT hF cf0_ cf1_ cf2_ cf3_ cf4_ cf5_ cf6_ cf7_ cf8_ (lv_sub hl [1, 2, 0] rfl)
  · have c72 : f8_.toInt = (0 : Int) := wk_eq.mp c72
    obtain rfl : f8_ = 0 := wk_eq.mpr (show f8_.toInt = 0 by omega)
    exact J21  H locs ls w0 (show 0 ≤ f0_.toInt by omega) (show 0 ≤ f1_.toInt by omega) (show 0 ≤ f2_.toInt by omega) (show 0 ≤ f3_.toInt by omega) (show 0 ≤ f4_.toInt by omega) (show 0 ≤ f5_.toInt by omega) (show f5_.toInt ≤ 1 by omega) (show 0 ≤ f6_.toInt by omega) (show f6_.toInt ≤ 1 by omega) (show 0 ≤ f7_.toInt by omega) (show f7_.toInt ≤ 1 by omega) (show f5_.toInt = f5_.toInt by omega) (show f6_.toInt = f6_.toInt by omega) (show f7_.toInt = f7_.toInt by omega) (show (0 : Int) = (0 : Int) by omega)  hw hT hF cf0_ cf1_ cf2_ cf3_ cf4_ cf5_ cf6_ cf7_ cf8_ (lv_sub hl [0, 1] rfl)
abbrev P_X12_town_2 (ad : Nat → Nat) (cy : Nat → ClassId) (B : Int) (qr : Nat) (s1 : Int)  (w0 : va_W) : Int32 → va_W → Prop := fun r u => TW ksM ad cy B qr 12 u ∧ FE ksM [(12, 1, 1), (12, 7, 7), (12, 8, 8), (12, 9, 9), (12, 10, 10), (12, 14, 14), (12, 15, 15), (12, 16, 16), (12, 17, 17), (12, 18, 18), (12, 20, 20), (62, 0, 7), (65, 0, 120), (66, 0, 16), (67, 0, 12), (71, 0, 0), (71, 0, 295), (71, 1, 1), (71, 2, 2), (71, 3, 3), (71, 9, 9), (71, 10, 129), (71, 140, 155), (71, 156, 167)] w0 u ∧ (((-3207) ≤ r.toInt ∧ r.toInt ≤ (-3) ∧ (∃ y : Int32, gi u 0 1 = y ∧ 0 ≤ y.toInt ∧ y.toInt ≤ 0) ∧ (∃ y : Int32, gi u 0 15 = y ∧ 1 ≤ y.toInt ∧ y.toInt ≤ 3205) ∧ (∃ y : Int32, gi u 0 17 = y ∧ 6 ≤ y.toInt ∧ y.toInt ≤ 6) ∧ (∃ y : Int32, gi u 0 18 = y ∧ 0 ≤ y.toInt ∧ y.toInt ≤ 0) ∧ (∃ y : Int32, gi u 0 20 = y ∧ 0 ≤ y.toInt ∧ y.toInt ≤ 32) ∧ ((gi u 12 9).toInt = (gi w0 12 9).toInt)) ∨ (0 ≤ r.toInt ∧ r.toInt ≤ 12 ∧ (∃ y : Int32, gi u 0 1 = y ∧ 0 ≤ y.toInt ∧ y.toInt ≤ 0) ∧ (∃ y : Int32, gi u 0 15 = y ∧ 0 ≤ y.toInt ∧ y.toInt ≤ 0) ∧ (∃ y : Int32, gi u 0 17 = y ∧ 6 ≤ y.toInt ∧ y.toInt ≤ 6) ∧ (∃ y : Int32, gi u 0 18 = y ∧ 0 ≤ y.toInt ∧ y.toInt ≤ 0) ∧ (∃ y : Int32, gi u 0 20 = y ∧ 0 ≤ y.toInt ∧ y.toInt ≤ 32) ∧ ((gi u 12 9).toInt = (gi w0 12 9).toInt)))
set_option maxHeartbeats 4000000 in
set_option maxRecDepth 100000 in
theorem k_X12_town_2 (l : Launch) (adK adV : Nat → Nat) (dC : Nat → ClassId) (dI : Nat → Nat → Nat) (cy : Nat → ClassId) (ad : Nat → Nat) (B : Int) (hB0 : 100000 ≤ B) (hB1 : B ≤ 1073741824) (qr : Nat) (s1 : Int)   (w0 : va_W) (sz : Nat) (hT : TW ksM ad cy B qr 12 w0) (f0_ : Int32) (cf0_ : gi w0 12 9 = f0_) (rf0_ : 0 ≤ f0_.toInt) (tf0_ : f0_.toInt ≤ 2147483647) : Met l yX12_town wsX12_town ({ frames := 7, cells := 0, slots := 0, locals := 149 }) (va_Pc [.ref (ad 0)] (wpreS adK adV dC dI cy sz w0)) (va_Qi (P_X12_town_2 ad cy B qr s1  w0) (fun u : va_W => wpost dC dI cy (va_A w0 sz) u) (va_A w0 sz)) 0 0 (va_A w0 sz) := by
  refine Met.ofW (cc := cX12_town) (maxL := 3) (ret := (some .int)) (by decide) rfl ?_
  intro p e s m args below meth c s₁ Bk hml hv
  obtain ⟨rfl, ⟨hsz, hP, hK, hD0⟩, hE, hSR⟩ := hv
  have hx := Bk.exec
  have hb := Bk.bytes
  have hr := Bk.returns
  have hlocks := Bk.notSynchronized
  have hC : CallFix p m c cX12_town 3 s _ wsX12_town RX12 := ⟨hx, hb, hml, findClass_of_methodNamed Bk.named, atoms_spec (ws := wsX12_town) Bk.pre⟩
  subst hsz
  have hD := hD0.self (sz := s.heap.size)
  generalize hAe : va_A w0 s.heap.size = A at hD hE ⊢
  have hA : ∀ q : Nat, s.heap.size ≤ q → A q := fun q h => by rw [← hAe]; exact Or.inr h
  have hw : Wd dC dI A s.heap s.heap [] w0 := ⟨hP, hD, va_S.rf⟩
  have hF : FE ksM [(12, 1, 1), (12, 7, 7), (12, 8, 8), (12, 9, 9), (12, 10, 10), (12, 14, 14), (12, 15, 15), (12, 16, 16), (12, 17, 17), (12, 18, 18), (12, 20, 20), (62, 0, 7), (65, 0, 120), (66, 0, 16), (67, 0, 12), (71, 0, 0), (71, 0, 295), (71, 1, 1), (71, 2, 2), (71, 3, 3), (71, 9, 9), (71, 10, 129), (71, 140, 155), (71, 156, 167)] w0 w0 := FE.rf
  have hl := lv_entry ([.ref (ad 0)]) (n := 3) (Nat.le_of_ble_eq_true rfl)
  rw [lg_entry_eq]
  generalize (lg_sl ([.ref (ad 0)]) ++ List.replicate (3 - (lg_sl ([.ref (ad 0)])).length) Slot.unset).toArray = ls at hl ⊢
  have hl : lv_has ls 3 [(0, .ref (ad 0))] := hl
  generalize hloc : ([] : List Loc) = locs at hw ⊢
  have hinX12 : ∀ w ∈ u_ws RX12 TX12 42, w ∈ wsX12_town := fun _ h => List.mem_cons_of_mem _ (List.mem_append_right _ (h))
  have L189 : ∀ (n189 : Nat) (v189_2 : Int32) (f189_0_10 : Int32) (f189_0_20 : Int32) (f189_0_7 : Int32) (f189_0_8 : Int32) (f189_0_9 : Int32) (f189_12_0 : Int32) (f189_12_1 : Int32) (f189_12_2 : Int32) (f189_12_3 : Int32) (H : Heap) (locs : List Loc) (ls : Array Slot) (w1 : va_W), 0 ≤ f0_.toInt → 0 ≤ v189_2.toInt → v189_2.toInt ≤ 12 → 0 ≤ f189_0_10.toInt → f189_0_10.toInt ≤ 4 → 0 ≤ f189_0_20.toInt → f189_0_20.toInt ≤ 32 → 0 ≤ f189_0_7.toInt → f189_0_7.toInt ≤ 10 → 0 ≤ f189_0_8.toInt → f189_0_8.toInt ≤ 12 → 0 ≤ f189_0_9.toInt → f189_0_9.toInt ≤ 8 → 0 ≤ f189_12_0.toInt → f189_12_0.toInt ≤ 10 → 0 ≤ f189_12_1.toInt → f189_12_1.toInt ≤ 12 → 0 ≤ f189_12_2.toInt → f189_12_2.toInt ≤ 8 → 0 ≤ f189_12_3.toInt → f189_12_3.toInt ≤ 4 → 0 ≤ f0_.toInt → (12 - v189_2.toInt).toNat < n189 → Wd dC dI A s.heap H locs w1 → TW ksM ad cy B qr 12 w1 → FE ksM [(12, 1, 1), (12, 7, 7), (12, 8, 8), (12, 9, 9), (12, 10, 10), (12, 14, 14), (12, 15, 15), (12, 16, 16), (12, 17, 17), (12, 18, 18), (12, 20, 20), (62, 0, 7), (65, 0, 120), (66, 0, 16), (67, 0, 12), (71, 0, 0), (71, 0, 295), (71, 1, 1), (71, 2, 2), (71, 3, 3), (71, 9, 9), (71, 10, 129), (71, 140, 155), (71, 156, 167)] w0 w1 → gi w1 0 1 = 0 → gi w1 0 10 = f189_0_10 → gi w1 0 15 = 0 → gi w1 0 17 = 6 → gi w1 0 18 = 0 → gi w1 0 20 = f189_0_20 → gi w1 0 7 = f189_0_7 → gi w1 0 8 = f189_0_8 → gi w1 0 9 = f189_0_9 → gi w1 12 0 = f189_12_0 → gi w1 12 1 = f189_12_1 → gi w1 12 2 = f189_12_2 → gi w1 12 3 = f189_12_3 → gi w1 12 9 = f0_ → lv_has ls 3 [(0, .ref (ad 0)), (1, .int f0_), (2, .int v189_2)] → W p l e ({ frames := 7, cells := 0, slots := 0, locals := 149 }) s m (List.toArray [.ref (ad 0)]) below meth c H locs 0 0 (MQ below (va_Qi (P_X12_town_2 ad cy B qr s1  w0) (fun u : va_W => wpost dC dI cy A u) A) (List.toArray [.ref (ad 0)]) s 0 0 A) (F0 m 189 ls []) := by
    intro n189
    induction n189 with
    | zero => intro v189_2 f189_0_10 f189_0_20 f189_0_7 f189_0_8 f189_0_9 f189_12_0 f189_12_1 f189_12_2 f189_12_3 H locs ls w1 r2 r3 t4 r6 t7 r12 t13 r15 t16 r18 t19 r21 t22 r24 t25 r27 t28 r30 t31 r33 t34 r36 hm189 hw hT hF c5 c8 c9 c10 c11 c14 c17 c20 c23 c26 c29 c32 c35 c37 hl; omega
    | succ n189 ih189 =>
      intro v189_2 f189_0_10 f189_0_20 f189_0_7 f189_0_8 f189_0_9 f189_12_0 f189_12_1 f189_12_2 f189_12_3 H locs ls w1 r2 r3 t4 r6 t7 r12 t13 r15 t16 r18 t19 r21 t22 r24 t25 r27 t28 r30 t31 r33 t34 r36 hm189 hw hT hF c5 c8 c9 c10 c11 c14 c17 c20 c23 c26 c29 c32 c35 c37 hl
      refine lv_iload_n hx hb dX12_town_189 rfl (lv_at hl 2 rfl) ?_
      refine lv_iconst (v := 3) hx hb dX12_town_190 (by decide) ?_
      refine lv_aload_n hx hb dX12_town_191 rfl (lv_at hl 0 rfl) ?_
      refine tk_geti hC hK hw hT hinX12 kM_at0 (by decide) rfl 10 (by decide) (List.mem_of_getElem? (i := 5) rfl) rfl rfl dX12_town_192 (fun x38 c39 rx38 tx38 => ?_)
      refine wk_top f189_0_10 (c39.symm.trans c8) ?_
      refine lv_imul hx hb dX12_town_195 ?_
      refine lv_topi (fun x40 ex40 => ?_)
      have ex40 : x40.toInt = (3 : Int) * f189_0_10.toInt := by rw [ex40]; exact wk_mul (show (-2147483648) ≤ (3 : Int) * f189_0_10.toInt by omega) (show (3 : Int) * f189_0_10.toInt ≤ 2147483647 by omega)
      refine lv_icmp_ge (tgt := 221) hx hb dX12_town_196 (by decide) (fun c41 => ?_) (fun c41 => ?_)
      · have c41 : x40.toInt ≤ v189_2.toInt := wk_le.mp c41
        refine lv_aload_n hx hb dX12_town_221 rfl (lv_at hl 0 rfl) ?_
        refine tk_geti hC hK hw hT hinX12 kM_at0 (by decide) rfl 8 (by decide) (List.mem_of_getElem? (i := 3) rfl) rfl rfl dX12_town_222 (fun x42 c43 rx42 tx42 => ?_)
        refine wk_top f189_0_8 (c43.symm.trans c20) ?_
        exact tk_iret hC hr hlocks hK ⟨hT, hF, (Or.inr ⟨(show 0 ≤ f189_0_8.toInt by omega), (show f189_0_8.toInt ≤ 12 by omega), ⟨0, c5, (by decide), (by decide)⟩, ⟨0, c9, (by decide), (by decide)⟩, ⟨6, c10, (by decide), (by decide)⟩, ⟨0, c11, (by decide), (by decide)⟩, ⟨f189_0_20, c14, (show 0 ≤ f189_0_20.toInt by omega), (show f189_0_20.toInt ≤ 32 by omega)⟩, (by simp only [cf0_, c37] <;> omega)⟩)⟩ hw dX12_town_225
      · have c41 : v189_2.toInt < x40.toInt := wk_leF c41
        refine lv_aload_n hx hb dX12_town_199 rfl (lv_at hl 0 rfl) ?_
        refine tk_getA hC hK hw hT hinX12 kM_at0 (by decide) rfl 26 (by decide) (List.mem_of_getElem? (i := 7) rfl) rfl rfl dX12_town_200 ?_
        refine lv_sipush (v := 156) hx hb dX12_town_203 (by decide) ?_
        refine lv_iload_n hx hb dX12_town_206 rfl (lv_at hl 2 rfl) ?_
        refine lv_iadd hx hb dX12_town_207 ?_
        refine lv_topi (fun x44 ex44 => ?_)
        have ex44 : x44.toInt = (156 : Int) + v189_2.toInt := by rw [ex44]; exact wk_add (show (-2147483648) ≤ (156 : Int) + v189_2.toInt by omega) (show (156 : Int) + v189_2.toInt ≤ 2147483647 by omega)
        refine lv_aload_n hx hb dX12_town_208 rfl (lv_at hl 0 rfl) ?_
        refine tk_getA hC hK hw hT hinX12 kM_at0 (by decide) rfl 13 (by decide) (List.mem_of_getElem? (i := 10) rfl) rfl rfl dX12_town_209 ?_
        refine lv_iload_n hx hb dX12_town_212 rfl (lv_at hl 2 rfl) ?_
        refine tk_iald hC hK hw hT kM_at8 rfl rfl (show 0 ≤ v189_2.toInt by omega) (show v189_2.toInt < 12 by omega) dX12_town_213 (fun x45 c46 rx45 tx45 => ?_)
        refine tk_iastR hC hK hw hT kM_at12 (by decide) rfl (show 0 ≤ x44.toInt by omega) (show x44.toInt < 296 by omega) (tk_rgS rfl 156 1 12 (-2147483648) 2147483647 (by decide +kernel) ⟨(v189_2.toInt - 0).toNat, by omega, show x44.toInt.toNat = 156 + 1 * (v189_2.toInt - 0).toNat by omega⟩ (wk_i32 x45).1 (wk_i32 x45).2) dX12_town_214 (fun H locs w47 hw hT k49 c48 => ?_)
        have hF := hF.put kM_at12 (inE_of (a := 156) (b := 167) (by decide) (show 156 ≤ x44.toInt.toNat by omega) (show x44.toInt.toNat ≤ 167 by omega)) k49
        have c50 := k49.gi (Or.inl (tk_ne kM_at0 kM_at12 (by decide))) c5
        have c51 := k49.gi (Or.inl (tk_ne kM_at0 kM_at12 (by decide))) c8
        have c52 := k49.gi (Or.inl (tk_ne kM_at0 kM_at12 (by decide))) c9
        have c53 := k49.gi (Or.inl (tk_ne kM_at0 kM_at12 (by decide))) c10
        have c54 := k49.gi (Or.inl (tk_ne kM_at0 kM_at12 (by decide))) c11
        have c55 := k49.gi (Or.inl (tk_ne kM_at0 kM_at12 (by decide))) c14
        have c56 := k49.gi (Or.inl (tk_ne kM_at0 kM_at12 (by decide))) c17
        have c57 := k49.gi (Or.inl (tk_ne kM_at0 kM_at12 (by decide))) c20
        have c58 := k49.gi (Or.inl (tk_ne kM_at0 kM_at12 (by decide))) c23
        have c59 := k49.gi (Or.inr (show 0 ≠ x44.toInt.toNat by omega)) c26
        have c60 := k49.gi (Or.inr (show 1 ≠ x44.toInt.toNat by omega)) c29
        have c61 := k49.gi (Or.inr (show 2 ≠ x44.toInt.toNat by omega)) c32
        have c62 := k49.gi (Or.inr (show 3 ≠ x44.toInt.toNat by omega)) c35
        have c63 := k49.gi (Or.inr (show 9 ≠ x44.toInt.toNat by omega)) c37
        obtain ⟨x64, ex64⟩ : ∃ y : Int32, y = v189_2 + Int32.ofInt 1 := ⟨_, rfl⟩
        refine lv_iinc (v := x64) (lv' := [(2, .int x64), (0, .ref (ad 0)), (1, .int f0_)]) hx hb dX12_town_215 hl (k := 2) rfl ex64.symm (by decide) rfl (fun ls hl => ?_)
        have ex64 : x64.toInt = v189_2.toInt + 1 := by rw [ex64]; exact wk_add (y := 1) (show -2147483648 ≤ v189_2.toInt + 1 by omega) (show v189_2.toInt + 1 ≤ 2147483647 by omega)
        refine lv_goto (tgt := 189) hx hb dX12_town_218 (by decide) ?_
        exact ih189 x64 f189_0_10 f189_0_20 f189_0_7 f189_0_8 f189_0_9 f189_12_0 f189_12_1 f189_12_2 f189_12_3 H locs ls w47 (show 0 ≤ f0_.toInt by omega) (show 0 ≤ x64.toInt by omega) (show x64.toInt ≤ 12 by omega) (show 0 ≤ f189_0_10.toInt by omega) (show f189_0_10.toInt ≤ 4 by omega) (show 0 ≤ f189_0_20.toInt by omega) (show f189_0_20.toInt ≤ 32 by omega) (show 0 ≤ f189_0_7.toInt by omega) (show f189_0_7.toInt ≤ 10 by omega) (show 0 ≤ f189_0_8.toInt by omega) (show f189_0_8.toInt ≤ 12 by omega) (show 0 ≤ f189_0_9.toInt by omega) (show f189_0_9.toInt ≤ 8 by omega) (show 0 ≤ f189_12_0.toInt by omega) (show f189_12_0.toInt ≤ 10 by omega) (show 0 ≤ f189_12_1.toInt by omega) (show f189_12_1.toInt ≤ 12 by omega) (show 0 ≤ f189_12_2.toInt by omega) (show f189_12_2.toInt ≤ 8 by omega) (show 0 ≤ f189_12_3.toInt by omega) (show f189_12_3.toInt ≤ 4 by omega) (show 0 ≤ f0_.toInt by omega) (show (12 - x64.toInt).toNat < n189 by omega) hw hT hF c50 c51 c52 c53 c54 c55 c56 c57 c58 c59 c60 c61 c62 c63 (lv_sub hl [1, 2, 0] rfl)
  have L155 : ∀ (n155 : Nat) (v155_2 : Int32) (f155_0_10 : Int32) (f155_0_20 : Int32) (f155_0_7 : Int32) (f155_0_8 : Int32) (f155_0_9 : Int32) (f155_12_0 : Int32) (f155_12_1 : Int32) (f155_12_2 : Int32) (f155_12_3 : Int32) (H : Heap) (locs : List Loc) (ls : Array Slot) (w65 : va_W), 0 ≤ f0_.toInt → 0 ≤ v155_2.toInt → v155_2.toInt ≤ 16 → 0 ≤ f155_0_10.toInt → f155_0_10.toInt ≤ 4 → 0 ≤ f155_0_20.toInt → f155_0_20.toInt ≤ 32 → 0 ≤ f155_0_7.toInt → f155_0_7.toInt ≤ 10 → 0 ≤ f155_0_8.toInt → f155_0_8.toInt ≤ 12 → 0 ≤ f155_0_9.toInt → f155_0_9.toInt ≤ 8 → 0 ≤ f155_12_0.toInt → f155_12_0.toInt ≤ 10 → 0 ≤ f155_12_1.toInt → f155_12_1.toInt ≤ 12 → 0 ≤ f155_12_2.toInt → f155_12_2.toInt ≤ 8 → 0 ≤ f155_12_3.toInt → f155_12_3.toInt ≤ 4 → 0 ≤ f0_.toInt → (16 - v155_2.toInt).toNat < n155 → Wd dC dI A s.heap H locs w65 → TW ksM ad cy B qr 12 w65 → FE ksM [(12, 1, 1), (12, 7, 7), (12, 8, 8), (12, 9, 9), (12, 10, 10), (12, 14, 14), (12, 15, 15), (12, 16, 16), (12, 17, 17), (12, 18, 18), (12, 20, 20), (62, 0, 7), (65, 0, 120), (66, 0, 16), (67, 0, 12), (71, 0, 0), (71, 0, 295), (71, 1, 1), (71, 2, 2), (71, 3, 3), (71, 9, 9), (71, 10, 129), (71, 140, 155), (71, 156, 167)] w0 w65 → gi w65 0 1 = 0 → gi w65 0 10 = f155_0_10 → gi w65 0 15 = 0 → gi w65 0 17 = 6 → gi w65 0 18 = 0 → gi w65 0 20 = f155_0_20 → gi w65 0 7 = f155_0_7 → gi w65 0 8 = f155_0_8 → gi w65 0 9 = f155_0_9 → gi w65 12 0 = f155_12_0 → gi w65 12 1 = f155_12_1 → gi w65 12 2 = f155_12_2 → gi w65 12 3 = f155_12_3 → gi w65 12 9 = f0_ → lv_has ls 3 [(0, .ref (ad 0)), (1, .int f0_), (2, .int v155_2)] → W p l e ({ frames := 7, cells := 0, slots := 0, locals := 149 }) s m (List.toArray [.ref (ad 0)]) below meth c H locs 0 0 (MQ below (va_Qi (P_X12_town_2 ad cy B qr s1  w0) (fun u : va_W => wpost dC dI cy A u) A) (List.toArray [.ref (ad 0)]) s 0 0 A) (F0 m 155 ls []) := by
    intro n155
    induction n155 with
    | zero => intro v155_2 f155_0_10 f155_0_20 f155_0_7 f155_0_8 f155_0_9 f155_12_0 f155_12_1 f155_12_2 f155_12_3 H locs ls w65 r66 r67 t68 r70 t71 r76 t77 r79 t80 r82 t83 r85 t86 r88 t89 r91 t92 r94 t95 r97 t98 r100 hm155 hw hT hF c69 c72 c73 c74 c75 c78 c81 c84 c87 c90 c93 c96 c99 c101 hl; omega
    | succ n155 ih155 =>
      intro v155_2 f155_0_10 f155_0_20 f155_0_7 f155_0_8 f155_0_9 f155_12_0 f155_12_1 f155_12_2 f155_12_3 H locs ls w65 r66 r67 t68 r70 t71 r76 t77 r79 t80 r82 t83 r85 t86 r88 t89 r91 t92 r94 t95 r97 t98 r100 hm155 hw hT hF c69 c72 c73 c74 c75 c78 c81 c84 c87 c90 c93 c96 c99 c101 hl
      refine lv_iload_n hx hb dX12_town_155 rfl (lv_at hl 2 rfl) ?_
      refine lv_iconst (v := 2) hx hb dX12_town_156 (by decide) ?_
      refine lv_aload_n hx hb dX12_town_157 rfl (lv_at hl 0 rfl) ?_
      refine tk_geti hC hK hw hT hinX12 kM_at0 (by decide) rfl 9 (by decide) (List.mem_of_getElem? (i := 4) rfl) rfl rfl dX12_town_158 (fun x102 c103 rx102 tx102 => ?_)
      refine wk_top f155_0_9 (c103.symm.trans c87) ?_
      refine lv_imul hx hb dX12_town_161 ?_
      refine lv_topi (fun x104 ex104 => ?_)
      have ex104 : x104.toInt = (2 : Int) * f155_0_9.toInt := by rw [ex104]; exact wk_mul (show (-2147483648) ≤ (2 : Int) * f155_0_9.toInt by omega) (show (2 : Int) * f155_0_9.toInt ≤ 2147483647 by omega)
      refine lv_icmp_ge (tgt := 187) hx hb dX12_town_162 (by decide) (fun c105 => ?_) (fun c105 => ?_)
      · have c105 : x104.toInt ≤ v155_2.toInt := wk_le.mp c105
        refine lv_iconst (v := 0) hx hb dX12_town_187 (by decide) ?_
        refine lv_istore_n (lv' := [(2, .int 0), (0, .ref (ad 0)), (1, .int f0_)]) hx hb dX12_town_188 rfl hl (by decide) rfl (fun ls hl => ?_)
        exact L189 ((12 - (0 : Int)).toNat + 1) 0 f155_0_10 f155_0_20 f155_0_7 f155_0_8 f155_0_9 f155_12_0 f155_12_1 f155_12_2 f155_12_3 H locs ls w65 (show 0 ≤ f0_.toInt by omega) (by decide) (by decide) (show 0 ≤ f155_0_10.toInt by omega) (show f155_0_10.toInt ≤ 4 by omega) (show 0 ≤ f155_0_20.toInt by omega) (show f155_0_20.toInt ≤ 32 by omega) (show 0 ≤ f155_0_7.toInt by omega) (show f155_0_7.toInt ≤ 10 by omega) (show 0 ≤ f155_0_8.toInt by omega) (show f155_0_8.toInt ≤ 12 by omega) (show 0 ≤ f155_0_9.toInt by omega) (show f155_0_9.toInt ≤ 8 by omega) (show 0 ≤ f155_12_0.toInt by omega) (show f155_12_0.toInt ≤ 10 by omega) (show 0 ≤ f155_12_1.toInt by omega) (show f155_12_1.toInt ≤ 12 by omega) (show 0 ≤ f155_12_2.toInt by omega) (show f155_12_2.toInt ≤ 8 by omega) (show 0 ≤ f155_12_3.toInt by omega) (show f155_12_3.toInt ≤ 4 by omega) (show 0 ≤ f0_.toInt by omega) (Nat.lt_succ_self _) hw hT hF c69 c72 c73 c74 c75 c78 c81 c84 c87 c90 c93 c96 c99 c101 (lv_sub hl [1, 2, 0] rfl)
      · have c105 : v155_2.toInt < x104.toInt := wk_leF c105
        refine lv_aload_n hx hb dX12_town_165 rfl (lv_at hl 0 rfl) ?_
        refine tk_getA hC hK hw hT hinX12 kM_at0 (by decide) rfl 26 (by decide) (List.mem_of_getElem? (i := 7) rfl) rfl rfl dX12_town_166 ?_
        refine lv_sipush (v := 140) hx hb dX12_town_169 (by decide) ?_
        refine lv_iload_n hx hb dX12_town_172 rfl (lv_at hl 2 rfl) ?_
        refine lv_iadd hx hb dX12_town_173 ?_
        refine lv_topi (fun x106 ex106 => ?_)
        have ex106 : x106.toInt = (140 : Int) + v155_2.toInt := by rw [ex106]; exact wk_add (show (-2147483648) ≤ (140 : Int) + v155_2.toInt by omega) (show (140 : Int) + v155_2.toInt ≤ 2147483647 by omega)
        refine lv_aload_n hx hb dX12_town_174 rfl (lv_at hl 0 rfl) ?_
        refine tk_getA hC hK hw hT hinX12 kM_at0 (by decide) rfl 12 (by decide) (List.mem_of_getElem? (i := 9) rfl) rfl rfl dX12_town_175 ?_
        refine lv_iload_n hx hb dX12_town_178 rfl (lv_at hl 2 rfl) ?_
        refine tk_iald hC hK hw hT kM_at7 rfl rfl (show 0 ≤ v155_2.toInt by omega) (show v155_2.toInt < 16 by omega) dX12_town_179 (fun x107 c108 rx107 tx107 => ?_)
        refine tk_iastR hC hK hw hT kM_at12 (by decide) rfl (show 0 ≤ x106.toInt by omega) (show x106.toInt < 296 by omega) (tk_rgS rfl 140 1 16 (-2147483648) 2147483647 (by decide +kernel) ⟨(v155_2.toInt - 0).toNat, by omega, show x106.toInt.toNat = 140 + 1 * (v155_2.toInt - 0).toNat by omega⟩ (wk_i32 x107).1 (wk_i32 x107).2) dX12_town_180 (fun H locs w109 hw hT k111 c110 => ?_)
        have hF := hF.put kM_at12 (inE_of (a := 140) (b := 155) (by decide) (show 140 ≤ x106.toInt.toNat by omega) (show x106.toInt.toNat ≤ 155 by omega)) k111
        have c112 := k111.gi (Or.inl (tk_ne kM_at0 kM_at12 (by decide))) c69
        have c113 := k111.gi (Or.inl (tk_ne kM_at0 kM_at12 (by decide))) c72
        have c114 := k111.gi (Or.inl (tk_ne kM_at0 kM_at12 (by decide))) c73
        have c115 := k111.gi (Or.inl (tk_ne kM_at0 kM_at12 (by decide))) c74
        have c116 := k111.gi (Or.inl (tk_ne kM_at0 kM_at12 (by decide))) c75
        have c117 := k111.gi (Or.inl (tk_ne kM_at0 kM_at12 (by decide))) c78
        have c118 := k111.gi (Or.inl (tk_ne kM_at0 kM_at12 (by decide))) c81
        have c119 := k111.gi (Or.inl (tk_ne kM_at0 kM_at12 (by decide))) c84
        have c120 := k111.gi (Or.inl (tk_ne kM_at0 kM_at12 (by decide))) c87
        have c121 := k111.gi (Or.inr (show 0 ≠ x106.toInt.toNat by omega)) c90
        have c122 := k111.gi (Or.inr (show 1 ≠ x106.toInt.toNat by omega)) c93
        have c123 := k111.gi (Or.inr (show 2 ≠ x106.toInt.toNat by omega)) c96
        have c124 := k111.gi (Or.inr (show 3 ≠ x106.toInt.toNat by omega)) c99
        have c125 := k111.gi (Or.inr (show 9 ≠ x106.toInt.toNat by omega)) c101
        obtain ⟨x126, ex126⟩ : ∃ y : Int32, y = v155_2 + Int32.ofInt 1 := ⟨_, rfl⟩
        refine lv_iinc (v := x126) (lv' := [(2, .int x126), (0, .ref (ad 0)), (1, .int f0_)]) hx hb dX12_town_181 hl (k := 2) rfl ex126.symm (by decide) rfl (fun ls hl => ?_)
        have ex126 : x126.toInt = v155_2.toInt + 1 := by rw [ex126]; exact wk_add (y := 1) (show -2147483648 ≤ v155_2.toInt + 1 by omega) (show v155_2.toInt + 1 ≤ 2147483647 by omega)
        refine lv_goto (tgt := 155) hx hb dX12_town_184 (by decide) ?_
        exact ih155 x126 f155_0_10 f155_0_20 f155_0_7 f155_0_8 f155_0_9 f155_12_0 f155_12_1 f155_12_2 f155_12_3 H locs ls w109 (show 0 ≤ f0_.toInt by omega) (show 0 ≤ x126.toInt by omega) (show x126.toInt ≤ 16 by omega) (show 0 ≤ f155_0_10.toInt by omega) (show f155_0_10.toInt ≤ 4 by omega) (show 0 ≤ f155_0_20.toInt by omega) (show f155_0_20.toInt ≤ 32 by omega) (show 0 ≤ f155_0_7.toInt by omega) (show f155_0_7.toInt ≤ 10 by omega) (show 0 ≤ f155_0_8.toInt by omega) (show f155_0_8.toInt ≤ 12 by omega) (show 0 ≤ f155_0_9.toInt by omega) (show f155_0_9.toInt ≤ 8 by omega) (show 0 ≤ f155_12_0.toInt by omega) (show f155_12_0.toInt ≤ 10 by omega) (show 0 ≤ f155_12_1.toInt by omega) (show f155_12_1.toInt ≤ 12 by omega) (show 0 ≤ f155_12_2.toInt by omega) (show f155_12_2.toInt ≤ 8 by omega) (show 0 ≤ f155_12_3.toInt by omega) (show f155_12_3.toInt ≤ 4 by omega) (show 0 ≤ f0_.toInt by omega) (show (16 - x126.toInt).toNat < n155 by omega) hw hT hF c112 c113 c114 c115 c116 c117 c118 c119 c120 c121 c122 c123 c124 c125 (lv_sub hl [1, 2, 0] rfl)
  have L121 : ∀ (n121 : Nat) (v121_2 : Int32) (f121_0_10 : Int32) (f121_0_20 : Int32) (f121_0_7 : Int32) (f121_0_8 : Int32) (f121_0_9 : Int32) (f121_12_0 : Int32) (f121_12_1 : Int32) (f121_12_2 : Int32) (f121_12_3 : Int32) (H : Heap) (locs : List Loc) (ls : Array Slot) (w127 : va_W), 0 ≤ f0_.toInt → 0 ≤ v121_2.toInt → v121_2.toInt ≤ 120 → 0 ≤ f121_0_10.toInt → f121_0_10.toInt ≤ 4 → 0 ≤ f121_0_20.toInt → f121_0_20.toInt ≤ 32 → 0 ≤ f121_0_7.toInt → f121_0_7.toInt ≤ 10 → 0 ≤ f121_0_8.toInt → f121_0_8.toInt ≤ 12 → 0 ≤ f121_0_9.toInt → f121_0_9.toInt ≤ 8 → 0 ≤ f121_12_0.toInt → f121_12_0.toInt ≤ 10 → 0 ≤ f121_12_1.toInt → f121_12_1.toInt ≤ 12 → 0 ≤ f121_12_2.toInt → f121_12_2.toInt ≤ 8 → 0 ≤ f121_12_3.toInt → f121_12_3.toInt ≤ 4 → 0 ≤ f0_.toInt → (120 - v121_2.toInt).toNat < n121 → Wd dC dI A s.heap H locs w127 → TW ksM ad cy B qr 12 w127 → FE ksM [(12, 1, 1), (12, 7, 7), (12, 8, 8), (12, 9, 9), (12, 10, 10), (12, 14, 14), (12, 15, 15), (12, 16, 16), (12, 17, 17), (12, 18, 18), (12, 20, 20), (62, 0, 7), (65, 0, 120), (66, 0, 16), (67, 0, 12), (71, 0, 0), (71, 0, 295), (71, 1, 1), (71, 2, 2), (71, 3, 3), (71, 9, 9), (71, 10, 129), (71, 140, 155), (71, 156, 167)] w0 w127 → gi w127 0 1 = 0 → gi w127 0 10 = f121_0_10 → gi w127 0 15 = 0 → gi w127 0 17 = 6 → gi w127 0 18 = 0 → gi w127 0 20 = f121_0_20 → gi w127 0 7 = f121_0_7 → gi w127 0 8 = f121_0_8 → gi w127 0 9 = f121_0_9 → gi w127 12 0 = f121_12_0 → gi w127 12 1 = f121_12_1 → gi w127 12 2 = f121_12_2 → gi w127 12 3 = f121_12_3 → gi w127 12 9 = f0_ → lv_has ls 3 [(0, .ref (ad 0)), (1, .int f0_), (2, .int v121_2)] → W p l e ({ frames := 7, cells := 0, slots := 0, locals := 149 }) s m (List.toArray [.ref (ad 0)]) below meth c H locs 0 0 (MQ below (va_Qi (P_X12_town_2 ad cy B qr s1  w0) (fun u : va_W => wpost dC dI cy A u) A) (List.toArray [.ref (ad 0)]) s 0 0 A) (F0 m 121 ls []) := by
    intro n121
    induction n121 with
    | zero => intro v121_2 f121_0_10 f121_0_20 f121_0_7 f121_0_8 f121_0_9 f121_12_0 f121_12_1 f121_12_2 f121_12_3 H locs ls w127 r128 r129 t130 r132 t133 r138 t139 r141 t142 r144 t145 r147 t148 r150 t151 r153 t154 r156 t157 r159 t160 r162 hm121 hw hT hF c131 c134 c135 c136 c137 c140 c143 c146 c149 c152 c155 c158 c161 c163 hl; omega
    | succ n121 ih121 =>
      intro v121_2 f121_0_10 f121_0_20 f121_0_7 f121_0_8 f121_0_9 f121_12_0 f121_12_1 f121_12_2 f121_12_3 H locs ls w127 r128 r129 t130 r132 t133 r138 t139 r141 t142 r144 t145 r147 t148 r150 t151 r153 t154 r156 t157 r159 t160 r162 hm121 hw hT hF c131 c134 c135 c136 c137 c140 c143 c146 c149 c152 c155 c158 c161 c163 hl
      refine lv_iload_n hx hb dX12_town_121 rfl (lv_at hl 2 rfl) ?_
      refine lv_bipush (v := 10) hx hb dX12_town_122 (by decide) ?_
      refine lv_aload_n hx hb dX12_town_124 rfl (lv_at hl 0 rfl) ?_
      refine tk_geti hC hK hw hT hinX12 kM_at0 (by decide) rfl 8 (by decide) (List.mem_of_getElem? (i := 3) rfl) rfl rfl dX12_town_125 (fun x164 c165 rx164 tx164 => ?_)
      refine wk_top f121_0_8 (c165.symm.trans c146) ?_
      refine lv_imul hx hb dX12_town_128 ?_
      refine lv_topi (fun x166 ex166 => ?_)
      have ex166 : x166.toInt = (10 : Int) * f121_0_8.toInt := by rw [ex166]; exact wk_mul (show (-2147483648) ≤ (10 : Int) * f121_0_8.toInt by omega) (show (10 : Int) * f121_0_8.toInt ≤ 2147483647 by omega)
      refine lv_icmp_ge (tgt := 153) hx hb dX12_town_129 (by decide) (fun c167 => ?_) (fun c167 => ?_)
      · have c167 : x166.toInt ≤ v121_2.toInt := wk_le.mp c167
        refine lv_iconst (v := 0) hx hb dX12_town_153 (by decide) ?_
        refine lv_istore_n (lv' := [(2, .int 0), (0, .ref (ad 0)), (1, .int f0_)]) hx hb dX12_town_154 rfl hl (by decide) rfl (fun ls hl => ?_)
        exact L155 ((16 - (0 : Int)).toNat + 1) 0 f121_0_10 f121_0_20 f121_0_7 f121_0_8 f121_0_9 f121_12_0 f121_12_1 f121_12_2 f121_12_3 H locs ls w127 (show 0 ≤ f0_.toInt by omega) (by decide) (by decide) (show 0 ≤ f121_0_10.toInt by omega) (show f121_0_10.toInt ≤ 4 by omega) (show 0 ≤ f121_0_20.toInt by omega) (show f121_0_20.toInt ≤ 32 by omega) (show 0 ≤ f121_0_7.toInt by omega) (show f121_0_7.toInt ≤ 10 by omega) (show 0 ≤ f121_0_8.toInt by omega) (show f121_0_8.toInt ≤ 12 by omega) (show 0 ≤ f121_0_9.toInt by omega) (show f121_0_9.toInt ≤ 8 by omega) (show 0 ≤ f121_12_0.toInt by omega) (show f121_12_0.toInt ≤ 10 by omega) (show 0 ≤ f121_12_1.toInt by omega) (show f121_12_1.toInt ≤ 12 by omega) (show 0 ≤ f121_12_2.toInt by omega) (show f121_12_2.toInt ≤ 8 by omega) (show 0 ≤ f121_12_3.toInt by omega) (show f121_12_3.toInt ≤ 4 by omega) (show 0 ≤ f0_.toInt by omega) (Nat.lt_succ_self _) hw hT hF c131 c134 c135 c136 c137 c140 c143 c146 c149 c152 c155 c158 c161 c163 (lv_sub hl [1, 2, 0] rfl)
      · have c167 : v121_2.toInt < x166.toInt := wk_leF c167
        refine lv_aload_n hx hb dX12_town_132 rfl (lv_at hl 0 rfl) ?_
        refine tk_getA hC hK hw hT hinX12 kM_at0 (by decide) rfl 26 (by decide) (List.mem_of_getElem? (i := 7) rfl) rfl rfl dX12_town_133 ?_
        refine lv_bipush (v := 10) hx hb dX12_town_136 (by decide) ?_
        refine lv_iload_n hx hb dX12_town_138 rfl (lv_at hl 2 rfl) ?_
        refine lv_iadd hx hb dX12_town_139 ?_
        refine lv_topi (fun x168 ex168 => ?_)
        have ex168 : x168.toInt = (10 : Int) + v121_2.toInt := by rw [ex168]; exact wk_add (show (-2147483648) ≤ (10 : Int) + v121_2.toInt by omega) (show (10 : Int) + v121_2.toInt ≤ 2147483647 by omega)
        refine lv_aload_n hx hb dX12_town_140 rfl (lv_at hl 0 rfl) ?_
        refine tk_getA hC hK hw hT hinX12 kM_at0 (by decide) rfl 11 (by decide) (List.mem_of_getElem? (i := 8) rfl) rfl rfl dX12_town_141 ?_
        refine lv_iload_n hx hb dX12_town_144 rfl (lv_at hl 2 rfl) ?_
        refine tk_iald hC hK hw hT kM_at6 rfl rfl (show 0 ≤ v121_2.toInt by omega) (show v121_2.toInt < 120 by omega) dX12_town_145 (fun x169 c170 rx169 tx169 => ?_)
        refine tk_iastR hC hK hw hT kM_at12 (by decide) rfl (show 0 ≤ x168.toInt by omega) (show x168.toInt < 296 by omega) (tk_rgS rfl 10 1 120 0 9 (by decide +kernel) ⟨(v121_2.toInt - 0).toNat, by omega, show x168.toInt.toNat = 10 + 1 * (v121_2.toInt - 0).toNat by omega⟩ (show 0 ≤ x169.toInt by omega) (show x169.toInt ≤ 9 by omega)) dX12_town_146 (fun H locs w171 hw hT k173 c172 => ?_)
        have hF := hF.put kM_at12 (inE_of (a := 10) (b := 129) (by decide) (show 10 ≤ x168.toInt.toNat by omega) (show x168.toInt.toNat ≤ 129 by omega)) k173
        have c174 := k173.gi (Or.inl (tk_ne kM_at0 kM_at12 (by decide))) c131
        have c175 := k173.gi (Or.inl (tk_ne kM_at0 kM_at12 (by decide))) c134
        have c176 := k173.gi (Or.inl (tk_ne kM_at0 kM_at12 (by decide))) c135
        have c177 := k173.gi (Or.inl (tk_ne kM_at0 kM_at12 (by decide))) c136
        have c178 := k173.gi (Or.inl (tk_ne kM_at0 kM_at12 (by decide))) c137
        have c179 := k173.gi (Or.inl (tk_ne kM_at0 kM_at12 (by decide))) c140
        have c180 := k173.gi (Or.inl (tk_ne kM_at0 kM_at12 (by decide))) c143
        have c181 := k173.gi (Or.inl (tk_ne kM_at0 kM_at12 (by decide))) c146
        have c182 := k173.gi (Or.inl (tk_ne kM_at0 kM_at12 (by decide))) c149
        have c183 := k173.gi (Or.inr (show 0 ≠ x168.toInt.toNat by omega)) c152
        have c184 := k173.gi (Or.inr (show 1 ≠ x168.toInt.toNat by omega)) c155
        have c185 := k173.gi (Or.inr (show 2 ≠ x168.toInt.toNat by omega)) c158
        have c186 := k173.gi (Or.inr (show 3 ≠ x168.toInt.toNat by omega)) c161
        have c187 := k173.gi (Or.inr (show 9 ≠ x168.toInt.toNat by omega)) c163
        obtain ⟨x188, ex188⟩ : ∃ y : Int32, y = v121_2 + Int32.ofInt 1 := ⟨_, rfl⟩
        refine lv_iinc (v := x188) (lv' := [(2, .int x188), (0, .ref (ad 0)), (1, .int f0_)]) hx hb dX12_town_147 hl (k := 2) rfl ex188.symm (by decide) rfl (fun ls hl => ?_)
        have ex188 : x188.toInt = v121_2.toInt + 1 := by rw [ex188]; exact wk_add (y := 1) (show -2147483648 ≤ v121_2.toInt + 1 by omega) (show v121_2.toInt + 1 ≤ 2147483647 by omega)
        refine lv_goto (tgt := 121) hx hb dX12_town_150 (by decide) ?_
        exact ih121 x188 f121_0_10 f121_0_20 f121_0_7 f121_0_8 f121_0_9 f121_12_0 f121_12_1 f121_12_2 f121_12_3 H locs ls w171 (show 0 ≤ f0_.toInt by omega) (show 0 ≤ x188.toInt by omega) (show x188.toInt ≤ 120 by omega) (show 0 ≤ f121_0_10.toInt by omega) (show f121_0_10.toInt ≤ 4 by omega) (show 0 ≤ f121_0_20.toInt by omega) (show f121_0_20.toInt ≤ 32 by omega) (show 0 ≤ f121_0_7.toInt by omega) (show f121_0_7.toInt ≤ 10 by omega) (show 0 ≤ f121_0_8.toInt by omega) (show f121_0_8.toInt ≤ 12 by omega) (show 0 ≤ f121_0_9.toInt by omega) (show f121_0_9.toInt ≤ 8 by omega) (show 0 ≤ f121_12_0.toInt by omega) (show f121_12_0.toInt ≤ 10 by omega) (show 0 ≤ f121_12_1.toInt by omega) (show f121_12_1.toInt ≤ 12 by omega) (show 0 ≤ f121_12_2.toInt by omega) (show f121_12_2.toInt ≤ 8 by omega) (show 0 ≤ f121_12_3.toInt by omega) (show f121_12_3.toInt ≤ 4 by omega) (show 0 ≤ f0_.toInt by omega) (show (120 - x188.toInt).toNat < n121 by omega) hw hT hF c174 c175 c176 c177 c178 c179 c180 c181 c182 c183 c184 c185 c186 c187 (lv_sub hl [1, 2, 0] rfl)
  have L51 : ∀ (n51 : Nat) (v51_2 : Int32) (f51_0_20 : Int32) (H : Heap) (locs : List Loc) (ls : Array Slot) (w189 : va_W), 0 ≤ f0_.toInt → 0 ≤ v51_2.toInt → v51_2.toInt ≤ 296 → 0 ≤ f51_0_20.toInt → f51_0_20.toInt ≤ 32 → (296 - v51_2.toInt).toNat < n51 → Wd dC dI A s.heap H locs w189 → TW ksM ad cy B qr 12 w189 → FE ksM [(12, 1, 1), (12, 7, 7), (12, 8, 8), (12, 9, 9), (12, 10, 10), (12, 14, 14), (12, 15, 15), (12, 16, 16), (12, 17, 17), (12, 18, 18), (12, 20, 20), (62, 0, 7), (65, 0, 120), (66, 0, 16), (67, 0, 12), (71, 0, 0), (71, 0, 295), (71, 1, 1), (71, 2, 2), (71, 3, 3), (71, 9, 9), (71, 10, 129), (71, 140, 155), (71, 156, 167)] w0 w189 → gi w189 0 1 = 0 → gi w189 0 15 = 0 → gi w189 0 17 = 6 → gi w189 0 18 = 0 → gi w189 0 20 = f51_0_20 → lv_has ls 3 [(0, .ref (ad 0)), (1, .int f0_), (2, .int v51_2)] → W p l e ({ frames := 7, cells := 0, slots := 0, locals := 149 }) s m (List.toArray [.ref (ad 0)]) below meth c H locs 0 0 (MQ below (va_Qi (P_X12_town_2 ad cy B qr s1  w0) (fun u : va_W => wpost dC dI cy A u) A) (List.toArray [.ref (ad 0)]) s 0 0 A) (F0 m 51 ls []) := by
    intro n51
    induction n51 with
    | zero => intro v51_2 f51_0_20 H locs ls w189 r190 r191 t192 r197 t198 hm51 hw hT hF c193 c194 c195 c196 c199 hl; omega
    | succ n51 ih51 =>
      intro v51_2 f51_0_20 H locs ls w189 r190 r191 t192 r197 t198 hm51 hw hT hF c193 c194 c195 c196 c199 hl
      refine lv_iload_n hx hb dX12_town_51 rfl (lv_at hl 2 rfl) ?_
      refine lv_sipush (v := 296) hx hb dX12_town_52 (by decide) ?_
      refine lv_icmp_ge (tgt := 71) hx hb dX12_town_55 (by decide) (fun c200 => ?_) (fun c200 => ?_)
      · have c200 : (296 : Int) ≤ v51_2.toInt := wk_le.mp c200
        refine lv_aload_n hx hb dX12_town_71 rfl (lv_at hl 0 rfl) ?_
        refine tk_getA hC hK hw hT hinX12 kM_at0 (by decide) rfl 26 (by decide) (List.mem_of_getElem? (i := 7) rfl) rfl rfl dX12_town_72 ?_
        refine lv_iconst (v := 0) hx hb dX12_town_75 (by decide) ?_
        refine lv_aload_n hx hb dX12_town_76 rfl (lv_at hl 0 rfl) ?_
        refine tk_geti hC hK hw hT hinX12 kM_at0 (by decide) rfl 7 (by decide) (List.mem_of_getElem? (i := 2) rfl) rfl rfl dX12_town_77 (fun x201 c202 rx201 tx201 => ?_)
        refine tk_iastR hC hK hw hT kM_at12 (by decide) rfl (by decide) (by decide) (tk_rgS rfl 0 1 1 0 10 (by decide +kernel) ⟨0, by decide, by decide⟩ (show 0 ≤ x201.toInt by omega) (show x201.toInt ≤ 10 by omega)) dX12_town_80 (fun H locs w203 hw hT k205 c204 => ?_)
        have hF := hF.put kM_at12 (inE_of (a := 0) (b := 0) (by decide) (by decide) (by decide)) k205
        have c206 := k205.gi (Or.inl (tk_ne kM_at0 kM_at12 (by decide))) c193
        have c207 := k205.gi (Or.inl (tk_ne kM_at0 kM_at12 (by decide))) c194
        have c208 := k205.gi (Or.inl (tk_ne kM_at0 kM_at12 (by decide))) c195
        have c209 := k205.gi (Or.inl (tk_ne kM_at0 kM_at12 (by decide))) c196
        have c210 := k205.gi (Or.inl (tk_ne kM_at0 kM_at12 (by decide))) c199
        have c211 := k205.gi (Or.inl (tk_ne kM_at0 kM_at12 (by decide))) c202
        have c204 : gi w203 12 0 = x201 := c204
        refine lv_aload_n hx hb dX12_town_81 rfl (lv_at hl 0 rfl) ?_
        refine tk_getA hC hK hw hT hinX12 kM_at0 (by decide) rfl 26 (by decide) (List.mem_of_getElem? (i := 7) rfl) rfl rfl dX12_town_82 ?_
        refine lv_iconst (v := 1) hx hb dX12_town_85 (by decide) ?_
        refine lv_aload_n hx hb dX12_town_86 rfl (lv_at hl 0 rfl) ?_
        refine tk_geti hC hK hw hT hinX12 kM_at0 (by decide) rfl 8 (by decide) (List.mem_of_getElem? (i := 3) rfl) rfl rfl dX12_town_87 (fun x212 c213 rx212 tx212 => ?_)
        refine tk_iastR hC hK hw hT kM_at12 (by decide) rfl (by decide) (by decide) ((tk_rg1 rfl).mpr ⟨(show 0 ≤ x212.toInt by omega), (show x212.toInt ≤ if (71 : Nat) = 71 then (12 : Int) else 12 from (show x212.toInt ≤ 12 by omega))⟩) dX12_town_90 (fun H locs w214 hw hT k216 c215 => ?_)
        have hF := hF.put kM_at12 (inE_of (a := 1) (b := 1) (by decide) (by decide) (by decide)) k216
        have c217 := k216.gi (Or.inl (tk_ne kM_at0 kM_at12 (by decide))) c206
        have c218 := k216.gi (Or.inl (tk_ne kM_at0 kM_at12 (by decide))) c207
        have c219 := k216.gi (Or.inl (tk_ne kM_at0 kM_at12 (by decide))) c208
        have c220 := k216.gi (Or.inl (tk_ne kM_at0 kM_at12 (by decide))) c209
        have c221 := k216.gi (Or.inl (tk_ne kM_at0 kM_at12 (by decide))) c210
        have c222 := k216.gi (Or.inl (tk_ne kM_at0 kM_at12 (by decide))) c211
        have c223 := k216.gi (Or.inr (by decide)) c204
        have c224 := k216.gi (Or.inl (tk_ne kM_at0 kM_at12 (by decide))) c213
        have c215 : gi w214 12 1 = x212 := c215
        refine lv_aload_n hx hb dX12_town_91 rfl (lv_at hl 0 rfl) ?_
        refine tk_getA hC hK hw hT hinX12 kM_at0 (by decide) rfl 26 (by decide) (List.mem_of_getElem? (i := 7) rfl) rfl rfl dX12_town_92 ?_
        refine lv_iconst (v := 2) hx hb dX12_town_95 (by decide) ?_
        refine lv_aload_n hx hb dX12_town_96 rfl (lv_at hl 0 rfl) ?_
        refine tk_geti hC hK hw hT hinX12 kM_at0 (by decide) rfl 9 (by decide) (List.mem_of_getElem? (i := 4) rfl) rfl rfl dX12_town_97 (fun x225 c226 rx225 tx225 => ?_)
        refine tk_iastR hC hK hw hT kM_at12 (by decide) rfl (by decide) (by decide) (tk_rgS rfl 2 1 1 0 8 (by decide +kernel) ⟨0, by decide, by decide⟩ (show 0 ≤ x225.toInt by omega) (show x225.toInt ≤ 8 by omega)) dX12_town_100 (fun H locs w227 hw hT k229 c228 => ?_)
        have hF := hF.put kM_at12 (inE_of (a := 2) (b := 2) (by decide) (by decide) (by decide)) k229
        have c230 := k229.gi (Or.inl (tk_ne kM_at0 kM_at12 (by decide))) c217
        have c231 := k229.gi (Or.inl (tk_ne kM_at0 kM_at12 (by decide))) c218
        have c232 := k229.gi (Or.inl (tk_ne kM_at0 kM_at12 (by decide))) c219
        have c233 := k229.gi (Or.inl (tk_ne kM_at0 kM_at12 (by decide))) c220
        have c234 := k229.gi (Or.inl (tk_ne kM_at0 kM_at12 (by decide))) c221
        have c235 := k229.gi (Or.inl (tk_ne kM_at0 kM_at12 (by decide))) c222
        have c236 := k229.gi (Or.inr (by decide)) c223
        have c237 := k229.gi (Or.inl (tk_ne kM_at0 kM_at12 (by decide))) c224
        have c238 := k229.gi (Or.inr (by decide)) c215
        have c239 := k229.gi (Or.inl (tk_ne kM_at0 kM_at12 (by decide))) c226
        have c228 : gi w227 12 2 = x225 := c228
        refine lv_aload_n hx hb dX12_town_101 rfl (lv_at hl 0 rfl) ?_
        refine tk_getA hC hK hw hT hinX12 kM_at0 (by decide) rfl 26 (by decide) (List.mem_of_getElem? (i := 7) rfl) rfl rfl dX12_town_102 ?_
        refine lv_iconst (v := 3) hx hb dX12_town_105 (by decide) ?_
        refine lv_aload_n hx hb dX12_town_106 rfl (lv_at hl 0 rfl) ?_
        refine tk_geti hC hK hw hT hinX12 kM_at0 (by decide) rfl 10 (by decide) (List.mem_of_getElem? (i := 5) rfl) rfl rfl dX12_town_107 (fun x240 c241 rx240 tx240 => ?_)
        refine tk_iastR hC hK hw hT kM_at12 (by decide) rfl (by decide) (by decide) (tk_rgS rfl 3 1 1 0 4 (by decide +kernel) ⟨0, by decide, by decide⟩ (show 0 ≤ x240.toInt by omega) (show x240.toInt ≤ 4 by omega)) dX12_town_110 (fun H locs w242 hw hT k244 c243 => ?_)
        have hF := hF.put kM_at12 (inE_of (a := 3) (b := 3) (by decide) (by decide) (by decide)) k244
        have c245 := k244.gi (Or.inl (tk_ne kM_at0 kM_at12 (by decide))) c230
        have c246 := k244.gi (Or.inl (tk_ne kM_at0 kM_at12 (by decide))) c231
        have c247 := k244.gi (Or.inl (tk_ne kM_at0 kM_at12 (by decide))) c232
        have c248 := k244.gi (Or.inl (tk_ne kM_at0 kM_at12 (by decide))) c233
        have c249 := k244.gi (Or.inl (tk_ne kM_at0 kM_at12 (by decide))) c234
        have c250 := k244.gi (Or.inl (tk_ne kM_at0 kM_at12 (by decide))) c235
        have c251 := k244.gi (Or.inr (by decide)) c236
        have c252 := k244.gi (Or.inl (tk_ne kM_at0 kM_at12 (by decide))) c237
        have c253 := k244.gi (Or.inr (by decide)) c238
        have c254 := k244.gi (Or.inl (tk_ne kM_at0 kM_at12 (by decide))) c239
        have c255 := k244.gi (Or.inr (by decide)) c228
        have c256 := k244.gi (Or.inl (tk_ne kM_at0 kM_at12 (by decide))) c241
        have c243 : gi w242 12 3 = x240 := c243
        refine lv_aload_n hx hb dX12_town_111 rfl (lv_at hl 0 rfl) ?_
        refine tk_getA hC hK hw hT hinX12 kM_at0 (by decide) rfl 26 (by decide) (List.mem_of_getElem? (i := 7) rfl) rfl rfl dX12_town_112 ?_
        refine lv_bipush (v := 9) hx hb dX12_town_115 (by decide) ?_
        refine lv_iload_n hx hb dX12_town_117 rfl (lv_at hl 1 rfl) ?_
        refine tk_iastR hC hK hw hT kM_at12 (by decide) rfl (by decide) (by decide) (tk_rgS rfl 9 1 1 0 2147483647 (by decide +kernel) ⟨0, by decide, by decide⟩ (show 0 ≤ f0_.toInt by omega) (wk_i32 f0_).2) dX12_town_118 (fun H locs w257 hw hT k259 c258 => ?_)
        have hF := hF.put kM_at12 (inE_of (a := 9) (b := 9) (by decide) (by decide) (by decide)) k259
        have c260 := k259.gi (Or.inl (tk_ne kM_at0 kM_at12 (by decide))) c245
        have c261 := k259.gi (Or.inl (tk_ne kM_at0 kM_at12 (by decide))) c246
        have c262 := k259.gi (Or.inl (tk_ne kM_at0 kM_at12 (by decide))) c247
        have c263 := k259.gi (Or.inl (tk_ne kM_at0 kM_at12 (by decide))) c248
        have c264 := k259.gi (Or.inl (tk_ne kM_at0 kM_at12 (by decide))) c249
        have c265 := k259.gi (Or.inl (tk_ne kM_at0 kM_at12 (by decide))) c250
        have c266 := k259.gi (Or.inr (by decide)) c251
        have c267 := k259.gi (Or.inl (tk_ne kM_at0 kM_at12 (by decide))) c252
        have c268 := k259.gi (Or.inr (by decide)) c253
        have c269 := k259.gi (Or.inl (tk_ne kM_at0 kM_at12 (by decide))) c254
        have c270 := k259.gi (Or.inr (by decide)) c255
        have c271 := k259.gi (Or.inl (tk_ne kM_at0 kM_at12 (by decide))) c256
        have c272 := k259.gi (Or.inr (by decide)) c243
        have c258 : gi w257 12 9 = f0_ := c258
        refine lv_iconst (v := 0) hx hb dX12_town_119 (by decide) ?_
        refine lv_istore_n (lv' := [(2, .int 0), (0, .ref (ad 0)), (1, .int f0_)]) hx hb dX12_town_120 rfl hl (by decide) rfl (fun ls hl => ?_)
        exact L121 ((120 - (0 : Int)).toNat + 1) 0 x240 f51_0_20 x201 x212 x225 x201 x212 x225 x240 H locs ls w257 (show 0 ≤ f0_.toInt by omega) (by decide) (by decide) (show 0 ≤ x240.toInt by omega) (show x240.toInt ≤ 4 by omega) (show 0 ≤ f51_0_20.toInt by omega) (show f51_0_20.toInt ≤ 32 by omega) (show 0 ≤ x201.toInt by omega) (show x201.toInt ≤ 10 by omega) (show 0 ≤ x212.toInt by omega) (show x212.toInt ≤ 12 by omega) (show 0 ≤ x225.toInt by omega) (show x225.toInt ≤ 8 by omega) (show 0 ≤ x201.toInt by omega) (show x201.toInt ≤ 10 by omega) (show 0 ≤ x212.toInt by omega) (show x212.toInt ≤ 12 by omega) (show 0 ≤ x225.toInt by omega) (show x225.toInt ≤ 8 by omega) (show 0 ≤ x240.toInt by omega) (show x240.toInt ≤ 4 by omega) (show 0 ≤ f0_.toInt by omega) (Nat.lt_succ_self _) hw hT hF c260 c271 c261 c262 c263 c264 c265 c267 c269 c266 c268 c270 c272 c258 (lv_sub hl [1, 2, 0] rfl)
      · have c200 : v51_2.toInt < (296 : Int) := wk_leF c200
        refine lv_aload_n hx hb dX12_town_58 rfl (lv_at hl 0 rfl) ?_
        refine tk_getA hC hK hw hT hinX12 kM_at0 (by decide) rfl 26 (by decide) (List.mem_of_getElem? (i := 7) rfl) rfl rfl dX12_town_59 ?_
        refine lv_iload_n hx hb dX12_town_62 rfl (lv_at hl 2 rfl) ?_
        refine lv_iconst (v := 0) hx hb dX12_town_63 (by decide) ?_
        refine tk_iastR hC hK hw hT kM_at12 (by decide) rfl (show 0 ≤ v51_2.toInt by omega) (show v51_2.toInt < 296 by omega) (tk_rg0 rfl (show 0 ≤ B by omega) (by decide)) dX12_town_64 (fun H locs w273 hw hT k275 c274 => ?_)
        have hF := hF.put kM_at12 (inE_of (a := 0) (b := 295) (by decide) (show 0 ≤ v51_2.toInt.toNat by omega) (show v51_2.toInt.toNat ≤ 295 by omega)) k275
        have c276 := k275.gi (Or.inl (tk_ne kM_at0 kM_at12 (by decide))) c193
        have c277 := k275.gi (Or.inl (tk_ne kM_at0 kM_at12 (by decide))) c194
        have c278 := k275.gi (Or.inl (tk_ne kM_at0 kM_at12 (by decide))) c195
        have c279 := k275.gi (Or.inl (tk_ne kM_at0 kM_at12 (by decide))) c196
        have c280 := k275.gi (Or.inl (tk_ne kM_at0 kM_at12 (by decide))) c199
        obtain ⟨x281, ex281⟩ : ∃ y : Int32, y = v51_2 + Int32.ofInt 1 := ⟨_, rfl⟩
        refine lv_iinc (v := x281) (lv' := [(2, .int x281), (0, .ref (ad 0)), (1, .int f0_)]) hx hb dX12_town_65 hl (k := 2) rfl ex281.symm (by decide) rfl (fun ls hl => ?_)
        have ex281 : x281.toInt = v51_2.toInt + 1 := by rw [ex281]; exact wk_add (y := 1) (show -2147483648 ≤ v51_2.toInt + 1 by omega) (show v51_2.toInt + 1 ≤ 2147483647 by omega)
        refine lv_goto (tgt := 51) hx hb dX12_town_68 (by decide) ?_
        exact ih51 x281 f51_0_20 H locs ls w273 (show 0 ≤ f0_.toInt by omega) (show 0 ≤ x281.toInt by omega) (show x281.toInt ≤ 296 by omega) (show 0 ≤ f51_0_20.toInt by omega) (show f51_0_20.toInt ≤ 32 by omega) (show (296 - x281.toInt).toNat < n51 by omega) hw hT hF c276 c277 c278 c279 c280 (lv_sub hl [1, 2, 0] rfl)
  refine lv_aload_n hx hb dX12_town_0 rfl (lv_at hl 0 rfl) ?_
  refine lv_bipush (v := 6) hx hb dX12_town_1 (by decide) ?_
  refine tk_puti hC hK hw hT hinX12 tyX12_ok nmX12 kM_at0 (by decide) rfl rfl 17 (by decide) (List.mem_of_getElem? (i := 1) rfl) rfl rfl rfl rfl (by decide) (by decide) dX12_town_3 (fun H locs w282 hw hT k284 c283 => ?_)
  have hF := hF.put kM_at0 (k := 17) (by decide) k284
  have c285 := k284.gi (Or.inr (by decide)) cf0_
  refine lv_aload_n hx hb dX12_town_6 rfl (lv_at hl 0 rfl) ?_
  refine lv_iconst (v := 0) hx hb dX12_town_7 (by decide) ?_
  refine tk_puti hC hK hw hT hinX12 tyX12_ok nmX12 kM_at0 (by decide) rfl rfl 7 (by decide) (List.mem_of_getElem? (i := 2) rfl) rfl rfl rfl rfl (by decide) (by decide) dX12_town_8 (fun H locs w286 hw hT k288 c287 => ?_)
  have hF := hF.put kM_at0 (k := 7) (by decide) k288
  have c289 := k288.gi (Or.inr (by decide)) c285
  have c290 := k288.gi (Or.inr (by decide)) c283
  refine lv_aload_n hx hb dX12_town_11 rfl (lv_at hl 0 rfl) ?_
  refine lv_iconst (v := 0) hx hb dX12_town_12 (by decide) ?_
  refine tk_puti hC hK hw hT hinX12 tyX12_ok nmX12 kM_at0 (by decide) rfl rfl 8 (by decide) (List.mem_of_getElem? (i := 3) rfl) rfl rfl rfl rfl (by decide) (by decide) dX12_town_13 (fun H locs w291 hw hT k293 c292 => ?_)
  have hF := hF.put kM_at0 (k := 8) (by decide) k293
  have c294 := k293.gi (Or.inr (by decide)) c289
  have c295 := k293.gi (Or.inr (by decide)) c290
  have c296 := k293.gi (Or.inr (by decide)) c287
  refine lv_aload_n hx hb dX12_town_16 rfl (lv_at hl 0 rfl) ?_
  refine lv_iconst (v := 0) hx hb dX12_town_17 (by decide) ?_
  refine tk_puti hC hK hw hT hinX12 tyX12_ok nmX12 kM_at0 (by decide) rfl rfl 9 (by decide) (List.mem_of_getElem? (i := 4) rfl) rfl rfl rfl rfl (by decide) (by decide) dX12_town_18 (fun H locs w297 hw hT k299 c298 => ?_)
  have hF := hF.put kM_at0 (k := 9) (by decide) k299
  have c300 := k299.gi (Or.inl (tk_ne kM_at12 kM_at0 (by decide))) c294
  have c301 := k299.gi (Or.inr (by decide)) c295
  have c302 := k299.gi (Or.inr (by decide)) c296
  have c303 := k299.gi (Or.inr (by decide)) c292
  refine lv_aload_n hx hb dX12_town_21 rfl (lv_at hl 0 rfl) ?_
  refine lv_iconst (v := 0) hx hb dX12_town_22 (by decide) ?_
  refine tk_puti hC hK hw hT hinX12 tyX12_ok nmX12 kM_at0 (by decide) rfl rfl 10 (by decide) (List.mem_of_getElem? (i := 5) rfl) rfl rfl rfl rfl (by decide) (by decide) dX12_town_23 (fun H locs w304 hw hT k306 c305 => ?_)
  have hF := hF.put kM_at0 (k := 10) (by decide) k306
  have c307 := k306.gi (Or.inr (by decide)) c300
  have c308 := k306.gi (Or.inr (by decide)) c301
  have c309 := k306.gi (Or.inr (by decide)) c302
  have c310 := k306.gi (Or.inr (by decide)) c303
  have c311 := k306.gi (Or.inr (by decide)) c298
  refine lv_aload_n hx hb dX12_town_26 rfl (lv_at hl 0 rfl) ?_
  obtain ⟨x312, c313, rx312, tx312⟩ := hT.rdi (lo := 0) (hi := 32) (k := 20) kM_at0 (by decide) rfl
  refine tk_Vi hC hK hw hT hA hE hSR kM_at0 (by decide) rfl (k_X12_readsAll_1 l adK adV dC dI cy ad B (by omega) (by omega) qr s1    w304 H.size hT c308 x312 c313 (show 0 ≤ x312.toInt by omega) (show x312.toInt ≤ 32 by omega)) (cwV 0 hC.2.2.2.2 gX12_town_X12_readsAll rfl rfl rfl (by decide +kernel) ⟨Nat.le_of_ble_eq_true rfl, Nat.le_of_ble_eq_true rfl⟩) rfl hl.1 rfl (Nat.le_of_ble_eq_true rfl) dX12_town_27 (fun r314 w316 H locs hp315 hw => ?_)
  obtain ⟨hT, k317, hg338⟩ := hp315
  have hF := hF.tr k317 (by decide)
  have c339 := k317.gi kM_at12 (by decide) c307
  have c340 := k317.gi kM_at0 (by decide) c308
  rcases hg338 with ⟨rfl, ⟨x318, c319, rx318, tx318⟩, ⟨x320, c321, rx320, tx320⟩, ⟨x322, c323, rx322, tx322⟩, ⟨x324, c325, rx324, tx324⟩, ⟨x326, c327, rx326, tx326⟩⟩ | ⟨rfl, ⟨x328, c329, rx328, tx328⟩, ⟨x330, c331, rx330, tx330⟩, ⟨x332, c333, rx332, tx332⟩, ⟨x334, c335, rx334, tx334⟩, ⟨x336, c337, rx336, tx336⟩⟩
  · have ex322 : x322.toInt = (6 : Int) := by rw [show x322 = 6 from c323.symm.trans c340]; decide
    refine lv_if_ne (tgt := 41) hx hb dX12_town_30 (by decide) (fun c => absurd (by decide) c) (fun _ => ?_)
    refine lv_bipush (v := (-2)) hx hb dX12_town_33 (by decide) ?_
    refine lv_aload_n hx hb dX12_town_35 rfl (lv_at hl 0 rfl) ?_
    refine tk_geti hC hK hw hT hinX12 kM_at0 (by decide) rfl 15 (by decide) (List.mem_of_getElem? (i := 6) rfl) rfl rfl dX12_town_36 (fun x341 c342 rx341 tx341 => ?_)
    refine wk_top x320 (c342.symm.trans c321) ?_
    refine lv_isub hx hb dX12_town_39 ?_
    refine lv_topi (fun x343 ex343 => ?_)
    have ex343 : x343.toInt = (-2 : Int) - x320.toInt := by rw [ex343]; exact wk_sub (show (-2147483648) ≤ (-2 : Int) - x320.toInt by omega) (show (-2 : Int) - x320.toInt ≤ 2147483647 by omega)
    exact tk_iret hC hr hlocks hK ⟨hT, hF, (Or.inl ⟨(show (-3207) ≤ x343.toInt by omega), (show x343.toInt ≤ (-3) by omega), ⟨x318, c319, (show 0 ≤ x318.toInt by omega), (show x318.toInt ≤ 0 by omega)⟩, ⟨x320, c321, (show 1 ≤ x320.toInt by omega), (show x320.toInt ≤ 3205 by omega)⟩, ⟨6, c340, (by decide), (by decide)⟩, ⟨x324, c325, (show 0 ≤ x324.toInt by omega), (show x324.toInt ≤ 0 by omega)⟩, ⟨x326, c327, (show 0 ≤ x326.toInt by omega), (show x326.toInt ≤ 32 by omega)⟩, (by simp only [cf0_, c339] <;> omega)⟩)⟩ hw dX12_town_40
  · have ex332 : x332.toInt = (6 : Int) := by rw [show x332 = 6 from c333.symm.trans c340]; decide
    refine lv_if_ne (tgt := 41) hx hb dX12_town_30 (by decide) (fun _ => ?_) (fun c => absurd c (by decide))
    refine lv_aload_n hx hb dX12_town_41 rfl (lv_at hl 0 rfl) ?_
    refine tk_getA hC hK hw hT hinX12 kM_at0 (by decide) rfl 26 (by decide) (List.mem_of_getElem? (i := 7) rfl) rfl rfl dX12_town_42 ?_
    refine lv_bipush (v := 9) hx hb dX12_town_45 (by decide) ?_
    refine tk_ialdR hC hK hw hT kM_at12 rfl (by decide) (by decide) dX12_town_47 (fun x344 c345 Ex344 => ?_)
    refine wk_top f0_ (c345.symm.trans c339) ?_
    refine lv_istore_n (lv' := [(1, .int f0_), (0, .ref (ad 0))]) hx hb dX12_town_48 rfl hl (by decide) rfl (fun ls hl => ?_)
    refine lv_iconst (v := 0) hx hb dX12_town_49 (by decide) ?_
    refine lv_istore_n (lv' := [(2, .int 0), (1, .int f0_), (0, .ref (ad 0))]) hx hb dX12_town_50 rfl hl (by decide) rfl (fun ls hl => ?_)
    obtain rfl : x328 = 0 := wk_eq.mpr (show x328.toInt = 0 by omega)
    obtain rfl : x330 = 0 := wk_eq.mpr (show x330.toInt = 0 by omega)
    obtain rfl : x334 = 0 := wk_eq.mpr (show x334.toInt = 0 by omega)
    exact L51 ((296 - (0 : Int)).toNat + 1) 0 x336 H locs ls w316 (show 0 ≤ f0_.toInt by omega) (by decide) (by decide) (show 0 ≤ x336.toInt by omega) (show x336.toInt ≤ 32 by omega) (Nat.lt_succ_self _) hw hT hF c329 c331 c340 c335 c337 (lv_sub hl [2, 1, 0] rfl)
abbrev P_X12_comes_2 (ad : Nat → Nat) (cy : Nat → ClassId) (B : Int) (qr : Nat) (s1 : Int) (a1 : Int32) (a2 : Int32) (a3 : Int32) (w0 : va_W) : Int32 → va_W → Prop := fun r u => TW ksM ad cy (B + 3600) qr 12 u ∧ FE ksM [(12, 24, 24), (12, 31, 31), (69, 0, 64), (70, 0, 10), (71, 0, 295), (71, 216, 243), (71, 220, 247), (71, 221, 248), (71, 222, 249), (71, 223, 250), (71, 224, 251), (72, 0, 12), (73, 0, 10), (74, 0, 296)] w0 u ∧ ((0 ≤ a1.toInt ∧ a1.toInt ≤ 3 ∧ 0 ≤ a2.toInt ∧ a2.toInt ≤ 400 ∧ 2 ≤ a3.toInt ∧ a3.toInt ≤ 2 ∧ ((gi u 12 9).toInt = (gi w0 12 9).toInt)) ∨ (r = (-2) ∧ 0 ≤ a1.toInt ∧ a1.toInt ≤ 3 ∧ 0 ≤ a2.toInt ∧ a2.toInt ≤ 400 ∧ 0 ≤ a3.toInt ∧ a3.toInt ≤ 0 ∧ ((gi u 12 9).toInt = (gi w0 12 9).toInt)) ∨ (0 ≤ r.toInt ∧ r.toInt ≤ 1073741824 ∧ 0 ≤ a1.toInt ∧ a1.toInt ≤ 3 ∧ 0 ≤ a2.toInt ∧ a2.toInt ≤ 400 ∧ 0 ≤ a3.toInt ∧ a3.toInt ≤ 1 ∧ ((gi u 12 9).toInt = (gi w0 12 9).toInt)) ∨ (r = (-1) ∧ ((gi u 12 9).toInt = (gi w0 12 9).toInt)))
set_option maxHeartbeats 4000000 in
set_option maxRecDepth 100000 in
theorem k_X12_comes_2 (l : Launch) (adK adV : Nat → Nat) (dC : Nat → ClassId) (dI : Nat → Nat → Nat) (cy : Nat → ClassId) (ad : Nat → Nat) (B : Int) (hB0 : 100000 ≤ B) (hB1 : B ≤ 1073738224) (qr : Nat) (s1 : Int)  (a1 : Int32) (a2 : Int32) (a3 : Int32) (w0 : va_W) (sz : Nat) (hT : TW ksM ad cy B qr 12 w0) (f0_ : Int32) (cf0_ : gi w0 12 9 = f0_) (rf0_ : 0 ≤ f0_.toInt) (tf0_ : f0_.toInt ≤ 2147483647) (hRW : RW w0) : Met l yX12_comes wsX12_comes ({ frames := 9, cells := 0, slots := 0, locals := 194 }) (va_Pc [.ref (ad 0), .int a1, .int a2, .int a3] (wpreS adK adV dC dI cy sz w0)) (va_Qi (P_X12_comes_2 ad cy B qr s1 a1 a2 a3 w0) (fun u : va_W => wpost dC dI cy (va_A w0 sz) u) (va_A w0 sz)) 0 0 (va_A w0 sz) := by
  refine Met.ofW (cc := cX12_comes) (maxL := 7) (ret := (some .int)) (by decide) rfl ?_
  intro p e s m args below meth c s₁ Bk hml hv
  obtain ⟨rfl, ⟨hsz, hP, hK, hD0⟩, hE, hSR⟩ := hv
  have hx := Bk.exec
  have hb := Bk.bytes
  have hr := Bk.returns
  have hlocks := Bk.notSynchronized
  have hC : CallFix p m c cX12_comes 7 s _ wsX12_comes RX12 := ⟨hx, hb, hml, findClass_of_methodNamed Bk.named, atoms_spec (ws := wsX12_comes) Bk.pre⟩
  subst hsz
  have hD := hD0.self (sz := s.heap.size)
  generalize hAe : va_A w0 s.heap.size = A at hD hE ⊢
  have hA : ∀ q : Nat, s.heap.size ≤ q → A q := fun q h => by rw [← hAe]; exact Or.inr h
  have hw : Wd dC dI A s.heap s.heap [] w0 := ⟨hP, hD, va_S.rf⟩
  have hF : FE ksM [(12, 24, 24), (12, 31, 31), (69, 0, 64), (70, 0, 10), (71, 0, 295), (71, 216, 243), (71, 220, 247), (71, 221, 248), (71, 222, 249), (71, 223, 250), (71, 224, 251), (72, 0, 12), (73, 0, 10), (74, 0, 296)] w0 w0 := FE.rf
  have hl := lv_entry ([.ref (ad 0), .int a1, .int a2, .int a3]) (n := 7) (Nat.le_of_ble_eq_true rfl)
  rw [lg_entry_eq]
  generalize (lg_sl ([.ref (ad 0), .int a1, .int a2, .int a3]) ++ List.replicate (7 - (lg_sl ([.ref (ad 0), .int a1, .int a2, .int a3])).length) Slot.unset).toArray = ls at hl ⊢
  have hl : lv_has ls 7 [(0, .ref (ad 0)), (1, .int a1), (2, .int a2), (3, .int a3)] := hl
  generalize hloc : ([] : List Loc) = locs at hw ⊢
  have J32 : ∀ (H : Heap) (locs : List Loc) (ls : Array Slot) (w1 : va_W), 0 ≤ f0_.toInt → Wd dC dI A s.heap H locs w1 → TW ksM ad cy B qr 12 w1 → FE ksM [(12, 24, 24), (12, 31, 31), (69, 0, 64), (70, 0, 10), (71, 0, 295), (71, 216, 243), (71, 220, 247), (71, 221, 248), (71, 222, 249), (71, 223, 250), (71, 224, 251), (72, 0, 12), (73, 0, 10), (74, 0, 296)] w0 w1 → RW w1 → gi w1 12 9 = f0_ → lv_has ls 7 [(0, .ref (ad 0)), (1, .int a1), (2, .int a2), (3, .int a3)] → W p l e ({ frames := 9, cells := 0, slots := 0, locals := 194 }) s m (List.toArray [.ref (ad 0), .int a1, .int a2, .int a3]) below meth c H locs 0 0 (MQ below (va_Qi (P_X12_comes_2 ad cy B qr s1 a1 a2 a3 w0) (fun u : va_W => wpost dC dI cy A u) A) (List.toArray [.ref (ad 0), .int a1, .int a2, .int a3]) s 0 0 A) (F0 m 32 ls []) := by
    intro H locs ls w1 r2 hw hT hF hRW c3 hl
    refine lv_iconst (v := (-1)) hx hb dX12_comes_32 (by decide) ?_
    exact tk_iret hC hr hlocks hK ⟨(hT.up (show B ≤ (B + 3600) by omega)), hF, (Or.inr (Or.inr (Or.inr ⟨rfl, (by simp only [cf0_, c3] <;> omega)⟩)))⟩ hw dX12_comes_33
  have J76 : ∀ (v76_4 : Int32) (v76_5 : Int32) (f76_12_5 : Int32) (H : Heap) (locs : List Loc) (ls : Array Slot) (w4 : va_W), 0 ≤ a1.toInt → a1.toInt ≤ 3 → 0 ≤ a2.toInt → a2.toInt ≤ 400 → 0 ≤ a3.toInt → a3.toInt ≤ 2 → 0 ≤ v76_4.toInt → v76_4.toInt ≤ 400 → 1 ≤ f76_12_5.toInt → f76_12_5.toInt ≤ 4 → 0 ≤ f0_.toInt → 0 ≤ f0_.toInt → Wd dC dI A s.heap H locs w4 → TW ksM ad cy (B + 3600) qr 12 w4 → FE ksM [(12, 24, 24), (12, 31, 31), (69, 0, 64), (70, 0, 10), (71, 0, 295), (71, 216, 243), (71, 220, 247), (71, 221, 248), (71, 222, 249), (71, 223, 250), (71, 224, 251), (72, 0, 12), (73, 0, 10), (74, 0, 296)] w0 w4 → RW w4 → gi w4 12 5 = f76_12_5 → gi w4 12 9 = f0_ → gi w4 15 9 = f0_ → lv_has ls 7 [(0, .ref (ad 0)), (1, .int a1), (2, .int a2), (3, .int a3), (4, .int v76_4), (5, .int v76_5)] → W p l e ({ frames := 9, cells := 0, slots := 0, locals := 194 }) s m (List.toArray [.ref (ad 0), .int a1, .int a2, .int a3]) below meth c H locs 0 0 (MQ below (va_Qi (P_X12_comes_2 ad cy B qr s1 a1 a2 a3 w0) (fun u : va_W => wpost dC dI cy A u) A) (List.toArray [.ref (ad 0), .int a1, .int a2, .int a3]) s 0 0 A) (F0 m 76 ls []) := by
    intro v76_4 v76_5 f76_12_5 H locs ls w4 r5 t6 r7 t8 r9 t10 r11 t12 r13 t14 r16 r18 hw hT hF hRW c15 c17 c19 hl
    refine lv_iload_n hx hb dX12_comes_76 rfl (lv_at hl 3 rfl) ?_
    refine lv_if_ne (tgt := 102) hx hb dX12_comes_77 (by decide) (fun c20 => ?_) (fun c20 => ?_)
    · have c20 : ¬ a3.toInt = (0 : Int) := wk_eqF c20
      refine lv_iload_n hx hb dX12_comes_102 rfl (lv_at hl 3 rfl) ?_
      refine lv_iconst (v := 1) hx hb dX12_comes_103 (by decide) ?_
      refine lv_icmp_ne (tgt := 112) hx hb dX12_comes_104 (by decide) (fun c21 => ?_) (fun c21 => ?_)
      · have c21 : ¬ a3.toInt = (1 : Int) := wk_eqF c21
        refine lv_aload_n hx hb dX12_comes_112 rfl (lv_at hl 0 rfl) ?_
        refine lv_iload_n hx hb dX12_comes_113 rfl (lv_at hl 1 rfl) ?_
        refine lv_bipush (v := 6) hx hb dX12_comes_114 (by decide) ?_
        refine tk_Vi hC hK hw hT hA hE hSR kM_at0 (by decide) rfl (k_X12_walkerOf_8 l adK adV dC dI cy ad (B + 3600) (by omega) (by omega) qr s1   a1 (show 0 ≤ a1.toInt by omega) (show a1.toInt ≤ 3 by omega) w4 H.size hT ) (cwV 2 hC.2.2.2.2 gX12_comes_X12_walkerOf rfl rfl rfl (by decide +kernel) ⟨Nat.le_of_ble_eq_true rfl, Nat.le_of_ble_eq_true rfl⟩) rfl hl.1 rfl (Nat.le_of_ble_eq_true rfl) dX12_comes_116 (fun r22 w24 H locs hp23 hw => ?_)
        obtain ⟨rfl, hg27⟩ := hp23
        have c26 := hg27
        refine lv_iload hx hb dX12_comes_119 (lv_at hl 5 rfl) ?_
        refine lv_isub hx hb dX12_comes_121 ?_
        have nx28 := wk_i32 r22
        have nx29 := wk_i32 v76_5
        refine lv_topi (fun x30 ex30 => ?_)
        refine lv_istore (lv' := [(6, .int x30), (0, .ref (ad 0)), (1, .int a1), (2, .int a2), (3, .int a3), (4, .int v76_4), (5, .int v76_5)]) hx hb dX12_comes_122 hl (by decide) rfl (fun ls hl => ?_)
        refine lv_aload_n hx hb dX12_comes_124 rfl (lv_at hl 1 rfl) ?_
        refine tk_Vv hC hK hw hT hA hE hSR kM_at0 (by decide) rfl (k_X12_putsBack_1 l adK adV dC dI cy ad (B + 3600) (by omega) (by omega) qr s1    w4 H.size hT ) (cwV 0 hC.2.2.2.2 gX12_comes_X12_putsBack rfl rfl rfl (by decide +kernel) ⟨Nat.le_of_ble_eq_true rfl, Nat.le_of_ble_eq_true rfl⟩) rfl hl.1 rfl (Nat.le_of_ble_eq_true rfl) dX12_comes_125 (fun w33 H locs hp32 hw => ?_)
        obtain ⟨hT, k34, hg38⟩ := hp32
        have hRW := RW_FE k34 (fun _ => rfl) (fun _ => rfl) (fun _ => rfl) hRW
        have hF := hF.tr k34 (by decide)
        have c39 := k34.gi kM_at15 (by decide) c19
        obtain ⟨c35, c36, c37⟩ := hg38
        refine lv_iload hx hb dX12_comes_128 (lv_at hl 0 rfl) ?_
        exact tk_iret hC hr hlocks hK ⟨hT, hF, (Or.inl ⟨(show 0 ≤ a1.toInt by omega), (show a1.toInt ≤ 3 by omega), (show 0 ≤ a2.toInt by omega), (show a2.toInt ≤ 400 by omega), (show 2 ≤ a3.toInt by omega), (show a3.toInt ≤ 2 by omega), (by simp only [cf0_, (c37.trans c19)] <;> omega)⟩)⟩ hw dX12_comes_130
      · have c21 : a3.toInt = (1 : Int) := wk_eq.mp c21
        refine lv_iload hx hb dX12_comes_107 (lv_at hl 4 rfl) ?_
        refine lv_goto (tgt := 122) hx hb dX12_comes_109 (by decide) ?_
        refine lv_istore (lv' := [(6, .int v76_4), (0, .ref (ad 0)), (1, .int a1), (2, .int a2), (3, .int a3), (4, .int v76_4), (5, .int v76_5)]) hx hb dX12_comes_122 hl (by decide) rfl (fun ls hl => ?_)
        refine lv_aload_n hx hb dX12_comes_124 rfl (lv_at hl 1 rfl) ?_
        refine tk_Vv hC hK hw hT hA hE hSR kM_at0 (by decide) rfl (k_X12_putsBack_1 l adK adV dC dI cy ad (B + 3600) (by omega) (by omega) qr s1    w4 H.size hT ) (cwV 0 hC.2.2.2.2 gX12_comes_X12_putsBack rfl rfl rfl (by decide +kernel) ⟨Nat.le_of_ble_eq_true rfl, Nat.le_of_ble_eq_true rfl⟩) rfl hl.1 rfl (Nat.le_of_ble_eq_true rfl) dX12_comes_125 (fun w42 H locs hp41 hw => ?_)
        obtain ⟨hT, k43, hg47⟩ := hp41
        have hRW := RW_FE k43 (fun _ => rfl) (fun _ => rfl) (fun _ => rfl) hRW
        have hF := hF.tr k43 (by decide)
        have c48 := k43.gi kM_at15 (by decide) c19
        obtain ⟨c44, c45, c46⟩ := hg47
        refine lv_iload hx hb dX12_comes_128 (lv_at hl 0 rfl) ?_
        exact tk_iret hC hr hlocks hK ⟨hT, hF, (Or.inr (Or.inr (Or.inl ⟨(show 0 ≤ v76_4.toInt by omega), (show v76_4.toInt ≤ 1073741824 by omega), (show 0 ≤ a1.toInt by omega), (show a1.toInt ≤ 3 by omega), (show 0 ≤ a2.toInt by omega), (show a2.toInt ≤ 400 by omega), (show 0 ≤ a3.toInt by omega), (show a3.toInt ≤ 1 by omega), (by simp only [cf0_, (c46.trans c19)] <;> omega)⟩)))⟩ hw dX12_comes_130
    · have c20 : a3.toInt = (0 : Int) := wk_eq.mp c20
      refine lv_aload_n hx hb dX12_comes_80 rfl (lv_at hl 0 rfl) ?_
      refine lv_iload_n hx hb dX12_comes_81 rfl (lv_at hl 1 rfl) ?_
      refine tk_Vi hC hK hw hT hA hE hSR kM_at0 (by decide) rfl (k_X12_isThere_1 l adK adV dC dI cy ad (B + 3600) (by omega) (by omega) qr s1   a1 (show 0 ≤ a1.toInt by omega) (show a1.toInt ≤ 3 by omega) w4 H.size hT ) (cwV 1 hC.2.2.2.2 gX12_comes_X12_isThere rfl rfl rfl (by decide +kernel) ⟨Nat.le_of_ble_eq_true rfl, Nat.le_of_ble_eq_true rfl⟩) rfl hl.1 rfl (Nat.le_of_ble_eq_true rfl) dX12_comes_82 (fun r49 w51 H locs hp50 hw => ?_)
      obtain ⟨rfl, hg53⟩ := hp50
      rcases hg53 with rfl | rfl
      · refine lv_if_eq (tgt := 97) hx hb dX12_comes_85 (by decide) (fun _ => ?_) (fun c => absurd (by decide) c)
        refine lv_bipush (v := (-2)) hx hb dX12_comes_97 (by decide) ?_
        refine lv_goto (tgt := 122) hx hb dX12_comes_99 (by decide) ?_
        refine lv_istore (lv' := [(6, .int (-2)), (0, .ref (ad 0)), (1, .int a1), (2, .int a2), (3, .int a3), (4, .int v76_4), (5, .int v76_5)]) hx hb dX12_comes_122 hl (by decide) rfl (fun ls hl => ?_)
        refine lv_aload_n hx hb dX12_comes_124 rfl (lv_at hl 1 rfl) ?_
        refine tk_Vv hC hK hw hT hA hE hSR kM_at0 (by decide) rfl (k_X12_putsBack_1 l adK adV dC dI cy ad (B + 3600) (by omega) (by omega) qr s1    w4 H.size hT ) (cwV 0 hC.2.2.2.2 gX12_comes_X12_putsBack rfl rfl rfl (by decide +kernel) ⟨Nat.le_of_ble_eq_true rfl, Nat.le_of_ble_eq_true rfl⟩) rfl hl.1 rfl (Nat.le_of_ble_eq_true rfl) dX12_comes_125 (fun w56 H locs hp55 hw => ?_)
        obtain ⟨hT, k57, hg61⟩ := hp55
        have hRW := RW_FE k57 (fun _ => rfl) (fun _ => rfl) (fun _ => rfl) hRW
        have hF := hF.tr k57 (by decide)
        have c62 := k57.gi kM_at15 (by decide) c19
        obtain ⟨c58, c59, c60⟩ := hg61
        refine lv_iload hx hb dX12_comes_128 (lv_at hl 0 rfl) ?_
        exact tk_iret hC hr hlocks hK ⟨hT, hF, (Or.inr (Or.inl ⟨rfl, (show 0 ≤ a1.toInt by omega), (show a1.toInt ≤ 3 by omega), (show 0 ≤ a2.toInt by omega), (show a2.toInt ≤ 400 by omega), (show 0 ≤ a3.toInt by omega), (show a3.toInt ≤ 0 by omega), (by simp only [cf0_, (c60.trans c19)] <;> omega)⟩))⟩ hw dX12_comes_130
      · refine lv_if_eq (tgt := 97) hx hb dX12_comes_85 (by decide) (fun c => absurd c (by decide)) (fun _ => ?_)
        refine lv_aload_n hx hb dX12_comes_88 rfl (lv_at hl 0 rfl) ?_
        refine lv_iload_n hx hb dX12_comes_89 rfl (lv_at hl 1 rfl) ?_
        refine lv_iconst (v := 4) hx hb dX12_comes_90 (by decide) ?_
        refine tk_Vi hC hK hw hT hA hE hSR kM_at0 (by decide) rfl (k_X12_walkerOf_4 l adK adV dC dI cy ad (B + 3600) (by omega) (by omega) qr s1   a1 (show 0 ≤ a1.toInt by omega) (show a1.toInt ≤ 3 by omega) w4 H.size hT ) (cwV 2 hC.2.2.2.2 gX12_comes_X12_walkerOf rfl rfl rfl (by decide +kernel) ⟨Nat.le_of_ble_eq_true rfl, Nat.le_of_ble_eq_true rfl⟩) rfl hl.1 rfl (Nat.le_of_ble_eq_true rfl) dX12_comes_91 (fun r63 w65 H locs hp64 hw => ?_)
        obtain ⟨rfl, hg70⟩ := hp64
        obtain ⟨g67, g68, c69⟩ := hg70
        refine lv_goto (tgt := 122) hx hb dX12_comes_94 (by decide) ?_
        refine lv_istore (lv' := [(6, .int r63), (0, .ref (ad 0)), (1, .int a1), (2, .int a2), (3, .int a3), (4, .int v76_4), (5, .int v76_5)]) hx hb dX12_comes_122 hl (by decide) rfl (fun ls hl => ?_)
        refine lv_aload_n hx hb dX12_comes_124 rfl (lv_at hl 1 rfl) ?_
        refine tk_Vv hC hK hw hT hA hE hSR kM_at0 (by decide) rfl (k_X12_putsBack_1 l adK adV dC dI cy ad (B + 3600) (by omega) (by omega) qr s1    w4 H.size hT ) (cwV 0 hC.2.2.2.2 gX12_comes_X12_putsBack rfl rfl rfl (by decide +kernel) ⟨Nat.le_of_ble_eq_true rfl, Nat.le_of_ble_eq_true rfl⟩) rfl hl.1 rfl (Nat.le_of_ble_eq_true rfl) dX12_comes_125 (fun w73 H locs hp72 hw => ?_)
        obtain ⟨hT, k74, hg78⟩ := hp72
        have hRW := RW_FE k74 (fun _ => rfl) (fun _ => rfl) (fun _ => rfl) hRW
        have hF := hF.tr k74 (by decide)
        have c79 := k74.gi kM_at15 (by decide) c19
        obtain ⟨c75, c76, c77⟩ := hg78
        refine lv_iload hx hb dX12_comes_128 (lv_at hl 0 rfl) ?_
        exact tk_iret hC hr hlocks hK ⟨hT, hF, (Or.inr (Or.inr (Or.inl ⟨(show 0 ≤ r63.toInt by omega), (show r63.toInt ≤ 1073741824 by omega), (show 0 ≤ a1.toInt by omega), (show a1.toInt ≤ 3 by omega), (show 0 ≤ a2.toInt by omega), (show a2.toInt ≤ 400 by omega), (show 0 ≤ a3.toInt by omega), (show a3.toInt ≤ 1 by omega), (by simp only [cf0_, (c77.trans c19)] <;> omega)⟩)))⟩ hw dX12_comes_130
  have L50 : ∀ (n50 : Nat) (v50_4 : Int32) (v50_5 : Int32) (f50_12_5 : Int32) (H : Heap) (locs : List Loc) (ls : Array Slot) (w80 : va_W), 0 ≤ a1.toInt → a1.toInt ≤ 3 → 0 ≤ a2.toInt → a2.toInt ≤ 400 → 0 ≤ a3.toInt → a3.toInt ≤ 2 → 0 ≤ v50_4.toInt → v50_4.toInt ≤ 400 → 1 ≤ f50_12_5.toInt → f50_12_5.toInt ≤ 4 → 0 ≤ f0_.toInt → 0 ≤ f0_.toInt → (400 - v50_4.toInt).toNat < n50 → Wd dC dI A s.heap H locs w80 → TW ksM ad cy (B + 0 + 9 * v50_4.toInt) qr 12 w80 → FE ksM [(12, 24, 24), (12, 31, 31), (69, 0, 64), (70, 0, 10), (71, 0, 295), (71, 216, 243), (71, 220, 247), (71, 221, 248), (71, 222, 249), (71, 223, 250), (71, 224, 251), (72, 0, 12), (73, 0, 10), (74, 0, 296)] w0 w80 → RW w80 → gi w80 12 5 = f50_12_5 → gi w80 12 9 = f0_ → gi w80 15 9 = f0_ → lv_has ls 7 [(0, .ref (ad 0)), (1, .int a1), (2, .int a2), (3, .int a3), (4, .int v50_4), (5, .int v50_5)] → W p l e ({ frames := 9, cells := 0, slots := 0, locals := 194 }) s m (List.toArray [.ref (ad 0), .int a1, .int a2, .int a3]) below meth c H locs 0 0 (MQ below (va_Qi (P_X12_comes_2 ad cy B qr s1 a1 a2 a3 w0) (fun u : va_W => wpost dC dI cy A u) A) (List.toArray [.ref (ad 0), .int a1, .int a2, .int a3]) s 0 0 A) (F0 m 50 ls []) := by
    intro n50
    induction n50 with
    | zero => intro v50_4 v50_5 f50_12_5 H locs ls w80 r81 t82 r83 t84 r85 t86 r87 t88 r89 t90 r92 r94 hm50 hw hT hF hRW c91 c93 c95 hl; omega
    | succ n50 ih50 =>
      intro v50_4 v50_5 f50_12_5 H locs ls w80 r81 t82 r83 t84 r85 t86 r87 t88 r89 t90 r92 r94 hm50 hw hT hF hRW c91 c93 c95 hl
      refine lv_iload hx hb dX12_comes_50 (lv_at hl 4 rfl) ?_
      refine lv_iload_n hx hb dX12_comes_52 rfl (lv_at hl 2 rfl) ?_
      refine lv_icmp_ge (tgt := 76) hx hb dX12_comes_53 (by decide) (fun c96 => ?_) (fun c96 => ?_)
      · have c96 : a2.toInt ≤ v50_4.toInt := wk_le.mp c96
        exact J76 v50_4 v50_5 f50_12_5 H locs ls w80 (show 0 ≤ a1.toInt by omega) (show a1.toInt ≤ 3 by omega) (show 0 ≤ a2.toInt by omega) (show a2.toInt ≤ 400 by omega) (show 0 ≤ a3.toInt by omega) (show a3.toInt ≤ 2 by omega) (show 0 ≤ v50_4.toInt by omega) (show v50_4.toInt ≤ 400 by omega) (show 1 ≤ f50_12_5.toInt by omega) (show f50_12_5.toInt ≤ 4 by omega) (show 0 ≤ f0_.toInt by omega) (show 0 ≤ f0_.toInt by omega)  hw (hT.up (show (B + 0 + 9 * v50_4.toInt) ≤ (B + 3600) by omega)) hF hRW c91 c93 c95 (lv_sub hl [0, 1, 2, 3, 4, 5] rfl)
      · have c96 : v50_4.toInt < a2.toInt := wk_leF c96
        refine lv_aload_n hx hb dX12_comes_56 rfl (lv_at hl 0 rfl) ?_
        refine lv_iload_n hx hb dX12_comes_57 rfl (lv_at hl 1 rfl) ?_
        refine tk_Vi hC hK hw hT hA hE hSR kM_at0 (by decide) rfl (k_X12_isThere_1 l adK adV dC dI cy ad (B + 0 + 9 * v50_4.toInt) (by omega) (by omega) qr s1   a1 (show 0 ≤ a1.toInt by omega) (show a1.toInt ≤ 3 by omega) w80 H.size hT ) (cwV 1 hC.2.2.2.2 gX12_comes_X12_isThere rfl rfl rfl (by decide +kernel) ⟨Nat.le_of_ble_eq_true rfl, Nat.le_of_ble_eq_true rfl⟩) rfl hl.1 rfl (Nat.le_of_ble_eq_true rfl) dX12_comes_58 (fun r97 w99 H locs hp98 hw => ?_)
        obtain ⟨rfl, hg101⟩ := hp98
        rcases hg101 with rfl | rfl
        · refine lv_if_ne (tgt := 76) hx hb dX12_comes_61 (by decide) (fun c => absurd (by decide) c) (fun _ => ?_)
          refine lv_aload_n hx hb dX12_comes_64 rfl (lv_at hl 0 rfl) ?_
          refine lv_iload_n hx hb dX12_comes_65 rfl (lv_at hl 1 rfl) ?_
          refine tk_Vi hC hK hw hT hA hE hSR kM_at0 (by decide) rfl (k_X12_steps_1 l adK adV dC dI cy ad (B + 0 + 9 * v50_4.toInt) (by omega) (by omega) qr s1   a1 (show 0 ≤ a1.toInt by omega) (show a1.toInt ≤ 3 by omega) w80 H.size hT hRW) (cwV 1 hC.2.2.2.2 gX12_comes_X12_steps rfl rfl rfl (by decide +kernel) ⟨Nat.le_of_ble_eq_true rfl, Nat.le_of_ble_eq_true rfl⟩) rfl hl.1 rfl (Nat.le_of_ble_eq_true rfl) dX12_comes_66 (fun r102 w104 H locs hp103 hw => ?_)
          obtain ⟨hT, k105, hg106⟩ := hp103
          have hT := hT.up (B' := (B + 9 + 9 * v50_4.toInt)) (by omega)
          have hRW := RW_FE k105 (fun _ => rfl) (fun _ => rfl) (fun _ => rfl) hRW
          have hF := hF.tr k105 (by decide)
          have c107 := k105.gi kM_at12 (by decide) c91
          have c108 := k105.gi kM_at12 (by decide) c93
          have c109 := k105.gi kM_at15 (by decide) c95
          rcases hg106 with rfl | rfl
          · refine lv_pop hx hb dX12_comes_69 rfl ?_
            obtain ⟨x110, ex110⟩ : ∃ y : Int32, y = v50_4 + Int32.ofInt 1 := ⟨_, rfl⟩
            refine lv_iinc (v := x110) (lv' := [(4, .int x110), (0, .ref (ad 0)), (1, .int a1), (2, .int a2), (3, .int a3), (5, .int v50_5)]) hx hb dX12_comes_70 hl (k := 4) rfl ex110.symm (by decide) rfl (fun ls hl => ?_)
            have ex110 : x110.toInt = v50_4.toInt + 1 := by rw [ex110]; exact wk_add (y := 1) (show -2147483648 ≤ v50_4.toInt + 1 by omega) (show v50_4.toInt + 1 ≤ 2147483647 by omega)
            refine lv_goto (tgt := 50) hx hb dX12_comes_73 (by decide) ?_
            exact ih50 x110 v50_5 f50_12_5 H locs ls w104 (show 0 ≤ a1.toInt by omega) (show a1.toInt ≤ 3 by omega) (show 0 ≤ a2.toInt by omega) (show a2.toInt ≤ 400 by omega) (show 0 ≤ a3.toInt by omega) (show a3.toInt ≤ 2 by omega) (show 0 ≤ x110.toInt by omega) (show x110.toInt ≤ 400 by omega) (show 1 ≤ f50_12_5.toInt by omega) (show f50_12_5.toInt ≤ 4 by omega) (show 0 ≤ f0_.toInt by omega) (show 0 ≤ f0_.toInt by omega) (show (400 - x110.toInt).toNat < n50 by omega) hw (hT.up (show (B + 9 + 9 * v50_4.toInt) ≤ (B + 0 + 9 * x110.toInt) by omega)) hF hRW c107 c108 c109 (lv_sub hl [1, 2, 3, 4, 0, 5] rfl)
          · refine lv_pop hx hb dX12_comes_69 rfl ?_
            obtain ⟨x111, ex111⟩ : ∃ y : Int32, y = v50_4 + Int32.ofInt 1 := ⟨_, rfl⟩
            refine lv_iinc (v := x111) (lv' := [(4, .int x111), (0, .ref (ad 0)), (1, .int a1), (2, .int a2), (3, .int a3), (5, .int v50_5)]) hx hb dX12_comes_70 hl (k := 4) rfl ex111.symm (by decide) rfl (fun ls hl => ?_)
            have ex111 : x111.toInt = v50_4.toInt + 1 := by rw [ex111]; exact wk_add (y := 1) (show -2147483648 ≤ v50_4.toInt + 1 by omega) (show v50_4.toInt + 1 ≤ 2147483647 by omega)
            refine lv_goto (tgt := 50) hx hb dX12_comes_73 (by decide) ?_
            exact ih50 x111 v50_5 f50_12_5 H locs ls w104 (show 0 ≤ a1.toInt by omega) (show a1.toInt ≤ 3 by omega) (show 0 ≤ a2.toInt by omega) (show a2.toInt ≤ 400 by omega) (show 0 ≤ a3.toInt by omega) (show a3.toInt ≤ 2 by omega) (show 0 ≤ x111.toInt by omega) (show x111.toInt ≤ 400 by omega) (show 1 ≤ f50_12_5.toInt by omega) (show f50_12_5.toInt ≤ 4 by omega) (show 0 ≤ f0_.toInt by omega) (show 0 ≤ f0_.toInt by omega) (show (400 - x111.toInt).toNat < n50 by omega) hw (hT.up (show (B + 9 + 9 * v50_4.toInt) ≤ (B + 0 + 9 * x111.toInt) by omega)) hF hRW c107 c108 c109 (lv_sub hl [1, 2, 3, 4, 0, 5] rfl)
        · refine lv_if_ne (tgt := 76) hx hb dX12_comes_61 (by decide) (fun _ => ?_) (fun c => absurd c (by decide))
          exact J76 v50_4 v50_5 f50_12_5 H locs ls w80 (show 0 ≤ a1.toInt by omega) (show a1.toInt ≤ 3 by omega) (show 0 ≤ a2.toInt by omega) (show a2.toInt ≤ 400 by omega) (show 0 ≤ a3.toInt by omega) (show a3.toInt ≤ 2 by omega) (show 0 ≤ v50_4.toInt by omega) (show v50_4.toInt ≤ 400 by omega) (show 1 ≤ f50_12_5.toInt by omega) (show f50_12_5.toInt ≤ 4 by omega) (show 0 ≤ f0_.toInt by omega) (show 0 ≤ f0_.toInt by omega)  hw (hT.up (show (B + 0 + 9 * v50_4.toInt) ≤ (B + 3600) by omega)) hF hRW c91 c93 c95 (lv_sub hl [0, 1, 2, 3, 4, 5] rfl)
  refine lv_aload_n hx hb dX12_comes_0 rfl (lv_at hl 0 rfl) ?_
  refine lv_iload_n hx hb dX12_comes_1 rfl (lv_at hl 1 rfl) ?_
  refine tk_Vi hC hK hw hT hA hE hSR kM_at0 (by decide) rfl (k_X12_isWalker_1 l adK adV dC dI cy ad B (by omega) (by omega) qr s1   a1 w0 s.heap.size hT ) (cwV 1 hC.2.2.2.2 gX12_comes_X12_isWalker rfl rfl rfl (by decide +kernel) ⟨Nat.le_of_ble_eq_true rfl, Nat.le_of_ble_eq_true rfl⟩) rfl hl.1 rfl (Nat.le_of_ble_eq_true rfl) dX12_comes_2 (fun r112 w114 H locs hp113 hw => ?_)
  obtain ⟨rfl, hg120⟩ := hp113
  rcases hg120 with rfl | ⟨rfl, g116, g117, ⟨x118, c119, rx118, tx118⟩⟩
  · refine lv_if_eq (tgt := 32) hx hb dX12_comes_5 (by decide) (fun _ => ?_) (fun c => absurd (by decide) c)
    exact J32  H locs ls w0 (show 0 ≤ f0_.toInt by omega)  hw hT hF hRW cf0_ (lv_sub hl [0, 1, 2, 3] rfl)
  · refine lv_if_eq (tgt := 32) hx hb dX12_comes_5 (by decide) (fun c => absurd c (by decide)) (fun _ => ?_)
    refine lv_iload_n hx hb dX12_comes_8 rfl (lv_at hl 2 rfl) ?_
    refine lv_i2l hx hb dX12_comes_9 rfl ?_
    refine lv_topl (fun x121 ex121 => ?_)
    have ex121 : x121.toInt = a2.toInt := by rw [ex121]; exact wk_i2l _
    have bx121 := wk_i32 a2
    refine lv_lconst (v := 0) hx hb dX12_comes_10 (by decide) ?_
    refine lv_ldc2 (v := 400) hx hb hC.2.2.2.1 (hC.2.2.2.2 _ (List.mem_of_getElem? (i := 1) rfl)) dX12_comes_11 ?_
    refine tk_Si hC hK hw hT hA hE hSR (k_X12_in_16 l adK adV dC dI cy ad B (by omega) (by omega) qr s1   x121 (show (-2147483648) ≤ x121.toInt by omega) (show x121.toInt ≤ 2147483647 by omega) w0 H.size hT ) (va_cwS 3 hC.2.2.2.2 gX12_comes_X12_in rfl rfl rfl (by decide +kernel) ⟨Nat.le_of_ble_eq_true rfl, Nat.le_of_ble_eq_true rfl⟩) rfl hl.1 rfl (Nat.le_of_ble_eq_true rfl) dX12_comes_14 (fun r122 w124 H locs hp123 hw => ?_)
    obtain ⟨rfl, hg128⟩ := hp123
    rcases hg128 with rfl | ⟨rfl, g126, g127⟩
    · refine lv_if_eq (tgt := 32) hx hb dX12_comes_17 (by decide) (fun _ => ?_) (fun c => absurd (by decide) c)
      exact J32  H locs ls w0 (show 0 ≤ f0_.toInt by omega)  hw hT hF hRW cf0_ (lv_sub hl [0, 1, 2, 3] rfl)
    · refine lv_if_eq (tgt := 32) hx hb dX12_comes_17 (by decide) (fun c => absurd c (by decide)) (fun _ => ?_)
      refine lv_iload_n hx hb dX12_comes_20 rfl (lv_at hl 3 rfl) ?_
      refine lv_i2l hx hb dX12_comes_21 rfl ?_
      refine lv_topl (fun x129 ex129 => ?_)
      have ex129 : x129.toInt = a3.toInt := by rw [ex129]; exact wk_i2l _
      have bx129 := wk_i32 a3
      refine lv_lconst (v := 0) hx hb dX12_comes_22 (by decide) ?_
      refine lv_ldc2 (v := 2) hx hb hC.2.2.2.1 (hC.2.2.2.2 _ (List.mem_of_getElem? (i := 2) rfl)) dX12_comes_23 ?_
      refine tk_Si hC hK hw hT hA hE hSR (k_X12_in_15 l adK adV dC dI cy ad B (by omega) (by omega) qr s1   x129 (show (-2147483648) ≤ x129.toInt by omega) (show x129.toInt ≤ 2147483647 by omega) w0 H.size hT ) (va_cwS 3 hC.2.2.2.2 gX12_comes_X12_in rfl rfl rfl (by decide +kernel) ⟨Nat.le_of_ble_eq_true rfl, Nat.le_of_ble_eq_true rfl⟩) rfl hl.1 rfl (Nat.le_of_ble_eq_true rfl) dX12_comes_26 (fun r130 w132 H locs hp131 hw => ?_)
      obtain ⟨rfl, hg136⟩ := hp131
      rcases hg136 with rfl | ⟨rfl, g134, g135⟩
      · refine lv_if_ne (tgt := 34) hx hb dX12_comes_29 (by decide) (fun c => absurd (by decide) c) (fun _ => ?_)
        exact J32  H locs ls w0 (show 0 ≤ f0_.toInt by omega)  hw hT hF hRW cf0_ (lv_sub hl [0, 1, 2, 3] rfl)
      · refine lv_if_ne (tgt := 34) hx hb dX12_comes_29 (by decide) (fun _ => ?_) (fun c => absurd c (by decide))
        refine lv_aload_n hx hb dX12_comes_34 rfl (lv_at hl 0 rfl) ?_
        refine tk_Vv hC hK hw hT hA hE hSR kM_at0 (by decide) rfl (k_X12_keeps_1 l adK adV dC dI cy ad B (by omega) (by omega) qr s1    w0 H.size hT ) (cwV 0 hC.2.2.2.2 gX12_comes_X12_keeps rfl rfl rfl (by decide +kernel) ⟨Nat.le_of_ble_eq_true rfl, Nat.le_of_ble_eq_true rfl⟩) rfl hl.1 rfl (Nat.le_of_ble_eq_true rfl) dX12_comes_35 (fun w139 H locs hp138 hw => ?_)
        obtain ⟨hT, k140, hg144⟩ := hp138
        have hRW := RW_FE k140 (fun _ => rfl) (fun _ => rfl) (fun _ => rfl) hRW
        have hF := hF.tr k140 (by decide)
        have c145 := k140.gi kM_at12 (by decide) cf0_
        have c146 := k140.gi kM_at12 (by decide) c119
        obtain ⟨c141, c142, c143⟩ := hg144
        refine lv_iconst (v := 0) hx hb dX12_comes_38 (by decide) ?_
        refine lv_istore (lv' := [(4, .int 0), (0, .ref (ad 0)), (1, .int a1), (2, .int a2), (3, .int a3)]) hx hb dX12_comes_39 hl (by decide) rfl (fun ls hl => ?_)
        refine lv_aload_n hx hb dX12_comes_41 rfl (lv_at hl 1 rfl) ?_
        refine lv_iload_n hx hb dX12_comes_42 rfl (lv_at hl 2 rfl) ?_
        refine lv_bipush (v := 6) hx hb dX12_comes_43 (by decide) ?_
        refine tk_Vi hC hK hw hT hA hE hSR kM_at0 (by decide) rfl (k_X12_walkerOf_8 l adK adV dC dI cy ad B (by omega) (by omega) qr s1   a1 (show 0 ≤ a1.toInt by omega) (show a1.toInt ≤ 3 by omega) w139 H.size hT ) (cwV 2 hC.2.2.2.2 gX12_comes_X12_walkerOf rfl rfl rfl (by decide +kernel) ⟨Nat.le_of_ble_eq_true rfl, Nat.le_of_ble_eq_true rfl⟩) rfl hl.1 rfl (Nat.le_of_ble_eq_true rfl) dX12_comes_45 (fun r147 w149 H locs hp148 hw => ?_)
        obtain ⟨rfl, hg152⟩ := hp148
        have c151 := hg152
        refine lv_istore (lv' := [(5, .int r147), (4, .int 0), (0, .ref (ad 0)), (1, .int a1), (2, .int a2), (3, .int a3)]) hx hb dX12_comes_48 hl (by decide) rfl (fun ls hl => ?_)
        exact L50 ((400 - (0 : Int)).toNat + 1) 0 r147 x118 H locs ls w139 (show 0 ≤ a1.toInt by omega) (show a1.toInt ≤ 3 by omega) (show 0 ≤ a2.toInt by omega) (show a2.toInt ≤ 400 by omega) (show 0 ≤ a3.toInt by omega) (show a3.toInt ≤ 2 by omega) (by decide) (by decide) (show 1 ≤ x118.toInt by omega) (show x118.toInt ≤ 4 by omega) (show 0 ≤ f0_.toInt by omega) (show 0 ≤ f0_.toInt by omega) (Nat.lt_succ_self _) hw (hT.up (show B ≤ (B + 0 + 9 * (0 : Int32).toInt) by rw [show (0 : Int32).toInt = 0 by decide]; omega)) hF hRW c146 c145 (c143.trans cf0_) (lv_sub hl [2, 3, 4, 5, 1, 0] rfl)
abbrev P_X12_round_2 (ad : Nat → Nat) (cy : Nat → ClassId) (B : Int) (qr : Nat) (s1 : Int) (a1 : Int32) (a2 : Int32) (w0 : va_W) : Int32 → va_W → Prop := fun r u => TW ksM ad cy (B + 2709) qr 12 u ∧ FE ksM [(12, 24, 24), (12, 27, 27), (12, 30, 30), (12, 31, 31), (69, 0, 64), (70, 0, 10), (71, 0, 295), (71, 216, 243), (71, 220, 247), (71, 221, 248), (71, 222, 249), (71, 223, 250), (71, 224, 251), (72, 0, 12), (73, 0, 10), (74, 0, 296), (75, 0, 301)] w0 u ∧ (((-298) ≤ r.toInt ∧ r.toInt ≤ 300 ∧ 0 ≤ a1.toInt ∧ a1.toInt ≤ 3 ∧ 0 ≤ a2.toInt ∧ a2.toInt ≤ 1 ∧ (∃ y : Int32, gi u 0 27 = y ∧ 1 ≤ y.toInt ∧ y.toInt ≤ 1) ∧ (∃ y : Int32, gi u 0 30 = y ∧ 0 ≤ y.toInt ∧ y.toInt ≤ 0) ∧ ((gi u 12 9).toInt = (gi w0 12 9).toInt)) ∨ (r = (-1) ∧ ((gi u 12 9).toInt = (gi w0 12 9).toInt)))
set_option maxHeartbeats 4000000 in
set_option maxRecDepth 100000 in
theorem k_X12_round_2 (l : Launch) (adK adV : Nat → Nat) (dC : Nat → ClassId) (dI : Nat → Nat → Nat) (cy : Nat → ClassId) (ad : Nat → Nat) (B : Int) (hB0 : 100000 ≤ B) (hB1 : B ≤ 1073739115) (qr : Nat) (s1 : Int)  (a1 : Int32) (a2 : Int32) (w0 : va_W) (sz : Nat) (hT : TW ksM ad cy B qr 12 w0) (f0_ : Int32) (cf0_ : gi w0 12 9 = f0_) (rf0_ : 0 ≤ f0_.toInt) (tf0_ : f0_.toInt ≤ 2147483647) (hRW : RW w0) : Met l yX12_round wsX12_round ({ frames := 9, cells := 0, slots := 0, locals := 194 }) (va_Pc [.ref (ad 0), .int a1, .int a2] (wpreS adK adV dC dI cy sz w0)) (va_Qi (P_X12_round_2 ad cy B qr s1 a1 a2 w0) (fun u : va_W => wpost dC dI cy (va_A w0 sz) u) (va_A w0 sz)) 0 0 (va_A w0 sz) := by
  refine Met.ofW (cc := cX12_round) (maxL := 6) (ret := (some .int)) (by decide) rfl ?_
  intro p e s m args below meth c s₁ Bk hml hv
  obtain ⟨rfl, ⟨hsz, hP, hK, hD0⟩, hE, hSR⟩ := hv
  have hx := Bk.exec
  have hb := Bk.bytes
  have hr := Bk.returns
  have hlocks := Bk.notSynchronized
  have hC : CallFix p m c cX12_round 6 s _ wsX12_round RX12 := ⟨hx, hb, hml, findClass_of_methodNamed Bk.named, atoms_spec (ws := wsX12_round) Bk.pre⟩
  subst hsz
  have hD := hD0.self (sz := s.heap.size)
  generalize hAe : va_A w0 s.heap.size = A at hD hE ⊢
  have hA : ∀ q : Nat, s.heap.size ≤ q → A q := fun q h => by rw [← hAe]; exact Or.inr h
  have hw : Wd dC dI A s.heap s.heap [] w0 := ⟨hP, hD, va_S.rf⟩
  have hF : FE ksM [(12, 24, 24), (12, 27, 27), (12, 30, 30), (12, 31, 31), (69, 0, 64), (70, 0, 10), (71, 0, 295), (71, 216, 243), (71, 220, 247), (71, 221, 248), (71, 222, 249), (71, 223, 250), (71, 224, 251), (72, 0, 12), (73, 0, 10), (74, 0, 296), (75, 0, 301)] w0 w0 := FE.rf
  have hl := lv_entry ([.ref (ad 0), .int a1, .int a2]) (n := 6) (Nat.le_of_ble_eq_true rfl)
  rw [lg_entry_eq]
  generalize (lg_sl ([.ref (ad 0), .int a1, .int a2]) ++ List.replicate (6 - (lg_sl ([.ref (ad 0), .int a1, .int a2])).length) Slot.unset).toArray = ls at hl ⊢
  have hl : lv_has ls 6 [(0, .ref (ad 0)), (1, .int a1), (2, .int a2)] := hl
  generalize hloc : ([] : List Loc) = locs at hw ⊢
  have hinX12 : ∀ w ∈ u_ws RX12 TX12 42, w ∈ wsX12_round := fun _ h => List.mem_cons_of_mem _ (List.mem_append_right _ (h))
  have J18 : ∀ (H : Heap) (locs : List Loc) (ls : Array Slot) (w1 : va_W), 0 ≤ f0_.toInt → Wd dC dI A s.heap H locs w1 → TW ksM ad cy B qr 12 w1 → FE ksM [(12, 24, 24), (12, 27, 27), (12, 30, 30), (12, 31, 31), (69, 0, 64), (70, 0, 10), (71, 0, 295), (71, 216, 243), (71, 220, 247), (71, 221, 248), (71, 222, 249), (71, 223, 250), (71, 224, 251), (72, 0, 12), (73, 0, 10), (74, 0, 296), (75, 0, 301)] w0 w1 → RW w1 → gi w1 12 9 = f0_ → lv_has ls 6 [(0, .ref (ad 0)), (1, .int a1), (2, .int a2)] → W p l e ({ frames := 9, cells := 0, slots := 0, locals := 194 }) s m (List.toArray [.ref (ad 0), .int a1, .int a2]) below meth c H locs 0 0 (MQ below (va_Qi (P_X12_round_2 ad cy B qr s1 a1 a2 w0) (fun u : va_W => wpost dC dI cy A u) A) (List.toArray [.ref (ad 0), .int a1, .int a2]) s 0 0 A) (F0 m 18 ls []) := by
    intro H locs ls w1 r2 hw hT hF hRW c3 hl
    refine lv_iconst (v := (-1)) hx hb dX12_round_18 (by decide) ?_
    exact tk_iret hC hr hlocks hK ⟨(hT.up (show B ≤ (B + 2709) by omega)), hF, (Or.inr ⟨rfl, (by simp only [cf0_, c3] <;> omega)⟩)⟩ hw dX12_round_19
  have J159 : ∀ (v159_3 : Int32) (v159_4 : Int32) (f159_12_5 : Int32) (f159_16_0 : Int32) (H : Heap) (locs : List Loc) (ls : Array Slot) (w4 : va_W), 0 ≤ a1.toInt → a1.toInt ≤ 3 → 0 ≤ a2.toInt → a2.toInt ≤ 1 → (-298) ≤ v159_3.toInt → v159_3.toInt ≤ 300 → 1 ≤ v159_4.toInt → v159_4.toInt ≤ 301 → 1 ≤ f159_12_5.toInt → f159_12_5.toInt ≤ 4 → 0 ≤ f0_.toInt → 0 ≤ f0_.toInt → 0 ≤ f159_16_0.toInt → f159_16_0.toInt ≤ 18479 → Wd dC dI A s.heap H locs w4 → TW ksM ad cy (B + 2709) qr 12 w4 → FE ksM [(12, 24, 24), (12, 27, 27), (12, 30, 30), (12, 31, 31), (69, 0, 64), (70, 0, 10), (71, 0, 295), (71, 216, 243), (71, 220, 247), (71, 221, 248), (71, 222, 249), (71, 223, 250), (71, 224, 251), (72, 0, 12), (73, 0, 10), (74, 0, 296), (75, 0, 301)] w0 w4 → RW w4 → gi w4 0 27 = 0 → gi w4 0 30 = 1 → gi w4 12 5 = f159_12_5 → gi w4 12 9 = f0_ → gi w4 15 9 = f0_ → gi w4 16 0 = f159_16_0 → lv_has ls 6 [(0, .ref (ad 0)), (1, .int a1), (2, .int a2), (3, .int v159_3), (4, .int v159_4)] → W p l e ({ frames := 9, cells := 0, slots := 0, locals := 194 }) s m (List.toArray [.ref (ad 0), .int a1, .int a2]) below meth c H locs 0 0 (MQ below (va_Qi (P_X12_round_2 ad cy B qr s1 a1 a2 w0) (fun u : va_W => wpost dC dI cy A u) A) (List.toArray [.ref (ad 0), .int a1, .int a2]) s 0 0 A) (F0 m 159 ls []) := by
    intro v159_3 v159_4 f159_12_5 f159_16_0 H locs ls w4 r5 t6 r7 t8 r9 t10 r11 t12 r15 t16 r18 r20 r22 t23 hw hT hF hRW c13 c14 c17 c19 c21 c24 hl
    refine lv_aload_n hx hb dX12_round_159 rfl (lv_at hl 0 rfl) ?_
    refine lv_iconst (v := 0) hx hb dX12_round_160 (by decide) ?_
    refine tk_putz hC hK hw hT hinX12 tyX12_ok nmX12 kM_at0 (by decide) rfl rfl 30 (by decide) (List.mem_of_getElem? (i := 1) rfl) rfl rfl rfl rfl (by decide) (by decide) dX12_round_161 (fun H locs w25 hw hT k27 c26 => ?_)
    have hRW := RW_F1 k27 (by decide) (by decide) (by decide) hRW
    have hF := hF.put kM_at0 (k := 30) (by decide) k27
    have c28 := k27.gi (Or.inr (by decide)) c13
    have c29 := k27.gi (Or.inr (by decide)) c17
    have c30 := k27.gi (Or.inr (by decide)) c19
    have c31 := k27.gi (Or.inr (by decide)) c21
    have c32 := k27.gi (Or.inr (by decide)) c24
    refine lv_aload_n hx hb dX12_round_164 rfl (lv_at hl 0 rfl) ?_
    refine lv_iconst (v := 1) hx hb dX12_round_165 (by decide) ?_
    refine tk_putz hC hK hw hT hinX12 tyX12_ok nmX12 kM_at0 (by decide) rfl rfl 27 (by decide) (List.mem_of_getElem? (i := 2) rfl) rfl rfl rfl rfl (by decide) (by decide) dX12_round_166 (fun H locs w33 hw hT k35 c34 => ?_)
    have hRW := RW_F1 k35 (by decide) (by decide) (by decide) hRW
    have hF := hF.put kM_at0 (k := 27) (by decide) k35
    have c36 := k35.gi (Or.inr (by decide)) c29
    have c37 := k35.gi (Or.inr (by decide)) c30
    have c38 := k35.gi (Or.inr (by decide)) c31
    have c39 := k35.gi (Or.inr (by decide)) c32
    have c40 := k35.gi (Or.inr (by decide)) c26
    refine lv_aload_n hx hb dX12_round_169 rfl (lv_at hl 0 rfl) ?_
    refine tk_Vv hC hK hw hT hA hE hSR kM_at0 (by decide) rfl (k_X12_putsBack_1 l adK adV dC dI cy ad (B + 2709) (by omega) (by omega) qr s1    w33 H.size hT ) (cwV 0 hC.2.2.2.2 gX12_round_X12_putsBack rfl rfl rfl (by decide +kernel) ⟨Nat.le_of_ble_eq_true rfl, Nat.le_of_ble_eq_true rfl⟩) rfl hl.1 rfl (Nat.le_of_ble_eq_true rfl) dX12_round_170 (fun w43 H locs hp42 hw => ?_)
    obtain ⟨hT, k44, hg48⟩ := hp42
    have hRW := RW_FE k44 (fun _ => rfl) (fun _ => rfl) (fun _ => rfl) hRW
    have hF := hF.tr k44 (by decide)
    have c49 := k44.gi kM_at15 (by decide) c38
    have c50 := k44.gi kM_at16 (by decide) c39
    have c51 := k44.gi kM_at0 (by decide) c40
    have c52 := k44.gi kM_at0 (by decide) c34
    obtain ⟨c45, c46, c47⟩ := hg48
    refine lv_iload_n hx hb dX12_round_173 rfl (lv_at hl 3 rfl) ?_
    exact tk_iret hC hr hlocks hK ⟨hT, hF, (Or.inl ⟨(show (-298) ≤ v159_3.toInt by omega), (show v159_3.toInt ≤ 300 by omega), (show 0 ≤ a1.toInt by omega), (show a1.toInt ≤ 3 by omega), (show 0 ≤ a2.toInt by omega), (show a2.toInt ≤ 1 by omega), ⟨1, c52, (by decide), (by decide)⟩, ⟨0, c51, (by decide), (by decide)⟩, (by simp only [cf0_, (c47.trans c38)] <;> omega)⟩)⟩ hw dX12_round_174
  have L51 : ∀ (n51 : Nat) (v51_3 : Int32) (v51_4 : Int32) (f51_12_5 : Int32) (f51_16_0 : Int32) (H : Heap) (locs : List Loc) (ls : Array Slot) (w53 : va_W), 0 ≤ a1.toInt → a1.toInt ≤ 3 → 0 ≤ a2.toInt → a2.toInt ≤ 1 → (-298) ≤ v51_3.toInt → v51_3.toInt ≤ 300 → 1 ≤ v51_4.toInt → v51_4.toInt ≤ 301 → 1 ≤ f51_12_5.toInt → f51_12_5.toInt ≤ 4 → 0 ≤ f0_.toInt → 0 ≤ f0_.toInt → 0 ≤ f51_16_0.toInt → f51_16_0.toInt ≤ 18479 → (301 - v51_4.toInt).toNat < n51 → Wd dC dI A s.heap H locs w53 → TW ksM ad cy (B + 0 + 9 * v51_4.toInt) qr 12 w53 → FE ksM [(12, 24, 24), (12, 27, 27), (12, 30, 30), (12, 31, 31), (69, 0, 64), (70, 0, 10), (71, 0, 295), (71, 216, 243), (71, 220, 247), (71, 221, 248), (71, 222, 249), (71, 223, 250), (71, 224, 251), (72, 0, 12), (73, 0, 10), (74, 0, 296), (75, 0, 301)] w0 w53 → RW w53 → gi w53 0 27 = 0 → gi w53 0 30 = 1 → gi w53 12 5 = f51_12_5 → gi w53 12 9 = f0_ → gi w53 15 9 = f0_ → gi w53 16 0 = f51_16_0 → lv_has ls 6 [(0, .ref (ad 0)), (1, .int a1), (2, .int a2), (3, .int v51_3), (4, .int v51_4)] → W p l e ({ frames := 9, cells := 0, slots := 0, locals := 194 }) s m (List.toArray [.ref (ad 0), .int a1, .int a2]) below meth c H locs 0 0 (MQ below (va_Qi (P_X12_round_2 ad cy B qr s1 a1 a2 w0) (fun u : va_W => wpost dC dI cy A u) A) (List.toArray [.ref (ad 0), .int a1, .int a2]) s 0 0 A) (F0 m 51 ls []) := by
    intro n51
    induction n51 with
    | zero => intro v51_3 v51_4 f51_12_5 f51_16_0 H locs ls w53 r54 t55 r56 t57 r58 t59 r60 t61 r64 t65 r67 r69 r71 t72 hm51 hw hT hF hRW c62 c63 c66 c68 c70 c73 hl; omega
    | succ n51 ih51 =>
      intro v51_3 v51_4 f51_12_5 f51_16_0 H locs ls w53 r54 t55 r56 t57 r58 t59 r60 t61 r64 t65 r67 r69 r71 t72 hm51 hw hT hF hRW c62 c63 c66 c68 c70 c73 hl
      have J153 : ∀ (v153_3 : Int32) (v153_5 : Int32) (H : Heap) (locs : List Loc) (ls : Array Slot) (w74 : va_W), 0 ≤ a1.toInt → a1.toInt ≤ 3 → 0 ≤ a2.toInt → a2.toInt ≤ 1 → (-298) ≤ v153_3.toInt → v153_3.toInt ≤ 300 → 1 ≤ v51_4.toInt → v51_4.toInt ≤ 300 → 0 ≤ v153_5.toInt → v153_5.toInt ≤ 300 → 1 ≤ f51_12_5.toInt → f51_12_5.toInt ≤ 4 → 0 ≤ f0_.toInt → 0 ≤ f0_.toInt → 0 ≤ f51_16_0.toInt → f51_16_0.toInt ≤ 18479 → Wd dC dI A s.heap H locs w74 → TW ksM ad cy (B + 9 + 9 * v51_4.toInt) qr 12 w74 → FE ksM [(12, 24, 24), (12, 27, 27), (12, 30, 30), (12, 31, 31), (69, 0, 64), (70, 0, 10), (71, 0, 295), (71, 216, 243), (71, 220, 247), (71, 221, 248), (71, 222, 249), (71, 223, 250), (71, 224, 251), (72, 0, 12), (73, 0, 10), (74, 0, 296), (75, 0, 301)] w0 w74 → RW w74 → gi w74 0 27 = 0 → gi w74 0 30 = 1 → gi w74 12 5 = f51_12_5 → gi w74 12 9 = f0_ → gi w74 15 9 = f0_ → gi w74 16 0 = f51_16_0 → lv_has ls 6 [(0, .ref (ad 0)), (1, .int a1), (2, .int a2), (3, .int v153_3), (4, .int v51_4), (5, .int v153_5)] → W p l e ({ frames := 9, cells := 0, slots := 0, locals := 194 }) s m (List.toArray [.ref (ad 0), .int a1, .int a2]) below meth c H locs 0 0 (MQ below (va_Qi (P_X12_round_2 ad cy B qr s1 a1 a2 w0) (fun u : va_W => wpost dC dI cy A u) A) (List.toArray [.ref (ad 0), .int a1, .int a2]) s 0 0 A) (F0 m 153 ls []) := by
        intro v153_3 v153_5 H locs ls w74 r75 t76 r77 t78 r79 t80 r81 t82 r83 t84 r87 t88 r90 r92 r94 t95 hw hT hF hRW c85 c86 c89 c91 c93 c96 hl
        obtain ⟨x97, ex97⟩ : ∃ y : Int32, y = v51_4 + Int32.ofInt 1 := ⟨_, rfl⟩
        refine lv_iinc (v := x97) (lv' := [(4, .int x97), (0, .ref (ad 0)), (1, .int a1), (2, .int a2), (3, .int v153_3), (5, .int v153_5)]) hx hb dX12_round_153 hl (k := 4) rfl ex97.symm (by decide) rfl (fun ls hl => ?_)
        have ex97 : x97.toInt = v51_4.toInt + 1 := by rw [ex97]; exact wk_add (y := 1) (show -2147483648 ≤ v51_4.toInt + 1 by omega) (show v51_4.toInt + 1 ≤ 2147483647 by omega)
        refine lv_goto (tgt := 51) hx hb dX12_round_156 (by decide) ?_
        exact ih51 v153_3 x97 f51_12_5 f51_16_0 H locs ls w74 (show 0 ≤ a1.toInt by omega) (show a1.toInt ≤ 3 by omega) (show 0 ≤ a2.toInt by omega) (show a2.toInt ≤ 1 by omega) (show (-298) ≤ v153_3.toInt by omega) (show v153_3.toInt ≤ 300 by omega) (show 1 ≤ x97.toInt by omega) (show x97.toInt ≤ 301 by omega) (show 1 ≤ f51_12_5.toInt by omega) (show f51_12_5.toInt ≤ 4 by omega) (show 0 ≤ f0_.toInt by omega) (show 0 ≤ f0_.toInt by omega) (show 0 ≤ f51_16_0.toInt by omega) (show f51_16_0.toInt ≤ 18479 by omega) (show (301 - x97.toInt).toNat < n51 by omega) hw (hT.up (show (B + 9 + 9 * v51_4.toInt) ≤ (B + 0 + 9 * x97.toInt) by omega)) hF hRW c85 c86 c89 c91 c93 c96 (lv_sub hl [1, 2, 3, 4, 0] rfl)
      have L94 : ∀ (n94 : Nat) (v94_3 : Int32) (v94_5 : Int32) (H : Heap) (locs : List Loc) (ls : Array Slot) (w98 : va_W), 0 ≤ a1.toInt → a1.toInt ≤ 3 → 0 ≤ a2.toInt → a2.toInt ≤ 1 → (-298) ≤ v94_3.toInt → v94_3.toInt ≤ 300 → 1 ≤ v51_4.toInt → v51_4.toInt ≤ 300 → 0 ≤ v94_5.toInt → v94_5.toInt ≤ 300 → 1 ≤ f51_12_5.toInt → f51_12_5.toInt ≤ 4 → 0 ≤ f0_.toInt → 0 ≤ f0_.toInt → 0 ≤ f51_16_0.toInt → f51_16_0.toInt ≤ 18479 → (300 - v94_5.toInt).toNat < n94 → Wd dC dI A s.heap H locs w98 → TW ksM ad cy (B + 9 + 9 * v51_4.toInt) qr 12 w98 → FE ksM [(12, 24, 24), (12, 27, 27), (12, 30, 30), (12, 31, 31), (69, 0, 64), (70, 0, 10), (71, 0, 295), (71, 216, 243), (71, 220, 247), (71, 221, 248), (71, 222, 249), (71, 223, 250), (71, 224, 251), (72, 0, 12), (73, 0, 10), (74, 0, 296), (75, 0, 301)] w0 w98 → RW w98 → gi w98 0 27 = 0 → gi w98 0 30 = 1 → gi w98 12 5 = f51_12_5 → gi w98 12 9 = f0_ → gi w98 15 9 = f0_ → gi w98 16 0 = f51_16_0 → lv_has ls 6 [(0, .ref (ad 0)), (1, .int a1), (2, .int a2), (3, .int v94_3), (4, .int v51_4), (5, .int v94_5)] → W p l e ({ frames := 9, cells := 0, slots := 0, locals := 194 }) s m (List.toArray [.ref (ad 0), .int a1, .int a2]) below meth c H locs 0 0 (MQ below (va_Qi (P_X12_round_2 ad cy B qr s1 a1 a2 w0) (fun u : va_W => wpost dC dI cy A u) A) (List.toArray [.ref (ad 0), .int a1, .int a2]) s 0 0 A) (F0 m 94 ls []) := by
        intro n94
        induction n94 with
        | zero => intro v94_3 v94_5 H locs ls w98 r99 t100 r101 t102 r103 t104 r105 t106 r107 t108 r111 t112 r114 r116 r118 t119 hm94 hw hT hF hRW c109 c110 c113 c115 c117 c120 hl; omega
        | succ n94 ih94 =>
          intro v94_3 v94_5 H locs ls w98 r99 t100 r101 t102 r103 t104 r105 t106 r107 t108 r111 t112 r114 r116 r118 t119 hm94 hw hT hF hRW c109 c110 c113 c115 c117 c120 hl
          have J147 : ∀ (v147_3 : Int32) (H : Heap) (locs : List Loc) (ls : Array Slot) (w121 : va_W), 0 ≤ a1.toInt → a1.toInt ≤ 3 → 0 ≤ a2.toInt → a2.toInt ≤ 1 → (-298) ≤ v147_3.toInt → v147_3.toInt ≤ 300 → 1 ≤ v51_4.toInt → v51_4.toInt ≤ 300 → 0 ≤ v94_5.toInt → v94_5.toInt ≤ 299 → 1 ≤ f51_12_5.toInt → f51_12_5.toInt ≤ 4 → 0 ≤ f0_.toInt → 0 ≤ f0_.toInt → 0 ≤ f51_16_0.toInt → f51_16_0.toInt ≤ 18479 → Wd dC dI A s.heap H locs w121 → TW ksM ad cy (B + 9 + 9 * v51_4.toInt) qr 12 w121 → FE ksM [(12, 24, 24), (12, 27, 27), (12, 30, 30), (12, 31, 31), (69, 0, 64), (70, 0, 10), (71, 0, 295), (71, 216, 243), (71, 220, 247), (71, 221, 248), (71, 222, 249), (71, 223, 250), (71, 224, 251), (72, 0, 12), (73, 0, 10), (74, 0, 296), (75, 0, 301)] w0 w121 → RW w121 → gi w121 0 27 = 0 → gi w121 0 30 = 1 → gi w121 12 5 = f51_12_5 → gi w121 12 9 = f0_ → gi w121 15 9 = f0_ → gi w121 16 0 = f51_16_0 → lv_has ls 6 [(0, .ref (ad 0)), (1, .int a1), (2, .int a2), (3, .int v147_3), (4, .int v51_4), (5, .int v94_5)] → W p l e ({ frames := 9, cells := 0, slots := 0, locals := 194 }) s m (List.toArray [.ref (ad 0), .int a1, .int a2]) below meth c H locs 0 0 (MQ below (va_Qi (P_X12_round_2 ad cy B qr s1 a1 a2 w0) (fun u : va_W => wpost dC dI cy A u) A) (List.toArray [.ref (ad 0), .int a1, .int a2]) s 0 0 A) (F0 m 147 ls []) := by
            intro v147_3 H locs ls w121 r122 t123 r124 t125 r126 t127 r128 t129 r130 t131 r134 t135 r137 r139 r141 t142 hw hT hF hRW c132 c133 c136 c138 c140 c143 hl
            obtain ⟨x144, ex144⟩ : ∃ y : Int32, y = v94_5 + Int32.ofInt 1 := ⟨_, rfl⟩
            refine lv_iinc (v := x144) (lv' := [(5, .int x144), (0, .ref (ad 0)), (1, .int a1), (2, .int a2), (3, .int v147_3), (4, .int v51_4)]) hx hb dX12_round_147 hl (k := 5) rfl ex144.symm (by decide) rfl (fun ls hl => ?_)
            have ex144 : x144.toInt = v94_5.toInt + 1 := by rw [ex144]; exact wk_add (y := 1) (show -2147483648 ≤ v94_5.toInt + 1 by omega) (show v94_5.toInt + 1 ≤ 2147483647 by omega)
            refine lv_goto (tgt := 94) hx hb dX12_round_150 (by decide) ?_
            exact ih94 v147_3 x144 H locs ls w121 (show 0 ≤ a1.toInt by omega) (show a1.toInt ≤ 3 by omega) (show 0 ≤ a2.toInt by omega) (show a2.toInt ≤ 1 by omega) (show (-298) ≤ v147_3.toInt by omega) (show v147_3.toInt ≤ 300 by omega) (show 1 ≤ v51_4.toInt by omega) (show v51_4.toInt ≤ 300 by omega) (show 0 ≤ x144.toInt by omega) (show x144.toInt ≤ 300 by omega) (show 1 ≤ f51_12_5.toInt by omega) (show f51_12_5.toInt ≤ 4 by omega) (show 0 ≤ f0_.toInt by omega) (show 0 ≤ f0_.toInt by omega) (show 0 ≤ f51_16_0.toInt by omega) (show f51_16_0.toInt ≤ 18479 by omega) (show (300 - x144.toInt).toNat < n94 by omega) hw hT hF hRW c132 c133 c136 c138 c140 c143 (lv_sub hl [1, 2, 3, 4, 5, 0] rfl)
          refine lv_iload hx hb dX12_round_94 (lv_at hl 5 rfl) ?_
          refine lv_iload hx hb dX12_round_96 (lv_at hl 4 rfl) ?_
          refine lv_icmp_ge (tgt := 153) hx hb dX12_round_98 (by decide) (fun c145 => ?_) (fun c145 => ?_)
          · have c145 : v51_4.toInt ≤ v94_5.toInt := wk_le.mp c145
            exact J153 v94_3 v94_5 H locs ls w98 (show 0 ≤ a1.toInt by omega) (show a1.toInt ≤ 3 by omega) (show 0 ≤ a2.toInt by omega) (show a2.toInt ≤ 1 by omega) (show (-298) ≤ v94_3.toInt by omega) (show v94_3.toInt ≤ 300 by omega) (show 1 ≤ v51_4.toInt by omega) (show v51_4.toInt ≤ 300 by omega) (show 0 ≤ v94_5.toInt by omega) (show v94_5.toInt ≤ 300 by omega) (show 1 ≤ f51_12_5.toInt by omega) (show f51_12_5.toInt ≤ 4 by omega) (show 0 ≤ f0_.toInt by omega) (show 0 ≤ f0_.toInt by omega) (show 0 ≤ f51_16_0.toInt by omega) (show f51_16_0.toInt ≤ 18479 by omega)  hw hT hF hRW c109 c110 c113 c115 c117 c120 (lv_sub hl [0, 1, 2, 3, 4, 5] rfl)
          · have c145 : v94_5.toInt < v51_4.toInt := wk_leF c145
            refine lv_iload_n hx hb dX12_round_101 rfl (lv_at hl 3 rfl) ?_
            refine lv_bipush (v := (-2)) hx hb dX12_round_102 (by decide) ?_
            refine lv_icmp_ne (tgt := 153) hx hb dX12_round_104 (by decide) (fun c146 => ?_) (fun c146 => ?_)
            · have c146 : ¬ v94_3.toInt = (-2 : Int) := wk_eqF c146
              exact J153 v94_3 v94_5 H locs ls w98 (show 0 ≤ a1.toInt by omega) (show a1.toInt ≤ 3 by omega) (show 0 ≤ a2.toInt by omega) (show a2.toInt ≤ 1 by omega) (show (-298) ≤ v94_3.toInt by omega) (show v94_3.toInt ≤ 300 by omega) (show 1 ≤ v51_4.toInt by omega) (show v51_4.toInt ≤ 300 by omega) (show 0 ≤ v94_5.toInt by omega) (show v94_5.toInt ≤ 300 by omega) (show 1 ≤ f51_12_5.toInt by omega) (show f51_12_5.toInt ≤ 4 by omega) (show 0 ≤ f0_.toInt by omega) (show 0 ≤ f0_.toInt by omega) (show 0 ≤ f51_16_0.toInt by omega) (show f51_16_0.toInt ≤ 18479 by omega)  hw hT hF hRW c109 c110 c113 c115 c117 c120 (lv_sub hl [0, 1, 2, 3, 4, 5] rfl)
            · have c146 : v94_3.toInt = (-2 : Int) := wk_eq.mp c146
              refine lv_aload_n hx hb dX12_round_107 rfl (lv_at hl 0 rfl) ?_
              refine lv_iload_n hx hb dX12_round_108 rfl (lv_at hl 1 rfl) ?_
              refine tk_Vi hC hK hw hT hA hE hSR kM_at0 (by decide) rfl (k_X12_isThere_1 l adK adV dC dI cy ad (B + 9 + 9 * v51_4.toInt) (by omega) (by omega) qr s1   a1 (show 0 ≤ a1.toInt by omega) (show a1.toInt ≤ 3 by omega) w98 H.size hT ) (cwV 1 hC.2.2.2.2 gX12_round_X12_isThere rfl rfl rfl (by decide +kernel) ⟨Nat.le_of_ble_eq_true rfl, Nat.le_of_ble_eq_true rfl⟩) rfl hl.1 rfl (Nat.le_of_ble_eq_true rfl) dX12_round_109 (fun r147 w149 H locs hp148 hw => ?_)
              obtain ⟨rfl, hg151⟩ := hp148
              rcases hg151 with rfl | rfl
              · refine lv_if_ne (tgt := 153) hx hb dX12_round_112 (by decide) (fun c => absurd (by decide) c) (fun _ => ?_)
                refine lv_aload_n hx hb dX12_round_115 rfl (lv_at hl 0 rfl) ?_
                refine tk_getA hC hK hw hT hinX12 kM_at0 (by decide) rfl 33 (by decide) (List.mem_of_getElem? (i := 3) rfl) rfl rfl dX12_round_116 ?_
                refine lv_iload hx hb dX12_round_119 (lv_at hl 5 rfl) ?_
                refine tk_iald hC hK hw hT kM_at16 rfl rfl (show 0 ≤ v94_5.toInt by omega) (show v94_5.toInt < 301 by omega) dX12_round_121 (fun x152 c153 rx152 tx152 => ?_)
                refine lv_aload_n hx hb dX12_round_122 rfl (lv_at hl 0 rfl) ?_
                refine tk_getA hC hK hw hT hinX12 kM_at0 (by decide) rfl 33 (by decide) (List.mem_of_getElem? (i := 3) rfl) rfl rfl dX12_round_123 ?_
                refine lv_iload hx hb dX12_round_126 (lv_at hl 4 rfl) ?_
                refine tk_iald hC hK hw hT kM_at16 rfl rfl (show 0 ≤ v51_4.toInt by omega) (show v51_4.toInt < 301 by omega) dX12_round_128 (fun x154 c155 rx154 tx154 => ?_)
                refine lv_icmp_ne (tgt := 147) hx hb dX12_round_129 (by decide) (fun c156 => ?_) (fun c156 => ?_)
                · have c156 : ¬ x152.toInt = x154.toInt := wk_eqF c156
                  exact J147 v94_3 H locs ls w98 (show 0 ≤ a1.toInt by omega) (show a1.toInt ≤ 3 by omega) (show 0 ≤ a2.toInt by omega) (show a2.toInt ≤ 1 by omega) (show (-298) ≤ v94_3.toInt by omega) (show v94_3.toInt ≤ 300 by omega) (show 1 ≤ v51_4.toInt by omega) (show v51_4.toInt ≤ 300 by omega) (show 0 ≤ v94_5.toInt by omega) (show v94_5.toInt ≤ 299 by omega) (show 1 ≤ f51_12_5.toInt by omega) (show f51_12_5.toInt ≤ 4 by omega) (show 0 ≤ f0_.toInt by omega) (show 0 ≤ f0_.toInt by omega) (show 0 ≤ f51_16_0.toInt by omega) (show f51_16_0.toInt ≤ 18479 by omega)  hw hT hF hRW c109 c110 c113 c115 c117 c120 (lv_sub hl [0, 1, 2, 3, 4, 5] rfl)
                · have c156 : x152.toInt = x154.toInt := wk_eq.mp c156
                  refine lv_iload_n hx hb dX12_round_132 rfl (lv_at hl 2 rfl) ?_
                  refine lv_if_ne (tgt := 141) hx hb dX12_round_133 (by decide) (fun c157 => ?_) (fun c157 => ?_)
                  · have c157 : ¬ a2.toInt = (0 : Int) := wk_eqF c157
                    refine lv_iload hx hb dX12_round_141 (lv_at hl 4 rfl) ?_
                    refine lv_iload hx hb dX12_round_143 (lv_at hl 5 rfl) ?_
                    refine lv_isub hx hb dX12_round_145 ?_
                    refine lv_topi (fun x158 ex158 => ?_)
                    have ex158 : x158.toInt = v51_4.toInt - v94_5.toInt := by rw [ex158]; exact wk_sub (show (-2147483648) ≤ v51_4.toInt - v94_5.toInt by omega) (show v51_4.toInt - v94_5.toInt ≤ 2147483647 by omega)
                    refine lv_istore_n (lv' := [(3, .int x158), (0, .ref (ad 0)), (1, .int a1), (2, .int a2), (4, .int v51_4), (5, .int v94_5)]) hx hb dX12_round_146 rfl hl (by decide) rfl (fun ls hl => ?_)
                    exact J147 x158 H locs ls w98 (show 0 ≤ a1.toInt by omega) (show a1.toInt ≤ 3 by omega) (show 0 ≤ a2.toInt by omega) (show a2.toInt ≤ 1 by omega) (show (-298) ≤ x158.toInt by omega) (show x158.toInt ≤ 300 by omega) (show 1 ≤ v51_4.toInt by omega) (show v51_4.toInt ≤ 300 by omega) (show 0 ≤ v94_5.toInt by omega) (show v94_5.toInt ≤ 299 by omega) (show 1 ≤ f51_12_5.toInt by omega) (show f51_12_5.toInt ≤ 4 by omega) (show 0 ≤ f0_.toInt by omega) (show 0 ≤ f0_.toInt by omega) (show 0 ≤ f51_16_0.toInt by omega) (show f51_16_0.toInt ≤ 18479 by omega)  hw hT hF hRW c109 c110 c113 c115 c117 c120 (lv_sub hl [1, 2, 3, 0, 4, 5] rfl)
                  · have c157 : a2.toInt = (0 : Int) := wk_eq.mp c157
                    refine lv_iload hx hb dX12_round_136 (lv_at hl 5 rfl) ?_
                    refine lv_goto (tgt := 146) hx hb dX12_round_138 (by decide) ?_
                    refine lv_istore_n (lv' := [(3, .int v94_5), (0, .ref (ad 0)), (1, .int a1), (2, .int a2), (4, .int v51_4), (5, .int v94_5)]) hx hb dX12_round_146 rfl hl (by decide) rfl (fun ls hl => ?_)
                    exact J147 v94_5 H locs ls w98 (show 0 ≤ a1.toInt by omega) (show a1.toInt ≤ 3 by omega) (show 0 ≤ a2.toInt by omega) (show a2.toInt ≤ 1 by omega) (show (-298) ≤ v94_5.toInt by omega) (show v94_5.toInt ≤ 300 by omega) (show 1 ≤ v51_4.toInt by omega) (show v51_4.toInt ≤ 300 by omega) (show 0 ≤ v94_5.toInt by omega) (show v94_5.toInt ≤ 299 by omega) (show 1 ≤ f51_12_5.toInt by omega) (show f51_12_5.toInt ≤ 4 by omega) (show 0 ≤ f0_.toInt by omega) (show 0 ≤ f0_.toInt by omega) (show 0 ≤ f51_16_0.toInt by omega) (show f51_16_0.toInt ≤ 18479 by omega)  hw hT hF hRW c109 c110 c113 c115 c117 c120 (lv_sub hl [1, 2, 3, 0, 4, 5] rfl)
              · refine lv_if_ne (tgt := 153) hx hb dX12_round_112 (by decide) (fun _ => ?_) (fun c => absurd c (by decide))
                exact J153 v94_3 v94_5 H locs ls w98 (show 0 ≤ a1.toInt by omega) (show a1.toInt ≤ 3 by omega) (show 0 ≤ a2.toInt by omega) (show a2.toInt ≤ 1 by omega) (show (-298) ≤ v94_3.toInt by omega) (show v94_3.toInt ≤ 300 by omega) (show 1 ≤ v51_4.toInt by omega) (show v51_4.toInt ≤ 300 by omega) (show 0 ≤ v94_5.toInt by omega) (show v94_5.toInt ≤ 300 by omega) (show 1 ≤ f51_12_5.toInt by omega) (show f51_12_5.toInt ≤ 4 by omega) (show 0 ≤ f0_.toInt by omega) (show 0 ≤ f0_.toInt by omega) (show 0 ≤ f51_16_0.toInt by omega) (show f51_16_0.toInt ≤ 18479 by omega)  hw hT hF hRW c109 c110 c113 c115 c117 c120 (lv_sub hl [0, 1, 2, 3, 4, 5] rfl)
      refine lv_iload hx hb dX12_round_51 (lv_at hl 4 rfl) ?_
      refine lv_sipush (v := 300) hx hb dX12_round_53 (by decide) ?_
      refine lv_icmp_gt (tgt := 159) hx hb dX12_round_56 (by decide) (fun c159 => ?_) (fun c159 => ?_)
      · have c159 : (300 : Int) < v51_4.toInt := wk_lt.mp c159
        exact J159 v51_3 v51_4 f51_12_5 f51_16_0 H locs ls w53 (show 0 ≤ a1.toInt by omega) (show a1.toInt ≤ 3 by omega) (show 0 ≤ a2.toInt by omega) (show a2.toInt ≤ 1 by omega) (show (-298) ≤ v51_3.toInt by omega) (show v51_3.toInt ≤ 300 by omega) (show 1 ≤ v51_4.toInt by omega) (show v51_4.toInt ≤ 301 by omega) (show 1 ≤ f51_12_5.toInt by omega) (show f51_12_5.toInt ≤ 4 by omega) (show 0 ≤ f0_.toInt by omega) (show 0 ≤ f0_.toInt by omega) (show 0 ≤ f51_16_0.toInt by omega) (show f51_16_0.toInt ≤ 18479 by omega)  hw (hT.up (show (B + 0 + 9 * v51_4.toInt) ≤ (B + 2709) by omega)) hF hRW c62 c63 c66 c68 c70 c73 (lv_sub hl [0, 1, 2, 3, 4] rfl)
      · have c159 : v51_4.toInt ≤ (300 : Int) := wk_ltF c159
        refine lv_iload_n hx hb dX12_round_59 rfl (lv_at hl 3 rfl) ?_
        refine lv_bipush (v := (-2)) hx hb dX12_round_60 (by decide) ?_
        refine lv_icmp_ne (tgt := 159) hx hb dX12_round_62 (by decide) (fun c160 => ?_) (fun c160 => ?_)
        · have c160 : ¬ v51_3.toInt = (-2 : Int) := wk_eqF c160
          exact J159 v51_3 v51_4 f51_12_5 f51_16_0 H locs ls w53 (show 0 ≤ a1.toInt by omega) (show a1.toInt ≤ 3 by omega) (show 0 ≤ a2.toInt by omega) (show a2.toInt ≤ 1 by omega) (show (-298) ≤ v51_3.toInt by omega) (show v51_3.toInt ≤ 300 by omega) (show 1 ≤ v51_4.toInt by omega) (show v51_4.toInt ≤ 301 by omega) (show 1 ≤ f51_12_5.toInt by omega) (show f51_12_5.toInt ≤ 4 by omega) (show 0 ≤ f0_.toInt by omega) (show 0 ≤ f0_.toInt by omega) (show 0 ≤ f51_16_0.toInt by omega) (show f51_16_0.toInt ≤ 18479 by omega)  hw (hT.up (show (B + 0 + 9 * v51_4.toInt) ≤ (B + 2709) by omega)) hF hRW c62 c63 c66 c68 c70 c73 (lv_sub hl [0, 1, 2, 3, 4] rfl)
        · have c160 : v51_3.toInt = (-2 : Int) := wk_eq.mp c160
          refine lv_aload_n hx hb dX12_round_65 rfl (lv_at hl 0 rfl) ?_
          refine lv_iload_n hx hb dX12_round_66 rfl (lv_at hl 1 rfl) ?_
          refine tk_Vi hC hK hw hT hA hE hSR kM_at0 (by decide) rfl (k_X12_isThere_1 l adK adV dC dI cy ad (B + 0 + 9 * v51_4.toInt) (by omega) (by omega) qr s1   a1 (show 0 ≤ a1.toInt by omega) (show a1.toInt ≤ 3 by omega) w53 H.size hT ) (cwV 1 hC.2.2.2.2 gX12_round_X12_isThere rfl rfl rfl (by decide +kernel) ⟨Nat.le_of_ble_eq_true rfl, Nat.le_of_ble_eq_true rfl⟩) rfl hl.1 rfl (Nat.le_of_ble_eq_true rfl) dX12_round_67 (fun r161 w163 H locs hp162 hw => ?_)
          obtain ⟨rfl, hg165⟩ := hp162
          rcases hg165 with rfl | rfl
          · refine lv_if_ne (tgt := 159) hx hb dX12_round_70 (by decide) (fun c => absurd (by decide) c) (fun _ => ?_)
            refine lv_aload_n hx hb dX12_round_73 rfl (lv_at hl 0 rfl) ?_
            refine lv_iload_n hx hb dX12_round_74 rfl (lv_at hl 1 rfl) ?_
            refine tk_Vi hC hK hw hT hA hE hSR kM_at0 (by decide) rfl (k_X12_steps_1 l adK adV dC dI cy ad (B + 0 + 9 * v51_4.toInt) (by omega) (by omega) qr s1   a1 (show 0 ≤ a1.toInt by omega) (show a1.toInt ≤ 3 by omega) w53 H.size hT hRW) (cwV 1 hC.2.2.2.2 gX12_round_X12_steps rfl rfl rfl (by decide +kernel) ⟨Nat.le_of_ble_eq_true rfl, Nat.le_of_ble_eq_true rfl⟩) rfl hl.1 rfl (Nat.le_of_ble_eq_true rfl) dX12_round_75 (fun r166 w168 H locs hp167 hw => ?_)
            obtain ⟨hT, k169, hg170⟩ := hp167
            have hT := hT.up (B' := (B + 9 + 9 * v51_4.toInt)) (by omega)
            have hRW := RW_FE k169 (fun _ => rfl) (fun _ => rfl) (fun _ => rfl) hRW
            have hF := hF.tr k169 (by decide)
            have c171 := k169.gi kM_at0 (by decide) c62
            have c172 := k169.gi kM_at0 (by decide) c63
            have c173 := k169.gi kM_at12 (by decide) c66
            have c174 := k169.gi kM_at12 (by decide) c68
            have c175 := k169.gi kM_at15 (by decide) c70
            have c176 := k169.gi kM_at16 (by decide) c73
            rcases hg170 with rfl | rfl
            · refine lv_pop hx hb dX12_round_78 rfl ?_
              refine lv_aload_n hx hb dX12_round_79 rfl (lv_at hl 0 rfl) ?_
              refine tk_getA hC hK hw hT hinX12 kM_at0 (by decide) rfl 33 (by decide) (List.mem_of_getElem? (i := 3) rfl) rfl rfl dX12_round_80 ?_
              refine lv_iload hx hb dX12_round_83 (lv_at hl 4 rfl) ?_
              refine lv_aload_n hx hb dX12_round_85 rfl (lv_at hl 0 rfl) ?_
              refine lv_iload_n hx hb dX12_round_86 rfl (lv_at hl 1 rfl) ?_
              refine tk_Vi hC hK hw hT hA hE hSR kM_at0 (by decide) rfl (k_X12_asHeIs_1 l adK adV dC dI cy ad (B + 9 + 9 * v51_4.toInt) (by omega) (by omega) qr s1   a1 (show 0 ≤ a1.toInt by omega) (show a1.toInt ≤ 3 by omega) w168 H.size hT ) (cwV 1 hC.2.2.2.2 gX12_round_X12_asHeIs rfl rfl rfl (by decide +kernel) ⟨Nat.le_of_ble_eq_true rfl, Nat.le_of_ble_eq_true rfl⟩) rfl hl.1 rfl (Nat.le_of_ble_eq_true rfl) dX12_round_87 (fun r177 w179 H locs hp178 hw => ?_)
              obtain ⟨rfl, hg183⟩ := hp178
              obtain ⟨g181, g182⟩ := hg183
              refine tk_iast hC hK hw hT kM_at16 (by decide) rfl rfl (show 0 ≤ v51_4.toInt by omega) (show v51_4.toInt < 301 by omega) (wk_i32 r177).1 (wk_i32 r177).2 dX12_round_90 (fun H locs w184 hw hT k186 c185 => ?_)
              have hRW := RW_F1 k186 (by decide) (by decide) (by decide) hRW
              have hF := hF.put kM_at16 (inE_of (a := 0) (b := 301) (by decide) (show 0 ≤ v51_4.toInt.toNat by omega) (show v51_4.toInt.toNat ≤ 301 by omega)) k186
              have c187 := k186.gi (Or.inl (tk_ne kM_at0 kM_at16 (by decide))) c171
              have c188 := k186.gi (Or.inl (tk_ne kM_at0 kM_at16 (by decide))) c172
              have c189 := k186.gi (Or.inl (tk_ne kM_at12 kM_at16 (by decide))) c173
              have c190 := k186.gi (Or.inl (tk_ne kM_at12 kM_at16 (by decide))) c174
              have c191 := k186.gi (Or.inl (tk_ne kM_at15 kM_at16 (by decide))) c175
              have c192 := k186.gi (Or.inr (show 0 ≠ v51_4.toInt.toNat by omega)) c176
              refine lv_iconst (v := 0) hx hb dX12_round_91 (by decide) ?_
              refine lv_istore (lv' := [(5, .int 0), (0, .ref (ad 0)), (1, .int a1), (2, .int a2), (3, .int v51_3), (4, .int v51_4)]) hx hb dX12_round_92 hl (by decide) rfl (fun ls hl => ?_)
              exact L94 ((300 - (0 : Int)).toNat + 1) v51_3 0 H locs ls w184 (show 0 ≤ a1.toInt by omega) (show a1.toInt ≤ 3 by omega) (show 0 ≤ a2.toInt by omega) (show a2.toInt ≤ 1 by omega) (show (-298) ≤ v51_3.toInt by omega) (show v51_3.toInt ≤ 300 by omega) (show 1 ≤ v51_4.toInt by omega) (show v51_4.toInt ≤ 300 by omega) (by decide) (by decide) (show 1 ≤ f51_12_5.toInt by omega) (show f51_12_5.toInt ≤ 4 by omega) (show 0 ≤ f0_.toInt by omega) (show 0 ≤ f0_.toInt by omega) (show 0 ≤ f51_16_0.toInt by omega) (show f51_16_0.toInt ≤ 18479 by omega) (Nat.lt_succ_self _) hw hT hF hRW c187 c188 c189 c190 c191 c192 (lv_sub hl [1, 2, 3, 4, 5, 0] rfl)
            · refine lv_pop hx hb dX12_round_78 rfl ?_
              refine lv_aload_n hx hb dX12_round_79 rfl (lv_at hl 0 rfl) ?_
              refine tk_getA hC hK hw hT hinX12 kM_at0 (by decide) rfl 33 (by decide) (List.mem_of_getElem? (i := 3) rfl) rfl rfl dX12_round_80 ?_
              refine lv_iload hx hb dX12_round_83 (lv_at hl 4 rfl) ?_
              refine lv_aload_n hx hb dX12_round_85 rfl (lv_at hl 0 rfl) ?_
              refine lv_iload_n hx hb dX12_round_86 rfl (lv_at hl 1 rfl) ?_
              refine tk_Vi hC hK hw hT hA hE hSR kM_at0 (by decide) rfl (k_X12_asHeIs_1 l adK adV dC dI cy ad (B + 9 + 9 * v51_4.toInt) (by omega) (by omega) qr s1   a1 (show 0 ≤ a1.toInt by omega) (show a1.toInt ≤ 3 by omega) w168 H.size hT ) (cwV 1 hC.2.2.2.2 gX12_round_X12_asHeIs rfl rfl rfl (by decide +kernel) ⟨Nat.le_of_ble_eq_true rfl, Nat.le_of_ble_eq_true rfl⟩) rfl hl.1 rfl (Nat.le_of_ble_eq_true rfl) dX12_round_87 (fun r193 w195 H locs hp194 hw => ?_)
              obtain ⟨rfl, hg199⟩ := hp194
              obtain ⟨g197, g198⟩ := hg199
              refine tk_iast hC hK hw hT kM_at16 (by decide) rfl rfl (show 0 ≤ v51_4.toInt by omega) (show v51_4.toInt < 301 by omega) (wk_i32 r193).1 (wk_i32 r193).2 dX12_round_90 (fun H locs w200 hw hT k202 c201 => ?_)
              have hRW := RW_F1 k202 (by decide) (by decide) (by decide) hRW
              have hF := hF.put kM_at16 (inE_of (a := 0) (b := 301) (by decide) (show 0 ≤ v51_4.toInt.toNat by omega) (show v51_4.toInt.toNat ≤ 301 by omega)) k202
              have c203 := k202.gi (Or.inl (tk_ne kM_at0 kM_at16 (by decide))) c171
              have c204 := k202.gi (Or.inl (tk_ne kM_at0 kM_at16 (by decide))) c172
              have c205 := k202.gi (Or.inl (tk_ne kM_at12 kM_at16 (by decide))) c173
              have c206 := k202.gi (Or.inl (tk_ne kM_at12 kM_at16 (by decide))) c174
              have c207 := k202.gi (Or.inl (tk_ne kM_at15 kM_at16 (by decide))) c175
              have c208 := k202.gi (Or.inr (show 0 ≠ v51_4.toInt.toNat by omega)) c176
              refine lv_iconst (v := 0) hx hb dX12_round_91 (by decide) ?_
              refine lv_istore (lv' := [(5, .int 0), (0, .ref (ad 0)), (1, .int a1), (2, .int a2), (3, .int v51_3), (4, .int v51_4)]) hx hb dX12_round_92 hl (by decide) rfl (fun ls hl => ?_)
              exact L94 ((300 - (0 : Int)).toNat + 1) v51_3 0 H locs ls w200 (show 0 ≤ a1.toInt by omega) (show a1.toInt ≤ 3 by omega) (show 0 ≤ a2.toInt by omega) (show a2.toInt ≤ 1 by omega) (show (-298) ≤ v51_3.toInt by omega) (show v51_3.toInt ≤ 300 by omega) (show 1 ≤ v51_4.toInt by omega) (show v51_4.toInt ≤ 300 by omega) (by decide) (by decide) (show 1 ≤ f51_12_5.toInt by omega) (show f51_12_5.toInt ≤ 4 by omega) (show 0 ≤ f0_.toInt by omega) (show 0 ≤ f0_.toInt by omega) (show 0 ≤ f51_16_0.toInt by omega) (show f51_16_0.toInt ≤ 18479 by omega) (Nat.lt_succ_self _) hw hT hF hRW c203 c204 c205 c206 c207 c208 (lv_sub hl [1, 2, 3, 4, 5, 0] rfl)
          · refine lv_if_ne (tgt := 159) hx hb dX12_round_70 (by decide) (fun _ => ?_) (fun c => absurd c (by decide))
            exact J159 v51_3 v51_4 f51_12_5 f51_16_0 H locs ls w53 (show 0 ≤ a1.toInt by omega) (show a1.toInt ≤ 3 by omega) (show 0 ≤ a2.toInt by omega) (show a2.toInt ≤ 1 by omega) (show (-298) ≤ v51_3.toInt by omega) (show v51_3.toInt ≤ 300 by omega) (show 1 ≤ v51_4.toInt by omega) (show v51_4.toInt ≤ 301 by omega) (show 1 ≤ f51_12_5.toInt by omega) (show f51_12_5.toInt ≤ 4 by omega) (show 0 ≤ f0_.toInt by omega) (show 0 ≤ f0_.toInt by omega) (show 0 ≤ f51_16_0.toInt by omega) (show f51_16_0.toInt ≤ 18479 by omega)  hw (hT.up (show (B + 0 + 9 * v51_4.toInt) ≤ (B + 2709) by omega)) hF hRW c62 c63 c66 c68 c70 c73 (lv_sub hl [0, 1, 2, 3, 4] rfl)
  refine lv_aload_n hx hb dX12_round_0 rfl (lv_at hl 0 rfl) ?_
  refine lv_iload_n hx hb dX12_round_1 rfl (lv_at hl 1 rfl) ?_
  refine tk_Vi hC hK hw hT hA hE hSR kM_at0 (by decide) rfl (k_X12_isWalker_1 l adK adV dC dI cy ad B (by omega) (by omega) qr s1   a1 w0 s.heap.size hT ) (cwV 1 hC.2.2.2.2 gX12_round_X12_isWalker rfl rfl rfl (by decide +kernel) ⟨Nat.le_of_ble_eq_true rfl, Nat.le_of_ble_eq_true rfl⟩) rfl hl.1 rfl (Nat.le_of_ble_eq_true rfl) dX12_round_2 (fun r209 w211 H locs hp210 hw => ?_)
  obtain ⟨rfl, hg217⟩ := hp210
  rcases hg217 with rfl | ⟨rfl, g213, g214, ⟨x215, c216, rx215, tx215⟩⟩
  · refine lv_if_eq (tgt := 18) hx hb dX12_round_5 (by decide) (fun _ => ?_) (fun c => absurd (by decide) c)
    exact J18  H locs ls w0 (show 0 ≤ f0_.toInt by omega)  hw hT hF hRW cf0_ (lv_sub hl [0, 1, 2] rfl)
  · refine lv_if_eq (tgt := 18) hx hb dX12_round_5 (by decide) (fun c => absurd c (by decide)) (fun _ => ?_)
    refine lv_iload_n hx hb dX12_round_8 rfl (lv_at hl 2 rfl) ?_
    refine lv_i2l hx hb dX12_round_9 rfl ?_
    refine lv_topl (fun x218 ex218 => ?_)
    have ex218 : x218.toInt = a2.toInt := by rw [ex218]; exact wk_i2l _
    have bx218 := wk_i32 a2
    refine lv_lconst (v := 0) hx hb dX12_round_10 (by decide) ?_
    refine lv_lconst (v := 1) hx hb dX12_round_11 (by decide) ?_
    refine tk_Si hC hK hw hT hA hE hSR (k_X12_in_12 l adK adV dC dI cy ad B (by omega) (by omega) qr s1   x218 (show (-2147483648) ≤ x218.toInt by omega) (show x218.toInt ≤ 2147483647 by omega) w0 H.size hT ) (va_cwS 3 hC.2.2.2.2 gX12_round_X12_in rfl rfl rfl (by decide +kernel) ⟨Nat.le_of_ble_eq_true rfl, Nat.le_of_ble_eq_true rfl⟩) rfl hl.1 rfl (Nat.le_of_ble_eq_true rfl) dX12_round_12 (fun r219 w221 H locs hp220 hw => ?_)
    obtain ⟨rfl, hg225⟩ := hp220
    rcases hg225 with rfl | ⟨rfl, g223, g224⟩
    · refine lv_if_ne (tgt := 20) hx hb dX12_round_15 (by decide) (fun c => absurd (by decide) c) (fun _ => ?_)
      exact J18  H locs ls w0 (show 0 ≤ f0_.toInt by omega)  hw hT hF hRW cf0_ (lv_sub hl [0, 1, 2] rfl)
    · refine lv_if_ne (tgt := 20) hx hb dX12_round_15 (by decide) (fun _ => ?_) (fun c => absurd c (by decide))
      refine lv_aload_n hx hb dX12_round_20 rfl (lv_at hl 0 rfl) ?_
      refine tk_Vv hC hK hw hT hA hE hSR kM_at0 (by decide) rfl (k_X12_keeps_1 l adK adV dC dI cy ad B (by omega) (by omega) qr s1    w0 H.size hT ) (cwV 0 hC.2.2.2.2 gX12_round_X12_keeps rfl rfl rfl (by decide +kernel) ⟨Nat.le_of_ble_eq_true rfl, Nat.le_of_ble_eq_true rfl⟩) rfl hl.1 rfl (Nat.le_of_ble_eq_true rfl) dX12_round_21 (fun w228 H locs hp227 hw => ?_)
      obtain ⟨hT, k229, hg233⟩ := hp227
      have hRW := RW_FE k229 (fun _ => rfl) (fun _ => rfl) (fun _ => rfl) hRW
      have hF := hF.tr k229 (by decide)
      have c234 := k229.gi kM_at12 (by decide) cf0_
      have c235 := k229.gi kM_at12 (by decide) c216
      obtain ⟨c230, c231, c232⟩ := hg233
      refine lv_aload_n hx hb dX12_round_24 rfl (lv_at hl 0 rfl) ?_
      refine lv_iconst (v := 1) hx hb dX12_round_25 (by decide) ?_
      refine tk_putz hC hK hw hT hinX12 tyX12_ok nmX12 kM_at0 (by decide) rfl rfl 30 (by decide) (List.mem_of_getElem? (i := 1) rfl) rfl rfl rfl rfl (by decide) (by decide) dX12_round_26 (fun H locs w236 hw hT k238 c237 => ?_)
      have hRW := RW_F1 k238 (by decide) (by decide) (by decide) hRW
      have hF := hF.put kM_at0 (k := 30) (by decide) k238
      have c239 := k238.gi (Or.inr (by decide)) c234
      have c240 := k238.gi (Or.inr (by decide)) c235
      have c241 := k238.gi (Or.inr (by decide)) (c232.trans cf0_)
      refine lv_aload_n hx hb dX12_round_29 rfl (lv_at hl 0 rfl) ?_
      refine lv_iconst (v := 0) hx hb dX12_round_30 (by decide) ?_
      refine tk_putz hC hK hw hT hinX12 tyX12_ok nmX12 kM_at0 (by decide) rfl rfl 27 (by decide) (List.mem_of_getElem? (i := 2) rfl) rfl rfl rfl rfl (by decide) (by decide) dX12_round_31 (fun H locs w242 hw hT k244 c243 => ?_)
      have hRW := RW_F1 k244 (by decide) (by decide) (by decide) hRW
      have hF := hF.put kM_at0 (k := 27) (by decide) k244
      have c245 := k244.gi (Or.inr (by decide)) c239
      have c246 := k244.gi (Or.inr (by decide)) c240
      have c247 := k244.gi (Or.inr (by decide)) c241
      have c248 := k244.gi (Or.inr (by decide)) c237
      refine lv_bipush (v := (-2)) hx hb dX12_round_34 (by decide) ?_
      refine lv_istore_n (lv' := [(3, .int (-2)), (0, .ref (ad 0)), (1, .int a1), (2, .int a2)]) hx hb dX12_round_36 rfl hl (by decide) rfl (fun ls hl => ?_)
      refine lv_aload_n hx hb dX12_round_37 rfl (lv_at hl 1 rfl) ?_
      refine tk_getA hC hK hw hT hinX12 kM_at0 (by decide) rfl 33 (by decide) (List.mem_of_getElem? (i := 3) rfl) rfl rfl dX12_round_38 ?_
      refine lv_iconst (v := 0) hx hb dX12_round_41 (by decide) ?_
      refine lv_aload_n hx hb dX12_round_42 rfl (lv_at hl 1 rfl) ?_
      refine lv_iload_n hx hb dX12_round_43 rfl (lv_at hl 2 rfl) ?_
      refine tk_Vi hC hK hw hT hA hE hSR kM_at0 (by decide) rfl (k_X12_asHeIs_1 l adK adV dC dI cy ad B (by omega) (by omega) qr s1   a1 (show 0 ≤ a1.toInt by omega) (show a1.toInt ≤ 3 by omega) w242 H.size hT ) (cwV 1 hC.2.2.2.2 gX12_round_X12_asHeIs rfl rfl rfl (by decide +kernel) ⟨Nat.le_of_ble_eq_true rfl, Nat.le_of_ble_eq_true rfl⟩) rfl hl.1 rfl (Nat.le_of_ble_eq_true rfl) dX12_round_44 (fun r249 w251 H locs hp250 hw => ?_)
      obtain ⟨rfl, hg255⟩ := hp250
      obtain ⟨g253, g254⟩ := hg255
      refine tk_iast hC hK hw hT kM_at16 (by decide) rfl rfl (by decide) (by decide) (wk_i32 r249).1 (wk_i32 r249).2 dX12_round_47 (fun H locs w256 hw hT k258 c257 => ?_)
      have hRW := RW_F1 k258 (by decide) (by decide) (by decide) hRW
      have hF := hF.put kM_at16 (inE_of (a := 0) (b := 301) (by decide) (by decide) (by decide)) k258
      have c259 := k258.gi (Or.inl (tk_ne kM_at12 kM_at16 (by decide))) c245
      have c260 := k258.gi (Or.inl (tk_ne kM_at12 kM_at16 (by decide))) c246
      have c261 := k258.gi (Or.inl (tk_ne kM_at15 kM_at16 (by decide))) c247
      have c262 := k258.gi (Or.inl (tk_ne kM_at0 kM_at16 (by decide))) c248
      have c263 := k258.gi (Or.inl (tk_ne kM_at0 kM_at16 (by decide))) c243
      have c257 : gi w256 16 0 = r249 := c257
      refine lv_iconst (v := 1) hx hb dX12_round_48 (by decide) ?_
      refine lv_istore (lv' := [(4, .int 1), (3, .int (-2)), (0, .ref (ad 0)), (1, .int a1), (2, .int a2)]) hx hb dX12_round_49 hl (by decide) rfl (fun ls hl => ?_)
      exact L51 ((301 - (1 : Int)).toNat + 1) (-2) 1 x215 r249 H locs ls w256 (show 0 ≤ a1.toInt by omega) (show a1.toInt ≤ 3 by omega) (show 0 ≤ a2.toInt by omega) (show a2.toInt ≤ 1 by omega) (by decide) (by decide) (by decide) (by decide) (show 1 ≤ x215.toInt by omega) (show x215.toInt ≤ 4 by omega) (show 0 ≤ f0_.toInt by omega) (show 0 ≤ f0_.toInt by omega) (show 0 ≤ r249.toInt by omega) (show r249.toInt ≤ 18479 by omega) (Nat.lt_succ_self _) hw (hT.up (show B ≤ (B + 0 + 9 * (1 : Int32).toInt) by rw [show (1 : Int32).toInt = 1 by decide]; omega)) hF hRW c263 c262 c260 c259 c261 c257 (lv_sub hl [2, 3, 4, 1, 0] rfl)
abbrev P_X12_had_2 (ad : Nat → Nat) (cy : Nat → ClassId) (B : Int) (qr : Nat) (s1 : Int) (a1 : Int32) (w0 : va_W) : Int32 → va_W → Prop := fun r u => TW ksM ad cy (B + 3600) qr 12 u ∧ FE ksM [(12, 24, 24), (12, 31, 31), (69, 0, 64), (70, 0, 10), (71, 0, 295), (71, 216, 243), (71, 218, 245), (71, 220, 247), (71, 221, 248), (71, 222, 249), (71, 223, 250), (71, 224, 251), (72, 0, 12), (73, 0, 10), (74, 0, 296)] w0 u ∧ ((0 ≤ r.toInt ∧ r.toInt ≤ 15 ∧ 0 ≤ a1.toInt ∧ a1.toInt ≤ 3 ∧ ((gi u 12 9).toInt = (gi w0 12 9).toInt)) ∨ (r = (-1) ∧ ((gi u 12 9).toInt = (gi w0 12 9).toInt)))
set_option maxHeartbeats 4000000 in
set_option maxRecDepth 100000 in
theorem k_X12_had_2 (l : Launch) (adK adV : Nat → Nat) (dC : Nat → ClassId) (dI : Nat → Nat → Nat) (cy : Nat → ClassId) (ad : Nat → Nat) (B : Int) (hB0 : 100000 ≤ B) (hB1 : B ≤ 1073738224) (qr : Nat) (s1 : Int)  (a1 : Int32) (w0 : va_W) (sz : Nat) (hT : TW ksM ad cy B qr 12 w0) (f0_ : Int32) (cf0_ : gi w0 12 9 = f0_) (rf0_ : 0 ≤ f0_.toInt) (tf0_ : f0_.toInt ≤ 2147483647) (hRW : RW w0) : Met l yX12_had wsX12_had ({ frames := 10, cells := 0, slots := 0, locals := 217 }) (va_Pc [.ref (ad 0), .int a1] (wpreS adK adV dC dI cy sz w0)) (va_Qi (P_X12_had_2 ad cy B qr s1 a1 w0) (fun u : va_W => wpost dC dI cy (va_A w0 sz) u) (va_A w0 sz)) 0 0 (va_A w0 sz) := by
  refine Met.ofW (cc := cX12_had) (maxL := 4) (ret := (some .int)) (by decide) rfl ?_
  intro p e s m args below meth c s₁ Bk hml hv
  obtain ⟨rfl, ⟨hsz, hP, hK, hD0⟩, hE, hSR⟩ := hv
  have hx := Bk.exec
  have hb := Bk.bytes
  have hr := Bk.returns
  have hlocks := Bk.notSynchronized
  have hC : CallFix p m c cX12_had 4 s _ wsX12_had RX12 := ⟨hx, hb, hml, findClass_of_methodNamed Bk.named, atoms_spec (ws := wsX12_had) Bk.pre⟩
  subst hsz
  have hD := hD0.self (sz := s.heap.size)
  generalize hAe : va_A w0 s.heap.size = A at hD hE ⊢
  have hA : ∀ q : Nat, s.heap.size ≤ q → A q := fun q h => by rw [← hAe]; exact Or.inr h
  have hw : Wd dC dI A s.heap s.heap [] w0 := ⟨hP, hD, va_S.rf⟩
  have hF : FE ksM [(12, 24, 24), (12, 31, 31), (69, 0, 64), (70, 0, 10), (71, 0, 295), (71, 216, 243), (71, 218, 245), (71, 220, 247), (71, 221, 248), (71, 222, 249), (71, 223, 250), (71, 224, 251), (72, 0, 12), (73, 0, 10), (74, 0, 296)] w0 w0 := FE.rf
  have hl := lv_entry ([.ref (ad 0), .int a1]) (n := 4) (Nat.le_of_ble_eq_true rfl)
  rw [lg_entry_eq]
  generalize (lg_sl ([.ref (ad 0), .int a1]) ++ List.replicate (4 - (lg_sl ([.ref (ad 0), .int a1])).length) Slot.unset).toArray = ls at hl ⊢
  have hl : lv_has ls 4 [(0, .ref (ad 0)), (1, .int a1)] := hl
  generalize hloc : ([] : List Loc) = locs at hw ⊢
  have hinX12 : ∀ w ∈ u_ws RX12 TX12 42, w ∈ wsX12_had := fun _ h => List.mem_cons_of_mem _ (List.mem_append_right _ (h))
  have L18 : ∀ (n18 : Nat) (v18_2 : Int32) (v18_3 : Int32) (H : Heap) (locs : List Loc) (ls : Array Slot) (w1 : va_W), 0 ≤ a1.toInt → a1.toInt ≤ 3 → 0 ≤ v18_2.toInt → v18_2.toInt ≤ 15 → 0 ≤ v18_3.toInt → v18_3.toInt ≤ 4 → 0 ≤ f0_.toInt → 0 ≤ f0_.toInt → (4 - v18_3.toInt).toNat < n18 → Wd dC dI A s.heap H locs w1 → TW ksM ad cy (B + 0 + 900 * v18_3.toInt) qr 12 w1 → FE ksM [(12, 24, 24), (12, 31, 31), (69, 0, 64), (70, 0, 10), (71, 0, 295), (71, 216, 243), (71, 218, 245), (71, 220, 247), (71, 221, 248), (71, 222, 249), (71, 223, 250), (71, 224, 251), (72, 0, 12), (73, 0, 10), (74, 0, 296)] w0 w1 → RW w1 → gi w1 12 9 = f0_ → gi w1 15 9 = f0_ → lv_has ls 4 [(0, .ref (ad 0)), (1, .int a1), (2, .int v18_2), (3, .int v18_3)] → W p l e ({ frames := 10, cells := 0, slots := 0, locals := 217 }) s m (List.toArray [.ref (ad 0), .int a1]) below meth c H locs 0 0 (MQ below (va_Qi (P_X12_had_2 ad cy B qr s1 a1 w0) (fun u : va_W => wpost dC dI cy A u) A) (List.toArray [.ref (ad 0), .int a1]) s 0 0 A) (F0 m 18 ls []) := by
    intro n18
    induction n18 with
    | zero => intro v18_2 v18_3 H locs ls w1 r2 t3 r4 t5 r6 t7 r8 r10 hm18 hw hT hF hRW c9 c11 hl; omega
    | succ n18 ih18 =>
      intro v18_2 v18_3 H locs ls w1 r2 t3 r4 t5 r6 t7 r8 r10 hm18 hw hT hF hRW c9 c11 hl
      refine lv_iload_n hx hb dX12_had_18 rfl (lv_at hl 3 rfl) ?_
      refine lv_aload_n hx hb dX12_had_19 rfl (lv_at hl 0 rfl) ?_
      refine tk_getA hC hK hw hT hinX12 kM_at0 (by decide) rfl 32 (by decide) (List.mem_of_getElem? (i := 1) rfl) rfl rfl dX12_had_20 ?_
      refine lv_iconst (v := 4) hx hb dX12_had_23 (by decide) ?_
      refine tk_ialdR hC hK hw hT kM_at15 rfl (by decide) (by decide) dX12_had_24 (fun x12 c13 Ex12 => ?_)
      have bx12 := tk_rgI rfl 4 1 1 0 4 (by decide +kernel) ⟨0, by decide, by decide⟩ Ex12
      have c13 : gi w1 15 4 = x12 := c13
      refine lv_icmp_ge (tgt := 72) hx hb dX12_had_25 (by decide) (fun c14 => ?_) (fun c14 => ?_)
      · have c14 : x12.toInt ≤ v18_3.toInt := wk_le.mp c14
        refine lv_iload_n hx hb dX12_had_72 rfl (lv_at hl 2 rfl) ?_
        exact tk_iret hC hr hlocks hK ⟨(hT.up (show (B + 0 + 900 * v18_3.toInt) ≤ (B + 3600) by omega)), hF, (Or.inl ⟨(show 0 ≤ v18_2.toInt by omega), (show v18_2.toInt ≤ 15 by omega), (show 0 ≤ a1.toInt by omega), (show a1.toInt ≤ 3 by omega), (by simp only [cf0_, c9] <;> omega)⟩)⟩ hw dX12_had_73
      · have c14 : v18_3.toInt < x12.toInt := wk_leF c14
        refine lv_aload_n hx hb dX12_had_28 rfl (lv_at hl 0 rfl) ?_
        refine tk_getA hC hK hw hT hinX12 kM_at0 (by decide) rfl 26 (by decide) (List.mem_of_getElem? (i := 2) rfl) rfl rfl dX12_had_29 ?_
        refine lv_sipush (v := 216) hx hb dX12_had_32 (by decide) ?_
        refine lv_bipush (v := 9) hx hb dX12_had_35 (by decide) ?_
        refine lv_iload_n hx hb dX12_had_37 rfl (lv_at hl 1 rfl) ?_
        refine lv_imul hx hb dX12_had_38 ?_
        refine lv_topi (fun x15 ex15 => ?_)
        have ex15 : x15.toInt = (9 : Int) * a1.toInt := by rw [ex15]; exact wk_mul (show (-2147483648) ≤ (9 : Int) * a1.toInt by omega) (show (9 : Int) * a1.toInt ≤ 2147483647 by omega)
        refine lv_iadd hx hb dX12_had_39 ?_
        refine lv_topi (fun x16 ex16 => ?_)
        have ex16 : x16.toInt = (216 : Int) + x15.toInt := by rw [ex16]; exact wk_add (show (-2147483648) ≤ (216 : Int) + x15.toInt by omega) (show (216 : Int) + x15.toInt ≤ 2147483647 by omega)
        refine lv_iconst (v := 2) hx hb dX12_had_40 (by decide) ?_
        refine lv_iadd hx hb dX12_had_41 ?_
        refine lv_topi (fun x17 ex17 => ?_)
        have ex17 : x17.toInt = x16.toInt + (2 : Int) := by rw [ex17]; exact wk_add (show (-2147483648) ≤ x16.toInt + (2 : Int) by omega) (show x16.toInt + (2 : Int) ≤ 2147483647 by omega)
        refine lv_iload_n hx hb dX12_had_42 rfl (lv_at hl 3 rfl) ?_
        refine tk_iastR hC hK hw hT kM_at12 (by decide) rfl (show 0 ≤ x17.toInt by omega) (show x17.toInt < 296 by omega) (tk_rgS rfl 218 9 4 0 3 (by decide +kernel) ⟨(a1.toInt - 0).toNat, by omega, show x17.toInt.toNat = 218 + 9 * (a1.toInt - 0).toNat by omega⟩ (show 0 ≤ v18_3.toInt by omega) (show v18_3.toInt ≤ 3 by omega)) dX12_had_43 (fun H locs w18 hw hT k20 c19 => ?_)
        have hRW := RW_F1 k20 (by decide) (by decide) (by decide) hRW
        have hF := hF.put kM_at12 (inE_of (a := 218) (b := 245) (by decide) (show 218 ≤ x17.toInt.toNat by omega) (show x17.toInt.toNat ≤ 245 by omega)) k20
        have c21 := k20.gi (Or.inr (show 9 ≠ x17.toInt.toNat by omega)) c9
        have c22 := k20.gi (Or.inl (tk_ne kM_at15 kM_at12 (by decide))) c11
        have c23 := k20.gi (Or.inl (tk_ne kM_at15 kM_at12 (by decide))) c13
        refine lv_iload_n hx hb dX12_had_44 rfl (lv_at hl 2 rfl) ?_
        refine lv_aload_n hx hb dX12_had_45 rfl (lv_at hl 0 rfl) ?_
        refine lv_iload_n hx hb dX12_had_46 rfl (lv_at hl 1 rfl) ?_
        refine tk_Vi hC hK hw hT hA hE hSR kM_at0 (by decide) rfl (k_X12_isHis_1 l adK adV dC dI cy ad (B + 0 + 900 * v18_3.toInt) (by omega) (by omega) qr s1   a1 (show 0 ≤ a1.toInt by omega) (show a1.toInt ≤ 3 by omega) w18 H.size hT hRW) (cwV 1 hC.2.2.2.2 gX12_had_X12_isHis rfl rfl rfl (by decide +kernel) ⟨Nat.le_of_ble_eq_true rfl, Nat.le_of_ble_eq_true rfl⟩) rfl hl.1 rfl (Nat.le_of_ble_eq_true rfl) dX12_had_47 (fun r24 w26 H locs hp25 hw => ?_)
        obtain ⟨hT, k27, hg28⟩ := hp25
        have hT := hT.up (B' := (B + 900 + 900 * v18_3.toInt)) (by omega)
        have hRW := RW_FE k27 (fun _ => rfl) (fun _ => rfl) (fun _ => rfl) hRW
        have hF := hF.tr k27 (by decide)
        have c29 := k27.gi kM_at12 (by decide) c21
        have c30 := k27.gi kM_at15 (by decide) c22
        have c31 := k27.gi kM_at15 (by decide) c23
        rcases hg28 with rfl | rfl
        · refine lv_if_eq (tgt := 59) hx hb dX12_had_50 (by decide) (fun _ => ?_) (fun c => absurd (by decide) c)
          refine lv_iconst (v := 0) hx hb dX12_had_59 (by decide) ?_
          refine lv_ior hx hb dX12_had_60 ?_
          refine lv_topi (fun x32 ex32 => ?_)
          have bx32 : 0 ≤ x32.toInt ∧ x32.toInt < 16 := by rw [ex32]; exact wk_or 4 (by decide) (by omega) (by omega) (by decide) (by decide)
          have mx32 : v18_2.toInt ≤ x32.toInt ∧ (0 : Int) ≤ x32.toInt := by rw [ex32]; exact wk_orL 4 (by decide) (by omega) (by omega) (by decide) (by decide)
          refine lv_istore_n (lv' := [(2, .int x32), (0, .ref (ad 0)), (1, .int a1), (3, .int v18_3)]) hx hb dX12_had_61 rfl hl (by decide) rfl (fun ls hl => ?_)
          refine lv_aload_n hx hb dX12_had_62 rfl (lv_at hl 1 rfl) ?_
          refine tk_Vv hC hK hw hT hA hE hSR kM_at0 (by decide) rfl (k_X12_putsBack_1 l adK adV dC dI cy ad (B + 900 + 900 * v18_3.toInt) (by omega) (by omega) qr s1    w26 H.size hT ) (cwV 0 hC.2.2.2.2 gX12_had_X12_putsBack rfl rfl rfl (by decide +kernel) ⟨Nat.le_of_ble_eq_true rfl, Nat.le_of_ble_eq_true rfl⟩) rfl hl.1 rfl (Nat.le_of_ble_eq_true rfl) dX12_had_63 (fun w35 H locs hp34 hw => ?_)
          obtain ⟨hT, k36, hg40⟩ := hp34
          have hRW := RW_FE k36 (fun _ => rfl) (fun _ => rfl) (fun _ => rfl) hRW
          have hF := hF.tr k36 (by decide)
          have c41 := k36.gi kM_at15 (by decide) c30
          have c42 := k36.gi kM_at15 (by decide) c31
          obtain ⟨c37, c38, c39⟩ := hg40
          obtain ⟨x43, ex43⟩ : ∃ y : Int32, y = v18_3 + Int32.ofInt 1 := ⟨_, rfl⟩
          refine lv_iinc (v := x43) (lv' := [(3, .int x43), (2, .int x32), (0, .ref (ad 0)), (1, .int a1)]) hx hb dX12_had_66 hl (k := 3) rfl ex43.symm (by decide) rfl (fun ls hl => ?_)
          have ex43 : x43.toInt = v18_3.toInt + 1 := by rw [ex43]; exact wk_add (y := 1) (show -2147483648 ≤ v18_3.toInt + 1 by omega) (show v18_3.toInt + 1 ≤ 2147483647 by omega)
          refine lv_goto (tgt := 18) hx hb dX12_had_69 (by decide) ?_
          exact ih18 x32 x43 H locs ls w35 (show 0 ≤ a1.toInt by omega) (show a1.toInt ≤ 3 by omega) (show 0 ≤ x32.toInt by omega) (show x32.toInt ≤ 15 by omega) (show 0 ≤ x43.toInt by omega) (show x43.toInt ≤ 4 by omega) (show 0 ≤ f0_.toInt by omega) (show 0 ≤ f0_.toInt by omega) (show (4 - x43.toInt).toNat < n18 by omega) hw (hT.up (show (B + 900 + 900 * v18_3.toInt) ≤ (B + 0 + 900 * x43.toInt) by omega)) hF hRW (c39.trans c30) c41 (lv_sub hl [2, 3, 1, 0] rfl)
        · refine lv_if_eq (tgt := 59) hx hb dX12_had_50 (by decide) (fun c => absurd c (by decide)) (fun _ => ?_)
          refine lv_iconst (v := 1) hx hb dX12_had_53 (by decide) ?_
          refine lv_iload_n hx hb dX12_had_54 rfl (lv_at hl 3 rfl) ?_
          refine lv_ishl hx hb dX12_had_55 ?_
          refine lv_topi (fun x44 ex44 => ?_)
          have bx44 : 1 ≤ x44.toInt ∧ x44.toInt ≤ 8 := by rw [ex44]; exact wk_shl1 3 (by decide) (by omega) (by omega)
          refine lv_goto (tgt := 60) hx hb dX12_had_56 (by decide) ?_
          refine lv_ior hx hb dX12_had_60 ?_
          refine lv_topi (fun x45 ex45 => ?_)
          have bx45 : 0 ≤ x45.toInt ∧ x45.toInt < 16 := by rw [ex45]; exact wk_or 4 (by decide) (by omega) (by omega) (by omega) (by omega)
          have mx45 : v18_2.toInt ≤ x45.toInt ∧ x44.toInt ≤ x45.toInt := by rw [ex45]; exact wk_orL 4 (by decide) (by omega) (by omega) (by omega) (by omega)
          refine lv_istore_n (lv' := [(2, .int x45), (0, .ref (ad 0)), (1, .int a1), (3, .int v18_3)]) hx hb dX12_had_61 rfl hl (by decide) rfl (fun ls hl => ?_)
          refine lv_aload_n hx hb dX12_had_62 rfl (lv_at hl 1 rfl) ?_
          refine tk_Vv hC hK hw hT hA hE hSR kM_at0 (by decide) rfl (k_X12_putsBack_1 l adK adV dC dI cy ad (B + 900 + 900 * v18_3.toInt) (by omega) (by omega) qr s1    w26 H.size hT ) (cwV 0 hC.2.2.2.2 gX12_had_X12_putsBack rfl rfl rfl (by decide +kernel) ⟨Nat.le_of_ble_eq_true rfl, Nat.le_of_ble_eq_true rfl⟩) rfl hl.1 rfl (Nat.le_of_ble_eq_true rfl) dX12_had_63 (fun w48 H locs hp47 hw => ?_)
          obtain ⟨hT, k49, hg53⟩ := hp47
          have hRW := RW_FE k49 (fun _ => rfl) (fun _ => rfl) (fun _ => rfl) hRW
          have hF := hF.tr k49 (by decide)
          have c54 := k49.gi kM_at15 (by decide) c30
          have c55 := k49.gi kM_at15 (by decide) c31
          obtain ⟨c50, c51, c52⟩ := hg53
          obtain ⟨x56, ex56⟩ : ∃ y : Int32, y = v18_3 + Int32.ofInt 1 := ⟨_, rfl⟩
          refine lv_iinc (v := x56) (lv' := [(3, .int x56), (2, .int x45), (0, .ref (ad 0)), (1, .int a1)]) hx hb dX12_had_66 hl (k := 3) rfl ex56.symm (by decide) rfl (fun ls hl => ?_)
          have ex56 : x56.toInt = v18_3.toInt + 1 := by rw [ex56]; exact wk_add (y := 1) (show -2147483648 ≤ v18_3.toInt + 1 by omega) (show v18_3.toInt + 1 ≤ 2147483647 by omega)
          refine lv_goto (tgt := 18) hx hb dX12_had_69 (by decide) ?_
          exact ih18 x45 x56 H locs ls w48 (show 0 ≤ a1.toInt by omega) (show a1.toInt ≤ 3 by omega) (show 0 ≤ x45.toInt by omega) (show x45.toInt ≤ 15 by omega) (show 0 ≤ x56.toInt by omega) (show x56.toInt ≤ 4 by omega) (show 0 ≤ f0_.toInt by omega) (show 0 ≤ f0_.toInt by omega) (show (4 - x56.toInt).toNat < n18 by omega) hw (hT.up (show (B + 900 + 900 * v18_3.toInt) ≤ (B + 0 + 900 * x56.toInt) by omega)) hF hRW (c52.trans c30) c54 (lv_sub hl [2, 3, 1, 0] rfl)
  refine lv_aload_n hx hb dX12_had_0 rfl (lv_at hl 0 rfl) ?_
  refine lv_iload_n hx hb dX12_had_1 rfl (lv_at hl 1 rfl) ?_
  refine tk_Vi hC hK hw hT hA hE hSR kM_at0 (by decide) rfl (k_X12_isWalker_1 l adK adV dC dI cy ad B (by omega) (by omega) qr s1   a1 w0 s.heap.size hT ) (cwV 1 hC.2.2.2.2 gX12_had_X12_isWalker rfl rfl rfl (by decide +kernel) ⟨Nat.le_of_ble_eq_true rfl, Nat.le_of_ble_eq_true rfl⟩) rfl hl.1 rfl (Nat.le_of_ble_eq_true rfl) dX12_had_2 (fun r57 w59 H locs hp58 hw => ?_)
  obtain ⟨rfl, hg65⟩ := hp58
  rcases hg65 with rfl | ⟨rfl, g61, g62, ⟨x63, c64, rx63, tx63⟩⟩
  · refine lv_if_ne (tgt := 10) hx hb dX12_had_5 (by decide) (fun c => absurd (by decide) c) (fun _ => ?_)
    refine lv_iconst (v := (-1)) hx hb dX12_had_8 (by decide) ?_
    exact tk_iret hC hr hlocks hK ⟨(hT.up (show B ≤ (B + 3600) by omega)), hF, (Or.inr ⟨rfl, (by simp only [cf0_, cf0_] <;> omega)⟩)⟩ hw dX12_had_9
  · refine lv_if_ne (tgt := 10) hx hb dX12_had_5 (by decide) (fun _ => ?_) (fun c => absurd c (by decide))
    refine lv_iconst (v := 0) hx hb dX12_had_10 (by decide) ?_
    refine lv_istore_n (lv' := [(2, .int 0), (0, .ref (ad 0)), (1, .int a1)]) hx hb dX12_had_11 rfl hl (by decide) rfl (fun ls hl => ?_)
    refine lv_aload_n hx hb dX12_had_12 rfl (lv_at hl 1 rfl) ?_
    refine tk_Vv hC hK hw hT hA hE hSR kM_at0 (by decide) rfl (k_X12_keeps_1 l adK adV dC dI cy ad B (by omega) (by omega) qr s1    w0 H.size hT ) (cwV 0 hC.2.2.2.2 gX12_had_X12_keeps rfl rfl rfl (by decide +kernel) ⟨Nat.le_of_ble_eq_true rfl, Nat.le_of_ble_eq_true rfl⟩) rfl hl.1 rfl (Nat.le_of_ble_eq_true rfl) dX12_had_13 (fun w68 H locs hp67 hw => ?_)
    obtain ⟨hT, k69, hg73⟩ := hp67
    have hRW := RW_FE k69 (fun _ => rfl) (fun _ => rfl) (fun _ => rfl) hRW
    have hF := hF.tr k69 (by decide)
    have c74 := k69.gi kM_at12 (by decide) cf0_
    have c75 := k69.gi kM_at12 (by decide) c64
    obtain ⟨c70, c71, c72⟩ := hg73
    refine lv_iconst (v := 0) hx hb dX12_had_16 (by decide) ?_
    refine lv_istore_n (lv' := [(3, .int 0), (2, .int 0), (0, .ref (ad 0)), (1, .int a1)]) hx hb dX12_had_17 rfl hl (by decide) rfl (fun ls hl => ?_)
    exact L18 ((4 - (0 : Int)).toNat + 1) 0 0 H locs ls w68 (show 0 ≤ a1.toInt by omega) (show a1.toInt ≤ 3 by omega) (by decide) (by decide) (by decide) (by decide) (show 0 ≤ f0_.toInt by omega) (show 0 ≤ f0_.toInt by omega) (Nat.lt_succ_self _) hw (hT.up (show B ≤ (B + 0 + 900 * (0 : Int32).toInt) by rw [show (0 : Int32).toInt = 0 by decide]; omega)) hF hRW c74 (c72.trans cf0_) (lv_sub hl [2, 3, 1, 0] rfl)
abbrev P_X12_strangers_2 (ad : Nat → Nat) (cy : Nat → ClassId) (B : Int) (qr : Nat) (s1 : Int) (a1 : Int32) (a2 : Int32) (a3 : Int32) (a4 : Int32) (w0 : va_W) : Int32 → va_W → Prop := fun r u => TW ksM ad cy (B + 54000) qr 12 u ∧ FE ksM [(12, 24, 24), (12, 31, 31), (12, 39, 39), (69, 0, 64), (70, 0, 10), (71, 0, 295), (71, 216, 216), (71, 217, 217), (71, 218, 218), (71, 219, 219), (71, 220, 220), (71, 221, 221), (71, 222, 222), (71, 223, 223), (71, 224, 224), (72, 0, 12), (73, 0, 10), (74, 0, 296)] w0 u ∧ (((-1) ≤ a1.toInt ∧ a1.toInt ≤ 5 ∧ 1 ≤ a2.toInt ∧ a2.toInt ≤ 30 ∧ 1 ≤ a3.toInt ∧ a3.toInt ≤ 200 ∧ 0 ≤ a4.toInt ∧ a4.toInt ≤ 1 ∧ (∃ y : Int32, gi u 12 0 = y ∧ 1 ≤ y.toInt ∧ y.toInt ≤ 10) ∧ (∃ y : Int32, gi u 12 4 = y ∧ 1 ≤ y.toInt ∧ y.toInt ≤ 4) ∧ ((gi u 12 9).toInt = (gi w0 12 9).toInt)) ∨ (r = (-1) ∧ ((gi u 12 9).toInt = (gi w0 12 9).toInt)))
set_option maxHeartbeats 4000000 in
set_option maxRecDepth 100000 in
theorem k_X12_strangers_2 (l : Launch) (adK adV : Nat → Nat) (dC : Nat → ClassId) (dI : Nat → Nat → Nat) (cy : Nat → ClassId) (ad : Nat → Nat) (B : Int) (hB0 : 100000 ≤ B) (hB1 : B ≤ 1073687824) (qr : Nat) (s1 : Int)  (a1 : Int32) (a2 : Int32) (a3 : Int32) (a4 : Int32) (w0 : va_W) (sz : Nat) (hT : TW ksM ad cy B qr 12 w0) (f0_ : Int32) (cf0_ : gi w0 12 9 = f0_) (rf0_ : 0 ≤ f0_.toInt) (tf0_ : f0_.toInt ≤ 2147483647) (hRW : RW w0) : Met l yX12_strangers wsX12_strangers ({ frames := 9, cells := 0, slots := 0, locals := 194 }) (va_Pc [.ref (ad 0), .int a1, .int a2, .int a3, .int a4] (wpreS adK adV dC dI cy sz w0)) (va_Qi (P_X12_strangers_2 ad cy B qr s1 a1 a2 a3 a4 w0) (fun u : va_W => wpost dC dI cy (va_A w0 sz) u) (va_A w0 sz)) 0 0 (va_A w0 sz) := by
  refine Met.ofW (cc := cX12_strangers) (maxL := 12) (ret := (some .int)) (by decide) rfl ?_
  intro p e s m args below meth c s₁ Bk hml hv
  obtain ⟨rfl, ⟨hsz, hP, hK, hD0⟩, hE, hSR⟩ := hv
  have hx := Bk.exec
  have hb := Bk.bytes
  have hr := Bk.returns
  have hlocks := Bk.notSynchronized
  have hC : CallFix p m c cX12_strangers 12 s _ wsX12_strangers RX12 := ⟨hx, hb, hml, findClass_of_methodNamed Bk.named, atoms_spec (ws := wsX12_strangers) Bk.pre⟩
  subst hsz
  have hD := hD0.self (sz := s.heap.size)
  generalize hAe : va_A w0 s.heap.size = A at hD hE ⊢
  have hA : ∀ q : Nat, s.heap.size ≤ q → A q := fun q h => by rw [← hAe]; exact Or.inr h
  have hw : Wd dC dI A s.heap s.heap [] w0 := ⟨hP, hD, va_S.rf⟩
  have hF : FE ksM [(12, 24, 24), (12, 31, 31), (12, 39, 39), (69, 0, 64), (70, 0, 10), (71, 0, 295), (71, 216, 216), (71, 217, 217), (71, 218, 218), (71, 219, 219), (71, 220, 220), (71, 221, 221), (71, 222, 222), (71, 223, 223), (71, 224, 224), (72, 0, 12), (73, 0, 10), (74, 0, 296)] w0 w0 := FE.rf
  have hl := lv_entry ([.ref (ad 0), .int a1, .int a2, .int a3, .int a4]) (n := 12) (Nat.le_of_ble_eq_true rfl)
  rw [lg_entry_eq]
  generalize (lg_sl ([.ref (ad 0), .int a1, .int a2, .int a3, .int a4]) ++ List.replicate (12 - (lg_sl ([.ref (ad 0), .int a1, .int a2, .int a3, .int a4])).length) Slot.unset).toArray = ls at hl ⊢
  have hl : lv_has ls 12 [(0, .ref (ad 0)), (1, .int a1), (2, .int a2), (3, .int a3), (4, .int a4)] := hl
  generalize hloc : ([] : List Loc) = locs at hw ⊢
  have hinX12 : ∀ w ∈ u_ws RX12 TX12 42, w ∈ wsX12_strangers := fun _ h => List.mem_cons_of_mem _ (List.mem_append_right _ (h))
  have J64 : ∀ (f64_12_0 : Int32) (H : Heap) (locs : List Loc) (ls : Array Slot) (w1 : va_W), 0 ≤ f64_12_0.toInt → f64_12_0.toInt ≤ 10 → 0 ≤ f0_.toInt → Wd dC dI A s.heap H locs w1 → TW ksM ad cy B qr 12 w1 → FE ksM [(12, 24, 24), (12, 31, 31), (12, 39, 39), (69, 0, 64), (70, 0, 10), (71, 0, 295), (71, 216, 216), (71, 217, 217), (71, 218, 218), (71, 219, 219), (71, 220, 220), (71, 221, 221), (71, 222, 222), (71, 223, 223), (71, 224, 224), (72, 0, 12), (73, 0, 10), (74, 0, 296)] w0 w1 → RW w1 → gi w1 12 0 = f64_12_0 → gi w1 12 9 = f0_ → lv_has ls 12 [(0, .ref (ad 0)), (1, .int a1), (2, .int a2), (3, .int a3), (4, .int a4)] → W p l e ({ frames := 9, cells := 0, slots := 0, locals := 194 }) s m (List.toArray [.ref (ad 0), .int a1, .int a2, .int a3, .int a4]) below meth c H locs 0 0 (MQ below (va_Qi (P_X12_strangers_2 ad cy B qr s1 a1 a2 a3 a4 w0) (fun u : va_W => wpost dC dI cy A u) A) (List.toArray [.ref (ad 0), .int a1, .int a2, .int a3, .int a4]) s 0 0 A) (F0 m 64 ls []) := by
    intro f64_12_0 H locs ls w1 r2 t3 r5 hw hT hF hRW c4 c6 hl
    refine lv_iconst (v := (-1)) hx hb dX12_strangers_64 (by decide) ?_
    exact tk_iret hC hr hlocks hK ⟨(hT.up (show B ≤ (B + 54000) by omega)), hF, (Or.inr ⟨rfl, (by simp only [cf0_, c6] <;> omega)⟩)⟩ hw dX12_strangers_65
  have L88 : ∀ (n88 : Nat) (v88_5 : Int32) (v88_6 : Int32) (f88_12_0 : Int32) (f88_12_4 : Int32) (f88_15_0 : Int32) (f88_15_4 : Int32) (H : Heap) (locs : List Loc) (ls : Array Slot) (w7 : va_W), (-1) ≤ a1.toInt → a1.toInt ≤ 5 → 1 ≤ a2.toInt → a2.toInt ≤ 30 → 1 ≤ a3.toInt → a3.toInt ≤ 200 → 0 ≤ a4.toInt → a4.toInt ≤ 1 → 0 ≤ v88_6.toInt → v88_6.toInt ≤ 30 → 1 ≤ f88_12_0.toInt → f88_12_0.toInt ≤ 10 → 1 ≤ f88_12_4.toInt → f88_12_4.toInt ≤ 4 → 0 ≤ f0_.toInt → 1 ≤ f88_15_0.toInt → f88_15_0.toInt ≤ 10 → 1 ≤ f88_15_4.toInt → f88_15_4.toInt ≤ 4 → 0 ≤ f0_.toInt → (30 - v88_6.toInt).toNat < n88 → Wd dC dI A s.heap H locs w7 → TW ksM ad cy (B + 0 + 1800 * v88_6.toInt) qr 12 w7 → FE ksM [(12, 24, 24), (12, 31, 31), (12, 39, 39), (69, 0, 64), (70, 0, 10), (71, 0, 295), (71, 216, 216), (71, 217, 217), (71, 218, 218), (71, 219, 219), (71, 220, 220), (71, 221, 221), (71, 222, 222), (71, 223, 223), (71, 224, 224), (72, 0, 12), (73, 0, 10), (74, 0, 296)] w0 w7 → RW w7 → gi w7 12 0 = f88_12_0 → gi w7 12 4 = f88_12_4 → gi w7 12 9 = f0_ → gi w7 15 0 = f88_15_0 → gi w7 15 4 = f88_15_4 → gi w7 15 9 = f0_ → lv_has ls 12 [(0, .ref (ad 0)), (1, .int a1), (2, .int a2), (3, .int a3), (4, .int a4), (5, .int v88_5), (6, .int v88_6)] → W p l e ({ frames := 9, cells := 0, slots := 0, locals := 194 }) s m (List.toArray [.ref (ad 0), .int a1, .int a2, .int a3, .int a4]) below meth c H locs 0 0 (MQ below (va_Qi (P_X12_strangers_2 ad cy B qr s1 a1 a2 a3 a4 w0) (fun u : va_W => wpost dC dI cy A u) A) (List.toArray [.ref (ad 0), .int a1, .int a2, .int a3, .int a4]) s 0 0 A) (F0 m 88 ls []) := by
    intro n88
    induction n88 with
    | zero => intro v88_5 v88_6 f88_12_0 f88_12_4 f88_15_0 f88_15_4 H locs ls w7 r8 t9 r10 t11 r12 t13 r14 t15 r16 t17 r18 t19 r21 t22 r24 r26 t27 r29 t30 r32 hm88 hw hT hF hRW c20 c23 c25 c28 c31 c33 hl; omega
    | succ n88 ih88 =>
      intro v88_5 v88_6 f88_12_0 f88_12_4 f88_15_0 f88_15_4 H locs ls w7 r8 t9 r10 t11 r12 t13 r14 t15 r16 t17 r18 t19 r21 t22 r24 r26 t27 r29 t30 r32 hm88 hw hT hF hRW c20 c23 c25 c28 c31 c33 hl
      have J213 : ∀ (v213_5 : Int32) (v213_7 : Int32) (v213_8 : Int32) (v213_9 : Int32) (v213_10 : Int32) (v213_11 : Int32) (H : Heap) (locs : List Loc) (ls : Array Slot) (w34 : va_W), (-1) ≤ a1.toInt → a1.toInt ≤ 5 → 1 ≤ a2.toInt → a2.toInt ≤ 30 → 1 ≤ a3.toInt → a3.toInt ≤ 200 → 0 ≤ a4.toInt → a4.toInt ≤ 1 → 0 ≤ v88_6.toInt → v88_6.toInt ≤ 29 → 0 ≤ v213_7.toInt → v213_7.toInt ≤ 9 → 0 ≤ v213_8.toInt → v213_8.toInt ≤ 9 → 0 ≤ v213_9.toInt → v213_9.toInt ≤ 3 → 0 ≤ v213_10.toInt → v213_10.toInt ≤ 167 → 0 ≤ v213_11.toInt → v213_11.toInt ≤ 200 → 1 ≤ f88_12_0.toInt → f88_12_0.toInt ≤ 10 → 1 ≤ f88_12_4.toInt → f88_12_4.toInt ≤ 4 → 0 ≤ f0_.toInt → 1 ≤ f88_15_0.toInt → f88_15_0.toInt ≤ 10 → 1 ≤ f88_15_4.toInt → f88_15_4.toInt ≤ 4 → 0 ≤ f0_.toInt → Wd dC dI A s.heap H locs w34 → TW ksM ad cy (B + 1800 + 1800 * v88_6.toInt) qr 12 w34 → FE ksM [(12, 24, 24), (12, 31, 31), (12, 39, 39), (69, 0, 64), (70, 0, 10), (71, 0, 295), (71, 216, 216), (71, 217, 217), (71, 218, 218), (71, 219, 219), (71, 220, 220), (71, 221, 221), (71, 222, 222), (71, 223, 223), (71, 224, 224), (72, 0, 12), (73, 0, 10), (74, 0, 296)] w0 w34 → RW w34 → gi w34 12 0 = f88_12_0 → gi w34 12 4 = f88_12_4 → gi w34 12 9 = f0_ → gi w34 15 0 = f88_15_0 → gi w34 15 4 = f88_15_4 → gi w34 15 9 = f0_ → lv_has ls 12 [(0, .ref (ad 0)), (1, .int a1), (2, .int a2), (3, .int a3), (4, .int a4), (5, .int v213_5), (6, .int v88_6), (7, .int v213_7), (8, .int v213_8), (9, .int v213_9), (10, .int v213_10), (11, .int v213_11)] → W p l e ({ frames := 9, cells := 0, slots := 0, locals := 194 }) s m (List.toArray [.ref (ad 0), .int a1, .int a2, .int a3, .int a4]) below meth c H locs 0 0 (MQ below (va_Qi (P_X12_strangers_2 ad cy B qr s1 a1 a2 a3 a4 w0) (fun u : va_W => wpost dC dI cy A u) A) (List.toArray [.ref (ad 0), .int a1, .int a2, .int a3, .int a4]) s 0 0 A) (F0 m 213 ls []) := by
        intro v213_5 v213_7 v213_8 v213_9 v213_10 v213_11 H locs ls w34 r35 t36 r37 t38 r39 t40 r41 t42 r43 t44 r45 t46 r47 t48 r49 t50 r51 t52 r53 t54 r55 t56 r58 t59 r61 r63 t64 r66 t67 r69 hw hT hF hRW c57 c60 c62 c65 c68 c70 hl
        refine lv_aload_n hx hb dX12_strangers_213 rfl (lv_at hl 0 rfl) ?_
        refine tk_Vv hC hK hw hT hA hE hSR kM_at0 (by decide) rfl (k_X12_putsBack_1 l adK adV dC dI cy ad (B + 1800 + 1800 * v88_6.toInt) (by omega) (by omega) qr s1    w34 H.size hT ) (cwV 0 hC.2.2.2.2 gX12_strangers_X12_putsBack rfl rfl rfl (by decide +kernel) ⟨Nat.le_of_ble_eq_true rfl, Nat.le_of_ble_eq_true rfl⟩) rfl hl.1 rfl (Nat.le_of_ble_eq_true rfl) dX12_strangers_214 (fun w73 H locs hp72 hw => ?_)
        obtain ⟨hT, k74, hg78⟩ := hp72
        have hRW := RW_FE k74 (fun _ => rfl) (fun _ => rfl) (fun _ => rfl) hRW
        have hF := hF.tr k74 (by decide)
        have c79 := k74.gi kM_at15 (by decide) c65
        have c80 := k74.gi kM_at15 (by decide) c68
        have c81 := k74.gi kM_at15 (by decide) c70
        obtain ⟨c75, c76, c77⟩ := hg78
        obtain ⟨x82, ex82⟩ : ∃ y : Int32, y = v88_6 + Int32.ofInt 1 := ⟨_, rfl⟩
        refine lv_iinc (v := x82) (lv' := [(6, .int x82), (0, .ref (ad 0)), (1, .int a1), (2, .int a2), (3, .int a3), (4, .int a4), (5, .int v213_5), (7, .int v213_7), (8, .int v213_8), (9, .int v213_9), (10, .int v213_10), (11, .int v213_11)]) hx hb dX12_strangers_217 hl (k := 6) rfl ex82.symm (by decide) rfl (fun ls hl => ?_)
        have ex82 : x82.toInt = v88_6.toInt + 1 := by rw [ex82]; exact wk_add (y := 1) (show -2147483648 ≤ v88_6.toInt + 1 by omega) (show v88_6.toInt + 1 ≤ 2147483647 by omega)
        refine lv_goto (tgt := 88) hx hb dX12_strangers_220 (by decide) ?_
        exact ih88 v213_5 x82 f88_15_0 f88_15_4 f88_15_0 f88_15_4 H locs ls w73 (show (-1) ≤ a1.toInt by omega) (show a1.toInt ≤ 5 by omega) (show 1 ≤ a2.toInt by omega) (show a2.toInt ≤ 30 by omega) (show 1 ≤ a3.toInt by omega) (show a3.toInt ≤ 200 by omega) (show 0 ≤ a4.toInt by omega) (show a4.toInt ≤ 1 by omega) (show 0 ≤ x82.toInt by omega) (show x82.toInt ≤ 30 by omega) (show 1 ≤ f88_15_0.toInt by omega) (show f88_15_0.toInt ≤ 10 by omega) (show 1 ≤ f88_15_4.toInt by omega) (show f88_15_4.toInt ≤ 4 by omega) (show 0 ≤ f0_.toInt by omega) (show 1 ≤ f88_15_0.toInt by omega) (show f88_15_0.toInt ≤ 10 by omega) (show 1 ≤ f88_15_4.toInt by omega) (show f88_15_4.toInt ≤ 4 by omega) (show 0 ≤ f0_.toInt by omega) (show (30 - x82.toInt).toNat < n88 by omega) hw (hT.up (show (B + 1800 + 1800 * v88_6.toInt) ≤ (B + 0 + 1800 * x82.toInt) by omega)) hF hRW (c75.trans c65) (c76.trans c68) (c77.trans c70) c79 c80 c81 (lv_sub hl [1, 2, 3, 4, 5, 6, 0] rfl)
      have J182 : ∀ (v182_7 : Int32) (v182_8 : Int32) (v182_9 : Int32) (v182_10 : Int32) (v182_11 : Int32) (H : Heap) (locs : List Loc) (ls : Array Slot) (w83 : va_W), (-1) ≤ a1.toInt → a1.toInt ≤ 5 → 1 ≤ a2.toInt → a2.toInt ≤ 30 → 1 ≤ a3.toInt → a3.toInt ≤ 200 → 0 ≤ a4.toInt → a4.toInt ≤ 1 → 0 ≤ v88_6.toInt → v88_6.toInt ≤ 29 → 0 ≤ v182_7.toInt → v182_7.toInt ≤ 9 → 0 ≤ v182_8.toInt → v182_8.toInt ≤ 9 → 0 ≤ v182_9.toInt → v182_9.toInt ≤ 3 → 0 ≤ v182_10.toInt → v182_10.toInt ≤ 167 → 0 ≤ v182_11.toInt → v182_11.toInt ≤ 200 → 1 ≤ f88_12_0.toInt → f88_12_0.toInt ≤ 10 → 1 ≤ f88_12_4.toInt → f88_12_4.toInt ≤ 4 → 0 ≤ f0_.toInt → 1 ≤ f88_15_0.toInt → f88_15_0.toInt ≤ 10 → 1 ≤ f88_15_4.toInt → f88_15_4.toInt ≤ 4 → 0 ≤ f0_.toInt → Wd dC dI A s.heap H locs w83 → TW ksM ad cy (B + 1800 + 1800 * v88_6.toInt) qr 12 w83 → FE ksM [(12, 24, 24), (12, 31, 31), (12, 39, 39), (69, 0, 64), (70, 0, 10), (71, 0, 295), (71, 216, 216), (71, 217, 217), (71, 218, 218), (71, 219, 219), (71, 220, 220), (71, 221, 221), (71, 222, 222), (71, 223, 223), (71, 224, 224), (72, 0, 12), (73, 0, 10), (74, 0, 296)] w0 w83 → RW w83 → gi w83 12 0 = f88_12_0 → gi w83 12 4 = f88_12_4 → gi w83 12 9 = f0_ → gi w83 15 0 = f88_15_0 → gi w83 15 4 = f88_15_4 → gi w83 15 9 = f0_ → lv_has ls 12 [(0, .ref (ad 0)), (1, .int a1), (2, .int a2), (3, .int a3), (4, .int a4), (5, .int v88_5), (6, .int v88_6), (7, .int v182_7), (8, .int v182_8), (9, .int v182_9), (10, .int v182_10), (11, .int v182_11)] → W p l e ({ frames := 9, cells := 0, slots := 0, locals := 194 }) s m (List.toArray [.ref (ad 0), .int a1, .int a2, .int a3, .int a4]) below meth c H locs 0 0 (MQ below (va_Qi (P_X12_strangers_2 ad cy B qr s1 a1 a2 a3 a4 w0) (fun u : va_W => wpost dC dI cy A u) A) (List.toArray [.ref (ad 0), .int a1, .int a2, .int a3, .int a4]) s 0 0 A) (F0 m 182 ls []) := by
        intro v182_7 v182_8 v182_9 v182_10 v182_11 H locs ls w83 r84 t85 r86 t87 r88 t89 r90 t91 r92 t93 r94 t95 r96 t97 r98 t99 r100 t101 r102 t103 r104 t105 r107 t108 r110 r112 t113 r115 t116 r118 hw hT hF hRW c106 c109 c111 c114 c117 c119 hl
        refine lv_aload_n hx hb dX12_strangers_182 rfl (lv_at hl 0 rfl) ?_
        refine lv_iconst (v := 0) hx hb dX12_strangers_183 (by decide) ?_
        refine tk_Vi hC hK hw hT hA hE hSR kM_at0 (by decide) rfl (k_X12_isThere_2 l adK adV dC dI cy ad (B + 1800 + 1800 * v88_6.toInt) (by omega) (by omega) qr s1    w83 H.size hT ) (cwV 1 hC.2.2.2.2 gX12_strangers_X12_isThere rfl rfl rfl (by decide +kernel) ⟨Nat.le_of_ble_eq_true rfl, Nat.le_of_ble_eq_true rfl⟩) rfl hl.1 rfl (Nat.le_of_ble_eq_true rfl) dX12_strangers_184 (fun r120 w122 H locs hp121 hw => ?_)
        obtain ⟨rfl, hg124⟩ := hp121
        rcases hg124 with rfl | rfl
        · refine lv_if_eq (tgt := 213) hx hb dX12_strangers_187 (by decide) (fun _ => ?_) (fun c => absurd (by decide) c)
          exact J213 v88_5 v182_7 v182_8 v182_9 v182_10 v182_11 H locs ls w83 (show (-1) ≤ a1.toInt by omega) (show a1.toInt ≤ 5 by omega) (show 1 ≤ a2.toInt by omega) (show a2.toInt ≤ 30 by omega) (show 1 ≤ a3.toInt by omega) (show a3.toInt ≤ 200 by omega) (show 0 ≤ a4.toInt by omega) (show a4.toInt ≤ 1 by omega) (show 0 ≤ v88_6.toInt by omega) (show v88_6.toInt ≤ 29 by omega) (show 0 ≤ v182_7.toInt by omega) (show v182_7.toInt ≤ 9 by omega) (show 0 ≤ v182_8.toInt by omega) (show v182_8.toInt ≤ 9 by omega) (show 0 ≤ v182_9.toInt by omega) (show v182_9.toInt ≤ 3 by omega) (show 0 ≤ v182_10.toInt by omega) (show v182_10.toInt ≤ 167 by omega) (show 0 ≤ v182_11.toInt by omega) (show v182_11.toInt ≤ 200 by omega) (show 1 ≤ f88_12_0.toInt by omega) (show f88_12_0.toInt ≤ 10 by omega) (show 1 ≤ f88_12_4.toInt by omega) (show f88_12_4.toInt ≤ 4 by omega) (show 0 ≤ f0_.toInt by omega) (show 1 ≤ f88_15_0.toInt by omega) (show f88_15_0.toInt ≤ 10 by omega) (show 1 ≤ f88_15_4.toInt by omega) (show f88_15_4.toInt ≤ 4 by omega) (show 0 ≤ f0_.toInt by omega)  hw hT hF hRW c106 c109 c111 c114 c117 c119 (lv_sub hl [0, 1, 2, 3, 4, 5, 6, 7, 8, 9, 10, 11] rfl)
        · refine lv_if_eq (tgt := 213) hx hb dX12_strangers_187 (by decide) (fun c => absurd c (by decide)) (fun _ => ?_)
          refine lv_iload hx hb dX12_strangers_190 (lv_at hl 5 rfl) ?_
          refine lv_iload hx hb dX12_strangers_192 (lv_at hl 4 rfl) ?_
          refine lv_if_ne (tgt := 201) hx hb dX12_strangers_194 (by decide) (fun c125 => ?_) (fun c125 => ?_)
          · have c125 : ¬ a4.toInt = (0 : Int) := wk_eqF c125
            refine lv_aload_n hx hb dX12_strangers_201 rfl (lv_at hl 0 rfl) ?_
            refine lv_iconst (v := 0) hx hb dX12_strangers_202 (by decide) ?_
            refine lv_iconst (v := 4) hx hb dX12_strangers_203 (by decide) ?_
            refine tk_Vi hC hK hw hT hA hE hSR kM_at0 (by decide) rfl (k_X12_walkerOf_13 l adK adV dC dI cy ad (B + 1800 + 1800 * v88_6.toInt) (by omega) (by omega) qr s1    w83 H.size hT ) (cwV 2 hC.2.2.2.2 gX12_strangers_X12_walkerOf rfl rfl rfl (by decide +kernel) ⟨Nat.le_of_ble_eq_true rfl, Nat.le_of_ble_eq_true rfl⟩) rfl hl.1 rfl (Nat.le_of_ble_eq_true rfl) dX12_strangers_204 (fun r126 w128 H locs hp127 hw => ?_)
            obtain ⟨rfl, hg133⟩ := hp127
            obtain ⟨g130, g131, c132⟩ := hg133
            refine lv_iload hx hb dX12_strangers_207 (lv_at hl 10 rfl) ?_
            refine lv_isub hx hb dX12_strangers_209 ?_
            refine lv_topi (fun x134 ex134 => ?_)
            have ex134 : x134.toInt = r126.toInt - v182_10.toInt := by rw [ex134]; exact wk_sub (show (-2147483648) ≤ r126.toInt - v182_10.toInt by omega) (show r126.toInt - v182_10.toInt ≤ 2147483647 by omega)
            refine lv_iadd hx hb dX12_strangers_210 ?_
            have nx135 := wk_i32 v88_5
            refine lv_topi (fun x136 ex136 => ?_)
            refine lv_istore (lv' := [(5, .int x136), (0, .ref (ad 0)), (1, .int a1), (2, .int a2), (3, .int a3), (4, .int a4), (6, .int v88_6), (7, .int v182_7), (8, .int v182_8), (9, .int v182_9), (10, .int v182_10), (11, .int v182_11)]) hx hb dX12_strangers_211 hl (by decide) rfl (fun ls hl => ?_)
            exact J213 x136 v182_7 v182_8 v182_9 v182_10 v182_11 H locs ls w83 (show (-1) ≤ a1.toInt by omega) (show a1.toInt ≤ 5 by omega) (show 1 ≤ a2.toInt by omega) (show a2.toInt ≤ 30 by omega) (show 1 ≤ a3.toInt by omega) (show a3.toInt ≤ 200 by omega) (show 0 ≤ a4.toInt by omega) (show a4.toInt ≤ 1 by omega) (show 0 ≤ v88_6.toInt by omega) (show v88_6.toInt ≤ 29 by omega) (show 0 ≤ v182_7.toInt by omega) (show v182_7.toInt ≤ 9 by omega) (show 0 ≤ v182_8.toInt by omega) (show v182_8.toInt ≤ 9 by omega) (show 0 ≤ v182_9.toInt by omega) (show v182_9.toInt ≤ 3 by omega) (show 0 ≤ v182_10.toInt by omega) (show v182_10.toInt ≤ 167 by omega) (show 0 ≤ v182_11.toInt by omega) (show v182_11.toInt ≤ 200 by omega) (show 1 ≤ f88_12_0.toInt by omega) (show f88_12_0.toInt ≤ 10 by omega) (show 1 ≤ f88_12_4.toInt by omega) (show f88_12_4.toInt ≤ 4 by omega) (show 0 ≤ f0_.toInt by omega) (show 1 ≤ f88_15_0.toInt by omega) (show f88_15_0.toInt ≤ 10 by omega) (show 1 ≤ f88_15_4.toInt by omega) (show f88_15_4.toInt ≤ 4 by omega) (show 0 ≤ f0_.toInt by omega)  hw hT hF hRW c106 c109 c111 c114 c117 c119 (lv_sub hl [1, 2, 3, 4, 5, 0, 6, 7, 8, 9, 10, 11] rfl)
          · have c125 : a4.toInt = (0 : Int) := wk_eq.mp c125
            refine lv_iconst (v := 1) hx hb dX12_strangers_197 (by decide) ?_
            refine lv_goto (tgt := 210) hx hb dX12_strangers_198 (by decide) ?_
            refine lv_iadd hx hb dX12_strangers_210 ?_
            have nx137 := wk_i32 v88_5
            refine lv_topi (fun x138 ex138 => ?_)
            refine lv_istore (lv' := [(5, .int x138), (0, .ref (ad 0)), (1, .int a1), (2, .int a2), (3, .int a3), (4, .int a4), (6, .int v88_6), (7, .int v182_7), (8, .int v182_8), (9, .int v182_9), (10, .int v182_10), (11, .int v182_11)]) hx hb dX12_strangers_211 hl (by decide) rfl (fun ls hl => ?_)
            exact J213 x138 v182_7 v182_8 v182_9 v182_10 v182_11 H locs ls w83 (show (-1) ≤ a1.toInt by omega) (show a1.toInt ≤ 5 by omega) (show 1 ≤ a2.toInt by omega) (show a2.toInt ≤ 30 by omega) (show 1 ≤ a3.toInt by omega) (show a3.toInt ≤ 200 by omega) (show 0 ≤ a4.toInt by omega) (show a4.toInt ≤ 1 by omega) (show 0 ≤ v88_6.toInt by omega) (show v88_6.toInt ≤ 29 by omega) (show 0 ≤ v182_7.toInt by omega) (show v182_7.toInt ≤ 9 by omega) (show 0 ≤ v182_8.toInt by omega) (show v182_8.toInt ≤ 9 by omega) (show 0 ≤ v182_9.toInt by omega) (show v182_9.toInt ≤ 3 by omega) (show 0 ≤ v182_10.toInt by omega) (show v182_10.toInt ≤ 167 by omega) (show 0 ≤ v182_11.toInt by omega) (show v182_11.toInt ≤ 200 by omega) (show 1 ≤ f88_12_0.toInt by omega) (show f88_12_0.toInt ≤ 10 by omega) (show 1 ≤ f88_12_4.toInt by omega) (show f88_12_4.toInt ≤ 4 by omega) (show 0 ≤ f0_.toInt by omega) (show 1 ≤ f88_15_0.toInt by omega) (show f88_15_0.toInt ≤ 10 by omega) (show 1 ≤ f88_15_4.toInt by omega) (show f88_15_4.toInt ≤ 4 by omega) (show 0 ≤ f0_.toInt by omega)  hw hT hF hRW c106 c109 c111 c114 c117 c119 (lv_sub hl [1, 2, 3, 4, 5, 0, 6, 7, 8, 9, 10, 11] rfl)
      have L156 : ∀ (n156 : Nat) (v156_7 : Int32) (v156_8 : Int32) (v156_9 : Int32) (v156_10 : Int32) (v156_11 : Int32) (H : Heap) (locs : List Loc) (ls : Array Slot) (w139 : va_W), (-1) ≤ a1.toInt → a1.toInt ≤ 5 → 1 ≤ a2.toInt → a2.toInt ≤ 30 → 1 ≤ a3.toInt → a3.toInt ≤ 200 → 0 ≤ a4.toInt → a4.toInt ≤ 1 → 0 ≤ v88_6.toInt → v88_6.toInt ≤ 29 → 0 ≤ v156_7.toInt → v156_7.toInt ≤ 9 → 0 ≤ v156_8.toInt → v156_8.toInt ≤ 9 → 0 ≤ v156_9.toInt → v156_9.toInt ≤ 3 → 0 ≤ v156_10.toInt → v156_10.toInt ≤ 167 → 0 ≤ v156_11.toInt → v156_11.toInt ≤ 200 → 1 ≤ f88_12_0.toInt → f88_12_0.toInt ≤ 10 → 1 ≤ f88_12_4.toInt → f88_12_4.toInt ≤ 4 → 0 ≤ f0_.toInt → 1 ≤ f88_15_0.toInt → f88_15_0.toInt ≤ 10 → 1 ≤ f88_15_4.toInt → f88_15_4.toInt ≤ 4 → 0 ≤ f0_.toInt → (200 - v156_11.toInt).toNat < n156 → Wd dC dI A s.heap H locs w139 → TW ksM ad cy (B + 0 + 1800 * v88_6.toInt + 9 * v156_11.toInt) qr 12 w139 → FE ksM [(12, 24, 24), (12, 31, 31), (12, 39, 39), (69, 0, 64), (70, 0, 10), (71, 0, 295), (71, 216, 216), (71, 217, 217), (71, 218, 218), (71, 219, 219), (71, 220, 220), (71, 221, 221), (71, 222, 222), (71, 223, 223), (71, 224, 224), (72, 0, 12), (73, 0, 10), (74, 0, 296)] w0 w139 → RW w139 → gi w139 12 0 = f88_12_0 → gi w139 12 4 = f88_12_4 → gi w139 12 9 = f0_ → gi w139 15 0 = f88_15_0 → gi w139 15 4 = f88_15_4 → gi w139 15 9 = f0_ → lv_has ls 12 [(0, .ref (ad 0)), (1, .int a1), (2, .int a2), (3, .int a3), (4, .int a4), (5, .int v88_5), (6, .int v88_6), (7, .int v156_7), (8, .int v156_8), (9, .int v156_9), (10, .int v156_10), (11, .int v156_11)] → W p l e ({ frames := 9, cells := 0, slots := 0, locals := 194 }) s m (List.toArray [.ref (ad 0), .int a1, .int a2, .int a3, .int a4]) below meth c H locs 0 0 (MQ below (va_Qi (P_X12_strangers_2 ad cy B qr s1 a1 a2 a3 a4 w0) (fun u : va_W => wpost dC dI cy A u) A) (List.toArray [.ref (ad 0), .int a1, .int a2, .int a3, .int a4]) s 0 0 A) (F0 m 156 ls []) := by
        intro n156
        induction n156 with
        | zero => intro v156_7 v156_8 v156_9 v156_10 v156_11 H locs ls w139 r140 t141 r142 t143 r144 t145 r146 t147 r148 t149 r150 t151 r152 t153 r154 t155 r156 t157 r158 t159 r160 t161 r163 t164 r166 r168 t169 r171 t172 r174 hm156 hw hT hF hRW c162 c165 c167 c170 c173 c175 hl; omega
        | succ n156 ih156 =>
          intro v156_7 v156_8 v156_9 v156_10 v156_11 H locs ls w139 r140 t141 r142 t143 r144 t145 r146 t147 r148 t149 r150 t151 r152 t153 r154 t155 r156 t157 r158 t159 r160 t161 r163 t164 r166 r168 t169 r171 t172 r174 hm156 hw hT hF hRW c162 c165 c167 c170 c173 c175 hl
          refine lv_iload hx hb dX12_strangers_156 (lv_at hl 11 rfl) ?_
          refine lv_iload_n hx hb dX12_strangers_158 rfl (lv_at hl 3 rfl) ?_
          refine lv_icmp_ge (tgt := 182) hx hb dX12_strangers_159 (by decide) (fun c176 => ?_) (fun c176 => ?_)
          · have c176 : a3.toInt ≤ v156_11.toInt := wk_le.mp c176
            exact J182 v156_7 v156_8 v156_9 v156_10 v156_11 H locs ls w139 (show (-1) ≤ a1.toInt by omega) (show a1.toInt ≤ 5 by omega) (show 1 ≤ a2.toInt by omega) (show a2.toInt ≤ 30 by omega) (show 1 ≤ a3.toInt by omega) (show a3.toInt ≤ 200 by omega) (show 0 ≤ a4.toInt by omega) (show a4.toInt ≤ 1 by omega) (show 0 ≤ v88_6.toInt by omega) (show v88_6.toInt ≤ 29 by omega) (show 0 ≤ v156_7.toInt by omega) (show v156_7.toInt ≤ 9 by omega) (show 0 ≤ v156_8.toInt by omega) (show v156_8.toInt ≤ 9 by omega) (show 0 ≤ v156_9.toInt by omega) (show v156_9.toInt ≤ 3 by omega) (show 0 ≤ v156_10.toInt by omega) (show v156_10.toInt ≤ 167 by omega) (show 0 ≤ v156_11.toInt by omega) (show v156_11.toInt ≤ 200 by omega) (show 1 ≤ f88_12_0.toInt by omega) (show f88_12_0.toInt ≤ 10 by omega) (show 1 ≤ f88_12_4.toInt by omega) (show f88_12_4.toInt ≤ 4 by omega) (show 0 ≤ f0_.toInt by omega) (show 1 ≤ f88_15_0.toInt by omega) (show f88_15_0.toInt ≤ 10 by omega) (show 1 ≤ f88_15_4.toInt by omega) (show f88_15_4.toInt ≤ 4 by omega) (show 0 ≤ f0_.toInt by omega)  hw (hT.up (show (B + 0 + 1800 * v88_6.toInt + 9 * v156_11.toInt) ≤ (B + 1800 + 1800 * v88_6.toInt) by omega)) hF hRW c162 c165 c167 c170 c173 c175 (lv_sub hl [0, 1, 2, 3, 4, 5, 6, 7, 8, 9, 10, 11] rfl)
          · have c176 : v156_11.toInt < a3.toInt := wk_leF c176
            refine lv_aload_n hx hb dX12_strangers_162 rfl (lv_at hl 0 rfl) ?_
            refine lv_iconst (v := 0) hx hb dX12_strangers_163 (by decide) ?_
            refine tk_Vi hC hK hw hT hA hE hSR kM_at0 (by decide) rfl (k_X12_isThere_2 l adK adV dC dI cy ad (B + 0 + 1800 * v88_6.toInt + 9 * v156_11.toInt) (by omega) (by omega) qr s1    w139 H.size hT ) (cwV 1 hC.2.2.2.2 gX12_strangers_X12_isThere rfl rfl rfl (by decide +kernel) ⟨Nat.le_of_ble_eq_true rfl, Nat.le_of_ble_eq_true rfl⟩) rfl hl.1 rfl (Nat.le_of_ble_eq_true rfl) dX12_strangers_164 (fun r177 w179 H locs hp178 hw => ?_)
            obtain ⟨rfl, hg181⟩ := hp178
            rcases hg181 with rfl | rfl
            · refine lv_if_ne (tgt := 182) hx hb dX12_strangers_167 (by decide) (fun c => absurd (by decide) c) (fun _ => ?_)
              refine lv_aload_n hx hb dX12_strangers_170 rfl (lv_at hl 0 rfl) ?_
              refine lv_iconst (v := 0) hx hb dX12_strangers_171 (by decide) ?_
              refine tk_Vi hC hK hw hT hA hE hSR kM_at0 (by decide) rfl (k_X12_steps_2 l adK adV dC dI cy ad (B + 0 + 1800 * v88_6.toInt + 9 * v156_11.toInt) (by omega) (by omega) qr s1    w139 H.size hT hRW) (cwV 1 hC.2.2.2.2 gX12_strangers_X12_steps rfl rfl rfl (by decide +kernel) ⟨Nat.le_of_ble_eq_true rfl, Nat.le_of_ble_eq_true rfl⟩) rfl hl.1 rfl (Nat.le_of_ble_eq_true rfl) dX12_strangers_172 (fun r182 w184 H locs hp183 hw => ?_)
              obtain ⟨hT, k185, hg186⟩ := hp183
              have hT := hT.up (B' := (B + 9 + 1800 * v88_6.toInt + 9 * v156_11.toInt)) (by omega)
              have hRW := RW_FE k185 (fun _ => rfl) (fun _ => rfl) (fun _ => rfl) hRW
              have hF := hF.tr k185 (by decide)
              have c187 := k185.gi kM_at12 (by decide) c162
              have c188 := k185.gi kM_at12 (by decide) c165
              have c189 := k185.gi kM_at12 (by decide) c167
              have c190 := k185.gi kM_at15 (by decide) c170
              have c191 := k185.gi kM_at15 (by decide) c173
              have c192 := k185.gi kM_at15 (by decide) c175
              rcases hg186 with rfl | rfl
              · refine lv_pop hx hb dX12_strangers_175 rfl ?_
                obtain ⟨x193, ex193⟩ : ∃ y : Int32, y = v156_11 + Int32.ofInt 1 := ⟨_, rfl⟩
                refine lv_iinc (v := x193) (lv' := [(11, .int x193), (0, .ref (ad 0)), (1, .int a1), (2, .int a2), (3, .int a3), (4, .int a4), (5, .int v88_5), (6, .int v88_6), (7, .int v156_7), (8, .int v156_8), (9, .int v156_9), (10, .int v156_10)]) hx hb dX12_strangers_176 hl (k := 11) rfl ex193.symm (by decide) rfl (fun ls hl => ?_)
                have ex193 : x193.toInt = v156_11.toInt + 1 := by rw [ex193]; exact wk_add (y := 1) (show -2147483648 ≤ v156_11.toInt + 1 by omega) (show v156_11.toInt + 1 ≤ 2147483647 by omega)
                refine lv_goto (tgt := 156) hx hb dX12_strangers_179 (by decide) ?_
                exact ih156 v156_7 v156_8 v156_9 v156_10 x193 H locs ls w184 (show (-1) ≤ a1.toInt by omega) (show a1.toInt ≤ 5 by omega) (show 1 ≤ a2.toInt by omega) (show a2.toInt ≤ 30 by omega) (show 1 ≤ a3.toInt by omega) (show a3.toInt ≤ 200 by omega) (show 0 ≤ a4.toInt by omega) (show a4.toInt ≤ 1 by omega) (show 0 ≤ v88_6.toInt by omega) (show v88_6.toInt ≤ 29 by omega) (show 0 ≤ v156_7.toInt by omega) (show v156_7.toInt ≤ 9 by omega) (show 0 ≤ v156_8.toInt by omega) (show v156_8.toInt ≤ 9 by omega) (show 0 ≤ v156_9.toInt by omega) (show v156_9.toInt ≤ 3 by omega) (show 0 ≤ v156_10.toInt by omega) (show v156_10.toInt ≤ 167 by omega) (show 0 ≤ x193.toInt by omega) (show x193.toInt ≤ 200 by omega) (show 1 ≤ f88_12_0.toInt by omega) (show f88_12_0.toInt ≤ 10 by omega) (show 1 ≤ f88_12_4.toInt by omega) (show f88_12_4.toInt ≤ 4 by omega) (show 0 ≤ f0_.toInt by omega) (show 1 ≤ f88_15_0.toInt by omega) (show f88_15_0.toInt ≤ 10 by omega) (show 1 ≤ f88_15_4.toInt by omega) (show f88_15_4.toInt ≤ 4 by omega) (show 0 ≤ f0_.toInt by omega) (show (200 - x193.toInt).toNat < n156 by omega) hw (hT.up (show (B + 9 + 1800 * v88_6.toInt + 9 * v156_11.toInt) ≤ (B + 0 + 1800 * v88_6.toInt + 9 * x193.toInt) by omega)) hF hRW c187 c188 c189 c190 c191 c192 (lv_sub hl [1, 2, 3, 4, 5, 6, 7, 8, 9, 10, 11, 0] rfl)
              · refine lv_pop hx hb dX12_strangers_175 rfl ?_
                obtain ⟨x194, ex194⟩ : ∃ y : Int32, y = v156_11 + Int32.ofInt 1 := ⟨_, rfl⟩
                refine lv_iinc (v := x194) (lv' := [(11, .int x194), (0, .ref (ad 0)), (1, .int a1), (2, .int a2), (3, .int a3), (4, .int a4), (5, .int v88_5), (6, .int v88_6), (7, .int v156_7), (8, .int v156_8), (9, .int v156_9), (10, .int v156_10)]) hx hb dX12_strangers_176 hl (k := 11) rfl ex194.symm (by decide) rfl (fun ls hl => ?_)
                have ex194 : x194.toInt = v156_11.toInt + 1 := by rw [ex194]; exact wk_add (y := 1) (show -2147483648 ≤ v156_11.toInt + 1 by omega) (show v156_11.toInt + 1 ≤ 2147483647 by omega)
                refine lv_goto (tgt := 156) hx hb dX12_strangers_179 (by decide) ?_
                exact ih156 v156_7 v156_8 v156_9 v156_10 x194 H locs ls w184 (show (-1) ≤ a1.toInt by omega) (show a1.toInt ≤ 5 by omega) (show 1 ≤ a2.toInt by omega) (show a2.toInt ≤ 30 by omega) (show 1 ≤ a3.toInt by omega) (show a3.toInt ≤ 200 by omega) (show 0 ≤ a4.toInt by omega) (show a4.toInt ≤ 1 by omega) (show 0 ≤ v88_6.toInt by omega) (show v88_6.toInt ≤ 29 by omega) (show 0 ≤ v156_7.toInt by omega) (show v156_7.toInt ≤ 9 by omega) (show 0 ≤ v156_8.toInt by omega) (show v156_8.toInt ≤ 9 by omega) (show 0 ≤ v156_9.toInt by omega) (show v156_9.toInt ≤ 3 by omega) (show 0 ≤ v156_10.toInt by omega) (show v156_10.toInt ≤ 167 by omega) (show 0 ≤ x194.toInt by omega) (show x194.toInt ≤ 200 by omega) (show 1 ≤ f88_12_0.toInt by omega) (show f88_12_0.toInt ≤ 10 by omega) (show 1 ≤ f88_12_4.toInt by omega) (show f88_12_4.toInt ≤ 4 by omega) (show 0 ≤ f0_.toInt by omega) (show 1 ≤ f88_15_0.toInt by omega) (show f88_15_0.toInt ≤ 10 by omega) (show 1 ≤ f88_15_4.toInt by omega) (show f88_15_4.toInt ≤ 4 by omega) (show 0 ≤ f0_.toInt by omega) (show (200 - x194.toInt).toNat < n156 by omega) hw (hT.up (show (B + 9 + 1800 * v88_6.toInt + 9 * v156_11.toInt) ≤ (B + 0 + 1800 * v88_6.toInt + 9 * x194.toInt) by omega)) hF hRW c187 c188 c189 c190 c191 c192 (lv_sub hl [1, 2, 3, 4, 5, 6, 7, 8, 9, 10, 11, 0] rfl)
            · refine lv_if_ne (tgt := 182) hx hb dX12_strangers_167 (by decide) (fun _ => ?_) (fun c => absurd c (by decide))
              exact J182 v156_7 v156_8 v156_9 v156_10 v156_11 H locs ls w139 (show (-1) ≤ a1.toInt by omega) (show a1.toInt ≤ 5 by omega) (show 1 ≤ a2.toInt by omega) (show a2.toInt ≤ 30 by omega) (show 1 ≤ a3.toInt by omega) (show a3.toInt ≤ 200 by omega) (show 0 ≤ a4.toInt by omega) (show a4.toInt ≤ 1 by omega) (show 0 ≤ v88_6.toInt by omega) (show v88_6.toInt ≤ 29 by omega) (show 0 ≤ v156_7.toInt by omega) (show v156_7.toInt ≤ 9 by omega) (show 0 ≤ v156_8.toInt by omega) (show v156_8.toInt ≤ 9 by omega) (show 0 ≤ v156_9.toInt by omega) (show v156_9.toInt ≤ 3 by omega) (show 0 ≤ v156_10.toInt by omega) (show v156_10.toInt ≤ 167 by omega) (show 0 ≤ v156_11.toInt by omega) (show v156_11.toInt ≤ 200 by omega) (show 1 ≤ f88_12_0.toInt by omega) (show f88_12_0.toInt ≤ 10 by omega) (show 1 ≤ f88_12_4.toInt by omega) (show f88_12_4.toInt ≤ 4 by omega) (show 0 ≤ f0_.toInt by omega) (show 1 ≤ f88_15_0.toInt by omega) (show f88_15_0.toInt ≤ 10 by omega) (show 1 ≤ f88_15_4.toInt by omega) (show f88_15_4.toInt ≤ 4 by omega) (show 0 ≤ f0_.toInt by omega)  hw (hT.up (show (B + 0 + 1800 * v88_6.toInt + 9 * v156_11.toInt) ≤ (B + 1800 + 1800 * v88_6.toInt) by omega)) hF hRW c162 c165 c167 c170 c173 c175 (lv_sub hl [0, 1, 2, 3, 4, 5, 6, 7, 8, 9, 10, 11] rfl)
      refine lv_iload hx hb dX12_strangers_88 (lv_at hl 6 rfl) ?_
      refine lv_iload_n hx hb dX12_strangers_90 rfl (lv_at hl 2 rfl) ?_
      refine lv_icmp_ge (tgt := 223) hx hb dX12_strangers_91 (by decide) (fun c195 => ?_) (fun c195 => ?_)
      · have c195 : a2.toInt ≤ v88_6.toInt := wk_le.mp c195
        refine lv_iload hx hb dX12_strangers_223 (lv_at hl 5 rfl) ?_
        exact tk_iret hC hr hlocks hK ⟨(hT.up (show (B + 0 + 1800 * v88_6.toInt) ≤ (B + 54000) by omega)), hF, (Or.inl ⟨(show (-1) ≤ a1.toInt by omega), (show a1.toInt ≤ 5 by omega), (show 1 ≤ a2.toInt by omega), (show a2.toInt ≤ 30 by omega), (show 1 ≤ a3.toInt by omega), (show a3.toInt ≤ 200 by omega), (show 0 ≤ a4.toInt by omega), (show a4.toInt ≤ 1 by omega), ⟨f88_12_0, c20, (show 1 ≤ f88_12_0.toInt by omega), (show f88_12_0.toInt ≤ 10 by omega)⟩, ⟨f88_12_4, c23, (show 1 ≤ f88_12_4.toInt by omega), (show f88_12_4.toInt ≤ 4 by omega)⟩, (by simp only [cf0_, c25] <;> omega)⟩)⟩ hw dX12_strangers_225
      · have c195 : v88_6.toInt < a2.toInt := wk_leF c195
        refine lv_aload_n hx hb dX12_strangers_94 rfl (lv_at hl 0 rfl) ?_
        refine lv_aload_n hx hb dX12_strangers_95 rfl (lv_at hl 0 rfl) ?_
        refine tk_getA hC hK hw hT hinX12 kM_at0 (by decide) rfl 26 (by decide) (List.mem_of_getElem? (i := 1) rfl) rfl rfl dX12_strangers_96 ?_
        refine lv_iconst (v := 0) hx hb dX12_strangers_99 (by decide) ?_
        refine tk_ialdR hC hK hw hT kM_at12 rfl (by decide) (by decide) dX12_strangers_100 (fun x196 c197 Ex196 => ?_)
        refine wk_top f88_12_0 (c197.symm.trans c20) ?_
        refine tk_Vi hC hK hw hT hA hE hSR kM_at0 (by decide) rfl (k_X12_draw_1 l adK adV dC dI cy ad (B + 0 + 1800 * v88_6.toInt) (by omega) (by omega) qr s1   f88_12_0 (show 1 ≤ f88_12_0.toInt by omega) (show f88_12_0.toInt ≤ 10 by omega) w7 H.size hT ) (cwV 1 hC.2.2.2.2 gX12_strangers_X12_draw rfl rfl rfl (by decide +kernel) ⟨Nat.le_of_ble_eq_true rfl, Nat.le_of_ble_eq_true rfl⟩) rfl hl.1 rfl (Nat.le_of_ble_eq_true rfl) dX12_strangers_101 (fun r198 w200 H locs hp199 hw => ?_)
        obtain ⟨hT, k201, hg204⟩ := hp199
        have hRW := RW_FE k201 (fun _ => rfl) (fun _ => rfl) (fun _ => rfl) hRW
        have hF := hF.tr k201 (by decide)
        have c205 := k201.gi kM_at12 (by decide) c20
        have c206 := k201.gi kM_at12 (by decide) c23
        have c207 := k201.gi kM_at12 (by decide) c25
        have c208 := k201.gi kM_at15 (by decide) c28
        have c209 := k201.gi kM_at15 (by decide) c31
        have c210 := k201.gi kM_at15 (by decide) c33
        obtain ⟨g202, g203⟩ := hg204
        refine lv_istore (lv' := [(7, .int r198), (0, .ref (ad 0)), (1, .int a1), (2, .int a2), (3, .int a3), (4, .int a4), (5, .int v88_5), (6, .int v88_6)]) hx hb dX12_strangers_104 hl (by decide) rfl (fun ls hl => ?_)
        refine lv_aload_n hx hb dX12_strangers_106 rfl (lv_at hl 1 rfl) ?_
        refine lv_aload_n hx hb dX12_strangers_107 rfl (lv_at hl 1 rfl) ?_
        refine tk_getA hC hK hw hT hinX12 kM_at0 (by decide) rfl 26 (by decide) (List.mem_of_getElem? (i := 1) rfl) rfl rfl dX12_strangers_108 ?_
        refine lv_iconst (v := 0) hx hb dX12_strangers_111 (by decide) ?_
        refine tk_ialdR hC hK hw hT kM_at12 rfl (by decide) (by decide) dX12_strangers_112 (fun x211 c212 Ex211 => ?_)
        refine wk_top f88_12_0 (c212.symm.trans c205) ?_
        refine tk_Vi hC hK hw hT hA hE hSR kM_at0 (by decide) rfl (k_X12_draw_1 l adK adV dC dI cy ad (B + 0 + 1800 * v88_6.toInt) (by omega) (by omega) qr s1   f88_12_0 (show 1 ≤ f88_12_0.toInt by omega) (show f88_12_0.toInt ≤ 10 by omega) w200 H.size hT ) (cwV 1 hC.2.2.2.2 gX12_strangers_X12_draw rfl rfl rfl (by decide +kernel) ⟨Nat.le_of_ble_eq_true rfl, Nat.le_of_ble_eq_true rfl⟩) rfl hl.1 rfl (Nat.le_of_ble_eq_true rfl) dX12_strangers_113 (fun r213 w215 H locs hp214 hw => ?_)
        obtain ⟨hT, k216, hg219⟩ := hp214
        have hRW := RW_FE k216 (fun _ => rfl) (fun _ => rfl) (fun _ => rfl) hRW
        have hF := hF.tr k216 (by decide)
        have c220 := k216.gi kM_at12 (by decide) c205
        have c221 := k216.gi kM_at12 (by decide) c206
        have c222 := k216.gi kM_at12 (by decide) c207
        have c223 := k216.gi kM_at15 (by decide) c208
        have c224 := k216.gi kM_at15 (by decide) c209
        have c225 := k216.gi kM_at15 (by decide) c210
        obtain ⟨g217, g218⟩ := hg219
        refine lv_istore (lv' := [(8, .int r213), (7, .int r198), (0, .ref (ad 0)), (1, .int a1), (2, .int a2), (3, .int a3), (4, .int a4), (5, .int v88_5), (6, .int v88_6)]) hx hb dX12_strangers_116 hl (by decide) rfl (fun ls hl => ?_)
        refine lv_aload_n hx hb dX12_strangers_118 rfl (lv_at hl 2 rfl) ?_
        refine lv_aload_n hx hb dX12_strangers_119 rfl (lv_at hl 2 rfl) ?_
        refine tk_getA hC hK hw hT hinX12 kM_at0 (by decide) rfl 26 (by decide) (List.mem_of_getElem? (i := 1) rfl) rfl rfl dX12_strangers_120 ?_
        refine lv_iconst (v := 4) hx hb dX12_strangers_123 (by decide) ?_
        refine tk_ialdR hC hK hw hT kM_at12 rfl (by decide) (by decide) dX12_strangers_124 (fun x226 c227 Ex226 => ?_)
        refine wk_top f88_12_4 (c227.symm.trans c221) ?_
        refine tk_Vi hC hK hw hT hA hE hSR kM_at0 (by decide) rfl (k_X12_draw_2 l adK adV dC dI cy ad (B + 0 + 1800 * v88_6.toInt) (by omega) (by omega) qr s1   f88_12_4 (show 1 ≤ f88_12_4.toInt by omega) (show f88_12_4.toInt ≤ 4 by omega) w215 H.size hT ) (cwV 1 hC.2.2.2.2 gX12_strangers_X12_draw rfl rfl rfl (by decide +kernel) ⟨Nat.le_of_ble_eq_true rfl, Nat.le_of_ble_eq_true rfl⟩) rfl hl.1 rfl (Nat.le_of_ble_eq_true rfl) dX12_strangers_125 (fun r228 w230 H locs hp229 hw => ?_)
        obtain ⟨hT, k231, hg234⟩ := hp229
        have hRW := RW_FE k231 (fun _ => rfl) (fun _ => rfl) (fun _ => rfl) hRW
        have hF := hF.tr k231 (by decide)
        have c235 := k231.gi kM_at12 (by decide) c220
        have c236 := k231.gi kM_at12 (by decide) c221
        have c237 := k231.gi kM_at12 (by decide) c222
        have c238 := k231.gi kM_at15 (by decide) c223
        have c239 := k231.gi kM_at15 (by decide) c224
        have c240 := k231.gi kM_at15 (by decide) c225
        obtain ⟨g232, g233⟩ := hg234
        refine lv_istore (lv' := [(9, .int r228), (8, .int r213), (7, .int r198), (0, .ref (ad 0)), (1, .int a1), (2, .int a2), (3, .int a3), (4, .int a4), (5, .int v88_5), (6, .int v88_6)]) hx hb dX12_strangers_128 hl (by decide) rfl (fun ls hl => ?_)
        refine lv_aload_n hx hb dX12_strangers_130 rfl (lv_at hl 3 rfl) ?_
        refine lv_sipush (v := 168) hx hb dX12_strangers_131 (by decide) ?_
        refine tk_Vi hC hK hw hT hA hE hSR kM_at0 (by decide) rfl (k_X12_draw_3 l adK adV dC dI cy ad (B + 0 + 1800 * v88_6.toInt) (by omega) (by omega) qr s1    w230 H.size hT ) (cwV 1 hC.2.2.2.2 gX12_strangers_X12_draw rfl rfl rfl (by decide +kernel) ⟨Nat.le_of_ble_eq_true rfl, Nat.le_of_ble_eq_true rfl⟩) rfl hl.1 rfl (Nat.le_of_ble_eq_true rfl) dX12_strangers_134 (fun r241 w243 H locs hp242 hw => ?_)
        obtain ⟨hT, k244, hg247⟩ := hp242
        have hRW := RW_FE k244 (fun _ => rfl) (fun _ => rfl) (fun _ => rfl) hRW
        have hF := hF.tr k244 (by decide)
        have c248 := k244.gi kM_at12 (by decide) c235
        have c249 := k244.gi kM_at12 (by decide) c236
        have c250 := k244.gi kM_at12 (by decide) c237
        have c251 := k244.gi kM_at15 (by decide) c238
        have c252 := k244.gi kM_at15 (by decide) c239
        have c253 := k244.gi kM_at15 (by decide) c240
        obtain ⟨g245, g246⟩ := hg247
        refine lv_istore (lv' := [(10, .int r241), (9, .int r228), (8, .int r213), (7, .int r198), (0, .ref (ad 0)), (1, .int a1), (2, .int a2), (3, .int a3), (4, .int a4), (5, .int v88_5), (6, .int v88_6)]) hx hb dX12_strangers_137 hl (by decide) rfl (fun ls hl => ?_)
        refine lv_aload_n hx hb dX12_strangers_139 rfl (lv_at hl 4 rfl) ?_
        refine lv_iconst (v := 0) hx hb dX12_strangers_140 (by decide) ?_
        refine lv_iload hx hb dX12_strangers_141 (lv_at hl 3 rfl) ?_
        refine lv_iload hx hb dX12_strangers_143 (lv_at hl 2 rfl) ?_
        refine lv_iload hx hb dX12_strangers_145 (lv_at hl 1 rfl) ?_
        refine lv_iload_n hx hb dX12_strangers_147 rfl (lv_at hl 5 rfl) ?_
        refine lv_iload hx hb dX12_strangers_148 (lv_at hl 0 rfl) ?_
        refine tk_Vv hC hK hw hT hA hE hSR kM_at0 (by decide) rfl (k_X12_setsOut_2 l adK adV dC dI cy ad (B + 0 + 1800 * v88_6.toInt) (by omega) (by omega) qr s1   r198 (show 0 ≤ r198.toInt by omega) (show r198.toInt ≤ 9 by omega) r213 (show 0 ≤ r213.toInt by omega) (show r213.toInt ≤ 9 by omega) r228 (show 0 ≤ r228.toInt by omega) (show r228.toInt ≤ 3 by omega) a1 (show (-1) ≤ a1.toInt by omega) (show a1.toInt ≤ 5 by omega) r241 (show 0 ≤ r241.toInt by omega) (show r241.toInt ≤ 167 by omega) w243 H.size hT ) (cwV 6 hC.2.2.2.2 gX12_strangers_X12_setsOut rfl rfl rfl (by decide +kernel) ⟨Nat.le_of_ble_eq_true rfl, Nat.le_of_ble_eq_true rfl⟩) rfl hl.1 rfl (Nat.le_of_ble_eq_true rfl) dX12_strangers_150 (fun w256 H locs hp255 hw => ?_)
        obtain ⟨hT, k257, hg268⟩ := hp255
        have hRW := RW_FE k257 (fun _ => rfl) (fun _ => rfl) (fun _ => rfl) hRW
        have hF := hF.tr k257 (by decide)
        have c269 := k257.gi kM_at12 (by decide) c248
        have c270 := k257.gi kM_at12 (by decide) c249
        have c271 := k257.gi kM_at12 (by decide) c250
        have c272 := k257.gi kM_at15 (by decide) c251
        have c273 := k257.gi kM_at15 (by decide) c252
        have c274 := k257.gi kM_at15 (by decide) c253
        obtain ⟨⟨x258, c259, rx258, tx258⟩, ⟨x260, c261, rx260, tx260⟩, ⟨x262, c263, rx262, tx262⟩, ⟨x264, c265, rx264, tx264⟩, ⟨x266, c267, rx266, tx266⟩⟩ := hg268
        refine lv_iconst (v := 0) hx hb dX12_strangers_153 (by decide) ?_
        refine lv_istore (lv' := [(11, .int 0), (10, .int r241), (9, .int r228), (8, .int r213), (7, .int r198), (0, .ref (ad 0)), (1, .int a1), (2, .int a2), (3, .int a3), (4, .int a4), (5, .int v88_5), (6, .int v88_6)]) hx hb dX12_strangers_154 hl (by decide) rfl (fun ls hl => ?_)
        exact L156 ((200 - (0 : Int)).toNat + 1) r198 r213 r228 r241 0 H locs ls w256 (show (-1) ≤ a1.toInt by omega) (show a1.toInt ≤ 5 by omega) (show 1 ≤ a2.toInt by omega) (show a2.toInt ≤ 30 by omega) (show 1 ≤ a3.toInt by omega) (show a3.toInt ≤ 200 by omega) (show 0 ≤ a4.toInt by omega) (show a4.toInt ≤ 1 by omega) (show 0 ≤ v88_6.toInt by omega) (show v88_6.toInt ≤ 29 by omega) (show 0 ≤ r198.toInt by omega) (show r198.toInt ≤ 9 by omega) (show 0 ≤ r213.toInt by omega) (show r213.toInt ≤ 9 by omega) (show 0 ≤ r228.toInt by omega) (show r228.toInt ≤ 3 by omega) (show 0 ≤ r241.toInt by omega) (show r241.toInt ≤ 167 by omega) (by decide) (by decide) (show 1 ≤ f88_12_0.toInt by omega) (show f88_12_0.toInt ≤ 10 by omega) (show 1 ≤ f88_12_4.toInt by omega) (show f88_12_4.toInt ≤ 4 by omega) (show 0 ≤ f0_.toInt by omega) (show 1 ≤ f88_15_0.toInt by omega) (show f88_15_0.toInt ≤ 10 by omega) (show 1 ≤ f88_15_4.toInt by omega) (show f88_15_4.toInt ≤ 4 by omega) (show 0 ≤ f0_.toInt by omega) (Nat.lt_succ_self _) hw (hT.up (show (B + 0 + 1800 * v88_6.toInt) ≤ (B + 0 + 1800 * v88_6.toInt + 9 * (0 : Int32).toInt) by rw [show (0 : Int32).toInt = 0 by decide]; omega)) hF hRW c269 c270 c271 c272 c273 c274 (lv_sub hl [5, 6, 7, 8, 9, 10, 11, 4, 3, 2, 1, 0] rfl)
  have J29 : ∀ (f29_12_0 : Int32) (f29_12_4 : Int32) (H : Heap) (locs : List Loc) (ls : Array Slot) (w275 : va_W), (-1) ≤ a1.toInt → a1.toInt ≤ 5 → 1 ≤ f29_12_0.toInt → f29_12_0.toInt ≤ 10 → 1 ≤ f29_12_4.toInt → f29_12_4.toInt ≤ 4 → 0 ≤ f0_.toInt → Wd dC dI A s.heap H locs w275 → TW ksM ad cy B qr 12 w275 → FE ksM [(12, 24, 24), (12, 31, 31), (12, 39, 39), (69, 0, 64), (70, 0, 10), (71, 0, 295), (71, 216, 216), (71, 217, 217), (71, 218, 218), (71, 219, 219), (71, 220, 220), (71, 221, 221), (71, 222, 222), (71, 223, 223), (71, 224, 224), (72, 0, 12), (73, 0, 10), (74, 0, 296)] w0 w275 → RW w275 → gi w275 12 0 = f29_12_0 → gi w275 12 4 = f29_12_4 → gi w275 12 9 = f0_ → lv_has ls 12 [(0, .ref (ad 0)), (1, .int a1), (2, .int a2), (3, .int a3), (4, .int a4)] → W p l e ({ frames := 9, cells := 0, slots := 0, locals := 194 }) s m (List.toArray [.ref (ad 0), .int a1, .int a2, .int a3, .int a4]) below meth c H locs 0 0 (MQ below (va_Qi (P_X12_strangers_2 ad cy B qr s1 a1 a2 a3 a4 w0) (fun u : va_W => wpost dC dI cy A u) A) (List.toArray [.ref (ad 0), .int a1, .int a2, .int a3, .int a4]) s 0 0 A) (F0 m 29 ls []) := by
    intro f29_12_0 f29_12_4 H locs ls w275 r276 t277 r278 t279 r281 t282 r284 hw hT hF hRW c280 c283 c285 hl
    refine lv_iload_n hx hb dX12_strangers_29 rfl (lv_at hl 2 rfl) ?_
    refine lv_i2l hx hb dX12_strangers_30 rfl ?_
    refine lv_topl (fun x286 ex286 => ?_)
    have ex286 : x286.toInt = a2.toInt := by rw [ex286]; exact wk_i2l _
    have bx286 := wk_i32 a2
    refine lv_lconst (v := 1) hx hb dX12_strangers_31 (by decide) ?_
    refine lv_ldc2 (v := 30) hx hb hC.2.2.2.1 (hC.2.2.2.2 _ (List.mem_of_getElem? (i := 2) rfl)) dX12_strangers_32 ?_
    refine tk_Si hC hK hw hT hA hE hSR (k_X12_in_18 l adK adV dC dI cy ad B (by omega) (by omega) qr s1   x286 (show (-2147483648) ≤ x286.toInt by omega) (show x286.toInt ≤ 2147483647 by omega) w275 H.size hT ) (va_cwS 3 hC.2.2.2.2 gX12_strangers_X12_in rfl rfl rfl (by decide +kernel) ⟨Nat.le_of_ble_eq_true rfl, Nat.le_of_ble_eq_true rfl⟩) rfl hl.1 rfl (Nat.le_of_ble_eq_true rfl) dX12_strangers_35 (fun r287 w289 H locs hp288 hw => ?_)
    obtain ⟨rfl, hg293⟩ := hp288
    rcases hg293 with rfl | ⟨rfl, g291, g292⟩
    · refine lv_if_eq (tgt := 64) hx hb dX12_strangers_38 (by decide) (fun _ => ?_) (fun c => absurd (by decide) c)
      exact J64 f29_12_0 H locs ls w275 (show 0 ≤ f29_12_0.toInt by omega) (show f29_12_0.toInt ≤ 10 by omega) (show 0 ≤ f0_.toInt by omega)  hw hT hF hRW c280 c285 (lv_sub hl [0, 1, 2, 3, 4] rfl)
    · refine lv_if_eq (tgt := 64) hx hb dX12_strangers_38 (by decide) (fun c => absurd c (by decide)) (fun _ => ?_)
      refine lv_iload_n hx hb dX12_strangers_41 rfl (lv_at hl 3 rfl) ?_
      refine lv_i2l hx hb dX12_strangers_42 rfl ?_
      refine lv_topl (fun x294 ex294 => ?_)
      have ex294 : x294.toInt = a3.toInt := by rw [ex294]; exact wk_i2l _
      have bx294 := wk_i32 a3
      refine lv_lconst (v := 1) hx hb dX12_strangers_43 (by decide) ?_
      refine lv_ldc2 (v := 200) hx hb hC.2.2.2.1 (hC.2.2.2.2 _ (List.mem_of_getElem? (i := 3) rfl)) dX12_strangers_44 ?_
      refine tk_Si hC hK hw hT hA hE hSR (k_X12_in_14 l adK adV dC dI cy ad B (by omega) (by omega) qr s1   x294 (show (-2147483648) ≤ x294.toInt by omega) (show x294.toInt ≤ 2147483647 by omega) w275 H.size hT ) (va_cwS 3 hC.2.2.2.2 gX12_strangers_X12_in rfl rfl rfl (by decide +kernel) ⟨Nat.le_of_ble_eq_true rfl, Nat.le_of_ble_eq_true rfl⟩) rfl hl.1 rfl (Nat.le_of_ble_eq_true rfl) dX12_strangers_47 (fun r295 w297 H locs hp296 hw => ?_)
      obtain ⟨rfl, hg301⟩ := hp296
      rcases hg301 with rfl | ⟨rfl, g299, g300⟩
      · refine lv_if_eq (tgt := 64) hx hb dX12_strangers_50 (by decide) (fun _ => ?_) (fun c => absurd (by decide) c)
        exact J64 f29_12_0 H locs ls w275 (show 0 ≤ f29_12_0.toInt by omega) (show f29_12_0.toInt ≤ 10 by omega) (show 0 ≤ f0_.toInt by omega)  hw hT hF hRW c280 c285 (lv_sub hl [0, 1, 2, 3, 4] rfl)
      · refine lv_if_eq (tgt := 64) hx hb dX12_strangers_50 (by decide) (fun c => absurd c (by decide)) (fun _ => ?_)
        refine lv_iload hx hb dX12_strangers_53 (lv_at hl 4 rfl) ?_
        refine lv_i2l hx hb dX12_strangers_55 rfl ?_
        refine lv_topl (fun x302 ex302 => ?_)
        have ex302 : x302.toInt = a4.toInt := by rw [ex302]; exact wk_i2l _
        have bx302 := wk_i32 a4
        refine lv_lconst (v := 0) hx hb dX12_strangers_56 (by decide) ?_
        refine lv_lconst (v := 1) hx hb dX12_strangers_57 (by decide) ?_
        refine tk_Si hC hK hw hT hA hE hSR (k_X12_in_12 l adK adV dC dI cy ad B (by omega) (by omega) qr s1   x302 (show (-2147483648) ≤ x302.toInt by omega) (show x302.toInt ≤ 2147483647 by omega) w275 H.size hT ) (va_cwS 3 hC.2.2.2.2 gX12_strangers_X12_in rfl rfl rfl (by decide +kernel) ⟨Nat.le_of_ble_eq_true rfl, Nat.le_of_ble_eq_true rfl⟩) rfl hl.1 rfl (Nat.le_of_ble_eq_true rfl) dX12_strangers_58 (fun r303 w305 H locs hp304 hw => ?_)
        obtain ⟨rfl, hg309⟩ := hp304
        rcases hg309 with rfl | ⟨rfl, g307, g308⟩
        · refine lv_if_ne (tgt := 66) hx hb dX12_strangers_61 (by decide) (fun c => absurd (by decide) c) (fun _ => ?_)
          exact J64 f29_12_0 H locs ls w275 (show 0 ≤ f29_12_0.toInt by omega) (show f29_12_0.toInt ≤ 10 by omega) (show 0 ≤ f0_.toInt by omega)  hw hT hF hRW c280 c285 (lv_sub hl [0, 1, 2, 3, 4] rfl)
        · refine lv_if_ne (tgt := 66) hx hb dX12_strangers_61 (by decide) (fun _ => ?_) (fun c => absurd c (by decide))
          refine lv_aload_n hx hb dX12_strangers_66 rfl (lv_at hl 0 rfl) ?_
          refine lv_aload_n hx hb dX12_strangers_67 rfl (lv_at hl 0 rfl) ?_
          refine tk_getA hC hK hw hT hinX12 kM_at0 (by decide) rfl 26 (by decide) (List.mem_of_getElem? (i := 1) rfl) rfl rfl dX12_strangers_68 ?_
          refine lv_bipush (v := 9) hx hb dX12_strangers_71 (by decide) ?_
          refine tk_ialdR hC hK hw hT kM_at12 rfl (by decide) (by decide) dX12_strangers_73 (fun x310 c311 Ex310 => ?_)
          refine wk_top f0_ (c311.symm.trans c285) ?_
          refine lv_i2l hx hb dX12_strangers_74 rfl ?_
          refine lv_topl (fun x312 ex312 => ?_)
          have ex312 : x312.toInt = f0_.toInt := by rw [ex312]; exact wk_i2l _
          have bx312 := wk_i32 f0_
          refine tk_putl hC hK hw hT hinX12 tyX12_ok nmX12 kM_at0 (by decide) rfl rfl 39 (by decide) (List.mem_of_getElem? (i := 4) rfl) rfl rfl rfl rfl (show 0 ≤ x312.toInt by omega) (show x312.toInt ≤ 2147483648 by omega) dX12_strangers_75 (fun H locs w313 hw hT k315 c314 => ?_)
          have hRW := RW_F1 k315 (by decide) (by decide) (by decide) hRW
          have hF := hF.put kM_at0 (k := 39) (by decide) k315
          have c316 := k315.gi (Or.inr (by decide)) c280
          have c317 := k315.gi (Or.inr (by decide)) c283
          have c318 := k315.gi (Or.inr (by decide)) c285
          refine lv_iconst (v := 0) hx hb dX12_strangers_78 (by decide) ?_
          refine lv_istore (lv' := [(5, .int 0), (0, .ref (ad 0)), (1, .int a1), (2, .int a2), (3, .int a3), (4, .int a4)]) hx hb dX12_strangers_79 hl (by decide) rfl (fun ls hl => ?_)
          refine lv_aload_n hx hb dX12_strangers_81 rfl (lv_at hl 1 rfl) ?_
          refine tk_Vv hC hK hw hT hA hE hSR kM_at0 (by decide) rfl (k_X12_keeps_1 l adK adV dC dI cy ad B (by omega) (by omega) qr s1    w313 H.size hT ) (cwV 0 hC.2.2.2.2 gX12_strangers_X12_keeps rfl rfl rfl (by decide +kernel) ⟨Nat.le_of_ble_eq_true rfl, Nat.le_of_ble_eq_true rfl⟩) rfl hl.1 rfl (Nat.le_of_ble_eq_true rfl) dX12_strangers_82 (fun w321 H locs hp320 hw => ?_)
          obtain ⟨hT, k322, hg326⟩ := hp320
          have hRW := RW_FE k322 (fun _ => rfl) (fun _ => rfl) (fun _ => rfl) hRW
          have hF := hF.tr k322 (by decide)
          have c327 := k322.gi kM_at12 (by decide) c316
          have c328 := k322.gi kM_at12 (by decide) c317
          have c329 := k322.gi kM_at12 (by decide) c318
          have c330 := k322.gl kM_at0 (by decide) c314
          obtain ⟨c323, c324, c325⟩ := hg326
          refine lv_iconst (v := 0) hx hb dX12_strangers_85 (by decide) ?_
          refine lv_istore (lv' := [(6, .int 0), (5, .int 0), (0, .ref (ad 0)), (1, .int a1), (2, .int a2), (3, .int a3), (4, .int a4)]) hx hb dX12_strangers_86 hl (by decide) rfl (fun ls hl => ?_)
          exact L88 ((30 - (0 : Int)).toNat + 1) 0 0 f29_12_0 f29_12_4 f29_12_0 f29_12_4 H locs ls w321 (show (-1) ≤ a1.toInt by omega) (show a1.toInt ≤ 5 by omega) (show 1 ≤ a2.toInt by omega) (show a2.toInt ≤ 30 by omega) (show 1 ≤ a3.toInt by omega) (show a3.toInt ≤ 200 by omega) (show 0 ≤ a4.toInt by omega) (show a4.toInt ≤ 1 by omega) (by decide) (by decide) (show 1 ≤ f29_12_0.toInt by omega) (show f29_12_0.toInt ≤ 10 by omega) (show 1 ≤ f29_12_4.toInt by omega) (show f29_12_4.toInt ≤ 4 by omega) (show 0 ≤ f0_.toInt by omega) (show 1 ≤ f29_12_0.toInt by omega) (show f29_12_0.toInt ≤ 10 by omega) (show 1 ≤ f29_12_4.toInt by omega) (show f29_12_4.toInt ≤ 4 by omega) (show 0 ≤ f0_.toInt by omega) (Nat.lt_succ_self _) hw (hT.up (show B ≤ (B + 0 + 1800 * (0 : Int32).toInt) by rw [show (0 : Int32).toInt = 0 by decide]; omega)) hF hRW c327 c328 c329 (c323.trans c316) (c324.trans c317) (c325.trans c318) (lv_sub hl [2, 3, 4, 5, 6, 1, 0] rfl)
  refine lv_aload_n hx hb dX12_strangers_0 rfl (lv_at hl 0 rfl) ?_
  refine tk_Vi hC hK hw hT hA hE hSR kM_at0 (by decide) rfl (k_X12_isTown_1 l adK adV dC dI cy ad B (by omega) (by omega) qr s1    w0 s.heap.size hT ) (cwV 0 hC.2.2.2.2 gX12_strangers_X12_isTown rfl rfl rfl (by decide +kernel) ⟨Nat.le_of_ble_eq_true rfl, Nat.le_of_ble_eq_true rfl⟩) rfl hl.1 rfl (Nat.le_of_ble_eq_true rfl) dX12_strangers_1 (fun r331 w333 H locs hp332 hw => ?_)
  obtain ⟨rfl, hg339⟩ := hp332
  rcases hg339 with ⟨rfl, ⟨x335, c336, rx335, tx335⟩⟩ | ⟨rfl, ⟨x337, c338, rx337, tx337⟩⟩
  · refine lv_if_eq (tgt := 64) hx hb dX12_strangers_4 (by decide) (fun _ => ?_) (fun c => absurd (by decide) c)
    exact J64 x335 H locs ls w0 (show 0 ≤ x335.toInt by omega) (show x335.toInt ≤ 10 by omega) (show 0 ≤ f0_.toInt by omega)  hw hT hF hRW c336 cf0_ (lv_sub hl [0, 1, 2, 3, 4] rfl)
  · refine lv_if_eq (tgt := 64) hx hb dX12_strangers_4 (by decide) (fun c => absurd c (by decide)) (fun _ => ?_)
    refine lv_aload_n hx hb dX12_strangers_7 rfl (lv_at hl 0 rfl) ?_
    refine tk_getA hC hK hw hT hinX12 kM_at0 (by decide) rfl 26 (by decide) (List.mem_of_getElem? (i := 1) rfl) rfl rfl dX12_strangers_8 ?_
    refine lv_iconst (v := 4) hx hb dX12_strangers_11 (by decide) ?_
    refine tk_ialdR hC hK hw hT kM_at12 rfl (by decide) (by decide) dX12_strangers_12 (fun x340 c341 Ex340 => ?_)
    have bx340 := tk_rgI rfl 4 1 1 0 4 (by decide +kernel) ⟨0, by decide, by decide⟩ Ex340
    have c341 : gi w0 12 4 = x340 := c341
    refine lv_if_eq (tgt := 64) hx hb dX12_strangers_13 (by decide) (fun c342 => ?_) (fun c342 => ?_)
    · have c342 : x340.toInt = (0 : Int) := wk_eq.mp c342
      exact J64 x337 H locs ls w0 (show 0 ≤ x337.toInt by omega) (show x337.toInt ≤ 10 by omega) (show 0 ≤ f0_.toInt by omega)  hw hT hF hRW c338 cf0_ (lv_sub hl [0, 1, 2, 3, 4] rfl)
    · have c342 : ¬ x340.toInt = (0 : Int) := wk_eqF c342
      refine lv_iload_n hx hb dX12_strangers_16 rfl (lv_at hl 1 rfl) ?_
      refine lv_iconst (v := (-1)) hx hb dX12_strangers_17 (by decide) ?_
      refine lv_icmp_eq (tgt := 29) hx hb dX12_strangers_18 (by decide) (fun c343 => ?_) (fun c343 => ?_)
      · have c343 : a1.toInt = (-1 : Int) := wk_eq.mp c343
        exact J29 x337 x340 H locs ls w0 (show (-1) ≤ a1.toInt by omega) (show a1.toInt ≤ 5 by omega) (show 1 ≤ x337.toInt by omega) (show x337.toInt ≤ 10 by omega) (show 1 ≤ x340.toInt by omega) (show x340.toInt ≤ 4 by omega) (show 0 ≤ f0_.toInt by omega)  hw hT hF hRW c338 c341 cf0_ (lv_sub hl [0, 1, 2, 3, 4] rfl)
      · have c343 : ¬ a1.toInt = (-1 : Int) := wk_eqF c343
        refine lv_aload_n hx hb dX12_strangers_21 rfl (lv_at hl 0 rfl) ?_
        refine lv_iload_n hx hb dX12_strangers_22 rfl (lv_at hl 1 rfl) ?_
        refine tk_Vi hC hK hw hT hA hE hSR kM_at0 (by decide) rfl (k_X12_isRule_1 l adK adV dC dI cy ad B (by omega) (by omega) qr s1   a1 w0 H.size hT ) (cwV 1 hC.2.2.2.2 gX12_strangers_X12_isRule rfl rfl rfl (by decide +kernel) ⟨Nat.le_of_ble_eq_true rfl, Nat.le_of_ble_eq_true rfl⟩) rfl hl.1 rfl (Nat.le_of_ble_eq_true rfl) dX12_strangers_23 (fun r344 w346 H locs hp345 hw => ?_)
        obtain ⟨rfl, hg352⟩ := hp345
        rcases hg352 with rfl | ⟨rfl, g348, g349, ⟨x350, c351, rx350, tx350⟩⟩
        · refine lv_if_eq (tgt := 64) hx hb dX12_strangers_26 (by decide) (fun _ => ?_) (fun c => absurd (by decide) c)
          exact J64 x337 H locs ls w0 (show 0 ≤ x337.toInt by omega) (show x337.toInt ≤ 10 by omega) (show 0 ≤ f0_.toInt by omega)  hw hT hF hRW c338 cf0_ (lv_sub hl [0, 1, 2, 3, 4] rfl)
        · refine lv_if_eq (tgt := 64) hx hb dX12_strangers_26 (by decide) (fun c => absurd c (by decide)) (fun _ => ?_)
          exact J29 x337 x340 H locs ls w0 (show (-1) ≤ a1.toInt by omega) (show a1.toInt ≤ 5 by omega) (show 1 ≤ x337.toInt by omega) (show x337.toInt ≤ 10 by omega) (show 1 ≤ x340.toInt by omega) (show x340.toInt ≤ 4 by omega) (show 0 ≤ f0_.toInt by omega)  hw hT hF hRW c338 c341 cf0_ (lv_sub hl [0, 1, 2, 3, 4] rfl)
abbrev P_X12_seed_2 (ad : Nat → Nat) (cy : Nat → ClassId) (B : Int) (qr : Nat) (s1 : Int) (a1 : Int32) (w0 : va_W) : Int32 → va_W → Prop := fun r u => TW ksM ad cy B qr 12 u ∧ FE ksM [(71, 9, 9)] w0 u ∧ ((0 ≤ r.toInt ∧ 0 ≤ a1.toInt ∧ (r.toInt = (gi w0 12 9).toInt) ∧ ((gi u 12 9).toInt = a1.toInt)) ∨ (r = (-1) ∧ a1.toInt ≤ (-1) ∧ ((gi u 12 9).toInt = (gi w0 12 9).toInt)))
set_option maxHeartbeats 4000000 in
set_option maxRecDepth 100000 in
theorem k_X12_seed_2 (l : Launch) (adK adV : Nat → Nat) (dC : Nat → ClassId) (dI : Nat → Nat → Nat) (cy : Nat → ClassId) (ad : Nat → Nat) (B : Int) (hB0 : 100000 ≤ B) (hB1 : B ≤ 1073741824) (qr : Nat) (s1 : Int)  (a1 : Int32) (w0 : va_W) (sz : Nat) (hT : TW ksM ad cy B qr 12 w0) (f0_ : Int32) (cf0_ : gi w0 12 9 = f0_) (rf0_ : 0 ≤ f0_.toInt) (tf0_ : f0_.toInt ≤ 2147483647) : Met l yX12_seed wsX12_seed ({ frames := 1, cells := 0, slots := 0, locals := 12 }) (va_Pc [.ref (ad 0), .int a1] (wpreS adK adV dC dI cy sz w0)) (va_Qi (P_X12_seed_2 ad cy B qr s1 a1 w0) (fun u : va_W => wpost dC dI cy (va_A w0 sz) u) (va_A w0 sz)) 0 0 (va_A w0 sz) := by
  refine Met.ofW (cc := cX12_seed) (maxL := 3) (ret := (some .int)) (by decide) rfl ?_
  intro p e s m args below meth c s₁ Bk hml hv
  obtain ⟨rfl, ⟨hsz, hP, hK, hD0⟩, hE, hSR⟩ := hv
  have hx := Bk.exec
  have hb := Bk.bytes
  have hr := Bk.returns
  have hlocks := Bk.notSynchronized
  have hC : CallFix p m c cX12_seed 3 s _ wsX12_seed RX12 := ⟨hx, hb, hml, findClass_of_methodNamed Bk.named, atoms_spec (ws := wsX12_seed) Bk.pre⟩
  subst hsz
  have hD := hD0.self (sz := s.heap.size)
  generalize hAe : va_A w0 s.heap.size = A at hD hE ⊢
  have hA : ∀ q : Nat, s.heap.size ≤ q → A q := fun q h => by rw [← hAe]; exact Or.inr h
  have hw : Wd dC dI A s.heap s.heap [] w0 := ⟨hP, hD, va_S.rf⟩
  have hF : FE ksM [(71, 9, 9)] w0 w0 := FE.rf
  have hl := lv_entry ([.ref (ad 0), .int a1]) (n := 3) (Nat.le_of_ble_eq_true rfl)
  rw [lg_entry_eq]
  generalize (lg_sl ([.ref (ad 0), .int a1]) ++ List.replicate (3 - (lg_sl ([.ref (ad 0), .int a1])).length) Slot.unset).toArray = ls at hl ⊢
  have hl : lv_has ls 3 [(0, .ref (ad 0)), (1, .int a1)] := hl
  generalize hloc : ([] : List Loc) = locs at hw ⊢
  have hinX12 : ∀ w ∈ u_ws RX12 TX12 42, w ∈ wsX12_seed := fun _ h => List.mem_cons_of_mem _ (List.mem_append_right _ (h))
  refine lv_iload_n hx hb dX12_seed_0 rfl (lv_at hl 1 rfl) ?_
  refine lv_if_ge (tgt := 6) hx hb dX12_seed_1 (by decide) (fun c1 => ?_) (fun c1 => ?_)
  · have c1 : (0 : Int) ≤ a1.toInt := wk_le.mp c1
    refine lv_aload_n hx hb dX12_seed_6 rfl (lv_at hl 0 rfl) ?_
    refine tk_getA hC hK hw hT hinX12 kM_at0 (by decide) rfl 26 (by decide) (List.mem_of_getElem? (i := 1) rfl) rfl rfl dX12_seed_7 ?_
    refine lv_bipush (v := 9) hx hb dX12_seed_10 (by decide) ?_
    refine tk_ialdR hC hK hw hT kM_at12 rfl (by decide) (by decide) dX12_seed_12 (fun x2 c3 Ex2 => ?_)
    refine wk_top f0_ (c3.symm.trans cf0_) ?_
    refine lv_istore_n (lv' := [(2, .int f0_), (0, .ref (ad 0)), (1, .int a1)]) hx hb dX12_seed_13 rfl hl (by decide) rfl (fun ls hl => ?_)
    refine lv_aload_n hx hb dX12_seed_14 rfl (lv_at hl 1 rfl) ?_
    refine tk_getA hC hK hw hT hinX12 kM_at0 (by decide) rfl 26 (by decide) (List.mem_of_getElem? (i := 1) rfl) rfl rfl dX12_seed_15 ?_
    refine lv_bipush (v := 9) hx hb dX12_seed_18 (by decide) ?_
    refine lv_iload_n hx hb dX12_seed_20 rfl (lv_at hl 2 rfl) ?_
    refine tk_iastR hC hK hw hT kM_at12 (by decide) rfl (by decide) (by decide) (tk_rgS rfl 9 1 1 0 2147483647 (by decide +kernel) ⟨0, by decide, by decide⟩ (show 0 ≤ a1.toInt by omega) (wk_i32 a1).2) dX12_seed_21 (fun H locs w4 hw hT k6 c5 => ?_)
    have hF := hF.put kM_at12 (inE_of (a := 9) (b := 9) (by decide) (by decide) (by decide)) k6
    have c5 : gi w4 12 9 = a1 := c5
    refine lv_iload_n hx hb dX12_seed_22 rfl (lv_at hl 0 rfl) ?_
    exact tk_iret hC hr hlocks hK ⟨hT, hF, (Or.inl ⟨(show 0 ≤ f0_.toInt by omega), (show 0 ≤ a1.toInt by omega), (by simp only [cf0_] <;> omega), (by simp only [c5] <;> omega)⟩)⟩ hw dX12_seed_23
  · have c1 : a1.toInt < (0 : Int) := wk_leF c1
    refine lv_iconst (v := (-1)) hx hb dX12_seed_4 (by decide) ?_
    exact tk_iret hC hr hlocks hK ⟨hT, hF, (Or.inr ⟨rfl, (show a1.toInt ≤ (-1) by omega), (by simp only [cf0_, cf0_] <;> omega)⟩)⟩ hw dX12_seed_5
abbrev P_X12_in_24 (ad : Nat → Nat) (cy : Nat → ClassId) (B : Int) (qr : Nat) (s1 : Int) (a0 : Int64) (w0 : va_W) : Int32 → va_W → Prop := fun r u => w0 = u ∧ ((r = 0))
set_option maxHeartbeats 4000000 in
set_option maxRecDepth 100000 in
theorem k_X12_in_24 (l : Launch) (adK adV : Nat → Nat) (dC : Nat → ClassId) (dI : Nat → Nat → Nat) (cy : Nat → ClassId) (ad : Nat → Nat) (B : Int) (hB0 : 100000 ≤ B) (hB1 : B ≤ 1073741824) (qr : Nat) (s1 : Int)  (a0 : Int64) (ra0 : (-2147483648) ≤ a0.toInt) (ta0 : a0.toInt ≤ (-1)) (w0 : va_W) (sz : Nat) (hT : TW ksM ad cy B qr 12 w0)  : Met l yX12_in wsX12_in ({ frames := 1, cells := 0, slots := 0, locals := 12 }) (va_Pc [.long a0, .long 0, .long 3] (wpreS adK adV dC dI cy sz w0)) (va_Qi (P_X12_in_24 ad cy B qr s1 a0 w0) (fun u : va_W => wpost dC dI cy (va_A w0 sz) u) (va_A w0 sz)) 0 0 (va_A w0 sz) := by
  refine Met.ofW (cc := cX12_in) (maxL := 6) (ret := (some .boolean)) (by decide) rfl ?_
  intro p e s m args below meth c s₁ Bk hml hv
  obtain ⟨rfl, ⟨hsz, hP, hK, hD0⟩, hE, hSR⟩ := hv
  have hx := Bk.exec
  have hb := Bk.bytes
  have hr := Bk.returns
  have hlocks := Bk.notSynchronized
  have hC : CallFix p m c cX12_in 6 s _ wsX12_in RX12 := ⟨hx, hb, hml, findClass_of_methodNamed Bk.named, atoms_spec (ws := wsX12_in) Bk.pre⟩
  subst hsz
  have hD := hD0.self (sz := s.heap.size)
  generalize hAe : va_A w0 s.heap.size = A at hD hE ⊢
  have hA : ∀ q : Nat, s.heap.size ≤ q → A q := fun q h => by rw [← hAe]; exact Or.inr h
  have hw : Wd dC dI A s.heap s.heap [] w0 := ⟨hP, hD, va_S.rf⟩
  have hF : FE ksM ([] : List (Nat × Nat × Nat)) w0 w0 := FE.rf
  have hl := lv_entry ([.long a0, .long 0, .long 3]) (n := 6) (Nat.le_of_ble_eq_true rfl)
  rw [lg_entry_eq]
  generalize (lg_sl ([.long a0, .long 0, .long 3]) ++ List.replicate (6 - (lg_sl ([.long a0, .long 0, .long 3])).length) Slot.unset).toArray = ls at hl ⊢
  have hl : lv_has ls 6 [(0, .long a0), (2, .long 0), (4, .long 3)] := hl
  generalize hloc : ([] : List Loc) = locs at hw ⊢
  have J17 : ∀ (H : Heap) (locs : List Loc) (ls : Array Slot), (-2147483648) ≤ a0.toInt → a0.toInt ≤ (-1) → Wd dC dI A s.heap H locs w0 → lv_has ls 6 [(0, .long a0), (2, .long 0), (4, .long 3)] → W p l e ({ frames := 1, cells := 0, slots := 0, locals := 12 }) s m (List.toArray [.long a0, .long 0, .long 3]) below meth c H locs 0 0 (MQ below (va_Qi (P_X12_in_24 ad cy B qr s1 a0 w0) (fun u : va_W => wpost dC dI cy A u) A) (List.toArray [.long a0, .long 0, .long 3]) s 0 0 A) (F0 m 17 ls []) := by
    intro H locs ls r1 t2 hw hl
    refine lv_iconst (v := 0) hx hb dX12_in_17 (by decide) ?_
    exact tk_zret hC hr rfl hlocks hK ⟨rfl, rfl⟩ hw dX12_in_18
  refine lv_lload_n hx hb dX12_in_0 rfl (lv_at hl 0 rfl) ?_
  refine lv_lload_n hx hb dX12_in_1 rfl (lv_at hl 1 rfl) ?_
  refine W.lcmp hx hb dX12_in_2 ?_
  refine lv_if_lt (tgt := 17) hx hb dX12_in_3 (by decide) (fun _ => ?_) (fun c => (c (wk_cltI (show a0.toInt < (0 : Int) by omega))).elim)
  exact J17  s.heap locs ls  (show (-2147483648) ≤ a0.toInt by omega) (show a0.toInt ≤ (-1) by omega)  hw   (lv_sub hl [0, 1, 2] rfl)
abbrev P_X12_image_6 (ad : Nat → Nat) (cy : Nat → ClassId) (B : Int) (qr : Nat) (s1 : Int) (a1 : Int32) (w0 : va_W) : Int32 → va_W → Prop := fun r u => w0 = u ∧ ((r = (-1)))
set_option maxHeartbeats 4000000 in
set_option maxRecDepth 100000 in
theorem k_X12_image_6 (l : Launch) (adK adV : Nat → Nat) (dC : Nat → ClassId) (dI : Nat → Nat → Nat) (cy : Nat → ClassId) (ad : Nat → Nat) (B : Int) (hB0 : 100000 ≤ B) (hB1 : B ≤ 1073741824) (qr : Nat) (s1 : Int)  (a1 : Int32) (ta1 : a1.toInt ≤ (-1)) (w0 : va_W) (sz : Nat) (hT : TW ksM ad cy B qr 12 w0)  : Met l yX12_image wsX12_image ({ frames := 2, cells := 0, slots := 0, locals := 37 }) (va_Pc [.ref (ad 0), .int a1] (wpreS adK adV dC dI cy sz w0)) (va_Qi (P_X12_image_6 ad cy B qr s1 a1 w0) (fun u : va_W => wpost dC dI cy (va_A w0 sz) u) (va_A w0 sz)) 0 0 (va_A w0 sz) := by
  refine Met.ofW (cc := cX12_image) (maxL := 3) (ret := (some .int)) (by decide) rfl ?_
  intro p e s m args below meth c s₁ Bk hml hv
  obtain ⟨rfl, ⟨hsz, hP, hK, hD0⟩, hE, hSR⟩ := hv
  have hx := Bk.exec
  have hb := Bk.bytes
  have hr := Bk.returns
  have hlocks := Bk.notSynchronized
  have hC : CallFix p m c cX12_image 3 s _ wsX12_image RX12 := ⟨hx, hb, hml, findClass_of_methodNamed Bk.named, atoms_spec (ws := wsX12_image) Bk.pre⟩
  subst hsz
  have hD := hD0.self (sz := s.heap.size)
  generalize hAe : va_A w0 s.heap.size = A at hD hE ⊢
  have hA : ∀ q : Nat, s.heap.size ≤ q → A q := fun q h => by rw [← hAe]; exact Or.inr h
  have hw : Wd dC dI A s.heap s.heap [] w0 := ⟨hP, hD, va_S.rf⟩
  have hF : FE ksM ([] : List (Nat × Nat × Nat)) w0 w0 := FE.rf
  have hl := lv_entry ([.ref (ad 0), .int a1]) (n := 3) (Nat.le_of_ble_eq_true rfl)
  rw [lg_entry_eq]
  generalize (lg_sl ([.ref (ad 0), .int a1]) ++ List.replicate (3 - (lg_sl ([.ref (ad 0), .int a1])).length) Slot.unset).toArray = ls at hl ⊢
  have hl : lv_has ls 3 [(0, .ref (ad 0)), (1, .int a1)] := hl
  generalize hloc : ([] : List Loc) = locs at hw ⊢
  refine lv_iload_n hx hb dX12_image_0 rfl (lv_at hl 1 rfl) ?_
  refine lv_i2l hx hb dX12_image_1 rfl ?_
  refine lv_topl (fun x1 ex1 => ?_)
  have ex1 : x1.toInt = a1.toInt := by rw [ex1]; exact wk_i2l _
  have bx1 := wk_i32 a1
  refine lv_lconst (v := 0) hx hb dX12_image_2 (by decide) ?_
  refine lv_ldc2 (v := 3) hx hb hC.2.2.2.1 (hC.2.2.2.2 _ (List.mem_of_getElem? (i := 1) rfl)) dX12_image_3 ?_
  refine tk_Si hC hK hw hT hA hE hSR (k_X12_in_24 l adK adV dC dI cy ad B (by omega) (by omega) qr s1   x1 (show (-2147483648) ≤ x1.toInt by omega) (show x1.toInt ≤ (-1) by omega) w0 s.heap.size hT ) (va_cwS 3 hC.2.2.2.2 gX12_image_X12_in rfl rfl rfl (by decide +kernel) ⟨Nat.le_of_ble_eq_true rfl, Nat.le_of_ble_eq_true rfl⟩) rfl hl.1 rfl (Nat.le_of_ble_eq_true rfl) dX12_image_6 (fun r2 w4 H locs hp3 hw => ?_)
  obtain ⟨rfl, hg6⟩ := hp3
  obtain rfl := hg6
  refine lv_if_ne (tgt := 14) hx hb dX12_image_9 (by decide) (fun c => absurd (by decide) c) (fun _ => ?_)
  refine lv_iconst (v := (-1)) hx hb dX12_image_12 (by decide) ?_
  exact tk_iret hC hr hlocks hK ⟨rfl, rfl⟩ hw dX12_image_13
abbrev P_X12_in_25 (ad : Nat → Nat) (cy : Nat → ClassId) (B : Int) (qr : Nat) (s1 : Int) (a0 : Int64) (w0 : va_W) : Int32 → va_W → Prop := fun r u => w0 = u ∧ ((r = 0))
set_option maxHeartbeats 4000000 in
set_option maxRecDepth 100000 in
theorem k_X12_in_25 (l : Launch) (adK adV : Nat → Nat) (dC : Nat → ClassId) (dI : Nat → Nat → Nat) (cy : Nat → ClassId) (ad : Nat → Nat) (B : Int) (hB0 : 100000 ≤ B) (hB1 : B ≤ 1073741824) (qr : Nat) (s1 : Int)  (a0 : Int64) (ra0 : 4 ≤ a0.toInt) (ta0 : a0.toInt ≤ 2147483647) (w0 : va_W) (sz : Nat) (hT : TW ksM ad cy B qr 12 w0)  : Met l yX12_in wsX12_in ({ frames := 1, cells := 0, slots := 0, locals := 12 }) (va_Pc [.long a0, .long 0, .long 3] (wpreS adK adV dC dI cy sz w0)) (va_Qi (P_X12_in_25 ad cy B qr s1 a0 w0) (fun u : va_W => wpost dC dI cy (va_A w0 sz) u) (va_A w0 sz)) 0 0 (va_A w0 sz) := by
  refine Met.ofW (cc := cX12_in) (maxL := 6) (ret := (some .boolean)) (by decide) rfl ?_
  intro p e s m args below meth c s₁ Bk hml hv
  obtain ⟨rfl, ⟨hsz, hP, hK, hD0⟩, hE, hSR⟩ := hv
  have hx := Bk.exec
  have hb := Bk.bytes
  have hr := Bk.returns
  have hlocks := Bk.notSynchronized
  have hC : CallFix p m c cX12_in 6 s _ wsX12_in RX12 := ⟨hx, hb, hml, findClass_of_methodNamed Bk.named, atoms_spec (ws := wsX12_in) Bk.pre⟩
  subst hsz
  have hD := hD0.self (sz := s.heap.size)
  generalize hAe : va_A w0 s.heap.size = A at hD hE ⊢
  have hA : ∀ q : Nat, s.heap.size ≤ q → A q := fun q h => by rw [← hAe]; exact Or.inr h
  have hw : Wd dC dI A s.heap s.heap [] w0 := ⟨hP, hD, va_S.rf⟩
  have hF : FE ksM ([] : List (Nat × Nat × Nat)) w0 w0 := FE.rf
  have hl := lv_entry ([.long a0, .long 0, .long 3]) (n := 6) (Nat.le_of_ble_eq_true rfl)
  rw [lg_entry_eq]
  generalize (lg_sl ([.long a0, .long 0, .long 3]) ++ List.replicate (6 - (lg_sl ([.long a0, .long 0, .long 3])).length) Slot.unset).toArray = ls at hl ⊢
  have hl : lv_has ls 6 [(0, .long a0), (2, .long 0), (4, .long 3)] := hl
  generalize hloc : ([] : List Loc) = locs at hw ⊢
  have J17 : ∀ (H : Heap) (locs : List Loc) (ls : Array Slot), 4 ≤ a0.toInt → a0.toInt ≤ 2147483647 → Wd dC dI A s.heap H locs w0 → lv_has ls 6 [(0, .long a0), (2, .long 0), (4, .long 3)] → W p l e ({ frames := 1, cells := 0, slots := 0, locals := 12 }) s m (List.toArray [.long a0, .long 0, .long 3]) below meth c H locs 0 0 (MQ below (va_Qi (P_X12_in_25 ad cy B qr s1 a0 w0) (fun u : va_W => wpost dC dI cy A u) A) (List.toArray [.long a0, .long 0, .long 3]) s 0 0 A) (F0 m 17 ls []) := by
    intro H locs ls r1 t2 hw hl
    refine lv_iconst (v := 0) hx hb dX12_in_17 (by decide) ?_
    exact tk_zret hC hr rfl hlocks hK ⟨rfl, rfl⟩ hw dX12_in_18
  refine lv_lload_n hx hb dX12_in_0 rfl (lv_at hl 0 rfl) ?_
  refine lv_lload_n hx hb dX12_in_1 rfl (lv_at hl 1 rfl) ?_
  refine W.lcmp hx hb dX12_in_2 ?_
  refine lv_if_lt (tgt := 17) hx hb dX12_in_3 (by decide) (fun c => absurd c (wk_cltN (show (0 : Int) ≤ a0.toInt by omega))) (fun _ => ?_)
  refine lv_lload_n hx hb dX12_in_6 rfl (lv_at hl 0 rfl) ?_
  refine lv_lload hx hb dX12_in_7 (lv_at hl 2 rfl) ?_
  refine W.lcmp hx hb dX12_in_9 ?_
  refine lv_if_gt (tgt := 17) hx hb dX12_in_10 (by decide) (fun _ => ?_) (fun c => (c (wk_cgtI (show (3 : Int) < a0.toInt by omega))).elim)
  exact J17  s.heap locs ls  (show 4 ≤ a0.toInt by omega) (show a0.toInt ≤ 2147483647 by omega)  hw   (lv_sub hl [0, 1, 2] rfl)
abbrev P_X12_image_7 (ad : Nat → Nat) (cy : Nat → ClassId) (B : Int) (qr : Nat) (s1 : Int) (a1 : Int32) (w0 : va_W) : Int32 → va_W → Prop := fun r u => w0 = u ∧ ((r = (-1)))
set_option maxHeartbeats 4000000 in
set_option maxRecDepth 100000 in
theorem k_X12_image_7 (l : Launch) (adK adV : Nat → Nat) (dC : Nat → ClassId) (dI : Nat → Nat → Nat) (cy : Nat → ClassId) (ad : Nat → Nat) (B : Int) (hB0 : 100000 ≤ B) (hB1 : B ≤ 1073741824) (qr : Nat) (s1 : Int)  (a1 : Int32) (ra1 : 4 ≤ a1.toInt) (w0 : va_W) (sz : Nat) (hT : TW ksM ad cy B qr 12 w0)  : Met l yX12_image wsX12_image ({ frames := 2, cells := 0, slots := 0, locals := 37 }) (va_Pc [.ref (ad 0), .int a1] (wpreS adK adV dC dI cy sz w0)) (va_Qi (P_X12_image_7 ad cy B qr s1 a1 w0) (fun u : va_W => wpost dC dI cy (va_A w0 sz) u) (va_A w0 sz)) 0 0 (va_A w0 sz) := by
  refine Met.ofW (cc := cX12_image) (maxL := 3) (ret := (some .int)) (by decide) rfl ?_
  intro p e s m args below meth c s₁ Bk hml hv
  obtain ⟨rfl, ⟨hsz, hP, hK, hD0⟩, hE, hSR⟩ := hv
  have hx := Bk.exec
  have hb := Bk.bytes
  have hr := Bk.returns
  have hlocks := Bk.notSynchronized
  have hC : CallFix p m c cX12_image 3 s _ wsX12_image RX12 := ⟨hx, hb, hml, findClass_of_methodNamed Bk.named, atoms_spec (ws := wsX12_image) Bk.pre⟩
  subst hsz
  have hD := hD0.self (sz := s.heap.size)
  generalize hAe : va_A w0 s.heap.size = A at hD hE ⊢
  have hA : ∀ q : Nat, s.heap.size ≤ q → A q := fun q h => by rw [← hAe]; exact Or.inr h
  have hw : Wd dC dI A s.heap s.heap [] w0 := ⟨hP, hD, va_S.rf⟩
  have hF : FE ksM ([] : List (Nat × Nat × Nat)) w0 w0 := FE.rf
  have hl := lv_entry ([.ref (ad 0), .int a1]) (n := 3) (Nat.le_of_ble_eq_true rfl)
  rw [lg_entry_eq]
  generalize (lg_sl ([.ref (ad 0), .int a1]) ++ List.replicate (3 - (lg_sl ([.ref (ad 0), .int a1])).length) Slot.unset).toArray = ls at hl ⊢
  have hl : lv_has ls 3 [(0, .ref (ad 0)), (1, .int a1)] := hl
  generalize hloc : ([] : List Loc) = locs at hw ⊢
  refine lv_iload_n hx hb dX12_image_0 rfl (lv_at hl 1 rfl) ?_
  refine lv_i2l hx hb dX12_image_1 rfl ?_
  refine lv_topl (fun x1 ex1 => ?_)
  have ex1 : x1.toInt = a1.toInt := by rw [ex1]; exact wk_i2l _
  have bx1 := wk_i32 a1
  refine lv_lconst (v := 0) hx hb dX12_image_2 (by decide) ?_
  refine lv_ldc2 (v := 3) hx hb hC.2.2.2.1 (hC.2.2.2.2 _ (List.mem_of_getElem? (i := 1) rfl)) dX12_image_3 ?_
  refine tk_Si hC hK hw hT hA hE hSR (k_X12_in_25 l adK adV dC dI cy ad B (by omega) (by omega) qr s1   x1 (show 4 ≤ x1.toInt by omega) (show x1.toInt ≤ 2147483647 by omega) w0 s.heap.size hT ) (va_cwS 3 hC.2.2.2.2 gX12_image_X12_in rfl rfl rfl (by decide +kernel) ⟨Nat.le_of_ble_eq_true rfl, Nat.le_of_ble_eq_true rfl⟩) rfl hl.1 rfl (Nat.le_of_ble_eq_true rfl) dX12_image_6 (fun r2 w4 H locs hp3 hw => ?_)
  obtain ⟨rfl, hg6⟩ := hp3
  obtain rfl := hg6
  refine lv_if_ne (tgt := 14) hx hb dX12_image_9 (by decide) (fun c => absurd (by decide) c) (fun _ => ?_)
  refine lv_iconst (v := (-1)) hx hb dX12_image_12 (by decide) ?_
  exact tk_iret hC hr hlocks hK ⟨rfl, rfl⟩ hw dX12_image_13
abbrev P_X12_back_6 (ad : Nat → Nat) (cy : Nat → ClassId) (B : Int) (qr : Nat) (s1 : Int) (a1 : Int32) (w0 : va_W) : Int32 → va_W → Prop := fun r u => w0 = u ∧ ((r = (-1)))
set_option maxHeartbeats 4000000 in
set_option maxRecDepth 100000 in
theorem k_X12_back_6 (l : Launch) (adK adV : Nat → Nat) (dC : Nat → ClassId) (dI : Nat → Nat → Nat) (cy : Nat → ClassId) (ad : Nat → Nat) (B : Int) (hB0 : 100000 ≤ B) (hB1 : B ≤ 1073741824) (qr : Nat) (s1 : Int)  (a1 : Int32) (ta1 : a1.toInt ≤ (-1)) (w0 : va_W) (sz : Nat) (hT : TW ksM ad cy B qr 12 w0)  : Met l yX12_back wsX12_back ({ frames := 2, cells := 0, slots := 0, locals := 37 }) (va_Pc [.ref (ad 0), .int a1] (wpreS adK adV dC dI cy sz w0)) (va_Qi (P_X12_back_6 ad cy B qr s1 a1 w0) (fun u : va_W => wpost dC dI cy (va_A w0 sz) u) (va_A w0 sz)) 0 0 (va_A w0 sz) := by
  refine Met.ofW (cc := cX12_back) (maxL := 3) (ret := (some .int)) (by decide) rfl ?_
  intro p e s m args below meth c s₁ Bk hml hv
  obtain ⟨rfl, ⟨hsz, hP, hK, hD0⟩, hE, hSR⟩ := hv
  have hx := Bk.exec
  have hb := Bk.bytes
  have hr := Bk.returns
  have hlocks := Bk.notSynchronized
  have hC : CallFix p m c cX12_back 3 s _ wsX12_back RX12 := ⟨hx, hb, hml, findClass_of_methodNamed Bk.named, atoms_spec (ws := wsX12_back) Bk.pre⟩
  subst hsz
  have hD := hD0.self (sz := s.heap.size)
  generalize hAe : va_A w0 s.heap.size = A at hD hE ⊢
  have hA : ∀ q : Nat, s.heap.size ≤ q → A q := fun q h => by rw [← hAe]; exact Or.inr h
  have hw : Wd dC dI A s.heap s.heap [] w0 := ⟨hP, hD, va_S.rf⟩
  have hF : FE ksM ([] : List (Nat × Nat × Nat)) w0 w0 := FE.rf
  have hl := lv_entry ([.ref (ad 0), .int a1]) (n := 3) (Nat.le_of_ble_eq_true rfl)
  rw [lg_entry_eq]
  generalize (lg_sl ([.ref (ad 0), .int a1]) ++ List.replicate (3 - (lg_sl ([.ref (ad 0), .int a1])).length) Slot.unset).toArray = ls at hl ⊢
  have hl : lv_has ls 3 [(0, .ref (ad 0)), (1, .int a1)] := hl
  generalize hloc : ([] : List Loc) = locs at hw ⊢
  have J21 : ∀ (H : Heap) (locs : List Loc) (ls : Array Slot), a1.toInt ≤ (-1) → Wd dC dI A s.heap H locs w0 → lv_has ls 3 [(0, .ref (ad 0)), (1, .int a1)] → W p l e ({ frames := 2, cells := 0, slots := 0, locals := 37 }) s m (List.toArray [.ref (ad 0), .int a1]) below meth c H locs 0 0 (MQ below (va_Qi (P_X12_back_6 ad cy B qr s1 a1 w0) (fun u : va_W => wpost dC dI cy A u) A) (List.toArray [.ref (ad 0), .int a1]) s 0 0 A) (F0 m 21 ls []) := by
    intro H locs ls t1 hw hl
    refine lv_iconst (v := (-1)) hx hb dX12_back_21 (by decide) ?_
    exact tk_iret hC hr hlocks hK ⟨rfl, rfl⟩ hw dX12_back_22
  refine lv_iload_n hx hb dX12_back_0 rfl (lv_at hl 1 rfl) ?_
  refine lv_i2l hx hb dX12_back_1 rfl ?_
  refine lv_topl (fun x2 ex2 => ?_)
  have ex2 : x2.toInt = a1.toInt := by rw [ex2]; exact wk_i2l _
  have bx2 := wk_i32 a1
  refine lv_lconst (v := 0) hx hb dX12_back_2 (by decide) ?_
  refine lv_ldc2 (v := 3) hx hb hC.2.2.2.1 (hC.2.2.2.2 _ (List.mem_of_getElem? (i := 1) rfl)) dX12_back_3 ?_
  refine tk_Si hC hK hw hT hA hE hSR (k_X12_in_24 l adK adV dC dI cy ad B (by omega) (by omega) qr s1   x2 (show (-2147483648) ≤ x2.toInt by omega) (show x2.toInt ≤ (-1) by omega) w0 s.heap.size hT ) (va_cwS 3 hC.2.2.2.2 gX12_back_X12_in rfl rfl rfl (by decide +kernel) ⟨Nat.le_of_ble_eq_true rfl, Nat.le_of_ble_eq_true rfl⟩) rfl hl.1 rfl (Nat.le_of_ble_eq_true rfl) dX12_back_6 (fun r3 w5 H locs hp4 hw => ?_)
  obtain ⟨rfl, hg7⟩ := hp4
  obtain rfl := hg7
  refine lv_if_eq (tgt := 21) hx hb dX12_back_9 (by decide) (fun _ => ?_) (fun c => absurd (by decide) c)
  exact J21  H locs ls  (show a1.toInt ≤ (-1) by omega)  hw   (lv_sub hl [0, 1] rfl)
abbrev P_X12_back_7 (ad : Nat → Nat) (cy : Nat → ClassId) (B : Int) (qr : Nat) (s1 : Int) (a1 : Int32) (w0 : va_W) : Int32 → va_W → Prop := fun r u => w0 = u ∧ ((r = (-1)))
set_option maxHeartbeats 4000000 in
set_option maxRecDepth 100000 in
theorem k_X12_back_7 (l : Launch) (adK adV : Nat → Nat) (dC : Nat → ClassId) (dI : Nat → Nat → Nat) (cy : Nat → ClassId) (ad : Nat → Nat) (B : Int) (hB0 : 100000 ≤ B) (hB1 : B ≤ 1073741824) (qr : Nat) (s1 : Int)  (a1 : Int32) (ra1 : 4 ≤ a1.toInt) (w0 : va_W) (sz : Nat) (hT : TW ksM ad cy B qr 12 w0)  : Met l yX12_back wsX12_back ({ frames := 2, cells := 0, slots := 0, locals := 37 }) (va_Pc [.ref (ad 0), .int a1] (wpreS adK adV dC dI cy sz w0)) (va_Qi (P_X12_back_7 ad cy B qr s1 a1 w0) (fun u : va_W => wpost dC dI cy (va_A w0 sz) u) (va_A w0 sz)) 0 0 (va_A w0 sz) := by
  refine Met.ofW (cc := cX12_back) (maxL := 3) (ret := (some .int)) (by decide) rfl ?_
  intro p e s m args below meth c s₁ Bk hml hv
  obtain ⟨rfl, ⟨hsz, hP, hK, hD0⟩, hE, hSR⟩ := hv
  have hx := Bk.exec
  have hb := Bk.bytes
  have hr := Bk.returns
  have hlocks := Bk.notSynchronized
  have hC : CallFix p m c cX12_back 3 s _ wsX12_back RX12 := ⟨hx, hb, hml, findClass_of_methodNamed Bk.named, atoms_spec (ws := wsX12_back) Bk.pre⟩
  subst hsz
  have hD := hD0.self (sz := s.heap.size)
  generalize hAe : va_A w0 s.heap.size = A at hD hE ⊢
  have hA : ∀ q : Nat, s.heap.size ≤ q → A q := fun q h => by rw [← hAe]; exact Or.inr h
  have hw : Wd dC dI A s.heap s.heap [] w0 := ⟨hP, hD, va_S.rf⟩
  have hF : FE ksM ([] : List (Nat × Nat × Nat)) w0 w0 := FE.rf
  have hl := lv_entry ([.ref (ad 0), .int a1]) (n := 3) (Nat.le_of_ble_eq_true rfl)
  rw [lg_entry_eq]
  generalize (lg_sl ([.ref (ad 0), .int a1]) ++ List.replicate (3 - (lg_sl ([.ref (ad 0), .int a1])).length) Slot.unset).toArray = ls at hl ⊢
  have hl : lv_has ls 3 [(0, .ref (ad 0)), (1, .int a1)] := hl
  generalize hloc : ([] : List Loc) = locs at hw ⊢
  have J21 : ∀ (H : Heap) (locs : List Loc) (ls : Array Slot), 4 ≤ a1.toInt → Wd dC dI A s.heap H locs w0 → lv_has ls 3 [(0, .ref (ad 0)), (1, .int a1)] → W p l e ({ frames := 2, cells := 0, slots := 0, locals := 37 }) s m (List.toArray [.ref (ad 0), .int a1]) below meth c H locs 0 0 (MQ below (va_Qi (P_X12_back_7 ad cy B qr s1 a1 w0) (fun u : va_W => wpost dC dI cy A u) A) (List.toArray [.ref (ad 0), .int a1]) s 0 0 A) (F0 m 21 ls []) := by
    intro H locs ls r1 hw hl
    refine lv_iconst (v := (-1)) hx hb dX12_back_21 (by decide) ?_
    exact tk_iret hC hr hlocks hK ⟨rfl, rfl⟩ hw dX12_back_22
  refine lv_iload_n hx hb dX12_back_0 rfl (lv_at hl 1 rfl) ?_
  refine lv_i2l hx hb dX12_back_1 rfl ?_
  refine lv_topl (fun x2 ex2 => ?_)
  have ex2 : x2.toInt = a1.toInt := by rw [ex2]; exact wk_i2l _
  have bx2 := wk_i32 a1
  refine lv_lconst (v := 0) hx hb dX12_back_2 (by decide) ?_
  refine lv_ldc2 (v := 3) hx hb hC.2.2.2.1 (hC.2.2.2.2 _ (List.mem_of_getElem? (i := 1) rfl)) dX12_back_3 ?_
  refine tk_Si hC hK hw hT hA hE hSR (k_X12_in_25 l adK adV dC dI cy ad B (by omega) (by omega) qr s1   x2 (show 4 ≤ x2.toInt by omega) (show x2.toInt ≤ 2147483647 by omega) w0 s.heap.size hT ) (va_cwS 3 hC.2.2.2.2 gX12_back_X12_in rfl rfl rfl (by decide +kernel) ⟨Nat.le_of_ble_eq_true rfl, Nat.le_of_ble_eq_true rfl⟩) rfl hl.1 rfl (Nat.le_of_ble_eq_true rfl) dX12_back_6 (fun r3 w5 H locs hp4 hw => ?_)
  obtain ⟨rfl, hg7⟩ := hp4
  obtain rfl := hg7
  refine lv_if_eq (tgt := 21) hx hb dX12_back_9 (by decide) (fun _ => ?_) (fun c => absurd (by decide) c)
  exact J21  H locs ls  (show 4 ≤ a1.toInt by omega)  hw   (lv_sub hl [0, 1] rfl)
