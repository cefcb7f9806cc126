abbrev P_X11_image_5 (ad : Nat → Nat) (cy : Nat → ClassId) (B : Int) (qr : Nat) (s1 : Int)  (w0 : va_W) : Int32 → va_W → Prop := fun r u => TW ksC ad cy B qr s1 u ∧ FE ksC [(5, 8, 8), (5, 9, 9), (5, 10, 10), (5, 11, 11), (5, 12, 12), (5, 13, 13), (7, 8, 8), (7, 9, 9), (7, 10, 10), (7, 11, 11), (9, 0, 0), (9, 1, 1), (9, 2, 2), (9, 3, 3), (9, 4, 4), (9, 5, 5), (9, 6, 6), (9, 7, 7), (9, 8, 8), (24, 0, 100000), (25, 0, 100000), (26, 0, 100000), (27, 0, 100000), (28, 0, 100000), (29, 0, 100000), (30, 0, 100000), (31, 0, 100000), (32, 0, 100000), (34, 0, 100000), (35, 0, 100000), (36, 0, 100000), (37, 0, 100000), (38, 0, 100000), (41, 0, 4)] w0 u ∧ ((0 ≤ r.toInt ∧ r.toInt ≤ 4 ∧ ((gi u 123 13).toInt = (gi w0 38 13).toInt) ∧ ((gi u 144 3).toInt = 1) ∧ ((gi u 38 13).toInt = (gi w0 38 13).toInt) ∧ ((gi u 60 13).toInt = (gi w0 60 13).toInt) ∧ ((gi u 81 13).toInt = (gi w0 81 13).toInt) ∧ ((gi u 102 13).toInt = (gi w0 102 13).toInt) ∧ ((gi u 144 0).toInt = (gi w0 144 0).toInt) ∧ ((gi u 144 1).toInt = (gi w0 144 1).toInt) ∧ ((gi u 144 2).toInt = (gi w0 144 2).toInt)))
set_option maxHeartbeats 4000000 in
set_option maxRecDepth 100000 in
theorem k_X11_image_5 (l : Launch) (adK adV : Nat → Nat) (dC : Nat → ClassId) (dI : Nat → Nat → Nat) (cy : Nat → ClassId) (ad : Nat → Nat) (B : Int) (hB0 : 2147483648 ≤ B) (hB1 : B ≤ 1152921504606846976) (qr : Nat) (s1 : Int)   (w0 : va_W) (sz : Nat) (hT : TW ksC ad cy B qr s1 w0) (f0_ : Int32) (cf0_ : gi w0 102 13 = f0_) (rf0_ : 0 ≤ f0_.toInt) (tf0_ : f0_.toInt ≤ 2147483647) (f1_ : Int32) (cf1_ : gi w0 123 13 = f1_) (rf1_ : 0 ≤ f1_.toInt) (tf1_ : f1_.toInt ≤ 2147483647) (f2_ : Int32) (cf2_ : gi w0 144 0 = f2_) (rf2_ : 0 ≤ f2_.toInt) (tf2_ : f2_.toInt ≤ 1) (f3_ : Int32) (cf3_ : gi w0 144 1 = f3_) (rf3_ : 0 ≤ f3_.toInt) (tf3_ : f3_.toInt ≤ 1) (f4_ : Int32) (cf4_ : gi w0 144 2 = f4_) (rf4_ : 0 ≤ f4_.toInt) (tf4_ : f4_.toInt ≤ 1) (f5_ : Int32) (cf5_ : gi w0 144 3 = f5_) (rf5_ : 0 ≤ f5_.toInt) (tf5_ : f5_.toInt ≤ 1) (f6_ : Int32) (cf6_ : gi w0 38 13 = f6_) (rf6_ : 0 ≤ f6_.toInt) (tf6_ : f6_.toInt ≤ 2147483647) (f7_ : Int32) (cf7_ : gi w0 60 13 = f7_) (rf7_ : 0 ≤ f7_.toInt) (tf7_ : f7_.toInt ≤ 2147483647) (f8_ : Int32) (cf8_ : gi w0 81 13 = f8_) (rf8_ : 0 ≤ f8_.toInt) (tf8_ : f8_.toInt ≤ 2147483647) : Met l yX11_image wsX11_image ({ frames := 4, cells := 0, slots := 0, locals := 124 }) (va_Pc [.ref (ad 0), .int 3] (wpreS adK adV dC dI cy sz w0)) (va_Qi (P_X11_image_5 ad cy B qr s1  w0) (fun u : va_W => wpost dC dI cy (va_A w0 sz) u) (va_A w0 sz)) 0 0 (va_A w0 sz) := by
  refine Met.ofW (cc := cX11_image) (maxL := 2) (ret := (some .int)) (by decide) rfl ?_
  intro p e s m args below meth c s₁ Bk hml hv
  obtain ⟨rfl, ⟨hsz, hP, hK, hD0⟩, hE, hSR⟩ := hv
  have hx := Bk.exec
  have hb := Bk.bytes
  have hr := Bk.returns
  have hlocks := Bk.notSynchronized
  have hC : CallFix p m c cX11_image 2 s _ wsX11_image RX11 := ⟨hx, hb, hml, findClass_of_methodNamed Bk.named, atoms_spec (ws := wsX11_image) Bk.pre⟩
  subst hsz
  have hD := hD0.self (sz := s.heap.size)
  generalize hAe : va_A w0 s.heap.size = A at hD hE ⊢
  have hA : ∀ q : Nat, s.heap.size ≤ q → A q := fun q h => by rw [← hAe]; exact Or.inr h
  have hw : Wd dC dI A s.heap s.heap [] w0 := ⟨hP, hD, va_S.rf⟩
  have hF : FE ksC [(5, 8, 8), (5, 9, 9), (5, 10, 10), (5, 11, 11), (5, 12, 12), (5, 13, 13), (7, 8, 8), (7, 9, 9), (7, 10, 10), (7, 11, 11), (9, 0, 0), (9, 1, 1), (9, 2, 2), (9, 3, 3), (9, 4, 4), (9, 5, 5), (9, 6, 6), (9, 7, 7), (9, 8, 8), (24, 0, 100000), (25, 0, 100000), (26, 0, 100000), (27, 0, 100000), (28, 0, 100000), (29, 0, 100000), (30, 0, 100000), (31, 0, 100000), (32, 0, 100000), (34, 0, 100000), (35, 0, 100000), (36, 0, 100000), (37, 0, 100000), (38, 0, 100000), (41, 0, 4)] w0 w0 := FE.rf
  have hl := lv_entry ([.ref (ad 0), .int 3]) (n := 2) (Nat.le_of_ble_eq_true rfl)
  rw [lg_entry_eq]
  generalize (lg_sl ([.ref (ad 0), .int 3]) ++ List.replicate (2 - (lg_sl ([.ref (ad 0), .int 3])).length) Slot.unset).toArray = ls at hl ⊢
  have hl : lv_has ls 2 [(0, .ref (ad 0)), (1, .int 3)] := hl
  generalize hloc : ([] : List Loc) = locs at hw ⊢
  have hinX11 : ∀ w ∈ u_ws RX11 TX11 13, w ∈ wsX11_image := fun _ h => List.mem_cons_of_mem _ (List.mem_append_left _ (List.mem_append_left _ (List.mem_append_left _ (List.mem_append_right _ (h)))))
  have hinX5 : ∀ w ∈ u_ws RX5 TX5 14, w ∈ wsX11_image := fun _ h => List.mem_cons_of_mem _ (List.mem_append_left _ (List.mem_append_left _ (List.mem_append_right _ (h))))
  refine lv_iload_n hx hb dX11_image_0 rfl (lv_at hl 1 rfl) ?_
  refine lv_if_lt (tgt := 9) hx hb dX11_image_1 (by decide) (fun c => absurd c (by decide)) (fun _ => ?_)
  refine lv_iload_n hx hb dX11_image_4 rfl (lv_at hl 1 rfl) ?_
  refine lv_iconst (v := 4) hx hb dX11_image_5 (by decide) ?_
  refine lv_icmp_lt (tgt := 11) hx hb dX11_image_6 (by decide) (fun _ => ?_) (fun c => absurd (by decide) c)
  refine lv_aload_n hx hb dX11_image_11 rfl (lv_at hl 0 rfl) ?_
  refine tk_getA hC hK hw hT hinX11 kC_at0 (by decide) rfl 5 (by decide) (List.mem_of_getElem? (i := 1) rfl) rfl rfl dX11_image_12 ?_
  refine lv_iload_n hx hb dX11_image_15 rfl (lv_at hl 1 rfl) ?_
  refine tk_aald hC hK hw hT kC_at59 rfl (by decide) rfl (by decide) (by decide) dX11_image_16 (fun j1 hj1 gj1 => ?_)
  obtain rfl : j1 = 3 := by have := gj1; rw [show (3 : Int32).toInt = 3 by decide] at this; omega
  refine lv_aload_n hx hb dX11_image_17 rfl (lv_at hl 0 rfl) ?_
  refine tk_getA hC hK hw hT hinX11 kC_at0 (by decide) rfl 4 (by decide) (List.mem_of_getElem? (i := 2) rfl) rfl rfl dX11_image_18 ?_
  refine tk_Vv hC hK hw hT hA hE hSR kC_at123 (by decide) rfl (k_X5_copyFrom_9 l adK adV dC dI cy ad B (by omega) (by omega) qr s1    w0 s.heap.size hT f0_ cf0_ (show 0 ≤ f0_.toInt by omega) (show f0_.toInt ≤ 2147483647 by omega) f1_ cf1_ (show 0 ≤ f1_.toInt by omega) (show f1_.toInt ≤ 2147483647 by omega) f6_ cf6_ (show 0 ≤ f6_.toInt by omega) (show f6_.toInt ≤ 2147483647 by omega) f7_ cf7_ (show 0 ≤ f7_.toInt by omega) (show f7_.toInt ≤ 2147483647 by omega) f8_ cf8_ (show 0 ≤ f8_.toInt by omega) (show f8_.toInt ≤ 2147483647 by omega)) (cwV 1 hC.2.2.2.2 gX11_image_X5_copyFrom rfl rfl rfl (by decide +kernel) ⟨Nat.le_of_ble_eq_true rfl, Nat.le_of_ble_eq_true rfl⟩) rfl hl.1 rfl (Nat.le_of_ble_eq_true rfl) dX11_image_21 (fun w4 H locs hp3 hw => ?_)
  obtain ⟨hT, k5, hg11⟩ := hp3
  have hF := hF.tr k5 (by decide)
  have c12 := k5.gi kC_at144 (by decide) cf2_
  have c13 := k5.gi kC_at144 (by decide) cf3_
  have c14 := k5.gi kC_at144 (by decide) cf4_
  have c15 := k5.gi kC_at144 (by decide) cf5_
  obtain ⟨g6, g7, g8, g9, g10⟩ := hg11
  obtain ⟨x16, c17, rx16, tx16⟩ := hT.rdi (lo := 0) (hi := 2147483647) (k := 13) kC_at38 (by decide) rfl
  obtain ⟨x18, c19, rx18, tx18⟩ := hT.rdi (lo := 0) (hi := 2147483647) (k := 13) kC_at60 (by decide) rfl
  obtain ⟨x20, c21, rx20, tx20⟩ := hT.rdi (lo := 0) (hi := 2147483647) (k := 13) kC_at81 (by decide) rfl
  obtain ⟨x22, c23, rx22, tx22⟩ := hT.rdi (lo := 0) (hi := 2147483647) (k := 13) kC_at102 (by decide) rfl
  obtain ⟨x24, c25, rx24, tx24⟩ := hT.rdi (lo := 0) (hi := 2147483647) (k := 13) kC_at123 (by decide) rfl
  have g6 : x24.toInt = f6_.toInt := by have q := g6; simp only [cf6_, c25] at q; omega
  have g7 : x16.toInt = f6_.toInt := by have q := g7; simp only [cf6_, c17] at q; omega
  have g8 : x18.toInt = f7_.toInt := by have q := g8; simp only [cf7_, c19] at q; omega
  have g9 : x20.toInt = f8_.toInt := by have q := g9; simp only [cf8_, c21] at q; omega
  have g10 : x22.toInt = f0_.toInt := by have q := g10; simp only [cf0_, c23] at q; omega
  refine lv_aload_n hx hb dX11_image_24 rfl (lv_at hl 0 rfl) ?_
  refine tk_getA hC hK hw hT hinX11 kC_at0 (by decide) rfl 6 (by decide) (List.mem_of_getElem? (i := 3) rfl) rfl rfl dX11_image_25 ?_
  refine lv_iload_n hx hb dX11_image_28 rfl (lv_at hl 1 rfl) ?_
  refine lv_iconst (v := 1) hx hb dX11_image_29 (by decide) ?_
  refine tk_zast hC hK hw hT kC_at144 (by decide) rfl rfl (by decide) (by decide) (by decide) (by decide) dX11_image_30 (fun H locs w26 hw hT k28 c27 => ?_)
  have hF := hF.put kC_at144 (inE_of (a := 0) (b := 4) (by decide) (by decide) (by decide)) k28
  have c29 := k28.gi (Or.inr (by decide)) c12
  have c30 := k28.gi (Or.inr (by decide)) c13
  have c31 := k28.gi (Or.inr (by decide)) c14
  have c32 := k28.gi (Or.inl (tk_ne kC_at38 kC_at144 (by decide))) c17
  have c33 := k28.gi (Or.inl (tk_ne kC_at60 kC_at144 (by decide))) c19
  have c34 := k28.gi (Or.inl (tk_ne kC_at81 kC_at144 (by decide))) c21
  have c35 := k28.gi (Or.inl (tk_ne kC_at102 kC_at144 (by decide))) c23
  have c36 := k28.gi (Or.inl (tk_ne kC_at123 kC_at144 (by decide))) c25
  have c27 : gi w26 144 3 = 1 := c27
  refine lv_aload_n hx hb dX11_image_31 rfl (lv_at hl 0 rfl) ?_
  refine tk_getA hC hK hw hT hinX11 kC_at0 (by decide) rfl 4 (by decide) (List.mem_of_getElem? (i := 2) rfl) rfl rfl dX11_image_32 ?_
  refine tk_geti hC hK hw hT hinX5 kC_at38 (by decide) rfl 9 (by decide) (List.mem_of_getElem? (i := 4) rfl) rfl rfl dX11_image_35 (fun x37 c38 rx37 tx37 => ?_)
  exact tk_iret hC hr hlocks hK ⟨hT, hF, ⟨(show 0 ≤ x37.toInt by omega), (show x37.toInt ≤ 4 by omega), (by simp only [cf6_, c36] <;> omega), (by simp only [c27, (show (1 : Int32).toInt = 1 by decide)] <;> omega), (by simp only [cf6_, c32] <;> omega), (by simp only [cf7_, c33] <;> omega), (by simp only [cf8_, c34] <;> omega), (by simp only [cf0_, c35] <;> omega), (by simp only [cf2_, c29] <;> omega), (by simp only [cf3_, c30] <;> omega), (by simp only [cf4_, c31] <;> omega)⟩⟩ hw dX11_image_38
abbrev P_X7_copyFrom_11 (ad : Nat → Nat) (cy : Nat → ClassId) (B : Int) (qr : Nat) (s1 : Int)  (w0 : va_W) : va_W → Prop := fun u => TW ksC ad cy B qr s1 u ∧ FE ksC [(7, 8, 8), (7, 9, 9), (7, 10, 10), (7, 11, 11), (24, 0, 100000), (25, 0, 100000), (26, 0, 100000), (27, 0, 100000), (28, 0, 100000), (29, 0, 100000), (30, 0, 100000), (31, 0, 100000)] w0 u ∧ ((True))
set_option maxHeartbeats 4000000 in
set_option maxRecDepth 100000 in
theorem k_X7_copyFrom_11 (l : Launch) (adK adV : Nat → Nat) (dC : Nat → ClassId) (dI : Nat → Nat → Nat) (cy : Nat → ClassId) (ad : Nat → Nat) (B : Int) (hB0 : 2147483648 ≤ B) (hB1 : B ≤ 1152921504606846976) (qr : Nat) (s1 : Int)   (w0 : va_W) (sz : Nat) (hT : TW ksC ad cy B qr s1 w0)  : Met l yX7_copyFrom wsX7_copyFrom ({ frames := 1, cells := 0, slots := 0, locals := 60 }) (va_Pc [.ref (ad 39), .ref (ad 124)] (wpreS adK adV dC dI cy sz w0)) (va_Qv (P_X7_copyFrom_11 ad cy B qr s1  w0) (fun u : va_W => wpost dC dI cy (va_A w0 sz) u) (va_A w0 sz)) 0 0 (va_A w0 sz) := by
  refine Met.ofW (cc := cX7_copyFrom) (maxL := 2) (ret := none) (by decide) rfl ?_
  intro p e s m args below meth c s₁ Bk hml hv
  obtain ⟨rfl, ⟨hsz, hP, hK, hD0⟩, hE, hSR⟩ := hv
  have hx := Bk.exec
  have hb := Bk.bytes
  have hr := Bk.returns
  have hlocks := Bk.notSynchronized
  have hC : CallFix p m c cX7_copyFrom 2 s _ wsX7_copyFrom RX7 := ⟨hx, hb, hml, findClass_of_methodNamed Bk.named, atoms_spec (ws := wsX7_copyFrom) Bk.pre⟩
  subst hsz
  have hD := hD0.self (sz := s.heap.size)
  generalize hAe : va_A w0 s.heap.size = A at hD hE ⊢
  have hA : ∀ q : Nat, s.heap.size ≤ q → A q := fun q h => by rw [← hAe]; exact Or.inr h
  have hw : Wd dC dI A s.heap s.heap [] w0 := ⟨hP, hD, va_S.rf⟩
  have hF : FE ksC [(7, 8, 8), (7, 9, 9), (7, 10, 10), (7, 11, 11), (24, 0, 100000), (25, 0, 100000), (26, 0, 100000), (27, 0, 100000), (28, 0, 100000), (29, 0, 100000), (30, 0, 100000), (31, 0, 100000)] w0 w0 := FE.rf
  have hl := lv_entry ([.ref (ad 39), .ref (ad 124)]) (n := 2) (Nat.le_of_ble_eq_true rfl)
  rw [lg_entry_eq]
  generalize (lg_sl ([.ref (ad 39), .ref (ad 124)]) ++ List.replicate (2 - (lg_sl ([.ref (ad 39), .ref (ad 124)])).length) Slot.unset).toArray = ls at hl ⊢
  have hl : lv_has ls 2 [(0, .ref (ad 39)), (1, .ref (ad 124))] := hl
  generalize hloc : ([] : List Loc) = locs at hw ⊢
  have hinX7 : ∀ w ∈ u_ws RX7 TX7 12, w ∈ wsX7_copyFrom := fun _ h => List.mem_cons_of_mem _ (List.mem_append_right _ (h))
  refine lv_aload_n hx hb dX7_copyFrom_0 rfl (lv_at hl 1 rfl) ?_
  refine tk_getO hC hK hw hT hinX7 kC_at124 (by decide) rfl 0 (by decide) (List.mem_of_getElem? (i := 1) rfl) rfl rfl dX7_copyFrom_1 ?_
  refine lv_iconst (v := 0) hx hb dX7_copyFrom_4 (by decide) ?_
  refine lv_aload_n hx hb dX7_copyFrom_5 rfl (lv_at hl 0 rfl) ?_
  refine tk_getO hC hK hw hT hinX7 kC_at39 (by decide) rfl 0 (by decide) (List.mem_of_getElem? (i := 1) rfl) rfl rfl dX7_copyFrom_6 ?_
  refine lv_iconst (v := 0) hx hb dX7_copyFrom_9 (by decide) ?_
  refine lv_aload_n hx hb dX7_copyFrom_10 rfl (lv_at hl 0 rfl) ?_
  refine tk_getO hC hK hw hT hinX7 kC_at39 (by decide) rfl 0 (by decide) (List.mem_of_getElem? (i := 1) rfl) rfl rfl dX7_copyFrom_11 ?_
  refine tk_alen (v := 26) hC hK hw hT kC_at40 rfl (by decide) rfl (by decide) dX7_copyFrom_14 ?_
  refine tk_copy hC hK hw hT hl.1 (List.mem_of_getElem? (i := 2) rfl) (List.mem_of_getElem? (i := 3) rfl) (List.mem_of_getElem? (i := 4) rfl) (List.mem_of_getElem? (i := 5) rfl) kC_at125 kC_at40 (by decide) rfl rfl rfl rfl (by decide) (by decide) (by decide) (by decide) (by decide) (by decide) (by decide) (by decide) (Nat.le_of_ble_eq_true rfl) (by decide +kernel) dX7_copyFrom_15 (fun H locs w1 hw hT k2 => ?_)
  have hF := hF.tr k2 (by decide)
  refine lv_aload_n hx hb dX7_copyFrom_18 rfl (lv_at hl 1 rfl) ?_
  refine tk_getO hC hK hw hT hinX7 kC_at124 (by decide) rfl 1 (by decide) (List.mem_of_getElem? (i := 6) rfl) rfl rfl dX7_copyFrom_19 ?_
  refine lv_iconst (v := 0) hx hb dX7_copyFrom_22 (by decide) ?_
  refine lv_aload_n hx hb dX7_copyFrom_23 rfl (lv_at hl 0 rfl) ?_
  refine tk_getO hC hK hw hT hinX7 kC_at39 (by decide) rfl 1 (by decide) (List.mem_of_getElem? (i := 6) rfl) rfl rfl dX7_copyFrom_24 ?_
  refine lv_iconst (v := 0) hx hb dX7_copyFrom_27 (by decide) ?_
  refine lv_aload_n hx hb dX7_copyFrom_28 rfl (lv_at hl 0 rfl) ?_
  refine tk_getO hC hK hw hT hinX7 kC_at39 (by decide) rfl 1 (by decide) (List.mem_of_getElem? (i := 6) rfl) rfl rfl dX7_copyFrom_29 ?_
  refine tk_alen (v := 13) hC hK hw hT kC_at41 rfl (by decide) rfl (by decide) dX7_copyFrom_32 ?_
  refine tk_copy hC hK hw hT hl.1 (List.mem_of_getElem? (i := 2) rfl) (List.mem_of_getElem? (i := 3) rfl) (List.mem_of_getElem? (i := 4) rfl) (List.mem_of_getElem? (i := 5) rfl) kC_at126 kC_at41 (by decide) rfl rfl rfl rfl (by decide) (by decide) (by decide) (by decide) (by decide) (by decide) (by decide) (by decide) (Nat.le_of_ble_eq_true rfl) (by decide +kernel) dX7_copyFrom_33 (fun H locs w3 hw hT k4 => ?_)
  have hF := hF.tr k4 (by decide)
  refine lv_aload_n hx hb dX7_copyFrom_36 rfl (lv_at hl 1 rfl) ?_
  refine tk_getO hC hK hw hT hinX7 kC_at124 (by decide) rfl 2 (by decide) (List.mem_of_getElem? (i := 7) rfl) rfl rfl dX7_copyFrom_37 ?_
  refine lv_iconst (v := 0) hx hb dX7_copyFrom_40 (by decide) ?_
  refine lv_aload_n hx hb dX7_copyFrom_41 rfl (lv_at hl 0 rfl) ?_
  refine tk_getO hC hK hw hT hinX7 kC_at39 (by decide) rfl 2 (by decide) (List.mem_of_getElem? (i := 7) rfl) rfl rfl dX7_copyFrom_42 ?_
  refine lv_iconst (v := 0) hx hb dX7_copyFrom_45 (by decide) ?_
  refine lv_aload_n hx hb dX7_copyFrom_46 rfl (lv_at hl 0 rfl) ?_
  refine tk_getO hC hK hw hT hinX7 kC_at39 (by decide) rfl 2 (by decide) (List.mem_of_getElem? (i := 7) rfl) rfl rfl dX7_copyFrom_47 ?_
  refine tk_alen (v := 91) hC hK hw hT kC_at42 rfl (by decide) rfl (by decide) dX7_copyFrom_50 ?_
  refine tk_copy hC hK hw hT hl.1 (List.mem_of_getElem? (i := 2) rfl) (List.mem_of_getElem? (i := 3) rfl) (List.mem_of_getElem? (i := 4) rfl) (List.mem_of_getElem? (i := 5) rfl) kC_at127 kC_at42 (by decide) rfl rfl rfl rfl (by decide) (by decide) (by decide) (by decide) (by decide) (by decide) (by decide) (by decide) (Nat.le_of_ble_eq_true rfl) (by decide +kernel) dX7_copyFrom_51 (fun H locs w5 hw hT k6 => ?_)
  have hF := hF.tr k6 (by decide)
  refine lv_aload_n hx hb dX7_copyFrom_54 rfl (lv_at hl 1 rfl) ?_
  refine tk_getO hC hK hw hT hinX7 kC_at124 (by decide) rfl 3 (by decide) (List.mem_of_getElem? (i := 8) rfl) rfl rfl dX7_copyFrom_55 ?_
  refine lv_iconst (v := 0) hx hb dX7_copyFrom_58 (by decide) ?_
  refine lv_aload_n hx hb dX7_copyFrom_59 rfl (lv_at hl 0 rfl) ?_
  refine tk_getO hC hK hw hT hinX7 kC_at39 (by decide) rfl 3 (by decide) (List.mem_of_getElem? (i := 8) rfl) rfl rfl dX7_copyFrom_60 ?_
  refine lv_iconst (v := 0) hx hb dX7_copyFrom_63 (by decide) ?_
  refine lv_aload_n hx hb dX7_copyFrom_64 rfl (lv_at hl 0 rfl) ?_
  refine tk_getO hC hK hw hT hinX7 kC_at39 (by decide) rfl 3 (by decide) (List.mem_of_getElem? (i := 8) rfl) rfl rfl dX7_copyFrom_65 ?_
  refine tk_alen (v := 13) hC hK hw hT kC_at43 rfl (by decide) rfl (by decide) dX7_copyFrom_68 ?_
  refine tk_copy hC hK hw hT hl.1 (List.mem_of_getElem? (i := 2) rfl) (List.mem_of_getElem? (i := 3) rfl) (List.mem_of_getElem? (i := 4) rfl) (List.mem_of_getElem? (i := 5) rfl) kC_at128 kC_at43 (by decide) rfl rfl rfl rfl (by decide) (by decide) (by decide) (by decide) (by decide) (by decide) (by decide) (by decide) (Nat.le_of_ble_eq_true rfl) (by decide +kernel) dX7_copyFrom_69 (fun H locs w7 hw hT k8 => ?_)
  have hF := hF.tr k8 (by decide)
  refine lv_aload_n hx hb dX7_copyFrom_72 rfl (lv_at hl 1 rfl) ?_
  refine tk_getO hC hK hw hT hinX7 kC_at124 (by decide) rfl 4 (by decide) (List.mem_of_getElem? (i := 9) rfl) rfl rfl dX7_copyFrom_73 ?_
  refine lv_iconst (v := 0) hx hb dX7_copyFrom_76 (by decide) ?_
  refine lv_aload_n hx hb dX7_copyFrom_77 rfl (lv_at hl 0 rfl) ?_
  refine tk_getO hC hK hw hT hinX7 kC_at39 (by decide) rfl 4 (by decide) (List.mem_of_getElem? (i := 9) rfl) rfl rfl dX7_copyFrom_78 ?_
  refine lv_iconst (v := 0) hx hb dX7_copyFrom_81 (by decide) ?_
  refine lv_aload_n hx hb dX7_copyFrom_82 rfl (lv_at hl 0 rfl) ?_
  refine tk_getO hC hK hw hT hinX7 kC_at39 (by decide) rfl 4 (by decide) (List.mem_of_getElem? (i := 9) rfl) rfl rfl dX7_copyFrom_83 ?_
  refine tk_alen (v := 26) hC hK hw hT kC_at44 rfl (by decide) rfl (by decide) dX7_copyFrom_86 ?_
  refine tk_copy hC hK hw hT hl.1 (List.mem_of_getElem? (i := 2) rfl) (List.mem_of_getElem? (i := 3) rfl) (List.mem_of_getElem? (i := 4) rfl) (List.mem_of_getElem? (i := 5) rfl) kC_at129 kC_at44 (by decide) rfl rfl rfl rfl (by decide) (by decide) (by decide) (by decide) (by decide) (by decide) (by decide) (by decide) (Nat.le_of_ble_eq_true rfl) (by decide +kernel) dX7_copyFrom_87 (fun H locs w9 hw hT k10 => ?_)
  have hF := hF.tr k10 (by decide)
  refine lv_aload_n hx hb dX7_copyFrom_90 rfl (lv_at hl 1 rfl) ?_
  refine tk_getO hC hK hw hT hinX7 kC_at124 (by decide) rfl 5 (by decide) (List.mem_of_getElem? (i := 10) rfl) rfl rfl dX7_copyFrom_91 ?_
  refine lv_iconst (v := 0) hx hb dX7_copyFrom_94 (by decide) ?_
  refine lv_aload_n hx hb dX7_copyFrom_95 rfl (lv_at hl 0 rfl) ?_
  refine tk_getO hC hK hw hT hinX7 kC_at39 (by decide) rfl 5 (by decide) (List.mem_of_getElem? (i := 10) rfl) rfl rfl dX7_copyFrom_96 ?_
  refine lv_iconst (v := 0) hx hb dX7_copyFrom_99 (by decide) ?_
  refine lv_aload_n hx hb dX7_copyFrom_100 rfl (lv_at hl 0 rfl) ?_
  refine tk_getO hC hK hw hT hinX7 kC_at39 (by decide) rfl 5 (by decide) (List.mem_of_getElem? (i := 10) rfl) rfl rfl dX7_copyFrom_101 ?_
  refine tk_alen (v := 8) hC hK hw hT kC_at45 rfl (by decide) rfl (by decide) dX7_copyFrom_104 ?_
  refine tk_copy hC hK hw hT hl.1 (List.mem_of_getElem? (i := 2) rfl) (List.mem_of_getElem? (i := 3) rfl) (List.mem_of_getElem? (i := 4) rfl) (List.mem_of_getElem? (i := 5) rfl) kC_at130 kC_at45 (by decide) rfl rfl rfl rfl (by decide) (by decide) (by decide) (by decide) (by decide) (by decide) (by decide) (by decide) (Nat.le_of_ble_eq_true rfl) (by decide +kernel) dX7_copyFrom_105 (fun H locs w11 hw hT k12 => ?_)
  have hF := hF.tr k12 (by decide)
  refine lv_aload_n hx hb dX7_copyFrom_108 rfl (lv_at hl 1 rfl) ?_
  refine tk_getO hC hK hw hT hinX7 kC_at124 (by decide) rfl 6 (by decide) (List.mem_of_getElem? (i := 11) rfl) rfl rfl dX7_copyFrom_109 ?_
  refine lv_iconst (v := 0) hx hb dX7_copyFrom_112 (by decide) ?_
  refine lv_aload_n hx hb dX7_copyFrom_113 rfl (lv_at hl 0 rfl) ?_
  refine tk_getO hC hK hw hT hinX7 kC_at39 (by decide) rfl 6 (by decide) (List.mem_of_getElem? (i := 11) rfl) rfl rfl dX7_copyFrom_114 ?_
  refine lv_iconst (v := 0) hx hb dX7_copyFrom_117 (by decide) ?_
  refine lv_aload_n hx hb dX7_copyFrom_118 rfl (lv_at hl 0 rfl) ?_
  refine tk_getO hC hK hw hT hinX7 kC_at39 (by decide) rfl 6 (by decide) (List.mem_of_getElem? (i := 11) rfl) rfl rfl dX7_copyFrom_119 ?_
  refine tk_alen (v := 8) hC hK hw hT kC_at46 rfl (by decide) rfl (by decide) dX7_copyFrom_122 ?_
  refine tk_copy hC hK hw hT hl.1 (List.mem_of_getElem? (i := 2) rfl) (List.mem_of_getElem? (i := 3) rfl) (List.mem_of_getElem? (i := 4) rfl) (List.mem_of_getElem? (i := 5) rfl) kC_at131 kC_at46 (by decide) rfl rfl rfl rfl (by decide) (by decide) (by decide) (by decide) (by decide) (by decide) (by decide) (by decide) (Nat.le_of_ble_eq_true rfl) (by decide +kernel) dX7_copyFrom_123 (fun H locs w13 hw hT k14 => ?_)
  have hF := hF.tr k14 (by decide)
  refine lv_aload_n hx hb dX7_copyFrom_126 rfl (lv_at hl 1 rfl) ?_
  refine tk_getO hC hK hw hT hinX7 kC_at124 (by decide) rfl 7 (by decide) (List.mem_of_getElem? (i := 12) rfl) rfl rfl dX7_copyFrom_127 ?_
  refine lv_iconst (v := 0) hx hb dX7_copyFrom_130 (by decide) ?_
  refine lv_aload_n hx hb dX7_copyFrom_131 rfl (lv_at hl 0 rfl) ?_
  refine tk_getO hC hK hw hT hinX7 kC_at39 (by decide) rfl 7 (by decide) (List.mem_of_getElem? (i := 12) rfl) rfl rfl dX7_copyFrom_132 ?_
  refine lv_iconst (v := 0) hx hb dX7_copyFrom_135 (by decide) ?_
  refine lv_aload_n hx hb dX7_copyFrom_136 rfl (lv_at hl 0 rfl) ?_
  refine tk_getO hC hK hw hT hinX7 kC_at39 (by decide) rfl 7 (by decide) (List.mem_of_getElem? (i := 12) rfl) rfl rfl dX7_copyFrom_137 ?_
  refine tk_alen (v := 13) hC hK hw hT kC_at47 rfl (by decide) rfl (by decide) dX7_copyFrom_140 ?_
  refine tk_copy hC hK hw hT hl.1 (List.mem_of_getElem? (i := 2) rfl) (List.mem_of_getElem? (i := 3) rfl) (List.mem_of_getElem? (i := 4) rfl) (List.mem_of_getElem? (i := 5) rfl) kC_at132 kC_at47 (by decide) rfl rfl rfl rfl (by decide) (by decide) (by decide) (by decide) (by decide) (by decide) (by decide) (by decide) (Nat.le_of_ble_eq_true rfl) (by decide +kernel) dX7_copyFrom_141 (fun H locs w15 hw hT k16 => ?_)
  have hF := hF.tr k16 (by decide)
  refine lv_aload_n hx hb dX7_copyFrom_144 rfl (lv_at hl 0 rfl) ?_
  refine lv_aload_n hx hb dX7_copyFrom_145 rfl (lv_at hl 1 rfl) ?_
  refine tk_geti hC hK hw hT hinX7 kC_at124 (by decide) rfl 8 (by decide) (List.mem_of_getElem? (i := 13) rfl) rfl rfl dX7_copyFrom_146 (fun x17 c18 rx17 tx17 => ?_)
  refine tk_puti hC hK hw hT hinX7 tyX7_ok nmX7 kC_at39 (by decide) rfl rfl 8 (by decide) (List.mem_of_getElem? (i := 13) rfl) rfl rfl rfl rfl (show (-1) ≤ x17.toInt by omega) (show x17.toInt ≤ 10 by omega) dX7_copyFrom_149 (fun H locs w19 hw hT k21 c20 => ?_)
  have hF := hF.put kC_at39 (k := 8) (by decide) k21
  have c22 := k21.gi (Or.inl (by decide)) c18
  refine lv_aload_n hx hb dX7_copyFrom_152 rfl (lv_at hl 0 rfl) ?_
  refine lv_aload_n hx hb dX7_copyFrom_153 rfl (lv_at hl 1 rfl) ?_
  refine tk_geti hC hK hw hT hinX7 kC_at124 (by decide) rfl 9 (by decide) (List.mem_of_getElem? (i := 14) rfl) rfl rfl dX7_copyFrom_154 (fun x23 c24 rx23 tx23 => ?_)
  refine tk_puti hC hK hw hT hinX7 tyX7_ok nmX7 kC_at39 (by decide) rfl rfl 9 (by decide) (List.mem_of_getElem? (i := 14) rfl) rfl rfl rfl rfl (show 0 ≤ x23.toInt by omega) (show x23.toInt ≤ 12 by omega) dX7_copyFrom_157 (fun H locs w25 hw hT k27 c26 => ?_)
  have hF := hF.put kC_at39 (k := 9) (by decide) k27
  have c28 := k27.gi (Or.inr (by decide)) c22
  have c29 := k27.gi (Or.inr (by decide)) c20
  have c30 := k27.gi (Or.inl (by decide)) c24
  refine lv_aload_n hx hb dX7_copyFrom_160 rfl (lv_at hl 0 rfl) ?_
  refine lv_aload_n hx hb dX7_copyFrom_161 rfl (lv_at hl 1 rfl) ?_
  refine tk_geti hC hK hw hT hinX7 kC_at124 (by decide) rfl 10 (by decide) (List.mem_of_getElem? (i := 15) rfl) rfl rfl dX7_copyFrom_162 (fun x31 c32 rx31 tx31 => ?_)
  refine tk_puti hC hK hw hT hinX7 tyX7_ok nmX7 kC_at39 (by decide) rfl rfl 10 (by decide) (List.mem_of_getElem? (i := 15) rfl) rfl rfl rfl rfl (show 0 ≤ x31.toInt by omega) (show x31.toInt ≤ 8 by omega) dX7_copyFrom_165 (fun H locs w33 hw hT k35 c34 => ?_)
  have hF := hF.put kC_at39 (k := 10) (by decide) k35
  have c36 := k35.gi (Or.inr (by decide)) c28
  have c37 := k35.gi (Or.inr (by decide)) c29
  have c38 := k35.gi (Or.inr (by decide)) c30
  have c39 := k35.gi (Or.inr (by decide)) c26
  have c40 := k35.gi (Or.inl (by decide)) c32
  refine lv_aload_n hx hb dX7_copyFrom_168 rfl (lv_at hl 0 rfl) ?_
  refine lv_aload_n hx hb dX7_copyFrom_169 rfl (lv_at hl 1 rfl) ?_
  refine tk_geti hC hK hw hT hinX7 kC_at124 (by decide) rfl 11 (by decide) (List.mem_of_getElem? (i := 16) rfl) rfl rfl dX7_copyFrom_170 (fun x41 c42 rx41 tx41 => ?_)
  refine tk_puti hC hK hw hT hinX7 tyX7_ok nmX7 kC_at39 (by decide) rfl rfl 11 (by decide) (List.mem_of_getElem? (i := 16) rfl) rfl rfl rfl rfl (show 0 ≤ x41.toInt by omega) (show x41.toInt ≤ 4 by omega) dX7_copyFrom_173 (fun H locs w43 hw hT k45 c44 => ?_)
  have hF := hF.put kC_at39 (k := 11) (by decide) k45
  have c46 := k45.gi (Or.inr (by decide)) c36
  have c47 := k45.gi (Or.inr (by decide)) c37
  have c48 := k45.gi (Or.inr (by decide)) c38
  have c49 := k45.gi (Or.inr (by decide)) c39
  have c50 := k45.gi (Or.inr (by decide)) c40
  have c51 := k45.gi (Or.inr (by decide)) c34
  have c52 := k45.gi (Or.inl (by decide)) c42
  exact tk_vret hC hr hlocks hK ⟨hT, hF, trivial⟩ hw dX7_copyFrom_176
abbrev P_X5_moveTo_11 (ad : Nat → Nat) (cy : Nat → ClassId) (B : Int) (qr : Nat) (s1 : Int)  (w0 : va_W) : va_W → Prop := fun u => TW ksC ad cy B qr s1 u ∧ FE ksC [(5, 8, 8), (5, 9, 9), (5, 10, 10), (5, 11, 11), (5, 12, 12), (7, 8, 8), (7, 9, 9), (7, 10, 10), (7, 11, 11), (24, 0, 100000), (25, 0, 100000), (26, 0, 100000), (27, 0, 100000), (28, 0, 100000), (29, 0, 100000), (30, 0, 100000), (31, 0, 100000)] w0 u ∧ (((∃ y : Int32, gi u 38 8 = y ∧ 0 ≤ y.toInt ∧ y.toInt ≤ 0) ∧ (∃ y : Int32, gi u 38 9 = y ∧ 0 ≤ y.toInt ∧ y.toInt ≤ 0) ∧ (∃ y : Int32, gi u 38 10 = y ∧ 0 ≤ y.toInt ∧ y.toInt ≤ 0) ∧ (∃ y : Int32, gi u 38 11 = y ∧ 0 ≤ y.toInt ∧ y.toInt ≤ 0) ∧ (∃ y : Int32, gi u 38 12 = y ∧ 0 ≤ y.toInt ∧ y.toInt ≤ 0)))
set_option maxHeartbeats 4000000 in
set_option maxRecDepth 100000 in
theorem k_X5_moveTo_11 (l : Launch) (adK adV : Nat → Nat) (dC : Nat → ClassId) (dI : Nat → Nat → Nat) (cy : Nat → ClassId) (ad : Nat → Nat) (B : Int) (hB0 : 2147483648 ≤ B) (hB1 : B ≤ 1152921504606846976) (qr : Nat) (s1 : Int)   (w0 : va_W) (sz : Nat) (hT : TW ksC ad cy B qr s1 w0)  : Met l yX5_moveTo wsX5_moveTo ({ frames := 2, cells := 0, slots := 0, locals := 81 }) (va_Pc [.ref (ad 38), .ref (ad 124)] (wpreS adK adV dC dI cy sz w0)) (va_Qv (P_X5_moveTo_11 ad cy B qr s1  w0) (fun u : va_W => wpost dC dI cy (va_A w0 sz) u) (va_A w0 sz)) 0 0 (va_A w0 sz) := by
  refine Met.ofW (cc := cX5_moveTo) (maxL := 2) (ret := none) (by decide) rfl ?_
  intro p e s m args below meth c s₁ Bk hml hv
  obtain ⟨rfl, ⟨hsz, hP, hK, hD0⟩, hE, hSR⟩ := hv
  have hx := Bk.exec
  have hb := Bk.bytes
  have hr := Bk.returns
  have hlocks := Bk.notSynchronized
  have hC : CallFix p m c cX5_moveTo 2 s _ wsX5_moveTo RX5 := ⟨hx, hb, hml, findClass_of_methodNamed Bk.named, atoms_spec (ws := wsX5_moveTo) Bk.pre⟩
  subst hsz
  have hD := hD0.self (sz := s.heap.size)
  generalize hAe : va_A w0 s.heap.size = A at hD hE ⊢
  have hA : ∀ q : Nat, s.heap.size ≤ q → A q := fun q h => by rw [← hAe]; exact Or.inr h
  have hw : Wd dC dI A s.heap s.heap [] w0 := ⟨hP, hD, va_S.rf⟩
  have hF : FE ksC [(5, 8, 8), (5, 9, 9), (5, 10, 10), (5, 11, 11), (5, 12, 12), (7, 8, 8), (7, 9, 9), (7, 10, 10), (7, 11, 11), (24, 0, 100000), (25, 0, 100000), (26, 0, 100000), (27, 0, 100000), (28, 0, 100000), (29, 0, 100000), (30, 0, 100000), (31, 0, 100000)] w0 w0 := FE.rf
  have hl := lv_entry ([.ref (ad 38), .ref (ad 124)]) (n := 2) (Nat.le_of_ble_eq_true rfl)
  rw [lg_entry_eq]
  generalize (lg_sl ([.ref (ad 38), .ref (ad 124)]) ++ List.replicate (2 - (lg_sl ([.ref (ad 38), .ref (ad 124)])).length) Slot.unset).toArray = ls at hl ⊢
  have hl : lv_has ls 2 [(0, .ref (ad 38)), (1, .ref (ad 124))] := hl
  generalize hloc : ([] : List Loc) = locs at hw ⊢
  have hinX5 : ∀ w ∈ u_ws RX5 TX5 14, w ∈ wsX5_moveTo := fun _ h => List.mem_cons_of_mem _ (List.mem_append_left _ (List.mem_append_right _ (h)))
  refine lv_aload_n hx hb dX5_moveTo_0 rfl (lv_at hl 0 rfl) ?_
  refine tk_getO hC hK hw hT hinX5 kC_at38 (by decide) rfl 0 (by decide) (List.mem_of_getElem? (i := 1) rfl) rfl rfl dX5_moveTo_1 ?_
  refine lv_aload_n hx hb dX5_moveTo_4 rfl (lv_at hl 1 rfl) ?_
  refine tk_Vv hC hK hw hT hA hE hSR kC_at39 (by decide) rfl (k_X7_copyFrom_11 l adK adV dC dI cy ad B (by omega) (by omega) qr s1    w0 s.heap.size hT ) (cwV 1 hC.2.2.2.2 gX5_moveTo_X7_copyFrom rfl rfl rfl (by decide +kernel) ⟨Nat.le_of_ble_eq_true rfl, Nat.le_of_ble_eq_true rfl⟩) rfl hl.1 rfl (Nat.le_of_ble_eq_true rfl) dX5_moveTo_5 (fun w3 H locs hp2 hw => ?_)
  obtain ⟨hT, k4, hg5⟩ := hp2
  have hF := hF.tr k4 (by decide)
  clear hg5
  refine lv_aload_n hx hb dX5_moveTo_8 rfl (lv_at hl 0 rfl) ?_
  refine lv_iconst (v := 0) hx hb dX5_moveTo_9 (by decide) ?_
  refine tk_puti hC hK hw hT hinX5 tyX5_ok nmX5 kC_at38 (by decide) rfl rfl 8 (by decide) (List.mem_of_getElem? (i := 2) rfl) rfl rfl rfl rfl (by decide) (by decide) dX5_moveTo_10 (fun H locs w6 hw hT k8 c7 => ?_)
  have hF := hF.put kC_at38 (k := 8) (by decide) k8
  refine lv_aload_n hx hb dX5_moveTo_13 rfl (lv_at hl 0 rfl) ?_
  refine lv_iconst (v := 0) hx hb dX5_moveTo_14 (by decide) ?_
  refine tk_puti hC hK hw hT hinX5 tyX5_ok nmX5 kC_at38 (by decide) rfl rfl 9 (by decide) (List.mem_of_getElem? (i := 3) rfl) rfl rfl rfl rfl (by decide) (by decide) dX5_moveTo_15 (fun H locs w9 hw hT k11 c10 => ?_)
  have hF := hF.put kC_at38 (k := 9) (by decide) k11
  have c12 := k11.gi (Or.inr (by decide)) c7
  refine lv_aload_n hx hb dX5_moveTo_18 rfl (lv_at hl 0 rfl) ?_
  refine lv_iconst (v := 0) hx hb dX5_moveTo_19 (by decide) ?_
  refine tk_puti hC hK hw hT hinX5 tyX5_ok nmX5 kC_at38 (by decide) rfl rfl 10 (by decide) (List.mem_of_getElem? (i := 4) rfl) rfl rfl rfl rfl (by decide) (by decide) dX5_moveTo_20 (fun H locs w13 hw hT k15 c14 => ?_)
  have hF := hF.put kC_at38 (k := 10) (by decide) k15
  have c16 := k15.gi (Or.inr (by decide)) c12
  have c17 := k15.gi (Or.inr (by decide)) c10
  refine lv_aload_n hx hb dX5_moveTo_23 rfl (lv_at hl 0 rfl) ?_
  refine lv_iconst (v := 0) hx hb dX5_moveTo_24 (by decide) ?_
  refine tk_puti hC hK hw hT hinX5 tyX5_ok nmX5 kC_at38 (by decide) rfl rfl 11 (by decide) (List.mem_of_getElem? (i := 5) rfl) rfl rfl rfl rfl (by decide) (by decide) dX5_moveTo_25 (fun H locs w18 hw hT k20 c19 => ?_)
  have hF := hF.put kC_at38 (k := 11) (by decide) k20
  have c21 := k20.gi (Or.inr (by decide)) c16
  have c22 := k20.gi (Or.inr (by decide)) c17
  have c23 := k20.gi (Or.inr (by decide)) c14
  refine lv_aload_n hx hb dX5_moveTo_28 rfl (lv_at hl 0 rfl) ?_
  refine lv_iconst (v := 0) hx hb dX5_moveTo_29 (by decide) ?_
  refine tk_puti hC hK hw hT hinX5 tyX5_ok nmX5 kC_at38 (by decide) rfl rfl 12 (by decide) (List.mem_of_getElem? (i := 6) rfl) rfl rfl rfl rfl (by decide) (by decide) dX5_moveTo_30 (fun H locs w24 hw hT k26 c25 => ?_)
  have hF := hF.put kC_at38 (k := 12) (by decide) k26
  have c27 := k26.gi (Or.inr (by decide)) c21
  have c28 := k26.gi (Or.inr (by decide)) c22
  have c29 := k26.gi (Or.inr (by decide)) c23
  have c30 := k26.gi (Or.inr (by decide)) c19
  exact tk_vret hC hr hlocks hK ⟨hT, hF, ⟨⟨0, c27, (by decide), (by decide)⟩, ⟨0, c28, (by decide), (by decide)⟩, ⟨0, c29, (by decide), (by decide)⟩, ⟨0, c30, (by decide), (by decide)⟩, ⟨0, c25, (by decide), (by decide)⟩⟩⟩ hw dX5_moveTo_33
abbrev P_X5_copyFrom_10 (ad : Nat → Nat) (cy : Nat → ClassId) (B : Int) (qr : Nat) (s1 : Int)  (w0 : va_W) : va_W → Prop := fun u => TW ksC ad cy B qr s1 u ∧ FE ksC [(5, 8, 8), (5, 9, 9), (5, 10, 10), (5, 11, 11), (5, 12, 12), (5, 13, 13), (7, 8, 8), (7, 9, 9), (7, 10, 10), (7, 11, 11), (9, 0, 0), (9, 1, 1), (9, 2, 2), (9, 3, 3), (9, 4, 4), (9, 5, 5), (9, 6, 6), (9, 7, 7), (9, 8, 8), (24, 0, 100000), (25, 0, 100000), (26, 0, 100000), (27, 0, 100000), (28, 0, 100000), (29, 0, 100000), (30, 0, 100000), (31, 0, 100000), (32, 0, 100000), (34, 0, 100000), (35, 0, 100000), (36, 0, 100000), (37, 0, 100000), (38, 0, 100000)] w0 u ∧ ((((gi u 38 13).toInt = (gi w0 123 13).toInt) ∧ ((gi u 60 13).toInt = (gi w0 60 13).toInt) ∧ ((gi u 81 13).toInt = (gi w0 81 13).toInt) ∧ ((gi u 102 13).toInt = (gi w0 102 13).toInt) ∧ ((gi u 123 13).toInt = (gi w0 123 13).toInt)))
set_option maxHeartbeats 4000000 in
set_option maxRecDepth 100000 in
theorem k_X5_copyFrom_10 (l : Launch) (adK adV : Nat → Nat) (dC : Nat → ClassId) (dI : Nat → Nat → Nat) (cy : Nat → ClassId) (ad : Nat → Nat) (B : Int) (hB0 : 2147483648 ≤ B) (hB1 : B ≤ 1152921504606846976) (qr : Nat) (s1 : Int)   (w0 : va_W) (sz : Nat) (hT : TW ksC ad cy B qr s1 w0) (f0_ : Int32) (cf0_ : gi w0 102 13 = f0_) (rf0_ : 0 ≤ f0_.toInt) (tf0_ : f0_.toInt ≤ 2147483647) (f1_ : Int32) (cf1_ : gi w0 123 13 = f1_) (rf1_ : 0 ≤ f1_.toInt) (tf1_ : f1_.toInt ≤ 2147483647) (f2_ : Int32) (cf2_ : gi w0 38 13 = f2_) (rf2_ : 0 ≤ f2_.toInt) (tf2_ : f2_.toInt ≤ 2147483647) (f3_ : Int32) (cf3_ : gi w0 60 13 = f3_) (rf3_ : 0 ≤ f3_.toInt) (tf3_ : f3_.toInt ≤ 2147483647) (f4_ : Int32) (cf4_ : gi w0 81 13 = f4_) (rf4_ : 0 ≤ f4_.toInt) (tf4_ : f4_.toInt ≤ 2147483647) : Met l yX5_copyFrom wsX5_copyFrom ({ frames := 3, cells := 0, slots := 0, locals := 102 }) (va_Pc [.ref (ad 38), .ref (ad 123)] (wpreS adK adV dC dI cy sz w0)) (va_Qv (P_X5_copyFrom_10 ad cy B qr s1  w0) (fun u : va_W => wpost dC dI cy (va_A w0 sz) u) (va_A w0 sz)) 0 0 (va_A w0 sz) := by
  refine Met.ofW (cc := cX5_copyFrom) (maxL := 3) (ret := none) (by decide) rfl ?_
  intro p e s m args below meth c s₁ Bk hml hv
  obtain ⟨rfl, ⟨hsz, hP, hK, hD0⟩, hE, hSR⟩ := hv
  have hx := Bk.exec
  have hb := Bk.bytes
  have hr := Bk.returns
  have hlocks := Bk.notSynchronized
  have hC : CallFix p m c cX5_copyFrom 3 s _ wsX5_copyFrom RX5 := ⟨hx, hb, hml, findClass_of_methodNamed Bk.named, atoms_spec (ws := wsX5_copyFrom) Bk.pre⟩
  subst hsz
  have hD := hD0.self (sz := s.heap.size)
  generalize hAe : va_A w0 s.heap.size = A at hD hE ⊢
  have hA : ∀ q : Nat, s.heap.size ≤ q → A q := fun q h => by rw [← hAe]; exact Or.inr h
  have hw : Wd dC dI A s.heap s.heap [] w0 := ⟨hP, hD, va_S.rf⟩
  have hF : FE ksC [(5, 8, 8), (5, 9, 9), (5, 10, 10), (5, 11, 11), (5, 12, 12), (5, 13, 13), (7, 8, 8), (7, 9, 9), (7, 10, 10), (7, 11, 11), (9, 0, 0), (9, 1, 1), (9, 2, 2), (9, 3, 3), (9, 4, 4), (9, 5, 5), (9, 6, 6), (9, 7, 7), (9, 8, 8), (24, 0, 100000), (25, 0, 100000), (26, 0, 100000), (27, 0, 100000), (28, 0, 100000), (29, 0, 100000), (30, 0, 100000), (31, 0, 100000), (32, 0, 100000), (34, 0, 100000), (35, 0, 100000), (36, 0, 100000), (37, 0, 100000), (38, 0, 100000)] w0 w0 := FE.rf
  have hl := lv_entry ([.ref (ad 38), .ref (ad 123)]) (n := 3) (Nat.le_of_ble_eq_true rfl)
  rw [lg_entry_eq]
  generalize (lg_sl ([.ref (ad 38), .ref (ad 123)]) ++ List.replicate (3 - (lg_sl ([.ref (ad 38), .ref (ad 123)])).length) Slot.unset).toArray = ls at hl ⊢
  have hl : lv_has ls 3 [(0, .ref (ad 38)), (1, .ref (ad 123))] := hl
  generalize hloc : ([] : List Loc) = locs at hw ⊢
  have hinX5 : ∀ w ∈ u_ws RX5 TX5 14, w ∈ wsX5_copyFrom := fun _ h => List.mem_cons_of_mem _ (List.mem_append_left _ (List.mem_append_left _ (List.mem_append_right _ (h))))
  have L28 : ∀ (n28 : Nat) (v28_2 : Int32) (H : Heap) (locs : List Loc) (ls : Array Slot) (w1 : va_W), 0 ≤ v28_2.toInt → v28_2.toInt ≤ 4 → 0 ≤ f0_.toInt → 0 ≤ f1_.toInt → 0 ≤ f2_.toInt → 0 ≤ f3_.toInt → 0 ≤ f4_.toInt → (4 - v28_2.toInt).toNat < n28 → Wd dC dI A s.heap H locs w1 → TW ksC ad cy B qr s1 w1 → FE ksC [(5, 8, 8), (5, 9, 9), (5, 10, 10), (5, 11, 11), (5, 12, 12), (5, 13, 13), (7, 8, 8), (7, 9, 9), (7, 10, 10), (7, 11, 11), (9, 0, 0), (9, 1, 1), (9, 2, 2), (9, 3, 3), (9, 4, 4), (9, 5, 5), (9, 6, 6), (9, 7, 7), (9, 8, 8), (24, 0, 100000), (25, 0, 100000), (26, 0, 100000), (27, 0, 100000), (28, 0, 100000), (29, 0, 100000), (30, 0, 100000), (31, 0, 100000), (32, 0, 100000), (34, 0, 100000), (35, 0, 100000), (36, 0, 100000), (37, 0, 100000), (38, 0, 100000)] w0 w1 → gi w1 102 13 = f0_ → gi w1 123 13 = f1_ → gi w1 38 10 = 0 → gi w1 38 11 = 0 → gi w1 38 12 = 0 → gi w1 38 13 = f2_ → gi w1 38 8 = 0 → gi w1 38 9 = 0 → gi w1 60 13 = f3_ → gi w1 81 13 = f4_ → lv_has ls 3 [(0, .ref (ad 38)), (1, .ref (ad 123)), (2, .int v28_2)] → W p l e ({ frames := 3, cells := 0, slots := 0, locals := 102 }) s m (List.toArray [.ref (ad 38), .ref (ad 123)]) below meth c H locs 0 0 (MQ below (va_Qv (P_X5_copyFrom_10 ad cy B qr s1  w0) (fun u : va_W => wpost dC dI cy A u) A) (List.toArray [.ref (ad 38), .ref (ad 123)]) s 0 0 A) (F0 m 28 ls []) := by
    intro n28
    induction n28 with
    | zero => intro v28_2 H locs ls w1 r2 t3 r4 r6 r11 r15 r17 hm28 hw hT hF c5 c7 c8 c9 c10 c12 c13 c14 c16 c18 hl; omega
    | succ n28 ih28 =>
      intro v28_2 H locs ls w1 r2 t3 r4 r6 r11 r15 r17 hm28 hw hT hF c5 c7 c8 c9 c10 c12 c13 c14 c16 c18 hl
      refine lv_iload_n hx hb dX5_copyFrom_28 rfl (lv_at hl 2 rfl) ?_
      refine lv_iconst (v := 4) hx hb dX5_copyFrom_29 (by decide) ?_
      refine lv_icmp_ge (tgt := 54) hx hb dX5_copyFrom_30 (by decide) (fun c19 => ?_) (fun c19 => ?_)
      · have c19 : (4 : Int) ≤ v28_2.toInt := wk_le.mp c19
        refine lv_aload_n hx hb dX5_copyFrom_54 rfl (lv_at hl 1 rfl) ?_
        refine tk_getO hC hK hw hT hinX5 kC_at123 (by decide) rfl 3 (by decide) (List.mem_of_getElem? (i := 8) rfl) rfl rfl dX5_copyFrom_55 ?_
        refine lv_iconst (v := 0) hx hb dX5_copyFrom_58 (by decide) ?_
        refine lv_aload_n hx hb dX5_copyFrom_59 rfl (lv_at hl 0 rfl) ?_
        refine tk_getO hC hK hw hT hinX5 kC_at38 (by decide) rfl 3 (by decide) (List.mem_of_getElem? (i := 8) rfl) rfl rfl dX5_copyFrom_60 ?_
        refine lv_iconst (v := 0) hx hb dX5_copyFrom_63 (by decide) ?_
        refine lv_bipush (v := 6) hx hb dX5_copyFrom_64 (by decide) ?_
        refine tk_copy hC hK hw hT hl.1 (List.mem_of_getElem? (i := 3) rfl) (List.mem_of_getElem? (i := 4) rfl) (List.mem_of_getElem? (i := 5) rfl) (List.mem_of_getElem? (i := 6) rfl) kC_at135 kC_at50 (by decide) rfl rfl rfl rfl (by decide) (by decide) (by decide) (by decide) (by decide) (by decide) (by decide) (by decide) (Nat.le_of_ble_eq_true rfl) (by decide +kernel) dX5_copyFrom_66 (fun H locs w20 hw hT k21 => ?_)
        have hF := hF.tr k21 (by decide)
        have c22 := k21.gi kC_at102 (by decide) c5
        have c23 := k21.gi kC_at123 (by decide) c7
        have c24 := k21.gi kC_at38 (by decide) c8
        have c25 := k21.gi kC_at38 (by decide) c9
        have c26 := k21.gi kC_at38 (by decide) c10
        have c27 := k21.gi kC_at38 (by decide) c12
        have c28 := k21.gi kC_at38 (by decide) c13
        have c29 := k21.gi kC_at38 (by decide) c14
        have c30 := k21.gi kC_at60 (by decide) c16
        have c31 := k21.gi kC_at81 (by decide) c18
        refine lv_aload_n hx hb dX5_copyFrom_69 rfl (lv_at hl 1 rfl) ?_
        refine tk_getO hC hK hw hT hinX5 kC_at123 (by decide) rfl 4 (by decide) (List.mem_of_getElem? (i := 9) rfl) rfl rfl dX5_copyFrom_70 ?_
        refine lv_iconst (v := 0) hx hb dX5_copyFrom_73 (by decide) ?_
        refine lv_aload_n hx hb dX5_copyFrom_74 rfl (lv_at hl 0 rfl) ?_
        refine tk_getO hC hK hw hT hinX5 kC_at38 (by decide) rfl 4 (by decide) (List.mem_of_getElem? (i := 9) rfl) rfl rfl dX5_copyFrom_75 ?_
        refine lv_iconst (v := 0) hx hb dX5_copyFrom_78 (by decide) ?_
        refine lv_bipush (v := 6) hx hb dX5_copyFrom_79 (by decide) ?_
        refine tk_copy hC hK hw hT hl.1 (List.mem_of_getElem? (i := 3) rfl) (List.mem_of_getElem? (i := 4) rfl) (List.mem_of_getElem? (i := 5) rfl) (List.mem_of_getElem? (i := 6) rfl) kC_at136 kC_at51 (by decide) rfl rfl rfl rfl (by decide) (by decide) (by decide) (by decide) (by decide) (by decide) (by decide) (by decide) (Nat.le_of_ble_eq_true rfl) (by decide +kernel) dX5_copyFrom_81 (fun H locs w32 hw hT k33 => ?_)
        have hF := hF.tr k33 (by decide)
        have c34 := k33.gi kC_at102 (by decide) c22
        have c35 := k33.gi kC_at123 (by decide) c23
        have c36 := k33.gi kC_at38 (by decide) c24
        have c37 := k33.gi kC_at38 (by decide) c25
        have c38 := k33.gi kC_at38 (by decide) c26
        have c39 := k33.gi kC_at38 (by decide) c27
        have c40 := k33.gi kC_at38 (by decide) c28
        have c41 := k33.gi kC_at38 (by decide) c29
        have c42 := k33.gi kC_at60 (by decide) c30
        have c43 := k33.gi kC_at81 (by decide) c31
        refine lv_aload_n hx hb dX5_copyFrom_84 rfl (lv_at hl 1 rfl) ?_
        refine tk_getO hC hK hw hT hinX5 kC_at123 (by decide) rfl 5 (by decide) (List.mem_of_getElem? (i := 10) rfl) rfl rfl dX5_copyFrom_85 ?_
        refine lv_iconst (v := 0) hx hb dX5_copyFrom_88 (by decide) ?_
        refine lv_aload_n hx hb dX5_copyFrom_89 rfl (lv_at hl 0 rfl) ?_
        refine tk_getO hC hK hw hT hinX5 kC_at38 (by decide) rfl 5 (by decide) (List.mem_of_getElem? (i := 10) rfl) rfl rfl dX5_copyFrom_90 ?_
        refine lv_iconst (v := 0) hx hb dX5_copyFrom_93 (by decide) ?_
        refine lv_bipush (v := 12) hx hb dX5_copyFrom_94 (by decide) ?_
        refine tk_copy hC hK hw hT hl.1 (List.mem_of_getElem? (i := 3) rfl) (List.mem_of_getElem? (i := 4) rfl) (List.mem_of_getElem? (i := 5) rfl) (List.mem_of_getElem? (i := 6) rfl) kC_at137 kC_at52 (by decide) rfl rfl rfl rfl (by decide) (by decide) (by decide) (by decide) (by decide) (by decide) (by decide) (by decide) (Nat.le_of_ble_eq_true rfl) (by decide +kernel) dX5_copyFrom_96 (fun H locs w44 hw hT k45 => ?_)
        have hF := hF.tr k45 (by decide)
        have c46 := k45.gi kC_at102 (by decide) c34
        have c47 := k45.gi kC_at123 (by decide) c35
        have c48 := k45.gi kC_at38 (by decide) c36
        have c49 := k45.gi kC_at38 (by decide) c37
        have c50 := k45.gi kC_at38 (by decide) c38
        have c51 := k45.gi kC_at38 (by decide) c39
        have c52 := k45.gi kC_at38 (by decide) c40
        have c53 := k45.gi kC_at38 (by decide) c41
        have c54 := k45.gi kC_at60 (by decide) c42
        have c55 := k45.gi kC_at81 (by decide) c43
        refine lv_aload_n hx hb dX5_copyFrom_99 rfl (lv_at hl 1 rfl) ?_
        refine tk_getO hC hK hw hT hinX5 kC_at123 (by decide) rfl 6 (by decide) (List.mem_of_getElem? (i := 11) rfl) rfl rfl dX5_copyFrom_100 ?_
        refine lv_iconst (v := 0) hx hb dX5_copyFrom_103 (by decide) ?_
        refine lv_aload_n hx hb dX5_copyFrom_104 rfl (lv_at hl 0 rfl) ?_
        refine tk_getO hC hK hw hT hinX5 kC_at38 (by decide) rfl 6 (by decide) (List.mem_of_getElem? (i := 11) rfl) rfl rfl dX5_copyFrom_105 ?_
        refine lv_iconst (v := 0) hx hb dX5_copyFrom_108 (by decide) ?_
        refine lv_bipush (v := 12) hx hb dX5_copyFrom_109 (by decide) ?_
        refine tk_copy hC hK hw hT hl.1 (List.mem_of_getElem? (i := 3) rfl) (List.mem_of_getElem? (i := 4) rfl) (List.mem_of_getElem? (i := 5) rfl) (List.mem_of_getElem? (i := 6) rfl) kC_at138 kC_at53 (by decide) rfl rfl rfl rfl (by decide) (by decide) (by decide) (by decide) (by decide) (by decide) (by decide) (by decide) (Nat.le_of_ble_eq_true rfl) (by decide +kernel) dX5_copyFrom_111 (fun H locs w56 hw hT k57 => ?_)
        have hF := hF.tr k57 (by decide)
        have c58 := k57.gi kC_at102 (by decide) c46
        have c59 := k57.gi kC_at123 (by decide) c47
        have c60 := k57.gi kC_at38 (by decide) c48
        have c61 := k57.gi kC_at38 (by decide) c49
        have c62 := k57.gi kC_at38 (by decide) c50
        have c63 := k57.gi kC_at38 (by decide) c51
        have c64 := k57.gi kC_at38 (by decide) c52
        have c65 := k57.gi kC_at38 (by decide) c53
        have c66 := k57.gi kC_at60 (by decide) c54
        have c67 := k57.gi kC_at81 (by decide) c55
        refine lv_aload_n hx hb dX5_copyFrom_114 rfl (lv_at hl 1 rfl) ?_
        refine tk_getO hC hK hw hT hinX5 kC_at123 (by decide) rfl 7 (by decide) (List.mem_of_getElem? (i := 12) rfl) rfl rfl dX5_copyFrom_115 ?_
        refine lv_iconst (v := 0) hx hb dX5_copyFrom_118 (by decide) ?_
        refine lv_aload_n hx hb dX5_copyFrom_119 rfl (lv_at hl 0 rfl) ?_
        refine tk_getO hC hK hw hT hinX5 kC_at38 (by decide) rfl 7 (by decide) (List.mem_of_getElem? (i := 12) rfl) rfl rfl dX5_copyFrom_120 ?_
        refine lv_iconst (v := 0) hx hb dX5_copyFrom_123 (by decide) ?_
        refine lv_bipush (v := 8) hx hb dX5_copyFrom_124 (by decide) ?_
        refine tk_copy hC hK hw hT hl.1 (List.mem_of_getElem? (i := 3) rfl) (List.mem_of_getElem? (i := 4) rfl) (List.mem_of_getElem? (i := 5) rfl) (List.mem_of_getElem? (i := 6) rfl) kC_at139 kC_at54 (by decide) rfl rfl rfl rfl (by decide) (by decide) (by decide) (by decide) (by decide) (by decide) (by decide) (by decide) (Nat.le_of_ble_eq_true rfl) (by decide +kernel) dX5_copyFrom_126 (fun H locs w68 hw hT k69 => ?_)
        have hF := hF.tr k69 (by decide)
        have c70 := k69.gi kC_at102 (by decide) c58
        have c71 := k69.gi kC_at123 (by decide) c59
        have c72 := k69.gi kC_at38 (by decide) c60
        have c73 := k69.gi kC_at38 (by decide) c61
        have c74 := k69.gi kC_at38 (by decide) c62
        have c75 := k69.gi kC_at38 (by decide) c63
        have c76 := k69.gi kC_at38 (by decide) c64
        have c77 := k69.gi kC_at38 (by decide) c65
        have c78 := k69.gi kC_at60 (by decide) c66
        have c79 := k69.gi kC_at81 (by decide) c67
        refine lv_aload_n hx hb dX5_copyFrom_129 rfl (lv_at hl 0 rfl) ?_
        refine lv_aload_n hx hb dX5_copyFrom_130 rfl (lv_at hl 1 rfl) ?_
        refine tk_geti hC hK hw hT hinX5 kC_at123 (by decide) rfl 8 (by decide) (List.mem_of_getElem? (i := 13) rfl) rfl rfl dX5_copyFrom_131 (fun x80 c81 rx80 tx80 => ?_)
        refine tk_puti hC hK hw hT hinX5 tyX5_ok nmX5 kC_at38 (by decide) rfl rfl 8 (by decide) (List.mem_of_getElem? (i := 13) rfl) rfl rfl rfl rfl (show 0 ≤ x80.toInt by omega) (show x80.toInt ≤ 4 by omega) dX5_copyFrom_134 (fun H locs w82 hw hT k84 c83 => ?_)
        have hF := hF.put kC_at38 (k := 8) (by decide) k84
        have c85 := k84.gi (Or.inr (by decide)) c70
        have c86 := k84.gi (Or.inr (by decide)) c71
        have c87 := k84.gi (Or.inr (by decide)) c72
        have c88 := k84.gi (Or.inr (by decide)) c73
        have c89 := k84.gi (Or.inr (by decide)) c74
        have c90 := k84.gi (Or.inr (by decide)) c75
        have c91 := k84.gi (Or.inr (by decide)) c77
        have c92 := k84.gi (Or.inr (by decide)) c78
        have c93 := k84.gi (Or.inr (by decide)) c79
        have c94 := k84.gi (Or.inl (by decide)) c81
        refine lv_aload_n hx hb dX5_copyFrom_137 rfl (lv_at hl 0 rfl) ?_
        refine lv_aload_n hx hb dX5_copyFrom_138 rfl (lv_at hl 1 rfl) ?_
        refine tk_geti hC hK hw hT hinX5 kC_at123 (by decide) rfl 9 (by decide) (List.mem_of_getElem? (i := 14) rfl) rfl rfl dX5_copyFrom_139 (fun x95 c96 rx95 tx95 => ?_)
        refine tk_puti hC hK hw hT hinX5 tyX5_ok nmX5 kC_at38 (by decide) rfl rfl 9 (by decide) (List.mem_of_getElem? (i := 14) rfl) rfl rfl rfl rfl (show 0 ≤ x95.toInt by omega) (show x95.toInt ≤ 4 by omega) dX5_copyFrom_142 (fun H locs w97 hw hT k99 c98 => ?_)
        have hF := hF.put kC_at38 (k := 9) (by decide) k99
        have c100 := k99.gi (Or.inr (by decide)) c85
        have c101 := k99.gi (Or.inr (by decide)) c86
        have c102 := k99.gi (Or.inr (by decide)) c87
        have c103 := k99.gi (Or.inr (by decide)) c88
        have c104 := k99.gi (Or.inr (by decide)) c89
        have c105 := k99.gi (Or.inr (by decide)) c90
        have c106 := k99.gi (Or.inr (by decide)) c92
        have c107 := k99.gi (Or.inr (by decide)) c93
        have c108 := k99.gi (Or.inr (by decide)) c94
        have c109 := k99.gi (Or.inr (by decide)) c83
        have c110 := k99.gi (Or.inl (by decide)) c96
        refine lv_aload_n hx hb dX5_copyFrom_145 rfl (lv_at hl 0 rfl) ?_
        refine lv_aload_n hx hb dX5_copyFrom_146 rfl (lv_at hl 1 rfl) ?_
        refine tk_geti hC hK hw hT hinX5 kC_at123 (by decide) rfl 10 (by decide) (List.mem_of_getElem? (i := 15) rfl) rfl rfl dX5_copyFrom_147 (fun x111 c112 rx111 tx111 => ?_)
        refine tk_puti hC hK hw hT hinX5 tyX5_ok nmX5 kC_at38 (by decide) rfl rfl 10 (by decide) (List.mem_of_getElem? (i := 15) rfl) rfl rfl rfl rfl (show 0 ≤ x111.toInt by omega) (show x111.toInt ≤ 6 by omega) dX5_copyFrom_150 (fun H locs w113 hw hT k115 c114 => ?_)
        have hF := hF.put kC_at38 (k := 10) (by decide) k115
        have c116 := k115.gi (Or.inr (by decide)) c100
        have c117 := k115.gi (Or.inr (by decide)) c101
        have c118 := k115.gi (Or.inr (by decide)) c103
        have c119 := k115.gi (Or.inr (by decide)) c104
        have c120 := k115.gi (Or.inr (by decide)) c105
        have c121 := k115.gi (Or.inr (by decide)) c106
        have c122 := k115.gi (Or.inr (by decide)) c107
        have c123 := k115.gi (Or.inr (by decide)) c108
        have c124 := k115.gi (Or.inr (by decide)) c109
        have c125 := k115.gi (Or.inr (by decide)) c110
        have c126 := k115.gi (Or.inr (by decide)) c98
        have c127 := k115.gi (Or.inl (by decide)) c112
        refine lv_aload_n hx hb dX5_copyFrom_153 rfl (lv_at hl 0 rfl) ?_
        refine lv_aload_n hx hb dX5_copyFrom_154 rfl (lv_at hl 1 rfl) ?_
        refine tk_geti hC hK hw hT hinX5 kC_at123 (by decide) rfl 11 (by decide) (List.mem_of_getElem? (i := 16) rfl) rfl rfl dX5_copyFrom_155 (fun x128 c129 rx128 tx128 => ?_)
        refine tk_puti hC hK hw hT hinX5 tyX5_ok nmX5 kC_at38 (by decide) rfl rfl 11 (by decide) (List.mem_of_getElem? (i := 16) rfl) rfl rfl rfl rfl (show 0 ≤ x128.toInt by omega) (show x128.toInt ≤ 12 by omega) dX5_copyFrom_158 (fun H locs w130 hw hT k132 c131 => ?_)
        have hF := hF.put kC_at38 (k := 11) (by decide) k132
        have c133 := k132.gi (Or.inr (by decide)) c116
        have c134 := k132.gi (Or.inr (by decide)) c117
        have c135 := k132.gi (Or.inr (by decide)) c119
        have c136 := k132.gi (Or.inr (by decide)) c120
        have c137 := k132.gi (Or.inr (by decide)) c121
        have c138 := k132.gi (Or.inr (by decide)) c122
        have c139 := k132.gi (Or.inr (by decide)) c123
        have c140 := k132.gi (Or.inr (by decide)) c124
        have c141 := k132.gi (Or.inr (by decide)) c125
        have c142 := k132.gi (Or.inr (by decide)) c126
        have c143 := k132.gi (Or.inr (by decide)) c127
        have c144 := k132.gi (Or.inr (by decide)) c114
        have c145 := k132.gi (Or.inl (by decide)) c129
        refine lv_aload_n hx hb dX5_copyFrom_161 rfl (lv_at hl 0 rfl) ?_
        refine lv_aload_n hx hb dX5_copyFrom_162 rfl (lv_at hl 1 rfl) ?_
        refine tk_geti hC hK hw hT hinX5 kC_at123 (by decide) rfl 12 (by decide) (List.mem_of_getElem? (i := 17) rfl) rfl rfl dX5_copyFrom_163 (fun x146 c147 rx146 tx146 => ?_)
        refine tk_puti hC hK hw hT hinX5 tyX5_ok nmX5 kC_at38 (by decide) rfl rfl 12 (by decide) (List.mem_of_getElem? (i := 17) rfl) rfl rfl rfl rfl (show 0 ≤ x146.toInt by omega) (show x146.toInt ≤ 8 by omega) dX5_copyFrom_166 (fun H locs w148 hw hT k150 c149 => ?_)
        have hF := hF.put kC_at38 (k := 12) (by decide) k150
        have c151 := k150.gi (Or.inr (by decide)) c133
        have c152 := k150.gi (Or.inr (by decide)) c134
        have c153 := k150.gi (Or.inr (by decide)) c136
        have c154 := k150.gi (Or.inr (by decide)) c137
        have c155 := k150.gi (Or.inr (by decide)) c138
        have c156 := k150.gi (Or.inr (by decide)) c139
        have c157 := k150.gi (Or.inr (by decide)) c140
        have c158 := k150.gi (Or.inr (by decide)) c141
        have c159 := k150.gi (Or.inr (by decide)) c142
        have c160 := k150.gi (Or.inr (by decide)) c143
        have c161 := k150.gi (Or.inr (by decide)) c144
        have c162 := k150.gi (Or.inr (by decide)) c145
        have c163 := k150.gi (Or.inr (by decide)) c131
        have c164 := k150.gi (Or.inl (by decide)) c147
        refine lv_aload_n hx hb dX5_copyFrom_169 rfl (lv_at hl 0 rfl) ?_
        refine lv_aload_n hx hb dX5_copyFrom_170 rfl (lv_at hl 1 rfl) ?_
        refine tk_geti hC hK hw hT hinX5 kC_at123 (by decide) rfl 13 (by decide) (List.mem_of_getElem? (i := 18) rfl) rfl rfl dX5_copyFrom_171 (fun x165 c166 rx165 tx165 => ?_)
        refine wk_top f1_ (c166.symm.trans c152) ?_
        refine tk_puti hC hK hw hT hinX5 tyX5_ok nmX5 kC_at38 (by decide) rfl rfl 13 (by decide) (List.mem_of_getElem? (i := 18) rfl) rfl rfl rfl rfl (show 0 ≤ f1_.toInt by omega) (wk_i32 f1_).2 dX5_copyFrom_174 (fun H locs w167 hw hT k169 c168 => ?_)
        have hF := hF.put kC_at38 (k := 13) (by decide) k169
        have c170 := k169.gi (Or.inl (by decide)) c151
        have c171 := k169.gi (Or.inl (by decide)) c152
        have c172 := k169.gi (Or.inl (by decide)) c154
        have c173 := k169.gi (Or.inl (by decide)) c155
        have c174 := k169.gi (Or.inr (by decide)) c156
        have c175 := k169.gi (Or.inr (by decide)) c157
        have c176 := k169.gi (Or.inr (by decide)) c158
        have c177 := k169.gi (Or.inr (by decide)) c159
        have c178 := k169.gi (Or.inr (by decide)) c160
        have c179 := k169.gi (Or.inr (by decide)) c161
        have c180 := k169.gi (Or.inr (by decide)) c162
        have c181 := k169.gi (Or.inr (by decide)) c163
        have c182 := k169.gi (Or.inr (by decide)) c164
        have c183 := k169.gi (Or.inr (by decide)) c149
        exact tk_vret hC hr hlocks hK ⟨hT, hF, ⟨(by simp only [c168, cf1_] <;> omega), (by simp only [cf3_, c172] <;> omega), (by simp only [cf4_, c173] <;> omega), (by simp only [cf0_, c170] <;> omega), (by simp only [cf1_, c171] <;> omega)⟩⟩ hw dX5_copyFrom_177
      · have c19 : v28_2.toInt < (4 : Int) := wk_leF c19
        refine lv_aload_n hx hb dX5_copyFrom_33 rfl (lv_at hl 0 rfl) ?_
        refine tk_getO hC hK hw hT hinX5 kC_at38 (by decide) rfl 2 (by decide) (List.mem_of_getElem? (i := 7) rfl) rfl rfl dX5_copyFrom_34 ?_
        refine lv_iload_n hx hb dX5_copyFrom_37 rfl (lv_at hl 2 rfl) ?_
        refine tk_aald hC hK hw hT kC_at49 rfl (by decide) rfl (show 0 ≤ v28_2.toInt by omega) (show v28_2.toInt < 4 by omega) dX5_copyFrom_38 (fun j184 hj184 gj184 => ?_)
        refine lv_aload_n hx hb dX5_copyFrom_39 rfl (lv_at hl 1 rfl) ?_
        refine tk_getO hC hK hw hT hinX5 kC_at123 (by decide) rfl 2 (by decide) (List.mem_of_getElem? (i := 7) rfl) rfl rfl dX5_copyFrom_40 ?_
        refine lv_iload_n hx hb dX5_copyFrom_43 rfl (lv_at hl 2 rfl) ?_
        refine tk_aald hC hK hw hT kC_at134 rfl (by decide) rfl (show 0 ≤ v28_2.toInt by omega) (show v28_2.toInt < 4 by omega) dX5_copyFrom_44 (fun j185 hj185 gj185 => ?_)
        refine tk_Vv hC hK hw hT hA hE hSR (kC_el33 kC_at49 hj184) (by decide) rfl (k_X9_copyFrom_2 l adK adV dC dI cy ad B (by omega) (by omega) qr s1   (el 33 49 j184) (kC_el33 kC_at49 hj184) (el 33 134 j185) (kC_el33 kC_at134 hj185) w1 H.size hT ) (cwV 1 hC.2.2.2.2 gX5_copyFrom_X9_copyFrom rfl rfl rfl (by decide +kernel) ⟨Nat.le_of_ble_eq_true rfl, Nat.le_of_ble_eq_true rfl⟩) rfl hl.1 rfl (Nat.le_of_ble_eq_true rfl) dX5_copyFrom_45 (fun w188 H locs hp187 hw => ?_)
        obtain ⟨hT, k189, hg190⟩ := hp187
        have hF := hF.tr k189 (by decide)
        have c191 := k189.gi kC_at102 (by decide) c5
        have c192 := k189.gi kC_at123 (by decide) c7
        have c193 := k189.gi kC_at38 (by decide) c8
        have c194 := k189.gi kC_at38 (by decide) c9
        have c195 := k189.gi kC_at38 (by decide) c10
        have c196 := k189.gi kC_at38 (by decide) c12
        have c197 := k189.gi kC_at38 (by decide) c13
        have c198 := k189.gi kC_at38 (by decide) c14
        have c199 := k189.gi kC_at60 (by decide) c16
        have c200 := k189.gi kC_at81 (by decide) c18
        clear hg190
        obtain ⟨x201, ex201⟩ : ∃ y : Int32, y = v28_2 + Int32.ofInt 1 := ⟨_, rfl⟩
        refine lv_iinc (v := x201) (lv' := [(2, .int x201), (0, .ref (ad 38)), (1, .ref (ad 123))]) hx hb dX5_copyFrom_48 hl (k := 2) rfl ex201.symm (by decide) rfl (fun ls hl => ?_)
        have ex201 : x201.toInt = v28_2.toInt + 1 := by rw [ex201]; exact wk_add (y := 1) (show -2147483648 ≤ v28_2.toInt + 1 by omega) (show v28_2.toInt + 1 ≤ 2147483647 by omega)
        refine lv_goto (tgt := 28) hx hb dX5_copyFrom_51 (by decide) ?_
        exact ih28 x201 H locs ls w188 (show 0 ≤ x201.toInt by omega) (show x201.toInt ≤ 4 by omega) (show 0 ≤ f0_.toInt by omega) (show 0 ≤ f1_.toInt by omega) (show 0 ≤ f2_.toInt by omega) (show 0 ≤ f3_.toInt by omega) (show 0 ≤ f4_.toInt by omega) (show (4 - x201.toInt).toNat < n28 by omega) hw hT hF c191 c192 c193 c194 c195 c196 c197 c198 c199 c200 (lv_sub hl [1, 2, 0] rfl)
  refine lv_aload_n hx hb dX5_copyFrom_0 rfl (lv_at hl 0 rfl) ?_
  refine lv_aload_n hx hb dX5_copyFrom_1 rfl (lv_at hl 1 rfl) ?_
  refine tk_getO hC hK hw hT hinX5 kC_at123 (by decide) rfl 0 (by decide) (List.mem_of_getElem? (i := 1) rfl) rfl rfl dX5_copyFrom_2 ?_
  refine tk_Vv hC hK hw hT hA hE hSR kC_at38 (by decide) rfl (k_X5_moveTo_11 l adK adV dC dI cy ad B (by omega) (by omega) qr s1    w0 s.heap.size hT ) (cwV 1 hC.2.2.2.2 gX5_copyFrom_X5_moveTo rfl rfl rfl (by decide +kernel) ⟨Nat.le_of_ble_eq_true rfl, Nat.le_of_ble_eq_true rfl⟩) rfl hl.1 rfl (Nat.le_of_ble_eq_true rfl) dX5_copyFrom_5 (fun w204 H locs hp203 hw => ?_)
  obtain ⟨hT, k205, hg216⟩ := hp203
  have hF := hF.tr k205 (by decide)
  have c217 := k205.gi kC_at102 (by decide) cf0_
  have c218 := k205.gi kC_at123 (by decide) cf1_
  have c219 := k205.gi kC_at38 (by decide) cf2_
  have c220 := k205.gi kC_at60 (by decide) cf3_
  have c221 := k205.gi kC_at81 (by decide) cf4_
  obtain ⟨⟨x206, c207, rx206, tx206⟩, ⟨x208, c209, rx208, tx208⟩, ⟨x210, c211, rx210, tx210⟩, ⟨x212, c213, rx212, tx212⟩, ⟨x214, c215, rx214, tx214⟩⟩ := hg216
  refine lv_aload_n hx hb dX5_copyFrom_8 rfl (lv_at hl 1 rfl) ?_
  refine tk_getO hC hK hw hT hinX5 kC_at123 (by decide) rfl 1 (by decide) (List.mem_of_getElem? (i := 2) rfl) rfl rfl dX5_copyFrom_9 ?_
  refine lv_iconst (v := 0) hx hb dX5_copyFrom_12 (by decide) ?_
  refine lv_aload_n hx hb dX5_copyFrom_13 rfl (lv_at hl 0 rfl) ?_
  refine tk_getO hC hK hw hT hinX5 kC_at38 (by decide) rfl 1 (by decide) (List.mem_of_getElem? (i := 2) rfl) rfl rfl dX5_copyFrom_14 ?_
  refine lv_iconst (v := 0) hx hb dX5_copyFrom_17 (by decide) ?_
  refine lv_aload_n hx hb dX5_copyFrom_18 rfl (lv_at hl 0 rfl) ?_
  refine tk_getO hC hK hw hT hinX5 kC_at38 (by decide) rfl 1 (by decide) (List.mem_of_getElem? (i := 2) rfl) rfl rfl dX5_copyFrom_19 ?_
  refine tk_alen (v := 48) hC hK hw hT kC_at48 rfl (by decide) rfl (by decide) dX5_copyFrom_22 ?_
  refine tk_copy hC hK hw hT hl.1 (List.mem_of_getElem? (i := 3) rfl) (List.mem_of_getElem? (i := 4) rfl) (List.mem_of_getElem? (i := 5) rfl) (List.mem_of_getElem? (i := 6) rfl) kC_at133 kC_at48 (by decide) rfl rfl rfl rfl (by decide) (by decide) (by decide) (by decide) (by decide) (by decide) (by decide) (by decide) (Nat.le_of_ble_eq_true rfl) (by decide +kernel) dX5_copyFrom_23 (fun H locs w222 hw hT k223 => ?_)
  have hF := hF.tr k223 (by decide)
  have c224 := k223.gi kC_at102 (by decide) c217
  have c225 := k223.gi kC_at123 (by decide) c218
  have c226 := k223.gi kC_at38 (by decide) c219
  have c227 := k223.gi kC_at60 (by decide) c220
  have c228 := k223.gi kC_at81 (by decide) c221
  have c229 := k223.gi kC_at38 (by decide) c207
  have c230 := k223.gi kC_at38 (by decide) c209
  have c231 := k223.gi kC_at38 (by decide) c211
  have c232 := k223.gi kC_at38 (by decide) c213
  have c233 := k223.gi kC_at38 (by decide) c215
  refine lv_iconst (v := 0) hx hb dX5_copyFrom_26 (by decide) ?_
  refine lv_istore_n (lv' := [(2, .int 0), (0, .ref (ad 38)), (1, .ref (ad 123))]) hx hb dX5_copyFrom_27 rfl hl (by decide) rfl (fun ls hl => ?_)
  obtain rfl : x210 = 0 := wk_eq.mpr (show x210.toInt = 0 by omega)
  obtain rfl : x212 = 0 := wk_eq.mpr (show x212.toInt = 0 by omega)
  obtain rfl : x214 = 0 := wk_eq.mpr (show x214.toInt = 0 by omega)
  obtain rfl : x206 = 0 := wk_eq.mpr (show x206.toInt = 0 by omega)
  obtain rfl : x208 = 0 := wk_eq.mpr (show x208.toInt = 0 by omega)
  exact L28 ((4 - (0 : Int)).toNat + 1) 0 H locs ls w222 (by decide) (by decide) (show 0 ≤ f0_.toInt by omega) (show 0 ≤ f1_.toInt by omega) (show 0 ≤ f2_.toInt by omega) (show 0 ≤ f3_.toInt by omega) (show 0 ≤ f4_.toInt by omega) (Nat.lt_succ_self _) hw hT hF c224 c225 c231 c232 c233 c226 c229 c230 c227 c228 (lv_sub hl [1, 2, 0] rfl)
abbrev P_X11_back_5 (ad : Nat → Nat) (cy : Nat → ClassId) (B : Int) (qr : Nat) (s1 : Int)  (w0 : va_W) : Int32 → va_W → Prop := fun r u => TW ksC ad cy B qr s1 u ∧ FE ksC [(5, 8, 8), (5, 9, 9), (5, 10, 10), (5, 11, 11), (5, 12, 12), (5, 13, 13), (7, 8, 8), (7, 9, 9), (7, 10, 10), (7, 11, 11), (9, 0, 0), (9, 1, 1), (9, 2, 2), (9, 3, 3), (9, 4, 4), (9, 5, 5), (9, 6, 6), (9, 7, 7), (9, 8, 8), (24, 0, 100000), (25, 0, 100000), (26, 0, 100000), (27, 0, 100000), (28, 0, 100000), (29, 0, 100000), (30, 0, 100000), (31, 0, 100000), (32, 0, 100000), (34, 0, 100000), (35, 0, 100000), (36, 0, 100000), (37, 0, 100000), (38, 0, 100000), (44, 0, 11)] w0 u ∧ ((0 ≤ r.toInt ∧ r.toInt ≤ 4 ∧ ((gi u 38 13).toInt = (gi w0 123 13).toInt) ∧ (1 ≤ (gi w0 144 3).toInt) ∧ ((gi u 60 13).toInt = (gi w0 60 13).toInt) ∧ ((gi u 81 13).toInt = (gi w0 81 13).toInt) ∧ ((gi u 102 13).toInt = (gi w0 102 13).toInt) ∧ ((gi u 123 13).toInt = (gi w0 123 13).toInt) ∧ ((gi u 144 0).toInt = (gi w0 144 0).toInt) ∧ ((gi u 144 1).toInt = (gi w0 144 1).toInt) ∧ ((gi u 144 2).toInt = (gi w0 144 2).toInt) ∧ ((gi u 144 3).toInt = (gi w0 144 3).toInt)) ∨ (r = (-1) ∧ ((gi w0 144 3).toInt = 0) ∧ ((gi u 38 13).toInt = (gi w0 38 13).toInt) ∧ ((gi u 60 13).toInt = (gi w0 60 13).toInt) ∧ ((gi u 81 13).toInt = (gi w0 81 13).toInt) ∧ ((gi u 102 13).toInt = (gi w0 102 13).toInt) ∧ ((gi u 123 13).toInt = (gi w0 123 13).toInt) ∧ ((gi u 144 0).toInt = (gi w0 144 0).toInt) ∧ ((gi u 144 1).toInt = (gi w0 144 1).toInt) ∧ ((gi u 144 2).toInt = (gi w0 144 2).toInt) ∧ ((gi u 144 3).toInt = (gi w0 144 3).toInt)))
set_option maxHeartbeats 4000000 in
set_option maxRecDepth 100000 in
theorem k_X11_back_5 (l : Launch) (adK adV : Nat → Nat) (dC : Nat → ClassId) (dI : Nat → Nat → Nat) (cy : Nat → ClassId) (ad : Nat → Nat) (B : Int) (hB0 : 2147483648 ≤ B) (hB1 : B ≤ 1152921504606846976) (qr : Nat) (s1 : Int)   (w0 : va_W) (sz : Nat) (hT : TW ksC ad cy B qr s1 w0) (f0_ : Int32) (cf0_ : gi w0 102 13 = f0_) (rf0_ : 0 ≤ f0_.toInt) (tf0_ : f0_.toInt ≤ 2147483647) (f1_ : Int32) (cf1_ : gi w0 123 13 = f1_) (rf1_ : 0 ≤ f1_.toInt) (tf1_ : f1_.toInt ≤ 2147483647) (f2_ : Int32) (cf2_ : gi w0 144 0 = f2_) (rf2_ : 0 ≤ f2_.toInt) (tf2_ : f2_.toInt ≤ 1) (f3_ : Int32) (cf3_ : gi w0 144 1 = f3_) (rf3_ : 0 ≤ f3_.toInt) (tf3_ : f3_.toInt ≤ 1) (f4_ : Int32) (cf4_ : gi w0 144 2 = f4_) (rf4_ : 0 ≤ f4_.toInt) (tf4_ : f4_.toInt ≤ 1) (f5_ : Int32) (cf5_ : gi w0 144 3 = f5_) (rf5_ : 0 ≤ f5_.toInt) (tf5_ : f5_.toInt ≤ 1) (f6_ : Int32) (cf6_ : gi w0 38 13 = f6_) (rf6_ : 0 ≤ f6_.toInt) (tf6_ : f6_.toInt ≤ 2147483647) (f7_ : Int32) (cf7_ : gi w0 60 13 = f7_) (rf7_ : 0 ≤ f7_.toInt) (tf7_ : f7_.toInt ≤ 2147483647) (f8_ : Int32) (cf8_ : gi w0 81 13 = f8_) (rf8_ : 0 ≤ f8_.toInt) (tf8_ : f8_.toInt ≤ 2147483647) : Met l yX11_back wsX11_back ({ frames := 4, cells := 0, slots := 0, locals := 124 }) (va_Pc [.ref (ad 0), .int 3] (wpreS adK adV dC dI cy sz w0)) (va_Qi (P_X11_back_5 ad cy B qr s1  w0) (fun u : va_W => wpost dC dI cy (va_A w0 sz) u) (va_A w0 sz)) 0 0 (va_A w0 sz) := by
  refine Met.ofW (cc := cX11_back) (maxL := 2) (ret := (some .int)) (by decide) rfl ?_
  intro p e s m args below meth c s₁ Bk hml hv
  obtain ⟨rfl, ⟨hsz, hP, hK, hD0⟩, hE, hSR⟩ := hv
  have hx := Bk.exec
  have hb := Bk.bytes
  have hr := Bk.returns
  have hlocks := Bk.notSynchronized
  have hC : CallFix p m c cX11_back 2 s _ wsX11_back RX11 := ⟨hx, hb, hml, findClass_of_methodNamed Bk.named, atoms_spec (ws := wsX11_back) Bk.pre⟩
  subst hsz
  have hD := hD0.self (sz := s.heap.size)
  generalize hAe : va_A w0 s.heap.size = A at hD hE ⊢
  have hA : ∀ q : Nat, s.heap.size ≤ q → A q := fun q h => by rw [← hAe]; exact Or.inr h
  have hw : Wd dC dI A s.heap s.heap [] w0 := ⟨hP, hD, va_S.rf⟩
  have hF : FE ksC [(5, 8, 8), (5, 9, 9), (5, 10, 10), (5, 11, 11), (5, 12, 12), (5, 13, 13), (7, 8, 8), (7, 9, 9), (7, 10, 10), (7, 11, 11), (9, 0, 0), (9, 1, 1), (9, 2, 2), (9, 3, 3), (9, 4, 4), (9, 5, 5), (9, 6, 6), (9, 7, 7), (9, 8, 8), (24, 0, 100000), (25, 0, 100000), (26, 0, 100000), (27, 0, 100000), (28, 0, 100000), (29, 0, 100000), (30, 0, 100000), (31, 0, 100000), (32, 0, 100000), (34, 0, 100000), (35, 0, 100000), (36, 0, 100000), (37, 0, 100000), (38, 0, 100000), (44, 0, 11)] w0 w0 := FE.rf
  have hl := lv_entry ([.ref (ad 0), .int 3]) (n := 2) (Nat.le_of_ble_eq_true rfl)
  rw [lg_entry_eq]
  generalize (lg_sl ([.ref (ad 0), .int 3]) ++ List.replicate (2 - (lg_sl ([.ref (ad 0), .int 3])).length) Slot.unset).toArray = ls at hl ⊢
  have hl : lv_has ls 2 [(0, .ref (ad 0)), (1, .int 3)] := hl
  generalize hloc : ([] : List Loc) = locs at hw ⊢
  have hinX11 : ∀ w ∈ u_ws RX11 TX11 13, w ∈ wsX11_back := fun _ h => List.mem_cons_of_mem _ (List.mem_append_left _ (List.mem_append_left _ (List.mem_append_left _ (List.mem_append_left _ (List.mem_append_right _ (h))))))
  have hinX5 : ∀ w ∈ u_ws RX5 TX5 14, w ∈ wsX11_back := fun _ h => List.mem_cons_of_mem _ (List.mem_append_left _ (List.mem_append_left _ (List.mem_append_left _ (List.mem_append_right _ (h)))))
  have J18 : ∀ (H : Heap) (locs : List Loc) (ls : Array Slot) (w1 : va_W), 0 ≤ f0_.toInt → 0 ≤ f1_.toInt → 0 ≤ f2_.toInt → f2_.toInt ≤ 1 → 0 ≤ f3_.toInt → f3_.toInt ≤ 1 → 0 ≤ f4_.toInt → f4_.toInt ≤ 1 → 0 ≤ f6_.toInt → 0 ≤ f7_.toInt → 0 ≤ f8_.toInt → (f2_.toInt = f2_.toInt) → (f3_.toInt = f3_.toInt) → (f4_.toInt = f4_.toInt) → ((0 : Int) = f5_.toInt) → Wd dC dI A s.heap H locs w1 → TW ksC ad cy B qr s1 w1 → FE ksC [(5, 8, 8), (5, 9, 9), (5, 10, 10), (5, 11, 11), (5, 12, 12), (5, 13, 13), (7, 8, 8), (7, 9, 9), (7, 10, 10), (7, 11, 11), (9, 0, 0), (9, 1, 1), (9, 2, 2), (9, 3, 3), (9, 4, 4), (9, 5, 5), (9, 6, 6), (9, 7, 7), (9, 8, 8), (24, 0, 100000), (25, 0, 100000), (26, 0, 100000), (27, 0, 100000), (28, 0, 100000), (29, 0, 100000), (30, 0, 100000), (31, 0, 100000), (32, 0, 100000), (34, 0, 100000), (35, 0, 100000), (36, 0, 100000), (37, 0, 100000), (38, 0, 100000), (44, 0, 11)] w0 w1 → gi w1 102 13 = f0_ → gi w1 123 13 = f1_ → gi w1 144 0 = f2_ → gi w1 144 1 = f3_ → gi w1 144 2 = f4_ → gi w1 144 3 = 0 → gi w1 38 13 = f6_ → gi w1 60 13 = f7_ → gi w1 81 13 = f8_ → lv_has ls 2 [(0, .ref (ad 0)), (1, .int 3)] → W p l e ({ frames := 4, cells := 0, slots := 0, locals := 124 }) s m (List.toArray [.ref (ad 0), .int 3]) below meth c H locs 0 0 (MQ below (va_Qi (P_X11_back_5 ad cy B qr s1  w0) (fun u : va_W => wpost dC dI cy A u) A) (List.toArray [.ref (ad 0), .int 3]) s 0 0 A) (F0 m 18 ls []) := by
    intro H locs ls w1 r2 r4 r6 t7 r9 t10 r12 t13 r16 r18 r20 hcr18_0 hcr18_1 hcr18_2 hcr18_3 hw hT hF c3 c5 c8 c11 c14 c15 c17 c19 c21 hl
    refine lv_iconst (v := (-1)) hx hb dX11_back_18 (by decide) ?_
    exact tk_iret hC hr hlocks hK ⟨hT, hF, (Or.inr ⟨rfl, (by simp only [cf5_] <;> omega), (by simp only [cf6_, c17] <;> omega), (by simp only [cf7_, c19] <;> omega), (by simp only [cf8_, c21] <;> omega), (by simp only [cf0_, c3] <;> omega), (by simp only [cf1_, c5] <;> omega), (by simp only [cf2_, c8] <;> omega), (by simp only [cf3_, c11] <;> omega), (by simp only [cf4_, c14] <;> omega), (by simp only [cf5_, c15, (show (0 : Int32).toInt = 0 by decide)] <;> omega)⟩)⟩ hw dX11_back_19
  refine lv_iload_n hx hb dX11_back_0 rfl (lv_at hl 1 rfl) ?_
  refine lv_if_lt (tgt := 18) hx hb dX11_back_1 (by decide) (fun c => absurd c (by decide)) (fun _ => ?_)
  refine lv_iload_n hx hb dX11_back_4 rfl (lv_at hl 1 rfl) ?_
  refine lv_iconst (v := 4) hx hb dX11_back_5 (by decide) ?_
  refine lv_icmp_ge (tgt := 18) hx hb dX11_back_6 (by decide) (fun c => absurd c (by decide)) (fun _ => ?_)
  refine lv_aload_n hx hb dX11_back_9 rfl (lv_at hl 0 rfl) ?_
  refine tk_getA hC hK hw hT hinX11 kC_at0 (by decide) rfl 6 (by decide) (List.mem_of_getElem? (i := 1) rfl) rfl rfl dX11_back_10 ?_
  refine lv_iload_n hx hb dX11_back_13 rfl (lv_at hl 1 rfl) ?_
  refine tk_zald hC hK hw hT kC_at144 rfl rfl (by decide) (by decide) dX11_back_14 (fun x22 c23 rx22 tx22 => ?_)
  refine wk_top f5_ (c23.symm.trans cf5_) ?_
  refine lv_if_ne (tgt := 20) hx hb dX11_back_15 (by decide) (fun c24 => ?_) (fun c24 => ?_)
  · have c24 : ¬ f5_.toInt = (0 : Int) := wk_eqF c24
    refine lv_aload_n hx hb dX11_back_20 rfl (lv_at hl 0 rfl) ?_
    refine tk_getA hC hK hw hT hinX11 kC_at0 (by decide) rfl 4 (by decide) (List.mem_of_getElem? (i := 2) rfl) rfl rfl dX11_back_21 ?_
    refine lv_aload_n hx hb dX11_back_24 rfl (lv_at hl 0 rfl) ?_
    refine tk_getA hC hK hw hT hinX11 kC_at0 (by decide) rfl 5 (by decide) (List.mem_of_getElem? (i := 3) rfl) rfl rfl dX11_back_25 ?_
    refine lv_iload_n hx hb dX11_back_28 rfl (lv_at hl 1 rfl) ?_
    refine tk_aald hC hK hw hT kC_at59 rfl (by decide) rfl (by decide) (by decide) dX11_back_29 (fun j25 hj25 gj25 => ?_)
    obtain rfl : j25 = 3 := by have := gj25; rw [show (3 : Int32).toInt = 3 by decide] at this; omega
    refine tk_Vv hC hK hw hT hA hE hSR kC_at38 (by decide) rfl (k_X5_copyFrom_10 l adK adV dC dI cy ad B (by omega) (by omega) qr s1    w0 s.heap.size hT f0_ cf0_ (show 0 ≤ f0_.toInt by omega) (show f0_.toInt ≤ 2147483647 by omega) f1_ cf1_ (show 0 ≤ f1_.toInt by omega) (show f1_.toInt ≤ 2147483647 by omega) f6_ cf6_ (show 0 ≤ f6_.toInt by omega) (show f6_.toInt ≤ 2147483647 by omega) f7_ cf7_ (show 0 ≤ f7_.toInt by omega) (show f7_.toInt ≤ 2147483647 by omega) f8_ cf8_ (show 0 ≤ f8_.toInt by omega) (show f8_.toInt ≤ 2147483647 by omega)) (cwV 1 hC.2.2.2.2 gX11_back_X5_copyFrom rfl rfl rfl (by decide +kernel) ⟨Nat.le_of_ble_eq_true rfl, Nat.le_of_ble_eq_true rfl⟩) rfl hl.1 rfl (Nat.le_of_ble_eq_true rfl) dX11_back_30 (fun w28 H locs hp27 hw => ?_)
    obtain ⟨hT, k29, hg35⟩ := hp27
    have hF := hF.tr k29 (by decide)
    have c36 := k29.gi kC_at144 (by decide) cf2_
    have c37 := k29.gi kC_at144 (by decide) cf3_
    have c38 := k29.gi kC_at144 (by decide) cf4_
    have c39 := k29.gi kC_at144 (by decide) cf5_
    obtain ⟨g30, g31, g32, g33, g34⟩ := hg35
    obtain ⟨x40, c41, rx40, tx40⟩ := hT.rdi (lo := 0) (hi := 2147483647) (k := 13) kC_at38 (by decide) rfl
    obtain ⟨x42, c43, rx42, tx42⟩ := hT.rdi (lo := 0) (hi := 2147483647) (k := 13) kC_at60 (by decide) rfl
    obtain ⟨x44, c45, rx44, tx44⟩ := hT.rdi (lo := 0) (hi := 2147483647) (k := 13) kC_at81 (by decide) rfl
    obtain ⟨x46, c47, rx46, tx46⟩ := hT.rdi (lo := 0) (hi := 2147483647) (k := 13) kC_at102 (by decide) rfl
    obtain ⟨x48, c49, rx48, tx48⟩ := hT.rdi (lo := 0) (hi := 2147483647) (k := 13) kC_at123 (by decide) rfl
    have g30 : x40.toInt = f1_.toInt := by have q := g30; simp only [c41, cf1_] at q; omega
    have g31 : x42.toInt = f7_.toInt := by have q := g31; simp only [cf7_, c43] at q; omega
    have g32 : x44.toInt = f8_.toInt := by have q := g32; simp only [cf8_, c45] at q; omega
    have g33 : x46.toInt = f0_.toInt := by have q := g33; simp only [cf0_, c47] at q; omega
    have g34 : x48.toInt = f1_.toInt := by have q := g34; simp only [cf1_, c49] at q; omega
    refine lv_aload_n hx hb dX11_back_33 rfl (lv_at hl 0 rfl) ?_
    refine tk_getA hC hK hw hT hinX11 kC_at0 (by decide) rfl 7 (by decide) (List.mem_of_getElem? (i := 4) rfl) rfl rfl dX11_back_34 ?_
    refine tk_Vv hC hK hw hT hA hE hSR kC_at145 (by decide) rfl (k_X0_forgetAll_1 l adK adV dC dI cy ad B (by omega) (by omega) qr s1    w28 H.size hT ) (cwV 0 hC.2.2.2.2 gX11_back_X0_forgetAll rfl rfl rfl (by decide +kernel) ⟨Nat.le_of_ble_eq_true rfl, Nat.le_of_ble_eq_true rfl⟩) rfl hl.1 rfl (Nat.le_of_ble_eq_true rfl) dX11_back_37 (fun w52 H locs hp51 hw => ?_)
    obtain ⟨hT, k53, hg54⟩ := hp51
    have hF := hF.tr k53 (by decide)
    have c55 := k53.gi kC_at144 (by decide) c36
    have c56 := k53.gi kC_at144 (by decide) c37
    have c57 := k53.gi kC_at144 (by decide) c38
    have c58 := k53.gi kC_at144 (by decide) c39
    have c59 := k53.gi kC_at38 (by decide) c41
    have c60 := k53.gi kC_at60 (by decide) c43
    have c61 := k53.gi kC_at81 (by decide) c45
    have c62 := k53.gi kC_at102 (by decide) c47
    have c63 := k53.gi kC_at123 (by decide) c49
    clear hg54
    refine lv_aload_n hx hb dX11_back_40 rfl (lv_at hl 0 rfl) ?_
    refine tk_getA hC hK hw hT hinX11 kC_at0 (by decide) rfl 4 (by decide) (List.mem_of_getElem? (i := 2) rfl) rfl rfl dX11_back_41 ?_
    refine tk_geti hC hK hw hT hinX5 kC_at38 (by decide) rfl 9 (by decide) (List.mem_of_getElem? (i := 5) rfl) rfl rfl dX11_back_44 (fun x64 c65 rx64 tx64 => ?_)
    exact tk_iret hC hr hlocks hK ⟨hT, hF, (Or.inl ⟨(show 0 ≤ x64.toInt by omega), (show x64.toInt ≤ 4 by omega), (by simp only [c59, cf1_] <;> omega), (by simp only [cf5_] <;> omega), (by simp only [cf7_, c60] <;> omega), (by simp only [cf8_, c61] <;> omega), (by simp only [cf0_, c62] <;> omega), (by simp only [cf1_, c63] <;> omega), (by simp only [cf2_, c55] <;> omega), (by simp only [cf3_, c56] <;> omega), (by simp only [cf4_, c57] <;> omega), (by simp only [cf5_, c58] <;> omega)⟩)⟩ hw dX11_back_47
  · have c24 : f5_.toInt = (0 : Int) := wk_eq.mp c24
    obtain rfl : f5_ = 0 := wk_eq.mpr (show f5_.toInt = 0 by omega)
    exact J18  s.heap locs ls w0 (show 0 ≤ f0_.toInt by omega) (show 0 ≤ f1_.toInt by omega) (show 0 ≤ f2_.toInt by omega) (show f2_.toInt ≤ 1 by omega) (show 0 ≤ f3_.toInt by omega) (show f3_.toInt ≤ 1 by omega) (show 0 ≤ f4_.toInt by omega) (show f4_.toInt ≤ 1 by omega) (show 0 ≤ f6_.toInt by omega) (show 0 ≤ f7_.toInt by omega) (show 0 ≤ f8_.toInt by omega) (show f2_.toInt = f2_.toInt by omega) (show f3_.toInt = f3_.toInt by omega) (show f4_.toInt = f4_.toInt by omega) (show (0 : Int) = (0 : Int) by omega)  hw hT hF cf0_ cf1_ cf2_ cf3_ cf4_ cf5_ cf6_ cf7_ cf8_ (lv_sub hl [0, 1] rfl)
abbrev P_X11_seed_2 (ad : Nat → Nat) (cy : Nat → ClassId) (B : Int) (qr : Nat) (s1 : Int) (a1 : Int32) (w0 : va_W) : Int32 → va_W → Prop := fun r u => TW ksC ad cy B qr s1 u ∧ FE ksC [(5, 13, 13)] w0 u ∧ ((0 ≤ r.toInt ∧ 0 ≤ a1.toInt ∧ (r.toInt = (gi w0 38 13).toInt) ∧ ((gi u 38 13).toInt = a1.toInt) ∧ ((gi u 60 13).toInt = (gi w0 60 13).toInt) ∧ ((gi u 81 13).toInt = (gi w0 81 13).toInt) ∧ ((gi u 102 13).toInt = (gi w0 102 13).toInt) ∧ ((gi u 123 13).toInt = (gi w0 123 13).toInt)) ∨ (r = (-1) ∧ a1.toInt ≤ (-1) ∧ ((gi u 38 13).toInt = (gi w0 38 13).toInt) ∧ ((gi u 60 13).toInt = (gi w0 60 13).toInt) ∧ ((gi u 81 13).toInt = (gi w0 81 13).toInt) ∧ ((gi u 102 13).toInt = (gi w0 102 13).toInt) ∧ ((gi u 123 13).toInt = (gi w0 123 13).toInt)))
set_option maxHeartbeats 4000000 in
set_option maxRecDepth 100000 in
theorem k_X11_seed_2 (l : Launch) (adK adV : Nat → Nat) (dC : Nat → ClassId) (dI : Nat → Nat → Nat) (cy : Nat → ClassId) (ad : Nat → Nat) (B : Int) (hB0 : 2147483648 ≤ B) (hB1 : B ≤ 1152921504606846976) (qr : Nat) (s1 : Int)  (a1 : Int32) (w0 : va_W) (sz : Nat) (hT : TW ksC ad cy B qr s1 w0) (f0_ : Int32) (cf0_ : gi w0 102 13 = f0_) (rf0_ : 0 ≤ f0_.toInt) (tf0_ : f0_.toInt ≤ 2147483647) (f1_ : Int32) (cf1_ : gi w0 123 13 = f1_) (rf1_ : 0 ≤ f1_.toInt) (tf1_ : f1_.toInt ≤ 2147483647) (f2_ : Int32) (cf2_ : gi w0 38 13 = f2_) (rf2_ : 0 ≤ f2_.toInt) (tf2_ : f2_.toInt ≤ 2147483647) (f3_ : Int32) (cf3_ : gi w0 60 13 = f3_) (rf3_ : 0 ≤ f3_.toInt) (tf3_ : f3_.toInt ≤ 2147483647) (f4_ : Int32) (cf4_ : gi w0 81 13 = f4_) (rf4_ : 0 ≤ f4_.toInt) (tf4_ : f4_.toInt ≤ 2147483647) : Met l yX11_seed wsX11_seed ({ frames := 1, cells := 0, slots := 0, locals := 12 }) (va_Pc [.ref (ad 0), .int a1] (wpreS adK adV dC dI cy sz w0)) (va_Qi (P_X11_seed_2 ad cy B qr s1 a1 w0) (fun u : va_W => wpost dC dI cy (va_A w0 sz) u) (va_A w0 sz)) 0 0 (va_A w0 sz) := by
  refine Met.ofW (cc := cX11_seed) (maxL := 3) (ret := (some .int)) (by decide) rfl ?_
  intro p e s m args below meth c s₁ Bk hml hv
  obtain ⟨rfl, ⟨hsz, hP, hK, hD0⟩, hE, hSR⟩ := hv
  have hx := Bk.exec
  have hb := Bk.bytes
  have hr := Bk.returns
  have hlocks := Bk.notSynchronized
  have hC : CallFix p m c cX11_seed 3 s _ wsX11_seed RX11 := ⟨hx, hb, hml, findClass_of_methodNamed Bk.named, atoms_spec (ws := wsX11_seed) Bk.pre⟩
  subst hsz
  have hD := hD0.self (sz := s.heap.size)
  generalize hAe : va_A w0 s.heap.size = A at hD hE ⊢
  have hA : ∀ q : Nat, s.heap.size ≤ q → A q := fun q h => by rw [← hAe]; exact Or.inr h
  have hw : Wd dC dI A s.heap s.heap [] w0 := ⟨hP, hD, va_S.rf⟩
  have hF : FE ksC [(5, 13, 13)] w0 w0 := FE.rf
  have hl := lv_entry ([.ref (ad 0), .int a1]) (n := 3) (Nat.le_of_ble_eq_true rfl)
  rw [lg_entry_eq]
  generalize (lg_sl ([.ref (ad 0), .int a1]) ++ List.replicate (3 - (lg_sl ([.ref (ad 0), .int a1])).length) Slot.unset).toArray = ls at hl ⊢
  have hl : lv_has ls 3 [(0, .ref (ad 0)), (1, .int a1)] := hl
  generalize hloc : ([] : List Loc) = locs at hw ⊢
  have hinX11 : ∀ w ∈ u_ws RX11 TX11 13, w ∈ wsX11_seed := fun _ h => List.mem_cons_of_mem _ (List.mem_append_left _ (List.mem_append_right _ (h)))
  have hinX5 : ∀ w ∈ u_ws RX5 TX5 14, w ∈ wsX11_seed := fun _ h => List.mem_cons_of_mem _ (List.mem_append_right _ (h))
  refine lv_iload_n hx hb dX11_seed_0 rfl (lv_at hl 1 rfl) ?_
  refine lv_if_ge (tgt := 6) hx hb dX11_seed_1 (by decide) (fun c1 => ?_) (fun c1 => ?_)
  · have c1 : (0 : Int) ≤ a1.toInt := wk_le.mp c1
    refine lv_aload_n hx hb dX11_seed_6 rfl (lv_at hl 0 rfl) ?_
    refine tk_getA hC hK hw hT hinX11 kC_at0 (by decide) rfl 4 (by decide) (List.mem_of_getElem? (i := 1) rfl) rfl rfl dX11_seed_7 ?_
    refine tk_geti hC hK hw hT hinX5 kC_at38 (by decide) rfl 13 (by decide) (List.mem_of_getElem? (i := 2) rfl) rfl rfl dX11_seed_10 (fun x2 c3 rx2 tx2 => ?_)
    refine wk_top f2_ (c3.symm.trans cf2_) ?_
    refine lv_istore_n (lv' := [(2, .int f2_), (0, .ref (ad 0)), (1, .int a1)]) hx hb dX11_seed_13 rfl hl (by decide) rfl (fun ls hl => ?_)
    refine lv_aload_n hx hb dX11_seed_14 rfl (lv_at hl 1 rfl) ?_
    refine tk_getA hC hK hw hT hinX11 kC_at0 (by decide) rfl 4 (by decide) (List.mem_of_getElem? (i := 1) rfl) rfl rfl dX11_seed_15 ?_
    refine lv_iload_n hx hb dX11_seed_18 rfl (lv_at hl 2 rfl) ?_
    refine tk_puti hC hK hw hT hinX5 tyX5_ok nmX5 kC_at38 (by decide) rfl rfl 13 (by decide) (List.mem_of_getElem? (i := 2) rfl) rfl rfl rfl rfl (show 0 ≤ a1.toInt by omega) (wk_i32 a1).2 dX11_seed_19 (fun H locs w4 hw hT k6 c5 => ?_)
    have hF := hF.put kC_at38 (k := 13) (by decide) k6
    have c7 := k6.gi (Or.inl (by decide)) cf0_
    have c8 := k6.gi (Or.inl (by decide)) cf1_
    have c9 := k6.gi (Or.inl (by decide)) cf3_
    have c10 := k6.gi (Or.inl (by decide)) cf4_
    refine lv_iload_n hx hb dX11_seed_22 rfl (lv_at hl 0 rfl) ?_
    exact tk_iret hC hr hlocks hK ⟨hT, hF, (Or.inl ⟨(show 0 ≤ f2_.toInt by omega), (show 0 ≤ a1.toInt by omega), (by simp only [cf2_] <;> omega), (by simp only [c5] <;> omega), (by simp only [cf3_, c9] <;> omega), (by simp only [cf4_, c10] <;> omega), (by simp only [cf0_, c7] <;> omega), (by simp only [cf1_, c8] <;> omega)⟩)⟩ hw dX11_seed_23
  · have c1 : a1.toInt < (0 : Int) := wk_leF c1
    refine lv_iconst (v := (-1)) hx hb dX11_seed_4 (by decide) ?_
    exact tk_iret hC hr hlocks hK ⟨hT, hF, (Or.inr ⟨rfl, (show a1.toInt ≤ (-1) by omega), (by simp only [cf2_, cf2_] <;> omega), (by simp only [cf3_, cf3_] <;> omega), (by simp only [cf4_, cf4_] <;> omega), (by simp only [cf0_, cf0_] <;> omega), (by simp only [cf1_, cf1_] <;> omega)⟩)⟩ hw dX11_seed_5
abbrev P_X11_image_6 (ad : Nat → Nat) (cy : Nat → ClassId) (B : Int) (qr : Nat) (s1 : Int) (a1 : Int32) (w0 : va_W) : Int32 → va_W → Prop := fun r u => TW ksC ad cy B qr s1 u ∧ FE ksC ([] : List (Nat × Nat × Nat)) w0 u ∧ ((r = (-1)))
set_option maxHeartbeats 4000000 in
set_option maxRecDepth 100000 in
theorem k_X11_image_6 (l : Launch) (adK adV : Nat → Nat) (dC : Nat → ClassId) (dI : Nat → Nat → Nat) (cy : Nat → ClassId) (ad : Nat → Nat) (B : Int) (hB0 : 2147483648 ≤ B) (hB1 : B ≤ 1152921504606846976) (qr : Nat) (s1 : Int)  (a1 : Int32) (ta1 : a1.toInt ≤ (-1)) (w0 : va_W) (sz : Nat) (hT : TW ksC ad cy B qr s1 w0)  : Met l yX11_image wsX11_image ({ frames := 1, cells := 0, slots := 0, locals := 12 }) (va_Pc [.ref (ad 0), .int a1] (wpreS adK adV dC dI cy sz w0)) (va_Qi (P_X11_image_6 ad cy B qr s1 a1 w0) (fun u : va_W => wpost dC dI cy (va_A w0 sz) u) (va_A w0 sz)) 0 0 (va_A w0 sz) := by
  refine Met.ofW (cc := cX11_image) (maxL := 2) (ret := (some .int)) (by decide) rfl ?_
  intro p e s m args below meth c s₁ Bk hml hv
  obtain ⟨rfl, ⟨hsz, hP, hK, hD0⟩, hE, hSR⟩ := hv
  have hx := Bk.exec
  have hb := Bk.bytes
  have hr := Bk.returns
  have hlocks := Bk.notSynchronized
  have hC : CallFix p m c cX11_image 2 s _ wsX11_image RX11 := ⟨hx, hb, hml, findClass_of_methodNamed Bk.named, atoms_spec (ws := wsX11_image) Bk.pre⟩
  subst hsz
  have hD := hD0.self (sz := s.heap.size)
  generalize hAe : va_A w0 s.heap.size = A at hD hE ⊢
  have hA : ∀ q : Nat, s.heap.size ≤ q → A q := fun q h => by rw [← hAe]; exact Or.inr h
  have hw : Wd dC dI A s.heap s.heap [] w0 := ⟨hP, hD, va_S.rf⟩
  have hF : FE ksC ([] : List (Nat × Nat × Nat)) w0 w0 := FE.rf
  have hl := lv_entry ([.ref (ad 0), .int a1]) (n := 2) (Nat.le_of_ble_eq_true rfl)
  rw [lg_entry_eq]
  generalize (lg_sl ([.ref (ad 0), .int a1]) ++ List.replicate (2 - (lg_sl ([.ref (ad 0), .int a1])).length) Slot.unset).toArray = ls at hl ⊢
  have hl : lv_has ls 2 [(0, .ref (ad 0)), (1, .int a1)] := hl
  generalize hloc : ([] : List Loc) = locs at hw ⊢
  have J9 : ∀ (H : Heap) (locs : List Loc) (ls : Array Slot) (w1 : va_W), a1.toInt ≤ (-1) → Wd dC dI A s.heap H locs w1 → TW ksC ad cy B qr s1 w1 → FE ksC ([] : List (Nat × Nat × Nat)) w0 w1 → lv_has ls 2 [(0, .ref (ad 0)), (1, .int a1)] → W p l e ({ frames := 1, cells := 0, slots := 0, locals := 12 }) s m (List.toArray [.ref (ad 0), .int a1]) below meth c H locs 0 0 (MQ below (va_Qi (P_X11_image_6 ad cy B qr s1 a1 w0) (fun u : va_W => wpost dC dI cy A u) A) (List.toArray [.ref (ad 0), .int a1]) s 0 0 A) (F0 m 9 ls []) := by
    intro H locs ls w1 t2 hw hT hF hl
    refine lv_iconst (v := (-1)) hx hb dX11_image_9 (by decide) ?_
    exact tk_iret hC hr hlocks hK ⟨hT, hF, rfl⟩ hw dX11_image_10
  refine lv_iload_n hx hb dX11_image_0 rfl (lv_at hl 1 rfl) ?_
  refine lv_if_lt (tgt := 9) hx hb dX11_image_1 (by decide) (fun _ => ?_) (fun c => (c (wk_lt.mpr (show a1.toInt < (0 : Int) by omega))).elim)
  exact J9  s.heap locs ls w0 (show a1.toInt ≤ (-1) by omega)  hw hT hF  (lv_sub hl [0, 1] rfl)
abbrev P_X11_image_7 (ad : Nat → Nat) (cy : Nat → ClassId) (B : Int) (qr : Nat) (s1 : Int) (a1 : Int32) (w0 : va_W) : Int32 → va_W → Prop := fun r u => TW ksC ad cy B qr s1 u ∧ FE ksC ([] : List (Nat × Nat × Nat)) w0 u ∧ ((r = (-1)))
set_option maxHeartbeats 4000000 in
set_option maxRecDepth 100000 in
theorem k_X11_image_7 (l : Launch) (adK adV : Nat → Nat) (dC : Nat → ClassId) (dI : Nat → Nat → Nat) (cy : Nat → ClassId) (ad : Nat → Nat) (B : Int) (hB0 : 2147483648 ≤ B) (hB1 : B ≤ 1152921504606846976) (qr : Nat) (s1 : Int)  (a1 : Int32) (ra1 : 4 ≤ a1.toInt) (w0 : va_W) (sz : Nat) (hT : TW ksC ad cy B qr s1 w0)  : Met l yX11_image wsX11_image ({ frames := 1, cells := 0, slots := 0, locals := 12 }) (va_Pc [.ref (ad 0), .int a1] (wpreS adK adV dC dI cy sz w0)) (va_Qi (P_X11_image_7 ad cy B qr s1 a1 w0) (fun u : va_W => wpost dC dI cy (va_A w0 sz) u) (va_A w0 sz)) 0 0 (va_A w0 sz) := by
  refine Met.ofW (cc := cX11_image) (maxL := 2) (ret := (some .int)) (by decide) rfl ?_
  intro p e s m args below meth c s₁ Bk hml hv
  obtain ⟨rfl, ⟨hsz, hP, hK, hD0⟩, hE, hSR⟩ := hv
  have hx := Bk.exec
  have hb := Bk.bytes
  have hr := Bk.returns
  have hlocks := Bk.notSynchronized
  have hC : CallFix p m c cX11_image 2 s _ wsX11_image RX11 := ⟨hx, hb, hml, findClass_of_methodNamed Bk.named, atoms_spec (ws := wsX11_image) Bk.pre⟩
  subst hsz
  have hD := hD0.self (sz := s.heap.size)
  generalize hAe : va_A w0 s.heap.size = A at hD hE ⊢
  have hA : ∀ q : Nat, s.heap.size ≤ q → A q := fun q h => by rw [← hAe]; exact Or.inr h
  have hw : Wd dC dI A s.heap s.heap [] w0 := ⟨hP, hD, va_S.rf⟩
  have hF : FE ksC ([] : List (Nat × Nat × Nat)) w0 w0 := FE.rf
  have hl := lv_entry ([.ref (ad 0), .int a1]) (n := 2) (Nat.le_of_ble_eq_true rfl)
  rw [lg_entry_eq]
  generalize (lg_sl ([.ref (ad 0), .int a1]) ++ List.replicate (2 - (lg_sl ([.ref (ad 0), .int a1])).length) Slot.unset).toArray = ls at hl ⊢
  have hl : lv_has ls 2 [(0, .ref (ad 0)), (1, .int a1)] := hl
  generalize hloc : ([] : List Loc) = locs at hw ⊢
  have J9 : ∀ (H : Heap) (locs : List Loc) (ls : Array Slot) (w1 : va_W), 4 ≤ a1.toInt → Wd dC dI A s.heap H locs w1 → TW ksC ad cy B qr s1 w1 → FE ksC ([] : List (Nat × Nat × Nat)) w0 w1 → lv_has ls 2 [(0, .ref (ad 0)), (1, .int a1)] → W p l e ({ frames := 1, cells := 0, slots := 0, locals := 12 }) s m (List.toArray [.ref (ad 0), .int a1]) below meth c H locs 0 0 (MQ below (va_Qi (P_X11_image_7 ad cy B qr s1 a1 w0) (fun u : va_W => wpost dC dI cy A u) A) (List.toArray [.ref (ad 0), .int a1]) s 0 0 A) (F0 m 9 ls []) := by
    intro H locs ls w1 r2 hw hT hF hl
    refine lv_iconst (v := (-1)) hx hb dX11_image_9 (by decide) ?_
    exact tk_iret hC hr hlocks hK ⟨hT, hF, rfl⟩ hw dX11_image_10
  refine lv_iload_n hx hb dX11_image_0 rfl (lv_at hl 1 rfl) ?_
  refine lv_if_lt (tgt := 9) hx hb dX11_image_1 (by decide) (fun c => absurd c (fun h => absurd (show a1.toInt < (0 : Int) from wk_lt.mp h) (by omega))) (fun _ => ?_)
  refine lv_iload_n hx hb dX11_image_4 rfl (lv_at hl 1 rfl) ?_
  refine lv_iconst (v := 4) hx hb dX11_image_5 (by decide) ?_
  refine lv_icmp_lt (tgt := 11) hx hb dX11_image_6 (by decide) (fun c => absurd c (fun h => absurd (show a1.toInt < (4 : Int) from wk_lt.mp h) (by omega))) (fun _ => ?_)
  exact J9  s.heap locs ls w0 (show 4 ≤ a1.toInt by omega)  hw hT hF  (lv_sub hl [0, 1] rfl)
abbrev P_X11_back_6 (ad : Nat → Nat) (cy : Nat → ClassId) (B : Int) (qr : Nat) (s1 : Int) (a1 : Int32) (w0 : va_W) : Int32 → va_W → Prop := fun r u => TW ksC ad cy B qr s1 u ∧ FE ksC ([] : List (Nat × Nat × Nat)) w0 u ∧ ((r = (-1)))
set_option maxHeartbeats 4000000 in
set_option maxRecDepth 100000 in
theorem k_X11_back_6 (l : Launch) (adK adV : Nat → Nat) (dC : Nat → ClassId) (dI : Nat → Nat → Nat) (cy : Nat → ClassId) (ad : Nat → Nat) (B : Int) (hB0 : 2147483648 ≤ B) (hB1 : B ≤ 1152921504606846976) (qr : Nat) (s1 : Int)  (a1 : Int32) (ta1 : a1.toInt ≤ (-1)) (w0 : va_W) (sz : Nat) (hT : TW ksC ad cy B qr s1 w0)  : Met l yX11_back wsX11_back ({ frames := 1, cells := 0, slots := 0, locals := 12 }) (va_Pc [.ref (ad 0), .int a1] (wpreS adK adV dC dI cy sz w0)) (va_Qi (P_X11_back_6 ad cy B qr s1 a1 w0) (fun u : va_W => wpost dC dI cy (va_A w0 sz) u) (va_A w0 sz)) 0 0 (va_A w0 sz) := by
  refine Met.ofW (cc := cX11_back) (maxL := 2) (ret := (some .int)) (by decide) rfl ?_
  intro p e s m args below meth c s₁ Bk hml hv
  obtain ⟨rfl, ⟨hsz, hP, hK, hD0⟩, hE, hSR⟩ := hv
  have hx := Bk.exec
  have hb := Bk.bytes
  have hr := Bk.returns
  have hlocks := Bk.notSynchronized
  have hC : CallFix p m c cX11_back 2 s _ wsX11_back RX11 := ⟨hx, hb, hml, findClass_of_methodNamed Bk.named, atoms_spec (ws := wsX11_back) Bk.pre⟩
  subst hsz
  have hD := hD0.self (sz := s.heap.size)
  generalize hAe : va_A w0 s.heap.size = A at hD hE ⊢
  have hA : ∀ q : Nat, s.heap.size ≤ q → A q := fun q h => by rw [← hAe]; exact Or.inr h
  have hw : Wd dC dI A s.heap s.heap [] w0 := ⟨hP, hD, va_S.rf⟩
  have hF : FE ksC ([] : List (Nat × Nat × Nat)) w0 w0 := FE.rf
  have hl := lv_entry ([.ref (ad 0), .int a1]) (n := 2) (Nat.le_of_ble_eq_true rfl)
  rw [lg_entry_eq]
  generalize (lg_sl ([.ref (ad 0), .int a1]) ++ List.replicate (2 - (lg_sl ([.ref (ad 0), .int a1])).length) Slot.unset).toArray = ls at hl ⊢
  have hl : lv_has ls 2 [(0, .ref (ad 0)), (1, .int a1)] := hl
  generalize hloc : ([] : List Loc) = locs at hw ⊢
  have J18 : ∀ (H : Heap) (locs : List Loc) (ls : Array Slot) (w1 : va_W), a1.toInt ≤ (-1) → Wd dC dI A s.heap H locs w1 → TW ksC ad cy B qr s1 w1 → FE ksC ([] : List (Nat × Nat × Nat)) w0 w1 → lv_has ls 2 [(0, .ref (ad 0)), (1, .int a1)] → W p l e ({ frames := 1, cells := 0, slots := 0, locals := 12 }) s m (List.toArray [.ref (ad 0), .int a1]) below meth c H locs 0 0 (MQ below (va_Qi (P_X11_back_6 ad cy B qr s1 a1 w0) (fun u : va_W => wpost dC dI cy A u) A) (List.toArray [.ref (ad 0), .int a1]) s 0 0 A) (F0 m 18 ls []) := by
    intro H locs ls w1 t2 hw hT hF hl
    refine lv_iconst (v := (-1)) hx hb dX11_back_18 (by decide) ?_
    exact tk_iret hC hr hlocks hK ⟨hT, hF, rfl⟩ hw dX11_back_19
  refine lv_iload_n hx hb dX11_back_0 rfl (lv_at hl 1 rfl) ?_
  refine lv_if_lt (tgt := 18) hx hb dX11_back_1 (by decide) (fun _ => ?_) (fun c => (c (wk_lt.mpr (show a1.toInt < (0 : Int) by omega))).elim)
  exact J18  s.heap locs ls w0 (show a1.toInt ≤ (-1) by omega)  hw hT hF  (lv_sub hl [0, 1] rfl)
abbrev P_X11_back_7 (ad : Nat → Nat) (cy : Nat → ClassId) (B : Int) (qr : Nat) (s1 : Int) (a1 : Int32) (w0 : va_W) : Int32 → va_W → Prop := fun r u => TW ksC ad cy B qr s1 u ∧ FE ksC ([] : List (Nat × Nat × Nat)) w0 u ∧ ((r = (-1)))
set_option maxHeartbeats 4000000 in
set_option maxRecDepth 100000 in
theorem k_X11_back_7 (l : Launch) (adK adV : Nat → Nat) (dC : Nat → ClassId) (dI : Nat → Nat → Nat) (cy : Nat → ClassId) (ad : Nat → Nat) (B : Int) (hB0 : 2147483648 ≤ B) (hB1 : B ≤ 1152921504606846976) (qr : Nat) (s1 : Int)  (a1 : Int32) (ra1 : 4 ≤ a1.toInt) (w0 : va_W) (sz : Nat) (hT : TW ksC ad cy B qr s1 w0)  : Met l yX11_back wsX11_back ({ frames := 1, cells := 0, slots := 0, locals := 12 }) (va_Pc [.ref (ad 0), .int a1] (wpreS adK adV dC dI cy sz w0)) (va_Qi (P_X11_back_7 ad cy B qr s1 a1 w0) (fun u : va_W => wpost dC dI cy (va_A w0 sz) u) (va_A w0 sz)) 0 0 (va_A w0 sz) := by
  refine Met.ofW (cc := cX11_back) (maxL := 2) (ret := (some .int)) (by decide) rfl ?_
  intro p e s m args below meth c s₁ Bk hml hv
  obtain ⟨rfl, ⟨hsz, hP, hK, hD0⟩, hE, hSR⟩ := hv
  have hx := Bk.exec
  have hb := Bk.bytes
  have hr := Bk.returns
  have hlocks := Bk.notSynchronized
  have hC : CallFix p m c cX11_back 2 s _ wsX11_back RX11 := ⟨hx, hb, hml, findClass_of_methodNamed Bk.named, atoms_spec (ws := wsX11_back) Bk.pre⟩
  subst hsz
  have hD := hD0.self (sz := s.heap.size)
  generalize hAe : va_A w0 s.heap.size = A at hD hE ⊢
  have hA : ∀ q : Nat, s.heap.size ≤ q → A q := fun q h => by rw [← hAe]; exact Or.inr h
  have hw : Wd dC dI A s.heap s.heap [] w0 := ⟨hP, hD, va_S.rf⟩
  have hF : FE ksC ([] : List (Nat × Nat × Nat)) w0 w0 := FE.rf
  have hl := lv_entry ([.ref (ad 0), .int a1]) (n := 2) (Nat.le_of_ble_eq_true rfl)
  rw [lg_entry_eq]
  generalize (lg_sl ([.ref (ad 0), .int a1]) ++ List.replicate (2 - (lg_sl ([.ref (ad 0), .int a1])).length) Slot.unset).toArray = ls at hl ⊢
  have hl : lv_has ls 2 [(0, .ref (ad 0)), (1, .int a1)] := hl
  generalize hloc : ([] : List Loc) = locs at hw ⊢
  have J18 : ∀ (H : Heap) (locs : List Loc) (ls : Array Slot) (w1 : va_W), 4 ≤ a1.toInt → Wd dC dI A s.heap H locs w1 → TW ksC ad cy B qr s1 w1 → FE ksC ([] : List (Nat × Nat × Nat)) w0 w1 → lv_has ls 2 [(0, .ref (ad 0)), (1, .int a1)] → W p l e ({ frames := 1, cells := 0, slots := 0, locals := 12 }) s m (List.toArray [.ref (ad 0), .int a1]) below meth c H locs 0 0 (MQ below (va_Qi (P_X11_back_7 ad cy B qr s1 a1 w0) (fun u : va_W => wpost dC dI cy A u) A) (List.toArray [.ref (ad 0), .int a1]) s 0 0 A) (F0 m 18 ls []) := by
    intro H locs ls w1 r2 hw hT hF hl
    refine lv_iconst (v := (-1)) hx hb dX11_back_18 (by decide) ?_
    exact tk_iret hC hr hlocks hK ⟨hT, hF, rfl⟩ hw dX11_back_19
  refine lv_iload_n hx hb dX11_back_0 rfl (lv_at hl 1 rfl) ?_
  refine lv_if_lt (tgt := 18) hx hb dX11_back_1 (by decide) (fun c => absurd c (fun h => absurd (show a1.toInt < (0 : Int) from wk_lt.mp h) (by omega))) (fun _ => ?_)
  refine lv_iload_n hx hb dX11_back_4 rfl (lv_at hl 1 rfl) ?_
  refine lv_iconst (v := 4) hx hb dX11_back_5 (by decide) ?_
  refine lv_icmp_ge (tgt := 18) hx hb dX11_back_6 (by decide) (fun _ => ?_) (fun c => (c (wk_le.mpr (show (4 : Int) ≤ a1.toInt by omega))).elim)
  exact J18  s.heap locs ls w0 (show 4 ≤ a1.toInt by omega)  hw hT hF  (lv_sub hl [0, 1] rfl)
