abbrev Pz_X12_readsAll_1 (ad : Nat → Nat) (cy : Nat → ClassId) (B : Int) (qr : Nat) (s1 : Int)  (w0 : va_W) : Int32 → va_W → Prop := fun r u => TW ksM ad cy B qr 12 u ∧ FE ksM [(12, 1, 1), (12, 7, 7), (12, 8, 8), (12, 9, 9), (12, 10, 10), (12, 14, 14), (12, 15, 15), (12, 16, 16), (12, 18, 18), (12, 20, 20), (62, 0, 7), (65, 0, 120), (66, 0, 16), (67, 0, 12)] w0 u ∧ Ev (fun n => m_X12_readsAll n 0 (sI w0)) (r.toInt, sI u) ∧ ((r = 0 ∧ (∃ y : Int32, gi u 0 1 = y ∧ 0 ≤ y.toInt ∧ y.toInt ≤ 0) ∧ (∃ y : Int32, gi u 0 15 = y ∧ 1 ≤ y.toInt ∧ y.toInt ≤ 3205) ∧ (∃ y : Int32, gi u 0 17 = y ∧ 6 ≤ y.toInt ∧ y.toInt ≤ 6) ∧ (∃ y : Int32, gi u 0 18 = y ∧ 0 ≤ y.toInt ∧ y.toInt ≤ 0) ∧ (∃ y : Int32, gi u 0 20 = y ∧ 0 ≤ y.toInt ∧ y.toInt ≤ 32)) ∨ (r = 1 ∧ (∃ y : Int32, gi u 0 1 = y ∧ 0 ≤ y.toInt ∧ y.toInt ≤ 0) ∧ (∃ y : Int32, gi u 0 15 = y ∧ 0 ≤ y.toInt ∧ y.toInt ≤ 0) ∧ (∃ y : Int32, gi u 0 17 = y ∧ 6 ≤ y.toInt ∧ y.toInt ≤ 6) ∧ (∃ y : Int32, gi u 0 18 = y ∧ 0 ≤ y.toInt ∧ y.toInt ≤ 0) ∧ (∃ y : Int32, gi u 0 20 = y ∧ 0 ≤ y.toInt ∧ y.toInt ≤ 32)))
set_option maxHeartbeats 4000000 in
set_option maxRecDepth 100000 in
theorem kz_X12_readsAll_1 (l : Launch) (adK adV : Nat → Nat) (dC : Nat → ClassId) (dI : Nat → Nat → Nat) (cy : Nat → ClassId) (ad : Nat → Nat) (B : Int) (hB0 : 100000 ≤ B) (hB1 : B ≤ 1073741824) (qr : Nat) (s1 : Int)   (w0 : va_W) (sz : Nat) (hT : TW ksM ad cy B qr 12 w0) (cf0_ : gi w0 0 17 = 6) (f1_ : Int32) (cf1_ : gi w0 0 20 = f1_) (rf1_ : 0 ≤ f1_.toInt) (tf1_ : f1_.toInt ≤ 32) : Met l yX12_readsAll (wu yX12_readsAll cX12_readsAll 2 (some .boolean)) ({ frames := 6, cells := 0, slots := 0, locals := 128 }) (va_Pc [.ref (ad 0)] (wpreS adK adV dC dI cy sz w0)) (va_Qi (Pz_X12_readsAll_1 ad cy B qr s1  w0) (fun u : va_W => wpost dC dI cy (va_A w0 sz) u) (va_A w0 sz)) 0 0 (va_A w0 sz) := by
  refine Met.ofW (cc := cX12_readsAll) (maxL := 2) (ret := (some .boolean)) (by decide) rfl ?_
  intro p e s m args below meth c s₁ Bk hml hv
  obtain ⟨rfl, ⟨hsz, hP, hK, hD0⟩, hE, hSR⟩ := hv
  have hx := Bk.exec
  have hb := Bk.bytes
  have hr := Bk.returns
  have hlocks := Bk.notSynchronized
  have hC : CallFix p m c cX12_readsAll 2 s _ (wu yX12_readsAll cX12_readsAll 2 (some .boolean)) RX12 := ⟨hx, hb, hml, findClass_of_methodNamed Bk.named, atoms_spec (ws := (wu yX12_readsAll cX12_readsAll 2 (some .boolean))) Bk.pre⟩
  subst hsz
  have hD := hD0.self (sz := s.heap.size)
  generalize hAe : va_A w0 s.heap.size = A at hD hE ⊢
  have hA : ∀ q : Nat, s.heap.size ≤ q → A q := fun q h => by rw [← hAe]; exact Or.inr h
  have hw : Wd dC dI A s.heap s.heap [] w0 := ⟨hP, hD, va_S.rf⟩
  have hF : FE ksM [(12, 1, 1), (12, 7, 7), (12, 8, 8), (12, 9, 9), (12, 10, 10), (12, 14, 14), (12, 15, 15), (12, 16, 16), (12, 18, 18), (12, 20, 20), (62, 0, 7), (65, 0, 120), (66, 0, 16), (67, 0, 12)] w0 w0 := FE.rf
  have hl := lv_entry ([.ref (ad 0)]) (n := 2) (Nat.le_of_ble_eq_true rfl)
  rw [lg_entry_eq]
  generalize (lg_sl ([.ref (ad 0)]) ++ List.replicate (2 - (lg_sl ([.ref (ad 0)])).length) Slot.unset).toArray = ls at hl ⊢
  have hl : lv_has ls 2 [(0, .ref (ad 0))] := hl
  generalize hloc : ([] : List Loc) = locs at hw ⊢
  have hinX12 : ∀ w ∈ u_ws RX12 TX12 42, w ∈ (wu yX12_readsAll cX12_readsAll 2 (some .boolean)) := fun _ h => List.mem_cons_of_mem _ (up_71 h)
  have J88 : ∀ (v88_1 : Int32) (f88_0_1 : Int32) (f88_0_20 : Int32) (H : Heap) (locs : List Loc) (ls : Array Slot) (w1 : va_W), 0 ≤ v88_1.toInt → v88_1.toInt ≤ 1 → 0 ≤ f88_0_1.toInt → f88_0_1.toInt ≤ 400 → 0 ≤ f88_0_20.toInt → f88_0_20.toInt ≤ 32 → (f88_0_20.toInt ≤ 32) → Wd dC dI A s.heap H locs w1 → TW ksM ad cy B qr 12 w1 → FE ksM [(12, 1, 1), (12, 7, 7), (12, 8, 8), (12, 9, 9), (12, 10, 10), (12, 14, 14), (12, 15, 15), (12, 16, 16), (12, 18, 18), (12, 20, 20), (62, 0, 7), (65, 0, 120), (66, 0, 16), (67, 0, 12)] w0 w1 → gi w1 0 1 = f88_0_1 → gi w1 0 17 = 6 → gi w1 0 18 = 0 → gi w1 0 20 = f88_0_20 → gi w1 3 6 = 0 → TT (fun n => m_X12_readsAll n 0 (sI w0)) (fun n => b_X12_readsAll_88 (j_X12_readsAll 0 n) n 0 (sI w1)) → lv_has ls 2 [(0, .ref (ad 0)), (1, .int v88_1)] → W p l e ({ frames := 6, cells := 0, slots := 0, locals := 128 }) s m (List.toArray [.ref (ad 0)]) below meth c H locs 0 0 (MQ below (va_Qi (Pz_X12_readsAll_1 ad cy B qr s1  w0) (fun u : va_W => wpost dC dI cy A u) A) (List.toArray [.ref (ad 0)]) s 0 0 A) (F0 m 88 ls []) := by
    intro v88_1 f88_0_1 f88_0_20 H locs ls w1 r2 t3 r4 t5 r9 t10 hcr88_0 hw hT hF c6 c7 c8 c11 c12 hM hl
    refine lv_aload_n hx hb dX12_readsAll_88 rfl (lv_at hl 0 rfl) ?_
    refine lv_iconst (v := 0) hx hb dX12_readsAll_89 (by decide) ?_
    refine tk_puti hC hK hw hT hinX12 tyX12_ok nmX12 kM_at0 (by decide) rfl rfl 1 (by decide) (List.mem_cons_of_mem _ uw_8_7) rfl rfl rfl rfl (by decide) (by decide) dX12_readsAll_90 (fun H locs w13 hw hT k15 c14 => ?_)
    replace hM := hM.wr (sI_upc k15 c14 (by decide))
    have hF := hF.put kM_at0 (k := 1) (by decide) k15
    have c16 := k15.gi (Or.inr (by decide)) c7
    have c17 := k15.gi (Or.inr (by decide)) c8
    have c18 := k15.gi (Or.inr (by decide)) c11
    have c19 := k15.gi (Or.inr (by decide)) c12
    refine lv_aload_n hx hb dX12_readsAll_93 rfl (lv_at hl 0 rfl) ?_
    refine tk_geti hC hK hw hT hinX12 kM_at0 (by decide) rfl 15 (by decide) (List.mem_cons_of_mem _ uw_19_12) rfl rfl dX12_readsAll_94 (fun x20 c21 rx20 tx20 => ?_)
    replace hM := hM.rd (sI_at c21)
    refine lv_if_ne (tgt := 104) hx hb dX12_readsAll_97 (by decide) (fun c22 => ?_) (fun c22 => ?_)
    · have c22 : ¬ x20.toInt = (0 : Int) := wk_eqF c22
      replace hM := hM.pos c22
      refine lv_iconst (v := 0) hx hb dX12_readsAll_104 (by decide) ?_
      exact tk_zret hC hr rfl hlocks hK ⟨hT, hF, hM.ret (by decide), (Or.inl ⟨rfl, ⟨0, c14, (by decide), (by decide)⟩, ⟨x20, c21, (show 1 ≤ x20.toInt by first | with_reducible assumption | omega), (show x20.toInt ≤ 3205 from tx20)⟩, ⟨6, c16, (by decide), (by decide)⟩, ⟨0, c17, (by decide), (by decide)⟩, ⟨f88_0_20, c18, (show 0 ≤ f88_0_20.toInt from r9), (show f88_0_20.toInt ≤ 32 from t10)⟩⟩)⟩ hw dX12_readsAll_105
    · have c22 : x20.toInt = (0 : Int) := wk_eq.mp c22
      replace hM := hM.neg (fun q => q c22)
      refine lv_iconst (v := 1) hx hb dX12_readsAll_100 (by decide) ?_
      refine lv_goto (tgt := 105) hx hb dX12_readsAll_101 (by decide) ?_
      exact tk_zret hC hr rfl hlocks hK ⟨hT, hF, hM.ret (by decide), (Or.inr ⟨rfl, ⟨0, c14, (by decide), (by decide)⟩, ⟨x20, c21, (show 0 ≤ x20.toInt from rx20), (show x20.toInt ≤ 0 by first | with_reducible assumption | omega)⟩, ⟨6, c16, (by decide), (by decide)⟩, ⟨0, c17, (by decide), (by decide)⟩, ⟨f88_0_20, c18, (show 0 ≤ f88_0_20.toInt from r9), (show f88_0_20.toInt ≤ 32 from t10)⟩⟩)⟩ hw dX12_readsAll_105
  have J66 : ∀ (v66_1 : Int32) (f66_0_1 : Int32) (f66_0_20 : Int32) (H : Heap) (locs : List Loc) (ls : Array Slot) (w23 : va_W), 0 ≤ v66_1.toInt → v66_1.toInt ≤ 1 → 0 ≤ f66_0_1.toInt → f66_0_1.toInt ≤ 400 → 0 ≤ f66_0_20.toInt → f66_0_20.toInt ≤ 32 → (f66_0_20.toInt ≤ 32) → Wd dC dI A s.heap H locs w23 → TW ksM ad cy B qr 12 w23 → FE ksM [(12, 1, 1), (12, 7, 7), (12, 8, 8), (12, 9, 9), (12, 10, 10), (12, 14, 14), (12, 15, 15), (12, 16, 16), (12, 18, 18), (12, 20, 20), (62, 0, 7), (65, 0, 120), (66, 0, 16), (67, 0, 12)] w0 w23 → gi w23 0 1 = f66_0_1 → gi w23 0 17 = 6 → gi w23 0 18 = 0 → gi w23 0 20 = f66_0_20 → gi w23 3 6 = 0 → TT (fun n => m_X12_readsAll n 0 (sI w0)) (fun n => b_X12_readsAll_66 (j_X12_readsAll 0 n) n 0 (v66_1.toInt) (sI w23)) → lv_has ls 2 [(0, .ref (ad 0)), (1, .int v66_1)] → W p l e ({ frames := 6, cells := 0, slots := 0, locals := 128 }) s m (List.toArray [.ref (ad 0)]) below meth c H locs 0 0 (MQ below (va_Qi (Pz_X12_readsAll_1 ad cy B qr s1  w0) (fun u : va_W => wpost dC dI cy A u) A) (List.toArray [.ref (ad 0)]) s 0 0 A) (F0 m 66 ls []) := by
    intro v66_1 f66_0_1 f66_0_20 H locs ls w23 r24 t25 r26 t27 r31 t32 hcr66_0 hw hT hF c28 c29 c30 c33 c34 hM hl
    refine lv_iload_n hx hb dX12_readsAll_66 rfl (lv_at hl 1 rfl) ?_
    refine lv_if_eq (tgt := 88) hx hb dX12_readsAll_67 (by decide) (fun c35 => ?_) (fun c35 => ?_)
    · have c35 : v66_1.toInt = (0 : Int) := wk_eq.mp c35
      replace hM := hM.pos c35
      exact J88 v66_1 f66_0_1 f66_0_20 H locs ls w23 (show 0 ≤ v66_1.toInt from r24) (show v66_1.toInt ≤ 1 from t25) (show 0 ≤ f66_0_1.toInt from r26) (show f66_0_1.toInt ≤ 400 from t27) (show 0 ≤ f66_0_20.toInt from r31) (show f66_0_20.toInt ≤ 32 from t32) (show f66_0_20.toInt ≤ 32 from t32)  hw hT hF c28 c29 c30 c33 c34 hM (lv_sub hl [0, 1] rfl)
    · have c35 : ¬ v66_1.toInt = (0 : Int) := wk_eqF c35
      replace hM := hM.neg c35
      refine lv_aload_n hx hb dX12_readsAll_70 rfl (lv_at hl 0 rfl) ?_
      obtain ⟨x36, c37, rx36, tx36⟩ := hT.rdi (lo := 0) (hi := 400) (k := 14) kM_at0 (by decide) rfl
      refine tk_Vi hC hK hw hT hA hE hSR kM_at0 (by decide) rfl (kz_X12_see_1 l adK adV dC dI cy ad B hB0 (Int.le_trans hB1 (by decide)) qr s1    w23 H.size hT x36 c37 (show 0 ≤ x36.toInt by first | with_reducible assumption | omega) (show x36.toInt ≤ 400 by first | with_reducible assumption | omega)) (cwV 0 hC.2.2.2.2 uV_RX12_97 rfl rfl rfl (by decide +kernel) ⟨Nat.le_of_ble_eq_true rfl, Nat.le_of_ble_eq_true rfl⟩) rfl hl.1 rfl (Nat.le_of_ble_eq_true rfl) dX12_readsAll_71 (fun r38 w40 H locs hp39 hw => ?_)
      obtain ⟨hT, k41, hv59, hg58⟩ := hp39
      have hF := hF.tr k41 (by decide)
      have c60 := k41.gi kM_at0 (by decide) c28
      have c61 := k41.gi kM_at0 (by decide) c29
      have c62 := k41.gi kM_at0 (by decide) c30
      have c63 := k41.gi kM_at0 (by decide) c33
      have c64 := k41.gi kM_at3 (by decide) c34
      rcases hg58 with ⟨g42, g43, ⟨x44, c45, rx44, tx44⟩, ⟨x46, c47, rx46, tx46⟩, g48, g49⟩ | ⟨rfl, ⟨x50, c51, rx50, tx50⟩, ⟨x52, c53, rx52, tx52⟩, g54⟩ | ⟨rfl, ⟨x55, c56, rx55, tx55⟩, g57⟩
      · replace hM := hM.call hv59 rfl
        have ex44 : x44.toInt = f66_0_1.toInt := by rw [← c60.symm.trans c45]
        have g48 : (gi w40 1 (x46.toInt).toNat).toInt ≠ 32 := by have q := g48; simp only [c47] at q; first | with_reducible exact q | omega
        have g49 : (x46.toInt = x36.toInt ∨ (gi w23 1 (x36.toInt).toNat).toInt = 32) := by have q := g49; simp only [c37, c47] at q; first | with_reducible exact q | omega
        refine lv_iconst (v := (-1)) hx hb dX12_readsAll_74 (by decide) ?_
        refine lv_icmp_eq (tgt := 88) hx hb dX12_readsAll_75 (by decide) (fun c => absurd c (fun h => absurd (show r38.toInt = (-1 : Int) from wk_eq.mp h) (by omega))) (fun _ => ?_)
        replace hM := hM.neg (by omega)
        refine lv_aload_n hx hb dX12_readsAll_78 rfl (lv_at hl 0 rfl) ?_
        refine lv_iconst (v := 0) hx hb dX12_readsAll_79 (by decide) ?_
        refine lv_aload_n hx hb dX12_readsAll_80 rfl (lv_at hl 0 rfl) ?_
        refine tk_geti hC hK hw hT hinX12 kM_at0 (by decide) rfl 14 (by decide) (List.mem_cons_of_mem _ uw_19_18) rfl rfl dX12_readsAll_81 (fun x67 c68 rx67 tx67 => ?_)
        refine wk_top x46 (c68.symm.trans c47) ?_
        replace hM := hM.rd (sI_at c47)
        refine tk_Vi hC hK hw hT hA hE hSR kM_at0 (by decide) rfl (kz_X12_fails_1 l adK adV dC dI cy ad B hB0 (Int.le_trans hB1 (by decide)) qr s1   0 (by decide) (by decide) x46 (show 0 ≤ x46.toInt by first | with_reducible assumption | omega) (show x46.toInt ≤ 400 by first | with_reducible assumption | omega) w40 H.size hT ) (cwV 2 hC.2.2.2.2 uV_RX12_115 rfl rfl rfl (by decide +kernel) ⟨Nat.le_of_ble_eq_true rfl, Nat.le_of_ble_eq_true rfl⟩) rfl hl.1 rfl (Nat.le_of_ble_eq_true rfl) dX12_readsAll_84 (fun r69 w71 H locs hp70 hw => ?_)
        obtain ⟨hT, k72, hv76, hg75⟩ := hp70
        try simp only [show (0 : Int32).toInt = 0 by decide] at hv76
        have hF := hF.tr k72 (by decide)
        have c77 := k72.gi kM_at0 (by decide) c60
        have c78 := k72.gi kM_at0 (by decide) c61
        have c79 := k72.gi kM_at0 (by decide) c62
        have c80 := k72.gi kM_at0 (by decide) c63
        have c81 := k72.gi kM_at3 (by decide) c64
        have c82 := k72.gi kM_at0 (by decide) c47
        obtain ⟨rfl, ⟨x73, c74, rx73, tx73⟩⟩ := hg75
        replace hM := hM.call (r' := 0) hv76 (by decide)
        refine lv_pop hx hb dX12_readsAll_87 rfl ?_
        exact J88 v66_1 f66_0_1 f66_0_20 H locs ls w71 (show 0 ≤ v66_1.toInt from r24) (show v66_1.toInt ≤ 1 from t25) (show 0 ≤ f66_0_1.toInt from r26) (show f66_0_1.toInt ≤ 400 from t27) (show 0 ≤ f66_0_20.toInt from r31) (show f66_0_20.toInt ≤ 32 from t32) (show f66_0_20.toInt ≤ 32 from t32)  hw hT hF c77 c78 c79 c80 c81 hM (lv_sub hl [0, 1] rfl)
      · replace hM := hM.call (r' := (-1)) hv59 (by decide)
        have ex50 : x50.toInt = f66_0_1.toInt := by rw [← c60.symm.trans c51]
        have g54 : (x52.toInt = x36.toInt ∨ (gi w23 1 (x36.toInt).toNat).toInt = 32) := by have q := g54; simp only [c37, c53] at q; first | with_reducible exact q | omega
        refine lv_iconst (v := (-1)) hx hb dX12_readsAll_74 (by decide) ?_
        refine lv_icmp_eq (tgt := 88) hx hb dX12_readsAll_75 (by decide) (fun _ => ?_) (fun c => absurd (by decide) c)
        replace hM := hM.pos (by decide)
        exact J88 v66_1 f66_0_1 f66_0_20 H locs ls w40 (show 0 ≤ v66_1.toInt from r24) (show v66_1.toInt ≤ 1 from t25) (show 0 ≤ f66_0_1.toInt from r26) (show f66_0_1.toInt ≤ 400 from t27) (show 0 ≤ f66_0_20.toInt from r31) (show f66_0_20.toInt ≤ 32 from t32) (show f66_0_20.toInt ≤ 32 from t32)  hw hT hF c60 c61 c62 c63 c64 hM (lv_sub hl [0, 1] rfl)
      · replace hM := hM.call (r' := (-1)) hv59 (by decide)
        have ex55 : x55.toInt = f66_0_1.toInt := by rw [← c60.symm.trans c56]
        obtain ⟨x65, c66, rx65, tx65⟩ := hT.rdi (lo := 0) (hi := 400) (k := 14) kM_at0 (by decide) rfl
        have g57 : (x65.toInt = x36.toInt ∨ (gi w23 1 (x36.toInt).toNat).toInt = 32) := by have q := g57; simp only [c37, c66] at q; first | with_reducible exact q | omega
        refine lv_iconst (v := (-1)) hx hb dX12_readsAll_74 (by decide) ?_
        refine lv_icmp_eq (tgt := 88) hx hb dX12_readsAll_75 (by decide) (fun _ => ?_) (fun c => absurd (by decide) c)
        replace hM := hM.pos (by decide)
        exact J88 v66_1 f66_0_1 f66_0_20 H locs ls w40 (show 0 ≤ v66_1.toInt from r24) (show v66_1.toInt ≤ 1 from t25) (show 0 ≤ f66_0_1.toInt from r26) (show f66_0_1.toInt ≤ 400 from t27) (show 0 ≤ f66_0_20.toInt from r31) (show f66_0_20.toInt ≤ 32 from t32) (show f66_0_20.toInt ≤ 32 from t32)  hw hT hF c60 c61 c62 c63 c64 hM (lv_sub hl [0, 1] rfl)
  have L35 : ∀ (n35 : Nat) (v35_1 : Int32) (f35_0_1 : Int32) (f35_0_20 : Int32) (H : Heap) (locs : List Loc) (ls : Array Slot) (w83 : va_W), 0 ≤ v35_1.toInt → v35_1.toInt ≤ 1 → 0 ≤ f35_0_1.toInt → f35_0_1.toInt ≤ 400 → 0 ≤ f35_0_20.toInt → f35_0_20.toInt ≤ 32 → (f35_0_20.toInt ≤ 32) → (2 * (32 - f35_0_20.toInt) + v35_1.toInt).toNat < n35 → Wd dC dI A s.heap H locs w83 → TW ksM ad cy B qr 12 w83 → FE ksM [(12, 1, 1), (12, 7, 7), (12, 8, 8), (12, 9, 9), (12, 10, 10), (12, 14, 14), (12, 15, 15), (12, 16, 16), (12, 18, 18), (12, 20, 20), (62, 0, 7), (65, 0, 120), (66, 0, 16), (67, 0, 12)] w0 w83 → gi w83 0 1 = f35_0_1 → gi w83 0 17 = 6 → gi w83 0 18 = 0 → gi w83 0 20 = f35_0_20 → gi w83 3 6 = 0 → TT (fun n => m_X12_readsAll n 0 (sI w0)) (fun n => j_X12_readsAll 0 n 35 [v35_1.toInt] (sI w83)) → lv_has ls 2 [(0, .ref (ad 0)), (1, .int v35_1)] → W p l e ({ frames := 6, cells := 0, slots := 0, locals := 128 }) s m (List.toArray [.ref (ad 0)]) below meth c H locs 0 0 (MQ below (va_Qi (Pz_X12_readsAll_1 ad cy B qr s1  w0) (fun u : va_W => wpost dC dI cy A u) A) (List.toArray [.ref (ad 0)]) s 0 0 A) (F0 m 35 ls []) := by
    intro n35
    induction n35 with
    | zero => intro v35_1 f35_0_1 f35_0_20 H locs ls w83 r84 t85 r86 t87 r91 t92 hcr35_0 hm35 hw hT hF c88 c89 c90 c93 c94 hM hl; omega
    | succ n35 ih35 =>
      intro v35_1 f35_0_1 f35_0_20 H locs ls w83 r84 t85 r86 t87 r91 t92 hcr35_0 hm35 hw hT hF c88 c89 c90 c93 c94 hM hl
      replace hM := hM.suc (fun _ => e_X12_readsAll_35)
      refine lv_iload_n hx hb dX12_readsAll_35 rfl (lv_at hl 1 rfl) ?_
      refine lv_if_eq (tgt := 66) hx hb dX12_readsAll_36 (by decide) (fun c95 => ?_) (fun c95 => ?_)
      · have c95 : v35_1.toInt = (0 : Int) := wk_eq.mp c95
        replace hM := hM.pos c95
        exact J66 v35_1 f35_0_1 f35_0_20 H locs ls w83 (show 0 ≤ v35_1.toInt from r84) (show v35_1.toInt ≤ 1 from t85) (show 0 ≤ f35_0_1.toInt from r86) (show f35_0_1.toInt ≤ 400 from t87) (show 0 ≤ f35_0_20.toInt from r91) (show f35_0_20.toInt ≤ 32 from t92) (show f35_0_20.toInt ≤ 32 from t92)  hw hT hF c88 c89 c90 c93 c94 hM (lv_sub hl [0, 1] rfl)
      · have c95 : ¬ v35_1.toInt = (0 : Int) := wk_eqF c95
        replace hM := hM.neg c95
        refine lv_aload_n hx hb dX12_readsAll_39 rfl (lv_at hl 0 rfl) ?_
        obtain ⟨x96, c97, rx96, tx96⟩ := hT.rdi (lo := 0) (hi := 400) (k := 14) kM_at0 (by decide) rfl
        refine tk_Vi hC hK hw hT hA hE hSR kM_at0 (by decide) rfl (kz_X12_see_1 l adK adV dC dI cy ad B hB0 (Int.le_trans hB1 (by decide)) qr s1    w83 H.size hT x96 c97 (show 0 ≤ x96.toInt by first | with_reducible assumption | omega) (show x96.toInt ≤ 400 by first | with_reducible assumption | omega)) (cwV 0 hC.2.2.2.2 uV_RX12_97 rfl rfl rfl (by decide +kernel) ⟨Nat.le_of_ble_eq_true rfl, Nat.le_of_ble_eq_true rfl⟩) rfl hl.1 rfl (Nat.le_of_ble_eq_true rfl) dX12_readsAll_40 (fun r98 w100 H locs hp99 hw => ?_)
        obtain ⟨hT, k101, hv119, hg118⟩ := hp99
        have hF := hF.tr k101 (by decide)
        have c120 := k101.gi kM_at0 (by decide) c88
        have c121 := k101.gi kM_at0 (by decide) c89
        have c122 := k101.gi kM_at0 (by decide) c90
        have c123 := k101.gi kM_at0 (by decide) c93
        have c124 := k101.gi kM_at3 (by decide) c94
        rcases hg118 with ⟨g102, g103, ⟨x104, c105, rx104, tx104⟩, ⟨x106, c107, rx106, tx106⟩, g108, g109⟩ | ⟨rfl, ⟨x110, c111, rx110, tx110⟩, ⟨x112, c113, rx112, tx112⟩, g114⟩ | ⟨rfl, ⟨x115, c116, rx115, tx115⟩, g117⟩
        · replace hM := hM.call hv119 rfl
          have ex104 : x104.toInt = f35_0_1.toInt := by rw [← c120.symm.trans c105]
          have g108 : (gi w100 1 (x106.toInt).toNat).toInt ≠ 32 := by have q := g108; simp only [c107] at q; first | with_reducible exact q | omega
          have g109 : (x106.toInt = x96.toInt ∨ (gi w83 1 (x96.toInt).toNat).toInt = 32) := by have q := g109; simp only [c97, c107] at q; first | with_reducible exact q | omega
          refine lv_bipush (v := 59) hx hb dX12_readsAll_43 (by decide) ?_
          refine lv_icmp_ne (tgt := 66) hx hb dX12_readsAll_45 (by decide) (fun c127 => ?_) (fun c127 => ?_)
          · have c127 : ¬ r98.toInt = (59 : Int) := wk_eqF c127
            replace hM := hM.pos c127
            exact J66 v35_1 f35_0_1 f35_0_20 H locs ls w100 (show 0 ≤ v35_1.toInt from r84) (show v35_1.toInt ≤ 1 from t85) (show 0 ≤ f35_0_1.toInt from r86) (show f35_0_1.toInt ≤ 400 from t87) (show 0 ≤ f35_0_20.toInt from r91) (show f35_0_20.toInt ≤ 32 from t92) (show f35_0_20.toInt ≤ 32 from t92)  hw hT hF c120 c121 c122 c123 c124 hM (lv_sub hl [0, 1] rfl)
          · have c127 : r98.toInt = (59 : Int) := wk_eq.mp c127
            replace hM := hM.neg (fun q => q c127)
            refine lv_aload_n hx hb dX12_readsAll_48 rfl (lv_at hl 0 rfl) ?_
            refine lv_dup hx hb dX12_readsAll_49 rfl ?_
            refine tk_geti hC hK hw hT hinX12 kM_at0 (by decide) rfl 14 (by decide) (List.mem_cons_of_mem _ uw_19_18) rfl rfl dX12_readsAll_50 (fun x128 c129 rx128 tx128 => ?_)
            refine wk_top x106 (c129.symm.trans c107) ?_
            replace hM := hM.rd (sI_at c107)
            refine lv_iconst (v := 1) hx hb dX12_readsAll_53 (by decide) ?_
            refine lv_iadd hx hb dX12_readsAll_54 ?_
            refine lv_topi (fun x130 ex130 => ?_)
            have ezx130 := ex130
            have ex130 : x130.toInt = x106.toInt + (1 : Int) := by rw [ex130]; exact wk_add (show (-2147483648) ≤ x106.toInt + (1 : Int) by omega) (show x106.toInt + (1 : Int) ≤ 2147483647 by omega)
            replace hM := hM.lt ex130.symm
            refine tk_puti hC hK hw hT hinX12 tyX12_ok nmX12 kM_at0 (by decide) rfl rfl 14 (by decide) (List.mem_cons_of_mem _ uw_19_18) rfl rfl rfl rfl (show 0 ≤ x130.toInt by first | with_reducible assumption | omega) (show x130.toInt ≤ 400 by first | with_reducible assumption | omega) dX12_readsAll_55 (fun H locs w131 hw hT k133 c132 => ?_)
            replace hM := hM.wr (sI_up k133 c132)
            have hF := hF.put kM_at0 (k := 14) (by decide) k133
            have c134 := k133.gi (Or.inr (by decide)) c120
            have c135 := k133.gi (Or.inr (by decide)) c121
            have c136 := k133.gi (Or.inr (by decide)) c122
            have c137 := k133.gi (Or.inr (by decide)) c123
            have c138 := k133.gi (Or.inr (by decide)) c124
            refine lv_aload_n hx hb dX12_readsAll_58 rfl (lv_at hl 0 rfl) ?_
            refine tk_Vi hC hK hw hT hA hE hSR kM_at0 (by decide) rfl (kz_X12_clauseHere_1 l adK adV dC dI cy ad B hB0 (Int.le_trans hB1 (by decide)) qr s1    w131 H.size hT c135 f35_0_20 c137 (show 0 ≤ f35_0_20.toInt from r91) (show f35_0_20.toInt ≤ 32 from t92)) (cwV 0 hC.2.2.2.2 uV_RX12_276 rfl rfl rfl (by decide +kernel) ⟨Nat.le_of_ble_eq_true rfl, Nat.le_of_ble_eq_true rfl⟩) rfl hl.1 rfl (Nat.le_of_ble_eq_true rfl) dX12_readsAll_59 (fun r139 w141 H locs hp140 hw => ?_)
            obtain ⟨hT, k142, hv173, hg172⟩ := hp140
            have hF := hF.tr k142 (by decide)
            have c174 := k142.gi kM_at0 (by decide) c134
            have c175 := k142.gi kM_at0 (by decide) c135
            have c176 := k142.gi kM_at0 (by decide) c136
            have c177 := k142.gi kM_at3 (by decide) c138
            rcases hg172 with ⟨rfl, ⟨x143, c144, rx143, tx143⟩, ⟨x145, c146, rx145, tx145⟩, ⟨x147, c148, rx147, tx147⟩, ⟨x149, c150, rx149, tx149⟩, g151⟩ | ⟨rfl, ⟨x152, c153, rx152, tx152⟩, ⟨x154, c155, rx154, tx154⟩, ⟨x156, c157, rx156, tx156⟩, ⟨x158, c159, rx158, tx158⟩, g160⟩ | ⟨rfl, ⟨x161, c162, rx161, tx161⟩, ⟨x163, c164, rx163, tx163⟩, ⟨x165, c166, rx165, tx165⟩, ⟨x167, c168, rx167, tx167⟩, ⟨x169, c170, rx169, tx169⟩, g171⟩
            · replace hM := hM.call (r' := 0) hv173 (by decide)
              have ex143 : x143.toInt = f35_0_1.toInt := by rw [← c174.symm.trans c144]
              have ex147 : x147.toInt = (6 : Int) := by rw [show x147 = 6 from c148.symm.trans c175]; decide
              have g151 : f35_0_20.toInt ≤ x149.toInt := by have q := g151; simp only [c137, c150] at q; first | with_reducible exact q | omega
              refine lv_istore_n (lv' := [(1, .int 0), (0, .ref (ad 0))]) hx hb dX12_readsAll_62 rfl hl (by decide) rfl (fun ls hl => ?_)
              refine lv_goto (tgt := 35) hx hb dX12_readsAll_63 (by decide) ?_
              exact ih35 0 f35_0_1 x149 H locs ls w141 (by decide) (by decide) (show 0 ≤ f35_0_1.toInt from r86) (show f35_0_1.toInt ≤ 400 from t87) (show 0 ≤ x149.toInt by first | with_reducible assumption | omega) (show x149.toInt ≤ 32 by first | with_reducible assumption | omega) (show x149.toInt ≤ 32 by first | with_reducible assumption | omega) (show (2 * (32 - x149.toInt) + (0 : Int)).toNat < n35 by first | exact tn_lt hm35 (by omega) (by omega) | omega) hw hT hF c174 c175 c176 c150 c177 hM (lv_sub hl [1, 0] rfl)
            · replace hM := hM.call (r' := 0) hv173 (by decide)
              have ex152 : x152.toInt = f35_0_1.toInt := by rw [← c174.symm.trans c153]
              have ex156 : x156.toInt = (6 : Int) := by rw [show x156 = 6 from c157.symm.trans c175]; decide
              have g160 : f35_0_20.toInt ≤ x158.toInt := by have q := g160; simp only [c137, c159] at q; first | with_reducible exact q | omega
              refine lv_istore_n (lv' := [(1, .int 0), (0, .ref (ad 0))]) hx hb dX12_readsAll_62 rfl hl (by decide) rfl (fun ls hl => ?_)
              refine lv_goto (tgt := 35) hx hb dX12_readsAll_63 (by decide) ?_
              exact ih35 0 f35_0_1 x158 H locs ls w141 (by decide) (by decide) (show 0 ≤ f35_0_1.toInt from r86) (show f35_0_1.toInt ≤ 400 from t87) (show 0 ≤ x158.toInt by first | with_reducible assumption | omega) (show x158.toInt ≤ 32 by first | with_reducible assumption | omega) (show x158.toInt ≤ 32 by first | with_reducible assumption | omega) (show (2 * (32 - x158.toInt) + (0 : Int)).toNat < n35 by first | exact tn_lt hm35 (by omega) (by omega) | omega) hw hT hF c174 c175 c176 c159 c177 hM (lv_sub hl [1, 0] rfl)
            · replace hM := hM.call (r' := 1) hv173 (by decide)
              have ex161 : x161.toInt = f35_0_1.toInt := by rw [← c174.symm.trans c162]
              have ex167 : x167.toInt = (6 : Int) := by rw [show x167 = 6 from c168.symm.trans c175]; decide
              have g171 : x169.toInt = f35_0_20.toInt + 1 := by have q := g171; simp only [c137, c170] at q; first | with_reducible exact q | omega
              refine lv_istore_n (lv' := [(1, .int 1), (0, .ref (ad 0))]) hx hb dX12_readsAll_62 rfl hl (by decide) rfl (fun ls hl => ?_)
              refine lv_goto (tgt := 35) hx hb dX12_readsAll_63 (by decide) ?_
              exact ih35 1 f35_0_1 x169 H locs ls w141 (by decide) (by decide) (show 0 ≤ f35_0_1.toInt from r86) (show f35_0_1.toInt ≤ 400 from t87) (show 0 ≤ x169.toInt by first | with_reducible assumption | omega) (show x169.toInt ≤ 32 by first | with_reducible assumption | omega) (show x169.toInt ≤ 32 by first | with_reducible assumption | omega) (show (2 * (32 - x169.toInt) + (1 : Int)).toNat < n35 by first | exact tn_lt hm35 (by omega) (by omega) | omega) hw hT hF c174 c175 c176 c170 c177 hM (lv_sub hl [1, 0] rfl)
        · replace hM := hM.call (r' := (-1)) hv119 (by decide)
          have ex110 : x110.toInt = f35_0_1.toInt := by rw [← c120.symm.trans c111]
          have g114 : (x112.toInt = x96.toInt ∨ (gi w83 1 (x96.toInt).toNat).toInt = 32) := by have q := g114; simp only [c97, c113] at q; first | with_reducible exact q | omega
          refine lv_bipush (v := 59) hx hb dX12_readsAll_43 (by decide) ?_
          refine lv_icmp_ne (tgt := 66) hx hb dX12_readsAll_45 (by decide) (fun _ => ?_) (fun c => absurd c (by decide))
          replace hM := hM.pos (by decide)
          exact J66 v35_1 f35_0_1 f35_0_20 H locs ls w100 (show 0 ≤ v35_1.toInt from r84) (show v35_1.toInt ≤ 1 from t85) (show 0 ≤ f35_0_1.toInt from r86) (show f35_0_1.toInt ≤ 400 from t87) (show 0 ≤ f35_0_20.toInt from r91) (show f35_0_20.toInt ≤ 32 from t92) (show f35_0_20.toInt ≤ 32 from t92)  hw hT hF c120 c121 c122 c123 c124 hM (lv_sub hl [0, 1] rfl)
        · replace hM := hM.call (r' := (-1)) hv119 (by decide)
          have ex115 : x115.toInt = f35_0_1.toInt := by rw [← c120.symm.trans c116]
          obtain ⟨x125, c126, rx125, tx125⟩ := hT.rdi (lo := 0) (hi := 400) (k := 14) kM_at0 (by decide) rfl
          have g117 : (x125.toInt = x96.toInt ∨ (gi w83 1 (x96.toInt).toNat).toInt = 32) := by have q := g117; simp only [c97, c126] at q; first | with_reducible exact q | omega
          refine lv_bipush (v := 59) hx hb dX12_readsAll_43 (by decide) ?_
          refine lv_icmp_ne (tgt := 66) hx hb dX12_readsAll_45 (by decide) (fun _ => ?_) (fun c => absurd c (by decide))
          replace hM := hM.pos (by decide)
          exact J66 v35_1 f35_0_1 f35_0_20 H locs ls w100 (show 0 ≤ v35_1.toInt from r84) (show v35_1.toInt ≤ 1 from t85) (show 0 ≤ f35_0_1.toInt from r86) (show f35_0_1.toInt ≤ 400 from t87) (show 0 ≤ f35_0_20.toInt from r91) (show f35_0_20.toInt ≤ 32 from t92) (show f35_0_20.toInt ≤ 32 from t92)  hw hT hF c120 c121 c122 c123 c124 hM (lv_sub hl [0, 1] rfl)
  have hM : TT (fun n => m_X12_readsAll n 0 (sI w0)) (fun n => m_X12_readsAll n 0 (sI w0)) := TT.rf
  refine lv_aload_n hx hb dX12_readsAll_0 rfl (lv_at hl 0 rfl) ?_
  refine tk_getA hC hK hw hT hinX12 kM_at0 (by decide) rfl 4 (by decide) (List.mem_cons_of_mem _ uw_6_16) rfl rfl dX12_readsAll_1 ?_
  refine lv_aload_n hx hb dX12_readsAll_4 rfl (lv_at hl 0 rfl) ?_
  refine tk_geti hC hK hw hT hinX12 kM_at0 (by decide) rfl 17 (by decide) (List.mem_cons_of_mem _ uw_19_7) rfl rfl dX12_readsAll_5 (fun x178 c179 rx178 tx178 => ?_)
  refine wk_top 6 (c179.symm.trans cf0_) ?_
  replace hM := hM.rd (v := 6) ((sI_at cf0_).trans (by decide))
  refine lv_iconst (v := 0) hx hb dX12_readsAll_8 (by decide) ?_
  refine tk_iast hC hK hw hT kM_at3 (by decide) rfl rfl (by decide) (by decide) (by decide) (by decide) dX12_readsAll_9 (fun H locs w180 hw hT k182 c181 => ?_)
  replace hM := hM.wr (sI_upc k182 c181 (by decide))
  have hF := hF.put kM_at3 (inE_of (a := 0) (b := 7) (by decide) (by decide) (by decide)) k182
  have c183 := k182.gi (Or.inl (tk_ne kM_at0 kM_at3 (by decide))) cf0_
  have c184 := k182.gi (Or.inl (tk_ne kM_at0 kM_at3 (by decide))) cf1_
  have c181 : gi w180 3 6 = 0 := c181
  refine lv_aload_n hx hb dX12_readsAll_10 rfl (lv_at hl 0 rfl) ?_
  refine lv_iconst (v := 0) hx hb dX12_readsAll_11 (by decide) ?_
  refine tk_puti hC hK hw hT hinX12 tyX12_ok nmX12 kM_at0 (by decide) rfl rfl 20 (by decide) (List.mem_cons_of_mem _ uw_19_17) rfl rfl rfl rfl (by decide) (by decide) dX12_readsAll_12 (fun H locs w185 hw hT k187 c186 => ?_)
  replace hM := hM.wr (sI_upc k187 c186 (by decide))
  have hF := hF.put kM_at0 (k := 20) (by decide) k187
  have c188 := k187.gi (Or.inr (by decide)) c183
  have c189 := k187.gi (Or.inr (by decide)) c181
  refine lv_aload_n hx hb dX12_readsAll_15 rfl (lv_at hl 0 rfl) ?_
  refine lv_iconst (v := 0) hx hb dX12_readsAll_16 (by decide) ?_
  refine tk_puti hC hK hw hT hinX12 tyX12_ok nmX12 kM_at0 (by decide) rfl rfl 14 (by decide) (List.mem_cons_of_mem _ uw_19_18) rfl rfl rfl rfl (by decide) (by decide) dX12_readsAll_17 (fun H locs w190 hw hT k192 c191 => ?_)
  replace hM := hM.wr (sI_upc k192 c191 (by decide))
  have hF := hF.put kM_at0 (k := 14) (by decide) k192
  have c193 := k192.gi (Or.inr (by decide)) c188
  have c194 := k192.gi (Or.inr (by decide)) c189
  have c195 := k192.gi (Or.inr (by decide)) c186
  refine lv_aload_n hx hb dX12_readsAll_20 rfl (lv_at hl 0 rfl) ?_
  refine lv_iconst (v := 0) hx hb dX12_readsAll_21 (by decide) ?_
  refine tk_puti hC hK hw hT hinX12 tyX12_ok nmX12 kM_at0 (by decide) rfl rfl 15 (by decide) (List.mem_cons_of_mem _ uw_19_12) rfl rfl rfl rfl (by decide) (by decide) dX12_readsAll_22 (fun H locs w196 hw hT k198 c197 => ?_)
  replace hM := hM.wr (sI_upc k198 c197 (by decide))
  have hF := hF.put kM_at0 (k := 15) (by decide) k198
  have c199 := k198.gi (Or.inr (by decide)) c193
  have c200 := k198.gi (Or.inr (by decide)) c194
  have c201 := k198.gi (Or.inr (by decide)) c195
  have c202 := k198.gi (Or.inr (by decide)) c191
  refine lv_aload_n hx hb dX12_readsAll_25 rfl (lv_at hl 0 rfl) ?_
  refine lv_iconst (v := 0) hx hb dX12_readsAll_26 (by decide) ?_
  refine tk_puti hC hK hw hT hinX12 tyX12_ok nmX12 kM_at0 (by decide) rfl rfl 18 (by decide) (List.mem_cons_of_mem _ uw_19_19) rfl rfl rfl rfl (by decide) (by decide) dX12_readsAll_27 (fun H locs w203 hw hT k205 c204 => ?_)
  replace hM := hM.wr (sI_upc k205 c204 (by decide))
  have hF := hF.put kM_at0 (k := 18) (by decide) k205
  have c206 := k205.gi (Or.inr (by decide)) c199
  have c207 := k205.gi (Or.inr (by decide)) c200
  have c208 := k205.gi (Or.inr (by decide)) c201
  have c209 := k205.gi (Or.inr (by decide)) c202
  have c210 := k205.gi (Or.inr (by decide)) c197
  refine lv_aload_n hx hb dX12_readsAll_30 rfl (lv_at hl 0 rfl) ?_
  refine tk_Vi hC hK hw hT hA hE hSR kM_at0 (by decide) rfl (kz_X12_clauseHere_1 l adK adV dC dI cy ad B hB0 (Int.le_trans hB1 (by decide)) qr s1    w203 H.size hT c206 0 c208 (by decide) (by decide)) (cwV 0 hC.2.2.2.2 uV_RX12_276 rfl rfl rfl (by decide +kernel) ⟨Nat.le_of_ble_eq_true rfl, Nat.le_of_ble_eq_true rfl⟩) rfl hl.1 rfl (Nat.le_of_ble_eq_true rfl) dX12_readsAll_31 (fun r211 w213 H locs hp212 hw => ?_)
  obtain ⟨hT, k214, hv245, hg244⟩ := hp212
  have hF := hF.tr k214 (by decide)
  have c246 := k214.gi kM_at0 (by decide) c206
  have c247 := k214.gi kM_at3 (by decide) c207
  have c248 := k214.gi kM_at0 (by decide) c204
  rcases hg244 with ⟨rfl, ⟨x215, c216, rx215, tx215⟩, ⟨x217, c218, rx217, tx217⟩, ⟨x219, c220, rx219, tx219⟩, ⟨x221, c222, rx221, tx221⟩, g223⟩ | ⟨rfl, ⟨x224, c225, rx224, tx224⟩, ⟨x226, c227, rx226, tx226⟩, ⟨x228, c229, rx228, tx228⟩, ⟨x230, c231, rx230, tx230⟩, g232⟩ | ⟨rfl, ⟨x233, c234, rx233, tx233⟩, ⟨x235, c236, rx235, tx235⟩, ⟨x237, c238, rx237, tx237⟩, ⟨x239, c240, rx239, tx239⟩, ⟨x241, c242, rx241, tx241⟩, g243⟩
  · replace hM := hM.call (r' := 0) hv245 (by decide)
    have ex219 : x219.toInt = (6 : Int) := by rw [show x219 = 6 from c220.symm.trans c246]; decide
    have g223 : (0 : Int) ≤ x221.toInt := by have q := g223; simp only [c208, (show (0 : Int32).toInt = 0 by decide), c222] at q; first | with_reducible exact q | omega
    refine lv_istore_n (lv' := [(1, .int 0), (0, .ref (ad 0))]) hx hb dX12_readsAll_34 rfl hl (by decide) rfl (fun ls hl => ?_)
    exact L35 ((2 * (32 - x221.toInt) + (0 : Int)).toNat + 1) 0 x215 x221 H locs ls w213 (by decide) (by decide) (show 0 ≤ x215.toInt by first | with_reducible assumption | omega) (show x215.toInt ≤ 400 by first | with_reducible assumption | omega) (show 0 ≤ x221.toInt from g223) (show x221.toInt ≤ 32 by first | with_reducible assumption | omega) (show x221.toInt ≤ 32 by first | with_reducible assumption | omega) (Nat.lt_succ_self _) hw hT hF c216 c246 c248 c222 c247 hM (lv_sub hl [1, 0] rfl)
  · replace hM := hM.call (r' := 0) hv245 (by decide)
    have ex228 : x228.toInt = (6 : Int) := by rw [show x228 = 6 from c229.symm.trans c246]; decide
    have g232 : (0 : Int) ≤ x230.toInt := by have q := g232; simp only [c208, (show (0 : Int32).toInt = 0 by decide), c231] at q; first | with_reducible exact q | omega
    refine lv_istore_n (lv' := [(1, .int 0), (0, .ref (ad 0))]) hx hb dX12_readsAll_34 rfl hl (by decide) rfl (fun ls hl => ?_)
    exact L35 ((2 * (32 - x230.toInt) + (0 : Int)).toNat + 1) 0 x224 x230 H locs ls w213 (by decide) (by decide) (show 0 ≤ x224.toInt by first | with_reducible assumption | omega) (show x224.toInt ≤ 400 by first | with_reducible assumption | omega) (show 0 ≤ x230.toInt from g232) (show x230.toInt ≤ 32 by first | with_reducible assumption | omega) (show x230.toInt ≤ 32 by first | with_reducible assumption | omega) (Nat.lt_succ_self _) hw hT hF c225 c246 c248 c231 c247 hM (lv_sub hl [1, 0] rfl)
  · replace hM := hM.call (r' := 1) hv245 (by decide)
    have ex239 : x239.toInt = (6 : Int) := by rw [show x239 = 6 from c240.symm.trans c246]; decide
    have g243 : x241.toInt = (0 : Int) + 1 := by have q := g243; simp only [c208, (show (0 : Int32).toInt = 0 by decide), c242] at q; first | with_reducible exact q | omega
    refine lv_istore_n (lv' := [(1, .int 1), (0, .ref (ad 0))]) hx hb dX12_readsAll_34 rfl hl (by decide) rfl (fun ls hl => ?_)
    exact L35 ((2 * (32 - x241.toInt) + (1 : Int)).toNat + 1) 1 x233 x241 H locs ls w213 (by decide) (by decide) (show 0 ≤ x233.toInt by first | with_reducible assumption | omega) (show x233.toInt ≤ 400 by first | with_reducible assumption | omega) (show 0 ≤ x241.toInt by first | with_reducible assumption | omega) (show x241.toInt ≤ 32 by first | with_reducible assumption | omega) (show x241.toInt ≤ 32 by first | with_reducible assumption | omega) (Nat.lt_succ_self _) hw hT hF c234 c246 c248 c242 c247 hM (lv_sub hl [1, 0] rfl)
abbrev Pz_X12_town_1 (ad : Nat → Nat) (cy : Nat → ClassId) (B : Int) (qr : Nat) (s1 : Int)  (w0 : va_W) : Int32 → va_W → Prop := fun r u => TW ksM ad cy B qr 12 u ∧ FE ksM [(12, 1, 1), (12, 7, 7), (12, 8, 8), (12, 9, 9), (12, 10, 10), (12, 14, 14), (12, 15, 15), (12, 16, 16), (12, 17, 17), (12, 18, 18), (12, 20, 20), (62, 0, 7), (65, 0, 120), (66, 0, 16), (67, 0, 12), (71, 0, 0), (71, 0, 295), (71, 1, 1), (71, 2, 2), (71, 3, 3), (71, 9, 9), (71, 10, 129), (71, 140, 155), (71, 156, 167)] w0 u ∧ Ev (fun n => m_X12_town n 0 (sI w0)) (r.toInt, sI u) ∧ (((-3207) ≤ r.toInt ∧ r.toInt ≤ (-3) ∧ (∃ y : Int32, gi u 0 1 = y ∧ 0 ≤ y.toInt ∧ y.toInt ≤ 0) ∧ (∃ y : Int32, gi u 0 15 = y ∧ 1 ≤ y.toInt ∧ y.toInt ≤ 3205) ∧ (∃ y : Int32, gi u 0 17 = y ∧ 6 ≤ y.toInt ∧ y.toInt ≤ 6) ∧ (∃ y : Int32, gi u 0 18 = y ∧ 0 ≤ y.toInt ∧ y.toInt ≤ 0) ∧ (∃ y : Int32, gi u 0 20 = y ∧ 0 ≤ y.toInt ∧ y.toInt ≤ 32)) ∨ (0 ≤ r.toInt ∧ r.toInt ≤ 12 ∧ (∃ y : Int32, gi u 0 1 = y ∧ 0 ≤ y.toInt ∧ y.toInt ≤ 0) ∧ (∃ y : Int32, gi u 0 15 = y ∧ 0 ≤ y.toInt ∧ y.toInt ≤ 0) ∧ (∃ y : Int32, gi u 0 17 = y ∧ 6 ≤ y.toInt ∧ y.toInt ≤ 6) ∧ (∃ y : Int32, gi u 0 18 = y ∧ 0 ≤ y.toInt ∧ y.toInt ≤ 0) ∧ (∃ y : Int32, gi u 0 20 = y ∧ 0 ≤ y.toInt ∧ y.toInt ≤ 32)))
set_option maxHeartbeats 4000000 in
set_option maxRecDepth 100000 in
theorem kz_X12_town_1 (l : Launch) (adK adV : Nat → Nat) (dC : Nat → ClassId) (dI : Nat → Nat → Nat) (cy : Nat → ClassId) (ad : Nat → Nat) (B : Int) (hB0 : 100000 ≤ B) (hB1 : B ≤ 1073741824) (qr : Nat) (s1 : Int)   (w0 : va_W) (sz : Nat) (hT : TW ksM ad cy B qr 12 w0)  : Met l yX12_town (wu yX12_town cX12_town 3 (some .int)) ({ frames := 7, cells := 0, slots := 0, locals := 149 }) (va_Pc [.ref (ad 0)] (wpreS adK adV dC dI cy sz w0)) (va_Qi (Pz_X12_town_1 ad cy B qr s1  w0) (fun u : va_W => wpost dC dI cy (va_A w0 sz) u) (va_A w0 sz)) 0 0 (va_A w0 sz) := by
  refine Met.ofW (cc := cX12_town) (maxL := 3) (ret := (some .int)) (by decide) rfl ?_
  intro p e s m args below meth c s₁ Bk hml hv
  obtain ⟨rfl, ⟨hsz, hP, hK, hD0⟩, hE, hSR⟩ := hv
  have hx := Bk.exec
  have hb := Bk.bytes
  have hr := Bk.returns
  have hlocks := Bk.notSynchronized
  have hC : CallFix p m c cX12_town 3 s _ (wu yX12_town cX12_town 3 (some .int)) RX12 := ⟨hx, hb, hml, findClass_of_methodNamed Bk.named, atoms_spec (ws := (wu yX12_town cX12_town 3 (some .int))) Bk.pre⟩
  subst hsz
  have hD := hD0.self (sz := s.heap.size)
  generalize hAe : va_A w0 s.heap.size = A at hD hE ⊢
  have hA : ∀ q : Nat, s.heap.size ≤ q → A q := fun q h => by rw [← hAe]; exact Or.inr h
  have hw : Wd dC dI A s.heap s.heap [] w0 := ⟨hP, hD, va_S.rf⟩
  have hF : FE ksM [(12, 1, 1), (12, 7, 7), (12, 8, 8), (12, 9, 9), (12, 10, 10), (12, 14, 14), (12, 15, 15), (12, 16, 16), (12, 17, 17), (12, 18, 18), (12, 20, 20), (62, 0, 7), (65, 0, 120), (66, 0, 16), (67, 0, 12), (71, 0, 0), (71, 0, 295), (71, 1, 1), (71, 2, 2), (71, 3, 3), (71, 9, 9), (71, 10, 129), (71, 140, 155), (71, 156, 167)] w0 w0 := FE.rf
  have hl := lv_entry ([.ref (ad 0)]) (n := 3) (Nat.le_of_ble_eq_true rfl)
  rw [lg_entry_eq]
  generalize (lg_sl ([.ref (ad 0)]) ++ List.replicate (3 - (lg_sl ([.ref (ad 0)])).length) Slot.unset).toArray = ls at hl ⊢
  have hl : lv_has ls 3 [(0, .ref (ad 0))] := hl
  generalize hloc : ([] : List Loc) = locs at hw ⊢
  have hinX12 : ∀ w ∈ u_ws RX12 TX12 42, w ∈ (wu yX12_town cX12_town 3 (some .int)) := fun _ h => List.mem_cons_of_mem _ (up_71 h)
  have L189 : ∀ (n189 : Nat) (v189_1 : Int32) (v189_2 : Int32) (f189_0_10 : Int32) (f189_0_20 : Int32) (f189_0_7 : Int32) (f189_0_8 : Int32) (f189_0_9 : Int32) (f189_12_0 : Int32) (f189_12_1 : Int32) (f189_12_2 : Int32) (f189_12_3 : Int32) (f189_12_9 : Int32) (H : Heap) (locs : List Loc) (ls : Array Slot) (w1 : va_W), 0 ≤ v189_1.toInt → 0 ≤ v189_2.toInt → v189_2.toInt ≤ 12 → 0 ≤ f189_0_10.toInt → f189_0_10.toInt ≤ 4 → 0 ≤ f189_0_20.toInt → f189_0_20.toInt ≤ 32 → 0 ≤ f189_0_7.toInt → f189_0_7.toInt ≤ 10 → 0 ≤ f189_0_8.toInt → f189_0_8.toInt ≤ 12 → 0 ≤ f189_0_9.toInt → f189_0_9.toInt ≤ 8 → 0 ≤ f189_12_0.toInt → f189_12_0.toInt ≤ 10 → 0 ≤ f189_12_1.toInt → f189_12_1.toInt ≤ 12 → 0 ≤ f189_12_2.toInt → f189_12_2.toInt ≤ 8 → 0 ≤ f189_12_3.toInt → f189_12_3.toInt ≤ 4 → 0 ≤ f189_12_9.toInt → (12 - v189_2.toInt).toNat < n189 → Wd dC dI A s.heap H locs w1 → TW ksM ad cy B qr 12 w1 → FE ksM [(12, 1, 1), (12, 7, 7), (12, 8, 8), (12, 9, 9), (12, 10, 10), (12, 14, 14), (12, 15, 15), (12, 16, 16), (12, 17, 17), (12, 18, 18), (12, 20, 20), (62, 0, 7), (65, 0, 120), (66, 0, 16), (67, 0, 12), (71, 0, 0), (71, 0, 295), (71, 1, 1), (71, 2, 2), (71, 3, 3), (71, 9, 9), (71, 10, 129), (71, 140, 155), (71, 156, 167)] w0 w1 → gi w1 0 1 = 0 → gi w1 0 10 = f189_0_10 → gi w1 0 15 = 0 → gi w1 0 17 = 6 → gi w1 0 18 = 0 → gi w1 0 20 = f189_0_20 → gi w1 0 7 = f189_0_7 → gi w1 0 8 = f189_0_8 → gi w1 0 9 = f189_0_9 → gi w1 12 0 = f189_12_0 → gi w1 12 1 = f189_12_1 → gi w1 12 2 = f189_12_2 → gi w1 12 3 = f189_12_3 → gi w1 12 9 = f189_12_9 → TT (fun n => m_X12_town n 0 (sI w0)) (fun n => j_X12_town 0 n 189 [v189_2.toInt] (sI w1)) → lv_has ls 3 [(0, .ref (ad 0)), (1, .int v189_1), (2, .int v189_2)] → W p l e ({ frames := 7, cells := 0, slots := 0, locals := 149 }) s m (List.toArray [.ref (ad 0)]) below meth c H locs 0 0 (MQ below (va_Qi (Pz_X12_town_1 ad cy B qr s1  w0) (fun u : va_W => wpost dC dI cy A u) A) (List.toArray [.ref (ad 0)]) s 0 0 A) (F0 m 189 ls []) := by
    intro n189
    induction n189 with
    | zero => intro v189_1 v189_2 f189_0_10 f189_0_20 f189_0_7 f189_0_8 f189_0_9 f189_12_0 f189_12_1 f189_12_2 f189_12_3 f189_12_9 H locs ls w1 r2 r3 t4 r6 t7 r12 t13 r15 t16 r18 t19 r21 t22 r24 t25 r27 t28 r30 t31 r33 t34 r36 hm189 hw hT hF c5 c8 c9 c10 c11 c14 c17 c20 c23 c26 c29 c32 c35 c37 hM hl; omega
    | succ n189 ih189 =>
      intro v189_1 v189_2 f189_0_10 f189_0_20 f189_0_7 f189_0_8 f189_0_9 f189_12_0 f189_12_1 f189_12_2 f189_12_3 f189_12_9 H locs ls w1 r2 r3 t4 r6 t7 r12 t13 r15 t16 r18 t19 r21 t22 r24 t25 r27 t28 r30 t31 r33 t34 r36 hm189 hw hT hF c5 c8 c9 c10 c11 c14 c17 c20 c23 c26 c29 c32 c35 c37 hM hl
      replace hM := hM.suc (fun _ => e_X12_town_189)
      refine lv_iload_n hx hb dX12_town_189 rfl (lv_at hl 2 rfl) ?_
      refine lv_iconst (v := 3) hx hb dX12_town_190 (by decide) ?_
      refine lv_aload_n hx hb dX12_town_191 rfl (lv_at hl 0 rfl) ?_
      refine tk_geti hC hK hw hT hinX12 kM_at0 (by decide) rfl 10 (by decide) (List.mem_cons_of_mem _ uw_19_11) rfl rfl dX12_town_192 (fun x38 c39 rx38 tx38 => ?_)
      refine wk_top f189_0_10 (c39.symm.trans c8) ?_
      replace hM := hM.rd (sI_at c8)
      refine lv_imul hx hb dX12_town_195 ?_
      refine lv_topi (fun x40 ex40 => ?_)
      have ezx40 := ex40
      have ex40 : x40.toInt = (3 : Int) * f189_0_10.toInt := by rw [ex40]; exact wk_mul (show (-2147483648) ≤ (3 : Int) * f189_0_10.toInt by omega) (show (3 : Int) * f189_0_10.toInt ≤ 2147483647 by omega)
      replace hM := hM.lt ex40.symm
      refine lv_icmp_ge (tgt := 221) hx hb dX12_town_196 (by decide) (fun c41 => ?_) (fun c41 => ?_)
      · have c41 : x40.toInt ≤ v189_2.toInt := wk_le.mp c41
        replace hM := hM.pos c41
        refine lv_aload_n hx hb dX12_town_221 rfl (lv_at hl 0 rfl) ?_
        refine tk_geti hC hK hw hT hinX12 kM_at0 (by decide) rfl 8 (by decide) (List.mem_cons_of_mem _ uw_19_9) rfl rfl dX12_town_222 (fun x42 c43 rx42 tx42 => ?_)
        refine wk_top f189_0_8 (c43.symm.trans c20) ?_
        replace hM := hM.rd (sI_at c20)
        exact tk_iret hC hr hlocks hK ⟨hT, hF, hM.ret rfl, (Or.inr ⟨(show 0 ≤ f189_0_8.toInt from r18), (show f189_0_8.toInt ≤ 12 from t19), ⟨0, c5, (by decide), (by decide)⟩, ⟨0, c9, (by decide), (by decide)⟩, ⟨6, c10, (by decide), (by decide)⟩, ⟨0, c11, (by decide), (by decide)⟩, ⟨f189_0_20, c14, (show 0 ≤ f189_0_20.toInt from r12), (show f189_0_20.toInt ≤ 32 from t13)⟩⟩)⟩ hw dX12_town_225
      · have c41 : v189_2.toInt < x40.toInt := wk_leF c41
        replace hM := hM.neg (Int.not_le.mpr c41)
        refine lv_aload_n hx hb dX12_town_199 rfl (lv_at hl 0 rfl) ?_
        refine tk_getA hC hK hw hT hinX12 kM_at0 (by decide) rfl 26 (by decide) (List.mem_cons_of_mem _ uw_7_1) rfl rfl dX12_town_200 ?_
        refine lv_sipush (v := 156) hx hb dX12_town_203 (by decide) ?_
        refine lv_iload_n hx hb dX12_town_206 rfl (lv_at hl 2 rfl) ?_
        refine lv_iadd hx hb dX12_town_207 ?_
        refine lv_topi (fun x44 ex44 => ?_)
        have ezx44 := ex44
        have ex44 : x44.toInt = (156 : Int) + v189_2.toInt := by rw [ex44]; exact wk_add (show (-2147483648) ≤ (156 : Int) + v189_2.toInt by omega) (show (156 : Int) + v189_2.toInt ≤ 2147483647 by omega)
        replace hM := hM.lt ex44.symm
        refine lv_aload_n hx hb dX12_town_208 rfl (lv_at hl 0 rfl) ?_
        refine tk_getA hC hK hw hT hinX12 kM_at0 (by decide) rfl 13 (by decide) (List.mem_cons_of_mem _ uw_6_21) rfl rfl dX12_town_209 ?_
        refine lv_iload_n hx hb dX12_town_212 rfl (lv_at hl 2 rfl) ?_
        refine tk_iald hC hK hw hT kM_at8 rfl rfl (show 0 ≤ v189_2.toInt from r3) (show v189_2.toInt < 12 by first | with_reducible assumption | omega) dX12_town_213 (fun x45 c46 rx45 tx45 => ?_)
        have hox45 := c46
        replace hM := hM.rd (sI_at hox45)
        refine tk_iastR hC hK hw hT kM_at12 (by decide) rfl (show 0 ≤ x44.toInt by first | with_reducible assumption | omega) (show x44.toInt < 296 by first | with_reducible assumption | omega) (tk_rgS rfl 156 1 12 (-2147483648) 2147483647 (by decide +kernel) ⟨(v189_2.toInt - 0).toNat, by omega, show x44.toInt.toNat = 156 + 1 * (v189_2.toInt - 0).toNat by omega⟩ (wk_i32 x45).1 (wk_i32 x45).2) dX12_town_214 (fun H locs w47 hw hT k49 c48 => ?_)
        replace hM := hM.wr (sI_up k49 c48)
        have hF := hF.put kM_at12 (inE_of (a := 156) (b := 167) (by decide) (show 156 ≤ x44.toInt.toNat by omega) (show x44.toInt.toNat ≤ 167 by omega)) k49
        have c50 := k49.gi (Or.inl (tk_ne kM_at0 kM_at12 (by decide))) c5
        have c51 := k49.gi (Or.inl (tk_ne kM_at0 kM_at12 (by decide))) c8
        have c52 := k49.gi (Or.inl (tk_ne kM_at0 kM_at12 (by decide))) c9
        have c53 := k49.gi (Or.inl (tk_ne kM_at0 kM_at12 (by decide))) c10
        have c54 := k49.gi (Or.inl (tk_ne kM_at0 kM_at12 (by decide))) c11
        have c55 := k49.gi (Or.inl (tk_ne kM_at0 kM_at12 (by decide))) c14
        have c56 := k49.gi (Or.inl (tk_ne kM_at0 kM_at12 (by decide))) c17
        have c57 := k49.gi (Or.inl (tk_ne kM_at0 kM_at12 (by decide))) c20
        have c58 := k49.gi (Or.inl (tk_ne kM_at0 kM_at12 (by decide))) c23
        have c59 := k49.gi (Or.inr (show 0 ≠ x44.toInt.toNat by omega)) c26
        have c60 := k49.gi (Or.inr (show 1 ≠ x44.toInt.toNat by omega)) c29
        have c61 := k49.gi (Or.inr (show 2 ≠ x44.toInt.toNat by omega)) c32
        have c62 := k49.gi (Or.inr (show 3 ≠ x44.toInt.toNat by omega)) c35
        have c63 := k49.gi (Or.inr (show 9 ≠ x44.toInt.toNat by omega)) c37
        obtain ⟨x64, ex64⟩ : ∃ y : Int32, y = v189_2 + Int32.ofInt 1 := ⟨_, rfl⟩
        have erx64 := ex64
        refine lv_iinc (v := x64) (lv' := [(2, .int x64), (0, .ref (ad 0)), (1, .int v189_1)]) hx hb dX12_town_215 hl (k := 2) rfl ex64.symm (by decide) rfl (fun ls hl => ?_)
        have ex64 : x64.toInt = v189_2.toInt + 1 := by rw [ex64]; exact wk_add (y := 1) (show -2147483648 ≤ v189_2.toInt + 1 by omega) (show v189_2.toInt + 1 ≤ 2147483647 by omega)
        replace hM := hM.lt ex64.symm
        refine lv_goto (tgt := 189) hx hb dX12_town_218 (by decide) ?_
        exact ih189 v189_1 x64 f189_0_10 f189_0_20 f189_0_7 f189_0_8 f189_0_9 f189_12_0 f189_12_1 f189_12_2 f189_12_3 f189_12_9 H locs ls w47 (show 0 ≤ v189_1.toInt from r2) (show 0 ≤ x64.toInt by first | with_reducible assumption | omega) (show x64.toInt ≤ 12 by first | with_reducible assumption | omega) (show 0 ≤ f189_0_10.toInt from r6) (show f189_0_10.toInt ≤ 4 from t7) (show 0 ≤ f189_0_20.toInt from r12) (show f189_0_20.toInt ≤ 32 from t13) (show 0 ≤ f189_0_7.toInt from r15) (show f189_0_7.toInt ≤ 10 from t16) (show 0 ≤ f189_0_8.toInt from r18) (show f189_0_8.toInt ≤ 12 from t19) (show 0 ≤ f189_0_9.toInt from r21) (show f189_0_9.toInt ≤ 8 from t22) (show 0 ≤ f189_12_0.toInt from r24) (show f189_12_0.toInt ≤ 10 from t25) (show 0 ≤ f189_12_1.toInt from r27) (show f189_12_1.toInt ≤ 12 from t28) (show 0 ≤ f189_12_2.toInt from r30) (show f189_12_2.toInt ≤ 8 from t31) (show 0 ≤ f189_12_3.toInt from r33) (show f189_12_3.toInt ≤ 4 from t34) (show 0 ≤ f189_12_9.toInt from r36) (show (12 - x64.toInt).toNat < n189 by first | exact tn_lt hm189 (by omega) (by omega) | omega) hw hT hF c50 c51 c52 c53 c54 c55 c56 c57 c58 c59 c60 c61 c62 c63 hM (lv_sub hl [1, 2, 0] rfl)
  have L155 : ∀ (n155 : Nat) (v155_1 : Int32) (v155_2 : Int32) (f155_0_10 : Int32) (f155_0_20 : Int32) (f155_0_7 : Int32) (f155_0_8 : Int32) (f155_0_9 : Int32) (f155_12_0 : Int32) (f155_12_1 : Int32) (f155_12_2 : Int32) (f155_12_3 : Int32) (f155_12_9 : Int32) (H : Heap) (locs : List Loc) (ls : Array Slot) (w65 : va_W), 0 ≤ v155_1.toInt → 0 ≤ v155_2.toInt → v155_2.toInt ≤ 16 → 0 ≤ f155_0_10.toInt → f155_0_10.toInt ≤ 4 → 0 ≤ f155_0_20.toInt → f155_0_20.toInt ≤ 32 → 0 ≤ f155_0_7.toInt → f155_0_7.toInt ≤ 10 → 0 ≤ f155_0_8.toInt → f155_0_8.toInt ≤ 12 → 0 ≤ f155_0_9.toInt → f155_0_9.toInt ≤ 8 → 0 ≤ f155_12_0.toInt → f155_12_0.toInt ≤ 10 → 0 ≤ f155_12_1.toInt → f155_12_1.toInt ≤ 12 → 0 ≤ f155_12_2.toInt → f155_12_2.toInt ≤ 8 → 0 ≤ f155_12_3.toInt → f155_12_3.toInt ≤ 4 → 0 ≤ f155_12_9.toInt → (16 - v155_2.toInt).toNat < n155 → Wd dC dI A s.heap H locs w65 → TW ksM ad cy B qr 12 w65 → FE ksM [(12, 1, 1), (12, 7, 7), (12, 8, 8), (12, 9, 9), (12, 10, 10), (12, 14, 14), (12, 15, 15), (12, 16, 16), (12, 17, 17), (12, 18, 18), (12, 20, 20), (62, 0, 7), (65, 0, 120), (66, 0, 16), (67, 0, 12), (71, 0, 0), (71, 0, 295), (71, 1, 1), (71, 2, 2), (71, 3, 3), (71, 9, 9), (71, 10, 129), (71, 140, 155), (71, 156, 167)] w0 w65 → gi w65 0 1 = 0 → gi w65 0 10 = f155_0_10 → gi w65 0 15 = 0 → gi w65 0 17 = 6 → gi w65 0 18 = 0 → gi w65 0 20 = f155_0_20 → gi w65 0 7 = f155_0_7 → gi w65 0 8 = f155_0_8 → gi w65 0 9 = f155_0_9 → gi w65 12 0 = f155_12_0 → gi w65 12 1 = f155_12_1 → gi w65 12 2 = f155_12_2 → gi w65 12 3 = f155_12_3 → gi w65 12 9 = f155_12_9 → TT (fun n => m_X12_town n 0 (sI w0)) (fun n => j_X12_town 0 n 155 [v155_2.toInt] (sI w65)) → lv_has ls 3 [(0, .ref (ad 0)), (1, .int v155_1), (2, .int v155_2)] → W p l e ({ frames := 7, cells := 0, slots := 0, locals := 149 }) s m (List.toArray [.ref (ad 0)]) below meth c H locs 0 0 (MQ below (va_Qi (Pz_X12_town_1 ad cy B qr s1  w0) (fun u : va_W => wpost dC dI cy A u) A) (List.toArray [.ref (ad 0)]) s 0 0 A) (F0 m 155 ls []) := by
    intro n155
    induction n155 with
    | zero => intro v155_1 v155_2 f155_0_10 f155_0_20 f155_0_7 f155_0_8 f155_0_9 f155_12_0 f155_12_1 f155_12_2 f155_12_3 f155_12_9 H locs ls w65 r66 r67 t68 r70 t71 r76 t77 r79 t80 r82 t83 r85 t86 r88 t89 r91 t92 r94 t95 r97 t98 r100 hm155 hw hT hF c69 c72 c73 c74 c75 c78 c81 c84 c87 c90 c93 c96 c99 c101 hM hl; omega
    | succ n155 ih155 =>
      intro v155_1 v155_2 f155_0_10 f155_0_20 f155_0_7 f155_0_8 f155_0_9 f155_12_0 f155_12_1 f155_12_2 f155_12_3 f155_12_9 H locs ls w65 r66 r67 t68 r70 t71 r76 t77 r79 t80 r82 t83 r85 t86 r88 t89 r91 t92 r94 t95 r97 t98 r100 hm155 hw hT hF c69 c72 c73 c74 c75 c78 c81 c84 c87 c90 c93 c96 c99 c101 hM hl
      replace hM := hM.suc (fun _ => e_X12_town_155)
      refine lv_iload_n hx hb dX12_town_155 rfl (lv_at hl 2 rfl) ?_
      refine lv_iconst (v := 2) hx hb dX12_town_156 (by decide) ?_
      refine lv_aload_n hx hb dX12_town_157 rfl (lv_at hl 0 rfl) ?_
      refine tk_geti hC hK hw hT hinX12 kM_at0 (by decide) rfl 9 (by decide) (List.mem_cons_of_mem _ uw_19_10) rfl rfl dX12_town_158 (fun x102 c103 rx102 tx102 => ?_)
      refine wk_top f155_0_9 (c103.symm.trans c87) ?_
      replace hM := hM.rd (sI_at c87)
      refine lv_imul hx hb dX12_town_161 ?_
      refine lv_topi (fun x104 ex104 => ?_)
      have ezx104 := ex104
      have ex104 : x104.toInt = (2 : Int) * f155_0_9.toInt := by rw [ex104]; exact wk_mul (show (-2147483648) ≤ (2 : Int) * f155_0_9.toInt by omega) (show (2 : Int) * f155_0_9.toInt ≤ 2147483647 by omega)
      replace hM := hM.lt ex104.symm
      refine lv_icmp_ge (tgt := 187) hx hb dX12_town_162 (by decide) (fun c105 => ?_) (fun c105 => ?_)
      · have c105 : x104.toInt ≤ v155_2.toInt := wk_le.mp c105
        replace hM := hM.pos c105
        refine lv_iconst (v := 0) hx hb dX12_town_187 (by decide) ?_
        refine lv_istore_n (lv' := [(2, .int 0), (0, .ref (ad 0)), (1, .int v155_1)]) hx hb dX12_town_188 rfl hl (by decide) rfl (fun ls hl => ?_)
        exact L189 ((12 - (0 : Int)).toNat + 1) v155_1 0 f155_0_10 f155_0_20 f155_0_7 f155_0_8 f155_0_9 f155_12_0 f155_12_1 f155_12_2 f155_12_3 f155_12_9 H locs ls w65 (show 0 ≤ v155_1.toInt from r66) (by decide) (by decide) (show 0 ≤ f155_0_10.toInt from r70) (show f155_0_10.toInt ≤ 4 from t71) (show 0 ≤ f155_0_20.toInt from r76) (show f155_0_20.toInt ≤ 32 from t77) (show 0 ≤ f155_0_7.toInt from r79) (show f155_0_7.toInt ≤ 10 from t80) (show 0 ≤ f155_0_8.toInt from r82) (show f155_0_8.toInt ≤ 12 from t83) (show 0 ≤ f155_0_9.toInt from r85) (show f155_0_9.toInt ≤ 8 from t86) (show 0 ≤ f155_12_0.toInt from r88) (show f155_12_0.toInt ≤ 10 from t89) (show 0 ≤ f155_12_1.toInt from r91) (show f155_12_1.toInt ≤ 12 from t92) (show 0 ≤ f155_12_2.toInt from r94) (show f155_12_2.toInt ≤ 8 from t95) (show 0 ≤ f155_12_3.toInt from r97) (show f155_12_3.toInt ≤ 4 from t98) (show 0 ≤ f155_12_9.toInt from r100) (Nat.lt_succ_self _) hw hT hF c69 c72 c73 c74 c75 c78 c81 c84 c87 c90 c93 c96 c99 c101 hM (lv_sub hl [1, 2, 0] rfl)
      · have c105 : v155_2.toInt < x104.toInt := wk_leF c105
        replace hM := hM.neg (Int.not_le.mpr c105)
        refine lv_aload_n hx hb dX12_town_165 rfl (lv_at hl 0 rfl) ?_
        refine tk_getA hC hK hw hT hinX12 kM_at0 (by decide) rfl 26 (by decide) (List.mem_cons_of_mem _ uw_7_1) rfl rfl dX12_town_166 ?_
        refine lv_sipush (v := 140) hx hb dX12_town_169 (by decide) ?_
        refine lv_iload_n hx hb dX12_town_172 rfl (lv_at hl 2 rfl) ?_
        refine lv_iadd hx hb dX12_town_173 ?_
        refine lv_topi (fun x106 ex106 => ?_)
        have ezx106 := ex106
        have ex106 : x106.toInt = (140 : Int) + v155_2.toInt := by rw [ex106]; exact wk_add (show (-2147483648) ≤ (140 : Int) + v155_2.toInt by omega) (show (140 : Int) + v155_2.toInt ≤ 2147483647 by omega)
        replace hM := hM.lt ex106.symm
        refine lv_aload_n hx hb dX12_town_174 rfl (lv_at hl 0 rfl) ?_
        refine tk_getA hC hK hw hT hinX12 kM_at0 (by decide) rfl 12 (by decide) (List.mem_cons_of_mem _ uw_6_20) rfl rfl dX12_town_175 ?_
        refine lv_iload_n hx hb dX12_town_178 rfl (lv_at hl 2 rfl) ?_
        refine tk_iald hC hK hw hT kM_at7 rfl rfl (show 0 ≤ v155_2.toInt from r67) (show v155_2.toInt < 16 by first | with_reducible assumption | omega) dX12_town_179 (fun x107 c108 rx107 tx107 => ?_)
        have hox107 := c108
        replace hM := hM.rd (sI_at hox107)
        refine tk_iastR hC hK hw hT kM_at12 (by decide) rfl (show 0 ≤ x106.toInt by first | with_reducible assumption | omega) (show x106.toInt < 296 by first | with_reducible assumption | omega) (tk_rgS rfl 140 1 16 (-2147483648) 2147483647 (by decide +kernel) ⟨(v155_2.toInt - 0).toNat, by omega, show x106.toInt.toNat = 140 + 1 * (v155_2.toInt - 0).toNat by omega⟩ (wk_i32 x107).1 (wk_i32 x107).2) dX12_town_180 (fun H locs w109 hw hT k111 c110 => ?_)
        replace hM := hM.wr (sI_up k111 c110)
        have hF := hF.put kM_at12 (inE_of (a := 140) (b := 155) (by decide) (show 140 ≤ x106.toInt.toNat by omega) (show x106.toInt.toNat ≤ 155 by omega)) k111
        have c112 := k111.gi (Or.inl (tk_ne kM_at0 kM_at12 (by decide))) c69
        have c113 := k111.gi (Or.inl (tk_ne kM_at0 kM_at12 (by decide))) c72
        have c114 := k111.gi (Or.inl (tk_ne kM_at0 kM_at12 (by decide))) c73
        have c115 := k111.gi (Or.inl (tk_ne kM_at0 kM_at12 (by decide))) c74
        have c116 := k111.gi (Or.inl (tk_ne kM_at0 kM_at12 (by decide))) c75
        have c117 := k111.gi (Or.inl (tk_ne kM_at0 kM_at12 (by decide))) c78
        have c118 := k111.gi (Or.inl (tk_ne kM_at0 kM_at12 (by decide))) c81
        have c119 := k111.gi (Or.inl (tk_ne kM_at0 kM_at12 (by decide))) c84
        have c120 := k111.gi (Or.inl (tk_ne kM_at0 kM_at12 (by decide))) c87
        have c121 := k111.gi (Or.inr (show 0 ≠ x106.toInt.toNat by omega)) c90
        have c122 := k111.gi (Or.inr (show 1 ≠ x106.toInt.toNat by omega)) c93
        have c123 := k111.gi (Or.inr (show 2 ≠ x106.toInt.toNat by omega)) c96
        have c124 := k111.gi (Or.inr (show 3 ≠ x106.toInt.toNat by omega)) c99
        have c125 := k111.gi (Or.inr (show 9 ≠ x106.toInt.toNat by omega)) c101
        obtain ⟨x126, ex126⟩ : ∃ y : Int32, y = v155_2 + Int32.ofInt 1 := ⟨_, rfl⟩
        have erx126 := ex126
        refine lv_iinc (v := x126) (lv' := [(2, .int x126), (0, .ref (ad 0)), (1, .int v155_1)]) hx hb dX12_town_181 hl (k := 2) rfl ex126.symm (by decide) rfl (fun ls hl => ?_)
        have ex126 : x126.toInt = v155_2.toInt + 1 := by rw [ex126]; exact wk_add (y := 1) (show -2147483648 ≤ v155_2.toInt + 1 by omega) (show v155_2.toInt + 1 ≤ 2147483647 by omega)
        replace hM := hM.lt ex126.symm
        refine lv_goto (tgt := 155) hx hb dX12_town_184 (by decide) ?_
        exact ih155 v155_1 x126 f155_0_10 f155_0_20 f155_0_7 f155_0_8 f155_0_9 f155_12_0 f155_12_1 f155_12_2 f155_12_3 f155_12_9 H locs ls w109 (show 0 ≤ v155_1.toInt from r66) (show 0 ≤ x126.toInt by first | with_reducible assumption | omega) (show x126.toInt ≤ 16 by first | with_reducible assumption | omega) (show 0 ≤ f155_0_10.toInt from r70) (show f155_0_10.toInt ≤ 4 from t71) (show 0 ≤ f155_0_20.toInt from r76) (show f155_0_20.toInt ≤ 32 from t77) (show 0 ≤ f155_0_7.toInt from r79) (show f155_0_7.toInt ≤ 10 from t80) (show 0 ≤ f155_0_8.toInt from r82) (show f155_0_8.toInt ≤ 12 from t83) (show 0 ≤ f155_0_9.toInt from r85) (show f155_0_9.toInt ≤ 8 from t86) (show 0 ≤ f155_12_0.toInt from r88) (show f155_12_0.toInt ≤ 10 from t89) (show 0 ≤ f155_12_1.toInt from r91) (show f155_12_1.toInt ≤ 12 from t92) (show 0 ≤ f155_12_2.toInt from r94) (show f155_12_2.toInt ≤ 8 from t95) (show 0 ≤ f155_12_3.toInt from r97) (show f155_12_3.toInt ≤ 4 from t98) (show 0 ≤ f155_12_9.toInt from r100) (show (16 - x126.toInt).toNat < n155 by first | exact tn_lt hm155 (by omega) (by omega) | omega) hw hT hF c112 c113 c114 c115 c116 c117 c118 c119 c120 c121 c122 c123 c124 c125 hM (lv_sub hl [1, 2, 0] rfl)
  have L121 : ∀ (n121 : Nat) (v121_1 : Int32) (v121_2 : Int32) (f121_0_10 : Int32) (f121_0_20 : Int32) (f121_0_7 : Int32) (f121_0_8 : Int32) (f121_0_9 : Int32) (f121_12_0 : Int32) (f121_12_1 : Int32) (f121_12_2 : Int32) (f121_12_3 : Int32) (f121_12_9 : Int32) (H : Heap) (locs : List Loc) (ls : Array Slot) (w127 : va_W), 0 ≤ v121_1.toInt → 0 ≤ v121_2.toInt → v121_2.toInt ≤ 120 → 0 ≤ f121_0_10.toInt → f121_0_10.toInt ≤ 4 → 0 ≤ f121_0_20.toInt → f121_0_20.toInt ≤ 32 → 0 ≤ f121_0_7.toInt → f121_0_7.toInt ≤ 10 → 0 ≤ f121_0_8.toInt → f121_0_8.toInt ≤ 12 → 0 ≤ f121_0_9.toInt → f121_0_9.toInt ≤ 8 → 0 ≤ f121_12_0.toInt → f121_12_0.toInt ≤ 10 → 0 ≤ f121_12_1.toInt → f121_12_1.toInt ≤ 12 → 0 ≤ f121_12_2.toInt → f121_12_2.toInt ≤ 8 → 0 ≤ f121_12_3.toInt → f121_12_3.toInt ≤ 4 → 0 ≤ f121_12_9.toInt → (120 - v121_2.toInt).toNat < n121 → Wd dC dI A s.heap H locs w127 → TW ksM ad cy B qr 12 w127 → FE ksM [(12, 1, 1), (12, 7, 7), (12, 8, 8), (12, 9, 9), (12, 10, 10), (12, 14, 14), (12, 15, 15), (12, 16, 16), (12, 17, 17), (12, 18, 18), (12, 20, 20), (62, 0, 7), (65, 0, 120), (66, 0, 16), (67, 0, 12), (71, 0, 0), (71, 0, 295), (71, 1, 1), (71, 2, 2), (71, 3, 3), (71, 9, 9), (71, 10, 129), (71, 140, 155), (71, 156, 167)] w0 w127 → gi w127 0 1 = 0 → gi w127 0 10 = f121_0_10 → gi w127 0 15 = 0 → gi w127 0 17 = 6 → gi w127 0 18 = 0 → gi w127 0 20 = f121_0_20 → gi w127 0 7 = f121_0_7 → gi w127 0 8 = f121_0_8 → gi w127 0 9 = f121_0_9 → gi w127 12 0 = f121_12_0 → gi w127 12 1 = f121_12_1 → gi w127 12 2 = f121_12_2 → gi w127 12 3 = f121_12_3 → gi w127 12 9 = f121_12_9 → TT (fun n => m_X12_town n 0 (sI w0)) (fun n => j_X12_town 0 n 121 [v121_2.toInt] (sI w127)) → lv_has ls 3 [(0, .ref (ad 0)), (1, .int v121_1), (2, .int v121_2)] → W p l e ({ frames := 7, cells := 0, slots := 0, locals := 149 }) s m (List.toArray [.ref (ad 0)]) below meth c H locs 0 0 (MQ below (va_Qi (Pz_X12_town_1 ad cy B qr s1  w0) (fun u : va_W => wpost dC dI cy A u) A) (List.toArray [.ref (ad 0)]) s 0 0 A) (F0 m 121 ls []) := by
    intro n121
    induction n121 with
    | zero => intro v121_1 v121_2 f121_0_10 f121_0_20 f121_0_7 f121_0_8 f121_0_9 f121_12_0 f121_12_1 f121_12_2 f121_12_3 f121_12_9 H locs ls w127 r128 r129 t130 r132 t133 r138 t139 r141 t142 r144 t145 r147 t148 r150 t151 r153 t154 r156 t157 r159 t160 r162 hm121 hw hT hF c131 c134 c135 c136 c137 c140 c143 c146 c149 c152 c155 c158 c161 c163 hM hl; omega
    | succ n121 ih121 =>
      intro v121_1 v121_2 f121_0_10 f121_0_20 f121_0_7 f121_0_8 f121_0_9 f121_12_0 f121_12_1 f121_12_2 f121_12_3 f121_12_9 H locs ls w127 r128 r129 t130 r132 t133 r138 t139 r141 t142 r144 t145 r147 t148 r150 t151 r153 t154 r156 t157 r159 t160 r162 hm121 hw hT hF c131 c134 c135 c136 c137 c140 c143 c146 c149 c152 c155 c158 c161 c163 hM hl
      replace hM := hM.suc (fun _ => e_X12_town_121)
      refine lv_iload_n hx hb dX12_town_121 rfl (lv_at hl 2 rfl) ?_
      refine lv_bipush (v := 10) hx hb dX12_town_122 (by decide) ?_
      refine lv_aload_n hx hb dX12_town_124 rfl (lv_at hl 0 rfl) ?_
      refine tk_geti hC hK hw hT hinX12 kM_at0 (by decide) rfl 8 (by decide) (List.mem_cons_of_mem _ uw_19_9) rfl rfl dX12_town_125 (fun x164 c165 rx164 tx164 => ?_)
      refine wk_top f121_0_8 (c165.symm.trans c146) ?_
      replace hM := hM.rd (sI_at c146)
      refine lv_imul hx hb dX12_town_128 ?_
      refine lv_topi (fun x166 ex166 => ?_)
      have ezx166 := ex166
      have ex166 : x166.toInt = (10 : Int) * f121_0_8.toInt := by rw [ex166]; exact wk_mul (show (-2147483648) ≤ (10 : Int) * f121_0_8.toInt by omega) (show (10 : Int) * f121_0_8.toInt ≤ 2147483647 by omega)
      replace hM := hM.lt ex166.symm
      refine lv_icmp_ge (tgt := 153) hx hb dX12_town_129 (by decide) (fun c167 => ?_) (fun c167 => ?_)
      · have c167 : x166.toInt ≤ v121_2.toInt := wk_le.mp c167
        replace hM := hM.pos c167
        refine lv_iconst (v := 0) hx hb dX12_town_153 (by decide) ?_
        refine lv_istore_n (lv' := [(2, .int 0), (0, .ref (ad 0)), (1, .int v121_1)]) hx hb dX12_town_154 rfl hl (by decide) rfl (fun ls hl => ?_)
        exact L155 ((16 - (0 : Int)).toNat + 1) v121_1 0 f121_0_10 f121_0_20 f121_0_7 f121_0_8 f121_0_9 f121_12_0 f121_12_1 f121_12_2 f121_12_3 f121_12_9 H locs ls w127 (show 0 ≤ v121_1.toInt from r128) (by decide) (by decide) (show 0 ≤ f121_0_10.toInt from r132) (show f121_0_10.toInt ≤ 4 from t133) (show 0 ≤ f121_0_20.toInt from r138) (show f121_0_20.toInt ≤ 32 from t139) (show 0 ≤ f121_0_7.toInt from r141) (show f121_0_7.toInt ≤ 10 from t142) (show 0 ≤ f121_0_8.toInt from r144) (show f121_0_8.toInt ≤ 12 from t145) (show 0 ≤ f121_0_9.toInt from r147) (show f121_0_9.toInt ≤ 8 from t148) (show 0 ≤ f121_12_0.toInt from r150) (show f121_12_0.toInt ≤ 10 from t151) (show 0 ≤ f121_12_1.toInt from r153) (show f121_12_1.toInt ≤ 12 from t154) (show 0 ≤ f121_12_2.toInt from r156) (show f121_12_2.toInt ≤ 8 from t157) (show 0 ≤ f121_12_3.toInt from r159) (show f121_12_3.toInt ≤ 4 from t160) (show 0 ≤ f121_12_9.toInt from r162) (Nat.lt_succ_self _) hw hT hF c131 c134 c135 c136 c137 c140 c143 c146 c149 c152 c155 c158 c161 c163 hM (lv_sub hl [1, 2, 0] rfl)
      · have c167 : v121_2.toInt < x166.toInt := wk_leF c167
        replace hM := hM.neg (Int.not_le.mpr c167)
        refine lv_aload_n hx hb dX12_town_132 rfl (lv_at hl 0 rfl) ?_
        refine tk_getA hC hK hw hT hinX12 kM_at0 (by decide) rfl 26 (by decide) (List.mem_cons_of_mem _ uw_7_1) rfl rfl dX12_town_133 ?_
        refine lv_bipush (v := 10) hx hb dX12_town_136 (by decide) ?_
        refine lv_iload_n hx hb dX12_town_138 rfl (lv_at hl 2 rfl) ?_
        refine lv_iadd hx hb dX12_town_139 ?_
        refine lv_topi (fun x168 ex168 => ?_)
        have ezx168 := ex168
        have ex168 : x168.toInt = (10 : Int) + v121_2.toInt := by rw [ex168]; exact wk_add (show (-2147483648) ≤ (10 : Int) + v121_2.toInt by omega) (show (10 : Int) + v121_2.toInt ≤ 2147483647 by omega)
        replace hM := hM.lt ex168.symm
        refine lv_aload_n hx hb dX12_town_140 rfl (lv_at hl 0 rfl) ?_
        refine tk_getA hC hK hw hT hinX12 kM_at0 (by decide) rfl 11 (by decide) (List.mem_cons_of_mem _ uw_6_19) rfl rfl dX12_town_141 ?_
        refine lv_iload_n hx hb dX12_town_144 rfl (lv_at hl 2 rfl) ?_
        refine tk_iald hC hK hw hT kM_at6 rfl rfl (show 0 ≤ v121_2.toInt from r129) (show v121_2.toInt < 120 by first | with_reducible assumption | omega) dX12_town_145 (fun x169 c170 rx169 tx169 => ?_)
        have hox169 := c170
        replace hM := hM.rd (sI_at hox169)
        refine tk_iastR hC hK hw hT kM_at12 (by decide) rfl (show 0 ≤ x168.toInt by first | with_reducible assumption | omega) (show x168.toInt < 296 by first | with_reducible assumption | omega) (tk_rgS rfl 10 1 120 0 9 (by decide +kernel) ⟨(v121_2.toInt - 0).toNat, by omega, show x168.toInt.toNat = 10 + 1 * (v121_2.toInt - 0).toNat by omega⟩ (show 0 ≤ x169.toInt from rx169) (show x169.toInt ≤ 9 from tx169)) dX12_town_146 (fun H locs w171 hw hT k173 c172 => ?_)
        replace hM := hM.wr (sI_up k173 c172)
        have hF := hF.put kM_at12 (inE_of (a := 10) (b := 129) (by decide) (show 10 ≤ x168.toInt.toNat by omega) (show x168.toInt.toNat ≤ 129 by omega)) k173
        have c174 := k173.gi (Or.inl (tk_ne kM_at0 kM_at12 (by decide))) c131
        have c175 := k173.gi (Or.inl (tk_ne kM_at0 kM_at12 (by decide))) c134
        have c176 := k173.gi (Or.inl (tk_ne kM_at0 kM_at12 (by decide))) c135
        have c177 := k173.gi (Or.inl (tk_ne kM_at0 kM_at12 (by decide))) c136
        have c178 := k173.gi (Or.inl (tk_ne kM_at0 kM_at12 (by decide))) c137
        have c179 := k173.gi (Or.inl (tk_ne kM_at0 kM_at12 (by decide))) c140
        have c180 := k173.gi (Or.inl (tk_ne kM_at0 kM_at12 (by decide))) c143
        have c181 := k173.gi (Or.inl (tk_ne kM_at0 kM_at12 (by decide))) c146
        have c182 := k173.gi (Or.inl (tk_ne kM_at0 kM_at12 (by decide))) c149
        have c183 := k173.gi (Or.inr (show 0 ≠ x168.toInt.toNat by omega)) c152
        have c184 := k173.gi (Or.inr (show 1 ≠ x168.toInt.toNat by omega)) c155
        have c185 := k173.gi (Or.inr (show 2 ≠ x168.toInt.toNat by omega)) c158
        have c186 := k173.gi (Or.inr (show 3 ≠ x168.toInt.toNat by omega)) c161
        have c187 := k173.gi (Or.inr (show 9 ≠ x168.toInt.toNat by omega)) c163
        obtain ⟨x188, ex188⟩ : ∃ y : Int32, y = v121_2 + Int32.ofInt 1 := ⟨_, rfl⟩
        have erx188 := ex188
        refine lv_iinc (v := x188) (lv' := [(2, .int x188), (0, .ref (ad 0)), (1, .int v121_1)]) hx hb dX12_town_147 hl (k := 2) rfl ex188.symm (by decide) rfl (fun ls hl => ?_)
        have ex188 : x188.toInt = v121_2.toInt + 1 := by rw [ex188]; exact wk_add (y := 1) (show -2147483648 ≤ v121_2.toInt + 1 by omega) (show v121_2.toInt + 1 ≤ 2147483647 by omega)
        replace hM := hM.lt ex188.symm
        refine lv_goto (tgt := 121) hx hb dX12_town_150 (by decide) ?_
        exact ih121 v121_1 x188 f121_0_10 f121_0_20 f121_0_7 f121_0_8 f121_0_9 f121_12_0 f121_12_1 f121_12_2 f121_12_3 f121_12_9 H locs ls w171 (show 0 ≤ v121_1.toInt from r128) (show 0 ≤ x188.toInt by first | with_reducible assumption | omega) (show x188.toInt ≤ 120 by first | with_reducible assumption | omega) (show 0 ≤ f121_0_10.toInt from r132) (show f121_0_10.toInt ≤ 4 from t133) (show 0 ≤ f121_0_20.toInt from r138) (show f121_0_20.toInt ≤ 32 from t139) (show 0 ≤ f121_0_7.toInt from r141) (show f121_0_7.toInt ≤ 10 from t142) (show 0 ≤ f121_0_8.toInt from r144) (show f121_0_8.toInt ≤ 12 from t145) (show 0 ≤ f121_0_9.toInt from r147) (show f121_0_9.toInt ≤ 8 from t148) (show 0 ≤ f121_12_0.toInt from r150) (show f121_12_0.toInt ≤ 10 from t151) (show 0 ≤ f121_12_1.toInt from r153) (show f121_12_1.toInt ≤ 12 from t154) (show 0 ≤ f121_12_2.toInt from r156) (show f121_12_2.toInt ≤ 8 from t157) (show 0 ≤ f121_12_3.toInt from r159) (show f121_12_3.toInt ≤ 4 from t160) (show 0 ≤ f121_12_9.toInt from r162) (show (120 - x188.toInt).toNat < n121 by first | exact tn_lt hm121 (by omega) (by omega) | omega) hw hT hF c174 c175 c176 c177 c178 c179 c180 c181 c182 c183 c184 c185 c186 c187 hM (lv_sub hl [1, 2, 0] rfl)
  have L51 : ∀ (n51 : Nat) (v51_1 : Int32) (v51_2 : Int32) (f51_0_20 : Int32) (H : Heap) (locs : List Loc) (ls : Array Slot) (w189 : va_W), 0 ≤ v51_1.toInt → 0 ≤ v51_2.toInt → v51_2.toInt ≤ 296 → 0 ≤ f51_0_20.toInt → f51_0_20.toInt ≤ 32 → (296 - v51_2.toInt).toNat < n51 → Wd dC dI A s.heap H locs w189 → TW ksM ad cy B qr 12 w189 → FE ksM [(12, 1, 1), (12, 7, 7), (12, 8, 8), (12, 9, 9), (12, 10, 10), (12, 14, 14), (12, 15, 15), (12, 16, 16), (12, 17, 17), (12, 18, 18), (12, 20, 20), (62, 0, 7), (65, 0, 120), (66, 0, 16), (67, 0, 12), (71, 0, 0), (71, 0, 295), (71, 1, 1), (71, 2, 2), (71, 3, 3), (71, 9, 9), (71, 10, 129), (71, 140, 155), (71, 156, 167)] w0 w189 → gi w189 0 1 = 0 → gi w189 0 15 = 0 → gi w189 0 17 = 6 → gi w189 0 18 = 0 → gi w189 0 20 = f51_0_20 → TT (fun n => m_X12_town n 0 (sI w0)) (fun n => j_X12_town 0 n 51 [v51_1.toInt, v51_2.toInt] (sI w189)) → lv_has ls 3 [(0, .ref (ad 0)), (1, .int v51_1), (2, .int v51_2)] → W p l e ({ frames := 7, cells := 0, slots := 0, locals := 149 }) s m (List.toArray [.ref (ad 0)]) below meth c H locs 0 0 (MQ below (va_Qi (Pz_X12_town_1 ad cy B qr s1  w0) (fun u : va_W => wpost dC dI cy A u) A) (List.toArray [.ref (ad 0)]) s 0 0 A) (F0 m 51 ls []) := by
    intro n51
    induction n51 with
    | zero => intro v51_1 v51_2 f51_0_20 H locs ls w189 r190 r191 t192 r197 t198 hm51 hw hT hF c193 c194 c195 c196 c199 hM hl; omega
    | succ n51 ih51 =>
      intro v51_1 v51_2 f51_0_20 H locs ls w189 r190 r191 t192 r197 t198 hm51 hw hT hF c193 c194 c195 c196 c199 hM hl
      replace hM := hM.suc (fun _ => e_X12_town_51)
      refine lv_iload_n hx hb dX12_town_51 rfl (lv_at hl 2 rfl) ?_
      refine lv_sipush (v := 296) hx hb dX12_town_52 (by decide) ?_
      refine lv_icmp_ge (tgt := 71) hx hb dX12_town_55 (by decide) (fun c200 => ?_) (fun c200 => ?_)
      · have c200 : (296 : Int) ≤ v51_2.toInt := wk_le.mp c200
        replace hM := hM.pos c200
        refine lv_aload_n hx hb dX12_town_71 rfl (lv_at hl 0 rfl) ?_
        refine tk_getA hC hK hw hT hinX12 kM_at0 (by decide) rfl 26 (by decide) (List.mem_cons_of_mem _ uw_7_1) rfl rfl dX12_town_72 ?_
        refine lv_iconst (v := 0) hx hb dX12_town_75 (by decide) ?_
        refine lv_aload_n hx hb dX12_town_76 rfl (lv_at hl 0 rfl) ?_
        refine tk_geti hC hK hw hT hinX12 kM_at0 (by decide) rfl 7 (by decide) (List.mem_cons_of_mem _ uw_19_8) rfl rfl dX12_town_77 (fun x201 c202 rx201 tx201 => ?_)
        replace hM := hM.rd (sI_at c202)
        refine tk_iastR hC hK hw hT kM_at12 (by decide) rfl (by decide) (by decide) (tk_rgS rfl 0 1 1 0 10 (by decide +kernel) ⟨0, by decide, by decide⟩ (show 0 ≤ x201.toInt from rx201) (show x201.toInt ≤ 10 from tx201)) dX12_town_80 (fun H locs w203 hw hT k205 c204 => ?_)
        replace hM := hM.wr (sI_up k205 c204)
        have hF := hF.put kM_at12 (inE_of (a := 0) (b := 0) (by decide) (by decide) (by decide)) k205
        have c206 := k205.gi (Or.inl (tk_ne kM_at0 kM_at12 (by decide))) c193
        have c207 := k205.gi (Or.inl (tk_ne kM_at0 kM_at12 (by decide))) c194
        have c208 := k205.gi (Or.inl (tk_ne kM_at0 kM_at12 (by decide))) c195
        have c209 := k205.gi (Or.inl (tk_ne kM_at0 kM_at12 (by decide))) c196
        have c210 := k205.gi (Or.inl (tk_ne kM_at0 kM_at12 (by decide))) c199
        have c211 := k205.gi (Or.inl (tk_ne kM_at0 kM_at12 (by decide))) c202
        have c204 : gi w203 12 0 = x201 := c204
        refine lv_aload_n hx hb dX12_town_81 rfl (lv_at hl 0 rfl) ?_
        refine tk_getA hC hK hw hT hinX12 kM_at0 (by decide) rfl 26 (by decide) (List.mem_cons_of_mem _ uw_7_1) rfl rfl dX12_town_82 ?_
        refine lv_iconst (v := 1) hx hb dX12_town_85 (by decide) ?_
        refine lv_aload_n hx hb dX12_town_86 rfl (lv_at hl 0 rfl) ?_
        refine tk_geti hC hK hw hT hinX12 kM_at0 (by decide) rfl 8 (by decide) (List.mem_cons_of_mem _ uw_19_9) rfl rfl dX12_town_87 (fun x212 c213 rx212 tx212 => ?_)
        replace hM := hM.rd (sI_at c213)
        refine tk_iastR hC hK hw hT kM_at12 (by decide) rfl (by decide) (by decide) ((tk_rg1 rfl).mpr ⟨(show 0 ≤ x212.toInt from rx212), (show x212.toInt ≤ if (71 : Nat) = 71 then (12 : Int) else 12 from (show x212.toInt ≤ 12 from tx212))⟩) dX12_town_90 (fun H locs w214 hw hT k216 c215 => ?_)
        replace hM := hM.wr (sI_up k216 c215)
        have hF := hF.put kM_at12 (inE_of (a := 1) (b := 1) (by decide) (by decide) (by decide)) k216
        have c217 := k216.gi (Or.inl (tk_ne kM_at0 kM_at12 (by decide))) c206
        have c218 := k216.gi (Or.inl (tk_ne kM_at0 kM_at12 (by decide))) c207
        have c219 := k216.gi (Or.inl (tk_ne kM_at0 kM_at12 (by decide))) c208
        have c220 := k216.gi (Or.inl (tk_ne kM_at0 kM_at12 (by decide))) c209
        have c221 := k216.gi (Or.inl (tk_ne kM_at0 kM_at12 (by decide))) c210
        have c222 := k216.gi (Or.inl (tk_ne kM_at0 kM_at12 (by decide))) c211
        have c223 := k216.gi (Or.inr (by decide)) c204
        have c224 := k216.gi (Or.inl (tk_ne kM_at0 kM_at12 (by decide))) c213
        have c215 : gi w214 12 1 = x212 := c215
        refine lv_aload_n hx hb dX12_town_91 rfl (lv_at hl 0 rfl) ?_
        refine tk_getA hC hK hw hT hinX12 kM_at0 (by decide) rfl 26 (by decide) (List.mem_cons_of_mem _ uw_7_1) rfl rfl dX12_town_92 ?_
        refine lv_iconst (v := 2) hx hb dX12_town_95 (by decide) ?_
        refine lv_aload_n hx hb dX12_town_96 rfl (lv_at hl 0 rfl) ?_
        refine tk_geti hC hK hw hT hinX12 kM_at0 (by decide) rfl 9 (by decide) (List.mem_cons_of_mem _ uw_19_10) rfl rfl dX12_town_97 (fun x225 c226 rx225 tx225 => ?_)
        replace hM := hM.rd (sI_at c226)
        refine tk_iastR hC hK hw hT kM_at12 (by decide) rfl (by decide) (by decide) (tk_rgS rfl 2 1 1 0 8 (by decide +kernel) ⟨0, by decide, by decide⟩ (show 0 ≤ x225.toInt from rx225) (show x225.toInt ≤ 8 from tx225)) dX12_town_100 (fun H locs w227 hw hT k229 c228 => ?_)
        replace hM := hM.wr (sI_up k229 c228)
        have hF := hF.put kM_at12 (inE_of (a := 2) (b := 2) (by decide) (by decide) (by decide)) k229
        have c230 := k229.gi (Or.inl (tk_ne kM_at0 kM_at12 (by decide))) c217
        have c231 := k229.gi (Or.inl (tk_ne kM_at0 kM_at12 (by decide))) c218
        have c232 := k229.gi (Or.inl (tk_ne kM_at0 kM_at12 (by decide))) c219
        have c233 := k229.gi (Or.inl (tk_ne kM_at0 kM_at12 (by decide))) c220
        have c234 := k229.gi (Or.inl (tk_ne kM_at0 kM_at12 (by decide))) c221
        have c235 := k229.gi (Or.inl (tk_ne kM_at0 kM_at12 (by decide))) c222
        have c236 := k229.gi (Or.inr (by decide)) c223
        have c237 := k229.gi (Or.inl (tk_ne kM_at0 kM_at12 (by decide))) c224
        have c238 := k229.gi (Or.inr (by decide)) c215
        have c239 := k229.gi (Or.inl (tk_ne kM_at0 kM_at12 (by decide))) c226
        have c228 : gi w227 12 2 = x225 := c228
        refine lv_aload_n hx hb dX12_town_101 rfl (lv_at hl 0 rfl) ?_
        refine tk_getA hC hK hw hT hinX12 kM_at0 (by decide) rfl 26 (by decide) (List.mem_cons_of_mem _ uw_7_1) rfl rfl dX12_town_102 ?_
        refine lv_iconst (v := 3) hx hb dX12_town_105 (by decide) ?_
        refine lv_aload_n hx hb dX12_town_106 rfl (lv_at hl 0 rfl) ?_
        refine tk_geti hC hK hw hT hinX12 kM_at0 (by decide) rfl 10 (by decide) (List.mem_cons_of_mem _ uw_19_11) rfl rfl dX12_town_107 (fun x240 c241 rx240 tx240 => ?_)
        replace hM := hM.rd (sI_at c241)
        refine tk_iastR hC hK hw hT kM_at12 (by decide) rfl (by decide) (by decide) (tk_rgS rfl 3 1 1 0 4 (by decide +kernel) ⟨0, by decide, by decide⟩ (show 0 ≤ x240.toInt from rx240) (show x240.toInt ≤ 4 from tx240)) dX12_town_110 (fun H locs w242 hw hT k244 c243 => ?_)
        replace hM := hM.wr (sI_up k244 c243)
        have hF := hF.put kM_at12 (inE_of (a := 3) (b := 3) (by decide) (by decide) (by decide)) k244
        have c245 := k244.gi (Or.inl (tk_ne kM_at0 kM_at12 (by decide))) c230
        have c246 := k244.gi (Or.inl (tk_ne kM_at0 kM_at12 (by decide))) c231
        have c247 := k244.gi (Or.inl (tk_ne kM_at0 kM_at12 (by decide))) c232
        have c248 := k244.gi (Or.inl (tk_ne kM_at0 kM_at12 (by decide))) c233
        have c249 := k244.gi (Or.inl (tk_ne kM_at0 kM_at12 (by decide))) c234
        have c250 := k244.gi (Or.inl (tk_ne kM_at0 kM_at12 (by decide))) c235
        have c251 := k244.gi (Or.inr (by decide)) c236
        have c252 := k244.gi (Or.inl (tk_ne kM_at0 kM_at12 (by decide))) c237
        have c253 := k244.gi (Or.inr (by decide)) c238
        have c254 := k244.gi (Or.inl (tk_ne kM_at0 kM_at12 (by decide))) c239
        have c255 := k244.gi (Or.inr (by decide)) c228
        have c256 := k244.gi (Or.inl (tk_ne kM_at0 kM_at12 (by decide))) c241
        have c243 : gi w242 12 3 = x240 := c243
        refine lv_aload_n hx hb dX12_town_111 rfl (lv_at hl 0 rfl) ?_
        refine tk_getA hC hK hw hT hinX12 kM_at0 (by decide) rfl 26 (by decide) (List.mem_cons_of_mem _ uw_7_1) rfl rfl dX12_town_112 ?_
        refine lv_bipush (v := 9) hx hb dX12_town_115 (by decide) ?_
        refine lv_iload_n hx hb dX12_town_117 rfl (lv_at hl 1 rfl) ?_
        refine tk_iastR hC hK hw hT kM_at12 (by decide) rfl (by decide) (by decide) (tk_rgS rfl 9 1 1 0 2147483647 (by decide +kernel) ⟨0, by decide, by decide⟩ (show 0 ≤ v51_1.toInt from r190) (wk_i32 v51_1).2) dX12_town_118 (fun H locs w257 hw hT k259 c258 => ?_)
        replace hM := hM.wr (sI_up k259 c258)
        have hF := hF.put kM_at12 (inE_of (a := 9) (b := 9) (by decide) (by decide) (by decide)) k259
        have c260 := k259.gi (Or.inl (tk_ne kM_at0 kM_at12 (by decide))) c245
        have c261 := k259.gi (Or.inl (tk_ne kM_at0 kM_at12 (by decide))) c246
        have c262 := k259.gi (Or.inl (tk_ne kM_at0 kM_at12 (by decide))) c247
        have c263 := k259.gi (Or.inl (tk_ne kM_at0 kM_at12 (by decide))) c248
        have c264 := k259.gi (Or.inl (tk_ne kM_at0 kM_at12 (by decide))) c249
        have c265 := k259.gi (Or.inl (tk_ne kM_at0 kM_at12 (by decide))) c250
        have c266 := k259.gi (Or.inr (by decide)) c251
        have c267 := k259.gi (Or.inl (tk_ne kM_at0 kM_at12 (by decide))) c252
        have c268 := k259.gi (Or.inr (by decide)) c253
        have c269 := k259.gi (Or.inl (tk_ne kM_at0 kM_at12 (by decide))) c254
        have c270 := k259.gi (Or.inr (by decide)) c255
        have c271 := k259.gi (Or.inl (tk_ne kM_at0 kM_at12 (by decide))) c256
        have c272 := k259.gi (Or.inr (by decide)) c243
        have c258 : gi w257 12 9 = v51_1 := c258
        refine lv_iconst (v := 0) hx hb dX12_town_119 (by decide) ?_
        refine lv_istore_n (lv' := [(2, .int 0), (0, .ref (ad 0)), (1, .int v51_1)]) hx hb dX12_town_120 rfl hl (by decide) rfl (fun ls hl => ?_)
        exact L121 ((120 - (0 : Int)).toNat + 1) v51_1 0 x240 f51_0_20 x201 x212 x225 x201 x212 x225 x240 v51_1 H locs ls w257 (show 0 ≤ v51_1.toInt from r190) (by decide) (by decide) (show 0 ≤ x240.toInt from rx240) (show x240.toInt ≤ 4 from tx240) (show 0 ≤ f51_0_20.toInt from r197) (show f51_0_20.toInt ≤ 32 from t198) (show 0 ≤ x201.toInt from rx201) (show x201.toInt ≤ 10 from tx201) (show 0 ≤ x212.toInt from rx212) (show x212.toInt ≤ 12 from tx212) (show 0 ≤ x225.toInt from rx225) (show x225.toInt ≤ 8 from tx225) (show 0 ≤ x201.toInt from rx201) (show x201.toInt ≤ 10 from tx201) (show 0 ≤ x212.toInt from rx212) (show x212.toInt ≤ 12 from tx212) (show 0 ≤ x225.toInt from rx225) (show x225.toInt ≤ 8 from tx225) (show 0 ≤ x240.toInt from rx240) (show x240.toInt ≤ 4 from tx240) (show 0 ≤ v51_1.toInt from r190) (Nat.lt_succ_self _) hw hT hF c260 c271 c261 c262 c263 c264 c265 c267 c269 c266 c268 c270 c272 c258 hM (lv_sub hl [1, 2, 0] rfl)
      · have c200 : v51_2.toInt < (296 : Int) := wk_leF c200
        replace hM := hM.neg (Int.not_le.mpr c200)
        refine lv_aload_n hx hb dX12_town_58 rfl (lv_at hl 0 rfl) ?_
        refine tk_getA hC hK hw hT hinX12 kM_at0 (by decide) rfl 26 (by decide) (List.mem_cons_of_mem _ uw_7_1) rfl rfl dX12_town_59 ?_
        refine lv_iload_n hx hb dX12_town_62 rfl (lv_at hl 2 rfl) ?_
        refine lv_iconst (v := 0) hx hb dX12_town_63 (by decide) ?_
        refine tk_iastR hC hK hw hT kM_at12 (by decide) rfl (show 0 ≤ v51_2.toInt from r191) (show v51_2.toInt < 296 by first | with_reducible assumption | omega) (tk_rg0 rfl (show 0 ≤ B from Int.le_trans (by decide) hB0) (by decide)) dX12_town_64 (fun H locs w273 hw hT k275 c274 => ?_)
        replace hM := hM.wr (sI_upc k275 c274 (by decide))
        have hF := hF.put kM_at12 (inE_of (a := 0) (b := 295) (by decide) (show 0 ≤ v51_2.toInt.toNat by omega) (show v51_2.toInt.toNat ≤ 295 by omega)) k275
        have c276 := k275.gi (Or.inl (tk_ne kM_at0 kM_at12 (by decide))) c193
        have c277 := k275.gi (Or.inl (tk_ne kM_at0 kM_at12 (by decide))) c194
        have c278 := k275.gi (Or.inl (tk_ne kM_at0 kM_at12 (by decide))) c195
        have c279 := k275.gi (Or.inl (tk_ne kM_at0 kM_at12 (by decide))) c196
        have c280 := k275.gi (Or.inl (tk_ne kM_at0 kM_at12 (by decide))) c199
        obtain ⟨x281, ex281⟩ : ∃ y : Int32, y = v51_2 + Int32.ofInt 1 := ⟨_, rfl⟩
        have erx281 := ex281
        refine lv_iinc (v := x281) (lv' := [(2, .int x281), (0, .ref (ad 0)), (1, .int v51_1)]) hx hb dX12_town_65 hl (k := 2) rfl ex281.symm (by decide) rfl (fun ls hl => ?_)
        have ex281 : x281.toInt = v51_2.toInt + 1 := by rw [ex281]; exact wk_add (y := 1) (show -2147483648 ≤ v51_2.toInt + 1 by omega) (show v51_2.toInt + 1 ≤ 2147483647 by omega)
        replace hM := hM.lt ex281.symm
        refine lv_goto (tgt := 51) hx hb dX12_town_68 (by decide) ?_
        exact ih51 v51_1 x281 f51_0_20 H locs ls w273 (show 0 ≤ v51_1.toInt from r190) (show 0 ≤ x281.toInt by first | with_reducible assumption | omega) (show x281.toInt ≤ 296 by first | with_reducible assumption | omega) (show 0 ≤ f51_0_20.toInt from r197) (show f51_0_20.toInt ≤ 32 from t198) (show (296 - x281.toInt).toNat < n51 by first | exact tn_lt hm51 (by omega) (by omega) | omega) hw hT hF c276 c277 c278 c279 c280 hM (lv_sub hl [1, 2, 0] rfl)
  have hM : TT (fun n => m_X12_town n 0 (sI w0)) (fun n => m_X12_town n 0 (sI w0)) := TT.rf
  refine lv_aload_n hx hb dX12_town_0 rfl (lv_at hl 0 rfl) ?_
  refine lv_bipush (v := 6) hx hb dX12_town_1 (by decide) ?_
  refine tk_puti hC hK hw hT hinX12 tyX12_ok nmX12 kM_at0 (by decide) rfl rfl 17 (by decide) (List.mem_cons_of_mem _ uw_19_7) rfl rfl rfl rfl (by decide) (by decide) dX12_town_3 (fun H locs w282 hw hT k284 c283 => ?_)
  replace hM := hM.wr (sI_upc k284 c283 (by decide))
  have hF := hF.put kM_at0 (k := 17) (by decide) k284
  refine lv_aload_n hx hb dX12_town_6 rfl (lv_at hl 0 rfl) ?_
  refine lv_iconst (v := 0) hx hb dX12_town_7 (by decide) ?_
  refine tk_puti hC hK hw hT hinX12 tyX12_ok nmX12 kM_at0 (by decide) rfl rfl 7 (by decide) (List.mem_cons_of_mem _ uw_19_8) rfl rfl rfl rfl (by decide) (by decide) dX12_town_8 (fun H locs w285 hw hT k287 c286 => ?_)
  replace hM := hM.wr (sI_upc k287 c286 (by decide))
  have hF := hF.put kM_at0 (k := 7) (by decide) k287
  have c288 := k287.gi (Or.inr (by decide)) c283
  refine lv_aload_n hx hb dX12_town_11 rfl (lv_at hl 0 rfl) ?_
  refine lv_iconst (v := 0) hx hb dX12_town_12 (by decide) ?_
  refine tk_puti hC hK hw hT hinX12 tyX12_ok nmX12 kM_at0 (by decide) rfl rfl 8 (by decide) (List.mem_cons_of_mem _ uw_19_9) rfl rfl rfl rfl (by decide) (by decide) dX12_town_13 (fun H locs w289 hw hT k291 c290 => ?_)
  replace hM := hM.wr (sI_upc k291 c290 (by decide))
  have hF := hF.put kM_at0 (k := 8) (by decide) k291
  have c292 := k291.gi (Or.inr (by decide)) c288
  have c293 := k291.gi (Or.inr (by decide)) c286
  refine lv_aload_n hx hb dX12_town_16 rfl (lv_at hl 0 rfl) ?_
  refine lv_iconst (v := 0) hx hb dX12_town_17 (by decide) ?_
  refine tk_puti hC hK hw hT hinX12 tyX12_ok nmX12 kM_at0 (by decide) rfl rfl 9 (by decide) (List.mem_cons_of_mem _ uw_19_10) rfl rfl rfl rfl (by decide) (by decide) dX12_town_18 (fun H locs w294 hw hT k296 c295 => ?_)
  replace hM := hM.wr (sI_upc k296 c295 (by decide))
  have hF := hF.put kM_at0 (k := 9) (by decide) k296
  have c297 := k296.gi (Or.inr (by decide)) c292
  have c298 := k296.gi (Or.inr (by decide)) c293
  have c299 := k296.gi (Or.inr (by decide)) c290
  refine lv_aload_n hx hb dX12_town_21 rfl (lv_at hl 0 rfl) ?_
  refine lv_iconst (v := 0) hx hb dX12_town_22 (by decide) ?_
  refine tk_puti hC hK hw hT hinX12 tyX12_ok nmX12 kM_at0 (by decide) rfl rfl 10 (by decide) (List.mem_cons_of_mem _ uw_19_11) rfl rfl rfl rfl (by decide) (by decide) dX12_town_23 (fun H locs w300 hw hT k302 c301 => ?_)
  replace hM := hM.wr (sI_upc k302 c301 (by decide))
  have hF := hF.put kM_at0 (k := 10) (by decide) k302
  have c303 := k302.gi (Or.inr (by decide)) c297
  have c304 := k302.gi (Or.inr (by decide)) c298
  have c305 := k302.gi (Or.inr (by decide)) c299
  have c306 := k302.gi (Or.inr (by decide)) c295
  refine lv_aload_n hx hb dX12_town_26 rfl (lv_at hl 0 rfl) ?_
  obtain ⟨x307, c308, rx307, tx307⟩ := hT.rdi (lo := 0) (hi := 32) (k := 20) kM_at0 (by decide) rfl
  refine tk_Vi hC hK hw hT hA hE hSR kM_at0 (by decide) rfl (kz_X12_readsAll_1 l adK adV dC dI cy ad B hB0 (Int.le_trans hB1 (by decide)) qr s1    w300 H.size hT c303 x307 c308 (show 0 ≤ x307.toInt by first | with_reducible assumption | omega) (show x307.toInt ≤ 32 by first | with_reducible assumption | omega)) (cwV 0 hC.2.2.2.2 uV_RX12_282 rfl rfl rfl (by decide +kernel) ⟨Nat.le_of_ble_eq_true rfl, Nat.le_of_ble_eq_true rfl⟩) rfl hl.1 rfl (Nat.le_of_ble_eq_true rfl) dX12_town_27 (fun r309 w311 H locs hp310 hw => ?_)
  obtain ⟨hT, k312, hv334, hg333⟩ := hp310
  have hF := hF.tr k312 (by decide)
  have c335 := k312.gi kM_at0 (by decide) c303
  rcases hg333 with ⟨rfl, ⟨x313, c314, rx313, tx313⟩, ⟨x315, c316, rx315, tx315⟩, ⟨x317, c318, rx317, tx317⟩, ⟨x319, c320, rx319, tx319⟩, ⟨x321, c322, rx321, tx321⟩⟩ | ⟨rfl, ⟨x323, c324, rx323, tx323⟩, ⟨x325, c326, rx325, tx325⟩, ⟨x327, c328, rx327, tx327⟩, ⟨x329, c330, rx329, tx329⟩, ⟨x331, c332, rx331, tx331⟩⟩
  · replace hM := hM.call (r' := 0) hv334 (by decide)
    have ex317 : x317.toInt = (6 : Int) := by rw [show x317 = 6 from c318.symm.trans c335]; decide
    refine lv_if_ne (tgt := 41) hx hb dX12_town_30 (by decide) (fun c => absurd (by decide) c) (fun _ => ?_)
    replace hM := hM.neg (by decide)
    refine lv_bipush (v := (-2)) hx hb dX12_town_33 (by decide) ?_
    refine lv_aload_n hx hb dX12_town_35 rfl (lv_at hl 0 rfl) ?_
    refine tk_geti hC hK hw hT hinX12 kM_at0 (by decide) rfl 15 (by decide) (List.mem_cons_of_mem _ uw_19_12) rfl rfl dX12_town_36 (fun x336 c337 rx336 tx336 => ?_)
    refine wk_top x315 (c337.symm.trans c316) ?_
    replace hM := hM.rd (sI_at c316)
    refine lv_isub hx hb dX12_town_39 ?_
    refine lv_topi (fun x338 ex338 => ?_)
    have ezx338 := ex338
    have ex338 : x338.toInt = (-2 : Int) - x315.toInt := by rw [ex338]; exact wk_sub (show (-2147483648) ≤ (-2 : Int) - x315.toInt by omega) (show (-2 : Int) - x315.toInt ≤ 2147483647 by omega)
    replace hM := hM.lt ex338.symm
    exact tk_iret hC hr hlocks hK ⟨hT, hF, hM.ret rfl, (Or.inl ⟨(show (-3207) ≤ x338.toInt by first | with_reducible assumption | omega), (show x338.toInt ≤ (-3) by first | with_reducible assumption | omega), ⟨x313, c314, (show 0 ≤ x313.toInt by first | with_reducible assumption | omega), (show x313.toInt ≤ 0 by first | with_reducible assumption | omega)⟩, ⟨x315, c316, (show 1 ≤ x315.toInt by first | with_reducible assumption | omega), (show x315.toInt ≤ 3205 by first | with_reducible assumption | omega)⟩, ⟨6, c335, (by decide), (by decide)⟩, ⟨x319, c320, (show 0 ≤ x319.toInt by first | with_reducible assumption | omega), (show x319.toInt ≤ 0 by first | with_reducible assumption | omega)⟩, ⟨x321, c322, (show 0 ≤ x321.toInt by first | with_reducible assumption | omega), (show x321.toInt ≤ 32 by first | with_reducible assumption | omega)⟩⟩)⟩ hw dX12_town_40
  · replace hM := hM.call (r' := 1) hv334 (by decide)
    have ex327 : x327.toInt = (6 : Int) := by rw [show x327 = 6 from c328.symm.trans c335]; decide
    refine lv_if_ne (tgt := 41) hx hb dX12_town_30 (by decide) (fun _ => ?_) (fun c => absurd c (by decide))
    replace hM := hM.pos (by decide)
    refine lv_aload_n hx hb dX12_town_41 rfl (lv_at hl 0 rfl) ?_
    refine tk_getA hC hK hw hT hinX12 kM_at0 (by decide) rfl 26 (by decide) (List.mem_cons_of_mem _ uw_7_1) rfl rfl dX12_town_42 ?_
    refine lv_bipush (v := 9) hx hb dX12_town_45 (by decide) ?_
    refine tk_ialdR hC hK hw hT kM_at12 rfl (by decide) (by decide) dX12_town_47 (fun x339 c340 Ex339 => ?_)
    have hox339 := c340
    replace hM := hM.rd (sI_at hox339)
    have bx339 := tk_rgI rfl 9 1 1 0 2147483647 (by decide +kernel) ⟨0, by decide, by decide⟩ Ex339
    have c340 : gi w311 12 9 = x339 := c340
    refine lv_istore_n (lv' := [(1, .int x339), (0, .ref (ad 0))]) hx hb dX12_town_48 rfl hl (by decide) rfl (fun ls hl => ?_)
    refine lv_iconst (v := 0) hx hb dX12_town_49 (by decide) ?_
    refine lv_istore_n (lv' := [(2, .int 0), (1, .int x339), (0, .ref (ad 0))]) hx hb dX12_town_50 rfl hl (by decide) rfl (fun ls hl => ?_)
    obtain rfl : x323 = 0 := wk_eq.mpr (show x323.toInt = 0 by first | exact Int.le_antisymm (by omega) (by omega) | omega)
    obtain rfl : x325 = 0 := wk_eq.mpr (show x325.toInt = 0 by first | exact Int.le_antisymm (by omega) (by omega) | omega)
    obtain rfl : x329 = 0 := wk_eq.mpr (show x329.toInt = 0 by first | exact Int.le_antisymm (by omega) (by omega) | omega)
    try simp only [show (0 : Int32).toInt = 0 by decide] at hM
    try simp only [show (0 : Int32).toInt = 0 by decide] at hM
    try simp only [show (0 : Int32).toInt = 0 by decide] at hM
    exact L51 ((296 - (0 : Int)).toNat + 1) x339 0 x331 H locs ls w311 (show 0 ≤ x339.toInt by first | with_reducible assumption | omega) (by decide) (by decide) (show 0 ≤ x331.toInt by first | with_reducible assumption | omega) (show x331.toInt ≤ 32 by first | with_reducible assumption | omega) (Nat.lt_succ_self _) hw hT hF c324 c326 c335 c330 c332 hM (lv_sub hl [2, 1, 0] rfl)
abbrev Pz_X12_isWord_5 (ad : Nat → Nat) (cy : Nat → ClassId) (B : Int) (qr : Nat) (s1 : Int)  (w0 : va_W) : Int32 → va_W → Prop := fun r u => TW ksM ad cy B qr 12 u ∧ FE ksM [(12, 14, 14)] w0 u ∧ Ev (fun n => m_X12_isWord n 0 26479 (sI w0)) (r.toInt, sI u) ∧ ((r = 0 ∧ (∃ y : Int32, gi u 0 1 = y ∧ 0 ≤ y.toInt ∧ y.toInt ≤ 400) ∧ (((gi u 0 14).toInt = (gi w0 0 14).toInt ∨ (gi w0 1 ((gi w0 0 14).toInt).toNat).toInt = 32))) ∨ (r = 1 ∧ (∃ y : Int32, gi u 0 1 = y ∧ 0 ≤ y.toInt ∧ y.toInt ≤ 400) ∧ (((gi u 0 14).toInt = (gi w0 0 14).toInt ∨ (gi w0 1 ((gi w0 0 14).toInt).toNat).toInt = 32))))
set_option maxHeartbeats 4000000 in
set_option maxRecDepth 100000 in
theorem kz_X12_isWord_5 (l : Launch) (adK adV : Nat → Nat) (dC : Nat → ClassId) (dI : Nat → Nat → Nat) (cy : Nat → ClassId) (ad : Nat → Nat) (B : Int) (hB0 : 100000 ≤ B) (hB1 : B ≤ 1073741824) (qr : Nat) (s1 : Int)   (w0 : va_W) (sz : Nat) (hT : TW ksM ad cy B qr 12 w0) (f0_ : Int32) (cf0_ : gi w0 0 14 = f0_) (rf0_ : 0 ≤ f0_.toInt) (tf0_ : f0_.toInt ≤ 400) : Met l yX12_isWord (wu yX12_isWord cX12_isWord 6 (some .boolean)) ({ frames := 2, cells := 0, slots := 0, locals := 33 }) (va_Pc [.ref (ad 0), .long 26479] (wpreS adK adV dC dI cy sz w0)) (va_Qi (Pz_X12_isWord_5 ad cy B qr s1  w0) (fun u : va_W => wpost dC dI cy (va_A w0 sz) u) (va_A w0 sz)) 0 0 (va_A w0 sz) := by
  refine Met.ofW (cc := cX12_isWord) (maxL := 6) (ret := (some .boolean)) (by decide) rfl ?_
  intro p e s m args below meth c s₁ Bk hml hv
  obtain ⟨rfl, ⟨hsz, hP, hK, hD0⟩, hE, hSR⟩ := hv
  have hx := Bk.exec
  have hb := Bk.bytes
  have hr := Bk.returns
  have hlocks := Bk.notSynchronized
  have hC : CallFix p m c cX12_isWord 6 s _ (wu yX12_isWord cX12_isWord 6 (some .boolean)) RX12 := ⟨hx, hb, hml, findClass_of_methodNamed Bk.named, atoms_spec (ws := (wu yX12_isWord cX12_isWord 6 (some .boolean))) Bk.pre⟩
  subst hsz
  have hD := hD0.self (sz := s.heap.size)
  generalize hAe : va_A w0 s.heap.size = A at hD hE ⊢
  have hA : ∀ q : Nat, s.heap.size ≤ q → A q := fun q h => by rw [← hAe]; exact Or.inr h
  have hw : Wd dC dI A s.heap s.heap [] w0 := ⟨hP, hD, va_S.rf⟩
  have hF : FE ksM [(12, 14, 14)] w0 w0 := FE.rf
  have hl := lv_entry ([.ref (ad 0), .long 26479]) (n := 6) (Nat.le_of_ble_eq_true rfl)
  rw [lg_entry_eq]
  generalize (lg_sl ([.ref (ad 0), .long 26479]) ++ List.replicate (6 - (lg_sl ([.ref (ad 0), .long 26479])).length) Slot.unset).toArray = ls at hl ⊢
  have hl : lv_has ls 6 [(0, .ref (ad 0)), (1, .long 26479)] := hl
  generalize hloc : ([] : List Loc) = locs at hw ⊢
  have hinX12 : ∀ w ∈ u_ws RX12 TX12 42, w ∈ (wu yX12_isWord cX12_isWord 6 (some .boolean)) := fun _ h => List.mem_cons_of_mem _ (up_71 h)
  have J78 : ∀ (v78_3 : Int64) (v78_5 : Int32) (f78_0_1 : Int32) (f78_0_14 : Int32) (H : Heap) (locs : List Loc) (ls : Array Slot) (w1 : va_W), 0 ≤ v78_5.toInt → v78_5.toInt ≤ 400 → 0 ≤ f78_0_1.toInt → f78_0_1.toInt ≤ 400 → 0 ≤ f78_0_14.toInt → f78_0_14.toInt ≤ 400 → ((f78_0_14.toInt = f0_.toInt ∨ (gi w0 1 (f0_.toInt).toNat).toInt = 32)) → Wd dC dI A s.heap H locs w1 → TW ksM ad cy B qr 12 w1 → FE ksM [(12, 14, 14)] w0 w1 → gi w1 0 1 = f78_0_1 → gi w1 0 14 = f78_0_14 → TT (fun n => m_X12_isWord n 0 26479 (sI w0)) (fun n => b_X12_isWord_78 (j_X12_isWord 0 n) n 0 (sI w1)) → lv_has ls 6 [(0, .ref (ad 0)), (1, .long 26479), (3, .long v78_3), (5, .int v78_5)] → W p l e ({ frames := 2, cells := 0, slots := 0, locals := 33 }) s m (List.toArray [.ref (ad 0), .long 26479]) below meth c H locs 0 0 (MQ below (va_Qi (Pz_X12_isWord_5 ad cy B qr s1  w0) (fun u : va_W => wpost dC dI cy A u) A) (List.toArray [.ref (ad 0), .long 26479]) s 0 0 A) (F0 m 78 ls []) := by
    intro v78_3 v78_5 f78_0_1 f78_0_14 H locs ls w1 r2 t3 r4 t5 r7 t8 hcr78_0 hw hT hF c6 c9 hM hl
    refine lv_iconst (v := 0) hx hb dX12_isWord_78 (by decide) ?_
    exact tk_zret hC hr rfl hlocks hK ⟨hT, hF, hM.ret (by decide), (Or.inl ⟨rfl, ⟨f78_0_1, c6, (show 0 ≤ f78_0_1.toInt from r4), (show f78_0_1.toInt ≤ 400 from t5)⟩, (by simp only [cf0_, c9]; omega)⟩)⟩ hw dX12_isWord_79
  have L10 : ∀ (n10 : Nat) (v10_3 : Int64) (v10_5 : Int32) (f10_0_1 : Int32) (f10_0_14 : Int32) (H : Heap) (locs : List Loc) (ls : Array Slot) (w10 : va_W), 0 ≤ v10_5.toInt → v10_5.toInt ≤ 400 → 0 ≤ f10_0_1.toInt → f10_0_1.toInt ≤ 400 → 0 ≤ f10_0_14.toInt → f10_0_14.toInt ≤ 400 → ((f10_0_14.toInt = f0_.toInt ∨ (gi w0 1 (f0_.toInt).toNat).toInt = 32)) → (400 - v10_5.toInt).toNat < n10 → Wd dC dI A s.heap H locs w10 → TW ksM ad cy B qr 12 w10 → FE ksM [(12, 14, 14)] w0 w10 → gi w10 0 1 = f10_0_1 → gi w10 0 14 = f10_0_14 → TT (fun n => m_X12_isWord n 0 26479 (sI w0)) (fun n => j_X12_isWord 0 n 10 [(26479 : Int), v10_3.toInt, v10_5.toInt] (sI w10)) → lv_has ls 6 [(0, .ref (ad 0)), (1, .long 26479), (3, .long v10_3), (5, .int v10_5)] → W p l e ({ frames := 2, cells := 0, slots := 0, locals := 33 }) s m (List.toArray [.ref (ad 0), .long 26479]) below meth c H locs 0 0 (MQ below (va_Qi (Pz_X12_isWord_5 ad cy B qr s1  w0) (fun u : va_W => wpost dC dI cy A u) A) (List.toArray [.ref (ad 0), .long 26479]) s 0 0 A) (F0 m 10 ls []) := by
    intro n10
    induction n10 with
    | zero => intro v10_3 v10_5 f10_0_1 f10_0_14 H locs ls w10 r11 t12 r13 t14 r16 t17 hcr10_0 hm10 hw hT hF c15 c18 hM hl; omega
    | succ n10 ih10 =>
      intro v10_3 v10_5 f10_0_1 f10_0_14 H locs ls w10 r11 t12 r13 t14 r16 t17 hcr10_0 hm10 hw hT hF c15 c18 hM hl
      have J50 : ∀ (v50_3 : Int64) (H : Heap) (locs : List Loc) (ls : Array Slot) (w19 : va_W), 0 ≤ v10_5.toInt → v10_5.toInt ≤ 399 → 1 ≤ f10_0_1.toInt → f10_0_1.toInt ≤ 400 → 0 ≤ f10_0_14.toInt → f10_0_14.toInt ≤ 399 → ((f10_0_14.toInt = f0_.toInt ∨ (gi w0 1 (f0_.toInt).toNat).toInt = 32)) → Wd dC dI A s.heap H locs w19 → TW ksM ad cy B qr 12 w19 → FE ksM [(12, 14, 14)] w0 w19 → gi w19 0 1 = f10_0_1 → gi w19 0 14 = f10_0_14 → TT (fun n => m_X12_isWord n 0 26479 (sI w0)) (fun n => b_X12_isWord_50 (j_X12_isWord 0 n) n 0 (26479 : Int) (v50_3.toInt) (v10_5.toInt) (sI w19)) → lv_has ls 6 [(0, .ref (ad 0)), (1, .long 26479), (3, .long v50_3), (5, .int v10_5)] → W p l e ({ frames := 2, cells := 0, slots := 0, locals := 33 }) s m (List.toArray [.ref (ad 0), .long 26479]) below meth c H locs 0 0 (MQ below (va_Qi (Pz_X12_isWord_5 ad cy B qr s1  w0) (fun u : va_W => wpost dC dI cy A u) A) (List.toArray [.ref (ad 0), .long 26479]) s 0 0 A) (F0 m 50 ls []) := by
        intro v50_3 H locs ls w19 r20 t21 r22 t23 r25 t26 hcr50_0 hw hT hF c24 c27 hM hl
        obtain ⟨x28, ex28⟩ : ∃ y : Int32, y = v10_5 + Int32.ofInt 1 := ⟨_, rfl⟩
        have erx28 := ex28
        refine lv_iinc (v := x28) (lv' := [(5, .int x28), (0, .ref (ad 0)), (1, .long 26479), (3, .long v50_3)]) hx hb dX12_isWord_50 hl (k := 3) rfl ex28.symm (by decide) rfl (fun ls hl => ?_)
        have ex28 : x28.toInt = v10_5.toInt + 1 := by rw [ex28]; exact wk_add (y := 1) (show -2147483648 ≤ v10_5.toInt + 1 by omega) (show v10_5.toInt + 1 ≤ 2147483647 by omega)
        replace hM := hM.lt ex28.symm
        refine lv_goto (tgt := 10) hx hb dX12_isWord_53 (by decide) ?_
        exact ih10 v50_3 x28 f10_0_1 f10_0_14 H locs ls w19 (show 0 ≤ x28.toInt by first | with_reducible assumption | omega) (show x28.toInt ≤ 400 by first | with_reducible assumption | omega) (show 0 ≤ f10_0_1.toInt from r13) (show f10_0_1.toInt ≤ 400 from t23) (show 0 ≤ f10_0_14.toInt from r25) (show f10_0_14.toInt ≤ 400 from t17) (show (f10_0_14.toInt = f0_.toInt ∨ (gi w0 1 (f0_.toInt).toNat).toInt = 32) by first | omega | assumption | (left; omega) | (left; decide) | (right; assumption)) (show (400 - x28.toInt).toNat < n10 by first | exact tn_lt hm10 (by omega) (by omega) | omega) hw hT hF c24 c27 hM (lv_sub hl [1, 2, 3, 0] rfl)
      replace hM := hM.suc (fun _ => e_X12_isWord_10)
      refine lv_aload_n hx hb dX12_isWord_10 rfl (lv_at hl 0 rfl) ?_
      refine lv_aload_n hx hb dX12_isWord_11 rfl (lv_at hl 0 rfl) ?_
      refine tk_geti hC hK hw hT hinX12 kM_at0 (by decide) rfl 14 (by decide) (List.mem_cons_of_mem _ uw_19_18) rfl rfl dX12_isWord_12 (fun x29 c30 rx29 tx29 => ?_)
      refine wk_top f10_0_14 (c30.symm.trans c18) ?_
      replace hM := hM.rd (sI_at c18)
      refine lv_iload hx hb dX12_isWord_15 (lv_at hl 3 rfl) ?_
      refine lv_iadd hx hb dX12_isWord_17 ?_
      refine lv_topi (fun x31 ex31 => ?_)
      have ezx31 := ex31
      have ex31 : x31.toInt = f10_0_14.toInt + v10_5.toInt := by rw [ex31]; exact wk_add (show (-2147483648) ≤ f10_0_14.toInt + v10_5.toInt by omega) (show f10_0_14.toInt + v10_5.toInt ≤ 2147483647 by omega)
      replace hM := hM.lt ex31.symm
      refine tk_Vi hC hK hw hT hA hE hSR kM_at0 (by decide) rfl (kz_X12_isLetter_1 l adK adV dC dI cy ad B hB0 (Int.le_trans hB1 (by decide)) qr s1   x31 (show 0 ≤ x31.toInt by first | with_reducible assumption | omega) (show x31.toInt ≤ 800 by first | with_reducible assumption | omega) w10 H.size hT ) (cwV 1 hC.2.2.2.2 uV_RX12_101 rfl rfl rfl (by decide +kernel) ⟨Nat.le_of_ble_eq_true rfl, Nat.le_of_ble_eq_true rfl⟩) rfl hl.1 rfl (Nat.le_of_ble_eq_true rfl) dX12_isWord_18 (fun r32 w34 H locs hp33 hw => ?_)
      obtain ⟨rfl, hv42, hg41⟩ := hp33
      rcases hg41 with ⟨rfl, ⟨x36, c37, rx36, tx36⟩⟩ | ⟨rfl, g38, ⟨x39, c40, rx39, tx39⟩⟩
      · replace hM := hM.call (r' := 0) hv42 (by decide)
        have ex36 : x36.toInt = f10_0_1.toInt := by rw [← c15.symm.trans c37]
        refine lv_if_eq (tgt := 56) hx hb dX12_isWord_21 (by decide) (fun _ => ?_) (fun c => absurd (by decide) c)
        replace hM := hM.pos (by decide)
        refine lv_iload hx hb dX12_isWord_56 (lv_at hl 3 rfl) ?_
        refine lv_if_le (tgt := 78) hx hb dX12_isWord_58 (by decide) (fun c43 => ?_) (fun c43 => ?_)
        · have c43 : v10_5.toInt ≤ (0 : Int) := wk_le.mp c43
          replace hM := hM.pos c43
          exact J78 v10_3 v10_5 f10_0_1 f10_0_14 H locs ls w10 (show 0 ≤ v10_5.toInt from r11) (show v10_5.toInt ≤ 400 from t12) (show 0 ≤ f10_0_1.toInt from r13) (show f10_0_1.toInt ≤ 400 from t14) (show 0 ≤ f10_0_14.toInt from r16) (show f10_0_14.toInt ≤ 400 from t17) (show (f10_0_14.toInt = f0_.toInt ∨ (gi w0 1 (f0_.toInt).toNat).toInt = 32) by first | omega | assumption | (left; omega) | (left; decide) | (right; assumption))  hw hT hF c15 c18 hM (lv_sub hl [0, 1, 2, 3] rfl)
        · have c43 : (0 : Int) < v10_5.toInt := wk_leF c43
          replace hM := hM.neg (Int.not_le.mpr c43)
          refine lv_iload hx hb dX12_isWord_61 (lv_at hl 3 rfl) ?_
          refine lv_bipush (v := 8) hx hb dX12_isWord_63 (by decide) ?_
          refine lv_icmp_ge (tgt := 78) hx hb dX12_isWord_65 (by decide) (fun c44 => ?_) (fun c44 => ?_)
          · have c44 : (8 : Int) ≤ v10_5.toInt := wk_le.mp c44
            replace hM := hM.pos c44
            exact J78 v10_3 v10_5 f10_0_1 f10_0_14 H locs ls w10 (show 0 ≤ v10_5.toInt from r11) (show v10_5.toInt ≤ 400 from t12) (show 0 ≤ f10_0_1.toInt from r13) (show f10_0_1.toInt ≤ 400 from t14) (show 0 ≤ f10_0_14.toInt from r16) (show f10_0_14.toInt ≤ 400 from t17) (show (f10_0_14.toInt = f0_.toInt ∨ (gi w0 1 (f0_.toInt).toNat).toInt = 32) by first | omega | assumption | (left; omega) | (left; decide) | (right; assumption))  hw hT hF c15 c18 hM (lv_sub hl [0, 1, 2, 3] rfl)
          · have c44 : v10_5.toInt < (8 : Int) := wk_leF c44
            replace hM := hM.neg (Int.not_le.mpr c44)
            refine lv_lload_n hx hb dX12_isWord_68 rfl (lv_at hl 2 rfl) ?_
            refine lv_lload_n hx hb dX12_isWord_69 rfl (lv_at hl 1 rfl) ?_
            refine W.lcmp hx hb dX12_isWord_70 ?_
            refine lv_if_ne (tgt := 78) hx hb dX12_isWord_71 (by decide) (fun c45 => ?_) (fun c45 => ?_)
            · have c45 : ¬ v10_3.toInt = (26479 : Int) := wk_ceF c45
              replace hM := hM.pos c45
              exact J78 v10_3 v10_5 f10_0_1 f10_0_14 H locs ls w10 (show 0 ≤ v10_5.toInt from r11) (show v10_5.toInt ≤ 400 from t12) (show 0 ≤ f10_0_1.toInt from r13) (show f10_0_1.toInt ≤ 400 from t14) (show 0 ≤ f10_0_14.toInt from r16) (show f10_0_14.toInt ≤ 400 from t17) (show (f10_0_14.toInt = f0_.toInt ∨ (gi w0 1 (f0_.toInt).toNat).toInt = 32) by first | omega | assumption | (left; omega) | (left; decide) | (right; assumption))  hw hT hF c15 c18 hM (lv_sub hl [0, 1, 2, 3] rfl)
            · have c45 : v10_3.toInt = (26479 : Int) := wk_ceT c45
              replace hM := hM.neg (fun q => q c45)
              refine lv_iconst (v := 1) hx hb dX12_isWord_74 (by decide) ?_
              refine lv_goto (tgt := 79) hx hb dX12_isWord_75 (by decide) ?_
              exact tk_zret hC hr rfl hlocks hK ⟨hT, hF, hM.ret (by decide), (Or.inr ⟨rfl, ⟨f10_0_1, c15, (show 0 ≤ f10_0_1.toInt from r13), (show f10_0_1.toInt ≤ 400 from t14)⟩, (by simp only [cf0_, c18]; omega)⟩)⟩ hw dX12_isWord_79
      · replace hM := hM.call (r' := 1) hv42 (by decide)
        have ex39 : x39.toInt = f10_0_1.toInt := by rw [← c15.symm.trans c40]
        refine lv_if_eq (tgt := 56) hx hb dX12_isWord_21 (by decide) (fun c => absurd c (by decide)) (fun _ => ?_)
        replace hM := hM.neg (by decide)
        refine lv_iload hx hb dX12_isWord_24 (lv_at hl 3 rfl) ?_
        refine lv_bipush (v := 8) hx hb dX12_isWord_26 (by decide) ?_
        refine lv_icmp_ge (tgt := 50) hx hb dX12_isWord_28 (by decide) (fun c46 => ?_) (fun c46 => ?_)
        · have c46 : (8 : Int) ≤ v10_5.toInt := wk_le.mp c46
          replace hM := hM.pos c46
          exact J50 v10_3 H locs ls w10 (show 0 ≤ v10_5.toInt from r11) (show v10_5.toInt ≤ 399 by first | with_reducible assumption | omega) (show 1 ≤ f10_0_1.toInt by first | with_reducible assumption | omega) (show f10_0_1.toInt ≤ 400 from t14) (show 0 ≤ f10_0_14.toInt from r16) (show f10_0_14.toInt ≤ 399 by first | with_reducible assumption | omega) (show (f10_0_14.toInt = f0_.toInt ∨ (gi w0 1 (f0_.toInt).toNat).toInt = 32) by first | omega | assumption | (left; omega) | (left; decide) | (right; assumption))  hw hT hF c15 c18 hM (lv_sub hl [0, 1, 2, 3] rfl)
        · have c46 : v10_5.toInt < (8 : Int) := wk_leF c46
          replace hM := hM.neg (Int.not_le.mpr c46)
          refine lv_lload_n hx hb dX12_isWord_31 rfl (lv_at hl 2 rfl) ?_
          refine lv_bipush (v := 8) hx hb dX12_isWord_32 (by decide) ?_
          refine lv_lshl hx hb dX12_isWord_34 rfl ?_
          refine lv_topl (fun x47 ex47 => ?_)
          replace hM := hM.lt (mShlL_e ex47 rfl (by decide))
          refine lv_aload_n hx hb dX12_isWord_35 rfl (lv_at hl 0 rfl) ?_
          refine tk_getA hC hK hw hT hinX12 kM_at0 (by decide) rfl 0 (by decide) (List.mem_cons_of_mem _ uw_6_14) rfl rfl dX12_isWord_36 ?_
          refine lv_aload_n hx hb dX12_isWord_39 rfl (lv_at hl 0 rfl) ?_
          refine tk_geti hC hK hw hT hinX12 kM_at0 (by decide) rfl 14 (by decide) (List.mem_cons_of_mem _ uw_19_18) rfl rfl dX12_isWord_40 (fun x48 c49 rx48 tx48 => ?_)
          refine wk_top f10_0_14 (c49.symm.trans c18) ?_
          replace hM := hM.rd (sI_at c18)
          refine lv_iload hx hb dX12_isWord_43 (lv_at hl 3 rfl) ?_
          refine lv_iadd hx hb dX12_isWord_45 ?_
          refine lv_topi (fun x50 ex50 => ?_)
          have ezx50 := ex50
          have ex50 : x50.toInt = f10_0_14.toInt + v10_5.toInt := by rw [ex50]; exact wk_add (show (-2147483648) ≤ f10_0_14.toInt + v10_5.toInt by omega) (show f10_0_14.toInt + v10_5.toInt ≤ 2147483647 by omega)
          replace hM := hM.lt ex50.symm
          refine tk_bald hC hK hw hT kM_at1 rfl rfl (show 0 ≤ x50.toInt by first | with_reducible assumption | omega) (show x50.toInt < 400 by first | with_reducible assumption | omega) dX12_isWord_46 (fun x51 c52 rx51 tx51 => ?_)
          have hox51 := c52
          replace hM := hM.rd (sI_at hox51)
          have c52 : gi w10 1 (1 * f10_0_14.toInt + 1 * v10_5.toInt + 0).toNat = x51 := (congrArg (gi w10 1) (congrArg Int.toNat (show 1 * f10_0_14.toInt + 1 * v10_5.toInt + 0 = x50.toInt by first | exact Int.le_antisymm (by omega) (by omega) | omega))).trans c52
          refine lv_i2l hx hb dX12_isWord_47 rfl ?_
          refine lv_topl (fun x53 ex53 => ?_)
          have ex53 : x53.toInt = x51.toInt := by rw [ex53]; exact wk_i2l _
          have bx53 := wk_i32 x51
          replace hM := hM.lt ex53.symm
          refine lv_lor hx hb dX12_isWord_48 ?_
          refine lv_topl (fun x54 ex54 => ?_)
          have ezx54 := ex54
          replace hM := hM.lt (o64_e (f := fun x y => x ||| y) ezx54 rfl rfl)
          refine lv_lstore_n (lv' := [(3, .long x54), (0, .ref (ad 0)), (1, .long 26479), (5, .int v10_5)]) hx hb dX12_isWord_49 rfl hl (by decide) rfl (fun ls hl => ?_)
          exact J50 x54 H locs ls w10 (show 0 ≤ v10_5.toInt from r11) (show v10_5.toInt ≤ 399 by first | with_reducible assumption | omega) (show 1 ≤ f10_0_1.toInt by first | with_reducible assumption | omega) (show f10_0_1.toInt ≤ 400 from t14) (show 0 ≤ f10_0_14.toInt from r16) (show f10_0_14.toInt ≤ 399 by first | with_reducible assumption | omega) (show (f10_0_14.toInt = f0_.toInt ∨ (gi w0 1 (f0_.toInt).toNat).toInt = 32) by first | omega | assumption | (left; omega) | (left; decide) | (right; assumption) | (right; rw [c52]; omega) | (right; rw [c52]; decide))  hw hT hF c15 c18 hM (lv_sub hl [1, 2, 0, 3] rfl)
  have hM : TT (fun n => m_X12_isWord n 0 26479 (sI w0)) (fun n => m_X12_isWord n 0 26479 (sI w0)) := TT.rf
  refine lv_aload_n hx hb dX12_isWord_0 rfl (lv_at hl 0 rfl) ?_
  refine tk_Vi hC hK hw hT hA hE hSR kM_at0 (by decide) rfl (kz_X12_see_1 l adK adV dC dI cy ad B hB0 (Int.le_trans hB1 (by decide)) qr s1    w0 s.heap.size hT f0_ cf0_ (show 0 ≤ f0_.toInt from rf0_) (show f0_.toInt ≤ 400 from tf0_)) (cwV 0 hC.2.2.2.2 uV_RX12_97 rfl rfl rfl (by decide +kernel) ⟨Nat.le_of_ble_eq_true rfl, Nat.le_of_ble_eq_true rfl⟩) rfl hl.1 rfl (Nat.le_of_ble_eq_true rfl) dX12_isWord_1 (fun r55 w57 H locs hp56 hw => ?_)
  obtain ⟨hT, k58, hv76, hg75⟩ := hp56
  have hF := hF.tr k58 (by decide)
  rcases hg75 with ⟨g59, g60, ⟨x61, c62, rx61, tx61⟩, ⟨x63, c64, rx63, tx63⟩, g65, g66⟩ | ⟨rfl, ⟨x67, c68, rx67, tx67⟩, ⟨x69, c70, rx69, tx69⟩, g71⟩ | ⟨rfl, ⟨x72, c73, rx72, tx72⟩, g74⟩
  · replace hM := hM.call hv76 rfl
    have g65 : (gi w57 1 (x63.toInt).toNat).toInt ≠ 32 := by have q := g65; simp only [c64] at q; first | with_reducible exact q | omega
    have g66 : (x63.toInt = f0_.toInt ∨ (gi w0 1 (f0_.toInt).toNat).toInt = 32) := by have q := g66; simp only [cf0_, c64] at q; first | with_reducible exact q | omega
    refine lv_pop hx hb dX12_isWord_4 rfl ?_
    refine lv_lconst (v := 0) hx hb dX12_isWord_5 (by decide) ?_
    refine lv_lstore_n (lv' := [(3, .long 0), (0, .ref (ad 0)), (1, .long 26479)]) hx hb dX12_isWord_6 rfl hl (by decide) rfl (fun ls hl => ?_)
    refine lv_iconst (v := 0) hx hb dX12_isWord_7 (by decide) ?_
    refine lv_istore (lv' := [(5, .int 0), (3, .long 0), (0, .ref (ad 0)), (1, .long 26479)]) hx hb dX12_isWord_8 hl (by decide) rfl (fun ls hl => ?_)
    exact L10 ((400 - (0 : Int)).toNat + 1) 0 0 x61 x63 H locs ls w57 (by decide) (by decide) (show 0 ≤ x61.toInt by first | with_reducible assumption | omega) (show x61.toInt ≤ 400 by first | with_reducible assumption | omega) (show 0 ≤ x63.toInt by first | with_reducible assumption | omega) (show x63.toInt ≤ 400 by first | with_reducible assumption | omega) (show (x63.toInt = f0_.toInt ∨ (gi w0 1 (f0_.toInt).toNat).toInt = 32) by first | omega | assumption | (left; omega) | (left; decide) | (right; assumption)) (Nat.lt_succ_self _) hw hT hF c62 c64 hM (lv_sub hl [2, 3, 1, 0] rfl)
  · replace hM := hM.call (r' := (-1)) hv76 (by decide)
    have g71 : (x69.toInt = f0_.toInt ∨ (gi w0 1 (f0_.toInt).toNat).toInt = 32) := by have q := g71; simp only [cf0_, c70] at q; first | with_reducible exact q | omega
    refine lv_pop hx hb dX12_isWord_4 rfl ?_
    refine lv_lconst (v := 0) hx hb dX12_isWord_5 (by decide) ?_
    refine lv_lstore_n (lv' := [(3, .long 0), (0, .ref (ad 0)), (1, .long 26479)]) hx hb dX12_isWord_6 rfl hl (by decide) rfl (fun ls hl => ?_)
    refine lv_iconst (v := 0) hx hb dX12_isWord_7 (by decide) ?_
    refine lv_istore (lv' := [(5, .int 0), (3, .long 0), (0, .ref (ad 0)), (1, .long 26479)]) hx hb dX12_isWord_8 hl (by decide) rfl (fun ls hl => ?_)
    exact L10 ((400 - (0 : Int)).toNat + 1) 0 0 x67 x69 H locs ls w57 (by decide) (by decide) (show 0 ≤ x67.toInt by first | with_reducible assumption | omega) (show x67.toInt ≤ 400 by first | with_reducible assumption | omega) (show 0 ≤ x69.toInt by first | with_reducible assumption | omega) (show x69.toInt ≤ 400 by first | with_reducible assumption | omega) (show (x69.toInt = f0_.toInt ∨ (gi w0 1 (f0_.toInt).toNat).toInt = 32) by first | omega | assumption | (left; omega) | (left; decide) | (right; assumption)) (Nat.lt_succ_self _) hw hT hF c68 c70 hM (lv_sub hl [2, 3, 1, 0] rfl)
  · replace hM := hM.call (r' := (-1)) hv76 (by decide)
    obtain ⟨x77, c78, rx77, tx77⟩ := hT.rdi (lo := 0) (hi := 400) (k := 14) kM_at0 (by decide) rfl
    have g74 : (x77.toInt = f0_.toInt ∨ (gi w0 1 (f0_.toInt).toNat).toInt = 32) := by have q := g74; simp only [cf0_, c78] at q; first | with_reducible exact q | omega
    refine lv_pop hx hb dX12_isWord_4 rfl ?_
    refine lv_lconst (v := 0) hx hb dX12_isWord_5 (by decide) ?_
    refine lv_lstore_n (lv' := [(3, .long 0), (0, .ref (ad 0)), (1, .long 26479)]) hx hb dX12_isWord_6 rfl hl (by decide) rfl (fun ls hl => ?_)
    refine lv_iconst (v := 0) hx hb dX12_isWord_7 (by decide) ?_
    refine lv_istore (lv' := [(5, .int 0), (3, .long 0), (0, .ref (ad 0)), (1, .long 26479)]) hx hb dX12_isWord_8 hl (by decide) rfl (fun ls hl => ?_)
    exact L10 ((400 - (0 : Int)).toNat + 1) 0 0 x72 x77 H locs ls w57 (by decide) (by decide) (show 0 ≤ x72.toInt by first | with_reducible assumption | omega) (show x72.toInt ≤ 400 by first | with_reducible assumption | omega) (show 0 ≤ x77.toInt by first | with_reducible assumption | omega) (show x77.toInt ≤ 400 by first | with_reducible assumption | omega) (show (x77.toInt = f0_.toInt ∨ (gi w0 1 (f0_.toInt).toNat).toInt = 32) by first | omega | assumption | (left; omega) | (left; decide) | (right; assumption)) (Nat.lt_succ_self _) hw hT hF c73 c78 hM (lv_sub hl [2, 3, 1, 0] rfl)
abbrev Pz_X12_isWord_6 (ad : Nat → Nat) (cy : Nat → ClassId) (B : Int) (qr : Nat) (s1 : Int)  (w0 : va_W) : Int32 → va_W → Prop := fun r u => TW ksM ad cy B qr 12 u ∧ FE ksM [(12, 14, 14)] w0 u ∧ Ev (fun n => m_X12_isWord n 0 418548114533 (sI w0)) (r.toInt, sI u) ∧ ((r = 0 ∧ (∃ y : Int32, gi u 0 1 = y ∧ 0 ≤ y.toInt ∧ y.toInt ≤ 400) ∧ (((gi u 0 14).toInt = (gi w0 0 14).toInt ∨ (gi w0 1 ((gi w0 0 14).toInt).toNat).toInt = 32))) ∨ (r = 1 ∧ (∃ y : Int32, gi u 0 1 = y ∧ 0 ≤ y.toInt ∧ y.toInt ≤ 400) ∧ (((gi u 0 14).toInt = (gi w0 0 14).toInt ∨ (gi w0 1 ((gi w0 0 14).toInt).toNat).toInt = 32))))
set_option maxHeartbeats 4000000 in
set_option maxRecDepth 100000 in
theorem kz_X12_isWord_6 (l : Launch) (adK adV : Nat → Nat) (dC : Nat → ClassId) (dI : Nat → Nat → Nat) (cy : Nat → ClassId) (ad : Nat → Nat) (B : Int) (hB0 : 100000 ≤ B) (hB1 : B ≤ 1073741824) (qr : Nat) (s1 : Int)   (w0 : va_W) (sz : Nat) (hT : TW ksM ad cy B qr 12 w0) (f0_ : Int32) (cf0_ : gi w0 0 14 = f0_) (rf0_ : 0 ≤ f0_.toInt) (tf0_ : f0_.toInt ≤ 400) : Met l yX12_isWord (wu yX12_isWord cX12_isWord 6 (some .boolean)) ({ frames := 2, cells := 0, slots := 0, locals := 33 }) (va_Pc [.ref (ad 0), .long 418548114533] (wpreS adK adV dC dI cy sz w0)) (va_Qi (Pz_X12_isWord_6 ad cy B qr s1  w0) (fun u : va_W => wpost dC dI cy (va_A w0 sz) u) (va_A w0 sz)) 0 0 (va_A w0 sz) := by
  refine Met.ofW (cc := cX12_isWord) (maxL := 6) (ret := (some .boolean)) (by decide) rfl ?_
  intro p e s m args below meth c s₁ Bk hml hv
  obtain ⟨rfl, ⟨hsz, hP, hK, hD0⟩, hE, hSR⟩ := hv
  have hx := Bk.exec
  have hb := Bk.bytes
  have hr := Bk.returns
  have hlocks := Bk.notSynchronized
  have hC : CallFix p m c cX12_isWord 6 s _ (wu yX12_isWord cX12_isWord 6 (some .boolean)) RX12 := ⟨hx, hb, hml, findClass_of_methodNamed Bk.named, atoms_spec (ws := (wu yX12_isWord cX12_isWord 6 (some .boolean))) Bk.pre⟩
  subst hsz
  have hD := hD0.self (sz := s.heap.size)
  generalize hAe : va_A w0 s.heap.size = A at hD hE ⊢
  have hA : ∀ q : Nat, s.heap.size ≤ q → A q := fun q h => by rw [← hAe]; exact Or.inr h
  have hw : Wd dC dI A s.heap s.heap [] w0 := ⟨hP, hD, va_S.rf⟩
  have hF : FE ksM [(12, 14, 14)] w0 w0 := FE.rf
  have hl := lv_entry ([.ref (ad 0), .long 418548114533]) (n := 6) (Nat.le_of_ble_eq_true rfl)
  rw [lg_entry_eq]
  generalize (lg_sl ([.ref (ad 0), .long 418548114533]) ++ List.replicate (6 - (lg_sl ([.ref (ad 0), .long 418548114533])).length) Slot.unset).toArray = ls at hl ⊢
  have hl : lv_has ls 6 [(0, .ref (ad 0)), (1, .long 418548114533)] := hl
  generalize hloc : ([] : List Loc) = locs at hw ⊢
  have hinX12 : ∀ w ∈ u_ws RX12 TX12 42, w ∈ (wu yX12_isWord cX12_isWord 6 (some .boolean)) := fun _ h => List.mem_cons_of_mem _ (up_71 h)
  have J78 : ∀ (v78_3 : Int64) (v78_5 : Int32) (f78_0_1 : Int32) (f78_0_14 : Int32) (H : Heap) (locs : List Loc) (ls : Array Slot) (w1 : va_W), 0 ≤ v78_5.toInt → v78_5.toInt ≤ 400 → 0 ≤ f78_0_1.toInt → f78_0_1.toInt ≤ 400 → 0 ≤ f78_0_14.toInt → f78_0_14.toInt ≤ 400 → ((f78_0_14.toInt = f0_.toInt ∨ (gi w0 1 (f0_.toInt).toNat).toInt = 32)) → Wd dC dI A s.heap H locs w1 → TW ksM ad cy B qr 12 w1 → FE ksM [(12, 14, 14)] w0 w1 → gi w1 0 1 = f78_0_1 → gi w1 0 14 = f78_0_14 → TT (fun n => m_X12_isWord n 0 418548114533 (sI w0)) (fun n => b_X12_isWord_78 (j_X12_isWord 0 n) n 0 (sI w1)) → lv_has ls 6 [(0, .ref (ad 0)), (1, .long 418548114533), (3, .long v78_3), (5, .int v78_5)] → W p l e ({ frames := 2, cells := 0, slots := 0, locals := 33 }) s m (List.toArray [.ref (ad 0), .long 418548114533]) below meth c H locs 0 0 (MQ below (va_Qi (Pz_X12_isWord_6 ad cy B qr s1  w0) (fun u : va_W => wpost dC dI cy A u) A) (List.toArray [.ref (ad 0), .long 418548114533]) s 0 0 A) (F0 m 78 ls []) := by
    intro v78_3 v78_5 f78_0_1 f78_0_14 H locs ls w1 r2 t3 r4 t5 r7 t8 hcr78_0 hw hT hF c6 c9 hM hl
    refine lv_iconst (v := 0) hx hb dX12_isWord_78 (by decide) ?_
    exact tk_zret hC hr rfl hlocks hK ⟨hT, hF, hM.ret (by decide), (Or.inl ⟨rfl, ⟨f78_0_1, c6, (show 0 ≤ f78_0_1.toInt from r4), (show f78_0_1.toInt ≤ 400 from t5)⟩, (by simp only [cf0_, c9]; omega)⟩)⟩ hw dX12_isWord_79
  have L10 : ∀ (n10 : Nat) (v10_3 : Int64) (v10_5 : Int32) (f10_0_1 : Int32) (f10_0_14 : Int32) (H : Heap) (locs : List Loc) (ls : Array Slot) (w10 : va_W), 0 ≤ v10_5.toInt → v10_5.toInt ≤ 400 → 0 ≤ f10_0_1.toInt → f10_0_1.toInt ≤ 400 → 0 ≤ f10_0_14.toInt → f10_0_14.toInt ≤ 400 → ((f10_0_14.toInt = f0_.toInt ∨ (gi w0 1 (f0_.toInt).toNat).toInt = 32)) → (400 - v10_5.toInt).toNat < n10 → Wd dC dI A s.heap H locs w10 → TW ksM ad cy B qr 12 w10 → FE ksM [(12, 14, 14)] w0 w10 → gi w10 0 1 = f10_0_1 → gi w10 0 14 = f10_0_14 → TT (fun n => m_X12_isWord n 0 418548114533 (sI w0)) (fun n => j_X12_isWord 0 n 10 [(418548114533 : Int), v10_3.toInt, v10_5.toInt] (sI w10)) → lv_has ls 6 [(0, .ref (ad 0)), (1, .long 418548114533), (3, .long v10_3), (5, .int v10_5)] → W p l e ({ frames := 2, cells := 0, slots := 0, locals := 33 }) s m (List.toArray [.ref (ad 0), .long 418548114533]) below meth c H locs 0 0 (MQ below (va_Qi (Pz_X12_isWord_6 ad cy B qr s1  w0) (fun u : va_W => wpost dC dI cy A u) A) (List.toArray [.ref (ad 0), .long 418548114533]) s 0 0 A) (F0 m 10 ls []) := by
    intro n10
    induction n10 with
    | zero => intro v10_3 v10_5 f10_0_1 f10_0_14 H locs ls w10 r11 t12 r13 t14 r16 t17 hcr10_0 hm10 hw hT hF c15 c18 hM hl; omega
    | succ n10 ih10 =>
      intro v10_3 v10_5 f10_0_1 f10_0_14 H locs ls w10 r11 t12 r13 t14 r16 t17 hcr10_0 hm10 hw hT hF c15 c18 hM hl
      have J50 : ∀ (v50_3 : Int64) (H : Heap) (locs : List Loc) (ls : Array Slot) (w19 : va_W), 0 ≤ v10_5.toInt → v10_5.toInt ≤ 399 → 1 ≤ f10_0_1.toInt → f10_0_1.toInt ≤ 400 → 0 ≤ f10_0_14.toInt → f10_0_14.toInt ≤ 399 → ((f10_0_14.toInt = f0_.toInt ∨ (gi w0 1 (f0_.toInt).toNat).toInt = 32)) → Wd dC dI A s.heap H locs w19 → TW ksM ad cy B qr 12 w19 → FE ksM [(12, 14, 14)] w0 w19 → gi w19 0 1 = f10_0_1 → gi w19 0 14 = f10_0_14 → TT (fun n => m_X12_isWord n 0 418548114533 (sI w0)) (fun n => b_X12_isWord_50 (j_X12_isWord 0 n) n 0 (418548114533 : Int) (v50_3.toInt) (v10_5.toInt) (sI w19)) → lv_has ls 6 [(0, .ref (ad 0)), (1, .long 418548114533), (3, .long v50_3), (5, .int v10_5)] → W p l e ({ frames := 2, cells := 0, slots := 0, locals := 33 }) s m (List.toArray [.ref (ad 0), .long 418548114533]) below meth c H locs 0 0 (MQ below (va_Qi (Pz_X12_isWord_6 ad cy B qr s1  w0) (fun u : va_W => wpost dC dI cy A u) A) (List.toArray [.ref (ad 0), .long 418548114533]) s 0 0 A) (F0 m 50 ls []) := by
        intro v50_3 H locs ls w19 r20 t21 r22 t23 r25 t26 hcr50_0 hw hT hF c24 c27 hM hl
        obtain ⟨x28, ex28⟩ : ∃ y : Int32, y = v10_5 + Int32.ofInt 1 := ⟨_, rfl⟩
        have erx28 := ex28
        refine lv_iinc (v := x28) (lv' := [(5, .int x28), (0, .ref (ad 0)), (1, .long 418548114533), (3, .long v50_3)]) hx hb dX12_isWord_50 hl (k := 3) rfl ex28.symm (by decide) rfl (fun ls hl => ?_)
        have ex28 : x28.toInt = v10_5.toInt + 1 := by rw [ex28]; exact wk_add (y := 1) (show -2147483648 ≤ v10_5.toInt + 1 by omega) (show v10_5.toInt + 1 ≤ 2147483647 by omega)
        replace hM := hM.lt ex28.symm
        refine lv_goto (tgt := 10) hx hb dX12_isWord_53 (by decide) ?_
        exact ih10 v50_3 x28 f10_0_1 f10_0_14 H locs ls w19 (show 0 ≤ x28.toInt by first | with_reducible assumption | omega) (show x28.toInt ≤ 400 by first | with_reducible assumption | omega) (show 0 ≤ f10_0_1.toInt from r13) (show f10_0_1.toInt ≤ 400 from t23) (show 0 ≤ f10_0_14.toInt from r25) (show f10_0_14.toInt ≤ 400 from t17) (show (f10_0_14.toInt = f0_.toInt ∨ (gi w0 1 (f0_.toInt).toNat).toInt = 32) by first | omega | assumption | (left; omega) | (left; decide) | (right; assumption)) (show (400 - x28.toInt).toNat < n10 by first | exact tn_lt hm10 (by omega) (by omega) | omega) hw hT hF c24 c27 hM (lv_sub hl [1, 2, 3, 0] rfl)
      replace hM := hM.suc (fun _ => e_X12_isWord_10)
      refine lv_aload_n hx hb dX12_isWord_10 rfl (lv_at hl 0 rfl) ?_
      refine lv_aload_n hx hb dX12_isWord_11 rfl (lv_at hl 0 rfl) ?_
      refine tk_geti hC hK hw hT hinX12 kM_at0 (by decide) rfl 14 (by decide) (List.mem_cons_of_mem _ uw_19_18) rfl rfl dX12_isWord_12 (fun x29 c30 rx29 tx29 => ?_)
      refine wk_top f10_0_14 (c30.symm.trans c18) ?_
      replace hM := hM.rd (sI_at c18)
      refine lv_iload hx hb dX12_isWord_15 (lv_at hl 3 rfl) ?_
      refine lv_iadd hx hb dX12_isWord_17 ?_
      refine lv_topi (fun x31 ex31 => ?_)
      have ezx31 := ex31
      have ex31 : x31.toInt = f10_0_14.toInt + v10_5.toInt := by rw [ex31]; exact wk_add (show (-2147483648) ≤ f10_0_14.toInt + v10_5.toInt by omega) (show f10_0_14.toInt + v10_5.toInt ≤ 2147483647 by omega)
      replace hM := hM.lt ex31.symm
      refine tk_Vi hC hK hw hT hA hE hSR kM_at0 (by decide) rfl (kz_X12_isLetter_1 l adK adV dC dI cy ad B hB0 (Int.le_trans hB1 (by decide)) qr s1   x31 (show 0 ≤ x31.toInt by first | with_reducible assumption | omega) (show x31.toInt ≤ 800 by first | with_reducible assumption | omega) w10 H.size hT ) (cwV 1 hC.2.2.2.2 uV_RX12_101 rfl rfl rfl (by decide +kernel) ⟨Nat.le_of_ble_eq_true rfl, Nat.le_of_ble_eq_true rfl⟩) rfl hl.1 rfl (Nat.le_of_ble_eq_true rfl) dX12_isWord_18 (fun r32 w34 H locs hp33 hw => ?_)
      obtain ⟨rfl, hv42, hg41⟩ := hp33
      rcases hg41 with ⟨rfl, ⟨x36, c37, rx36, tx36⟩⟩ | ⟨rfl, g38, ⟨x39, c40, rx39, tx39⟩⟩
      · replace hM := hM.call (r' := 0) hv42 (by decide)
        have ex36 : x36.toInt = f10_0_1.toInt := by rw [← c15.symm.trans c37]
        refine lv_if_eq (tgt := 56) hx hb dX12_isWord_21 (by decide) (fun _ => ?_) (fun c => absurd (by decide) c)
        replace hM := hM.pos (by decide)
        refine lv_iload hx hb dX12_isWord_56 (lv_at hl 3 rfl) ?_
        refine lv_if_le (tgt := 78) hx hb dX12_isWord_58 (by decide) (fun c43 => ?_) (fun c43 => ?_)
        · have c43 : v10_5.toInt ≤ (0 : Int) := wk_le.mp c43
          replace hM := hM.pos c43
          exact J78 v10_3 v10_5 f10_0_1 f10_0_14 H locs ls w10 (show 0 ≤ v10_5.toInt from r11) (show v10_5.toInt ≤ 400 from t12) (show 0 ≤ f10_0_1.toInt from r13) (show f10_0_1.toInt ≤ 400 from t14) (show 0 ≤ f10_0_14.toInt from r16) (show f10_0_14.toInt ≤ 400 from t17) (show (f10_0_14.toInt = f0_.toInt ∨ (gi w0 1 (f0_.toInt).toNat).toInt = 32) by first | omega | assumption | (left; omega) | (left; decide) | (right; assumption))  hw hT hF c15 c18 hM (lv_sub hl [0, 1, 2, 3] rfl)
        · have c43 : (0 : Int) < v10_5.toInt := wk_leF c43
          replace hM := hM.neg (Int.not_le.mpr c43)
          refine lv_iload hx hb dX12_isWord_61 (lv_at hl 3 rfl) ?_
          refine lv_bipush (v := 8) hx hb dX12_isWord_63 (by decide) ?_
          refine lv_icmp_ge (tgt := 78) hx hb dX12_isWord_65 (by decide) (fun c44 => ?_) (fun c44 => ?_)
          · have c44 : (8 : Int) ≤ v10_5.toInt := wk_le.mp c44
            replace hM := hM.pos c44
            exact J78 v10_3 v10_5 f10_0_1 f10_0_14 H locs ls w10 (show 0 ≤ v10_5.toInt from r11) (show v10_5.toInt ≤ 400 from t12) (show 0 ≤ f10_0_1.toInt from r13) (show f10_0_1.toInt ≤ 400 from t14) (show 0 ≤ f10_0_14.toInt from r16) (show f10_0_14.toInt ≤ 400 from t17) (show (f10_0_14.toInt = f0_.toInt ∨ (gi w0 1 (f0_.toInt).toNat).toInt = 32) by first | omega | assumption | (left; omega) | (left; decide) | (right; assumption))  hw hT hF c15 c18 hM (lv_sub hl [0, 1, 2, 3] rfl)
          · have c44 : v10_5.toInt < (8 : Int) := wk_leF c44
            replace hM := hM.neg (Int.not_le.mpr c44)
            refine lv_lload_n hx hb dX12_isWord_68 rfl (lv_at hl 2 rfl) ?_
            refine lv_lload_n hx hb dX12_isWord_69 rfl (lv_at hl 1 rfl) ?_
            refine W.lcmp hx hb dX12_isWord_70 ?_
            refine lv_if_ne (tgt := 78) hx hb dX12_isWord_71 (by decide) (fun c45 => ?_) (fun c45 => ?_)
            · have c45 : ¬ v10_3.toInt = (418548114533 : Int) := wk_ceF c45
              replace hM := hM.pos c45
              exact J78 v10_3 v10_5 f10_0_1 f10_0_14 H locs ls w10 (show 0 ≤ v10_5.toInt from r11) (show v10_5.toInt ≤ 400 from t12) (show 0 ≤ f10_0_1.toInt from r13) (show f10_0_1.toInt ≤ 400 from t14) (show 0 ≤ f10_0_14.toInt from r16) (show f10_0_14.toInt ≤ 400 from t17) (show (f10_0_14.toInt = f0_.toInt ∨ (gi w0 1 (f0_.toInt).toNat).toInt = 32) by first | omega | assumption | (left; omega) | (left; decide) | (right; assumption))  hw hT hF c15 c18 hM (lv_sub hl [0, 1, 2, 3] rfl)
            · have c45 : v10_3.toInt = (418548114533 : Int) := wk_ceT c45
              replace hM := hM.neg (fun q => q c45)
              refine lv_iconst (v := 1) hx hb dX12_isWord_74 (by decide) ?_
              refine lv_goto (tgt := 79) hx hb dX12_isWord_75 (by decide) ?_
              exact tk_zret hC hr rfl hlocks hK ⟨hT, hF, hM.ret (by decide), (Or.inr ⟨rfl, ⟨f10_0_1, c15, (show 0 ≤ f10_0_1.toInt from r13), (show f10_0_1.toInt ≤ 400 from t14)⟩, (by simp only [cf0_, c18]; omega)⟩)⟩ hw dX12_isWord_79
      · replace hM := hM.call (r' := 1) hv42 (by decide)
        have ex39 : x39.toInt = f10_0_1.toInt := by rw [← c15.symm.trans c40]
        refine lv_if_eq (tgt := 56) hx hb dX12_isWord_21 (by decide) (fun c => absurd c (by decide)) (fun _ => ?_)
        replace hM := hM.neg (by decide)
        refine lv_iload hx hb dX12_isWord_24 (lv_at hl 3 rfl) ?_
        refine lv_bipush (v := 8) hx hb dX12_isWord_26 (by decide) ?_
        refine lv_icmp_ge (tgt := 50) hx hb dX12_isWord_28 (by decide) (fun c46 => ?_) (fun c46 => ?_)
        · have c46 : (8 : Int) ≤ v10_5.toInt := wk_le.mp c46
          replace hM := hM.pos c46
          exact J50 v10_3 H locs ls w10 (show 0 ≤ v10_5.toInt from r11) (show v10_5.toInt ≤ 399 by first | with_reducible assumption | omega) (show 1 ≤ f10_0_1.toInt by first | with_reducible assumption | omega) (show f10_0_1.toInt ≤ 400 from t14) (show 0 ≤ f10_0_14.toInt from r16) (show f10_0_14.toInt ≤ 399 by first | with_reducible assumption | omega) (show (f10_0_14.toInt = f0_.toInt ∨ (gi w0 1 (f0_.toInt).toNat).toInt = 32) by first | omega | assumption | (left; omega) | (left; decide) | (right; assumption))  hw hT hF c15 c18 hM (lv_sub hl [0, 1, 2, 3] rfl)
        · have c46 : v10_5.toInt < (8 : Int) := wk_leF c46
          replace hM := hM.neg (Int.not_le.mpr c46)
          refine lv_lload_n hx hb dX12_isWord_31 rfl (lv_at hl 2 rfl) ?_
          refine lv_bipush (v := 8) hx hb dX12_isWord_32 (by decide) ?_
          refine lv_lshl hx hb dX12_isWord_34 rfl ?_
          refine lv_topl (fun x47 ex47 => ?_)
          replace hM := hM.lt (mShlL_e ex47 rfl (by decide))
          refine lv_aload_n hx hb dX12_isWord_35 rfl (lv_at hl 0 rfl) ?_
          refine tk_getA hC hK hw hT hinX12 kM_at0 (by decide) rfl 0 (by decide) (List.mem_cons_of_mem _ uw_6_14) rfl rfl dX12_isWord_36 ?_
          refine lv_aload_n hx hb dX12_isWord_39 rfl (lv_at hl 0 rfl) ?_
          refine tk_geti hC hK hw hT hinX12 kM_at0 (by decide) rfl 14 (by decide) (List.mem_cons_of_mem _ uw_19_18) rfl rfl dX12_isWord_40 (fun x48 c49 rx48 tx48 => ?_)
          refine wk_top f10_0_14 (c49.symm.trans c18) ?_
          replace hM := hM.rd (sI_at c18)
          refine lv_iload hx hb dX12_isWord_43 (lv_at hl 3 rfl) ?_
          refine lv_iadd hx hb dX12_isWord_45 ?_
          refine lv_topi (fun x50 ex50 => ?_)
          have ezx50 := ex50
          have ex50 : x50.toInt = f10_0_14.toInt + v10_5.toInt := by rw [ex50]; exact wk_add (show (-2147483648) ≤ f10_0_14.toInt + v10_5.toInt by omega) (show f10_0_14.toInt + v10_5.toInt ≤ 2147483647 by omega)
          replace hM := hM.lt ex50.symm
          refine tk_bald hC hK hw hT kM_at1 rfl rfl (show 0 ≤ x50.toInt by first | with_reducible assumption | omega) (show x50.toInt < 400 by first | with_reducible assumption | omega) dX12_isWord_46 (fun x51 c52 rx51 tx51 => ?_)
          have hox51 := c52
          replace hM := hM.rd (sI_at hox51)
          have c52 : gi w10 1 (1 * f10_0_14.toInt + 1 * v10_5.toInt + 0).toNat = x51 := (congrArg (gi w10 1) (congrArg Int.toNat (show 1 * f10_0_14.toInt + 1 * v10_5.toInt + 0 = x50.toInt by first | exact Int.le_antisymm (by omega) (by omega) | omega))).trans c52
          refine lv_i2l hx hb dX12_isWord_47 rfl ?_
          refine lv_topl (fun x53 ex53 => ?_)
          have ex53 : x53.toInt = x51.toInt := by rw [ex53]; exact wk_i2l _
          have bx53 := wk_i32 x51
          replace hM := hM.lt ex53.symm
          refine lv_lor hx hb dX12_isWord_48 ?_
          refine lv_topl (fun x54 ex54 => ?_)
          have ezx54 := ex54
          replace hM := hM.lt (o64_e (f := fun x y => x ||| y) ezx54 rfl rfl)
          refine lv_lstore_n (lv' := [(3, .long x54), (0, .ref (ad 0)), (1, .long 418548114533), (5, .int v10_5)]) hx hb dX12_isWord_49 rfl hl (by decide) rfl (fun ls hl => ?_)
          exact J50 x54 H locs ls w10 (show 0 ≤ v10_5.toInt from r11) (show v10_5.toInt ≤ 399 by first | with_reducible assumption | omega) (show 1 ≤ f10_0_1.toInt by first | with_reducible assumption | omega) (show f10_0_1.toInt ≤ 400 from t14) (show 0 ≤ f10_0_14.toInt from r16) (show f10_0_14.toInt ≤ 399 by first | with_reducible assumption | omega) (show (f10_0_14.toInt = f0_.toInt ∨ (gi w0 1 (f0_.toInt).toNat).toInt = 32) by first | omega | assumption | (left; omega) | (left; decide) | (right; assumption) | (right; rw [c52]; omega) | (right; rw [c52]; decide))  hw hT hF c15 c18 hM (lv_sub hl [1, 2, 0, 3] rfl)
  have hM : TT (fun n => m_X12_isWord n 0 418548114533 (sI w0)) (fun n => m_X12_isWord n 0 418548114533 (sI w0)) := TT.rf
  refine lv_aload_n hx hb dX12_isWord_0 rfl (lv_at hl 0 rfl) ?_
  refine tk_Vi hC hK hw hT hA hE hSR kM_at0 (by decide) rfl (kz_X12_see_1 l adK adV dC dI cy ad B hB0 (Int.le_trans hB1 (by decide)) qr s1    w0 s.heap.size hT f0_ cf0_ (show 0 ≤ f0_.toInt from rf0_) (show f0_.toInt ≤ 400 from tf0_)) (cwV 0 hC.2.2.2.2 uV_RX12_97 rfl rfl rfl (by decide +kernel) ⟨Nat.le_of_ble_eq_true rfl, Nat.le_of_ble_eq_true rfl⟩) rfl hl.1 rfl (Nat.le_of_ble_eq_true rfl) dX12_isWord_1 (fun r55 w57 H locs hp56 hw => ?_)
  obtain ⟨hT, k58, hv76, hg75⟩ := hp56
  have hF := hF.tr k58 (by decide)
  rcases hg75 with ⟨g59, g60, ⟨x61, c62, rx61, tx61⟩, ⟨x63, c64, rx63, tx63⟩, g65, g66⟩ | ⟨rfl, ⟨x67, c68, rx67, tx67⟩, ⟨x69, c70, rx69, tx69⟩, g71⟩ | ⟨rfl, ⟨x72, c73, rx72, tx72⟩, g74⟩
  · replace hM := hM.call hv76 rfl
    have g65 : (gi w57 1 (x63.toInt).toNat).toInt ≠ 32 := by have q := g65; simp only [c64] at q; first | with_reducible exact q | omega
    have g66 : (x63.toInt = f0_.toInt ∨ (gi w0 1 (f0_.toInt).toNat).toInt = 32) := by have q := g66; simp only [cf0_, c64] at q; first | with_reducible exact q | omega
    refine lv_pop hx hb dX12_isWord_4 rfl ?_
    refine lv_lconst (v := 0) hx hb dX12_isWord_5 (by decide) ?_
    refine lv_lstore_n (lv' := [(3, .long 0), (0, .ref (ad 0)), (1, .long 418548114533)]) hx hb dX12_isWord_6 rfl hl (by decide) rfl (fun ls hl => ?_)
    refine lv_iconst (v := 0) hx hb dX12_isWord_7 (by decide) ?_
    refine lv_istore (lv' := [(5, .int 0), (3, .long 0), (0, .ref (ad 0)), (1, .long 418548114533)]) hx hb dX12_isWord_8 hl (by decide) rfl (fun ls hl => ?_)
    exact L10 ((400 - (0 : Int)).toNat + 1) 0 0 x61 x63 H locs ls w57 (by decide) (by decide) (show 0 ≤ x61.toInt by first | with_reducible assumption | omega) (show x61.toInt ≤ 400 by first | with_reducible assumption | omega) (show 0 ≤ x63.toInt by first | with_reducible assumption | omega) (show x63.toInt ≤ 400 by first | with_reducible assumption | omega) (show (x63.toInt = f0_.toInt ∨ (gi w0 1 (f0_.toInt).toNat).toInt = 32) by first | omega | assumption | (left; omega) | (left; decide) | (right; assumption)) (Nat.lt_succ_self _) hw hT hF c62 c64 hM (lv_sub hl [2, 3, 1, 0] rfl)
  · replace hM := hM.call (r' := (-1)) hv76 (by decide)
    have g71 : (x69.toInt = f0_.toInt ∨ (gi w0 1 (f0_.toInt).toNat).toInt = 32) := by have q := g71; simp only [cf0_, c70] at q; first | with_reducible exact q | omega
    refine lv_pop hx hb dX12_isWord_4 rfl ?_
    refine lv_lconst (v := 0) hx hb dX12_isWord_5 (by decide) ?_
    refine lv_lstore_n (lv' := [(3, .long 0), (0, .ref (ad 0)), (1, .long 418548114533)]) hx hb dX12_isWord_6 rfl hl (by decide) rfl (fun ls hl => ?_)
    refine lv_iconst (v := 0) hx hb dX12_isWord_7 (by decide) ?_
    refine lv_istore (lv' := [(5, .int 0), (3, .long 0), (0, .ref (ad 0)), (1, .long 418548114533)]) hx hb dX12_isWord_8 hl (by decide) rfl (fun ls hl => ?_)
    exact L10 ((400 - (0 : Int)).toNat + 1) 0 0 x67 x69 H locs ls w57 (by decide) (by decide) (show 0 ≤ x67.toInt by first | with_reducible assumption | omega) (show x67.toInt ≤ 400 by first | with_reducible assumption | omega) (show 0 ≤ x69.toInt by first | with_reducible assumption | omega) (show x69.toInt ≤ 400 by first | with_reducible assumption | omega) (show (x69.toInt = f0_.toInt ∨ (gi w0 1 (f0_.toInt).toNat).toInt = 32) by first | omega | assumption | (left; omega) | (left; decide) | (right; assumption)) (Nat.lt_succ_self _) hw hT hF c68 c70 hM (lv_sub hl [2, 3, 1, 0] rfl)
  · replace hM := hM.call (r' := (-1)) hv76 (by decide)
    obtain ⟨x77, c78, rx77, tx77⟩ := hT.rdi (lo := 0) (hi := 400) (k := 14) kM_at0 (by decide) rfl
    have g74 : (x77.toInt = f0_.toInt ∨ (gi w0 1 (f0_.toInt).toNat).toInt = 32) := by have q := g74; simp only [cf0_, c78] at q; first | with_reducible exact q | omega
    refine lv_pop hx hb dX12_isWord_4 rfl ?_
    refine lv_lconst (v := 0) hx hb dX12_isWord_5 (by decide) ?_
    refine lv_lstore_n (lv' := [(3, .long 0), (0, .ref (ad 0)), (1, .long 418548114533)]) hx hb dX12_isWord_6 rfl hl (by decide) rfl (fun ls hl => ?_)
    refine lv_iconst (v := 0) hx hb dX12_isWord_7 (by decide) ?_
    refine lv_istore (lv' := [(5, .int 0), (3, .long 0), (0, .ref (ad 0)), (1, .long 418548114533)]) hx hb dX12_isWord_8 hl (by decide) rfl (fun ls hl => ?_)
    exact L10 ((400 - (0 : Int)).toNat + 1) 0 0 x72 x77 H locs ls w57 (by decide) (by decide) (show 0 ≤ x72.toInt by first | with_reducible assumption | omega) (show x72.toInt ≤ 400 by first | with_reducible assumption | omega) (show 0 ≤ x77.toInt by first | with_reducible assumption | omega) (show x77.toInt ≤ 400 by first | with_reducible assumption | omega) (show (x77.toInt = f0_.toInt ∨ (gi w0 1 (f0_.toInt).toNat).toInt = 32) by first | omega | assumption | (left; omega) | (left; decide) | (right; assumption)) (Nat.lt_succ_self _) hw hT hF c73 c78 hM (lv_sub hl [2, 3, 1, 0] rfl)
abbrev Pz_X12_isWord_7 (ad : Nat → Nat) (cy : Nat → ClassId) (B : Int) (qr : Nat) (s1 : Int)  (w0 : va_W) : Int32 → va_W → Prop := fun r u => TW ksM ad cy B qr 12 u ∧ FE ksM [(12, 14, 14)] w0 u ∧ Ev (fun n => m_X12_isWord n 0 6386539 (sI w0)) (r.toInt, sI u) ∧ ((r = 0 ∧ (∃ y : Int32, gi u 0 1 = y ∧ 0 ≤ y.toInt ∧ y.toInt ≤ 400) ∧ (((gi u 0 14).toInt = (gi w0 0 14).toInt ∨ (gi w0 1 ((gi w0 0 14).toInt).toNat).toInt = 32))) ∨ (r = 1 ∧ (∃ y : Int32, gi u 0 1 = y ∧ 0 ≤ y.toInt ∧ y.toInt ≤ 400) ∧ (((gi u 0 14).toInt = (gi w0 0 14).toInt ∨ (gi w0 1 ((gi w0 0 14).toInt).toNat).toInt = 32))))
set_option maxHeartbeats 4000000 in
set_option maxRecDepth 100000 in
theorem kz_X12_isWord_7 (l : Launch) (adK adV : Nat → Nat) (dC : Nat → ClassId) (dI : Nat → Nat → Nat) (cy : Nat → ClassId) (ad : Nat → Nat) (B : Int) (hB0 : 100000 ≤ B) (hB1 : B ≤ 1073741824) (qr : Nat) (s1 : Int)   (w0 : va_W) (sz : Nat) (hT : TW ksM ad cy B qr 12 w0) (f0_ : Int32) (cf0_ : gi w0 0 14 = f0_) (rf0_ : 0 ≤ f0_.toInt) (tf0_ : f0_.toInt ≤ 400) : Met l yX12_isWord (wu yX12_isWord cX12_isWord 6 (some .boolean)) ({ frames := 2, cells := 0, slots := 0, locals := 33 }) (va_Pc [.ref (ad 0), .long 6386539] (wpreS adK adV dC dI cy sz w0)) (va_Qi (Pz_X12_isWord_7 ad cy B qr s1  w0) (fun u : va_W => wpost dC dI cy (va_A w0 sz) u) (va_A w0 sz)) 0 0 (va_A w0 sz) := by
  refine Met.ofW (cc := cX12_isWord) (maxL := 6) (ret := (some .boolean)) (by decide) rfl ?_
  intro p e s m args below meth c s₁ Bk hml hv
  obtain ⟨rfl, ⟨hsz, hP, hK, hD0⟩, hE, hSR⟩ := hv
  have hx := Bk.exec
  have hb := Bk.bytes
  have hr := Bk.returns
  have hlocks := Bk.notSynchronized
  have hC : CallFix p m c cX12_isWord 6 s _ (wu yX12_isWord cX12_isWord 6 (some .boolean)) RX12 := ⟨hx, hb, hml, findClass_of_methodNamed Bk.named, atoms_spec (ws := (wu yX12_isWord cX12_isWord 6 (some .boolean))) Bk.pre⟩
  subst hsz
  have hD := hD0.self (sz := s.heap.size)
  generalize hAe : va_A w0 s.heap.size = A at hD hE ⊢
  have hA : ∀ q : Nat, s.heap.size ≤ q → A q := fun q h => by rw [← hAe]; exact Or.inr h
  have hw : Wd dC dI A s.heap s.heap [] w0 := ⟨hP, hD, va_S.rf⟩
  have hF : FE ksM [(12, 14, 14)] w0 w0 := FE.rf
  have hl := lv_entry ([.ref (ad 0), .long 6386539]) (n := 6) (Nat.le_of_ble_eq_true rfl)
  rw [lg_entry_eq]
  generalize (lg_sl ([.ref (ad 0), .long 6386539]) ++ List.replicate (6 - (lg_sl ([.ref (ad 0), .long 6386539])).length) Slot.unset).toArray = ls at hl ⊢
  have hl : lv_has ls 6 [(0, .ref (ad 0)), (1, .long 6386539)] := hl
  generalize hloc : ([] : List Loc) = locs at hw ⊢
  have hinX12 : ∀ w ∈ u_ws RX12 TX12 42, w ∈ (wu yX12_isWord cX12_isWord 6 (some .boolean)) := fun _ h => List.mem_cons_of_mem _ (up_71 h)
  have J78 : ∀ (v78_3 : Int64) (v78_5 : Int32) (f78_0_1 : Int32) (f78_0_14 : Int32) (H : Heap) (locs : List Loc) (ls : Array Slot) (w1 : va_W), 0 ≤ v78_5.toInt → v78_5.toInt ≤ 400 → 0 ≤ f78_0_1.toInt → f78_0_1.toInt ≤ 400 → 0 ≤ f78_0_14.toInt → f78_0_14.toInt ≤ 400 → ((f78_0_14.toInt = f0_.toInt ∨ (gi w0 1 (f0_.toInt).toNat).toInt = 32)) → Wd dC dI A s.heap H locs w1 → TW ksM ad cy B qr 12 w1 → FE ksM [(12, 14, 14)] w0 w1 → gi w1 0 1 = f78_0_1 → gi w1 0 14 = f78_0_14 → TT (fun n => m_X12_isWord n 0 6386539 (sI w0)) (fun n => b_X12_isWord_78 (j_X12_isWord 0 n) n 0 (sI w1)) → lv_has ls 6 [(0, .ref (ad 0)), (1, .long 6386539), (3, .long v78_3), (5, .int v78_5)] → W p l e ({ frames := 2, cells := 0, slots := 0, locals := 33 }) s m (List.toArray [.ref (ad 0), .long 6386539]) below meth c H locs 0 0 (MQ below (va_Qi (Pz_X12_isWord_7 ad cy B qr s1  w0) (fun u : va_W => wpost dC dI cy A u) A) (List.toArray [.ref (ad 0), .long 6386539]) s 0 0 A) (F0 m 78 ls []) := by
    intro v78_3 v78_5 f78_0_1 f78_0_14 H locs ls w1 r2 t3 r4 t5 r7 t8 hcr78_0 hw hT hF c6 c9 hM hl
    refine lv_iconst (v := 0) hx hb dX12_isWord_78 (by decide) ?_
    exact tk_zret hC hr rfl hlocks hK ⟨hT, hF, hM.ret (by decide), (Or.inl ⟨rfl, ⟨f78_0_1, c6, (show 0 ≤ f78_0_1.toInt from r4), (show f78_0_1.toInt ≤ 400 from t5)⟩, (by simp only [cf0_, c9]; omega)⟩)⟩ hw dX12_isWord_79
  have L10 : ∀ (n10 : Nat) (v10_3 : Int64) (v10_5 : Int32) (f10_0_1 : Int32) (f10_0_14 : Int32) (H : Heap) (locs : List Loc) (ls : Array Slot) (w10 : va_W), 0 ≤ v10_5.toInt → v10_5.toInt ≤ 400 → 0 ≤ f10_0_1.toInt → f10_0_1.toInt ≤ 400 → 0 ≤ f10_0_14.toInt → f10_0_14.toInt ≤ 400 → ((f10_0_14.toInt = f0_.toInt ∨ (gi w0 1 (f0_.toInt).toNat).toInt = 32)) → (400 - v10_5.toInt).toNat < n10 → Wd dC dI A s.heap H locs w10 → TW ksM ad cy B qr 12 w10 → FE ksM [(12, 14, 14)] w0 w10 → gi w10 0 1 = f10_0_1 → gi w10 0 14 = f10_0_14 → TT (fun n => m_X12_isWord n 0 6386539 (sI w0)) (fun n => j_X12_isWord 0 n 10 [(6386539 : Int), v10_3.toInt, v10_5.toInt] (sI w10)) → lv_has ls 6 [(0, .ref (ad 0)), (1, .long 6386539), (3, .long v10_3), (5, .int v10_5)] → W p l e ({ frames := 2, cells := 0, slots := 0, locals := 33 }) s m (List.toArray [.ref (ad 0), .long 6386539]) below meth c H locs 0 0 (MQ below (va_Qi (Pz_X12_isWord_7 ad cy B qr s1  w0) (fun u : va_W => wpost dC dI cy A u) A) (List.toArray [.ref (ad 0), .long 6386539]) s 0 0 A) (F0 m 10 ls []) := by
    intro n10
    induction n10 with
    | zero => intro v10_3 v10_5 f10_0_1 f10_0_14 H locs ls w10 r11 t12 r13 t14 r16 t17 hcr10_0 hm10 hw hT hF c15 c18 hM hl; omega
    | succ n10 ih10 =>
      intro v10_3 v10_5 f10_0_1 f10_0_14 H locs ls w10 r11 t12 r13 t14 r16 t17 hcr10_0 hm10 hw hT hF c15 c18 hM hl
      have J50 : ∀ (v50_3 : Int64) (H : Heap) (locs : List Loc) (ls : Array Slot) (w19 : va_W), 0 ≤ v10_5.toInt → v10_5.toInt ≤ 399 → 1 ≤ f10_0_1.toInt → f10_0_1.toInt ≤ 400 → 0 ≤ f10_0_14.toInt → f10_0_14.toInt ≤ 399 → ((f10_0_14.toInt = f0_.toInt ∨ (gi w0 1 (f0_.toInt).toNat).toInt = 32)) → Wd dC dI A s.heap H locs w19 → TW ksM ad cy B qr 12 w19 → FE ksM [(12, 14, 14)] w0 w19 → gi w19 0 1 = f10_0_1 → gi w19 0 14 = f10_0_14 → TT (fun n => m_X12_isWord n 0 6386539 (sI w0)) (fun n => b_X12_isWord_50 (j_X12_isWord 0 n) n 0 (6386539 : Int) (v50_3.toInt) (v10_5.toInt) (sI w19)) → lv_has ls 6 [(0, .ref (ad 0)), (1, .long 6386539), (3, .long v50_3), (5, .int v10_5)] → W p l e ({ frames := 2, cells := 0, slots := 0, locals := 33 }) s m (List.toArray [.ref (ad 0), .long 6386539]) below meth c H locs 0 0 (MQ below (va_Qi (Pz_X12_isWord_7 ad cy B qr s1  w0) (fun u : va_W => wpost dC dI cy A u) A) (List.toArray [.ref (ad 0), .long 6386539]) s 0 0 A) (F0 m 50 ls []) := by
        intro v50_3 H locs ls w19 r20 t21 r22 t23 r25 t26 hcr50_0 hw hT hF c24 c27 hM hl
        obtain ⟨x28, ex28⟩ : ∃ y : Int32, y = v10_5 + Int32.ofInt 1 := ⟨_, rfl⟩
        have erx28 := ex28
        refine lv_iinc (v := x28) (lv' := [(5, .int x28), (0, .ref (ad 0)), (1, .long 6386539), (3, .long v50_3)]) hx hb dX12_isWord_50 hl (k := 3) rfl ex28.symm (by decide) rfl (fun ls hl => ?_)
        have ex28 : x28.toInt = v10_5.toInt + 1 := by rw [ex28]; exact wk_add (y := 1) (show -2147483648 ≤ v10_5.toInt + 1 by omega) (show v10_5.toInt + 1 ≤ 2147483647 by omega)
        replace hM := hM.lt ex28.symm
        refine lv_goto (tgt := 10) hx hb dX12_isWord_53 (by decide) ?_
        exact ih10 v50_3 x28 f10_0_1 f10_0_14 H locs ls w19 (show 0 ≤ x28.toInt by first | with_reducible assumption | omega) (show x28.toInt ≤ 400 by first | with_reducible assumption | omega) (show 0 ≤ f10_0_1.toInt from r13) (show f10_0_1.toInt ≤ 400 from t23) (show 0 ≤ f10_0_14.toInt from r25) (show f10_0_14.toInt ≤ 400 from t17) (show (f10_0_14.toInt = f0_.toInt ∨ (gi w0 1 (f0_.toInt).toNat).toInt = 32) by first | omega | assumption | (left; omega) | (left; decide) | (right; assumption)) (show (400 - x28.toInt).toNat < n10 by first | exact tn_lt hm10 (by omega) (by omega) | omega) hw hT hF c24 c27 hM (lv_sub hl [1, 2, 3, 0] rfl)
      replace hM := hM.suc (fun _ => e_X12_isWord_10)
      refine lv_aload_n hx hb dX12_isWord_10 rfl (lv_at hl 0 rfl) ?_
      refine lv_aload_n hx hb dX12_isWord_11 rfl (lv_at hl 0 rfl) ?_
      refine tk_geti hC hK hw hT hinX12 kM_at0 (by decide) rfl 14 (by decide) (List.mem_cons_of_mem _ uw_19_18) rfl rfl dX12_isWord_12 (fun x29 c30 rx29 tx29 => ?_)
      refine wk_top f10_0_14 (c30.symm.trans c18) ?_
      replace hM := hM.rd (sI_at c18)
      refine lv_iload hx hb dX12_isWord_15 (lv_at hl 3 rfl) ?_
      refine lv_iadd hx hb dX12_isWord_17 ?_
      refine lv_topi (fun x31 ex31 => ?_)
      have ezx31 := ex31
      have ex31 : x31.toInt = f10_0_14.toInt + v10_5.toInt := by rw [ex31]; exact wk_add (show (-2147483648) ≤ f10_0_14.toInt + v10_5.toInt by omega) (show f10_0_14.toInt + v10_5.toInt ≤ 2147483647 by omega)
      replace hM := hM.lt ex31.symm
      refine tk_Vi hC hK hw hT hA hE hSR kM_at0 (by decide) rfl (kz_X12_isLetter_1 l adK adV dC dI cy ad B hB0 (Int.le_trans hB1 (by decide)) qr s1   x31 (show 0 ≤ x31.toInt by first | with_reducible assumption | omega) (show x31.toInt ≤ 800 by first | with_reducible assumption | omega) w10 H.size hT ) (cwV 1 hC.2.2.2.2 uV_RX12_101 rfl rfl rfl (by decide +kernel) ⟨Nat.le_of_ble_eq_true rfl, Nat.le_of_ble_eq_true rfl⟩) rfl hl.1 rfl (Nat.le_of_ble_eq_true rfl) dX12_isWord_18 (fun r32 w34 H locs hp33 hw => ?_)
      obtain ⟨rfl, hv42, hg41⟩ := hp33
      rcases hg41 with ⟨rfl, ⟨x36, c37, rx36, tx36⟩⟩ | ⟨rfl, g38, ⟨x39, c40, rx39, tx39⟩⟩
      · replace hM := hM.call (r' := 0) hv42 (by decide)
        have ex36 : x36.toInt = f10_0_1.toInt := by rw [← c15.symm.trans c37]
        refine lv_if_eq (tgt := 56) hx hb dX12_isWord_21 (by decide) (fun _ => ?_) (fun c => absurd (by decide) c)
        replace hM := hM.pos (by decide)
        refine lv_iload hx hb dX12_isWord_56 (lv_at hl 3 rfl) ?_
        refine lv_if_le (tgt := 78) hx hb dX12_isWord_58 (by decide) (fun c43 => ?_) (fun c43 => ?_)
        · have c43 : v10_5.toInt ≤ (0 : Int) := wk_le.mp c43
          replace hM := hM.pos c43
          exact J78 v10_3 v10_5 f10_0_1 f10_0_14 H locs ls w10 (show 0 ≤ v10_5.toInt from r11) (show v10_5.toInt ≤ 400 from t12) (show 0 ≤ f10_0_1.toInt from r13) (show f10_0_1.toInt ≤ 400 from t14) (show 0 ≤ f10_0_14.toInt from r16) (show f10_0_14.toInt ≤ 400 from t17) (show (f10_0_14.toInt = f0_.toInt ∨ (gi w0 1 (f0_.toInt).toNat).toInt = 32) by first | omega | assumption | (left; omega) | (left; decide) | (right; assumption))  hw hT hF c15 c18 hM (lv_sub hl [0, 1, 2, 3] rfl)
        · have c43 : (0 : Int) < v10_5.toInt := wk_leF c43
          replace hM := hM.neg (Int.not_le.mpr c43)
          refine lv_iload hx hb dX12_isWord_61 (lv_at hl 3 rfl) ?_
          refine lv_bipush (v := 8) hx hb dX12_isWord_63 (by decide) ?_
          refine lv_icmp_ge (tgt := 78) hx hb dX12_isWord_65 (by decide) (fun c44 => ?_) (fun c44 => ?_)
          · have c44 : (8 : Int) ≤ v10_5.toInt := wk_le.mp c44
            replace hM := hM.pos c44
            exact J78 v10_3 v10_5 f10_0_1 f10_0_14 H locs ls w10 (show 0 ≤ v10_5.toInt from r11) (show v10_5.toInt ≤ 400 from t12) (show 0 ≤ f10_0_1.toInt from r13) (show f10_0_1.toInt ≤ 400 from t14) (show 0 ≤ f10_0_14.toInt from r16) (show f10_0_14.toInt ≤ 400 from t17) (show (f10_0_14.toInt = f0_.toInt ∨ (gi w0 1 (f0_.toInt).toNat).toInt = 32) by first | omega | assumption | (left; omega) | (left; decide) | (right; assumption))  hw hT hF c15 c18 hM (lv_sub hl [0, 1, 2, 3] rfl)
          · have c44 : v10_5.toInt < (8 : Int) := wk_leF c44
            replace hM := hM.neg (Int.not_le.mpr c44)
            refine lv_lload_n hx hb dX12_isWord_68 rfl (lv_at hl 2 rfl) ?_
            refine lv_lload_n hx hb dX12_isWord_69 rfl (lv_at hl 1 rfl) ?_
            refine W.lcmp hx hb dX12_isWord_70 ?_
            refine lv_if_ne (tgt := 78) hx hb dX12_isWord_71 (by decide) (fun c45 => ?_) (fun c45 => ?_)
            · have c45 : ¬ v10_3.toInt = (6386539 : Int) := wk_ceF c45
              replace hM := hM.pos c45
              exact J78 v10_3 v10_5 f10_0_1 f10_0_14 H locs ls w10 (show 0 ≤ v10_5.toInt from r11) (show v10_5.toInt ≤ 400 from t12) (show 0 ≤ f10_0_1.toInt from r13) (show f10_0_1.toInt ≤ 400 from t14) (show 0 ≤ f10_0_14.toInt from r16) (show f10_0_14.toInt ≤ 400 from t17) (show (f10_0_14.toInt = f0_.toInt ∨ (gi w0 1 (f0_.toInt).toNat).toInt = 32) by first | omega | assumption | (left; omega) | (left; decide) | (right; assumption))  hw hT hF c15 c18 hM (lv_sub hl [0, 1, 2, 3] rfl)
            · have c45 : v10_3.toInt = (6386539 : Int) := wk_ceT c45
              replace hM := hM.neg (fun q => q c45)
              refine lv_iconst (v := 1) hx hb dX12_isWord_74 (by decide) ?_
              refine lv_goto (tgt := 79) hx hb dX12_isWord_75 (by decide) ?_
              exact tk_zret hC hr rfl hlocks hK ⟨hT, hF, hM.ret (by decide), (Or.inr ⟨rfl, ⟨f10_0_1, c15, (show 0 ≤ f10_0_1.toInt from r13), (show f10_0_1.toInt ≤ 400 from t14)⟩, (by simp only [cf0_, c18]; omega)⟩)⟩ hw dX12_isWord_79
      · replace hM := hM.call (r' := 1) hv42 (by decide)
        have ex39 : x39.toInt = f10_0_1.toInt := by rw [← c15.symm.trans c40]
        refine lv_if_eq (tgt := 56) hx hb dX12_isWord_21 (by decide) (fun c => absurd c (by decide)) (fun _ => ?_)
        replace hM := hM.neg (by decide)
        refine lv_iload hx hb dX12_isWord_24 (lv_at hl 3 rfl) ?_
        refine lv_bipush (v := 8) hx hb dX12_isWord_26 (by decide) ?_
        refine lv_icmp_ge (tgt := 50) hx hb dX12_isWord_28 (by decide) (fun c46 => ?_) (fun c46 => ?_)
        · have c46 : (8 : Int) ≤ v10_5.toInt := wk_le.mp c46
          replace hM := hM.pos c46
          exact J50 v10_3 H locs ls w10 (show 0 ≤ v10_5.toInt from r11) (show v10_5.toInt ≤ 399 by first | with_reducible assumption | omega) (show 1 ≤ f10_0_1.toInt by first | with_reducible assumption | omega) (show f10_0_1.toInt ≤ 400 from t14) (show 0 ≤ f10_0_14.toInt from r16) (show f10_0_14.toInt ≤ 399 by first | with_reducible assumption | omega) (show (f10_0_14.toInt = f0_.toInt ∨ (gi w0 1 (f0_.toInt).toNat).toInt = 32) by first | omega | assumption | (left; omega) | (left; decide) | (right; assumption))  hw hT hF c15 c18 hM (lv_sub hl [0, 1, 2, 3] rfl)
        · have c46 : v10_5.toInt < (8 : Int) := wk_leF c46
          replace hM := hM.neg (Int.not_le.mpr c46)
          refine lv_lload_n hx hb dX12_isWord_31 rfl (lv_at hl 2 rfl) ?_
          refine lv_bipush (v := 8) hx hb dX12_isWord_32 (by decide) ?_
          refine lv_lshl hx hb dX12_isWord_34 rfl ?_
          refine lv_topl (fun x47 ex47 => ?_)
          replace hM := hM.lt (mShlL_e ex47 rfl (by decide))
          refine lv_aload_n hx hb dX12_isWord_35 rfl (lv_at hl 0 rfl) ?_
          refine tk_getA hC hK hw hT hinX12 kM_at0 (by decide) rfl 0 (by decide) (List.mem_cons_of_mem _ uw_6_14) rfl rfl dX12_isWord_36 ?_
          refine lv_aload_n hx hb dX12_isWord_39 rfl (lv_at hl 0 rfl) ?_
          refine tk_geti hC hK hw hT hinX12 kM_at0 (by decide) rfl 14 (by decide) (List.mem_cons_of_mem _ uw_19_18) rfl rfl dX12_isWord_40 (fun x48 c49 rx48 tx48 => ?_)
          refine wk_top f10_0_14 (c49.symm.trans c18) ?_
          replace hM := hM.rd (sI_at c18)
          refine lv_iload hx hb dX12_isWord_43 (lv_at hl 3 rfl) ?_
          refine lv_iadd hx hb dX12_isWord_45 ?_
          refine lv_topi (fun x50 ex50 => ?_)
          have ezx50 := ex50
          have ex50 : x50.toInt = f10_0_14.toInt + v10_5.toInt := by rw [ex50]; exact wk_add (show (-2147483648) ≤ f10_0_14.toInt + v10_5.toInt by omega) (show f10_0_14.toInt + v10_5.toInt ≤ 2147483647 by omega)
          replace hM := hM.lt ex50.symm
          refine tk_bald hC hK hw hT kM_at1 rfl rfl (show 0 ≤ x50.toInt by first | with_reducible assumption | omega) (show x50.toInt < 400 by first | with_reducible assumption | omega) dX12_isWord_46 (fun x51 c52 rx51 tx51 => ?_)
          have hox51 := c52
          replace hM := hM.rd (sI_at hox51)
          have c52 : gi w10 1 (1 * f10_0_14.toInt + 1 * v10_5.toInt + 0).toNat = x51 := (congrArg (gi w10 1) (congrArg Int.toNat (show 1 * f10_0_14.toInt + 1 * v10_5.toInt + 0 = x50.toInt by first | exact Int.le_antisymm (by omega) (by omega) | omega))).trans c52
          refine lv_i2l hx hb dX12_isWord_47 rfl ?_
          refine lv_topl (fun x53 ex53 => ?_)
          have ex53 : x53.toInt = x51.toInt := by rw [ex53]; exact wk_i2l _
          have bx53 := wk_i32 x51
          replace hM := hM.lt ex53.symm
          refine lv_lor hx hb dX12_isWord_48 ?_
          refine lv_topl (fun x54 ex54 => ?_)
          have ezx54 := ex54
          replace hM := hM.lt (o64_e (f := fun x y => x ||| y) ezx54 rfl rfl)
          refine lv_lstore_n (lv' := [(3, .long x54), (0, .ref (ad 0)), (1, .long 6386539), (5, .int v10_5)]) hx hb dX12_isWord_49 rfl hl (by decide) rfl (fun ls hl => ?_)
          exact J50 x54 H locs ls w10 (show 0 ≤ v10_5.toInt from r11) (show v10_5.toInt ≤ 399 by first | with_reducible assumption | omega) (show 1 ≤ f10_0_1.toInt by first | with_reducible assumption | omega) (show f10_0_1.toInt ≤ 400 from t14) (show 0 ≤ f10_0_14.toInt from r16) (show f10_0_14.toInt ≤ 399 by first | with_reducible assumption | omega) (show (f10_0_14.toInt = f0_.toInt ∨ (gi w0 1 (f0_.toInt).toNat).toInt = 32) by first | omega | assumption | (left; omega) | (left; decide) | (right; assumption) | (right; rw [c52]; omega) | (right; rw [c52]; decide))  hw hT hF c15 c18 hM (lv_sub hl [1, 2, 0, 3] rfl)
  have hM : TT (fun n => m_X12_isWord n 0 6386539 (sI w0)) (fun n => m_X12_isWord n 0 6386539 (sI w0)) := TT.rf
  refine lv_aload_n hx hb dX12_isWord_0 rfl (lv_at hl 0 rfl) ?_
  refine tk_Vi hC hK hw hT hA hE hSR kM_at0 (by decide) rfl (kz_X12_see_1 l adK adV dC dI cy ad B hB0 (Int.le_trans hB1 (by decide)) qr s1    w0 s.heap.size hT f0_ cf0_ (show 0 ≤ f0_.toInt from rf0_) (show f0_.toInt ≤ 400 from tf0_)) (cwV 0 hC.2.2.2.2 uV_RX12_97 rfl rfl rfl (by decide +kernel) ⟨Nat.le_of_ble_eq_true rfl, Nat.le_of_ble_eq_true rfl⟩) rfl hl.1 rfl (Nat.le_of_ble_eq_true rfl) dX12_isWord_1 (fun r55 w57 H locs hp56 hw => ?_)
  obtain ⟨hT, k58, hv76, hg75⟩ := hp56
  have hF := hF.tr k58 (by decide)
  rcases hg75 with ⟨g59, g60, ⟨x61, c62, rx61, tx61⟩, ⟨x63, c64, rx63, tx63⟩, g65, g66⟩ | ⟨rfl, ⟨x67, c68, rx67, tx67⟩, ⟨x69, c70, rx69, tx69⟩, g71⟩ | ⟨rfl, ⟨x72, c73, rx72, tx72⟩, g74⟩
  · replace hM := hM.call hv76 rfl
    have g65 : (gi w57 1 (x63.toInt).toNat).toInt ≠ 32 := by have q := g65; simp only [c64] at q; first | with_reducible exact q | omega
    have g66 : (x63.toInt = f0_.toInt ∨ (gi w0 1 (f0_.toInt).toNat).toInt = 32) := by have q := g66; simp only [cf0_, c64] at q; first | with_reducible exact q | omega
    refine lv_pop hx hb dX12_isWord_4 rfl ?_
    refine lv_lconst (v := 0) hx hb dX12_isWord_5 (by decide) ?_
    refine lv_lstore_n (lv' := [(3, .long 0), (0, .ref (ad 0)), (1, .long 6386539)]) hx hb dX12_isWord_6 rfl hl (by decide) rfl (fun ls hl => ?_)
    refine lv_iconst (v := 0) hx hb dX12_isWord_7 (by decide) ?_
    refine lv_istore (lv' := [(5, .int 0), (3, .long 0), (0, .ref (ad 0)), (1, .long 6386539)]) hx hb dX12_isWord_8 hl (by decide) rfl (fun ls hl => ?_)
    exact L10 ((400 - (0 : Int)).toNat + 1) 0 0 x61 x63 H locs ls w57 (by decide) (by decide) (show 0 ≤ x61.toInt by first | with_reducible assumption | omega) (show x61.toInt ≤ 400 by first | with_reducible assumption | omega) (show 0 ≤ x63.toInt by first | with_reducible assumption | omega) (show x63.toInt ≤ 400 by first | with_reducible assumption | omega) (show (x63.toInt = f0_.toInt ∨ (gi w0 1 (f0_.toInt).toNat).toInt = 32) by first | omega | assumption | (left; omega) | (left; decide) | (right; assumption)) (Nat.lt_succ_self _) hw hT hF c62 c64 hM (lv_sub hl [2, 3, 1, 0] rfl)
  · replace hM := hM.call (r' := (-1)) hv76 (by decide)
    have g71 : (x69.toInt = f0_.toInt ∨ (gi w0 1 (f0_.toInt).toNat).toInt = 32) := by have q := g71; simp only [cf0_, c70] at q; first | with_reducible exact q | omega
    refine lv_pop hx hb dX12_isWord_4 rfl ?_
    refine lv_lconst (v := 0) hx hb dX12_isWord_5 (by decide) ?_
    refine lv_lstore_n (lv' := [(3, .long 0), (0, .ref (ad 0)), (1, .long 6386539)]) hx hb dX12_isWord_6 rfl hl (by decide) rfl (fun ls hl => ?_)
    refine lv_iconst (v := 0) hx hb dX12_isWord_7 (by decide) ?_
    refine lv_istore (lv' := [(5, .int 0), (3, .long 0), (0, .ref (ad 0)), (1, .long 6386539)]) hx hb dX12_isWord_8 hl (by decide) rfl (fun ls hl => ?_)
    exact L10 ((400 - (0 : Int)).toNat + 1) 0 0 x67 x69 H locs ls w57 (by decide) (by decide) (show 0 ≤ x67.toInt by first | with_reducible assumption | omega) (show x67.toInt ≤ 400 by first | with_reducible assumption | omega) (show 0 ≤ x69.toInt by first | with_reducible assumption | omega) (show x69.toInt ≤ 400 by first | with_reducible assumption | omega) (show (x69.toInt = f0_.toInt ∨ (gi w0 1 (f0_.toInt).toNat).toInt = 32) by first | omega | assumption | (left; omega) | (left; decide) | (right; assumption)) (Nat.lt_succ_self _) hw hT hF c68 c70 hM (lv_sub hl [2, 3, 1, 0] rfl)
  · replace hM := hM.call (r' := (-1)) hv76 (by decide)
    obtain ⟨x77, c78, rx77, tx77⟩ := hT.rdi (lo := 0) (hi := 400) (k := 14) kM_at0 (by decide) rfl
    have g74 : (x77.toInt = f0_.toInt ∨ (gi w0 1 (f0_.toInt).toNat).toInt = 32) := by have q := g74; simp only [cf0_, c78] at q; first | with_reducible exact q | omega
    refine lv_pop hx hb dX12_isWord_4 rfl ?_
    refine lv_lconst (v := 0) hx hb dX12_isWord_5 (by decide) ?_
    refine lv_lstore_n (lv' := [(3, .long 0), (0, .ref (ad 0)), (1, .long 6386539)]) hx hb dX12_isWord_6 rfl hl (by decide) rfl (fun ls hl => ?_)
    refine lv_iconst (v := 0) hx hb dX12_isWord_7 (by decide) ?_
    refine lv_istore (lv' := [(5, .int 0), (3, .long 0), (0, .ref (ad 0)), (1, .long 6386539)]) hx hb dX12_isWord_8 hl (by decide) rfl (fun ls hl => ?_)
    exact L10 ((400 - (0 : Int)).toNat + 1) 0 0 x72 x77 H locs ls w57 (by decide) (by decide) (show 0 ≤ x72.toInt by first | with_reducible assumption | omega) (show x72.toInt ≤ 400 by first | with_reducible assumption | omega) (show 0 ≤ x77.toInt by first | with_reducible assumption | omega) (show x77.toInt ≤ 400 by first | with_reducible assumption | omega) (show (x77.toInt = f0_.toInt ∨ (gi w0 1 (f0_.toInt).toNat).toInt = 32) by first | omega | assumption | (left; omega) | (left; decide) | (right; assumption)) (Nat.lt_succ_self _) hw hT hF c73 c78 hM (lv_sub hl [2, 3, 1, 0] rfl)
