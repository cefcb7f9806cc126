abbrev Pz_X12_readsAll_1 (ad : Nat → Nat) (cy : Nat → ClassId) (B : Int) (qr : Nat) (s1 : Int)  (w0 : va_W) : Int32 → va_W → Prop := fun r u => TW ksM ad cy B qr 12 u ∧ FE ksM [(12, 1, 1), (12, 7, 7), (12, 8, 8), (12, 9, 9), (12, 10, 10), (12, 14, 14), (12, 15, 15), (12, 16, 16), (12, 18, 18), (12, 20, 20), (62, 0, 7), (65, 0, 120), (66, 0, 16), (67, 0, 12)] w0 u ∧ Ev (fun n => m_X12_readsAll n 0 (sI w0)) (r.toInt, sI u) ∧ ((r = 0 ∧ (∃ y : Int32, gi u 0 1 = y ∧ 0 ≤ y.toInt ∧ y.toInt ≤ 0) ∧ (∃ y : Int32, gi u 0 15 = y ∧ 1 ≤ y.toInt ∧ y.toInt ≤ 3205) ∧ (∃ y : Int32, gi u 0 17 = y ∧ 6 ≤ y.toInt ∧ y.toInt ≤ 6) ∧ (∃ y : Int32, gi u 0 18 = y ∧ 0 ≤ y.toInt ∧ y.toInt ≤ 0) ∧ (∃ y : Int32, gi u 0 20 = y ∧ 0 ≤ y.toInt ∧ y.toInt ≤ 32)) ∨ (r = 1 ∧ (∃ y : Int32, gi u 0 1 = y ∧ 0 ≤ y.toInt ∧ y.toInt ≤ 0) ∧ (∃ y : Int32, gi u 0 15 = y ∧ 0 ≤ y.toInt ∧ y.toInt ≤ 0) ∧ (∃ y : Int32, gi u 0 17 = y ∧ 6 ≤ y.toInt ∧ y.toInt ≤ 6) ∧ (∃ y : Int32, gi u 0 18 = y ∧ 0 ≤ y.toInt ∧ y.toInt ≤ 0) ∧ (∃ y : Int32, gi u 0 20 = y ∧ 0 ≤ y.toInt ∧ y.toInt ≤ 32)))
set_option maxHeartbeats 4000000 in
set_option maxRecDepth 100000 in
theorem kz_X12_readsAll_1 (l : Launch) (adK adV : Nat → Nat) (dC : Nat → ClassId) (dI : Nat → Nat → Nat) (cy : Nat → ClassId) (ad : Nat → Nat) (B : Int) (hB0 : 100000 ≤ B) (hB1 : B ≤ 1073741824) (qr : Nat) (s1 : Int)   (w0 : va_W) (sz : Nat) (hT : TW ksM ad cy B qr 12 w0) (cf0_ : gi w0 0 17 = 6) (f1_ : Int32) (cf1_ : gi w0 0 20 = f1_) (rf1_ : 0 ≤ f1_.toInt) (tf1_ : f1_.toInt ≤ 32) : Met l yX12_readsAll wsX12_readsAll ({ frames := 6, cells := 0, slots := 0, locals := 128 }) (va_Pc [.ref (ad 0)] (wpreS adK adV dC dI cy sz w0)) (va_Qi (Pz_X12_readsAll_1 ad cy B qr s1  w0) (fun u : va_W => wpost dC dI cy (va_A w0 sz) u) (va_A w0 sz)) 0 0 (va_A w0 sz) := by
  refine Met.ofW (cc := cX12_readsAll) (maxL := 2) (ret := (some .boolean)) (by decide) rfl ?_
  intro p e s m args below meth c s₁ Bk hml hv
  obtain ⟨rfl, ⟨hsz, hP, hK, hD0⟩, hE, hSR⟩ := hv
  have hx := Bk.exec
  have hb := Bk.bytes
  have hr := Bk.returns
  have hlocks := Bk.notSynchronized
  have hC : CallFix p m c cX12_readsAll 2 s _ wsX12_readsAll RX12 := ⟨hx, hb, hml, findClass_of_methodNamed Bk.named, atoms_spec (ws := wsX12_readsAll) Bk.pre⟩
  subst hsz
  have hD := hD0.self (sz := s.heap.size)
  generalize hAe : va_A w0 s.heap.size = A at hD hE ⊢
  have hA : ∀ q : Nat, s.heap.size ≤ q → A q := fun q h => by rw [← hAe]; exact Or.inr h
  have hw : Wd dC dI A s.heap s.heap [] w0 := ⟨hP, hD, va_S.rf⟩
  have hF : FE ksM [(12, 1, 1), (12, 7, 7), (12, 8, 8), (12, 9, 9), (12, 10, 10), (12, 14, 14), (12, 15, 15), (12, 16, 16), (12, 18, 18), (12, 20, 20), (62, 0, 7), (65, 0, 120), (66, 0, 16), (67, 0, 12)] w0 w0 := FE.rf
  have hl := lv_entry ([.ref (ad 0)]) (n := 2) (Nat.le_of_ble_eq_true rfl)
  rw [lg_entry_eq]
  generalize (lg_sl ([.ref (ad 0)]) ++ List.replicate (2 - (lg_sl ([.ref (ad 0)])).length) Slot.unset).toArray = ls at hl ⊢
  have hl : lv_has ls 2 [(0, .ref (ad 0))] := hl
  generalize hloc : ([] : List Loc) = locs at hw ⊢
  have hinX12 : ∀ w ∈ u_ws RX12 TX12 42, w ∈ wsX12_readsAll := fun _ h => List.mem_cons_of_mem _ (List.mem_append_right _ (h))
  have J88 : ∀ (v88_1 : Int32) (f88_0_1 : Int32) (f88_0_20 : Int32) (H : Heap) (locs : List Loc) (ls : Array Slot) (w1 : va_W), 0 ≤ v88_1.toInt → v88_1.toInt ≤ 1 → 0 ≤ f88_0_1.toInt → f88_0_1.toInt ≤ 400 → 0 ≤ f88_0_20.toInt → f88_0_20.toInt ≤ 32 → (f88_0_20.toInt ≤ 32) → Wd dC dI A s.heap H locs w1 → TW ksM ad cy B qr 12 w1 → FE ksM [(12, 1, 1), (12, 7, 7), (12, 8, 8), (12, 9, 9), (12, 10, 10), (12, 14, 14), (12, 15, 15), (12, 16, 16), (12, 18, 18), (12, 20, 20), (62, 0, 7), (65, 0, 120), (66, 0, 16), (67, 0, 12)] w0 w1 → gi w1 0 1 = f88_0_1 → gi w1 0 17 = 6 → gi w1 0 18 = 0 → gi w1 0 20 = f88_0_20 → gi w1 3 6 = 0 → TT (fun n => m_X12_readsAll n 0 (sI w0)) (fun n => b_X12_readsAll_88 (j_X12_readsAll 0 n) n 0 (sI w1)) → lv_has ls 2 [(0, .ref (ad 0)), (1, .int v88_1)] → W p l e ({ frames := 6, cells := 0, slots := 0, locals := 128 }) s m (List.toArray [.ref (ad 0)]) below meth c H locs 0 0 (MQ below (va_Qi (Pz_X12_readsAll_1 ad cy B qr s1  w0) (fun u : va_W => wpost dC dI cy A u) A) (List.toArray [.ref (ad 0)]) s 0 0 A) (F0 m 88 ls []) := by
    intro v88_1 f88_0_1 f88_0_20 H locs ls w1 r2 t3 r4 t5 r9 t10 hcr88_0 hw hT hF c6 c7 c8 c11 c12 hM hl
    refine lv_aload_n hx hb dX12_readsAll_88 rfl (lv_at hl 0 rfl) ?_
    refine lv_iconst (v := 0) hx hb dX12_readsAll_89 (by decide) ?_
    refine tk_puti hC hK hw hT hinX12 tyX12_ok nmX12 kM_at0 (by decide) rfl rfl 1 (by decide) (List.mem_of_getElem? (i := 7) rfl) rfl rfl rfl rfl (by decide) (by decide) dX12_readsAll_90 (fun H locs w13 hw hT k15 c14 => ?_)
    replace hM := hM.wr (sI_upc k15 c14 (by decide))
    have hF := hF.put kM_at0 (k := 1) (by decide) k15
    have c16 := k15.gi (Or.inr (by decide)) c7
    have c17 := k15.gi (Or.inr (by decide)) c8
    have c18 := k15.gi (Or.inr (by decide)) c11
    have c19 := k15.gi (Or.inr (by decide)) c12
    refine lv_aload_n hx hb dX12_readsAll_93 rfl (lv_at hl 0 rfl) ?_
    refine tk_geti hC hK hw hT hinX12 kM_at0 (by decide) rfl 15 (by decide) (List.mem_of_getElem? (i := 5) rfl) rfl rfl dX12_readsAll_94 (fun x20 c21 rx20 tx20 => ?_)
    replace hM := hM.rd (sI_at c21)
    refine lv_if_ne (tgt := 104) hx hb dX12_readsAll_97 (by decide) (fun c22 => ?_) (fun c22 => ?_)
    · have c22 : ¬ x20.toInt = (0 : Int) := wk_eqF c22
      replace hM := hM.pos c22
      refine lv_iconst (v := 0) hx hb dX12_readsAll_104 (by decide) ?_
      exact tk_zret hC hr rfl hlocks hK ⟨hT, hF, hM.ret (by decide), (Or.inl ⟨rfl, ⟨0, c14, (by decide), (by decide)⟩, ⟨x20, c21, (show 1 ≤ x20.toInt by omega), (show x20.toInt ≤ 3205 by omega)⟩, ⟨6, c16, (by decide), (by decide)⟩, ⟨0, c17, (by decide), (by decide)⟩, ⟨f88_0_20, c18, (show 0 ≤ f88_0_20.toInt by omega), (show f88_0_20.toInt ≤ 32 by omega)⟩⟩)⟩ hw dX12_readsAll_105
    · have c22 : x20.toInt = (0 : Int) := wk_eq.mp c22
      replace hM := hM.neg (fun q => q c22)
      refine lv_iconst (v := 1) hx hb dX12_readsAll_100 (by decide) ?_
      refine lv_goto (tgt := 105) hx hb dX12_readsAll_101 (by decide) ?_
      exact tk_zret hC hr rfl hlocks hK ⟨hT, hF, hM.ret (by decide), (Or.inr ⟨rfl, ⟨0, c14, (by decide), (by decide)⟩, ⟨x20, c21, (show 0 ≤ x20.toInt by omega), (show x20.toInt ≤ 0 by omega)⟩, ⟨6, c16, (by decide), (by decide)⟩, ⟨0, c17, (by decide), (by decide)⟩, ⟨f88_0_20, c18, (show 0 ≤ f88_0_20.toInt by omega), (show f88_0_20.toInt ≤ 32 by omega)⟩⟩)⟩ hw dX12_readsAll_105
  have J66 : ∀ (v66_1 : Int32) (f66_0_1 : Int32) (f66_0_20 : Int32) (H : Heap) (locs : List Loc) (ls : Array Slot) (w23 : va_W), 0 ≤ v66_1.toInt → v66_1.toInt ≤ 1 → 0 ≤ f66_0_1.toInt → f66_0_1.toInt ≤ 400 → 0 ≤ f66_0_20.toInt → f66_0_20.toInt ≤ 32 → (f66_0_20.toInt ≤ 32) → Wd dC dI A s.heap H locs w23 → TW ksM ad cy B qr 12 w23 → FE ksM [(12, 1, 1), (12, 7, 7), (12, 8, 8), (12, 9, 9), (12, 10, 10), (12, 14, 14), (12, 15, 15), (12, 16, 16), (12, 18, 18), (12, 20, 20), (62, 0, 7), (65, 0, 120), (66, 0, 16), (67, 0, 12)] w0 w23 → gi w23 0 1 = f66_0_1 → gi w23 0 17 = 6 → gi w23 0 18 = 0 → gi w23 0 20 = f66_0_20 → gi w23 3 6 = 0 → TT (fun n => m_X12_readsAll n 0 (sI w0)) (fun n => b_X12_readsAll_66 (j_X12_readsAll 0 n) n 0 (v66_1.toInt) (sI w23)) → lv_has ls 2 [(0, .ref (ad 0)), (1, .int v66_1)] → W p l e ({ frames := 6, cells := 0, slots := 0, locals := 128 }) s m (List.toArray [.ref (ad 0)]) below meth c H locs 0 0 (MQ below (va_Qi (Pz_X12_readsAll_1 ad cy B qr s1  w0) (fun u : va_W => wpost dC dI cy A u) A) (List.toArray [.ref (ad 0)]) s 0 0 A) (F0 m 66 ls []) := by
    intro v66_1 f66_0_1 f66_0_20 H locs ls w23 r24 t25 r26 t27 r31 t32 hcr66_0 hw hT hF c28 c29 c30 c33 c34 hM hl
    refine lv_iload_n hx hb dX12_readsAll_66 rfl (lv_at hl 1 rfl) ?_
    refine lv_if_eq (tgt := 88) hx hb dX12_readsAll_67 (by decide) (fun c35 => ?_) (fun c35 => ?_)
    · have c35 : v66_1.toInt = (0 : Int) := wk_eq.mp c35
      replace hM := hM.pos c35
      exact J88 v66_1 f66_0_1 f66_0_20 H locs ls w23 (show 0 ≤ v66_1.toInt by omega) (show v66_1.toInt ≤ 1 by omega) (show 0 ≤ f66_0_1.toInt by omega) (show f66_0_1.toInt ≤ 400 by omega) (show 0 ≤ f66_0_20.toInt by omega) (show f66_0_20.toInt ≤ 32 by omega) (show f66_0_20.toInt ≤ 32 by omega)  hw hT hF c28 c29 c30 c33 c34 hM (lv_sub hl [0, 1] rfl)
    · have c35 : ¬ v66_1.toInt = (0 : Int) := wk_eqF c35
      replace hM := hM.neg c35
      refine lv_aload_n hx hb dX12_readsAll_70 rfl (lv_at hl 0 rfl) ?_
      obtain ⟨x36, c37, rx36, tx36⟩ := hT.rdi (lo := 0) (hi := 400) (k := 14) kM_at0 (by decide) rfl
      refine tk_Vi hC hK hw hT hA hE hSR kM_at0 (by decide) rfl (kz_X12_see_1 l adK adV dC dI cy ad B (by omega) (by omega) qr s1    w23 H.size hT x36 c37 (show 0 ≤ x36.toInt by omega) (show x36.toInt ≤ 400 by omega)) (cwV 0 hC.2.2.2.2 gX12_readsAll_X12_see rfl rfl rfl (by decide +kernel) ⟨Nat.le_of_ble_eq_true rfl, Nat.le_of_ble_eq_true rfl⟩) rfl hl.1 rfl (Nat.le_of_ble_eq_true rfl) dX12_readsAll_71 (fun r38 w40 H locs hp39 hw => ?_)
      obtain ⟨hT, k41, hv59, hg58⟩ := hp39
      have hF := hF.tr k41 (by decide)
      have c60 := k41.gi kM_at0 (by decide) c28
      have c61 := k41.gi kM_at0 (by decide) c29
      have c62 := k41.gi kM_at0 (by decide) c30
      have c63 := k41.gi kM_at0 (by decide) c33
      have c64 := k41.gi kM_at3 (by decide) c34
      rcases hg58 with ⟨g42, g43, ⟨x44, c45, rx44, tx44⟩, ⟨x46, c47, rx46, tx46⟩, g48, g49⟩ | ⟨rfl, ⟨x50, c51, rx50, tx50⟩, ⟨x52, c53, rx52, tx52⟩, g54⟩ | ⟨rfl, ⟨x55, c56, rx55, tx55⟩, g57⟩
      · replace hM := hM.call hv59 rfl
        have ex44 : x44.toInt = f66_0_1.toInt := by rw [← c60.symm.trans c45]
        have g48 : (gi w40 1 (x46.toInt).toNat).toInt ≠ 32 := by have q := g48; simp only [c47] at q; omega
        have g49 : (x46.toInt = x36.toInt ∨ (gi w23 1 (x36.toInt).toNat).toInt = 32) := by have q := g49; simp only [c37, c47] at q; omega
        refine lv_iconst (v := (-1)) hx hb dX12_readsAll_74 (by decide) ?_
        refine lv_icmp_eq (tgt := 88) hx hb dX12_readsAll_75 (by decide) (fun c => absurd c (fun h => absurd (show r38.toInt = (-1 : Int) from wk_eq.mp h) (by omega))) (fun _ => ?_)
        replace hM := hM.neg (by omega)
        refine lv_aload_n hx hb dX12_readsAll_78 rfl (lv_at hl 0 rfl) ?_
        refine lv_iconst (v := 0) hx hb dX12_readsAll_79 (by decide) ?_
        refine lv_aload_n hx hb dX12_readsAll_80 rfl (lv_at hl 0 rfl) ?_
        refine tk_geti hC hK hw hT hinX12 kM_at0 (by decide) rfl 14 (by decide) (List.mem_of_getElem? (i := 4) rfl) rfl rfl dX12_readsAll_81 (fun x67 c68 rx67 tx67 => ?_)
        refine wk_top x46 (c68.symm.trans c47) ?_
        replace hM := hM.rd (sI_at c47)
        refine tk_Vi hC hK hw hT hA hE hSR kM_at0 (by decide) rfl (kz_X12_fails_1 l adK adV dC dI cy ad B (by omega) (by omega) qr s1   0 (by decide) (by decide) x46 (show 0 ≤ x46.toInt by omega) (show x46.toInt ≤ 400 by omega) w40 H.size hT ) (cwV 2 hC.2.2.2.2 gX12_readsAll_X12_fails rfl rfl rfl (by decide +kernel) ⟨Nat.le_of_ble_eq_true rfl, Nat.le_of_ble_eq_true rfl⟩) rfl hl.1 rfl (Nat.le_of_ble_eq_true rfl) dX12_readsAll_84 (fun r69 w71 H locs hp70 hw => ?_)
        obtain ⟨hT, k72, hv76, hg75⟩ := hp70
        try simp only [show (0 : Int32).toInt = 0 by decide] at hv76
        have hF := hF.tr k72 (by decide)
        have c77 := k72.gi kM_at0 (by decide) c60
        have c78 := k72.gi kM_at0 (by decide) c61
        have c79 := k72.gi kM_at0 (by decide) c62
        have c80 := k72.gi kM_at0 (by decide) c63
        have c81 := k72.gi kM_at3 (by decide) c64
        have c82 := k72.gi kM_at0 (by decide) c47
        obtain ⟨rfl, ⟨x73, c74, rx73, tx73⟩⟩ := hg75
        replace hM := hM.call (r' := 0) hv76 (by decide)
        refine lv_pop hx hb dX12_readsAll_87 rfl ?_
        exact J88 v66_1 f66_0_1 f66_0_20 H locs ls w71 (show 0 ≤ v66_1.toInt by omega) (show v66_1.toInt ≤ 1 by omega) (show 0 ≤ f66_0_1.toInt by omega) (show f66_0_1.toInt ≤ 400 by omega) (show 0 ≤ f66_0_20.toInt by omega) (show f66_0_20.toInt ≤ 32 by omega) (show f66_0_20.toInt ≤ 32 by omega)  hw hT hF c77 c78 c79 c80 c81 hM (lv_sub hl [0, 1] rfl)
      · replace hM := hM.call (r' := (-1)) hv59 (by decide)
        have ex50 : x50.toInt = f66_0_1.toInt := by rw [← c60.symm.trans c51]
        have g54 : (x52.toInt = x36.toInt ∨ (gi w23 1 (x36.toInt).toNat).toInt = 32) := by have q := g54; simp only [c37, c53] at q; omega
        refine lv_iconst (v := (-1)) hx hb dX12_readsAll_74 (by decide) ?_
        refine lv_icmp_eq (tgt := 88) hx hb dX12_readsAll_75 (by decide) (fun _ => ?_) (fun c => absurd (by decide) c)
        replace hM := hM.pos (by decide)
        exact J88 v66_1 f66_0_1 f66_0_20 H locs ls w40 (show 0 ≤ v66_1.toInt by omega) (show v66_1.toInt ≤ 1 by omega) (show 0 ≤ f66_0_1.toInt by omega) (show f66_0_1.toInt ≤ 400 by omega) (show 0 ≤ f66_0_20.toInt by omega) (show f66_0_20.toInt ≤ 32 by omega) (show f66_0_20.toInt ≤ 32 by omega)  hw hT hF c60 c61 c62 c63 c64 hM (lv_sub hl [0, 1] rfl)
      · replace hM := hM.call (r' := (-1)) hv59 (by decide)
        have ex55 : x55.toInt = f66_0_1.toInt := by rw [← c60.symm.trans c56]
        obtain ⟨x65, c66, rx65, tx65⟩ := hT.rdi (lo := 0) (hi := 400) (k := 14) kM_at0 (by decide) rfl
        have g57 : (x65.toInt = x36.toInt ∨ (gi w23 1 (x36.toInt).toNat).toInt = 32) := by have q := g57; simp only [c37, c66] at q; omega
        refine lv_iconst (v := (-1)) hx hb dX12_readsAll_74 (by decide) ?_
        refine lv_icmp_eq (tgt := 88) hx hb dX12_readsAll_75 (by decide) (fun _ => ?_) (fun c => absurd (by decide) c)
        replace hM := hM.pos (by decide)
        exact J88 v66_1 f66_0_1 f66_0_20 H locs ls w40 (show 0 ≤ v66_1.toInt by omega) (show v66_1.toInt ≤ 1 by omega) (show 0 ≤ f66_0_1.toInt by omega) (show f66_0_1.toInt ≤ 400 by omega) (show 0 ≤ f66_0_20.toInt by omega) (show f66_0_20.toInt ≤ 32 by omega) (show f66_0_20.toInt ≤ 32 by omega)  hw hT hF c60 c61 c62 c63 c64 hM (lv_sub hl [0, 1] rfl)
  have L35 : ∀ (n35 : Nat) (v35_1 : Int32) (f35_0_1 : Int32) (f35_0_20 : Int32) (H : Heap) (locs : List Loc) (ls : Array Slot) (w83 : va_W), 0 ≤ v35_1.toInt → v35_1.toInt ≤ 1 → 0 ≤ f35_0_1.toInt → f35_0_1.toInt ≤ 400 → 0 ≤ f35_0_20.toInt → f35_0_20.toInt ≤ 32 → (f35_0_20.toInt ≤ 32) → (2 * (32 - f35_0_20.toInt) + v35_1.toInt).toNat < n35 → Wd dC dI A s.heap H locs w83 → TW ksM ad cy B qr 12 w83 → FE ksM [(12, 1, 1), (12, 7, 7), (12, 8, 8), (12, 9, 9), (12, 10, 10), (12, 14, 14), (12, 15, 15), (12, 16, 16), (12, 18, 18), (12, 20, 20), (62, 0, 7), (65, 0, 120), (66, 0, 16), (67, 0, 12)] w0 w83 → gi w83 0 1 = f35_0_1 → gi w83 0 17 = 6 → gi w83 0 18 = 0 → gi w83 0 20 = f35_0_20 → gi w83 3 6 = 0 → TT (fun n => m_X12_readsAll n 0 (sI w0)) (fun n => j_X12_readsAll 0 n 35 [v35_1.toInt] (sI w83)) → lv_has ls 2 [(0, .ref (ad 0)), (1, .int v35_1)] → W p l e ({ frames := 6, cells := 0, slots := 0, locals := 128 }) s m (List.toArray [.ref (ad 0)]) below meth c H locs 0 0 (MQ below (va_Qi (Pz_X12_readsAll_1 ad cy B qr s1  w0) (fun u : va_W => wpost dC dI cy A u) A) (List.toArray [.ref (ad 0)]) s 0 0 A) (F0 m 35 ls []) := by
    intro n35
    induction n35 with
    | zero => intro v35_1 f35_0_1 f35_0_20 H locs ls w83 r84 t85 r86 t87 r91 t92 hcr35_0 hm35 hw hT hF c88 c89 c90 c93 c94 hM hl; omega
    | succ n35 ih35 =>
      intro v35_1 f35_0_1 f35_0_20 H locs ls w83 r84 t85 r86 t87 r91 t92 hcr35_0 hm35 hw hT hF c88 c89 c90 c93 c94 hM hl
      replace hM := hM.suc (fun _ => e_X12_readsAll_35)
      refine lv_iload_n hx hb dX12_readsAll_35 rfl (lv_at hl 1 rfl) ?_
      refine lv_if_eq (tgt := 66) hx hb dX12_readsAll_36 (by decide) (fun c95 => ?_) (fun c95 => ?_)
      · have c95 : v35_1.toInt = (0 : Int) := wk_eq.mp c95
        replace hM := hM.pos c95
        exact J66 v35_1 f35_0_1 f35_0_20 H locs ls w83 (show 0 ≤ v35_1.toInt by omega) (show v35_1.toInt ≤ 1 by omega) (show 0 ≤ f35_0_1.toInt by omega) (show f35_0_1.toInt ≤ 400 by omega) (show 0 ≤ f35_0_20.toInt by omega) (show f35_0_20.toInt ≤ 32 by omega) (show f35_0_20.toInt ≤ 32 by omega)  hw hT hF c88 c89 c90 c93 c94 hM (lv_sub hl [0, 1] rfl)
      · have c95 : ¬ v35_1.toInt = (0 : Int) := wk_eqF c95
        replace hM := hM.neg c95
        refine lv_aload_n hx hb dX12_readsAll_39 rfl (lv_at hl 0 rfl) ?_
        obtain ⟨x96, c97, rx96, tx96⟩ := hT.rdi (lo := 0) (hi := 400) (k := 14) kM_at0 (by decide) rfl
        refine tk_Vi hC hK hw hT hA hE hSR kM_at0 (by decide) rfl (kz_X12_see_1 l adK adV dC dI cy ad B (by omega) (by omega) qr s1    w83 H.size hT x96 c97 (show 0 ≤ x96.toInt by omega) (show x96.toInt ≤ 400 by omega)) (cwV 0 hC.2.2.2.2 gX12_readsAll_X12_see rfl rfl rfl (by decide +kernel) ⟨Nat.le_of_ble_eq_true rfl, Nat.le_of_ble_eq_true rfl⟩) rfl hl.1 rfl (Nat.le_of_ble_eq_true rfl) dX12_readsAll_40 (fun r98 w100 H locs hp99 hw => ?_)
        obtain ⟨hT, k101, hv119, hg118⟩ := hp99
        have hF := hF.tr k101 (by decide)
        have c120 := k101.gi kM_at0 (by decide) c88
        have c121 := k101.gi kM_at0 (by decide) c89
        have c122 := k101.gi kM_at0 (by decide) c90
        have c123 := k101.gi kM_at0 (by decide) c93
        have c124 := k101.gi kM_at3 (by decide) c94
        rcases hg118 with ⟨g102, g103, ⟨x104, c105, rx104, tx104⟩, ⟨x106, c107, rx106, tx106⟩, g108, g109⟩ | ⟨rfl, ⟨x110, c111, rx110, tx110⟩, ⟨x112, c113, rx112, tx112⟩, g114⟩ | ⟨rfl, ⟨x115, c116, rx115, tx115⟩, g117⟩
        · replace hM := hM.call hv119 rfl
          have ex104 : x104.toInt = f35_0_1.toInt := by rw [← c120.symm.trans c105]
          have g108 : (gi w100 1 (x106.toInt).toNat).toInt ≠ 32 := by have q := g108; simp only [c107] at q; omega
          have g109 : (x106.toInt = x96.toInt ∨ (gi w83 1 (x96.toInt).toNat).toInt = 32) := by have q := g109; simp only [c97, c107] at q; omega
          refine lv_bipush (v := 59) hx hb dX12_readsAll_43 (by decide) ?_
          refine lv_icmp_ne (tgt := 66) hx hb dX12_readsAll_45 (by decide) (fun c127 => ?_) (fun c127 => ?_)
          · have c127 : ¬ r98.toInt = (59 : Int) := wk_eqF c127
            replace hM := hM.pos c127
            exact J66 v35_1 f35_0_1 f35_0_20 H locs ls w100 (show 0 ≤ v35_1.toInt by omega) (show v35_1.toInt ≤ 1 by omega) (show 0 ≤ f35_0_1.toInt by omega) (show f35_0_1.toInt ≤ 400 by omega) (show 0 ≤ f35_0_20.toInt by omega) (show f35_0_20.toInt ≤ 32 by omega) (show f35_0_20.toInt ≤ 32 by omega)  hw hT hF c120 c121 c122 c123 c124 hM (lv_sub hl [0, 1] rfl)
          · have c127 : r98.toInt = (59 : Int) := wk_eq.mp c127
            replace hM := hM.neg (fun q => q c127)
            refine lv_aload_n hx hb dX12_readsAll_48 rfl (lv_at hl 0 rfl) ?_
            refine lv_dup hx hb dX12_readsAll_49 rfl ?_
            refine tk_geti hC hK hw hT hinX12 kM_at0 (by decide) rfl 14 (by decide) (List.mem_of_getElem? (i := 4) rfl) rfl rfl dX12_readsAll_50 (fun x128 c129 rx128 tx128 => ?_)
            refine wk_top x106 (c129.symm.trans c107) ?_
            replace hM := hM.rd (sI_at c107)
            refine lv_iconst (v := 1) hx hb dX12_readsAll_53 (by decide) ?_
            refine lv_iadd hx hb dX12_readsAll_54 ?_
            refine lv_topi (fun x130 ex130 => ?_)
            have ezx130 := ex130
            have ex130 : x130.toInt = x106.toInt + (1 : Int) := by rw [ex130]; exact wk_add (show (-2147483648) ≤ x106.toInt + (1 : Int) by omega) (show x106.toInt + (1 : Int) ≤ 2147483647 by omega)
            replace hM := hM.lt ex130.symm
            refine tk_puti hC hK hw hT hinX12 tyX12_ok nmX12 kM_at0 (by decide) rfl rfl 14 (by decide) (List.mem_of_getElem? (i := 4) rfl) rfl rfl rfl rfl (show 0 ≤ x130.toInt by omega) (show x130.toInt ≤ 400 by omega) dX12_readsAll_55 (fun H locs w131 hw hT k133 c132 => ?_)
            replace hM := hM.wr (sI_up k133 c132)
            have hF := hF.put kM_at0 (k := 14) (by decide) k133
            have c134 := k133.gi (Or.inr (by decide)) c120
            have c135 := k133.gi (Or.inr (by decide)) c121
            have c136 := k133.gi (Or.inr (by decide)) c122
            have c137 := k133.gi (Or.inr (by decide)) c123
            have c138 := k133.gi (Or.inr (by decide)) c124
            refine lv_aload_n hx hb dX12_readsAll_58 rfl (lv_at hl 0 rfl) ?_
            refine tk_Vi hC hK hw hT hA hE hSR kM_at0 (by decide) rfl (kz_X12_clauseHere_1 l adK adV dC dI cy ad B (by omega) (by omega) qr s1    w131 H.size hT c135 f35_0_20 c137 (show 0 ≤ f35_0_20.toInt by omega) (show f35_0_20.toInt ≤ 32 by omega)) (cwV 0 hC.2.2.2.2 gX12_readsAll_X12_clauseHere rfl rfl rfl (by decide +kernel) ⟨Nat.le_of_ble_eq_true rfl, Nat.le_of_ble_eq_true rfl⟩) rfl hl.1 rfl (Nat.le_of_ble_eq_true rfl) dX12_readsAll_59 (fun r139 w141 H locs hp140 hw => ?_)
            obtain ⟨hT, k142, hv173, hg172⟩ := hp140
            have hF := hF.tr k142 (by decide)
            have c174 := k142.gi kM_at0 (by decide) c134
            have c175 := k142.gi kM_at0 (by decide) c135
            have c176 := k142.gi kM_at0 (by decide) c136
            have c177 := k142.gi kM_at3 (by decide) c138
            rcases hg172 with ⟨rfl, ⟨x143, c144, rx143, tx143⟩, ⟨x145, c146, rx145, tx145⟩, ⟨x147, c148, rx147, tx147⟩, ⟨x149, c150, rx149, tx149⟩, g151⟩ | ⟨rfl, ⟨x152, c153, rx152, tx152⟩, ⟨x154, c155, rx154, tx154⟩, ⟨x156, c157, rx156, tx156⟩, ⟨x158, c159, rx158, tx158⟩, g160⟩ | ⟨rfl, ⟨x161, c162, rx161, tx161⟩, ⟨x163, c164, rx163, tx163⟩, ⟨x165, c166, rx165, tx165⟩, ⟨x167, c168, rx167, tx167⟩, ⟨x169, c170, rx169, tx169⟩, g171⟩
            · replace hM := hM.call (r' := 0) hv173 (by decide)
              have ex143 : x143.toInt = f35_0_1.toInt := by rw [← c174.symm.trans c144]
              have ex147 : x147.toInt = (6 : Int) := by rw [show x147 = 6 from c148.symm.trans c175]; decide
              have g151 : f35_0_20.toInt ≤ x149.toInt := by have q := g151; simp only [c137, c150] at q; omega
              refine lv_istore_n (lv' := [(1, .int 0), (0, .ref (ad 0))]) hx hb dX12_readsAll_62 rfl hl (by decide) rfl (fun ls hl => ?_)
              refine lv_goto (tgt := 35) hx hb dX12_readsAll_63 (by decide) ?_
              exact ih35 0 f35_0_1 x149 H locs ls w141 (by decide) (by decide) (show 0 ≤ f35_0_1.toInt by omega) (show f35_0_1.toInt ≤ 400 by omega) (show 0 ≤ x149.toInt by omega) (show x149.toInt ≤ 32 by omega) (show x149.toInt ≤ 32 by omega) (show (2 * (32 - x149.toInt) + (0 : Int)).toNat < n35 by omega) hw hT hF c174 c175 c176 c150 c177 hM (lv_sub hl [1, 0] rfl)
            · replace hM := hM.call (r' := 0) hv173 (by decide)
              have ex152 : x152.toInt = f35_0_1.toInt := by rw [← c174.symm.trans c153]
              have ex156 : x156.toInt = (6 : Int) := by rw [show x156 = 6 from c157.symm.trans c175]; decide
              have g160 : f35_0_20.toInt ≤ x158.toInt := by have q := g160; simp only [c137, c159] at q; omega
              refine lv_istore_n (lv' := [(1, .int 0), (0, .ref (ad 0))]) hx hb dX12_readsAll_62 rfl hl (by decide) rfl (fun ls hl => ?_)
              refine lv_goto (tgt := 35) hx hb dX12_readsAll_63 (by decide) ?_
              exact ih35 0 f35_0_1 x158 H locs ls w141 (by decide) (by decide) (show 0 ≤ f35_0_1.toInt by omega) (show f35_0_1.toInt ≤ 400 by omega) (show 0 ≤ x158.toInt by omega) (show x158.toInt ≤ 32 by omega) (show x158.toInt ≤ 32 by omega) (show (2 * (32 - x158.toInt) + (0 : Int)).toNat < n35 by omega) hw hT hF c174 c175 c176 c159 c177 hM (lv_sub hl [1, 0] rfl)
            · replace hM := hM.call (r' := 1) hv173 (by decide)
              have ex161 : x161.toInt = f35_0_1.toInt := by rw [← c174.symm.trans c162]
              have ex167 : x167.toInt = (6 : Int) := by rw [show x167 = 6 from c168.symm.trans c175]; decide
              have g171 : x169.toInt = f35_0_20.toInt + 1 := by have q := g171; simp only [c137, c170] at q; omega
              refine lv_istore_n (lv' := [(1, .int 1), (0, .ref (ad 0))]) hx hb dX12_readsAll_62 rfl hl (by decide) rfl (fun ls hl => ?_)
              refine lv_goto (tgt := 35) hx hb dX12_readsAll_63 (by decide) ?_
              exact ih35 1 f35_0_1 x169 H locs ls w141 (by decide) (by decide) (show 0 ≤ f35_0_1.toInt by omega) (show f35_0_1.toInt ≤ 400 by omega) (show 0 ≤ x169.toInt by omega) (show x169.toInt ≤ 32 by omega) (show x169.toInt ≤ 32 by omega) (show (2 * (32 - x169.toInt) + (1 : Int)).toNat < n35 by omega) hw hT hF c174 c175 c176 c170 c177 hM (lv_sub hl [1, 0] rfl)
        · replace hM := hM.call (r' := (-1)) hv119 (by decide)
          have ex110 : x110.toInt = f35_0_1.toInt := by rw [← c120.symm.trans c111]
          have g114 : (x112.toInt = x96.toInt ∨ (gi w83 1 (x96.toInt).toNat).toInt = 32) := by have q := g114; simp only [c97, c113] at q; omega
          refine lv_bipush (v := 59) hx hb dX12_readsAll_43 (by decide) ?_
          refine lv_icmp_ne (tgt := 66) hx hb dX12_readsAll_45 (by decide) (fun _ => ?_) (fun c => absurd c (by decide))
          replace hM := hM.pos (by decide)
          exact J66 v35_1 f35_0_1 f35_0_20 H locs ls w100 (show 0 ≤ v35_1.toInt by omega) (show v35_1.toInt ≤ 1 by omega) (show 0 ≤ f35_0_1.toInt by omega) (show f35_0_1.toInt ≤ 400 by omega) (show 0 ≤ f35_0_20.toInt by omega) (show f35_0_20.toInt ≤ 32 by omega) (show f35_0_20.toInt ≤ 32 by omega)  hw hT hF c120 c121 c122 c123 c124 hM (lv_sub hl [0, 1] rfl)
        · replace hM := hM.call (r' := (-1)) hv119 (by decide)
          have ex115 : x115.toInt = f35_0_1.toInt := by rw [← c120.symm.trans c116]
          obtain ⟨x125, c126, rx125, tx125⟩ := hT.rdi (lo := 0) (hi := 400) (k := 14) kM_at0 (by decide) rfl
          have g117 : (x125.toInt = x96.toInt ∨ (gi w83 1 (x96.toInt).toNat).toInt = 32) := by have q := g117; simp only [c97, c126] at q; omega
          refine lv_bipush (v := 59) hx hb dX12_readsAll_43 (by decide) ?_
          refine lv_icmp_ne (tgt := 66) hx hb dX12_readsAll_45 (by decide) (fun _ => ?_) (fun c => absurd c (by decide))
          replace hM := hM.pos (by decide)
          exact J66 v35_1 f35_0_1 f35_0_20 H locs ls w100 (show 0 ≤ v35_1.toInt by omega) (show v35_1.toInt ≤ 1 by omega) (show 0 ≤ f35_0_1.toInt by omega) (show f35_0_1.toInt ≤ 400 by omega) (show 0 ≤ f35_0_20.toInt by omega) (show f35_0_20.toInt ≤ 32 by omega) (show f35_0_20.toInt ≤ 32 by omega)  hw hT hF c120 c121 c122 c123 c124 hM (lv_sub hl [0, 1] rfl)
  have hM : TT (fun n => m_X12_readsAll n 0 (sI w0)) (fun n => m_X12_readsAll n 0 (sI w0)) := TT.rf
  refine lv_aload_n hx hb dX12_readsAll_0 rfl (lv_at hl 0 rfl) ?_
  refine tk_getA hC hK hw hT hinX12 kM_at0 (by decide) rfl 4 (by decide) (List.mem_of_getElem? (i := 1) rfl) rfl rfl dX12_readsAll_1 ?_
  refine lv_aload_n hx hb dX12_readsAll_4 rfl (lv_at hl 0 rfl) ?_
  refine tk_geti hC hK hw hT hinX12 kM_at0 (by decide) rfl 17 (by decide) (List.mem_of_getElem? (i := 2) rfl) rfl rfl dX12_readsAll_5 (fun x178 c179 rx178 tx178 => ?_)
  refine wk_top 6 (c179.symm.trans cf0_) ?_
  replace hM := hM.rd (v := 6) ((sI_at cf0_).trans (by decide))
  refine lv_iconst (v := 0) hx hb dX12_readsAll_8 (by decide) ?_
  refine tk_iast hC hK hw hT kM_at3 (by decide) rfl rfl (by decide) (by decide) (by decide) (by decide) dX12_readsAll_9 (fun H locs w180 hw hT k182 c181 => ?_)
  replace hM := hM.wr (sI_upc k182 c181 (by decide))
  have hF := hF.put kM_at3 (inE_of (a := 0) (b := 7) (by decide) (by decide) (by decide)) k182
  have c183 := k182.gi (Or.inl (tk_ne kM_at0 kM_at3 (by decide))) cf0_
  have c184 := k182.gi (Or.inl (tk_ne kM_at0 kM_at3 (by decide))) cf1_
  have c181 : gi w180 3 6 = 0 := c181
  refine lv_aload_n hx hb dX12_readsAll_10 rfl (lv_at hl 0 rfl) ?_
  refine lv_iconst (v := 0) hx hb dX12_readsAll_11 (by decide) ?_
  refine tk_puti hC hK hw hT hinX12 tyX12_ok nmX12 kM_at0 (by decide) rfl rfl 20 (by decide) (List.mem_of_getElem? (i := 3) rfl) rfl rfl rfl rfl (by decide) (by decide) dX12_readsAll_12 (fun H locs w185 hw hT k187 c186 => ?_)
  replace hM := hM.wr (sI_upc k187 c186 (by decide))
  have hF := hF.put kM_at0 (k := 20) (by decide) k187
  have c188 := k187.gi (Or.inr (by decide)) c183
  have c189 := k187.gi (Or.inr (by decide)) c181
  refine lv_aload_n hx hb dX12_readsAll_15 rfl (lv_at hl 0 rfl) ?_
  refine lv_iconst (v := 0) hx hb dX12_readsAll_16 (by decide) ?_
  refine tk_puti hC hK hw hT hinX12 tyX12_ok nmX12 kM_at0 (by decide) rfl rfl 14 (by decide) (List.mem_of_getElem? (i := 4) rfl) rfl rfl rfl rfl (by decide) (by decide) dX12_readsAll_17 (fun H locs w190 hw hT k192 c191 => ?_)
  replace hM := hM.wr (sI_upc k192 c191 (by decide))
  have hF := hF.put kM_at0 (k := 14) (by decide) k192
  have c193 := k192.gi (Or.inr (by decide)) c188
  have c194 := k192.gi (Or.inr (by decide)) c189
  have c195 := k192.gi (Or.inr (by decide)) c186
  refine lv_aload_n hx hb dX12_readsAll_20 rfl (lv_at hl 0 rfl) ?_
  refine lv_iconst (v := 0) hx hb dX12_readsAll_21 (by decide) ?_
  refine tk_puti hC hK hw hT hinX12 tyX12_ok nmX12 kM_at0 (by decide) rfl rfl 15 (by decide) (List.mem_of_getElem? (i := 5) rfl) rfl rfl rfl rfl (by decide) (by decide) dX12_readsAll_22 (fun H locs w196 hw hT k198 c197 => ?_)
  replace hM := hM.wr (sI_upc k198 c197 (by decide))
  have hF := hF.put kM_at0 (k := 15) (by decide) k198
  have c199 := k198.gi (Or.inr (by decide)) c193
  have c200 := k198.gi (Or.inr (by decide)) c194
  have c201 := k198.gi (Or.inr (by decide)) c195
  have c202 := k198.gi (Or.inr (by decide)) c191
  refine lv_aload_n hx hb dX12_readsAll_25 rfl (lv_at hl 0 rfl) ?_
  refine lv_iconst (v := 0) hx hb dX12_readsAll_26 (by decide) ?_
  refine tk_puti hC hK hw hT hinX12 tyX12_ok nmX12 kM_at0 (by decide) rfl rfl 18 (by decide) (List.mem_of_getElem? (i := 6) rfl) rfl rfl rfl rfl (by decide) (by decide) dX12_readsAll_27 (fun H locs w203 hw hT k205 c204 => ?_)
  replace hM := hM.wr (sI_upc k205 c204 (by decide))
  have hF := hF.put kM_at0 (k := 18) (by decide) k205
  have c206 := k205.gi (Or.inr (by decide)) c199
  have c207 := k205.gi (Or.inr (by decide)) c200
  have c208 := k205.gi (Or.inr (by decide)) c201
  have c209 := k205.gi (Or.inr (by decide)) c202
  have c210 := k205.gi (Or.inr (by decide)) c197
  refine lv_aload_n hx hb dX12_readsAll_30 rfl (lv_at hl 0 rfl) ?_
  refine tk_Vi hC hK hw hT hA hE hSR kM_at0 (by decide) rfl (kz_X12_clauseHere_1 l adK adV dC dI cy ad B (by omega) (by omega) qr s1    w203 H.size hT c206 0 c208 (by decide) (by decide)) (cwV 0 hC.2.2.2.2 gX12_readsAll_X12_clauseHere rfl rfl rfl (by decide +kernel) ⟨Nat.le_of_ble_eq_true rfl, Nat.le_of_ble_eq_true rfl⟩) rfl hl.1 rfl (Nat.le_of_ble_eq_true rfl) dX12_readsAll_31 (fun r211 w213 H locs hp212 hw => ?_)
  obtain ⟨hT, k214, hv245, hg244⟩ := hp212
  have hF := hF.tr k214 (by decide)
  have c246 := k214.gi kM_at0 (by decide) c206
  have c247 := k214.gi kM_at3 (by decide) c207
  have c248 := k214.gi kM_at0 (by decide) c204
  rcases hg244 with ⟨rfl, ⟨x215, c216, rx215, tx215⟩, ⟨x217, c218, rx217, tx217⟩, ⟨x219, c220, rx219, tx219⟩, ⟨x221, c222, rx221, tx221⟩, g223⟩ | ⟨rfl, ⟨x224, c225, rx224, tx224⟩, ⟨x226, c227, rx226, tx226⟩, ⟨x228, c229, rx228, tx228⟩, ⟨x230, c231, rx230, tx230⟩, g232⟩ | ⟨rfl, ⟨x233, c234, rx233, tx233⟩, ⟨x235, c236, rx235, tx235⟩, ⟨x237, c238, rx237, tx237⟩, ⟨x239, c240, rx239, tx239⟩, ⟨x241, c242, rx241, tx241⟩, g243⟩
  · replace hM := hM.call (r' := 0) hv245 (by decide)
    have ex219 : x219.toInt = (6 : Int) := by rw [show x219 = 6 from c220.symm.trans c246]; decide
    have g223 : (0 : Int) ≤ x221.toInt := by have q := g223; simp only [c208, (show (0 : Int32).toInt = 0 by decide), c222] at q; omega
    refine lv_istore_n (lv' := [(1, .int 0), (0, .ref (ad 0))]) hx hb dX12_readsAll_34 rfl hl (by decide) rfl (fun ls hl => ?_)
    exact L35 ((2 * (32 - x221.toInt) + (0 : Int)).toNat + 1) 0 x215 x221 H locs ls w213 (by decide) (by decide) (show 0 ≤ x215.toInt by omega) (show x215.toInt ≤ 400 by omega) (show 0 ≤ x221.toInt by omega) (show x221.toInt ≤ 32 by omega) (show x221.toInt ≤ 32 by omega) (Nat.lt_succ_self _) hw hT hF c216 c246 c248 c222 c247 hM (lv_sub hl [1, 0] rfl)
  · replace hM := hM.call (r' := 0) hv245 (by decide)
    have ex228 : x228.toInt = (6 : Int) := by rw [show x228 = 6 from c229.symm.trans c246]; decide
    have g232 : (0 : Int) ≤ x230.toInt := by have q := g232; simp only [c208, (show (0 : Int32).toInt = 0 by decide), c231] at q; omega
    refine lv_istore_n (lv' := [(1, .int 0), (0, .ref (ad 0))]) hx hb dX12_readsAll_34 rfl hl (by decide) rfl (fun ls hl => ?_)
    exact L35 ((2 * (32 - x230.toInt) + (0 : Int)).toNat + 1) 0 x224 x230 H locs ls w213 (by decide) (by decide) (show 0 ≤ x224.toInt by omega) (show x224.toInt ≤ 400 by omega) (show 0 ≤ x230.toInt by omega) (show x230.toInt ≤ 32 by omega) (show x230.toInt ≤ 32 by omega) (Nat.lt_succ_self _) hw hT hF c225 c246 c248 c231 c247 hM (lv_sub hl [1, 0] rfl)
  · replace hM := hM.call (r' := 1) hv245 (by decide)
    have ex239 : x239.toInt = (6 : Int) := by rw [show x239 = 6 from c240.symm.trans c246]; decide
    have g243 : x241.toInt = (0 : Int) + 1 := by have q := g243; simp only [c208, (show (0 : Int32).toInt = 0 by decide), c242] at q; omega
    refine lv_istore_n (lv' := [(1, .int 1), (0, .ref (ad 0))]) hx hb dX12_readsAll_34 rfl hl (by decide) rfl (fun ls hl => ?_)
    exact L35 ((2 * (32 - x241.toInt) + (1 : Int)).toNat + 1) 1 x233 x241 H locs ls w213 (by decide) (by decide) (show 0 ≤ x233.toInt by omega) (show x233.toInt ≤ 400 by omega) (show 0 ≤ x241.toInt by omega) (show x241.toInt ≤ 32 by omega) (show x241.toInt ≤ 32 by omega) (Nat.lt_succ_self _) hw hT hF c234 c246 c248 c242 c247 hM (lv_sub hl [1, 0] rfl)
abbrev Pz_X12_town_1 (ad : Nat → Nat) (cy : Nat → ClassId) (B : Int) (qr : Nat) (s1 : Int)  (w0 : va_W) : Int32 → va_W → Prop := fun r u => TW ksM ad cy B qr 12 u ∧ FE ksM [(12, 1, 1), (12, 7, 7), (12, 8, 8), (12, 9, 9), (12, 10, 10), (12, 14, 14), (12, 15, 15), (12, 16, 16), (12, 17, 17), (12, 18, 18), (12, 20, 20), (62, 0, 7), (65, 0, 120), (66, 0, 16), (67, 0, 12), (71, 0, 0), (71, 0, 295), (71, 1, 1), (71, 2, 2), (71, 3, 3), (71, 9, 9), (71, 10, 129), (71, 140, 155), (71, 156, 167)] w0 u ∧ Ev (fun n => m_X12_town n 0 (sI w0)) (r.toInt, sI u) ∧ (((-3207) ≤ r.toInt ∧ r.toInt ≤ (-3) ∧ (∃ y : Int32, gi u 0 1 = y ∧ 0 ≤ y.toInt ∧ y.toInt ≤ 0) ∧ (∃ y : Int32, gi u 0 15 = y ∧ 1 ≤ y.toInt ∧ y.toInt ≤ 3205) ∧ (∃ y : Int32, gi u 0 17 = y ∧ 6 ≤ y.toInt ∧ y.toInt ≤ 6) ∧ (∃ y : Int32, gi u 0 18 = y ∧ 0 ≤ y.toInt ∧ y.toInt ≤ 0) ∧ (∃ y : Int32, gi u 0 20 = y ∧ 0 ≤ y.toInt ∧ y.toInt ≤ 32)) ∨ (0 ≤ r.toInt ∧ r.toInt ≤ 12 ∧ (∃ y : Int32, gi u 0 1 = y ∧ 0 ≤ y.toInt ∧ y.toInt ≤ 0) ∧ (∃ y : Int32, gi u 0 15 = y ∧ 0 ≤ y.toInt ∧ y.toInt ≤ 0) ∧ (∃ y : Int32, gi u 0 17 = y ∧ 6 ≤ y.toInt ∧ y.toInt ≤ 6) ∧ (∃ y : Int32, gi u 0 18 = y ∧ 0 ≤ y.toInt ∧ y.toInt ≤ 0) ∧ (∃ y : Int32, gi u 0 20 = y ∧ 0 ≤ y.toInt ∧ y.toInt ≤ 32)))
set_option maxHeartbeats 4000000 in
set_option maxRecDepth 100000 in
theorem kz_X12_town_1 (l : Launch) (adK adV : Nat → Nat) (dC : Nat → ClassId) (dI : Nat → Nat → Nat) (cy : Nat → ClassId) (ad : Nat → Nat) (B : Int) (hB0 : 100000 ≤ B) (hB1 : B ≤ 1073741824) (qr : Nat) (s1 : Int)   (w0 : va_W) (sz : Nat) (hT : TW ksM ad cy B qr 12 w0)  : Met l yX12_town wsX12_town ({ frames := 7, cells := 0, slots := 0, locals := 149 }) (va_Pc [.ref (ad 0)] (wpreS adK adV dC dI cy sz w0)) (va_Qi (Pz_X12_town_1 ad cy B qr s1  w0) (fun u : va_W => wpost dC dI cy (va_A w0 sz) u) (va_A w0 sz)) 0 0 (va_A w0 sz) := by
  refine Met.ofW (cc := cX12_town) (maxL := 3) (ret := (some .int)) (by decide) rfl ?_
  intro p e s m args below meth c s₁ Bk hml hv
  obtain ⟨rfl, ⟨hsz, hP, hK, hD0⟩, hE, hSR⟩ := hv
  have hx := Bk.exec
  have hb := Bk.bytes
  have hr := Bk.returns
  have hlocks := Bk.notSynchronized
  have hC : CallFix p m c cX12_town 3 s _ wsX12_town RX12 := ⟨hx, hb, hml, findClass_of_methodNamed Bk.named, atoms_spec (ws := wsX12_town) Bk.pre⟩
  subst hsz
  have hD := hD0.self (sz := s.heap.size)
  generalize hAe : va_A w0 s.heap.size = A at hD hE ⊢
  have hA : ∀ q : Nat, s.heap.size ≤ q → A q := fun q h => by rw [← hAe]; exact Or.inr h
  have hw : Wd dC dI A s.heap s.heap [] w0 := ⟨hP, hD, va_S.rf⟩
  have hF : FE ksM [(12, 1, 1), (12, 7, 7), (12, 8, 8), (12, 9, 9), (12, 10, 10), (12, 14, 14), (12, 15, 15), (12, 16, 16), (12, 17, 17), (12, 18, 18), (12, 20, 20), (62, 0, 7), (65, 0, 120), (66, 0, 16), (67, 0, 12), (71, 0, 0), (71, 0, 295), (71, 1, 1), (71, 2, 2), (71, 3, 3), (71, 9, 9), (71, 10, 129), (71, 140, 155), (71, 156, 167)] w0 w0 := FE.rf
  have hl := lv_entry ([.ref (ad 0)]) (n := 3) (Nat.le_of_ble_eq_true rfl)
  rw [lg_entry_eq]
  generalize (lg_sl ([.ref (ad 0)]) ++ List.replicate (3 - (lg_sl ([.ref (ad 0)])).length) Slot.unset).toArray = ls at hl ⊢
  have hl : lv_has ls 3 [(0, .ref (ad 0))] := hl
  generalize hloc : ([] : List Loc) = locs at hw ⊢
  have hinX12 : ∀ w ∈ u_ws RX12 TX12 42, w ∈ wsX12_town := fun _ h => List.mem_cons_of_mem _ (List.mem_append_right _ (h))
  have L189 : ∀ (n189 : Nat) (v189_1 : Int32) (v189_2 : Int32) (f189_0_10 : Int32) (f189_0_20 : Int32) (f189_0_7 : Int32) (f189_0_8 : Int32) (f189_0_9 : Int32) (f189_12_0 : Int32) (f189_12_1 : Int32) (f189_12_2 : Int32) (f189_12_3 : Int32) (f189_12_9 : Int32) (H : Heap) (locs : List Loc) (ls : Array Slot) (w1 : va_W), 0 ≤ v189_1.toInt → 0 ≤ v189_2.toInt → v189_2.toInt ≤ 12 → 0 ≤ f189_0_10.toInt → f189_0_10.toInt ≤ 4 → 0 ≤ f189_0_20.toInt → f189_0_20.toInt ≤ 32 → 0 ≤ f189_0_7.toInt → f189_0_7.toInt ≤ 10 → 0 ≤ f189_0_8.toInt → f189_0_8.toInt ≤ 12 → 0 ≤ f189_0_9.toInt → f189_0_9.toInt ≤ 8 → 0 ≤ f189_12_0.toInt → f189_12_0.toInt ≤ 10 → 0 ≤ f189_12_1.toInt → f189_12_1.toInt ≤ 12 → 0 ≤ f189_12_2.toInt → f189_12_2.toInt ≤ 8 → 0 ≤ f189_12_3.toInt → f189_12_3.toInt ≤ 4 → 0 ≤ f189_12_9.toInt → (12 - v189_2.toInt).toNat < n189 → Wd dC dI A s.heap H locs w1 → TW ksM ad cy B qr 12 w1 → FE ksM [(12, 1, 1), (12, 7, 7), (12, 8, 8), (12, 9, 9), (12, 10, 10), (12, 14, 14), (12, 15, 15), (12, 16, 16), (12, 17, 17), (12, 18, 18), (12, 20, 20), (62, 0, 7), (65, 0, 120), (66, 0, 16), (67, 0, 12), (71, 0, 0), (71, 0, 295), (71, 1, 1), (71, 2, 2), (71, 3, 3), (71, 9, 9), (71, 10, 129), (71, 140, 155), (71, 156, 167)] w0 w1 → gi w1 0 1 = 0 → gi w1 0 10 = f189_0_10 → gi w1 0 15 = 0 → gi w1 0 17 = 6 → gi w1 0 18 = 0 → gi w1 0 20 = f189_0_20 → gi w1 0 7 = f189_0_7 → gi w1 0 8 = f189_0_8 → gi w1 0 9 = f189_0_9 → gi w1 12 0 = f189_12_0 → gi w1 12 1 = f189_12_1 → gi w1 12 2 = f189_12_2 → gi w1 12 3 = f189_12_3 → gi w1 12 9 = f189_12_9 → TT (fun n => m_X12_town n 0 (sI w0)) (fun n => j_X12_town 0 n 189 [v189_2.toInt] (sI w1)) → lv_has ls 3 [(0, .ref (ad 0)), (1, .int v189_1), (2, .int v189_2)] → W p l e ({ frames := 7, cells := 0, slots := 0, locals := 149 }) s m (List.toArray [.ref (ad 0)]) below meth c H locs 0 0 (MQ below (va_Qi (Pz_X12_town_1 ad cy B qr s1  w0) (fun u : va_W => wpost dC dI cy A u) A) (List.toArray [.ref (ad 0)]) s 0 0 A) (F0 m 189 ls []) := by
    intro n189
    induction n189 with
    | zero => intro v189_1 v189_2 f189_0_10 f189_0_20 f189_0_7 f189_0_8 f189_0_9 f189_12_0 f189_12_1 f189_12_2 f189_12_3 f189_12_9 H locs ls w1 r2 r3 t4 r6 t7 r12 t13 r15 t16 r18 t19 r21 t22 r24 t25 r27 t28 r30 t31 r33 t34 r36 hm189 hw hT hF c5 c8 c9 c10 c11 c14 c17 c20 c23 c26 c29 c32 c35 c37 hM hl; omega
    | succ n189 ih189 =>
      intro v189_1 v189_2 f189_0_10 f189_0_20 f189_0_7 f189_0_8 f189_0_9 f189_12_0 f189_12_1 f189_12_2 f189_12_3 f189_12_9 H locs ls w1 r2 r3 t4 r6 t7 r12 t13 r15 t16 r18 t19 r21 t22 r24 t25 r27 t28 r30 t31 r33 t34 r36 hm189 hw hT hF c5 c8 c9 c10 c11 c14 c17 c20 c23 c26 c29 c32 c35 c37 hM hl
      replace hM := hM.suc (fun _ => e_X12_town_189)
      refine lv_iload_n hx hb dX12_town_189 rfl (lv_at hl 2 rfl) ?_
      refine lv_iconst (v := 3) hx hb dX12_town_190 (by decide) ?_
      refine lv_aload_n hx hb dX12_town_191 rfl (lv_at hl 0 rfl) ?_
      refine tk_geti hC hK hw hT hinX12 kM_at0 (by decide) rfl 10 (by decide) (List.mem_of_getElem? (i := 5) rfl) rfl rfl dX12_town_192 (fun x38 c39 rx38 tx38 => ?_)
      refine wk_top f189_0_10 (c39.symm.trans c8) ?_
      replace hM := hM.rd (sI_at c8)
      refine lv_imul hx hb dX12_town_195 ?_
      refine lv_topi (fun x40 ex40 => ?_)
      have ezx40 := ex40
      have ex40 : x40.toInt = (3 : Int) * f189_0_10.toInt := by rw [ex40]; exact wk_mul (show (-2147483648) ≤ (3 : Int) * f189_0_10.toInt by omega) (show (3 : Int) * f189_0_10.toInt ≤ 2147483647 by omega)
      replace hM := hM.lt ex40.symm
      refine lv_icmp_ge (tgt := 221) hx hb dX12_town_196 (by decide) (fun c41 => ?_) (fun c41 => ?_)
      · have c41 : x40.toInt ≤ v189_2.toInt := wk_le.mp c41
        replace hM := hM.pos c41
        refine lv_aload_n hx hb dX12_town_221 rfl (lv_at hl 0 rfl) ?_
        refine tk_geti hC hK hw hT hinX12 kM_at0 (by decide) rfl 8 (by decide) (List.mem_of_getElem? (i := 3) rfl) rfl rfl dX12_town_222 (fun x42 c43 rx42 tx42 => ?_)
        refine wk_top f189_0_8 (c43.symm.trans c20) ?_
        replace hM := hM.rd (sI_at c20)
        exact tk_iret hC hr hlocks hK ⟨hT, hF, hM.ret rfl, (Or.inr ⟨(show 0 ≤ f189_0_8.toInt by omega), (show f189_0_8.toInt ≤ 12 by omega), ⟨0, c5, (by decide), (by decide)⟩, ⟨0, c9, (by decide), (by decide)⟩, ⟨6, c10, (by decide), (by decide)⟩, ⟨0, c11, (by decide), (by decide)⟩, ⟨f189_0_20, c14, (show 0 ≤ f189_0_20.toInt by omega), (show f189_0_20.toInt ≤ 32 by omega)⟩⟩)⟩ hw dX12_town_225
      · have c41 : v189_2.toInt < x40.toInt := wk_leF c41
        replace hM := hM.neg (Int.not_le.mpr c41)
        refine lv_aload_n hx hb dX12_town_199 rfl (lv_at hl 0 rfl) ?_
        refine tk_getA hC hK hw hT hinX12 kM_at0 (by decide) rfl 26 (by decide) (List.mem_of_getElem? (i := 7) rfl) rfl rfl dX12_town_200 ?_
        refine lv_sipush (v := 156) hx hb dX12_town_203 (by decide) ?_
        refine lv_iload_n hx hb dX12_town_206 rfl (lv_at hl 2 rfl) ?_
        refine lv_iadd hx hb dX12_town_207 ?_
        refine lv_topi (fun x44 ex44 => ?_)
        have ezx44 := ex44
        have ex44 : x44.toInt = (156 : Int) + v189_2.toInt := by rw [ex44]; exact wk_add (show (-2147483648) ≤ (156 : Int) + v189_2.toInt by omega) (show (156 : Int) + v189_2.toInt ≤ 2147483647 by omega)
        replace hM := hM.lt ex44.symm
        refine lv_aload_n hx hb dX12_town_208 rfl (lv_at hl 0 rfl) ?_
        refine tk_getA hC hK hw hT hinX12 kM_at0 (by decide) rfl 13 (by decide) (List.mem_of_getElem? (i := 10) rfl) rfl rfl dX12_town_209 ?_
        refine lv_iload_n hx hb dX12_town_212 rfl (lv_at hl 2 rfl) ?_
        refine tk_iald hC hK hw hT kM_at8 rfl rfl (show 0 ≤ v189_2.toInt by omega) (show v189_2.toInt < 12 by omega) dX12_town_213 (fun x45 c46 rx45 tx45 => ?_)
        have hox45 := c46
        replace hM := hM.rd (sI_at hox45)
        refine tk_iastR hC hK hw hT kM_at12 (by decide) rfl (show 0 ≤ x44.toInt by omega) (show x44.toInt < 296 by omega) (tk_rgS rfl 156 1 12 (-2147483648) 2147483647 (by decide +kernel) ⟨(v189_2.toInt - 0).toNat, by omega, show x44.toInt.toNat = 156 + 1 * (v189_2.toInt - 0).toNat by omega⟩ (wk_i32 x45).1 (wk_i32 x45).2) dX12_town_214 (fun H locs w47 hw hT k49 c48 => ?_)
        replace hM := hM.wr (sI_up k49 c48)
        have hF := hF.put kM_at12 (inE_of (a := 156) (b := 167) (by decide) (show 156 ≤ x44.toInt.toNat by omega) (show x44.toInt.toNat ≤ 167 by omega)) k49
        have c50 := k49.gi (Or.inl (tk_ne kM_at0 kM_at12 (by decide))) c5
        have c51 := k49.gi (Or.inl (tk_ne kM_at0 kM_at12 (by decide))) c8
        have c52 := k49.gi (Or.inl (tk_ne kM_at0 kM_at12 (by decide))) c9
        have c53 := k49.gi (Or.inl (tk_ne kM_at0 kM_at12 (by decide))) c10
        have c54 := k49.gi (Or.inl (tk_ne kM_at0 kM_at12 (by decide))) c11
        have c55 := k49.gi (Or.inl (tk_ne kM_at0 kM_at12 (by decide))) c14
        have c56 := k49.gi (Or.inl (tk_ne kM_at0 kM_at12 (by decide))) c17
        have c57 := k49.gi (Or.inl (tk_ne kM_at0 kM_at12 (by decide))) c20
        have c58 := k49.gi (Or.inl (tk_ne kM_at0 kM_at12 (by decide))) c23
        have c59 := k49.gi (Or.inr (show 0 ≠ x44.toInt.toNat by omega)) c26
        have c60 := k49.gi (Or.inr (show 1 ≠ x44.toInt.toNat by omega)) c29
        have c61 := k49.gi (Or.inr (show 2 ≠ x44.toInt.toNat by omega)) c32
        have c62 := k49.gi (Or.inr (show 3 ≠ x44.toInt.toNat by omega)) c35
        have c63 := k49.gi (Or.inr (show 9 ≠ x44.toInt.toNat by omega)) c37
        obtain ⟨x64, ex64⟩ : ∃ y : Int32, y = v189_2 + Int32.ofInt 1 := ⟨_, rfl⟩
        have erx64 := ex64
        refine lv_iinc (v := x64) (lv' := [(2, .int x64), (0, .ref (ad 0)), (1, .int v189_1)]) hx hb dX12_town_215 hl (k := 2) rfl ex64.symm (by decide) rfl (fun ls hl => ?_)
        have ex64 : x64.toInt = v189_2.toInt + 1 := by rw [ex64]; exact wk_add (y := 1) (show -2147483648 ≤ v189_2.toInt + 1 by omega) (show v189_2.toInt + 1 ≤ 2147483647 by omega)
        replace hM := hM.lt ex64.symm
        refine lv_goto (tgt := 189) hx hb dX12_town_218 (by decide) ?_
        exact ih189 v189_1 x64 f189_0_10 f189_0_20 f189_0_7 f189_0_8 f189_0_9 f189_12_0 f189_12_1 f189_12_2 f189_12_3 f189_12_9 H locs ls w47 (show 0 ≤ v189_1.toInt by omega) (show 0 ≤ x64.toInt by omega) (show x64.toInt ≤ 12 by omega) (show 0 ≤ f189_0_10.toInt by omega) (show f189_0_10.toInt ≤ 4 by omega) (show 0 ≤ f189_0_20.toInt by omega) (show f189_0_20.toInt ≤ 32 by omega) (show 0 ≤ f189_0_7.toInt by omega) (show f189_0_7.toInt ≤ 10 by omega) (show 0 ≤ f189_0_8.toInt by omega) (show f189_0_8.toInt ≤ 12 by omega) (show 0 ≤ f189_0_9.toInt by omega) (show f189_0_9.toInt ≤ 8 by omega) (show 0 ≤ f189_12_0.toInt by omega) (show f189_12_0.toInt ≤ 10 by omega) (show 0 ≤ f189_12_1.toInt by omega) (show f189_12_1.toInt ≤ 12 by omega) (show 0 ≤ f189_12_2.toInt by omega) (show f189_12_2.toInt ≤ 8 by omega) (show 0 ≤ f189_12_3.toInt by omega) (show f189_12_3.toInt ≤ 4 by omega) (show 0 ≤ f189_12_9.toInt by omega) (show (12 - x64.toInt).toNat < n189 by omega) hw hT hF c50 c51 c52 c53 c54 c55 c56 c57 c58 c59 c60 c61 c62 c63 hM (lv_sub hl [1, 2, 0] rfl)
  have L155 : ∀ (n155 : Nat) (v155_1 : Int32) (v155_2 : Int32) (f155_0_10 : Int32) (f155_0_20 : Int32) (f155_0_7 : Int32) (f155_0_8 : Int32) (f155_0_9 : Int32) (f155_12_0 : Int32) (f155_12_1 : Int32) (f155_12_2 : Int32) (f155_12_3 : Int32) (f155_12_9 : Int32) (H : Heap) (locs : List Loc) (ls : Array Slot) (w65 : va_W), 0 ≤ v155_1.toInt → 0 ≤ v155_2.toInt → v155_2.toInt ≤ 16 → 0 ≤ f155_0_10.toInt → f155_0_10.toInt ≤ 4 → 0 ≤ f155_0_20.toInt → f155_0_20.toInt ≤ 32 → 0 ≤ f155_0_7.toInt → f155_0_7.toInt ≤ 10 → 0 ≤ f155_0_8.toInt → f155_0_8.toInt ≤ 12 → 0 ≤ f155_0_9.toInt → f155_0_9.toInt ≤ 8 → 0 ≤ f155_12_0.toInt → f155_12_0.toInt ≤ 10 → 0 ≤ f155_12_1.toInt → f155_12_1.toInt ≤ 12 → 0 ≤ f155_12_2.toInt → f155_12_2.toInt ≤ 8 → 0 ≤ f155_12_3.toInt → f155_12_3.toInt ≤ 4 → 0 ≤ f155_12_9.toInt → (16 - v155_2.toInt).toNat < n155 → Wd dC dI A s.heap H locs w65 → TW ksM ad cy B qr 12 w65 → FE ksM [(12, 1, 1), (12, 7, 7), (12, 8, 8), (12, 9, 9), (12, 10, 10), (12, 14, 14), (12, 15, 15), (12, 16, 16), (12, 17, 17), (12, 18, 18), (12, 20, 20), (62, 0, 7), (65, 0, 120), (66, 0, 16), (67, 0, 12), (71, 0, 0), (71, 0, 295), (71, 1, 1), (71, 2, 2), (71, 3, 3), (71, 9, 9), (71, 10, 129), (71, 140, 155), (71, 156, 167)] w0 w65 → gi w65 0 1 = 0 → gi w65 0 10 = f155_0_10 → gi w65 0 15 = 0 → gi w65 0 17 = 6 → gi w65 0 18 = 0 → gi w65 0 20 = f155_0_20 → gi w65 0 7 = f155_0_7 → gi w65 0 8 = f155_0_8 → gi w65 0 9 = f155_0_9 → gi w65 12 0 = f155_12_0 → gi w65 12 1 = f155_12_1 → gi w65 12 2 = f155_12_2 → gi w65 12 3 = f155_12_3 → gi w65 12 9 = f155_12_9 → TT (fun n => m_X12_town n 0 (sI w0)) (fun n => j_X12_town 0 n 155 [v155_2.toInt] (sI w65)) → lv_has ls 3 [(0, .ref (ad 0)), (1, .int v155_1), (2, .int v155_2)] → W p l e ({ frames := 7, cells := 0, slots := 0, locals := 149 }) s m (List.toArray [.ref (ad 0)]) below meth c H locs 0 0 (MQ below (va_Qi (Pz_X12_town_1 ad cy B qr s1  w0) (fun u : va_W => wpost dC dI cy A u) A) (List.toArray [.ref (ad 0)]) s 0 0 A) (F0 m 155 ls []) := by
    intro n155
    induction n155 with
    | zero => intro v155_1 v155_2 f155_0_10 f155_0_20 f155_0_7 f155_0_8 f155_0_9 f155_12_0 f155_12_1 f155_12_2 f155_12_3 f155_12_9 H locs ls w65 r66 r67 t68 r70 t71 r76 t77 r79 t80 r82 t83 r85 t86 r88 t89 r91 t92 r94 t95 r97 t98 r100 hm155 hw hT hF c69 c72 c73 c74 c75 c78 c81 c84 c87 c90 c93 c96 c99 c101 hM hl; omega
    | succ n155 ih155 =>
      intro v155_1 v155_2 f155_0_10 f155_0_20 f155_0_7 f155_0_8 f155_0_9 f155_12_0 f155_12_1 f155_12_2 f155_12_3 f155_12_9 H locs ls w65 r66 r67 t68 r70 t71 r76 t77 r79 t80 r82 t83 r85 t86 r88 t89 r91 t92 r94 t95 r97 t98 r100 hm155 hw hT hF c69 c72 c73 c74 c75 c78 c81 c84 c87 c90 c93 c96 c99 c101 hM hl
      replace hM := hM.suc (fun _ => e_X12_town_155)
      refine lv_iload_n hx hb dX12_town_155 rfl (lv_at hl 2 rfl) ?_
      refine lv_iconst (v := 2) hx hb dX12_town_156 (by decide) ?_
      refine lv_aload_n hx hb dX12_town_157 rfl (lv_at hl 0 rfl) ?_
      refine tk_geti hC hK hw hT hinX12 kM_at0 (by decide) rfl 9 (by decide) (List.mem_of_getElem? (i := 4) rfl) rfl rfl dX12_town_158 (fun x102 c103 rx102 tx102 => ?_)
      refine wk_top f155_0_9 (c103.symm.trans c87) ?_
      replace hM := hM.rd (sI_at c87)
      refine lv_imul hx hb dX12_town_161 ?_
      refine lv_topi (fun x104 ex104 => ?_)
      have ezx104 := ex104
      have ex104 : x104.toInt = (2 : Int) * f155_0_9.toInt := by rw [ex104]; exact wk_mul (show (-2147483648) ≤ (2 : Int) * f155_0_9.toInt by omega) (show (2 : Int) * f155_0_9.toInt ≤ 2147483647 by omega)
      replace hM := hM.lt ex104.symm
      refine lv_icmp_ge (tgt := 187) hx hb dX12_town_162 (by decide) (fun c105 => ?_) (fun c105 => ?_)
      · have c105 : x104.toInt ≤ v155_2.toInt := wk_le.mp c105
        replace hM := hM.pos c105
        refine lv_iconst (v := 0) hx hb dX12_town_187 (by decide) ?_
        refine lv_istore_n (lv' := [(2, .int 0), (0, .ref (ad 0)), (1, .int v155_1)]) hx hb dX12_town_188 rfl hl (by decide) rfl (fun ls hl => ?_)
        exact L189 ((12 - (0 : Int)).toNat + 1) v155_1 0 f155_0_10 f155_0_20 f155_0_7 f155_0_8 f155_0_9 f155_12_0 f155_12_1 f155_12_2 f155_12_3 f155_12_9 H locs ls w65 (show 0 ≤ v155_1.toInt by omega) (by decide) (by decide) (show 0 ≤ f155_0_10.toInt by omega) (show f155_0_10.toInt ≤ 4 by omega) (show 0 ≤ f155_0_20.toInt by omega) (show f155_0_20.toInt ≤ 32 by omega) (show 0 ≤ f155_0_7.toInt by omega) (show f155_0_7.toInt ≤ 10 by omega) (show 0 ≤ f155_0_8.toInt by omega) (show f155_0_8.toInt ≤ 12 by omega) (show 0 ≤ f155_0_9.toInt by omega) (show f155_0_9.toInt ≤ 8 by omega) (show 0 ≤ f155_12_0.toInt by omega) (show f155_12_0.toInt ≤ 10 by omega) (show 0 ≤ f155_12_1.toInt by omega) (show f155_12_1.toInt ≤ 12 by omega) (show 0 ≤ f155_12_2.toInt by omega) (show f155_12_2.toInt ≤ 8 by omega) (show 0 ≤ f155_12_3.toInt by omega) (show f155_12_3.toInt ≤ 4 by omega) (show 0 ≤ f155_12_9.toInt by omega) (Nat.lt_succ_self _) hw hT hF c69 c72 c73 c74 c75 c78 c81 c84 c87 c90 c93 c96 c99 c101 hM (lv_sub hl [1, 2, 0] rfl)
      · have c105 : v155_2.toInt < x104.toInt := wk_leF c105
        replace hM := hM.neg (Int.not_le.mpr c105)
        refine lv_aload_n hx hb dX12_town_165 rfl (lv_at hl 0 rfl) ?_
        refine tk_getA hC hK hw hT hinX12 kM_at0 (by decide) rfl 26 (by decide) (List.mem_of_getElem? (i := 7) rfl) rfl rfl dX12_town_166 ?_
        refine lv_sipush (v := 140) hx hb dX12_town_169 (by decide) ?_
        refine lv_iload_n hx hb dX12_town_172 rfl (lv_at hl 2 rfl) ?_
        refine lv_iadd hx hb dX12_town_173 ?_
        refine lv_topi (fun x106 ex106 => ?_)
        have ezx106 := ex106
        have ex106 : x106.toInt = (140 : Int) + v155_2.toInt := by rw [ex106]; exact wk_add (show (-2147483648) ≤ (140 : Int) + v155_2.toInt by omega) (show (140 : Int) + v155_2.toInt ≤ 2147483647 by omega)
        replace hM := hM.lt ex106.symm
        refine lv_aload_n hx hb dX12_town_174 rfl (lv_at hl 0 rfl) ?_
        refine tk_getA hC hK hw hT hinX12 kM_at0 (by decide) rfl 12 (by decide) (List.mem_of_getElem? (i := 9) rfl) rfl rfl dX12_town_175 ?_
        refine lv_iload_n hx hb dX12_town_178 rfl (lv_at hl 2 rfl) ?_
        refine tk_iald hC hK hw hT kM_at7 rfl rfl (show 0 ≤ v155_2.toInt by omega) (show v155_2.toInt < 16 by omega) dX12_town_179 (fun x107 c108 rx107 tx107 => ?_)
        have hox107 := c108
        replace hM := hM.rd (sI_at hox107)
        refine tk_iastR hC hK hw hT kM_at12 (by decide) rfl (show 0 ≤ x106.toInt by omega) (show x106.toInt < 296 by omega) (tk_rgS rfl 140 1 16 (-2147483648) 2147483647 (by decide +kernel) ⟨(v155_2.toInt - 0).toNat, by omega, show x106.toInt.toNat = 140 + 1 * (v155_2.toInt - 0).toNat by omega⟩ (wk_i32 x107).1 (wk_i32 x107).2) dX12_town_180 (fun H locs w109 hw hT k111 c110 => ?_)
        replace hM := hM.wr (sI_up k111 c110)
        have hF := hF.put kM_at12 (inE_of (a := 140) (b := 155) (by decide) (show 140 ≤ x106.toInt.toNat by omega) (show x106.toInt.toNat ≤ 155 by omega)) k111
        have c112 := k111.gi (Or.inl (tk_ne kM_at0 kM_at12 (by decide))) c69
        have c113 := k111.gi (Or.inl (tk_ne kM_at0 kM_at12 (by decide))) c72
        have c114 := k111.gi (Or.inl (tk_ne kM_at0 kM_at12 (by decide))) c73
        have c115 := k111.gi (Or.inl (tk_ne kM_at0 kM_at12 (by decide))) c74
        have c116 := k111.gi (Or.inl (tk_ne kM_at0 kM_at12 (by decide))) c75
        have c117 := k111.gi (Or.inl (tk_ne kM_at0 kM_at12 (by decide))) c78
        have c118 := k111.gi (Or.inl (tk_ne kM_at0 kM_at12 (by decide))) c81
        have c119 := k111.gi (Or.inl (tk_ne kM_at0 kM_at12 (by decide))) c84
        have c120 := k111.gi (Or.inl (tk_ne kM_at0 kM_at12 (by decide))) c87
        have c121 := k111.gi (Or.inr (show 0 ≠ x106.toInt.toNat by omega)) c90
        have c122 := k111.gi (Or.inr (show 1 ≠ x106.toInt.toNat by omega)) c93
        have c123 := k111.gi (Or.inr (show 2 ≠ x106.toInt.toNat by omega)) c96
        have c124 := k111.gi (Or.inr (show 3 ≠ x106.toInt.toNat by omega)) c99
        have c125 := k111.gi (Or.inr (show 9 ≠ x106.toInt.toNat by omega)) c101
        obtain ⟨x126, ex126⟩ : ∃ y : Int32, y = v155_2 + Int32.ofInt 1 := ⟨_, rfl⟩
        have erx126 := ex126
        refine lv_iinc (v := x126) (lv' := [(2, .int x126), (0, .ref (ad 0)), (1, .int v155_1)]) hx hb dX12_town_181 hl (k := 2) rfl ex126.symm (by decide) rfl (fun ls hl => ?_)
        have ex126 : x126.toInt = v155_2.toInt + 1 := by rw [ex126]; exact wk_add (y := 1) (show -2147483648 ≤ v155_2.toInt + 1 by omega) (show v155_2.toInt + 1 ≤ 2147483647 by omega)
        replace hM := hM.lt ex126.symm
        refine lv_goto (tgt := 155) hx hb dX12_town_184 (by decide) ?_
        exact ih155 v155_1 x126 f155_0_10 f155_0_20 f155_0_7 f155_0_8 f155_0_9 f155_12_0 f155_12_1 f155_12_2 f155_12_3 f155_12_9 H locs ls w109 (show 0 ≤ v155_1.toInt by omega) (show 0 ≤ x126.toInt by omega) (show x126.toInt ≤ 16 by omega) (show 0 ≤ f155_0_10.toInt by omega) (show f155_0_10.toInt ≤ 4 by omega) (show 0 ≤ f155_0_20.toInt by omega) (show f155_0_20.toInt ≤ 32 by omega) (show 0 ≤ f155_0_7.toInt by omega) (show f155_0_7.toInt ≤ 10 by omega) (show 0 ≤ f155_0_8.toInt by omega) (show f155_0_8.toInt ≤ 12 by omega) (show 0 ≤ f155_0_9.toInt by omega) (show f155_0_9.toInt ≤ 8 by omega) (show 0 ≤ f155_12_0.toInt by omega) (show f155_12_0.toInt ≤ 10 by omega) (show 0 ≤ f155_12_1.toInt by omega) (show f155_12_1.toInt ≤ 12 by omega) (show 0 ≤ f155_12_2.toInt by omega) (show f155_12_2.toInt ≤ 8 by omega) (show 0 ≤ f155_12_3.toInt by omega) (show f155_12_3.toInt ≤ 4 by omega) (show 0 ≤ f155_12_9.toInt by omega) (show (16 - x126.toInt).toNat < n155 by omega) hw hT hF c112 c113 c114 c115 c116 c117 c118 c119 c120 c121 c122 c123 c124 c125 hM (lv_sub hl [1, 2, 0] rfl)
  have L121 : ∀ (n121 : Nat) (v121_1 : Int32) (v121_2 : Int32) (f121_0_10 : Int32) (f121_0_20 : Int32) (f121_0_7 : Int32) (f121_0_8 : Int32) (f121_0_9 : Int32) (f121_12_0 : Int32) (f121_12_1 : Int32) (f121_12_2 : Int32) (f121_12_3 : Int32) (f121_12_9 : Int32) (H : Heap) (locs : List Loc) (ls : Array Slot) (w127 : va_W), 0 ≤ v121_1.toInt → 0 ≤ v121_2.toInt → v121_2.toInt ≤ 120 → 0 ≤ f121_0_10.toInt → f121_0_10.toInt ≤ 4 → 0 ≤ f121_0_20.toInt → f121_0_20.toInt ≤ 32 → 0 ≤ f121_0_7.toInt → f121_0_7.toInt ≤ 10 → 0 ≤ f121_0_8.toInt → f121_0_8.toInt ≤ 12 → 0 ≤ f121_0_9.toInt → f121_0_9.toInt ≤ 8 → 0 ≤ f121_12_0.toInt → f121_12_0.toInt ≤ 10 → 0 ≤ f121_12_1.toInt → f121_12_1.toInt ≤ 12 → 0 ≤ f121_12_2.toInt → f121_12_2.toInt ≤ 8 → 0 ≤ f121_12_3.toInt → f121_12_3.toInt ≤ 4 → 0 ≤ f121_12_9.toInt → (120 - v121_2.toInt).toNat < n121 → Wd dC dI A s.heap H locs w127 → TW ksM ad cy B qr 12 w127 → FE ksM [(12, 1, 1), (12, 7, 7), (12, 8, 8), (12, 9, 9), (12, 10, 10), (12, 14, 14), (12, 15, 15), (12, 16, 16), (12, 17, 17), (12, 18, 18), (12, 20, 20), (62, 0, 7), (65, 0, 120), (66, 0, 16), (67, 0, 12), (71, 0, 0), (71, 0, 295), (71, 1, 1), (71, 2, 2), (71, 3, 3), (71, 9, 9), (71, 10, 129), (71, 140, 155), (71, 156, 167)] w0 w127 → gi w127 0 1 = 0 → gi w127 0 10 = f121_0_10 → gi w127 0 15 = 0 → gi w127 0 17 = 6 → gi w127 0 18 = 0 → gi w127 0 20 = f121_0_20 → gi w127 0 7 = f121_0_7 → gi w127 0 8 = f121_0_8 → gi w127 0 9 = f121_0_9 → gi w127 12 0 = f121_12_0 → gi w127 12 1 = f121_12_1 → gi w127 12 2 = f121_12_2 → gi w127 12 3 = f121_12_3 → gi w127 12 9 = f121_12_9 → TT (fun n => m_X12_town n 0 (sI w0)) (fun n => j_X12_town 0 n 121 [v121_2.toInt] (sI w127)) → lv_has ls 3 [(0, .ref (ad 0)), (1, .int v121_1), (2, .int v121_2)] → W p l e ({ frames := 7, cells := 0, slots := 0, locals := 149 }) s m (List.toArray [.ref (ad 0)]) below meth c H locs 0 0 (MQ below (va_Qi (Pz_X12_town_1 ad cy B qr s1  w0) (fun u : va_W => wpost dC dI cy A u) A) (List.toArray [.ref (ad 0)]) s 0 0 A) (F0 m 121 ls []) := by
    intro n121
    induction n121 with
    | zero => intro v121_1 v121_2 f121_0_10 f121_0_20 f121_0_7 f121_0_8 f121_0_9 f121_12_0 f121_12_1 f121_12_2 f121_12_3 f121_12_9 H locs ls w127 r128 r129 t130 r132 t133 r138 t139 r141 t142 r144 t145 r147 t148 r150 t151 r153 t154 r156 t157 r159 t160 r162 hm121 hw hT hF c131 c134 c135 c136 c137 c140 c143 c146 c149 c152 c155 c158 c161 c163 hM hl; omega
    | succ n121 ih121 =>
      intro v121_1 v121_2 f121_0_10 f121_0_20 f121_0_7 f121_0_8 f121_0_9 f121_12_0 f121_12_1 f121_12_2 f121_12_3 f121_12_9 H locs ls w127 r128 r129 t130 r132 t133 r138 t139 r141 t142 r144 t145 r147 t148 r150 t151 r153 t154 r156 t157 r159 t160 r162 hm121 hw hT hF c131 c134 c135 c136 c137 c140 c143 c146 c149 c152 c155 c158 c161 c163 hM hl
      replace hM := hM.suc (fun _ => e_X12_town_121)
      refine lv_iload_n hx hb dX12_town_121 rfl (lv_at hl 2 rfl) ?_
      refine lv_bipush (v := 10) hx hb dX12_town_122 (by decide) ?_
      refine lv_aload_n hx hb dX12_town_124 rfl (lv_at hl 0 rfl) ?_
      refine tk_geti hC hK hw hT hinX12 kM_at0 (by decide) rfl 8 (by decide) (List.mem_of_getElem? (i := 3) rfl) rfl rfl dX12_town_125 (fun x164 c165 rx164 tx164 => ?_)
      refine wk_top f121_0_8 (c165.symm.trans c146) ?_
      replace hM := hM.rd (sI_at c146)
      refine lv_imul hx hb dX12_town_128 ?_
      refine lv_topi (fun x166 ex166 => ?_)
      have ezx166 := ex166
      have ex166 : x166.toInt = (10 : Int) * f121_0_8.toInt := by rw [ex166]; exact wk_mul (show (-2147483648) ≤ (10 : Int) * f121_0_8.toInt by omega) (show (10 : Int) * f121_0_8.toInt ≤ 2147483647 by omega)
      replace hM := hM.lt ex166.symm
      refine lv_icmp_ge (tgt := 153) hx hb dX12_town_129 (by decide) (fun c167 => ?_) (fun c167 => ?_)
      · have c167 : x166.toInt ≤ v121_2.toInt := wk_le.mp c167
        replace hM := hM.pos c167
        refine lv_iconst (v := 0) hx hb dX12_town_153 (by decide) ?_
        refine lv_istore_n (lv' := [(2, .int 0), (0, .ref (ad 0)), (1, .int v121_1)]) hx hb dX12_town_154 rfl hl (by decide) rfl (fun ls hl => ?_)
        exact L155 ((16 - (0 : Int)).toNat + 1) v121_1 0 f121_0_10 f121_0_20 f121_0_7 f121_0_8 f121_0_9 f121_12_0 f121_12_1 f121_12_2 f121_12_3 f121_12_9 H locs ls w127 (show 0 ≤ v121_1.toInt by omega) (by decide) (by decide) (show 0 ≤ f121_0_10.toInt by omega) (show f121_0_10.toInt ≤ 4 by omega) (show 0 ≤ f121_0_20.toInt by omega) (show f121_0_20.toInt ≤ 32 by omega) (show 0 ≤ f121_0_7.toInt by omega) (show f121_0_7.toInt ≤ 10 by omega) (show 0 ≤ f121_0_8.toInt by omega) (show f121_0_8.toInt ≤ 12 by omega) (show 0 ≤ f121_0_9.toInt by omega) (show f121_0_9.toInt ≤ 8 by omega) (show 0 ≤ f121_12_0.toInt by omega) (show f121_12_0.toInt ≤ 10 by omega) (show 0 ≤ f121_12_1.toInt by omega) (show f121_12_1.toInt ≤ 12 by omega) (show 0 ≤ f121_12_2.toInt by omega) (show f121_12_2.toInt ≤ 8 by omega) (show 0 ≤ f121_12_3.toInt by omega) (show f121_12_3.toInt ≤ 4 by omega) (show 0 ≤ f121_12_9.toInt by omega) (Nat.lt_succ_self _) hw hT hF c131 c134 c135 c136 c137 c140 c143 c146 c149 c152 c155 c158 c161 c163 hM (lv_sub hl [1, 2, 0] rfl)
      · have c167 : v121_2.toInt < x166.toInt := wk_leF c167
        replace hM := hM.neg (Int.not_le.mpr c167)
        refine lv_aload_n hx hb dX12_town_132 rfl (lv_at hl 0 rfl) ?_
        refine tk_getA hC hK hw hT hinX12 kM_at0 (by decide) rfl 26 (by decide) (List.mem_of_getElem? (i := 7) rfl) rfl rfl dX12_town_133 ?_
        refine lv_bipush (v := 10) hx hb dX12_town_136 (by decide) ?_
        refine lv_iload_n hx hb dX12_town_138 rfl (lv_at hl 2 rfl) ?_
        refine lv_iadd hx hb dX12_town_139 ?_
        refine lv_topi (fun x168 ex168 => ?_)
        have ezx168 := ex168
        have ex168 : x168.toInt = (10 : Int) + v121_2.toInt := by rw [ex168]; exact wk_add (show (-2147483648) ≤ (10 : Int) + v121_2.toInt by omega) (show (10 : Int) + v121_2.toInt ≤ 2147483647 by omega)
        replace hM := hM.lt ex168.symm
        refine lv_aload_n hx hb dX12_town_140 rfl (lv_at hl 0 rfl) ?_
        refine tk_getA hC hK hw hT hinX12 kM_at0 (by decide) rfl 11 (by decide) (List.mem_of_getElem? (i := 8) rfl) rfl rfl dX12_town_141 ?_
        refine lv_iload_n hx hb dX12_town_144 rfl (lv_at hl 2 rfl) ?_
        refine tk_iald hC hK hw hT kM_at6 rfl rfl (show 0 ≤ v121_2.toInt by omega) (show v121_2.toInt < 120 by omega) dX12_town_145 (fun x169 c170 rx169 tx169 => ?_)
        have hox169 := c170
        replace hM := hM.rd (sI_at hox169)
        refine tk_iastR hC hK hw hT kM_at12 (by decide) rfl (show 0 ≤ x168.toInt by omega) (show x168.toInt < 296 by omega) (tk_rgS rfl 10 1 120 0 9 (by decide +kernel) ⟨(v121_2.toInt - 0).toNat, by omega, show x168.toInt.toNat = 10 + 1 * (v121_2.toInt - 0).toNat by omega⟩ (show 0 ≤ x169.toInt by omega) (show x169.toInt ≤ 9 by omega)) dX12_town_146 (fun H locs w171 hw hT k173 c172 => ?_)
        replace hM := hM.wr (sI_up k173 c172)
        have hF := hF.put kM_at12 (inE_of (a := 10) (b := 129) (by decide) (show 10 ≤ x168.toInt.toNat by omega) (show x168.toInt.toNat ≤ 129 by omega)) k173
        have c174 := k173.gi (Or.inl (tk_ne kM_at0 kM_at12 (by decide))) c131
        have c175 := k173.gi (Or.inl (tk_ne kM_at0 kM_at12 (by decide))) c134
        have c176 := k173.gi (Or.inl (tk_ne kM_at0 kM_at12 (by decide))) c135
        have c177 := k173.gi (Or.inl (tk_ne kM_at0 kM_at12 (by decide))) c136
        have c178 := k173.gi (Or.inl (tk_ne kM_at0 kM_at12 (by decide))) c137
        have c179 := k173.gi (Or.inl (tk_ne kM_at0 kM_at12 (by decide))) c140
        have c180 := k173.gi (Or.inl (tk_ne kM_at0 kM_at12 (by decide))) c143
        have c181 := k173.gi (Or.inl (tk_ne kM_at0 kM_at12 (by decide))) c146
        have c182 := k173.gi (Or.inl (tk_ne kM_at0 kM_at12 (by decide))) c149
        have c183 := k173.gi (Or.inr (show 0 ≠ x168.toInt.toNat by omega)) c152
        have c184 := k173.gi (Or.inr (show 1 ≠ x168.toInt.toNat by omega)) c155
        have c185 := k173.gi (Or.inr (show 2 ≠ x168.toInt.toNat by omega)) c158
        have c186 := k173.gi (Or.inr (show 3 ≠ x168.toInt.toNat by omega)) c161
        have c187 := k173.gi (Or.inr (show 9 ≠ x168.toInt.toNat by omega)) c163
        obtain ⟨x188, ex188⟩ : ∃ y : Int32, y = v121_2 + Int32.ofInt 1 := ⟨_, rfl⟩
        have erx188 := ex188
        refine lv_iinc (v := x188) (lv' := [(2, .int x188), (0, .ref (ad 0)), (1, .int v121_1)]) hx hb dX12_town_147 hl (k := 2) rfl ex188.symm (by decide) rfl (fun ls hl => ?_)
        have ex188 : x188.toInt = v121_2.toInt + 1 := by rw [ex188]; exact wk_add (y := 1) (show -2147483648 ≤ v121_2.toInt + 1 by omega) (show v121_2.toInt + 1 ≤ 2147483647 by omega)
        replace hM := hM.lt ex188.symm
        refine lv_goto (tgt := 121) hx hb dX12_town_150 (by decide) ?_
        exact ih121 v121_1 x188 f121_0_10 f121_0_20 f121_0_7 f121_0_8 f121_0_9 f121_12_0 f121_12_1 f121_12_2 f121_12_3 f121_12_9 H locs ls w171 (show 0 ≤ v121_1.toInt by omega) (show 0 ≤ x188.toInt by omega) (show x188.toInt ≤ 120 by omega) (show 0 ≤ f121_0_10.toInt by omega) (show f121_0_10.toInt ≤ 4 by omega) (show 0 ≤ f121_0_20.toInt by omega) (show f121_0_20.toInt ≤ 32 by omega) (show 0 ≤ f121_0_7.toInt by omega) (show f121_0_7.toInt ≤ 10 by omega) (show 0 ≤ f121_0_8.toInt by omega) (show f121_0_8.toInt ≤ 12 by omega) (show 0 ≤ f121_0_9.toInt by omega) (show f121_0_9.toInt ≤ 8 by omega) (show 0 ≤ f121_12_0.toInt by omega) (show f121_12_0.toInt ≤ 10 by omega) (show 0 ≤ f121_12_1.toInt by omega) (show f121_12_1.toInt ≤ 12 by omega) (show 0 ≤ f121_12_2.toInt by omega) (show f121_12_2.toInt ≤ 8 by omega) (show 0 ≤ f121_12_3.toInt by omega) (show f121_12_3.toInt ≤ 4 by omega) (show 0 ≤ f121_12_9.toInt by omega) (show (120 - x188.toInt).toNat < n121 by omega) hw hT hF c174 c175 c176 c177 c178 c179 c180 c181 c182 c183 c184 c185 c186 c187 hM (lv_sub hl [1, 2, 0] rfl)
  have L51 : ∀ (n51 : Nat) (v51_1 : Int32) (v51_2 : Int32) (f51_0_20 : Int32) (H : Heap) (locs : List Loc) (ls : Array Slot) (w189 : va_W), 0 ≤ v51_1.toInt → 0 ≤ v51_2.toInt → v51_2.toInt ≤ 296 → 0 ≤ f51_0_20.toInt → f51_0_20.toInt ≤ 32 → (296 - v51_2.toInt).toNat < n51 → Wd dC dI A s.heap H locs w189 → TW ksM ad cy B qr 12 w189 → FE ksM [(12, 1, 1), (12, 7, 7), (12, 8, 8), (12, 9, 9), (12, 10, 10), (12, 14, 14), (12, 15, 15), (12, 16, 16), (12, 17, 17), (12, 18, 18), (12, 20, 20), (62, 0, 7), (65, 0, 120), (66, 0, 16), (67, 0, 12), (71, 0, 0), (71, 0, 295), (71, 1, 1), (71, 2, 2), (71, 3, 3), (71, 9, 9), (71, 10, 129), (71, 140, 155), (71, 156, 167)] w0 w189 → gi w189 0 1 = 0 → gi w189 0 15 = 0 → gi w189 0 17 = 6 → gi w189 0 18 = 0 → gi w189 0 20 = f51_0_20 → TT (fun n => m_X12_town n 0 (sI w0)) (fun n => j_X12_town 0 n 51 [v51_1.toInt, v51_2.toInt] (sI w189)) → lv_has ls 3 [(0, .ref (ad 0)), (1, .int v51_1), (2, .int v51_2)] → W p l e ({ frames := 7, cells := 0, slots := 0, locals := 149 }) s m (List.toArray [.ref (ad 0)]) below meth c H locs 0 0 (MQ below (va_Qi (Pz_X12_town_1 ad cy B qr s1  w0) (fun u : va_W => wpost dC dI cy A u) A) (List.toArray [.ref (ad 0)]) s 0 0 A) (F0 m 51 ls []) := by
    intro n51
    induction n51 with
    | zero => intro v51_1 v51_2 f51_0_20 H locs ls w189 r190 r191 t192 r197 t198 hm51 hw hT hF c193 c194 c195 c196 c199 hM hl; omega
    | succ n51 ih51 =>
      intro v51_1 v51_2 f51_0_20 H locs ls w189 r190 r191 t192 r197 t198 hm51 hw hT hF c193 c194 c195 c196 c199 hM hl
      replace hM := hM.suc (fun _ => e_X12_town_51)
      refine lv_iload_n hx hb dX12_town_51 rfl (lv_at hl 2 rfl) ?_
      refine lv_sipush (v := 296) hx hb dX12_town_52 (by decide) ?_
      refine lv_icmp_ge (tgt := 71) hx hb dX12_town_55 (by decide) (fun c200 => ?_) (fun c200 => ?_)
      · have c200 : (296 : Int) ≤ v51_2.toInt := wk_le.mp c200
        replace hM := hM.pos c200
        refine lv_aload_n hx hb dX12_town_71 rfl (lv_at hl 0 rfl) ?_
        refine tk_getA hC hK hw hT hinX12 kM_at0 (by decide) rfl 26 (by decide) (List.mem_of_getElem? (i := 7) rfl) rfl rfl dX12_town_72 ?_
        refine lv_iconst (v := 0) hx hb dX12_town_75 (by decide) ?_
        refine lv_aload_n hx hb dX12_town_76 rfl (lv_at hl 0 rfl) ?_
        refine tk_geti hC hK hw hT hinX12 kM_at0 (by decide) rfl 7 (by decide) (List.mem_of_getElem? (i := 2) rfl) rfl rfl dX12_town_77 (fun x201 c202 rx201 tx201 => ?_)
        replace hM := hM.rd (sI_at c202)
        refine tk_iastR hC hK hw hT kM_at12 (by decide) rfl (by decide) (by decide) (tk_rgS rfl 0 1 1 0 10 (by decide +kernel) ⟨0, by decide, by decide⟩ (show 0 ≤ x201.toInt by omega) (show x201.toInt ≤ 10 by omega)) dX12_town_80 (fun H locs w203 hw hT k205 c204 => ?_)
        replace hM := hM.wr (sI_up k205 c204)
        have hF := hF.put kM_at12 (inE_of (a := 0) (b := 0) (by decide) (by decide) (by decide)) k205
        have c206 := k205.gi (Or.inl (tk_ne kM_at0 kM_at12 (by decide))) c193
        have c207 := k205.gi (Or.inl (tk_ne kM_at0 kM_at12 (by decide))) c194
        have c208 := k205.gi (Or.inl (tk_ne kM_at0 kM_at12 (by decide))) c195
        have c209 := k205.gi (Or.inl (tk_ne kM_at0 kM_at12 (by decide))) c196
        have c210 := k205.gi (Or.inl (tk_ne kM_at0 kM_at12 (by decide))) c199
        have c211 := k205.gi (Or.inl (tk_ne kM_at0 kM_at12 (by decide))) c202
        have c204 : gi w203 12 0 = x201 := c204
        refine lv_aload_n hx hb dX12_town_81 rfl (lv_at hl 0 rfl) ?_
        refine tk_getA hC hK hw hT hinX12 kM_at0 (by decide) rfl 26 (by decide) (List.mem_of_getElem? (i := 7) rfl) rfl rfl dX12_town_82 ?_
        refine lv_iconst (v := 1) hx hb dX12_town_85 (by decide) ?_
        refine lv_aload_n hx hb dX12_town_86 rfl (lv_at hl 0 rfl) ?_
        refine tk_geti hC hK hw hT hinX12 kM_at0 (by decide) rfl 8 (by decide) (List.mem_of_getElem? (i := 3) rfl) rfl rfl dX12_town_87 (fun x212 c213 rx212 tx212 => ?_)
        replace hM := hM.rd (sI_at c213)
        refine tk_iastR hC hK hw hT kM_at12 (by decide) rfl (by decide) (by decide) ((tk_rg1 rfl).mpr ⟨(show 0 ≤ x212.toInt by omega), (show x212.toInt ≤ if (71 : Nat) = 71 then (12 : Int) else 12 from (show x212.toInt ≤ 12 by omega))⟩) dX12_town_90 (fun H locs w214 hw hT k216 c215 => ?_)
        replace hM := hM.wr (sI_up k216 c215)
        have hF := hF.put kM_at12 (inE_of (a := 1) (b := 1) (by decide) (by decide) (by decide)) k216
        have c217 := k216.gi (Or.inl (tk_ne kM_at0 kM_at12 (by decide))) c206
        have c218 := k216.gi (Or.inl (tk_ne kM_at0 kM_at12 (by decide))) c207
        have c219 := k216.gi (Or.inl (tk_ne kM_at0 kM_at12 (by decide))) c208
        have c220 := k216.gi (Or.inl (tk_ne kM_at0 kM_at12 (by decide))) c209
        have c221 := k216.gi (Or.inl (tk_ne kM_at0 kM_at12 (by decide))) c210
        have c222 := k216.gi (Or.inl (tk_ne kM_at0 kM_at12 (by decide))) c211
        have c223 := k216.gi (Or.inr (by decide)) c204
        have c224 := k216.gi (Or.inl (tk_ne kM_at0 kM_at12 (by decide))) c213
        have c215 : gi w214 12 1 = x212 := c215
        refine lv_aload_n hx hb dX12_town_91 rfl (lv_at hl 0 rfl) ?_
        refine tk_getA hC hK hw hT hinX12 kM_at0 (by decide) rfl 26 (by decide) (List.mem_of_getElem? (i := 7) rfl) rfl rfl dX12_town_92 ?_
        refine lv_iconst (v := 2) hx hb dX12_town_95 (by decide) ?_
        refine lv_aload_n hx hb dX12_town_96 rfl (lv_at hl 0 rfl) ?_
        refine tk_geti hC hK hw hT hinX12 kM_at0 (by decide) rfl 9 (by decide) (List.mem_of_getElem? (i := 4) rfl) rfl rfl dX12_town_97 (fun x225 c226 rx225 tx225 => ?_)
        replace hM := hM.rd (sI_at c226)
        refine tk_iastR hC hK hw hT kM_at12 (by decide) rfl (by decide) (by decide) (tk_rgS rfl 2 1 1 0 8 (by decide +kernel) ⟨0, by decide, by decide⟩ (show 0 ≤ x225.toInt by omega) (show x225.toInt ≤ 8 by omega)) dX12_town_100 (fun H locs w227 hw hT k229 c228 => ?_)
        replace hM := hM.wr (sI_up k229 c228)
        have hF := hF.put kM_at12 (inE_of (a := 2) (b := 2) (by decide) (by decide) (by decide)) k229
        have c230 := k229.gi (Or.inl (tk_ne kM_at0 kM_at12 (by decide))) c217
        have c231 := k229.gi (Or.inl (tk_ne kM_at0 kM_at12 (by decide))) c218
        have c232 := k229.gi (Or.inl (tk_ne kM_at0 kM_at12 (by decide))) c219
        have c233 := k229.gi (Or.inl (tk_ne kM_at0 kM_at12 (by decide))) c220
        have c234 := k229.gi (Or.inl (tk_ne kM_at0 kM_at12 (by decide))) c221
        have c235 := k229.gi (Or.inl (tk_ne kM_at0 kM_at12 (by decide))) c222
        have c236 := k229.gi (Or.inr (by decide)) c223
        have c237 := k229.gi (Or.inl (tk_ne kM_at0 kM_at12 (by decide))) c224
        have c238 := k229.gi (Or.inr (by decide)) c215
        have c239 := k229.gi (Or.inl (tk_ne kM_at0 kM_at12 (by decide))) c226
        have c228 : gi w227 12 2 = x225 := c228
        refine lv_aload_n hx hb dX12_town_101 rfl (lv_at hl 0 rfl) ?_
        refine tk_getA hC hK hw hT hinX12 kM_at0 (by decide) rfl 26 (by decide) (List.mem_of_getElem? (i := 7) rfl) rfl rfl dX12_town_102 ?_
        refine lv_iconst (v := 3) hx hb dX12_town_105 (by decide) ?_
        refine lv_aload_n hx hb dX12_town_106 rfl (lv_at hl 0 rfl) ?_
        refine tk_geti hC hK hw hT hinX12 kM_at0 (by decide) rfl 10 (by decide) (List.mem_of_getElem? (i := 5) rfl) rfl rfl dX12_town_107 (fun x240 c241 rx240 tx240 => ?_)
        replace hM := hM.rd (sI_at c241)
        refine tk_iastR hC hK hw hT kM_at12 (by decide) rfl (by decide) (by decide) (tk_rgS rfl 3 1 1 0 4 (by decide +kernel) ⟨0, by decide, by decide⟩ (show 0 ≤ x240.toInt by omega) (show x240.toInt ≤ 4 by omega)) dX12_town_110 (fun H locs w242 hw hT k244 c243 => ?_)
        replace hM := hM.wr (sI_up k244 c243)
        have hF := hF.put kM_at12 (inE_of (a := 3) (b := 3) (by decide) (by decide) (by decide)) k244
        have c245 := k244.gi (Or.inl (tk_ne kM_at0 kM_at12 (by decide))) c230
        have c246 := k244.gi (Or.inl (tk_ne kM_at0 kM_at12 (by decide))) c231
        have c247 := k244.gi (Or.inl (tk_ne kM_at0 kM_at12 (by decide))) c232
        have c248 := k244.gi (Or.inl (tk_ne kM_at0 kM_at12 (by decide))) c233
        have c249 := k244.gi (Or.inl (tk_ne kM_at0 kM_at12 (by decide))) c234
        have c250 := k244.gi (Or.inl (tk_ne kM_at0 kM_at12 (by decide))) c235
        have c251 := k244.gi (Or.inr (by decide)) c236
        have c252 := k244.gi (Or.inl (tk_ne kM_at0 kM_at12 (by decide))) c237
        have c253 := k244.gi (Or.inr (by decide)) c238
        have c254 := k244.gi (Or.inl (tk_ne kM_at0 kM_at12 (by decide))) c239
        have c255 := k244.gi (Or.inr (by decide)) c228
        have c256 := k244.gi (Or.inl (tk_ne kM_at0 kM_at12 (by decide))) c241
        have c243 : gi w242 12 3 = x240 := c243
        refine lv_aload_n hx hb dX12_town_111 rfl (lv_at hl 0 rfl) ?_
        refine tk_getA hC hK hw hT hinX12 kM_at0 (by decide) rfl 26 (by decide) (List.mem_of_getElem? (i := 7) rfl) rfl rfl dX12_town_112 ?_
        refine lv_bipush (v := 9) hx hb dX12_town_115 (by decide) ?_
        refine lv_iload_n hx hb dX12_town_117 rfl (lv_at hl 1 rfl) ?_
        refine tk_iastR hC hK hw hT kM_at12 (by decide) rfl (by decide) (by decide) (tk_rgS rfl 9 1 1 0 2147483647 (by decide +kernel) ⟨0, by decide, by decide⟩ (show 0 ≤ v51_1.toInt by omega) (wk_i32 v51_1).2) dX12_town_118 (fun H locs w257 hw hT k259 c258 => ?_)
        replace hM := hM.wr (sI_up k259 c258)
        have hF := hF.put kM_at12 (inE_of (a := 9) (b := 9) (by decide) (by decide) (by decide)) k259
        have c260 := k259.gi (Or.inl (tk_ne kM_at0 kM_at12 (by decide))) c245
        have c261 := k259.gi (Or.inl (tk_ne kM_at0 kM_at12 (by decide))) c246
        have c262 := k259.gi (Or.inl (tk_ne kM_at0 kM_at12 (by decide))) c247
        have c263 := k259.gi (Or.inl (tk_ne kM_at0 kM_at12 (by decide))) c248
        have c264 := k259.gi (Or.inl (tk_ne kM_at0 kM_at12 (by decide))) c249
        have c265 := k259.gi (Or.inl (tk_ne kM_at0 kM_at12 (by decide))) c250
        have c266 := k259.gi (Or.inr (by decide)) c251
        have c267 := k259.gi (Or.inl (tk_ne kM_at0 kM_at12 (by decide))) c252
        have c268 := k259.gi (Or.inr (by decide)) c253
        have c269 := k259.gi (Or.inl (tk_ne kM_at0 kM_at12 (by decide))) c254
        have c270 := k259.gi (Or.inr (by decide)) c255
        have c271 := k259.gi (Or.inl (tk_ne kM_at0 kM_at12 (by decide))) c256
        have c272 := k259.gi (Or.inr (by decide)) c243
        have c258 : gi w257 12 9 = v51_1 := c258
        refine lv_iconst (v := 0) hx hb dX12_town_119 (by decide) ?_
        refine lv_istore_n (lv' := [(2, .int 0), (0, .ref (ad 0)), (1, .int v51_1)]) hx hb dX12_town_120 rfl hl (by decide) rfl (fun ls hl => ?_)
        exact L121 ((120 - (0 : Int)).toNat + 1) v51_1 0 x240 f51_0_20 x201 x212 x225 x201 x212 x225 x240 v51_1 H locs ls w257 (show 0 ≤ v51_1.toInt by omega) (by decide) (by decide) (show 0 ≤ x240.toInt by omega) (show x240.toInt ≤ 4 by omega) (show 0 ≤ f51_0_20.toInt by omega) (show f51_0_20.toInt ≤ 32 by omega) (show 0 ≤ x201.toInt by omega) (show x201.toInt ≤ 10 by omega) (show 0 ≤ x212.toInt by omega) (show x212.toInt ≤ 12 by omega) (show 0 ≤ x225.toInt by omega) (show x225.toInt ≤ 8 by omega) (show 0 ≤ x201.toInt by omega) (show x201.toInt ≤ 10 by omega) (show 0 ≤ x212.toInt by omega) (show x212.toInt ≤ 12 by omega) (show 0 ≤ x225.toInt by omega) (show x225.toInt ≤ 8 by omega) (show 0 ≤ x240.toInt by omega) (show x240.toInt ≤ 4 by omega) (show 0 ≤ v51_1.toInt by omega) (Nat.lt_succ_self _) hw hT hF c260 c271 c261 c262 c263 c264 c265 c267 c269 c266 c268 c270 c272 c258 hM (lv_sub hl [1, 2, 0] rfl)
      · have c200 : v51_2.toInt < (296 : Int) := wk_leF c200
        replace hM := hM.neg (Int.not_le.mpr c200)
        refine lv_aload_n hx hb dX12_town_58 rfl (lv_at hl 0 rfl) ?_
        refine tk_getA hC hK hw hT hinX12 kM_at0 (by decide) rfl 26 (by decide) (List.mem_of_getElem? (i := 7) rfl) rfl rfl dX12_town_59 ?_
        refine lv_iload_n hx hb dX12_town_62 rfl (lv_at hl 2 rfl) ?_
        refine lv_iconst (v := 0) hx hb dX12_town_63 (by decide) ?_
        refine tk_iastR hC hK hw hT kM_at12 (by decide) rfl (show 0 ≤ v51_2.toInt by omega) (show v51_2.toInt < 296 by omega) (tk_rg0 rfl (show 0 ≤ B by omega) (by decide)) dX12_town_64 (fun H locs w273 hw hT k275 c274 => ?_)
        replace hM := hM.wr (sI_upc k275 c274 (by decide))
        have hF := hF.put kM_at12 (inE_of (a := 0) (b := 295) (by decide) (show 0 ≤ v51_2.toInt.toNat by omega) (show v51_2.toInt.toNat ≤ 295 by omega)) k275
        have c276 := k275.gi (Or.inl (tk_ne kM_at0 kM_at12 (by decide))) c193
        have c277 := k275.gi (Or.inl (tk_ne kM_at0 kM_at12 (by decide))) c194
        have c278 := k275.gi (Or.inl (tk_ne kM_at0 kM_at12 (by decide))) c195
        have c279 := k275.gi (Or.inl (tk_ne kM_at0 kM_at12 (by decide))) c196
        have c280 := k275.gi (Or.inl (tk_ne kM_at0 kM_at12 (by decide))) c199
        obtain ⟨x281, ex281⟩ : ∃ y : Int32, y = v51_2 + Int32.ofInt 1 := ⟨_, rfl⟩
        have erx281 := ex281
        refine lv_iinc (v := x281) (lv' := [(2, .int x281), (0, .ref (ad 0)), (1, .int v51_1)]) hx hb dX12_town_65 hl (k := 2) rfl ex281.symm (by decide) rfl (fun ls hl => ?_)
        have ex281 : x281.toInt = v51_2.toInt + 1 := by rw [ex281]; exact wk_add (y := 1) (show -2147483648 ≤ v51_2.toInt + 1 by omega) (show v51_2.toInt + 1 ≤ 2147483647 by omega)
        replace hM := hM.lt ex281.symm
        refine lv_goto (tgt := 51) hx hb dX12_town_68 (by decide) ?_
        exact ih51 v51_1 x281 f51_0_20 H locs ls w273 (show 0 ≤ v51_1.toInt by omega) (show 0 ≤ x281.toInt by omega) (show x281.toInt ≤ 296 by omega) (show 0 ≤ f51_0_20.toInt by omega) (show f51_0_20.toInt ≤ 32 by omega) (show (296 - x281.toInt).toNat < n51 by omega) hw hT hF c276 c277 c278 c279 c280 hM (lv_sub hl [1, 2, 0] rfl)
  have hM : TT (fun n => m_X12_town n 0 (sI w0)) (fun n => m_X12_town n 0 (sI w0)) := TT.rf
  refine lv_aload_n hx hb dX12_town_0 rfl (lv_at hl 0 rfl) ?_
  refine lv_bipush (v := 6) hx hb dX12_town_1 (by decide) ?_
  refine tk_puti hC hK hw hT hinX12 tyX12_ok nmX12 kM_at0 (by decide) rfl rfl 17 (by decide) (List.mem_of_getElem? (i := 1) rfl) rfl rfl rfl rfl (by decide) (by decide) dX12_town_3 (fun H locs w282 hw hT k284 c283 => ?_)
  replace hM := hM.wr (sI_upc k284 c283 (by decide))
  have hF := hF.put kM_at0 (k := 17) (by decide) k284
  refine lv_aload_n hx hb dX12_town_6 rfl (lv_at hl 0 rfl) ?_
  refine lv_iconst (v := 0) hx hb dX12_town_7 (by decide) ?_
  refine tk_puti hC hK hw hT hinX12 tyX12_ok nmX12 kM_at0 (by decide) rfl rfl 7 (by decide) (List.mem_of_getElem? (i := 2) rfl) rfl rfl rfl rfl (by decide) (by decide) dX12_town_8 (fun H locs w285 hw hT k287 c286 => ?_)
  replace hM := hM.wr (sI_upc k287 c286 (by decide))
  have hF := hF.put kM_at0 (k := 7) (by decide) k287
  have c288 := k287.gi (Or.inr (by decide)) c283
  refine lv_aload_n hx hb dX12_town_11 rfl (lv_at hl 0 rfl) ?_
  refine lv_iconst (v := 0) hx hb dX12_town_12 (by decide) ?_
  refine tk_puti hC hK hw hT hinX12 tyX12_ok nmX12 kM_at0 (by decide) rfl rfl 8 (by decide) (List.mem_of_getElem? (i := 3) rfl) rfl rfl rfl rfl (by decide) (by decide) dX12_town_13 (fun H locs w289 hw hT k291 c290 => ?_)
  replace hM := hM.wr (sI_upc k291 c290 (by decide))
  have hF := hF.put kM_at0 (k := 8) (by decide) k291
  have c292 := k291.gi (Or.inr (by decide)) c288
  have c293 := k291.gi (Or.inr (by decide)) c286
  refine lv_aload_n hx hb dX12_town_16 rfl (lv_at hl 0 rfl) ?_
  refine lv_iconst (v := 0) hx hb dX12_town_17 (by decide) ?_
  refine tk_puti hC hK hw hT hinX12 tyX12_ok nmX12 kM_at0 (by decide) rfl rfl 9 (by decide) (List.mem_of_getElem? (i := 4) rfl) rfl rfl rfl rfl (by decide) (by decide) dX12_town_18 (fun H locs w294 hw hT k296 c295 => ?_)
  replace hM := hM.wr (sI_upc k296 c295 (by decide))
  have hF := hF.put kM_at0 (k := 9) (by decide) k296
  have c297 := k296.gi (Or.inr (by decide)) c292
  have c298 := k296.gi (Or.inr (by decide)) c293
  have c299 := k296.gi (Or.inr (by decide)) c290
  refine lv_aload_n hx hb dX12_town_21 rfl (lv_at hl 0 rfl) ?_
  refine lv_iconst (v := 0) hx hb dX12_town_22 (by decide) ?_
  refine tk_puti hC hK hw hT hinX12 tyX12_ok nmX12 kM_at0 (by decide) rfl rfl 10 (by decide) (List.mem_of_getElem? (i := 5) rfl) rfl rfl rfl rfl (by decide) (by decide) dX12_town_23 (fun H locs w300 hw hT k302 c301 => ?_)
  replace hM := hM.wr (sI_upc k302 c301 (by decide))
  have hF := hF.put kM_at0 (k := 10) (by decide) k302
  have c303 := k302.gi (Or.inr (by decide)) c297
  have c304 := k302.gi (Or.inr (by decide)) c298
  have c305 := k302.gi (Or.inr (by decide)) c299
  have c306 := k302.gi (Or.inr (by decide)) c295
  refine lv_aload_n hx hb dX12_town_26 rfl (lv_at hl 0 rfl) ?_
  obtain ⟨x307, c308, rx307, tx307⟩ := hT.rdi (lo := 0) (hi := 32) (k := 20) kM_at0 (by decide) rfl
  refine tk_Vi hC hK hw hT hA hE hSR kM_at0 (by decide) rfl (kz_X12_readsAll_1 l adK adV dC dI cy ad B (by omega) (by omega) qr s1    w300 H.size hT c303 x307 c308 (show 0 ≤ x307.toInt by omega) (show x307.toInt ≤ 32 by omega)) (cwV 0 hC.2.2.2.2 gX12_town_X12_readsAll rfl rfl rfl (by decide +kernel) ⟨Nat.le_of_ble_eq_true rfl, Nat.le_of_ble_eq_true rfl⟩) rfl hl.1 rfl (Nat.le_of_ble_eq_true rfl) dX12_town_27 (fun r309 w311 H locs hp310 hw => ?_)
  obtain ⟨hT, k312, hv334, hg333⟩ := hp310
  have hF := hF.tr k312 (by decide)
  have c335 := k312.gi kM_at0 (by decide) c303
  rcases hg333 with ⟨rfl, ⟨x313, c314, rx313, tx313⟩, ⟨x315, c316, rx315, tx315⟩, ⟨x317, c318, rx317, tx317⟩, ⟨x319, c320, rx319, tx319⟩, ⟨x321, c322, rx321, tx321⟩⟩ | ⟨rfl, ⟨x323, c324, rx323, tx323⟩, ⟨x325, c326, rx325, tx325⟩, ⟨x327, c328, rx327, tx327⟩, ⟨x329, c330, rx329, tx329⟩, ⟨x331, c332, rx331, tx331⟩⟩
  · replace hM := hM.call (r' := 0) hv334 (by decide)
    have ex317 : x317.toInt = (6 : Int) := by rw [show x317 = 6 from c318.symm.trans c335]; decide
    refine lv_if_ne (tgt := 41) hx hb dX12_town_30 (by decide) (fun c => absurd (by decide) c) (fun _ => ?_)
    replace hM := hM.neg (by decide)
    refine lv_bipush (v := (-2)) hx hb dX12_town_33 (by decide) ?_
    refine lv_aload_n hx hb dX12_town_35 rfl (lv_at hl 0 rfl) ?_
    refine tk_geti hC hK hw hT hinX12 kM_at0 (by decide) rfl 15 (by decide) (List.mem_of_getElem? (i := 6) rfl) rfl rfl dX12_town_36 (fun x336 c337 rx336 tx336 => ?_)
    refine wk_top x315 (c337.symm.trans c316) ?_
    replace hM := hM.rd (sI_at c316)
    refine lv_isub hx hb dX12_town_39 ?_
    refine lv_topi (fun x338 ex338 => ?_)
    have ezx338 := ex338
    have ex338 : x338.toInt = (-2 : Int) - x315.toInt := by rw [ex338]; exact wk_sub (show (-2147483648) ≤ (-2 : Int) - x315.toInt by omega) (show (-2 : Int) - x315.toInt ≤ 2147483647 by omega)
    replace hM := hM.lt ex338.symm
    exact tk_iret hC hr hlocks hK ⟨hT, hF, hM.ret rfl, (Or.inl ⟨(show (-3207) ≤ x338.toInt by omega), (show x338.toInt ≤ (-3) by omega), ⟨x313, c314, (show 0 ≤ x313.toInt by omega), (show x313.toInt ≤ 0 by omega)⟩, ⟨x315, c316, (show 1 ≤ x315.toInt by omega), (show x315.toInt ≤ 3205 by omega)⟩, ⟨6, c335, (by decide), (by decide)⟩, ⟨x319, c320, (show 0 ≤ x319.toInt by omega), (show x319.toInt ≤ 0 by omega)⟩, ⟨x321, c322, (show 0 ≤ x321.toInt by omega), (show x321.toInt ≤ 32 by omega)⟩⟩)⟩ hw dX12_town_40
  · replace hM := hM.call (r' := 1) hv334 (by decide)
    have ex327 : x327.toInt = (6 : Int) := by rw [show x327 = 6 from c328.symm.trans c335]; decide
    refine lv_if_ne (tgt := 41) hx hb dX12_town_30 (by decide) (fun _ => ?_) (fun c => absurd c (by decide))
    replace hM := hM.pos (by decide)
    refine lv_aload_n hx hb dX12_town_41 rfl (lv_at hl 0 rfl) ?_
    refine tk_getA hC hK hw hT hinX12 kM_at0 (by decide) rfl 26 (by decide) (List.mem_of_getElem? (i := 7) rfl) rfl rfl dX12_town_42 ?_
    refine lv_bipush (v := 9) hx hb dX12_town_45 (by decide) ?_
    refine tk_ialdR hC hK hw hT kM_at12 rfl (by decide) (by decide) dX12_town_47 (fun x339 c340 Ex339 => ?_)
    have hox339 := c340
    replace hM := hM.rd (sI_at hox339)
    have bx339 := tk_rgI rfl 9 1 1 0 2147483647 (by decide +kernel) ⟨0, by decide, by decide⟩ Ex339
    have c340 : gi w311 12 9 = x339 := c340
    refine lv_istore_n (lv' := [(1, .int x339), (0, .ref (ad 0))]) hx hb dX12_town_48 rfl hl (by decide) rfl (fun ls hl => ?_)
    refine lv_iconst (v := 0) hx hb dX12_town_49 (by decide) ?_
    refine lv_istore_n (lv' := [(2, .int 0), (1, .int x339), (0, .ref (ad 0))]) hx hb dX12_town_50 rfl hl (by decide) rfl (fun ls hl => ?_)
    obtain rfl : x323 = 0 := wk_eq.mpr (show x323.toInt = 0 by omega)
    obtain rfl : x325 = 0 := wk_eq.mpr (show x325.toInt = 0 by omega)
    obtain rfl : x329 = 0 := wk_eq.mpr (show x329.toInt = 0 by omega)
    try simp only [show (0 : Int32).toInt = 0 by decide] at hM
    try simp only [show (0 : Int32).toInt = 0 by decide] at hM
    try simp only [show (0 : Int32).toInt = 0 by decide] at hM
    exact L51 ((296 - (0 : Int)).toNat + 1) x339 0 x331 H locs ls w311 (show 0 ≤ x339.toInt by omega) (by decide) (by decide) (show 0 ≤ x331.toInt by omega) (show x331.toInt ≤ 32 by omega) (Nat.lt_succ_self _) hw hT hF c324 c326 c335 c330 c332 hM (lv_sub hl [2, 1, 0] rfl)
abbrev Pz_X12_isWord_5 (ad : Nat → Nat) (cy : Nat → ClassId) (B : Int) (qr : Nat) (s1 : Int)  (w0 : va_W) : Int32 → va_W → Prop := fun r u => TW ksM ad cy B qr 12 u ∧ FE ksM [(12, 14, 14)] w0 u ∧ Ev (fun n => m_X12_isWord n 0 26479 (sI w0)) (r.toInt, sI u) ∧ ((r = 0 ∧ (∃ y : Int32, gi u 0 1 = y ∧ 0 ≤ y.toInt ∧ y.toInt ≤ 400) ∧ (((gi u 0 14).toInt = (gi w0 0 14).toInt ∨ (gi w0 1 ((gi w0 0 14).toInt).toNat).toInt = 32))) ∨ (r = 1 ∧ (∃ y : Int32, gi u 0 1 = y ∧ 0 ≤ y.toInt ∧ y.toInt ≤ 400) ∧ (((gi u 0 14).toInt = (gi w0 0 14).toInt ∨ (gi w0 1 ((gi w0 0 14).toInt).toNat).toInt = 32))))
set_option maxHeartbeats 4000000 in
set_option maxRecDepth 100000 in
theorem kz_X12_isWord_5 (l : Launch) (adK adV : Nat → Nat) (dC : Nat → ClassId) (dI : Nat → Nat → Nat) (cy : Nat → ClassId) (ad : Nat → Nat) (B : Int) (hB0 : 100000 ≤ B) (hB1 : B ≤ 1073741824) (qr : Nat) (s1 : Int)   (w0 : va_W) (sz : Nat) (hT : TW ksM ad cy B qr 12 w0) (f0_ : Int32) (cf0_ : gi w0 0 14 = f0_) (rf0_ : 0 ≤ f0_.toInt) (tf0_ : f0_.toInt ≤ 400) : Met l yX12_isWord wsX12_isWord ({ frames := 2, cells := 0, slots := 0, locals := 33 }) (va_Pc [.ref (ad 0), .long 26479] (wpreS adK adV dC dI cy sz w0)) (va_Qi (Pz_X12_isWord_5 ad cy B qr s1  w0) (fun u : va_W => wpost dC dI cy (va_A w0 sz) u) (va_A w0 sz)) 0 0 (va_A w0 sz) := by
  refine Met.ofW (cc := cX12_isWord) (maxL := 6) (ret := (some .boolean)) (by decide) rfl ?_
  intro p e s m args below meth c s₁ Bk hml hv
  obtain ⟨rfl, ⟨hsz, hP, hK, hD0⟩, hE, hSR⟩ := hv
  have hx := Bk.exec
  have hb := Bk.bytes
  have hr := Bk.returns
  have hlocks := Bk.notSynchronized
  have hC : CallFix p m c cX12_isWord 6 s _ wsX12_isWord RX12 := ⟨hx, hb, hml, findClass_of_methodNamed Bk.named, atoms_spec (ws := wsX12_isWord) Bk.pre⟩
  subst hsz
  have hD := hD0.self (sz := s.heap.size)
  generalize hAe : va_A w0 s.heap.size = A at hD hE ⊢
  have hA : ∀ q : Nat, s.heap.size ≤ q → A q := fun q h => by rw [← hAe]; exact Or.inr h
  have hw : Wd dC dI A s.heap s.heap [] w0 := ⟨hP, hD, va_S.rf⟩
  have hF : FE ksM [(12, 14, 14)] w0 w0 := FE.rf
  have hl := lv_entry ([.ref (ad 0), .long 26479]) (n := 6) (Nat.le_of_ble_eq_true rfl)
  rw [lg_entry_eq]
  generalize (lg_sl ([.ref (ad 0), .long 26479]) ++ List.replicate (6 - (lg_sl ([.ref (ad 0), .long 26479])).length) Slot.unset).toArray = ls at hl ⊢
  have hl : lv_has ls 6 [(0, .ref (ad 0)), (1, .long 26479)] := hl
  generalize hloc : ([] : List Loc) = locs at hw ⊢
  have hinX12 : ∀ w ∈ u_ws RX12 TX12 42, w ∈ wsX12_isWord := fun _ h => List.mem_cons_of_mem _ (List.mem_append_right _ (h))
  have J78 : ∀ (v78_3 : Int64) (v78_5 : Int32) (f78_0_1 : Int32) (f78_0_14 : Int32) (H : Heap) (locs : List Loc) (ls : Array Slot) (w1 : va_W), 0 ≤ v78_5.toInt → v78_5.toInt ≤ 400 → 0 ≤ f78_0_1.toInt → f78_0_1.toInt ≤ 400 → 0 ≤ f78_0_14.toInt → f78_0_14.toInt ≤ 400 → ((f78_0_14.toInt = f0_.toInt ∨ (gi w0 1 (f0_.toInt).toNat).toInt = 32)) → Wd dC dI A s.heap H locs w1 → TW ksM ad cy B qr 12 w1 → FE ksM [(12, 14, 14)] w0 w1 → gi w1 0 1 = f78_0_1 → gi w1 0 14 = f78_0_14 → TT (fun n => m_X12_isWord n 0 26479 (sI w0)) (fun n => b_X12_isWord_78 (j_X12_isWord 0 n) n 0 (sI w1)) → lv_has ls 6 [(0, .ref (ad 0)), (1, .long 26479), (3, .long v78_3), (5, .int v78_5)] → W p l e ({ frames := 2, cells := 0, slots := 0, locals := 33 }) s m (List.toArray [.ref (ad 0), .long 26479]) below meth c H locs 0 0 (MQ below (va_Qi (Pz_X12_isWord_5 ad cy B qr s1  w0) (fun u : va_W => wpost dC dI cy A u) A) (List.toArray [.ref (ad 0), .long 26479]) s 0 0 A) (F0 m 78 ls []) := by
    intro v78_3 v78_5 f78_0_1 f78_0_14 H locs ls w1 r2 t3 r4 t5 r7 t8 hcr78_0 hw hT hF c6 c9 hM hl
    refine lv_iconst (v := 0) hx hb dX12_isWord_78 (by decide) ?_
    exact tk_zret hC hr rfl hlocks hK ⟨hT, hF, hM.ret (by decide), (Or.inl ⟨rfl, ⟨f78_0_1, c6, (show 0 ≤ f78_0_1.toInt by omega), (show f78_0_1.toInt ≤ 400 by omega)⟩, (by simp only [cf0_, c9]; omega)⟩)⟩ hw dX12_isWord_79
  have L10 : ∀ (n10 : Nat) (v10_3 : Int64) (v10_5 : Int32) (f10_0_1 : Int32) (f10_0_14 : Int32) (H : Heap) (locs : List Loc) (ls : Array Slot) (w10 : va_W), 0 ≤ v10_5.toInt → v10_5.toInt ≤ 400 → 0 ≤ f10_0_1.toInt → f10_0_1.toInt ≤ 400 → 0 ≤ f10_0_14.toInt → f10_0_14.toInt ≤ 400 → ((f10_0_14.toInt = f0_.toInt ∨ (gi w0 1 (f0_.toInt).toNat).toInt = 32)) → (400 - v10_5.toInt).toNat < n10 → Wd dC dI A s.heap H locs w10 → TW ksM ad cy B qr 12 w10 → FE ksM [(12, 14, 14)] w0 w10 → gi w10 0 1 = f10_0_1 → gi w10 0 14 = f10_0_14 → TT (fun n => m_X12_isWord n 0 26479 (sI w0)) (fun n => j_X12_isWord 0 n 10 [(26479 : Int), v10_3.toInt, v10_5.toInt] (sI w10)) → lv_has ls 6 [(0, .ref (ad 0)), (1, .long 26479), (3, .long v10_3), (5, .int v10_5)] → W p l e ({ frames := 2, cells := 0, slots := 0, locals := 33 }) s m (List.toArray [.ref (ad 0), .long 26479]) below meth c H locs 0 0 (MQ below (va_Qi (Pz_X12_isWord_5 ad cy B qr s1  w0) (fun u : va_W => wpost dC dI cy A u) A) (List.toArray [.ref (ad 0), .long 26479]) s 0 0 A) (F0 m 10 ls []) := by
    intro n10
    induction n10 with
    | zero => intro v10_3 v10_5 f10_0_1 f10_0_14 H locs ls w10 r11 t12 r13 t14 r16 t17 hcr10_0 hm10 hw hT hF c15 c18 hM hl; omega
    | succ n10 ih10 =>
      intro v10_3 v10_5 f10_0_1 f10_0_14 H locs ls w10 r11 t12 r13 t14 r16 t17 hcr10_0 hm10 hw hT hF c15 c18 hM hl
      have J50 : ∀ (v50_3 : Int64) (H : Heap) (locs : List Loc) (ls : Array Slot) (w19 : va_W), 0 ≤ v10_5.toInt → v10_5.toInt ≤ 399 → 1 ≤ f10_0_1.toInt → f10_0_1.toInt ≤ 400 → 0 ≤ f10_0_14.toInt → f10_0_14.toInt ≤ 399 → ((f10_0_14.toInt = f0_.toInt ∨ (gi w0 1 (f0_.toInt).toNat).toInt = 32)) → Wd dC dI A s.heap H locs w19 → TW ksM ad cy B qr 12 w19 → FE ksM [(12, 14, 14)] w0 w19 → gi w19 0 1 = f10_0_1 → gi w19 0 14 = f10_0_14 → TT (fun n => m_X12_isWord n 0 26479 (sI w0)) (fun n => b_X12_isWord_50 (j_X12_isWord 0 n) n 0 (26479 : Int) (v50_3.toInt) (v10_5.toInt) (sI w19)) → lv_has ls 6 [(0, .ref (ad 0)), (1, .long 26479), (3, .long v50_3), (5, .int v10_5)] → W p l e ({ frames := 2, cells := 0, slots := 0, locals := 33 }) s m (List.toArray [.ref (ad 0), .long 26479]) below meth c H locs 0 0 (MQ below (va_Qi (Pz_X12_isWord_5 ad cy B qr s1  w0) (fun u : va_W => wpost dC dI cy A u) A) (List.toArray [.ref (ad 0), .long 26479]) s 0 0 A) (F0 m 50 ls []) := by
        intro v50_3 H locs ls w19 r20 t21 r22 t23 r25 t26 hcr50_0 hw hT hF c24 c27 hM hl
        obtain ⟨x28, ex28⟩ : ∃ y : Int32, y = v10_5 + Int32.ofInt 1 := ⟨_, rfl⟩
        have erx28 := ex28
        refine lv_iinc (v := x28) (lv' := [(5, .int x28), (0, .ref (ad 0)), (1, .long 26479), (3, .long v50_3)]) hx hb dX12_isWord_50 hl (k := 3) rfl ex28.symm (by decide) rfl (fun ls hl => ?_)
        have ex28 : x28.toInt = v10_5.toInt + 1 := by rw [ex28]; exact wk_add (y := 1) (show -2147483648 ≤ v10_5.toInt + 1 by omega) (show v10_5.toInt + 1 ≤ 2147483647 by omega)
        replace hM := hM.lt ex28.symm
        refine lv_goto (tgt := 10) hx hb dX12_isWord_53 (by decide) ?_
        exact ih10 v50_3 x28 f10_0_1 f10_0_14 H locs ls w19 (show 0 ≤ x28.toInt by omega) (show x28.toInt ≤ 400 by omega) (show 0 ≤ f10_0_1.toInt by omega) (show f10_0_1.toInt ≤ 400 by omega) (show 0 ≤ f10_0_14.toInt by omega) (show f10_0_14.toInt ≤ 400 by omega) (show (f10_0_14.toInt = f0_.toInt ∨ (gi w0 1 (f0_.toInt).toNat).toInt = 32) by first | omega | assumption | (left; omega) | (left; decide) | (right; assumption)) (show (400 - x28.toInt).toNat < n10 by omega) hw hT hF c24 c27 hM (lv_sub hl [1, 2, 3, 0] rfl)
      replace hM := hM.suc (fun _ => e_X12_isWord_10)
      refine lv_aload_n hx hb dX12_isWord_10 rfl (lv_at hl 0 rfl) ?_
      refine lv_aload_n hx hb dX12_isWord_11 rfl (lv_at hl 0 rfl) ?_
      refine tk_geti hC hK hw hT hinX12 kM_at0 (by decide) rfl 14 (by decide) (List.mem_of_getElem? (i := 1) rfl) rfl rfl dX12_isWord_12 (fun x29 c30 rx29 tx29 => ?_)
      refine wk_top f10_0_14 (c30.symm.trans c18) ?_
      replace hM := hM.rd (sI_at c18)
      refine lv_iload hx hb dX12_isWord_15 (lv_at hl 3 rfl) ?_
      refine lv_iadd hx hb dX12_isWord_17 ?_
      refine lv_topi (fun x31 ex31 => ?_)
      have ezx31 := ex31
      have ex31 : x31.toInt = f10_0_14.toInt + v10_5.toInt := by rw [ex31]; exact wk_add (show (-2147483648) ≤ f10_0_14.toInt + v10_5.toInt by omega) (show f10_0_14.toInt + v10_5.toInt ≤ 2147483647 by omega)
      replace hM := hM.lt ex31.symm
      refine tk_Vi hC hK hw hT hA hE hSR kM_at0 (by decide) rfl (kz_X12_isLetter_1 l adK adV dC dI cy ad B (by omega) (by omega) qr s1   x31 (show 0 ≤ x31.toInt by omega) (show x31.toInt ≤ 800 by omega) w10 H.size hT ) (cwV 1 hC.2.2.2.2 gX12_isWord_X12_isLetter rfl rfl rfl (by decide +kernel) ⟨Nat.le_of_ble_eq_true rfl, Nat.le_of_ble_eq_true rfl⟩) rfl hl.1 rfl (Nat.le_of_ble_eq_true rfl) dX12_isWord_18 (fun r32 w34 H locs hp33 hw => ?_)
      obtain ⟨rfl, hv42, hg41⟩ := hp33
      rcases hg41 with ⟨rfl, ⟨x36, c37, rx36, tx36⟩⟩ | ⟨rfl, g38, ⟨x39, c40, rx39, tx39⟩⟩
      · replace hM := hM.call (r' := 0) hv42 (by decide)
        have ex36 : x36.toInt = f10_0_1.toInt := by rw [← c15.symm.trans c37]
        refine lv_if_eq (tgt := 56) hx hb dX12_isWord_21 (by decide) (fun _ => ?_) (fun c => absurd (by decide) c)
        replace hM := hM.pos (by decide)
        refine lv_iload hx hb dX12_isWord_56 (lv_at hl 3 rfl) ?_
        refine lv_if_le (tgt := 78) hx hb dX12_isWord_58 (by decide) (fun c43 => ?_) (fun c43 => ?_)
        · have c43 : v10_5.toInt ≤ (0 : Int) := wk_le.mp c43
          replace hM := hM.pos c43
          exact J78 v10_3 v10_5 f10_0_1 f10_0_14 H locs ls w10 (show 0 ≤ v10_5.toInt by omega) (show v10_5.toInt ≤ 400 by omega) (show 0 ≤ f10_0_1.toInt by omega) (show f10_0_1.toInt ≤ 400 by omega) (show 0 ≤ f10_0_14.toInt by omega) (show f10_0_14.toInt ≤ 400 by omega) (show (f10_0_14.toInt = f0_.toInt ∨ (gi w0 1 (f0_.toInt).toNat).toInt = 32) by first | omega | assumption | (left; omega) | (left; decide) | (right; assumption))  hw hT hF c15 c18 hM (lv_sub hl [0, 1, 2, 3] rfl)
        · have c43 : (0 : Int) < v10_5.toInt := wk_leF c43
          replace hM := hM.neg (Int.not_le.mpr c43)
          refine lv_iload hx hb dX12_isWord_61 (lv_at hl 3 rfl) ?_
          refine lv_bipush (v := 8) hx hb dX12_isWord_63 (by decide) ?_
          refine lv_icmp_ge (tgt := 78) hx hb dX12_isWord_65 (by decide) (fun c44 => ?_) (fun c44 => ?_)
          · have c44 : (8 : Int) ≤ v10_5.toInt := wk_le.mp c44
            replace hM := hM.pos c44
            exact J78 v10_3 v10_5 f10_0_1 f10_0_14 H locs ls w10 (show 0 ≤ v10_5.toInt by omega) (show v10_5.toInt ≤ 400 by omega) (show 0 ≤ f10_0_1.toInt by omega) (show f10_0_1.toInt ≤ 400 by omega) (show 0 ≤ f10_0_14.toInt by omega) (show f10_0_14.toInt ≤ 400 by omega) (show (f10_0_14.toInt = f0_.toInt ∨ (gi w0 1 (f0_.toInt).toNat).toInt = 32) by first | omega | assumption | (left; omega) | (left; decide) | (right; assumption))  hw hT hF c15 c18 hM (lv_sub hl [0, 1, 2, 3] rfl)
          · have c44 : v10_5.toInt < (8 : Int) := wk_leF c44
            replace hM := hM.neg (Int.not_le.mpr c44)
            refine lv_lload_n hx hb dX12_isWord_68 rfl (lv_at hl 2 rfl) ?_
            refine lv_lload_n hx hb dX12_isWord_69 rfl (lv_at hl 1 rfl) ?_
            refine W.lcmp hx hb dX12_isWord_70 ?_
            refine lv_if_ne (tgt := 78) hx hb dX12_isWord_71 (by decide) (fun c45 => ?_) (fun c45 => ?_)
            · have c45 : ¬ v10_3.toInt = (26479 : Int) := wk_ceF c45
              replace hM := hM.pos c45
              exact J78 v10_3 v10_5 f10_0_1 f10_0_14 H locs ls w10 (show 0 ≤ v10_5.toInt by omega) (show v10_5.toInt ≤ 400 by omega) (show 0 ≤ f10_0_1.toInt by omega) (show f10_0_1.toInt ≤ 400 by omega) (show 0 ≤ f10_0_14.toInt by omega) (show f10_0_14.toInt ≤ 400 by omega) (show (f10_0_14.toInt = f0_.toInt ∨ (gi w0 1 (f0_.toInt).toNat).toInt = 32) by first | omega | assumption | (left; omega) | (left; decide) | (right; assumption))  hw hT hF c15 c18 hM (lv_sub hl [0, 1, 2, 3] rfl)
            · have c45 : v10_3.toInt = (26479 : Int) := wk_ceT c45
              replace hM := hM.neg (fun q => q c45)
              refine lv_iconst (v := 1) hx hb dX12_isWord_74 (by decide) ?_
              refine lv_goto (tgt := 79) hx hb dX12_isWord_75 (by decide) ?_
              exact tk_zret hC hr rfl hlocks hK ⟨hT, hF, hM.ret (by decide), (Or.inr ⟨rfl, ⟨f10_0_1, c15, (show 0 ≤ f10_0_1.toInt by omega), (show f10_0_1.toInt ≤ 400 by omega)⟩, (by simp only [cf0_, c18]; omega)⟩)⟩ hw dX12_isWord_79
      · replace hM := hM.call (r' := 1) hv42 (by decide)
        have ex39 : x39.toInt = f10_0_1.toInt := by rw [← c15.symm.trans c40]
        refine lv_if_eq (tgt := 56) hx hb dX12_isWord_21 (by decide) (fun c => absurd c (by decide)) (fun _ => ?_)
        replace hM := hM.neg (by decide)
        refine lv_iload hx hb dX12_isWord_24 (lv_at hl 3 rfl) ?_
        refine lv_bipush (v := 8) hx hb dX12_isWord_26 (by decide) ?_
        refine lv_icmp_ge (tgt := 50) hx hb dX12_isWord_28 (by decide) (fun c46 => ?_) (fun c46 => ?_)
        · have c46 : (8 : Int) ≤ v10_5.toInt := wk_le.mp c46
          replace hM := hM.pos c46
          exact J50 v10_3 H locs ls w10 (show 0 ≤ v10_5.toInt by omega) (show v10_5.toInt ≤ 399 by omega) (show 1 ≤ f10_0_1.toInt by omega) (show f10_0_1.toInt ≤ 400 by omega) (show 0 ≤ f10_0_14.toInt by omega) (show f10_0_14.toInt ≤ 399 by omega) (show (f10_0_14.toInt = f0_.toInt ∨ (gi w0 1 (f0_.toInt).toNat).toInt = 32) by first | omega | assumption | (left; omega) | (left; decide) | (right; assumption))  hw hT hF c15 c18 hM (lv_sub hl [0, 1, 2, 3] rfl)
        · have c46 : v10_5.toInt < (8 : Int) := wk_leF c46
          replace hM := hM.neg (Int.not_le.mpr c46)
          refine lv_lload_n hx hb dX12_isWord_31 rfl (lv_at hl 2 rfl) ?_
          refine lv_bipush (v := 8) hx hb dX12_isWord_32 (by decide) ?_
          refine lv_lshl hx hb dX12_isWord_34 rfl ?_
          refine lv_topl (fun x47 ex47 => ?_)
          replace hM := hM.lt (mShlL_e ex47 rfl (by decide))
          refine lv_aload_n hx hb dX12_isWord_35 rfl (lv_at hl 0 rfl) ?_
          refine tk_getA hC hK hw hT hinX12 kM_at0 (by decide) rfl 0 (by decide) (List.mem_of_getElem? (i := 2) rfl) rfl rfl dX12_isWord_36 ?_
          refine lv_aload_n hx hb dX12_isWord_39 rfl (lv_at hl 0 rfl) ?_
          refine tk_geti hC hK hw hT hinX12 kM_at0 (by decide) rfl 14 (by decide) (List.mem_of_getElem? (i := 1) rfl) rfl rfl dX12_isWord_40 (fun x48 c49 rx48 tx48 => ?_)
          refine wk_top f10_0_14 (c49.symm.trans c18) ?_
          replace hM := hM.rd (sI_at c18)
          refine lv_iload hx hb dX12_isWord_43 (lv_at hl 3 rfl) ?_
          refine lv_iadd hx hb dX12_isWord_45 ?_
          refine lv_topi (fun x50 ex50 => ?_)
          have ezx50 := ex50
          have ex50 : x50.toInt = f10_0_14.toInt + v10_5.toInt := by rw [ex50]; exact wk_add (show (-2147483648) ≤ f10_0_14.toInt + v10_5.toInt by omega) (show f10_0_14.toInt + v10_5.toInt ≤ 2147483647 by omega)
          replace hM := hM.lt ex50.symm
          refine tk_bald hC hK hw hT kM_at1 rfl rfl (show 0 ≤ x50.toInt by omega) (show x50.toInt < 400 by omega) dX12_isWord_46 (fun x51 c52 rx51 tx51 => ?_)
          have hox51 := c52
          replace hM := hM.rd (sI_at hox51)
          have c52 : gi w10 1 (1 * f10_0_14.toInt + 1 * v10_5.toInt + 0).toNat = x51 := (congrArg (gi w10 1) (congrArg Int.toNat (show 1 * f10_0_14.toInt + 1 * v10_5.toInt + 0 = x50.toInt by omega))).trans c52
          refine lv_i2l hx hb dX12_isWord_47 rfl ?_
          refine lv_topl (fun x53 ex53 => ?_)
          have ex53 : x53.toInt = x51.toInt := by rw [ex53]; exact wk_i2l _
          have bx53 := wk_i32 x51
          replace hM := hM.lt ex53.symm
          refine lv_lor hx hb dX12_isWord_48 ?_
          refine lv_topl (fun x54 ex54 => ?_)
          have ezx54 := ex54
          replace hM := hM.lt (o64_e (f := fun x y => x ||| y) ezx54 rfl rfl)
          refine lv_lstore_n (lv' := [(3, .long x54), (0, .ref (ad 0)), (1, .long 26479), (5, .int v10_5)]) hx hb dX12_isWord_49 rfl hl (by decide) rfl (fun ls hl => ?_)
          exact J50 x54 H locs ls w10 (show 0 ≤ v10_5.toInt by omega) (show v10_5.toInt ≤ 399 by omega) (show 1 ≤ f10_0_1.toInt by omega) (show f10_0_1.toInt ≤ 400 by omega) (show 0 ≤ f10_0_14.toInt by omega) (show f10_0_14.toInt ≤ 399 by omega) (show (f10_0_14.toInt = f0_.toInt ∨ (gi w0 1 (f0_.toInt).toNat).toInt = 32) by first | omega | assumption | (left; omega) | (left; decide) | (right; assumption) | (right; rw [c52]; omega) | (right; rw [c52]; decide))  hw hT hF c15 c18 hM (lv_sub hl [1, 2, 0, 3] rfl)
  have hM : TT (fun n => m_X12_isWord n 0 26479 (sI w0)) (fun n => m_X12_isWord n 0 26479 (sI w0)) := TT.rf
  refine lv_aload_n hx hb dX12_isWord_0 rfl (lv_at hl 0 rfl) ?_
  refine tk_Vi hC hK hw hT hA hE hSR kM_at0 (by decide) rfl (kz_X12_see_1 l adK adV dC dI cy ad B (by omega) (by omega) qr s1    w0 s.heap.size hT f0_ cf0_ (show 0 ≤ f0_.toInt by omega) (show f0_.toInt ≤ 400 by omega)) (cwV 0 hC.2.2.2.2 gX12_isWord_X12_see rfl rfl rfl (by decide +kernel) ⟨Nat.le_of_ble_eq_true rfl, Nat.le_of_ble_eq_true rfl⟩) rfl hl.1 rfl (Nat.le_of_ble_eq_true rfl) dX12_isWord_1 (fun r55 w57 H locs hp56 hw => ?_)
  obtain ⟨hT, k58, hv76, hg75⟩ := hp56
  have hF := hF.tr k58 (by decide)
  rcases hg75 with ⟨g59, g60, ⟨x61, c62, rx61, tx61⟩, ⟨x63, c64, rx63, tx63⟩, g65, g66⟩ | ⟨rfl, ⟨x67, c68, rx67, tx67⟩, ⟨x69, c70, rx69, tx69⟩, g71⟩ | ⟨rfl, ⟨x72, c73, rx72, tx72⟩, g74⟩
  · replace hM := hM.call hv76 rfl
    have g65 : (gi w57 1 (x63.toInt).toNat).toInt ≠ 32 := by have q := g65; simp only [c64] at q; omega
    have g66 : (x63.toInt = f0_.toInt ∨ (gi w0 1 (f0_.toInt).toNat).toInt = 32) := by have q := g66; simp only [cf0_, c64] at q; omega
    refine lv_pop hx hb dX12_isWord_4 rfl ?_
    refine lv_lconst (v := 0) hx hb dX12_isWord_5 (by decide) ?_
    refine lv_lstore_n (lv' := [(3, .long 0), (0, .ref (ad 0)), (1, .long 26479)]) hx hb dX12_isWord_6 rfl hl (by decide) rfl (fun ls hl => ?_)
    refine lv_iconst (v := 0) hx hb dX12_isWord_7 (by decide) ?_
    refine lv_istore (lv' := [(5, .int 0), (3, .long 0), (0, .ref (ad 0)), (1, .long 26479)]) hx hb dX12_isWord_8 hl (by decide) rfl (fun ls hl => ?_)
    exact L10 ((400 - (0 : Int)).toNat + 1) 0 0 x61 x63 H locs ls w57 (by decide) (by decide) (show 0 ≤ x61.toInt by omega) (show x61.toInt ≤ 400 by omega) (show 0 ≤ x63.toInt by omega) (show x63.toInt ≤ 400 by omega) (show (x63.toInt = f0_.toInt ∨ (gi w0 1 (f0_.toInt).toNat).toInt = 32) by first | omega | assumption | (left; omega) | (left; decide) | (right; assumption)) (Nat.lt_succ_self _) hw hT hF c62 c64 hM (lv_sub hl [2, 3, 1, 0] rfl)
  · replace hM := hM.call (r' := (-1)) hv76 (by decide)
    have g71 : (x69.toInt = f0_.toInt ∨ (gi w0 1 (f0_.toInt).toNat).toInt = 32) := by have q := g71; simp only [cf0_, c70] at q; omega
    refine lv_pop hx hb dX12_isWord_4 rfl ?_
    refine lv_lconst (v := 0) hx hb dX12_isWord_5 (by decide) ?_
    refine lv_lstore_n (lv' := [(3, .long 0), (0, .ref (ad 0)), (1, .long 26479)]) hx hb dX12_isWord_6 rfl hl (by decide) rfl (fun ls hl => ?_)
    refine lv_iconst (v := 0) hx hb dX12_isWord_7 (by decide) ?_
    refine lv_istore (lv' := [(5, .int 0), (3, .long 0), (0, .ref (ad 0)), (1, .long 26479)]) hx hb dX12_isWord_8 hl (by decide) rfl (fun ls hl => ?_)
    exact L10 ((400 - (0 : Int)).toNat + 1) 0 0 x67 x69 H locs ls w57 (by decide) (by decide) (show 0 ≤ x67.toInt by omega) (show x67.toInt ≤ 400 by omega) (show 0 ≤ x69.toInt by omega) (show x69.toInt ≤ 400 by omega) (show (x69.toInt = f0_.toInt ∨ (gi w0 1 (f0_.toInt).toNat).toInt = 32) by first | omega | assumption | (left; omega) | (left; decide) | (right; assumption)) (Nat.lt_succ_self _) hw hT hF c68 c70 hM (lv_sub hl [2, 3, 1, 0] rfl)
  · replace hM := hM.call (r' := (-1)) hv76 (by decide)
    obtain ⟨x77, c78, rx77, tx77⟩ := hT.rdi (lo := 0) (hi := 400) (k := 14) kM_at0 (by decide) rfl
    have g74 : (x77.toInt = f0_.toInt ∨ (gi w0 1 (f0_.toInt).toNat).toInt = 32) := by have q := g74; simp only [cf0_, c78] at q; omega
    refine lv_pop hx hb dX12_isWord_4 rfl ?_
    refine lv_lconst (v := 0) hx hb dX12_isWord_5 (by decide) ?_
    refine lv_lstore_n (lv' := [(3, .long 0), (0, .ref (ad 0)), (1, .long 26479)]) hx hb dX12_isWord_6 rfl hl (by decide) rfl (fun ls hl => ?_)
    refine lv_iconst (v := 0) hx hb dX12_isWord_7 (by decide) ?_
    refine lv_istore (lv' := [(5, .int 0), (3, .long 0), (0, .ref (ad 0)), (1, .long 26479)]) hx hb dX12_isWord_8 hl (by decide) rfl (fun ls hl => ?_)
    exact L10 ((400 - (0 : Int)).toNat + 1) 0 0 x72 x77 H locs ls w57 (by decide) (by decide) (show 0 ≤ x72.toInt by omega) (show x72.toInt ≤ 400 by omega) (show 0 ≤ x77.toInt by omega) (show x77.toInt ≤ 400 by omega) (show (x77.toInt = f0_.toInt ∨ (gi w0 1 (f0_.toInt).toNat).toInt = 32) by first | omega | assumption | (left; omega) | (left; decide) | (right; assumption)) (Nat.lt_succ_self _) hw hT hF c73 c78 hM (lv_sub hl [2, 3, 1, 0] rfl)
abbrev Pz_X12_isWord_6 (ad : Nat → Nat) (cy : Nat → ClassId) (B : Int) (qr : Nat) (s1 : Int)  (w0 : va_W) : Int32 → va_W → Prop := fun r u => TW ksM ad cy B qr 12 u ∧ FE ksM [(12, 14, 14)] w0 u ∧ Ev (fun n => m_X12_isWord n 0 418548114533 (sI w0)) (r.toInt, sI u) ∧ ((r = 0 ∧ (∃ y : Int32, gi u 0 1 = y ∧ 0 ≤ y.toInt ∧ y.toInt ≤ 400) ∧ (((gi u 0 14).toInt = (gi w0 0 14).toInt ∨ (gi w0 1 ((gi w0 0 14).toInt).toNat).toInt = 32))) ∨ (r = 1 ∧ (∃ y : Int32, gi u 0 1 = y ∧ 0 ≤ y.toInt ∧ y.toInt ≤ 400) ∧ (((gi u 0 14).toInt = (gi w0 0 14).toInt ∨ (gi w0 1 ((gi w0 0 14).toInt).toNat).toInt = 32))))
set_option maxHeartbeats 4000000 in
set_option maxRecDepth 100000 in
theorem kz_X12_isWord_6 (l : Launch) (adK adV : Nat → Nat) (dC : Nat → ClassId) (dI : Nat → Nat → Nat) (cy : Nat → ClassId) (ad : Nat → Nat) (B : Int) (hB0 : 100000 ≤ B) (hB1 : B ≤ 1073741824) (qr : Nat) (s1 : Int)   (w0 : va_W) (sz : Nat) (hT : TW ksM ad cy B qr 12 w0) (f0_ : Int32) (cf0_ : gi w0 0 14 = f0_) (rf0_ : 0 ≤ f0_.toInt) (tf0_ : f0_.toInt ≤ 400) : Met l yX12_isWord wsX12_isWord ({ frames := 2, cells := 0, slots := 0, locals := 33 }) (va_Pc [.ref (ad 0), .long 418548114533] (wpreS adK adV dC dI cy sz w0)) (va_Qi (Pz_X12_isWord_6 ad cy B qr s1  w0) (fun u : va_W => wpost dC dI cy (va_A w0 sz) u) (va_A w0 sz)) 0 0 (va_A w0 sz) := by
  refine Met.ofW (cc := cX12_isWord) (maxL := 6) (ret := (some .boolean)) (by decide) rfl ?_
  intro p e s m args below meth c s₁ Bk hml hv
  obtain ⟨rfl, ⟨hsz, hP, hK, hD0⟩, hE, hSR⟩ := hv
  have hx := Bk.exec
  have hb := Bk.bytes
  have hr := Bk.returns
  have hlocks := Bk.notSynchronized
  have hC : CallFix p m c cX12_isWord 6 s _ wsX12_isWord RX12 := ⟨hx, hb, hml, findClass_of_methodNamed Bk.named, atoms_spec (ws := wsX12_isWord) Bk.pre⟩
  subst hsz
  have hD := hD0.self (sz := s.heap.size)
  generalize hAe : va_A w0 s.heap.size = A at hD hE ⊢
  have hA : ∀ q : Nat, s.heap.size ≤ q → A q := fun q h => by rw [← hAe]; exact Or.inr h
  have hw : Wd dC dI A s.heap s.heap [] w0 := ⟨hP, hD, va_S.rf⟩
  have hF : FE ksM [(12, 14, 14)] w0 w0 := FE.rf
  have hl := lv_entry ([.ref (ad 0), .long 418548114533]) (n := 6) (Nat.le_of_ble_eq_true rfl)
  rw [lg_entry_eq]
  generalize (lg_sl ([.ref (ad 0), .long 418548114533]) ++ List.replicate (6 - (lg_sl ([.ref (ad 0), .long 418548114533])).length) Slot.unset).toArray = ls at hl ⊢
  have hl : lv_has ls 6 [(0, .ref (ad 0)), (1, .long 418548114533)] := hl
  generalize hloc : ([] : List Loc) = locs at hw ⊢
  have hinX12 : ∀ w ∈ u_ws RX12 TX12 42, w ∈ wsX12_isWord := fun _ h => List.mem_cons_of_mem _ (List.mem_append_right _ (h))
  have J78 : ∀ (v78_3 : Int64) (v78_5 : Int32) (f78_0_1 : Int32) (f78_0_14 : Int32) (H : Heap) (locs : List Loc) (ls : Array Slot) (w1 : va_W), 0 ≤ v78_5.toInt → v78_5.toInt ≤ 400 → 0 ≤ f78_0_1.toInt → f78_0_1.toInt ≤ 400 → 0 ≤ f78_0_14.toInt → f78_0_14.toInt ≤ 400 → ((f78_0_14.toInt = f0_.toInt ∨ (gi w0 1 (f0_.toInt).toNat).toInt = 32)) → Wd dC dI A s.heap H locs w1 → TW ksM ad cy B qr 12 w1 → FE ksM [(12, 14, 14)] w0 w1 → gi w1 0 1 = f78_0_1 → gi w1 0 14 = f78_0_14 → TT (fun n => m_X12_isWord n 0 418548114533 (sI w0)) (fun n => b_X12_isWord_78 (j_X12_isWord 0 n) n 0 (sI w1)) → lv_has ls 6 [(0, .ref (ad 0)), (1, .long 418548114533), (3, .long v78_3), (5, .int v78_5)] → W p l e ({ frames := 2, cells := 0, slots := 0, locals := 33 }) s m (List.toArray [.ref (ad 0), .long 418548114533]) below meth c H locs 0 0 (MQ below (va_Qi (Pz_X12_isWord_6 ad cy B qr s1  w0) (fun u : va_W => wpost dC dI cy A u) A) (List.toArray [.ref (ad 0), .long 418548114533]) s 0 0 A) (F0 m 78 ls []) := by
    intro v78_3 v78_5 f78_0_1 f78_0_14 H locs ls w1 r2 t3 r4 t5 r7 t8 hcr78_0 hw hT hF c6 c9 hM hl
    refine lv_iconst (v := 0) hx hb dX12_isWord_78 (by decide) ?_
    exact tk_zret hC hr rfl hlocks hK ⟨hT, hF, hM.ret (by decide), (Or.inl ⟨rfl, ⟨f78_0_1, c6, (show 0 ≤ f78_0_1.toInt by omega), (show f78_0_1.toInt ≤ 400 by omega)⟩, (by simp only [cf0_, c9]; omega)⟩)⟩ hw dX12_isWord_79
  have L10 : ∀ (n10 : Nat) (v10_3 : Int64) (v10_5 : Int32) (f10_0_1 : Int32) (f10_0_14 : Int32) (H : Heap) (locs : List Loc) (ls : Array Slot) (w10 : va_W), 0 ≤ v10_5.toInt → v10_5.toInt ≤ 400 → 0 ≤ f10_0_1.toInt → f10_0_1.toInt ≤ 400 → 0 ≤ f10_0_14.toInt → f10_0_14.toInt ≤ 400 → ((f10_0_14.toInt = f0_.toInt ∨ (gi w0 1 (f0_.toInt).toNat).toInt = 32)) → (400 - v10_5.toInt).toNat < n10 → Wd dC dI A s.heap H locs w10 → TW ksM ad cy B qr 12 w10 → FE ksM [(12, 14, 14)] w0 w10 → gi w10 0 1 = f10_0_1 → gi w10 0 14 = f10_0_14 → TT (fun n => m_X12_isWord n 0 418548114533 (sI w0)) (fun n => j_X12_isWord 0 n 10 [(418548114533 : Int), v10_3.toInt, v10_5.toInt] (sI w10)) → lv_has ls 6 [(0, .ref (ad 0)), (1, .long 418548114533), (3, .long v10_3), (5, .int v10_5)] → W p l e ({ frames := 2, cells := 0, slots := 0, locals := 33 }) s m (List.toArray [.ref (ad 0), .long 418548114533]) below meth c H locs 0 0 (MQ below (va_Qi (Pz_X12_isWord_6 ad cy B qr s1  w0) (fun u : va_W => wpost dC dI cy A u) A) (List.toArray [.ref (ad 0), .long 418548114533]) s 0 0 A) (F0 m 10 ls []) := by
    intro n10
    induction n10 with
    | zero => intro v10_3 v10_5 f10_0_1 f10_0_14 H locs ls w10 r11 t12 r13 t14 r16 t17 hcr10_0 hm10 hw hT hF c15 c18 hM hl; omega
    | succ n10 ih10 =>
      intro v10_3 v10_5 f10_0_1 f10_0_14 H locs ls w10 r11 t12 r13 t14 r16 t17 hcr10_0 hm10 hw hT hF c15 c18 hM hl
      have J50 : ∀ (v50_3 : Int64) (H : Heap) (locs : List Loc) (ls : Array Slot) (w19 : va_W), 0 ≤ v10_5.toInt → v10_5.toInt ≤ 399 → 1 ≤ f10_0_1.toInt → f10_0_1.toInt ≤ 400 → 0 ≤ f10_0_14.toInt → f10_0_14.toInt ≤ 399 → ((f10_0_14.toInt = f0_.toInt ∨ (gi w0 1 (f0_.toInt).toNat).toInt = 32)) → Wd dC dI A s.heap H locs w19 → TW ksM ad cy B qr 12 w19 → FE ksM [(12, 14, 14)] w0 w19 → gi w19 0 1 = f10_0_1 → gi w19 0 14 = f10_0_14 → TT (fun n => m_X12_isWord n 0 418548114533 (sI w0)) (fun n => b_X12_isWord_50 (j_X12_isWord 0 n) n 0 (418548114533 : Int) (v50_3.toInt) (v10_5.toInt) (sI w19)) → lv_has ls 6 [(0, .ref (ad 0)), (1, .long 418548114533), (3, .long v50_3), (5, .int v10_5)] → W p l e ({ frames := 2, cells := 0, slots := 0, locals := 33 }) s m (List.toArray [.ref (ad 0), .long 418548114533]) below meth c H locs 0 0 (MQ below (va_Qi (Pz_X12_isWord_6 ad cy B qr s1  w0) (fun u : va_W => wpost dC dI cy A u) A) (List.toArray [.ref (ad 0), .long 418548114533]) s 0 0 A) (F0 m 50 ls []) := by
        intro v50_3 H locs ls w19 r20 t21 r22 t23 r25 t26 hcr50_0 hw hT hF c24 c27 hM hl
        obtain ⟨x28, ex28⟩ : ∃ y : Int32, y = v10_5 + Int32.ofInt 1 := ⟨_, rfl⟩
        have erx28 := ex28
        refine lv_iinc (v := x28) (lv' := [(5, .int x28), (0, .ref (ad 0)), (1, .long 418548114533), (3, .long v50_3)]) hx hb dX12_isWord_50 hl (k := 3) rfl ex28.symm (by decide) rfl (fun ls hl => ?_)
        have ex28 : x28.toInt = v10_5.toInt + 1 := by rw [ex28]; exact wk_add (y := 1) (show -2147483648 ≤ v10_5.toInt + 1 by omega) (show v10_5.toInt + 1 ≤ 2147483647 by omega)
        replace hM := hM.lt ex28.symm
        refine lv_goto (tgt := 10) hx hb dX12_isWord_53 (by decide) ?_
        exact ih10 v50_3 x28 f10_0_1 f10_0_14 H locs ls w19 (show 0 ≤ x28.toInt by omega) (show x28.toInt ≤ 400 by omega) (show 0 ≤ f10_0_1.toInt by omega) (show f10_0_1.toInt ≤ 400 by omega) (show 0 ≤ f10_0_14.toInt by omega) (show f10_0_14.toInt ≤ 400 by omega) (show (f10_0_14.toInt = f0_.toInt ∨ (gi w0 1 (f0_.toInt).toNat).toInt = 32) by first | omega | assumption | (left; omega) | (left; decide) | (right; assumption)) (show (400 - x28.toInt).toNat < n10 by omega) hw hT hF c24 c27 hM (lv_sub hl [1, 2, 3, 0] rfl)
      replace hM := hM.suc (fun _ => e_X12_isWord_10)
      refine lv_aload_n hx hb dX12_isWord_10 rfl (lv_at hl 0 rfl) ?_
      refine lv_aload_n hx hb dX12_isWord_11 rfl (lv_at hl 0 rfl) ?_
      refine tk_geti hC hK hw hT hinX12 kM_at0 (by decide) rfl 14 (by decide) (List.mem_of_getElem? (i := 1) rfl) rfl rfl dX12_isWord_12 (fun x29 c30 rx29 tx29 => ?_)
      refine wk_top f10_0_14 (c30.symm.trans c18) ?_
      replace hM := hM.rd (sI_at c18)
      refine lv_iload hx hb dX12_isWord_15 (lv_at hl 3 rfl) ?_
      refine lv_iadd hx hb dX12_isWord_17 ?_
      refine lv_topi (fun x31 ex31 => ?_)
      have ezx31 := ex31
      have ex31 : x31.toInt = f10_0_14.toInt + v10_5.toInt := by rw [ex31]; exact wk_add (show (-2147483648) ≤ f10_0_14.toInt + v10_5.toInt by omega) (show f10_0_14.toInt + v10_5.toInt ≤ 2147483647 by omega)
      replace hM := hM.lt ex31.symm
      refine tk_Vi hC hK hw hT hA hE hSR kM_at0 (by decide) rfl (kz_X12_isLetter_1 l adK adV dC dI cy ad B (by omega) (by omega) qr s1   x31 (show 0 ≤ x31.toInt by omega) (show x31.toInt ≤ 800 by omega) w10 H.size hT ) (cwV 1 hC.2.2.2.2 gX12_isWord_X12_isLetter rfl rfl rfl (by decide +kernel) ⟨Nat.le_of_ble_eq_true rfl, Nat.le_of_ble_eq_true rfl⟩) rfl hl.1 rfl (Nat.le_of_ble_eq_true rfl) dX12_isWord_18 (fun r32 w34 H locs hp33 hw => ?_)
      obtain ⟨rfl, hv42, hg41⟩ := hp33
      rcases hg41 with ⟨rfl, ⟨x36, c37, rx36, tx36⟩⟩ | ⟨rfl, g38, ⟨x39, c40, rx39, tx39⟩⟩
      · replace hM := hM.call (r' := 0) hv42 (by decide)
        have ex36 : x36.toInt = f10_0_1.toInt := by rw [← c15.symm.trans c37]
        refine lv_if_eq (tgt := 56) hx hb dX12_isWord_21 (by decide) (fun _ => ?_) (fun c => absurd (by decide) c)
        replace hM := hM.pos (by decide)
        refine lv_iload hx hb dX12_isWord_56 (lv_at hl 3 rfl) ?_
        refine lv_if_le (tgt := 78) hx hb dX12_isWord_58 (by decide) (fun c43 => ?_) (fun c43 => ?_)
        · have c43 : v10_5.toInt ≤ (0 : Int) := wk_le.mp c43
          replace hM := hM.pos c43
          exact J78 v10_3 v10_5 f10_0_1 f10_0_14 H locs ls w10 (show 0 ≤ v10_5.toInt by omega) (show v10_5.toInt ≤ 400 by omega) (show 0 ≤ f10_0_1.toInt by omega) (show f10_0_1.toInt ≤ 400 by omega) (show 0 ≤ f10_0_14.toInt by omega) (show f10_0_14.toInt ≤ 400 by omega) (show (f10_0_14.toInt = f0_.toInt ∨ (gi w0 1 (f0_.toInt).toNat).toInt = 32) by first | omega | assumption | (left; omega) | (left; decide) | (right; assumption))  hw hT hF c15 c18 hM (lv_sub hl [0, 1, 2, 3] rfl)
        · have c43 : (0 : Int) < v10_5.toInt := wk_leF c43
          replace hM := hM.neg (Int.not_le.mpr c43)
          refine lv_iload hx hb dX12_isWord_61 (lv_at hl 3 rfl) ?_
          refine lv_bipush (v := 8) hx hb dX12_isWord_63 (by decide) ?_
          refine lv_icmp_ge (tgt := 78) hx hb dX12_isWord_65 (by decide) (fun c44 => ?_) (fun c44 => ?_)
          · have c44 : (8 : Int) ≤ v10_5.toInt := wk_le.mp c44
            replace hM := hM.pos c44
            exact J78 v10_3 v10_5 f10_0_1 f10_0_14 H locs ls w10 (show 0 ≤ v10_5.toInt by omega) (show v10_5.toInt ≤ 400 by omega) (show 0 ≤ f10_0_1.toInt by omega) (show f10_0_1.toInt ≤ 400 by omega) (show 0 ≤ f10_0_14.toInt by omega) (show f10_0_14.toInt ≤ 400 by omega) (show (f10_0_14.toInt = f0_.toInt ∨ (gi w0 1 (f0_.toInt).toNat).toInt = 32) by first | omega | assumption | (left; omega) | (left; decide) | (right; assumption))  hw hT hF c15 c18 hM (lv_sub hl [0, 1, 2, 3] rfl)
          · have c44 : v10_5.toInt < (8 : Int) := wk_leF c44
            replace hM := hM.neg (Int.not_le.mpr c44)
            refine lv_lload_n hx hb dX12_isWord_68 rfl (lv_at hl 2 rfl) ?_
            refine lv_lload_n hx hb dX12_isWord_69 rfl (lv_at hl 1 rfl) ?_
            refine W.lcmp hx hb dX12_isWord_70 ?_
            refine lv_if_ne (tgt := 78) hx hb dX12_isWord_71 (by decide) (fun c45 => ?_) (fun c45 => ?_)
            · have c45 : ¬ v10_3.toInt = (418548114533 : Int) := wk_ceF c45
              replace hM := hM.pos c45
              exact J78 v10_3 v10_5 f10_0_1 f10_0_14 H locs ls w10 (show 0 ≤ v10_5.toInt by omega) (show v10_5.toInt ≤ 400 by omega) (show 0 ≤ f10_0_1.toInt by omega) (show f10_0_1.toInt ≤ 400 by omega) (show 0 ≤ f10_0_14.toInt by omega) (show f10_0_14.toInt ≤ 400 by omega) (show (f10_0_14.toInt = f0_.toInt ∨ (gi w0 1 (f0_.toInt).toNat).toInt = 32) by first | omega | assumption | (left; omega) | (left; decide) | (right; assumption))  hw hT hF c15 c18 hM (lv_sub hl [0, 1, 2, 3] rfl)
            · have c45 : v10_3.toInt = (418548114533 : Int) := wk_ceT c45
              replace hM := hM.neg (fun q => q c45)
              refine lv_iconst (v := 1) hx hb dX12_isWord_74 (by decide) ?_
              refine lv_goto (tgt := 79) hx hb dX12_isWord_75 (by decide) ?_
              exact tk_zret hC hr rfl hlocks hK ⟨hT, hF, hM.ret (by decide), (Or.inr ⟨rfl, ⟨f10_0_1, c15, (show 0 ≤ f10_0_1.toInt by omega), (show f10_0_1.toInt ≤ 400 by omega)⟩, (by simp only [cf0_, c18]; omega)⟩)⟩ hw dX12_isWord_79
      · replace hM := hM.call (r' := 1) hv42 (by decide)
        have ex39 : x39.toInt = f10_0_1.toInt := by rw [← c15.symm.trans c40]
        refine lv_if_eq (tgt := 56) hx hb dX12_isWord_21 (by decide) (fun c => absurd c (by decide)) (fun _ => ?_)
        replace hM := hM.neg (by decide)
        refine lv_iload hx hb dX12_isWord_24 (lv_at hl 3 rfl) ?_
        refine lv_bipush (v := 8) hx hb dX12_isWord_26 (by decide) ?_
        refine lv_icmp_ge (tgt := 50) hx hb dX12_isWord_28 (by decide) (fun c46 => ?_) (fun c46 => ?_)
        · have c46 : (8 : Int) ≤ v10_5.toInt := wk_le.mp c46
          replace hM := hM.pos c46
          exact J50 v10_3 H locs ls w10 (show 0 ≤ v10_5.toInt by omega) (show v10_5.toInt ≤ 399 by omega) (show 1 ≤ f10_0_1.toInt by omega) (show f10_0_1.toInt ≤ 400 by omega) (show 0 ≤ f10_0_14.toInt by omega) (show f10_0_14.toInt ≤ 399 by omega) (show (f10_0_14.toInt = f0_.toInt ∨ (gi w0 1 (f0_.toInt).toNat).toInt = 32) by first | omega | assumption | (left; omega) | (left; decide) | (right; assumption))  hw hT hF c15 c18 hM (lv_sub hl [0, 1, 2, 3] rfl)
        · have c46 : v10_5.toInt < (8 : Int) := wk_leF c46
          replace hM := hM.neg (Int.not_le.mpr c46)
          refine lv_lload_n hx hb dX12_isWord_31 rfl (lv_at hl 2 rfl) ?_
          refine lv_bipush (v := 8) hx hb dX12_isWord_32 (by decide) ?_
          refine lv_lshl hx hb dX12_isWord_34 rfl ?_
          refine lv_topl (fun x47 ex47 => ?_)
          replace hM := hM.lt (mShlL_e ex47 rfl (by decide))
          refine lv_aload_n hx hb dX12_isWord_35 rfl (lv_at hl 0 rfl) ?_
          refine tk_getA hC hK hw hT hinX12 kM_at0 (by decide) rfl 0 (by decide) (List.mem_of_getElem? (i := 2) rfl) rfl rfl dX12_isWord_36 ?_
          refine lv_aload_n hx hb dX12_isWord_39 rfl (lv_at hl 0 rfl) ?_
          refine tk_geti hC hK hw hT hinX12 kM_at0 (by decide) rfl 14 (by decide) (List.mem_of_getElem? (i := 1) rfl) rfl rfl dX12_isWord_40 (fun x48 c49 rx48 tx48 => ?_)
          refine wk_top f10_0_14 (c49.symm.trans c18) ?_
          replace hM := hM.rd (sI_at c18)
          refine lv_iload hx hb dX12_isWord_43 (lv_at hl 3 rfl) ?_
          refine lv_iadd hx hb dX12_isWord_45 ?_
          refine lv_topi (fun x50 ex50 => ?_)
          have ezx50 := ex50
          have ex50 : x50.toInt = f10_0_14.toInt + v10_5.toInt := by rw [ex50]; exact wk_add (show (-2147483648) ≤ f10_0_14.toInt + v10_5.toInt by omega) (show f10_0_14.toInt + v10_5.toInt ≤ 2147483647 by omega)
          replace hM := hM.lt ex50.symm
          refine tk_bald hC hK hw hT kM_at1 rfl rfl (show 0 ≤ x50.toInt by omega) (show x50.toInt < 400 by omega) dX12_isWord_46 (fun x51 c52 rx51 tx51 => ?_)
          have hox51 := c52
          replace hM := hM.rd (sI_at hox51)
          have c52 : gi w10 1 (1 * f10_0_14.toInt + 1 * v10_5.toInt + 0).toNat = x51 := (congrArg (gi w10 1) (congrArg Int.toNat (show 1 * f10_0_14.toInt + 1 * v10_5.toInt + 0 = x50.toInt by omega))).trans c52
          refine lv_i2l hx hb dX12_isWord_47 rfl ?_
          refine lv_topl (fun x53 ex53 => ?_)
          have ex53 : x53.toInt = x51.toInt := by rw [ex53]; exact wk_i2l _
          have bx53 := wk_i32 x51
          replace hM := hM.lt ex53.symm
          refine lv_lor hx hb dX12_isWord_48 ?_
          refine lv_topl (fun x54 ex54 => ?_)
          have ezx54 := ex54
          replace hM := hM.lt (o64_e (f := fun x y => x ||| y) ezx54 rfl rfl)
          refine lv_lstore_n (lv' := [(3, .long x54), (0, .ref (ad 0)), (1, .long 418548114533), (5, .int v10_5)]) hx hb dX12_isWord_49 rfl hl (by decide) rfl (fun ls hl => ?_)
          exact J50 x54 H locs ls w10 (show 0 ≤ v10_5.toInt by omega) (show v10_5.toInt ≤ 399 by omega) (show 1 ≤ f10_0_1.toInt by omega) (show f10_0_1.toInt ≤ 400 by omega) (show 0 ≤ f10_0_14.toInt by omega) (show f10_0_14.toInt ≤ 399 by omega) (show (f10_0_14.toInt = f0_.toInt ∨ (gi w0 1 (f0_.toInt).toNat).toInt = 32) by first | omega | assumption | (left; omega) | (left; decide) | (right; assumption) | (right; rw [c52]; omega) | (right; rw [c52]; decide))  hw hT hF c15 c18 hM (lv_sub hl [1, 2, 0, 3] rfl)
  have hM : TT (fun n => m_X12_isWord n 0 418548114533 (sI w0)) (fun n => m_X12_isWord n 0 418548114533 (sI w0)) := TT.rf
  refine lv_aload_n hx hb dX12_isWord_0 rfl (lv_at hl 0 rfl) ?_
  refine tk_Vi hC hK hw hT hA hE hSR kM_at0 (by decide) rfl (kz_X12_see_1 l adK adV dC dI cy ad B (by omega) (by omega) qr s1    w0 s.heap.size hT f0_ cf0_ (show 0 ≤ f0_.toInt by omega) (show f0_.toInt ≤ 400 by omega)) (cwV 0 hC.2.2.2.2 gX12_isWord_X12_see rfl rfl rfl (by decide +kernel) ⟨Nat.le_of_ble_eq_true rfl, Nat.le_of_ble_eq_true rfl⟩) rfl hl.1 rfl (Nat.le_of_ble_eq_true rfl) dX12_isWord_1 (fun r55 w57 H locs hp56 hw => ?_)
  obtain ⟨hT, k58, hv76, hg75⟩ := hp56
  have hF := hF.tr k58 (by decide)
  rcases hg75 with ⟨g59, g60, ⟨x61, c62, rx61, tx61⟩, ⟨x63, c64, rx63, tx63⟩, g65, g66⟩ | ⟨rfl, ⟨x67, c68, rx67, tx67⟩, ⟨x69, c70, rx69, tx69⟩, g71⟩ | ⟨rfl, ⟨x72, c73, rx72, tx72⟩, g74⟩
  · replace hM := hM.call hv76 rfl
    have g65 : (gi w57 1 (x63.toInt).toNat).toInt ≠ 32 := by have q := g65; simp only [c64] at q; omega
    have g66 : (x63.toInt = f0_.toInt ∨ (gi w0 1 (f0_.toInt).toNat).toInt = 32) := by have q := g66; simp only [cf0_, c64] at q; omega
    refine lv_pop hx hb dX12_isWord_4 rfl ?_
    refine lv_lconst (v := 0) hx hb dX12_isWord_5 (by decide) ?_
    refine lv_lstore_n (lv' := [(3, .long 0), (0, .ref (ad 0)), (1, .long 418548114533)]) hx hb dX12_isWord_6 rfl hl (by decide) rfl (fun ls hl => ?_)
    refine lv_iconst (v := 0) hx hb dX12_isWord_7 (by decide) ?_
    refine lv_istore (lv' := [(5, .int 0), (3, .long 0), (0, .ref (ad 0)), (1, .long 418548114533)]) hx hb dX12_isWord_8 hl (by decide) rfl (fun ls hl => ?_)
    exact L10 ((400 - (0 : Int)).toNat + 1) 0 0 x61 x63 H locs ls w57 (by decide) (by decide) (show 0 ≤ x61.toInt by omega) (show x61.toInt ≤ 400 by omega) (show 0 ≤ x63.toInt by omega) (show x63.toInt ≤ 400 by omega) (show (x63.toInt = f0_.toInt ∨ (gi w0 1 (f0_.toInt).toNat).toInt = 32) by first | omega | assumption | (left; omega) | (left; decide) | (right; assumption)) (Nat.lt_succ_self _) hw hT hF c62 c64 hM (lv_sub hl [2, 3, 1, 0] rfl)
  · replace hM := hM.call (r' := (-1)) hv76 (by decide)
    have g71 : (x69.toInt = f0_.toInt ∨ (gi w0 1 (f0_.toInt).toNat).toInt = 32) := by have q := g71; simp only [cf0_, c70] at q; omega
    refine lv_pop hx hb dX12_isWord_4 rfl ?_
    refine lv_lconst (v := 0) hx hb dX12_isWord_5 (by decide) ?_
    refine lv_lstore_n (lv' := [(3, .long 0), (0, .ref (ad 0)), (1, .long 418548114533)]) hx hb dX12_isWord_6 rfl hl (by decide) rfl (fun ls hl => ?_)
    refine lv_iconst (v := 0) hx hb dX12_isWord_7 (by decide) ?_
    refine lv_istore (lv' := [(5, .int 0), (3, .long 0), (0, .ref (ad 0)), (1, .long 418548114533)]) hx hb dX12_isWord_8 hl (by decide) rfl (fun ls hl => ?_)
    exact L10 ((400 - (0 : Int)).toNat + 1) 0 0 x67 x69 H locs ls w57 (by decide) (by decide) (show 0 ≤ x67.toInt by omega) (show x67.toInt ≤ 400 by omega) (show 0 ≤ x69.toInt by omega) (show x69.toInt ≤ 400 by omega) (show (x69.toInt = f0_.toInt ∨ (gi w0 1 (f0_.toInt).toNat).toInt = 32) by first | omega | assumption | (left; omega) | (left; decide) | (right; assumption)) (Nat.lt_succ_self _) hw hT hF c68 c70 hM (lv_sub hl [2, 3, 1, 0] rfl)
  · replace hM := hM.call (r' := (-1)) hv76 (by decide)
    obtain ⟨x77, c78, rx77, tx77⟩ := hT.rdi (lo := 0) (hi := 400) (k := 14) kM_at0 (by decide) rfl
    have g74 : (x77.toInt = f0_.toInt ∨ (gi w0 1 (f0_.toInt).toNat).toInt = 32) := by have q := g74; simp only [cf0_, c78] at q; omega
    refine lv_pop hx hb dX12_isWord_4 rfl ?_
    refine lv_lconst (v := 0) hx hb dX12_isWord_5 (by decide) ?_
    refine lv_lstore_n (lv' := [(3, .long 0), (0, .ref (ad 0)), (1, .long 418548114533)]) hx hb dX12_isWord_6 rfl hl (by decide) rfl (fun ls hl => ?_)
    refine lv_iconst (v := 0) hx hb dX12_isWord_7 (by decide) ?_
    refine lv_istore (lv' := [(5, .int 0), (3, .long 0), (0, .ref (ad 0)), (1, .long 418548114533)]) hx hb dX12_isWord_8 hl (by decide) rfl (fun ls hl => ?_)
    exact L10 ((400 - (0 : Int)).toNat + 1) 0 0 x72 x77 H locs ls w57 (by decide) (by decide) (show 0 ≤ x72.toInt by omega) (show x72.toInt ≤ 400 by omega) (show 0 ≤ x77.toInt by omega) (show x77.toInt ≤ 400 by omega) (show (x77.toInt = f0_.toInt ∨ (gi w0 1 (f0_.toInt).toNat).toInt = 32) by first | omega | assumption | (left; omega) | (left; decide) | (right; assumption)) (Nat.lt_succ_self _) hw hT hF c73 c78 hM (lv_sub hl [2, 3, 1, 0] rfl)
abbrev Pz_X12_isWord_7 (ad : Nat → Nat) (cy : Nat → ClassId) (B : Int) (qr : Nat) (s1 : Int)  (w0 : va_W) : Int32 → va_W → Prop := fun r u => TW ksM ad cy B qr 12 u ∧ FE ksM [(12, 14, 14)] w0 u ∧ Ev (fun n => m_X12_isWord n 0 6386539 (sI w0)) (r.toInt, sI u) ∧ ((r = 0 ∧ (∃ y : Int32, gi u 0 1 = y ∧ 0 ≤ y.toInt ∧ y.toInt ≤ 400) ∧ (((gi u 0 14).toInt = (gi w0 0 14).toInt ∨ (gi w0 1 ((gi w0 0 14).toInt).toNat).toInt = 32))) ∨ (r = 1 ∧ (∃ y : Int32, gi u 0 1 = y ∧ 0 ≤ y.toInt ∧ y.toInt ≤ 400) ∧ (((gi u 0 14).toInt = (gi w0 0 14).toInt ∨ (gi w0 1 ((gi w0 0 14).toInt).toNat).toInt = 32))))
set_option maxHeartbeats 4000000 in
set_option maxRecDepth 100000 in
theorem kz_X12_isWord_7 (l : Launch) (adK adV : Nat → Nat) (dC : Nat → ClassId) (dI : Nat → Nat → Nat) (cy : Nat → ClassId) (ad : Nat → Nat) (B : Int) (hB0 : 100000 ≤ B) (hB1 : B ≤ 1073741824) (qr : Nat) (s1 : Int)   (w0 : va_W) (sz : Nat) (hT : TW ksM ad cy B qr 12 w0) (f0_ : Int32) (cf0_ : gi w0 0 14 = f0_) (rf0_ : 0 ≤ f0_.toInt) (tf0_ : f0_.toInt ≤ 400) : Met l yX12_isWord wsX12_isWord ({ frames := 2, cells := 0, slots := 0, locals := 33 }) (va_Pc [.ref (ad 0), .long 6386539] (wpreS adK adV dC dI cy sz w0)) (va_Qi (Pz_X12_isWord_7 ad cy B qr s1  w0) (fun u : va_W => wpost dC dI cy (va_A w0 sz) u) (va_A w0 sz)) 0 0 (va_A w0 sz) := by
  refine Met.ofW (cc := cX12_isWord) (maxL := 6) (ret := (some .boolean)) (by decide) rfl ?_
  intro p e s m args below meth c s₁ Bk hml hv
  obtain ⟨rfl, ⟨hsz, hP, hK, hD0⟩, hE, hSR⟩ := hv
  have hx := Bk.exec
  have hb := Bk.bytes
  have hr := Bk.returns
  have hlocks := Bk.notSynchronized
  have hC : CallFix p m c cX12_isWord 6 s _ wsX12_isWord RX12 := ⟨hx, hb, hml, findClass_of_methodNamed Bk.named, atoms_spec (ws := wsX12_isWord) Bk.pre⟩
  subst hsz
  have hD := hD0.self (sz := s.heap.size)
  generalize hAe : va_A w0 s.heap.size = A at hD hE ⊢
  have hA : ∀ q : Nat, s.heap.size ≤ q → A q := fun q h => by rw [← hAe]; exact Or.inr h
  have hw : Wd dC dI A s.heap s.heap [] w0 := ⟨hP, hD, va_S.rf⟩
  have hF : FE ksM [(12, 14, 14)] w0 w0 := FE.rf
  have hl := lv_entry ([.ref (ad 0), .long 6386539]) (n := 6) (Nat.le_of_ble_eq_true rfl)
  rw [lg_entry_eq]
  generalize (lg_sl ([.ref (ad 0), .long 6386539]) ++ List.replicate (6 - (lg_sl ([.ref (ad 0), .long 6386539])).length) Slot.unset).toArray = ls at hl ⊢
  have hl : lv_has ls 6 [(0, .ref (ad 0)), (1, .long 6386539)] := hl
  generalize hloc : ([] : List Loc) = locs at hw ⊢
  have hinX12 : ∀ w ∈ u_ws RX12 TX12 42, w ∈ wsX12_isWord := fun _ h => List.mem_cons_of_mem _ (List.mem_append_right _ (h))
  have J78 : ∀ (v78_3 : Int64) (v78_5 : Int32) (f78_0_1 : Int32) (f78_0_14 : Int32) (H : Heap) (locs : List Loc) (ls : Array Slot) (w1 : va_W), 0 ≤ v78_5.toInt → v78_5.toInt ≤ 400 → 0 ≤ f78_0_1.toInt → f78_0_1.toInt ≤ 400 → 0 ≤ f78_0_14.toInt → f78_0_14.toInt ≤ 400 → ((f78_0_14.toInt = f0_.toInt ∨ (gi w0 1 (f0_.toInt).toNat).toInt = 32)) → Wd dC dI A s.heap H locs w1 → TW ksM ad cy B qr 12 w1 → FE ksM [(12, 14, 14)] w0 w1 → gi w1 0 1 = f78_0_1 → gi w1 0 14 = f78_0_14 → TT (fun n => m_X12_isWord n 0 6386539 (sI w0)) (fun n => b_X12_isWord_78 (j_X12_isWord 0 n) n 0 (sI w1)) → lv_has ls 6 [(0, .ref (ad 0)), (1, .long 6386539), (3, .long v78_3), (5, .int v78_5)] → W p l e ({ frames := 2, cells := 0, slots := 0, locals := 33 }) s m (List.toArray [.ref (ad 0), .long 6386539]) below meth c H locs 0 0 (MQ below (va_Qi (Pz_X12_isWord_7 ad cy B qr s1  w0) (fun u : va_W => wpost dC dI cy A u) A) (List.toArray [.ref (ad 0), .long 6386539]) s 0 0 A) (F0 m 78 ls []) := by
    intro v78_3 v78_5 f78_0_1 f78_0_14 H locs ls w1 r2 t3 r4 t5 r7 t8 hcr78_0 hw hT hF c6 c9 hM hl
    refine lv_iconst (v := 0) hx hb dX12_isWord_78 (by decide) ?_
    exact tk_zret hC hr rfl hlocks hK ⟨hT, hF, hM.ret (by decide), (Or.inl ⟨rfl, ⟨f78_0_1, c6, (show 0 ≤ f78_0_1.toInt by omega), (show f78_0_1.toInt ≤ 400 by omega)⟩, (by simp only [cf0_, c9]; omega)⟩)⟩ hw dX12_isWord_79
  have L10 : ∀ (n10 : Nat) (v10_3 : Int64) (v10_5 : Int32) (f10_0_1 : Int32) (f10_0_14 : Int32) (H : Heap) (locs : List Loc) (ls : Array Slot) (w10 : va_W), 0 ≤ v10_5.toInt → v10_5.toInt ≤ 400 → 0 ≤ f10_0_1.toInt → f10_0_1.toInt ≤ 400 → 0 ≤ f10_0_14.toInt → f10_0_14.toInt ≤ 400 → ((f10_0_14.toInt = f0_.toInt ∨ (gi w0 1 (f0_.toInt).toNat).toInt = 32)) → (400 - v10_5.toInt).toNat < n10 → Wd dC dI A s.heap H locs w10 → TW ksM ad cy B qr 12 w10 → FE ksM [(12, 14, 14)] w0 w10 → gi w10 0 1 = f10_0_1 → gi w10 0 14 = f10_0_14 → TT (fun n => m_X12_isWord n 0 6386539 (sI w0)) (fun n => j_X12_isWord 0 n 10 [(6386539 : Int), v10_3.toInt, v10_5.toInt] (sI w10)) → lv_has ls 6 [(0, .ref (ad 0)), (1, .long 6386539), (3, .long v10_3), (5, .int v10_5)] → W p l e ({ frames := 2, cells := 0, slots := 0, locals := 33 }) s m (List.toArray [.ref (ad 0), .long 6386539]) below meth c H locs 0 0 (MQ below (va_Qi (Pz_X12_isWord_7 ad cy B qr s1  w0) (fun u : va_W => wpost dC dI cy A u) A) (List.toArray [.ref (ad 0), .long 6386539]) s 0 0 A) (F0 m 10 ls []) := by
    intro n10
    induction n10 with
    | zero => intro v10_3 v10_5 f10_0_1 f10_0_14 H locs ls w10 r11 t12 r13 t14 r16 t17 hcr10_0 hm10 hw hT hF c15 c18 hM hl; omega
    | succ n10 ih10 =>
      intro v10_3 v10_5 f10_0_1 f10_0_14 H locs ls w10 r11 t12 r13 t14 r16 t17 hcr10_0 hm10 hw hT hF c15 c18 hM hl
      have J50 : ∀ (v50_3 : Int64) (H : Heap) (locs : List Loc) (ls : Array Slot) (w19 : va_W), 0 ≤ v10_5.toInt → v10_5.toInt ≤ 399 → 1 ≤ f10_0_1.toInt → f10_0_1.toInt ≤ 400 → 0 ≤ f10_0_14.toInt → f10_0_14.toInt ≤ 399 → ((f10_0_14.toInt = f0_.toInt ∨ (gi w0 1 (f0_.toInt).toNat).toInt = 32)) → Wd dC dI A s.heap H locs w19 → TW ksM ad cy B qr 12 w19 → FE ksM [(12, 14, 14)] w0 w19 → gi w19 0 1 = f10_0_1 → gi w19 0 14 = f10_0_14 → TT (fun n => m_X12_isWord n 0 6386539 (sI w0)) (fun n => b_X12_isWord_50 (j_X12_isWord 0 n) n 0 (6386539 : Int) (v50_3.toInt) (v10_5.toInt) (sI w19)) → lv_has ls 6 [(0, .ref (ad 0)), (1, .long 6386539), (3, .long v50_3), (5, .int v10_5)] → W p l e ({ frames := 2, cells := 0, slots := 0, locals := 33 }) s m (List.toArray [.ref (ad 0), .long 6386539]) below meth c H locs 0 0 (MQ below (va_Qi (Pz_X12_isWord_7 ad cy B qr s1  w0) (fun u : va_W => wpost dC dI cy A u) A) (List.toArray [.ref (ad 0), .long 6386539]) s 0 0 A) (F0 m 50 ls []) := by
        intro v50_3 H locs ls w19 r20 t21 r22 t23 r25 t26 hcr50_0 hw hT hF c24 c27 hM hl
        obtain ⟨x28, ex28⟩ : ∃ y : Int32, y = v10_5 + Int32.ofInt 1 := ⟨_, rfl⟩
        have erx28 := ex28
        refine lv_iinc (v := x28) (lv' := [(5, .int x28), (0, .ref (ad 0)), (1, .long 6386539), (3, .long v50_3)]) hx hb dX12_isWord_50 hl (k := 3) rfl ex28.symm (by decide) rfl (fun ls hl => ?_)
        have ex28 : x28.toInt = v10_5.toInt + 1 := by rw [ex28]; exact wk_add (y := 1) (show -2147483648 ≤ v10_5.toInt + 1 by omega) (show v10_5.toInt + 1 ≤ 2147483647 by omega)
        replace hM := hM.lt ex28.symm
        refine lv_goto (tgt := 10) hx hb dX12_isWord_53 (by decide) ?_
        exact ih10 v50_3 x28 f10_0_1 f10_0_14 H locs ls w19 (show 0 ≤ x28.toInt by omega) (show x28.toInt ≤ 400 by omega) (show 0 ≤ f10_0_1.toInt by omega) (show f10_0_1.toInt ≤ 400 by omega) (show 0 ≤ f10_0_14.toInt by omega) (show f10_0_14.toInt ≤ 400 by omega) (show (f10_0_14.toInt = f0_.toInt ∨ (gi w0 1 (f0_.toInt).toNat).toInt = 32) by first | omega | assumption | (left; omega) | (left; decide) | (right; assumption)) (show (400 - x28.toInt).toNat < n10 by omega) hw hT hF c24 c27 hM (lv_sub hl [1, 2, 3, 0] rfl)
      replace hM := hM.suc (fun _ => e_X12_isWord_10)
      refine lv_aload_n hx hb dX12_isWord_10 rfl (lv_at hl 0 rfl) ?_
      refine lv_aload_n hx hb dX12_isWord_11 rfl (lv_at hl 0 rfl) ?_
      refine tk_geti hC hK hw hT hinX12 kM_at0 (by decide) rfl 14 (by decide) (List.mem_of_getElem? (i := 1) rfl) rfl rfl dX12_isWord_12 (fun x29 c30 rx29 tx29 => ?_)
      refine wk_top f10_0_14 (c30.symm.trans c18) ?_
      replace hM := hM.rd (sI_at c18)
      refine lv_iload hx hb dX12_isWord_15 (lv_at hl 3 rfl) ?_
      refine lv_iadd hx hb dX12_isWord_17 ?_
      refine lv_topi (fun x31 ex31 => ?_)
      have ezx31 := ex31
      have ex31 : x31.toInt = f10_0_14.toInt + v10_5.toInt := by rw [ex31]; exact wk_add (show (-2147483648) ≤ f10_0_14.toInt + v10_5.toInt by omega) (show f10_0_14.toInt + v10_5.toInt ≤ 2147483647 by omega)
      replace hM := hM.lt ex31.symm
      refine tk_Vi hC hK hw hT hA hE hSR kM_at0 (by decide) rfl (kz_X12_isLetter_1 l adK adV dC dI cy ad B (by omega) (by omega) qr s1   x31 (show 0 ≤ x31.toInt by omega) (show x31.toInt ≤ 800 by omega) w10 H.size hT ) (cwV 1 hC.2.2.2.2 gX12_isWord_X12_isLetter rfl rfl rfl (by decide +kernel) ⟨Nat.le_of_ble_eq_true rfl, Nat.le_of_ble_eq_true rfl⟩) rfl hl.1 rfl (Nat.le_of_ble_eq_true rfl) dX12_isWord_18 (fun r32 w34 H locs hp33 hw => ?_)
      obtain ⟨rfl, hv42, hg41⟩ := hp33
      rcases hg41 with ⟨rfl, ⟨x36, c37, rx36, tx36⟩⟩ | ⟨rfl, g38, ⟨x39, c40, rx39, tx39⟩⟩
      · replace hM := hM.call (r' := 0) hv42 (by decide)
        have ex36 : x36.toInt = f10_0_1.toInt := by rw [← c15.symm.trans c37]
        refine lv_if_eq (tgt := 56) hx hb dX12_isWord_21 (by decide) (fun _ => ?_) (fun c => absurd (by decide) c)
        replace hM := hM.pos (by decide)
        refine lv_iload hx hb dX12_isWord_56 (lv_at hl 3 rfl) ?_
        refine lv_if_le (tgt := 78) hx hb dX12_isWord_58 (by decide) (fun c43 => ?_) (fun c43 => ?_)
        · have c43 : v10_5.toInt ≤ (0 : Int) := wk_le.mp c43
          replace hM := hM.pos c43
          exact J78 v10_3 v10_5 f10_0_1 f10_0_14 H locs ls w10 (show 0 ≤ v10_5.toInt by omega) (show v10_5.toInt ≤ 400 by omega) (show 0 ≤ f10_0_1.toInt by omega) (show f10_0_1.toInt ≤ 400 by omega) (show 0 ≤ f10_0_14.toInt by omega) (show f10_0_14.toInt ≤ 400 by omega) (show (f10_0_14.toInt = f0_.toInt ∨ (gi w0 1 (f0_.toInt).toNat).toInt = 32) by first | omega | assumption | (left; omega) | (left; decide) | (right; assumption))  hw hT hF c15 c18 hM (lv_sub hl [0, 1, 2, 3] rfl)
        · have c43 : (0 : Int) < v10_5.toInt := wk_leF c43
          replace hM := hM.neg (Int.not_le.mpr c43)
          refine lv_iload hx hb dX12_isWord_61 (lv_at hl 3 rfl) ?_
          refine lv_bipush (v := 8) hx hb dX12_isWord_63 (by decide) ?_
          refine lv_icmp_ge (tgt := 78) hx hb dX12_isWord_65 (by decide) (fun c44 => ?_) (fun c44 => ?_)
          · have c44 : (8 : Int) ≤ v10_5.toInt := wk_le.mp c44
            replace hM := hM.pos c44
            exact J78 v10_3 v10_5 f10_0_1 f10_0_14 H locs ls w10 (show 0 ≤ v10_5.toInt by omega) (show v10_5.toInt ≤ 400 by omega) (show 0 ≤ f10_0_1.toInt by omega) (show f10_0_1.toInt ≤ 400 by omega) (show 0 ≤ f10_0_14.toInt by omega) (show f10_0_14.toInt ≤ 400 by omega) (show (f10_0_14.toInt = f0_.toInt ∨ (gi w0 1 (f0_.toInt).toNat).toInt = 32) by first | omega | assumption | (left; omega) | (left; decide) | (right; assumption))  hw hT hF c15 c18 hM (lv_sub hl [0, 1, 2, 3] rfl)
          · have c44 : v10_5.toInt < (8 : Int) := wk_leF c44
            replace hM := hM.neg (Int.not_le.mpr c44)
            refine lv_lload_n hx hb dX12_isWord_68 rfl (lv_at hl 2 rfl) ?_
            refine lv_lload_n hx hb dX12_isWord_69 rfl (lv_at hl 1 rfl) ?_
            refine W.lcmp hx hb dX12_isWord_70 ?_
            refine lv_if_ne (tgt := 78) hx hb dX12_isWord_71 (by decide) (fun c45 => ?_) (fun c45 => ?_)
            · have c45 : ¬ v10_3.toInt = (6386539 : Int) := wk_ceF c45
              replace hM := hM.pos c45
              exact J78 v10_3 v10_5 f10_0_1 f10_0_14 H locs ls w10 (show 0 ≤ v10_5.toInt by omega) (show v10_5.toInt ≤ 400 by omega) (show 0 ≤ f10_0_1.toInt by omega) (show f10_0_1.toInt ≤ 400 by omega) (show 0 ≤ f10_0_14.toInt by omega) (show f10_0_14.toInt ≤ 400 by omega) (show (f10_0_14.toInt = f0_.toInt ∨ (gi w0 1 (f0_.toInt).toNat).toInt = 32) by first | omega | assumption | (left; omega) | (left; decide) | (right; assumption))  hw hT hF c15 c18 hM (lv_sub hl [0, 1, 2, 3] rfl)
            · have c45 : v10_3.toInt = (6386539 : Int) := wk_ceT c45
              replace hM := hM.neg (fun q => q c45)
              refine lv_iconst (v := 1) hx hb dX12_isWord_74 (by decide) ?_
              refine lv_goto (tgt := 79) hx hb dX12_isWord_75 (by decide) ?_
              exact tk_zret hC hr rfl hlocks hK ⟨hT, hF, hM.ret (by decide), (Or.inr ⟨rfl, ⟨f10_0_1, c15, (show 0 ≤ f10_0_1.toInt by omega), (show f10_0_1.toInt ≤ 400 by omega)⟩, (by simp only [cf0_, c18]; omega)⟩)⟩ hw dX12_isWord_79
      · replace hM := hM.call (r' := 1) hv42 (by decide)
        have ex39 : x39.toInt = f10_0_1.toInt := by rw [← c15.symm.trans c40]
        refine lv_if_eq (tgt := 56) hx hb dX12_isWord_21 (by decide) (fun c => absurd c (by decide)) (fun _ => ?_)
        replace hM := hM.neg (by decide)
        refine lv_iload hx hb dX12_isWord_24 (lv_at hl 3 rfl) ?_
        refine lv_bipush (v := 8) hx hb dX12_isWord_26 (by decide) ?_
        refine lv_icmp_ge (tgt := 50) hx hb dX12_isWord_28 (by decide) (fun c46 => ?_) (fun c46 => ?_)
        · have c46 : (8 : Int) ≤ v10_5.toInt := wk_le.mp c46
          replace hM := hM.pos c46
          exact J50 v10_3 H locs ls w10 (show 0 ≤ v10_5.toInt by omega) (show v10_5.toInt ≤ 399 by omega) (show 1 ≤ f10_0_1.toInt by omega) (show f10_0_1.toInt ≤ 400 by omega) (show 0 ≤ f10_0_14.toInt by omega) (show f10_0_14.toInt ≤ 399 by omega) (show (f10_0_14.toInt = f0_.toInt ∨ (gi w0 1 (f0_.toInt).toNat).toInt = 32) by first | omega | assumption | (left; omega) | (left; decide) | (right; assumption))  hw hT hF c15 c18 hM (lv_sub hl [0, 1, 2, 3] rfl)
        · have c46 : v10_5.toInt < (8 : Int) := wk_leF c46
          replace hM := hM.neg (Int.not_le.mpr c46)
          refine lv_lload_n hx hb dX12_isWord_31 rfl (lv_at hl 2 rfl) ?_
          refine lv_bipush (v := 8) hx hb dX12_isWord_32 (by decide) ?_
          refine lv_lshl hx hb dX12_isWord_34 rfl ?_
          refine lv_topl (fun x47 ex47 => ?_)
          replace hM := hM.lt (mShlL_e ex47 rfl (by decide))
          refine lv_aload_n hx hb dX12_isWord_35 rfl (lv_at hl 0 rfl) ?_
          refine tk_getA hC hK hw hT hinX12 kM_at0 (by decide) rfl 0 (by decide) (List.mem_of_getElem? (i := 2) rfl) rfl rfl dX12_isWord_36 ?_
          refine lv_aload_n hx hb dX12_isWord_39 rfl (lv_at hl 0 rfl) ?_
          refine tk_geti hC hK hw hT hinX12 kM_at0 (by decide) rfl 14 (by decide) (List.mem_of_getElem? (i := 1) rfl) rfl rfl dX12_isWord_40 (fun x48 c49 rx48 tx48 => ?_)
          refine wk_top f10_0_14 (c49.symm.trans c18) ?_
          replace hM := hM.rd (sI_at c18)
          refine lv_iload hx hb dX12_isWord_43 (lv_at hl 3 rfl) ?_
          refine lv_iadd hx hb dX12_isWord_45 ?_
          refine lv_topi (fun x50 ex50 => ?_)
          have ezx50 := ex50
          have ex50 : x50.toInt = f10_0_14.toInt + v10_5.toInt := by rw [ex50]; exact wk_add (show (-2147483648) ≤ f10_0_14.toInt + v10_5.toInt by omega) (show f10_0_14.toInt + v10_5.toInt ≤ 2147483647 by omega)
          replace hM := hM.lt ex50.symm
          refine tk_bald hC hK hw hT kM_at1 rfl rfl (show 0 ≤ x50.toInt by omega) (show x50.toInt < 400 by omega) dX12_isWord_46 (fun x51 c52 rx51 tx51 => ?_)
          have hox51 := c52
          replace hM := hM.rd (sI_at hox51)
          have c52 : gi w10 1 (1 * f10_0_14.toInt + 1 * v10_5.toInt + 0).toNat = x51 := (congrArg (gi w10 1) (congrArg Int.toNat (show 1 * f10_0_14.toInt + 1 * v10_5.toInt + 0 = x50.toInt by omega))).trans c52
          refine lv_i2l hx hb dX12_isWord_47 rfl ?_
          refine lv_topl (fun x53 ex53 => ?_)
          have ex53 : x53.toInt = x51.toInt := by rw [ex53]; exact wk_i2l _
          have bx53 := wk_i32 x51
          replace hM := hM.lt ex53.symm
          refine lv_lor hx hb dX12_isWord_48 ?_
          refine lv_topl (fun x54 ex54 => ?_)
          have ezx54 := ex54
          replace hM := hM.lt (o64_e (f := fun x y => x ||| y) ezx54 rfl rfl)
          refine lv_lstore_n (lv' := [(3, .long x54), (0, .ref (ad 0)), (1, .long 6386539), (5, .int v10_5)]) hx hb dX12_isWord_49 rfl hl (by decide) rfl (fun ls hl => ?_)
          exact J50 x54 H locs ls w10 (show 0 ≤ v10_5.toInt by omega) (show v10_5.toInt ≤ 399 by omega) (show 1 ≤ f10_0_1.toInt by omega) (show f10_0_1.toInt ≤ 400 by omega) (show 0 ≤ f10_0_14.toInt by omega) (show f10_0_14.toInt ≤ 399 by omega) (show (f10_0_14.toInt = f0_.toInt ∨ (gi w0 1 (f0_.toInt).toNat).toInt = 32) by first | omega | assumption | (left; omega) | (left; decide) | (right; assumption) | (right; rw [c52]; omega) | (right; rw [c52]; decide))  hw hT hF c15 c18 hM (lv_sub hl [1, 2, 0, 3] rfl)
  have hM : TT (fun n => m_X12_isWord n 0 6386539 (sI w0)) (fun n => m_X12_isWord n 0 6386539 (sI w0)) := TT.rf
  refine lv_aload_n hx hb dX12_isWord_0 rfl (lv_at hl 0 rfl) ?_
  refine tk_Vi hC hK hw hT hA hE hSR kM_at0 (by decide) rfl (kz_X12_see_1 l adK adV dC dI cy ad B (by omega) (by omega) qr s1    w0 s.heap.size hT f0_ cf0_ (show 0 ≤ f0_.toInt by omega) (show f0_.toInt ≤ 400 by omega)) (cwV 0 hC.2.2.2.2 gX12_isWord_X12_see rfl rfl rfl (by decide +kernel) ⟨Nat.le_of_ble_eq_true rfl, Nat.le_of_ble_eq_true rfl⟩) rfl hl.1 rfl (Nat.le_of_ble_eq_true rfl) dX12_isWord_1 (fun r55 w57 H locs hp56 hw => ?_)
  obtain ⟨hT, k58, hv76, hg75⟩ := hp56
  have hF := hF.tr k58 (by decide)
  rcases hg75 with ⟨g59, g60, ⟨x61, c62, rx61, tx61⟩, ⟨x63, c64, rx63, tx63⟩, g65, g66⟩ | ⟨rfl, ⟨x67, c68, rx67, tx67⟩, ⟨x69, c70, rx69, tx69⟩, g71⟩ | ⟨rfl, ⟨x72, c73, rx72, tx72⟩, g74⟩
  · replace hM := hM.call hv76 rfl
    have g65 : (gi w57 1 (x63.toInt).toNat).toInt ≠ 32 := by have q := g65; simp only [c64] at q; omega
    have g66 : (x63.toInt = f0_.toInt ∨ (gi w0 1 (f0_.toInt).toNat).toInt = 32) := by have q := g66; simp only [cf0_, c64] at q; omega
    refine lv_pop hx hb dX12_isWord_4 rfl ?_
    refine lv_lconst (v := 0) hx hb dX12_isWord_5 (by decide) ?_
    refine lv_lstore_n (lv' := [(3, .long 0), (0, .ref (ad 0)), (1, .long 6386539)]) hx hb dX12_isWord_6 rfl hl (by decide) rfl (fun ls hl => ?_)
    refine lv_iconst (v := 0) hx hb dX12_isWord_7 (by decide) ?_
    refine lv_istore (lv' := [(5, .int 0), (3, .long 0), (0, .ref (ad 0)), (1, .long 6386539)]) hx hb dX12_isWord_8 hl (by decide) rfl (fun ls hl => ?_)
    exact L10 ((400 - (0 : Int)).toNat + 1) 0 0 x61 x63 H locs ls w57 (by decide) (by decide) (show 0 ≤ x61.toInt by omega) (show x61.toInt ≤ 400 by omega) (show 0 ≤ x63.toInt by omega) (show x63.toInt ≤ 400 by omega) (show (x63.toInt = f0_.toInt ∨ (gi w0 1 (f0_.toInt).toNat).toInt = 32) by first | omega | assumption | (left; omega) | (left; decide) | (right; assumption)) (Nat.lt_succ_self _) hw hT hF c62 c64 hM (lv_sub hl [2, 3, 1, 0] rfl)
  · replace hM := hM.call (r' := (-1)) hv76 (by decide)
    have g71 : (x69.toInt = f0_.toInt ∨ (gi w0 1 (f0_.toInt).toNat).toInt = 32) := by have q := g71; simp only [cf0_, c70] at q; omega
    refine lv_pop hx hb dX12_isWord_4 rfl ?_
    refine lv_lconst (v := 0) hx hb dX12_isWord_5 (by decide) ?_
    refine lv_lstore_n (lv' := [(3, .long 0), (0, .ref (ad 0)), (1, .long 6386539)]) hx hb dX12_isWord_6 rfl hl (by decide) rfl (fun ls hl => ?_)
    refine lv_iconst (v := 0) hx hb dX12_isWord_7 (by decide) ?_
    refine lv_istore (lv' := [(5, .int 0), (3, .long 0), (0, .ref (ad 0)), (1, .long 6386539)]) hx hb dX12_isWord_8 hl (by decide) rfl (fun ls hl => ?_)
    exact L10 ((400 - (0 : Int)).toNat + 1) 0 0 x67 x69 H locs ls w57 (by decide) (by decide) (show 0 ≤ x67.toInt by omega) (show x67.toInt ≤ 400 by omega) (show 0 ≤ x69.toInt by omega) (show x69.toInt ≤ 400 by omega) (show (x69.toInt = f0_.toInt ∨ (gi w0 1 (f0_.toInt).toNat).toInt = 32) by first | omega | assumption | (left; omega) | (left; decide) | (right; assumption)) (Nat.lt_succ_self _) hw hT hF c68 c70 hM (lv_sub hl [2, 3, 1, 0] rfl)
  · replace hM := hM.call (r' := (-1)) hv76 (by decide)
    obtain ⟨x77, c78, rx77, tx77⟩ := hT.rdi (lo := 0) (hi := 400) (k := 14) kM_at0 (by decide) rfl
    have g74 : (x77.toInt = f0_.toInt ∨ (gi w0 1 (f0_.toInt).toNat).toInt = 32) := by have q := g74; simp only [cf0_, c78] at q; omega
    refine lv_pop hx hb dX12_isWord_4 rfl ?_
    refine lv_lconst (v := 0) hx hb dX12_isWord_5 (by decide) ?_
    refine lv_lstore_n (lv' := [(3, .long 0), (0, .ref (ad 0)), (1, .long 6386539)]) hx hb dX12_isWord_6 rfl hl (by decide) rfl (fun ls hl => ?_)
    refine lv_iconst (v := 0) hx hb dX12_isWord_7 (by decide) ?_
    refine lv_istore (lv' := [(5, .int 0), (3, .long 0), (0, .ref (ad 0)), (1, .long 6386539)]) hx hb dX12_isWord_8 hl (by decide) rfl (fun ls hl => ?_)
    exact L10 ((400 - (0 : Int)).toNat + 1) 0 0 x72 x77 H locs ls w57 (by decide) (by decide) (show 0 ≤ x72.toInt by omega) (show x72.toInt ≤ 400 by omega) (show 0 ≤ x77.toInt by omega) (show x77.toInt ≤ 400 by omega) (show (x77.toInt = f0_.toInt ∨ (gi w0 1 (f0_.toInt).toNat).toInt = 32) by first | omega | assumption | (left; omega) | (left; decide) | (right; assumption)) (Nat.lt_succ_self _) hw hT hF c73 c78 hM (lv_sub hl [2, 3, 1, 0] rfl)
abbrev Pz_X12_isWord_8 (ad : Nat → Nat) (cy : Nat → ClassId) (B : Int) (qr : Nat) (s1 : Int)  (w0 : va_W) : Int32 → va_W → Prop := fun r u => TW ksM ad cy B qr 12 u ∧ FE ksM [(12, 14, 14)] w0 u ∧ Ev (fun n => m_X12_isWord n 0 2002872692 (sI w0)) (r.toInt, sI u) ∧ ((r = 0 ∧ (∃ y : Int32, gi u 0 1 = y ∧ 0 ≤ y.toInt ∧ y.toInt ≤ 400) ∧ (((gi u 0 14).toInt = (gi w0 0 14).toInt ∨ (gi w0 1 ((gi w0 0 14).toInt).toNat).toInt = 32))) ∨ (r = 1 ∧ (∃ y : Int32, gi u 0 1 = y ∧ 0 ≤ y.toInt ∧ y.toInt ≤ 400) ∧ (((gi u 0 14).toInt = (gi w0 0 14).toInt ∨ (gi w0 1 ((gi w0 0 14).toInt).toNat).toInt = 32))))
set_option maxHeartbeats 4000000 in
set_option maxRecDepth 100000 in
theorem kz_X12_isWord_8 (l : Launch) (adK adV : Nat → Nat) (dC : Nat → ClassId) (dI : Nat → Nat → Nat) (cy : Nat → ClassId) (ad : Nat → Nat) (B : Int) (hB0 : 100000 ≤ B) (hB1 : B ≤ 1073741824) (qr : Nat) (s1 : Int)   (w0 : va_W) (sz : Nat) (hT : TW ksM ad cy B qr 12 w0) (f0_ : Int32) (cf0_ : gi w0 0 14 = f0_) (rf0_ : 0 ≤ f0_.toInt) (tf0_ : f0_.toInt ≤ 400) : Met l yX12_isWord wsX12_isWord ({ frames := 2, cells := 0, slots := 0, locals := 33 }) (va_Pc [.ref (ad 0), .long 2002872692] (wpreS adK adV dC dI cy sz w0)) (va_Qi (Pz_X12_isWord_8 ad cy B qr s1  w0) (fun u : va_W => wpost dC dI cy (va_A w0 sz) u) (va_A w0 sz)) 0 0 (va_A w0 sz) := by
  refine Met.ofW (cc := cX12_isWord) (maxL := 6) (ret := (some .boolean)) (by decide) rfl ?_
  intro p e s m args below meth c s₁ Bk hml hv
  obtain ⟨rfl, ⟨hsz, hP, hK, hD0⟩, hE, hSR⟩ := hv
  have hx := Bk.exec
  have hb := Bk.bytes
  have hr := Bk.returns
  have hlocks := Bk.notSynchronized
  have hC : CallFix p m c cX12_isWord 6 s _ wsX12_isWord RX12 := ⟨hx, hb, hml, findClass_of_methodNamed Bk.named, atoms_spec (ws := wsX12_isWord) Bk.pre⟩
  subst hsz
  have hD := hD0.self (sz := s.heap.size)
  generalize hAe : va_A w0 s.heap.size = A at hD hE ⊢
  have hA : ∀ q : Nat, s.heap.size ≤ q → A q := fun q h => by rw [← hAe]; exact Or.inr h
  have hw : Wd dC dI A s.heap s.heap [] w0 := ⟨hP, hD, va_S.rf⟩
  have hF : FE ksM [(12, 14, 14)] w0 w0 := FE.rf
  have hl := lv_entry ([.ref (ad 0), .long 2002872692]) (n := 6) (Nat.le_of_ble_eq_true rfl)
  rw [lg_entry_eq]
  generalize (lg_sl ([.ref (ad 0), .long 2002872692]) ++ List.replicate (6 - (lg_sl ([.ref (ad 0), .long 2002872692])).length) Slot.unset).toArray = ls at hl ⊢
  have hl : lv_has ls 6 [(0, .ref (ad 0)), (1, .long 2002872692)] := hl
  generalize hloc : ([] : List Loc) = locs at hw ⊢
  have hinX12 : ∀ w ∈ u_ws RX12 TX12 42, w ∈ wsX12_isWord := fun _ h => List.mem_cons_of_mem _ (List.mem_append_right _ (h))
  have J78 : ∀ (v78_3 : Int64) (v78_5 : Int32) (f78_0_1 : Int32) (f78_0_14 : Int32) (H : Heap) (locs : List Loc) (ls : Array Slot) (w1 : va_W), 0 ≤ v78_5.toInt → v78_5.toInt ≤ 400 → 0 ≤ f78_0_1.toInt → f78_0_1.toInt ≤ 400 → 0 ≤ f78_0_14.toInt → f78_0_14.toInt ≤ 400 → ((f78_0_14.toInt = f0_.toInt ∨ (gi w0 1 (f0_.toInt).toNat).toInt = 32)) → Wd dC dI A s.heap H locs w1 → TW ksM ad cy B qr 12 w1 → FE ksM [(12, 14, 14)] w0 w1 → gi w1 0 1 = f78_0_1 → gi w1 0 14 = f78_0_14 → TT (fun n => m_X12_isWord n 0 2002872692 (sI w0)) (fun n => b_X12_isWord_78 (j_X12_isWord 0 n) n 0 (sI w1)) → lv_has ls 6 [(0, .ref (ad 0)), (1, .long 2002872692), (3, .long v78_3), (5, .int v78_5)] → W p l e ({ frames := 2, cells := 0, slots := 0, locals := 33 }) s m (List.toArray [.ref (ad 0), .long 2002872692]) below meth c H locs 0 0 (MQ below (va_Qi (Pz_X12_isWord_8 ad cy B qr s1  w0) (fun u : va_W => wpost dC dI cy A u) A) (List.toArray [.ref (ad 0), .long 2002872692]) s 0 0 A) (F0 m 78 ls []) := by
    intro v78_3 v78_5 f78_0_1 f78_0_14 H locs ls w1 r2 t3 r4 t5 r7 t8 hcr78_0 hw hT hF c6 c9 hM hl
    refine lv_iconst (v := 0) hx hb dX12_isWord_78 (by decide) ?_
    exact tk_zret hC hr rfl hlocks hK ⟨hT, hF, hM.ret (by decide), (Or.inl ⟨rfl, ⟨f78_0_1, c6, (show 0 ≤ f78_0_1.toInt by omega), (show f78_0_1.toInt ≤ 400 by omega)⟩, (by simp only [cf0_, c9]; omega)⟩)⟩ hw dX12_isWord_79
  have L10 : ∀ (n10 : Nat) (v10_3 : Int64) (v10_5 : Int32) (f10_0_1 : Int32) (f10_0_14 : Int32) (H : Heap) (locs : List Loc) (ls : Array Slot) (w10 : va_W), 0 ≤ v10_5.toInt → v10_5.toInt ≤ 400 → 0 ≤ f10_0_1.toInt → f10_0_1.toInt ≤ 400 → 0 ≤ f10_0_14.toInt → f10_0_14.toInt ≤ 400 → ((f10_0_14.toInt = f0_.toInt ∨ (gi w0 1 (f0_.toInt).toNat).toInt = 32)) → (400 - v10_5.toInt).toNat < n10 → Wd dC dI A s.heap H locs w10 → TW ksM ad cy B qr 12 w10 → FE ksM [(12, 14, 14)] w0 w10 → gi w10 0 1 = f10_0_1 → gi w10 0 14 = f10_0_14 → TT (fun n => m_X12_isWord n 0 2002872692 (sI w0)) (fun n => j_X12_isWord 0 n 10 [(2002872692 : Int), v10_3.toInt, v10_5.toInt] (sI w10)) → lv_has ls 6 [(0, .ref (ad 0)), (1, .long 2002872692), (3, .long v10_3), (5, .int v10_5)] → W p l e ({ frames := 2, cells := 0, slots := 0, locals := 33 }) s m (List.toArray [.ref (ad 0), .long 2002872692]) below meth c H locs 0 0 (MQ below (va_Qi (Pz_X12_isWord_8 ad cy B qr s1  w0) (fun u : va_W => wpost dC dI cy A u) A) (List.toArray [.ref (ad 0), .long 2002872692]) s 0 0 A) (F0 m 10 ls []) := by
    intro n10
    induction n10 with
    | zero => intro v10_3 v10_5 f10_0_1 f10_0_14 H locs ls w10 r11 t12 r13 t14 r16 t17 hcr10_0 hm10 hw hT hF c15 c18 hM hl; omega
    | succ n10 ih10 =>
      intro v10_3 v10_5 f10_0_1 f10_0_14 H locs ls w10 r11 t12 r13 t14 r16 t17 hcr10_0 hm10 hw hT hF c15 c18 hM hl
      have J50 : ∀ (v50_3 : Int64) (H : Heap) (locs : List Loc) (ls : Array Slot) (w19 : va_W), 0 ≤ v10_5.toInt → v10_5.toInt ≤ 399 → 1 ≤ f10_0_1.toInt → f10_0_1.toInt ≤ 400 → 0 ≤ f10_0_14.toInt → f10_0_14.toInt ≤ 399 → ((f10_0_14.toInt = f0_.toInt ∨ (gi w0 1 (f0_.toInt).toNat).toInt = 32)) → Wd dC dI A s.heap H locs w19 → TW ksM ad cy B qr 12 w19 → FE ksM [(12, 14, 14)] w0 w19 → gi w19 0 1 = f10_0_1 → gi w19 0 14 = f10_0_14 → TT (fun n => m_X12_isWord n 0 2002872692 (sI w0)) (fun n => b_X12_isWord_50 (j_X12_isWord 0 n) n 0 (2002872692 : Int) (v50_3.toInt) (v10_5.toInt) (sI w19)) → lv_has ls 6 [(0, .ref (ad 0)), (1, .long 2002872692), (3, .long v50_3), (5, .int v10_5)] → W p l e ({ frames := 2, cells := 0, slots := 0, locals := 33 }) s m (List.toArray [.ref (ad 0), .long 2002872692]) below meth c H locs 0 0 (MQ below (va_Qi (Pz_X12_isWord_8 ad cy B qr s1  w0) (fun u : va_W => wpost dC dI cy A u) A) (List.toArray [.ref (ad 0), .long 2002872692]) s 0 0 A) (F0 m 50 ls []) := by
        intro v50_3 H locs ls w19 r20 t21 r22 t23 r25 t26 hcr50_0 hw hT hF c24 c27 hM hl
        obtain ⟨x28, ex28⟩ : ∃ y : Int32, y = v10_5 + Int32.ofInt 1 := ⟨_, rfl⟩
        have erx28 := ex28
        refine lv_iinc (v := x28) (lv' := [(5, .int x28), (0, .ref (ad 0)), (1, .long 2002872692), (3, .long v50_3)]) hx hb dX12_isWord_50 hl (k := 3) rfl ex28.symm (by decide) rfl (fun ls hl => ?_)
        have ex28 : x28.toInt = v10_5.toInt + 1 := by rw [ex28]; exact wk_add (y := 1) (show -2147483648 ≤ v10_5.toInt + 1 by omega) (show v10_5.toInt + 1 ≤ 2147483647 by omega)
        replace hM := hM.lt ex28.symm
        refine lv_goto (tgt := 10) hx hb dX12_isWord_53 (by decide) ?_
        exact ih10 v50_3 x28 f10_0_1 f10_0_14 H locs ls w19 (show 0 ≤ x28.toInt by omega) (show x28.toInt ≤ 400 by omega) (show 0 ≤ f10_0_1.toInt by omega) (show f10_0_1.toInt ≤ 400 by omega) (show 0 ≤ f10_0_14.toInt by omega) (show f10_0_14.toInt ≤ 400 by omega) (show (f10_0_14.toInt = f0_.toInt ∨ (gi w0 1 (f0_.toInt).toNat).toInt = 32) by first | omega | assumption | (left; omega) | (left; decide) | (right; assumption)) (show (400 - x28.toInt).toNat < n10 by omega) hw hT hF c24 c27 hM (lv_sub hl [1, 2, 3, 0] rfl)
      replace hM := hM.suc (fun _ => e_X12_isWord_10)
      refine lv_aload_n hx hb dX12_isWord_10 rfl (lv_at hl 0 rfl) ?_
      refine lv_aload_n hx hb dX12_isWord_11 rfl (lv_at hl 0 rfl) ?_
      refine tk_geti hC hK hw hT hinX12 kM_at0 (by decide) rfl 14 (by decide) (List.mem_of_getElem? (i := 1) rfl) rfl rfl dX12_isWord_12 (fun x29 c30 rx29 tx29 => ?_)
      refine wk_top f10_0_14 (c30.symm.trans c18) ?_
      replace hM := hM.rd (sI_at c18)
      refine lv_iload hx hb dX12_isWord_15 (lv_at hl 3 rfl) ?_
      refine lv_iadd hx hb dX12_isWord_17 ?_
      refine lv_topi (fun x31 ex31 => ?_)
      have ezx31 := ex31
      have ex31 : x31.toInt = f10_0_14.toInt + v10_5.toInt := by rw [ex31]; exact wk_add (show (-2147483648) ≤ f10_0_14.toInt + v10_5.toInt by omega) (show f10_0_14.toInt + v10_5.toInt ≤ 2147483647 by omega)
      replace hM := hM.lt ex31.symm
      refine tk_Vi hC hK hw hT hA hE hSR kM_at0 (by decide) rfl (kz_X12_isLetter_1 l adK adV dC dI cy ad B (by omega) (by omega) qr s1   x31 (show 0 ≤ x31.toInt by omega) (show x31.toInt ≤ 800 by omega) w10 H.size hT ) (cwV 1 hC.2.2.2.2 gX12_isWord_X12_isLetter rfl rfl rfl (by decide +kernel) ⟨Nat.le_of_ble_eq_true rfl, Nat.le_of_ble_eq_true rfl⟩) rfl hl.1 rfl (Nat.le_of_ble_eq_true rfl) dX12_isWord_18 (fun r32 w34 H locs hp33 hw => ?_)
      obtain ⟨rfl, hv42, hg41⟩ := hp33
      rcases hg41 with ⟨rfl, ⟨x36, c37, rx36, tx36⟩⟩ | ⟨rfl, g38, ⟨x39, c40, rx39, tx39⟩⟩
      · replace hM := hM.call (r' := 0) hv42 (by decide)
        have ex36 : x36.toInt = f10_0_1.toInt := by rw [← c15.symm.trans c37]
        refine lv_if_eq (tgt := 56) hx hb dX12_isWord_21 (by decide) (fun _ => ?_) (fun c => absurd (by decide) c)
        replace hM := hM.pos (by decide)
        refine lv_iload hx hb dX12_isWord_56 (lv_at hl 3 rfl) ?_
        refine lv_if_le (tgt := 78) hx hb dX12_isWord_58 (by decide) (fun c43 => ?_) (fun c43 => ?_)
        · have c43 : v10_5.toInt ≤ (0 : Int) := wk_le.mp c43
          replace hM := hM.pos c43
          exact J78 v10_3 v10_5 f10_0_1 f10_0_14 H locs ls w10 (show 0 ≤ v10_5.toInt by omega) (show v10_5.toInt ≤ 400 by omega) (show 0 ≤ f10_0_1.toInt by omega) (show f10_0_1.toInt ≤ 400 by omega) (show 0 ≤ f10_0_14.toInt by omega) (show f10_0_14.toInt ≤ 400 by omega) (show (f10_0_14.toInt = f0_.toInt ∨ (gi w0 1 (f0_.toInt).toNat).toInt = 32) by first | omega | assumption | (left; omega) | (left; decide) | (right; assumption))  hw hT hF c15 c18 hM (lv_sub hl [0, 1, 2, 3] rfl)
        · have c43 : (0 : Int) < v10_5.toInt := wk_leF c43
          replace hM := hM.neg (Int.not_le.mpr c43)
          refine lv_iload hx hb dX12_isWord_61 (lv_at hl 3 rfl) ?_
          refine lv_bipush (v := 8) hx hb dX12_isWord_63 (by decide) ?_
          refine lv_icmp_ge (tgt := 78) hx hb dX12_isWord_65 (by decide) (fun c44 => ?_) (fun c44 => ?_)
          · have c44 : (8 : Int) ≤ v10_5.toInt := wk_le.mp c44
            replace hM := hM.pos c44
            exact J78 v10_3 v10_5 f10_0_1 f10_0_14 H locs ls w10 (show 0 ≤ v10_5.toInt by omega) (show v10_5.toInt ≤ 400 by omega) (show 0 ≤ f10_0_1.toInt by omega) (show f10_0_1.toInt ≤ 400 by omega) (show 0 ≤ f10_0_14.toInt by omega) (show f10_0_14.toInt ≤ 400 by omega) (show (f10_0_14.toInt = f0_.toInt ∨ (gi w0 1 (f0_.toInt).toNat).toInt = 32) by first | omega | assumption | (left; omega) | (left; decide) | (right; assumption))  hw hT hF c15 c18 hM (lv_sub hl [0, 1, 2, 3] rfl)
          · have c44 : v10_5.toInt < (8 : Int) := wk_leF c44
            replace hM := hM.neg (Int.not_le.mpr c44)
            refine lv_lload_n hx hb dX12_isWord_68 rfl (lv_at hl 2 rfl) ?_
            refine lv_lload_n hx hb dX12_isWord_69 rfl (lv_at hl 1 rfl) ?_
            refine W.lcmp hx hb dX12_isWord_70 ?_
            refine lv_if_ne (tgt := 78) hx hb dX12_isWord_71 (by decide) (fun c45 => ?_) (fun c45 => ?_)
            · have c45 : ¬ v10_3.toInt = (2002872692 : Int) := wk_ceF c45
              replace hM := hM.pos c45
              exact J78 v10_3 v10_5 f10_0_1 f10_0_14 H locs ls w10 (show 0 ≤ v10_5.toInt by omega) (show v10_5.toInt ≤ 400 by omega) (show 0 ≤ f10_0_1.toInt by omega) (show f10_0_1.toInt ≤ 400 by omega) (show 0 ≤ f10_0_14.toInt by omega) (show f10_0_14.toInt ≤ 400 by omega) (show (f10_0_14.toInt = f0_.toInt ∨ (gi w0 1 (f0_.toInt).toNat).toInt = 32) by first | omega | assumption | (left; omega) | (left; decide) | (right; assumption))  hw hT hF c15 c18 hM (lv_sub hl [0, 1, 2, 3] rfl)
            · have c45 : v10_3.toInt = (2002872692 : Int) := wk_ceT c45
              replace hM := hM.neg (fun q => q c45)
              refine lv_iconst (v := 1) hx hb dX12_isWord_74 (by decide) ?_
              refine lv_goto (tgt := 79) hx hb dX12_isWord_75 (by decide) ?_
              exact tk_zret hC hr rfl hlocks hK ⟨hT, hF, hM.ret (by decide), (Or.inr ⟨rfl, ⟨f10_0_1, c15, (show 0 ≤ f10_0_1.toInt by omega), (show f10_0_1.toInt ≤ 400 by omega)⟩, (by simp only [cf0_, c18]; omega)⟩)⟩ hw dX12_isWord_79
      · replace hM := hM.call (r' := 1) hv42 (by decide)
        have ex39 : x39.toInt = f10_0_1.toInt := by rw [← c15.symm.trans c40]
        refine lv_if_eq (tgt := 56) hx hb dX12_isWord_21 (by decide) (fun c => absurd c (by decide)) (fun _ => ?_)
        replace hM := hM.neg (by decide)
        refine lv_iload hx hb dX12_isWord_24 (lv_at hl 3 rfl) ?_
        refine lv_bipush (v := 8) hx hb dX12_isWord_26 (by decide) ?_
        refine lv_icmp_ge (tgt := 50) hx hb dX12_isWord_28 (by decide) (fun c46 => ?_) (fun c46 => ?_)
        · have c46 : (8 : Int) ≤ v10_5.toInt := wk_le.mp c46
          replace hM := hM.pos c46
          exact J50 v10_3 H locs ls w10 (show 0 ≤ v10_5.toInt by omega) (show v10_5.toInt ≤ 399 by omega) (show 1 ≤ f10_0_1.toInt by omega) (show f10_0_1.toInt ≤ 400 by omega) (show 0 ≤ f10_0_14.toInt by omega) (show f10_0_14.toInt ≤ 399 by omega) (show (f10_0_14.toInt = f0_.toInt ∨ (gi w0 1 (f0_.toInt).toNat).toInt = 32) by first | omega | assumption | (left; omega) | (left; decide) | (right; assumption))  hw hT hF c15 c18 hM (lv_sub hl [0, 1, 2, 3] rfl)
        · have c46 : v10_5.toInt < (8 : Int) := wk_leF c46
          replace hM := hM.neg (Int.not_le.mpr c46)
          refine lv_lload_n hx hb dX12_isWord_31 rfl (lv_at hl 2 rfl) ?_
          refine lv_bipush (v := 8) hx hb dX12_isWord_32 (by decide) ?_
          refine lv_lshl hx hb dX12_isWord_34 rfl ?_
          refine lv_topl (fun x47 ex47 => ?_)
          replace hM := hM.lt (mShlL_e ex47 rfl (by decide))
          refine lv_aload_n hx hb dX12_isWord_35 rfl (lv_at hl 0 rfl) ?_
          refine tk_getA hC hK hw hT hinX12 kM_at0 (by decide) rfl 0 (by decide) (List.mem_of_getElem? (i := 2) rfl) rfl rfl dX12_isWord_36 ?_
          refine lv_aload_n hx hb dX12_isWord_39 rfl (lv_at hl 0 rfl) ?_
          refine tk_geti hC hK hw hT hinX12 kM_at0 (by decide) rfl 14 (by decide) (List.mem_of_getElem? (i := 1) rfl) rfl rfl dX12_isWord_40 (fun x48 c49 rx48 tx48 => ?_)
          refine wk_top f10_0_14 (c49.symm.trans c18) ?_
          replace hM := hM.rd (sI_at c18)
          refine lv_iload hx hb dX12_isWord_43 (lv_at hl 3 rfl) ?_
          refine lv_iadd hx hb dX12_isWord_45 ?_
          refine lv_topi (fun x50 ex50 => ?_)
          have ezx50 := ex50
          have ex50 : x50.toInt = f10_0_14.toInt + v10_5.toInt := by rw [ex50]; exact wk_add (show (-2147483648) ≤ f10_0_14.toInt + v10_5.toInt by omega) (show f10_0_14.toInt + v10_5.toInt ≤ 2147483647 by omega)
          replace hM := hM.lt ex50.symm
          refine tk_bald hC hK hw hT kM_at1 rfl rfl (show 0 ≤ x50.toInt by omega) (show x50.toInt < 400 by omega) dX12_isWord_46 (fun x51 c52 rx51 tx51 => ?_)
          have hox51 := c52
          replace hM := hM.rd (sI_at hox51)
          have c52 : gi w10 1 (1 * f10_0_14.toInt + 1 * v10_5.toInt + 0).toNat = x51 := (congrArg (gi w10 1) (congrArg Int.toNat (show 1 * f10_0_14.toInt + 1 * v10_5.toInt + 0 = x50.toInt by omega))).trans c52
          refine lv_i2l hx hb dX12_isWord_47 rfl ?_
          refine lv_topl (fun x53 ex53 => ?_)
          have ex53 : x53.toInt = x51.toInt := by rw [ex53]; exact wk_i2l _
          have bx53 := wk_i32 x51
          replace hM := hM.lt ex53.symm
          refine lv_lor hx hb dX12_isWord_48 ?_
          refine lv_topl (fun x54 ex54 => ?_)
          have ezx54 := ex54
          replace hM := hM.lt (o64_e (f := fun x y => x ||| y) ezx54 rfl rfl)
          refine lv_lstore_n (lv' := [(3, .long x54), (0, .ref (ad 0)), (1, .long 2002872692), (5, .int v10_5)]) hx hb dX12_isWord_49 rfl hl (by decide) rfl (fun ls hl => ?_)
          exact J50 x54 H locs ls w10 (show 0 ≤ v10_5.toInt by omega) (show v10_5.toInt ≤ 399 by omega) (show 1 ≤ f10_0_1.toInt by omega) (show f10_0_1.toInt ≤ 400 by omega) (show 0 ≤ f10_0_14.toInt by omega) (show f10_0_14.toInt ≤ 399 by omega) (show (f10_0_14.toInt = f0_.toInt ∨ (gi w0 1 (f0_.toInt).toNat).toInt = 32) by first | omega | assumption | (left; omega) | (left; decide) | (right; assumption) | (right; rw [c52]; omega) | (right; rw [c52]; decide))  hw hT hF c15 c18 hM (lv_sub hl [1, 2, 0, 3] rfl)
  have hM : TT (fun n => m_X12_isWord n 0 2002872692 (sI w0)) (fun n => m_X12_isWord n 0 2002872692 (sI w0)) := TT.rf
  refine lv_aload_n hx hb dX12_isWord_0 rfl (lv_at hl 0 rfl) ?_
  refine tk_Vi hC hK hw hT hA hE hSR kM_at0 (by decide) rfl (kz_X12_see_1 l adK adV dC dI cy ad B (by omega) (by omega) qr s1    w0 s.heap.size hT f0_ cf0_ (show 0 ≤ f0_.toInt by omega) (show f0_.toInt ≤ 400 by omega)) (cwV 0 hC.2.2.2.2 gX12_isWord_X12_see rfl rfl rfl (by decide +kernel) ⟨Nat.le_of_ble_eq_true rfl, Nat.le_of_ble_eq_true rfl⟩) rfl hl.1 rfl (Nat.le_of_ble_eq_true rfl) dX12_isWord_1 (fun r55 w57 H locs hp56 hw => ?_)
  obtain ⟨hT, k58, hv76, hg75⟩ := hp56
  have hF := hF.tr k58 (by decide)
  rcases hg75 with ⟨g59, g60, ⟨x61, c62, rx61, tx61⟩, ⟨x63, c64, rx63, tx63⟩, g65, g66⟩ | ⟨rfl, ⟨x67, c68, rx67, tx67⟩, ⟨x69, c70, rx69, tx69⟩, g71⟩ | ⟨rfl, ⟨x72, c73, rx72, tx72⟩, g74⟩
  · replace hM := hM.call hv76 rfl
    have g65 : (gi w57 1 (x63.toInt).toNat).toInt ≠ 32 := by have q := g65; simp only [c64] at q; omega
    have g66 : (x63.toInt = f0_.toInt ∨ (gi w0 1 (f0_.toInt).toNat).toInt = 32) := by have q := g66; simp only [cf0_, c64] at q; omega
    refine lv_pop hx hb dX12_isWord_4 rfl ?_
    refine lv_lconst (v := 0) hx hb dX12_isWord_5 (by decide) ?_
    refine lv_lstore_n (lv' := [(3, .long 0), (0, .ref (ad 0)), (1, .long 2002872692)]) hx hb dX12_isWord_6 rfl hl (by decide) rfl (fun ls hl => ?_)
    refine lv_iconst (v := 0) hx hb dX12_isWord_7 (by decide) ?_
    refine lv_istore (lv' := [(5, .int 0), (3, .long 0), (0, .ref (ad 0)), (1, .long 2002872692)]) hx hb dX12_isWord_8 hl (by decide) rfl (fun ls hl => ?_)
    exact L10 ((400 - (0 : Int)).toNat + 1) 0 0 x61 x63 H locs ls w57 (by decide) (by decide) (show 0 ≤ x61.toInt by omega) (show x61.toInt ≤ 400 by omega) (show 0 ≤ x63.toInt by omega) (show x63.toInt ≤ 400 by omega) (show (x63.toInt = f0_.toInt ∨ (gi w0 1 (f0_.toInt).toNat).toInt = 32) by first | omega | assumption | (left; omega) | (left; decide) | (right; assumption)) (Nat.lt_succ_self _) hw hT hF c62 c64 hM (lv_sub hl [2, 3, 1, 0] rfl)
  · replace hM := hM.call (r' := (-1)) hv76 (by decide)
    have g71 : (x69.toInt = f0_.toInt ∨ (gi w0 1 (f0_.toInt).toNat).toInt = 32) := by have q := g71; simp only [cf0_, c70] at q; omega
    refine lv_pop hx hb dX12_isWord_4 rfl ?_
    refine lv_lconst (v := 0) hx hb dX12_isWord_5 (by decide) ?_
    refine lv_lstore_n (lv' := [(3, .long 0), (0, .ref (ad 0)), (1, .long 2002872692)]) hx hb dX12_isWord_6 rfl hl (by decide) rfl (fun ls hl => ?_)
    refine lv_iconst (v := 0) hx hb dX12_isWord_7 (by decide) ?_
    refine lv_istore (lv' := [(5, .int 0), (3, .long 0), (0, .ref (ad 0)), (1, .long 2002872692)]) hx hb dX12_isWord_8 hl (by decide) rfl (fun ls hl => ?_)
    exact L10 ((400 - (0 : Int)).toNat + 1) 0 0 x67 x69 H locs ls w57 (by decide) (by decide) (show 0 ≤ x67.toInt by omega) (show x67.toInt ≤ 400 by omega) (show 0 ≤ x69.toInt by omega) (show x69.toInt ≤ 400 by omega) (show (x69.toInt = f0_.toInt ∨ (gi w0 1 (f0_.toInt).toNat).toInt = 32) by first | omega | assumption | (left; omega) | (left; decide) | (right; assumption)) (Nat.lt_succ_self _) hw hT hF c68 c70 hM (lv_sub hl [2, 3, 1, 0] rfl)
  · replace hM := hM.call (r' := (-1)) hv76 (by decide)
    obtain ⟨x77, c78, rx77, tx77⟩ := hT.rdi (lo := 0) (hi := 400) (k := 14) kM_at0 (by decide) rfl
    have g74 : (x77.toInt = f0_.toInt ∨ (gi w0 1 (f0_.toInt).toNat).toInt = 32) := by have q := g74; simp only [cf0_, c78] at q; omega
    refine lv_pop hx hb dX12_isWord_4 rfl ?_
    refine lv_lconst (v := 0) hx hb dX12_isWord_5 (by decide) ?_
    refine lv_lstore_n (lv' := [(3, .long 0), (0, .ref (ad 0)), (1, .long 2002872692)]) hx hb dX12_isWord_6 rfl hl (by decide) rfl (fun ls hl => ?_)
    refine lv_iconst (v := 0) hx hb dX12_isWord_7 (by decide) ?_
    refine lv_istore (lv' := [(5, .int 0), (3, .long 0), (0, .ref (ad 0)), (1, .long 2002872692)]) hx hb dX12_isWord_8 hl (by decide) rfl (fun ls hl => ?_)
    exact L10 ((400 - (0 : Int)).toNat + 1) 0 0 x72 x77 H locs ls w57 (by decide) (by decide) (show 0 ≤ x72.toInt by omega) (show x72.toInt ≤ 400 by omega) (show 0 ≤ x77.toInt by omega) (show x77.toInt ≤ 400 by omega) (show (x77.toInt = f0_.toInt ∨ (gi w0 1 (f0_.toInt).toNat).toInt = 32) by first | omega | assumption | (left; omega) | (left; decide) | (right; assumption)) (Nat.lt_succ_self _) hw hT hF c73 c78 hM (lv_sub hl [2, 3, 1, 0] rfl)
abbrev Pz_X12_doingSort_1 (ad : Nat → Nat) (cy : Nat → ClassId) (B : Int) (qr : Nat) (s1 : Int)  (w0 : va_W) : Int32 → va_W → Prop := fun r u => TW ksM ad cy B qr 12 u ∧ FE ksM [(12, 14, 14)] w0 u ∧ Ev (fun n => m_X12_doingSort n 0 (sI w0)) (r.toInt, sI u) ∧ ((0 ≤ r.toInt ∧ r.toInt ≤ 3 ∧ (∃ y : Int32, gi u 0 1 = y ∧ 0 ≤ y.toInt ∧ y.toInt ≤ 400)) ∨ (r = (-1) ∧ (∃ y : Int32, gi u 0 1 = y ∧ 0 ≤ y.toInt ∧ y.toInt ≤ 400)))
set_option maxHeartbeats 4000000 in
set_option maxRecDepth 100000 in
theorem kz_X12_doingSort_1 (l : Launch) (adK adV : Nat → Nat) (dC : Nat → ClassId) (dI : Nat → Nat → Nat) (cy : Nat → ClassId) (ad : Nat → Nat) (B : Int) (hB0 : 100000 ≤ B) (hB1 : B ≤ 1073741824) (qr : Nat) (s1 : Int)   (w0 : va_W) (sz : Nat) (hT : TW ksM ad cy B qr 12 w0)  : Met l yX12_doingSort wsX12_doingSort ({ frames := 3, cells := 0, slots := 0, locals := 58 }) (va_Pc [.ref (ad 0)] (wpreS adK adV dC dI cy sz w0)) (va_Qi (Pz_X12_doingSort_1 ad cy B qr s1  w0) (fun u : va_W => wpost dC dI cy (va_A w0 sz) u) (va_A w0 sz)) 0 0 (va_A w0 sz) := by
  refine Met.ofW (cc := cX12_doingSort) (maxL := 1) (ret := (some .int)) (by decide) rfl ?_
  intro p e s m args below meth c s₁ Bk hml hv
  obtain ⟨rfl, ⟨hsz, hP, hK, hD0⟩, hE, hSR⟩ := hv
  have hx := Bk.exec
  have hb := Bk.bytes
  have hr := Bk.returns
  have hlocks := Bk.notSynchronized
  have hC : CallFix p m c cX12_doingSort 1 s _ wsX12_doingSort RX12 := ⟨hx, hb, hml, findClass_of_methodNamed Bk.named, atoms_spec (ws := wsX12_doingSort) Bk.pre⟩
  subst hsz
  have hD := hD0.self (sz := s.heap.size)
  generalize hAe : va_A w0 s.heap.size = A at hD hE ⊢
  have hA : ∀ q : Nat, s.heap.size ≤ q → A q := fun q h => by rw [← hAe]; exact Or.inr h
  have hw : Wd dC dI A s.heap s.heap [] w0 := ⟨hP, hD, va_S.rf⟩
  have hF : FE ksM [(12, 14, 14)] w0 w0 := FE.rf
  have hl := lv_entry ([.ref (ad 0)]) (n := 1) (Nat.le_of_ble_eq_true rfl)
  rw [lg_entry_eq]
  generalize (lg_sl ([.ref (ad 0)]) ++ List.replicate (1 - (lg_sl ([.ref (ad 0)])).length) Slot.unset).toArray = ls at hl ⊢
  have hl : lv_has ls 1 [(0, .ref (ad 0))] := hl
  generalize hloc : ([] : List Loc) = locs at hw ⊢
  have hM : TT (fun n => m_X12_doingSort n 0 (sI w0)) (fun n => m_X12_doingSort n 0 (sI w0)) := TT.rf
  refine lv_aload_n hx hb dX12_doingSort_0 rfl (lv_at hl 0 rfl) ?_
  refine lv_ldc2 (v := 26479) hx hb hC.2.2.2.1 (hC.2.2.2.2 _ (List.mem_of_getElem? (i := 1) rfl)) dX12_doingSort_1 ?_
  obtain ⟨x1, c2, rx1, tx1⟩ := hT.rdi (lo := 0) (hi := 400) (k := 14) kM_at0 (by decide) rfl
  refine tk_Vi hC hK hw hT hA hE hSR kM_at0 (by decide) rfl (kz_X12_isWord_5 l adK adV dC dI cy ad B (by omega) (by omega) qr s1    w0 s.heap.size hT x1 c2 (show 0 ≤ x1.toInt by omega) (show x1.toInt ≤ 400 by omega)) (cwV 1 hC.2.2.2.2 gX12_doingSort_X12_isWord rfl rfl rfl (by decide +kernel) ⟨Nat.le_of_ble_eq_true rfl, Nat.le_of_ble_eq_true rfl⟩) rfl hl.1 rfl (Nat.le_of_ble_eq_true rfl) dX12_doingSort_4 (fun r3 w5 H locs hp4 hw => ?_)
  obtain ⟨hT, k6, hv14, hg13⟩ := hp4
  have hF := hF.tr k6 (by decide)
  rcases hg13 with ⟨rfl, ⟨x7, c8, rx7, tx7⟩, g9⟩ | ⟨rfl, ⟨x10, c11, rx10, tx10⟩, g12⟩
  · replace hM := hM.call (r' := 0) hv14 (by decide)
    obtain ⟨x15, c16, rx15, tx15⟩ := hT.rdi (lo := 0) (hi := 400) (k := 14) kM_at0 (by decide) rfl
    have g9 : (x15.toInt = x1.toInt ∨ (gi w0 1 (x1.toInt).toNat).toInt = 32) := by have q := g9; simp only [c2, c16] at q; omega
    refine lv_if_eq (tgt := 14) hx hb dX12_doingSort_7 (by decide) (fun _ => ?_) (fun c => absurd (by decide) c)
    replace hM := hM.pos (by decide)
    refine lv_aload_n hx hb dX12_doingSort_14 rfl (lv_at hl 0 rfl) ?_
    refine lv_ldc2 (v := 418548114533) hx hb hC.2.2.2.1 (hC.2.2.2.2 _ (List.mem_of_getElem? (i := 2) rfl)) dX12_doingSort_15 ?_
    refine tk_Vi hC hK hw hT hA hE hSR kM_at0 (by decide) rfl (kz_X12_isWord_6 l adK adV dC dI cy ad B (by omega) (by omega) qr s1    w5 H.size hT x15 c16 (show 0 ≤ x15.toInt by omega) (show x15.toInt ≤ 400 by omega)) (cwV 1 hC.2.2.2.2 gX12_doingSort_X12_isWord rfl rfl rfl (by decide +kernel) ⟨Nat.le_of_ble_eq_true rfl, Nat.le_of_ble_eq_true rfl⟩) rfl hl.1 rfl (Nat.le_of_ble_eq_true rfl) dX12_doingSort_18 (fun r19 w21 H locs hp20 hw => ?_)
    obtain ⟨hT, k22, hv30, hg29⟩ := hp20
    have hF := hF.tr k22 (by decide)
    have c31 := k22.gi kM_at0 (by decide) c8
    rcases hg29 with ⟨rfl, ⟨x23, c24, rx23, tx23⟩, g25⟩ | ⟨rfl, ⟨x26, c27, rx26, tx26⟩, g28⟩
    · replace hM := hM.call (r' := 0) hv30 (by decide)
      have ex23 : x23.toInt = x7.toInt := by rw [← c31.symm.trans c24]
      obtain ⟨x32, c33, rx32, tx32⟩ := hT.rdi (lo := 0) (hi := 400) (k := 14) kM_at0 (by decide) rfl
      have g25 : (x32.toInt = x15.toInt ∨ (gi w5 1 (x15.toInt).toNat).toInt = 32) := by have q := g25; simp only [c16, c33] at q; omega
      refine lv_if_eq (tgt := 28) hx hb dX12_doingSort_21 (by decide) (fun _ => ?_) (fun c => absurd (by decide) c)
      replace hM := hM.pos (by decide)
      refine lv_aload_n hx hb dX12_doingSort_28 rfl (lv_at hl 0 rfl) ?_
      refine lv_ldc2 (v := 6386539) hx hb hC.2.2.2.1 (hC.2.2.2.2 _ (List.mem_of_getElem? (i := 3) rfl)) dX12_doingSort_29 ?_
      refine tk_Vi hC hK hw hT hA hE hSR kM_at0 (by decide) rfl (kz_X12_isWord_7 l adK adV dC dI cy ad B (by omega) (by omega) qr s1    w21 H.size hT x32 c33 (show 0 ≤ x32.toInt by omega) (show x32.toInt ≤ 400 by omega)) (cwV 1 hC.2.2.2.2 gX12_doingSort_X12_isWord rfl rfl rfl (by decide +kernel) ⟨Nat.le_of_ble_eq_true rfl, Nat.le_of_ble_eq_true rfl⟩) rfl hl.1 rfl (Nat.le_of_ble_eq_true rfl) dX12_doingSort_32 (fun r36 w38 H locs hp37 hw => ?_)
      obtain ⟨hT, k39, hv47, hg46⟩ := hp37
      have hF := hF.tr k39 (by decide)
      have c48 := k39.gi kM_at0 (by decide) c31
      rcases hg46 with ⟨rfl, ⟨x40, c41, rx40, tx40⟩, g42⟩ | ⟨rfl, ⟨x43, c44, rx43, tx43⟩, g45⟩
      · replace hM := hM.call (r' := 0) hv47 (by decide)
        have ex40 : x40.toInt = x7.toInt := by rw [← c48.symm.trans c41]
        obtain ⟨x49, c50, rx49, tx49⟩ := hT.rdi (lo := 0) (hi := 400) (k := 14) kM_at0 (by decide) rfl
        have g42 : (x49.toInt = x32.toInt ∨ (gi w21 1 (x32.toInt).toNat).toInt = 32) := by have q := g42; simp only [c33, c50] at q; omega
        refine lv_if_eq (tgt := 42) hx hb dX12_doingSort_35 (by decide) (fun _ => ?_) (fun c => absurd (by decide) c)
        replace hM := hM.pos (by decide)
        refine lv_aload_n hx hb dX12_doingSort_42 rfl (lv_at hl 0 rfl) ?_
        refine lv_ldc2 (v := 2002872692) hx hb hC.2.2.2.1 (hC.2.2.2.2 _ (List.mem_of_getElem? (i := 4) rfl)) dX12_doingSort_43 ?_
        refine tk_Vi hC hK hw hT hA hE hSR kM_at0 (by decide) rfl (kz_X12_isWord_8 l adK adV dC dI cy ad B (by omega) (by omega) qr s1    w38 H.size hT x49 c50 (show 0 ≤ x49.toInt by omega) (show x49.toInt ≤ 400 by omega)) (cwV 1 hC.2.2.2.2 gX12_doingSort_X12_isWord rfl rfl rfl (by decide +kernel) ⟨Nat.le_of_ble_eq_true rfl, Nat.le_of_ble_eq_true rfl⟩) rfl hl.1 rfl (Nat.le_of_ble_eq_true rfl) dX12_doingSort_46 (fun r53 w55 H locs hp54 hw => ?_)
        obtain ⟨hT, k56, hv64, hg63⟩ := hp54
        have hF := hF.tr k56 (by decide)
        have c65 := k56.gi kM_at0 (by decide) c48
        rcases hg63 with ⟨rfl, ⟨x57, c58, rx57, tx57⟩, g59⟩ | ⟨rfl, ⟨x60, c61, rx60, tx60⟩, g62⟩
        · replace hM := hM.call (r' := 0) hv64 (by decide)
          have ex57 : x57.toInt = x7.toInt := by rw [← c65.symm.trans c58]
          obtain ⟨x66, c67, rx66, tx66⟩ := hT.rdi (lo := 0) (hi := 400) (k := 14) kM_at0 (by decide) rfl
          have g59 : (x66.toInt = x49.toInt ∨ (gi w38 1 (x49.toInt).toNat).toInt = 32) := by have q := g59; simp only [c50, c67] at q; omega
          refine lv_if_eq (tgt := 56) hx hb dX12_doingSort_49 (by decide) (fun _ => ?_) (fun c => absurd (by decide) c)
          replace hM := hM.pos (by decide)
          refine lv_iconst (v := (-1)) hx hb dX12_doingSort_56 (by decide) ?_
          exact tk_iret hC hr hlocks hK ⟨hT, hF, hM.ret (by decide), (Or.inr ⟨rfl, ⟨x7, c65, (show 0 ≤ x7.toInt by omega), (show x7.toInt ≤ 400 by omega)⟩⟩)⟩ hw dX12_doingSort_57
        · replace hM := hM.call (r' := 1) hv64 (by decide)
          have ex60 : x60.toInt = x7.toInt := by rw [← c65.symm.trans c61]
          obtain ⟨x68, c69, rx68, tx68⟩ := hT.rdi (lo := 0) (hi := 400) (k := 14) kM_at0 (by decide) rfl
          have g62 : (x68.toInt = x49.toInt ∨ (gi w38 1 (x49.toInt).toNat).toInt = 32) := by have q := g62; simp only [c50, c69] at q; omega
          refine lv_if_eq (tgt := 56) hx hb dX12_doingSort_49 (by decide) (fun c => absurd c (by decide)) (fun _ => ?_)
          replace hM := hM.neg (by decide)
          refine lv_iconst (v := 3) hx hb dX12_doingSort_52 (by decide) ?_
          refine lv_goto (tgt := 57) hx hb dX12_doingSort_53 (by decide) ?_
          exact tk_iret hC hr hlocks hK ⟨hT, hF, hM.ret (by decide), (Or.inl ⟨(by decide), (by decide), ⟨x7, c65, (show 0 ≤ x7.toInt by omega), (show x7.toInt ≤ 400 by omega)⟩⟩)⟩ hw dX12_doingSort_57
      · replace hM := hM.call (r' := 1) hv47 (by decide)
        have ex43 : x43.toInt = x7.toInt := by rw [← c48.symm.trans c44]
        obtain ⟨x51, c52, rx51, tx51⟩ := hT.rdi (lo := 0) (hi := 400) (k := 14) kM_at0 (by decide) rfl
        have g45 : (x51.toInt = x32.toInt ∨ (gi w21 1 (x32.toInt).toNat).toInt = 32) := by have q := g45; simp only [c33, c52] at q; omega
        refine lv_if_eq (tgt := 42) hx hb dX12_doingSort_35 (by decide) (fun c => absurd c (by decide)) (fun _ => ?_)
        replace hM := hM.neg (by decide)
        refine lv_iconst (v := 2) hx hb dX12_doingSort_38 (by decide) ?_
        refine lv_goto (tgt := 57) hx hb dX12_doingSort_39 (by decide) ?_
        exact tk_iret hC hr hlocks hK ⟨hT, hF, hM.ret (by decide), (Or.inl ⟨(by decide), (by decide), ⟨x7, c48, (show 0 ≤ x7.toInt by omega), (show x7.toInt ≤ 400 by omega)⟩⟩)⟩ hw dX12_doingSort_57
    · replace hM := hM.call (r' := 1) hv30 (by decide)
      have ex26 : x26.toInt = x7.toInt := by rw [← c31.symm.trans c27]
      obtain ⟨x34, c35, rx34, tx34⟩ := hT.rdi (lo := 0) (hi := 400) (k := 14) kM_at0 (by decide) rfl
      have g28 : (x34.toInt = x15.toInt ∨ (gi w5 1 (x15.toInt).toNat).toInt = 32) := by have q := g28; simp only [c16, c35] at q; omega
      refine lv_if_eq (tgt := 28) hx hb dX12_doingSort_21 (by decide) (fun c => absurd c (by decide)) (fun _ => ?_)
      replace hM := hM.neg (by decide)
      refine lv_iconst (v := 1) hx hb dX12_doingSort_24 (by decide) ?_
      refine lv_goto (tgt := 57) hx hb dX12_doingSort_25 (by decide) ?_
      exact tk_iret hC hr hlocks hK ⟨hT, hF, hM.ret (by decide), (Or.inl ⟨(by decide), (by decide), ⟨x7, c31, (show 0 ≤ x7.toInt by omega), (show x7.toInt ≤ 400 by omega)⟩⟩)⟩ hw dX12_doingSort_57
  · replace hM := hM.call (r' := 1) hv14 (by decide)
    obtain ⟨x17, c18, rx17, tx17⟩ := hT.rdi (lo := 0) (hi := 400) (k := 14) kM_at0 (by decide) rfl
    have g12 : (x17.toInt = x1.toInt ∨ (gi w0 1 (x1.toInt).toNat).toInt = 32) := by have q := g12; simp only [c2, c18] at q; omega
    refine lv_if_eq (tgt := 14) hx hb dX12_doingSort_7 (by decide) (fun c => absurd c (by decide)) (fun _ => ?_)
    replace hM := hM.neg (by decide)
    refine lv_iconst (v := 0) hx hb dX12_doingSort_10 (by decide) ?_
    refine lv_goto (tgt := 57) hx hb dX12_doingSort_11 (by decide) ?_
    exact tk_iret hC hr hlocks hK ⟨hT, hF, hM.ret (by decide), (Or.inl ⟨(by decide), (by decide), ⟨x10, c11, (show 0 ≤ x10.toInt by omega), (show x10.toInt ≤ 400 by omega)⟩⟩)⟩ hw dX12_doingSort_57
abbrev Pz_X12_isWord_9 (ad : Nat → Nat) (cy : Nat → ClassId) (B : Int) (qr : Nat) (s1 : Int)  (w0 : va_W) : Int32 → va_W → Prop := fun r u => TW ksM ad cy B qr 12 u ∧ FE ksM [(12, 14, 14)] w0 u ∧ Ev (fun n => m_X12_isWord n 0 26982 (sI w0)) (r.toInt, sI u) ∧ ((r = 0 ∧ (∃ y : Int32, gi u 0 1 = y ∧ 0 ≤ y.toInt ∧ y.toInt ≤ 400) ∧ (((gi u 0 14).toInt = (gi w0 0 14).toInt ∨ (gi w0 1 ((gi w0 0 14).toInt).toNat).toInt = 32))) ∨ (r = 1 ∧ (∃ y : Int32, gi u 0 1 = y ∧ 0 ≤ y.toInt ∧ y.toInt ≤ 400) ∧ (((gi u 0 14).toInt = (gi w0 0 14).toInt ∨ (gi w0 1 ((gi w0 0 14).toInt).toNat).toInt = 32))))
set_option maxHeartbeats 4000000 in
set_option maxRecDepth 100000 in
theorem kz_X12_isWord_9 (l : Launch) (adK adV : Nat → Nat) (dC : Nat → ClassId) (dI : Nat → Nat → Nat) (cy : Nat → ClassId) (ad : Nat → Nat) (B : Int) (hB0 : 100000 ≤ B) (hB1 : B ≤ 1073741824) (qr : Nat) (s1 : Int)   (w0 : va_W) (sz : Nat) (hT : TW ksM ad cy B qr 12 w0) (f0_ : Int32) (cf0_ : gi w0 0 14 = f0_) (rf0_ : 0 ≤ f0_.toInt) (tf0_ : f0_.toInt ≤ 400) : Met l yX12_isWord wsX12_isWord ({ frames := 2, cells := 0, slots := 0, locals := 33 }) (va_Pc [.ref (ad 0), .long 26982] (wpreS adK adV dC dI cy sz w0)) (va_Qi (Pz_X12_isWord_9 ad cy B qr s1  w0) (fun u : va_W => wpost dC dI cy (va_A w0 sz) u) (va_A w0 sz)) 0 0 (va_A w0 sz) := by
  refine Met.ofW (cc := cX12_isWord) (maxL := 6) (ret := (some .boolean)) (by decide) rfl ?_
  intro p e s m args below meth c s₁ Bk hml hv
  obtain ⟨rfl, ⟨hsz, hP, hK, hD0⟩, hE, hSR⟩ := hv
  have hx := Bk.exec
  have hb := Bk.bytes
  have hr := Bk.returns
  have hlocks := Bk.notSynchronized
  have hC : CallFix p m c cX12_isWord 6 s _ wsX12_isWord RX12 := ⟨hx, hb, hml, findClass_of_methodNamed Bk.named, atoms_spec (ws := wsX12_isWord) Bk.pre⟩
  subst hsz
  have hD := hD0.self (sz := s.heap.size)
  generalize hAe : va_A w0 s.heap.size = A at hD hE ⊢
  have hA : ∀ q : Nat, s.heap.size ≤ q → A q := fun q h => by rw [← hAe]; exact Or.inr h
  have hw : Wd dC dI A s.heap s.heap [] w0 := ⟨hP, hD, va_S.rf⟩
  have hF : FE ksM [(12, 14, 14)] w0 w0 := FE.rf
  have hl := lv_entry ([.ref (ad 0), .long 26982]) (n := 6) (Nat.le_of_ble_eq_true rfl)
  rw [lg_entry_eq]
  generalize (lg_sl ([.ref (ad 0), .long 26982]) ++ List.replicate (6 - (lg_sl ([.ref (ad 0), .long 26982])).length) Slot.unset).toArray = ls at hl ⊢
  have hl : lv_has ls 6 [(0, .ref (ad 0)), (1, .long 26982)] := hl
  generalize hloc : ([] : List Loc) = locs at hw ⊢
  have hinX12 : ∀ w ∈ u_ws RX12 TX12 42, w ∈ wsX12_isWord := fun _ h => List.mem_cons_of_mem _ (List.mem_append_right _ (h))
  have J78 : ∀ (v78_3 : Int64) (v78_5 : Int32) (f78_0_1 : Int32) (f78_0_14 : Int32) (H : Heap) (locs : List Loc) (ls : Array Slot) (w1 : va_W), 0 ≤ v78_5.toInt → v78_5.toInt ≤ 400 → 0 ≤ f78_0_1.toInt → f78_0_1.toInt ≤ 400 → 0 ≤ f78_0_14.toInt → f78_0_14.toInt ≤ 400 → ((f78_0_14.toInt = f0_.toInt ∨ (gi w0 1 (f0_.toInt).toNat).toInt = 32)) → Wd dC dI A s.heap H locs w1 → TW ksM ad cy B qr 12 w1 → FE ksM [(12, 14, 14)] w0 w1 → gi w1 0 1 = f78_0_1 → gi w1 0 14 = f78_0_14 → TT (fun n => m_X12_isWord n 0 26982 (sI w0)) (fun n => b_X12_isWord_78 (j_X12_isWord 0 n) n 0 (sI w1)) → lv_has ls 6 [(0, .ref (ad 0)), (1, .long 26982), (3, .long v78_3), (5, .int v78_5)] → W p l e ({ frames := 2, cells := 0, slots := 0, locals := 33 }) s m (List.toArray [.ref (ad 0), .long 26982]) below meth c H locs 0 0 (MQ below (va_Qi (Pz_X12_isWord_9 ad cy B qr s1  w0) (fun u : va_W => wpost dC dI cy A u) A) (List.toArray [.ref (ad 0), .long 26982]) s 0 0 A) (F0 m 78 ls []) := by
    intro v78_3 v78_5 f78_0_1 f78_0_14 H locs ls w1 r2 t3 r4 t5 r7 t8 hcr78_0 hw hT hF c6 c9 hM hl
    refine lv_iconst (v := 0) hx hb dX12_isWord_78 (by decide) ?_
    exact tk_zret hC hr rfl hlocks hK ⟨hT, hF, hM.ret (by decide), (Or.inl ⟨rfl, ⟨f78_0_1, c6, (show 0 ≤ f78_0_1.toInt by omega), (show f78_0_1.toInt ≤ 400 by omega)⟩, (by simp only [cf0_, c9]; omega)⟩)⟩ hw dX12_isWord_79
  have L10 : ∀ (n10 : Nat) (v10_3 : Int64) (v10_5 : Int32) (f10_0_1 : Int32) (f10_0_14 : Int32) (H : Heap) (locs : List Loc) (ls : Array Slot) (w10 : va_W), 0 ≤ v10_5.toInt → v10_5.toInt ≤ 400 → 0 ≤ f10_0_1.toInt → f10_0_1.toInt ≤ 400 → 0 ≤ f10_0_14.toInt → f10_0_14.toInt ≤ 400 → ((f10_0_14.toInt = f0_.toInt ∨ (gi w0 1 (f0_.toInt).toNat).toInt = 32)) → (400 - v10_5.toInt).toNat < n10 → Wd dC dI A s.heap H locs w10 → TW ksM ad cy B qr 12 w10 → FE ksM [(12, 14, 14)] w0 w10 → gi w10 0 1 = f10_0_1 → gi w10 0 14 = f10_0_14 → TT (fun n => m_X12_isWord n 0 26982 (sI w0)) (fun n => j_X12_isWord 0 n 10 [(26982 : Int), v10_3.toInt, v10_5.toInt] (sI w10)) → lv_has ls 6 [(0, .ref (ad 0)), (1, .long 26982), (3, .long v10_3), (5, .int v10_5)] → W p l e ({ frames := 2, cells := 0, slots := 0, locals := 33 }) s m (List.toArray [.ref (ad 0), .long 26982]) below meth c H locs 0 0 (MQ below (va_Qi (Pz_X12_isWord_9 ad cy B qr s1  w0) (fun u : va_W => wpost dC dI cy A u) A) (List.toArray [.ref (ad 0), .long 26982]) s 0 0 A) (F0 m 10 ls []) := by
    intro n10
    induction n10 with
    | zero => intro v10_3 v10_5 f10_0_1 f10_0_14 H locs ls w10 r11 t12 r13 t14 r16 t17 hcr10_0 hm10 hw hT hF c15 c18 hM hl; omega
    | succ n10 ih10 =>
      intro v10_3 v10_5 f10_0_1 f10_0_14 H locs ls w10 r11 t12 r13 t14 r16 t17 hcr10_0 hm10 hw hT hF c15 c18 hM hl
      have J50 : ∀ (v50_3 : Int64) (H : Heap) (locs : List Loc) (ls : Array Slot) (w19 : va_W), 0 ≤ v10_5.toInt → v10_5.toInt ≤ 399 → 1 ≤ f10_0_1.toInt → f10_0_1.toInt ≤ 400 → 0 ≤ f10_0_14.toInt → f10_0_14.toInt ≤ 399 → ((f10_0_14.toInt = f0_.toInt ∨ (gi w0 1 (f0_.toInt).toNat).toInt = 32)) → Wd dC dI A s.heap H locs w19 → TW ksM ad cy B qr 12 w19 → FE ksM [(12, 14, 14)] w0 w19 → gi w19 0 1 = f10_0_1 → gi w19 0 14 = f10_0_14 → TT (fun n => m_X12_isWord n 0 26982 (sI w0)) (fun n => b_X12_isWord_50 (j_X12_isWord 0 n) n 0 (26982 : Int) (v50_3.toInt) (v10_5.toInt) (sI w19)) → lv_has ls 6 [(0, .ref (ad 0)), (1, .long 26982), (3, .long v50_3), (5, .int v10_5)] → W p l e ({ frames := 2, cells := 0, slots := 0, locals := 33 }) s m (List.toArray [.ref (ad 0), .long 26982]) below meth c H locs 0 0 (MQ below (va_Qi (Pz_X12_isWord_9 ad cy B qr s1  w0) (fun u : va_W => wpost dC dI cy A u) A) (List.toArray [.ref (ad 0), .long 26982]) s 0 0 A) (F0 m 50 ls []) := by
        intro v50_3 H locs ls w19 r20 t21 r22 t23 r25 t26 hcr50_0 hw hT hF c24 c27 hM hl
        obtain ⟨x28, ex28⟩ : ∃ y : Int32, y = v10_5 + Int32.ofInt 1 := ⟨_, rfl⟩
        have erx28 := ex28
        refine lv_iinc (v := x28) (lv' := [(5, .int x28), (0, .ref (ad 0)), (1, .long 26982), (3, .long v50_3)]) hx hb dX12_isWord_50 hl (k := 3) rfl ex28.symm (by decide) rfl (fun ls hl => ?_)
        have ex28 : x28.toInt = v10_5.toInt + 1 := by rw [ex28]; exact wk_add (y := 1) (show -2147483648 ≤ v10_5.toInt + 1 by omega) (show v10_5.toInt + 1 ≤ 2147483647 by omega)
        replace hM := hM.lt ex28.symm
        refine lv_goto (tgt := 10) hx hb dX12_isWord_53 (by decide) ?_
        exact ih10 v50_3 x28 f10_0_1 f10_0_14 H locs ls w19 (show 0 ≤ x28.toInt by omega) (show x28.toInt ≤ 400 by omega) (show 0 ≤ f10_0_1.toInt by omega) (show f10_0_1.toInt ≤ 400 by omega) (show 0 ≤ f10_0_14.toInt by omega) (show f10_0_14.toInt ≤ 400 by omega) (show (f10_0_14.toInt = f0_.toInt ∨ (gi w0 1 (f0_.toInt).toNat).toInt = 32) by first | omega | assumption | (left; omega) | (left; decide) | (right; assumption)) (show (400 - x28.toInt).toNat < n10 by omega) hw hT hF c24 c27 hM (lv_sub hl [1, 2, 3, 0] rfl)
      replace hM := hM.suc (fun _ => e_X12_isWord_10)
      refine lv_aload_n hx hb dX12_isWord_10 rfl (lv_at hl 0 rfl) ?_
      refine lv_aload_n hx hb dX12_isWord_11 rfl (lv_at hl 0 rfl) ?_
      refine tk_geti hC hK hw hT hinX12 kM_at0 (by decide) rfl 14 (by decide) (List.mem_of_getElem? (i := 1) rfl) rfl rfl dX12_isWord_12 (fun x29 c30 rx29 tx29 => ?_)
      refine wk_top f10_0_14 (c30.symm.trans c18) ?_
      replace hM := hM.rd (sI_at c18)
      refine lv_iload hx hb dX12_isWord_15 (lv_at hl 3 rfl) ?_
      refine lv_iadd hx hb dX12_isWord_17 ?_
      refine lv_topi (fun x31 ex31 => ?_)
      have ezx31 := ex31
      have ex31 : x31.toInt = f10_0_14.toInt + v10_5.toInt := by rw [ex31]; exact wk_add (show (-2147483648) ≤ f10_0_14.toInt + v10_5.toInt by omega) (show f10_0_14.toInt + v10_5.toInt ≤ 2147483647 by omega)
      replace hM := hM.lt ex31.symm
      refine tk_Vi hC hK hw hT hA hE hSR kM_at0 (by decide) rfl (kz_X12_isLetter_1 l adK adV dC dI cy ad B (by omega) (by omega) qr s1   x31 (show 0 ≤ x31.toInt by omega) (show x31.toInt ≤ 800 by omega) w10 H.size hT ) (cwV 1 hC.2.2.2.2 gX12_isWord_X12_isLetter rfl rfl rfl (by decide +kernel) ⟨Nat.le_of_ble_eq_true rfl, Nat.le_of_ble_eq_true rfl⟩) rfl hl.1 rfl (Nat.le_of_ble_eq_true rfl) dX12_isWord_18 (fun r32 w34 H locs hp33 hw => ?_)
      obtain ⟨rfl, hv42, hg41⟩ := hp33
      rcases hg41 with ⟨rfl, ⟨x36, c37, rx36, tx36⟩⟩ | ⟨rfl, g38, ⟨x39, c40, rx39, tx39⟩⟩
      · replace hM := hM.call (r' := 0) hv42 (by decide)
        have ex36 : x36.toInt = f10_0_1.toInt := by rw [← c15.symm.trans c37]
        refine lv_if_eq (tgt := 56) hx hb dX12_isWord_21 (by decide) (fun _ => ?_) (fun c => absurd (by decide) c)
        replace hM := hM.pos (by decide)
        refine lv_iload hx hb dX12_isWord_56 (lv_at hl 3 rfl) ?_
        refine lv_if_le (tgt := 78) hx hb dX12_isWord_58 (by decide) (fun c43 => ?_) (fun c43 => ?_)
        · have c43 : v10_5.toInt ≤ (0 : Int) := wk_le.mp c43
          replace hM := hM.pos c43
          exact J78 v10_3 v10_5 f10_0_1 f10_0_14 H locs ls w10 (show 0 ≤ v10_5.toInt by omega) (show v10_5.toInt ≤ 400 by omega) (show 0 ≤ f10_0_1.toInt by omega) (show f10_0_1.toInt ≤ 400 by omega) (show 0 ≤ f10_0_14.toInt by omega) (show f10_0_14.toInt ≤ 400 by omega) (show (f10_0_14.toInt = f0_.toInt ∨ (gi w0 1 (f0_.toInt).toNat).toInt = 32) by first | omega | assumption | (left; omega) | (left; decide) | (right; assumption))  hw hT hF c15 c18 hM (lv_sub hl [0, 1, 2, 3] rfl)
        · have c43 : (0 : Int) < v10_5.toInt := wk_leF c43
          replace hM := hM.neg (Int.not_le.mpr c43)
          refine lv_iload hx hb dX12_isWord_61 (lv_at hl 3 rfl) ?_
          refine lv_bipush (v := 8) hx hb dX12_isWord_63 (by decide) ?_
          refine lv_icmp_ge (tgt := 78) hx hb dX12_isWord_65 (by decide) (fun c44 => ?_) (fun c44 => ?_)
          · have c44 : (8 : Int) ≤ v10_5.toInt := wk_le.mp c44
            replace hM := hM.pos c44
            exact J78 v10_3 v10_5 f10_0_1 f10_0_14 H locs ls w10 (show 0 ≤ v10_5.toInt by omega) (show v10_5.toInt ≤ 400 by omega) (show 0 ≤ f10_0_1.toInt by omega) (show f10_0_1.toInt ≤ 400 by omega) (show 0 ≤ f10_0_14.toInt by omega) (show f10_0_14.toInt ≤ 400 by omega) (show (f10_0_14.toInt = f0_.toInt ∨ (gi w0 1 (f0_.toInt).toNat).toInt = 32) by first | omega | assumption | (left; omega) | (left; decide) | (right; assumption))  hw hT hF c15 c18 hM (lv_sub hl [0, 1, 2, 3] rfl)
          · have c44 : v10_5.toInt < (8 : Int) := wk_leF c44
            replace hM := hM.neg (Int.not_le.mpr c44)
            refine lv_lload_n hx hb dX12_isWord_68 rfl (lv_at hl 2 rfl) ?_
            refine lv_lload_n hx hb dX12_isWord_69 rfl (lv_at hl 1 rfl) ?_
            refine W.lcmp hx hb dX12_isWord_70 ?_
            refine lv_if_ne (tgt := 78) hx hb dX12_isWord_71 (by decide) (fun c45 => ?_) (fun c45 => ?_)
            · have c45 : ¬ v10_3.toInt = (26982 : Int) := wk_ceF c45
              replace hM := hM.pos c45
              exact J78 v10_3 v10_5 f10_0_1 f10_0_14 H locs ls w10 (show 0 ≤ v10_5.toInt by omega) (show v10_5.toInt ≤ 400 by omega) (show 0 ≤ f10_0_1.toInt by omega) (show f10_0_1.toInt ≤ 400 by omega) (show 0 ≤ f10_0_14.toInt by omega) (show f10_0_14.toInt ≤ 400 by omega) (show (f10_0_14.toInt = f0_.toInt ∨ (gi w0 1 (f0_.toInt).toNat).toInt = 32) by first | omega | assumption | (left; omega) | (left; decide) | (right; assumption))  hw hT hF c15 c18 hM (lv_sub hl [0, 1, 2, 3] rfl)
            · have c45 : v10_3.toInt = (26982 : Int) := wk_ceT c45
              replace hM := hM.neg (fun q => q c45)
              refine lv_iconst (v := 1) hx hb dX12_isWord_74 (by decide) ?_
              refine lv_goto (tgt := 79) hx hb dX12_isWord_75 (by decide) ?_
              exact tk_zret hC hr rfl hlocks hK ⟨hT, hF, hM.ret (by decide), (Or.inr ⟨rfl, ⟨f10_0_1, c15, (show 0 ≤ f10_0_1.toInt by omega), (show f10_0_1.toInt ≤ 400 by omega)⟩, (by simp only [cf0_, c18]; omega)⟩)⟩ hw dX12_isWord_79
      · replace hM := hM.call (r' := 1) hv42 (by decide)
        have ex39 : x39.toInt = f10_0_1.toInt := by rw [← c15.symm.trans c40]
        refine lv_if_eq (tgt := 56) hx hb dX12_isWord_21 (by decide) (fun c => absurd c (by decide)) (fun _ => ?_)
        replace hM := hM.neg (by decide)
        refine lv_iload hx hb dX12_isWord_24 (lv_at hl 3 rfl) ?_
        refine lv_bipush (v := 8) hx hb dX12_isWord_26 (by decide) ?_
        refine lv_icmp_ge (tgt := 50) hx hb dX12_isWord_28 (by decide) (fun c46 => ?_) (fun c46 => ?_)
        · have c46 : (8 : Int) ≤ v10_5.toInt := wk_le.mp c46
          replace hM := hM.pos c46
          exact J50 v10_3 H locs ls w10 (show 0 ≤ v10_5.toInt by omega) (show v10_5.toInt ≤ 399 by omega) (show 1 ≤ f10_0_1.toInt by omega) (show f10_0_1.toInt ≤ 400 by omega) (show 0 ≤ f10_0_14.toInt by omega) (show f10_0_14.toInt ≤ 399 by omega) (show (f10_0_14.toInt = f0_.toInt ∨ (gi w0 1 (f0_.toInt).toNat).toInt = 32) by first | omega | assumption | (left; omega) | (left; decide) | (right; assumption))  hw hT hF c15 c18 hM (lv_sub hl [0, 1, 2, 3] rfl)
        · have c46 : v10_5.toInt < (8 : Int) := wk_leF c46
          replace hM := hM.neg (Int.not_le.mpr c46)
          refine lv_lload_n hx hb dX12_isWord_31 rfl (lv_at hl 2 rfl) ?_
          refine lv_bipush (v := 8) hx hb dX12_isWord_32 (by decide) ?_
          refine lv_lshl hx hb dX12_isWord_34 rfl ?_
          refine lv_topl (fun x47 ex47 => ?_)
          replace hM := hM.lt (mShlL_e ex47 rfl (by decide))
          refine lv_aload_n hx hb dX12_isWord_35 rfl (lv_at hl 0 rfl) ?_
          refine tk_getA hC hK hw hT hinX12 kM_at0 (by decide) rfl 0 (by decide) (List.mem_of_getElem? (i := 2) rfl) rfl rfl dX12_isWord_36 ?_
          refine lv_aload_n hx hb dX12_isWord_39 rfl (lv_at hl 0 rfl) ?_
          refine tk_geti hC hK hw hT hinX12 kM_at0 (by decide) rfl 14 (by decide) (List.mem_of_getElem? (i := 1) rfl) rfl rfl dX12_isWord_40 (fun x48 c49 rx48 tx48 => ?_)
          refine wk_top f10_0_14 (c49.symm.trans c18) ?_
          replace hM := hM.rd (sI_at c18)
          refine lv_iload hx hb dX12_isWord_43 (lv_at hl 3 rfl) ?_
          refine lv_iadd hx hb dX12_isWord_45 ?_
          refine lv_topi (fun x50 ex50 => ?_)
          have ezx50 := ex50
          have ex50 : x50.toInt = f10_0_14.toInt + v10_5.toInt := by rw [ex50]; exact wk_add (show (-2147483648) ≤ f10_0_14.toInt + v10_5.toInt by omega) (show f10_0_14.toInt + v10_5.toInt ≤ 2147483647 by omega)
          replace hM := hM.lt ex50.symm
          refine tk_bald hC hK hw hT kM_at1 rfl rfl (show 0 ≤ x50.toInt by omega) (show x50.toInt < 400 by omega) dX12_isWord_46 (fun x51 c52 rx51 tx51 => ?_)
          have hox51 := c52
          replace hM := hM.rd (sI_at hox51)
          have c52 : gi w10 1 (1 * f10_0_14.toInt + 1 * v10_5.toInt + 0).toNat = x51 := (congrArg (gi w10 1) (congrArg Int.toNat (show 1 * f10_0_14.toInt + 1 * v10_5.toInt + 0 = x50.toInt by omega))).trans c52
          refine lv_i2l hx hb dX12_isWord_47 rfl ?_
          refine lv_topl (fun x53 ex53 => ?_)
          have ex53 : x53.toInt = x51.toInt := by rw [ex53]; exact wk_i2l _
          have bx53 := wk_i32 x51
          replace hM := hM.lt ex53.symm
          refine lv_lor hx hb dX12_isWord_48 ?_
          refine lv_topl (fun x54 ex54 => ?_)
          have ezx54 := ex54
          replace hM := hM.lt (o64_e (f := fun x y => x ||| y) ezx54 rfl rfl)
          refine lv_lstore_n (lv' := [(3, .long x54), (0, .ref (ad 0)), (1, .long 26982), (5, .int v10_5)]) hx hb dX12_isWord_49 rfl hl (by decide) rfl (fun ls hl => ?_)
          exact J50 x54 H locs ls w10 (show 0 ≤ v10_5.toInt by omega) (show v10_5.toInt ≤ 399 by omega) (show 1 ≤ f10_0_1.toInt by omega) (show f10_0_1.toInt ≤ 400 by omega) (show 0 ≤ f10_0_14.toInt by omega) (show f10_0_14.toInt ≤ 399 by omega) (show (f10_0_14.toInt = f0_.toInt ∨ (gi w0 1 (f0_.toInt).toNat).toInt = 32) by first | omega | assumption | (left; omega) | (left; decide) | (right; assumption) | (right; rw [c52]; omega) | (right; rw [c52]; decide))  hw hT hF c15 c18 hM (lv_sub hl [1, 2, 0, 3] rfl)
  have hM : TT (fun n => m_X12_isWord n 0 26982 (sI w0)) (fun n => m_X12_isWord n 0 26982 (sI w0)) := TT.rf
  refine lv_aload_n hx hb dX12_isWord_0 rfl (lv_at hl 0 rfl) ?_
  refine tk_Vi hC hK hw hT hA hE hSR kM_at0 (by decide) rfl (kz_X12_see_1 l adK adV dC dI cy ad B (by omega) (by omega) qr s1    w0 s.heap.size hT f0_ cf0_ (show 0 ≤ f0_.toInt by omega) (show f0_.toInt ≤ 400 by omega)) (cwV 0 hC.2.2.2.2 gX12_isWord_X12_see rfl rfl rfl (by decide +kernel) ⟨Nat.le_of_ble_eq_true rfl, Nat.le_of_ble_eq_true rfl⟩) rfl hl.1 rfl (Nat.le_of_ble_eq_true rfl) dX12_isWord_1 (fun r55 w57 H locs hp56 hw => ?_)
  obtain ⟨hT, k58, hv76, hg75⟩ := hp56
  have hF := hF.tr k58 (by decide)
  rcases hg75 with ⟨g59, g60, ⟨x61, c62, rx61, tx61⟩, ⟨x63, c64, rx63, tx63⟩, g65, g66⟩ | ⟨rfl, ⟨x67, c68, rx67, tx67⟩, ⟨x69, c70, rx69, tx69⟩, g71⟩ | ⟨rfl, ⟨x72, c73, rx72, tx72⟩, g74⟩
  · replace hM := hM.call hv76 rfl
    have g65 : (gi w57 1 (x63.toInt).toNat).toInt ≠ 32 := by have q := g65; simp only [c64] at q; omega
    have g66 : (x63.toInt = f0_.toInt ∨ (gi w0 1 (f0_.toInt).toNat).toInt = 32) := by have q := g66; simp only [cf0_, c64] at q; omega
    refine lv_pop hx hb dX12_isWord_4 rfl ?_
    refine lv_lconst (v := 0) hx hb dX12_isWord_5 (by decide) ?_
    refine lv_lstore_n (lv' := [(3, .long 0), (0, .ref (ad 0)), (1, .long 26982)]) hx hb dX12_isWord_6 rfl hl (by decide) rfl (fun ls hl => ?_)
    refine lv_iconst (v := 0) hx hb dX12_isWord_7 (by decide) ?_
    refine lv_istore (lv' := [(5, .int 0), (3, .long 0), (0, .ref (ad 0)), (1, .long 26982)]) hx hb dX12_isWord_8 hl (by decide) rfl (fun ls hl => ?_)
    exact L10 ((400 - (0 : Int)).toNat + 1) 0 0 x61 x63 H locs ls w57 (by decide) (by decide) (show 0 ≤ x61.toInt by omega) (show x61.toInt ≤ 400 by omega) (show 0 ≤ x63.toInt by omega) (show x63.toInt ≤ 400 by omega) (show (x63.toInt = f0_.toInt ∨ (gi w0 1 (f0_.toInt).toNat).toInt = 32) by first | omega | assumption | (left; omega) | (left; decide) | (right; assumption)) (Nat.lt_succ_self _) hw hT hF c62 c64 hM (lv_sub hl [2, 3, 1, 0] rfl)
  · replace hM := hM.call (r' := (-1)) hv76 (by decide)
    have g71 : (x69.toInt = f0_.toInt ∨ (gi w0 1 (f0_.toInt).toNat).toInt = 32) := by have q := g71; simp only [cf0_, c70] at q; omega
    refine lv_pop hx hb dX12_isWord_4 rfl ?_
    refine lv_lconst (v := 0) hx hb dX12_isWord_5 (by decide) ?_
    refine lv_lstore_n (lv' := [(3, .long 0), (0, .ref (ad 0)), (1, .long 26982)]) hx hb dX12_isWord_6 rfl hl (by decide) rfl (fun ls hl => ?_)
    refine lv_iconst (v := 0) hx hb dX12_isWord_7 (by decide) ?_
    refine lv_istore (lv' := [(5, .int 0), (3, .long 0), (0, .ref (ad 0)), (1, .long 26982)]) hx hb dX12_isWord_8 hl (by decide) rfl (fun ls hl => ?_)
    exact L10 ((400 - (0 : Int)).toNat + 1) 0 0 x67 x69 H locs ls w57 (by decide) (by decide) (show 0 ≤ x67.toInt by omega) (show x67.toInt ≤ 400 by omega) (show 0 ≤ x69.toInt by omega) (show x69.toInt ≤ 400 by omega) (show (x69.toInt = f0_.toInt ∨ (gi w0 1 (f0_.toInt).toNat).toInt = 32) by first | omega | assumption | (left; omega) | (left; decide) | (right; assumption)) (Nat.lt_succ_self _) hw hT hF c68 c70 hM (lv_sub hl [2, 3, 1, 0] rfl)
  · replace hM := hM.call (r' := (-1)) hv76 (by decide)
    obtain ⟨x77, c78, rx77, tx77⟩ := hT.rdi (lo := 0) (hi := 400) (k := 14) kM_at0 (by decide) rfl
    have g74 : (x77.toInt = f0_.toInt ∨ (gi w0 1 (f0_.toInt).toNat).toInt = 32) := by have q := g74; simp only [cf0_, c78] at q; omega
    refine lv_pop hx hb dX12_isWord_4 rfl ?_
    refine lv_lconst (v := 0) hx hb dX12_isWord_5 (by decide) ?_
    refine lv_lstore_n (lv' := [(3, .long 0), (0, .ref (ad 0)), (1, .long 26982)]) hx hb dX12_isWord_6 rfl hl (by decide) rfl (fun ls hl => ?_)
    refine lv_iconst (v := 0) hx hb dX12_isWord_7 (by decide) ?_
    refine lv_istore (lv' := [(5, .int 0), (3, .long 0), (0, .ref (ad 0)), (1, .long 26982)]) hx hb dX12_isWord_8 hl (by decide) rfl (fun ls hl => ?_)
    exact L10 ((400 - (0 : Int)).toNat + 1) 0 0 x72 x77 H locs ls w57 (by decide) (by decide) (show 0 ≤ x72.toInt by omega) (show x72.toInt ≤ 400 by omega) (show 0 ≤ x77.toInt by omega) (show x77.toInt ≤ 400 by omega) (show (x77.toInt = f0_.toInt ∨ (gi w0 1 (f0_.toInt).toNat).toInt = 32) by first | omega | assumption | (left; omega) | (left; decide) | (right; assumption)) (Nat.lt_succ_self _) hw hT hF c73 c78 hM (lv_sub hl [2, 3, 1, 0] rfl)
abbrev Pz_X12_takesWord_1 (ad : Nat → Nat) (cy : Nat → ClassId) (B : Int) (qr : Nat) (s1 : Int)  (w0 : va_W) : Int32 → va_W → Prop := fun r u => TW ksM ad cy B qr 12 u ∧ FE ksM [(12, 14, 14)] w0 u ∧ Ev (fun n => m_X12_takesWord n 0 26982 (sI w0)) (r.toInt, sI u) ∧ ((r = 0 ∧ (∃ y : Int32, gi u 0 1 = y ∧ 0 ≤ y.toInt ∧ y.toInt ≤ 400)) ∨ (r = 1 ∧ (∃ y : Int32, gi u 0 1 = y ∧ 1 ≤ y.toInt ∧ y.toInt ≤ 400) ∧ (∃ y : Int32, gi u 0 14 = y ∧ 1 ≤ y.toInt ∧ y.toInt ≤ 400)) ∨ (r = 1 ∧ (∃ y : Int32, gi u 0 1 = y ∧ 0 ≤ y.toInt ∧ y.toInt ≤ 400)))
set_option maxHeartbeats 4000000 in
set_option maxRecDepth 100000 in
theorem kz_X12_takesWord_1 (l : Launch) (adK adV : Nat → Nat) (dC : Nat → ClassId) (dI : Nat → Nat → Nat) (cy : Nat → ClassId) (ad : Nat → Nat) (B : Int) (hB0 : 100000 ≤ B) (hB1 : B ≤ 1073741824) (qr : Nat) (s1 : Int)   (w0 : va_W) (sz : Nat) (hT : TW ksM ad cy B qr 12 w0)  : Met l yX12_takesWord wsX12_takesWord ({ frames := 3, cells := 0, slots := 0, locals := 58 }) (va_Pc [.ref (ad 0), .long 26982] (wpreS adK adV dC dI cy sz w0)) (va_Qi (Pz_X12_takesWord_1 ad cy B qr s1  w0) (fun u : va_W => wpost dC dI cy (va_A w0 sz) u) (va_A w0 sz)) 0 0 (va_A w0 sz) := by
  refine Met.ofW (cc := cX12_takesWord) (maxL := 3) (ret := (some .boolean)) (by decide) rfl ?_
  intro p e s m args below meth c s₁ Bk hml hv
  obtain ⟨rfl, ⟨hsz, hP, hK, hD0⟩, hE, hSR⟩ := hv
  have hx := Bk.exec
  have hb := Bk.bytes
  have hr := Bk.returns
  have hlocks := Bk.notSynchronized
  have hC : CallFix p m c cX12_takesWord 3 s _ wsX12_takesWord RX12 := ⟨hx, hb, hml, findClass_of_methodNamed Bk.named, atoms_spec (ws := wsX12_takesWord) Bk.pre⟩
  subst hsz
  have hD := hD0.self (sz := s.heap.size)
  generalize hAe : va_A w0 s.heap.size = A at hD hE ⊢
  have hA : ∀ q : Nat, s.heap.size ≤ q → A q := fun q h => by rw [← hAe]; exact Or.inr h
  have hw : Wd dC dI A s.heap s.heap [] w0 := ⟨hP, hD, va_S.rf⟩
  have hF : FE ksM [(12, 14, 14)] w0 w0 := FE.rf
  have hl := lv_entry ([.ref (ad 0), .long 26982]) (n := 3) (Nat.le_of_ble_eq_true rfl)
  rw [lg_entry_eq]
  generalize (lg_sl ([.ref (ad 0), .long 26982]) ++ List.replicate (3 - (lg_sl ([.ref (ad 0), .long 26982])).length) Slot.unset).toArray = ls at hl ⊢
  have hl : lv_has ls 3 [(0, .ref (ad 0)), (1, .long 26982)] := hl
  generalize hloc : ([] : List Loc) = locs at hw ⊢
  have hM : TT (fun n => m_X12_takesWord n 0 26982 (sI w0)) (fun n => m_X12_takesWord n 0 26982 (sI w0)) := TT.rf
  refine lv_aload_n hx hb dX12_takesWord_0 rfl (lv_at hl 0 rfl) ?_
  refine lv_lload_n hx hb dX12_takesWord_1 rfl (lv_at hl 1 rfl) ?_
  obtain ⟨x1, c2, rx1, tx1⟩ := hT.rdi (lo := 0) (hi := 400) (k := 14) kM_at0 (by decide) rfl
  refine tk_Vi hC hK hw hT hA hE hSR kM_at0 (by decide) rfl (kz_X12_isWord_9 l adK adV dC dI cy ad B (by omega) (by omega) qr s1    w0 s.heap.size hT x1 c2 (show 0 ≤ x1.toInt by omega) (show x1.toInt ≤ 400 by omega)) (cwV 1 hC.2.2.2.2 gX12_takesWord_X12_isWord rfl rfl rfl (by decide +kernel) ⟨Nat.le_of_ble_eq_true rfl, Nat.le_of_ble_eq_true rfl⟩) rfl hl.1 rfl (Nat.le_of_ble_eq_true rfl) dX12_takesWord_2 (fun r3 w5 H locs hp4 hw => ?_)
  obtain ⟨hT, k6, hv14, hg13⟩ := hp4
  have hF := hF.tr k6 (by decide)
  rcases hg13 with ⟨rfl, ⟨x7, c8, rx7, tx7⟩, g9⟩ | ⟨rfl, ⟨x10, c11, rx10, tx10⟩, g12⟩
  · replace hM := hM.call (r' := 0) hv14 (by decide)
    obtain ⟨x15, c16, rx15, tx15⟩ := hT.rdi (lo := 0) (hi := 400) (k := 14) kM_at0 (by decide) rfl
    have g9 : (x15.toInt = x1.toInt ∨ (gi w0 1 (x1.toInt).toNat).toInt = 32) := by have q := g9; simp only [c2, c16] at q; omega
    refine lv_if_ne (tgt := 10) hx hb dX12_takesWord_5 (by decide) (fun c => absurd (by decide) c) (fun _ => ?_)
    replace hM := hM.neg (by decide)
    refine lv_iconst (v := 0) hx hb dX12_takesWord_8 (by decide) ?_
    exact tk_zret hC hr rfl hlocks hK ⟨hT, hF, hM.ret (by decide), (Or.inl ⟨rfl, ⟨x7, c8, (show 0 ≤ x7.toInt by omega), (show x7.toInt ≤ 400 by omega)⟩⟩)⟩ hw dX12_takesWord_9
  · replace hM := hM.call (r' := 1) hv14 (by decide)
    obtain ⟨x17, c18, rx17, tx17⟩ := hT.rdi (lo := 0) (hi := 400) (k := 14) kM_at0 (by decide) rfl
    have g12 : (x17.toInt = x1.toInt ∨ (gi w0 1 (x1.toInt).toNat).toInt = 32) := by have q := g12; simp only [c2, c18] at q; omega
    refine lv_if_ne (tgt := 10) hx hb dX12_takesWord_5 (by decide) (fun _ => ?_) (fun c => absurd c (by decide))
    replace hM := hM.pos (by decide)
    refine lv_aload_n hx hb dX12_takesWord_10 rfl (lv_at hl 0 rfl) ?_
    refine tk_Vv hC hK hw hT hA hE hSR kM_at0 (by decide) rfl (kz_X12_passWord_1 l adK adV dC dI cy ad B (by omega) (by omega) qr s1    w5 H.size hT ) (cwV 0 hC.2.2.2.2 gX12_takesWord_X12_passWord rfl rfl rfl (by decide +kernel) ⟨Nat.le_of_ble_eq_true rfl, Nat.le_of_ble_eq_true rfl⟩) rfl hl.1 rfl (Nat.le_of_ble_eq_true rfl) dX12_takesWord_11 (fun w21 H locs hp20 hw => ?_)
    obtain ⟨hT, k22, hv30, hg29⟩ := hp20
    have hF := hF.tr k22 (by decide)
    have c31 := k22.gi kM_at0 (by decide) c11
    rcases hg29 with ⟨⟨x23, c24, rx23, tx23⟩, ⟨x25, c26, rx25, tx25⟩⟩ | ⟨x27, c28, rx27, tx27⟩
    · replace hM := hM.call hv30 rfl
      have ex23 : x23.toInt = x10.toInt := by rw [← c31.symm.trans c24]
      refine lv_iconst (v := 1) hx hb dX12_takesWord_14 (by decide) ?_
      exact tk_zret hC hr rfl hlocks hK ⟨hT, hF, hM.ret (by decide), (Or.inr (Or.inl ⟨rfl, ⟨x10, c31, (show 1 ≤ x10.toInt by omega), (show x10.toInt ≤ 400 by omega)⟩, ⟨x25, c26, (show 1 ≤ x25.toInt by omega), (show x25.toInt ≤ 400 by omega)⟩⟩))⟩ hw dX12_takesWord_15
    · replace hM := hM.call hv30 rfl
      have ex27 : x27.toInt = x10.toInt := by rw [← c31.symm.trans c28]
      refine lv_iconst (v := 1) hx hb dX12_takesWord_14 (by decide) ?_
      exact tk_zret hC hr rfl hlocks hK ⟨hT, hF, hM.ret (by decide), (Or.inr (Or.inr ⟨rfl, ⟨x10, c31, (show 0 ≤ x10.toInt by omega), (show x10.toInt ≤ 400 by omega)⟩⟩))⟩ hw dX12_takesWord_15
abbrev Pz_X12_isWord_10 (ad : Nat → Nat) (cy : Nat → ClassId) (B : Int) (qr : Nat) (s1 : Int)  (w0 : va_W) : Int32 → va_W → Prop := fun r u => TW ksM ad cy B qr 12 u ∧ FE ksM [(12, 14, 14)] w0 u ∧ Ev (fun n => m_X12_isWord n 0 6385252 (sI w0)) (r.toInt, sI u) ∧ ((r = 0 ∧ (∃ y : Int32, gi u 0 1 = y ∧ 0 ≤ y.toInt ∧ y.toInt ≤ 400) ∧ (((gi u 0 14).toInt = (gi w0 0 14).toInt ∨ (gi w0 1 ((gi w0 0 14).toInt).toNat).toInt = 32))) ∨ (r = 1 ∧ (∃ y : Int32, gi u 0 1 = y ∧ 0 ≤ y.toInt ∧ y.toInt ≤ 400) ∧ (((gi u 0 14).toInt = (gi w0 0 14).toInt ∨ (gi w0 1 ((gi w0 0 14).toInt).toNat).toInt = 32))))
set_option maxHeartbeats 4000000 in
set_option maxRecDepth 100000 in
theorem kz_X12_isWord_10 (l : Launch) (adK adV : Nat → Nat) (dC : Nat → ClassId) (dI : Nat → Nat → Nat) (cy : Nat → ClassId) (ad : Nat → Nat) (B : Int) (hB0 : 100000 ≤ B) (hB1 : B ≤ 1073741824) (qr : Nat) (s1 : Int)   (w0 : va_W) (sz : Nat) (hT : TW ksM ad cy B qr 12 w0) (f0_ : Int32) (cf0_ : gi w0 0 14 = f0_) (rf0_ : 0 ≤ f0_.toInt) (tf0_ : f0_.toInt ≤ 400) : Met l yX12_isWord wsX12_isWord ({ frames := 2, cells := 0, slots := 0, locals := 33 }) (va_Pc [.ref (ad 0), .long 6385252] (wpreS adK adV dC dI cy sz w0)) (va_Qi (Pz_X12_isWord_10 ad cy B qr s1  w0) (fun u : va_W => wpost dC dI cy (va_A w0 sz) u) (va_A w0 sz)) 0 0 (va_A w0 sz) := by
  refine Met.ofW (cc := cX12_isWord) (maxL := 6) (ret := (some .boolean)) (by decide) rfl ?_
  intro p e s m args below meth c s₁ Bk hml hv
  obtain ⟨rfl, ⟨hsz, hP, hK, hD0⟩, hE, hSR⟩ := hv
  have hx := Bk.exec
  have hb := Bk.bytes
  have hr := Bk.returns
  have hlocks := Bk.notSynchronized
  have hC : CallFix p m c cX12_isWord 6 s _ wsX12_isWord RX12 := ⟨hx, hb, hml, findClass_of_methodNamed Bk.named, atoms_spec (ws := wsX12_isWord) Bk.pre⟩
  subst hsz
  have hD := hD0.self (sz := s.heap.size)
  generalize hAe : va_A w0 s.heap.size = A at hD hE ⊢
  have hA : ∀ q : Nat, s.heap.size ≤ q → A q := fun q h => by rw [← hAe]; exact Or.inr h
  have hw : Wd dC dI A s.heap s.heap [] w0 := ⟨hP, hD, va_S.rf⟩
  have hF : FE ksM [(12, 14, 14)] w0 w0 := FE.rf
  have hl := lv_entry ([.ref (ad 0), .long 6385252]) (n := 6) (Nat.le_of_ble_eq_true rfl)
  rw [lg_entry_eq]
  generalize (lg_sl ([.ref (ad 0), .long 6385252]) ++ List.replicate (6 - (lg_sl ([.ref (ad 0), .long 6385252])).length) Slot.unset).toArray = ls at hl ⊢
  have hl : lv_has ls 6 [(0, .ref (ad 0)), (1, .long 6385252)] := hl
  generalize hloc : ([] : List Loc) = locs at hw ⊢
  have hinX12 : ∀ w ∈ u_ws RX12 TX12 42, w ∈ wsX12_isWord := fun _ h => List.mem_cons_of_mem _ (List.mem_append_right _ (h))
  have J78 : ∀ (v78_3 : Int64) (v78_5 : Int32) (f78_0_1 : Int32) (f78_0_14 : Int32) (H : Heap) (locs : List Loc) (ls : Array Slot) (w1 : va_W), 0 ≤ v78_5.toInt → v78_5.toInt ≤ 400 → 0 ≤ f78_0_1.toInt → f78_0_1.toInt ≤ 400 → 0 ≤ f78_0_14.toInt → f78_0_14.toInt ≤ 400 → ((f78_0_14.toInt = f0_.toInt ∨ (gi w0 1 (f0_.toInt).toNat).toInt = 32)) → Wd dC dI A s.heap H locs w1 → TW ksM ad cy B qr 12 w1 → FE ksM [(12, 14, 14)] w0 w1 → gi w1 0 1 = f78_0_1 → gi w1 0 14 = f78_0_14 → TT (fun n => m_X12_isWord n 0 6385252 (sI w0)) (fun n => b_X12_isWord_78 (j_X12_isWord 0 n) n 0 (sI w1)) → lv_has ls 6 [(0, .ref (ad 0)), (1, .long 6385252), (3, .long v78_3), (5, .int v78_5)] → W p l e ({ frames := 2, cells := 0, slots := 0, locals := 33 }) s m (List.toArray [.ref (ad 0), .long 6385252]) below meth c H locs 0 0 (MQ below (va_Qi (Pz_X12_isWord_10 ad cy B qr s1  w0) (fun u : va_W => wpost dC dI cy A u) A) (List.toArray [.ref (ad 0), .long 6385252]) s 0 0 A) (F0 m 78 ls []) := by
    intro v78_3 v78_5 f78_0_1 f78_0_14 H locs ls w1 r2 t3 r4 t5 r7 t8 hcr78_0 hw hT hF c6 c9 hM hl
    refine lv_iconst (v := 0) hx hb dX12_isWord_78 (by decide) ?_
    exact tk_zret hC hr rfl hlocks hK ⟨hT, hF, hM.ret (by decide), (Or.inl ⟨rfl, ⟨f78_0_1, c6, (show 0 ≤ f78_0_1.toInt by omega), (show f78_0_1.toInt ≤ 400 by omega)⟩, (by simp only [cf0_, c9]; omega)⟩)⟩ hw dX12_isWord_79
  have L10 : ∀ (n10 : Nat) (v10_3 : Int64) (v10_5 : Int32) (f10_0_1 : Int32) (f10_0_14 : Int32) (H : Heap) (locs : List Loc) (ls : Array Slot) (w10 : va_W), 0 ≤ v10_5.toInt → v10_5.toInt ≤ 400 → 0 ≤ f10_0_1.toInt → f10_0_1.toInt ≤ 400 → 0 ≤ f10_0_14.toInt → f10_0_14.toInt ≤ 400 → ((f10_0_14.toInt = f0_.toInt ∨ (gi w0 1 (f0_.toInt).toNat).toInt = 32)) → (400 - v10_5.toInt).toNat < n10 → Wd dC dI A s.heap H locs w10 → TW ksM ad cy B qr 12 w10 → FE ksM [(12, 14, 14)] w0 w10 → gi w10 0 1 = f10_0_1 → gi w10 0 14 = f10_0_14 → TT (fun n => m_X12_isWord n 0 6385252 (sI w0)) (fun n => j_X12_isWord 0 n 10 [(6385252 : Int), v10_3.toInt, v10_5.toInt] (sI w10)) → lv_has ls 6 [(0, .ref (ad 0)), (1, .long 6385252), (3, .long v10_3), (5, .int v10_5)] → W p l e ({ frames := 2, cells := 0, slots := 0, locals := 33 }) s m (List.toArray [.ref (ad 0), .long 6385252]) below meth c H locs 0 0 (MQ below (va_Qi (Pz_X12_isWord_10 ad cy B qr s1  w0) (fun u : va_W => wpost dC dI cy A u) A) (List.toArray [.ref (ad 0), .long 6385252]) s 0 0 A) (F0 m 10 ls []) := by
    intro n10
    induction n10 with
    | zero => intro v10_3 v10_5 f10_0_1 f10_0_14 H locs ls w10 r11 t12 r13 t14 r16 t17 hcr10_0 hm10 hw hT hF c15 c18 hM hl; omega
    | succ n10 ih10 =>
      intro v10_3 v10_5 f10_0_1 f10_0_14 H locs ls w10 r11 t12 r13 t14 r16 t17 hcr10_0 hm10 hw hT hF c15 c18 hM hl
      have J50 : ∀ (v50_3 : Int64) (H : Heap) (locs : List Loc) (ls : Array Slot) (w19 : va_W), 0 ≤ v10_5.toInt → v10_5.toInt ≤ 399 → 1 ≤ f10_0_1.toInt → f10_0_1.toInt ≤ 400 → 0 ≤ f10_0_14.toInt → f10_0_14.toInt ≤ 399 → ((f10_0_14.toInt = f0_.toInt ∨ (gi w0 1 (f0_.toInt).toNat).toInt = 32)) → Wd dC dI A s.heap H locs w19 → TW ksM ad cy B qr 12 w19 → FE ksM [(12, 14, 14)] w0 w19 → gi w19 0 1 = f10_0_1 → gi w19 0 14 = f10_0_14 → TT (fun n => m_X12_isWord n 0 6385252 (sI w0)) (fun n => b_X12_isWord_50 (j_X12_isWord 0 n) n 0 (6385252 : Int) (v50_3.toInt) (v10_5.toInt) (sI w19)) → lv_has ls 6 [(0, .ref (ad 0)), (1, .long 6385252), (3, .long v50_3), (5, .int v10_5)] → W p l e ({ frames := 2, cells := 0, slots := 0, locals := 33 }) s m (List.toArray [.ref (ad 0), .long 6385252]) below meth c H locs 0 0 (MQ below (va_Qi (Pz_X12_isWord_10 ad cy B qr s1  w0) (fun u : va_W => wpost dC dI cy A u) A) (List.toArray [.ref (ad 0), .long 6385252]) s 0 0 A) (F0 m 50 ls []) := by
        intro v50_3 H locs ls w19 r20 t21 r22 t23 r25 t26 hcr50_0 hw hT hF c24 c27 hM hl
        obtain ⟨x28, ex28⟩ : ∃ y : Int32, y = v10_5 + Int32.ofInt 1 := ⟨_, rfl⟩
        have erx28 := ex28
        refine lv_iinc (v := x28) (lv' := [(5, .int x28), (0, .ref (ad 0)), (1, .long 6385252), (3, .long v50_3)]) hx hb dX12_isWord_50 hl (k := 3) rfl ex28.symm (by decide) rfl (fun ls hl => ?_)
        have ex28 : x28.toInt = v10_5.toInt + 1 := by rw [ex28]; exact wk_add (y := 1) (show -2147483648 ≤ v10_5.toInt + 1 by omega) (show v10_5.toInt + 1 ≤ 2147483647 by omega)
        replace hM := hM.lt ex28.symm
        refine lv_goto (tgt := 10) hx hb dX12_isWord_53 (by decide) ?_
        exact ih10 v50_3 x28 f10_0_1 f10_0_14 H locs ls w19 (show 0 ≤ x28.toInt by omega) (show x28.toInt ≤ 400 by omega) (show 0 ≤ f10_0_1.toInt by omega) (show f10_0_1.toInt ≤ 400 by omega) (show 0 ≤ f10_0_14.toInt by omega) (show f10_0_14.toInt ≤ 400 by omega) (show (f10_0_14.toInt = f0_.toInt ∨ (gi w0 1 (f0_.toInt).toNat).toInt = 32) by first | omega | assumption | (left; omega) | (left; decide) | (right; assumption)) (show (400 - x28.toInt).toNat < n10 by omega) hw hT hF c24 c27 hM (lv_sub hl [1, 2, 3, 0] rfl)
      replace hM := hM.suc (fun _ => e_X12_isWord_10)
      refine lv_aload_n hx hb dX12_isWord_10 rfl (lv_at hl 0 rfl) ?_
      refine lv_aload_n hx hb dX12_isWord_11 rfl (lv_at hl 0 rfl) ?_
      refine tk_geti hC hK hw hT hinX12 kM_at0 (by decide) rfl 14 (by decide) (List.mem_of_getElem? (i := 1) rfl) rfl rfl dX12_isWord_12 (fun x29 c30 rx29 tx29 => ?_)
      refine wk_top f10_0_14 (c30.symm.trans c18) ?_
      replace hM := hM.rd (sI_at c18)
      refine lv_iload hx hb dX12_isWord_15 (lv_at hl 3 rfl) ?_
      refine lv_iadd hx hb dX12_isWord_17 ?_
      refine lv_topi (fun x31 ex31 => ?_)
      have ezx31 := ex31
      have ex31 : x31.toInt = f10_0_14.toInt + v10_5.toInt := by rw [ex31]; exact wk_add (show (-2147483648) ≤ f10_0_14.toInt + v10_5.toInt by omega) (show f10_0_14.toInt + v10_5.toInt ≤ 2147483647 by omega)
      replace hM := hM.lt ex31.symm
      refine tk_Vi hC hK hw hT hA hE hSR kM_at0 (by decide) rfl (kz_X12_isLetter_1 l adK adV dC dI cy ad B (by omega) (by omega) qr s1   x31 (show 0 ≤ x31.toInt by omega) (show x31.toInt ≤ 800 by omega) w10 H.size hT ) (cwV 1 hC.2.2.2.2 gX12_isWord_X12_isLetter rfl rfl rfl (by decide +kernel) ⟨Nat.le_of_ble_eq_true rfl, Nat.le_of_ble_eq_true rfl⟩) rfl hl.1 rfl (Nat.le_of_ble_eq_true rfl) dX12_isWord_18 (fun r32 w34 H locs hp33 hw => ?_)
      obtain ⟨rfl, hv42, hg41⟩ := hp33
      rcases hg41 with ⟨rfl, ⟨x36, c37, rx36, tx36⟩⟩ | ⟨rfl, g38, ⟨x39, c40, rx39, tx39⟩⟩
      · replace hM := hM.call (r' := 0) hv42 (by decide)
        have ex36 : x36.toInt = f10_0_1.toInt := by rw [← c15.symm.trans c37]
        refine lv_if_eq (tgt := 56) hx hb dX12_isWord_21 (by decide) (fun _ => ?_) (fun c => absurd (by decide) c)
        replace hM := hM.pos (by decide)
        refine lv_iload hx hb dX12_isWord_56 (lv_at hl 3 rfl) ?_
        refine lv_if_le (tgt := 78) hx hb dX12_isWord_58 (by decide) (fun c43 => ?_) (fun c43 => ?_)
        · have c43 : v10_5.toInt ≤ (0 : Int) := wk_le.mp c43
          replace hM := hM.pos c43
          exact J78 v10_3 v10_5 f10_0_1 f10_0_14 H locs ls w10 (show 0 ≤ v10_5.toInt by omega) (show v10_5.toInt ≤ 400 by omega) (show 0 ≤ f10_0_1.toInt by omega) (show f10_0_1.toInt ≤ 400 by omega) (show 0 ≤ f10_0_14.toInt by omega) (show f10_0_14.toInt ≤ 400 by omega) (show (f10_0_14.toInt = f0_.toInt ∨ (gi w0 1 (f0_.toInt).toNat).toInt = 32) by first | omega | assumption | (left; omega) | (left; decide) | (right; assumption))  hw hT hF c15 c18 hM (lv_sub hl [0, 1, 2, 3] rfl)
        · have c43 : (0 : Int) < v10_5.toInt := wk_leF c43
          replace hM := hM.neg (Int.not_le.mpr c43)
          refine lv_iload hx hb dX12_isWord_61 (lv_at hl 3 rfl) ?_
          refine lv_bipush (v := 8) hx hb dX12_isWord_63 (by decide) ?_
          refine lv_icmp_ge (tgt := 78) hx hb dX12_isWord_65 (by decide) (fun c44 => ?_) (fun c44 => ?_)
          · have c44 : (8 : Int) ≤ v10_5.toInt := wk_le.mp c44
            replace hM := hM.pos c44
            exact J78 v10_3 v10_5 f10_0_1 f10_0_14 H locs ls w10 (show 0 ≤ v10_5.toInt by omega) (show v10_5.toInt ≤ 400 by omega) (show 0 ≤ f10_0_1.toInt by omega) (show f10_0_1.toInt ≤ 400 by omega) (show 0 ≤ f10_0_14.toInt by omega) (show f10_0_14.toInt ≤ 400 by omega) (show (f10_0_14.toInt = f0_.toInt ∨ (gi w0 1 (f0_.toInt).toNat).toInt = 32) by first | omega | assumption | (left; omega) | (left; decide) | (right; assumption))  hw hT hF c15 c18 hM (lv_sub hl [0, 1, 2, 3] rfl)
          · have c44 : v10_5.toInt < (8 : Int) := wk_leF c44
            replace hM := hM.neg (Int.not_le.mpr c44)
            refine lv_lload_n hx hb dX12_isWord_68 rfl (lv_at hl 2 rfl) ?_
            refine lv_lload_n hx hb dX12_isWord_69 rfl (lv_at hl 1 rfl) ?_
            refine W.lcmp hx hb dX12_isWord_70 ?_
            refine lv_if_ne (tgt := 78) hx hb dX12_isWord_71 (by decide) (fun c45 => ?_) (fun c45 => ?_)
            · have c45 : ¬ v10_3.toInt = (6385252 : Int) := wk_ceF c45
              replace hM := hM.pos c45
              exact J78 v10_3 v10_5 f10_0_1 f10_0_14 H locs ls w10 (show 0 ≤ v10_5.toInt by omega) (show v10_5.toInt ≤ 400 by omega) (show 0 ≤ f10_0_1.toInt by omega) (show f10_0_1.toInt ≤ 400 by omega) (show 0 ≤ f10_0_14.toInt by omega) (show f10_0_14.toInt ≤ 400 by omega) (show (f10_0_14.toInt = f0_.toInt ∨ (gi w0 1 (f0_.toInt).toNat).toInt = 32) by first | omega | assumption | (left; omega) | (left; decide) | (right; assumption))  hw hT hF c15 c18 hM (lv_sub hl [0, 1, 2, 3] rfl)
            · have c45 : v10_3.toInt = (6385252 : Int) := wk_ceT c45
              replace hM := hM.neg (fun q => q c45)
              refine lv_iconst (v := 1) hx hb dX12_isWord_74 (by decide) ?_
              refine lv_goto (tgt := 79) hx hb dX12_isWord_75 (by decide) ?_
              exact tk_zret hC hr rfl hlocks hK ⟨hT, hF, hM.ret (by decide), (Or.inr ⟨rfl, ⟨f10_0_1, c15, (show 0 ≤ f10_0_1.toInt by omega), (show f10_0_1.toInt ≤ 400 by omega)⟩, (by simp only [cf0_, c18]; omega)⟩)⟩ hw dX12_isWord_79
      · replace hM := hM.call (r' := 1) hv42 (by decide)
        have ex39 : x39.toInt = f10_0_1.toInt := by rw [← c15.symm.trans c40]
        refine lv_if_eq (tgt := 56) hx hb dX12_isWord_21 (by decide) (fun c => absurd c (by decide)) (fun _ => ?_)
        replace hM := hM.neg (by decide)
        refine lv_iload hx hb dX12_isWord_24 (lv_at hl 3 rfl) ?_
        refine lv_bipush (v := 8) hx hb dX12_isWord_26 (by decide) ?_
        refine lv_icmp_ge (tgt := 50) hx hb dX12_isWord_28 (by decide) (fun c46 => ?_) (fun c46 => ?_)
        · have c46 : (8 : Int) ≤ v10_5.toInt := wk_le.mp c46
          replace hM := hM.pos c46
          exact J50 v10_3 H locs ls w10 (show 0 ≤ v10_5.toInt by omega) (show v10_5.toInt ≤ 399 by omega) (show 1 ≤ f10_0_1.toInt by omega) (show f10_0_1.toInt ≤ 400 by omega) (show 0 ≤ f10_0_14.toInt by omega) (show f10_0_14.toInt ≤ 399 by omega) (show (f10_0_14.toInt = f0_.toInt ∨ (gi w0 1 (f0_.toInt).toNat).toInt = 32) by first | omega | assumption | (left; omega) | (left; decide) | (right; assumption))  hw hT hF c15 c18 hM (lv_sub hl [0, 1, 2, 3] rfl)
        · have c46 : v10_5.toInt < (8 : Int) := wk_leF c46
          replace hM := hM.neg (Int.not_le.mpr c46)
          refine lv_lload_n hx hb dX12_isWord_31 rfl (lv_at hl 2 rfl) ?_
          refine lv_bipush (v := 8) hx hb dX12_isWord_32 (by decide) ?_
          refine lv_lshl hx hb dX12_isWord_34 rfl ?_
          refine lv_topl (fun x47 ex47 => ?_)
          replace hM := hM.lt (mShlL_e ex47 rfl (by decide))
          refine lv_aload_n hx hb dX12_isWord_35 rfl (lv_at hl 0 rfl) ?_
          refine tk_getA hC hK hw hT hinX12 kM_at0 (by decide) rfl 0 (by decide) (List.mem_of_getElem? (i := 2) rfl) rfl rfl dX12_isWord_36 ?_
          refine lv_aload_n hx hb dX12_isWord_39 rfl (lv_at hl 0 rfl) ?_
          refine tk_geti hC hK hw hT hinX12 kM_at0 (by decide) rfl 14 (by decide) (List.mem_of_getElem? (i := 1) rfl) rfl rfl dX12_isWord_40 (fun x48 c49 rx48 tx48 => ?_)
          refine wk_top f10_0_14 (c49.symm.trans c18) ?_
          replace hM := hM.rd (sI_at c18)
          refine lv_iload hx hb dX12_isWord_43 (lv_at hl 3 rfl) ?_
          refine lv_iadd hx hb dX12_isWord_45 ?_
          refine lv_topi (fun x50 ex50 => ?_)
          have ezx50 := ex50
          have ex50 : x50.toInt = f10_0_14.toInt + v10_5.toInt := by rw [ex50]; exact wk_add (show (-2147483648) ≤ f10_0_14.toInt + v10_5.toInt by omega) (show f10_0_14.toInt + v10_5.toInt ≤ 2147483647 by omega)
          replace hM := hM.lt ex50.symm
          refine tk_bald hC hK hw hT kM_at1 rfl rfl (show 0 ≤ x50.toInt by omega) (show x50.toInt < 400 by omega) dX12_isWord_46 (fun x51 c52 rx51 tx51 => ?_)
          have hox51 := c52
          replace hM := hM.rd (sI_at hox51)
          have c52 : gi w10 1 (1 * f10_0_14.toInt + 1 * v10_5.toInt + 0).toNat = x51 := (congrArg (gi w10 1) (congrArg Int.toNat (show 1 * f10_0_14.toInt + 1 * v10_5.toInt + 0 = x50.toInt by omega))).trans c52
          refine lv_i2l hx hb dX12_isWord_47 rfl ?_
          refine lv_topl (fun x53 ex53 => ?_)
          have ex53 : x53.toInt = x51.toInt := by rw [ex53]; exact wk_i2l _
          have bx53 := wk_i32 x51
          replace hM := hM.lt ex53.symm
          refine lv_lor hx hb dX12_isWord_48 ?_
          refine lv_topl (fun x54 ex54 => ?_)
          have ezx54 := ex54
          replace hM := hM.lt (o64_e (f := fun x y => x ||| y) ezx54 rfl rfl)
          refine lv_lstore_n (lv' := [(3, .long x54), (0, .ref (ad 0)), (1, .long 6385252), (5, .int v10_5)]) hx hb dX12_isWord_49 rfl hl (by decide) rfl (fun ls hl => ?_)
          exact J50 x54 H locs ls w10 (show 0 ≤ v10_5.toInt by omega) (show v10_5.toInt ≤ 399 by omega) (show 1 ≤ f10_0_1.toInt by omega) (show f10_0_1.toInt ≤ 400 by omega) (show 0 ≤ f10_0_14.toInt by omega) (show f10_0_14.toInt ≤ 399 by omega) (show (f10_0_14.toInt = f0_.toInt ∨ (gi w0 1 (f0_.toInt).toNat).toInt = 32) by first | omega | assumption | (left; omega) | (left; decide) | (right; assumption) | (right; rw [c52]; omega) | (right; rw [c52]; decide))  hw hT hF c15 c18 hM (lv_sub hl [1, 2, 0, 3] rfl)
  have hM : TT (fun n => m_X12_isWord n 0 6385252 (sI w0)) (fun n => m_X12_isWord n 0 6385252 (sI w0)) := TT.rf
  refine lv_aload_n hx hb dX12_isWord_0 rfl (lv_at hl 0 rfl) ?_
  refine tk_Vi hC hK hw hT hA hE hSR kM_at0 (by decide) rfl (kz_X12_see_1 l adK adV dC dI cy ad B (by omega) (by omega) qr s1    w0 s.heap.size hT f0_ cf0_ (show 0 ≤ f0_.toInt by omega) (show f0_.toInt ≤ 400 by omega)) (cwV 0 hC.2.2.2.2 gX12_isWord_X12_see rfl rfl rfl (by decide +kernel) ⟨Nat.le_of_ble_eq_true rfl, Nat.le_of_ble_eq_true rfl⟩) rfl hl.1 rfl (Nat.le_of_ble_eq_true rfl) dX12_isWord_1 (fun r55 w57 H locs hp56 hw => ?_)
  obtain ⟨hT, k58, hv76, hg75⟩ := hp56
  have hF := hF.tr k58 (by decide)
  rcases hg75 with ⟨g59, g60, ⟨x61, c62, rx61, tx61⟩, ⟨x63, c64, rx63, tx63⟩, g65, g66⟩ | ⟨rfl, ⟨x67, c68, rx67, tx67⟩, ⟨x69, c70, rx69, tx69⟩, g71⟩ | ⟨rfl, ⟨x72, c73, rx72, tx72⟩, g74⟩
  · replace hM := hM.call hv76 rfl
    have g65 : (gi w57 1 (x63.toInt).toNat).toInt ≠ 32 := by have q := g65; simp only [c64] at q; omega
    have g66 : (x63.toInt = f0_.toInt ∨ (gi w0 1 (f0_.toInt).toNat).toInt = 32) := by have q := g66; simp only [cf0_, c64] at q; omega
    refine lv_pop hx hb dX12_isWord_4 rfl ?_
    refine lv_lconst (v := 0) hx hb dX12_isWord_5 (by decide) ?_
    refine lv_lstore_n (lv' := [(3, .long 0), (0, .ref (ad 0)), (1, .long 6385252)]) hx hb dX12_isWord_6 rfl hl (by decide) rfl (fun ls hl => ?_)
    refine lv_iconst (v := 0) hx hb dX12_isWord_7 (by decide) ?_
    refine lv_istore (lv' := [(5, .int 0), (3, .long 0), (0, .ref (ad 0)), (1, .long 6385252)]) hx hb dX12_isWord_8 hl (by decide) rfl (fun ls hl => ?_)
    exact L10 ((400 - (0 : Int)).toNat + 1) 0 0 x61 x63 H locs ls w57 (by decide) (by decide) (show 0 ≤ x61.toInt by omega) (show x61.toInt ≤ 400 by omega) (show 0 ≤ x63.toInt by omega) (show x63.toInt ≤ 400 by omega) (show (x63.toInt = f0_.toInt ∨ (gi w0 1 (f0_.toInt).toNat).toInt = 32) by first | omega | assumption | (left; omega) | (left; decide) | (right; assumption)) (Nat.lt_succ_self _) hw hT hF c62 c64 hM (lv_sub hl [2, 3, 1, 0] rfl)
  · replace hM := hM.call (r' := (-1)) hv76 (by decide)
    have g71 : (x69.toInt = f0_.toInt ∨ (gi w0 1 (f0_.toInt).toNat).toInt = 32) := by have q := g71; simp only [cf0_, c70] at q; omega
    refine lv_pop hx hb dX12_isWord_4 rfl ?_
    refine lv_lconst (v := 0) hx hb dX12_isWord_5 (by decide) ?_
    refine lv_lstore_n (lv' := [(3, .long 0), (0, .ref (ad 0)), (1, .long 6385252)]) hx hb dX12_isWord_6 rfl hl (by decide) rfl (fun ls hl => ?_)
    refine lv_iconst (v := 0) hx hb dX12_isWord_7 (by decide) ?_
    refine lv_istore (lv' := [(5, .int 0), (3, .long 0), (0, .ref (ad 0)), (1, .long 6385252)]) hx hb dX12_isWord_8 hl (by decide) rfl (fun ls hl => ?_)
    exact L10 ((400 - (0 : Int)).toNat + 1) 0 0 x67 x69 H locs ls w57 (by decide) (by decide) (show 0 ≤ x67.toInt by omega) (show x67.toInt ≤ 400 by omega) (show 0 ≤ x69.toInt by omega) (show x69.toInt ≤ 400 by omega) (show (x69.toInt = f0_.toInt ∨ (gi w0 1 (f0_.toInt).toNat).toInt = 32) by first | omega | assumption | (left; omega) | (left; decide) | (right; assumption)) (Nat.lt_succ_self _) hw hT hF c68 c70 hM (lv_sub hl [2, 3, 1, 0] rfl)
  · replace hM := hM.call (r' := (-1)) hv76 (by decide)
    obtain ⟨x77, c78, rx77, tx77⟩ := hT.rdi (lo := 0) (hi := 400) (k := 14) kM_at0 (by decide) rfl
    have g74 : (x77.toInt = f0_.toInt ∨ (gi w0 1 (f0_.toInt).toNat).toInt = 32) := by have q := g74; simp only [cf0_, c78] at q; omega
    refine lv_pop hx hb dX12_isWord_4 rfl ?_
    refine lv_lconst (v := 0) hx hb dX12_isWord_5 (by decide) ?_
    refine lv_lstore_n (lv' := [(3, .long 0), (0, .ref (ad 0)), (1, .long 6385252)]) hx hb dX12_isWord_6 rfl hl (by decide) rfl (fun ls hl => ?_)
    refine lv_iconst (v := 0) hx hb dX12_isWord_7 (by decide) ?_
    refine lv_istore (lv' := [(5, .int 0), (3, .long 0), (0, .ref (ad 0)), (1, .long 6385252)]) hx hb dX12_isWord_8 hl (by decide) rfl (fun ls hl => ?_)
    exact L10 ((400 - (0 : Int)).toNat + 1) 0 0 x72 x77 H locs ls w57 (by decide) (by decide) (show 0 ≤ x72.toInt by omega) (show x72.toInt ≤ 400 by omega) (show 0 ≤ x77.toInt by omega) (show x77.toInt ≤ 400 by omega) (show (x77.toInt = f0_.toInt ∨ (gi w0 1 (f0_.toInt).toNat).toInt = 32) by first | omega | assumption | (left; omega) | (left; decide) | (right; assumption)) (Nat.lt_succ_self _) hw hT hF c73 c78 hM (lv_sub hl [2, 3, 1, 0] rfl)
abbrev Pz_X12_strength_1 (ad : Nat → Nat) (cy : Nat → ClassId) (B : Int) (qr : Nat) (s1 : Int)  (w0 : va_W) : Int32 → va_W → Prop := fun r u => w0 = u ∧ Ev (fun n => m_X12_strength n 13 (sI w0)) (r.toInt, sI w0) ∧ ((r = 1))
set_option maxHeartbeats 4000000 in
set_option maxRecDepth 100000 in
theorem kz_X12_strength_1 (l : Launch) (adK adV : Nat → Nat) (dC : Nat → ClassId) (dI : Nat → Nat → Nat) (cy : Nat → ClassId) (ad : Nat → Nat) (B : Int) (hB0 : 100000 ≤ B) (hB1 : B ≤ 1073741824) (qr : Nat) (s1 : Int)   (w0 : va_W) (sz : Nat) (hT : TW ksM ad cy B qr 12 w0)  : Met l yX12_strength wsX12_strength ({ frames := 1, cells := 0, slots := 0, locals := 12 }) (va_Pc [.int 13] (wpreS adK adV dC dI cy sz w0)) (va_Qi (Pz_X12_strength_1 ad cy B qr s1  w0) (fun u : va_W => wpost dC dI cy (va_A w0 sz) u) (va_A w0 sz)) 0 0 (va_A w0 sz) := by
  refine Met.ofW (cc := cX12_strength) (maxL := 1) (ret := (some .int)) (by decide) rfl ?_
  intro p e s m args below meth c s₁ Bk hml hv
  obtain ⟨rfl, ⟨hsz, hP, hK, hD0⟩, hE, hSR⟩ := hv
  have hx := Bk.exec
  have hb := Bk.bytes
  have hr := Bk.returns
  have hlocks := Bk.notSynchronized
  have hC : CallFix p m c cX12_strength 1 s _ wsX12_strength RX12 := ⟨hx, hb, hml, findClass_of_methodNamed Bk.named, atoms_spec (ws := wsX12_strength) Bk.pre⟩
  subst hsz
  have hD := hD0.self (sz := s.heap.size)
  generalize hAe : va_A w0 s.heap.size = A at hD hE ⊢
  have hA : ∀ q : Nat, s.heap.size ≤ q → A q := fun q h => by rw [← hAe]; exact Or.inr h
  have hw : Wd dC dI A s.heap s.heap [] w0 := ⟨hP, hD, va_S.rf⟩
  have hF : FE ksM ([] : List (Nat × Nat × Nat)) w0 w0 := FE.rf
  have hl := lv_entry ([.int 13]) (n := 1) (Nat.le_of_ble_eq_true rfl)
  rw [lg_entry_eq]
  generalize (lg_sl ([.int 13]) ++ List.replicate (1 - (lg_sl ([.int 13])).length) Slot.unset).toArray = ls at hl ⊢
  have hl : lv_has ls 1 [(0, .int 13)] := hl
  generalize hloc : ([] : List Loc) = locs at hw ⊢
  have hM : TT (fun n => m_X12_strength n 13 (sI w0)) (fun n => m_X12_strength n 13 (sI w0)) := TT.rf
  refine lv_iload_n hx hb dX12_strength_0 rfl (lv_at hl 0 rfl) ?_
  refine lv_bipush (v := 13) hx hb dX12_strength_1 (by decide) ?_
  refine lv_icmp_ne (tgt := 10) hx hb dX12_strength_3 (by decide) (fun c => absurd (by decide) c) (fun _ => ?_)
  replace hM := hM.neg (by decide)
  refine lv_iconst (v := 1) hx hb dX12_strength_6 (by decide) ?_
  refine lv_goto (tgt := 31) hx hb dX12_strength_7 (by decide) ?_
  exact tk_iret hC hr hlocks hK ⟨rfl, hM.ret (by decide), rfl⟩ hw dX12_strength_31
abbrev Pz_X12_strength_2 (ad : Nat → Nat) (cy : Nat → ClassId) (B : Int) (qr : Nat) (s1 : Int) (a0 : Int32) (w0 : va_W) : Int32 → va_W → Prop := fun r u => w0 = u ∧ Ev (fun n => m_X12_strength n a0.toInt (sI w0)) (r.toInt, sI w0) ∧ ((r = 0 ∧ (¬ a0.toInt = 11 ∧ ¬ a0.toInt = 12 ∧ ¬ a0.toInt = 13)) ∨ (r = 1 ∧ 13 ≤ a0.toInt ∧ a0.toInt ≤ 13) ∨ (r = 2 ∧ 12 ≤ a0.toInt ∧ a0.toInt ≤ 12) ∨ (r = 3 ∧ 11 ≤ a0.toInt ∧ a0.toInt ≤ 11))
set_option maxHeartbeats 4000000 in
set_option maxRecDepth 100000 in
theorem kz_X12_strength_2 (l : Launch) (adK adV : Nat → Nat) (dC : Nat → ClassId) (dI : Nat → Nat → Nat) (cy : Nat → ClassId) (ad : Nat → Nat) (B : Int) (hB0 : 100000 ≤ B) (hB1 : B ≤ 1073741824) (qr : Nat) (s1 : Int)  (a0 : Int32) (w0 : va_W) (sz : Nat) (hT : TW ksM ad cy B qr 12 w0)  : Met l yX12_strength wsX12_strength ({ frames := 1, cells := 0, slots := 0, locals := 12 }) (va_Pc [.int a0] (wpreS adK adV dC dI cy sz w0)) (va_Qi (Pz_X12_strength_2 ad cy B qr s1 a0 w0) (fun u : va_W => wpost dC dI cy (va_A w0 sz) u) (va_A w0 sz)) 0 0 (va_A w0 sz) := by
  refine Met.ofW (cc := cX12_strength) (maxL := 1) (ret := (some .int)) (by decide) rfl ?_
  intro p e s m args below meth c s₁ Bk hml hv
  obtain ⟨rfl, ⟨hsz, hP, hK, hD0⟩, hE, hSR⟩ := hv
  have hx := Bk.exec
  have hb := Bk.bytes
  have hr := Bk.returns
  have hlocks := Bk.notSynchronized
  have hC : CallFix p m c cX12_strength 1 s _ wsX12_strength RX12 := ⟨hx, hb, hml, findClass_of_methodNamed Bk.named, atoms_spec (ws := wsX12_strength) Bk.pre⟩
  subst hsz
  have hD := hD0.self (sz := s.heap.size)
  generalize hAe : va_A w0 s.heap.size = A at hD hE ⊢
  have hA : ∀ q : Nat, s.heap.size ≤ q → A q := fun q h => by rw [← hAe]; exact Or.inr h
  have hw : Wd dC dI A s.heap s.heap [] w0 := ⟨hP, hD, va_S.rf⟩
  have hF : FE ksM ([] : List (Nat × Nat × Nat)) w0 w0 := FE.rf
  have hl := lv_entry ([.int a0]) (n := 1) (Nat.le_of_ble_eq_true rfl)
  rw [lg_entry_eq]
  generalize (lg_sl ([.int a0]) ++ List.replicate (1 - (lg_sl ([.int a0])).length) Slot.unset).toArray = ls at hl ⊢
  have hl : lv_has ls 1 [(0, .int a0)] := hl
  generalize hloc : ([] : List Loc) = locs at hw ⊢
  have hM : TT (fun n => m_X12_strength n a0.toInt (sI w0)) (fun n => m_X12_strength n a0.toInt (sI w0)) := TT.rf
  refine lv_iload_n hx hb dX12_strength_0 rfl (lv_at hl 0 rfl) ?_
  refine lv_bipush (v := 13) hx hb dX12_strength_1 (by decide) ?_
  refine lv_icmp_ne (tgt := 10) hx hb dX12_strength_3 (by decide) (fun c1 => ?_) (fun c1 => ?_)
  · have c1 : ¬ a0.toInt = (13 : Int) := wk_eqF c1
    replace hM := hM.pos c1
    refine lv_iload_n hx hb dX12_strength_10 rfl (lv_at hl 0 rfl) ?_
    refine lv_bipush (v := 12) hx hb dX12_strength_11 (by decide) ?_
    refine lv_icmp_ne (tgt := 20) hx hb dX12_strength_13 (by decide) (fun c2 => ?_) (fun c2 => ?_)
    · have c2 : ¬ a0.toInt = (12 : Int) := wk_eqF c2
      replace hM := hM.pos c2
      refine lv_iload_n hx hb dX12_strength_20 rfl (lv_at hl 0 rfl) ?_
      refine lv_bipush (v := 11) hx hb dX12_strength_21 (by decide) ?_
      refine lv_icmp_ne (tgt := 30) hx hb dX12_strength_23 (by decide) (fun c3 => ?_) (fun c3 => ?_)
      · have c3 : ¬ a0.toInt = (11 : Int) := wk_eqF c3
        replace hM := hM.pos c3
        refine lv_iconst (v := 0) hx hb dX12_strength_30 (by decide) ?_
        exact tk_iret hC hr hlocks hK ⟨rfl, hM.ret (by decide), (Or.inl ⟨rfl, (by exact ⟨by omega, by omega, by omega⟩)⟩)⟩ hw dX12_strength_31
      · have c3 : a0.toInt = (11 : Int) := wk_eq.mp c3
        replace hM := hM.neg (fun q => q c3)
        refine lv_iconst (v := 3) hx hb dX12_strength_26 (by decide) ?_
        refine lv_goto (tgt := 31) hx hb dX12_strength_27 (by decide) ?_
        exact tk_iret hC hr hlocks hK ⟨rfl, hM.ret (by decide), (Or.inr (Or.inr (Or.inr ⟨rfl, (show 11 ≤ a0.toInt by omega), (show a0.toInt ≤ 11 by omega)⟩)))⟩ hw dX12_strength_31
    · have c2 : a0.toInt = (12 : Int) := wk_eq.mp c2
      replace hM := hM.neg (fun q => q c2)
      refine lv_iconst (v := 2) hx hb dX12_strength_16 (by decide) ?_
      refine lv_goto (tgt := 31) hx hb dX12_strength_17 (by decide) ?_
      exact tk_iret hC hr hlocks hK ⟨rfl, hM.ret (by decide), (Or.inr (Or.inr (Or.inl ⟨rfl, (show 12 ≤ a0.toInt by omega), (show a0.toInt ≤ 12 by omega)⟩)))⟩ hw dX12_strength_31
  · have c1 : a0.toInt = (13 : Int) := wk_eq.mp c1
    replace hM := hM.neg (fun q => q c1)
    refine lv_iconst (v := 1) hx hb dX12_strength_6 (by decide) ?_
    refine lv_goto (tgt := 31) hx hb dX12_strength_7 (by decide) ?_
    exact tk_iret hC hr hlocks hK ⟨rfl, hM.ret (by decide), (Or.inr (Or.inl ⟨rfl, (show 13 ≤ a0.toInt by omega), (show a0.toInt ≤ 13 by omega)⟩))⟩ hw dX12_strength_31
abbrev Pz_X12_puts_1 (ad : Nat → Nat) (cy : Nat → ClassId) (B : Int) (qr : Nat) (s1 : Int) (a1 : Int32) (a2 : Int32) (w0 : va_W) : va_W → Prop := fun u => TW ksM ad cy B qr 12 u ∧ FE ksM [(61, 0, 2400), (62, 0, 7)] w0 u ∧ Ev (fun n => m_X12_puts n 0 a1.toInt a2.toInt (sI w0)) (0, sI u) ∧ (((∃ y : Int32, gi u 0 17 = y ∧ 0 ≤ y.toInt ∧ y.toInt ≤ 5) ∧ (putP w0 u (gi w0 0 17).toInt a1.toInt a2.toInt) ∧ ((gi u 3 ((gi u 0 17).toInt).toNat).toInt = (gi w0 3 ((gi w0 0 17).toInt).toNat).toInt + 1)))
set_option maxHeartbeats 4000000 in
set_option maxRecDepth 100000 in
theorem kz_X12_puts_1 (l : Launch) (adK adV : Nat → Nat) (dC : Nat → ClassId) (dI : Nat → Nat → Nat) (cy : Nat → ClassId) (ad : Nat → Nat) (B : Int) (hB0 : 100000 ≤ B) (hB1 : B ≤ 1073741824) (qr : Nat) (s1 : Int)  (a1 : Int32) (ra1 : 0 ≤ a1.toInt) (ta1 : a1.toInt ≤ 400) (a2 : Int32) (ra2 : 0 ≤ a2.toInt) (ta2 : a2.toInt ≤ 99999) (w0 : va_W) (sz : Nat) (hT : TW ksM ad cy B qr 12 w0) (f0_ : Int32) (cf0_ : gi w0 0 17 = f0_) (rf0_ : 0 ≤ f0_.toInt) (tf0_ : f0_.toInt ≤ 5) (f1_ : Int32) (cf1_ : gi w0 3 (f0_.toInt).toNat = f1_) (rf1_ : 0 ≤ f1_.toInt) (tf1_ : f1_.toInt ≤ 400) (pr0_ : f1_.toInt ≤ 399) : Met l yX12_puts wsX12_puts ({ frames := 1, cells := 0, slots := 0, locals := 12 }) (va_Pc [.ref (ad 0), .int a1, .int a2] (wpreS adK adV dC dI cy sz w0)) (va_Qv (Pz_X12_puts_1 ad cy B qr s1 a1 a2 w0) (fun u : va_W => wpost dC dI cy (va_A w0 sz) u) (va_A w0 sz)) 0 0 (va_A w0 sz) := by
  refine Met.ofW (cc := cX12_puts) (maxL := 3) (ret := none) (by decide) rfl ?_
  intro p e s m args below meth c s₁ Bk hml hv
  obtain ⟨rfl, ⟨hsz, hP, hK, hD0⟩, hE, hSR⟩ := hv
  have hx := Bk.exec
  have hb := Bk.bytes
  have hr := Bk.returns
  have hlocks := Bk.notSynchronized
  have hC : CallFix p m c cX12_puts 3 s _ wsX12_puts RX12 := ⟨hx, hb, hml, findClass_of_methodNamed Bk.named, atoms_spec (ws := wsX12_puts) Bk.pre⟩
  subst hsz
  have hD := hD0.self (sz := s.heap.size)
  generalize hAe : va_A w0 s.heap.size = A at hD hE ⊢
  have hA : ∀ q : Nat, s.heap.size ≤ q → A q := fun q h => by rw [← hAe]; exact Or.inr h
  have hw : Wd dC dI A s.heap s.heap [] w0 := ⟨hP, hD, va_S.rf⟩
  have hF : FE ksM [(61, 0, 2400), (62, 0, 7)] w0 w0 := FE.rf
  have hl := lv_entry ([.ref (ad 0), .int a1, .int a2]) (n := 3) (Nat.le_of_ble_eq_true rfl)
  rw [lg_entry_eq]
  generalize (lg_sl ([.ref (ad 0), .int a1, .int a2]) ++ List.replicate (3 - (lg_sl ([.ref (ad 0), .int a1, .int a2])).length) Slot.unset).toArray = ls at hl ⊢
  have hl : lv_has ls 3 [(0, .ref (ad 0)), (1, .int a1), (2, .int a2)] := hl
  generalize hloc : ([] : List Loc) = locs at hw ⊢
  have hinX12 : ∀ w ∈ u_ws RX12 TX12 42, w ∈ wsX12_puts := fun _ h => List.mem_cons_of_mem _ (List.mem_append_right _ (h))
  have hM : TT (fun n => m_X12_puts n 0 a1.toInt a2.toInt (sI w0)) (fun n => m_X12_puts n 0 a1.toInt a2.toInt (sI w0)) := TT.rf
  refine lv_aload_n hx hb dX12_puts_0 rfl (lv_at hl 0 rfl) ?_
  refine tk_getA hC hK hw hT hinX12 kM_at0 (by decide) rfl 3 (by decide) (List.mem_of_getElem? (i := 1) rfl) rfl rfl dX12_puts_1 ?_
  refine lv_sipush (v := 400) hx hb dX12_puts_4 (by decide) ?_
  refine lv_aload_n hx hb dX12_puts_7 rfl (lv_at hl 0 rfl) ?_
  refine tk_geti hC hK hw hT hinX12 kM_at0 (by decide) rfl 17 (by decide) (List.mem_of_getElem? (i := 2) rfl) rfl rfl dX12_puts_8 (fun x1 c2 rx1 tx1 => ?_)
  refine wk_top f0_ (c2.symm.trans cf0_) ?_
  replace hM := hM.rd (sI_at cf0_)
  refine lv_imul hx hb dX12_puts_11 ?_
  refine lv_topi (fun x3 ex3 => ?_)
  have ezx3 := ex3
  have ex3 : x3.toInt = (400 : Int) * f0_.toInt := by rw [ex3]; exact wk_mul (show (-2147483648) ≤ (400 : Int) * f0_.toInt by omega) (show (400 : Int) * f0_.toInt ≤ 2147483647 by omega)
  replace hM := hM.lt ex3.symm
  refine lv_aload_n hx hb dX12_puts_12 rfl (lv_at hl 0 rfl) ?_
  refine tk_getA hC hK hw hT hinX12 kM_at0 (by decide) rfl 4 (by decide) (List.mem_of_getElem? (i := 3) rfl) rfl rfl dX12_puts_13 ?_
  refine lv_aload_n hx hb dX12_puts_16 rfl (lv_at hl 0 rfl) ?_
  refine tk_geti hC hK hw hT hinX12 kM_at0 (by decide) rfl 17 (by decide) (List.mem_of_getElem? (i := 2) rfl) rfl rfl dX12_puts_17 (fun x4 c5 rx4 tx4 => ?_)
  refine wk_top f0_ (c5.symm.trans cf0_) ?_
  replace hM := hM.rd (sI_at cf0_)
  refine tk_iald hC hK hw hT kM_at3 rfl rfl (show 0 ≤ f0_.toInt by omega) (show f0_.toInt < 7 by omega) dX12_puts_20 (fun x6 c7 rx6 tx6 => ?_)
  have hox6 := c7
  have c7 : gi w0 3 (f0_.toInt).toNat = x6 := (congrArg (gi w0 3) (congrArg Int.toNat (show f0_.toInt = f0_.toInt by omega))).trans c7
  refine wk_top f1_ (c7.symm.trans cf1_) ?_
  replace hM := hM.rd ((sI_at hox6).trans (congrArg Int32.toInt (c7.symm.trans cf1_)))
  refine lv_iadd hx hb dX12_puts_21 ?_
  refine lv_topi (fun x8 ex8 => ?_)
  have ezx8 := ex8
  have ex8 : x8.toInt = x3.toInt + f1_.toInt := by rw [ex8]; exact wk_add (show (-2147483648) ≤ x3.toInt + f1_.toInt by omega) (show x3.toInt + f1_.toInt ≤ 2147483647 by omega)
  replace hM := hM.lt ex8.symm
  refine lv_iload_n hx hb dX12_puts_22 rfl (lv_at hl 1 rfl) ?_
  refine lv_bipush (v := 16) hx hb dX12_puts_23 (by decide) ?_
  refine lv_iload_n hx hb dX12_puts_25 rfl (lv_at hl 2 rfl) ?_
  refine lv_imul hx hb dX12_puts_26 ?_
  refine lv_topi (fun x9 ex9 => ?_)
  have ezx9 := ex9
  have ex9 : x9.toInt = (16 : Int) * a2.toInt := by rw [ex9]; exact wk_mul (show (-2147483648) ≤ (16 : Int) * a2.toInt by omega) (show (16 : Int) * a2.toInt ≤ 2147483647 by omega)
  replace hM := hM.lt ex9.symm
  refine lv_iadd hx hb dX12_puts_27 ?_
  refine lv_topi (fun x10 ex10 => ?_)
  have ezx10 := ex10
  have ex10 : x10.toInt = a1.toInt + x9.toInt := by rw [ex10]; exact wk_add (show (-2147483648) ≤ a1.toInt + x9.toInt by omega) (show a1.toInt + x9.toInt ≤ 2147483647 by omega)
  replace hM := hM.lt ex10.symm
  refine tk_iast hC hK hw hT kM_at2 (by decide) rfl rfl (show 0 ≤ x8.toInt by omega) (show x8.toInt < 2400 by omega) (wk_i32 x10).1 (wk_i32 x10).2 dX12_puts_28 (fun H locs w11 hw hT k13 c12 => ?_)
  replace hM := hM.wr (sI_up k13 c12)
  have hF := hF.put kM_at2 (inE_of (a := 0) (b := 2400) (by decide) (show 0 ≤ x8.toInt.toNat by omega) (show x8.toInt.toNat ≤ 2400 by omega)) k13
  have c14 := k13.gi (Or.inl (tk_ne kM_at0 kM_at2 (by decide))) cf0_
  have c15 := k13.gi (Or.inl (tk_ne kM_at3 kM_at2 (by decide))) cf1_
  refine lv_aload_n hx hb dX12_puts_29 rfl (lv_at hl 0 rfl) ?_
  refine tk_getA hC hK hw hT hinX12 kM_at0 (by decide) rfl 4 (by decide) (List.mem_of_getElem? (i := 3) rfl) rfl rfl dX12_puts_30 ?_
  refine lv_aload_n hx hb dX12_puts_33 rfl (lv_at hl 0 rfl) ?_
  refine tk_geti hC hK hw hT hinX12 kM_at0 (by decide) rfl 17 (by decide) (List.mem_of_getElem? (i := 2) rfl) rfl rfl dX12_puts_34 (fun x16 c17 rx16 tx16 => ?_)
  refine wk_top f0_ (c17.symm.trans c14) ?_
  replace hM := hM.rd (sI_at c14)
  refine lv_dup2_11 hx hb dX12_puts_37 rfl rfl ?_
  refine tk_iald hC hK hw hT kM_at3 rfl rfl (show 0 ≤ f0_.toInt by omega) (show f0_.toInt < 7 by omega) dX12_puts_38 (fun x18 c19 rx18 tx18 => ?_)
  have hox18 := c19
  have c19 : gi w11 3 (f0_.toInt).toNat = x18 := (congrArg (gi w11 3) (congrArg Int.toNat (show f0_.toInt = f0_.toInt by omega))).trans c19
  refine wk_top f1_ (c19.symm.trans c15) ?_
  replace hM := hM.rd ((sI_at hox18).trans (congrArg Int32.toInt (c19.symm.trans c15)))
  refine lv_iconst (v := 1) hx hb dX12_puts_39 (by decide) ?_
  refine lv_iadd hx hb dX12_puts_40 ?_
  refine lv_topi (fun x20 ex20 => ?_)
  have ezx20 := ex20
  have ex20 : x20.toInt = f1_.toInt + (1 : Int) := by rw [ex20]; exact wk_add (show (-2147483648) ≤ f1_.toInt + (1 : Int) by omega) (show f1_.toInt + (1 : Int) ≤ 2147483647 by omega)
  replace hM := hM.lt ex20.symm
  refine tk_iast hC hK hw hT kM_at3 (by decide) rfl rfl (show 0 ≤ f0_.toInt by omega) (show f0_.toInt < 7 by omega) (show 0 ≤ x20.toInt by omega) (show x20.toInt ≤ 400 by omega) dX12_puts_41 (fun H locs w21 hw hT k23 c22 => ?_)
  replace hM := hM.wr (sI_up k23 c22)
  have hF := hF.put kM_at3 (inE_of (a := 0) (b := 7) (by decide) (show 0 ≤ f0_.toInt.toNat by omega) (show f0_.toInt.toNat ≤ 7 by omega)) k23
  have c24 := k23.gi (Or.inl (tk_ne kM_at0 kM_at3 (by decide))) c14
  have c22 : gi w21 3 (f0_.toInt).toNat = x20 := (congrArg (gi w21 3) (congrArg Int.toNat (show f0_.toInt = f0_.toInt by omega))).trans c22
  exact tk_vret hC hr hlocks hK ⟨hT, hF, hM.ret rfl, ⟨⟨f0_, c24, (show 0 ≤ f0_.toInt by omega), (show f0_.toInt ≤ 5 by omega)⟩, (by unfold putP; rw [cf0_, cf1_]; exact ⟨fun j hj => (k23.gi (Or.inl (by decide)) rfl).trans (k13.gi (Or.inr (show j ≠ x8.toInt.toNat by omega)) rfl), by rw [show (400 * f0_.toInt + f1_.toInt).toNat = x8.toInt.toNat by omega, show gi w21 2 x8.toInt.toNat = x10 from k23.gi (Or.inl (by decide)) c12]; omega, by rw [c22]; omega, fun j => k23.gi (Or.inl (by decide)) (k13.gi (Or.inl (by decide)) rfl), fun j => k23.gi (Or.inl (by decide)) (k13.gi (Or.inl (by decide)) rfl)⟩), (by simp only [c24, cf0_, cf1_, c22]; omega)⟩⟩ hw dX12_puts_42
abbrev Pz_X12_settles_1 (ad : Nat → Nat) (cy : Nat → ClassId) (B : Int) (qr : Nat) (s1 : Int)  (gT gb gd : Int) (w0 : va_W) : va_W → Prop := fun u => TW ksM ad cy B qr 12 u ∧ FE ksM [(12, 19, 19), (12, 22, 22), (61, 0, 2400), (62, 0, 7)] w0 u ∧ Ev (fun n => m_X12_settles n 0 1 (sI w0)) (0, sI u) ∧ (((∃ y : Int32, gi u 0 17 = y ∧ 0 ≤ y.toInt ∧ y.toInt ≤ 5) ∧ (∃ y : Int32, gi u 0 19 = y ∧ (-60) ≤ y.toInt ∧ y.toInt ≤ 10) ∧ (∃ y : Int32, gi u 0 22 = y ∧ 0 ≤ y.toInt ∧ y.toInt ≤ 390) ∧ ((gi u 0 22).toInt = 0 ∨ (¬ (gi u 9 ((gi u 0 22).toInt - 1).toNat).toInt = 11 ∧ ¬ (gi u 9 ((gi u 0 22).toInt - 1).toNat).toInt = 12 ∧ ¬ (gi u 9 ((gi u 0 22).toInt - 1).toNat).toInt = 13)) ∧ OKW u gT gb ((gi u 0 22).toInt - (gi u 0 19).toInt + 1) ∧ E9 u (gi u 0 22).toInt ∧ ((gi u 3 ((gi u 0 17).toInt).toNat).toInt + (gi u 0 22).toInt = (gi w0 3 ((gi w0 0 17).toInt).toNat).toInt + (gi w0 0 22).toInt) ∧ ((gi u 0 22).toInt ≤ (gi w0 0 22).toInt) ∧ ((gi u 0 22).toInt + (gi w0 0 19).toInt ≤ (gi w0 0 22).toInt + (gi u 0 19).toInt) ∧ ((gi u 0 22).toInt ≤ (gi u 0 19).toInt + (gi w0 0 18).toInt) ∧ ((gi u 0 22).toInt ≤ 390) ∧ ((gi u 3 ((gi u 0 17).toInt).toNat).toInt ≤ 390) ∧ (brkN w0 ((gi u 0 22).toInt).toNat = brkN w0 ((gi w0 0 22).toInt).toNat) ∧ ((binN u ((gi u 0 22).toInt).toNat : Int) = (gi u 0 22).toInt - (gi u 0 19).toInt)))
set_option maxHeartbeats 4000000 in
set_option maxRecDepth 100000 in
theorem kz_X12_settles_1 (l : Launch) (adK adV : Nat → Nat) (dC : Nat → ClassId) (dI : Nat → Nat → Nat) (cy : Nat → ClassId) (ad : Nat → Nat) (B : Int) (hB0 : 100000 ≤ B) (hB1 : B ≤ 1073741824) (qr : Nat) (s1 : Int)   (w0 : va_W) (sz : Nat) (hT : TW ksM ad cy B qr 12 w0) (f0_ : Int32) (cf0_ : gi w0 0 17 = f0_) (rf0_ : 0 ≤ f0_.toInt) (tf0_ : f0_.toInt ≤ 5) (f1_ : Int32) (cf1_ : gi w0 0 18 = f1_) (rf1_ : 0 ≤ f1_.toInt) (tf1_ : f1_.toInt ≤ 60) (f2_ : Int32) (cf2_ : gi w0 0 19 = f2_) (rf2_ : (-100) ≤ f2_.toInt) (tf2_ : f2_.toInt ≤ 10) (f3_ : Int32) (cf3_ : gi w0 0 22 = f3_) (rf3_ : 0 ≤ f3_.toInt) (tf3_ : f3_.toInt ≤ 400) (f4_ : Int32) (cf4_ : gi w0 3 (f0_.toInt).toNat = f4_) (rf4_ : 0 ≤ f4_.toInt) (tf4_ : f4_.toInt ≤ 400) (pr0_ : f4_.toInt + f3_.toInt ≤ 390) (pr1_ : f3_.toInt ≤ f2_.toInt + f1_.toInt) (pr2_ : f4_.toInt ≤ 390) (pr3_ : f3_.toInt ≤ 390) (pr4_ : (binN w0 (f3_.toInt).toNat : Int) = f3_.toInt - f2_.toInt) (gb gd : Int) (hO : OKW w0 f0_.toInt gb (f3_.toInt - f2_.toInt + 1)) (hE9 : E9 w0 (f3_.toInt)) : Met l yX12_settles wsX12_settles ({ frames := 2, cells := 0, slots := 0, locals := 34 }) (va_Pc [.ref (ad 0), .int 1] (wpreS adK adV dC dI cy sz w0)) (va_Qv (Pz_X12_settles_1 ad cy B qr s1  f0_.toInt gb gd w0) (fun u : va_W => wpost dC dI cy (va_A w0 sz) u) (va_A w0 sz)) 0 0 (va_A w0 sz) := by
  refine Met.ofW (cc := cX12_settles) (maxL := 2) (ret := none) (by decide) rfl ?_
  intro p e s m args below meth c s₁ Bk hml hv
  obtain ⟨rfl, ⟨hsz, hP, hK, hD0⟩, hE, hSR⟩ := hv
  have hx := Bk.exec
  have hb := Bk.bytes
  have hr := Bk.returns
  have hlocks := Bk.notSynchronized
  have hC : CallFix p m c cX12_settles 2 s _ wsX12_settles RX12 := ⟨hx, hb, hml, findClass_of_methodNamed Bk.named, atoms_spec (ws := wsX12_settles) Bk.pre⟩
  subst hsz
  have hD := hD0.self (sz := s.heap.size)
  generalize hAe : va_A w0 s.heap.size = A at hD hE ⊢
  have hA : ∀ q : Nat, s.heap.size ≤ q → A q := fun q h => by rw [← hAe]; exact Or.inr h
  have hw : Wd dC dI A s.heap s.heap [] w0 := ⟨hP, hD, va_S.rf⟩
  have hF : FE ksM [(12, 19, 19), (12, 22, 22), (61, 0, 2400), (62, 0, 7)] w0 w0 := FE.rf
  have hl := lv_entry ([.ref (ad 0), .int 1]) (n := 2) (Nat.le_of_ble_eq_true rfl)
  rw [lg_entry_eq]
  generalize (lg_sl ([.ref (ad 0), .int 1]) ++ List.replicate (2 - (lg_sl ([.ref (ad 0), .int 1])).length) Slot.unset).toArray = ls at hl ⊢
  have hl : lv_has ls 2 [(0, .ref (ad 0)), (1, .int 1)] := hl
  generalize hloc : ([] : List Loc) = locs at hw ⊢
  have hinX12 : ∀ w ∈ u_ws RX12 TX12 42, w ∈ wsX12_settles := fun _ h => List.mem_cons_of_mem _ (List.mem_append_right _ (h))
  have L0 : ∀ (n0 : Nat) (f0_0_19 : Int32) (f0_0_22 : Int32) (f0_3__f0__toInt_toNat : Int32) (H : Heap) (locs : List Loc) (ls : Array Slot) (w1 : va_W), 0 ≤ f0_.toInt → f0_.toInt ≤ 5 → 0 ≤ f1_.toInt → f1_.toInt ≤ 60 → (-60) ≤ f0_0_19.toInt → f0_0_19.toInt ≤ 10 → 0 ≤ f0_0_22.toInt → f0_0_22.toInt ≤ 390 → 0 ≤ f0_3__f0__toInt_toNat.toInt → f0_3__f0__toInt_toNat.toInt ≤ 390 → ((binN w1 (f0_0_22.toInt).toNat : Int) = f0_0_22.toInt - f0_0_19.toInt) → (f0_3__f0__toInt_toNat.toInt + f0_0_22.toInt = f4_.toInt + f3_.toInt) → (f0_0_22.toInt ≤ f3_.toInt) → (f0_0_22.toInt + f2_.toInt ≤ f3_.toInt + f0_0_19.toInt) → (f0_0_22.toInt ≤ f0_0_19.toInt + f1_.toInt) → (f0_3__f0__toInt_toNat.toInt ≤ 390) → (f0_0_22.toInt ≤ 390) → (-60 ≤ f0_0_19.toInt) → (brkN w0 (f0_0_22.toInt).toNat = brkN w0 (f3_.toInt).toNat) → (f0_0_22.toInt - 0).toNat < n0 → Wd dC dI A s.heap H locs w1 → TW ksM ad cy B qr 12 w1 → FE ksM [(12, 19, 19), (12, 22, 22), (61, 0, 2400), (62, 0, 7)] w0 w1 → OKW w1 f0_.toInt gb (f0_0_22.toInt - f0_0_19.toInt + 1) → E9 w1 (f0_0_22.toInt) → gi w1 0 17 = f0_ → gi w1 0 18 = f1_ → gi w1 0 19 = f0_0_19 → gi w1 0 22 = f0_0_22 → gi w1 3 (f0_.toInt).toNat = f0_3__f0__toInt_toNat → TT (fun n => m_X12_settles n 0 1 (sI w0)) (fun n => j_X12_settles 0 n 0 [(1 : Int)] (sI w1)) → lv_has ls 2 [(0, .ref (ad 0)), (1, .int 1)] → W p l e ({ frames := 2, cells := 0, slots := 0, locals := 34 }) s m (List.toArray [.ref (ad 0), .int 1]) below meth c H locs 0 0 (MQ below (va_Qv (Pz_X12_settles_1 ad cy B qr s1  f0_.toInt gb gd w0) (fun u : va_W => wpost dC dI cy A u) A) (List.toArray [.ref (ad 0), .int 1]) s 0 0 A) (F0 m 0 ls []) := by
    intro n0
    induction n0 with
    | zero => intro f0_0_19 f0_0_22 f0_3__f0__toInt_toNat H locs ls w1 r2 t3 r5 t6 r8 t9 r11 t12 r14 t15 hcr0_0 hcr0_1 hcr0_2 hcr0_3 hcr0_4 hcr0_5 hcr0_6 hcr0_7 hcr0_8 hm0 hw hT hF hO hE9 c4 c7 c10 c13 c16 hM hl; omega
    | succ n0 ih0 =>
      intro f0_0_19 f0_0_22 f0_3__f0__toInt_toNat H locs ls w1 r2 t3 r5 t6 r8 t9 r11 t12 r14 t15 hcr0_0 hcr0_1 hcr0_2 hcr0_3 hcr0_4 hcr0_5 hcr0_6 hcr0_7 hcr0_8 hm0 hw hT hF hO hE9 c4 c7 c10 c13 c16 hM hl
      replace hM := hM.suc (fun _ => e_X12_settles_0)
      have gl17 := bin_le w1 (f0_0_22.toInt).toNat
      refine lv_aload_n hx hb dX12_settles_0 rfl (lv_at hl 0 rfl) ?_
      refine tk_geti hC hK hw hT hinX12 kM_at0 (by decide) rfl 22 (by decide) (List.mem_of_getElem? (i := 1) rfl) rfl rfl dX12_settles_1 (fun x18 c19 rx18 tx18 => ?_)
      refine wk_top f0_0_22 (c19.symm.trans c13) ?_
      replace hM := hM.rd (sI_at c13)
      refine lv_if_le (tgt := 76) hx hb dX12_settles_4 (by decide) (fun c20 => ?_) (fun c20 => ?_)
      · have c20 : f0_0_22.toInt ≤ (0 : Int) := wk_le.mp c20
        replace hM := hM.pos c20
        exact tk_vret hC hr hlocks hK ⟨hT, hF, hM.ret rfl, ⟨⟨f0_, c4, (show 0 ≤ f0_.toInt by omega), (show f0_.toInt ≤ 5 by omega)⟩, ⟨f0_0_19, c10, (show (-60) ≤ f0_0_19.toInt by omega), (show f0_0_19.toInt ≤ 10 by omega)⟩, ⟨f0_0_22, c13, (show 0 ≤ f0_0_22.toInt by omega), (show f0_0_22.toInt ≤ 390 by omega)⟩, (by left; rw [c13]; omega), (OKW_cast hO (by simp only [c10, c13] <;> omega)), (E9_le hE9 (by simp only [c13] <;> omega)), (by simp only [c4, cf0_, cf4_, c16, cf3_, c13]; omega), (by simp only [c4, cf0_, cf3_, c13]; omega), (by simp only [c4, cf0_, cf2_, c10, cf3_, c13]; omega), (by simp only [c4, cf0_, c10, cf1_, c13]; omega), (by simp only [c4, cf0_, c13]; omega), (by simp only [c4, cf0_, c16]; omega), (by simp only [c4, cf0_, cf3_, c13, c16]; omega), (by simp only [c4, cf0_, c10, c13]; omega)⟩⟩ hw dX12_settles_76
      · have c20 : (0 : Int) < f0_0_22.toInt := wk_leF c20
        replace hM := hM.neg (Int.not_le.mpr c20)
        refine lv_aload_n hx hb dX12_settles_7 rfl (lv_at hl 0 rfl) ?_
        refine tk_getA hC hK hw hT hinX12 kM_at0 (by decide) rfl 21 (by decide) (List.mem_of_getElem? (i := 2) rfl) rfl rfl dX12_settles_8 ?_
        refine lv_aload_n hx hb dX12_settles_11 rfl (lv_at hl 0 rfl) ?_
        refine tk_geti hC hK hw hT hinX12 kM_at0 (by decide) rfl 22 (by decide) (List.mem_of_getElem? (i := 1) rfl) rfl rfl dX12_settles_12 (fun x21 c22 rx21 tx21 => ?_)
        refine wk_top f0_0_22 (c22.symm.trans c13) ?_
        replace hM := hM.rd (sI_at c13)
        refine lv_iconst (v := 1) hx hb dX12_settles_15 (by decide) ?_
        refine lv_isub hx hb dX12_settles_16 ?_
        refine lv_topi (fun x23 ex23 => ?_)
        have ezx23 := ex23
        have ex23 : x23.toInt = f0_0_22.toInt - (1 : Int) := by rw [ex23]; exact wk_sub (show (-2147483648) ≤ f0_0_22.toInt - (1 : Int) by omega) (show f0_0_22.toInt - (1 : Int) ≤ 2147483647 by omega)
        replace hM := hM.lt ex23.symm
        refine tk_iald hC hK hw hT kM_at9 rfl rfl (show 0 ≤ x23.toInt by omega) (show x23.toInt < 400 by omega) dX12_settles_17 (fun x24 c25 rx24 tx24 => ?_)
        have hox24 := c25
        replace hM := hM.rd (sI_at hox24)
        have c25 : gi w1 9 (1 * f0_0_22.toInt + -1).toNat = x24 := (congrArg (gi w1 9) (congrArg Int.toNat (show 1 * f0_0_22.toInt + -1 = x23.toInt by omega))).trans c25
        refine tk_Si hC hK hw hT hA hE hSR (kz_X12_strength_2 l adK adV dC dI cy ad B (by omega) (by omega) qr s1   x24 w1 H.size hT ) (va_cwS 1 hC.2.2.2.2 gX12_settles_X12_strength rfl rfl rfl (by decide +kernel) ⟨Nat.le_of_ble_eq_true rfl, Nat.le_of_ble_eq_true rfl⟩) rfl hl.1 rfl (Nat.le_of_ble_eq_true rfl) dX12_settles_18 (fun r26 w28 H locs hp27 hw => ?_)
        obtain ⟨rfl, hv38, hg37⟩ := hp27
        rcases hg37 with ⟨rfl, hq30⟩ | ⟨rfl, g31, g32⟩ | ⟨rfl, g33, g34⟩ | ⟨rfl, g35, g36⟩
        · replace hM := hM.call (r' := 0) hv38 (by decide)
          refine lv_iload_n hx hb dX12_settles_21 rfl (lv_at hl 1 rfl) ?_
          refine lv_icmp_lt (tgt := 76) hx hb dX12_settles_22 (by decide) (fun _ => ?_) (fun c => absurd (by decide) c)
          replace hM := hM.pos (by decide)
          exact tk_vret hC hr hlocks hK ⟨hT, hF, hM.ret rfl, ⟨⟨f0_, c4, (show 0 ≤ f0_.toInt by omega), (show f0_.toInt ≤ 5 by omega)⟩, ⟨f0_0_19, c10, (show (-60) ≤ f0_0_19.toInt by omega), (show f0_0_19.toInt ≤ 10 by omega)⟩, ⟨f0_0_22, c13, (show 0 ≤ f0_0_22.toInt by omega), (show f0_0_22.toInt ≤ 390 by omega)⟩, (by first | (left; rw [c13]; omega) | (right; rw [c13, show (f0_0_22.toInt - 1) = 1 * f0_0_22.toInt + -1 by omega, c25]; exact hq30)), (OKW_cast hO (by simp only [c10, c13] <;> omega)), (E9_le hE9 (by simp only [c13] <;> omega)), (by simp only [c4, cf0_, cf4_, c16, cf3_, c13]; omega), (by simp only [c4, cf0_, cf3_, c13]; omega), (by simp only [c4, cf0_, cf2_, c10, cf3_, c13]; omega), (by simp only [c4, cf0_, c10, cf1_, c13]; omega), (by simp only [c4, cf0_, c13]; omega), (by simp only [c4, cf0_, c16]; omega), (by simp only [c4, cf0_, cf3_, c13, c16, c25]; omega), (by simp only [c4, cf0_, c10, c13]; omega)⟩⟩ hw dX12_settles_76
        · replace hM := hM.call (r' := 1) hv38 (by decide)
          refine lv_iload_n hx hb dX12_settles_21 rfl (lv_at hl 1 rfl) ?_
          refine lv_icmp_lt (tgt := 76) hx hb dX12_settles_22 (by decide) (fun c => absurd c (by decide)) (fun _ => ?_)
          replace hM := hM.neg (by decide)
          refine lv_aload_n hx hb dX12_settles_25 rfl (lv_at hl 0 rfl) ?_
          refine lv_dup hx hb dX12_settles_26 rfl ?_
          refine tk_geti hC hK hw hT hinX12 kM_at0 (by decide) rfl 22 (by decide) (List.mem_of_getElem? (i := 1) rfl) rfl rfl dX12_settles_27 (fun x39 c40 rx39 tx39 => ?_)
          refine wk_top f0_0_22 (c40.symm.trans c13) ?_
          replace hM := hM.rd (sI_at c13)
          refine lv_iconst (v := 1) hx hb dX12_settles_30 (by decide) ?_
          refine lv_isub hx hb dX12_settles_31 ?_
          refine lv_topi (fun x41 ex41 => ?_)
          have ezx41 := ex41
          have ex41 : x41.toInt = f0_0_22.toInt - (1 : Int) := by rw [ex41]; exact wk_sub (show (-2147483648) ≤ f0_0_22.toInt - (1 : Int) by omega) (show f0_0_22.toInt - (1 : Int) ≤ 2147483647 by omega)
          replace hM := hM.lt ex41.symm
          refine tk_puti hC hK hw hT hinX12 tyX12_ok nmX12 kM_at0 (by decide) rfl rfl 22 (by decide) (List.mem_of_getElem? (i := 1) rfl) rfl rfl rfl rfl (show 0 ≤ x41.toInt by omega) (show x41.toInt ≤ 400 by omega) dX12_settles_32 (fun H locs w42 hw hT k44 c43 => ?_)
          replace hM := hM.wr (sI_up k44 c43)
          have gn45 : binN w42 (f0_0_22.toInt).toNat = binN w1 (f0_0_22.toInt).toNat := bin_F1 _ k44 (by decide)
          have gn46 : binN w42 (x41.toInt).toNat = binN w1 (x41.toInt).toNat := bin_F1 _ k44 (by decide)
          have gt47 := bin_top (w := w1) (a := f0_0_22.toInt) (b := x41.toInt) (by omega) (by omega)
          have gx48 : (gi w1 9 (x41.toInt).toNat).toInt = x24.toInt := by rw [show (x41.toInt) = 1 * f0_0_22.toInt + -1 by omega, c25]
          have hO := OKW_F1 k44 (by decide) (by decide) (by decide) (by decide) hO
          have hE9 := E9_F1 k44 (by decide) hE9
          have hF := hF.put kM_at0 (k := 22) (by decide) k44
          have c49 := k44.gi (Or.inr (by decide)) c4
          have c50 := k44.gi (Or.inr (by decide)) c7
          have c51 := k44.gi (Or.inr (by decide)) c10
          have c52 := k44.gi (Or.inl (tk_ne kM_at3 kM_at0 (by decide))) c16
          have c53 := k44.gi (Or.inl (tk_ne kM_at9 kM_at0 (by decide))) c25
          refine lv_aload_n hx hb dX12_settles_35 rfl (lv_at hl 0 rfl) ?_
          refine lv_aload_n hx hb dX12_settles_36 rfl (lv_at hl 0 rfl) ?_
          refine tk_getA hC hK hw hT hinX12 kM_at0 (by decide) rfl 21 (by decide) (List.mem_of_getElem? (i := 2) rfl) rfl rfl dX12_settles_37 ?_
          refine lv_aload_n hx hb dX12_settles_40 rfl (lv_at hl 0 rfl) ?_
          refine tk_geti hC hK hw hT hinX12 kM_at0 (by decide) rfl 22 (by decide) (List.mem_of_getElem? (i := 1) rfl) rfl rfl dX12_settles_41 (fun x54 c55 rx54 tx54 => ?_)
          refine wk_top x41 (c55.symm.trans c43) ?_
          replace hM := hM.rd (sI_at c43)
          refine tk_iald hC hK hw hT kM_at9 rfl rfl (show 0 ≤ x41.toInt by omega) (show x41.toInt < 400 by omega) dX12_settles_44 (fun x56 c57 rx56 tx56 => ?_)
          have hox56 := c57
          have c57 : gi w42 9 (1 * f0_0_22.toInt + -1).toNat = x56 := (congrArg (gi w42 9) (congrArg Int.toNat (show 1 * f0_0_22.toInt + -1 = x41.toInt by omega))).trans c57
          refine wk_top x24 (c57.symm.trans c53) ?_
          replace hM := hM.rd ((sI_at hox56).trans (congrArg Int32.toInt (c57.symm.trans c53)))
          refine lv_iconst (v := 0) hx hb dX12_settles_45 (by decide) ?_
          obtain rfl : x24 = 13 := wk_eq.mpr (show x24.toInt = 13 by omega)
          try simp only [show (13 : Int32).toInt = 13 by decide] at hM
          refine tk_Vv hC hK hw hT hA hE hSR kM_at0 (by decide) rfl (kz_X12_puts_1 l adK adV dC dI cy ad B (by omega) (by omega) qr s1   13 (by decide) (by decide) 0 (by decide) (by decide) w42 H.size hT f0_ c49 (show 0 ≤ f0_.toInt by omega) (show f0_.toInt ≤ 5 by omega) f0_3__f0__toInt_toNat c52 (show 0 ≤ f0_3__f0__toInt_toNat.toInt by omega) (show f0_3__f0__toInt_toNat.toInt ≤ 400 by omega) (show f0_3__f0__toInt_toNat.toInt ≤ 399 by omega)) (cwV 2 hC.2.2.2.2 gX12_settles_X12_puts rfl rfl rfl (by decide +kernel) ⟨Nat.le_of_ble_eq_true rfl, Nat.le_of_ble_eq_true rfl⟩) rfl hl.1 rfl (Nat.le_of_ble_eq_true rfl) dX12_settles_46 (fun w60 H locs hp59 hw => ?_)
          obtain ⟨hT, k61, hv67, hg66⟩ := hp59
          try simp only [show (13 : Int32).toInt = 13 by decide] at hv67
          try simp only [show (0 : Int32).toInt = 0 by decide] at hv67
          have hE9 := E9_FE k61 (fun _ => rfl) hE9
          have gn68 : binN w60 (x41.toInt).toNat = binN w42 (x41.toInt).toNat := bin_FE _ k61 (fun _ => rfl)
          have hF := hF.tr k61 (by decide)
          have c69 := k61.gi kM_at0 (by decide) c49
          have c70 := k61.gi kM_at0 (by decide) c50
          have c71 := k61.gi kM_at0 (by decide) c51
          have c72 := k61.gi kM_at9 rfl c53
          have c73 := k61.gi kM_at0 (by decide) c43
          obtain ⟨⟨x62, c63, rx62, tx62⟩, hq64, g65⟩ := hg66
          replace hM := hM.call hv67 rfl
          have ex62 : x62.toInt = f0_.toInt := by rw [← c69.symm.trans c63]
          obtain ⟨x74, c75, rx74, tx74⟩ := hT.rda (lo := 0) (hi := 400) (i := (f0_.toInt).toNat) kM_at3 rfl rfl (by omega)
          have g65 : x74.toInt = f0_3__f0__toInt_toNat.toInt + 1 := by have q := g65; simp only [c49, c69, c52, c75] at q; omega
          have hO : OKW w60 f0_.toInt gb ((f0_0_22.toInt - f0_0_19.toInt + 1) - 1) := OKW_put hO (by have q := hq64; rw [c49] at q; exact q) (by rw [c52]; omega) (fun x hx => by simp only [(show (13 : Int32).toInt = 13 by decide), (show (0 : Int32).toInt = 0 by decide)] at hx; exact okT_bin (by omega) (by omega) (by omega) (by omega)) (by omega) (by omega)
          refine lv_aload_n hx hb dX12_settles_49 rfl (lv_at hl 0 rfl) ?_
          refine tk_getA hC hK hw hT hinX12 kM_at0 (by decide) rfl 21 (by decide) (List.mem_of_getElem? (i := 2) rfl) rfl rfl dX12_settles_50 ?_
          refine lv_aload_n hx hb dX12_settles_53 rfl (lv_at hl 0 rfl) ?_
          refine tk_geti hC hK hw hT hinX12 kM_at0 (by decide) rfl 22 (by decide) (List.mem_of_getElem? (i := 1) rfl) rfl rfl dX12_settles_54 (fun x76 c77 rx76 tx76 => ?_)
          refine wk_top x41 (c77.symm.trans c73) ?_
          replace hM := hM.rd (sI_at c73)
          refine tk_iald hC hK hw hT kM_at9 rfl rfl (show 0 ≤ x41.toInt by omega) (show x41.toInt < 400 by omega) dX12_settles_57 (fun x78 c79 rx78 tx78 => ?_)
          have hox78 := c79
          have c79 : gi w60 9 (1 * f0_0_22.toInt + -1).toNat = x78 := (congrArg (gi w60 9) (congrArg Int.toNat (show 1 * f0_0_22.toInt + -1 = x41.toInt by omega))).trans c79
          refine wk_top 13 (c79.symm.trans c72) ?_
          replace hM := hM.rd (v := 13) ((sI_at hox78).trans ((congrArg Int32.toInt (c79.symm.trans c72)).trans (by decide)))
          refine lv_bipush (v := 11) hx hb dX12_settles_58 (by decide) ?_
          refine lv_icmp_ne (tgt := 0) hx hb dX12_settles_60 (by decide) (fun _ => ?_) (fun c => absurd c (by decide))
          replace hM := hM.pos (by decide)
          exact ih0 f0_0_19 x41 x74 H locs ls w60 (show 0 ≤ f0_.toInt by omega) (show f0_.toInt ≤ 5 by omega) (show 0 ≤ f1_.toInt by omega) (show f1_.toInt ≤ 60 by omega) (show (-60) ≤ f0_0_19.toInt by omega) (show f0_0_19.toInt ≤ 10 by omega) (show 0 ≤ x41.toInt by omega) (show x41.toInt ≤ 390 by omega) (show 0 ≤ x74.toInt by omega) (show x74.toInt ≤ 390 by omega) (show (binN w60 (x41.toInt).toNat : Int) = x41.toInt - f0_0_19.toInt by omega) (show x74.toInt + x41.toInt = f4_.toInt + f3_.toInt by omega) (show x41.toInt ≤ f3_.toInt by omega) (show x41.toInt + f2_.toInt ≤ f3_.toInt + f0_0_19.toInt by omega) (show x41.toInt ≤ f0_0_19.toInt + f1_.toInt by omega) (show x74.toInt ≤ 390 by omega) (show x41.toInt ≤ 390 by omega) (show -60 ≤ f0_0_19.toInt by omega) (show brkN w0 (x41.toInt).toNat = brkN w0 (f3_.toInt).toNat from ((brk_step (by omega) (show f0_0_22.toInt = x41.toInt + 1 by omega) (show ¬ (gi w0 9 (x41.toInt).toNat).toInt = 91 by first | (rw [show (x41.toInt) = 1 * f0_0_22.toInt + -1 by omega, ← hF.gi kM_at9 rfl rfl, c72]; omega) | (rw [show (x41.toInt) = 1 * f0_0_22.toInt + -1 by omega, ← hF.gi kM_at9 rfl rfl, c72]; decide))).trans hcr0_8)) (show (x41.toInt - 0).toNat < n0 by omega) hw hT hF (OKW_cast hO (show (f0_0_22.toInt - f0_0_19.toInt + 1) - 1 = x41.toInt - f0_0_19.toInt + 1 by omega)) (E9_le hE9 (show x41.toInt ≤ _ by omega)) c69 c70 c71 c73 c75 hM (lv_sub hl [0, 1] rfl)
        · replace hM := hM.call (r' := 2) hv38 (by decide)
          refine lv_iload_n hx hb dX12_settles_21 rfl (lv_at hl 1 rfl) ?_
          refine lv_icmp_lt (tgt := 76) hx hb dX12_settles_22 (by decide) (fun c => absurd c (by decide)) (fun _ => ?_)
          replace hM := hM.neg (by decide)
          refine lv_aload_n hx hb dX12_settles_25 rfl (lv_at hl 0 rfl) ?_
          refine lv_dup hx hb dX12_settles_26 rfl ?_
          refine tk_geti hC hK hw hT hinX12 kM_at0 (by decide) rfl 22 (by decide) (List.mem_of_getElem? (i := 1) rfl) rfl rfl dX12_settles_27 (fun x80 c81 rx80 tx80 => ?_)
          refine wk_top f0_0_22 (c81.symm.trans c13) ?_
          replace hM := hM.rd (sI_at c13)
          refine lv_iconst (v := 1) hx hb dX12_settles_30 (by decide) ?_
          refine lv_isub hx hb dX12_settles_31 ?_
          refine lv_topi (fun x82 ex82 => ?_)
          have ezx82 := ex82
          have ex82 : x82.toInt = f0_0_22.toInt - (1 : Int) := by rw [ex82]; exact wk_sub (show (-2147483648) ≤ f0_0_22.toInt - (1 : Int) by omega) (show f0_0_22.toInt - (1 : Int) ≤ 2147483647 by omega)
          replace hM := hM.lt ex82.symm
          refine tk_puti hC hK hw hT hinX12 tyX12_ok nmX12 kM_at0 (by decide) rfl rfl 22 (by decide) (List.mem_of_getElem? (i := 1) rfl) rfl rfl rfl rfl (show 0 ≤ x82.toInt by omega) (show x82.toInt ≤ 400 by omega) dX12_settles_32 (fun H locs w83 hw hT k85 c84 => ?_)
          replace hM := hM.wr (sI_up k85 c84)
          have gn86 : binN w83 (f0_0_22.toInt).toNat = binN w1 (f0_0_22.toInt).toNat := bin_F1 _ k85 (by decide)
          have gn87 : binN w83 (x82.toInt).toNat = binN w1 (x82.toInt).toNat := bin_F1 _ k85 (by decide)
          have gt88 := bin_top (w := w1) (a := f0_0_22.toInt) (b := x82.toInt) (by omega) (by omega)
          have gx89 : (gi w1 9 (x82.toInt).toNat).toInt = x24.toInt := by rw [show (x82.toInt) = 1 * f0_0_22.toInt + -1 by omega, c25]
          have hO := OKW_F1 k85 (by decide) (by decide) (by decide) (by decide) hO
          have hE9 := E9_F1 k85 (by decide) hE9
          have hF := hF.put kM_at0 (k := 22) (by decide) k85
          have c90 := k85.gi (Or.inr (by decide)) c4
          have c91 := k85.gi (Or.inr (by decide)) c7
          have c92 := k85.gi (Or.inr (by decide)) c10
          have c93 := k85.gi (Or.inl (tk_ne kM_at3 kM_at0 (by decide))) c16
          have c94 := k85.gi (Or.inl (tk_ne kM_at9 kM_at0 (by decide))) c25
          refine lv_aload_n hx hb dX12_settles_35 rfl (lv_at hl 0 rfl) ?_
          refine lv_aload_n hx hb dX12_settles_36 rfl (lv_at hl 0 rfl) ?_
          refine tk_getA hC hK hw hT hinX12 kM_at0 (by decide) rfl 21 (by decide) (List.mem_of_getElem? (i := 2) rfl) rfl rfl dX12_settles_37 ?_
          refine lv_aload_n hx hb dX12_settles_40 rfl (lv_at hl 0 rfl) ?_
          refine tk_geti hC hK hw hT hinX12 kM_at0 (by decide) rfl 22 (by decide) (List.mem_of_getElem? (i := 1) rfl) rfl rfl dX12_settles_41 (fun x95 c96 rx95 tx95 => ?_)
          refine wk_top x82 (c96.symm.trans c84) ?_
          replace hM := hM.rd (sI_at c84)
          refine tk_iald hC hK hw hT kM_at9 rfl rfl (show 0 ≤ x82.toInt by omega) (show x82.toInt < 400 by omega) dX12_settles_44 (fun x97 c98 rx97 tx97 => ?_)
          have hox97 := c98
          have c98 : gi w83 9 (1 * f0_0_22.toInt + -1).toNat = x97 := (congrArg (gi w83 9) (congrArg Int.toNat (show 1 * f0_0_22.toInt + -1 = x82.toInt by omega))).trans c98
          refine wk_top x24 (c98.symm.trans c94) ?_
          replace hM := hM.rd ((sI_at hox97).trans (congrArg Int32.toInt (c98.symm.trans c94)))
          refine lv_iconst (v := 0) hx hb dX12_settles_45 (by decide) ?_
          obtain rfl : x24 = 12 := wk_eq.mpr (show x24.toInt = 12 by omega)
          try simp only [show (12 : Int32).toInt = 12 by decide] at hM
          refine tk_Vv hC hK hw hT hA hE hSR kM_at0 (by decide) rfl (kz_X12_puts_1 l adK adV dC dI cy ad B (by omega) (by omega) qr s1   12 (by decide) (by decide) 0 (by decide) (by decide) w83 H.size hT f0_ c90 (show 0 ≤ f0_.toInt by omega) (show f0_.toInt ≤ 5 by omega) f0_3__f0__toInt_toNat c93 (show 0 ≤ f0_3__f0__toInt_toNat.toInt by omega) (show f0_3__f0__toInt_toNat.toInt ≤ 400 by omega) (show f0_3__f0__toInt_toNat.toInt ≤ 399 by omega)) (cwV 2 hC.2.2.2.2 gX12_settles_X12_puts rfl rfl rfl (by decide +kernel) ⟨Nat.le_of_ble_eq_true rfl, Nat.le_of_ble_eq_true rfl⟩) rfl hl.1 rfl (Nat.le_of_ble_eq_true rfl) dX12_settles_46 (fun w101 H locs hp100 hw => ?_)
          obtain ⟨hT, k102, hv108, hg107⟩ := hp100
          try simp only [show (12 : Int32).toInt = 12 by decide] at hv108
          try simp only [show (0 : Int32).toInt = 0 by decide] at hv108
          have hE9 := E9_FE k102 (fun _ => rfl) hE9
          have gn109 : binN w101 (x82.toInt).toNat = binN w83 (x82.toInt).toNat := bin_FE _ k102 (fun _ => rfl)
          have hF := hF.tr k102 (by decide)
          have c110 := k102.gi kM_at0 (by decide) c90
          have c111 := k102.gi kM_at0 (by decide) c91
          have c112 := k102.gi kM_at0 (by decide) c92
          have c113 := k102.gi kM_at9 rfl c94
          have c114 := k102.gi kM_at0 (by decide) c84
          obtain ⟨⟨x103, c104, rx103, tx103⟩, hq105, g106⟩ := hg107
          replace hM := hM.call hv108 rfl
          have ex103 : x103.toInt = f0_.toInt := by rw [← c110.symm.trans c104]
          obtain ⟨x115, c116, rx115, tx115⟩ := hT.rda (lo := 0) (hi := 400) (i := (f0_.toInt).toNat) kM_at3 rfl rfl (by omega)
          have g106 : x115.toInt = f0_3__f0__toInt_toNat.toInt + 1 := by have q := g106; simp only [c90, c110, c93, c116] at q; omega
          have hO : OKW w101 f0_.toInt gb ((f0_0_22.toInt - f0_0_19.toInt + 1) - 1) := OKW_put hO (by have q := hq105; rw [c90] at q; exact q) (by rw [c93]; omega) (fun x hx => by simp only [(show (12 : Int32).toInt = 12 by decide), (show (0 : Int32).toInt = 0 by decide)] at hx; exact okT_bin (by omega) (by omega) (by omega) (by omega)) (by omega) (by omega)
          refine lv_aload_n hx hb dX12_settles_49 rfl (lv_at hl 0 rfl) ?_
          refine tk_getA hC hK hw hT hinX12 kM_at0 (by decide) rfl 21 (by decide) (List.mem_of_getElem? (i := 2) rfl) rfl rfl dX12_settles_50 ?_
          refine lv_aload_n hx hb dX12_settles_53 rfl (lv_at hl 0 rfl) ?_
          refine tk_geti hC hK hw hT hinX12 kM_at0 (by decide) rfl 22 (by decide) (List.mem_of_getElem? (i := 1) rfl) rfl rfl dX12_settles_54 (fun x117 c118 rx117 tx117 => ?_)
          refine wk_top x82 (c118.symm.trans c114) ?_
          replace hM := hM.rd (sI_at c114)
          refine tk_iald hC hK hw hT kM_at9 rfl rfl (show 0 ≤ x82.toInt by omega) (show x82.toInt < 400 by omega) dX12_settles_57 (fun x119 c120 rx119 tx119 => ?_)
          have hox119 := c120
          have c120 : gi w101 9 (1 * f0_0_22.toInt + -1).toNat = x119 := (congrArg (gi w101 9) (congrArg Int.toNat (show 1 * f0_0_22.toInt + -1 = x82.toInt by omega))).trans c120
          refine wk_top 12 (c120.symm.trans c113) ?_
          replace hM := hM.rd (v := 12) ((sI_at hox119).trans ((congrArg Int32.toInt (c120.symm.trans c113)).trans (by decide)))
          refine lv_bipush (v := 11) hx hb dX12_settles_58 (by decide) ?_
          refine lv_icmp_ne (tgt := 0) hx hb dX12_settles_60 (by decide) (fun _ => ?_) (fun c => absurd c (by decide))
          replace hM := hM.pos (by decide)
          exact ih0 f0_0_19 x82 x115 H locs ls w101 (show 0 ≤ f0_.toInt by omega) (show f0_.toInt ≤ 5 by omega) (show 0 ≤ f1_.toInt by omega) (show f1_.toInt ≤ 60 by omega) (show (-60) ≤ f0_0_19.toInt by omega) (show f0_0_19.toInt ≤ 10 by omega) (show 0 ≤ x82.toInt by omega) (show x82.toInt ≤ 390 by omega) (show 0 ≤ x115.toInt by omega) (show x115.toInt ≤ 390 by omega) (show (binN w101 (x82.toInt).toNat : Int) = x82.toInt - f0_0_19.toInt by omega) (show x115.toInt + x82.toInt = f4_.toInt + f3_.toInt by omega) (show x82.toInt ≤ f3_.toInt by omega) (show x82.toInt + f2_.toInt ≤ f3_.toInt + f0_0_19.toInt by omega) (show x82.toInt ≤ f0_0_19.toInt + f1_.toInt by omega) (show x115.toInt ≤ 390 by omega) (show x82.toInt ≤ 390 by omega) (show -60 ≤ f0_0_19.toInt by omega) (show brkN w0 (x82.toInt).toNat = brkN w0 (f3_.toInt).toNat from ((brk_step (by omega) (show f0_0_22.toInt = x82.toInt + 1 by omega) (show ¬ (gi w0 9 (x82.toInt).toNat).toInt = 91 by first | (rw [show (x82.toInt) = 1 * f0_0_22.toInt + -1 by omega, ← hF.gi kM_at9 rfl rfl, c113]; omega) | (rw [show (x82.toInt) = 1 * f0_0_22.toInt + -1 by omega, ← hF.gi kM_at9 rfl rfl, c113]; decide))).trans hcr0_8)) (show (x82.toInt - 0).toNat < n0 by omega) hw hT hF (OKW_cast hO (show (f0_0_22.toInt - f0_0_19.toInt + 1) - 1 = x82.toInt - f0_0_19.toInt + 1 by omega)) (E9_le hE9 (show x82.toInt ≤ _ by omega)) c110 c111 c112 c114 c116 hM (lv_sub hl [0, 1] rfl)
        · replace hM := hM.call (r' := 3) hv38 (by decide)
          refine lv_iload_n hx hb dX12_settles_21 rfl (lv_at hl 1 rfl) ?_
          refine lv_icmp_lt (tgt := 76) hx hb dX12_settles_22 (by decide) (fun c => absurd c (by decide)) (fun _ => ?_)
          replace hM := hM.neg (by decide)
          refine lv_aload_n hx hb dX12_settles_25 rfl (lv_at hl 0 rfl) ?_
          refine lv_dup hx hb dX12_settles_26 rfl ?_
          refine tk_geti hC hK hw hT hinX12 kM_at0 (by decide) rfl 22 (by decide) (List.mem_of_getElem? (i := 1) rfl) rfl rfl dX12_settles_27 (fun x121 c122 rx121 tx121 => ?_)
          refine wk_top f0_0_22 (c122.symm.trans c13) ?_
          replace hM := hM.rd (sI_at c13)
          refine lv_iconst (v := 1) hx hb dX12_settles_30 (by decide) ?_
          refine lv_isub hx hb dX12_settles_31 ?_
          refine lv_topi (fun x123 ex123 => ?_)
          have ezx123 := ex123
          have ex123 : x123.toInt = f0_0_22.toInt - (1 : Int) := by rw [ex123]; exact wk_sub (show (-2147483648) ≤ f0_0_22.toInt - (1 : Int) by omega) (show f0_0_22.toInt - (1 : Int) ≤ 2147483647 by omega)
          replace hM := hM.lt ex123.symm
          refine tk_puti hC hK hw hT hinX12 tyX12_ok nmX12 kM_at0 (by decide) rfl rfl 22 (by decide) (List.mem_of_getElem? (i := 1) rfl) rfl rfl rfl rfl (show 0 ≤ x123.toInt by omega) (show x123.toInt ≤ 400 by omega) dX12_settles_32 (fun H locs w124 hw hT k126 c125 => ?_)
          replace hM := hM.wr (sI_up k126 c125)
          have gn127 : binN w124 (f0_0_22.toInt).toNat = binN w1 (f0_0_22.toInt).toNat := bin_F1 _ k126 (by decide)
          have gn128 : binN w124 (x123.toInt).toNat = binN w1 (x123.toInt).toNat := bin_F1 _ k126 (by decide)
          have gt129 := bin_top (w := w1) (a := f0_0_22.toInt) (b := x123.toInt) (by omega) (by omega)
          have gx130 : (gi w1 9 (x123.toInt).toNat).toInt = x24.toInt := by rw [show (x123.toInt) = 1 * f0_0_22.toInt + -1 by omega, c25]
          have hO := OKW_F1 k126 (by decide) (by decide) (by decide) (by decide) hO
          have hE9 := E9_F1 k126 (by decide) hE9
          have hF := hF.put kM_at0 (k := 22) (by decide) k126
          have c131 := k126.gi (Or.inr (by decide)) c4
          have c132 := k126.gi (Or.inr (by decide)) c7
          have c133 := k126.gi (Or.inr (by decide)) c10
          have c134 := k126.gi (Or.inl (tk_ne kM_at3 kM_at0 (by decide))) c16
          have c135 := k126.gi (Or.inl (tk_ne kM_at9 kM_at0 (by decide))) c25
          refine lv_aload_n hx hb dX12_settles_35 rfl (lv_at hl 0 rfl) ?_
          refine lv_aload_n hx hb dX12_settles_36 rfl (lv_at hl 0 rfl) ?_
          refine tk_getA hC hK hw hT hinX12 kM_at0 (by decide) rfl 21 (by decide) (List.mem_of_getElem? (i := 2) rfl) rfl rfl dX12_settles_37 ?_
          refine lv_aload_n hx hb dX12_settles_40 rfl (lv_at hl 0 rfl) ?_
          refine tk_geti hC hK hw hT hinX12 kM_at0 (by decide) rfl 22 (by decide) (List.mem_of_getElem? (i := 1) rfl) rfl rfl dX12_settles_41 (fun x136 c137 rx136 tx136 => ?_)
          refine wk_top x123 (c137.symm.trans c125) ?_
          replace hM := hM.rd (sI_at c125)
          refine tk_iald hC hK hw hT kM_at9 rfl rfl (show 0 ≤ x123.toInt by omega) (show x123.toInt < 400 by omega) dX12_settles_44 (fun x138 c139 rx138 tx138 => ?_)
          have hox138 := c139
          have c139 : gi w124 9 (1 * f0_0_22.toInt + -1).toNat = x138 := (congrArg (gi w124 9) (congrArg Int.toNat (show 1 * f0_0_22.toInt + -1 = x123.toInt by omega))).trans c139
          refine wk_top x24 (c139.symm.trans c135) ?_
          replace hM := hM.rd ((sI_at hox138).trans (congrArg Int32.toInt (c139.symm.trans c135)))
          refine lv_iconst (v := 0) hx hb dX12_settles_45 (by decide) ?_
          obtain rfl : x24 = 11 := wk_eq.mpr (show x24.toInt = 11 by omega)
          try simp only [show (11 : Int32).toInt = 11 by decide] at hM
          refine tk_Vv hC hK hw hT hA hE hSR kM_at0 (by decide) rfl (kz_X12_puts_1 l adK adV dC dI cy ad B (by omega) (by omega) qr s1   11 (by decide) (by decide) 0 (by decide) (by decide) w124 H.size hT f0_ c131 (show 0 ≤ f0_.toInt by omega) (show f0_.toInt ≤ 5 by omega) f0_3__f0__toInt_toNat c134 (show 0 ≤ f0_3__f0__toInt_toNat.toInt by omega) (show f0_3__f0__toInt_toNat.toInt ≤ 400 by omega) (show f0_3__f0__toInt_toNat.toInt ≤ 399 by omega)) (cwV 2 hC.2.2.2.2 gX12_settles_X12_puts rfl rfl rfl (by decide +kernel) ⟨Nat.le_of_ble_eq_true rfl, Nat.le_of_ble_eq_true rfl⟩) rfl hl.1 rfl (Nat.le_of_ble_eq_true rfl) dX12_settles_46 (fun w142 H locs hp141 hw => ?_)
          obtain ⟨hT, k143, hv149, hg148⟩ := hp141
          try simp only [show (11 : Int32).toInt = 11 by decide] at hv149
          try simp only [show (0 : Int32).toInt = 0 by decide] at hv149
          have hE9 := E9_FE k143 (fun _ => rfl) hE9
          have gn150 : binN w142 (x123.toInt).toNat = binN w124 (x123.toInt).toNat := bin_FE _ k143 (fun _ => rfl)
          have hF := hF.tr k143 (by decide)
          have c151 := k143.gi kM_at0 (by decide) c131
          have c152 := k143.gi kM_at0 (by decide) c132
          have c153 := k143.gi kM_at0 (by decide) c133
          have c154 := k143.gi kM_at9 rfl c135
          have c155 := k143.gi kM_at0 (by decide) c125
          obtain ⟨⟨x144, c145, rx144, tx144⟩, hq146, g147⟩ := hg148
          replace hM := hM.call hv149 rfl
          have ex144 : x144.toInt = f0_.toInt := by rw [← c151.symm.trans c145]
          obtain ⟨x156, c157, rx156, tx156⟩ := hT.rda (lo := 0) (hi := 400) (i := (f0_.toInt).toNat) kM_at3 rfl rfl (by omega)
          have g147 : x156.toInt = f0_3__f0__toInt_toNat.toInt + 1 := by have q := g147; simp only [c131, c151, c134, c157] at q; omega
          have hO : OKW w142 f0_.toInt gb ((f0_0_22.toInt - f0_0_19.toInt + 1)) := OKW_put hO (by have q := hq146; rw [c131] at q; exact q) (by rw [c134]; omega) (fun x hx => by simp only [(show (11 : Int32).toInt = 11 by decide), (show (0 : Int32).toInt = 0 by decide)] at hx; exact okT_not (by omega) (by omega)) (by omega) (by omega)
          refine lv_aload_n hx hb dX12_settles_49 rfl (lv_at hl 0 rfl) ?_
          refine tk_getA hC hK hw hT hinX12 kM_at0 (by decide) rfl 21 (by decide) (List.mem_of_getElem? (i := 2) rfl) rfl rfl dX12_settles_50 ?_
          refine lv_aload_n hx hb dX12_settles_53 rfl (lv_at hl 0 rfl) ?_
          refine tk_geti hC hK hw hT hinX12 kM_at0 (by decide) rfl 22 (by decide) (List.mem_of_getElem? (i := 1) rfl) rfl rfl dX12_settles_54 (fun x158 c159 rx158 tx158 => ?_)
          refine wk_top x123 (c159.symm.trans c155) ?_
          replace hM := hM.rd (sI_at c155)
          refine tk_iald hC hK hw hT kM_at9 rfl rfl (show 0 ≤ x123.toInt by omega) (show x123.toInt < 400 by omega) dX12_settles_57 (fun x160 c161 rx160 tx160 => ?_)
          have hox160 := c161
          have c161 : gi w142 9 (1 * f0_0_22.toInt + -1).toNat = x160 := (congrArg (gi w142 9) (congrArg Int.toNat (show 1 * f0_0_22.toInt + -1 = x123.toInt by omega))).trans c161
          refine wk_top 11 (c161.symm.trans c154) ?_
          replace hM := hM.rd (v := 11) ((sI_at hox160).trans ((congrArg Int32.toInt (c161.symm.trans c154)).trans (by decide)))
          refine lv_bipush (v := 11) hx hb dX12_settles_58 (by decide) ?_
          refine lv_icmp_ne (tgt := 0) hx hb dX12_settles_60 (by decide) (fun c => absurd (by decide) c) (fun _ => ?_)
          replace hM := hM.neg (by decide)
          refine lv_aload_n hx hb dX12_settles_63 rfl (lv_at hl 0 rfl) ?_
          refine lv_dup hx hb dX12_settles_64 rfl ?_
          refine tk_geti hC hK hw hT hinX12 kM_at0 (by decide) rfl 19 (by decide) (List.mem_of_getElem? (i := 3) rfl) rfl rfl dX12_settles_65 (fun x162 c163 rx162 tx162 => ?_)
          refine wk_top f0_0_19 (c163.symm.trans c153) ?_
          replace hM := hM.rd (sI_at c153)
          refine lv_iconst (v := 1) hx hb dX12_settles_68 (by decide) ?_
          refine lv_isub hx hb dX12_settles_69 ?_
          refine lv_topi (fun x164 ex164 => ?_)
          have ezx164 := ex164
          have ex164 : x164.toInt = f0_0_19.toInt - (1 : Int) := by rw [ex164]; exact wk_sub (show (-2147483648) ≤ f0_0_19.toInt - (1 : Int) by omega) (show f0_0_19.toInt - (1 : Int) ≤ 2147483647 by omega)
          replace hM := hM.lt ex164.symm
          refine tk_puti hC hK hw hT hinX12 tyX12_ok nmX12 kM_at0 (by decide) rfl rfl 19 (by decide) (List.mem_of_getElem? (i := 3) rfl) rfl rfl rfl rfl (show (-100) ≤ x164.toInt by omega) (show x164.toInt ≤ 10 by omega) dX12_settles_70 (fun H locs w165 hw hT k167 c166 => ?_)
          replace hM := hM.wr (sI_up k167 c166)
          have gn168 : binN w165 (x123.toInt).toNat = binN w142 (x123.toInt).toNat := bin_F1 _ k167 (by decide)
          have hO := OKW_F1 k167 (by decide) (by decide) (by decide) (by decide) hO
          have hE9 := E9_F1 k167 (by decide) hE9
          have hF := hF.put kM_at0 (k := 19) (by decide) k167
          have c169 := k167.gi (Or.inr (by decide)) c151
          have c170 := k167.gi (Or.inr (by decide)) c152
          have c171 := k167.gi (Or.inl (tk_ne kM_at9 kM_at0 (by decide))) c154
          have c172 := k167.gi (Or.inr (by decide)) c155
          have c173 := k167.gi (Or.inl (tk_ne kM_at3 kM_at0 (by decide))) c157
          refine lv_goto (tgt := 0) hx hb dX12_settles_73 (by decide) ?_
          exact ih0 x164 x123 x156 H locs ls w165 (show 0 ≤ f0_.toInt by omega) (show f0_.toInt ≤ 5 by omega) (show 0 ≤ f1_.toInt by omega) (show f1_.toInt ≤ 60 by omega) (show (-60) ≤ x164.toInt by omega) (show x164.toInt ≤ 10 by omega) (show 0 ≤ x123.toInt by omega) (show x123.toInt ≤ 390 by omega) (show 0 ≤ x156.toInt by omega) (show x156.toInt ≤ 390 by omega) (show (binN w165 (x123.toInt).toNat : Int) = x123.toInt - x164.toInt by omega) (show x156.toInt + x123.toInt = f4_.toInt + f3_.toInt by omega) (show x123.toInt ≤ f3_.toInt by omega) (show x123.toInt + f2_.toInt ≤ f3_.toInt + x164.toInt by omega) (show x123.toInt ≤ x164.toInt + f1_.toInt by omega) (show x156.toInt ≤ 390 by omega) (show x123.toInt ≤ 390 by omega) (show -60 ≤ x164.toInt by omega) (show brkN w0 (x123.toInt).toNat = brkN w0 (f3_.toInt).toNat from ((brk_step (by omega) (show f0_0_22.toInt = x123.toInt + 1 by omega) (show ¬ (gi w0 9 (x123.toInt).toNat).toInt = 91 by first | (rw [show (x123.toInt) = 1 * f0_0_22.toInt + -1 by omega, ← hF.gi kM_at9 rfl rfl, c171]; omega) | (rw [show (x123.toInt) = 1 * f0_0_22.toInt + -1 by omega, ← hF.gi kM_at9 rfl rfl, c171]; decide))).trans hcr0_8)) (show (x123.toInt - 0).toNat < n0 by omega) hw hT hF (OKW_cast hO (show (f0_0_22.toInt - f0_0_19.toInt + 1) = x123.toInt - x164.toInt + 1 by omega)) (E9_le hE9 (show x123.toInt ≤ _ by omega)) c169 c170 c166 c172 c173 hM (lv_sub hl [0, 1] rfl)
  have hM : TT (fun n => m_X12_settles n 0 1 (sI w0)) (fun n => j_X12_settles 0 n 0 [1] (sI w0)) := TT.rf
  exact L0 ((f3_.toInt - 0).toNat + 1) f2_ f3_ f4_ s.heap locs ls w0 (show 0 ≤ f0_.toInt by omega) (show f0_.toInt ≤ 5 by omega) (show 0 ≤ f1_.toInt by omega) (show f1_.toInt ≤ 60 by omega) (show (-60) ≤ f2_.toInt by omega) (show f2_.toInt ≤ 10 by omega) (show 0 ≤ f3_.toInt by omega) (show f3_.toInt ≤ 390 by omega) (show 0 ≤ f4_.toInt by omega) (show f4_.toInt ≤ 390 by omega) (show (binN w0 (f3_.toInt).toNat : Int) = f3_.toInt - f2_.toInt by omega) (show f4_.toInt + f3_.toInt = f4_.toInt + f3_.toInt by omega) (show f3_.toInt ≤ f3_.toInt by omega) (show f3_.toInt + f2_.toInt ≤ f3_.toInt + f2_.toInt by omega) (show f3_.toInt ≤ f2_.toInt + f1_.toInt by omega) (show f4_.toInt ≤ 390 by omega) (show f3_.toInt ≤ 390 by omega) (show -60 ≤ f2_.toInt by omega) (show brkN w0 (f3_.toInt).toNat = brkN w0 (f3_.toInt).toNat from rfl) (Nat.lt_succ_self _) hw hT hF (OKW_cast hO (show f3_.toInt - f2_.toInt + 1 = f3_.toInt - f2_.toInt + 1 by omega)) (E9_le hE9 (show f3_.toInt ≤ _ by omega)) cf0_ cf1_ cf2_ cf3_ cf4_ hM (lv_sub hl [0, 1] rfl)
abbrev Pz_X12_strength_3 (ad : Nat → Nat) (cy : Nat → ClassId) (B : Int) (qr : Nat) (s1 : Int)  (w0 : va_W) : Int32 → va_W → Prop := fun r u => w0 = u ∧ Ev (fun n => m_X12_strength n 12 (sI w0)) (r.toInt, sI w0) ∧ ((r = 2))
set_option maxHeartbeats 4000000 in
set_option maxRecDepth 100000 in
theorem kz_X12_strength_3 (l : Launch) (adK adV : Nat → Nat) (dC : Nat → ClassId) (dI : Nat → Nat → Nat) (cy : Nat → ClassId) (ad : Nat → Nat) (B : Int) (hB0 : 100000 ≤ B) (hB1 : B ≤ 1073741824) (qr : Nat) (s1 : Int)   (w0 : va_W) (sz : Nat) (hT : TW ksM ad cy B qr 12 w0)  : Met l yX12_strength wsX12_strength ({ frames := 1, cells := 0, slots := 0, locals := 12 }) (va_Pc [.int 12] (wpreS adK adV dC dI cy sz w0)) (va_Qi (Pz_X12_strength_3 ad cy B qr s1  w0) (fun u : va_W => wpost dC dI cy (va_A w0 sz) u) (va_A w0 sz)) 0 0 (va_A w0 sz) := by
  refine Met.ofW (cc := cX12_strength) (maxL := 1) (ret := (some .int)) (by decide) rfl ?_
  intro p e s m args below meth c s₁ Bk hml hv
  obtain ⟨rfl, ⟨hsz, hP, hK, hD0⟩, hE, hSR⟩ := hv
  have hx := Bk.exec
  have hb := Bk.bytes
  have hr := Bk.returns
  have hlocks := Bk.notSynchronized
  have hC : CallFix p m c cX12_strength 1 s _ wsX12_strength RX12 := ⟨hx, hb, hml, findClass_of_methodNamed Bk.named, atoms_spec (ws := wsX12_strength) Bk.pre⟩
  subst hsz
  have hD := hD0.self (sz := s.heap.size)
  generalize hAe : va_A w0 s.heap.size = A at hD hE ⊢
  have hA : ∀ q : Nat, s.heap.size ≤ q → A q := fun q h => by rw [← hAe]; exact Or.inr h
  have hw : Wd dC dI A s.heap s.heap [] w0 := ⟨hP, hD, va_S.rf⟩
  have hF : FE ksM ([] : List (Nat × Nat × Nat)) w0 w0 := FE.rf
  have hl := lv_entry ([.int 12]) (n := 1) (Nat.le_of_ble_eq_true rfl)
  rw [lg_entry_eq]
  generalize (lg_sl ([.int 12]) ++ List.replicate (1 - (lg_sl ([.int 12])).length) Slot.unset).toArray = ls at hl ⊢
  have hl : lv_has ls 1 [(0, .int 12)] := hl
  generalize hloc : ([] : List Loc) = locs at hw ⊢
  have hM : TT (fun n => m_X12_strength n 12 (sI w0)) (fun n => m_X12_strength n 12 (sI w0)) := TT.rf
  refine lv_iload_n hx hb dX12_strength_0 rfl (lv_at hl 0 rfl) ?_
  refine lv_bipush (v := 13) hx hb dX12_strength_1 (by decide) ?_
  refine lv_icmp_ne (tgt := 10) hx hb dX12_strength_3 (by decide) (fun _ => ?_) (fun c => absurd c (by decide))
  replace hM := hM.pos (by decide)
  refine lv_iload_n hx hb dX12_strength_10 rfl (lv_at hl 0 rfl) ?_
  refine lv_bipush (v := 12) hx hb dX12_strength_11 (by decide) ?_
  refine lv_icmp_ne (tgt := 20) hx hb dX12_strength_13 (by decide) (fun c => absurd (by decide) c) (fun _ => ?_)
  replace hM := hM.neg (by decide)
  refine lv_iconst (v := 2) hx hb dX12_strength_16 (by decide) ?_
  refine lv_goto (tgt := 31) hx hb dX12_strength_17 (by decide) ?_
  exact tk_iret hC hr hlocks hK ⟨rfl, hM.ret (by decide), rfl⟩ hw dX12_strength_31
abbrev Pz_X12_settles_2 (ad : Nat → Nat) (cy : Nat → ClassId) (B : Int) (qr : Nat) (s1 : Int)  (gT gb gd : Int) (w0 : va_W) : va_W → Prop := fun u => TW ksM ad cy B qr 12 u ∧ FE ksM [(12, 19, 19), (12, 22, 22), (61, 0, 2400), (62, 0, 7)] w0 u ∧ Ev (fun n => m_X12_settles n 0 2 (sI w0)) (0, sI u) ∧ (((∃ y : Int32, gi u 0 17 = y ∧ 0 ≤ y.toInt ∧ y.toInt ≤ 5) ∧ (∃ y : Int32, gi u 0 19 = y ∧ (-60) ≤ y.toInt ∧ y.toInt ≤ 10) ∧ (∃ y : Int32, gi u 0 22 = y ∧ 0 ≤ y.toInt ∧ y.toInt ≤ 390) ∧ OKW u gT gb ((gi u 0 22).toInt - (gi u 0 19).toInt + 1) ∧ E9 u (gi u 0 22).toInt ∧ ((gi u 3 ((gi u 0 17).toInt).toNat).toInt + (gi u 0 22).toInt = (gi w0 3 ((gi w0 0 17).toInt).toNat).toInt + (gi w0 0 22).toInt) ∧ ((gi u 0 22).toInt ≤ (gi w0 0 22).toInt) ∧ ((gi u 0 22).toInt + (gi w0 0 19).toInt ≤ (gi w0 0 22).toInt + (gi u 0 19).toInt) ∧ ((gi u 0 22).toInt ≤ (gi u 0 19).toInt + (gi w0 0 18).toInt) ∧ ((gi u 0 22).toInt ≤ 390) ∧ ((gi u 3 ((gi u 0 17).toInt).toNat).toInt ≤ 390) ∧ (brkN w0 ((gi u 0 22).toInt).toNat = brkN w0 ((gi w0 0 22).toInt).toNat) ∧ ((binN u ((gi u 0 22).toInt).toNat : Int) = (gi u 0 22).toInt - (gi u 0 19).toInt)))
set_option maxHeartbeats 4000000 in
set_option maxRecDepth 100000 in
theorem kz_X12_settles_2 (l : Launch) (adK adV : Nat → Nat) (dC : Nat → ClassId) (dI : Nat → Nat → Nat) (cy : Nat → ClassId) (ad : Nat → Nat) (B : Int) (hB0 : 100000 ≤ B) (hB1 : B ≤ 1073741824) (qr : Nat) (s1 : Int)   (w0 : va_W) (sz : Nat) (hT : TW ksM ad cy B qr 12 w0) (f0_ : Int32) (cf0_ : gi w0 0 17 = f0_) (rf0_ : 0 ≤ f0_.toInt) (tf0_ : f0_.toInt ≤ 5) (f1_ : Int32) (cf1_ : gi w0 0 18 = f1_) (rf1_ : 0 ≤ f1_.toInt) (tf1_ : f1_.toInt ≤ 60) (f2_ : Int32) (cf2_ : gi w0 0 19 = f2_) (rf2_ : (-100) ≤ f2_.toInt) (tf2_ : f2_.toInt ≤ 10) (f3_ : Int32) (cf3_ : gi w0 0 22 = f3_) (rf3_ : 0 ≤ f3_.toInt) (tf3_ : f3_.toInt ≤ 400) (f4_ : Int32) (cf4_ : gi w0 3 (f0_.toInt).toNat = f4_) (rf4_ : 0 ≤ f4_.toInt) (tf4_ : f4_.toInt ≤ 400) (pr0_ : f4_.toInt + f3_.toInt ≤ 390) (pr1_ : f3_.toInt ≤ f2_.toInt + f1_.toInt) (pr2_ : f4_.toInt ≤ 390) (pr3_ : f3_.toInt ≤ 390) (pr4_ : (binN w0 (f3_.toInt).toNat : Int) = f3_.toInt - f2_.toInt) (gb gd : Int) (hO : OKW w0 f0_.toInt gb (f3_.toInt - f2_.toInt + 1)) (hE9 : E9 w0 (f3_.toInt)) : Met l yX12_settles wsX12_settles ({ frames := 2, cells := 0, slots := 0, locals := 34 }) (va_Pc [.ref (ad 0), .int 2] (wpreS adK adV dC dI cy sz w0)) (va_Qv (Pz_X12_settles_2 ad cy B qr s1  f0_.toInt gb gd w0) (fun u : va_W => wpost dC dI cy (va_A w0 sz) u) (va_A w0 sz)) 0 0 (va_A w0 sz) := by
  refine Met.ofW (cc := cX12_settles) (maxL := 2) (ret := none) (by decide) rfl ?_
  intro p e s m args below meth c s₁ Bk hml hv
  obtain ⟨rfl, ⟨hsz, hP, hK, hD0⟩, hE, hSR⟩ := hv
  have hx := Bk.exec
  have hb := Bk.bytes
  have hr := Bk.returns
  have hlocks := Bk.notSynchronized
  have hC : CallFix p m c cX12_settles 2 s _ wsX12_settles RX12 := ⟨hx, hb, hml, findClass_of_methodNamed Bk.named, atoms_spec (ws := wsX12_settles) Bk.pre⟩
  subst hsz
  have hD := hD0.self (sz := s.heap.size)
  generalize hAe : va_A w0 s.heap.size = A at hD hE ⊢
  have hA : ∀ q : Nat, s.heap.size ≤ q → A q := fun q h => by rw [← hAe]; exact Or.inr h
  have hw : Wd dC dI A s.heap s.heap [] w0 := ⟨hP, hD, va_S.rf⟩
  have hF : FE ksM [(12, 19, 19), (12, 22, 22), (61, 0, 2400), (62, 0, 7)] w0 w0 := FE.rf
  have hl := lv_entry ([.ref (ad 0), .int 2]) (n := 2) (Nat.le_of_ble_eq_true rfl)
  rw [lg_entry_eq]
  generalize (lg_sl ([.ref (ad 0), .int 2]) ++ List.replicate (2 - (lg_sl ([.ref (ad 0), .int 2])).length) Slot.unset).toArray = ls at hl ⊢
  have hl : lv_has ls 2 [(0, .ref (ad 0)), (1, .int 2)] := hl
  generalize hloc : ([] : List Loc) = locs at hw ⊢
  have hinX12 : ∀ w ∈ u_ws RX12 TX12 42, w ∈ wsX12_settles := fun _ h => List.mem_cons_of_mem _ (List.mem_append_right _ (h))
  have L0 : ∀ (n0 : Nat) (f0_0_19 : Int32) (f0_0_22 : Int32) (f0_3__f0__toInt_toNat : Int32) (H : Heap) (locs : List Loc) (ls : Array Slot) (w1 : va_W), 0 ≤ f0_.toInt → f0_.toInt ≤ 5 → 0 ≤ f1_.toInt → f1_.toInt ≤ 60 → (-60) ≤ f0_0_19.toInt → f0_0_19.toInt ≤ 10 → 0 ≤ f0_0_22.toInt → f0_0_22.toInt ≤ 390 → 0 ≤ f0_3__f0__toInt_toNat.toInt → f0_3__f0__toInt_toNat.toInt ≤ 390 → ((binN w1 (f0_0_22.toInt).toNat : Int) = f0_0_22.toInt - f0_0_19.toInt) → (f0_3__f0__toInt_toNat.toInt + f0_0_22.toInt = f4_.toInt + f3_.toInt) → (f0_0_22.toInt ≤ f3_.toInt) → (f0_0_22.toInt + f2_.toInt ≤ f3_.toInt + f0_0_19.toInt) → (f0_0_22.toInt ≤ f0_0_19.toInt + f1_.toInt) → (f0_3__f0__toInt_toNat.toInt ≤ 390) → (f0_0_22.toInt ≤ 390) → (-60 ≤ f0_0_19.toInt) → (brkN w0 (f0_0_22.toInt).toNat = brkN w0 (f3_.toInt).toNat) → (f0_0_22.toInt - 0).toNat < n0 → Wd dC dI A s.heap H locs w1 → TW ksM ad cy B qr 12 w1 → FE ksM [(12, 19, 19), (12, 22, 22), (61, 0, 2400), (62, 0, 7)] w0 w1 → OKW w1 f0_.toInt gb (f0_0_22.toInt - f0_0_19.toInt + 1) → E9 w1 (f0_0_22.toInt) → gi w1 0 17 = f0_ → gi w1 0 18 = f1_ → gi w1 0 19 = f0_0_19 → gi w1 0 22 = f0_0_22 → gi w1 3 (f0_.toInt).toNat = f0_3__f0__toInt_toNat → TT (fun n => m_X12_settles n 0 2 (sI w0)) (fun n => j_X12_settles 0 n 0 [(2 : Int)] (sI w1)) → lv_has ls 2 [(0, .ref (ad 0)), (1, .int 2)] → W p l e ({ frames := 2, cells := 0, slots := 0, locals := 34 }) s m (List.toArray [.ref (ad 0), .int 2]) below meth c H locs 0 0 (MQ below (va_Qv (Pz_X12_settles_2 ad cy B qr s1  f0_.toInt gb gd w0) (fun u : va_W => wpost dC dI cy A u) A) (List.toArray [.ref (ad 0), .int 2]) s 0 0 A) (F0 m 0 ls []) := by
    intro n0
    induction n0 with
    | zero => intro f0_0_19 f0_0_22 f0_3__f0__toInt_toNat H locs ls w1 r2 t3 r5 t6 r8 t9 r11 t12 r14 t15 hcr0_0 hcr0_1 hcr0_2 hcr0_3 hcr0_4 hcr0_5 hcr0_6 hcr0_7 hcr0_8 hm0 hw hT hF hO hE9 c4 c7 c10 c13 c16 hM hl; omega
    | succ n0 ih0 =>
      intro f0_0_19 f0_0_22 f0_3__f0__toInt_toNat H locs ls w1 r2 t3 r5 t6 r8 t9 r11 t12 r14 t15 hcr0_0 hcr0_1 hcr0_2 hcr0_3 hcr0_4 hcr0_5 hcr0_6 hcr0_7 hcr0_8 hm0 hw hT hF hO hE9 c4 c7 c10 c13 c16 hM hl
      replace hM := hM.suc (fun _ => e_X12_settles_0)
      have gl17 := bin_le w1 (f0_0_22.toInt).toNat
      refine lv_aload_n hx hb dX12_settles_0 rfl (lv_at hl 0 rfl) ?_
      refine tk_geti hC hK hw hT hinX12 kM_at0 (by decide) rfl 22 (by decide) (List.mem_of_getElem? (i := 1) rfl) rfl rfl dX12_settles_1 (fun x18 c19 rx18 tx18 => ?_)
      refine wk_top f0_0_22 (c19.symm.trans c13) ?_
      replace hM := hM.rd (sI_at c13)
      refine lv_if_le (tgt := 76) hx hb dX12_settles_4 (by decide) (fun c20 => ?_) (fun c20 => ?_)
      · have c20 : f0_0_22.toInt ≤ (0 : Int) := wk_le.mp c20
        replace hM := hM.pos c20
        exact tk_vret hC hr hlocks hK ⟨hT, hF, hM.ret rfl, ⟨⟨f0_, c4, (show 0 ≤ f0_.toInt by omega), (show f0_.toInt ≤ 5 by omega)⟩, ⟨f0_0_19, c10, (show (-60) ≤ f0_0_19.toInt by omega), (show f0_0_19.toInt ≤ 10 by omega)⟩, ⟨f0_0_22, c13, (show 0 ≤ f0_0_22.toInt by omega), (show f0_0_22.toInt ≤ 390 by omega)⟩, (OKW_cast hO (by simp only [c10, c13] <;> omega)), (E9_le hE9 (by simp only [c13] <;> omega)), (by simp only [c4, cf0_, cf4_, c16, cf3_, c13]; omega), (by simp only [c4, cf0_, cf3_, c13]; omega), (by simp only [c4, cf0_, cf2_, c10, cf3_, c13]; omega), (by simp only [c4, cf0_, c10, cf1_, c13]; omega), (by simp only [c4, cf0_, c13]; omega), (by simp only [c4, cf0_, c16]; omega), (by simp only [c4, cf0_, cf3_, c13, c16]; omega), (by simp only [c4, cf0_, c10, c13]; omega)⟩⟩ hw dX12_settles_76
      · have c20 : (0 : Int) < f0_0_22.toInt := wk_leF c20
        replace hM := hM.neg (Int.not_le.mpr c20)
        refine lv_aload_n hx hb dX12_settles_7 rfl (lv_at hl 0 rfl) ?_
        refine tk_getA hC hK hw hT hinX12 kM_at0 (by decide) rfl 21 (by decide) (List.mem_of_getElem? (i := 2) rfl) rfl rfl dX12_settles_8 ?_
        refine lv_aload_n hx hb dX12_settles_11 rfl (lv_at hl 0 rfl) ?_
        refine tk_geti hC hK hw hT hinX12 kM_at0 (by decide) rfl 22 (by decide) (List.mem_of_getElem? (i := 1) rfl) rfl rfl dX12_settles_12 (fun x21 c22 rx21 tx21 => ?_)
        refine wk_top f0_0_22 (c22.symm.trans c13) ?_
        replace hM := hM.rd (sI_at c13)
        refine lv_iconst (v := 1) hx hb dX12_settles_15 (by decide) ?_
        refine lv_isub hx hb dX12_settles_16 ?_
        refine lv_topi (fun x23 ex23 => ?_)
        have ezx23 := ex23
        have ex23 : x23.toInt = f0_0_22.toInt - (1 : Int) := by rw [ex23]; exact wk_sub (show (-2147483648) ≤ f0_0_22.toInt - (1 : Int) by omega) (show f0_0_22.toInt - (1 : Int) ≤ 2147483647 by omega)
        replace hM := hM.lt ex23.symm
        refine tk_iald hC hK hw hT kM_at9 rfl rfl (show 0 ≤ x23.toInt by omega) (show x23.toInt < 400 by omega) dX12_settles_17 (fun x24 c25 rx24 tx24 => ?_)
        have hox24 := c25
        replace hM := hM.rd (sI_at hox24)
        have c25 : gi w1 9 (1 * f0_0_22.toInt + -1).toNat = x24 := (congrArg (gi w1 9) (congrArg Int.toNat (show 1 * f0_0_22.toInt + -1 = x23.toInt by omega))).trans c25
        refine tk_Si hC hK hw hT hA hE hSR (kz_X12_strength_2 l adK adV dC dI cy ad B (by omega) (by omega) qr s1   x24 w1 H.size hT ) (va_cwS 1 hC.2.2.2.2 gX12_settles_X12_strength rfl rfl rfl (by decide +kernel) ⟨Nat.le_of_ble_eq_true rfl, Nat.le_of_ble_eq_true rfl⟩) rfl hl.1 rfl (Nat.le_of_ble_eq_true rfl) dX12_settles_18 (fun r26 w28 H locs hp27 hw => ?_)
        obtain ⟨rfl, hv38, hg37⟩ := hp27
        rcases hg37 with ⟨rfl, hq30⟩ | ⟨rfl, g31, g32⟩ | ⟨rfl, g33, g34⟩ | ⟨rfl, g35, g36⟩
        · replace hM := hM.call (r' := 0) hv38 (by decide)
          refine lv_iload_n hx hb dX12_settles_21 rfl (lv_at hl 1 rfl) ?_
          refine lv_icmp_lt (tgt := 76) hx hb dX12_settles_22 (by decide) (fun _ => ?_) (fun c => absurd (by decide) c)
          replace hM := hM.pos (by decide)
          exact tk_vret hC hr hlocks hK ⟨hT, hF, hM.ret rfl, ⟨⟨f0_, c4, (show 0 ≤ f0_.toInt by omega), (show f0_.toInt ≤ 5 by omega)⟩, ⟨f0_0_19, c10, (show (-60) ≤ f0_0_19.toInt by omega), (show f0_0_19.toInt ≤ 10 by omega)⟩, ⟨f0_0_22, c13, (show 0 ≤ f0_0_22.toInt by omega), (show f0_0_22.toInt ≤ 390 by omega)⟩, (OKW_cast hO (by simp only [c10, c13] <;> omega)), (E9_le hE9 (by simp only [c13] <;> omega)), (by simp only [c4, cf0_, cf4_, c16, cf3_, c13]; omega), (by simp only [c4, cf0_, cf3_, c13]; omega), (by simp only [c4, cf0_, cf2_, c10, cf3_, c13]; omega), (by simp only [c4, cf0_, c10, cf1_, c13]; omega), (by simp only [c4, cf0_, c13]; omega), (by simp only [c4, cf0_, c16]; omega), (by simp only [c4, cf0_, cf3_, c13, c16, c25]; omega), (by simp only [c4, cf0_, c10, c13]; omega)⟩⟩ hw dX12_settles_76
        · replace hM := hM.call (r' := 1) hv38 (by decide)
          refine lv_iload_n hx hb dX12_settles_21 rfl (lv_at hl 1 rfl) ?_
          refine lv_icmp_lt (tgt := 76) hx hb dX12_settles_22 (by decide) (fun _ => ?_) (fun c => absurd (by decide) c)
          replace hM := hM.pos (by decide)
          exact tk_vret hC hr hlocks hK ⟨hT, hF, hM.ret rfl, ⟨⟨f0_, c4, (show 0 ≤ f0_.toInt by omega), (show f0_.toInt ≤ 5 by omega)⟩, ⟨f0_0_19, c10, (show (-60) ≤ f0_0_19.toInt by omega), (show f0_0_19.toInt ≤ 10 by omega)⟩, ⟨f0_0_22, c13, (show 0 ≤ f0_0_22.toInt by omega), (show f0_0_22.toInt ≤ 390 by omega)⟩, (OKW_cast hO (by simp only [c10, c13] <;> omega)), (E9_le hE9 (by simp only [c13] <;> omega)), (by simp only [c4, cf0_, cf4_, c16, cf3_, c13]; omega), (by simp only [c4, cf0_, cf3_, c13]; omega), (by simp only [c4, cf0_, cf2_, c10, cf3_, c13]; omega), (by simp only [c4, cf0_, c10, cf1_, c13]; omega), (by simp only [c4, cf0_, c13]; omega), (by simp only [c4, cf0_, c16]; omega), (by simp only [c4, cf0_, cf3_, c13, c16, c25]; omega), (by simp only [c4, cf0_, c10, c13]; omega)⟩⟩ hw dX12_settles_76
        · replace hM := hM.call (r' := 2) hv38 (by decide)
          refine lv_iload_n hx hb dX12_settles_21 rfl (lv_at hl 1 rfl) ?_
          refine lv_icmp_lt (tgt := 76) hx hb dX12_settles_22 (by decide) (fun c => absurd c (by decide)) (fun _ => ?_)
          replace hM := hM.neg (by decide)
          refine lv_aload_n hx hb dX12_settles_25 rfl (lv_at hl 0 rfl) ?_
          refine lv_dup hx hb dX12_settles_26 rfl ?_
          refine tk_geti hC hK hw hT hinX12 kM_at0 (by decide) rfl 22 (by decide) (List.mem_of_getElem? (i := 1) rfl) rfl rfl dX12_settles_27 (fun x39 c40 rx39 tx39 => ?_)
          refine wk_top f0_0_22 (c40.symm.trans c13) ?_
          replace hM := hM.rd (sI_at c13)
          refine lv_iconst (v := 1) hx hb dX12_settles_30 (by decide) ?_
          refine lv_isub hx hb dX12_settles_31 ?_
          refine lv_topi (fun x41 ex41 => ?_)
          have ezx41 := ex41
          have ex41 : x41.toInt = f0_0_22.toInt - (1 : Int) := by rw [ex41]; exact wk_sub (show (-2147483648) ≤ f0_0_22.toInt - (1 : Int) by omega) (show f0_0_22.toInt - (1 : Int) ≤ 2147483647 by omega)
          replace hM := hM.lt ex41.symm
          refine tk_puti hC hK hw hT hinX12 tyX12_ok nmX12 kM_at0 (by decide) rfl rfl 22 (by decide) (List.mem_of_getElem? (i := 1) rfl) rfl rfl rfl rfl (show 0 ≤ x41.toInt by omega) (show x41.toInt ≤ 400 by omega) dX12_settles_32 (fun H locs w42 hw hT k44 c43 => ?_)
          replace hM := hM.wr (sI_up k44 c43)
          have gn45 : binN w42 (f0_0_22.toInt).toNat = binN w1 (f0_0_22.toInt).toNat := bin_F1 _ k44 (by decide)
          have gn46 : binN w42 (x41.toInt).toNat = binN w1 (x41.toInt).toNat := bin_F1 _ k44 (by decide)
          have gt47 := bin_top (w := w1) (a := f0_0_22.toInt) (b := x41.toInt) (by omega) (by omega)
          have gx48 : (gi w1 9 (x41.toInt).toNat).toInt = x24.toInt := by rw [show (x41.toInt) = 1 * f0_0_22.toInt + -1 by omega, c25]
          have hO := OKW_F1 k44 (by decide) (by decide) (by decide) (by decide) hO
          have hE9 := E9_F1 k44 (by decide) hE9
          have hF := hF.put kM_at0 (k := 22) (by decide) k44
          have c49 := k44.gi (Or.inr (by decide)) c4
          have c50 := k44.gi (Or.inr (by decide)) c7
          have c51 := k44.gi (Or.inr (by decide)) c10
          have c52 := k44.gi (Or.inl (tk_ne kM_at3 kM_at0 (by decide))) c16
          have c53 := k44.gi (Or.inl (tk_ne kM_at9 kM_at0 (by decide))) c25
          refine lv_aload_n hx hb dX12_settles_35 rfl (lv_at hl 0 rfl) ?_
          refine lv_aload_n hx hb dX12_settles_36 rfl (lv_at hl 0 rfl) ?_
          refine tk_getA hC hK hw hT hinX12 kM_at0 (by decide) rfl 21 (by decide) (List.mem_of_getElem? (i := 2) rfl) rfl rfl dX12_settles_37 ?_
          refine lv_aload_n hx hb dX12_settles_40 rfl (lv_at hl 0 rfl) ?_
          refine tk_geti hC hK hw hT hinX12 kM_at0 (by decide) rfl 22 (by decide) (List.mem_of_getElem? (i := 1) rfl) rfl rfl dX12_settles_41 (fun x54 c55 rx54 tx54 => ?_)
          refine wk_top x41 (c55.symm.trans c43) ?_
          replace hM := hM.rd (sI_at c43)
          refine tk_iald hC hK hw hT kM_at9 rfl rfl (show 0 ≤ x41.toInt by omega) (show x41.toInt < 400 by omega) dX12_settles_44 (fun x56 c57 rx56 tx56 => ?_)
          have hox56 := c57
          have c57 : gi w42 9 (1 * f0_0_22.toInt + -1).toNat = x56 := (congrArg (gi w42 9) (congrArg Int.toNat (show 1 * f0_0_22.toInt + -1 = x41.toInt by omega))).trans c57
          refine wk_top x24 (c57.symm.trans c53) ?_
          replace hM := hM.rd ((sI_at hox56).trans (congrArg Int32.toInt (c57.symm.trans c53)))
          refine lv_iconst (v := 0) hx hb dX12_settles_45 (by decide) ?_
          obtain rfl : x24 = 12 := wk_eq.mpr (show x24.toInt = 12 by omega)
          try simp only [show (12 : Int32).toInt = 12 by decide] at hM
          refine tk_Vv hC hK hw hT hA hE hSR kM_at0 (by decide) rfl (kz_X12_puts_1 l adK adV dC dI cy ad B (by omega) (by omega) qr s1   12 (by decide) (by decide) 0 (by decide) (by decide) w42 H.size hT f0_ c49 (show 0 ≤ f0_.toInt by omega) (show f0_.toInt ≤ 5 by omega) f0_3__f0__toInt_toNat c52 (show 0 ≤ f0_3__f0__toInt_toNat.toInt by omega) (show f0_3__f0__toInt_toNat.toInt ≤ 400 by omega) (show f0_3__f0__toInt_toNat.toInt ≤ 399 by omega)) (cwV 2 hC.2.2.2.2 gX12_settles_X12_puts rfl rfl rfl (by decide +kernel) ⟨Nat.le_of_ble_eq_true rfl, Nat.le_of_ble_eq_true rfl⟩) rfl hl.1 rfl (Nat.le_of_ble_eq_true rfl) dX12_settles_46 (fun w60 H locs hp59 hw => ?_)
          obtain ⟨hT, k61, hv67, hg66⟩ := hp59
          try simp only [show (12 : Int32).toInt = 12 by decide] at hv67
          try simp only [show (0 : Int32).toInt = 0 by decide] at hv67
          have hE9 := E9_FE k61 (fun _ => rfl) hE9
          have gn68 : binN w60 (x41.toInt).toNat = binN w42 (x41.toInt).toNat := bin_FE _ k61 (fun _ => rfl)
          have hF := hF.tr k61 (by decide)
          have c69 := k61.gi kM_at0 (by decide) c49
          have c70 := k61.gi kM_at0 (by decide) c50
          have c71 := k61.gi kM_at0 (by decide) c51
          have c72 := k61.gi kM_at9 rfl c53
          have c73 := k61.gi kM_at0 (by decide) c43
          obtain ⟨⟨x62, c63, rx62, tx62⟩, hq64, g65⟩ := hg66
          replace hM := hM.call hv67 rfl
          have ex62 : x62.toInt = f0_.toInt := by rw [← c69.symm.trans c63]
          obtain ⟨x74, c75, rx74, tx74⟩ := hT.rda (lo := 0) (hi := 400) (i := (f0_.toInt).toNat) kM_at3 rfl rfl (by omega)
          have g65 : x74.toInt = f0_3__f0__toInt_toNat.toInt + 1 := by have q := g65; simp only [c49, c69, c52, c75] at q; omega
          have hO : OKW w60 f0_.toInt gb ((f0_0_22.toInt - f0_0_19.toInt + 1) - 1) := OKW_put hO (by have q := hq64; rw [c49] at q; exact q) (by rw [c52]; omega) (fun x hx => by simp only [(show (12 : Int32).toInt = 12 by decide), (show (0 : Int32).toInt = 0 by decide)] at hx; exact okT_bin (by omega) (by omega) (by omega) (by omega)) (by omega) (by omega)
          refine lv_aload_n hx hb dX12_settles_49 rfl (lv_at hl 0 rfl) ?_
          refine tk_getA hC hK hw hT hinX12 kM_at0 (by decide) rfl 21 (by decide) (List.mem_of_getElem? (i := 2) rfl) rfl rfl dX12_settles_50 ?_
          refine lv_aload_n hx hb dX12_settles_53 rfl (lv_at hl 0 rfl) ?_
          refine tk_geti hC hK hw hT hinX12 kM_at0 (by decide) rfl 22 (by decide) (List.mem_of_getElem? (i := 1) rfl) rfl rfl dX12_settles_54 (fun x76 c77 rx76 tx76 => ?_)
          refine wk_top x41 (c77.symm.trans c73) ?_
          replace hM := hM.rd (sI_at c73)
          refine tk_iald hC hK hw hT kM_at9 rfl rfl (show 0 ≤ x41.toInt by omega) (show x41.toInt < 400 by omega) dX12_settles_57 (fun x78 c79 rx78 tx78 => ?_)
          have hox78 := c79
          have c79 : gi w60 9 (1 * f0_0_22.toInt + -1).toNat = x78 := (congrArg (gi w60 9) (congrArg Int.toNat (show 1 * f0_0_22.toInt + -1 = x41.toInt by omega))).trans c79
          refine wk_top 12 (c79.symm.trans c72) ?_
          replace hM := hM.rd (v := 12) ((sI_at hox78).trans ((congrArg Int32.toInt (c79.symm.trans c72)).trans (by decide)))
          refine lv_bipush (v := 11) hx hb dX12_settles_58 (by decide) ?_
          refine lv_icmp_ne (tgt := 0) hx hb dX12_settles_60 (by decide) (fun _ => ?_) (fun c => absurd c (by decide))
          replace hM := hM.pos (by decide)
          exact ih0 f0_0_19 x41 x74 H locs ls w60 (show 0 ≤ f0_.toInt by omega) (show f0_.toInt ≤ 5 by omega) (show 0 ≤ f1_.toInt by omega) (show f1_.toInt ≤ 60 by omega) (show (-60) ≤ f0_0_19.toInt by omega) (show f0_0_19.toInt ≤ 10 by omega) (show 0 ≤ x41.toInt by omega) (show x41.toInt ≤ 390 by omega) (show 0 ≤ x74.toInt by omega) (show x74.toInt ≤ 390 by omega) (show (binN w60 (x41.toInt).toNat : Int) = x41.toInt - f0_0_19.toInt by omega) (show x74.toInt + x41.toInt = f4_.toInt + f3_.toInt by omega) (show x41.toInt ≤ f3_.toInt by omega) (show x41.toInt + f2_.toInt ≤ f3_.toInt + f0_0_19.toInt by omega) (show x41.toInt ≤ f0_0_19.toInt + f1_.toInt by omega) (show x74.toInt ≤ 390 by omega) (show x41.toInt ≤ 390 by omega) (show -60 ≤ f0_0_19.toInt by omega) (show brkN w0 (x41.toInt).toNat = brkN w0 (f3_.toInt).toNat from ((brk_step (by omega) (show f0_0_22.toInt = x41.toInt + 1 by omega) (show ¬ (gi w0 9 (x41.toInt).toNat).toInt = 91 by first | (rw [show (x41.toInt) = 1 * f0_0_22.toInt + -1 by omega, ← hF.gi kM_at9 rfl rfl, c72]; omega) | (rw [show (x41.toInt) = 1 * f0_0_22.toInt + -1 by omega, ← hF.gi kM_at9 rfl rfl, c72]; decide))).trans hcr0_8)) (show (x41.toInt - 0).toNat < n0 by omega) hw hT hF (OKW_cast hO (show (f0_0_22.toInt - f0_0_19.toInt + 1) - 1 = x41.toInt - f0_0_19.toInt + 1 by omega)) (E9_le hE9 (show x41.toInt ≤ _ by omega)) c69 c70 c71 c73 c75 hM (lv_sub hl [0, 1] rfl)
        · replace hM := hM.call (r' := 3) hv38 (by decide)
          refine lv_iload_n hx hb dX12_settles_21 rfl (lv_at hl 1 rfl) ?_
          refine lv_icmp_lt (tgt := 76) hx hb dX12_settles_22 (by decide) (fun c => absurd c (by decide)) (fun _ => ?_)
          replace hM := hM.neg (by decide)
          refine lv_aload_n hx hb dX12_settles_25 rfl (lv_at hl 0 rfl) ?_
          refine lv_dup hx hb dX12_settles_26 rfl ?_
          refine tk_geti hC hK hw hT hinX12 kM_at0 (by decide) rfl 22 (by decide) (List.mem_of_getElem? (i := 1) rfl) rfl rfl dX12_settles_27 (fun x80 c81 rx80 tx80 => ?_)
          refine wk_top f0_0_22 (c81.symm.trans c13) ?_
          replace hM := hM.rd (sI_at c13)
          refine lv_iconst (v := 1) hx hb dX12_settles_30 (by decide) ?_
          refine lv_isub hx hb dX12_settles_31 ?_
          refine lv_topi (fun x82 ex82 => ?_)
          have ezx82 := ex82
          have ex82 : x82.toInt = f0_0_22.toInt - (1 : Int) := by rw [ex82]; exact wk_sub (show (-2147483648) ≤ f0_0_22.toInt - (1 : Int) by omega) (show f0_0_22.toInt - (1 : Int) ≤ 2147483647 by omega)
          replace hM := hM.lt ex82.symm
          refine tk_puti hC hK hw hT hinX12 tyX12_ok nmX12 kM_at0 (by decide) rfl rfl 22 (by decide) (List.mem_of_getElem? (i := 1) rfl) rfl rfl rfl rfl (show 0 ≤ x82.toInt by omega) (show x82.toInt ≤ 400 by omega) dX12_settles_32 (fun H locs w83 hw hT k85 c84 => ?_)
          replace hM := hM.wr (sI_up k85 c84)
          have gn86 : binN w83 (f0_0_22.toInt).toNat = binN w1 (f0_0_22.toInt).toNat := bin_F1 _ k85 (by decide)
          have gn87 : binN w83 (x82.toInt).toNat = binN w1 (x82.toInt).toNat := bin_F1 _ k85 (by decide)
          have gt88 := bin_top (w := w1) (a := f0_0_22.toInt) (b := x82.toInt) (by omega) (by omega)
          have gx89 : (gi w1 9 (x82.toInt).toNat).toInt = x24.toInt := by rw [show (x82.toInt) = 1 * f0_0_22.toInt + -1 by omega, c25]
          have hO := OKW_F1 k85 (by decide) (by decide) (by decide) (by decide) hO
          have hE9 := E9_F1 k85 (by decide) hE9
          have hF := hF.put kM_at0 (k := 22) (by decide) k85
          have c90 := k85.gi (Or.inr (by decide)) c4
          have c91 := k85.gi (Or.inr (by decide)) c7
          have c92 := k85.gi (Or.inr (by decide)) c10
          have c93 := k85.gi (Or.inl (tk_ne kM_at3 kM_at0 (by decide))) c16
          have c94 := k85.gi (Or.inl (tk_ne kM_at9 kM_at0 (by decide))) c25
          refine lv_aload_n hx hb dX12_settles_35 rfl (lv_at hl 0 rfl) ?_
          refine lv_aload_n hx hb dX12_settles_36 rfl (lv_at hl 0 rfl) ?_
          refine tk_getA hC hK hw hT hinX12 kM_at0 (by decide) rfl 21 (by decide) (List.mem_of_getElem? (i := 2) rfl) rfl rfl dX12_settles_37 ?_
          refine lv_aload_n hx hb dX12_settles_40 rfl (lv_at hl 0 rfl) ?_
          refine tk_geti hC hK hw hT hinX12 kM_at0 (by decide) rfl 22 (by decide) (List.mem_of_getElem? (i := 1) rfl) rfl rfl dX12_settles_41 (fun x95 c96 rx95 tx95 => ?_)
          refine wk_top x82 (c96.symm.trans c84) ?_
          replace hM := hM.rd (sI_at c84)
          refine tk_iald hC hK hw hT kM_at9 rfl rfl (show 0 ≤ x82.toInt by omega) (show x82.toInt < 400 by omega) dX12_settles_44 (fun x97 c98 rx97 tx97 => ?_)
          have hox97 := c98
          have c98 : gi w83 9 (1 * f0_0_22.toInt + -1).toNat = x97 := (congrArg (gi w83 9) (congrArg Int.toNat (show 1 * f0_0_22.toInt + -1 = x82.toInt by omega))).trans c98
          refine wk_top x24 (c98.symm.trans c94) ?_
          replace hM := hM.rd ((sI_at hox97).trans (congrArg Int32.toInt (c98.symm.trans c94)))
          refine lv_iconst (v := 0) hx hb dX12_settles_45 (by decide) ?_
          obtain rfl : x24 = 11 := wk_eq.mpr (show x24.toInt = 11 by omega)
          try simp only [show (11 : Int32).toInt = 11 by decide] at hM
          refine tk_Vv hC hK hw hT hA hE hSR kM_at0 (by decide) rfl (kz_X12_puts_1 l adK adV dC dI cy ad B (by omega) (by omega) qr s1   11 (by decide) (by decide) 0 (by decide) (by decide) w83 H.size hT f0_ c90 (show 0 ≤ f0_.toInt by omega) (show f0_.toInt ≤ 5 by omega) f0_3__f0__toInt_toNat c93 (show 0 ≤ f0_3__f0__toInt_toNat.toInt by omega) (show f0_3__f0__toInt_toNat.toInt ≤ 400 by omega) (show f0_3__f0__toInt_toNat.toInt ≤ 399 by omega)) (cwV 2 hC.2.2.2.2 gX12_settles_X12_puts rfl rfl rfl (by decide +kernel) ⟨Nat.le_of_ble_eq_true rfl, Nat.le_of_ble_eq_true rfl⟩) rfl hl.1 rfl (Nat.le_of_ble_eq_true rfl) dX12_settles_46 (fun w101 H locs hp100 hw => ?_)
          obtain ⟨hT, k102, hv108, hg107⟩ := hp100
          try simp only [show (11 : Int32).toInt = 11 by decide] at hv108
          try simp only [show (0 : Int32).toInt = 0 by decide] at hv108
          have hE9 := E9_FE k102 (fun _ => rfl) hE9
          have gn109 : binN w101 (x82.toInt).toNat = binN w83 (x82.toInt).toNat := bin_FE _ k102 (fun _ => rfl)
          have hF := hF.tr k102 (by decide)
          have c110 := k102.gi kM_at0 (by decide) c90
          have c111 := k102.gi kM_at0 (by decide) c91
          have c112 := k102.gi kM_at0 (by decide) c92
          have c113 := k102.gi kM_at9 rfl c94
          have c114 := k102.gi kM_at0 (by decide) c84
          obtain ⟨⟨x103, c104, rx103, tx103⟩, hq105, g106⟩ := hg107
          replace hM := hM.call hv108 rfl
          have ex103 : x103.toInt = f0_.toInt := by rw [← c110.symm.trans c104]
          obtain ⟨x115, c116, rx115, tx115⟩ := hT.rda (lo := 0) (hi := 400) (i := (f0_.toInt).toNat) kM_at3 rfl rfl (by omega)
          have g106 : x115.toInt = f0_3__f0__toInt_toNat.toInt + 1 := by have q := g106; simp only [c90, c110, c93, c116] at q; omega
          have hO : OKW w101 f0_.toInt gb ((f0_0_22.toInt - f0_0_19.toInt + 1)) := OKW_put hO (by have q := hq105; rw [c90] at q; exact q) (by rw [c93]; omega) (fun x hx => by simp only [(show (11 : Int32).toInt = 11 by decide), (show (0 : Int32).toInt = 0 by decide)] at hx; exact okT_not (by omega) (by omega)) (by omega) (by omega)
          refine lv_aload_n hx hb dX12_settles_49 rfl (lv_at hl 0 rfl) ?_
          refine tk_getA hC hK hw hT hinX12 kM_at0 (by decide) rfl 21 (by decide) (List.mem_of_getElem? (i := 2) rfl) rfl rfl dX12_settles_50 ?_
          refine lv_aload_n hx hb dX12_settles_53 rfl (lv_at hl 0 rfl) ?_
          refine tk_geti hC hK hw hT hinX12 kM_at0 (by decide) rfl 22 (by decide) (List.mem_of_getElem? (i := 1) rfl) rfl rfl dX12_settles_54 (fun x117 c118 rx117 tx117 => ?_)
          refine wk_top x82 (c118.symm.trans c114) ?_
          replace hM := hM.rd (sI_at c114)
          refine tk_iald hC hK hw hT kM_at9 rfl rfl (show 0 ≤ x82.toInt by omega) (show x82.toInt < 400 by omega) dX12_settles_57 (fun x119 c120 rx119 tx119 => ?_)
          have hox119 := c120
          have c120 : gi w101 9 (1 * f0_0_22.toInt + -1).toNat = x119 := (congrArg (gi w101 9) (congrArg Int.toNat (show 1 * f0_0_22.toInt + -1 = x82.toInt by omega))).trans c120
          refine wk_top 11 (c120.symm.trans c113) ?_
          replace hM := hM.rd (v := 11) ((sI_at hox119).trans ((congrArg Int32.toInt (c120.symm.trans c113)).trans (by decide)))
          refine lv_bipush (v := 11) hx hb dX12_settles_58 (by decide) ?_
          refine lv_icmp_ne (tgt := 0) hx hb dX12_settles_60 (by decide) (fun c => absurd (by decide) c) (fun _ => ?_)
          replace hM := hM.neg (by decide)
          refine lv_aload_n hx hb dX12_settles_63 rfl (lv_at hl 0 rfl) ?_
          refine lv_dup hx hb dX12_settles_64 rfl ?_
          refine tk_geti hC hK hw hT hinX12 kM_at0 (by decide) rfl 19 (by decide) (List.mem_of_getElem? (i := 3) rfl) rfl rfl dX12_settles_65 (fun x121 c122 rx121 tx121 => ?_)
          refine wk_top f0_0_19 (c122.symm.trans c112) ?_
          replace hM := hM.rd (sI_at c112)
          refine lv_iconst (v := 1) hx hb dX12_settles_68 (by decide) ?_
          refine lv_isub hx hb dX12_settles_69 ?_
          refine lv_topi (fun x123 ex123 => ?_)
          have ezx123 := ex123
          have ex123 : x123.toInt = f0_0_19.toInt - (1 : Int) := by rw [ex123]; exact wk_sub (show (-2147483648) ≤ f0_0_19.toInt - (1 : Int) by omega) (show f0_0_19.toInt - (1 : Int) ≤ 2147483647 by omega)
          replace hM := hM.lt ex123.symm
          refine tk_puti hC hK hw hT hinX12 tyX12_ok nmX12 kM_at0 (by decide) rfl rfl 19 (by decide) (List.mem_of_getElem? (i := 3) rfl) rfl rfl rfl rfl (show (-100) ≤ x123.toInt by omega) (show x123.toInt ≤ 10 by omega) dX12_settles_70 (fun H locs w124 hw hT k126 c125 => ?_)
          replace hM := hM.wr (sI_up k126 c125)
          have gn127 : binN w124 (x82.toInt).toNat = binN w101 (x82.toInt).toNat := bin_F1 _ k126 (by decide)
          have hO := OKW_F1 k126 (by decide) (by decide) (by decide) (by decide) hO
          have hE9 := E9_F1 k126 (by decide) hE9
          have hF := hF.put kM_at0 (k := 19) (by decide) k126
          have c128 := k126.gi (Or.inr (by decide)) c110
          have c129 := k126.gi (Or.inr (by decide)) c111
          have c130 := k126.gi (Or.inl (tk_ne kM_at9 kM_at0 (by decide))) c113
          have c131 := k126.gi (Or.inr (by decide)) c114
          have c132 := k126.gi (Or.inl (tk_ne kM_at3 kM_at0 (by decide))) c116
          refine lv_goto (tgt := 0) hx hb dX12_settles_73 (by decide) ?_
          exact ih0 x123 x82 x115 H locs ls w124 (show 0 ≤ f0_.toInt by omega) (show f0_.toInt ≤ 5 by omega) (show 0 ≤ f1_.toInt by omega) (show f1_.toInt ≤ 60 by omega) (show (-60) ≤ x123.toInt by omega) (show x123.toInt ≤ 10 by omega) (show 0 ≤ x82.toInt by omega) (show x82.toInt ≤ 390 by omega) (show 0 ≤ x115.toInt by omega) (show x115.toInt ≤ 390 by omega) (show (binN w124 (x82.toInt).toNat : Int) = x82.toInt - x123.toInt by omega) (show x115.toInt + x82.toInt = f4_.toInt + f3_.toInt by omega) (show x82.toInt ≤ f3_.toInt by omega) (show x82.toInt + f2_.toInt ≤ f3_.toInt + x123.toInt by omega) (show x82.toInt ≤ x123.toInt + f1_.toInt by omega) (show x115.toInt ≤ 390 by omega) (show x82.toInt ≤ 390 by omega) (show -60 ≤ x123.toInt by omega) (show brkN w0 (x82.toInt).toNat = brkN w0 (f3_.toInt).toNat from ((brk_step (by omega) (show f0_0_22.toInt = x82.toInt + 1 by omega) (show ¬ (gi w0 9 (x82.toInt).toNat).toInt = 91 by first | (rw [show (x82.toInt) = 1 * f0_0_22.toInt + -1 by omega, ← hF.gi kM_at9 rfl rfl, c130]; omega) | (rw [show (x82.toInt) = 1 * f0_0_22.toInt + -1 by omega, ← hF.gi kM_at9 rfl rfl, c130]; decide))).trans hcr0_8)) (show (x82.toInt - 0).toNat < n0 by omega) hw hT hF (OKW_cast hO (show (f0_0_22.toInt - f0_0_19.toInt + 1) = x82.toInt - x123.toInt + 1 by omega)) (E9_le hE9 (show x82.toInt ≤ _ by omega)) c128 c129 c125 c131 c132 hM (lv_sub hl [0, 1] rfl)
  have hM : TT (fun n => m_X12_settles n 0 2 (sI w0)) (fun n => j_X12_settles 0 n 0 [2] (sI w0)) := TT.rf
  exact L0 ((f3_.toInt - 0).toNat + 1) f2_ f3_ f4_ s.heap locs ls w0 (show 0 ≤ f0_.toInt by omega) (show f0_.toInt ≤ 5 by omega) (show 0 ≤ f1_.toInt by omega) (show f1_.toInt ≤ 60 by omega) (show (-60) ≤ f2_.toInt by omega) (show f2_.toInt ≤ 10 by omega) (show 0 ≤ f3_.toInt by omega) (show f3_.toInt ≤ 390 by omega) (show 0 ≤ f4_.toInt by omega) (show f4_.toInt ≤ 390 by omega) (show (binN w0 (f3_.toInt).toNat : Int) = f3_.toInt - f2_.toInt by omega) (show f4_.toInt + f3_.toInt = f4_.toInt + f3_.toInt by omega) (show f3_.toInt ≤ f3_.toInt by omega) (show f3_.toInt + f2_.toInt ≤ f3_.toInt + f2_.toInt by omega) (show f3_.toInt ≤ f2_.toInt + f1_.toInt by omega) (show f4_.toInt ≤ 390 by omega) (show f3_.toInt ≤ 390 by omega) (show -60 ≤ f2_.toInt by omega) (show brkN w0 (f3_.toInt).toNat = brkN w0 (f3_.toInt).toNat from rfl) (Nat.lt_succ_self _) hw hT hF (OKW_cast hO (show f3_.toInt - f2_.toInt + 1 = f3_.toInt - f2_.toInt + 1 by omega)) (E9_le hE9 (show f3_.toInt ≤ _ by omega)) cf0_ cf1_ cf2_ cf3_ cf4_ hM (lv_sub hl [0, 1] rfl)
abbrev Pz_X12_isInside_1 (ad : Nat → Nat) (cy : Nat → ClassId) (B : Int) (qr : Nat) (s1 : Int)  (w0 : va_W) : Int32 → va_W → Prop := fun r u => w0 = u ∧ Ev (fun n => m_X12_isInside n 0 (sI w0)) (r.toInt, sI w0) ∧ ((r = 0 ∧ (∀ k : Int, 0 ≤ k → k < (gi w0 0 22).toInt → ¬ (gi w0 9 k.toNat).toInt = 91)) ∨ (r = 1 ∧ (∃ y : Int32, gi u 0 22 = y ∧ 1 ≤ y.toInt ∧ y.toInt ≤ 400) ∧ (1 ≤ brkN w0 ((gi w0 0 22).toInt).toNat)))
set_option maxHeartbeats 4000000 in
set_option maxRecDepth 100000 in
theorem kz_X12_isInside_1 (l : Launch) (adK adV : Nat → Nat) (dC : Nat → ClassId) (dI : Nat → Nat → Nat) (cy : Nat → ClassId) (ad : Nat → Nat) (B : Int) (hB0 : 100000 ≤ B) (hB1 : B ≤ 1073741824) (qr : Nat) (s1 : Int)   (w0 : va_W) (sz : Nat) (hT : TW ksM ad cy B qr 12 w0)  : Met l yX12_isInside wsX12_isInside ({ frames := 1, cells := 0, slots := 0, locals := 12 }) (va_Pc [.ref (ad 0)] (wpreS adK adV dC dI cy sz w0)) (va_Qi (Pz_X12_isInside_1 ad cy B qr s1  w0) (fun u : va_W => wpost dC dI cy (va_A w0 sz) u) (va_A w0 sz)) 0 0 (va_A w0 sz) := by
  refine Met.ofW (cc := cX12_isInside) (maxL := 2) (ret := (some .boolean)) (by decide) rfl ?_
  intro p e s m args below meth c s₁ Bk hml hv
  obtain ⟨rfl, ⟨hsz, hP, hK, hD0⟩, hE, hSR⟩ := hv
  have hx := Bk.exec
  have hb := Bk.bytes
  have hr := Bk.returns
  have hlocks := Bk.notSynchronized
  have hC : CallFix p m c cX12_isInside 2 s _ wsX12_isInside RX12 := ⟨hx, hb, hml, findClass_of_methodNamed Bk.named, atoms_spec (ws := wsX12_isInside) Bk.pre⟩
  subst hsz
  have hD := hD0.self (sz := s.heap.size)
  generalize hAe : va_A w0 s.heap.size = A at hD hE ⊢
  have hA : ∀ q : Nat, s.heap.size ≤ q → A q := fun q h => by rw [← hAe]; exact Or.inr h
  have hw : Wd dC dI A s.heap s.heap [] w0 := ⟨hP, hD, va_S.rf⟩
  have hF : FE ksM ([] : List (Nat × Nat × Nat)) w0 w0 := FE.rf
  have hl := lv_entry ([.ref (ad 0)]) (n := 2) (Nat.le_of_ble_eq_true rfl)
  rw [lg_entry_eq]
  generalize (lg_sl ([.ref (ad 0)]) ++ List.replicate (2 - (lg_sl ([.ref (ad 0)])).length) Slot.unset).toArray = ls at hl ⊢
  have hl : lv_has ls 2 [(0, .ref (ad 0))] := hl
  generalize hloc : ([] : List Loc) = locs at hw ⊢
  have hinX12 : ∀ w ∈ u_ws RX12 TX12 42, w ∈ wsX12_isInside := fun _ h => List.mem_cons_of_mem _ (List.mem_append_right _ (h))
  have L2 : ∀ (n2 : Nat) (v2_1 : Int32) (H : Heap) (locs : List Loc) (ls : Array Slot), 0 ≤ v2_1.toInt → v2_1.toInt ≤ 400 → (∀ k : Int, 0 ≤ k → k < v2_1.toInt → ¬ (gi w0 9 k.toNat).toInt = 91) → (400 - v2_1.toInt).toNat < n2 → Wd dC dI A s.heap H locs w0 → TT (fun n => m_X12_isInside n 0 (sI w0)) (fun n => j_X12_isInside 0 n 2 [v2_1.toInt] (sI w0)) → lv_has ls 2 [(0, .ref (ad 0)), (1, .int v2_1)] → W p l e ({ frames := 1, cells := 0, slots := 0, locals := 12 }) s m (List.toArray [.ref (ad 0)]) below meth c H locs 0 0 (MQ below (va_Qi (Pz_X12_isInside_1 ad cy B qr s1  w0) (fun u : va_W => wpost dC dI cy A u) A) (List.toArray [.ref (ad 0)]) s 0 0 A) (F0 m 2 ls []) := by
    intro n2
    induction n2 with
    | zero => intro v2_1 H locs ls r1 t2 hcr2_0 hm2 hw hM hl; omega
    | succ n2 ih2 =>
      intro v2_1 H locs ls r1 t2 hcr2_0 hm2 hw hM hl
      replace hM := hM.suc (fun _ => e_X12_isInside_2)
      refine lv_iload_n hx hb dX12_isInside_2 rfl (lv_at hl 1 rfl) ?_
      refine lv_aload_n hx hb dX12_isInside_3 rfl (lv_at hl 0 rfl) ?_
      refine tk_geti hC hK hw hT hinX12 kM_at0 (by decide) rfl 22 (by decide) (List.mem_of_getElem? (i := 1) rfl) rfl rfl dX12_isInside_4 (fun x3 c4 rx3 tx3 => ?_)
      replace hM := hM.rd (sI_at c4)
      refine lv_icmp_ge (tgt := 29) hx hb dX12_isInside_7 (by decide) (fun c5 => ?_) (fun c5 => ?_)
      · have c5 : x3.toInt ≤ v2_1.toInt := wk_le.mp c5
        replace hM := hM.pos c5
        refine lv_iconst (v := 0) hx hb dX12_isInside_29 (by decide) ?_
        exact tk_zret hC hr rfl hlocks hK ⟨rfl, hM.ret (by decide), (Or.inl ⟨rfl, (by intro k h0 h1; rw [c4] at h1; exact hcr2_0 k h0 (by omega))⟩)⟩ hw dX12_isInside_30
      · have c5 : v2_1.toInt < x3.toInt := wk_leF c5
        replace hM := hM.neg (Int.not_le.mpr c5)
        refine lv_aload_n hx hb dX12_isInside_10 rfl (lv_at hl 0 rfl) ?_
        refine tk_getA hC hK hw hT hinX12 kM_at0 (by decide) rfl 21 (by decide) (List.mem_of_getElem? (i := 2) rfl) rfl rfl dX12_isInside_11 ?_
        refine lv_iload_n hx hb dX12_isInside_14 rfl (lv_at hl 1 rfl) ?_
        refine tk_iald hC hK hw hT kM_at9 rfl rfl (show 0 ≤ v2_1.toInt by omega) (show v2_1.toInt < 400 by omega) dX12_isInside_15 (fun x6 c7 rx6 tx6 => ?_)
        have hox6 := c7
        replace hM := hM.rd (sI_at hox6)
        have c7 : gi w0 9 (v2_1.toInt).toNat = x6 := (congrArg (gi w0 9) (congrArg Int.toNat (show v2_1.toInt = v2_1.toInt by omega))).trans c7
        refine lv_bipush (v := 91) hx hb dX12_isInside_16 (by decide) ?_
        refine lv_icmp_ne (tgt := 23) hx hb dX12_isInside_18 (by decide) (fun c8 => ?_) (fun c8 => ?_)
        · have c8 : ¬ x6.toInt = (91 : Int) := wk_eqF c8
          replace hM := hM.pos c8
          obtain ⟨x9, ex9⟩ : ∃ y : Int32, y = v2_1 + Int32.ofInt 1 := ⟨_, rfl⟩
          have erx9 := ex9
          refine lv_iinc (v := x9) (lv' := [(1, .int x9), (0, .ref (ad 0))]) hx hb dX12_isInside_23 hl (k := 1) rfl ex9.symm (by decide) rfl (fun ls hl => ?_)
          have ex9 : x9.toInt = v2_1.toInt + 1 := by rw [ex9]; exact wk_add (y := 1) (show -2147483648 ≤ v2_1.toInt + 1 by omega) (show v2_1.toInt + 1 ≤ 2147483647 by omega)
          replace hM := hM.lt ex9.symm
          refine lv_goto (tgt := 2) hx hb dX12_isInside_26 (by decide) ?_
          exact ih2 x9 H locs ls  (show 0 ≤ x9.toInt by omega) (show x9.toInt ≤ 400 by omega) (show ∀ k : Int, 0 ≤ k → k < x9.toInt → ¬ (gi w0 9 k.toNat).toInt = 91 from all_step (P := fun k => (gi w0 9 k.toNat).toInt = 91) hcr2_0 (show ¬ (gi w0 9 (v2_1.toInt).toNat).toInt = 91 by rw [c7]; omega) (by omega)) (show (400 - x9.toInt).toNat < n2 by omega) hw  hM (lv_sub hl [1, 0] rfl)
        · have c8 : x6.toInt = (91 : Int) := wk_eq.mp c8
          replace hM := hM.neg (fun q => q c8)
          refine lv_iconst (v := 1) hx hb dX12_isInside_21 (by decide) ?_
          exact tk_zret hC hr rfl hlocks hK ⟨rfl, hM.ret (by decide), (Or.inr ⟨rfl, ⟨x3, c4, (show 1 ≤ x3.toInt by omega), (show x3.toInt ≤ 400 by omega)⟩, (by rw [c4]; exact brk_pos (j := (v2_1.toInt).toNat) (by rw [c7]; omega) _ (by omega))⟩)⟩ hw dX12_isInside_22
  have hM : TT (fun n => m_X12_isInside n 0 (sI w0)) (fun n => m_X12_isInside n 0 (sI w0)) := TT.rf
  refine lv_iconst (v := 0) hx hb dX12_isInside_0 (by decide) ?_
  refine lv_istore_n (lv' := [(1, .int 0), (0, .ref (ad 0))]) hx hb dX12_isInside_1 rfl hl (by decide) rfl (fun ls hl => ?_)
  exact L2 ((400 - (0 : Int)).toNat + 1) 0 s.heap locs ls  (by decide) (by decide) (show ∀ k : Int, 0 ≤ k → k < (0 : Int) → ¬ (gi w0 9 k.toNat).toInt = 91 from all_none) (Nat.lt_succ_self _) hw  hM (lv_sub hl [1, 0] rfl)
abbrev Pz_X12_isWord_11 (ad : Nat → Nat) (cy : Nat → ClassId) (B : Int) (qr : Nat) (s1 : Int)  (w0 : va_W) : Int32 → va_W → Prop := fun r u => TW ksM ad cy B qr 12 u ∧ FE ksM [(12, 14, 14)] w0 u ∧ Ev (fun n => m_X12_isWord n 0 1752135026 (sI w0)) (r.toInt, sI u) ∧ ((r = 0 ∧ (∃ y : Int32, gi u 0 1 = y ∧ 0 ≤ y.toInt ∧ y.toInt ≤ 400) ∧ (((gi u 0 14).toInt = (gi w0 0 14).toInt ∨ (gi w0 1 ((gi w0 0 14).toInt).toNat).toInt = 32))) ∨ (r = 1 ∧ (∃ y : Int32, gi u 0 1 = y ∧ 0 ≤ y.toInt ∧ y.toInt ≤ 400) ∧ (((gi u 0 14).toInt = (gi w0 0 14).toInt ∨ (gi w0 1 ((gi w0 0 14).toInt).toNat).toInt = 32))))
set_option maxHeartbeats 4000000 in
set_option maxRecDepth 100000 in
theorem kz_X12_isWord_11 (l : Launch) (adK adV : Nat → Nat) (dC : Nat → ClassId) (dI : Nat → Nat → Nat) (cy : Nat → ClassId) (ad : Nat → Nat) (B : Int) (hB0 : 100000 ≤ B) (hB1 : B ≤ 1073741824) (qr : Nat) (s1 : Int)   (w0 : va_W) (sz : Nat) (hT : TW ksM ad cy B qr 12 w0) (f0_ : Int32) (cf0_ : gi w0 0 14 = f0_) (rf0_ : 0 ≤ f0_.toInt) (tf0_ : f0_.toInt ≤ 400) : Met l yX12_isWord wsX12_isWord ({ frames := 2, cells := 0, slots := 0, locals := 33 }) (va_Pc [.ref (ad 0), .long 1752135026] (wpreS adK adV dC dI cy sz w0)) (va_Qi (Pz_X12_isWord_11 ad cy B qr s1  w0) (fun u : va_W => wpost dC dI cy (va_A w0 sz) u) (va_A w0 sz)) 0 0 (va_A w0 sz) := by
  refine Met.ofW (cc := cX12_isWord) (maxL := 6) (ret := (some .boolean)) (by decide) rfl ?_
  intro p e s m args below meth c s₁ Bk hml hv
  obtain ⟨rfl, ⟨hsz, hP, hK, hD0⟩, hE, hSR⟩ := hv
  have hx := Bk.exec
  have hb := Bk.bytes
  have hr := Bk.returns
  have hlocks := Bk.notSynchronized
  have hC : CallFix p m c cX12_isWord 6 s _ wsX12_isWord RX12 := ⟨hx, hb, hml, findClass_of_methodNamed Bk.named, atoms_spec (ws := wsX12_isWord) Bk.pre⟩
  subst hsz
  have hD := hD0.self (sz := s.heap.size)
  generalize hAe : va_A w0 s.heap.size = A at hD hE ⊢
  have hA : ∀ q : Nat, s.heap.size ≤ q → A q := fun q h => by rw [← hAe]; exact Or.inr h
  have hw : Wd dC dI A s.heap s.heap [] w0 := ⟨hP, hD, va_S.rf⟩
  have hF : FE ksM [(12, 14, 14)] w0 w0 := FE.rf
  have hl := lv_entry ([.ref (ad 0), .long 1752135026]) (n := 6) (Nat.le_of_ble_eq_true rfl)
  rw [lg_entry_eq]
  generalize (lg_sl ([.ref (ad 0), .long 1752135026]) ++ List.replicate (6 - (lg_sl ([.ref (ad 0), .long 1752135026])).length) Slot.unset).toArray = ls at hl ⊢
  have hl : lv_has ls 6 [(0, .ref (ad 0)), (1, .long 1752135026)] := hl
  generalize hloc : ([] : List Loc) = locs at hw ⊢
  have hinX12 : ∀ w ∈ u_ws RX12 TX12 42, w ∈ wsX12_isWord := fun _ h => List.mem_cons_of_mem _ (List.mem_append_right _ (h))
  have J78 : ∀ (v78_3 : Int64) (v78_5 : Int32) (f78_0_1 : Int32) (f78_0_14 : Int32) (H : Heap) (locs : List Loc) (ls : Array Slot) (w1 : va_W), 0 ≤ v78_5.toInt → v78_5.toInt ≤ 400 → 0 ≤ f78_0_1.toInt → f78_0_1.toInt ≤ 400 → 0 ≤ f78_0_14.toInt → f78_0_14.toInt ≤ 400 → ((f78_0_14.toInt = f0_.toInt ∨ (gi w0 1 (f0_.toInt).toNat).toInt = 32)) → Wd dC dI A s.heap H locs w1 → TW ksM ad cy B qr 12 w1 → FE ksM [(12, 14, 14)] w0 w1 → gi w1 0 1 = f78_0_1 → gi w1 0 14 = f78_0_14 → TT (fun n => m_X12_isWord n 0 1752135026 (sI w0)) (fun n => b_X12_isWord_78 (j_X12_isWord 0 n) n 0 (sI w1)) → lv_has ls 6 [(0, .ref (ad 0)), (1, .long 1752135026), (3, .long v78_3), (5, .int v78_5)] → W p l e ({ frames := 2, cells := 0, slots := 0, locals := 33 }) s m (List.toArray [.ref (ad 0), .long 1752135026]) below meth c H locs 0 0 (MQ below (va_Qi (Pz_X12_isWord_11 ad cy B qr s1  w0) (fun u : va_W => wpost dC dI cy A u) A) (List.toArray [.ref (ad 0), .long 1752135026]) s 0 0 A) (F0 m 78 ls []) := by
    intro v78_3 v78_5 f78_0_1 f78_0_14 H locs ls w1 r2 t3 r4 t5 r7 t8 hcr78_0 hw hT hF c6 c9 hM hl
    refine lv_iconst (v := 0) hx hb dX12_isWord_78 (by decide) ?_
    exact tk_zret hC hr rfl hlocks hK ⟨hT, hF, hM.ret (by decide), (Or.inl ⟨rfl, ⟨f78_0_1, c6, (show 0 ≤ f78_0_1.toInt by omega), (show f78_0_1.toInt ≤ 400 by omega)⟩, (by simp only [cf0_, c9]; omega)⟩)⟩ hw dX12_isWord_79
  have L10 : ∀ (n10 : Nat) (v10_3 : Int64) (v10_5 : Int32) (f10_0_1 : Int32) (f10_0_14 : Int32) (H : Heap) (locs : List Loc) (ls : Array Slot) (w10 : va_W), 0 ≤ v10_5.toInt → v10_5.toInt ≤ 400 → 0 ≤ f10_0_1.toInt → f10_0_1.toInt ≤ 400 → 0 ≤ f10_0_14.toInt → f10_0_14.toInt ≤ 400 → ((f10_0_14.toInt = f0_.toInt ∨ (gi w0 1 (f0_.toInt).toNat).toInt = 32)) → (400 - v10_5.toInt).toNat < n10 → Wd dC dI A s.heap H locs w10 → TW ksM ad cy B qr 12 w10 → FE ksM [(12, 14, 14)] w0 w10 → gi w10 0 1 = f10_0_1 → gi w10 0 14 = f10_0_14 → TT (fun n => m_X12_isWord n 0 1752135026 (sI w0)) (fun n => j_X12_isWord 0 n 10 [(1752135026 : Int), v10_3.toInt, v10_5.toInt] (sI w10)) → lv_has ls 6 [(0, .ref (ad 0)), (1, .long 1752135026), (3, .long v10_3), (5, .int v10_5)] → W p l e ({ frames := 2, cells := 0, slots := 0, locals := 33 }) s m (List.toArray [.ref (ad 0), .long 1752135026]) below meth c H locs 0 0 (MQ below (va_Qi (Pz_X12_isWord_11 ad cy B qr s1  w0) (fun u : va_W => wpost dC dI cy A u) A) (List.toArray [.ref (ad 0), .long 1752135026]) s 0 0 A) (F0 m 10 ls []) := by
    intro n10
    induction n10 with
    | zero => intro v10_3 v10_5 f10_0_1 f10_0_14 H locs ls w10 r11 t12 r13 t14 r16 t17 hcr10_0 hm10 hw hT hF c15 c18 hM hl; omega
    | succ n10 ih10 =>
      intro v10_3 v10_5 f10_0_1 f10_0_14 H locs ls w10 r11 t12 r13 t14 r16 t17 hcr10_0 hm10 hw hT hF c15 c18 hM hl
      have J50 : ∀ (v50_3 : Int64) (H : Heap) (locs : List Loc) (ls : Array Slot) (w19 : va_W), 0 ≤ v10_5.toInt → v10_5.toInt ≤ 399 → 1 ≤ f10_0_1.toInt → f10_0_1.toInt ≤ 400 → 0 ≤ f10_0_14.toInt → f10_0_14.toInt ≤ 399 → ((f10_0_14.toInt = f0_.toInt ∨ (gi w0 1 (f0_.toInt).toNat).toInt = 32)) → Wd dC dI A s.heap H locs w19 → TW ksM ad cy B qr 12 w19 → FE ksM [(12, 14, 14)] w0 w19 → gi w19 0 1 = f10_0_1 → gi w19 0 14 = f10_0_14 → TT (fun n => m_X12_isWord n 0 1752135026 (sI w0)) (fun n => b_X12_isWord_50 (j_X12_isWord 0 n) n 0 (1752135026 : Int) (v50_3.toInt) (v10_5.toInt) (sI w19)) → lv_has ls 6 [(0, .ref (ad 0)), (1, .long 1752135026), (3, .long v50_3), (5, .int v10_5)] → W p l e ({ frames := 2, cells := 0, slots := 0, locals := 33 }) s m (List.toArray [.ref (ad 0), .long 1752135026]) below meth c H locs 0 0 (MQ below (va_Qi (Pz_X12_isWord_11 ad cy B qr s1  w0) (fun u : va_W => wpost dC dI cy A u) A) (List.toArray [.ref (ad 0), .long 1752135026]) s 0 0 A) (F0 m 50 ls []) := by
        intro v50_3 H locs ls w19 r20 t21 r22 t23 r25 t26 hcr50_0 hw hT hF c24 c27 hM hl
        obtain ⟨x28, ex28⟩ : ∃ y : Int32, y = v10_5 + Int32.ofInt 1 := ⟨_, rfl⟩
        have erx28 := ex28
        refine lv_iinc (v := x28) (lv' := [(5, .int x28), (0, .ref (ad 0)), (1, .long 1752135026), (3, .long v50_3)]) hx hb dX12_isWord_50 hl (k := 3) rfl ex28.symm (by decide) rfl (fun ls hl => ?_)
        have ex28 : x28.toInt = v10_5.toInt + 1 := by rw [ex28]; exact wk_add (y := 1) (show -2147483648 ≤ v10_5.toInt + 1 by omega) (show v10_5.toInt + 1 ≤ 2147483647 by omega)
        replace hM := hM.lt ex28.symm
        refine lv_goto (tgt := 10) hx hb dX12_isWord_53 (by decide) ?_
        exact ih10 v50_3 x28 f10_0_1 f10_0_14 H locs ls w19 (show 0 ≤ x28.toInt by omega) (show x28.toInt ≤ 400 by omega) (show 0 ≤ f10_0_1.toInt by omega) (show f10_0_1.toInt ≤ 400 by omega) (show 0 ≤ f10_0_14.toInt by omega) (show f10_0_14.toInt ≤ 400 by omega) (show (f10_0_14.toInt = f0_.toInt ∨ (gi w0 1 (f0_.toInt).toNat).toInt = 32) by first | omega | assumption | (left; omega) | (left; decide) | (right; assumption)) (show (400 - x28.toInt).toNat < n10 by omega) hw hT hF c24 c27 hM (lv_sub hl [1, 2, 3, 0] rfl)
      replace hM := hM.suc (fun _ => e_X12_isWord_10)
      refine lv_aload_n hx hb dX12_isWord_10 rfl (lv_at hl 0 rfl) ?_
      refine lv_aload_n hx hb dX12_isWord_11 rfl (lv_at hl 0 rfl) ?_
      refine tk_geti hC hK hw hT hinX12 kM_at0 (by decide) rfl 14 (by decide) (List.mem_of_getElem? (i := 1) rfl) rfl rfl dX12_isWord_12 (fun x29 c30 rx29 tx29 => ?_)
      refine wk_top f10_0_14 (c30.symm.trans c18) ?_
      replace hM := hM.rd (sI_at c18)
      refine lv_iload hx hb dX12_isWord_15 (lv_at hl 3 rfl) ?_
      refine lv_iadd hx hb dX12_isWord_17 ?_
      refine lv_topi (fun x31 ex31 => ?_)
      have ezx31 := ex31
      have ex31 : x31.toInt = f10_0_14.toInt + v10_5.toInt := by rw [ex31]; exact wk_add (show (-2147483648) ≤ f10_0_14.toInt + v10_5.toInt by omega) (show f10_0_14.toInt + v10_5.toInt ≤ 2147483647 by omega)
      replace hM := hM.lt ex31.symm
      refine tk_Vi hC hK hw hT hA hE hSR kM_at0 (by decide) rfl (kz_X12_isLetter_1 l adK adV dC dI cy ad B (by omega) (by omega) qr s1   x31 (show 0 ≤ x31.toInt by omega) (show x31.toInt ≤ 800 by omega) w10 H.size hT ) (cwV 1 hC.2.2.2.2 gX12_isWord_X12_isLetter rfl rfl rfl (by decide +kernel) ⟨Nat.le_of_ble_eq_true rfl, Nat.le_of_ble_eq_true rfl⟩) rfl hl.1 rfl (Nat.le_of_ble_eq_true rfl) dX12_isWord_18 (fun r32 w34 H locs hp33 hw => ?_)
      obtain ⟨rfl, hv42, hg41⟩ := hp33
      rcases hg41 with ⟨rfl, ⟨x36, c37, rx36, tx36⟩⟩ | ⟨rfl, g38, ⟨x39, c40, rx39, tx39⟩⟩
      · replace hM := hM.call (r' := 0) hv42 (by decide)
        have ex36 : x36.toInt = f10_0_1.toInt := by rw [← c15.symm.trans c37]
        refine lv_if_eq (tgt := 56) hx hb dX12_isWord_21 (by decide) (fun _ => ?_) (fun c => absurd (by decide) c)
        replace hM := hM.pos (by decide)
        refine lv_iload hx hb dX12_isWord_56 (lv_at hl 3 rfl) ?_
        refine lv_if_le (tgt := 78) hx hb dX12_isWord_58 (by decide) (fun c43 => ?_) (fun c43 => ?_)
        · have c43 : v10_5.toInt ≤ (0 : Int) := wk_le.mp c43
          replace hM := hM.pos c43
          exact J78 v10_3 v10_5 f10_0_1 f10_0_14 H locs ls w10 (show 0 ≤ v10_5.toInt by omega) (show v10_5.toInt ≤ 400 by omega) (show 0 ≤ f10_0_1.toInt by omega) (show f10_0_1.toInt ≤ 400 by omega) (show 0 ≤ f10_0_14.toInt by omega) (show f10_0_14.toInt ≤ 400 by omega) (show (f10_0_14.toInt = f0_.toInt ∨ (gi w0 1 (f0_.toInt).toNat).toInt = 32) by first | omega | assumption | (left; omega) | (left; decide) | (right; assumption))  hw hT hF c15 c18 hM (lv_sub hl [0, 1, 2, 3] rfl)
        · have c43 : (0 : Int) < v10_5.toInt := wk_leF c43
          replace hM := hM.neg (Int.not_le.mpr c43)
          refine lv_iload hx hb dX12_isWord_61 (lv_at hl 3 rfl) ?_
          refine lv_bipush (v := 8) hx hb dX12_isWord_63 (by decide) ?_
          refine lv_icmp_ge (tgt := 78) hx hb dX12_isWord_65 (by decide) (fun c44 => ?_) (fun c44 => ?_)
          · have c44 : (8 : Int) ≤ v10_5.toInt := wk_le.mp c44
            replace hM := hM.pos c44
            exact J78 v10_3 v10_5 f10_0_1 f10_0_14 H locs ls w10 (show 0 ≤ v10_5.toInt by omega) (show v10_5.toInt ≤ 400 by omega) (show 0 ≤ f10_0_1.toInt by omega) (show f10_0_1.toInt ≤ 400 by omega) (show 0 ≤ f10_0_14.toInt by omega) (show f10_0_14.toInt ≤ 400 by omega) (show (f10_0_14.toInt = f0_.toInt ∨ (gi w0 1 (f0_.toInt).toNat).toInt = 32) by first | omega | assumption | (left; omega) | (left; decide) | (right; assumption))  hw hT hF c15 c18 hM (lv_sub hl [0, 1, 2, 3] rfl)
          · have c44 : v10_5.toInt < (8 : Int) := wk_leF c44
            replace hM := hM.neg (Int.not_le.mpr c44)
            refine lv_lload_n hx hb dX12_isWord_68 rfl (lv_at hl 2 rfl) ?_
            refine lv_lload_n hx hb dX12_isWord_69 rfl (lv_at hl 1 rfl) ?_
            refine W.lcmp hx hb dX12_isWord_70 ?_
            refine lv_if_ne (tgt := 78) hx hb dX12_isWord_71 (by decide) (fun c45 => ?_) (fun c45 => ?_)
            · have c45 : ¬ v10_3.toInt = (1752135026 : Int) := wk_ceF c45
              replace hM := hM.pos c45
              exact J78 v10_3 v10_5 f10_0_1 f10_0_14 H locs ls w10 (show 0 ≤ v10_5.toInt by omega) (show v10_5.toInt ≤ 400 by omega) (show 0 ≤ f10_0_1.toInt by omega) (show f10_0_1.toInt ≤ 400 by omega) (show 0 ≤ f10_0_14.toInt by omega) (show f10_0_14.toInt ≤ 400 by omega) (show (f10_0_14.toInt = f0_.toInt ∨ (gi w0 1 (f0_.toInt).toNat).toInt = 32) by first | omega | assumption | (left; omega) | (left; decide) | (right; assumption))  hw hT hF c15 c18 hM (lv_sub hl [0, 1, 2, 3] rfl)
            · have c45 : v10_3.toInt = (1752135026 : Int) := wk_ceT c45
              replace hM := hM.neg (fun q => q c45)
              refine lv_iconst (v := 1) hx hb dX12_isWord_74 (by decide) ?_
              refine lv_goto (tgt := 79) hx hb dX12_isWord_75 (by decide) ?_
              exact tk_zret hC hr rfl hlocks hK ⟨hT, hF, hM.ret (by decide), (Or.inr ⟨rfl, ⟨f10_0_1, c15, (show 0 ≤ f10_0_1.toInt by omega), (show f10_0_1.toInt ≤ 400 by omega)⟩, (by simp only [cf0_, c18]; omega)⟩)⟩ hw dX12_isWord_79
      · replace hM := hM.call (r' := 1) hv42 (by decide)
        have ex39 : x39.toInt = f10_0_1.toInt := by rw [← c15.symm.trans c40]
        refine lv_if_eq (tgt := 56) hx hb dX12_isWord_21 (by decide) (fun c => absurd c (by decide)) (fun _ => ?_)
        replace hM := hM.neg (by decide)
        refine lv_iload hx hb dX12_isWord_24 (lv_at hl 3 rfl) ?_
        refine lv_bipush (v := 8) hx hb dX12_isWord_26 (by decide) ?_
        refine lv_icmp_ge (tgt := 50) hx hb dX12_isWord_28 (by decide) (fun c46 => ?_) (fun c46 => ?_)
        · have c46 : (8 : Int) ≤ v10_5.toInt := wk_le.mp c46
          replace hM := hM.pos c46
          exact J50 v10_3 H locs ls w10 (show 0 ≤ v10_5.toInt by omega) (show v10_5.toInt ≤ 399 by omega) (show 1 ≤ f10_0_1.toInt by omega) (show f10_0_1.toInt ≤ 400 by omega) (show 0 ≤ f10_0_14.toInt by omega) (show f10_0_14.toInt ≤ 399 by omega) (show (f10_0_14.toInt = f0_.toInt ∨ (gi w0 1 (f0_.toInt).toNat).toInt = 32) by first | omega | assumption | (left; omega) | (left; decide) | (right; assumption))  hw hT hF c15 c18 hM (lv_sub hl [0, 1, 2, 3] rfl)
        · have c46 : v10_5.toInt < (8 : Int) := wk_leF c46
          replace hM := hM.neg (Int.not_le.mpr c46)
          refine lv_lload_n hx hb dX12_isWord_31 rfl (lv_at hl 2 rfl) ?_
          refine lv_bipush (v := 8) hx hb dX12_isWord_32 (by decide) ?_
          refine lv_lshl hx hb dX12_isWord_34 rfl ?_
          refine lv_topl (fun x47 ex47 => ?_)
          replace hM := hM.lt (mShlL_e ex47 rfl (by decide))
          refine lv_aload_n hx hb dX12_isWord_35 rfl (lv_at hl 0 rfl) ?_
          refine tk_getA hC hK hw hT hinX12 kM_at0 (by decide) rfl 0 (by decide) (List.mem_of_getElem? (i := 2) rfl) rfl rfl dX12_isWord_36 ?_
          refine lv_aload_n hx hb dX12_isWord_39 rfl (lv_at hl 0 rfl) ?_
          refine tk_geti hC hK hw hT hinX12 kM_at0 (by decide) rfl 14 (by decide) (List.mem_of_getElem? (i := 1) rfl) rfl rfl dX12_isWord_40 (fun x48 c49 rx48 tx48 => ?_)
          refine wk_top f10_0_14 (c49.symm.trans c18) ?_
          replace hM := hM.rd (sI_at c18)
          refine lv_iload hx hb dX12_isWord_43 (lv_at hl 3 rfl) ?_
          refine lv_iadd hx hb dX12_isWord_45 ?_
          refine lv_topi (fun x50 ex50 => ?_)
          have ezx50 := ex50
          have ex50 : x50.toInt = f10_0_14.toInt + v10_5.toInt := by rw [ex50]; exact wk_add (show (-2147483648) ≤ f10_0_14.toInt + v10_5.toInt by omega) (show f10_0_14.toInt + v10_5.toInt ≤ 2147483647 by omega)
          replace hM := hM.lt ex50.symm
          refine tk_bald hC hK hw hT kM_at1 rfl rfl (show 0 ≤ x50.toInt by omega) (show x50.toInt < 400 by omega) dX12_isWord_46 (fun x51 c52 rx51 tx51 => ?_)
          have hox51 := c52
          replace hM := hM.rd (sI_at hox51)
          have c52 : gi w10 1 (1 * f10_0_14.toInt + 1 * v10_5.toInt + 0).toNat = x51 := (congrArg (gi w10 1) (congrArg Int.toNat (show 1 * f10_0_14.toInt + 1 * v10_5.toInt + 0 = x50.toInt by omega))).trans c52
          refine lv_i2l hx hb dX12_isWord_47 rfl ?_
          refine lv_topl (fun x53 ex53 => ?_)
          have ex53 : x53.toInt = x51.toInt := by rw [ex53]; exact wk_i2l _
          have bx53 := wk_i32 x51
          replace hM := hM.lt ex53.symm
          refine lv_lor hx hb dX12_isWord_48 ?_
          refine lv_topl (fun x54 ex54 => ?_)
          have ezx54 := ex54
          replace hM := hM.lt (o64_e (f := fun x y => x ||| y) ezx54 rfl rfl)
          refine lv_lstore_n (lv' := [(3, .long x54), (0, .ref (ad 0)), (1, .long 1752135026), (5, .int v10_5)]) hx hb dX12_isWord_49 rfl hl (by decide) rfl (fun ls hl => ?_)
          exact J50 x54 H locs ls w10 (show 0 ≤ v10_5.toInt by omega) (show v10_5.toInt ≤ 399 by omega) (show 1 ≤ f10_0_1.toInt by omega) (show f10_0_1.toInt ≤ 400 by omega) (show 0 ≤ f10_0_14.toInt by omega) (show f10_0_14.toInt ≤ 399 by omega) (show (f10_0_14.toInt = f0_.toInt ∨ (gi w0 1 (f0_.toInt).toNat).toInt = 32) by first | omega | assumption | (left; omega) | (left; decide) | (right; assumption) | (right; rw [c52]; omega) | (right; rw [c52]; decide))  hw hT hF c15 c18 hM (lv_sub hl [1, 2, 0, 3] rfl)
  have hM : TT (fun n => m_X12_isWord n 0 1752135026 (sI w0)) (fun n => m_X12_isWord n 0 1752135026 (sI w0)) := TT.rf
  refine lv_aload_n hx hb dX12_isWord_0 rfl (lv_at hl 0 rfl) ?_
  refine tk_Vi hC hK hw hT hA hE hSR kM_at0 (by decide) rfl (kz_X12_see_1 l adK adV dC dI cy ad B (by omega) (by omega) qr s1    w0 s.heap.size hT f0_ cf0_ (show 0 ≤ f0_.toInt by omega) (show f0_.toInt ≤ 400 by omega)) (cwV 0 hC.2.2.2.2 gX12_isWord_X12_see rfl rfl rfl (by decide +kernel) ⟨Nat.le_of_ble_eq_true rfl, Nat.le_of_ble_eq_true rfl⟩) rfl hl.1 rfl (Nat.le_of_ble_eq_true rfl) dX12_isWord_1 (fun r55 w57 H locs hp56 hw => ?_)
  obtain ⟨hT, k58, hv76, hg75⟩ := hp56
  have hF := hF.tr k58 (by decide)
  rcases hg75 with ⟨g59, g60, ⟨x61, c62, rx61, tx61⟩, ⟨x63, c64, rx63, tx63⟩, g65, g66⟩ | ⟨rfl, ⟨x67, c68, rx67, tx67⟩, ⟨x69, c70, rx69, tx69⟩, g71⟩ | ⟨rfl, ⟨x72, c73, rx72, tx72⟩, g74⟩
  · replace hM := hM.call hv76 rfl
    have g65 : (gi w57 1 (x63.toInt).toNat).toInt ≠ 32 := by have q := g65; simp only [c64] at q; omega
    have g66 : (x63.toInt = f0_.toInt ∨ (gi w0 1 (f0_.toInt).toNat).toInt = 32) := by have q := g66; simp only [cf0_, c64] at q; omega
    refine lv_pop hx hb dX12_isWord_4 rfl ?_
    refine lv_lconst (v := 0) hx hb dX12_isWord_5 (by decide) ?_
    refine lv_lstore_n (lv' := [(3, .long 0), (0, .ref (ad 0)), (1, .long 1752135026)]) hx hb dX12_isWord_6 rfl hl (by decide) rfl (fun ls hl => ?_)
    refine lv_iconst (v := 0) hx hb dX12_isWord_7 (by decide) ?_
    refine lv_istore (lv' := [(5, .int 0), (3, .long 0), (0, .ref (ad 0)), (1, .long 1752135026)]) hx hb dX12_isWord_8 hl (by decide) rfl (fun ls hl => ?_)
    exact L10 ((400 - (0 : Int)).toNat + 1) 0 0 x61 x63 H locs ls w57 (by decide) (by decide) (show 0 ≤ x61.toInt by omega) (show x61.toInt ≤ 400 by omega) (show 0 ≤ x63.toInt by omega) (show x63.toInt ≤ 400 by omega) (show (x63.toInt = f0_.toInt ∨ (gi w0 1 (f0_.toInt).toNat).toInt = 32) by first | omega | assumption | (left; omega) | (left; decide) | (right; assumption)) (Nat.lt_succ_self _) hw hT hF c62 c64 hM (lv_sub hl [2, 3, 1, 0] rfl)
  · replace hM := hM.call (r' := (-1)) hv76 (by decide)
    have g71 : (x69.toInt = f0_.toInt ∨ (gi w0 1 (f0_.toInt).toNat).toInt = 32) := by have q := g71; simp only [cf0_, c70] at q; omega
    refine lv_pop hx hb dX12_isWord_4 rfl ?_
    refine lv_lconst (v := 0) hx hb dX12_isWord_5 (by decide) ?_
    refine lv_lstore_n (lv' := [(3, .long 0), (0, .ref (ad 0)), (1, .long 1752135026)]) hx hb dX12_isWord_6 rfl hl (by decide) rfl (fun ls hl => ?_)
    refine lv_iconst (v := 0) hx hb dX12_isWord_7 (by decide) ?_
    refine lv_istore (lv' := [(5, .int 0), (3, .long 0), (0, .ref (ad 0)), (1, .long 1752135026)]) hx hb dX12_isWord_8 hl (by decide) rfl (fun ls hl => ?_)
    exact L10 ((400 - (0 : Int)).toNat + 1) 0 0 x67 x69 H locs ls w57 (by decide) (by decide) (show 0 ≤ x67.toInt by omega) (show x67.toInt ≤ 400 by omega) (show 0 ≤ x69.toInt by omega) (show x69.toInt ≤ 400 by omega) (show (x69.toInt = f0_.toInt ∨ (gi w0 1 (f0_.toInt).toNat).toInt = 32) by first | omega | assumption | (left; omega) | (left; decide) | (right; assumption)) (Nat.lt_succ_self _) hw hT hF c68 c70 hM (lv_sub hl [2, 3, 1, 0] rfl)
  · replace hM := hM.call (r' := (-1)) hv76 (by decide)
    obtain ⟨x77, c78, rx77, tx77⟩ := hT.rdi (lo := 0) (hi := 400) (k := 14) kM_at0 (by decide) rfl
    have g74 : (x77.toInt = f0_.toInt ∨ (gi w0 1 (f0_.toInt).toNat).toInt = 32) := by have q := g74; simp only [cf0_, c78] at q; omega
    refine lv_pop hx hb dX12_isWord_4 rfl ?_
    refine lv_lconst (v := 0) hx hb dX12_isWord_5 (by decide) ?_
    refine lv_lstore_n (lv' := [(3, .long 0), (0, .ref (ad 0)), (1, .long 1752135026)]) hx hb dX12_isWord_6 rfl hl (by decide) rfl (fun ls hl => ?_)
    refine lv_iconst (v := 0) hx hb dX12_isWord_7 (by decide) ?_
    refine lv_istore (lv' := [(5, .int 0), (3, .long 0), (0, .ref (ad 0)), (1, .long 1752135026)]) hx hb dX12_isWord_8 hl (by decide) rfl (fun ls hl => ?_)
    exact L10 ((400 - (0 : Int)).toNat + 1) 0 0 x72 x77 H locs ls w57 (by decide) (by decide) (show 0 ≤ x72.toInt by omega) (show x72.toInt ≤ 400 by omega) (show 0 ≤ x77.toInt by omega) (show x77.toInt ≤ 400 by omega) (show (x77.toInt = f0_.toInt ∨ (gi w0 1 (f0_.toInt).toNat).toInt = 32) by first | omega | assumption | (left; omega) | (left; decide) | (right; assumption)) (Nat.lt_succ_self _) hw hT hF c73 c78 hM (lv_sub hl [2, 3, 1, 0] rfl)
abbrev Pz_X12_isWord_12 (ad : Nat → Nat) (cy : Nat → ClassId) (B : Int) (qr : Nat) (s1 : Int)  (w0 : va_W) : Int32 → va_W → Prop := fun r u => TW ksM ad cy B qr 12 u ∧ FE ksM [(12, 14, 14)] w0 u ∧ Ev (fun n => m_X12_isWord n 0 6578553 (sI w0)) (r.toInt, sI u) ∧ ((r = 0 ∧ (∃ y : Int32, gi u 0 1 = y ∧ 0 ≤ y.toInt ∧ y.toInt ≤ 400) ∧ (((gi u 0 14).toInt = (gi w0 0 14).toInt ∨ (gi w0 1 ((gi w0 0 14).toInt).toNat).toInt = 32))) ∨ (r = 1 ∧ (∃ y : Int32, gi u 0 1 = y ∧ 0 ≤ y.toInt ∧ y.toInt ≤ 400) ∧ (((gi u 0 14).toInt = (gi w0 0 14).toInt ∨ (gi w0 1 ((gi w0 0 14).toInt).toNat).toInt = 32))))
set_option maxHeartbeats 4000000 in
set_option maxRecDepth 100000 in
theorem kz_X12_isWord_12 (l : Launch) (adK adV : Nat → Nat) (dC : Nat → ClassId) (dI : Nat → Nat → Nat) (cy : Nat → ClassId) (ad : Nat → Nat) (B : Int) (hB0 : 100000 ≤ B) (hB1 : B ≤ 1073741824) (qr : Nat) (s1 : Int)   (w0 : va_W) (sz : Nat) (hT : TW ksM ad cy B qr 12 w0) (f0_ : Int32) (cf0_ : gi w0 0 14 = f0_) (rf0_ : 0 ≤ f0_.toInt) (tf0_ : f0_.toInt ≤ 400) : Met l yX12_isWord wsX12_isWord ({ frames := 2, cells := 0, slots := 0, locals := 33 }) (va_Pc [.ref (ad 0), .long 6578553] (wpreS adK adV dC dI cy sz w0)) (va_Qi (Pz_X12_isWord_12 ad cy B qr s1  w0) (fun u : va_W => wpost dC dI cy (va_A w0 sz) u) (va_A w0 sz)) 0 0 (va_A w0 sz) := by
  refine Met.ofW (cc := cX12_isWord) (maxL := 6) (ret := (some .boolean)) (by decide) rfl ?_
  intro p e s m args below meth c s₁ Bk hml hv
  obtain ⟨rfl, ⟨hsz, hP, hK, hD0⟩, hE, hSR⟩ := hv
  have hx := Bk.exec
  have hb := Bk.bytes
  have hr := Bk.returns
  have hlocks := Bk.notSynchronized
  have hC : CallFix p m c cX12_isWord 6 s _ wsX12_isWord RX12 := ⟨hx, hb, hml, findClass_of_methodNamed Bk.named, atoms_spec (ws := wsX12_isWord) Bk.pre⟩
  subst hsz
  have hD := hD0.self (sz := s.heap.size)
  generalize hAe : va_A w0 s.heap.size = A at hD hE ⊢
  have hA : ∀ q : Nat, s.heap.size ≤ q → A q := fun q h => by rw [← hAe]; exact Or.inr h
  have hw : Wd dC dI A s.heap s.heap [] w0 := ⟨hP, hD, va_S.rf⟩
  have hF : FE ksM [(12, 14, 14)] w0 w0 := FE.rf
  have hl := lv_entry ([.ref (ad 0), .long 6578553]) (n := 6) (Nat.le_of_ble_eq_true rfl)
  rw [lg_entry_eq]
  generalize (lg_sl ([.ref (ad 0), .long 6578553]) ++ List.replicate (6 - (lg_sl ([.ref (ad 0), .long 6578553])).length) Slot.unset).toArray = ls at hl ⊢
  have hl : lv_has ls 6 [(0, .ref (ad 0)), (1, .long 6578553)] := hl
  generalize hloc : ([] : List Loc) = locs at hw ⊢
  have hinX12 : ∀ w ∈ u_ws RX12 TX12 42, w ∈ wsX12_isWord := fun _ h => List.mem_cons_of_mem _ (List.mem_append_right _ (h))
  have J78 : ∀ (v78_3 : Int64) (v78_5 : Int32) (f78_0_1 : Int32) (f78_0_14 : Int32) (H : Heap) (locs : List Loc) (ls : Array Slot) (w1 : va_W), 0 ≤ v78_5.toInt → v78_5.toInt ≤ 400 → 0 ≤ f78_0_1.toInt → f78_0_1.toInt ≤ 400 → 0 ≤ f78_0_14.toInt → f78_0_14.toInt ≤ 400 → ((f78_0_14.toInt = f0_.toInt ∨ (gi w0 1 (f0_.toInt).toNat).toInt = 32)) → Wd dC dI A s.heap H locs w1 → TW ksM ad cy B qr 12 w1 → FE ksM [(12, 14, 14)] w0 w1 → gi w1 0 1 = f78_0_1 → gi w1 0 14 = f78_0_14 → TT (fun n => m_X12_isWord n 0 6578553 (sI w0)) (fun n => b_X12_isWord_78 (j_X12_isWord 0 n) n 0 (sI w1)) → lv_has ls 6 [(0, .ref (ad 0)), (1, .long 6578553), (3, .long v78_3), (5, .int v78_5)] → W p l e ({ frames := 2, cells := 0, slots := 0, locals := 33 }) s m (List.toArray [.ref (ad 0), .long 6578553]) below meth c H locs 0 0 (MQ below (va_Qi (Pz_X12_isWord_12 ad cy B qr s1  w0) (fun u : va_W => wpost dC dI cy A u) A) (List.toArray [.ref (ad 0), .long 6578553]) s 0 0 A) (F0 m 78 ls []) := by
    intro v78_3 v78_5 f78_0_1 f78_0_14 H locs ls w1 r2 t3 r4 t5 r7 t8 hcr78_0 hw hT hF c6 c9 hM hl
    refine lv_iconst (v := 0) hx hb dX12_isWord_78 (by decide) ?_
    exact tk_zret hC hr rfl hlocks hK ⟨hT, hF, hM.ret (by decide), (Or.inl ⟨rfl, ⟨f78_0_1, c6, (show 0 ≤ f78_0_1.toInt by omega), (show f78_0_1.toInt ≤ 400 by omega)⟩, (by simp only [cf0_, c9]; omega)⟩)⟩ hw dX12_isWord_79
  have L10 : ∀ (n10 : Nat) (v10_3 : Int64) (v10_5 : Int32) (f10_0_1 : Int32) (f10_0_14 : Int32) (H : Heap) (locs : List Loc) (ls : Array Slot) (w10 : va_W), 0 ≤ v10_5.toInt → v10_5.toInt ≤ 400 → 0 ≤ f10_0_1.toInt → f10_0_1.toInt ≤ 400 → 0 ≤ f10_0_14.toInt → f10_0_14.toInt ≤ 400 → ((f10_0_14.toInt = f0_.toInt ∨ (gi w0 1 (f0_.toInt).toNat).toInt = 32)) → (400 - v10_5.toInt).toNat < n10 → Wd dC dI A s.heap H locs w10 → TW ksM ad cy B qr 12 w10 → FE ksM [(12, 14, 14)] w0 w10 → gi w10 0 1 = f10_0_1 → gi w10 0 14 = f10_0_14 → TT (fun n => m_X12_isWord n 0 6578553 (sI w0)) (fun n => j_X12_isWord 0 n 10 [(6578553 : Int), v10_3.toInt, v10_5.toInt] (sI w10)) → lv_has ls 6 [(0, .ref (ad 0)), (1, .long 6578553), (3, .long v10_3), (5, .int v10_5)] → W p l e ({ frames := 2, cells := 0, slots := 0, locals := 33 }) s m (List.toArray [.ref (ad 0), .long 6578553]) below meth c H locs 0 0 (MQ below (va_Qi (Pz_X12_isWord_12 ad cy B qr s1  w0) (fun u : va_W => wpost dC dI cy A u) A) (List.toArray [.ref (ad 0), .long 6578553]) s 0 0 A) (F0 m 10 ls []) := by
    intro n10
    induction n10 with
    | zero => intro v10_3 v10_5 f10_0_1 f10_0_14 H locs ls w10 r11 t12 r13 t14 r16 t17 hcr10_0 hm10 hw hT hF c15 c18 hM hl; omega
    | succ n10 ih10 =>
      intro v10_3 v10_5 f10_0_1 f10_0_14 H locs ls w10 r11 t12 r13 t14 r16 t17 hcr10_0 hm10 hw hT hF c15 c18 hM hl
      have J50 : ∀ (v50_3 : Int64) (H : Heap) (locs : List Loc) (ls : Array Slot) (w19 : va_W), 0 ≤ v10_5.toInt → v10_5.toInt ≤ 399 → 1 ≤ f10_0_1.toInt → f10_0_1.toInt ≤ 400 → 0 ≤ f10_0_14.toInt → f10_0_14.toInt ≤ 399 → ((f10_0_14.toInt = f0_.toInt ∨ (gi w0 1 (f0_.toInt).toNat).toInt = 32)) → Wd dC dI A s.heap H locs w19 → TW ksM ad cy B qr 12 w19 → FE ksM [(12, 14, 14)] w0 w19 → gi w19 0 1 = f10_0_1 → gi w19 0 14 = f10_0_14 → TT (fun n => m_X12_isWord n 0 6578553 (sI w0)) (fun n => b_X12_isWord_50 (j_X12_isWord 0 n) n 0 (6578553 : Int) (v50_3.toInt) (v10_5.toInt) (sI w19)) → lv_has ls 6 [(0, .ref (ad 0)), (1, .long 6578553), (3, .long v50_3), (5, .int v10_5)] → W p l e ({ frames := 2, cells := 0, slots := 0, locals := 33 }) s m (List.toArray [.ref (ad 0), .long 6578553]) below meth c H locs 0 0 (MQ below (va_Qi (Pz_X12_isWord_12 ad cy B qr s1  w0) (fun u : va_W => wpost dC dI cy A u) A) (List.toArray [.ref (ad 0), .long 6578553]) s 0 0 A) (F0 m 50 ls []) := by
        intro v50_3 H locs ls w19 r20 t21 r22 t23 r25 t26 hcr50_0 hw hT hF c24 c27 hM hl
        obtain ⟨x28, ex28⟩ : ∃ y : Int32, y = v10_5 + Int32.ofInt 1 := ⟨_, rfl⟩
        have erx28 := ex28
        refine lv_iinc (v := x28) (lv' := [(5, .int x28), (0, .ref (ad 0)), (1, .long 6578553), (3, .long v50_3)]) hx hb dX12_isWord_50 hl (k := 3) rfl ex28.symm (by decide) rfl (fun ls hl => ?_)
        have ex28 : x28.toInt = v10_5.toInt + 1 := by rw [ex28]; exact wk_add (y := 1) (show -2147483648 ≤ v10_5.toInt + 1 by omega) (show v10_5.toInt + 1 ≤ 2147483647 by omega)
        replace hM := hM.lt ex28.symm
        refine lv_goto (tgt := 10) hx hb dX12_isWord_53 (by decide) ?_
        exact ih10 v50_3 x28 f10_0_1 f10_0_14 H locs ls w19 (show 0 ≤ x28.toInt by omega) (show x28.toInt ≤ 400 by omega) (show 0 ≤ f10_0_1.toInt by omega) (show f10_0_1.toInt ≤ 400 by omega) (show 0 ≤ f10_0_14.toInt by omega) (show f10_0_14.toInt ≤ 400 by omega) (show (f10_0_14.toInt = f0_.toInt ∨ (gi w0 1 (f0_.toInt).toNat).toInt = 32) by first | omega | assumption | (left; omega) | (left; decide) | (right; assumption)) (show (400 - x28.toInt).toNat < n10 by omega) hw hT hF c24 c27 hM (lv_sub hl [1, 2, 3, 0] rfl)
      replace hM := hM.suc (fun _ => e_X12_isWord_10)
      refine lv_aload_n hx hb dX12_isWord_10 rfl (lv_at hl 0 rfl) ?_
      refine lv_aload_n hx hb dX12_isWord_11 rfl (lv_at hl 0 rfl) ?_
      refine tk_geti hC hK hw hT hinX12 kM_at0 (by decide) rfl 14 (by decide) (List.mem_of_getElem? (i := 1) rfl) rfl rfl dX12_isWord_12 (fun x29 c30 rx29 tx29 => ?_)
      refine wk_top f10_0_14 (c30.symm.trans c18) ?_
      replace hM := hM.rd (sI_at c18)
      refine lv_iload hx hb dX12_isWord_15 (lv_at hl 3 rfl) ?_
      refine lv_iadd hx hb dX12_isWord_17 ?_
      refine lv_topi (fun x31 ex31 => ?_)
      have ezx31 := ex31
      have ex31 : x31.toInt = f10_0_14.toInt + v10_5.toInt := by rw [ex31]; exact wk_add (show (-2147483648) ≤ f10_0_14.toInt + v10_5.toInt by omega) (show f10_0_14.toInt + v10_5.toInt ≤ 2147483647 by omega)
      replace hM := hM.lt ex31.symm
      refine tk_Vi hC hK hw hT hA hE hSR kM_at0 (by decide) rfl (kz_X12_isLetter_1 l adK adV dC dI cy ad B (by omega) (by omega) qr s1   x31 (show 0 ≤ x31.toInt by omega) (show x31.toInt ≤ 800 by omega) w10 H.size hT ) (cwV 1 hC.2.2.2.2 gX12_isWord_X12_isLetter rfl rfl rfl (by decide +kernel) ⟨Nat.le_of_ble_eq_true rfl, Nat.le_of_ble_eq_true rfl⟩) rfl hl.1 rfl (Nat.le_of_ble_eq_true rfl) dX12_isWord_18 (fun r32 w34 H locs hp33 hw => ?_)
      obtain ⟨rfl, hv42, hg41⟩ := hp33
      rcases hg41 with ⟨rfl, ⟨x36, c37, rx36, tx36⟩⟩ | ⟨rfl, g38, ⟨x39, c40, rx39, tx39⟩⟩
      · replace hM := hM.call (r' := 0) hv42 (by decide)
        have ex36 : x36.toInt = f10_0_1.toInt := by rw [← c15.symm.trans c37]
        refine lv_if_eq (tgt := 56) hx hb dX12_isWord_21 (by decide) (fun _ => ?_) (fun c => absurd (by decide) c)
        replace hM := hM.pos (by decide)
        refine lv_iload hx hb dX12_isWord_56 (lv_at hl 3 rfl) ?_
        refine lv_if_le (tgt := 78) hx hb dX12_isWord_58 (by decide) (fun c43 => ?_) (fun c43 => ?_)
        · have c43 : v10_5.toInt ≤ (0 : Int) := wk_le.mp c43
          replace hM := hM.pos c43
          exact J78 v10_3 v10_5 f10_0_1 f10_0_14 H locs ls w10 (show 0 ≤ v10_5.toInt by omega) (show v10_5.toInt ≤ 400 by omega) (show 0 ≤ f10_0_1.toInt by omega) (show f10_0_1.toInt ≤ 400 by omega) (show 0 ≤ f10_0_14.toInt by omega) (show f10_0_14.toInt ≤ 400 by omega) (show (f10_0_14.toInt = f0_.toInt ∨ (gi w0 1 (f0_.toInt).toNat).toInt = 32) by first | omega | assumption | (left; omega) | (left; decide) | (right; assumption))  hw hT hF c15 c18 hM (lv_sub hl [0, 1, 2, 3] rfl)
        · have c43 : (0 : Int) < v10_5.toInt := wk_leF c43
          replace hM := hM.neg (Int.not_le.mpr c43)
          refine lv_iload hx hb dX12_isWord_61 (lv_at hl 3 rfl) ?_
          refine lv_bipush (v := 8) hx hb dX12_isWord_63 (by decide) ?_
          refine lv_icmp_ge (tgt := 78) hx hb dX12_isWord_65 (by decide) (fun c44 => ?_) (fun c44 => ?_)
          · have c44 : (8 : Int) ≤ v10_5.toInt := wk_le.mp c44
            replace hM := hM.pos c44
            exact J78 v10_3 v10_5 f10_0_1 f10_0_14 H locs ls w10 (show 0 ≤ v10_5.toInt by omega) (show v10_5.toInt ≤ 400 by omega) (show 0 ≤ f10_0_1.toInt by omega) (show f10_0_1.toInt ≤ 400 by omega) (show 0 ≤ f10_0_14.toInt by omega) (show f10_0_14.toInt ≤ 400 by omega) (show (f10_0_14.toInt = f0_.toInt ∨ (gi w0 1 (f0_.toInt).toNat).toInt = 32) by first | omega | assumption | (left; omega) | (left; decide) | (right; assumption))  hw hT hF c15 c18 hM (lv_sub hl [0, 1, 2, 3] rfl)
          · have c44 : v10_5.toInt < (8 : Int) := wk_leF c44
            replace hM := hM.neg (Int.not_le.mpr c44)
            refine lv_lload_n hx hb dX12_isWord_68 rfl (lv_at hl 2 rfl) ?_
            refine lv_lload_n hx hb dX12_isWord_69 rfl (lv_at hl 1 rfl) ?_
            refine W.lcmp hx hb dX12_isWord_70 ?_
            refine lv_if_ne (tgt := 78) hx hb dX12_isWord_71 (by decide) (fun c45 => ?_) (fun c45 => ?_)
            · have c45 : ¬ v10_3.toInt = (6578553 : Int) := wk_ceF c45
              replace hM := hM.pos c45
              exact J78 v10_3 v10_5 f10_0_1 f10_0_14 H locs ls w10 (show 0 ≤ v10_5.toInt by omega) (show v10_5.toInt ≤ 400 by omega) (show 0 ≤ f10_0_1.toInt by omega) (show f10_0_1.toInt ≤ 400 by omega) (show 0 ≤ f10_0_14.toInt by omega) (show f10_0_14.toInt ≤ 400 by omega) (show (f10_0_14.toInt = f0_.toInt ∨ (gi w0 1 (f0_.toInt).toNat).toInt = 32) by first | omega | assumption | (left; omega) | (left; decide) | (right; assumption))  hw hT hF c15 c18 hM (lv_sub hl [0, 1, 2, 3] rfl)
            · have c45 : v10_3.toInt = (6578553 : Int) := wk_ceT c45
              replace hM := hM.neg (fun q => q c45)
              refine lv_iconst (v := 1) hx hb dX12_isWord_74 (by decide) ?_
              refine lv_goto (tgt := 79) hx hb dX12_isWord_75 (by decide) ?_
              exact tk_zret hC hr rfl hlocks hK ⟨hT, hF, hM.ret (by decide), (Or.inr ⟨rfl, ⟨f10_0_1, c15, (show 0 ≤ f10_0_1.toInt by omega), (show f10_0_1.toInt ≤ 400 by omega)⟩, (by simp only [cf0_, c18]; omega)⟩)⟩ hw dX12_isWord_79
      · replace hM := hM.call (r' := 1) hv42 (by decide)
        have ex39 : x39.toInt = f10_0_1.toInt := by rw [← c15.symm.trans c40]
        refine lv_if_eq (tgt := 56) hx hb dX12_isWord_21 (by decide) (fun c => absurd c (by decide)) (fun _ => ?_)
        replace hM := hM.neg (by decide)
        refine lv_iload hx hb dX12_isWord_24 (lv_at hl 3 rfl) ?_
        refine lv_bipush (v := 8) hx hb dX12_isWord_26 (by decide) ?_
        refine lv_icmp_ge (tgt := 50) hx hb dX12_isWord_28 (by decide) (fun c46 => ?_) (fun c46 => ?_)
        · have c46 : (8 : Int) ≤ v10_5.toInt := wk_le.mp c46
          replace hM := hM.pos c46
          exact J50 v10_3 H locs ls w10 (show 0 ≤ v10_5.toInt by omega) (show v10_5.toInt ≤ 399 by omega) (show 1 ≤ f10_0_1.toInt by omega) (show f10_0_1.toInt ≤ 400 by omega) (show 0 ≤ f10_0_14.toInt by omega) (show f10_0_14.toInt ≤ 399 by omega) (show (f10_0_14.toInt = f0_.toInt ∨ (gi w0 1 (f0_.toInt).toNat).toInt = 32) by first | omega | assumption | (left; omega) | (left; decide) | (right; assumption))  hw hT hF c15 c18 hM (lv_sub hl [0, 1, 2, 3] rfl)
        · have c46 : v10_5.toInt < (8 : Int) := wk_leF c46
          replace hM := hM.neg (Int.not_le.mpr c46)
          refine lv_lload_n hx hb dX12_isWord_31 rfl (lv_at hl 2 rfl) ?_
          refine lv_bipush (v := 8) hx hb dX12_isWord_32 (by decide) ?_
          refine lv_lshl hx hb dX12_isWord_34 rfl ?_
          refine lv_topl (fun x47 ex47 => ?_)
          replace hM := hM.lt (mShlL_e ex47 rfl (by decide))
          refine lv_aload_n hx hb dX12_isWord_35 rfl (lv_at hl 0 rfl) ?_
          refine tk_getA hC hK hw hT hinX12 kM_at0 (by decide) rfl 0 (by decide) (List.mem_of_getElem? (i := 2) rfl) rfl rfl dX12_isWord_36 ?_
          refine lv_aload_n hx hb dX12_isWord_39 rfl (lv_at hl 0 rfl) ?_
          refine tk_geti hC hK hw hT hinX12 kM_at0 (by decide) rfl 14 (by decide) (List.mem_of_getElem? (i := 1) rfl) rfl rfl dX12_isWord_40 (fun x48 c49 rx48 tx48 => ?_)
          refine wk_top f10_0_14 (c49.symm.trans c18) ?_
          replace hM := hM.rd (sI_at c18)
          refine lv_iload hx hb dX12_isWord_43 (lv_at hl 3 rfl) ?_
          refine lv_iadd hx hb dX12_isWord_45 ?_
          refine lv_topi (fun x50 ex50 => ?_)
          have ezx50 := ex50
          have ex50 : x50.toInt = f10_0_14.toInt + v10_5.toInt := by rw [ex50]; exact wk_add (show (-2147483648) ≤ f10_0_14.toInt + v10_5.toInt by omega) (show f10_0_14.toInt + v10_5.toInt ≤ 2147483647 by omega)
          replace hM := hM.lt ex50.symm
          refine tk_bald hC hK hw hT kM_at1 rfl rfl (show 0 ≤ x50.toInt by omega) (show x50.toInt < 400 by omega) dX12_isWord_46 (fun x51 c52 rx51 tx51 => ?_)
          have hox51 := c52
          replace hM := hM.rd (sI_at hox51)
          have c52 : gi w10 1 (1 * f10_0_14.toInt + 1 * v10_5.toInt + 0).toNat = x51 := (congrArg (gi w10 1) (congrArg Int.toNat (show 1 * f10_0_14.toInt + 1 * v10_5.toInt + 0 = x50.toInt by omega))).trans c52
          refine lv_i2l hx hb dX12_isWord_47 rfl ?_
          refine lv_topl (fun x53 ex53 => ?_)
          have ex53 : x53.toInt = x51.toInt := by rw [ex53]; exact wk_i2l _
          have bx53 := wk_i32 x51
          replace hM := hM.lt ex53.symm
          refine lv_lor hx hb dX12_isWord_48 ?_
          refine lv_topl (fun x54 ex54 => ?_)
          have ezx54 := ex54
          replace hM := hM.lt (o64_e (f := fun x y => x ||| y) ezx54 rfl rfl)
          refine lv_lstore_n (lv' := [(3, .long x54), (0, .ref (ad 0)), (1, .long 6578553), (5, .int v10_5)]) hx hb dX12_isWord_49 rfl hl (by decide) rfl (fun ls hl => ?_)
          exact J50 x54 H locs ls w10 (show 0 ≤ v10_5.toInt by omega) (show v10_5.toInt ≤ 399 by omega) (show 1 ≤ f10_0_1.toInt by omega) (show f10_0_1.toInt ≤ 400 by omega) (show 0 ≤ f10_0_14.toInt by omega) (show f10_0_14.toInt ≤ 399 by omega) (show (f10_0_14.toInt = f0_.toInt ∨ (gi w0 1 (f0_.toInt).toNat).toInt = 32) by first | omega | assumption | (left; omega) | (left; decide) | (right; assumption) | (right; rw [c52]; omega) | (right; rw [c52]; decide))  hw hT hF c15 c18 hM (lv_sub hl [1, 2, 0, 3] rfl)
  have hM : TT (fun n => m_X12_isWord n 0 6578553 (sI w0)) (fun n => m_X12_isWord n 0 6578553 (sI w0)) := TT.rf
  refine lv_aload_n hx hb dX12_isWord_0 rfl (lv_at hl 0 rfl) ?_
  refine tk_Vi hC hK hw hT hA hE hSR kM_at0 (by decide) rfl (kz_X12_see_1 l adK adV dC dI cy ad B (by omega) (by omega) qr s1    w0 s.heap.size hT f0_ cf0_ (show 0 ≤ f0_.toInt by omega) (show f0_.toInt ≤ 400 by omega)) (cwV 0 hC.2.2.2.2 gX12_isWord_X12_see rfl rfl rfl (by decide +kernel) ⟨Nat.le_of_ble_eq_true rfl, Nat.le_of_ble_eq_true rfl⟩) rfl hl.1 rfl (Nat.le_of_ble_eq_true rfl) dX12_isWord_1 (fun r55 w57 H locs hp56 hw => ?_)
  obtain ⟨hT, k58, hv76, hg75⟩ := hp56
  have hF := hF.tr k58 (by decide)
  rcases hg75 with ⟨g59, g60, ⟨x61, c62, rx61, tx61⟩, ⟨x63, c64, rx63, tx63⟩, g65, g66⟩ | ⟨rfl, ⟨x67, c68, rx67, tx67⟩, ⟨x69, c70, rx69, tx69⟩, g71⟩ | ⟨rfl, ⟨x72, c73, rx72, tx72⟩, g74⟩
  · replace hM := hM.call hv76 rfl
    have g65 : (gi w57 1 (x63.toInt).toNat).toInt ≠ 32 := by have q := g65; simp only [c64] at q; omega
    have g66 : (x63.toInt = f0_.toInt ∨ (gi w0 1 (f0_.toInt).toNat).toInt = 32) := by have q := g66; simp only [cf0_, c64] at q; omega
    refine lv_pop hx hb dX12_isWord_4 rfl ?_
    refine lv_lconst (v := 0) hx hb dX12_isWord_5 (by decide) ?_
    refine lv_lstore_n (lv' := [(3, .long 0), (0, .ref (ad 0)), (1, .long 6578553)]) hx hb dX12_isWord_6 rfl hl (by decide) rfl (fun ls hl => ?_)
    refine lv_iconst (v := 0) hx hb dX12_isWord_7 (by decide) ?_
    refine lv_istore (lv' := [(5, .int 0), (3, .long 0), (0, .ref (ad 0)), (1, .long 6578553)]) hx hb dX12_isWord_8 hl (by decide) rfl (fun ls hl => ?_)
    exact L10 ((400 - (0 : Int)).toNat + 1) 0 0 x61 x63 H locs ls w57 (by decide) (by decide) (show 0 ≤ x61.toInt by omega) (show x61.toInt ≤ 400 by omega) (show 0 ≤ x63.toInt by omega) (show x63.toInt ≤ 400 by omega) (show (x63.toInt = f0_.toInt ∨ (gi w0 1 (f0_.toInt).toNat).toInt = 32) by first | omega | assumption | (left; omega) | (left; decide) | (right; assumption)) (Nat.lt_succ_self _) hw hT hF c62 c64 hM (lv_sub hl [2, 3, 1, 0] rfl)
  · replace hM := hM.call (r' := (-1)) hv76 (by decide)
    have g71 : (x69.toInt = f0_.toInt ∨ (gi w0 1 (f0_.toInt).toNat).toInt = 32) := by have q := g71; simp only [cf0_, c70] at q; omega
    refine lv_pop hx hb dX12_isWord_4 rfl ?_
    refine lv_lconst (v := 0) hx hb dX12_isWord_5 (by decide) ?_
    refine lv_lstore_n (lv' := [(3, .long 0), (0, .ref (ad 0)), (1, .long 6578553)]) hx hb dX12_isWord_6 rfl hl (by decide) rfl (fun ls hl => ?_)
    refine lv_iconst (v := 0) hx hb dX12_isWord_7 (by decide) ?_
    refine lv_istore (lv' := [(5, .int 0), (3, .long 0), (0, .ref (ad 0)), (1, .long 6578553)]) hx hb dX12_isWord_8 hl (by decide) rfl (fun ls hl => ?_)
    exact L10 ((400 - (0 : Int)).toNat + 1) 0 0 x67 x69 H locs ls w57 (by decide) (by decide) (show 0 ≤ x67.toInt by omega) (show x67.toInt ≤ 400 by omega) (show 0 ≤ x69.toInt by omega) (show x69.toInt ≤ 400 by omega) (show (x69.toInt = f0_.toInt ∨ (gi w0 1 (f0_.toInt).toNat).toInt = 32) by first | omega | assumption | (left; omega) | (left; decide) | (right; assumption)) (Nat.lt_succ_self _) hw hT hF c68 c70 hM (lv_sub hl [2, 3, 1, 0] rfl)
  · replace hM := hM.call (r' := (-1)) hv76 (by decide)
    obtain ⟨x77, c78, rx77, tx77⟩ := hT.rdi (lo := 0) (hi := 400) (k := 14) kM_at0 (by decide) rfl
    have g74 : (x77.toInt = f0_.toInt ∨ (gi w0 1 (f0_.toInt).toNat).toInt = 32) := by have q := g74; simp only [cf0_, c78] at q; omega
    refine lv_pop hx hb dX12_isWord_4 rfl ?_
    refine lv_lconst (v := 0) hx hb dX12_isWord_5 (by decide) ?_
    refine lv_lstore_n (lv' := [(3, .long 0), (0, .ref (ad 0)), (1, .long 6578553)]) hx hb dX12_isWord_6 rfl hl (by decide) rfl (fun ls hl => ?_)
    refine lv_iconst (v := 0) hx hb dX12_isWord_7 (by decide) ?_
    refine lv_istore (lv' := [(5, .int 0), (3, .long 0), (0, .ref (ad 0)), (1, .long 6578553)]) hx hb dX12_isWord_8 hl (by decide) rfl (fun ls hl => ?_)
    exact L10 ((400 - (0 : Int)).toNat + 1) 0 0 x72 x77 H locs ls w57 (by decide) (by decide) (show 0 ≤ x72.toInt by omega) (show x72.toInt ≤ 400 by omega) (show 0 ≤ x77.toInt by omega) (show x77.toInt ≤ 400 by omega) (show (x77.toInt = f0_.toInt ∨ (gi w0 1 (f0_.toInt).toNat).toInt = 32) by first | omega | assumption | (left; omega) | (left; decide) | (right; assumption)) (Nat.lt_succ_self _) hw hT hF c73 c78 hM (lv_sub hl [2, 3, 1, 0] rfl)
abbrev Pz_X12_isWord_13 (ad : Nat → Nat) (cy : Nat → ClassId) (B : Int) (qr : Nat) (s1 : Int)  (w0 : va_W) : Int32 → va_W → Prop := fun r u => TW ksM ad cy B qr 12 u ∧ FE ksM [(12, 14, 14)] w0 u ∧ Ev (fun n => m_X12_isWord n 0 1684108389 (sI w0)) (r.toInt, sI u) ∧ ((r = 0 ∧ (∃ y : Int32, gi u 0 1 = y ∧ 0 ≤ y.toInt ∧ y.toInt ≤ 400) ∧ (((gi u 0 14).toInt = (gi w0 0 14).toInt ∨ (gi w0 1 ((gi w0 0 14).toInt).toNat).toInt = 32))) ∨ (r = 1 ∧ (∃ y : Int32, gi u 0 1 = y ∧ 0 ≤ y.toInt ∧ y.toInt ≤ 400) ∧ (((gi u 0 14).toInt = (gi w0 0 14).toInt ∨ (gi w0 1 ((gi w0 0 14).toInt).toNat).toInt = 32))))
set_option maxHeartbeats 4000000 in
set_option maxRecDepth 100000 in
theorem kz_X12_isWord_13 (l : Launch) (adK adV : Nat → Nat) (dC : Nat → ClassId) (dI : Nat → Nat → Nat) (cy : Nat → ClassId) (ad : Nat → Nat) (B : Int) (hB0 : 100000 ≤ B) (hB1 : B ≤ 1073741824) (qr : Nat) (s1 : Int)   (w0 : va_W) (sz : Nat) (hT : TW ksM ad cy B qr 12 w0) (f0_ : Int32) (cf0_ : gi w0 0 14 = f0_) (rf0_ : 0 ≤ f0_.toInt) (tf0_ : f0_.toInt ≤ 400) : Met l yX12_isWord wsX12_isWord ({ frames := 2, cells := 0, slots := 0, locals := 33 }) (va_Pc [.ref (ad 0), .long 1684108389] (wpreS adK adV dC dI cy sz w0)) (va_Qi (Pz_X12_isWord_13 ad cy B qr s1  w0) (fun u : va_W => wpost dC dI cy (va_A w0 sz) u) (va_A w0 sz)) 0 0 (va_A w0 sz) := by
  refine Met.ofW (cc := cX12_isWord) (maxL := 6) (ret := (some .boolean)) (by decide) rfl ?_
  intro p e s m args below meth c s₁ Bk hml hv
  obtain ⟨rfl, ⟨hsz, hP, hK, hD0⟩, hE, hSR⟩ := hv
  have hx := Bk.exec
  have hb := Bk.bytes
  have hr := Bk.returns
  have hlocks := Bk.notSynchronized
  have hC : CallFix p m c cX12_isWord 6 s _ wsX12_isWord RX12 := ⟨hx, hb, hml, findClass_of_methodNamed Bk.named, atoms_spec (ws := wsX12_isWord) Bk.pre⟩
  subst hsz
  have hD := hD0.self (sz := s.heap.size)
  generalize hAe : va_A w0 s.heap.size = A at hD hE ⊢
  have hA : ∀ q : Nat, s.heap.size ≤ q → A q := fun q h => by rw [← hAe]; exact Or.inr h
  have hw : Wd dC dI A s.heap s.heap [] w0 := ⟨hP, hD, va_S.rf⟩
  have hF : FE ksM [(12, 14, 14)] w0 w0 := FE.rf
  have hl := lv_entry ([.ref (ad 0), .long 1684108389]) (n := 6) (Nat.le_of_ble_eq_true rfl)
  rw [lg_entry_eq]
  generalize (lg_sl ([.ref (ad 0), .long 1684108389]) ++ List.replicate (6 - (lg_sl ([.ref (ad 0), .long 1684108389])).length) Slot.unset).toArray = ls at hl ⊢
  have hl : lv_has ls 6 [(0, .ref (ad 0)), (1, .long 1684108389)] := hl
  generalize hloc : ([] : List Loc) = locs at hw ⊢
  have hinX12 : ∀ w ∈ u_ws RX12 TX12 42, w ∈ wsX12_isWord := fun _ h => List.mem_cons_of_mem _ (List.mem_append_right _ (h))
  have J78 : ∀ (v78_3 : Int64) (v78_5 : Int32) (f78_0_1 : Int32) (f78_0_14 : Int32) (H : Heap) (locs : List Loc) (ls : Array Slot) (w1 : va_W), 0 ≤ v78_5.toInt → v78_5.toInt ≤ 400 → 0 ≤ f78_0_1.toInt → f78_0_1.toInt ≤ 400 → 0 ≤ f78_0_14.toInt → f78_0_14.toInt ≤ 400 → ((f78_0_14.toInt = f0_.toInt ∨ (gi w0 1 (f0_.toInt).toNat).toInt = 32)) → Wd dC dI A s.heap H locs w1 → TW ksM ad cy B qr 12 w1 → FE ksM [(12, 14, 14)] w0 w1 → gi w1 0 1 = f78_0_1 → gi w1 0 14 = f78_0_14 → TT (fun n => m_X12_isWord n 0 1684108389 (sI w0)) (fun n => b_X12_isWord_78 (j_X12_isWord 0 n) n 0 (sI w1)) → lv_has ls 6 [(0, .ref (ad 0)), (1, .long 1684108389), (3, .long v78_3), (5, .int v78_5)] → W p l e ({ frames := 2, cells := 0, slots := 0, locals := 33 }) s m (List.toArray [.ref (ad 0), .long 1684108389]) below meth c H locs 0 0 (MQ below (va_Qi (Pz_X12_isWord_13 ad cy B qr s1  w0) (fun u : va_W => wpost dC dI cy A u) A) (List.toArray [.ref (ad 0), .long 1684108389]) s 0 0 A) (F0 m 78 ls []) := by
    intro v78_3 v78_5 f78_0_1 f78_0_14 H locs ls w1 r2 t3 r4 t5 r7 t8 hcr78_0 hw hT hF c6 c9 hM hl
    refine lv_iconst (v := 0) hx hb dX12_isWord_78 (by decide) ?_
    exact tk_zret hC hr rfl hlocks hK ⟨hT, hF, hM.ret (by decide), (Or.inl ⟨rfl, ⟨f78_0_1, c6, (show 0 ≤ f78_0_1.toInt by omega), (show f78_0_1.toInt ≤ 400 by omega)⟩, (by simp only [cf0_, c9]; omega)⟩)⟩ hw dX12_isWord_79
  have L10 : ∀ (n10 : Nat) (v10_3 : Int64) (v10_5 : Int32) (f10_0_1 : Int32) (f10_0_14 : Int32) (H : Heap) (locs : List Loc) (ls : Array Slot) (w10 : va_W), 0 ≤ v10_5.toInt → v10_5.toInt ≤ 400 → 0 ≤ f10_0_1.toInt → f10_0_1.toInt ≤ 400 → 0 ≤ f10_0_14.toInt → f10_0_14.toInt ≤ 400 → ((f10_0_14.toInt = f0_.toInt ∨ (gi w0 1 (f0_.toInt).toNat).toInt = 32)) → (400 - v10_5.toInt).toNat < n10 → Wd dC dI A s.heap H locs w10 → TW ksM ad cy B qr 12 w10 → FE ksM [(12, 14, 14)] w0 w10 → gi w10 0 1 = f10_0_1 → gi w10 0 14 = f10_0_14 → TT (fun n => m_X12_isWord n 0 1684108389 (sI w0)) (fun n => j_X12_isWord 0 n 10 [(1684108389 : Int), v10_3.toInt, v10_5.toInt] (sI w10)) → lv_has ls 6 [(0, .ref (ad 0)), (1, .long 1684108389), (3, .long v10_3), (5, .int v10_5)] → W p l e ({ frames := 2, cells := 0, slots := 0, locals := 33 }) s m (List.toArray [.ref (ad 0), .long 1684108389]) below meth c H locs 0 0 (MQ below (va_Qi (Pz_X12_isWord_13 ad cy B qr s1  w0) (fun u : va_W => wpost dC dI cy A u) A) (List.toArray [.ref (ad 0), .long 1684108389]) s 0 0 A) (F0 m 10 ls []) := by
    intro n10
    induction n10 with
    | zero => intro v10_3 v10_5 f10_0_1 f10_0_14 H locs ls w10 r11 t12 r13 t14 r16 t17 hcr10_0 hm10 hw hT hF c15 c18 hM hl; omega
    | succ n10 ih10 =>
      intro v10_3 v10_5 f10_0_1 f10_0_14 H locs ls w10 r11 t12 r13 t14 r16 t17 hcr10_0 hm10 hw hT hF c15 c18 hM hl
      have J50 : ∀ (v50_3 : Int64) (H : Heap) (locs : List Loc) (ls : Array Slot) (w19 : va_W), 0 ≤ v10_5.toInt → v10_5.toInt ≤ 399 → 1 ≤ f10_0_1.toInt → f10_0_1.toInt ≤ 400 → 0 ≤ f10_0_14.toInt → f10_0_14.toInt ≤ 399 → ((f10_0_14.toInt = f0_.toInt ∨ (gi w0 1 (f0_.toInt).toNat).toInt = 32)) → Wd dC dI A s.heap H locs w19 → TW ksM ad cy B qr 12 w19 → FE ksM [(12, 14, 14)] w0 w19 → gi w19 0 1 = f10_0_1 → gi w19 0 14 = f10_0_14 → TT (fun n => m_X12_isWord n 0 1684108389 (sI w0)) (fun n => b_X12_isWord_50 (j_X12_isWord 0 n) n 0 (1684108389 : Int) (v50_3.toInt) (v10_5.toInt) (sI w19)) → lv_has ls 6 [(0, .ref (ad 0)), (1, .long 1684108389), (3, .long v50_3), (5, .int v10_5)] → W p l e ({ frames := 2, cells := 0, slots := 0, locals := 33 }) s m (List.toArray [.ref (ad 0), .long 1684108389]) below meth c H locs 0 0 (MQ below (va_Qi (Pz_X12_isWord_13 ad cy B qr s1  w0) (fun u : va_W => wpost dC dI cy A u) A) (List.toArray [.ref (ad 0), .long 1684108389]) s 0 0 A) (F0 m 50 ls []) := by
        intro v50_3 H locs ls w19 r20 t21 r22 t23 r25 t26 hcr50_0 hw hT hF c24 c27 hM hl
        obtain ⟨x28, ex28⟩ : ∃ y : Int32, y = v10_5 + Int32.ofInt 1 := ⟨_, rfl⟩
        have erx28 := ex28
        refine lv_iinc (v := x28) (lv' := [(5, .int x28), (0, .ref (ad 0)), (1, .long 1684108389), (3, .long v50_3)]) hx hb dX12_isWord_50 hl (k := 3) rfl ex28.symm (by decide) rfl (fun ls hl => ?_)
        have ex28 : x28.toInt = v10_5.toInt + 1 := by rw [ex28]; exact wk_add (y := 1) (show -2147483648 ≤ v10_5.toInt + 1 by omega) (show v10_5.toInt + 1 ≤ 2147483647 by omega)
        replace hM := hM.lt ex28.symm
        refine lv_goto (tgt := 10) hx hb dX12_isWord_53 (by decide) ?_
        exact ih10 v50_3 x28 f10_0_1 f10_0_14 H locs ls w19 (show 0 ≤ x28.toInt by omega) (show x28.toInt ≤ 400 by omega) (show 0 ≤ f10_0_1.toInt by omega) (show f10_0_1.toInt ≤ 400 by omega) (show 0 ≤ f10_0_14.toInt by omega) (show f10_0_14.toInt ≤ 400 by omega) (show (f10_0_14.toInt = f0_.toInt ∨ (gi w0 1 (f0_.toInt).toNat).toInt = 32) by first | omega | assumption | (left; omega) | (left; decide) | (right; assumption)) (show (400 - x28.toInt).toNat < n10 by omega) hw hT hF c24 c27 hM (lv_sub hl [1, 2, 3, 0] rfl)
      replace hM := hM.suc (fun _ => e_X12_isWord_10)
      refine lv_aload_n hx hb dX12_isWord_10 rfl (lv_at hl 0 rfl) ?_
      refine lv_aload_n hx hb dX12_isWord_11 rfl (lv_at hl 0 rfl) ?_
      refine tk_geti hC hK hw hT hinX12 kM_at0 (by decide) rfl 14 (by decide) (List.mem_of_getElem? (i := 1) rfl) rfl rfl dX12_isWord_12 (fun x29 c30 rx29 tx29 => ?_)
      refine wk_top f10_0_14 (c30.symm.trans c18) ?_
      replace hM := hM.rd (sI_at c18)
      refine lv_iload hx hb dX12_isWord_15 (lv_at hl 3 rfl) ?_
      refine lv_iadd hx hb dX12_isWord_17 ?_
      refine lv_topi (fun x31 ex31 => ?_)
      have ezx31 := ex31
      have ex31 : x31.toInt = f10_0_14.toInt + v10_5.toInt := by rw [ex31]; exact wk_add (show (-2147483648) ≤ f10_0_14.toInt + v10_5.toInt by omega) (show f10_0_14.toInt + v10_5.toInt ≤ 2147483647 by omega)
      replace hM := hM.lt ex31.symm
      refine tk_Vi hC hK hw hT hA hE hSR kM_at0 (by decide) rfl (kz_X12_isLetter_1 l adK adV dC dI cy ad B (by omega) (by omega) qr s1   x31 (show 0 ≤ x31.toInt by omega) (show x31.toInt ≤ 800 by omega) w10 H.size hT ) (cwV 1 hC.2.2.2.2 gX12_isWord_X12_isLetter rfl rfl rfl (by decide +kernel) ⟨Nat.le_of_ble_eq_true rfl, Nat.le_of_ble_eq_true rfl⟩) rfl hl.1 rfl (Nat.le_of_ble_eq_true rfl) dX12_isWord_18 (fun r32 w34 H locs hp33 hw => ?_)
      obtain ⟨rfl, hv42, hg41⟩ := hp33
      rcases hg41 with ⟨rfl, ⟨x36, c37, rx36, tx36⟩⟩ | ⟨rfl, g38, ⟨x39, c40, rx39, tx39⟩⟩
      · replace hM := hM.call (r' := 0) hv42 (by decide)
        have ex36 : x36.toInt = f10_0_1.toInt := by rw [← c15.symm.trans c37]
        refine lv_if_eq (tgt := 56) hx hb dX12_isWord_21 (by decide) (fun _ => ?_) (fun c => absurd (by decide) c)
        replace hM := hM.pos (by decide)
        refine lv_iload hx hb dX12_isWord_56 (lv_at hl 3 rfl) ?_
        refine lv_if_le (tgt := 78) hx hb dX12_isWord_58 (by decide) (fun c43 => ?_) (fun c43 => ?_)
        · have c43 : v10_5.toInt ≤ (0 : Int) := wk_le.mp c43
          replace hM := hM.pos c43
          exact J78 v10_3 v10_5 f10_0_1 f10_0_14 H locs ls w10 (show 0 ≤ v10_5.toInt by omega) (show v10_5.toInt ≤ 400 by omega) (show 0 ≤ f10_0_1.toInt by omega) (show f10_0_1.toInt ≤ 400 by omega) (show 0 ≤ f10_0_14.toInt by omega) (show f10_0_14.toInt ≤ 400 by omega) (show (f10_0_14.toInt = f0_.toInt ∨ (gi w0 1 (f0_.toInt).toNat).toInt = 32) by first | omega | assumption | (left; omega) | (left; decide) | (right; assumption))  hw hT hF c15 c18 hM (lv_sub hl [0, 1, 2, 3] rfl)
        · have c43 : (0 : Int) < v10_5.toInt := wk_leF c43
          replace hM := hM.neg (Int.not_le.mpr c43)
          refine lv_iload hx hb dX12_isWord_61 (lv_at hl 3 rfl) ?_
          refine lv_bipush (v := 8) hx hb dX12_isWord_63 (by decide) ?_
          refine lv_icmp_ge (tgt := 78) hx hb dX12_isWord_65 (by decide) (fun c44 => ?_) (fun c44 => ?_)
          · have c44 : (8 : Int) ≤ v10_5.toInt := wk_le.mp c44
            replace hM := hM.pos c44
            exact J78 v10_3 v10_5 f10_0_1 f10_0_14 H locs ls w10 (show 0 ≤ v10_5.toInt by omega) (show v10_5.toInt ≤ 400 by omega) (show 0 ≤ f10_0_1.toInt by omega) (show f10_0_1.toInt ≤ 400 by omega) (show 0 ≤ f10_0_14.toInt by omega) (show f10_0_14.toInt ≤ 400 by omega) (show (f10_0_14.toInt = f0_.toInt ∨ (gi w0 1 (f0_.toInt).toNat).toInt = 32) by first | omega | assumption | (left; omega) | (left; decide) | (right; assumption))  hw hT hF c15 c18 hM (lv_sub hl [0, 1, 2, 3] rfl)
          · have c44 : v10_5.toInt < (8 : Int) := wk_leF c44
            replace hM := hM.neg (Int.not_le.mpr c44)
            refine lv_lload_n hx hb dX12_isWord_68 rfl (lv_at hl 2 rfl) ?_
            refine lv_lload_n hx hb dX12_isWord_69 rfl (lv_at hl 1 rfl) ?_
            refine W.lcmp hx hb dX12_isWord_70 ?_
            refine lv_if_ne (tgt := 78) hx hb dX12_isWord_71 (by decide) (fun c45 => ?_) (fun c45 => ?_)
            · have c45 : ¬ v10_3.toInt = (1684108389 : Int) := wk_ceF c45
              replace hM := hM.pos c45
              exact J78 v10_3 v10_5 f10_0_1 f10_0_14 H locs ls w10 (show 0 ≤ v10_5.toInt by omega) (show v10_5.toInt ≤ 400 by omega) (show 0 ≤ f10_0_1.toInt by omega) (show f10_0_1.toInt ≤ 400 by omega) (show 0 ≤ f10_0_14.toInt by omega) (show f10_0_14.toInt ≤ 400 by omega) (show (f10_0_14.toInt = f0_.toInt ∨ (gi w0 1 (f0_.toInt).toNat).toInt = 32) by first | omega | assumption | (left; omega) | (left; decide) | (right; assumption))  hw hT hF c15 c18 hM (lv_sub hl [0, 1, 2, 3] rfl)
            · have c45 : v10_3.toInt = (1684108389 : Int) := wk_ceT c45
              replace hM := hM.neg (fun q => q c45)
              refine lv_iconst (v := 1) hx hb dX12_isWord_74 (by decide) ?_
              refine lv_goto (tgt := 79) hx hb dX12_isWord_75 (by decide) ?_
              exact tk_zret hC hr rfl hlocks hK ⟨hT, hF, hM.ret (by decide), (Or.inr ⟨rfl, ⟨f10_0_1, c15, (show 0 ≤ f10_0_1.toInt by omega), (show f10_0_1.toInt ≤ 400 by omega)⟩, (by simp only [cf0_, c18]; omega)⟩)⟩ hw dX12_isWord_79
      · replace hM := hM.call (r' := 1) hv42 (by decide)
        have ex39 : x39.toInt = f10_0_1.toInt := by rw [← c15.symm.trans c40]
        refine lv_if_eq (tgt := 56) hx hb dX12_isWord_21 (by decide) (fun c => absurd c (by decide)) (fun _ => ?_)
        replace hM := hM.neg (by decide)
        refine lv_iload hx hb dX12_isWord_24 (lv_at hl 3 rfl) ?_
        refine lv_bipush (v := 8) hx hb dX12_isWord_26 (by decide) ?_
        refine lv_icmp_ge (tgt := 50) hx hb dX12_isWord_28 (by decide) (fun c46 => ?_) (fun c46 => ?_)
        · have c46 : (8 : Int) ≤ v10_5.toInt := wk_le.mp c46
          replace hM := hM.pos c46
          exact J50 v10_3 H locs ls w10 (show 0 ≤ v10_5.toInt by omega) (show v10_5.toInt ≤ 399 by omega) (show 1 ≤ f10_0_1.toInt by omega) (show f10_0_1.toInt ≤ 400 by omega) (show 0 ≤ f10_0_14.toInt by omega) (show f10_0_14.toInt ≤ 399 by omega) (show (f10_0_14.toInt = f0_.toInt ∨ (gi w0 1 (f0_.toInt).toNat).toInt = 32) by first | omega | assumption | (left; omega) | (left; decide) | (right; assumption))  hw hT hF c15 c18 hM (lv_sub hl [0, 1, 2, 3] rfl)
        · have c46 : v10_5.toInt < (8 : Int) := wk_leF c46
          replace hM := hM.neg (Int.not_le.mpr c46)
          refine lv_lload_n hx hb dX12_isWord_31 rfl (lv_at hl 2 rfl) ?_
          refine lv_bipush (v := 8) hx hb dX12_isWord_32 (by decide) ?_
          refine lv_lshl hx hb dX12_isWord_34 rfl ?_
          refine lv_topl (fun x47 ex47 => ?_)
          replace hM := hM.lt (mShlL_e ex47 rfl (by decide))
          refine lv_aload_n hx hb dX12_isWord_35 rfl (lv_at hl 0 rfl) ?_
          refine tk_getA hC hK hw hT hinX12 kM_at0 (by decide) rfl 0 (by decide) (List.mem_of_getElem? (i := 2) rfl) rfl rfl dX12_isWord_36 ?_
          refine lv_aload_n hx hb dX12_isWord_39 rfl (lv_at hl 0 rfl) ?_
          refine tk_geti hC hK hw hT hinX12 kM_at0 (by decide) rfl 14 (by decide) (List.mem_of_getElem? (i := 1) rfl) rfl rfl dX12_isWord_40 (fun x48 c49 rx48 tx48 => ?_)
          refine wk_top f10_0_14 (c49.symm.trans c18) ?_
          replace hM := hM.rd (sI_at c18)
          refine lv_iload hx hb dX12_isWord_43 (lv_at hl 3 rfl) ?_
          refine lv_iadd hx hb dX12_isWord_45 ?_
          refine lv_topi (fun x50 ex50 => ?_)
          have ezx50 := ex50
          have ex50 : x50.toInt = f10_0_14.toInt + v10_5.toInt := by rw [ex50]; exact wk_add (show (-2147483648) ≤ f10_0_14.toInt + v10_5.toInt by omega) (show f10_0_14.toInt + v10_5.toInt ≤ 2147483647 by omega)
          replace hM := hM.lt ex50.symm
          refine tk_bald hC hK hw hT kM_at1 rfl rfl (show 0 ≤ x50.toInt by omega) (show x50.toInt < 400 by omega) dX12_isWord_46 (fun x51 c52 rx51 tx51 => ?_)
          have hox51 := c52
          replace hM := hM.rd (sI_at hox51)
          have c52 : gi w10 1 (1 * f10_0_14.toInt + 1 * v10_5.toInt + 0).toNat = x51 := (congrArg (gi w10 1) (congrArg Int.toNat (show 1 * f10_0_14.toInt + 1 * v10_5.toInt + 0 = x50.toInt by omega))).trans c52
          refine lv_i2l hx hb dX12_isWord_47 rfl ?_
          refine lv_topl (fun x53 ex53 => ?_)
          have ex53 : x53.toInt = x51.toInt := by rw [ex53]; exact wk_i2l _
          have bx53 := wk_i32 x51
          replace hM := hM.lt ex53.symm
          refine lv_lor hx hb dX12_isWord_48 ?_
          refine lv_topl (fun x54 ex54 => ?_)
          have ezx54 := ex54
          replace hM := hM.lt (o64_e (f := fun x y => x ||| y) ezx54 rfl rfl)
          refine lv_lstore_n (lv' := [(3, .long x54), (0, .ref (ad 0)), (1, .long 1684108389), (5, .int v10_5)]) hx hb dX12_isWord_49 rfl hl (by decide) rfl (fun ls hl => ?_)
          exact J50 x54 H locs ls w10 (show 0 ≤ v10_5.toInt by omega) (show v10_5.toInt ≤ 399 by omega) (show 1 ≤ f10_0_1.toInt by omega) (show f10_0_1.toInt ≤ 400 by omega) (show 0 ≤ f10_0_14.toInt by omega) (show f10_0_14.toInt ≤ 399 by omega) (show (f10_0_14.toInt = f0_.toInt ∨ (gi w0 1 (f0_.toInt).toNat).toInt = 32) by first | omega | assumption | (left; omega) | (left; decide) | (right; assumption) | (right; rw [c52]; omega) | (right; rw [c52]; decide))  hw hT hF c15 c18 hM (lv_sub hl [1, 2, 0, 3] rfl)
  have hM : TT (fun n => m_X12_isWord n 0 1684108389 (sI w0)) (fun n => m_X12_isWord n 0 1684108389 (sI w0)) := TT.rf
  refine lv_aload_n hx hb dX12_isWord_0 rfl (lv_at hl 0 rfl) ?_
  refine tk_Vi hC hK hw hT hA hE hSR kM_at0 (by decide) rfl (kz_X12_see_1 l adK adV dC dI cy ad B (by omega) (by omega) qr s1    w0 s.heap.size hT f0_ cf0_ (show 0 ≤ f0_.toInt by omega) (show f0_.toInt ≤ 400 by omega)) (cwV 0 hC.2.2.2.2 gX12_isWord_X12_see rfl rfl rfl (by decide +kernel) ⟨Nat.le_of_ble_eq_true rfl, Nat.le_of_ble_eq_true rfl⟩) rfl hl.1 rfl (Nat.le_of_ble_eq_true rfl) dX12_isWord_1 (fun r55 w57 H locs hp56 hw => ?_)
  obtain ⟨hT, k58, hv76, hg75⟩ := hp56
  have hF := hF.tr k58 (by decide)
  rcases hg75 with ⟨g59, g60, ⟨x61, c62, rx61, tx61⟩, ⟨x63, c64, rx63, tx63⟩, g65, g66⟩ | ⟨rfl, ⟨x67, c68, rx67, tx67⟩, ⟨x69, c70, rx69, tx69⟩, g71⟩ | ⟨rfl, ⟨x72, c73, rx72, tx72⟩, g74⟩
  · replace hM := hM.call hv76 rfl
    have g65 : (gi w57 1 (x63.toInt).toNat).toInt ≠ 32 := by have q := g65; simp only [c64] at q; omega
    have g66 : (x63.toInt = f0_.toInt ∨ (gi w0 1 (f0_.toInt).toNat).toInt = 32) := by have q := g66; simp only [cf0_, c64] at q; omega
    refine lv_pop hx hb dX12_isWord_4 rfl ?_
    refine lv_lconst (v := 0) hx hb dX12_isWord_5 (by decide) ?_
    refine lv_lstore_n (lv' := [(3, .long 0), (0, .ref (ad 0)), (1, .long 1684108389)]) hx hb dX12_isWord_6 rfl hl (by decide) rfl (fun ls hl => ?_)
    refine lv_iconst (v := 0) hx hb dX12_isWord_7 (by decide) ?_
    refine lv_istore (lv' := [(5, .int 0), (3, .long 0), (0, .ref (ad 0)), (1, .long 1684108389)]) hx hb dX12_isWord_8 hl (by decide) rfl (fun ls hl => ?_)
    exact L10 ((400 - (0 : Int)).toNat + 1) 0 0 x61 x63 H locs ls w57 (by decide) (by decide) (show 0 ≤ x61.toInt by omega) (show x61.toInt ≤ 400 by omega) (show 0 ≤ x63.toInt by omega) (show x63.toInt ≤ 400 by omega) (show (x63.toInt = f0_.toInt ∨ (gi w0 1 (f0_.toInt).toNat).toInt = 32) by first | omega | assumption | (left; omega) | (left; decide) | (right; assumption)) (Nat.lt_succ_self _) hw hT hF c62 c64 hM (lv_sub hl [2, 3, 1, 0] rfl)
  · replace hM := hM.call (r' := (-1)) hv76 (by decide)
    have g71 : (x69.toInt = f0_.toInt ∨ (gi w0 1 (f0_.toInt).toNat).toInt = 32) := by have q := g71; simp only [cf0_, c70] at q; omega
    refine lv_pop hx hb dX12_isWord_4 rfl ?_
    refine lv_lconst (v := 0) hx hb dX12_isWord_5 (by decide) ?_
    refine lv_lstore_n (lv' := [(3, .long 0), (0, .ref (ad 0)), (1, .long 1684108389)]) hx hb dX12_isWord_6 rfl hl (by decide) rfl (fun ls hl => ?_)
    refine lv_iconst (v := 0) hx hb dX12_isWord_7 (by decide) ?_
    refine lv_istore (lv' := [(5, .int 0), (3, .long 0), (0, .ref (ad 0)), (1, .long 1684108389)]) hx hb dX12_isWord_8 hl (by decide) rfl (fun ls hl => ?_)
    exact L10 ((400 - (0 : Int)).toNat + 1) 0 0 x67 x69 H locs ls w57 (by decide) (by decide) (show 0 ≤ x67.toInt by omega) (show x67.toInt ≤ 400 by omega) (show 0 ≤ x69.toInt by omega) (show x69.toInt ≤ 400 by omega) (show (x69.toInt = f0_.toInt ∨ (gi w0 1 (f0_.toInt).toNat).toInt = 32) by first | omega | assumption | (left; omega) | (left; decide) | (right; assumption)) (Nat.lt_succ_self _) hw hT hF c68 c70 hM (lv_sub hl [2, 3, 1, 0] rfl)
  · replace hM := hM.call (r' := (-1)) hv76 (by decide)
    obtain ⟨x77, c78, rx77, tx77⟩ := hT.rdi (lo := 0) (hi := 400) (k := 14) kM_at0 (by decide) rfl
    have g74 : (x77.toInt = f0_.toInt ∨ (gi w0 1 (f0_.toInt).toNat).toInt = 32) := by have q := g74; simp only [cf0_, c78] at q; omega
    refine lv_pop hx hb dX12_isWord_4 rfl ?_
    refine lv_lconst (v := 0) hx hb dX12_isWord_5 (by decide) ?_
    refine lv_lstore_n (lv' := [(3, .long 0), (0, .ref (ad 0)), (1, .long 1684108389)]) hx hb dX12_isWord_6 rfl hl (by decide) rfl (fun ls hl => ?_)
    refine lv_iconst (v := 0) hx hb dX12_isWord_7 (by decide) ?_
    refine lv_istore (lv' := [(5, .int 0), (3, .long 0), (0, .ref (ad 0)), (1, .long 1684108389)]) hx hb dX12_isWord_8 hl (by decide) rfl (fun ls hl => ?_)
    exact L10 ((400 - (0 : Int)).toNat + 1) 0 0 x72 x77 H locs ls w57 (by decide) (by decide) (show 0 ≤ x72.toInt by omega) (show x72.toInt ≤ 400 by omega) (show 0 ≤ x77.toInt by omega) (show x77.toInt ≤ 400 by omega) (show (x77.toInt = f0_.toInt ∨ (gi w0 1 (f0_.toInt).toNat).toInt = 32) by first | omega | assumption | (left; omega) | (left; decide) | (right; assumption)) (Nat.lt_succ_self _) hw hT hF c73 c78 hM (lv_sub hl [2, 3, 1, 0] rfl)
abbrev Pz_X12_isWord_14 (ad : Nat → Nat) (cy : Nat → ClassId) (B : Int) (qr : Nat) (s1 : Int)  (w0 : va_W) : Int32 → va_W → Prop := fun r u => TW ksM ad cy B qr 12 u ∧ FE ksM [(12, 14, 14)] w0 u ∧ Ev (fun n => m_X12_isWord n 0 109330312357234 (sI w0)) (r.toInt, sI u) ∧ ((r = 0 ∧ (∃ y : Int32, gi u 0 1 = y ∧ 0 ≤ y.toInt ∧ y.toInt ≤ 400) ∧ (((gi u 0 14).toInt = (gi w0 0 14).toInt ∨ (gi w0 1 ((gi w0 0 14).toInt).toNat).toInt = 32))) ∨ (r = 1 ∧ (∃ y : Int32, gi u 0 1 = y ∧ 0 ≤ y.toInt ∧ y.toInt ≤ 400) ∧ (((gi u 0 14).toInt = (gi w0 0 14).toInt ∨ (gi w0 1 ((gi w0 0 14).toInt).toNat).toInt = 32))))
set_option maxHeartbeats 4000000 in
set_option maxRecDepth 100000 in
theorem kz_X12_isWord_14 (l : Launch) (adK adV : Nat → Nat) (dC : Nat → ClassId) (dI : Nat → Nat → Nat) (cy : Nat → ClassId) (ad : Nat → Nat) (B : Int) (hB0 : 100000 ≤ B) (hB1 : B ≤ 1073741824) (qr : Nat) (s1 : Int)   (w0 : va_W) (sz : Nat) (hT : TW ksM ad cy B qr 12 w0) (f0_ : Int32) (cf0_ : gi w0 0 14 = f0_) (rf0_ : 0 ≤ f0_.toInt) (tf0_ : f0_.toInt ≤ 400) : Met l yX12_isWord wsX12_isWord ({ frames := 2, cells := 0, slots := 0, locals := 33 }) (va_Pc [.ref (ad 0), .long 109330312357234] (wpreS adK adV dC dI cy sz w0)) (va_Qi (Pz_X12_isWord_14 ad cy B qr s1  w0) (fun u : va_W => wpost dC dI cy (va_A w0 sz) u) (va_A w0 sz)) 0 0 (va_A w0 sz) := by
  refine Met.ofW (cc := cX12_isWord) (maxL := 6) (ret := (some .boolean)) (by decide) rfl ?_
  intro p e s m args below meth c s₁ Bk hml hv
  obtain ⟨rfl, ⟨hsz, hP, hK, hD0⟩, hE, hSR⟩ := hv
  have hx := Bk.exec
  have hb := Bk.bytes
  have hr := Bk.returns
  have hlocks := Bk.notSynchronized
  have hC : CallFix p m c cX12_isWord 6 s _ wsX12_isWord RX12 := ⟨hx, hb, hml, findClass_of_methodNamed Bk.named, atoms_spec (ws := wsX12_isWord) Bk.pre⟩
  subst hsz
  have hD := hD0.self (sz := s.heap.size)
  generalize hAe : va_A w0 s.heap.size = A at hD hE ⊢
  have hA : ∀ q : Nat, s.heap.size ≤ q → A q := fun q h => by rw [← hAe]; exact Or.inr h
  have hw : Wd dC dI A s.heap s.heap [] w0 := ⟨hP, hD, va_S.rf⟩
  have hF : FE ksM [(12, 14, 14)] w0 w0 := FE.rf
  have hl := lv_entry ([.ref (ad 0), .long 109330312357234]) (n := 6) (Nat.le_of_ble_eq_true rfl)
  rw [lg_entry_eq]
  generalize (lg_sl ([.ref (ad 0), .long 109330312357234]) ++ List.replicate (6 - (lg_sl ([.ref (ad 0), .long 109330312357234])).length) Slot.unset).toArray = ls at hl ⊢
  have hl : lv_has ls 6 [(0, .ref (ad 0)), (1, .long 109330312357234)] := hl
  generalize hloc : ([] : List Loc) = locs at hw ⊢
  have hinX12 : ∀ w ∈ u_ws RX12 TX12 42, w ∈ wsX12_isWord := fun _ h => List.mem_cons_of_mem _ (List.mem_append_right _ (h))
  have J78 : ∀ (v78_3 : Int64) (v78_5 : Int32) (f78_0_1 : Int32) (f78_0_14 : Int32) (H : Heap) (locs : List Loc) (ls : Array Slot) (w1 : va_W), 0 ≤ v78_5.toInt → v78_5.toInt ≤ 400 → 0 ≤ f78_0_1.toInt → f78_0_1.toInt ≤ 400 → 0 ≤ f78_0_14.toInt → f78_0_14.toInt ≤ 400 → ((f78_0_14.toInt = f0_.toInt ∨ (gi w0 1 (f0_.toInt).toNat).toInt = 32)) → Wd dC dI A s.heap H locs w1 → TW ksM ad cy B qr 12 w1 → FE ksM [(12, 14, 14)] w0 w1 → gi w1 0 1 = f78_0_1 → gi w1 0 14 = f78_0_14 → TT (fun n => m_X12_isWord n 0 109330312357234 (sI w0)) (fun n => b_X12_isWord_78 (j_X12_isWord 0 n) n 0 (sI w1)) → lv_has ls 6 [(0, .ref (ad 0)), (1, .long 109330312357234), (3, .long v78_3), (5, .int v78_5)] → W p l e ({ frames := 2, cells := 0, slots := 0, locals := 33 }) s m (List.toArray [.ref (ad 0), .long 109330312357234]) below meth c H locs 0 0 (MQ below (va_Qi (Pz_X12_isWord_14 ad cy B qr s1  w0) (fun u : va_W => wpost dC dI cy A u) A) (List.toArray [.ref (ad 0), .long 109330312357234]) s 0 0 A) (F0 m 78 ls []) := by
    intro v78_3 v78_5 f78_0_1 f78_0_14 H locs ls w1 r2 t3 r4 t5 r7 t8 hcr78_0 hw hT hF c6 c9 hM hl
    refine lv_iconst (v := 0) hx hb dX12_isWord_78 (by decide) ?_
    exact tk_zret hC hr rfl hlocks hK ⟨hT, hF, hM.ret (by decide), (Or.inl ⟨rfl, ⟨f78_0_1, c6, (show 0 ≤ f78_0_1.toInt by omega), (show f78_0_1.toInt ≤ 400 by omega)⟩, (by simp only [cf0_, c9]; omega)⟩)⟩ hw dX12_isWord_79
  have L10 : ∀ (n10 : Nat) (v10_3 : Int64) (v10_5 : Int32) (f10_0_1 : Int32) (f10_0_14 : Int32) (H : Heap) (locs : List Loc) (ls : Array Slot) (w10 : va_W), 0 ≤ v10_5.toInt → v10_5.toInt ≤ 400 → 0 ≤ f10_0_1.toInt → f10_0_1.toInt ≤ 400 → 0 ≤ f10_0_14.toInt → f10_0_14.toInt ≤ 400 → ((f10_0_14.toInt = f0_.toInt ∨ (gi w0 1 (f0_.toInt).toNat).toInt = 32)) → (400 - v10_5.toInt).toNat < n10 → Wd dC dI A s.heap H locs w10 → TW ksM ad cy B qr 12 w10 → FE ksM [(12, 14, 14)] w0 w10 → gi w10 0 1 = f10_0_1 → gi w10 0 14 = f10_0_14 → TT (fun n => m_X12_isWord n 0 109330312357234 (sI w0)) (fun n => j_X12_isWord 0 n 10 [(109330312357234 : Int), v10_3.toInt, v10_5.toInt] (sI w10)) → lv_has ls 6 [(0, .ref (ad 0)), (1, .long 109330312357234), (3, .long v10_3), (5, .int v10_5)] → W p l e ({ frames := 2, cells := 0, slots := 0, locals := 33 }) s m (List.toArray [.ref (ad 0), .long 109330312357234]) below meth c H locs 0 0 (MQ below (va_Qi (Pz_X12_isWord_14 ad cy B qr s1  w0) (fun u : va_W => wpost dC dI cy A u) A) (List.toArray [.ref (ad 0), .long 109330312357234]) s 0 0 A) (F0 m 10 ls []) := by
    intro n10
    induction n10 with
    | zero => intro v10_3 v10_5 f10_0_1 f10_0_14 H locs ls w10 r11 t12 r13 t14 r16 t17 hcr10_0 hm10 hw hT hF c15 c18 hM hl; omega
    | succ n10 ih10 =>
      intro v10_3 v10_5 f10_0_1 f10_0_14 H locs ls w10 r11 t12 r13 t14 r16 t17 hcr10_0 hm10 hw hT hF c15 c18 hM hl
      have J50 : ∀ (v50_3 : Int64) (H : Heap) (locs : List Loc) (ls : Array Slot) (w19 : va_W), 0 ≤ v10_5.toInt → v10_5.toInt ≤ 399 → 1 ≤ f10_0_1.toInt → f10_0_1.toInt ≤ 400 → 0 ≤ f10_0_14.toInt → f10_0_14.toInt ≤ 399 → ((f10_0_14.toInt = f0_.toInt ∨ (gi w0 1 (f0_.toInt).toNat).toInt = 32)) → Wd dC dI A s.heap H locs w19 → TW ksM ad cy B qr 12 w19 → FE ksM [(12, 14, 14)] w0 w19 → gi w19 0 1 = f10_0_1 → gi w19 0 14 = f10_0_14 → TT (fun n => m_X12_isWord n 0 109330312357234 (sI w0)) (fun n => b_X12_isWord_50 (j_X12_isWord 0 n) n 0 (109330312357234 : Int) (v50_3.toInt) (v10_5.toInt) (sI w19)) → lv_has ls 6 [(0, .ref (ad 0)), (1, .long 109330312357234), (3, .long v50_3), (5, .int v10_5)] → W p l e ({ frames := 2, cells := 0, slots := 0, locals := 33 }) s m (List.toArray [.ref (ad 0), .long 109330312357234]) below meth c H locs 0 0 (MQ below (va_Qi (Pz_X12_isWord_14 ad cy B qr s1  w0) (fun u : va_W => wpost dC dI cy A u) A) (List.toArray [.ref (ad 0), .long 109330312357234]) s 0 0 A) (F0 m 50 ls []) := by
        intro v50_3 H locs ls w19 r20 t21 r22 t23 r25 t26 hcr50_0 hw hT hF c24 c27 hM hl
        obtain ⟨x28, ex28⟩ : ∃ y : Int32, y = v10_5 + Int32.ofInt 1 := ⟨_, rfl⟩
        have erx28 := ex28
        refine lv_iinc (v := x28) (lv' := [(5, .int x28), (0, .ref (ad 0)), (1, .long 109330312357234), (3, .long v50_3)]) hx hb dX12_isWord_50 hl (k := 3) rfl ex28.symm (by decide) rfl (fun ls hl => ?_)
        have ex28 : x28.toInt = v10_5.toInt + 1 := by rw [ex28]; exact wk_add (y := 1) (show -2147483648 ≤ v10_5.toInt + 1 by omega) (show v10_5.toInt + 1 ≤ 2147483647 by omega)
        replace hM := hM.lt ex28.symm
        refine lv_goto (tgt := 10) hx hb dX12_isWord_53 (by decide) ?_
        exact ih10 v50_3 x28 f10_0_1 f10_0_14 H locs ls w19 (show 0 ≤ x28.toInt by omega) (show x28.toInt ≤ 400 by omega) (show 0 ≤ f10_0_1.toInt by omega) (show f10_0_1.toInt ≤ 400 by omega) (show 0 ≤ f10_0_14.toInt by omega) (show f10_0_14.toInt ≤ 400 by omega) (show (f10_0_14.toInt = f0_.toInt ∨ (gi w0 1 (f0_.toInt).toNat).toInt = 32) by first | omega | assumption | (left; omega) | (left; decide) | (right; assumption)) (show (400 - x28.toInt).toNat < n10 by omega) hw hT hF c24 c27 hM (lv_sub hl [1, 2, 3, 0] rfl)
      replace hM := hM.suc (fun _ => e_X12_isWord_10)
      refine lv_aload_n hx hb dX12_isWord_10 rfl (lv_at hl 0 rfl) ?_
      refine lv_aload_n hx hb dX12_isWord_11 rfl (lv_at hl 0 rfl) ?_
      refine tk_geti hC hK hw hT hinX12 kM_at0 (by decide) rfl 14 (by decide) (List.mem_of_getElem? (i := 1) rfl) rfl rfl dX12_isWord_12 (fun x29 c30 rx29 tx29 => ?_)
      refine wk_top f10_0_14 (c30.symm.trans c18) ?_
      replace hM := hM.rd (sI_at c18)
      refine lv_iload hx hb dX12_isWord_15 (lv_at hl 3 rfl) ?_
      refine lv_iadd hx hb dX12_isWord_17 ?_
      refine lv_topi (fun x31 ex31 => ?_)
      have ezx31 := ex31
      have ex31 : x31.toInt = f10_0_14.toInt + v10_5.toInt := by rw [ex31]; exact wk_add (show (-2147483648) ≤ f10_0_14.toInt + v10_5.toInt by omega) (show f10_0_14.toInt + v10_5.toInt ≤ 2147483647 by omega)
      replace hM := hM.lt ex31.symm
      refine tk_Vi hC hK hw hT hA hE hSR kM_at0 (by decide) rfl (kz_X12_isLetter_1 l adK adV dC dI cy ad B (by omega) (by omega) qr s1   x31 (show 0 ≤ x31.toInt by omega) (show x31.toInt ≤ 800 by omega) w10 H.size hT ) (cwV 1 hC.2.2.2.2 gX12_isWord_X12_isLetter rfl rfl rfl (by decide +kernel) ⟨Nat.le_of_ble_eq_true rfl, Nat.le_of_ble_eq_true rfl⟩) rfl hl.1 rfl (Nat.le_of_ble_eq_true rfl) dX12_isWord_18 (fun r32 w34 H locs hp33 hw => ?_)
      obtain ⟨rfl, hv42, hg41⟩ := hp33
      rcases hg41 with ⟨rfl, ⟨x36, c37, rx36, tx36⟩⟩ | ⟨rfl, g38, ⟨x39, c40, rx39, tx39⟩⟩
      · replace hM := hM.call (r' := 0) hv42 (by decide)
        have ex36 : x36.toInt = f10_0_1.toInt := by rw [← c15.symm.trans c37]
        refine lv_if_eq (tgt := 56) hx hb dX12_isWord_21 (by decide) (fun _ => ?_) (fun c => absurd (by decide) c)
        replace hM := hM.pos (by decide)
        refine lv_iload hx hb dX12_isWord_56 (lv_at hl 3 rfl) ?_
        refine lv_if_le (tgt := 78) hx hb dX12_isWord_58 (by decide) (fun c43 => ?_) (fun c43 => ?_)
        · have c43 : v10_5.toInt ≤ (0 : Int) := wk_le.mp c43
          replace hM := hM.pos c43
          exact J78 v10_3 v10_5 f10_0_1 f10_0_14 H locs ls w10 (show 0 ≤ v10_5.toInt by omega) (show v10_5.toInt ≤ 400 by omega) (show 0 ≤ f10_0_1.toInt by omega) (show f10_0_1.toInt ≤ 400 by omega) (show 0 ≤ f10_0_14.toInt by omega) (show f10_0_14.toInt ≤ 400 by omega) (show (f10_0_14.toInt = f0_.toInt ∨ (gi w0 1 (f0_.toInt).toNat).toInt = 32) by first | omega | assumption | (left; omega) | (left; decide) | (right; assumption))  hw hT hF c15 c18 hM (lv_sub hl [0, 1, 2, 3] rfl)
        · have c43 : (0 : Int) < v10_5.toInt := wk_leF c43
          replace hM := hM.neg (Int.not_le.mpr c43)
          refine lv_iload hx hb dX12_isWord_61 (lv_at hl 3 rfl) ?_
          refine lv_bipush (v := 8) hx hb dX12_isWord_63 (by decide) ?_
          refine lv_icmp_ge (tgt := 78) hx hb dX12_isWord_65 (by decide) (fun c44 => ?_) (fun c44 => ?_)
          · have c44 : (8 : Int) ≤ v10_5.toInt := wk_le.mp c44
            replace hM := hM.pos c44
            exact J78 v10_3 v10_5 f10_0_1 f10_0_14 H locs ls w10 (show 0 ≤ v10_5.toInt by omega) (show v10_5.toInt ≤ 400 by omega) (show 0 ≤ f10_0_1.toInt by omega) (show f10_0_1.toInt ≤ 400 by omega) (show 0 ≤ f10_0_14.toInt by omega) (show f10_0_14.toInt ≤ 400 by omega) (show (f10_0_14.toInt = f0_.toInt ∨ (gi w0 1 (f0_.toInt).toNat).toInt = 32) by first | omega | assumption | (left; omega) | (left; decide) | (right; assumption))  hw hT hF c15 c18 hM (lv_sub hl [0, 1, 2, 3] rfl)
          · have c44 : v10_5.toInt < (8 : Int) := wk_leF c44
            replace hM := hM.neg (Int.not_le.mpr c44)
            refine lv_lload_n hx hb dX12_isWord_68 rfl (lv_at hl 2 rfl) ?_
            refine lv_lload_n hx hb dX12_isWord_69 rfl (lv_at hl 1 rfl) ?_
            refine W.lcmp hx hb dX12_isWord_70 ?_
            refine lv_if_ne (tgt := 78) hx hb dX12_isWord_71 (by decide) (fun c45 => ?_) (fun c45 => ?_)
            · have c45 : ¬ v10_3.toInt = (109330312357234 : Int) := wk_ceF c45
              replace hM := hM.pos c45
              exact J78 v10_3 v10_5 f10_0_1 f10_0_14 H locs ls w10 (show 0 ≤ v10_5.toInt by omega) (show v10_5.toInt ≤ 400 by omega) (show 0 ≤ f10_0_1.toInt by omega) (show f10_0_1.toInt ≤ 400 by omega) (show 0 ≤ f10_0_14.toInt by omega) (show f10_0_14.toInt ≤ 400 by omega) (show (f10_0_14.toInt = f0_.toInt ∨ (gi w0 1 (f0_.toInt).toNat).toInt = 32) by first | omega | assumption | (left; omega) | (left; decide) | (right; assumption))  hw hT hF c15 c18 hM (lv_sub hl [0, 1, 2, 3] rfl)
            · have c45 : v10_3.toInt = (109330312357234 : Int) := wk_ceT c45
              replace hM := hM.neg (fun q => q c45)
              refine lv_iconst (v := 1) hx hb dX12_isWord_74 (by decide) ?_
              refine lv_goto (tgt := 79) hx hb dX12_isWord_75 (by decide) ?_
              exact tk_zret hC hr rfl hlocks hK ⟨hT, hF, hM.ret (by decide), (Or.inr ⟨rfl, ⟨f10_0_1, c15, (show 0 ≤ f10_0_1.toInt by omega), (show f10_0_1.toInt ≤ 400 by omega)⟩, (by simp only [cf0_, c18]; omega)⟩)⟩ hw dX12_isWord_79
      · replace hM := hM.call (r' := 1) hv42 (by decide)
        have ex39 : x39.toInt = f10_0_1.toInt := by rw [← c15.symm.trans c40]
        refine lv_if_eq (tgt := 56) hx hb dX12_isWord_21 (by decide) (fun c => absurd c (by decide)) (fun _ => ?_)
        replace hM := hM.neg (by decide)
        refine lv_iload hx hb dX12_isWord_24 (lv_at hl 3 rfl) ?_
        refine lv_bipush (v := 8) hx hb dX12_isWord_26 (by decide) ?_
        refine lv_icmp_ge (tgt := 50) hx hb dX12_isWord_28 (by decide) (fun c46 => ?_) (fun c46 => ?_)
        · have c46 : (8 : Int) ≤ v10_5.toInt := wk_le.mp c46
          replace hM := hM.pos c46
          exact J50 v10_3 H locs ls w10 (show 0 ≤ v10_5.toInt by omega) (show v10_5.toInt ≤ 399 by omega) (show 1 ≤ f10_0_1.toInt by omega) (show f10_0_1.toInt ≤ 400 by omega) (show 0 ≤ f10_0_14.toInt by omega) (show f10_0_14.toInt ≤ 399 by omega) (show (f10_0_14.toInt = f0_.toInt ∨ (gi w0 1 (f0_.toInt).toNat).toInt = 32) by first | omega | assumption | (left; omega) | (left; decide) | (right; assumption))  hw hT hF c15 c18 hM (lv_sub hl [0, 1, 2, 3] rfl)
        · have c46 : v10_5.toInt < (8 : Int) := wk_leF c46
          replace hM := hM.neg (Int.not_le.mpr c46)
          refine lv_lload_n hx hb dX12_isWord_31 rfl (lv_at hl 2 rfl) ?_
          refine lv_bipush (v := 8) hx hb dX12_isWord_32 (by decide) ?_
          refine lv_lshl hx hb dX12_isWord_34 rfl ?_
          refine lv_topl (fun x47 ex47 => ?_)
          replace hM := hM.lt (mShlL_e ex47 rfl (by decide))
          refine lv_aload_n hx hb dX12_isWord_35 rfl (lv_at hl 0 rfl) ?_
          refine tk_getA hC hK hw hT hinX12 kM_at0 (by decide) rfl 0 (by decide) (List.mem_of_getElem? (i := 2) rfl) rfl rfl dX12_isWord_36 ?_
          refine lv_aload_n hx hb dX12_isWord_39 rfl (lv_at hl 0 rfl) ?_
          refine tk_geti hC hK hw hT hinX12 kM_at0 (by decide) rfl 14 (by decide) (List.mem_of_getElem? (i := 1) rfl) rfl rfl dX12_isWord_40 (fun x48 c49 rx48 tx48 => ?_)
          refine wk_top f10_0_14 (c49.symm.trans c18) ?_
          replace hM := hM.rd (sI_at c18)
          refine lv_iload hx hb dX12_isWord_43 (lv_at hl 3 rfl) ?_
          refine lv_iadd hx hb dX12_isWord_45 ?_
          refine lv_topi (fun x50 ex50 => ?_)
          have ezx50 := ex50
          have ex50 : x50.toInt = f10_0_14.toInt + v10_5.toInt := by rw [ex50]; exact wk_add (show (-2147483648) ≤ f10_0_14.toInt + v10_5.toInt by omega) (show f10_0_14.toInt + v10_5.toInt ≤ 2147483647 by omega)
          replace hM := hM.lt ex50.symm
          refine tk_bald hC hK hw hT kM_at1 rfl rfl (show 0 ≤ x50.toInt by omega) (show x50.toInt < 400 by omega) dX12_isWord_46 (fun x51 c52 rx51 tx51 => ?_)
          have hox51 := c52
          replace hM := hM.rd (sI_at hox51)
          have c52 : gi w10 1 (1 * f10_0_14.toInt + 1 * v10_5.toInt + 0).toNat = x51 := (congrArg (gi w10 1) (congrArg Int.toNat (show 1 * f10_0_14.toInt + 1 * v10_5.toInt + 0 = x50.toInt by omega))).trans c52
          refine lv_i2l hx hb dX12_isWord_47 rfl ?_
          refine lv_topl (fun x53 ex53 => ?_)
          have ex53 : x53.toInt = x51.toInt := by rw [ex53]; exact wk_i2l _
          have bx53 := wk_i32 x51
          replace hM := hM.lt ex53.symm
          refine lv_lor hx hb dX12_isWord_48 ?_
          refine lv_topl (fun x54 ex54 => ?_)
          have ezx54 := ex54
          replace hM := hM.lt (o64_e (f := fun x y => x ||| y) ezx54 rfl rfl)
          refine lv_lstore_n (lv' := [(3, .long x54), (0, .ref (ad 0)), (1, .long 109330312357234), (5, .int v10_5)]) hx hb dX12_isWord_49 rfl hl (by decide) rfl (fun ls hl => ?_)
          exact J50 x54 H locs ls w10 (show 0 ≤ v10_5.toInt by omega) (show v10_5.toInt ≤ 399 by omega) (show 1 ≤ f10_0_1.toInt by omega) (show f10_0_1.toInt ≤ 400 by omega) (show 0 ≤ f10_0_14.toInt by omega) (show f10_0_14.toInt ≤ 399 by omega) (show (f10_0_14.toInt = f0_.toInt ∨ (gi w0 1 (f0_.toInt).toNat).toInt = 32) by first | omega | assumption | (left; omega) | (left; decide) | (right; assumption) | (right; rw [c52]; omega) | (right; rw [c52]; decide))  hw hT hF c15 c18 hM (lv_sub hl [1, 2, 0, 3] rfl)
  have hM : TT (fun n => m_X12_isWord n 0 109330312357234 (sI w0)) (fun n => m_X12_isWord n 0 109330312357234 (sI w0)) := TT.rf
  refine lv_aload_n hx hb dX12_isWord_0 rfl (lv_at hl 0 rfl) ?_
  refine tk_Vi hC hK hw hT hA hE hSR kM_at0 (by decide) rfl (kz_X12_see_1 l adK adV dC dI cy ad B (by omega) (by omega) qr s1    w0 s.heap.size hT f0_ cf0_ (show 0 ≤ f0_.toInt by omega) (show f0_.toInt ≤ 400 by omega)) (cwV 0 hC.2.2.2.2 gX12_isWord_X12_see rfl rfl rfl (by decide +kernel) ⟨Nat.le_of_ble_eq_true rfl, Nat.le_of_ble_eq_true rfl⟩) rfl hl.1 rfl (Nat.le_of_ble_eq_true rfl) dX12_isWord_1 (fun r55 w57 H locs hp56 hw => ?_)
  obtain ⟨hT, k58, hv76, hg75⟩ := hp56
  have hF := hF.tr k58 (by decide)
  rcases hg75 with ⟨g59, g60, ⟨x61, c62, rx61, tx61⟩, ⟨x63, c64, rx63, tx63⟩, g65, g66⟩ | ⟨rfl, ⟨x67, c68, rx67, tx67⟩, ⟨x69, c70, rx69, tx69⟩, g71⟩ | ⟨rfl, ⟨x72, c73, rx72, tx72⟩, g74⟩
  · replace hM := hM.call hv76 rfl
    have g65 : (gi w57 1 (x63.toInt).toNat).toInt ≠ 32 := by have q := g65; simp only [c64] at q; omega
    have g66 : (x63.toInt = f0_.toInt ∨ (gi w0 1 (f0_.toInt).toNat).toInt = 32) := by have q := g66; simp only [cf0_, c64] at q; omega
    refine lv_pop hx hb dX12_isWord_4 rfl ?_
    refine lv_lconst (v := 0) hx hb dX12_isWord_5 (by decide) ?_
    refine lv_lstore_n (lv' := [(3, .long 0), (0, .ref (ad 0)), (1, .long 109330312357234)]) hx hb dX12_isWord_6 rfl hl (by decide) rfl (fun ls hl => ?_)
    refine lv_iconst (v := 0) hx hb dX12_isWord_7 (by decide) ?_
    refine lv_istore (lv' := [(5, .int 0), (3, .long 0), (0, .ref (ad 0)), (1, .long 109330312357234)]) hx hb dX12_isWord_8 hl (by decide) rfl (fun ls hl => ?_)
    exact L10 ((400 - (0 : Int)).toNat + 1) 0 0 x61 x63 H locs ls w57 (by decide) (by decide) (show 0 ≤ x61.toInt by omega) (show x61.toInt ≤ 400 by omega) (show 0 ≤ x63.toInt by omega) (show x63.toInt ≤ 400 by omega) (show (x63.toInt = f0_.toInt ∨ (gi w0 1 (f0_.toInt).toNat).toInt = 32) by first | omega | assumption | (left; omega) | (left; decide) | (right; assumption)) (Nat.lt_succ_self _) hw hT hF c62 c64 hM (lv_sub hl [2, 3, 1, 0] rfl)
  · replace hM := hM.call (r' := (-1)) hv76 (by decide)
    have g71 : (x69.toInt = f0_.toInt ∨ (gi w0 1 (f0_.toInt).toNat).toInt = 32) := by have q := g71; simp only [cf0_, c70] at q; omega
    refine lv_pop hx hb dX12_isWord_4 rfl ?_
    refine lv_lconst (v := 0) hx hb dX12_isWord_5 (by decide) ?_
    refine lv_lstore_n (lv' := [(3, .long 0), (0, .ref (ad 0)), (1, .long 109330312357234)]) hx hb dX12_isWord_6 rfl hl (by decide) rfl (fun ls hl => ?_)
    refine lv_iconst (v := 0) hx hb dX12_isWord_7 (by decide) ?_
    refine lv_istore (lv' := [(5, .int 0), (3, .long 0), (0, .ref (ad 0)), (1, .long 109330312357234)]) hx hb dX12_isWord_8 hl (by decide) rfl (fun ls hl => ?_)
    exact L10 ((400 - (0 : Int)).toNat + 1) 0 0 x67 x69 H locs ls w57 (by decide) (by decide) (show 0 ≤ x67.toInt by omega) (show x67.toInt ≤ 400 by omega) (show 0 ≤ x69.toInt by omega) (show x69.toInt ≤ 400 by omega) (show (x69.toInt = f0_.toInt ∨ (gi w0 1 (f0_.toInt).toNat).toInt = 32) by first | omega | assumption | (left; omega) | (left; decide) | (right; assumption)) (Nat.lt_succ_self _) hw hT hF c68 c70 hM (lv_sub hl [2, 3, 1, 0] rfl)
  · replace hM := hM.call (r' := (-1)) hv76 (by decide)
    obtain ⟨x77, c78, rx77, tx77⟩ := hT.rdi (lo := 0) (hi := 400) (k := 14) kM_at0 (by decide) rfl
    have g74 : (x77.toInt = f0_.toInt ∨ (gi w0 1 (f0_.toInt).toNat).toInt = 32) := by have q := g74; simp only [cf0_, c78] at q; omega
    refine lv_pop hx hb dX12_isWord_4 rfl ?_
    refine lv_lconst (v := 0) hx hb dX12_isWord_5 (by decide) ?_
    refine lv_lstore_n (lv' := [(3, .long 0), (0, .ref (ad 0)), (1, .long 109330312357234)]) hx hb dX12_isWord_6 rfl hl (by decide) rfl (fun ls hl => ?_)
    refine lv_iconst (v := 0) hx hb dX12_isWord_7 (by decide) ?_
    refine lv_istore (lv' := [(5, .int 0), (3, .long 0), (0, .ref (ad 0)), (1, .long 109330312357234)]) hx hb dX12_isWord_8 hl (by decide) rfl (fun ls hl => ?_)
    exact L10 ((400 - (0 : Int)).toNat + 1) 0 0 x72 x77 H locs ls w57 (by decide) (by decide) (show 0 ≤ x72.toInt by omega) (show x72.toInt ≤ 400 by omega) (show 0 ≤ x77.toInt by omega) (show x77.toInt ≤ 400 by omega) (show (x77.toInt = f0_.toInt ∨ (gi w0 1 (f0_.toInt).toNat).toInt = 32) by first | omega | assumption | (left; omega) | (left; decide) | (right; assumption)) (Nat.lt_succ_self _) hw hT hF c73 c78 hM (lv_sub hl [2, 3, 1, 0] rfl)
