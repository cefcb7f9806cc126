abbrev P_X12_readsAll_2 (ad : Nat → Nat) (cy : Nat → ClassId) (B : Int) (qr : Nat) (s1 : Int)  (w0 : va_W) : Int32 → va_W → Prop := fun r u => TW ksM ad cy B qr 12 u ∧ FE ksM [(12, 1, 1), (12, 14, 14), (12, 15, 15), (12, 16, 16), (12, 18, 18), (12, 19, 19), (12, 20, 20), (12, 22, 22), (61, 0, 2400), (62, 0, 7), (63, 0, 216), (64, 0, 6), (68, 0, 400)] w0 u ∧ ((r = 0 ∧ (∃ y : Int32, gi u 0 1 = y ∧ 0 ≤ y.toInt ∧ y.toInt ≤ 0) ∧ (∃ y : Int32, gi u 0 15 = y ∧ 1 ≤ y.toInt ∧ y.toInt ≤ 3205) ∧ (∃ y : Int32, gi u 0 17 = y ∧ 0 ≤ y.toInt ∧ y.toInt ≤ 5) ∧ (∃ y : Int32, gi u 0 20 = y ∧ 0 ≤ y.toInt ∧ y.toInt ≤ 12)) ∨ (r = 1 ∧ (∃ y : Int32, gi u 0 1 = y ∧ 0 ≤ y.toInt ∧ y.toInt ≤ 0) ∧ (∃ y : Int32, gi u 0 15 = y ∧ 0 ≤ y.toInt ∧ y.toInt ≤ 0) ∧ (∃ y : Int32, gi u 0 17 = y ∧ 0 ≤ y.toInt ∧ y.toInt ≤ 5) ∧ (∃ y : Int32, gi u 0 20 = y ∧ 0 ≤ y.toInt ∧ y.toInt ≤ 12)))
set_option maxHeartbeats 4000000 in
set_option maxRecDepth 100000 in
theorem k_X12_readsAll_2 (l : Launch) (adK adV : Nat → Nat) (dC : Nat → ClassId) (dI : Nat → Nat → Nat) (cy : Nat → ClassId) (ad : Nat → Nat) (B : Int) (hB0 : 100000 ≤ B) (hB1 : B ≤ 1073741824) (qr : Nat) (s1 : Int)   (w0 : va_W) (sz : Nat) (hT : TW ksM ad cy B qr 12 w0) (f0_ : Int32) (cf0_ : gi w0 0 17 = f0_) (rf0_ : 0 ≤ f0_.toInt) (tf0_ : f0_.toInt ≤ 5) (f1_ : Int32) (cf1_ : gi w0 0 18 = f1_) (rf1_ : 0 ≤ f1_.toInt) (tf1_ : f1_.toInt ≤ 60) (f2_ : Int32) (cf2_ : gi w0 0 20 = f2_) (rf2_ : 0 ≤ f2_.toInt) (tf2_ : f2_.toInt ≤ 32) (f3_ : Int32) (cf3_ : gi w0 3 (f0_.toInt).toNat = f3_) (rf3_ : 0 ≤ f3_.toInt) (tf3_ : f3_.toInt ≤ 400) (f4_ : Int32) (cf4_ : gi w0 5 (f0_.toInt).toNat = f4_) (rf4_ : 0 ≤ f4_.toInt) (tf4_ : f4_.toInt ≤ 12) (pr0_ : f4_.toInt ≤ 0) : Met l yX12_readsAll wsX12_readsAll ({ frames := 12, cells := 0, slots := 0, locals := 255 }) (va_Pc [.ref (ad 0)] (wpreS adK adV dC dI cy sz w0)) (va_Qi (P_X12_readsAll_2 ad cy B qr s1  w0) (fun u : va_W => wpost dC dI cy (va_A w0 sz) u) (va_A w0 sz)) 0 0 (va_A w0 sz) := by
  refine Met.ofW (cc := cX12_readsAll) (maxL := 2) (ret := (some .boolean)) (by decide) rfl ?_
  intro p e s m args below meth c s₁ Bk hml hv
  obtain ⟨rfl, ⟨hsz, hP, hK, hD0⟩, hE, hSR⟩ := hv
  have hx := Bk.exec
  have hb := Bk.bytes
  have hr := Bk.returns
  have hlocks := Bk.notSynchronized
  have hC : CallFix p m c cX12_readsAll 2 s _ wsX12_readsAll RX12 := ⟨hx, hb, hml, findClass_of_methodNamed Bk.named, atoms_spec (ws := wsX12_readsAll) Bk.pre⟩
  subst hsz
  have hD := hD0.self (sz := s.heap.size)
  generalize hAe : va_A w0 s.heap.size = A at hD hE ⊢
  have hA : ∀ q : Nat, s.heap.size ≤ q → A q := fun q h => by rw [← hAe]; exact Or.inr h
  have hw : Wd dC dI A s.heap s.heap [] w0 := ⟨hP, hD, va_S.rf⟩
  have hF : FE ksM [(12, 1, 1), (12, 14, 14), (12, 15, 15), (12, 16, 16), (12, 18, 18), (12, 19, 19), (12, 20, 20), (12, 22, 22), (61, 0, 2400), (62, 0, 7), (63, 0, 216), (64, 0, 6), (68, 0, 400)] w0 w0 := FE.rf
  have hl := lv_entry ([.ref (ad 0)]) (n := 2) (Nat.le_of_ble_eq_true rfl)
  rw [lg_entry_eq]
  generalize (lg_sl ([.ref (ad 0)]) ++ List.replicate (2 - (lg_sl ([.ref (ad 0)])).length) Slot.unset).toArray = ls at hl ⊢
  have hl : lv_has ls 2 [(0, .ref (ad 0))] := hl
  generalize hloc : ([] : List Loc) = locs at hw ⊢
  have hinX12 : ∀ w ∈ u_ws RX12 TX12 42, w ∈ wsX12_readsAll := fun _ h => List.mem_cons_of_mem _ (List.mem_append_right _ (h))
  have J88 : ∀ (v88_1 : Int32) (f88_0_1 : Int32) (f88_0_18 : Int32) (f88_0_20 : Int32) (f88_3__f0__toInt_toNat : Int32) (f88_5__f0__toInt_toNat : Int32) (H : Heap) (locs : List Loc) (ls : Array Slot) (w1 : va_W), 0 ≤ v88_1.toInt → v88_1.toInt ≤ 1 → 0 ≤ f88_0_1.toInt → f88_0_1.toInt ≤ 400 → 0 ≤ f0_.toInt → f0_.toInt ≤ 5 → 0 ≤ f88_0_18.toInt → f88_0_18.toInt ≤ 60 → 0 ≤ f88_0_20.toInt → f88_0_20.toInt ≤ 12 → 0 ≤ f88_3__f0__toInt_toNat.toInt → f88_3__f0__toInt_toNat.toInt ≤ 400 → 0 ≤ f88_5__f0__toInt_toNat.toInt → f88_5__f0__toInt_toNat.toInt ≤ 12 → ((v88_1.toInt = 0 ∨ 3 * f88_3__f0__toInt_toNat.toInt ≤ 14 * f88_0_18.toInt)) → ((v88_1.toInt = 0 ∨ f88_5__f0__toInt_toNat.toInt ≤ f88_0_20.toInt)) → (f88_0_20.toInt ≤ 12) → Wd dC dI A s.heap H locs w1 → TW ksM ad cy B qr 12 w1 → FE ksM [(12, 1, 1), (12, 14, 14), (12, 15, 15), (12, 16, 16), (12, 18, 18), (12, 19, 19), (12, 20, 20), (12, 22, 22), (61, 0, 2400), (62, 0, 7), (63, 0, 216), (64, 0, 6), (68, 0, 400)] w0 w1 → gi w1 0 1 = f88_0_1 → gi w1 0 17 = f0_ → gi w1 0 18 = f88_0_18 → gi w1 0 20 = f88_0_20 → gi w1 3 (f0_.toInt).toNat = f88_3__f0__toInt_toNat → gi w1 5 (f0_.toInt).toNat = f88_5__f0__toInt_toNat → lv_has ls 2 [(0, .ref (ad 0)), (1, .int v88_1)] → W p l e ({ frames := 12, cells := 0, slots := 0, locals := 255 }) s m (List.toArray [.ref (ad 0)]) below meth c H locs 0 0 (MQ below (va_Qi (P_X12_readsAll_2 ad cy B qr s1  w0) (fun u : va_W => wpost dC dI cy A u) A) (List.toArray [.ref (ad 0)]) s 0 0 A) (F0 m 88 ls []) := by
    intro v88_1 f88_0_1 f88_0_18 f88_0_20 f88_3__f0__toInt_toNat f88_5__f0__toInt_toNat H locs ls w1 r2 t3 r4 t5 r7 t8 r10 t11 r13 t14 r16 t17 r19 t20 hcr88_0 hcr88_1 hcr88_2 hw hT hF c6 c9 c12 c15 c18 c21 hl
    refine lv_aload_n hx hb dX12_readsAll_88 rfl (lv_at hl 0 rfl) ?_
    refine lv_iconst (v := 0) hx hb dX12_readsAll_89 (by decide) ?_
    refine tk_puti hC hK hw hT hinX12 tyX12_ok nmX12 kM_at0 (by decide) rfl rfl 1 (by decide) (List.mem_of_getElem? (i := 7) rfl) rfl rfl rfl rfl (by decide) (by decide) dX12_readsAll_90 (fun H locs w22 hw hT k24 c23 => ?_)
    have hF := hF.put kM_at0 (k := 1) (by decide) k24
    have c25 := k24.gi (Or.inr (by decide)) c9
    have c26 := k24.gi (Or.inr (by decide)) c12
    have c27 := k24.gi (Or.inr (by decide)) c15
    have c28 := k24.gi (Or.inl (tk_ne kM_at3 kM_at0 (by decide))) c18
    have c29 := k24.gi (Or.inl (tk_ne kM_at5 kM_at0 (by decide))) c21
    refine lv_aload_n hx hb dX12_readsAll_93 rfl (lv_at hl 0 rfl) ?_
    refine tk_geti hC hK hw hT hinX12 kM_at0 (by decide) rfl 15 (by decide) (List.mem_of_getElem? (i := 5) rfl) rfl rfl dX12_readsAll_94 (fun x30 c31 rx30 tx30 => ?_)
    refine lv_if_ne (tgt := 104) hx hb dX12_readsAll_97 (by decide) (fun c32 => ?_) (fun c32 => ?_)
    · have c32 : ¬ x30.toInt = (0 : Int) := wk_eqF c32
      refine lv_iconst (v := 0) hx hb dX12_readsAll_104 (by decide) ?_
      exact tk_zret hC hr rfl hlocks hK ⟨hT, hF, (Or.inl ⟨rfl, ⟨0, c23, (by decide), (by decide)⟩, ⟨x30, c31, (show 1 ≤ x30.toInt by omega), (show x30.toInt ≤ 3205 by omega)⟩, ⟨f0_, c25, (show 0 ≤ f0_.toInt by omega), (show f0_.toInt ≤ 5 by omega)⟩, ⟨f88_0_20, c27, (show 0 ≤ f88_0_20.toInt by omega), (show f88_0_20.toInt ≤ 12 by omega)⟩⟩)⟩ hw dX12_readsAll_105
    · have c32 : x30.toInt = (0 : Int) := wk_eq.mp c32
      refine lv_iconst (v := 1) hx hb dX12_readsAll_100 (by decide) ?_
      refine lv_goto (tgt := 105) hx hb dX12_readsAll_101 (by decide) ?_
      exact tk_zret hC hr rfl hlocks hK ⟨hT, hF, (Or.inr ⟨rfl, ⟨0, c23, (by decide), (by decide)⟩, ⟨x30, c31, (show 0 ≤ x30.toInt by omega), (show x30.toInt ≤ 0 by omega)⟩, ⟨f0_, c25, (show 0 ≤ f0_.toInt by omega), (show f0_.toInt ≤ 5 by omega)⟩, ⟨f88_0_20, c27, (show 0 ≤ f88_0_20.toInt by omega), (show f88_0_20.toInt ≤ 12 by omega)⟩⟩)⟩ hw dX12_readsAll_105
  have J66 : ∀ (v66_1 : Int32) (f66_0_1 : Int32) (f66_0_18 : Int32) (f66_0_20 : Int32) (f66_3__f0__toInt_toNat : Int32) (f66_5__f0__toInt_toNat : Int32) (H : Heap) (locs : List Loc) (ls : Array Slot) (w33 : va_W), 0 ≤ v66_1.toInt → v66_1.toInt ≤ 1 → 0 ≤ f66_0_1.toInt → f66_0_1.toInt ≤ 400 → 0 ≤ f0_.toInt → f0_.toInt ≤ 5 → 0 ≤ f66_0_18.toInt → f66_0_18.toInt ≤ 60 → 0 ≤ f66_0_20.toInt → f66_0_20.toInt ≤ 12 → 0 ≤ f66_3__f0__toInt_toNat.toInt → f66_3__f0__toInt_toNat.toInt ≤ 400 → 0 ≤ f66_5__f0__toInt_toNat.toInt → f66_5__f0__toInt_toNat.toInt ≤ 12 → ((v66_1.toInt = 0 ∨ 3 * f66_3__f0__toInt_toNat.toInt ≤ 14 * f66_0_18.toInt)) → ((v66_1.toInt = 0 ∨ f66_5__f0__toInt_toNat.toInt ≤ f66_0_20.toInt)) → (f66_0_20.toInt ≤ 12) → Wd dC dI A s.heap H locs w33 → TW ksM ad cy B qr 12 w33 → FE ksM [(12, 1, 1), (12, 14, 14), (12, 15, 15), (12, 16, 16), (12, 18, 18), (12, 19, 19), (12, 20, 20), (12, 22, 22), (61, 0, 2400), (62, 0, 7), (63, 0, 216), (64, 0, 6), (68, 0, 400)] w0 w33 → gi w33 0 1 = f66_0_1 → gi w33 0 17 = f0_ → gi w33 0 18 = f66_0_18 → gi w33 0 20 = f66_0_20 → gi w33 3 (f0_.toInt).toNat = f66_3__f0__toInt_toNat → gi w33 5 (f0_.toInt).toNat = f66_5__f0__toInt_toNat → lv_has ls 2 [(0, .ref (ad 0)), (1, .int v66_1)] → W p l e ({ frames := 12, cells := 0, slots := 0, locals := 255 }) s m (List.toArray [.ref (ad 0)]) below meth c H locs 0 0 (MQ below (va_Qi (P_X12_readsAll_2 ad cy B qr s1  w0) (fun u : va_W => wpost dC dI cy A u) A) (List.toArray [.ref (ad 0)]) s 0 0 A) (F0 m 66 ls []) := by
    intro v66_1 f66_0_1 f66_0_18 f66_0_20 f66_3__f0__toInt_toNat f66_5__f0__toInt_toNat H locs ls w33 r34 t35 r36 t37 r39 t40 r42 t43 r45 t46 r48 t49 r51 t52 hcr66_0 hcr66_1 hcr66_2 hw hT hF c38 c41 c44 c47 c50 c53 hl
    refine lv_iload_n hx hb dX12_readsAll_66 rfl (lv_at hl 1 rfl) ?_
    refine lv_if_eq (tgt := 88) hx hb dX12_readsAll_67 (by decide) (fun c54 => ?_) (fun c54 => ?_)
    · have c54 : v66_1.toInt = (0 : Int) := wk_eq.mp c54
      exact J88 v66_1 f66_0_1 f66_0_18 f66_0_20 f66_3__f0__toInt_toNat f66_5__f0__toInt_toNat H locs ls w33 (show 0 ≤ v66_1.toInt by omega) (show v66_1.toInt ≤ 1 by omega) (show 0 ≤ f66_0_1.toInt by omega) (show f66_0_1.toInt ≤ 400 by omega) (show 0 ≤ f0_.toInt by omega) (show f0_.toInt ≤ 5 by omega) (show 0 ≤ f66_0_18.toInt by omega) (show f66_0_18.toInt ≤ 60 by omega) (show 0 ≤ f66_0_20.toInt by omega) (show f66_0_20.toInt ≤ 12 by omega) (show 0 ≤ f66_3__f0__toInt_toNat.toInt by omega) (show f66_3__f0__toInt_toNat.toInt ≤ 400 by omega) (show 0 ≤ f66_5__f0__toInt_toNat.toInt by omega) (show f66_5__f0__toInt_toNat.toInt ≤ 12 by omega) (show (v66_1.toInt = 0 ∨ 3 * f66_3__f0__toInt_toNat.toInt ≤ 14 * f66_0_18.toInt) by omega) (show (v66_1.toInt = 0 ∨ f66_5__f0__toInt_toNat.toInt ≤ f66_0_20.toInt) by omega) (show f66_0_20.toInt ≤ 12 by omega)  hw hT hF c38 c41 c44 c47 c50 c53 (lv_sub hl [0, 1] rfl)
    · have c54 : ¬ v66_1.toInt = (0 : Int) := wk_eqF c54
      refine lv_aload_n hx hb dX12_readsAll_70 rfl (lv_at hl 0 rfl) ?_
      obtain ⟨x55, c56, rx55, tx55⟩ := hT.rdi (lo := 0) (hi := 400) (k := 14) kM_at0 (by decide) rfl
      refine tk_Vi hC hK hw hT hA hE hSR kM_at0 (by decide) rfl (k_X12_see_1 l adK adV dC dI cy ad B (by omega) (by omega) qr s1    w33 H.size hT x55 c56 (show 0 ≤ x55.toInt by omega) (show x55.toInt ≤ 400 by omega)) (cwV 0 hC.2.2.2.2 gX12_readsAll_X12_see rfl rfl rfl (by decide +kernel) ⟨Nat.le_of_ble_eq_true rfl, Nat.le_of_ble_eq_true rfl⟩) rfl hl.1 rfl (Nat.le_of_ble_eq_true rfl) dX12_readsAll_71 (fun r57 w59 H locs hp58 hw => ?_)
      obtain ⟨hT, k60, hg77⟩ := hp58
      have hF := hF.tr k60 (by decide)
      have c78 := k60.gi kM_at0 (by decide) c38
      have c79 := k60.gi kM_at0 (by decide) c41
      have c80 := k60.gi kM_at0 (by decide) c44
      have c81 := k60.gi kM_at0 (by decide) c47
      have c82 := k60.gi kM_at3 rfl c50
      have c83 := k60.gi kM_at5 rfl c53
      rcases hg77 with ⟨g61, g62, ⟨x63, c64, rx63, tx63⟩, ⟨x65, c66, rx65, tx65⟩, g67, g68⟩ | ⟨rfl, ⟨x69, c70, rx69, tx69⟩, ⟨x71, c72, rx71, tx71⟩, g73⟩ | ⟨rfl, ⟨x74, c75, rx74, tx74⟩, g76⟩
      · have ex63 : x63.toInt = f66_0_1.toInt := by rw [← c78.symm.trans c64]
        have g67 : (gi w59 1 (x65.toInt).toNat).toInt ≠ 32 := by have q := g67; simp only [c41, c79, c66] at q; omega
        have g68 : (x65.toInt = x55.toInt ∨ (gi w33 1 (x55.toInt).toNat).toInt = 32) := by have q := g68; simp only [c41, c79, c56, c66] at q; omega
        refine lv_iconst (v := (-1)) hx hb dX12_readsAll_74 (by decide) ?_
        refine lv_icmp_eq (tgt := 88) hx hb dX12_readsAll_75 (by decide) (fun c => absurd c (fun h => absurd (show r57.toInt = (-1 : Int) from wk_eq.mp h) (by omega))) (fun _ => ?_)
        refine lv_aload_n hx hb dX12_readsAll_78 rfl (lv_at hl 0 rfl) ?_
        refine lv_iconst (v := 0) hx hb dX12_readsAll_79 (by decide) ?_
        refine lv_aload_n hx hb dX12_readsAll_80 rfl (lv_at hl 0 rfl) ?_
        refine tk_geti hC hK hw hT hinX12 kM_at0 (by decide) rfl 14 (by decide) (List.mem_of_getElem? (i := 4) rfl) rfl rfl dX12_readsAll_81 (fun x86 c87 rx86 tx86 => ?_)
        refine wk_top x65 (c87.symm.trans c66) ?_
        refine tk_Vi hC hK hw hT hA hE hSR kM_at0 (by decide) rfl (k_X12_fails_1 l adK adV dC dI cy ad B (by omega) (by omega) qr s1   0 (by decide) (by decide) x65 (show 0 ≤ x65.toInt by omega) (show x65.toInt ≤ 400 by omega) w59 H.size hT ) (cwV 2 hC.2.2.2.2 gX12_readsAll_X12_fails rfl rfl rfl (by decide +kernel) ⟨Nat.le_of_ble_eq_true rfl, Nat.le_of_ble_eq_true rfl⟩) rfl hl.1 rfl (Nat.le_of_ble_eq_true rfl) dX12_readsAll_84 (fun r88 w90 H locs hp89 hw => ?_)
        obtain ⟨hT, k91, hg94⟩ := hp89
        have hF := hF.tr k91 (by decide)
        have c95 := k91.gi kM_at0 (by decide) c78
        have c96 := k91.gi kM_at0 (by decide) c79
        have c97 := k91.gi kM_at0 (by decide) c80
        have c98 := k91.gi kM_at0 (by decide) c81
        have c99 := k91.gi kM_at3 rfl c82
        have c100 := k91.gi kM_at5 rfl c83
        have c101 := k91.gi kM_at0 (by decide) c66
        obtain ⟨rfl, ⟨x92, c93, rx92, tx92⟩⟩ := hg94
        refine lv_pop hx hb dX12_readsAll_87 rfl ?_
        exact J88 v66_1 f66_0_1 f66_0_18 f66_0_20 f66_3__f0__toInt_toNat f66_5__f0__toInt_toNat H locs ls w90 (show 0 ≤ v66_1.toInt by omega) (show v66_1.toInt ≤ 1 by omega) (show 0 ≤ f66_0_1.toInt by omega) (show f66_0_1.toInt ≤ 400 by omega) (show 0 ≤ f0_.toInt by omega) (show f0_.toInt ≤ 5 by omega) (show 0 ≤ f66_0_18.toInt by omega) (show f66_0_18.toInt ≤ 60 by omega) (show 0 ≤ f66_0_20.toInt by omega) (show f66_0_20.toInt ≤ 12 by omega) (show 0 ≤ f66_3__f0__toInt_toNat.toInt by omega) (show f66_3__f0__toInt_toNat.toInt ≤ 400 by omega) (show 0 ≤ f66_5__f0__toInt_toNat.toInt by omega) (show f66_5__f0__toInt_toNat.toInt ≤ 12 by omega) (show (v66_1.toInt = 0 ∨ 3 * f66_3__f0__toInt_toNat.toInt ≤ 14 * f66_0_18.toInt) by omega) (show (v66_1.toInt = 0 ∨ f66_5__f0__toInt_toNat.toInt ≤ f66_0_20.toInt) by omega) (show f66_0_20.toInt ≤ 12 by omega)  hw hT hF c95 c96 c97 c98 c99 c100 (lv_sub hl [0, 1] rfl)
      · have ex69 : x69.toInt = f66_0_1.toInt := by rw [← c78.symm.trans c70]
        have g73 : (x71.toInt = x55.toInt ∨ (gi w33 1 (x55.toInt).toNat).toInt = 32) := by have q := g73; simp only [c41, c79, c56, c72] at q; omega
        refine lv_iconst (v := (-1)) hx hb dX12_readsAll_74 (by decide) ?_
        refine lv_icmp_eq (tgt := 88) hx hb dX12_readsAll_75 (by decide) (fun _ => ?_) (fun c => absurd (by decide) c)
        exact J88 v66_1 f66_0_1 f66_0_18 f66_0_20 f66_3__f0__toInt_toNat f66_5__f0__toInt_toNat H locs ls w59 (show 0 ≤ v66_1.toInt by omega) (show v66_1.toInt ≤ 1 by omega) (show 0 ≤ f66_0_1.toInt by omega) (show f66_0_1.toInt ≤ 400 by omega) (show 0 ≤ f0_.toInt by omega) (show f0_.toInt ≤ 5 by omega) (show 0 ≤ f66_0_18.toInt by omega) (show f66_0_18.toInt ≤ 60 by omega) (show 0 ≤ f66_0_20.toInt by omega) (show f66_0_20.toInt ≤ 12 by omega) (show 0 ≤ f66_3__f0__toInt_toNat.toInt by omega) (show f66_3__f0__toInt_toNat.toInt ≤ 400 by omega) (show 0 ≤ f66_5__f0__toInt_toNat.toInt by omega) (show f66_5__f0__toInt_toNat.toInt ≤ 12 by omega) (show (v66_1.toInt = 0 ∨ 3 * f66_3__f0__toInt_toNat.toInt ≤ 14 * f66_0_18.toInt) by omega) (show (v66_1.toInt = 0 ∨ f66_5__f0__toInt_toNat.toInt ≤ f66_0_20.toInt) by omega) (show f66_0_20.toInt ≤ 12 by omega)  hw hT hF c78 c79 c80 c81 c82 c83 (lv_sub hl [0, 1] rfl)
      · have ex74 : x74.toInt = f66_0_1.toInt := by rw [← c78.symm.trans c75]
        obtain ⟨x84, c85, rx84, tx84⟩ := hT.rdi (lo := 0) (hi := 400) (k := 14) kM_at0 (by decide) rfl
        have g76 : (x84.toInt = x55.toInt ∨ (gi w33 1 (x55.toInt).toNat).toInt = 32) := by have q := g76; simp only [c41, c79, c56, c85] at q; omega
        refine lv_iconst (v := (-1)) hx hb dX12_readsAll_74 (by decide) ?_
        refine lv_icmp_eq (tgt := 88) hx hb dX12_readsAll_75 (by decide) (fun _ => ?_) (fun c => absurd (by decide) c)
        exact J88 v66_1 f66_0_1 f66_0_18 f66_0_20 f66_3__f0__toInt_toNat f66_5__f0__toInt_toNat H locs ls w59 (show 0 ≤ v66_1.toInt by omega) (show v66_1.toInt ≤ 1 by omega) (show 0 ≤ f66_0_1.toInt by omega) (show f66_0_1.toInt ≤ 400 by omega) (show 0 ≤ f0_.toInt by omega) (show f0_.toInt ≤ 5 by omega) (show 0 ≤ f66_0_18.toInt by omega) (show f66_0_18.toInt ≤ 60 by omega) (show 0 ≤ f66_0_20.toInt by omega) (show f66_0_20.toInt ≤ 12 by omega) (show 0 ≤ f66_3__f0__toInt_toNat.toInt by omega) (show f66_3__f0__toInt_toNat.toInt ≤ 400 by omega) (show 0 ≤ f66_5__f0__toInt_toNat.toInt by omega) (show f66_5__f0__toInt_toNat.toInt ≤ 12 by omega) (show (v66_1.toInt = 0 ∨ 3 * f66_3__f0__toInt_toNat.toInt ≤ 14 * f66_0_18.toInt) by omega) (show (v66_1.toInt = 0 ∨ f66_5__f0__toInt_toNat.toInt ≤ f66_0_20.toInt) by omega) (show f66_0_20.toInt ≤ 12 by omega)  hw hT hF c78 c79 c80 c81 c82 c83 (lv_sub hl [0, 1] rfl)
  have L35 : ∀ (n35 : Nat) (v35_1 : Int32) (f35_0_1 : Int32) (f35_0_18 : Int32) (f35_0_20 : Int32) (f35_3__f0__toInt_toNat : Int32) (f35_5__f0__toInt_toNat : Int32) (H : Heap) (locs : List Loc) (ls : Array Slot) (w102 : va_W), 0 ≤ v35_1.toInt → v35_1.toInt ≤ 1 → 0 ≤ f35_0_1.toInt → f35_0_1.toInt ≤ 400 → 0 ≤ f0_.toInt → f0_.toInt ≤ 5 → 0 ≤ f35_0_18.toInt → f35_0_18.toInt ≤ 60 → 0 ≤ f35_0_20.toInt → f35_0_20.toInt ≤ 12 → 0 ≤ f35_3__f0__toInt_toNat.toInt → f35_3__f0__toInt_toNat.toInt ≤ 400 → 0 ≤ f35_5__f0__toInt_toNat.toInt → f35_5__f0__toInt_toNat.toInt ≤ 12 → ((v35_1.toInt = 0 ∨ 3 * f35_3__f0__toInt_toNat.toInt ≤ 14 * f35_0_18.toInt)) → ((v35_1.toInt = 0 ∨ f35_5__f0__toInt_toNat.toInt ≤ f35_0_20.toInt)) → (f35_0_20.toInt ≤ 12) → (2 * (32 - f35_0_20.toInt) + v35_1.toInt).toNat < n35 → Wd dC dI A s.heap H locs w102 → TW ksM ad cy B qr 12 w102 → FE ksM [(12, 1, 1), (12, 14, 14), (12, 15, 15), (12, 16, 16), (12, 18, 18), (12, 19, 19), (12, 20, 20), (12, 22, 22), (61, 0, 2400), (62, 0, 7), (63, 0, 216), (64, 0, 6), (68, 0, 400)] w0 w102 → gi w102 0 1 = f35_0_1 → gi w102 0 17 = f0_ → gi w102 0 18 = f35_0_18 → gi w102 0 20 = f35_0_20 → gi w102 3 (f0_.toInt).toNat = f35_3__f0__toInt_toNat → gi w102 5 (f0_.toInt).toNat = f35_5__f0__toInt_toNat → lv_has ls 2 [(0, .ref (ad 0)), (1, .int v35_1)] → W p l e ({ frames := 12, cells := 0, slots := 0, locals := 255 }) s m (List.toArray [.ref (ad 0)]) below meth c H locs 0 0 (MQ below (va_Qi (P_X12_readsAll_2 ad cy B qr s1  w0) (fun u : va_W => wpost dC dI cy A u) A) (List.toArray [.ref (ad 0)]) s 0 0 A) (F0 m 35 ls []) := by
    intro n35
    induction n35 with
    | zero => intro v35_1 f35_0_1 f35_0_18 f35_0_20 f35_3__f0__toInt_toNat f35_5__f0__toInt_toNat H locs ls w102 r103 t104 r105 t106 r108 t109 r111 t112 r114 t115 r117 t118 r120 t121 hcr35_0 hcr35_1 hcr35_2 hm35 hw hT hF c107 c110 c113 c116 c119 c122 hl; omega
    | succ n35 ih35 =>
      intro v35_1 f35_0_1 f35_0_18 f35_0_20 f35_3__f0__toInt_toNat f35_5__f0__toInt_toNat H locs ls w102 r103 t104 r105 t106 r108 t109 r111 t112 r114 t115 r117 t118 r120 t121 hcr35_0 hcr35_1 hcr35_2 hm35 hw hT hF c107 c110 c113 c116 c119 c122 hl
      refine lv_iload_n hx hb dX12_readsAll_35 rfl (lv_at hl 1 rfl) ?_
      refine lv_if_eq (tgt := 66) hx hb dX12_readsAll_36 (by decide) (fun c123 => ?_) (fun c123 => ?_)
      · have c123 : v35_1.toInt = (0 : Int) := wk_eq.mp c123
        exact J66 v35_1 f35_0_1 f35_0_18 f35_0_20 f35_3__f0__toInt_toNat f35_5__f0__toInt_toNat H locs ls w102 (show 0 ≤ v35_1.toInt by omega) (show v35_1.toInt ≤ 1 by omega) (show 0 ≤ f35_0_1.toInt by omega) (show f35_0_1.toInt ≤ 400 by omega) (show 0 ≤ f0_.toInt by omega) (show f0_.toInt ≤ 5 by omega) (show 0 ≤ f35_0_18.toInt by omega) (show f35_0_18.toInt ≤ 60 by omega) (show 0 ≤ f35_0_20.toInt by omega) (show f35_0_20.toInt ≤ 12 by omega) (show 0 ≤ f35_3__f0__toInt_toNat.toInt by omega) (show f35_3__f0__toInt_toNat.toInt ≤ 400 by omega) (show 0 ≤ f35_5__f0__toInt_toNat.toInt by omega) (show f35_5__f0__toInt_toNat.toInt ≤ 12 by omega) (show (v35_1.toInt = 0 ∨ 3 * f35_3__f0__toInt_toNat.toInt ≤ 14 * f35_0_18.toInt) by omega) (show (v35_1.toInt = 0 ∨ f35_5__f0__toInt_toNat.toInt ≤ f35_0_20.toInt) by omega) (show f35_0_20.toInt ≤ 12 by omega)  hw hT hF c107 c110 c113 c116 c119 c122 (lv_sub hl [0, 1] rfl)
      · have c123 : ¬ v35_1.toInt = (0 : Int) := wk_eqF c123
        refine lv_aload_n hx hb dX12_readsAll_39 rfl (lv_at hl 0 rfl) ?_
        obtain ⟨x124, c125, rx124, tx124⟩ := hT.rdi (lo := 0) (hi := 400) (k := 14) kM_at0 (by decide) rfl
        refine tk_Vi hC hK hw hT hA hE hSR kM_at0 (by decide) rfl (k_X12_see_1 l adK adV dC dI cy ad B (by omega) (by omega) qr s1    w102 H.size hT x124 c125 (show 0 ≤ x124.toInt by omega) (show x124.toInt ≤ 400 by omega)) (cwV 0 hC.2.2.2.2 gX12_readsAll_X12_see rfl rfl rfl (by decide +kernel) ⟨Nat.le_of_ble_eq_true rfl, Nat.le_of_ble_eq_true rfl⟩) rfl hl.1 rfl (Nat.le_of_ble_eq_true rfl) dX12_readsAll_40 (fun r126 w128 H locs hp127 hw => ?_)
        obtain ⟨hT, k129, hg146⟩ := hp127
        have hF := hF.tr k129 (by decide)
        have c147 := k129.gi kM_at0 (by decide) c107
        have c148 := k129.gi kM_at0 (by decide) c110
        have c149 := k129.gi kM_at0 (by decide) c113
        have c150 := k129.gi kM_at0 (by decide) c116
        have c151 := k129.gi kM_at3 rfl c119
        have c152 := k129.gi kM_at5 rfl c122
        rcases hg146 with ⟨g130, g131, ⟨x132, c133, rx132, tx132⟩, ⟨x134, c135, rx134, tx134⟩, g136, g137⟩ | ⟨rfl, ⟨x138, c139, rx138, tx138⟩, ⟨x140, c141, rx140, tx140⟩, g142⟩ | ⟨rfl, ⟨x143, c144, rx143, tx143⟩, g145⟩
        · have ex132 : x132.toInt = f35_0_1.toInt := by rw [← c147.symm.trans c133]
          have g136 : (gi w128 1 (x134.toInt).toNat).toInt ≠ 32 := by have q := g136; simp only [c110, c148, c135] at q; omega
          have g137 : (x134.toInt = x124.toInt ∨ (gi w102 1 (x124.toInt).toNat).toInt = 32) := by have q := g137; simp only [c110, c148, c125, c135] at q; omega
          refine lv_bipush (v := 59) hx hb dX12_readsAll_43 (by decide) ?_
          refine lv_icmp_ne (tgt := 66) hx hb dX12_readsAll_45 (by decide) (fun c155 => ?_) (fun c155 => ?_)
          · have c155 : ¬ r126.toInt = (59 : Int) := wk_eqF c155
            exact J66 v35_1 f35_0_1 f35_0_18 f35_0_20 f35_3__f0__toInt_toNat f35_5__f0__toInt_toNat H locs ls w128 (show 0 ≤ v35_1.toInt by omega) (show v35_1.toInt ≤ 1 by omega) (show 0 ≤ f35_0_1.toInt by omega) (show f35_0_1.toInt ≤ 400 by omega) (show 0 ≤ f0_.toInt by omega) (show f0_.toInt ≤ 5 by omega) (show 0 ≤ f35_0_18.toInt by omega) (show f35_0_18.toInt ≤ 60 by omega) (show 0 ≤ f35_0_20.toInt by omega) (show f35_0_20.toInt ≤ 12 by omega) (show 0 ≤ f35_3__f0__toInt_toNat.toInt by omega) (show f35_3__f0__toInt_toNat.toInt ≤ 400 by omega) (show 0 ≤ f35_5__f0__toInt_toNat.toInt by omega) (show f35_5__f0__toInt_toNat.toInt ≤ 12 by omega) (show (v35_1.toInt = 0 ∨ 3 * f35_3__f0__toInt_toNat.toInt ≤ 14 * f35_0_18.toInt) by omega) (show (v35_1.toInt = 0 ∨ f35_5__f0__toInt_toNat.toInt ≤ f35_0_20.toInt) by omega) (show f35_0_20.toInt ≤ 12 by omega)  hw hT hF c147 c148 c149 c150 c151 c152 (lv_sub hl [0, 1] rfl)
          · have c155 : r126.toInt = (59 : Int) := wk_eq.mp c155
            refine lv_aload_n hx hb dX12_readsAll_48 rfl (lv_at hl 0 rfl) ?_
            refine lv_dup hx hb dX12_readsAll_49 rfl ?_
            refine tk_geti hC hK hw hT hinX12 kM_at0 (by decide) rfl 14 (by decide) (List.mem_of_getElem? (i := 4) rfl) rfl rfl dX12_readsAll_50 (fun x156 c157 rx156 tx156 => ?_)
            refine wk_top x134 (c157.symm.trans c135) ?_
            refine lv_iconst (v := 1) hx hb dX12_readsAll_53 (by decide) ?_
            refine lv_iadd hx hb dX12_readsAll_54 ?_
            refine lv_topi (fun x158 ex158 => ?_)
            have ex158 : x158.toInt = x134.toInt + (1 : Int) := by rw [ex158]; exact wk_add (show (-2147483648) ≤ x134.toInt + (1 : Int) by omega) (show x134.toInt + (1 : Int) ≤ 2147483647 by omega)
            refine tk_puti hC hK hw hT hinX12 tyX12_ok nmX12 kM_at0 (by decide) rfl rfl 14 (by decide) (List.mem_of_getElem? (i := 4) rfl) rfl rfl rfl rfl (show 0 ≤ x158.toInt by omega) (show x158.toInt ≤ 400 by omega) dX12_readsAll_55 (fun H locs w159 hw hT k161 c160 => ?_)
            have hF := hF.put kM_at0 (k := 14) (by decide) k161
            have c162 := k161.gi (Or.inr (by decide)) c147
            have c163 := k161.gi (Or.inr (by decide)) c148
            have c164 := k161.gi (Or.inr (by decide)) c149
            have c165 := k161.gi (Or.inr (by decide)) c150
            have c166 := k161.gi (Or.inl (tk_ne kM_at3 kM_at0 (by decide))) c151
            have c167 := k161.gi (Or.inl (tk_ne kM_at5 kM_at0 (by decide))) c152
            refine lv_aload_n hx hb dX12_readsAll_58 rfl (lv_at hl 0 rfl) ?_
            refine tk_Vi hC hK hw hT hA hE hSR kM_at0 (by decide) rfl (k_X12_clauseHere_2 l adK adV dC dI cy ad B (by omega) (by omega) qr s1    w159 H.size hT f0_ c163 (show 0 ≤ f0_.toInt by omega) (show f0_.toInt ≤ 5 by omega) f35_0_18 c164 (show 0 ≤ f35_0_18.toInt by omega) (show f35_0_18.toInt ≤ 60 by omega) f35_0_20 c165 (show 0 ≤ f35_0_20.toInt by omega) (show f35_0_20.toInt ≤ 32 by omega) f35_3__f0__toInt_toNat c166 (show 0 ≤ f35_3__f0__toInt_toNat.toInt by omega) (show f35_3__f0__toInt_toNat.toInt ≤ 400 by omega) f35_5__f0__toInt_toNat c167 (show 0 ≤ f35_5__f0__toInt_toNat.toInt by omega) (show f35_5__f0__toInt_toNat.toInt ≤ 12 by omega) (show 3 * f35_3__f0__toInt_toNat.toInt ≤ 14 * f35_0_18.toInt by omega) (show f35_5__f0__toInt_toNat.toInt ≤ f35_0_20.toInt by omega) (show f35_0_20.toInt ≤ 12 by omega) (show f35_3__f0__toInt_toNat.toInt ≤ 280 by omega)) (cwV 0 hC.2.2.2.2 gX12_readsAll_X12_clauseHere rfl rfl rfl (by decide +kernel) ⟨Nat.le_of_ble_eq_true rfl, Nat.le_of_ble_eq_true rfl⟩) rfl hl.1 rfl (Nat.le_of_ble_eq_true rfl) dX12_readsAll_59 (fun r168 w170 H locs hp169 hw => ?_)
            obtain ⟨hT, k171, hg212⟩ := hp169
            have hF := hF.tr k171 (by decide)
            have c213 := k171.gi kM_at0 (by decide) c162
            have c214 := k171.gi kM_at0 (by decide) c163
            rcases hg212 with ⟨rfl, ⟨x172, c173, rx172, tx172⟩, ⟨x174, c175, rx174, tx174⟩, ⟨x176, c177, rx176, tx176⟩, ⟨x178, c179, rx178, tx178⟩, g180, g181⟩ | ⟨rfl, ⟨x182, c183, rx182, tx182⟩, ⟨x184, c185, rx184, tx184⟩, ⟨x186, c187, rx186, tx186⟩, ⟨x188, c189, rx188, tx188⟩, g190, g191⟩ | ⟨rfl, ⟨x192, c193, rx192, tx192⟩, ⟨x194, c195, rx194, tx194⟩, ⟨x196, c197, rx196, tx196⟩, g198, g199, g200, g201⟩ | ⟨rfl, ⟨x202, c203, rx202, tx202⟩, ⟨x204, c205, rx204, tx204⟩, ⟨x206, c207, rx206, tx206⟩, g208, g209, g210, g211⟩
            · have ex172 : x172.toInt = f35_0_1.toInt := by rw [← c213.symm.trans c173]
              have ex176 : x176.toInt = f0_.toInt := by rw [← c214.symm.trans c177]
              obtain ⟨x215, c216, rx215, tx215⟩ := hT.rda (lo := 0) (hi := 400) (i := (f0_.toInt).toNat) kM_at3 rfl rfl (by omega)
              obtain ⟨x217, c218, rx217, tx217⟩ := hT.rdi (lo := 0) (hi := 60) (k := 18) kM_at0 (by decide) rfl
              obtain ⟨x219, c220, rx219, tx219⟩ := hT.rda (lo := 0) (hi := 12) (i := (f0_.toInt).toNat) kM_at5 rfl rfl (by omega)
              have g180 : f35_0_20.toInt ≤ x178.toInt := by have q := g180; simp only [c163, c214, c165, c179] at q; omega
              have g181 : x178.toInt ≤ 12 := by have q := g181; simp only [c163, c214, c179] at q; omega
              refine lv_istore_n (lv' := [(1, .int 0), (0, .ref (ad 0))]) hx hb dX12_readsAll_62 rfl hl (by decide) rfl (fun ls hl => ?_)
              refine lv_goto (tgt := 35) hx hb dX12_readsAll_63 (by decide) ?_
              exact ih35 0 f35_0_1 x217 x178 x215 x219 H locs ls w170 (by decide) (by decide) (show 0 ≤ f35_0_1.toInt by omega) (show f35_0_1.toInt ≤ 400 by omega) (show 0 ≤ f0_.toInt by omega) (show f0_.toInt ≤ 5 by omega) (show 0 ≤ x217.toInt by omega) (show x217.toInt ≤ 60 by omega) (show 0 ≤ x178.toInt by omega) (show x178.toInt ≤ 12 by omega) (show 0 ≤ x215.toInt by omega) (show x215.toInt ≤ 400 by omega) (show 0 ≤ x219.toInt by omega) (show x219.toInt ≤ 12 by omega) (show ((0 : Int) = 0 ∨ 3 * x215.toInt ≤ 14 * x217.toInt) by omega) (show ((0 : Int) = 0 ∨ x219.toInt ≤ x178.toInt) by omega) (show x178.toInt ≤ 12 by omega) (show (2 * (32 - x178.toInt) + (0 : Int)).toNat < n35 by omega) hw hT hF c213 c214 c218 c179 c216 c220 (lv_sub hl [1, 0] rfl)
            · have ex182 : x182.toInt = f35_0_1.toInt := by rw [← c213.symm.trans c183]
              have ex186 : x186.toInt = f0_.toInt := by rw [← c214.symm.trans c187]
              obtain ⟨x221, c222, rx221, tx221⟩ := hT.rda (lo := 0) (hi := 400) (i := (f0_.toInt).toNat) kM_at3 rfl rfl (by omega)
              obtain ⟨x223, c224, rx223, tx223⟩ := hT.rdi (lo := 0) (hi := 60) (k := 18) kM_at0 (by decide) rfl
              obtain ⟨x225, c226, rx225, tx225⟩ := hT.rda (lo := 0) (hi := 12) (i := (f0_.toInt).toNat) kM_at5 rfl rfl (by omega)
              have g190 : f35_0_20.toInt ≤ x188.toInt := by have q := g190; simp only [c163, c214, c165, c189] at q; omega
              have g191 : x188.toInt ≤ 12 := by have q := g191; simp only [c163, c214, c189] at q; omega
              refine lv_istore_n (lv' := [(1, .int 0), (0, .ref (ad 0))]) hx hb dX12_readsAll_62 rfl hl (by decide) rfl (fun ls hl => ?_)
              refine lv_goto (tgt := 35) hx hb dX12_readsAll_63 (by decide) ?_
              exact ih35 0 f35_0_1 x223 x188 x221 x225 H locs ls w170 (by decide) (by decide) (show 0 ≤ f35_0_1.toInt by omega) (show f35_0_1.toInt ≤ 400 by omega) (show 0 ≤ f0_.toInt by omega) (show f0_.toInt ≤ 5 by omega) (show 0 ≤ x223.toInt by omega) (show x223.toInt ≤ 60 by omega) (show 0 ≤ x188.toInt by omega) (show x188.toInt ≤ 12 by omega) (show 0 ≤ x221.toInt by omega) (show x221.toInt ≤ 400 by omega) (show 0 ≤ x225.toInt by omega) (show x225.toInt ≤ 12 by omega) (show ((0 : Int) = 0 ∨ 3 * x221.toInt ≤ 14 * x223.toInt) by omega) (show ((0 : Int) = 0 ∨ x225.toInt ≤ x188.toInt) by omega) (show x188.toInt ≤ 12 by omega) (show (2 * (32 - x188.toInt) + (0 : Int)).toNat < n35 by omega) hw hT hF c213 c214 c224 c189 c222 c226 (lv_sub hl [1, 0] rfl)
            · have ex192 : x192.toInt = f35_0_1.toInt := by rw [← c213.symm.trans c193]
              have ex194 : x194.toInt = f0_.toInt := by rw [← c214.symm.trans c195]
              obtain ⟨x227, c228, rx227, tx227⟩ := hT.rda (lo := 0) (hi := 400) (i := (f0_.toInt).toNat) kM_at3 rfl rfl (by omega)
              obtain ⟨x229, c230, rx229, tx229⟩ := hT.rdi (lo := 0) (hi := 60) (k := 18) kM_at0 (by decide) rfl
              obtain ⟨x231, c232, rx231, tx231⟩ := hT.rda (lo := 0) (hi := 12) (i := (f0_.toInt).toNat) kM_at5 rfl rfl (by omega)
              have g198 : 3 * x227.toInt ≤ 14 * x229.toInt := by have q := g198; simp only [c163, c214, c228, c230] at q; omega
              have g199 : x231.toInt ≤ x196.toInt := by have q := g199; simp only [c163, c214, c232, c197] at q; omega
              have g200 : x196.toInt = f35_0_20.toInt + 1 := by have q := g200; simp only [c163, c214, c165, c197] at q; omega
              have g201 : x196.toInt ≤ 12 := by have q := g201; simp only [c163, c214, c197] at q; omega
              refine lv_istore_n (lv' := [(1, .int 1), (0, .ref (ad 0))]) hx hb dX12_readsAll_62 rfl hl (by decide) rfl (fun ls hl => ?_)
              refine lv_goto (tgt := 35) hx hb dX12_readsAll_63 (by decide) ?_
              exact ih35 1 f35_0_1 x229 x196 x227 x231 H locs ls w170 (by decide) (by decide) (show 0 ≤ f35_0_1.toInt by omega) (show f35_0_1.toInt ≤ 400 by omega) (show 0 ≤ f0_.toInt by omega) (show f0_.toInt ≤ 5 by omega) (show 0 ≤ x229.toInt by omega) (show x229.toInt ≤ 60 by omega) (show 0 ≤ x196.toInt by omega) (show x196.toInt ≤ 12 by omega) (show 0 ≤ x227.toInt by omega) (show x227.toInt ≤ 400 by omega) (show 0 ≤ x231.toInt by omega) (show x231.toInt ≤ 12 by omega) (show ((1 : Int) = 0 ∨ 3 * x227.toInt ≤ 14 * x229.toInt) by omega) (show ((1 : Int) = 0 ∨ x231.toInt ≤ x196.toInt) by omega) (show x196.toInt ≤ 12 by omega) (show (2 * (32 - x196.toInt) + (1 : Int)).toNat < n35 by omega) hw hT hF c213 c214 c230 c197 c228 c232 (lv_sub hl [1, 0] rfl)
            · have ex202 : x202.toInt = f35_0_1.toInt := by rw [← c213.symm.trans c203]
              have ex204 : x204.toInt = f0_.toInt := by rw [← c214.symm.trans c205]
              obtain ⟨x233, c234, rx233, tx233⟩ := hT.rda (lo := 0) (hi := 400) (i := (f0_.toInt).toNat) kM_at3 rfl rfl (by omega)
              obtain ⟨x235, c236, rx235, tx235⟩ := hT.rdi (lo := 0) (hi := 60) (k := 18) kM_at0 (by decide) rfl
              obtain ⟨x237, c238, rx237, tx237⟩ := hT.rda (lo := 0) (hi := 12) (i := (f0_.toInt).toNat) kM_at5 rfl rfl (by omega)
              have g208 : 3 * x233.toInt ≤ 14 * x235.toInt := by have q := g208; simp only [c163, c214, c234, c236] at q; omega
              have g209 : x237.toInt ≤ x206.toInt := by have q := g209; simp only [c163, c214, c238, c207] at q; omega
              have g210 : x206.toInt = f35_0_20.toInt + 1 := by have q := g210; simp only [c163, c214, c165, c207] at q; omega
              have g211 : x206.toInt ≤ 12 := by have q := g211; simp only [c163, c214, c207] at q; omega
              refine lv_istore_n (lv' := [(1, .int 1), (0, .ref (ad 0))]) hx hb dX12_readsAll_62 rfl hl (by decide) rfl (fun ls hl => ?_)
              refine lv_goto (tgt := 35) hx hb dX12_readsAll_63 (by decide) ?_
              exact ih35 1 f35_0_1 x235 x206 x233 x237 H locs ls w170 (by decide) (by decide) (show 0 ≤ f35_0_1.toInt by omega) (show f35_0_1.toInt ≤ 400 by omega) (show 0 ≤ f0_.toInt by omega) (show f0_.toInt ≤ 5 by omega) (show 0 ≤ x235.toInt by omega) (show x235.toInt ≤ 60 by omega) (show 0 ≤ x206.toInt by omega) (show x206.toInt ≤ 12 by omega) (show 0 ≤ x233.toInt by omega) (show x233.toInt ≤ 400 by omega) (show 0 ≤ x237.toInt by omega) (show x237.toInt ≤ 12 by omega) (show ((1 : Int) = 0 ∨ 3 * x233.toInt ≤ 14 * x235.toInt) by omega) (show ((1 : Int) = 0 ∨ x237.toInt ≤ x206.toInt) by omega) (show x206.toInt ≤ 12 by omega) (show (2 * (32 - x206.toInt) + (1 : Int)).toNat < n35 by omega) hw hT hF c213 c214 c236 c207 c234 c238 (lv_sub hl [1, 0] rfl)
        · have ex138 : x138.toInt = f35_0_1.toInt := by rw [← c147.symm.trans c139]
          have g142 : (x140.toInt = x124.toInt ∨ (gi w102 1 (x124.toInt).toNat).toInt = 32) := by have q := g142; simp only [c110, c148, c125, c141] at q; omega
          refine lv_bipush (v := 59) hx hb dX12_readsAll_43 (by decide) ?_
          refine lv_icmp_ne (tgt := 66) hx hb dX12_readsAll_45 (by decide) (fun _ => ?_) (fun c => absurd c (by decide))
          exact J66 v35_1 f35_0_1 f35_0_18 f35_0_20 f35_3__f0__toInt_toNat f35_5__f0__toInt_toNat H locs ls w128 (show 0 ≤ v35_1.toInt by omega) (show v35_1.toInt ≤ 1 by omega) (show 0 ≤ f35_0_1.toInt by omega) (show f35_0_1.toInt ≤ 400 by omega) (show 0 ≤ f0_.toInt by omega) (show f0_.toInt ≤ 5 by omega) (show 0 ≤ f35_0_18.toInt by omega) (show f35_0_18.toInt ≤ 60 by omega) (show 0 ≤ f35_0_20.toInt by omega) (show f35_0_20.toInt ≤ 12 by omega) (show 0 ≤ f35_3__f0__toInt_toNat.toInt by omega) (show f35_3__f0__toInt_toNat.toInt ≤ 400 by omega) (show 0 ≤ f35_5__f0__toInt_toNat.toInt by omega) (show f35_5__f0__toInt_toNat.toInt ≤ 12 by omega) (show (v35_1.toInt = 0 ∨ 3 * f35_3__f0__toInt_toNat.toInt ≤ 14 * f35_0_18.toInt) by omega) (show (v35_1.toInt = 0 ∨ f35_5__f0__toInt_toNat.toInt ≤ f35_0_20.toInt) by omega) (show f35_0_20.toInt ≤ 12 by omega)  hw hT hF c147 c148 c149 c150 c151 c152 (lv_sub hl [0, 1] rfl)
        · have ex143 : x143.toInt = f35_0_1.toInt := by rw [← c147.symm.trans c144]
          obtain ⟨x153, c154, rx153, tx153⟩ := hT.rdi (lo := 0) (hi := 400) (k := 14) kM_at0 (by decide) rfl
          have g145 : (x153.toInt = x124.toInt ∨ (gi w102 1 (x124.toInt).toNat).toInt = 32) := by have q := g145; simp only [c110, c148, c125, c154] at q; omega
          refine lv_bipush (v := 59) hx hb dX12_readsAll_43 (by decide) ?_
          refine lv_icmp_ne (tgt := 66) hx hb dX12_readsAll_45 (by decide) (fun _ => ?_) (fun c => absurd c (by decide))
          exact J66 v35_1 f35_0_1 f35_0_18 f35_0_20 f35_3__f0__toInt_toNat f35_5__f0__toInt_toNat H locs ls w128 (show 0 ≤ v35_1.toInt by omega) (show v35_1.toInt ≤ 1 by omega) (show 0 ≤ f35_0_1.toInt by omega) (show f35_0_1.toInt ≤ 400 by omega) (show 0 ≤ f0_.toInt by omega) (show f0_.toInt ≤ 5 by omega) (show 0 ≤ f35_0_18.toInt by omega) (show f35_0_18.toInt ≤ 60 by omega) (show 0 ≤ f35_0_20.toInt by omega) (show f35_0_20.toInt ≤ 12 by omega) (show 0 ≤ f35_3__f0__toInt_toNat.toInt by omega) (show f35_3__f0__toInt_toNat.toInt ≤ 400 by omega) (show 0 ≤ f35_5__f0__toInt_toNat.toInt by omega) (show f35_5__f0__toInt_toNat.toInt ≤ 12 by omega) (show (v35_1.toInt = 0 ∨ 3 * f35_3__f0__toInt_toNat.toInt ≤ 14 * f35_0_18.toInt) by omega) (show (v35_1.toInt = 0 ∨ f35_5__f0__toInt_toNat.toInt ≤ f35_0_20.toInt) by omega) (show f35_0_20.toInt ≤ 12 by omega)  hw hT hF c147 c148 c149 c150 c151 c152 (lv_sub hl [0, 1] rfl)
  refine lv_aload_n hx hb dX12_readsAll_0 rfl (lv_at hl 0 rfl) ?_
  refine tk_getA hC hK hw hT hinX12 kM_at0 (by decide) rfl 4 (by decide) (List.mem_of_getElem? (i := 1) rfl) rfl rfl dX12_readsAll_1 ?_
  refine lv_aload_n hx hb dX12_readsAll_4 rfl (lv_at hl 0 rfl) ?_
  refine tk_geti hC hK hw hT hinX12 kM_at0 (by decide) rfl 17 (by decide) (List.mem_of_getElem? (i := 2) rfl) rfl rfl dX12_readsAll_5 (fun x239 c240 rx239 tx239 => ?_)
  refine wk_top f0_ (c240.symm.trans cf0_) ?_
  refine lv_iconst (v := 0) hx hb dX12_readsAll_8 (by decide) ?_
  refine tk_iast hC hK hw hT kM_at3 (by decide) rfl rfl (show 0 ≤ f0_.toInt by omega) (show f0_.toInt < 7 by omega) (by decide) (by decide) dX12_readsAll_9 (fun H locs w241 hw hT k243 c242 => ?_)
  have hF := hF.put kM_at3 (inE_of (a := 0) (b := 7) (by decide) (show 0 ≤ f0_.toInt.toNat by omega) (show f0_.toInt.toNat ≤ 7 by omega)) k243
  have c244 := k243.gi (Or.inl (tk_ne kM_at0 kM_at3 (by decide))) cf0_
  have c245 := k243.gi (Or.inl (tk_ne kM_at0 kM_at3 (by decide))) cf1_
  have c246 := k243.gi (Or.inl (tk_ne kM_at0 kM_at3 (by decide))) cf2_
  have c247 := k243.gi (Or.inl (tk_ne kM_at5 kM_at3 (by decide))) cf4_
  have c242 : gi w241 3 (f0_.toInt).toNat = 0 := (congrArg (gi w241 3) (congrArg Int.toNat (show f0_.toInt = f0_.toInt by omega))).trans c242
  refine lv_aload_n hx hb dX12_readsAll_10 rfl (lv_at hl 0 rfl) ?_
  refine lv_iconst (v := 0) hx hb dX12_readsAll_11 (by decide) ?_
  refine tk_puti hC hK hw hT hinX12 tyX12_ok nmX12 kM_at0 (by decide) rfl rfl 20 (by decide) (List.mem_of_getElem? (i := 3) rfl) rfl rfl rfl rfl (by decide) (by decide) dX12_readsAll_12 (fun H locs w248 hw hT k250 c249 => ?_)
  have hF := hF.put kM_at0 (k := 20) (by decide) k250
  have c251 := k250.gi (Or.inr (by decide)) c244
  have c252 := k250.gi (Or.inr (by decide)) c245
  have c253 := k250.gi (Or.inl (tk_ne kM_at5 kM_at0 (by decide))) c247
  have c254 := k250.gi (Or.inl (tk_ne kM_at3 kM_at0 (by decide))) c242
  refine lv_aload_n hx hb dX12_readsAll_15 rfl (lv_at hl 0 rfl) ?_
  refine lv_iconst (v := 0) hx hb dX12_readsAll_16 (by decide) ?_
  refine tk_puti hC hK hw hT hinX12 tyX12_ok nmX12 kM_at0 (by decide) rfl rfl 14 (by decide) (List.mem_of_getElem? (i := 4) rfl) rfl rfl rfl rfl (by decide) (by decide) dX12_readsAll_17 (fun H locs w255 hw hT k257 c256 => ?_)
  have hF := hF.put kM_at0 (k := 14) (by decide) k257
  have c258 := k257.gi (Or.inr (by decide)) c251
  have c259 := k257.gi (Or.inr (by decide)) c252
  have c260 := k257.gi (Or.inl (tk_ne kM_at5 kM_at0 (by decide))) c253
  have c261 := k257.gi (Or.inl (tk_ne kM_at3 kM_at0 (by decide))) c254
  have c262 := k257.gi (Or.inr (by decide)) c249
  refine lv_aload_n hx hb dX12_readsAll_20 rfl (lv_at hl 0 rfl) ?_
  refine lv_iconst (v := 0) hx hb dX12_readsAll_21 (by decide) ?_
  refine tk_puti hC hK hw hT hinX12 tyX12_ok nmX12 kM_at0 (by decide) rfl rfl 15 (by decide) (List.mem_of_getElem? (i := 5) rfl) rfl rfl rfl rfl (by decide) (by decide) dX12_readsAll_22 (fun H locs w263 hw hT k265 c264 => ?_)
  have hF := hF.put kM_at0 (k := 15) (by decide) k265
  have c266 := k265.gi (Or.inr (by decide)) c258
  have c267 := k265.gi (Or.inr (by decide)) c259
  have c268 := k265.gi (Or.inl (tk_ne kM_at5 kM_at0 (by decide))) c260
  have c269 := k265.gi (Or.inl (tk_ne kM_at3 kM_at0 (by decide))) c261
  have c270 := k265.gi (Or.inr (by decide)) c262
  have c271 := k265.gi (Or.inr (by decide)) c256
  refine lv_aload_n hx hb dX12_readsAll_25 rfl (lv_at hl 0 rfl) ?_
  refine lv_iconst (v := 0) hx hb dX12_readsAll_26 (by decide) ?_
  refine tk_puti hC hK hw hT hinX12 tyX12_ok nmX12 kM_at0 (by decide) rfl rfl 18 (by decide) (List.mem_of_getElem? (i := 6) rfl) rfl rfl rfl rfl (by decide) (by decide) dX12_readsAll_27 (fun H locs w272 hw hT k274 c273 => ?_)
  have hF := hF.put kM_at0 (k := 18) (by decide) k274
  have c275 := k274.gi (Or.inr (by decide)) c266
  have c276 := k274.gi (Or.inl (tk_ne kM_at5 kM_at0 (by decide))) c268
  have c277 := k274.gi (Or.inl (tk_ne kM_at3 kM_at0 (by decide))) c269
  have c278 := k274.gi (Or.inr (by decide)) c270
  have c279 := k274.gi (Or.inr (by decide)) c271
  have c280 := k274.gi (Or.inr (by decide)) c264
  refine lv_aload_n hx hb dX12_readsAll_30 rfl (lv_at hl 0 rfl) ?_
  refine tk_Vi hC hK hw hT hA hE hSR kM_at0 (by decide) rfl (k_X12_clauseHere_2 l adK adV dC dI cy ad B (by omega) (by omega) qr s1    w272 H.size hT f0_ c275 (show 0 ≤ f0_.toInt by omega) (show f0_.toInt ≤ 5 by omega) 0 c273 (by decide) (by decide) 0 c278 (by decide) (by decide) 0 c277 (by decide) (by decide) f4_ c276 (show 0 ≤ f4_.toInt by omega) (show f4_.toInt ≤ 12 by omega) (show 3 * (0 : Int) ≤ 14 * (0 : Int) by omega) (show f4_.toInt ≤ (0 : Int) by omega) (show (0 : Int) ≤ 12 by omega) (show (0 : Int) ≤ 280 by omega)) (cwV 0 hC.2.2.2.2 gX12_readsAll_X12_clauseHere rfl rfl rfl (by decide +kernel) ⟨Nat.le_of_ble_eq_true rfl, Nat.le_of_ble_eq_true rfl⟩) rfl hl.1 rfl (Nat.le_of_ble_eq_true rfl) dX12_readsAll_31 (fun r281 w283 H locs hp282 hw => ?_)
  obtain ⟨hT, k284, hg325⟩ := hp282
  have hF := hF.tr k284 (by decide)
  have c326 := k284.gi kM_at0 (by decide) c275
  rcases hg325 with ⟨rfl, ⟨x285, c286, rx285, tx285⟩, ⟨x287, c288, rx287, tx287⟩, ⟨x289, c290, rx289, tx289⟩, ⟨x291, c292, rx291, tx291⟩, g293, g294⟩ | ⟨rfl, ⟨x295, c296, rx295, tx295⟩, ⟨x297, c298, rx297, tx297⟩, ⟨x299, c300, rx299, tx299⟩, ⟨x301, c302, rx301, tx301⟩, g303, g304⟩ | ⟨rfl, ⟨x305, c306, rx305, tx305⟩, ⟨x307, c308, rx307, tx307⟩, ⟨x309, c310, rx309, tx309⟩, g311, g312, g313, g314⟩ | ⟨rfl, ⟨x315, c316, rx315, tx315⟩, ⟨x317, c318, rx317, tx317⟩, ⟨x319, c320, rx319, tx319⟩, g321, g322, g323, g324⟩
  · have ex289 : x289.toInt = f0_.toInt := by rw [← c326.symm.trans c290]
    obtain ⟨x327, c328, rx327, tx327⟩ := hT.rda (lo := 0) (hi := 400) (i := (f0_.toInt).toNat) kM_at3 rfl rfl (by omega)
    obtain ⟨x329, c330, rx329, tx329⟩ := hT.rdi (lo := 0) (hi := 60) (k := 18) kM_at0 (by decide) rfl
    obtain ⟨x331, c332, rx331, tx331⟩ := hT.rda (lo := 0) (hi := 12) (i := (f0_.toInt).toNat) kM_at5 rfl rfl (by omega)
    have g293 : (0 : Int) ≤ x291.toInt := by have q := g293; simp only [c275, c326, c278, (show (0 : Int32).toInt = 0 by decide), c292] at q; omega
    have g294 : x291.toInt ≤ 12 := by have q := g294; simp only [c275, c326, c292] at q; omega
    refine lv_istore_n (lv' := [(1, .int 0), (0, .ref (ad 0))]) hx hb dX12_readsAll_34 rfl hl (by decide) rfl (fun ls hl => ?_)
    exact L35 ((2 * (32 - x291.toInt) + (0 : Int)).toNat + 1) 0 x285 x329 x291 x327 x331 H locs ls w283 (by decide) (by decide) (show 0 ≤ x285.toInt by omega) (show x285.toInt ≤ 400 by omega) (show 0 ≤ f0_.toInt by omega) (show f0_.toInt ≤ 5 by omega) (show 0 ≤ x329.toInt by omega) (show x329.toInt ≤ 60 by omega) (show 0 ≤ x291.toInt by omega) (show x291.toInt ≤ 12 by omega) (show 0 ≤ x327.toInt by omega) (show x327.toInt ≤ 400 by omega) (show 0 ≤ x331.toInt by omega) (show x331.toInt ≤ 12 by omega) (show ((0 : Int) = 0 ∨ 3 * x327.toInt ≤ 14 * x329.toInt) by omega) (show ((0 : Int) = 0 ∨ x331.toInt ≤ x291.toInt) by omega) (show x291.toInt ≤ 12 by omega) (Nat.lt_succ_self _) hw hT hF c286 c326 c330 c292 c328 c332 (lv_sub hl [1, 0] rfl)
  · have ex299 : x299.toInt = f0_.toInt := by rw [← c326.symm.trans c300]
    obtain ⟨x333, c334, rx333, tx333⟩ := hT.rda (lo := 0) (hi := 400) (i := (f0_.toInt).toNat) kM_at3 rfl rfl (by omega)
    obtain ⟨x335, c336, rx335, tx335⟩ := hT.rdi (lo := 0) (hi := 60) (k := 18) kM_at0 (by decide) rfl
    obtain ⟨x337, c338, rx337, tx337⟩ := hT.rda (lo := 0) (hi := 12) (i := (f0_.toInt).toNat) kM_at5 rfl rfl (by omega)
    have g303 : (0 : Int) ≤ x301.toInt := by have q := g303; simp only [c275, c326, c278, (show (0 : Int32).toInt = 0 by decide), c302] at q; omega
    have g304 : x301.toInt ≤ 12 := by have q := g304; simp only [c275, c326, c302] at q; omega
    refine lv_istore_n (lv' := [(1, .int 0), (0, .ref (ad 0))]) hx hb dX12_readsAll_34 rfl hl (by decide) rfl (fun ls hl => ?_)
    exact L35 ((2 * (32 - x301.toInt) + (0 : Int)).toNat + 1) 0 x295 x335 x301 x333 x337 H locs ls w283 (by decide) (by decide) (show 0 ≤ x295.toInt by omega) (show x295.toInt ≤ 400 by omega) (show 0 ≤ f0_.toInt by omega) (show f0_.toInt ≤ 5 by omega) (show 0 ≤ x335.toInt by omega) (show x335.toInt ≤ 60 by omega) (show 0 ≤ x301.toInt by omega) (show x301.toInt ≤ 12 by omega) (show 0 ≤ x333.toInt by omega) (show x333.toInt ≤ 400 by omega) (show 0 ≤ x337.toInt by omega) (show x337.toInt ≤ 12 by omega) (show ((0 : Int) = 0 ∨ 3 * x333.toInt ≤ 14 * x335.toInt) by omega) (show ((0 : Int) = 0 ∨ x337.toInt ≤ x301.toInt) by omega) (show x301.toInt ≤ 12 by omega) (Nat.lt_succ_self _) hw hT hF c296 c326 c336 c302 c334 c338 (lv_sub hl [1, 0] rfl)
  · have ex307 : x307.toInt = f0_.toInt := by rw [← c326.symm.trans c308]
    obtain ⟨x339, c340, rx339, tx339⟩ := hT.rda (lo := 0) (hi := 400) (i := (f0_.toInt).toNat) kM_at3 rfl rfl (by omega)
    obtain ⟨x341, c342, rx341, tx341⟩ := hT.rdi (lo := 0) (hi := 60) (k := 18) kM_at0 (by decide) rfl
    obtain ⟨x343, c344, rx343, tx343⟩ := hT.rda (lo := 0) (hi := 12) (i := (f0_.toInt).toNat) kM_at5 rfl rfl (by omega)
    have g311 : 3 * x339.toInt ≤ 14 * x341.toInt := by have q := g311; simp only [c275, c326, c340, c342] at q; omega
    have g312 : x343.toInt ≤ x309.toInt := by have q := g312; simp only [c275, c326, c344, c310] at q; omega
    have g313 : x309.toInt = (0 : Int) + 1 := by have q := g313; simp only [c275, c326, c278, (show (0 : Int32).toInt = 0 by decide), c310] at q; omega
    have g314 : x309.toInt ≤ 12 := by have q := g314; simp only [c275, c326, c310] at q; omega
    refine lv_istore_n (lv' := [(1, .int 1), (0, .ref (ad 0))]) hx hb dX12_readsAll_34 rfl hl (by decide) rfl (fun ls hl => ?_)
    exact L35 ((2 * (32 - x309.toInt) + (1 : Int)).toNat + 1) 1 x305 x341 x309 x339 x343 H locs ls w283 (by decide) (by decide) (show 0 ≤ x305.toInt by omega) (show x305.toInt ≤ 400 by omega) (show 0 ≤ f0_.toInt by omega) (show f0_.toInt ≤ 5 by omega) (show 0 ≤ x341.toInt by omega) (show x341.toInt ≤ 60 by omega) (show 0 ≤ x309.toInt by omega) (show x309.toInt ≤ 12 by omega) (show 0 ≤ x339.toInt by omega) (show x339.toInt ≤ 400 by omega) (show 0 ≤ x343.toInt by omega) (show x343.toInt ≤ 12 by omega) (show ((1 : Int) = 0 ∨ 3 * x339.toInt ≤ 14 * x341.toInt) by omega) (show ((1 : Int) = 0 ∨ x343.toInt ≤ x309.toInt) by omega) (show x309.toInt ≤ 12 by omega) (Nat.lt_succ_self _) hw hT hF c306 c326 c342 c310 c340 c344 (lv_sub hl [1, 0] rfl)
  · have ex317 : x317.toInt = f0_.toInt := by rw [← c326.symm.trans c318]
    obtain ⟨x345, c346, rx345, tx345⟩ := hT.rda (lo := 0) (hi := 400) (i := (f0_.toInt).toNat) kM_at3 rfl rfl (by omega)
    obtain ⟨x347, c348, rx347, tx347⟩ := hT.rdi (lo := 0) (hi := 60) (k := 18) kM_at0 (by decide) rfl
    obtain ⟨x349, c350, rx349, tx349⟩ := hT.rda (lo := 0) (hi := 12) (i := (f0_.toInt).toNat) kM_at5 rfl rfl (by omega)
    have g321 : 3 * x345.toInt ≤ 14 * x347.toInt := by have q := g321; simp only [c275, c326, c346, c348] at q; omega
    have g322 : x349.toInt ≤ x319.toInt := by have q := g322; simp only [c275, c326, c350, c320] at q; omega
    have g323 : x319.toInt = (0 : Int) + 1 := by have q := g323; simp only [c275, c326, c278, (show (0 : Int32).toInt = 0 by decide), c320] at q; omega
    have g324 : x319.toInt ≤ 12 := by have q := g324; simp only [c275, c326, c320] at q; omega
    refine lv_istore_n (lv' := [(1, .int 1), (0, .ref (ad 0))]) hx hb dX12_readsAll_34 rfl hl (by decide) rfl (fun ls hl => ?_)
    exact L35 ((2 * (32 - x319.toInt) + (1 : Int)).toNat + 1) 1 x315 x347 x319 x345 x349 H locs ls w283 (by decide) (by decide) (show 0 ≤ x315.toInt by omega) (show x315.toInt ≤ 400 by omega) (show 0 ≤ f0_.toInt by omega) (show f0_.toInt ≤ 5 by omega) (show 0 ≤ x347.toInt by omega) (show x347.toInt ≤ 60 by omega) (show 0 ≤ x319.toInt by omega) (show x319.toInt ≤ 12 by omega) (show 0 ≤ x345.toInt by omega) (show x345.toInt ≤ 400 by omega) (show 0 ≤ x349.toInt by omega) (show x349.toInt ≤ 12 by omega) (show ((1 : Int) = 0 ∨ 3 * x345.toInt ≤ 14 * x347.toInt) by omega) (show ((1 : Int) = 0 ∨ x349.toInt ≤ x319.toInt) by omega) (show x319.toInt ≤ 12 by omega) (Nat.lt_succ_self _) hw hT hF c316 c326 c348 c320 c346 c350 (lv_sub hl [1, 0] rfl)
abbrev P_X12_rule_1 (ad : Nat → Nat) (cy : Nat → ClassId) (B : Int) (qr : Nat) (s1 : Int)  (w0 : va_W) : Int32 → va_W → Prop := fun r u => TW ksM ad cy B qr 12 u ∧ FE ksM [(12, 1, 1), (12, 2, 2), (12, 14, 14), (12, 15, 15), (12, 16, 16), (12, 17, 17), (12, 18, 18), (12, 19, 19), (12, 20, 20), (12, 22, 22), (61, 0, 2400), (62, 0, 7), (63, 0, 216), (64, 0, 6), (68, 0, 400)] w0 u ∧ (((-3207) ≤ r.toInt ∧ r.toInt ≤ (-3) ∧ (∃ y : Int32, gi u 0 1 = y ∧ 0 ≤ y.toInt ∧ y.toInt ≤ 0) ∧ (∃ y : Int32, gi u 0 2 = y ∧ 0 ≤ y.toInt ∧ y.toInt ≤ 5) ∧ (∃ y : Int32, gi u 0 15 = y ∧ 1 ≤ y.toInt ∧ y.toInt ≤ 3205) ∧ (∃ y : Int32, gi u 0 17 = y ∧ 0 ≤ y.toInt ∧ y.toInt ≤ 5) ∧ (∃ y : Int32, gi u 0 20 = y ∧ 0 ≤ y.toInt ∧ y.toInt ≤ 12)) ∨ (0 ≤ r.toInt ∧ r.toInt ≤ 5 ∧ (∃ y : Int32, gi u 0 1 = y ∧ 0 ≤ y.toInt ∧ y.toInt ≤ 0) ∧ (∃ y : Int32, gi u 0 2 = y ∧ 1 ≤ y.toInt ∧ y.toInt ≤ 6) ∧ (∃ y : Int32, gi u 0 15 = y ∧ 0 ≤ y.toInt ∧ y.toInt ≤ 0) ∧ (∃ y : Int32, gi u 0 17 = y ∧ 0 ≤ y.toInt ∧ y.toInt ≤ 5) ∧ (∃ y : Int32, gi u 0 20 = y ∧ 0 ≤ y.toInt ∧ y.toInt ≤ 12)) ∨ (r = (-1) ∧ (∃ y : Int32, gi u 0 2 = y ∧ 6 ≤ y.toInt ∧ y.toInt ≤ 6)))
set_option maxHeartbeats 4000000 in
set_option maxRecDepth 100000 in
theorem k_X12_rule_1 (l : Launch) (adK adV : Nat → Nat) (dC : Nat → ClassId) (dI : Nat → Nat → Nat) (cy : Nat → ClassId) (ad : Nat → Nat) (B : Int) (hB0 : 100000 ≤ B) (hB1 : B ≤ 1073741824) (qr : Nat) (s1 : Int)   (w0 : va_W) (sz : Nat) (hT : TW ksM ad cy B qr 12 w0)  : Met l yX12_rule wsX12_rule ({ frames := 13, cells := 0, slots := 0, locals := 276 }) (va_Pc [.ref (ad 0)] (wpreS adK adV dC dI cy sz w0)) (va_Qi (P_X12_rule_1 ad cy B qr s1  w0) (fun u : va_W => wpost dC dI cy (va_A w0 sz) u) (va_A w0 sz)) 0 0 (va_A w0 sz) := by
  refine Met.ofW (cc := cX12_rule) (maxL := 1) (ret := (some .int)) (by decide) rfl ?_
  intro p e s m args below meth c s₁ Bk hml hv
  obtain ⟨rfl, ⟨hsz, hP, hK, hD0⟩, hE, hSR⟩ := hv
  have hx := Bk.exec
  have hb := Bk.bytes
  have hr := Bk.returns
  have hlocks := Bk.notSynchronized
  have hC : CallFix p m c cX12_rule 1 s _ wsX12_rule RX12 := ⟨hx, hb, hml, findClass_of_methodNamed Bk.named, atoms_spec (ws := wsX12_rule) Bk.pre⟩
  subst hsz
  have hD := hD0.self (sz := s.heap.size)
  generalize hAe : va_A w0 s.heap.size = A at hD hE ⊢
  have hA : ∀ q : Nat, s.heap.size ≤ q → A q := fun q h => by rw [← hAe]; exact Or.inr h
  have hw : Wd dC dI A s.heap s.heap [] w0 := ⟨hP, hD, va_S.rf⟩
  have hF : FE ksM [(12, 1, 1), (12, 2, 2), (12, 14, 14), (12, 15, 15), (12, 16, 16), (12, 17, 17), (12, 18, 18), (12, 19, 19), (12, 20, 20), (12, 22, 22), (61, 0, 2400), (62, 0, 7), (63, 0, 216), (64, 0, 6), (68, 0, 400)] w0 w0 := FE.rf
  have hl := lv_entry ([.ref (ad 0)]) (n := 1) (Nat.le_of_ble_eq_true rfl)
  rw [lg_entry_eq]
  generalize (lg_sl ([.ref (ad 0)]) ++ List.replicate (1 - (lg_sl ([.ref (ad 0)])).length) Slot.unset).toArray = ls at hl ⊢
  have hl : lv_has ls 1 [(0, .ref (ad 0))] := hl
  generalize hloc : ([] : List Loc) = locs at hw ⊢
  have hinX12 : ∀ w ∈ u_ws RX12 TX12 42, w ∈ wsX12_rule := fun _ h => List.mem_cons_of_mem _ (List.mem_append_right _ (h))
  refine lv_aload_n hx hb dX12_rule_0 rfl (lv_at hl 0 rfl) ?_
  refine tk_geti hC hK hw hT hinX12 kM_at0 (by decide) rfl 2 (by decide) (List.mem_of_getElem? (i := 1) rfl) rfl rfl dX12_rule_1 (fun x1 c2 rx1 tx1 => ?_)
  refine lv_bipush (v := 6) hx hb dX12_rule_4 (by decide) ?_
  refine lv_icmp_ne (tgt := 11) hx hb dX12_rule_6 (by decide) (fun c3 => ?_) (fun c3 => ?_)
  · have c3 : ¬ x1.toInt = (6 : Int) := wk_eqF c3
    refine lv_aload_n hx hb dX12_rule_11 rfl (lv_at hl 0 rfl) ?_
    refine lv_aload_n hx hb dX12_rule_12 rfl (lv_at hl 0 rfl) ?_
    refine tk_geti hC hK hw hT hinX12 kM_at0 (by decide) rfl 2 (by decide) (List.mem_of_getElem? (i := 1) rfl) rfl rfl dX12_rule_13 (fun x4 c5 rx4 tx4 => ?_)
    refine wk_top x1 (c5.symm.trans c2) ?_
    refine tk_puti hC hK hw hT hinX12 tyX12_ok nmX12 kM_at0 (by decide) rfl rfl 17 (by decide) (List.mem_of_getElem? (i := 2) rfl) rfl rfl rfl rfl (show 0 ≤ x1.toInt by omega) (show x1.toInt ≤ 6 by omega) dX12_rule_16 (fun H locs w6 hw hT k8 c7 => ?_)
    have hF := hF.put kM_at0 (k := 17) (by decide) k8
    have c9 := k8.gi (Or.inr (by decide)) c2
    refine lv_aload_n hx hb dX12_rule_19 rfl (lv_at hl 0 rfl) ?_
    refine tk_getA hC hK hw hT hinX12 kM_at0 (by decide) rfl 6 (by decide) (List.mem_of_getElem? (i := 3) rfl) rfl rfl dX12_rule_20 ?_
    refine lv_aload_n hx hb dX12_rule_23 rfl (lv_at hl 0 rfl) ?_
    refine tk_geti hC hK hw hT hinX12 kM_at0 (by decide) rfl 17 (by decide) (List.mem_of_getElem? (i := 2) rfl) rfl rfl dX12_rule_24 (fun x10 c11 rx10 tx10 => ?_)
    refine wk_top x1 (c11.symm.trans c7) ?_
    refine lv_iconst (v := 0) hx hb dX12_rule_27 (by decide) ?_
    refine tk_iast hC hK hw hT kM_at5 (by decide) rfl rfl (show 0 ≤ x1.toInt by omega) (show x1.toInt < 6 by omega) (by decide) (by decide) dX12_rule_28 (fun H locs w12 hw hT k14 c13 => ?_)
    have hF := hF.put kM_at5 (inE_of (a := 0) (b := 6) (by decide) (show 0 ≤ x1.toInt.toNat by omega) (show x1.toInt.toNat ≤ 6 by omega)) k14
    have c15 := k14.gi (Or.inl (tk_ne kM_at0 kM_at5 (by decide))) c9
    have c16 := k14.gi (Or.inl (tk_ne kM_at0 kM_at5 (by decide))) c7
    have c13 : gi w12 5 (x1.toInt).toNat = 0 := (congrArg (gi w12 5) (congrArg Int.toNat (show x1.toInt = x1.toInt by omega))).trans c13
    refine lv_aload_n hx hb dX12_rule_29 rfl (lv_at hl 0 rfl) ?_
    obtain ⟨x17, c18, rx17, tx17⟩ := hT.rda (lo := 0) (hi := 400) (i := (x1.toInt).toNat) kM_at3 rfl rfl (by omega)
    obtain ⟨x19, c20, rx19, tx19⟩ := hT.rdi (lo := 0) (hi := 60) (k := 18) kM_at0 (by decide) rfl
    obtain ⟨x21, c22, rx21, tx21⟩ := hT.rdi (lo := 0) (hi := 32) (k := 20) kM_at0 (by decide) rfl
    refine tk_Vi hC hK hw hT hA hE hSR kM_at0 (by decide) rfl (k_X12_readsAll_2 l adK adV dC dI cy ad B (by omega) (by omega) qr s1    w12 H.size hT x1 c16 (show 0 ≤ x1.toInt by omega) (show x1.toInt ≤ 5 by omega) x19 c20 (show 0 ≤ x19.toInt by omega) (show x19.toInt ≤ 60 by omega) x21 c22 (show 0 ≤ x21.toInt by omega) (show x21.toInt ≤ 32 by omega) x17 c18 (show 0 ≤ x17.toInt by omega) (show x17.toInt ≤ 400 by omega) 0 c13 (by decide) (by decide) (show (0 : Int) ≤ 0 by omega)) (cwV 0 hC.2.2.2.2 gX12_rule_X12_readsAll rfl rfl rfl (by decide +kernel) ⟨Nat.le_of_ble_eq_true rfl, Nat.le_of_ble_eq_true rfl⟩) rfl hl.1 rfl (Nat.le_of_ble_eq_true rfl) dX12_rule_30 (fun r23 w25 H locs hp24 hw => ?_)
    obtain ⟨hT, k26, hg43⟩ := hp24
    have hF := hF.tr k26 (by decide)
    have c44 := k26.gi kM_at0 (by decide) c15
    have c45 := k26.gi kM_at0 (by decide) c16
    rcases hg43 with ⟨rfl, ⟨x27, c28, rx27, tx27⟩, ⟨x29, c30, rx29, tx29⟩, ⟨x31, c32, rx31, tx31⟩, ⟨x33, c34, rx33, tx33⟩⟩ | ⟨rfl, ⟨x35, c36, rx35, tx35⟩, ⟨x37, c38, rx37, tx37⟩, ⟨x39, c40, rx39, tx39⟩, ⟨x41, c42, rx41, tx41⟩⟩
    · have ex31 : x31.toInt = x1.toInt := by rw [← c45.symm.trans c32]
      obtain ⟨x46, c47, rx46, tx46⟩ := hT.rda (lo := 0) (hi := 400) (i := (x1.toInt).toNat) kM_at3 rfl rfl (by omega)
      obtain ⟨x48, c49, rx48, tx48⟩ := hT.rdi (lo := 0) (hi := 60) (k := 18) kM_at0 (by decide) rfl
      obtain ⟨x50, c51, rx50, tx50⟩ := hT.rda (lo := 0) (hi := 12) (i := (x1.toInt).toNat) kM_at5 rfl rfl (by omega)
      refine lv_if_ne (tgt := 44) hx hb dX12_rule_33 (by decide) (fun c => absurd (by decide) c) (fun _ => ?_)
      refine lv_bipush (v := (-2)) hx hb dX12_rule_36 (by decide) ?_
      refine lv_aload_n hx hb dX12_rule_38 rfl (lv_at hl 0 rfl) ?_
      refine tk_geti hC hK hw hT hinX12 kM_at0 (by decide) rfl 15 (by decide) (List.mem_of_getElem? (i := 4) rfl) rfl rfl dX12_rule_39 (fun x58 c59 rx58 tx58 => ?_)
      refine wk_top x29 (c59.symm.trans c30) ?_
      refine lv_isub hx hb dX12_rule_42 ?_
      refine lv_topi (fun x60 ex60 => ?_)
      have ex60 : x60.toInt = (-2 : Int) - x29.toInt := by rw [ex60]; exact wk_sub (show (-2147483648) ≤ (-2 : Int) - x29.toInt by omega) (show (-2 : Int) - x29.toInt ≤ 2147483647 by omega)
      exact tk_iret hC hr hlocks hK ⟨hT, hF, (Or.inl ⟨(show (-3207) ≤ x60.toInt by omega), (show x60.toInt ≤ (-3) by omega), ⟨x27, c28, (show 0 ≤ x27.toInt by omega), (show x27.toInt ≤ 0 by omega)⟩, ⟨x1, c44, (show 0 ≤ x1.toInt by omega), (show x1.toInt ≤ 5 by omega)⟩, ⟨x29, c30, (show 1 ≤ x29.toInt by omega), (show x29.toInt ≤ 3205 by omega)⟩, ⟨x1, c45, (show 0 ≤ x1.toInt by omega), (show x1.toInt ≤ 5 by omega)⟩, ⟨x33, c34, (show 0 ≤ x33.toInt by omega), (show x33.toInt ≤ 12 by omega)⟩⟩)⟩ hw dX12_rule_43
    · have ex39 : x39.toInt = x1.toInt := by rw [← c45.symm.trans c40]
      obtain ⟨x52, c53, rx52, tx52⟩ := hT.rda (lo := 0) (hi := 400) (i := (x1.toInt).toNat) kM_at3 rfl rfl (by omega)
      obtain ⟨x54, c55, rx54, tx54⟩ := hT.rdi (lo := 0) (hi := 60) (k := 18) kM_at0 (by decide) rfl
      obtain ⟨x56, c57, rx56, tx56⟩ := hT.rda (lo := 0) (hi := 12) (i := (x1.toInt).toNat) kM_at5 rfl rfl (by omega)
      refine lv_if_ne (tgt := 44) hx hb dX12_rule_33 (by decide) (fun _ => ?_) (fun c => absurd c (by decide))
      refine lv_aload_n hx hb dX12_rule_44 rfl (lv_at hl 0 rfl) ?_
      refine lv_dup hx hb dX12_rule_45 rfl ?_
      refine tk_geti hC hK hw hT hinX12 kM_at0 (by decide) rfl 2 (by decide) (List.mem_of_getElem? (i := 1) rfl) rfl rfl dX12_rule_46 (fun x61 c62 rx61 tx61 => ?_)
      refine wk_top x1 (c62.symm.trans c44) ?_
      refine lv_iconst (v := 1) hx hb dX12_rule_49 (by decide) ?_
      refine lv_iadd hx hb dX12_rule_50 ?_
      refine lv_topi (fun x63 ex63 => ?_)
      have ex63 : x63.toInt = x1.toInt + (1 : Int) := by rw [ex63]; exact wk_add (show (-2147483648) ≤ x1.toInt + (1 : Int) by omega) (show x1.toInt + (1 : Int) ≤ 2147483647 by omega)
      refine tk_puti hC hK hw hT hinX12 tyX12_ok nmX12 kM_at0 (by decide) rfl rfl 2 (by decide) (List.mem_of_getElem? (i := 1) rfl) rfl rfl rfl rfl (show 0 ≤ x63.toInt by omega) (show x63.toInt ≤ 6 by omega) dX12_rule_51 (fun H locs w64 hw hT k66 c65 => ?_)
      have hF := hF.put kM_at0 (k := 2) (by decide) k66
      have c67 := k66.gi (Or.inr (by decide)) c45
      have c68 := k66.gi (Or.inr (by decide)) c36
      have c69 := k66.gi (Or.inr (by decide)) c38
      have c70 := k66.gi (Or.inr (by decide)) c42
      have c71 := k66.gi (Or.inl (tk_ne kM_at3 kM_at0 (by decide))) c53
      have c72 := k66.gi (Or.inr (by decide)) c55
      have c73 := k66.gi (Or.inl (tk_ne kM_at5 kM_at0 (by decide))) c57
      refine lv_aload_n hx hb dX12_rule_54 rfl (lv_at hl 0 rfl) ?_
      refine tk_geti hC hK hw hT hinX12 kM_at0 (by decide) rfl 2 (by decide) (List.mem_of_getElem? (i := 1) rfl) rfl rfl dX12_rule_55 (fun x74 c75 rx74 tx74 => ?_)
      refine wk_top x63 (c75.symm.trans c65) ?_
      refine lv_iconst (v := 1) hx hb dX12_rule_58 (by decide) ?_
      refine lv_isub hx hb dX12_rule_59 ?_
      refine lv_topi (fun x76 ex76 => ?_)
      have ex76 : x76.toInt = x63.toInt - (1 : Int) := by rw [ex76]; exact wk_sub (show (-2147483648) ≤ x63.toInt - (1 : Int) by omega) (show x63.toInt - (1 : Int) ≤ 2147483647 by omega)
      exact tk_iret hC hr hlocks hK ⟨hT, hF, (Or.inr (Or.inl ⟨(show 0 ≤ x76.toInt by omega), (show x76.toInt ≤ 5 by omega), ⟨x35, c68, (show 0 ≤ x35.toInt by omega), (show x35.toInt ≤ 0 by omega)⟩, ⟨x63, c65, (show 1 ≤ x63.toInt by omega), (show x63.toInt ≤ 6 by omega)⟩, ⟨x37, c69, (show 0 ≤ x37.toInt by omega), (show x37.toInt ≤ 0 by omega)⟩, ⟨x1, c67, (show 0 ≤ x1.toInt by omega), (show x1.toInt ≤ 5 by omega)⟩, ⟨x41, c70, (show 0 ≤ x41.toInt by omega), (show x41.toInt ≤ 12 by omega)⟩⟩))⟩ hw dX12_rule_60
  · have c3 : x1.toInt = (6 : Int) := wk_eq.mp c3
    refine lv_iconst (v := (-1)) hx hb dX12_rule_9 (by decide) ?_
    exact tk_iret hC hr hlocks hK ⟨hT, hF, (Or.inr (Or.inr ⟨rfl, ⟨x1, c2, (show 6 ≤ x1.toInt by omega), (show x1.toInt ≤ 6 by omega)⟩⟩))⟩ hw dX12_rule_10
