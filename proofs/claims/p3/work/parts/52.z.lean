abbrev Pz_X12_readsAll_2 (ad : Nat → Nat) (cy : Nat → ClassId) (B : Int) (qr : Nat) (s1 : Int)  (w0 : va_W) : Int32 → va_W → Prop := fun r u => TW ksM ad cy B qr 12 u ∧ FE ksM [(12, 1, 1), (12, 14, 14), (12, 15, 15), (12, 16, 16), (12, 18, 18), (12, 19, 19), (12, 20, 20), (12, 22, 22), (61, 0, 2400), (62, 0, 7), (63, 0, 216), (64, 0, 6), (68, 0, 400)] w0 u ∧ Ev (fun n => m_X12_readsAll n 0 (sI w0)) (r.toInt, sI u) ∧ ((r = 0 ∧ (∃ y : Int32, gi u 0 1 = y ∧ 0 ≤ y.toInt ∧ y.toInt ≤ 0) ∧ (∃ y : Int32, gi u 0 15 = y ∧ 1 ≤ y.toInt ∧ y.toInt ≤ 3205) ∧ (∃ y : Int32, gi u 0 17 = y ∧ 0 ≤ y.toInt ∧ y.toInt ≤ 5) ∧ (∃ y : Int32, gi u 0 20 = y ∧ 0 ≤ y.toInt ∧ y.toInt ≤ 12) ∧ RW u) ∨ (r = 1 ∧ (∃ y : Int32, gi u 0 1 = y ∧ 0 ≤ y.toInt ∧ y.toInt ≤ 0) ∧ (∃ y : Int32, gi u 0 15 = y ∧ 0 ≤ y.toInt ∧ y.toInt ≤ 0) ∧ (∃ y : Int32, gi u 0 17 = y ∧ 0 ≤ y.toInt ∧ y.toInt ≤ 5) ∧ (∃ y : Int32, gi u 0 20 = y ∧ 0 ≤ y.toInt ∧ y.toInt ≤ 12) ∧ RW u))
set_option maxHeartbeats 4000000 in
set_option maxRecDepth 100000 in
theorem kz_X12_readsAll_2 (l : Launch) (adK adV : Nat → Nat) (dC : Nat → ClassId) (dI : Nat → Nat → Nat) (cy : Nat → ClassId) (ad : Nat → Nat) (B : Int) (hB0 : 100000 ≤ B) (hB1 : B ≤ 1073741824) (qr : Nat) (s1 : Int)   (w0 : va_W) (sz : Nat) (hT : TW ksM ad cy B qr 12 w0) (f0_ : Int32) (cf0_ : gi w0 0 17 = f0_) (rf0_ : 0 ≤ f0_.toInt) (tf0_ : f0_.toInt ≤ 5) (f1_ : Int32) (cf1_ : gi w0 0 18 = f1_) (rf1_ : 0 ≤ f1_.toInt) (tf1_ : f1_.toInt ≤ 60) (f2_ : Int32) (cf2_ : gi w0 0 20 = f2_) (rf2_ : 0 ≤ f2_.toInt) (tf2_ : f2_.toInt ≤ 32) (f3_ : Int32) (cf3_ : gi w0 3 (f0_.toInt).toNat = f3_) (rf3_ : 0 ≤ f3_.toInt) (tf3_ : f3_.toInt ≤ 400) (f4_ : Int32) (cf4_ : gi w0 5 (f0_.toInt).toNat = f4_) (rf4_ : 0 ≤ f4_.toInt) (tf4_ : f4_.toInt ≤ 12) (pr0_ : f4_.toInt ≤ 0) (hRW : RW w0) : Met l yX12_readsAll wsX12_readsAll ({ frames := 12, cells := 0, slots := 0, locals := 255 }) (va_Pc [.ref (ad 0)] (wpreS adK adV dC dI cy sz w0)) (va_Qi (Pz_X12_readsAll_2 ad cy B qr s1  w0) (fun u : va_W => wpost dC dI cy (va_A w0 sz) u) (va_A w0 sz)) 0 0 (va_A w0 sz) := by
  refine Met.ofW (cc := cX12_readsAll) (maxL := 2) (ret := (some .boolean)) (by decide) rfl ?_
  intro p e s m args below meth c s₁ Bk hml hv
  obtain ⟨rfl, ⟨hsz, hP, hK, hD0⟩, hE, hSR⟩ := hv
  have hx := Bk.exec
  have hb := Bk.bytes
  have hr := Bk.returns
  have hlocks := Bk.notSynchronized
  have hC : CallFix p m c cX12_readsAll 2 s _ wsX12_readsAll RX12 := ⟨hx, hb, hml, findClass_of_methodNamed Bk.named, atoms_spec (ws := wsX12_readsAll) Bk.pre⟩
  subst hsz
  have hD := hD0.self (sz := s.heap.size)
  generalize hAe : va_A w0 s.heap.size = A at hD hE ⊢
  have hA : ∀ q : Nat, s.heap.size ≤ q → A q := fun q h => by rw [← hAe]; exact Or.inr h
  have hw : Wd dC dI A s.heap s.heap [] w0 := ⟨hP, hD, va_S.rf⟩
  have hF : FE ksM [(12, 1, 1), (12, 14, 14), (12, 15, 15), (12, 16, 16), (12, 18, 18), (12, 19, 19), (12, 20, 20), (12, 22, 22), (61, 0, 2400), (62, 0, 7), (63, 0, 216), (64, 0, 6), (68, 0, 400)] w0 w0 := FE.rf
  have hl := lv_entry ([.ref (ad 0)]) (n := 2) (Nat.le_of_ble_eq_true rfl)
  rw [lg_entry_eq]
  generalize (lg_sl ([.ref (ad 0)]) ++ List.replicate (2 - (lg_sl ([.ref (ad 0)])).length) Slot.unset).toArray = ls at hl ⊢
  have hl : lv_has ls 2 [(0, .ref (ad 0))] := hl
  generalize hloc : ([] : List Loc) = locs at hw ⊢
  have hinX12 : ∀ w ∈ u_ws RX12 TX12 42, w ∈ wsX12_readsAll := fun _ h => List.mem_cons_of_mem _ (List.mem_append_right _ (h))
  have J88 : ∀ (v88_1 : Int32) (f88_0_1 : Int32) (f88_0_18 : Int32) (f88_0_20 : Int32) (f88_3__f0__toInt_toNat : Int32) (f88_5__f0__toInt_toNat : Int32) (H : Heap) (locs : List Loc) (ls : Array Slot) (w1 : va_W), 0 ≤ v88_1.toInt → v88_1.toInt ≤ 1 → 0 ≤ f88_0_1.toInt → f88_0_1.toInt ≤ 400 → 0 ≤ f0_.toInt → f0_.toInt ≤ 5 → 0 ≤ f88_0_18.toInt → f88_0_18.toInt ≤ 60 → 0 ≤ f88_0_20.toInt → f88_0_20.toInt ≤ 12 → 0 ≤ f88_3__f0__toInt_toNat.toInt → f88_3__f0__toInt_toNat.toInt ≤ 400 → 0 ≤ f88_5__f0__toInt_toNat.toInt → f88_5__f0__toInt_toNat.toInt ≤ 12 → ((v88_1.toInt = 0 ∨ 3 * f88_3__f0__toInt_toNat.toInt ≤ 14 * f88_0_18.toInt)) → ((v88_1.toInt = 0 ∨ f88_5__f0__toInt_toNat.toInt ≤ f88_0_20.toInt)) → (f88_0_20.toInt ≤ 12) → Wd dC dI A s.heap H locs w1 → TW ksM ad cy B qr 12 w1 → FE ksM [(12, 1, 1), (12, 14, 14), (12, 15, 15), (12, 16, 16), (12, 18, 18), (12, 19, 19), (12, 20, 20), (12, 22, 22), (61, 0, 2400), (62, 0, 7), (63, 0, 216), (64, 0, 6), (68, 0, 400)] w0 w1 → RLc w1 f0_.toInt → gi w1 0 1 = f88_0_1 → gi w1 0 17 = f0_ → gi w1 0 18 = f88_0_18 → gi w1 0 20 = f88_0_20 → gi w1 3 (f0_.toInt).toNat = f88_3__f0__toInt_toNat → gi w1 5 (f0_.toInt).toNat = f88_5__f0__toInt_toNat → TT (fun n => m_X12_readsAll n 0 (sI w0)) (fun n => b_X12_readsAll_88 (j_X12_readsAll 0 n) n 0 (sI w1)) → lv_has ls 2 [(0, .ref (ad 0)), (1, .int v88_1)] → W p l e ({ frames := 12, cells := 0, slots := 0, locals := 255 }) s m (List.toArray [.ref (ad 0)]) below meth c H locs 0 0 (MQ below (va_Qi (Pz_X12_readsAll_2 ad cy B qr s1  w0) (fun u : va_W => wpost dC dI cy A u) A) (List.toArray [.ref (ad 0)]) s 0 0 A) (F0 m 88 ls []) := by
    intro v88_1 f88_0_1 f88_0_18 f88_0_20 f88_3__f0__toInt_toNat f88_5__f0__toInt_toNat H locs ls w1 r2 t3 r4 t5 r7 t8 r10 t11 r13 t14 r16 t17 r19 t20 hcr88_0 hcr88_1 hcr88_2 hw hT hF hR c6 c9 c12 c15 c18 c21 hM hl
    refine lv_aload_n hx hb dX12_readsAll_88 rfl (lv_at hl 0 rfl) ?_
    refine lv_iconst (v := 0) hx hb dX12_readsAll_89 (by decide) ?_
    refine tk_puti hC hK hw hT hinX12 tyX12_ok nmX12 kM_at0 (by decide) rfl rfl 1 (by decide) (List.mem_of_getElem? (i := 7) rfl) rfl rfl rfl rfl (by decide) (by decide) dX12_readsAll_90 (fun H locs w22 hw hT k24 c23 => ?_)
    replace hM := hM.wr (sI_upc k24 c23 (by decide))
    have hR := RL_F1 k24 (by decide) (by decide) (by decide) (by decide) hR
    have hF := hF.put kM_at0 (k := 1) (by decide) k24
    have c25 := k24.gi (Or.inr (by decide)) c9
    have c26 := k24.gi (Or.inr (by decide)) c12
    have c27 := k24.gi (Or.inr (by decide)) c15
    have c28 := k24.gi (Or.inl (tk_ne kM_at3 kM_at0 (by decide))) c18
    have c29 := k24.gi (Or.inl (tk_ne kM_at5 kM_at0 (by decide))) c21
    refine lv_aload_n hx hb dX12_readsAll_93 rfl (lv_at hl 0 rfl) ?_
    refine tk_geti hC hK hw hT hinX12 kM_at0 (by decide) rfl 15 (by decide) (List.mem_of_getElem? (i := 5) rfl) rfl rfl dX12_readsAll_94 (fun x30 c31 rx30 tx30 => ?_)
    replace hM := hM.rd (sI_at c31)
    refine lv_if_ne (tgt := 104) hx hb dX12_readsAll_97 (by decide) (fun c32 => ?_) (fun c32 => ?_)
    · have c32 : ¬ x30.toInt = (0 : Int) := wk_eqF c32
      replace hM := hM.pos c32
      refine lv_iconst (v := 0) hx hb dX12_readsAll_104 (by decide) ?_
      exact tk_zret hC hr rfl hlocks hK ⟨hT, hF, hM.ret (by decide), (Or.inl ⟨rfl, ⟨0, c23, (by decide), (by decide)⟩, ⟨x30, c31, (show 1 ≤ x30.toInt by omega), (show x30.toInt ≤ 3205 by omega)⟩, ⟨f0_, c25, (show 0 ≤ f0_.toInt by omega), (show f0_.toInt ≤ 5 by omega)⟩, ⟨f88_0_20, c27, (show 0 ≤ f88_0_20.toInt by omega), (show f88_0_20.toInt ≤ 12 by omega)⟩, hR.2.1⟩)⟩ hw dX12_readsAll_105
    · have c32 : x30.toInt = (0 : Int) := wk_eq.mp c32
      replace hM := hM.neg (fun q => q c32)
      refine lv_iconst (v := 1) hx hb dX12_readsAll_100 (by decide) ?_
      refine lv_goto (tgt := 105) hx hb dX12_readsAll_101 (by decide) ?_
      exact tk_zret hC hr rfl hlocks hK ⟨hT, hF, hM.ret (by decide), (Or.inr ⟨rfl, ⟨0, c23, (by decide), (by decide)⟩, ⟨x30, c31, (show 0 ≤ x30.toInt by omega), (show x30.toInt ≤ 0 by omega)⟩, ⟨f0_, c25, (show 0 ≤ f0_.toInt by omega), (show f0_.toInt ≤ 5 by omega)⟩, ⟨f88_0_20, c27, (show 0 ≤ f88_0_20.toInt by omega), (show f88_0_20.toInt ≤ 12 by omega)⟩, hR.2.1⟩)⟩ hw dX12_readsAll_105
  have J66 : ∀ (v66_1 : Int32) (f66_0_1 : Int32) (f66_0_18 : Int32) (f66_0_20 : Int32) (f66_3__f0__toInt_toNat : Int32) (f66_5__f0__toInt_toNat : Int32) (H : Heap) (locs : List Loc) (ls : Array Slot) (w33 : va_W), 0 ≤ v66_1.toInt → v66_1.toInt ≤ 1 → 0 ≤ f66_0_1.toInt → f66_0_1.toInt ≤ 400 → 0 ≤ f0_.toInt → f0_.toInt ≤ 5 → 0 ≤ f66_0_18.toInt → f66_0_18.toInt ≤ 60 → 0 ≤ f66_0_20.toInt → f66_0_20.toInt ≤ 12 → 0 ≤ f66_3__f0__toInt_toNat.toInt → f66_3__f0__toInt_toNat.toInt ≤ 400 → 0 ≤ f66_5__f0__toInt_toNat.toInt → f66_5__f0__toInt_toNat.toInt ≤ 12 → ((v66_1.toInt = 0 ∨ 3 * f66_3__f0__toInt_toNat.toInt ≤ 14 * f66_0_18.toInt)) → ((v66_1.toInt = 0 ∨ f66_5__f0__toInt_toNat.toInt ≤ f66_0_20.toInt)) → (f66_0_20.toInt ≤ 12) → Wd dC dI A s.heap H locs w33 → TW ksM ad cy B qr 12 w33 → FE ksM [(12, 1, 1), (12, 14, 14), (12, 15, 15), (12, 16, 16), (12, 18, 18), (12, 19, 19), (12, 20, 20), (12, 22, 22), (61, 0, 2400), (62, 0, 7), (63, 0, 216), (64, 0, 6), (68, 0, 400)] w0 w33 → RLc w33 f0_.toInt → gi w33 0 1 = f66_0_1 → gi w33 0 17 = f0_ → gi w33 0 18 = f66_0_18 → gi w33 0 20 = f66_0_20 → gi w33 3 (f0_.toInt).toNat = f66_3__f0__toInt_toNat → gi w33 5 (f0_.toInt).toNat = f66_5__f0__toInt_toNat → TT (fun n => m_X12_readsAll n 0 (sI w0)) (fun n => b_X12_readsAll_66 (j_X12_readsAll 0 n) n 0 (v66_1.toInt) (sI w33)) → lv_has ls 2 [(0, .ref (ad 0)), (1, .int v66_1)] → W p l e ({ frames := 12, cells := 0, slots := 0, locals := 255 }) s m (List.toArray [.ref (ad 0)]) below meth c H locs 0 0 (MQ below (va_Qi (Pz_X12_readsAll_2 ad cy B qr s1  w0) (fun u : va_W => wpost dC dI cy A u) A) (List.toArray [.ref (ad 0)]) s 0 0 A) (F0 m 66 ls []) := by
    intro v66_1 f66_0_1 f66_0_18 f66_0_20 f66_3__f0__toInt_toNat f66_5__f0__toInt_toNat H locs ls w33 r34 t35 r36 t37 r39 t40 r42 t43 r45 t46 r48 t49 r51 t52 hcr66_0 hcr66_1 hcr66_2 hw hT hF hR c38 c41 c44 c47 c50 c53 hM hl
    refine lv_iload_n hx hb dX12_readsAll_66 rfl (lv_at hl 1 rfl) ?_
    refine lv_if_eq (tgt := 88) hx hb dX12_readsAll_67 (by decide) (fun c54 => ?_) (fun c54 => ?_)
    · have c54 : v66_1.toInt = (0 : Int) := wk_eq.mp c54
      replace hM := hM.pos c54
      exact J88 v66_1 f66_0_1 f66_0_18 f66_0_20 f66_3__f0__toInt_toNat f66_5__f0__toInt_toNat H locs ls w33 (show 0 ≤ v66_1.toInt by omega) (show v66_1.toInt ≤ 1 by omega) (show 0 ≤ f66_0_1.toInt by omega) (show f66_0_1.toInt ≤ 400 by omega) (show 0 ≤ f0_.toInt by omega) (show f0_.toInt ≤ 5 by omega) (show 0 ≤ f66_0_18.toInt by omega) (show f66_0_18.toInt ≤ 60 by omega) (show 0 ≤ f66_0_20.toInt by omega) (show f66_0_20.toInt ≤ 12 by omega) (show 0 ≤ f66_3__f0__toInt_toNat.toInt by omega) (show f66_3__f0__toInt_toNat.toInt ≤ 400 by omega) (show 0 ≤ f66_5__f0__toInt_toNat.toInt by omega) (show f66_5__f0__toInt_toNat.toInt ≤ 12 by omega) (show (v66_1.toInt = 0 ∨ 3 * f66_3__f0__toInt_toNat.toInt ≤ 14 * f66_0_18.toInt) by omega) (show (v66_1.toInt = 0 ∨ f66_5__f0__toInt_toNat.toInt ≤ f66_0_20.toInt) by omega) (show f66_0_20.toInt ≤ 12 by omega)  hw hT hF hR c38 c41 c44 c47 c50 c53 hM (lv_sub hl [0, 1] rfl)
    · have c54 : ¬ v66_1.toInt = (0 : Int) := wk_eqF c54
      replace hM := hM.neg c54
      refine lv_aload_n hx hb dX12_readsAll_70 rfl (lv_at hl 0 rfl) ?_
      obtain ⟨x55, c56, rx55, tx55⟩ := hT.rdi (lo := 0) (hi := 400) (k := 14) kM_at0 (by decide) rfl
      refine tk_Vi hC hK hw hT hA hE hSR kM_at0 (by decide) rfl (kz_X12_see_1 l adK adV dC dI cy ad B (by omega) (by omega) qr s1    w33 H.size hT x55 c56 (show 0 ≤ x55.toInt by omega) (show x55.toInt ≤ 400 by omega)) (cwV 0 hC.2.2.2.2 gX12_readsAll_X12_see rfl rfl rfl (by decide +kernel) ⟨Nat.le_of_ble_eq_true rfl, Nat.le_of_ble_eq_true rfl⟩) rfl hl.1 rfl (Nat.le_of_ble_eq_true rfl) dX12_readsAll_71 (fun r57 w59 H locs hp58 hw => ?_)
      obtain ⟨hT, k60, hv78, hg77⟩ := hp58
      have hR := RL_FE k60 (fun _ => rfl) (fun _ => rfl) (fun _ => rfl) (fun _ => rfl) hR
      have hF := hF.tr k60 (by decide)
      have c79 := k60.gi kM_at0 (by decide) c38
      have c80 := k60.gi kM_at0 (by decide) c41
      have c81 := k60.gi kM_at0 (by decide) c44
      have c82 := k60.gi kM_at0 (by decide) c47
      have c83 := k60.gi kM_at3 rfl c50
      have c84 := k60.gi kM_at5 rfl c53
      rcases hg77 with ⟨g61, g62, ⟨x63, c64, rx63, tx63⟩, ⟨x65, c66, rx65, tx65⟩, g67, g68⟩ | ⟨rfl, ⟨x69, c70, rx69, tx69⟩, ⟨x71, c72, rx71, tx71⟩, g73⟩ | ⟨rfl, ⟨x74, c75, rx74, tx74⟩, g76⟩
      · replace hM := hM.call hv78 rfl
        have ex63 : x63.toInt = f66_0_1.toInt := by rw [← c79.symm.trans c64]
        have g67 : (gi w59 1 (x65.toInt).toNat).toInt ≠ 32 := by have q := g67; simp only [c41, c80, c66] at q; omega
        have g68 : (x65.toInt = x55.toInt ∨ (gi w33 1 (x55.toInt).toNat).toInt = 32) := by have q := g68; simp only [c41, c80, c56, c66] at q; omega
        refine lv_iconst (v := (-1)) hx hb dX12_readsAll_74 (by decide) ?_
        refine lv_icmp_eq (tgt := 88) hx hb dX12_readsAll_75 (by decide) (fun c => absurd c (fun h => absurd (show r57.toInt = (-1 : Int) from wk_eq.mp h) (by omega))) (fun _ => ?_)
        replace hM := hM.neg (by omega)
        refine lv_aload_n hx hb dX12_readsAll_78 rfl (lv_at hl 0 rfl) ?_
        refine lv_iconst (v := 0) hx hb dX12_readsAll_79 (by decide) ?_
        refine lv_aload_n hx hb dX12_readsAll_80 rfl (lv_at hl 0 rfl) ?_
        refine tk_geti hC hK hw hT hinX12 kM_at0 (by decide) rfl 14 (by decide) (List.mem_of_getElem? (i := 4) rfl) rfl rfl dX12_readsAll_81 (fun x87 c88 rx87 tx87 => ?_)
        refine wk_top x65 (c88.symm.trans c66) ?_
        replace hM := hM.rd (sI_at c66)
        refine tk_Vi hC hK hw hT hA hE hSR kM_at0 (by decide) rfl (kz_X12_fails_1 l adK adV dC dI cy ad B (by omega) (by omega) qr s1   0 (by decide) (by decide) x65 (show 0 ≤ x65.toInt by omega) (show x65.toInt ≤ 400 by omega) w59 H.size hT ) (cwV 2 hC.2.2.2.2 gX12_readsAll_X12_fails rfl rfl rfl (by decide +kernel) ⟨Nat.le_of_ble_eq_true rfl, Nat.le_of_ble_eq_true rfl⟩) rfl hl.1 rfl (Nat.le_of_ble_eq_true rfl) dX12_readsAll_84 (fun r89 w91 H locs hp90 hw => ?_)
        obtain ⟨hT, k92, hv96, hg95⟩ := hp90
        try simp only [show (0 : Int32).toInt = 0 by decide] at hv96
        have hR := RL_FE k92 (fun _ => rfl) (fun _ => rfl) (fun _ => rfl) (fun _ => rfl) hR
        have hF := hF.tr k92 (by decide)
        have c97 := k92.gi kM_at0 (by decide) c79
        have c98 := k92.gi kM_at0 (by decide) c80
        have c99 := k92.gi kM_at0 (by decide) c81
        have c100 := k92.gi kM_at0 (by decide) c82
        have c101 := k92.gi kM_at3 rfl c83
        have c102 := k92.gi kM_at5 rfl c84
        have c103 := k92.gi kM_at0 (by decide) c66
        obtain ⟨rfl, ⟨x93, c94, rx93, tx93⟩⟩ := hg95
        replace hM := hM.call (r' := 0) hv96 (by decide)
        refine lv_pop hx hb dX12_readsAll_87 rfl ?_
        exact J88 v66_1 f66_0_1 f66_0_18 f66_0_20 f66_3__f0__toInt_toNat f66_5__f0__toInt_toNat H locs ls w91 (show 0 ≤ v66_1.toInt by omega) (show v66_1.toInt ≤ 1 by omega) (show 0 ≤ f66_0_1.toInt by omega) (show f66_0_1.toInt ≤ 400 by omega) (show 0 ≤ f0_.toInt by omega) (show f0_.toInt ≤ 5 by omega) (show 0 ≤ f66_0_18.toInt by omega) (show f66_0_18.toInt ≤ 60 by omega) (show 0 ≤ f66_0_20.toInt by omega) (show f66_0_20.toInt ≤ 12 by omega) (show 0 ≤ f66_3__f0__toInt_toNat.toInt by omega) (show f66_3__f0__toInt_toNat.toInt ≤ 400 by omega) (show 0 ≤ f66_5__f0__toInt_toNat.toInt by omega) (show f66_5__f0__toInt_toNat.toInt ≤ 12 by omega) (show (v66_1.toInt = 0 ∨ 3 * f66_3__f0__toInt_toNat.toInt ≤ 14 * f66_0_18.toInt) by omega) (show (v66_1.toInt = 0 ∨ f66_5__f0__toInt_toNat.toInt ≤ f66_0_20.toInt) by omega) (show f66_0_20.toInt ≤ 12 by omega)  hw hT hF hR c97 c98 c99 c100 c101 c102 hM (lv_sub hl [0, 1] rfl)
      · replace hM := hM.call (r' := (-1)) hv78 (by decide)
        have ex69 : x69.toInt = f66_0_1.toInt := by rw [← c79.symm.trans c70]
        have g73 : (x71.toInt = x55.toInt ∨ (gi w33 1 (x55.toInt).toNat).toInt = 32) := by have q := g73; simp only [c41, c80, c56, c72] at q; omega
        refine lv_iconst (v := (-1)) hx hb dX12_readsAll_74 (by decide) ?_
        refine lv_icmp_eq (tgt := 88) hx hb dX12_readsAll_75 (by decide) (fun _ => ?_) (fun c => absurd (by decide) c)
        replace hM := hM.pos (by decide)
        exact J88 v66_1 f66_0_1 f66_0_18 f66_0_20 f66_3__f0__toInt_toNat f66_5__f0__toInt_toNat H locs ls w59 (show 0 ≤ v66_1.toInt by omega) (show v66_1.toInt ≤ 1 by omega) (show 0 ≤ f66_0_1.toInt by omega) (show f66_0_1.toInt ≤ 400 by omega) (show 0 ≤ f0_.toInt by omega) (show f0_.toInt ≤ 5 by omega) (show 0 ≤ f66_0_18.toInt by omega) (show f66_0_18.toInt ≤ 60 by omega) (show 0 ≤ f66_0_20.toInt by omega) (show f66_0_20.toInt ≤ 12 by omega) (show 0 ≤ f66_3__f0__toInt_toNat.toInt by omega) (show f66_3__f0__toInt_toNat.toInt ≤ 400 by omega) (show 0 ≤ f66_5__f0__toInt_toNat.toInt by omega) (show f66_5__f0__toInt_toNat.toInt ≤ 12 by omega) (show (v66_1.toInt = 0 ∨ 3 * f66_3__f0__toInt_toNat.toInt ≤ 14 * f66_0_18.toInt) by omega) (show (v66_1.toInt = 0 ∨ f66_5__f0__toInt_toNat.toInt ≤ f66_0_20.toInt) by omega) (show f66_0_20.toInt ≤ 12 by omega)  hw hT hF hR c79 c80 c81 c82 c83 c84 hM (lv_sub hl [0, 1] rfl)
      · replace hM := hM.call (r' := (-1)) hv78 (by decide)
        have ex74 : x74.toInt = f66_0_1.toInt := by rw [← c79.symm.trans c75]
        obtain ⟨x85, c86, rx85, tx85⟩ := hT.rdi (lo := 0) (hi := 400) (k := 14) kM_at0 (by decide) rfl
        have g76 : (x85.toInt = x55.toInt ∨ (gi w33 1 (x55.toInt).toNat).toInt = 32) := by have q := g76; simp only [c41, c80, c56, c86] at q; omega
        refine lv_iconst (v := (-1)) hx hb dX12_readsAll_74 (by decide) ?_
        refine lv_icmp_eq (tgt := 88) hx hb dX12_readsAll_75 (by decide) (fun _ => ?_) (fun c => absurd (by decide) c)
        replace hM := hM.pos (by decide)
        exact J88 v66_1 f66_0_1 f66_0_18 f66_0_20 f66_3__f0__toInt_toNat f66_5__f0__toInt_toNat H locs ls w59 (show 0 ≤ v66_1.toInt by omega) (show v66_1.toInt ≤ 1 by omega) (show 0 ≤ f66_0_1.toInt by omega) (show f66_0_1.toInt ≤ 400 by omega) (show 0 ≤ f0_.toInt by omega) (show f0_.toInt ≤ 5 by omega) (show 0 ≤ f66_0_18.toInt by omega) (show f66_0_18.toInt ≤ 60 by omega) (show 0 ≤ f66_0_20.toInt by omega) (show f66_0_20.toInt ≤ 12 by omega) (show 0 ≤ f66_3__f0__toInt_toNat.toInt by omega) (show f66_3__f0__toInt_toNat.toInt ≤ 400 by omega) (show 0 ≤ f66_5__f0__toInt_toNat.toInt by omega) (show f66_5__f0__toInt_toNat.toInt ≤ 12 by omega) (show (v66_1.toInt = 0 ∨ 3 * f66_3__f0__toInt_toNat.toInt ≤ 14 * f66_0_18.toInt) by omega) (show (v66_1.toInt = 0 ∨ f66_5__f0__toInt_toNat.toInt ≤ f66_0_20.toInt) by omega) (show f66_0_20.toInt ≤ 12 by omega)  hw hT hF hR c79 c80 c81 c82 c83 c84 hM (lv_sub hl [0, 1] rfl)
  have L35 : ∀ (n35 : Nat) (v35_1 : Int32) (f35_0_1 : Int32) (f35_0_18 : Int32) (f35_0_20 : Int32) (f35_3__f0__toInt_toNat : Int32) (f35_5__f0__toInt_toNat : Int32) (H : Heap) (locs : List Loc) (ls : Array Slot) (w104 : va_W), 0 ≤ v35_1.toInt → v35_1.toInt ≤ 1 → 0 ≤ f35_0_1.toInt → f35_0_1.toInt ≤ 400 → 0 ≤ f0_.toInt → f0_.toInt ≤ 5 → 0 ≤ f35_0_18.toInt → f35_0_18.toInt ≤ 60 → 0 ≤ f35_0_20.toInt → f35_0_20.toInt ≤ 12 → 0 ≤ f35_3__f0__toInt_toNat.toInt → f35_3__f0__toInt_toNat.toInt ≤ 400 → 0 ≤ f35_5__f0__toInt_toNat.toInt → f35_5__f0__toInt_toNat.toInt ≤ 12 → ((v35_1.toInt = 0 ∨ 3 * f35_3__f0__toInt_toNat.toInt ≤ 14 * f35_0_18.toInt)) → ((v35_1.toInt = 0 ∨ f35_5__f0__toInt_toNat.toInt ≤ f35_0_20.toInt)) → (f35_0_20.toInt ≤ 12) → (2 * (32 - f35_0_20.toInt) + v35_1.toInt).toNat < n35 → Wd dC dI A s.heap H locs w104 → TW ksM ad cy B qr 12 w104 → FE ksM [(12, 1, 1), (12, 14, 14), (12, 15, 15), (12, 16, 16), (12, 18, 18), (12, 19, 19), (12, 20, 20), (12, 22, 22), (61, 0, 2400), (62, 0, 7), (63, 0, 216), (64, 0, 6), (68, 0, 400)] w0 w104 → RLc w104 f0_.toInt → gi w104 0 1 = f35_0_1 → gi w104 0 17 = f0_ → gi w104 0 18 = f35_0_18 → gi w104 0 20 = f35_0_20 → gi w104 3 (f0_.toInt).toNat = f35_3__f0__toInt_toNat → gi w104 5 (f0_.toInt).toNat = f35_5__f0__toInt_toNat → TT (fun n => m_X12_readsAll n 0 (sI w0)) (fun n => j_X12_readsAll 0 n 35 [v35_1.toInt] (sI w104)) → lv_has ls 2 [(0, .ref (ad 0)), (1, .int v35_1)] → W p l e ({ frames := 12, cells := 0, slots := 0, locals := 255 }) s m (List.toArray [.ref (ad 0)]) below meth c H locs 0 0 (MQ below (va_Qi (Pz_X12_readsAll_2 ad cy B qr s1  w0) (fun u : va_W => wpost dC dI cy A u) A) (List.toArray [.ref (ad 0)]) s 0 0 A) (F0 m 35 ls []) := by
    intro n35
    induction n35 with
    | zero => intro v35_1 f35_0_1 f35_0_18 f35_0_20 f35_3__f0__toInt_toNat f35_5__f0__toInt_toNat H locs ls w104 r105 t106 r107 t108 r110 t111 r113 t114 r116 t117 r119 t120 r122 t123 hcr35_0 hcr35_1 hcr35_2 hm35 hw hT hF hR c109 c112 c115 c118 c121 c124 hM hl; omega
    | succ n35 ih35 =>
      intro v35_1 f35_0_1 f35_0_18 f35_0_20 f35_3__f0__toInt_toNat f35_5__f0__toInt_toNat H locs ls w104 r105 t106 r107 t108 r110 t111 r113 t114 r116 t117 r119 t120 r122 t123 hcr35_0 hcr35_1 hcr35_2 hm35 hw hT hF hR c109 c112 c115 c118 c121 c124 hM hl
      replace hM := hM.suc (fun _ => e_X12_readsAll_35)
      refine lv_iload_n hx hb dX12_readsAll_35 rfl (lv_at hl 1 rfl) ?_
      refine lv_if_eq (tgt := 66) hx hb dX12_readsAll_36 (by decide) (fun c125 => ?_) (fun c125 => ?_)
      · have c125 : v35_1.toInt = (0 : Int) := wk_eq.mp c125
        replace hM := hM.pos c125
        exact J66 v35_1 f35_0_1 f35_0_18 f35_0_20 f35_3__f0__toInt_toNat f35_5__f0__toInt_toNat H locs ls w104 (show 0 ≤ v35_1.toInt by omega) (show v35_1.toInt ≤ 1 by omega) (show 0 ≤ f35_0_1.toInt by omega) (show f35_0_1.toInt ≤ 400 by omega) (show 0 ≤ f0_.toInt by omega) (show f0_.toInt ≤ 5 by omega) (show 0 ≤ f35_0_18.toInt by omega) (show f35_0_18.toInt ≤ 60 by omega) (show 0 ≤ f35_0_20.toInt by omega) (show f35_0_20.toInt ≤ 12 by omega) (show 0 ≤ f35_3__f0__toInt_toNat.toInt by omega) (show f35_3__f0__toInt_toNat.toInt ≤ 400 by omega) (show 0 ≤ f35_5__f0__toInt_toNat.toInt by omega) (show f35_5__f0__toInt_toNat.toInt ≤ 12 by omega) (show (v35_1.toInt = 0 ∨ 3 * f35_3__f0__toInt_toNat.toInt ≤ 14 * f35_0_18.toInt) by omega) (show (v35_1.toInt = 0 ∨ f35_5__f0__toInt_toNat.toInt ≤ f35_0_20.toInt) by omega) (show f35_0_20.toInt ≤ 12 by omega)  hw hT hF hR c109 c112 c115 c118 c121 c124 hM (lv_sub hl [0, 1] rfl)
      · have c125 : ¬ v35_1.toInt = (0 : Int) := wk_eqF c125
        replace hM := hM.neg c125
        refine lv_aload_n hx hb dX12_readsAll_39 rfl (lv_at hl 0 rfl) ?_
        obtain ⟨x126, c127, rx126, tx126⟩ := hT.rdi (lo := 0) (hi := 400) (k := 14) kM_at0 (by decide) rfl
        refine tk_Vi hC hK hw hT hA hE hSR kM_at0 (by decide) rfl (kz_X12_see_1 l adK adV dC dI cy ad B (by omega) (by omega) qr s1    w104 H.size hT x126 c127 (show 0 ≤ x126.toInt by omega) (show x126.toInt ≤ 400 by omega)) (cwV 0 hC.2.2.2.2 gX12_readsAll_X12_see rfl rfl rfl (by decide +kernel) ⟨Nat.le_of_ble_eq_true rfl, Nat.le_of_ble_eq_true rfl⟩) rfl hl.1 rfl (Nat.le_of_ble_eq_true rfl) dX12_readsAll_40 (fun r128 w130 H locs hp129 hw => ?_)
        obtain ⟨hT, k131, hv149, hg148⟩ := hp129
        have hR := RL_FE k131 (fun _ => rfl) (fun _ => rfl) (fun _ => rfl) (fun _ => rfl) hR
        have hF := hF.tr k131 (by decide)
        have c150 := k131.gi kM_at0 (by decide) c109
        have c151 := k131.gi kM_at0 (by decide) c112
        have c152 := k131.gi kM_at0 (by decide) c115
        have c153 := k131.gi kM_at0 (by decide) c118
        have c154 := k131.gi kM_at3 rfl c121
        have c155 := k131.gi kM_at5 rfl c124
        rcases hg148 with ⟨g132, g133, ⟨x134, c135, rx134, tx134⟩, ⟨x136, c137, rx136, tx136⟩, g138, g139⟩ | ⟨rfl, ⟨x140, c141, rx140, tx140⟩, ⟨x142, c143, rx142, tx142⟩, g144⟩ | ⟨rfl, ⟨x145, c146, rx145, tx145⟩, g147⟩
        · replace hM := hM.call hv149 rfl
          have ex134 : x134.toInt = f35_0_1.toInt := by rw [← c150.symm.trans c135]
          have g138 : (gi w130 1 (x136.toInt).toNat).toInt ≠ 32 := by have q := g138; simp only [c112, c151, c137] at q; omega
          have g139 : (x136.toInt = x126.toInt ∨ (gi w104 1 (x126.toInt).toNat).toInt = 32) := by have q := g139; simp only [c112, c151, c127, c137] at q; omega
          refine lv_bipush (v := 59) hx hb dX12_readsAll_43 (by decide) ?_
          refine lv_icmp_ne (tgt := 66) hx hb dX12_readsAll_45 (by decide) (fun c158 => ?_) (fun c158 => ?_)
          · have c158 : ¬ r128.toInt = (59 : Int) := wk_eqF c158
            replace hM := hM.pos c158
            exact J66 v35_1 f35_0_1 f35_0_18 f35_0_20 f35_3__f0__toInt_toNat f35_5__f0__toInt_toNat H locs ls w130 (show 0 ≤ v35_1.toInt by omega) (show v35_1.toInt ≤ 1 by omega) (show 0 ≤ f35_0_1.toInt by omega) (show f35_0_1.toInt ≤ 400 by omega) (show 0 ≤ f0_.toInt by omega) (show f0_.toInt ≤ 5 by omega) (show 0 ≤ f35_0_18.toInt by omega) (show f35_0_18.toInt ≤ 60 by omega) (show 0 ≤ f35_0_20.toInt by omega) (show f35_0_20.toInt ≤ 12 by omega) (show 0 ≤ f35_3__f0__toInt_toNat.toInt by omega) (show f35_3__f0__toInt_toNat.toInt ≤ 400 by omega) (show 0 ≤ f35_5__f0__toInt_toNat.toInt by omega) (show f35_5__f0__toInt_toNat.toInt ≤ 12 by omega) (show (v35_1.toInt = 0 ∨ 3 * f35_3__f0__toInt_toNat.toInt ≤ 14 * f35_0_18.toInt) by omega) (show (v35_1.toInt = 0 ∨ f35_5__f0__toInt_toNat.toInt ≤ f35_0_20.toInt) by omega) (show f35_0_20.toInt ≤ 12 by omega)  hw hT hF hR c150 c151 c152 c153 c154 c155 hM (lv_sub hl [0, 1] rfl)
          · have c158 : r128.toInt = (59 : Int) := wk_eq.mp c158
            replace hM := hM.neg (fun q => q c158)
            refine lv_aload_n hx hb dX12_readsAll_48 rfl (lv_at hl 0 rfl) ?_
            refine lv_dup hx hb dX12_readsAll_49 rfl ?_
            refine tk_geti hC hK hw hT hinX12 kM_at0 (by decide) rfl 14 (by decide) (List.mem_of_getElem? (i := 4) rfl) rfl rfl dX12_readsAll_50 (fun x159 c160 rx159 tx159 => ?_)
            refine wk_top x136 (c160.symm.trans c137) ?_
            replace hM := hM.rd (sI_at c137)
            refine lv_iconst (v := 1) hx hb dX12_readsAll_53 (by decide) ?_
            refine lv_iadd hx hb dX12_readsAll_54 ?_
            refine lv_topi (fun x161 ex161 => ?_)
            have ezx161 := ex161
            have ex161 : x161.toInt = x136.toInt + (1 : Int) := by rw [ex161]; exact wk_add (show (-2147483648) ≤ x136.toInt + (1 : Int) by omega) (show x136.toInt + (1 : Int) ≤ 2147483647 by omega)
            replace hM := hM.lt ex161.symm
            refine tk_puti hC hK hw hT hinX12 tyX12_ok nmX12 kM_at0 (by decide) rfl rfl 14 (by decide) (List.mem_of_getElem? (i := 4) rfl) rfl rfl rfl rfl (show 0 ≤ x161.toInt by omega) (show x161.toInt ≤ 400 by omega) dX12_readsAll_55 (fun H locs w162 hw hT k164 c163 => ?_)
            replace hM := hM.wr (sI_up k164 c163)
            have hR := RL_F1 k164 (by decide) (by decide) (by decide) (by decide) hR
            have hF := hF.put kM_at0 (k := 14) (by decide) k164
            have c165 := k164.gi (Or.inr (by decide)) c150
            have c166 := k164.gi (Or.inr (by decide)) c151
            have c167 := k164.gi (Or.inr (by decide)) c152
            have c168 := k164.gi (Or.inr (by decide)) c153
            have c169 := k164.gi (Or.inl (tk_ne kM_at3 kM_at0 (by decide))) c154
            have c170 := k164.gi (Or.inl (tk_ne kM_at5 kM_at0 (by decide))) c155
            refine lv_aload_n hx hb dX12_readsAll_58 rfl (lv_at hl 0 rfl) ?_
            refine tk_Vi hC hK hw hT hA hE hSR kM_at0 (by decide) rfl (kz_X12_clauseHere_2 l adK adV dC dI cy ad B (by omega) (by omega) qr s1    w162 H.size hT f0_ c166 (show 0 ≤ f0_.toInt by omega) (show f0_.toInt ≤ 5 by omega) f35_0_18 c167 (show 0 ≤ f35_0_18.toInt by omega) (show f35_0_18.toInt ≤ 60 by omega) f35_0_20 c168 (show 0 ≤ f35_0_20.toInt by omega) (show f35_0_20.toInt ≤ 32 by omega) f35_3__f0__toInt_toNat c169 (show 0 ≤ f35_3__f0__toInt_toNat.toInt by omega) (show f35_3__f0__toInt_toNat.toInt ≤ 400 by omega) f35_5__f0__toInt_toNat c170 (show 0 ≤ f35_5__f0__toInt_toNat.toInt by omega) (show f35_5__f0__toInt_toNat.toInt ≤ 12 by omega) (show 3 * f35_3__f0__toInt_toNat.toInt ≤ 14 * f35_0_18.toInt by omega) (show f35_5__f0__toInt_toNat.toInt ≤ f35_0_20.toInt by omega) (show f35_0_20.toInt ≤ 12 by omega) (show f35_3__f0__toInt_toNat.toInt ≤ 280 by omega) hR) (cwV 0 hC.2.2.2.2 gX12_readsAll_X12_clauseHere rfl rfl rfl (by decide +kernel) ⟨Nat.le_of_ble_eq_true rfl, Nat.le_of_ble_eq_true rfl⟩) rfl hl.1 rfl (Nat.le_of_ble_eq_true rfl) dX12_readsAll_59 (fun r171 w173 H locs hp172 hw => ?_)
            obtain ⟨hT, k174, hv220, hg219⟩ := hp172
            have hF := hF.tr k174 (by decide)
            have c221 := k174.gi kM_at0 (by decide) c165
            have c222 := k174.gi kM_at0 (by decide) c166
            rcases hg219 with ⟨rfl, ⟨x175, c176, rx175, tx175⟩, ⟨x177, c178, rx177, tx177⟩, ⟨x179, c180, rx179, tx179⟩, ⟨x181, c182, rx181, tx181⟩, hq183, g184, g185⟩ | ⟨rfl, ⟨x186, c187, rx186, tx186⟩, ⟨x188, c189, rx188, tx188⟩, ⟨x190, c191, rx190, tx190⟩, ⟨x192, c193, rx192, tx192⟩, hq194, g195, g196⟩ | ⟨rfl, ⟨x197, c198, rx197, tx197⟩, ⟨x199, c200, rx199, tx199⟩, ⟨x201, c202, rx201, tx201⟩, hq203, g204, g205, g206, g207⟩ | ⟨rfl, ⟨x208, c209, rx208, tx208⟩, ⟨x210, c211, rx210, tx210⟩, ⟨x212, c213, rx212, tx212⟩, hq214, g215, g216, g217, g218⟩
            · replace hM := hM.call (r' := 0) hv220 (by decide)
              have ex175 : x175.toInt = f35_0_1.toInt := by rw [← c221.symm.trans c176]
              have ex179 : x179.toInt = f0_.toInt := by rw [← c222.symm.trans c180]
              obtain ⟨x223, c224, rx223, tx223⟩ := hT.rda (lo := 0) (hi := 400) (i := (f0_.toInt).toNat) kM_at3 rfl rfl (by omega)
              obtain ⟨x225, c226, rx225, tx225⟩ := hT.rdi (lo := 0) (hi := 60) (k := 18) kM_at0 (by decide) rfl
              obtain ⟨x227, c228, rx227, tx227⟩ := hT.rda (lo := 0) (hi := 12) (i := (f0_.toInt).toNat) kM_at5 rfl rfl (by omega)
              have g184 : f35_0_20.toInt ≤ x181.toInt := by have q := g184; simp only [c166, c222, c168, c182] at q; omega
              have g185 : x181.toInt ≤ 12 := by have q := g185; simp only [c166, c222, c182] at q; omega
              have hR := hq183
              refine lv_istore_n (lv' := [(1, .int 0), (0, .ref (ad 0))]) hx hb dX12_readsAll_62 rfl hl (by decide) rfl (fun ls hl => ?_)
              refine lv_goto (tgt := 35) hx hb dX12_readsAll_63 (by decide) ?_
              exact ih35 0 f35_0_1 x225 x181 x223 x227 H locs ls w173 (by decide) (by decide) (show 0 ≤ f35_0_1.toInt by omega) (show f35_0_1.toInt ≤ 400 by omega) (show 0 ≤ f0_.toInt by omega) (show f0_.toInt ≤ 5 by omega) (show 0 ≤ x225.toInt by omega) (show x225.toInt ≤ 60 by omega) (show 0 ≤ x181.toInt by omega) (show x181.toInt ≤ 12 by omega) (show 0 ≤ x223.toInt by omega) (show x223.toInt ≤ 400 by omega) (show 0 ≤ x227.toInt by omega) (show x227.toInt ≤ 12 by omega) (show ((0 : Int) = 0 ∨ 3 * x223.toInt ≤ 14 * x225.toInt) by omega) (show ((0 : Int) = 0 ∨ x227.toInt ≤ x181.toInt) by omega) (show x181.toInt ≤ 12 by omega) (show (2 * (32 - x181.toInt) + (0 : Int)).toNat < n35 by omega) hw hT hF hR c221 c222 c226 c182 c224 c228 hM (lv_sub hl [1, 0] rfl)
            · replace hM := hM.call (r' := 0) hv220 (by decide)
              have ex186 : x186.toInt = f35_0_1.toInt := by rw [← c221.symm.trans c187]
              have ex190 : x190.toInt = f0_.toInt := by rw [← c222.symm.trans c191]
              obtain ⟨x229, c230, rx229, tx229⟩ := hT.rda (lo := 0) (hi := 400) (i := (f0_.toInt).toNat) kM_at3 rfl rfl (by omega)
              obtain ⟨x231, c232, rx231, tx231⟩ := hT.rdi (lo := 0) (hi := 60) (k := 18) kM_at0 (by decide) rfl
              obtain ⟨x233, c234, rx233, tx233⟩ := hT.rda (lo := 0) (hi := 12) (i := (f0_.toInt).toNat) kM_at5 rfl rfl (by omega)
              have g195 : f35_0_20.toInt ≤ x192.toInt := by have q := g195; simp only [c166, c222, c168, c193] at q; omega
              have g196 : x192.toInt ≤ 12 := by have q := g196; simp only [c166, c222, c193] at q; omega
              have hR := hq194
              refine lv_istore_n (lv' := [(1, .int 0), (0, .ref (ad 0))]) hx hb dX12_readsAll_62 rfl hl (by decide) rfl (fun ls hl => ?_)
              refine lv_goto (tgt := 35) hx hb dX12_readsAll_63 (by decide) ?_
              exact ih35 0 f35_0_1 x231 x192 x229 x233 H locs ls w173 (by decide) (by decide) (show 0 ≤ f35_0_1.toInt by omega) (show f35_0_1.toInt ≤ 400 by omega) (show 0 ≤ f0_.toInt by omega) (show f0_.toInt ≤ 5 by omega) (show 0 ≤ x231.toInt by omega) (show x231.toInt ≤ 60 by omega) (show 0 ≤ x192.toInt by omega) (show x192.toInt ≤ 12 by omega) (show 0 ≤ x229.toInt by omega) (show x229.toInt ≤ 400 by omega) (show 0 ≤ x233.toInt by omega) (show x233.toInt ≤ 12 by omega) (show ((0 : Int) = 0 ∨ 3 * x229.toInt ≤ 14 * x231.toInt) by omega) (show ((0 : Int) = 0 ∨ x233.toInt ≤ x192.toInt) by omega) (show x192.toInt ≤ 12 by omega) (show (2 * (32 - x192.toInt) + (0 : Int)).toNat < n35 by omega) hw hT hF hR c221 c222 c232 c193 c230 c234 hM (lv_sub hl [1, 0] rfl)
            · replace hM := hM.call (r' := 1) hv220 (by decide)
              have ex197 : x197.toInt = f35_0_1.toInt := by rw [← c221.symm.trans c198]
              have ex199 : x199.toInt = f0_.toInt := by rw [← c222.symm.trans c200]
              obtain ⟨x235, c236, rx235, tx235⟩ := hT.rda (lo := 0) (hi := 400) (i := (f0_.toInt).toNat) kM_at3 rfl rfl (by omega)
              obtain ⟨x237, c238, rx237, tx237⟩ := hT.rdi (lo := 0) (hi := 60) (k := 18) kM_at0 (by decide) rfl
              obtain ⟨x239, c240, rx239, tx239⟩ := hT.rda (lo := 0) (hi := 12) (i := (f0_.toInt).toNat) kM_at5 rfl rfl (by omega)
              have g204 : 3 * x235.toInt ≤ 14 * x237.toInt := by have q := g204; simp only [c166, c222, c236, c238] at q; omega
              have g205 : x239.toInt ≤ x201.toInt := by have q := g205; simp only [c166, c222, c240, c202] at q; omega
              have g206 : x201.toInt = f35_0_20.toInt + 1 := by have q := g206; simp only [c166, c222, c168, c202] at q; omega
              have g207 : x201.toInt ≤ 12 := by have q := g207; simp only [c166, c222, c202] at q; omega
              have hR := hq203
              refine lv_istore_n (lv' := [(1, .int 1), (0, .ref (ad 0))]) hx hb dX12_readsAll_62 rfl hl (by decide) rfl (fun ls hl => ?_)
              refine lv_goto (tgt := 35) hx hb dX12_readsAll_63 (by decide) ?_
              exact ih35 1 f35_0_1 x237 x201 x235 x239 H locs ls w173 (by decide) (by decide) (show 0 ≤ f35_0_1.toInt by omega) (show f35_0_1.toInt ≤ 400 by omega) (show 0 ≤ f0_.toInt by omega) (show f0_.toInt ≤ 5 by omega) (show 0 ≤ x237.toInt by omega) (show x237.toInt ≤ 60 by omega) (show 0 ≤ x201.toInt by omega) (show x201.toInt ≤ 12 by omega) (show 0 ≤ x235.toInt by omega) (show x235.toInt ≤ 400 by omega) (show 0 ≤ x239.toInt by omega) (show x239.toInt ≤ 12 by omega) (show ((1 : Int) = 0 ∨ 3 * x235.toInt ≤ 14 * x237.toInt) by omega) (show ((1 : Int) = 0 ∨ x239.toInt ≤ x201.toInt) by omega) (show x201.toInt ≤ 12 by omega) (show (2 * (32 - x201.toInt) + (1 : Int)).toNat < n35 by omega) hw hT hF hR c221 c222 c238 c202 c236 c240 hM (lv_sub hl [1, 0] rfl)
            · replace hM := hM.call (r' := 1) hv220 (by decide)
              have ex208 : x208.toInt = f35_0_1.toInt := by rw [← c221.symm.trans c209]
              have ex210 : x210.toInt = f0_.toInt := by rw [← c222.symm.trans c211]
              obtain ⟨x241, c242, rx241, tx241⟩ := hT.rda (lo := 0) (hi := 400) (i := (f0_.toInt).toNat) kM_at3 rfl rfl (by omega)
              obtain ⟨x243, c244, rx243, tx243⟩ := hT.rdi (lo := 0) (hi := 60) (k := 18) kM_at0 (by decide) rfl
              obtain ⟨x245, c246, rx245, tx245⟩ := hT.rda (lo := 0) (hi := 12) (i := (f0_.toInt).toNat) kM_at5 rfl rfl (by omega)
              have g215 : 3 * x241.toInt ≤ 14 * x243.toInt := by have q := g215; simp only [c166, c222, c242, c244] at q; omega
              have g216 : x245.toInt ≤ x212.toInt := by have q := g216; simp only [c166, c222, c246, c213] at q; omega
              have g217 : x212.toInt = f35_0_20.toInt + 1 := by have q := g217; simp only [c166, c222, c168, c213] at q; omega
              have g218 : x212.toInt ≤ 12 := by have q := g218; simp only [c166, c222, c213] at q; omega
              have hR := hq214
              refine lv_istore_n (lv' := [(1, .int 1), (0, .ref (ad 0))]) hx hb dX12_readsAll_62 rfl hl (by decide) rfl (fun ls hl => ?_)
              refine lv_goto (tgt := 35) hx hb dX12_readsAll_63 (by decide) ?_
              exact ih35 1 f35_0_1 x243 x212 x241 x245 H locs ls w173 (by decide) (by decide) (show 0 ≤ f35_0_1.toInt by omega) (show f35_0_1.toInt ≤ 400 by omega) (show 0 ≤ f0_.toInt by omega) (show f0_.toInt ≤ 5 by omega) (show 0 ≤ x243.toInt by omega) (show x243.toInt ≤ 60 by omega) (show 0 ≤ x212.toInt by omega) (show x212.toInt ≤ 12 by omega) (show 0 ≤ x241.toInt by omega) (show x241.toInt ≤ 400 by omega) (show 0 ≤ x245.toInt by omega) (show x245.toInt ≤ 12 by omega) (show ((1 : Int) = 0 ∨ 3 * x241.toInt ≤ 14 * x243.toInt) by omega) (show ((1 : Int) = 0 ∨ x245.toInt ≤ x212.toInt) by omega) (show x212.toInt ≤ 12 by omega) (show (2 * (32 - x212.toInt) + (1 : Int)).toNat < n35 by omega) hw hT hF hR c221 c222 c244 c213 c242 c246 hM (lv_sub hl [1, 0] rfl)
        · replace hM := hM.call (r' := (-1)) hv149 (by decide)
          have ex140 : x140.toInt = f35_0_1.toInt := by rw [← c150.symm.trans c141]
          have g144 : (x142.toInt = x126.toInt ∨ (gi w104 1 (x126.toInt).toNat).toInt = 32) := by have q := g144; simp only [c112, c151, c127, c143] at q; omega
          refine lv_bipush (v := 59) hx hb dX12_readsAll_43 (by decide) ?_
          refine lv_icmp_ne (tgt := 66) hx hb dX12_readsAll_45 (by decide) (fun _ => ?_) (fun c => absurd c (by decide))
          replace hM := hM.pos (by decide)
          exact J66 v35_1 f35_0_1 f35_0_18 f35_0_20 f35_3__f0__toInt_toNat f35_5__f0__toInt_toNat H locs ls w130 (show 0 ≤ v35_1.toInt by omega) (show v35_1.toInt ≤ 1 by omega) (show 0 ≤ f35_0_1.toInt by omega) (show f35_0_1.toInt ≤ 400 by omega) (show 0 ≤ f0_.toInt by omega) (show f0_.toInt ≤ 5 by omega) (show 0 ≤ f35_0_18.toInt by omega) (show f35_0_18.toInt ≤ 60 by omega) (show 0 ≤ f35_0_20.toInt by omega) (show f35_0_20.toInt ≤ 12 by omega) (show 0 ≤ f35_3__f0__toInt_toNat.toInt by omega) (show f35_3__f0__toInt_toNat.toInt ≤ 400 by omega) (show 0 ≤ f35_5__f0__toInt_toNat.toInt by omega) (show f35_5__f0__toInt_toNat.toInt ≤ 12 by omega) (show (v35_1.toInt = 0 ∨ 3 * f35_3__f0__toInt_toNat.toInt ≤ 14 * f35_0_18.toInt) by omega) (show (v35_1.toInt = 0 ∨ f35_5__f0__toInt_toNat.toInt ≤ f35_0_20.toInt) by omega) (show f35_0_20.toInt ≤ 12 by omega)  hw hT hF hR c150 c151 c152 c153 c154 c155 hM (lv_sub hl [0, 1] rfl)
        · replace hM := hM.call (r' := (-1)) hv149 (by decide)
          have ex145 : x145.toInt = f35_0_1.toInt := by rw [← c150.symm.trans c146]
          obtain ⟨x156, c157, rx156, tx156⟩ := hT.rdi (lo := 0) (hi := 400) (k := 14) kM_at0 (by decide) rfl
          have g147 : (x156.toInt = x126.toInt ∨ (gi w104 1 (x126.toInt).toNat).toInt = 32) := by have q := g147; simp only [c112, c151, c127, c157] at q; omega
          refine lv_bipush (v := 59) hx hb dX12_readsAll_43 (by decide) ?_
          refine lv_icmp_ne (tgt := 66) hx hb dX12_readsAll_45 (by decide) (fun _ => ?_) (fun c => absurd c (by decide))
          replace hM := hM.pos (by decide)
          exact J66 v35_1 f35_0_1 f35_0_18 f35_0_20 f35_3__f0__toInt_toNat f35_5__f0__toInt_toNat H locs ls w130 (show 0 ≤ v35_1.toInt by omega) (show v35_1.toInt ≤ 1 by omega) (show 0 ≤ f35_0_1.toInt by omega) (show f35_0_1.toInt ≤ 400 by omega) (show 0 ≤ f0_.toInt by omega) (show f0_.toInt ≤ 5 by omega) (show 0 ≤ f35_0_18.toInt by omega) (show f35_0_18.toInt ≤ 60 by omega) (show 0 ≤ f35_0_20.toInt by omega) (show f35_0_20.toInt ≤ 12 by omega) (show 0 ≤ f35_3__f0__toInt_toNat.toInt by omega) (show f35_3__f0__toInt_toNat.toInt ≤ 400 by omega) (show 0 ≤ f35_5__f0__toInt_toNat.toInt by omega) (show f35_5__f0__toInt_toNat.toInt ≤ 12 by omega) (show (v35_1.toInt = 0 ∨ 3 * f35_3__f0__toInt_toNat.toInt ≤ 14 * f35_0_18.toInt) by omega) (show (v35_1.toInt = 0 ∨ f35_5__f0__toInt_toNat.toInt ≤ f35_0_20.toInt) by omega) (show f35_0_20.toInt ≤ 12 by omega)  hw hT hF hR c150 c151 c152 c153 c154 c155 hM (lv_sub hl [0, 1] rfl)
  have hM : TT (fun n => m_X12_readsAll n 0 (sI w0)) (fun n => m_X12_readsAll n 0 (sI w0)) := TT.rf
  refine lv_aload_n hx hb dX12_readsAll_0 rfl (lv_at hl 0 rfl) ?_
  refine tk_getA hC hK hw hT hinX12 kM_at0 (by decide) rfl 4 (by decide) (List.mem_of_getElem? (i := 1) rfl) rfl rfl dX12_readsAll_1 ?_
  refine lv_aload_n hx hb dX12_readsAll_4 rfl (lv_at hl 0 rfl) ?_
  refine tk_geti hC hK hw hT hinX12 kM_at0 (by decide) rfl 17 (by decide) (List.mem_of_getElem? (i := 2) rfl) rfl rfl dX12_readsAll_5 (fun x247 c248 rx247 tx247 => ?_)
  refine wk_top f0_ (c248.symm.trans cf0_) ?_
  replace hM := hM.rd (sI_at cf0_)
  refine lv_iconst (v := 0) hx hb dX12_readsAll_8 (by decide) ?_
  refine tk_iast hC hK hw hT kM_at3 (by decide) rfl rfl (show 0 ≤ f0_.toInt by omega) (show f0_.toInt < 7 by omega) (by decide) (by decide) dX12_readsAll_9 (fun H locs w249 hw hT k251 c250 => ?_)
  replace hM := hM.wr (sI_upc k251 c250 (by decide))
  have hR := RL_start (t := f0_.toInt) hRW (by omega) (by omega) (by rw [cf4_]; omega) k251
  have hF := hF.put kM_at3 (inE_of (a := 0) (b := 7) (by decide) (show 0 ≤ f0_.toInt.toNat by omega) (show f0_.toInt.toNat ≤ 7 by omega)) k251
  have c252 := k251.gi (Or.inl (tk_ne kM_at0 kM_at3 (by decide))) cf0_
  have c253 := k251.gi (Or.inl (tk_ne kM_at0 kM_at3 (by decide))) cf1_
  have c254 := k251.gi (Or.inl (tk_ne kM_at0 kM_at3 (by decide))) cf2_
  have c255 := k251.gi (Or.inl (tk_ne kM_at5 kM_at3 (by decide))) cf4_
  have c250 : gi w249 3 (f0_.toInt).toNat = 0 := (congrArg (gi w249 3) (congrArg Int.toNat (show f0_.toInt = f0_.toInt by omega))).trans c250
  refine lv_aload_n hx hb dX12_readsAll_10 rfl (lv_at hl 0 rfl) ?_
  refine lv_iconst (v := 0) hx hb dX12_readsAll_11 (by decide) ?_
  refine tk_puti hC hK hw hT hinX12 tyX12_ok nmX12 kM_at0 (by decide) rfl rfl 20 (by decide) (List.mem_of_getElem? (i := 3) rfl) rfl rfl rfl rfl (by decide) (by decide) dX12_readsAll_12 (fun H locs w256 hw hT k258 c257 => ?_)
  replace hM := hM.wr (sI_upc k258 c257 (by decide))
  have hR := RL_F1 k258 (by decide) (by decide) (by decide) (by decide) hR
  have hF := hF.put kM_at0 (k := 20) (by decide) k258
  have c259 := k258.gi (Or.inr (by decide)) c252
  have c260 := k258.gi (Or.inr (by decide)) c253
  have c261 := k258.gi (Or.inl (tk_ne kM_at5 kM_at0 (by decide))) c255
  have c262 := k258.gi (Or.inl (tk_ne kM_at3 kM_at0 (by decide))) c250
  refine lv_aload_n hx hb dX12_readsAll_15 rfl (lv_at hl 0 rfl) ?_
  refine lv_iconst (v := 0) hx hb dX12_readsAll_16 (by decide) ?_
  refine tk_puti hC hK hw hT hinX12 tyX12_ok nmX12 kM_at0 (by decide) rfl rfl 14 (by decide) (List.mem_of_getElem? (i := 4) rfl) rfl rfl rfl rfl (by decide) (by decide) dX12_readsAll_17 (fun H locs w263 hw hT k265 c264 => ?_)
  replace hM := hM.wr (sI_upc k265 c264 (by decide))
  have hR := RL_F1 k265 (by decide) (by decide) (by decide) (by decide) hR
  have hF := hF.put kM_at0 (k := 14) (by decide) k265
  have c266 := k265.gi (Or.inr (by decide)) c259
  have c267 := k265.gi (Or.inr (by decide)) c260
  have c268 := k265.gi (Or.inl (tk_ne kM_at5 kM_at0 (by decide))) c261
  have c269 := k265.gi (Or.inl (tk_ne kM_at3 kM_at0 (by decide))) c262
  have c270 := k265.gi (Or.inr (by decide)) c257
  refine lv_aload_n hx hb dX12_readsAll_20 rfl (lv_at hl 0 rfl) ?_
  refine lv_iconst (v := 0) hx hb dX12_readsAll_21 (by decide) ?_
  refine tk_puti hC hK hw hT hinX12 tyX12_ok nmX12 kM_at0 (by decide) rfl rfl 15 (by decide) (List.mem_of_getElem? (i := 5) rfl) rfl rfl rfl rfl (by decide) (by decide) dX12_readsAll_22 (fun H locs w271 hw hT k273 c272 => ?_)
  replace hM := hM.wr (sI_upc k273 c272 (by decide))
  have hR := RL_F1 k273 (by decide) (by decide) (by decide) (by decide) hR
  have hF := hF.put kM_at0 (k := 15) (by decide) k273
  have c274 := k273.gi (Or.inr (by decide)) c266
  have c275 := k273.gi (Or.inr (by decide)) c267
  have c276 := k273.gi (Or.inl (tk_ne kM_at5 kM_at0 (by decide))) c268
  have c277 := k273.gi (Or.inl (tk_ne kM_at3 kM_at0 (by decide))) c269
  have c278 := k273.gi (Or.inr (by decide)) c270
  have c279 := k273.gi (Or.inr (by decide)) c264
  refine lv_aload_n hx hb dX12_readsAll_25 rfl (lv_at hl 0 rfl) ?_
  refine lv_iconst (v := 0) hx hb dX12_readsAll_26 (by decide) ?_
  refine tk_puti hC hK hw hT hinX12 tyX12_ok nmX12 kM_at0 (by decide) rfl rfl 18 (by decide) (List.mem_of_getElem? (i := 6) rfl) rfl rfl rfl rfl (by decide) (by decide) dX12_readsAll_27 (fun H locs w280 hw hT k282 c281 => ?_)
  replace hM := hM.wr (sI_upc k282 c281 (by decide))
  have hR := RL_F1 k282 (by decide) (by decide) (by decide) (by decide) hR
  have hF := hF.put kM_at0 (k := 18) (by decide) k282
  have c283 := k282.gi (Or.inr (by decide)) c274
  have c284 := k282.gi (Or.inl (tk_ne kM_at5 kM_at0 (by decide))) c276
  have c285 := k282.gi (Or.inl (tk_ne kM_at3 kM_at0 (by decide))) c277
  have c286 := k282.gi (Or.inr (by decide)) c278
  have c287 := k282.gi (Or.inr (by decide)) c279
  have c288 := k282.gi (Or.inr (by decide)) c272
  refine lv_aload_n hx hb dX12_readsAll_30 rfl (lv_at hl 0 rfl) ?_
  refine tk_Vi hC hK hw hT hA hE hSR kM_at0 (by decide) rfl (kz_X12_clauseHere_2 l adK adV dC dI cy ad B (by omega) (by omega) qr s1    w280 H.size hT f0_ c283 (show 0 ≤ f0_.toInt by omega) (show f0_.toInt ≤ 5 by omega) 0 c281 (by decide) (by decide) 0 c286 (by decide) (by decide) 0 c285 (by decide) (by decide) f4_ c284 (show 0 ≤ f4_.toInt by omega) (show f4_.toInt ≤ 12 by omega) (show 3 * (0 : Int) ≤ 14 * (0 : Int) by omega) (show f4_.toInt ≤ (0 : Int) by omega) (show (0 : Int) ≤ 12 by omega) (show (0 : Int) ≤ 280 by omega) hR) (cwV 0 hC.2.2.2.2 gX12_readsAll_X12_clauseHere rfl rfl rfl (by decide +kernel) ⟨Nat.le_of_ble_eq_true rfl, Nat.le_of_ble_eq_true rfl⟩) rfl hl.1 rfl (Nat.le_of_ble_eq_true rfl) dX12_readsAll_31 (fun r289 w291 H locs hp290 hw => ?_)
  obtain ⟨hT, k292, hv338, hg337⟩ := hp290
  have hF := hF.tr k292 (by decide)
  have c339 := k292.gi kM_at0 (by decide) c283
  rcases hg337 with ⟨rfl, ⟨x293, c294, rx293, tx293⟩, ⟨x295, c296, rx295, tx295⟩, ⟨x297, c298, rx297, tx297⟩, ⟨x299, c300, rx299, tx299⟩, hq301, g302, g303⟩ | ⟨rfl, ⟨x304, c305, rx304, tx304⟩, ⟨x306, c307, rx306, tx306⟩, ⟨x308, c309, rx308, tx308⟩, ⟨x310, c311, rx310, tx310⟩, hq312, g313, g314⟩ | ⟨rfl, ⟨x315, c316, rx315, tx315⟩, ⟨x317, c318, rx317, tx317⟩, ⟨x319, c320, rx319, tx319⟩, hq321, g322, g323, g324, g325⟩ | ⟨rfl, ⟨x326, c327, rx326, tx326⟩, ⟨x328, c329, rx328, tx328⟩, ⟨x330, c331, rx330, tx330⟩, hq332, g333, g334, g335, g336⟩
  · replace hM := hM.call (r' := 0) hv338 (by decide)
    have ex297 : x297.toInt = f0_.toInt := by rw [← c339.symm.trans c298]
    obtain ⟨x340, c341, rx340, tx340⟩ := hT.rda (lo := 0) (hi := 400) (i := (f0_.toInt).toNat) kM_at3 rfl rfl (by omega)
    obtain ⟨x342, c343, rx342, tx342⟩ := hT.rdi (lo := 0) (hi := 60) (k := 18) kM_at0 (by decide) rfl
    obtain ⟨x344, c345, rx344, tx344⟩ := hT.rda (lo := 0) (hi := 12) (i := (f0_.toInt).toNat) kM_at5 rfl rfl (by omega)
    have g302 : (0 : Int) ≤ x299.toInt := by have q := g302; simp only [c283, c339, c286, (show (0 : Int32).toInt = 0 by decide), c300] at q; omega
    have g303 : x299.toInt ≤ 12 := by have q := g303; simp only [c283, c339, c300] at q; omega
    have hR := hq301
    refine lv_istore_n (lv' := [(1, .int 0), (0, .ref (ad 0))]) hx hb dX12_readsAll_34 rfl hl (by decide) rfl (fun ls hl => ?_)
    exact L35 ((2 * (32 - x299.toInt) + (0 : Int)).toNat + 1) 0 x293 x342 x299 x340 x344 H locs ls w291 (by decide) (by decide) (show 0 ≤ x293.toInt by omega) (show x293.toInt ≤ 400 by omega) (show 0 ≤ f0_.toInt by omega) (show f0_.toInt ≤ 5 by omega) (show 0 ≤ x342.toInt by omega) (show x342.toInt ≤ 60 by omega) (show 0 ≤ x299.toInt by omega) (show x299.toInt ≤ 12 by omega) (show 0 ≤ x340.toInt by omega) (show x340.toInt ≤ 400 by omega) (show 0 ≤ x344.toInt by omega) (show x344.toInt ≤ 12 by omega) (show ((0 : Int) = 0 ∨ 3 * x340.toInt ≤ 14 * x342.toInt) by omega) (show ((0 : Int) = 0 ∨ x344.toInt ≤ x299.toInt) by omega) (show x299.toInt ≤ 12 by omega) (Nat.lt_succ_self _) hw hT hF hR c294 c339 c343 c300 c341 c345 hM (lv_sub hl [1, 0] rfl)
  · replace hM := hM.call (r' := 0) hv338 (by decide)
    have ex308 : x308.toInt = f0_.toInt := by rw [← c339.symm.trans c309]
    obtain ⟨x346, c347, rx346, tx346⟩ := hT.rda (lo := 0) (hi := 400) (i := (f0_.toInt).toNat) kM_at3 rfl rfl (by omega)
    obtain ⟨x348, c349, rx348, tx348⟩ := hT.rdi (lo := 0) (hi := 60) (k := 18) kM_at0 (by decide) rfl
    obtain ⟨x350, c351, rx350, tx350⟩ := hT.rda (lo := 0) (hi := 12) (i := (f0_.toInt).toNat) kM_at5 rfl rfl (by omega)
    have g313 : (0 : Int) ≤ x310.toInt := by have q := g313; simp only [c283, c339, c286, (show (0 : Int32).toInt = 0 by decide), c311] at q; omega
    have g314 : x310.toInt ≤ 12 := by have q := g314; simp only [c283, c339, c311] at q; omega
    have hR := hq312
    refine lv_istore_n (lv' := [(1, .int 0), (0, .ref (ad 0))]) hx hb dX12_readsAll_34 rfl hl (by decide) rfl (fun ls hl => ?_)
    exact L35 ((2 * (32 - x310.toInt) + (0 : Int)).toNat + 1) 0 x304 x348 x310 x346 x350 H locs ls w291 (by decide) (by decide) (show 0 ≤ x304.toInt by omega) (show x304.toInt ≤ 400 by omega) (show 0 ≤ f0_.toInt by omega) (show f0_.toInt ≤ 5 by omega) (show 0 ≤ x348.toInt by omega) (show x348.toInt ≤ 60 by omega) (show 0 ≤ x310.toInt by omega) (show x310.toInt ≤ 12 by omega) (show 0 ≤ x346.toInt by omega) (show x346.toInt ≤ 400 by omega) (show 0 ≤ x350.toInt by omega) (show x350.toInt ≤ 12 by omega) (show ((0 : Int) = 0 ∨ 3 * x346.toInt ≤ 14 * x348.toInt) by omega) (show ((0 : Int) = 0 ∨ x350.toInt ≤ x310.toInt) by omega) (show x310.toInt ≤ 12 by omega) (Nat.lt_succ_self _) hw hT hF hR c305 c339 c349 c311 c347 c351 hM (lv_sub hl [1, 0] rfl)
  · replace hM := hM.call (r' := 1) hv338 (by decide)
    have ex317 : x317.toInt = f0_.toInt := by rw [← c339.symm.trans c318]
    obtain ⟨x352, c353, rx352, tx352⟩ := hT.rda (lo := 0) (hi := 400) (i := (f0_.toInt).toNat) kM_at3 rfl rfl (by omega)
    obtain ⟨x354, c355, rx354, tx354⟩ := hT.rdi (lo := 0) (hi := 60) (k := 18) kM_at0 (by decide) rfl
    obtain ⟨x356, c357, rx356, tx356⟩ := hT.rda (lo := 0) (hi := 12) (i := (f0_.toInt).toNat) kM_at5 rfl rfl (by omega)
    have g322 : 3 * x352.toInt ≤ 14 * x354.toInt := by have q := g322; simp only [c283, c339, c353, c355] at q; omega
    have g323 : x356.toInt ≤ x319.toInt := by have q := g323; simp only [c283, c339, c357, c320] at q; omega
    have g324 : x319.toInt = (0 : Int) + 1 := by have q := g324; simp only [c283, c339, c286, (show (0 : Int32).toInt = 0 by decide), c320] at q; omega
    have g325 : x319.toInt ≤ 12 := by have q := g325; simp only [c283, c339, c320] at q; omega
    have hR := hq321
    refine lv_istore_n (lv' := [(1, .int 1), (0, .ref (ad 0))]) hx hb dX12_readsAll_34 rfl hl (by decide) rfl (fun ls hl => ?_)
    exact L35 ((2 * (32 - x319.toInt) + (1 : Int)).toNat + 1) 1 x315 x354 x319 x352 x356 H locs ls w291 (by decide) (by decide) (show 0 ≤ x315.toInt by omega) (show x315.toInt ≤ 400 by omega) (show 0 ≤ f0_.toInt by omega) (show f0_.toInt ≤ 5 by omega) (show 0 ≤ x354.toInt by omega) (show x354.toInt ≤ 60 by omega) (show 0 ≤ x319.toInt by omega) (show x319.toInt ≤ 12 by omega) (show 0 ≤ x352.toInt by omega) (show x352.toInt ≤ 400 by omega) (show 0 ≤ x356.toInt by omega) (show x356.toInt ≤ 12 by omega) (show ((1 : Int) = 0 ∨ 3 * x352.toInt ≤ 14 * x354.toInt) by omega) (show ((1 : Int) = 0 ∨ x356.toInt ≤ x319.toInt) by omega) (show x319.toInt ≤ 12 by omega) (Nat.lt_succ_self _) hw hT hF hR c316 c339 c355 c320 c353 c357 hM (lv_sub hl [1, 0] rfl)
  · replace hM := hM.call (r' := 1) hv338 (by decide)
    have ex328 : x328.toInt = f0_.toInt := by rw [← c339.symm.trans c329]
    obtain ⟨x358, c359, rx358, tx358⟩ := hT.rda (lo := 0) (hi := 400) (i := (f0_.toInt).toNat) kM_at3 rfl rfl (by omega)
    obtain ⟨x360, c361, rx360, tx360⟩ := hT.rdi (lo := 0) (hi := 60) (k := 18) kM_at0 (by decide) rfl
    obtain ⟨x362, c363, rx362, tx362⟩ := hT.rda (lo := 0) (hi := 12) (i := (f0_.toInt).toNat) kM_at5 rfl rfl (by omega)
    have g333 : 3 * x358.toInt ≤ 14 * x360.toInt := by have q := g333; simp only [c283, c339, c359, c361] at q; omega
    have g334 : x362.toInt ≤ x330.toInt := by have q := g334; simp only [c283, c339, c363, c331] at q; omega
    have g335 : x330.toInt = (0 : Int) + 1 := by have q := g335; simp only [c283, c339, c286, (show (0 : Int32).toInt = 0 by decide), c331] at q; omega
    have g336 : x330.toInt ≤ 12 := by have q := g336; simp only [c283, c339, c331] at q; omega
    have hR := hq332
    refine lv_istore_n (lv' := [(1, .int 1), (0, .ref (ad 0))]) hx hb dX12_readsAll_34 rfl hl (by decide) rfl (fun ls hl => ?_)
    exact L35 ((2 * (32 - x330.toInt) + (1 : Int)).toNat + 1) 1 x326 x360 x330 x358 x362 H locs ls w291 (by decide) (by decide) (show 0 ≤ x326.toInt by omega) (show x326.toInt ≤ 400 by omega) (show 0 ≤ f0_.toInt by omega) (show f0_.toInt ≤ 5 by omega) (show 0 ≤ x360.toInt by omega) (show x360.toInt ≤ 60 by omega) (show 0 ≤ x330.toInt by omega) (show x330.toInt ≤ 12 by omega) (show 0 ≤ x358.toInt by omega) (show x358.toInt ≤ 400 by omega) (show 0 ≤ x362.toInt by omega) (show x362.toInt ≤ 12 by omega) (show ((1 : Int) = 0 ∨ 3 * x358.toInt ≤ 14 * x360.toInt) by omega) (show ((1 : Int) = 0 ∨ x362.toInt ≤ x330.toInt) by omega) (show x330.toInt ≤ 12 by omega) (Nat.lt_succ_self _) hw hT hF hR c327 c339 c361 c331 c359 c363 hM (lv_sub hl [1, 0] rfl)
abbrev Pz_X12_rule_1 (ad : Nat → Nat) (cy : Nat → ClassId) (B : Int) (qr : Nat) (s1 : Int)  (w0 : va_W) : Int32 → va_W → Prop := fun r u => TW ksM ad cy B qr 12 u ∧ FE ksM [(12, 1, 1), (12, 2, 2), (12, 14, 14), (12, 15, 15), (12, 16, 16), (12, 17, 17), (12, 18, 18), (12, 19, 19), (12, 20, 20), (12, 22, 22), (61, 0, 2400), (62, 0, 7), (63, 0, 216), (64, 0, 6), (68, 0, 400)] w0 u ∧ Ev (fun n => m_X12_rule n 0 (sI w0)) (r.toInt, sI u) ∧ (((-3207) ≤ r.toInt ∧ r.toInt ≤ (-3) ∧ (∃ y : Int32, gi u 0 1 = y ∧ 0 ≤ y.toInt ∧ y.toInt ≤ 0) ∧ (∃ y : Int32, gi u 0 2 = y ∧ 0 ≤ y.toInt ∧ y.toInt ≤ 5) ∧ (∃ y : Int32, gi u 0 15 = y ∧ 1 ≤ y.toInt ∧ y.toInt ≤ 3205) ∧ (∃ y : Int32, gi u 0 17 = y ∧ 0 ≤ y.toInt ∧ y.toInt ≤ 5) ∧ (∃ y : Int32, gi u 0 20 = y ∧ 0 ≤ y.toInt ∧ y.toInt ≤ 12) ∧ RW u) ∨ (0 ≤ r.toInt ∧ r.toInt ≤ 5 ∧ (∃ y : Int32, gi u 0 1 = y ∧ 0 ≤ y.toInt ∧ y.toInt ≤ 0) ∧ (∃ y : Int32, gi u 0 2 = y ∧ 1 ≤ y.toInt ∧ y.toInt ≤ 6) ∧ (∃ y : Int32, gi u 0 15 = y ∧ 0 ≤ y.toInt ∧ y.toInt ≤ 0) ∧ (∃ y : Int32, gi u 0 17 = y ∧ 0 ≤ y.toInt ∧ y.toInt ≤ 5) ∧ (∃ y : Int32, gi u 0 20 = y ∧ 0 ≤ y.toInt ∧ y.toInt ≤ 12) ∧ RW u) ∨ (r = (-1) ∧ (∃ y : Int32, gi u 0 2 = y ∧ 6 ≤ y.toInt ∧ y.toInt ≤ 6) ∧ RW u))
set_option maxHeartbeats 4000000 in
set_option maxRecDepth 100000 in
theorem kz_X12_rule_1 (l : Launch) (adK adV : Nat → Nat) (dC : Nat → ClassId) (dI : Nat → Nat → Nat) (cy : Nat → ClassId) (ad : Nat → Nat) (B : Int) (hB0 : 100000 ≤ B) (hB1 : B ≤ 1073741824) (qr : Nat) (s1 : Int)   (w0 : va_W) (sz : Nat) (hT : TW ksM ad cy B qr 12 w0) (hRW : RW w0) : Met l yX12_rule wsX12_rule ({ frames := 13, cells := 0, slots := 0, locals := 276 }) (va_Pc [.ref (ad 0)] (wpreS adK adV dC dI cy sz w0)) (va_Qi (Pz_X12_rule_1 ad cy B qr s1  w0) (fun u : va_W => wpost dC dI cy (va_A w0 sz) u) (va_A w0 sz)) 0 0 (va_A w0 sz) := by
  refine Met.ofW (cc := cX12_rule) (maxL := 1) (ret := (some .int)) (by decide) rfl ?_
  intro p e s m args below meth c s₁ Bk hml hv
  obtain ⟨rfl, ⟨hsz, hP, hK, hD0⟩, hE, hSR⟩ := hv
  have hx := Bk.exec
  have hb := Bk.bytes
  have hr := Bk.returns
  have hlocks := Bk.notSynchronized
  have hC : CallFix p m c cX12_rule 1 s _ wsX12_rule RX12 := ⟨hx, hb, hml, findClass_of_methodNamed Bk.named, atoms_spec (ws := wsX12_rule) Bk.pre⟩
  subst hsz
  have hD := hD0.self (sz := s.heap.size)
  generalize hAe : va_A w0 s.heap.size = A at hD hE ⊢
  have hA : ∀ q : Nat, s.heap.size ≤ q → A q := fun q h => by rw [← hAe]; exact Or.inr h
  have hw : Wd dC dI A s.heap s.heap [] w0 := ⟨hP, hD, va_S.rf⟩
  have hF : FE ksM [(12, 1, 1), (12, 2, 2), (12, 14, 14), (12, 15, 15), (12, 16, 16), (12, 17, 17), (12, 18, 18), (12, 19, 19), (12, 20, 20), (12, 22, 22), (61, 0, 2400), (62, 0, 7), (63, 0, 216), (64, 0, 6), (68, 0, 400)] w0 w0 := FE.rf
  have hl := lv_entry ([.ref (ad 0)]) (n := 1) (Nat.le_of_ble_eq_true rfl)
  rw [lg_entry_eq]
  generalize (lg_sl ([.ref (ad 0)]) ++ List.replicate (1 - (lg_sl ([.ref (ad 0)])).length) Slot.unset).toArray = ls at hl ⊢
  have hl : lv_has ls 1 [(0, .ref (ad 0))] := hl
  generalize hloc : ([] : List Loc) = locs at hw ⊢
  have hinX12 : ∀ w ∈ u_ws RX12 TX12 42, w ∈ wsX12_rule := fun _ h => List.mem_cons_of_mem _ (List.mem_append_right _ (h))
  have hM : TT (fun n => m_X12_rule n 0 (sI w0)) (fun n => m_X12_rule n 0 (sI w0)) := TT.rf
  refine lv_aload_n hx hb dX12_rule_0 rfl (lv_at hl 0 rfl) ?_
  refine tk_geti hC hK hw hT hinX12 kM_at0 (by decide) rfl 2 (by decide) (List.mem_of_getElem? (i := 1) rfl) rfl rfl dX12_rule_1 (fun x1 c2 rx1 tx1 => ?_)
  replace hM := hM.rd (sI_at c2)
  refine lv_bipush (v := 6) hx hb dX12_rule_4 (by decide) ?_
  refine lv_icmp_ne (tgt := 11) hx hb dX12_rule_6 (by decide) (fun c3 => ?_) (fun c3 => ?_)
  · have c3 : ¬ x1.toInt = (6 : Int) := wk_eqF c3
    replace hM := hM.pos c3
    refine lv_aload_n hx hb dX12_rule_11 rfl (lv_at hl 0 rfl) ?_
    refine lv_aload_n hx hb dX12_rule_12 rfl (lv_at hl 0 rfl) ?_
    refine tk_geti hC hK hw hT hinX12 kM_at0 (by decide) rfl 2 (by decide) (List.mem_of_getElem? (i := 1) rfl) rfl rfl dX12_rule_13 (fun x4 c5 rx4 tx4 => ?_)
    refine wk_top x1 (c5.symm.trans c2) ?_
    replace hM := hM.rd (sI_at c2)
    refine tk_puti hC hK hw hT hinX12 tyX12_ok nmX12 kM_at0 (by decide) rfl rfl 17 (by decide) (List.mem_of_getElem? (i := 2) rfl) rfl rfl rfl rfl (show 0 ≤ x1.toInt by omega) (show x1.toInt ≤ 6 by omega) dX12_rule_16 (fun H locs w6 hw hT k8 c7 => ?_)
    replace hM := hM.wr (sI_up k8 c7)
    have hRW := RW_F1 k8 (by decide) (by decide) (by decide) hRW
    have hF := hF.put kM_at0 (k := 17) (by decide) k8
    have c9 := k8.gi (Or.inr (by decide)) c2
    refine lv_aload_n hx hb dX12_rule_19 rfl (lv_at hl 0 rfl) ?_
    refine tk_getA hC hK hw hT hinX12 kM_at0 (by decide) rfl 6 (by decide) (List.mem_of_getElem? (i := 3) rfl) rfl rfl dX12_rule_20 ?_
    refine lv_aload_n hx hb dX12_rule_23 rfl (lv_at hl 0 rfl) ?_
    refine tk_geti hC hK hw hT hinX12 kM_at0 (by decide) rfl 17 (by decide) (List.mem_of_getElem? (i := 2) rfl) rfl rfl dX12_rule_24 (fun x10 c11 rx10 tx10 => ?_)
    refine wk_top x1 (c11.symm.trans c7) ?_
    replace hM := hM.rd (sI_at c7)
    refine lv_iconst (v := 0) hx hb dX12_rule_27 (by decide) ?_
    refine tk_iast hC hK hw hT kM_at5 (by decide) rfl rfl (show 0 ≤ x1.toInt by omega) (show x1.toInt < 6 by omega) (by decide) (by decide) dX12_rule_28 (fun H locs w12 hw hT k14 c13 => ?_)
    replace hM := hM.wr (sI_upc k14 c13 (by decide))
    have hRW := RL_new (t := x1.toInt) hRW (by omega) (by omega) k14 (by rw [show gi w12 5 (x1.toInt).toNat = 0 from c13]; decide)
    have hF := hF.put kM_at5 (inE_of (a := 0) (b := 6) (by decide) (show 0 ≤ x1.toInt.toNat by omega) (show x1.toInt.toNat ≤ 6 by omega)) k14
    have c15 := k14.gi (Or.inl (tk_ne kM_at0 kM_at5 (by decide))) c9
    have c16 := k14.gi (Or.inl (tk_ne kM_at0 kM_at5 (by decide))) c7
    have c13 : gi w12 5 (x1.toInt).toNat = 0 := (congrArg (gi w12 5) (congrArg Int.toNat (show x1.toInt = x1.toInt by omega))).trans c13
    refine lv_aload_n hx hb dX12_rule_29 rfl (lv_at hl 0 rfl) ?_
    obtain ⟨x17, c18, rx17, tx17⟩ := hT.rda (lo := 0) (hi := 400) (i := (x1.toInt).toNat) kM_at3 rfl rfl (by omega)
    obtain ⟨x19, c20, rx19, tx19⟩ := hT.rdi (lo := 0) (hi := 60) (k := 18) kM_at0 (by decide) rfl
    obtain ⟨x21, c22, rx21, tx21⟩ := hT.rdi (lo := 0) (hi := 32) (k := 20) kM_at0 (by decide) rfl
    refine tk_Vi hC hK hw hT hA hE hSR kM_at0 (by decide) rfl (kz_X12_readsAll_2 l adK adV dC dI cy ad B (by omega) (by omega) qr s1    w12 H.size hT x1 c16 (show 0 ≤ x1.toInt by omega) (show x1.toInt ≤ 5 by omega) x19 c20 (show 0 ≤ x19.toInt by omega) (show x19.toInt ≤ 60 by omega) x21 c22 (show 0 ≤ x21.toInt by omega) (show x21.toInt ≤ 32 by omega) x17 c18 (show 0 ≤ x17.toInt by omega) (show x17.toInt ≤ 400 by omega) 0 c13 (by decide) (by decide) (show (0 : Int) ≤ 0 by omega) hRW) (cwV 0 hC.2.2.2.2 gX12_rule_X12_readsAll rfl rfl rfl (by decide +kernel) ⟨Nat.le_of_ble_eq_true rfl, Nat.le_of_ble_eq_true rfl⟩) rfl hl.1 rfl (Nat.le_of_ble_eq_true rfl) dX12_rule_30 (fun r23 w25 H locs hp24 hw => ?_)
    obtain ⟨hT, k26, hv46, hg45⟩ := hp24
    have hF := hF.tr k26 (by decide)
    have c47 := k26.gi kM_at0 (by decide) c15
    have c48 := k26.gi kM_at0 (by decide) c16
    rcases hg45 with ⟨rfl, ⟨x27, c28, rx27, tx27⟩, ⟨x29, c30, rx29, tx29⟩, ⟨x31, c32, rx31, tx31⟩, ⟨x33, c34, rx33, tx33⟩, hq35⟩ | ⟨rfl, ⟨x36, c37, rx36, tx36⟩, ⟨x38, c39, rx38, tx38⟩, ⟨x40, c41, rx40, tx40⟩, ⟨x42, c43, rx42, tx42⟩, hq44⟩
    · replace hM := hM.call (r' := 0) hv46 (by decide)
      have ex31 : x31.toInt = x1.toInt := by rw [← c48.symm.trans c32]
      obtain ⟨x49, c50, rx49, tx49⟩ := hT.rda (lo := 0) (hi := 400) (i := (x1.toInt).toNat) kM_at3 rfl rfl (by omega)
      obtain ⟨x51, c52, rx51, tx51⟩ := hT.rdi (lo := 0) (hi := 60) (k := 18) kM_at0 (by decide) rfl
      obtain ⟨x53, c54, rx53, tx53⟩ := hT.rda (lo := 0) (hi := 12) (i := (x1.toInt).toNat) kM_at5 rfl rfl (by omega)
      have hRW := hq35
      refine lv_if_ne (tgt := 44) hx hb dX12_rule_33 (by decide) (fun c => absurd (by decide) c) (fun _ => ?_)
      replace hM := hM.neg (by decide)
      refine lv_bipush (v := (-2)) hx hb dX12_rule_36 (by decide) ?_
      refine lv_aload_n hx hb dX12_rule_38 rfl (lv_at hl 0 rfl) ?_
      refine tk_geti hC hK hw hT hinX12 kM_at0 (by decide) rfl 15 (by decide) (List.mem_of_getElem? (i := 4) rfl) rfl rfl dX12_rule_39 (fun x61 c62 rx61 tx61 => ?_)
      refine wk_top x29 (c62.symm.trans c30) ?_
      replace hM := hM.rd (sI_at c30)
      refine lv_isub hx hb dX12_rule_42 ?_
      refine lv_topi (fun x63 ex63 => ?_)
      have ezx63 := ex63
      have ex63 : x63.toInt = (-2 : Int) - x29.toInt := by rw [ex63]; exact wk_sub (show (-2147483648) ≤ (-2 : Int) - x29.toInt by omega) (show (-2 : Int) - x29.toInt ≤ 2147483647 by omega)
      replace hM := hM.lt ex63.symm
      exact tk_iret hC hr hlocks hK ⟨hT, hF, hM.ret rfl, (Or.inl ⟨(show (-3207) ≤ x63.toInt by omega), (show x63.toInt ≤ (-3) by omega), ⟨x27, c28, (show 0 ≤ x27.toInt by omega), (show x27.toInt ≤ 0 by omega)⟩, ⟨x1, c47, (show 0 ≤ x1.toInt by omega), (show x1.toInt ≤ 5 by omega)⟩, ⟨x29, c30, (show 1 ≤ x29.toInt by omega), (show x29.toInt ≤ 3205 by omega)⟩, ⟨x1, c48, (show 0 ≤ x1.toInt by omega), (show x1.toInt ≤ 5 by omega)⟩, ⟨x33, c34, (show 0 ≤ x33.toInt by omega), (show x33.toInt ≤ 12 by omega)⟩, hRW⟩)⟩ hw dX12_rule_43
    · replace hM := hM.call (r' := 1) hv46 (by decide)
      have ex40 : x40.toInt = x1.toInt := by rw [← c48.symm.trans c41]
      obtain ⟨x55, c56, rx55, tx55⟩ := hT.rda (lo := 0) (hi := 400) (i := (x1.toInt).toNat) kM_at3 rfl rfl (by omega)
      obtain ⟨x57, c58, rx57, tx57⟩ := hT.rdi (lo := 0) (hi := 60) (k := 18) kM_at0 (by decide) rfl
      obtain ⟨x59, c60, rx59, tx59⟩ := hT.rda (lo := 0) (hi := 12) (i := (x1.toInt).toNat) kM_at5 rfl rfl (by omega)
      have hRW := hq44
      refine lv_if_ne (tgt := 44) hx hb dX12_rule_33 (by decide) (fun _ => ?_) (fun c => absurd c (by decide))
      replace hM := hM.pos (by decide)
      refine lv_aload_n hx hb dX12_rule_44 rfl (lv_at hl 0 rfl) ?_
      refine lv_dup hx hb dX12_rule_45 rfl ?_
      refine tk_geti hC hK hw hT hinX12 kM_at0 (by decide) rfl 2 (by decide) (List.mem_of_getElem? (i := 1) rfl) rfl rfl dX12_rule_46 (fun x64 c65 rx64 tx64 => ?_)
      refine wk_top x1 (c65.symm.trans c47) ?_
      replace hM := hM.rd (sI_at c47)
      refine lv_iconst (v := 1) hx hb dX12_rule_49 (by decide) ?_
      refine lv_iadd hx hb dX12_rule_50 ?_
      refine lv_topi (fun x66 ex66 => ?_)
      have ezx66 := ex66
      have ex66 : x66.toInt = x1.toInt + (1 : Int) := by rw [ex66]; exact wk_add (show (-2147483648) ≤ x1.toInt + (1 : Int) by omega) (show x1.toInt + (1 : Int) ≤ 2147483647 by omega)
      replace hM := hM.lt ex66.symm
      refine tk_puti hC hK hw hT hinX12 tyX12_ok nmX12 kM_at0 (by decide) rfl rfl 2 (by decide) (List.mem_of_getElem? (i := 1) rfl) rfl rfl rfl rfl (show 0 ≤ x66.toInt by omega) (show x66.toInt ≤ 6 by omega) dX12_rule_51 (fun H locs w67 hw hT k69 c68 => ?_)
      replace hM := hM.wr (sI_up k69 c68)
      have hRW := RW_F1 k69 (by decide) (by decide) (by decide) hRW
      have hF := hF.put kM_at0 (k := 2) (by decide) k69
      have c70 := k69.gi (Or.inr (by decide)) c48
      have c71 := k69.gi (Or.inr (by decide)) c37
      have c72 := k69.gi (Or.inr (by decide)) c39
      have c73 := k69.gi (Or.inr (by decide)) c43
      have c74 := k69.gi (Or.inl (tk_ne kM_at3 kM_at0 (by decide))) c56
      have c75 := k69.gi (Or.inr (by decide)) c58
      have c76 := k69.gi (Or.inl (tk_ne kM_at5 kM_at0 (by decide))) c60
      refine lv_aload_n hx hb dX12_rule_54 rfl (lv_at hl 0 rfl) ?_
      refine tk_geti hC hK hw hT hinX12 kM_at0 (by decide) rfl 2 (by decide) (List.mem_of_getElem? (i := 1) rfl) rfl rfl dX12_rule_55 (fun x77 c78 rx77 tx77 => ?_)
      refine wk_top x66 (c78.symm.trans c68) ?_
      replace hM := hM.rd (sI_at c68)
      refine lv_iconst (v := 1) hx hb dX12_rule_58 (by decide) ?_
      refine lv_isub hx hb dX12_rule_59 ?_
      refine lv_topi (fun x79 ex79 => ?_)
      have ezx79 := ex79
      have ex79 : x79.toInt = x66.toInt - (1 : Int) := by rw [ex79]; exact wk_sub (show (-2147483648) ≤ x66.toInt - (1 : Int) by omega) (show x66.toInt - (1 : Int) ≤ 2147483647 by omega)
      replace hM := hM.lt ex79.symm
      exact tk_iret hC hr hlocks hK ⟨hT, hF, hM.ret rfl, (Or.inr (Or.inl ⟨(show 0 ≤ x79.toInt by omega), (show x79.toInt ≤ 5 by omega), ⟨x36, c71, (show 0 ≤ x36.toInt by omega), (show x36.toInt ≤ 0 by omega)⟩, ⟨x66, c68, (show 1 ≤ x66.toInt by omega), (show x66.toInt ≤ 6 by omega)⟩, ⟨x38, c72, (show 0 ≤ x38.toInt by omega), (show x38.toInt ≤ 0 by omega)⟩, ⟨x1, c70, (show 0 ≤ x1.toInt by omega), (show x1.toInt ≤ 5 by omega)⟩, ⟨x42, c73, (show 0 ≤ x42.toInt by omega), (show x42.toInt ≤ 12 by omega)⟩, hRW⟩))⟩ hw dX12_rule_60
  · have c3 : x1.toInt = (6 : Int) := wk_eq.mp c3
    replace hM := hM.neg (fun q => q c3)
    refine lv_iconst (v := (-1)) hx hb dX12_rule_9 (by decide) ?_
    exact tk_iret hC hr hlocks hK ⟨hT, hF, hM.ret (by decide), (Or.inr (Or.inr ⟨rfl, ⟨x1, c2, (show 6 ≤ x1.toInt by omega), (show x1.toInt ≤ 6 by omega)⟩, hRW⟩))⟩ hw dX12_rule_10
