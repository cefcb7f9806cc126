abbrev Pz_X12_readsAll_2 (ad : Nat → Nat) (cy : Nat → ClassId) (B : Int) (qr : Nat) (s1 : Int)  (w0 : va_W) : Int32 → va_W → Prop := fun r u => TW ksM ad cy B qr 12 u ∧ FE ksM [(12, 1, 1), (12, 14, 14), (12, 15, 15), (12, 16, 16), (12, 18, 18), (12, 19, 19), (12, 20, 20), (12, 22, 22), (61, 0, 2400), (62, 0, 7), (63, 0, 216), (64, 0, 6), (68, 0, 400)] w0 u ∧ Ev (fun n => m_X12_readsAll n 0 (sI w0)) (r.toInt, sI u) ∧ ((r = 0 ∧ (∃ y : Int32, gi u 0 1 = y ∧ 0 ≤ y.toInt ∧ y.toInt ≤ 0) ∧ (∃ y : Int32, gi u 0 15 = y ∧ 1 ≤ y.toInt ∧ y.toInt ≤ 3205) ∧ (∃ y : Int32, gi u 0 17 = y ∧ 0 ≤ y.toInt ∧ y.toInt ≤ 5) ∧ (∃ y : Int32, gi u 0 20 = y ∧ 0 ≤ y.toInt ∧ y.toInt ≤ 12) ∧ RW u) ∨ (r = 1 ∧ (∃ y : Int32, gi u 0 1 = y ∧ 0 ≤ y.toInt ∧ y.toInt ≤ 0) ∧ (∃ y : Int32, gi u 0 15 = y ∧ 0 ≤ y.toInt ∧ y.toInt ≤ 0) ∧ (∃ y : Int32, gi u 0 17 = y ∧ 0 ≤ y.toInt ∧ y.toInt ≤ 5) ∧ (∃ y : Int32, gi u 0 20 = y ∧ 0 ≤ y.toInt ∧ y.toInt ≤ 12) ∧ RW u))
set_option maxHeartbeats 4000000 in
set_option maxRecDepth 100000 in
theorem kz_X12_readsAll_2 (l : Launch) (adK adV : Nat → Nat) (dC : Nat → ClassId) (dI : Nat → Nat → Nat) (cy : Nat → ClassId) (ad : Nat → Nat) (B : Int) (hB0 : 100000 ≤ B) (hB1 : B ≤ 1073741824) (qr : Nat) (s1 : Int)   (w0 : va_W) (sz : Nat) (hT : TW ksM ad cy B qr 12 w0) (f0_ : Int32) (cf0_ : gi w0 0 17 = f0_) (rf0_ : 0 ≤ f0_.toInt) (tf0_ : f0_.toInt ≤ 5) (f1_ : Int32) (cf1_ : gi w0 0 18 = f1_) (rf1_ : 0 ≤ f1_.toInt) (tf1_ : f1_.toInt ≤ 60) (f2_ : Int32) (cf2_ : gi w0 0 20 = f2_) (rf2_ : 0 ≤ f2_.toInt) (tf2_ : f2_.toInt ≤ 32) (f3_ : Int32) (cf3_ : gi w0 3 (f0_.toInt).toNat = f3_) (rf3_ : 0 ≤ f3_.toInt) (tf3_ : f3_.toInt ≤ 400) (f4_ : Int32) (cf4_ : gi w0 5 (f0_.toInt).toNat = f4_) (rf4_ : 0 ≤ f4_.toInt) (tf4_ : f4_.toInt ≤ 12) (pr0_ : f4_.toInt ≤ 0) (hRW : RW w0) : Met l yX12_readsAll (wu yX12_readsAll cX12_readsAll 2 (some .boolean)) ({ frames := 12, cells := 0, slots := 0, locals := 255 }) (va_Pc [.ref (ad 0)] (wpreS adK adV dC dI cy sz w0)) (va_Qi (Pz_X12_readsAll_2 ad cy B qr s1  w0) (fun u : va_W => wpost dC dI cy (va_A w0 sz) u) (va_A w0 sz)) 0 0 (va_A w0 sz) := by
  refine Met.ofW (cc := cX12_readsAll) (maxL := 2) (ret := (some .boolean)) (by decide) rfl ?_
  intro p e s m args below meth c s₁ Bk hml hv
  obtain ⟨rfl, ⟨hsz, hP, hK, hD0⟩, hE, hSR⟩ := hv
  have hx := Bk.exec
  have hb := Bk.bytes
  have hr := Bk.returns
  have hlocks := Bk.notSynchronized
  have hC : CallFix p m c cX12_readsAll 2 s _ (wu yX12_readsAll cX12_readsAll 2 (some .boolean)) RX12 := ⟨hx, hb, hml, findClass_of_methodNamed Bk.named, atoms_spec (ws := (wu yX12_readsAll cX12_readsAll 2 (some .boolean))) Bk.pre⟩
  subst hsz
  have hD := hD0.self (sz := s.heap.size)
  generalize hAe : va_A w0 s.heap.size = A at hD hE ⊢
  have hA : ∀ q : Nat, s.heap.size ≤ q → A q := fun q h => by rw [← hAe]; exact Or.inr h
  have hw : Wd dC dI A s.heap s.heap [] w0 := ⟨hP, hD, va_S.rf⟩
  have hF : FE ksM [(12, 1, 1), (12, 14, 14), (12, 15, 15), (12, 16, 16), (12, 18, 18), (12, 19, 19), (12, 20, 20), (12, 22, 22), (61, 0, 2400), (62, 0, 7), (63, 0, 216), (64, 0, 6), (68, 0, 400)] w0 w0 := FE.rf
  have hl := lv_entry ([.ref (ad 0)]) (n := 2) (Nat.le_of_ble_eq_true rfl)
  rw [lg_entry_eq]
  generalize (lg_sl ([.ref (ad 0)]) ++ List.replicate (2 - (lg_sl ([.ref (ad 0)])).length) Slot.unset).toArray = ls at hl ⊢
  have hl : lv_has ls 2 [(0, .ref (ad 0))] := hl
  generalize hloc : ([] : List Loc) = locs at hw ⊢
  have hinX12 : ∀ w ∈ u_ws RX12 TX12 42, w ∈ (wu yX12_readsAll cX12_readsAll 2 (some .boolean)) := fun _ h => List.mem_cons_of_mem _ (up_71 h)
  have J88 : ∀ (v88_1 : Int32) (f88_0_1 : Int32) (f88_0_18 : Int32) (f88_0_20 : Int32) (f88_3__f0__toInt_toNat : Int32) (f88_5__f0__toInt_toNat : Int32) (H : Heap) (locs : List Loc) (ls : Array Slot) (w1 : va_W), 0 ≤ v88_1.toInt → v88_1.toInt ≤ 1 → 0 ≤ f88_0_1.toInt → f88_0_1.toInt ≤ 400 → 0 ≤ f0_.toInt → f0_.toInt ≤ 5 → 0 ≤ f88_0_18.toInt → f88_0_18.toInt ≤ 60 → 0 ≤ f88_0_20.toInt → f88_0_20.toInt ≤ 12 → 0 ≤ f88_3__f0__toInt_toNat.toInt → f88_3__f0__toInt_toNat.toInt ≤ 400 → 0 ≤ f88_5__f0__toInt_toNat.toInt → f88_5__f0__toInt_toNat.toInt ≤ 12 → ((v88_1.toInt = 0 ∨ 3 * f88_3__f0__toInt_toNat.toInt ≤ 14 * f88_0_18.toInt)) → ((v88_1.toInt = 0 ∨ f88_5__f0__toInt_toNat.toInt ≤ f88_0_20.toInt)) → (f88_0_20.toInt ≤ 12) → Wd dC dI A s.heap H locs w1 → TW ksM ad cy B qr 12 w1 → FE ksM [(12, 1, 1), (12, 14, 14), (12, 15, 15), (12, 16, 16), (12, 18, 18), (12, 19, 19), (12, 20, 20), (12, 22, 22), (61, 0, 2400), (62, 0, 7), (63, 0, 216), (64, 0, 6), (68, 0, 400)] w0 w1 → RLc w1 f0_.toInt → gi w1 0 1 = f88_0_1 → gi w1 0 17 = f0_ → gi w1 0 18 = f88_0_18 → gi w1 0 20 = f88_0_20 → gi w1 3 (f0_.toInt).toNat = f88_3__f0__toInt_toNat → gi w1 5 (f0_.toInt).toNat = f88_5__f0__toInt_toNat → TT (fun n => m_X12_readsAll n 0 (sI w0)) (fun n => b_X12_readsAll_88 (j_X12_readsAll 0 n) n 0 (sI w1)) → lv_has ls 2 [(0, .ref (ad 0)), (1, .int v88_1)] → W p l e ({ frames := 12, cells := 0, slots := 0, locals := 255 }) s m (List.toArray [.ref (ad 0)]) below meth c H locs 0 0 (MQ below (va_Qi (Pz_X12_readsAll_2 ad cy B qr s1  w0) (fun u : va_W => wpost dC dI cy A u) A) (List.toArray [.ref (ad 0)]) s 0 0 A) (F0 m 88 ls []) := by
    intro v88_1 f88_0_1 f88_0_18 f88_0_20 f88_3__f0__toInt_toNat f88_5__f0__toInt_toNat H locs ls w1 r2 t3 r4 t5 r7 t8 r10 t11 r13 t14 r16 t17 r19 t20 hcr88_0 hcr88_1 hcr88_2 hw hT hF hR c6 c9 c12 c15 c18 c21 hM hl
    refine lv_aload_n hx hb dX12_readsAll_88 rfl (lv_at hl 0 rfl) ?_
    refine lv_iconst (v := 0) hx hb dX12_readsAll_89 (by decide) ?_
    refine tk_puti hC hK hw hT hinX12 tyX12_ok nmX12 kM_at0 (by decide) rfl rfl 1 (by decide) (List.mem_cons_of_mem _ uw_8_7) rfl rfl rfl rfl (by decide) (by decide) dX12_readsAll_90 (fun H locs w22 hw hT k24 c23 => ?_)
    replace hM := hM.wr (sI_upc k24 c23 (by decide))
    have hR := RL_F1 k24 (by decide) (by decide) (by decide) (by decide) hR
    have hF := hF.put kM_at0 (k := 1) (by decide) k24
    have c25 := k24.gi (Or.inr (by decide)) c9
    have c26 := k24.gi (Or.inr (by decide)) c12
    have c27 := k24.gi (Or.inr (by decide)) c15
    have c28 := k24.gi (Or.inl (tk_ne kM_at3 kM_at0 (by decide))) c18
    have c29 := k24.gi (Or.inl (tk_ne kM_at5 kM_at0 (by decide))) c21
    refine lv_aload_n hx hb dX12_readsAll_93 rfl (lv_at hl 0 rfl) ?_
    refine tk_geti hC hK hw hT hinX12 kM_at0 (by decide) rfl 15 (by decide) (List.mem_cons_of_mem _ uw_19_12) rfl rfl dX12_readsAll_94 (fun x30 c31 rx30 tx30 => ?_)
    replace hM := hM.rd (sI_at c31)
    refine lv_if_ne (tgt := 104) hx hb dX12_readsAll_97 (by decide) (fun c32 => ?_) (fun c32 => ?_)
    · have c32 : ¬ x30.toInt = (0 : Int) := wk_eqF c32
      replace hM := hM.pos c32
      refine lv_iconst (v := 0) hx hb dX12_readsAll_104 (by decide) ?_
      exact tk_zret hC hr rfl hlocks hK ⟨hT, hF, hM.ret (by decide), (Or.inl ⟨rfl, ⟨0, c23, (by decide), (by decide)⟩, ⟨x30, c31, (show 1 ≤ x30.toInt by first | with_reducible assumption | omega), (show x30.toInt ≤ 3205 from tx30)⟩, ⟨f0_, c25, (show 0 ≤ f0_.toInt from r7), (show f0_.toInt ≤ 5 from t8)⟩, ⟨f88_0_20, c27, (show 0 ≤ f88_0_20.toInt from r13), (show f88_0_20.toInt ≤ 12 from t14)⟩, hR.2.1⟩)⟩ hw dX12_readsAll_105
    · have c32 : x30.toInt = (0 : Int) := wk_eq.mp c32
      replace hM := hM.neg (fun q => q c32)
      refine lv_iconst (v := 1) hx hb dX12_readsAll_100 (by decide) ?_
      refine lv_goto (tgt := 105) hx hb dX12_readsAll_101 (by decide) ?_
      exact tk_zret hC hr rfl hlocks hK ⟨hT, hF, hM.ret (by decide), (Or.inr ⟨rfl, ⟨0, c23, (by decide), (by decide)⟩, ⟨x30, c31, (show 0 ≤ x30.toInt from rx30), (show x30.toInt ≤ 0 by first | with_reducible assumption | omega)⟩, ⟨f0_, c25, (show 0 ≤ f0_.toInt from r7), (show f0_.toInt ≤ 5 from t8)⟩, ⟨f88_0_20, c27, (show 0 ≤ f88_0_20.toInt from r13), (show f88_0_20.toInt ≤ 12 from t14)⟩, hR.2.1⟩)⟩ hw dX12_readsAll_105
  have J66 : ∀ (v66_1 : Int32) (f66_0_1 : Int32) (f66_0_18 : Int32) (f66_0_20 : Int32) (f66_3__f0__toInt_toNat : Int32) (f66_5__f0__toInt_toNat : Int32) (H : Heap) (locs : List Loc) (ls : Array Slot) (w33 : va_W), 0 ≤ v66_1.toInt → v66_1.toInt ≤ 1 → 0 ≤ f66_0_1.toInt → f66_0_1.toInt ≤ 400 → 0 ≤ f0_.toInt → f0_.toInt ≤ 5 → 0 ≤ f66_0_18.toInt → f66_0_18.toInt ≤ 60 → 0 ≤ f66_0_20.toInt → f66_0_20.toInt ≤ 12 → 0 ≤ f66_3__f0__toInt_toNat.toInt → f66_3__f0__toInt_toNat.toInt ≤ 400 → 0 ≤ f66_5__f0__toInt_toNat.toInt → f66_5__f0__toInt_toNat.toInt ≤ 12 → ((v66_1.toInt = 0 ∨ 3 * f66_3__f0__toInt_toNat.toInt ≤ 14 * f66_0_18.toInt)) → ((v66_1.toInt = 0 ∨ f66_5__f0__toInt_toNat.toInt ≤ f66_0_20.toInt)) → (f66_0_20.toInt ≤ 12) → Wd dC dI A s.heap H locs w33 → TW ksM ad cy B qr 12 w33 → FE ksM [(12, 1, 1), (12, 14, 14), (12, 15, 15), (12, 16, 16), (12, 18, 18), (12, 19, 19), (12, 20, 20), (12, 22, 22), (61, 0, 2400), (62, 0, 7), (63, 0, 216), (64, 0, 6), (68, 0, 400)] w0 w33 → RLc w33 f0_.toInt → gi w33 0 1 = f66_0_1 → gi w33 0 17 = f0_ → gi w33 0 18 = f66_0_18 → gi w33 0 20 = f66_0_20 → gi w33 3 (f0_.toInt).toNat = f66_3__f0__toInt_toNat → gi w33 5 (f0_.toInt).toNat = f66_5__f0__toInt_toNat → TT (fun n => m_X12_readsAll n 0 (sI w0)) (fun n => b_X12_readsAll_66 (j_X12_readsAll 0 n) n 0 (v66_1.toInt) (sI w33)) → lv_has ls 2 [(0, .ref (ad 0)), (1, .int v66_1)] → W p l e ({ frames := 12, cells := 0, slots := 0, locals := 255 }) s m (List.toArray [.ref (ad 0)]) below meth c H locs 0 0 (MQ below (va_Qi (Pz_X12_readsAll_2 ad cy B qr s1  w0) (fun u : va_W => wpost dC dI cy A u) A) (List.toArray [.ref (ad 0)]) s 0 0 A) (F0 m 66 ls []) := by
    intro v66_1 f66_0_1 f66_0_18 f66_0_20 f66_3__f0__toInt_toNat f66_5__f0__toInt_toNat H locs ls w33 r34 t35 r36 t37 r39 t40 r42 t43 r45 t46 r48 t49 r51 t52 hcr66_0 hcr66_1 hcr66_2 hw hT hF hR c38 c41 c44 c47 c50 c53 hM hl
    refine lv_iload_n hx hb dX12_readsAll_66 rfl (lv_at hl 1 rfl) ?_
    refine lv_if_eq (tgt := 88) hx hb dX12_readsAll_67 (by decide) (fun c54 => ?_) (fun c54 => ?_)
    · have c54 : v66_1.toInt = (0 : Int) := wk_eq.mp c54
      replace hM := hM.pos c54
      exact J88 v66_1 f66_0_1 f66_0_18 f66_0_20 f66_3__f0__toInt_toNat f66_5__f0__toInt_toNat H locs ls w33 (show 0 ≤ v66_1.toInt from r34) (show v66_1.toInt ≤ 1 from t35) (show 0 ≤ f66_0_1.toInt from r36) (show f66_0_1.toInt ≤ 400 from t37) (show 0 ≤ f0_.toInt from r39) (show f0_.toInt ≤ 5 from t40) (show 0 ≤ f66_0_18.toInt from r42) (show f66_0_18.toInt ≤ 60 from t43) (show 0 ≤ f66_0_20.toInt from r45) (show f66_0_20.toInt ≤ 12 from t46) (show 0 ≤ f66_3__f0__toInt_toNat.toInt from r48) (show f66_3__f0__toInt_toNat.toInt ≤ 400 from t49) (show 0 ≤ f66_5__f0__toInt_toNat.toInt from r51) (show f66_5__f0__toInt_toNat.toInt ≤ 12 from t52) (show (v66_1.toInt = 0 ∨ 3 * f66_3__f0__toInt_toNat.toInt ≤ 14 * f66_0_18.toInt) by omega) (show (v66_1.toInt = 0 ∨ f66_5__f0__toInt_toNat.toInt ≤ f66_0_20.toInt) by omega) (show f66_0_20.toInt ≤ 12 from t46)  hw hT hF hR c38 c41 c44 c47 c50 c53 hM (lv_sub hl [0, 1] rfl)
    · have c54 : ¬ v66_1.toInt = (0 : Int) := wk_eqF c54
      replace hM := hM.neg c54
      refine lv_aload_n hx hb dX12_readsAll_70 rfl (lv_at hl 0 rfl) ?_
      obtain ⟨x55, c56, rx55, tx55⟩ := hT.rdi (lo := 0) (hi := 400) (k := 14) kM_at0 (by decide) rfl
      refine tk_Vi hC hK hw hT hA hE hSR kM_at0 (by decide) rfl (kz_X12_see_1 l adK adV dC dI cy ad B hB0 (Int.le_trans hB1 (by decide)) qr s1    w33 H.size hT x55 c56 (show 0 ≤ x55.toInt by first | with_reducible assumption | omega) (show x55.toInt ≤ 400 by first | with_reducible assumption | omega)) (cwV 0 hC.2.2.2.2 uV_RX12_97 rfl rfl rfl (by decide +kernel) ⟨Nat.le_of_ble_eq_true rfl, Nat.le_of_ble_eq_true rfl⟩) rfl hl.1 rfl (Nat.le_of_ble_eq_true rfl) dX12_readsAll_71 (fun r57 w59 H locs hp58 hw => ?_)
      obtain ⟨hT, k60, hv78, hg77⟩ := hp58
      have hR := RL_FE k60 (fun _ => rfl) (fun _ => rfl) (fun _ => rfl) (fun _ => rfl) hR
      have hF := hF.tr k60 (by decide)
      have c79 := k60.gi kM_at0 (by decide) c38
      have c80 := k60.gi kM_at0 (by decide) c41
      have c81 := k60.gi kM_at0 (by decide) c44
      have c82 := k60.gi kM_at0 (by decide) c47
      have c83 := k60.gi kM_at3 rfl c50
      have c84 := k60.gi kM_at5 rfl c53
      rcases hg77 with ⟨g61, g62, ⟨x63, c64, rx63, tx63⟩, ⟨x65, c66, rx65, tx65⟩, g67, g68⟩ | ⟨rfl, ⟨x69, c70, rx69, tx69⟩, ⟨x71, c72, rx71, tx71⟩, g73⟩ | ⟨rfl, ⟨x74, c75, rx74, tx74⟩, g76⟩
      · replace hM := hM.call hv78 rfl
        have ex63 : x63.toInt = f66_0_1.toInt := by rw [← c79.symm.trans c64]
        have g67 : (gi w59 1 (x65.toInt).toNat).toInt ≠ 32 := by have q := g67; simp only [c41, c80, c66] at q; first | with_reducible exact q | omega
        have g68 : (x65.toInt = x55.toInt ∨ (gi w33 1 (x55.toInt).toNat).toInt = 32) := by have q := g68; simp only [c41, c80, c56, c66] at q; first | with_reducible exact q | omega
        refine lv_iconst (v := (-1)) hx hb dX12_readsAll_74 (by decide) ?_
        refine lv_icmp_eq (tgt := 88) hx hb dX12_readsAll_75 (by decide) (fun c => absurd c (fun h => absurd (show r57.toInt = (-1 : Int) from wk_eq.mp h) (by omega))) (fun _ => ?_)
        replace hM := hM.neg (by omega)
        refine lv_aload_n hx hb dX12_readsAll_78 rfl (lv_at hl 0 rfl) ?_
        refine lv_iconst (v := 0) hx hb dX12_readsAll_79 (by decide) ?_
        refine lv_aload_n hx hb dX12_readsAll_80 rfl (lv_at hl 0 rfl) ?_
        refine tk_geti hC hK hw hT hinX12 kM_at0 (by decide) rfl 14 (by decide) (List.mem_cons_of_mem _ uw_19_18) rfl rfl dX12_readsAll_81 (fun x87 c88 rx87 tx87 => ?_)
        refine wk_top x65 (c88.symm.trans c66) ?_
        replace hM := hM.rd (sI_at c66)
        refine tk_Vi hC hK hw hT hA hE hSR kM_at0 (by decide) rfl (kz_X12_fails_1 l adK adV dC dI cy ad B hB0 (Int.le_trans hB1 (by decide)) qr s1   0 (by decide) (by decide) x65 (show 0 ≤ x65.toInt by first | with_reducible assumption | omega) (show x65.toInt ≤ 400 by first | with_reducible assumption | omega) w59 H.size hT ) (cwV 2 hC.2.2.2.2 uV_RX12_115 rfl rfl rfl (by decide +kernel) ⟨Nat.le_of_ble_eq_true rfl, Nat.le_of_ble_eq_true rfl⟩) rfl hl.1 rfl (Nat.le_of_ble_eq_true rfl) dX12_readsAll_84 (fun r89 w91 H locs hp90 hw => ?_)
        obtain ⟨hT, k92, hv96, hg95⟩ := hp90
        try simp only [show (0 : Int32).toInt = 0 by decide] at hv96
        have hR := RL_FE k92 (fun _ => rfl) (fun _ => rfl) (fun _ => rfl) (fun _ => rfl) hR
        have hF := hF.tr k92 (by decide)
        have c97 := k92.gi kM_at0 (by decide) c79
        have c98 := k92.gi kM_at0 (by decide) c80
        have c99 := k92.gi kM_at0 (by decide) c81
        have c100 := k92.gi kM_at0 (by decide) c82
        have c101 := k92.gi kM_at3 rfl c83
        have c102 := k92.gi kM_at5 rfl c84
        have c103 := k92.gi kM_at0 (by decide) c66
        obtain ⟨rfl, ⟨x93, c94, rx93, tx93⟩⟩ := hg95
        replace hM := hM.call (r' := 0) hv96 (by decide)
        refine lv_pop hx hb dX12_readsAll_87 rfl ?_
        exact J88 v66_1 f66_0_1 f66_0_18 f66_0_20 f66_3__f0__toInt_toNat f66_5__f0__toInt_toNat H locs ls w91 (show 0 ≤ v66_1.toInt from r34) (show v66_1.toInt ≤ 1 from t35) (show 0 ≤ f66_0_1.toInt from r36) (show f66_0_1.toInt ≤ 400 from t37) (show 0 ≤ f0_.toInt from r39) (show f0_.toInt ≤ 5 from t40) (show 0 ≤ f66_0_18.toInt from r42) (show f66_0_18.toInt ≤ 60 from t43) (show 0 ≤ f66_0_20.toInt from r45) (show f66_0_20.toInt ≤ 12 from t46) (show 0 ≤ f66_3__f0__toInt_toNat.toInt from r48) (show f66_3__f0__toInt_toNat.toInt ≤ 400 from t49) (show 0 ≤ f66_5__f0__toInt_toNat.toInt from r51) (show f66_5__f0__toInt_toNat.toInt ≤ 12 from t52) (show (v66_1.toInt = 0 ∨ 3 * f66_3__f0__toInt_toNat.toInt ≤ 14 * f66_0_18.toInt) by omega) (show (v66_1.toInt = 0 ∨ f66_5__f0__toInt_toNat.toInt ≤ f66_0_20.toInt) by omega) (show f66_0_20.toInt ≤ 12 from t46)  hw hT hF hR c97 c98 c99 c100 c101 c102 hM (lv_sub hl [0, 1] rfl)
      · replace hM := hM.call (r' := (-1)) hv78 (by decide)
        have ex69 : x69.toInt = f66_0_1.toInt := by rw [← c79.symm.trans c70]
        have g73 : (x71.toInt = x55.toInt ∨ (gi w33 1 (x55.toInt).toNat).toInt = 32) := by have q := g73; simp only [c41, c80, c56, c72] at q; first | with_reducible exact q | omega
        refine lv_iconst (v := (-1)) hx hb dX12_readsAll_74 (by decide) ?_
        refine lv_icmp_eq (tgt := 88) hx hb dX12_readsAll_75 (by decide) (fun _ => ?_) (fun c => absurd (by decide) c)
        replace hM := hM.pos (by decide)
        exact J88 v66_1 f66_0_1 f66_0_18 f66_0_20 f66_3__f0__toInt_toNat f66_5__f0__toInt_toNat H locs ls w59 (show 0 ≤ v66_1.toInt from r34) (show v66_1.toInt ≤ 1 from t35) (show 0 ≤ f66_0_1.toInt from r36) (show f66_0_1.toInt ≤ 400 from t37) (show 0 ≤ f0_.toInt from r39) (show f0_.toInt ≤ 5 from t40) (show 0 ≤ f66_0_18.toInt from r42) (show f66_0_18.toInt ≤ 60 from t43) (show 0 ≤ f66_0_20.toInt from r45) (show f66_0_20.toInt ≤ 12 from t46) (show 0 ≤ f66_3__f0__toInt_toNat.toInt from r48) (show f66_3__f0__toInt_toNat.toInt ≤ 400 from t49) (show 0 ≤ f66_5__f0__toInt_toNat.toInt from r51) (show f66_5__f0__toInt_toNat.toInt ≤ 12 from t52) (show (v66_1.toInt = 0 ∨ 3 * f66_3__f0__toInt_toNat.toInt ≤ 14 * f66_0_18.toInt) by omega) (show (v66_1.toInt = 0 ∨ f66_5__f0__toInt_toNat.toInt ≤ f66_0_20.toInt) by omega) (show f66_0_20.toInt ≤ 12 from t46)  hw hT hF hR c79 c80 c81 c82 c83 c84 hM (lv_sub hl [0, 1] rfl)
      · replace hM := hM.call (r' := (-1)) hv78 (by decide)
        have ex74 : x74.toInt = f66_0_1.toInt := by rw [← c79.symm.trans c75]
        obtain ⟨x85, c86, rx85, tx85⟩ := hT.rdi (lo := 0) (hi := 400) (k := 14) kM_at0 (by decide) rfl
        have g76 : (x85.toInt = x55.toInt ∨ (gi w33 1 (x55.toInt).toNat).toInt = 32) := by have q := g76; simp only [c41, c80, c56, c86] at q; first | with_reducible exact q | omega
        refine lv_iconst (v := (-1)) hx hb dX12_readsAll_74 (by decide) ?_
        refine lv_icmp_eq (tgt := 88) hx hb dX12_readsAll_75 (by decide) (fun _ => ?_) (fun c => absurd (by decide) c)
        replace hM := hM.pos (by decide)
        exact J88 v66_1 f66_0_1 f66_0_18 f66_0_20 f66_3__f0__toInt_toNat f66_5__f0__toInt_toNat H locs ls w59 (show 0 ≤ v66_1.toInt from r34) (show v66_1.toInt ≤ 1 from t35) (show 0 ≤ f66_0_1.toInt from r36) (show f66_0_1.toInt ≤ 400 from t37) (show 0 ≤ f0_.toInt from r39) (show f0_.toInt ≤ 5 from t40) (show 0 ≤ f66_0_18.toInt from r42) (show f66_0_18.toInt ≤ 60 from t43) (show 0 ≤ f66_0_20.toInt from r45) (show f66_0_20.toInt ≤ 12 from t46) (show 0 ≤ f66_3__f0__toInt_toNat.toInt from r48) (show f66_3__f0__toInt_toNat.toInt ≤ 400 from t49) (show 0 ≤ f66_5__f0__toInt_toNat.toInt from r51) (show f66_5__f0__toInt_toNat.toInt ≤ 12 from t52) (show (v66_1.toInt = 0 ∨ 3 * f66_3__f0__toInt_toNat.toInt ≤ 14 * f66_0_18.toInt) by omega) (show (v66_1.toInt = 0 ∨ f66_5__f0__toInt_toNat.toInt ≤ f66_0_20.toInt) by omega) (show f66_0_20.toInt ≤ 12 from t46)  hw hT hF hR c79 c80 c81 c82 c83 c84 hM (lv_sub hl [0, 1] rfl)
  have L35 : ∀ (n35 : Nat) (v35_1 : Int32) (f35_0_1 : Int32) (f35_0_18 : Int32) (f35_0_20 : Int32) (f35_3__f0__toInt_toNat : Int32) (f35_5__f0__toInt_toNat : Int32) (H : Heap) (locs : List Loc) (ls : Array Slot) (w104 : va_W), 0 ≤ v35_1.toInt → v35_1.toInt ≤ 1 → 0 ≤ f35_0_1.toInt → f35_0_1.toInt ≤ 400 → 0 ≤ f0_.toInt → f0_.toInt ≤ 5 → 0 ≤ f35_0_18.toInt → f35_0_18.toInt ≤ 60 → 0 ≤ f35_0_20.toInt → f35_0_20.toInt ≤ 12 → 0 ≤ f35_3__f0__toInt_toNat.toInt → f35_3__f0__toInt_toNat.toInt ≤ 400 → 0 ≤ f35_5__f0__toInt_toNat.toInt → f35_5__f0__toInt_toNat.toInt ≤ 12 → ((v35_1.toInt = 0 ∨ 3 * f35_3__f0__toInt_toNat.toInt ≤ 14 * f35_0_18.toInt)) → ((v35_1.toInt = 0 ∨ f35_5__f0__toInt_toNat.toInt ≤ f35_0_20.toInt)) → (f35_0_20.toInt ≤ 12) → (2 * (32 - f35_0_20.toInt) + v35_1.toInt).toNat < n35 → Wd dC dI A s.heap H locs w104 → TW ksM ad cy B qr 12 w104 → FE ksM [(12, 1, 1), (12, 14, 14), (12, 15, 15), (12, 16, 16), (12, 18, 18), (12, 19, 19), (12, 20, 20), (12, 22, 22), (61, 0, 2400), (62, 0, 7), (63, 0, 216), (64, 0, 6), (68, 0, 400)] w0 w104 → RLc w104 f0_.toInt → gi w104 0 1 = f35_0_1 → gi w104 0 17 = f0_ → gi w104 0 18 = f35_0_18 → gi w104 0 20 = f35_0_20 → gi w104 3 (f0_.toInt).toNat = f35_3__f0__toInt_toNat → gi w104 5 (f0_.toInt).toNat = f35_5__f0__toInt_toNat → TT (fun n => m_X12_readsAll n 0 (sI w0)) (fun n => j_X12_readsAll 0 n 35 [v35_1.toInt] (sI w104)) → lv_has ls 2 [(0, .ref (ad 0)), (1, .int v35_1)] → W p l e ({ frames := 12, cells := 0, slots := 0, locals := 255 }) s m (List.toArray [.ref (ad 0)]) below meth c H locs 0 0 (MQ below (va_Qi (Pz_X12_readsAll_2 ad cy B qr s1  w0) (fun u : va_W => wpost dC dI cy A u) A) (List.toArray [.ref (ad 0)]) s 0 0 A) (F0 m 35 ls []) := by
    intro n35
    induction n35 with
    | zero => intro v35_1 f35_0_1 f35_0_18 f35_0_20 f35_3__f0__toInt_toNat f35_5__f0__toInt_toNat H locs ls w104 r105 t106 r107 t108 r110 t111 r113 t114 r116 t117 r119 t120 r122 t123 hcr35_0 hcr35_1 hcr35_2 hm35 hw hT hF hR c109 c112 c115 c118 c121 c124 hM hl; omega
    | succ n35 ih35 =>
      intro v35_1 f35_0_1 f35_0_18 f35_0_20 f35_3__f0__toInt_toNat f35_5__f0__toInt_toNat H locs ls w104 r105 t106 r107 t108 r110 t111 r113 t114 r116 t117 r119 t120 r122 t123 hcr35_0 hcr35_1 hcr35_2 hm35 hw hT hF hR c109 c112 c115 c118 c121 c124 hM hl
      replace hM := hM.suc (fun _ => e_X12_readsAll_35)
      refine lv_iload_n hx hb dX12_readsAll_35 rfl (lv_at hl 1 rfl) ?_
      refine lv_if_eq (tgt := 66) hx hb dX12_readsAll_36 (by decide) (fun c125 => ?_) (fun c125 => ?_)
      · have c125 : v35_1.toInt = (0 : Int) := wk_eq.mp c125
        replace hM := hM.pos c125
        exact J66 v35_1 f35_0_1 f35_0_18 f35_0_20 f35_3__f0__toInt_toNat f35_5__f0__toInt_toNat H locs ls w104 (show 0 ≤ v35_1.toInt from r105) (show v35_1.toInt ≤ 1 from t106) (show 0 ≤ f35_0_1.toInt from r107) (show f35_0_1.toInt ≤ 400 from t108) (show 0 ≤ f0_.toInt from r110) (show f0_.toInt ≤ 5 from t111) (show 0 ≤ f35_0_18.toInt from r113) (show f35_0_18.toInt ≤ 60 from t114) (show 0 ≤ f35_0_20.toInt from r116) (show f35_0_20.toInt ≤ 12 from t117) (show 0 ≤ f35_3__f0__toInt_toNat.toInt from r119) (show f35_3__f0__toInt_toNat.toInt ≤ 400 from t120) (show 0 ≤ f35_5__f0__toInt_toNat.toInt from r122) (show f35_5__f0__toInt_toNat.toInt ≤ 12 from t123) (show (v35_1.toInt = 0 ∨ 3 * f35_3__f0__toInt_toNat.toInt ≤ 14 * f35_0_18.toInt) by omega) (show (v35_1.toInt = 0 ∨ f35_5__f0__toInt_toNat.toInt ≤ f35_0_20.toInt) by omega) (show f35_0_20.toInt ≤ 12 from t117)  hw hT hF hR c109 c112 c115 c118 c121 c124 hM (lv_sub hl [0, 1] rfl)
      · have c125 : ¬ v35_1.toInt = (0 : Int) := wk_eqF c125
        replace hM := hM.neg c125
        refine lv_aload_n hx hb dX12_readsAll_39 rfl (lv_at hl 0 rfl) ?_
        obtain ⟨x126, c127, rx126, tx126⟩ := hT.rdi (lo := 0) (hi := 400) (k := 14) kM_at0 (by decide) rfl
        refine tk_Vi hC hK hw hT hA hE hSR kM_at0 (by decide) rfl (kz_X12_see_1 l adK adV dC dI cy ad B hB0 (Int.le_trans hB1 (by decide)) qr s1    w104 H.size hT x126 c127 (show 0 ≤ x126.toInt by first | with_reducible assumption | omega) (show x126.toInt ≤ 400 by first | with_reducible assumption | omega)) (cwV 0 hC.2.2.2.2 uV_RX12_97 rfl rfl rfl (by decide +kernel) ⟨Nat.le_of_ble_eq_true rfl, Nat.le_of_ble_eq_true rfl⟩) rfl hl.1 rfl (Nat.le_of_ble_eq_true rfl) dX12_readsAll_40 (fun r128 w130 H locs hp129 hw => ?_)
        obtain ⟨hT, k131, hv149, hg148⟩ := hp129
        have hR := RL_FE k131 (fun _ => rfl) (fun _ => rfl) (fun _ => rfl) (fun _ => rfl) hR
        have hF := hF.tr k131 (by decide)
        have c150 := k131.gi kM_at0 (by decide) c109
        have c151 := k131.gi kM_at0 (by decide) c112
        have c152 := k131.gi kM_at0 (by decide) c115
        have c153 := k131.gi kM_at0 (by decide) c118
        have c154 := k131.gi kM_at3 rfl c121
        have c155 := k131.gi kM_at5 rfl c124
        rcases hg148 with ⟨g132, g133, ⟨x134, c135, rx134, tx134⟩, ⟨x136, c137, rx136, tx136⟩, g138, g139⟩ | ⟨rfl, ⟨x140, c141, rx140, tx140⟩, ⟨x142, c143, rx142, tx142⟩, g144⟩ | ⟨rfl, ⟨x145, c146, rx145, tx145⟩, g147⟩
        · replace hM := hM.call hv149 rfl
          have ex134 : x134.toInt = f35_0_1.toInt := by rw [← c150.symm.trans c135]
          have g138 : (gi w130 1 (x136.toInt).toNat).toInt ≠ 32 := by have q := g138; simp only [c112, c151, c137] at q; first | with_reducible exact q | omega
          have g139 : (x136.toInt = x126.toInt ∨ (gi w104 1 (x126.toInt).toNat).toInt = 32) := by have q := g139; simp only [c112, c151, c127, c137] at q; first | with_reducible exact q | omega
          refine lv_bipush (v := 59) hx hb dX12_readsAll_43 (by decide) ?_
          refine lv_icmp_ne (tgt := 66) hx hb dX12_readsAll_45 (by decide) (fun c158 => ?_) (fun c158 => ?_)
          · have c158 : ¬ r128.toInt = (59 : Int) := wk_eqF c158
            replace hM := hM.pos c158
            exact J66 v35_1 f35_0_1 f35_0_18 f35_0_20 f35_3__f0__toInt_toNat f35_5__f0__toInt_toNat H locs ls w130 (show 0 ≤ v35_1.toInt from r105) (show v35_1.toInt ≤ 1 from t106) (show 0 ≤ f35_0_1.toInt from r107) (show f35_0_1.toInt ≤ 400 from t108) (show 0 ≤ f0_.toInt from r110) (show f0_.toInt ≤ 5 from t111) (show 0 ≤ f35_0_18.toInt from r113) (show f35_0_18.toInt ≤ 60 from t114) (show 0 ≤ f35_0_20.toInt from r116) (show f35_0_20.toInt ≤ 12 from t117) (show 0 ≤ f35_3__f0__toInt_toNat.toInt from r119) (show f35_3__f0__toInt_toNat.toInt ≤ 400 from t120) (show 0 ≤ f35_5__f0__toInt_toNat.toInt from r122) (show f35_5__f0__toInt_toNat.toInt ≤ 12 from t123) (show (v35_1.toInt = 0 ∨ 3 * f35_3__f0__toInt_toNat.toInt ≤ 14 * f35_0_18.toInt) by omega) (show (v35_1.toInt = 0 ∨ f35_5__f0__toInt_toNat.toInt ≤ f35_0_20.toInt) by omega) (show f35_0_20.toInt ≤ 12 from t117)  hw hT hF hR c150 c151 c152 c153 c154 c155 hM (lv_sub hl [0, 1] rfl)
          · have c158 : r128.toInt = (59 : Int) := wk_eq.mp c158
            replace hM := hM.neg (fun q => q c158)
            refine lv_aload_n hx hb dX12_readsAll_48 rfl (lv_at hl 0 rfl) ?_
            refine lv_dup hx hb dX12_readsAll_49 rfl ?_
            refine tk_geti hC hK hw hT hinX12 kM_at0 (by decide) rfl 14 (by decide) (List.mem_cons_of_mem _ uw_19_18) rfl rfl dX12_readsAll_50 (fun x159 c160 rx159 tx159 => ?_)
            refine wk_top x136 (c160.symm.trans c137) ?_
            replace hM := hM.rd (sI_at c137)
            refine lv_iconst (v := 1) hx hb dX12_readsAll_53 (by decide) ?_
            refine lv_iadd hx hb dX12_readsAll_54 ?_
            refine lv_topi (fun x161 ex161 => ?_)
            have ezx161 := ex161
            have ex161 : x161.toInt = x136.toInt + (1 : Int) := by rw [ex161]; exact wk_add (show (-2147483648) ≤ x136.toInt + (1 : Int) by omega) (show x136.toInt + (1 : Int) ≤ 2147483647 by omega)
            replace hM := hM.lt ex161.symm
            refine tk_puti hC hK hw hT hinX12 tyX12_ok nmX12 kM_at0 (by decide) rfl rfl 14 (by decide) (List.mem_cons_of_mem _ uw_19_18) rfl rfl rfl rfl (show 0 ≤ x161.toInt by first | with_reducible assumption | omega) (show x161.toInt ≤ 400 by first | with_reducible assumption | omega) dX12_readsAll_55 (fun H locs w162 hw hT k164 c163 => ?_)
            replace hM := hM.wr (sI_up k164 c163)
            have hR := RL_F1 k164 (by decide) (by decide) (by decide) (by decide) hR
            have hF := hF.put kM_at0 (k := 14) (by decide) k164
            have c165 := k164.gi (Or.inr (by decide)) c150
            have c166 := k164.gi (Or.inr (by decide)) c151
            have c167 := k164.gi (Or.inr (by decide)) c152
            have c168 := k164.gi (Or.inr (by decide)) c153
            have c169 := k164.gi (Or.inl (tk_ne kM_at3 kM_at0 (by decide))) c154
            have c170 := k164.gi (Or.inl (tk_ne kM_at5 kM_at0 (by decide))) c155
            refine lv_aload_n hx hb dX12_readsAll_58 rfl (lv_at hl 0 rfl) ?_
            refine tk_Vi hC hK hw hT hA hE hSR kM_at0 (by decide) rfl (kz_X12_clauseHere_2 l adK adV dC dI cy ad B hB0 (Int.le_trans hB1 (by decide)) qr s1    w162 H.size hT f0_ c166 (show 0 ≤ f0_.toInt from r110) (show f0_.toInt ≤ 5 from t111) f35_0_18 c167 (show 0 ≤ f35_0_18.toInt from r113) (show f35_0_18.toInt ≤ 60 from t114) f35_0_20 c168 (show 0 ≤ f35_0_20.toInt from r116) (show f35_0_20.toInt ≤ 32 from Int.le_trans t117 (by decide)) f35_3__f0__toInt_toNat c169 (show 0 ≤ f35_3__f0__toInt_toNat.toInt from r119) (show f35_3__f0__toInt_toNat.toInt ≤ 400 from t120) f35_5__f0__toInt_toNat c170 (show 0 ≤ f35_5__f0__toInt_toNat.toInt from r122) (show f35_5__f0__toInt_toNat.toInt ≤ 12 from t123) (show 3 * f35_3__f0__toInt_toNat.toInt ≤ 14 * f35_0_18.toInt by omega) (show f35_5__f0__toInt_toNat.toInt ≤ f35_0_20.toInt by omega) (show f35_0_20.toInt ≤ 12 from t117) (show f35_3__f0__toInt_toNat.toInt ≤ 280 by first | with_reducible assumption | omega) hR) (cwV 0 hC.2.2.2.2 uV_RX12_276 rfl rfl rfl (by decide +kernel) ⟨Nat.le_of_ble_eq_true rfl, Nat.le_of_ble_eq_true rfl⟩) rfl hl.1 rfl (Nat.le_of_ble_eq_true rfl) dX12_readsAll_59 (fun r171 w173 H locs hp172 hw => ?_)
            obtain ⟨hT, k174, hv220, hg219⟩ := hp172
            have hF := hF.tr k174 (by decide)
            have c221 := k174.gi kM_at0 (by decide) c165
            have c222 := k174.gi kM_at0 (by decide) c166
            rcases hg219 with ⟨rfl, ⟨x175, c176, rx175, tx175⟩, ⟨x177, c178, rx177, tx177⟩, ⟨x179, c180, rx179, tx179⟩, ⟨x181, c182, rx181, tx181⟩, hq183, g184, g185⟩ | ⟨rfl, ⟨x186, c187, rx186, tx186⟩, ⟨x188, c189, rx188, tx188⟩, ⟨x190, c191, rx190, tx190⟩, ⟨x192, c193, rx192, tx192⟩, hq194, g195, g196⟩ | ⟨rfl, ⟨x197, c198, rx197, tx197⟩, ⟨x199, c200, rx199, tx199⟩, ⟨x201, c202, rx201, tx201⟩, hq203, g204, g205, g206, g207⟩ | ⟨rfl, ⟨x208, c209, rx208, tx208⟩, ⟨x210, c211, rx210, tx210⟩, ⟨x212, c213, rx212, tx212⟩, hq214, g215, g216, g217, g218⟩
            · replace hM := hM.call (r' := 0) hv220 (by decide)
              have ex175 : x175.toInt = f35_0_1.toInt := by rw [← c221.symm.trans c176]
              have ex179 : x179.toInt = f0_.toInt := by rw [← c222.symm.trans c180]
              obtain ⟨x223, c224, rx223, tx223⟩ := hT.rda (lo := 0) (hi := 400) (i := (f0_.toInt).toNat) kM_at3 rfl rfl (by omega)
              obtain ⟨x225, c226, rx225, tx225⟩ := hT.rdi (lo := 0) (hi := 60) (k := 18) kM_at0 (by decide) rfl
              obtain ⟨x227, c228, rx227, tx227⟩ := hT.rda (lo := 0) (hi := 12) (i := (f0_.toInt).toNat) kM_at5 rfl rfl (by omega)
              have g184 : f35_0_20.toInt ≤ x181.toInt := by have q := g184; simp only [c166, c222, c168, c182] at q; first | with_reducible exact q | omega
              have g185 : x181.toInt ≤ 12 := by have q := g185; simp only [c166, c222, c182] at q; first | with_reducible exact q | omega
              have hR := hq183
              refine lv_istore_n (lv' := [(1, .int 0), (0, .ref (ad 0))]) hx hb dX12_readsAll_62 rfl hl (by decide) rfl (fun ls hl => ?_)
              refine lv_goto (tgt := 35) hx hb dX12_readsAll_63 (by decide) ?_
              exact ih35 0 f35_0_1 x225 x181 x223 x227 H locs ls w173 (by decide) (by decide) (show 0 ≤ f35_0_1.toInt from r107) (show f35_0_1.toInt ≤ 400 from t108) (show 0 ≤ f0_.toInt from r110) (show f0_.toInt ≤ 5 from t111) (show 0 ≤ x225.toInt by first | with_reducible assumption | omega) (show x225.toInt ≤ 60 by first | with_reducible assumption | omega) (show 0 ≤ x181.toInt by first | with_reducible assumption | omega) (show x181.toInt ≤ 12 from g185) (show 0 ≤ x223.toInt by first | with_reducible assumption | omega) (show x223.toInt ≤ 400 by first | with_reducible assumption | omega) (show 0 ≤ x227.toInt by first | with_reducible assumption | omega) (show x227.toInt ≤ 12 by first | with_reducible assumption | omega) (show ((0 : Int) = 0 ∨ 3 * x223.toInt ≤ 14 * x225.toInt) by omega) (show ((0 : Int) = 0 ∨ x227.toInt ≤ x181.toInt) by omega) (show x181.toInt ≤ 12 from g185) (show (2 * (32 - x181.toInt) + (0 : Int)).toNat < n35 by first | exact tn_lt hm35 (by omega) (by omega) | omega) hw hT hF hR c221 c222 c226 c182 c224 c228 hM (lv_sub hl [1, 0] rfl)
            · replace hM := hM.call (r' := 0) hv220 (by decide)
              have ex186 : x186.toInt = f35_0_1.toInt := by rw [← c221.symm.trans c187]
              have ex190 : x190.toInt = f0_.toInt := by rw [← c222.symm.trans c191]
              obtain ⟨x229, c230, rx229, tx229⟩ := hT.rda (lo := 0) (hi := 400) (i := (f0_.toInt).toNat) kM_at3 rfl rfl (by omega)
              obtain ⟨x231, c232, rx231, tx231⟩ := hT.rdi (lo := 0) (hi := 60) (k := 18) kM_at0 (by decide) rfl
              obtain ⟨x233, c234, rx233, tx233⟩ := hT.rda (lo := 0) (hi := 12) (i := (f0_.toInt).toNat) kM_at5 rfl rfl (by omega)
              have g195 : f35_0_20.toInt ≤ x192.toInt := by have q := g195; simp only [c166, c222, c168, c193] at q; first | with_reducible exact q | omega
              have g196 : x192.toInt ≤ 12 := by have q := g196; simp only [c166, c222, c193] at q; first | with_reducible exact q | omega
              have hR := hq194
              refine lv_istore_n (lv' := [(1, .int 0), (0, .ref (ad 0))]) hx hb dX12_readsAll_62 rfl hl (by decide) rfl (fun ls hl => ?_)
              refine lv_goto (tgt := 35) hx hb dX12_readsAll_63 (by decide) ?_
              exact ih35 0 f35_0_1 x231 x192 x229 x233 H locs ls w173 (by decide) (by decide) (show 0 ≤ f35_0_1.toInt from r107) (show f35_0_1.toInt ≤ 400 from t108) (show 0 ≤ f0_.toInt from r110) (show f0_.toInt ≤ 5 from t111) (show 0 ≤ x231.toInt by first | with_reducible assumption | omega) (show x231.toInt ≤ 60 by first | with_reducible assumption | omega) (show 0 ≤ x192.toInt by first | with_reducible assumption | omega) (show x192.toInt ≤ 12 from g196) (show 0 ≤ x229.toInt by first | with_reducible assumption | omega) (show x229.toInt ≤ 400 by first | with_reducible assumption | omega) (show 0 ≤ x233.toInt by first | with_reducible assumption | omega) (show x233.toInt ≤ 12 by first | with_reducible assumption | omega) (show ((0 : Int) = 0 ∨ 3 * x229.toInt ≤ 14 * x231.toInt) by omega) (show ((0 : Int) = 0 ∨ x233.toInt ≤ x192.toInt) by omega) (show x192.toInt ≤ 12 from g196) (show (2 * (32 - x192.toInt) + (0 : Int)).toNat < n35 by first | exact tn_lt hm35 (by omega) (by omega) | omega) hw hT hF hR c221 c222 c232 c193 c230 c234 hM (lv_sub hl [1, 0] rfl)
            · replace hM := hM.call (r' := 1) hv220 (by decide)
              have ex197 : x197.toInt = f35_0_1.toInt := by rw [← c221.symm.trans c198]
              have ex199 : x199.toInt = f0_.toInt := by rw [← c222.symm.trans c200]
              obtain ⟨x235, c236, rx235, tx235⟩ := hT.rda (lo := 0) (hi := 400) (i := (f0_.toInt).toNat) kM_at3 rfl rfl (by omega)
              obtain ⟨x237, c238, rx237, tx237⟩ := hT.rdi (lo := 0) (hi := 60) (k := 18) kM_at0 (by decide) rfl
              obtain ⟨x239, c240, rx239, tx239⟩ := hT.rda (lo := 0) (hi := 12) (i := (f0_.toInt).toNat) kM_at5 rfl rfl (by omega)
              have g204 : 3 * x235.toInt ≤ 14 * x237.toInt := by have q := g204; simp only [c166, c222, c236, c238] at q; first | with_reducible exact q | omega
              have g205 : x239.toInt ≤ x201.toInt := by have q := g205; simp only [c166, c222, c240, c202] at q; first | with_reducible exact q | omega
              have g206 : x201.toInt = f35_0_20.toInt + 1 := by have q := g206; simp only [c166, c222, c168, c202] at q; first | with_reducible exact q | omega
              have g207 : x201.toInt ≤ 12 := by have q := g207; simp only [c166, c222, c202] at q; first | with_reducible exact q | omega
              have hR := hq203
              refine lv_istore_n (lv' := [(1, .int 1), (0, .ref (ad 0))]) hx hb dX12_readsAll_62 rfl hl (by decide) rfl (fun ls hl => ?_)
              refine lv_goto (tgt := 35) hx hb dX12_readsAll_63 (by decide) ?_
              exact ih35 1 f35_0_1 x237 x201 x235 x239 H locs ls w173 (by decide) (by decide) (show 0 ≤ f35_0_1.toInt from r107) (show f35_0_1.toInt ≤ 400 from t108) (show 0 ≤ f0_.toInt from r110) (show f0_.toInt ≤ 5 from t111) (show 0 ≤ x237.toInt by first | with_reducible assumption | omega) (show x237.toInt ≤ 60 by first | with_reducible assumption | omega) (show 0 ≤ x201.toInt by first | with_reducible assumption | omega) (show x201.toInt ≤ 12 from g207) (show 0 ≤ x235.toInt by first | with_reducible assumption | omega) (show x235.toInt ≤ 400 by first | with_reducible assumption | omega) (show 0 ≤ x239.toInt by first | with_reducible assumption | omega) (show x239.toInt ≤ 12 by first | with_reducible assumption | omega) (show ((1 : Int) = 0 ∨ 3 * x235.toInt ≤ 14 * x237.toInt) by omega) (show ((1 : Int) = 0 ∨ x239.toInt ≤ x201.toInt) by omega) (show x201.toInt ≤ 12 from g207) (show (2 * (32 - x201.toInt) + (1 : Int)).toNat < n35 by first | exact tn_lt hm35 (by omega) (by omega) | omega) hw hT hF hR c221 c222 c238 c202 c236 c240 hM (lv_sub hl [1, 0] rfl)
            · replace hM := hM.call (r' := 1) hv220 (by decide)
              have ex208 : x208.toInt = f35_0_1.toInt := by rw [← c221.symm.trans c209]
              have ex210 : x210.toInt = f0_.toInt := by rw [← c222.symm.trans c211]
              obtain ⟨x241, c242, rx241, tx241⟩ := hT.rda (lo := 0) (hi := 400) (i := (f0_.toInt).toNat) kM_at3 rfl rfl (by omega)
              obtain ⟨x243, c244, rx243, tx243⟩ := hT.rdi (lo := 0) (hi := 60) (k := 18) kM_at0 (by decide) rfl
              obtain ⟨x245, c246, rx245, tx245⟩ := hT.rda (lo := 0) (hi := 12) (i := (f0_.toInt).toNat) kM_at5 rfl rfl (by omega)
              have g215 : 3 * x241.toInt ≤ 14 * x243.toInt := by have q := g215; simp only [c166, c222, c242, c244] at q; first | with_reducible exact q | omega
              have g216 : x245.toInt ≤ x212.toInt := by have q := g216; simp only [c166, c222, c246, c213] at q; first | with_reducible exact q | omega
              have g217 : x212.toInt = f35_0_20.toInt + 1 := by have q := g217; simp only [c166, c222, c168, c213] at q; first | with_reducible exact q | omega
              have g218 : x212.toInt ≤ 12 := by have q := g218; simp only [c166, c222, c213] at q; first | with_reducible exact q | omega
              have hR := hq214
              refine lv_istore_n (lv' := [(1, .int 1), (0, .ref (ad 0))]) hx hb dX12_readsAll_62 rfl hl (by decide) rfl (fun ls hl => ?_)
              refine lv_goto (tgt := 35) hx hb dX12_readsAll_63 (by decide) ?_
              exact ih35 1 f35_0_1 x243 x212 x241 x245 H locs ls w173 (by decide) (by decide) (show 0 ≤ f35_0_1.toInt from r107) (show f35_0_1.toInt ≤ 400 from t108) (show 0 ≤ f0_.toInt from r110) (show f0_.toInt ≤ 5 from t111) (show 0 ≤ x243.toInt by first | with_reducible assumption | omega) (show x243.toInt ≤ 60 by first | with_reducible assumption | omega) (show 0 ≤ x212.toInt by first | with_reducible assumption | omega) (show x212.toInt ≤ 12 from g218) (show 0 ≤ x241.toInt by first | with_reducible assumption | omega) (show x241.toInt ≤ 400 by first | with_reducible assumption | omega) (show 0 ≤ x245.toInt by first | with_reducible assumption | omega) (show x245.toInt ≤ 12 by first | with_reducible assumption | omega) (show ((1 : Int) = 0 ∨ 3 * x241.toInt ≤ 14 * x243.toInt) by omega) (show ((1 : Int) = 0 ∨ x245.toInt ≤ x212.toInt) by omega) (show x212.toInt ≤ 12 from g218) (show (2 * (32 - x212.toInt) + (1 : Int)).toNat < n35 by first | exact tn_lt hm35 (by omega) (by omega) | omega) hw hT hF hR c221 c222 c244 c213 c242 c246 hM (lv_sub hl [1, 0] rfl)
        · replace hM := hM.call (r' := (-1)) hv149 (by decide)
          have ex140 : x140.toInt = f35_0_1.toInt := by rw [← c150.symm.trans c141]
          have g144 : (x142.toInt = x126.toInt ∨ (gi w104 1 (x126.toInt).toNat).toInt = 32) := by have q := g144; simp only [c112, c151, c127, c143] at q; first | with_reducible exact q | omega
          refine lv_bipush (v := 59) hx hb dX12_readsAll_43 (by decide) ?_
          refine lv_icmp_ne (tgt := 66) hx hb dX12_readsAll_45 (by decide) (fun _ => ?_) (fun c => absurd c (by decide))
          replace hM := hM.pos (by decide)
          exact J66 v35_1 f35_0_1 f35_0_18 f35_0_20 f35_3__f0__toInt_toNat f35_5__f0__toInt_toNat H locs ls w130 (show 0 ≤ v35_1.toInt from r105) (show v35_1.toInt ≤ 1 from t106) (show 0 ≤ f35_0_1.toInt from r107) (show f35_0_1.toInt ≤ 400 from t108) (show 0 ≤ f0_.toInt from r110) (show f0_.toInt ≤ 5 from t111) (show 0 ≤ f35_0_18.toInt from r113) (show f35_0_18.toInt ≤ 60 from t114) (show 0 ≤ f35_0_20.toInt from r116) (show f35_0_20.toInt ≤ 12 from t117) (show 0 ≤ f35_3__f0__toInt_toNat.toInt from r119) (show f35_3__f0__toInt_toNat.toInt ≤ 400 from t120) (show 0 ≤ f35_5__f0__toInt_toNat.toInt from r122) (show f35_5__f0__toInt_toNat.toInt ≤ 12 from t123) (show (v35_1.toInt = 0 ∨ 3 * f35_3__f0__toInt_toNat.toInt ≤ 14 * f35_0_18.toInt) by omega) (show (v35_1.toInt = 0 ∨ f35_5__f0__toInt_toNat.toInt ≤ f35_0_20.toInt) by omega) (show f35_0_20.toInt ≤ 12 from t117)  hw hT hF hR c150 c151 c152 c153 c154 c155 hM (lv_sub hl [0, 1] rfl)
        · replace hM := hM.call (r' := (-1)) hv149 (by decide)
          have ex145 : x145.toInt = f35_0_1.toInt := by rw [← c150.symm.trans c146]
          obtain ⟨x156, c157, rx156, tx156⟩ := hT.rdi (lo := 0) (hi := 400) (k := 14) kM_at0 (by decide) rfl
          have g147 : (x156.toInt = x126.toInt ∨ (gi w104 1 (x126.toInt).toNat).toInt = 32) := by have q := g147; simp only [c112, c151, c127, c157] at q; first | with_reducible exact q | omega
          refine lv_bipush (v := 59) hx hb dX12_readsAll_43 (by decide) ?_
          refine lv_icmp_ne (tgt := 66) hx hb dX12_readsAll_45 (by decide) (fun _ => ?_) (fun c => absurd c (by decide))
          replace hM := hM.pos (by decide)
          exact J66 v35_1 f35_0_1 f35_0_18 f35_0_20 f35_3__f0__toInt_toNat f35_5__f0__toInt_toNat H locs ls w130 (show 0 ≤ v35_1.toInt from r105) (show v35_1.toInt ≤ 1 from t106) (show 0 ≤ f35_0_1.toInt from r107) (show f35_0_1.toInt ≤ 400 from t108) (show 0 ≤ f0_.toInt from r110) (show f0_.toInt ≤ 5 from t111) (show 0 ≤ f35_0_18.toInt from r113) (show f35_0_18.toInt ≤ 60 from t114) (show 0 ≤ f35_0_20.toInt from r116) (show f35_0_20.toInt ≤ 12 from t117) (show 0 ≤ f35_3__f0__toInt_toNat.toInt from r119) (show f35_3__f0__toInt_toNat.toInt ≤ 400 from t120) (show 0 ≤ f35_5__f0__toInt_toNat.toInt from r122) (show f35_5__f0__toInt_toNat.toInt ≤ 12 from t123) (show (v35_1.toInt = 0 ∨ 3 * f35_3__f0__toInt_toNat.toInt ≤ 14 * f35_0_18.toInt) by omega) (show (v35_1.toInt = 0 ∨ f35_5__f0__toInt_toNat.toInt ≤ f35_0_20.toInt) by omega) (show f35_0_20.toInt ≤ 12 from t117)  hw hT hF hR c150 c151 c152 c153 c154 c155 hM (lv_sub hl [0, 1] rfl)
  have hM : TT (fun n => m_X12_readsAll n 0 (sI w0)) (fun n => m_X12_readsAll n 0 (sI w0)) := TT.rf
  refine lv_aload_n hx hb dX12_readsAll_0 rfl (lv_at hl 0 rfl) ?_
  refine tk_getA hC hK hw hT hinX12 kM_at0 (by decide) rfl 4 (by decide) (List.mem_cons_of_mem _ uw_6_16) rfl rfl dX12_readsAll_1 ?_
  refine lv_aload_n hx hb dX12_readsAll_4 rfl (lv_at hl 0 rfl) ?_
  refine tk_geti hC hK hw hT hinX12 kM_at0 (by decide) rfl 17 (by decide) (List.mem_cons_of_mem _ uw_19_7) rfl rfl dX12_readsAll_5 (fun x247 c248 rx247 tx247 => ?_)
  refine wk_top f0_ (c248.symm.trans cf0_) ?_
  replace hM := hM.rd (sI_at cf0_)
  refine lv_iconst (v := 0) hx hb dX12_readsAll_8 (by decide) ?_
  refine tk_iast hC hK hw hT kM_at3 (by decide) rfl rfl (show 0 ≤ f0_.toInt from rf0_) (show f0_.toInt < 7 from Int.lt_of_le_of_lt tf0_ (by decide)) (by decide) (by decide) dX12_readsAll_9 (fun H locs w249 hw hT k251 c250 => ?_)
  replace hM := hM.wr (sI_upc k251 c250 (by decide))
  have hR := RL_start (t := f0_.toInt) hRW (by omega) (by omega) (by rw [cf4_]; omega) k251
  have hF := hF.put kM_at3 (inE_of (a := 0) (b := 7) (by decide) (show 0 ≤ f0_.toInt.toNat by omega) (show f0_.toInt.toNat ≤ 7 by omega)) k251
  have c252 := k251.gi (Or.inl (tk_ne kM_at0 kM_at3 (by decide))) cf0_
  have c253 := k251.gi (Or.inl (tk_ne kM_at0 kM_at3 (by decide))) cf1_
  have c254 := k251.gi (Or.inl (tk_ne kM_at0 kM_at3 (by decide))) cf2_
  have c255 := k251.gi (Or.inl (tk_ne kM_at5 kM_at3 (by decide))) cf4_
  have c250 : gi w249 3 (f0_.toInt).toNat = 0 := (congrArg (gi w249 3) (congrArg Int.toNat (show f0_.toInt = f0_.toInt from rfl))).trans c250
  refine lv_aload_n hx hb dX12_readsAll_10 rfl (lv_at hl 0 rfl) ?_
  refine lv_iconst (v := 0) hx hb dX12_readsAll_11 (by decide) ?_
  refine tk_puti hC hK hw hT hinX12 tyX12_ok nmX12 kM_at0 (by decide) rfl rfl 20 (by decide) (List.mem_cons_of_mem _ uw_19_17) rfl rfl rfl rfl (by decide) (by decide) dX12_readsAll_12 (fun H locs w256 hw hT k258 c257 => ?_)
  replace hM := hM.wr (sI_upc k258 c257 (by decide))
  have hR := RL_F1 k258 (by decide) (by decide) (by decide) (by decide) hR
  have hF := hF.put kM_at0 (k := 20) (by decide) k258
  have c259 := k258.gi (Or.inr (by decide)) c252
  have c260 := k258.gi (Or.inr (by decide)) c253
  have c261 := k258.gi (Or.inl (tk_ne kM_at5 kM_at0 (by decide))) c255
  have c262 := k258.gi (Or.inl (tk_ne kM_at3 kM_at0 (by decide))) c250
  refine lv_aload_n hx hb dX12_readsAll_15 rfl (lv_at hl 0 rfl) ?_
  refine lv_iconst (v := 0) hx hb dX12_readsAll_16 (by decide) ?_
  refine tk_puti hC hK hw hT hinX12 tyX12_ok nmX12 kM_at0 (by decide) rfl rfl 14 (by decide) (List.mem_cons_of_mem _ uw_19_18) rfl rfl rfl rfl (by decide) (by decide) dX12_readsAll_17 (fun H locs w263 hw hT k265 c264 => ?_)
  replace hM := hM.wr (sI_upc k265 c264 (by decide))
  have hR := RL_F1 k265 (by decide) (by decide) (by decide) (by decide) hR
  have hF := hF.put kM_at0 (k := 14) (by decide) k265
  have c266 := k265.gi (Or.inr (by decide)) c259
  have c267 := k265.gi (Or.inr (by decide)) c260
  have c268 := k265.gi (Or.inl (tk_ne kM_at5 kM_at0 (by decide))) c261
  have c269 := k265.gi (Or.inl (tk_ne kM_at3 kM_at0 (by decide))) c262
  have c270 := k265.gi (Or.inr (by decide)) c257
  refine lv_aload_n hx hb dX12_readsAll_20 rfl (lv_at hl 0 rfl) ?_
  refine lv_iconst (v := 0) hx hb dX12_readsAll_21 (by decide) ?_
  refine tk_puti hC hK hw hT hinX12 tyX12_ok nmX12 kM_at0 (by decide) rfl rfl 15 (by decide) (List.mem_cons_of_mem _ uw_19_12) rfl rfl rfl rfl (by decide) (by decide) dX12_readsAll_22 (fun H locs w271 hw hT k273 c272 => ?_)
  replace hM := hM.wr (sI_upc k273 c272 (by decide))
  have hR := RL_F1 k273 (by decide) (by decide) (by decide) (by decide) hR
  have hF := hF.put kM_at0 (k := 15) (by decide) k273
  have c274 := k273.gi (Or.inr (by decide)) c266
  have c275 := k273.gi (Or.inr (by decide)) c267
  have c276 := k273.gi (Or.inl (tk_ne kM_at5 kM_at0 (by decide))) c268
  have c277 := k273.gi (Or.inl (tk_ne kM_at3 kM_at0 (by decide))) c269
  have c278 := k273.gi (Or.inr (by decide)) c270
  have c279 := k273.gi (Or.inr (by decide)) c264
  refine lv_aload_n hx hb dX12_readsAll_25 rfl (lv_at hl 0 rfl) ?_
  refine lv_iconst (v := 0) hx hb dX12_readsAll_26 (by decide) ?_
  refine tk_puti hC hK hw hT hinX12 tyX12_ok nmX12 kM_at0 (by decide) rfl rfl 18 (by decide) (List.mem_cons_of_mem _ uw_19_19) rfl rfl rfl rfl (by decide) (by decide) dX12_readsAll_27 (fun H locs w280 hw hT k282 c281 => ?_)
  replace hM := hM.wr (sI_upc k282 c281 (by decide))
  have hR := RL_F1 k282 (by decide) (by decide) (by decide) (by decide) hR
  have hF := hF.put kM_at0 (k := 18) (by decide) k282
  have c283 := k282.gi (Or.inr (by decide)) c274
  have c284 := k282.gi (Or.inl (tk_ne kM_at5 kM_at0 (by decide))) c276
  have c285 := k282.gi (Or.inl (tk_ne kM_at3 kM_at0 (by decide))) c277
  have c286 := k282.gi (Or.inr (by decide)) c278
  have c287 := k282.gi (Or.inr (by decide)) c279
  have c288 := k282.gi (Or.inr (by decide)) c272
  refine lv_aload_n hx hb dX12_readsAll_30 rfl (lv_at hl 0 rfl) ?_
  refine tk_Vi hC hK hw hT hA hE hSR kM_at0 (by decide) rfl (kz_X12_clauseHere_2 l adK adV dC dI cy ad B hB0 (Int.le_trans hB1 (by decide)) qr s1    w280 H.size hT f0_ c283 (show 0 ≤ f0_.toInt from rf0_) (show f0_.toInt ≤ 5 from tf0_) 0 c281 (by decide) (by decide) 0 c286 (by decide) (by decide) 0 c285 (by decide) (by decide) f4_ c284 (show 0 ≤ f4_.toInt from rf4_) (show f4_.toInt ≤ 12 from tf4_) (show 3 * (0 : Int) ≤ 14 * (0 : Int) by omega) (show f4_.toInt ≤ (0 : Int) from pr0_) (show (0 : Int) ≤ 12 by omega) (show (0 : Int) ≤ 280 by omega) hR) (cwV 0 hC.2.2.2.2 uV_RX12_276 rfl rfl rfl (by decide +kernel) ⟨Nat.le_of_ble_eq_true rfl, Nat.le_of_ble_eq_true rfl⟩) rfl hl.1 rfl (Nat.le_of_ble_eq_true rfl) dX12_readsAll_31 (fun r289 w291 H locs hp290 hw => ?_)
  obtain ⟨hT, k292, hv338, hg337⟩ := hp290
  have hF := hF.tr k292 (by decide)
  have c339 := k292.gi kM_at0 (by decide) c283
  rcases hg337 with ⟨rfl, ⟨x293, c294, rx293, tx293⟩, ⟨x295, c296, rx295, tx295⟩, ⟨x297, c298, rx297, tx297⟩, ⟨x299, c300, rx299, tx299⟩, hq301, g302, g303⟩ | ⟨rfl, ⟨x304, c305, rx304, tx304⟩, ⟨x306, c307, rx306, tx306⟩, ⟨x308, c309, rx308, tx308⟩, ⟨x310, c311, rx310, tx310⟩, hq312, g313, g314⟩ | ⟨rfl, ⟨x315, c316, rx315, tx315⟩, ⟨x317, c318, rx317, tx317⟩, ⟨x319, c320, rx319, tx319⟩, hq321, g322, g323, g324, g325⟩ | ⟨rfl, ⟨x326, c327, rx326, tx326⟩, ⟨x328, c329, rx328, tx328⟩, ⟨x330, c331, rx330, tx330⟩, hq332, g333, g334, g335, g336⟩
  · replace hM := hM.call (r' := 0) hv338 (by decide)
    have ex297 : x297.toInt = f0_.toInt := by rw [← c339.symm.trans c298]
    obtain ⟨x340, c341, rx340, tx340⟩ := hT.rda (lo := 0) (hi := 400) (i := (f0_.toInt).toNat) kM_at3 rfl rfl (by omega)
    obtain ⟨x342, c343, rx342, tx342⟩ := hT.rdi (lo := 0) (hi := 60) (k := 18) kM_at0 (by decide) rfl
    obtain ⟨x344, c345, rx344, tx344⟩ := hT.rda (lo := 0) (hi := 12) (i := (f0_.toInt).toNat) kM_at5 rfl rfl (by omega)
    have g302 : (0 : Int) ≤ x299.toInt := by have q := g302; simp only [c283, c339, c286, (show (0 : Int32).toInt = 0 by decide), c300] at q; first | with_reducible exact q | omega
    have g303 : x299.toInt ≤ 12 := by have q := g303; simp only [c283, c339, c300] at q; first | with_reducible exact q | omega
    have hR := hq301
    refine lv_istore_n (lv' := [(1, .int 0), (0, .ref (ad 0))]) hx hb dX12_readsAll_34 rfl hl (by decide) rfl (fun ls hl => ?_)
    exact L35 ((2 * (32 - x299.toInt) + (0 : Int)).toNat + 1) 0 x293 x342 x299 x340 x344 H locs ls w291 (by decide) (by decide) (show 0 ≤ x293.toInt by first | with_reducible assumption | omega) (show x293.toInt ≤ 400 by first | with_reducible assumption | omega) (show 0 ≤ f0_.toInt from rf0_) (show f0_.toInt ≤ 5 from tf0_) (show 0 ≤ x342.toInt by first | with_reducible assumption | omega) (show x342.toInt ≤ 60 by first | with_reducible assumption | omega) (show 0 ≤ x299.toInt from g302) (show x299.toInt ≤ 12 from g303) (show 0 ≤ x340.toInt by first | with_reducible assumption | omega) (show x340.toInt ≤ 400 by first | with_reducible assumption | omega) (show 0 ≤ x344.toInt by first | with_reducible assumption | omega) (show x344.toInt ≤ 12 by first | with_reducible assumption | omega) (show ((0 : Int) = 0 ∨ 3 * x340.toInt ≤ 14 * x342.toInt) by omega) (show ((0 : Int) = 0 ∨ x344.toInt ≤ x299.toInt) by omega) (show x299.toInt ≤ 12 from g303) (Nat.lt_succ_self _) hw hT hF hR c294 c339 c343 c300 c341 c345 hM (lv_sub hl [1, 0] rfl)
  · replace hM := hM.call (r' := 0) hv338 (by decide)
    have ex308 : x308.toInt = f0_.toInt := by rw [← c339.symm.trans c309]
    obtain ⟨x346, c347, rx346, tx346⟩ := hT.rda (lo := 0) (hi := 400) (i := (f0_.toInt).toNat) kM_at3 rfl rfl (by omega)
    obtain ⟨x348, c349, rx348, tx348⟩ := hT.rdi (lo := 0) (hi := 60) (k := 18) kM_at0 (by decide) rfl
    obtain ⟨x350, c351, rx350, tx350⟩ := hT.rda (lo := 0) (hi := 12) (i := (f0_.toInt).toNat) kM_at5 rfl rfl (by omega)
    have g313 : (0 : Int) ≤ x310.toInt := by have q := g313; simp only [c283, c339, c286, (show (0 : Int32).toInt = 0 by decide), c311] at q; first | with_reducible exact q | omega
    have g314 : x310.toInt ≤ 12 := by have q := g314; simp only [c283, c339, c311] at q; first | with_reducible exact q | omega
    have hR := hq312
    refine lv_istore_n (lv' := [(1, .int 0), (0, .ref (ad 0))]) hx hb dX12_readsAll_34 rfl hl (by decide) rfl (fun ls hl => ?_)
    exact L35 ((2 * (32 - x310.toInt) + (0 : Int)).toNat + 1) 0 x304 x348 x310 x346 x350 H locs ls w291 (by decide) (by decide) (show 0 ≤ x304.toInt by first | with_reducible assumption | omega) (show x304.toInt ≤ 400 by first | with_reducible assumption | omega) (show 0 ≤ f0_.toInt from rf0_) (show f0_.toInt ≤ 5 from tf0_) (show 0 ≤ x348.toInt by first | with_reducible assumption | omega) (show x348.toInt ≤ 60 by first | with_reducible assumption | omega) (show 0 ≤ x310.toInt from g313) (show x310.toInt ≤ 12 from g314) (show 0 ≤ x346.toInt by first | with_reducible assumption | omega) (show x346.toInt ≤ 400 by first | with_reducible assumption | omega) (show 0 ≤ x350.toInt by first | with_reducible assumption | omega) (show x350.toInt ≤ 12 by first | with_reducible assumption | omega) (show ((0 : Int) = 0 ∨ 3 * x346.toInt ≤ 14 * x348.toInt) by omega) (show ((0 : Int) = 0 ∨ x350.toInt ≤ x310.toInt) by omega) (show x310.toInt ≤ 12 from g314) (Nat.lt_succ_self _) hw hT hF hR c305 c339 c349 c311 c347 c351 hM (lv_sub hl [1, 0] rfl)
  · replace hM := hM.call (r' := 1) hv338 (by decide)
    have ex317 : x317.toInt = f0_.toInt := by rw [← c339.symm.trans c318]
    obtain ⟨x352, c353, rx352, tx352⟩ := hT.rda (lo := 0) (hi := 400) (i := (f0_.toInt).toNat) kM_at3 rfl rfl (by omega)
    obtain ⟨x354, c355, rx354, tx354⟩ := hT.rdi (lo := 0) (hi := 60) (k := 18) kM_at0 (by decide) rfl
    obtain ⟨x356, c357, rx356, tx356⟩ := hT.rda (lo := 0) (hi := 12) (i := (f0_.toInt).toNat) kM_at5 rfl rfl (by omega)
    have g322 : 3 * x352.toInt ≤ 14 * x354.toInt := by have q := g322; simp only [c283, c339, c353, c355] at q; first | with_reducible exact q | omega
    have g323 : x356.toInt ≤ x319.toInt := by have q := g323; simp only [c283, c339, c357, c320] at q; first | with_reducible exact q | omega
    have g324 : x319.toInt = (0 : Int) + 1 := by have q := g324; simp only [c283, c339, c286, (show (0 : Int32).toInt = 0 by decide), c320] at q; first | with_reducible exact q | omega
    have g325 : x319.toInt ≤ 12 := by have q := g325; simp only [c283, c339, c320] at q; first | with_reducible exact q | omega
    have hR := hq321
    refine lv_istore_n (lv' := [(1, .int 1), (0, .ref (ad 0))]) hx hb dX12_readsAll_34 rfl hl (by decide) rfl (fun ls hl => ?_)
    exact L35 ((2 * (32 - x319.toInt) + (1 : Int)).toNat + 1) 1 x315 x354 x319 x352 x356 H locs ls w291 (by decide) (by decide) (show 0 ≤ x315.toInt by first | with_reducible assumption | omega) (show x315.toInt ≤ 400 by first | with_reducible assumption | omega) (show 0 ≤ f0_.toInt from rf0_) (show f0_.toInt ≤ 5 from tf0_) (show 0 ≤ x354.toInt by first | with_reducible assumption | omega) (show x354.toInt ≤ 60 by first | with_reducible assumption | omega) (show 0 ≤ x319.toInt by first | with_reducible assumption | omega) (show x319.toInt ≤ 12 from g325) (show 0 ≤ x352.toInt by first | with_reducible assumption | omega) (show x352.toInt ≤ 400 by first | with_reducible assumption | omega) (show 0 ≤ x356.toInt by first | with_reducible assumption | omega) (show x356.toInt ≤ 12 by first | with_reducible assumption | omega) (show ((1 : Int) = 0 ∨ 3 * x352.toInt ≤ 14 * x354.toInt) by omega) (show ((1 : Int) = 0 ∨ x356.toInt ≤ x319.toInt) by omega) (show x319.toInt ≤ 12 from g325) (Nat.lt_succ_self _) hw hT hF hR c316 c339 c355 c320 c353 c357 hM (lv_sub hl [1, 0] rfl)
  · replace hM := hM.call (r' := 1) hv338 (by decide)
    have ex328 : x328.toInt = f0_.toInt := by rw [← c339.symm.trans c329]
    obtain ⟨x358, c359, rx358, tx358⟩ := hT.rda (lo := 0) (hi := 400) (i := (f0_.toInt).toNat) kM_at3 rfl rfl (by omega)
    obtain ⟨x360, c361, rx360, tx360⟩ := hT.rdi (lo := 0) (hi := 60) (k := 18) kM_at0 (by decide) rfl
    obtain ⟨x362, c363, rx362, tx362⟩ := hT.rda (lo := 0) (hi := 12) (i := (f0_.toInt).toNat) kM_at5 rfl rfl (by omega)
    have g333 : 3 * x358.toInt ≤ 14 * x360.toInt := by have q := g333; simp only [c283, c339, c359, c361] at q; first | with_reducible exact q | omega
    have g334 : x362.toInt ≤ x330.toInt := by have q := g334; simp only [c283, c339, c363, c331] at q; first | with_reducible exact q | omega
    have g335 : x330.toInt = (0 : Int) + 1 := by have q := g335; simp only [c283, c339, c286, (show (0 : Int32).toInt = 0 by decide), c331] at q; first | with_reducible exact q | omega
    have g336 : x330.toInt ≤ 12 := by have q := g336; simp only [c283, c339, c331] at q; first | with_reducible exact q | omega
    have hR := hq332
    refine lv_istore_n (lv' := [(1, .int 1), (0, .ref (ad 0))]) hx hb dX12_readsAll_34 rfl hl (by decide) rfl (fun ls hl => ?_)
    exact L35 ((2 * (32 - x330.toInt) + (1 : Int)).toNat + 1) 1 x326 x360 x330 x358 x362 H locs ls w291 (by decide) (by decide) (show 0 ≤ x326.toInt by first | with_reducible assumption | omega) (show x326.toInt ≤ 400 by first | with_reducible assumption | omega) (show 0 ≤ f0_.toInt from rf0_) (show f0_.toInt ≤ 5 from tf0_) (show 0 ≤ x360.toInt by first | with_reducible assumption | omega) (show x360.toInt ≤ 60 by first | with_reducible assumption | omega) (show 0 ≤ x330.toInt by first | with_reducible assumption | omega) (show x330.toInt ≤ 12 from g336) (show 0 ≤ x358.toInt by first | with_reducible assumption | omega) (show x358.toInt ≤ 400 by first | with_reducible assumption | omega) (show 0 ≤ x362.toInt by first | with_reducible assumption | omega) (show x362.toInt ≤ 12 by first | with_reducible assumption | omega) (show ((1 : Int) = 0 ∨ 3 * x358.toInt ≤ 14 * x360.toInt) by omega) (show ((1 : Int) = 0 ∨ x362.toInt ≤ x330.toInt) by omega) (show x330.toInt ≤ 12 from g336) (Nat.lt_succ_self _) hw hT hF hR c327 c339 c361 c331 c359 c363 hM (lv_sub hl [1, 0] rfl)
abbrev Pz_X12_rule_1 (ad : Nat → Nat) (cy : Nat → ClassId) (B : Int) (qr : Nat) (s1 : Int)  (w0 : va_W) : Int32 → va_W → Prop := fun r u => TW ksM ad cy B qr 12 u ∧ FE ksM [(12, 1, 1), (12, 2, 2), (12, 14, 14), (12, 15, 15), (12, 16, 16), (12, 17, 17), (12, 18, 18), (12, 19, 19), (12, 20, 20), (12, 22, 22), (61, 0, 2400), (62, 0, 7), (63, 0, 216), (64, 0, 6), (68, 0, 400)] w0 u ∧ Ev (fun n => m_X12_rule n 0 (sI w0)) (r.toInt, sI u) ∧ (((-3207) ≤ r.toInt ∧ r.toInt ≤ (-3) ∧ (∃ y : Int32, gi u 0 1 = y ∧ 0 ≤ y.toInt ∧ y.toInt ≤ 0) ∧ (∃ y : Int32, gi u 0 2 = y ∧ 0 ≤ y.toInt ∧ y.toInt ≤ 5) ∧ (∃ y : Int32, gi u 0 15 = y ∧ 1 ≤ y.toInt ∧ y.toInt ≤ 3205) ∧ (∃ y : Int32, gi u 0 17 = y ∧ 0 ≤ y.toInt ∧ y.toInt ≤ 5) ∧ (∃ y : Int32, gi u 0 20 = y ∧ 0 ≤ y.toInt ∧ y.toInt ≤ 12) ∧ RW u) ∨ (0 ≤ r.toInt ∧ r.toInt ≤ 5 ∧ (∃ y : Int32, gi u 0 1 = y ∧ 0 ≤ y.toInt ∧ y.toInt ≤ 0) ∧ (∃ y : Int32, gi u 0 2 = y ∧ 1 ≤ y.toInt ∧ y.toInt ≤ 6) ∧ (∃ y : Int32, gi u 0 15 = y ∧ 0 ≤ y.toInt ∧ y.toInt ≤ 0) ∧ (∃ y : Int32, gi u 0 17 = y ∧ 0 ≤ y.toInt ∧ y.toInt ≤ 5) ∧ (∃ y : Int32, gi u 0 20 = y ∧ 0 ≤ y.toInt ∧ y.toInt ≤ 12) ∧ RW u) ∨ (r = (-1) ∧ (∃ y : Int32, gi u 0 2 = y ∧ 6 ≤ y.toInt ∧ y.toInt ≤ 6) ∧ RW u))
set_option maxHeartbeats 4000000 in
set_option maxRecDepth 100000 in
theorem kz_X12_rule_1 (l : Launch) (adK adV : Nat → Nat) (dC : Nat → ClassId) (dI : Nat → Nat → Nat) (cy : Nat → ClassId) (ad : Nat → Nat) (B : Int) (hB0 : 100000 ≤ B) (hB1 : B ≤ 1073741824) (qr : Nat) (s1 : Int)   (w0 : va_W) (sz : Nat) (hT : TW ksM ad cy B qr 12 w0) (hRW : RW w0) : Met l yX12_rule (wu yX12_rule cX12_rule 1 (some .int)) ({ frames := 13, cells := 0, slots := 0, locals := 276 }) (va_Pc [.ref (ad 0)] (wpreS adK adV dC dI cy sz w0)) (va_Qi (Pz_X12_rule_1 ad cy B qr s1  w0) (fun u : va_W => wpost dC dI cy (va_A w0 sz) u) (va_A w0 sz)) 0 0 (va_A w0 sz) := by
  refine Met.ofW (cc := cX12_rule) (maxL := 1) (ret := (some .int)) (by decide) rfl ?_
  intro p e s m args below meth c s₁ Bk hml hv
  obtain ⟨rfl, ⟨hsz, hP, hK, hD0⟩, hE, hSR⟩ := hv
  have hx := Bk.exec
  have hb := Bk.bytes
  have hr := Bk.returns
  have hlocks := Bk.notSynchronized
  have hC : CallFix p m c cX12_rule 1 s _ (wu yX12_rule cX12_rule 1 (some .int)) RX12 := ⟨hx, hb, hml, findClass_of_methodNamed Bk.named, atoms_spec (ws := (wu yX12_rule cX12_rule 1 (some .int))) Bk.pre⟩
  subst hsz
  have hD := hD0.self (sz := s.heap.size)
  generalize hAe : va_A w0 s.heap.size = A at hD hE ⊢
  have hA : ∀ q : Nat, s.heap.size ≤ q → A q := fun q h => by rw [← hAe]; exact Or.inr h
  have hw : Wd dC dI A s.heap s.heap [] w0 := ⟨hP, hD, va_S.rf⟩
  have hF : FE ksM [(12, 1, 1), (12, 2, 2), (12, 14, 14), (12, 15, 15), (12, 16, 16), (12, 17, 17), (12, 18, 18), (12, 19, 19), (12, 20, 20), (12, 22, 22), (61, 0, 2400), (62, 0, 7), (63, 0, 216), (64, 0, 6), (68, 0, 400)] w0 w0 := FE.rf
  have hl := lv_entry ([.ref (ad 0)]) (n := 1) (Nat.le_of_ble_eq_true rfl)
  rw [lg_entry_eq]
  generalize (lg_sl ([.ref (ad 0)]) ++ List.replicate (1 - (lg_sl ([.ref (ad 0)])).length) Slot.unset).toArray = ls at hl ⊢
  have hl : lv_has ls 1 [(0, .ref (ad 0))] := hl
  generalize hloc : ([] : List Loc) = locs at hw ⊢
  have hinX12 : ∀ w ∈ u_ws RX12 TX12 42, w ∈ (wu yX12_rule cX12_rule 1 (some .int)) := fun _ h => List.mem_cons_of_mem _ (up_71 h)
  have hM : TT (fun n => m_X12_rule n 0 (sI w0)) (fun n => m_X12_rule n 0 (sI w0)) := TT.rf
  refine lv_aload_n hx hb dX12_rule_0 rfl (lv_at hl 0 rfl) ?_
  refine tk_geti hC hK hw hT hinX12 kM_at0 (by decide) rfl 2 (by decide) (List.mem_cons_of_mem _ uw_29_21) rfl rfl dX12_rule_1 (fun x1 c2 rx1 tx1 => ?_)
  replace hM := hM.rd (sI_at c2)
  refine lv_bipush (v := 6) hx hb dX12_rule_4 (by decide) ?_
  refine lv_icmp_ne (tgt := 11) hx hb dX12_rule_6 (by decide) (fun c3 => ?_) (fun c3 => ?_)
  · have c3 : ¬ x1.toInt = (6 : Int) := wk_eqF c3
    replace hM := hM.pos c3
    refine lv_aload_n hx hb dX12_rule_11 rfl (lv_at hl 0 rfl) ?_
    refine lv_aload_n hx hb dX12_rule_12 rfl (lv_at hl 0 rfl) ?_
    refine tk_geti hC hK hw hT hinX12 kM_at0 (by decide) rfl 2 (by decide) (List.mem_cons_of_mem _ uw_29_21) rfl rfl dX12_rule_13 (fun x4 c5 rx4 tx4 => ?_)
    refine wk_top x1 (c5.symm.trans c2) ?_
    replace hM := hM.rd (sI_at c2)
    refine tk_puti hC hK hw hT hinX12 tyX12_ok nmX12 kM_at0 (by decide) rfl rfl 17 (by decide) (List.mem_cons_of_mem _ uw_19_7) rfl rfl rfl rfl (show 0 ≤ x1.toInt from rx1) (show x1.toInt ≤ 6 from tx1) dX12_rule_16 (fun H locs w6 hw hT k8 c7 => ?_)
    replace hM := hM.wr (sI_up k8 c7)
    have hRW := RW_F1 k8 (by decide) (by decide) (by decide) hRW
    have hF := hF.put kM_at0 (k := 17) (by decide) k8
    have c9 := k8.gi (Or.inr (by decide)) c2
    refine lv_aload_n hx hb dX12_rule_19 rfl (lv_at hl 0 rfl) ?_
    refine tk_getA hC hK hw hT hinX12 kM_at0 (by decide) rfl 6 (by decide) (List.mem_cons_of_mem _ uw_6_18) rfl rfl dX12_rule_20 ?_
    refine lv_aload_n hx hb dX12_rule_23 rfl (lv_at hl 0 rfl) ?_
    refine tk_geti hC hK hw hT hinX12 kM_at0 (by decide) rfl 17 (by decide) (List.mem_cons_of_mem _ uw_19_7) rfl rfl dX12_rule_24 (fun x10 c11 rx10 tx10 => ?_)
    refine wk_top x1 (c11.symm.trans c7) ?_
    replace hM := hM.rd (sI_at c7)
    refine lv_iconst (v := 0) hx hb dX12_rule_27 (by decide) ?_
    refine tk_iast hC hK hw hT kM_at5 (by decide) rfl rfl (show 0 ≤ x1.toInt from rx1) (show x1.toInt < 6 by first | with_reducible assumption | omega) (by decide) (by decide) dX12_rule_28 (fun H locs w12 hw hT k14 c13 => ?_)
    replace hM := hM.wr (sI_upc k14 c13 (by decide))
    have hRW := RL_new (t := x1.toInt) hRW (by omega) (by omega) k14 (by rw [show gi w12 5 (x1.toInt).toNat = 0 from c13]; decide)
    have hF := hF.put kM_at5 (inE_of (a := 0) (b := 6) (by decide) (show 0 ≤ x1.toInt.toNat by omega) (show x1.toInt.toNat ≤ 6 by omega)) k14
    have c15 := k14.gi (Or.inl (tk_ne kM_at0 kM_at5 (by decide))) c9
    have c16 := k14.gi (Or.inl (tk_ne kM_at0 kM_at5 (by decide))) c7
    have c13 : gi w12 5 (x1.toInt).toNat = 0 := (congrArg (gi w12 5) (congrArg Int.toNat (show x1.toInt = x1.toInt from rfl))).trans c13
    refine lv_aload_n hx hb dX12_rule_29 rfl (lv_at hl 0 rfl) ?_
    obtain ⟨x17, c18, rx17, tx17⟩ := hT.rda (lo := 0) (hi := 400) (i := (x1.toInt).toNat) kM_at3 rfl rfl (by omega)
    obtain ⟨x19, c20, rx19, tx19⟩ := hT.rdi (lo := 0) (hi := 60) (k := 18) kM_at0 (by decide) rfl
    obtain ⟨x21, c22, rx21, tx21⟩ := hT.rdi (lo := 0) (hi := 32) (k := 20) kM_at0 (by decide) rfl
    refine tk_Vi hC hK hw hT hA hE hSR kM_at0 (by decide) rfl (kz_X12_readsAll_2 l adK adV dC dI cy ad B hB0 (Int.le_trans hB1 (by decide)) qr s1    w12 H.size hT x1 c16 (show 0 ≤ x1.toInt from rx1) (show x1.toInt ≤ 5 by first | with_reducible assumption | omega) x19 c20 (show 0 ≤ x19.toInt by first | with_reducible assumption | omega) (show x19.toInt ≤ 60 by first | with_reducible assumption | omega) x21 c22 (show 0 ≤ x21.toInt by first | with_reducible assumption | omega) (show x21.toInt ≤ 32 by first | with_reducible assumption | omega) x17 c18 (show 0 ≤ x17.toInt by first | with_reducible assumption | omega) (show x17.toInt ≤ 400 by first | with_reducible assumption | omega) 0 c13 (by decide) (by decide) (show (0 : Int) ≤ 0 from Int.le_refl _) hRW) (cwV 0 hC.2.2.2.2 uV_RX12_282 rfl rfl rfl (by decide +kernel) ⟨Nat.le_of_ble_eq_true rfl, Nat.le_of_ble_eq_true rfl⟩) rfl hl.1 rfl (Nat.le_of_ble_eq_true rfl) dX12_rule_30 (fun r23 w25 H locs hp24 hw => ?_)
    obtain ⟨hT, k26, hv46, hg45⟩ := hp24
    have hF := hF.tr k26 (by decide)
    have c47 := k26.gi kM_at0 (by decide) c15
    have c48 := k26.gi kM_at0 (by decide) c16
    rcases hg45 with ⟨rfl, ⟨x27, c28, rx27, tx27⟩, ⟨x29, c30, rx29, tx29⟩, ⟨x31, c32, rx31, tx31⟩, ⟨x33, c34, rx33, tx33⟩, hq35⟩ | ⟨rfl, ⟨x36, c37, rx36, tx36⟩, ⟨x38, c39, rx38, tx38⟩, ⟨x40, c41, rx40, tx40⟩, ⟨x42, c43, rx42, tx42⟩, hq44⟩
    · replace hM := hM.call (r' := 0) hv46 (by decide)
      have ex31 : x31.toInt = x1.toInt := by rw [← c48.symm.trans c32]
      obtain ⟨x49, c50, rx49, tx49⟩ := hT.rda (lo := 0) (hi := 400) (i := (x1.toInt).toNat) kM_at3 rfl rfl (by omega)
      obtain ⟨x51, c52, rx51, tx51⟩ := hT.rdi (lo := 0) (hi := 60) (k := 18) kM_at0 (by decide) rfl
      obtain ⟨x53, c54, rx53, tx53⟩ := hT.rda (lo := 0) (hi := 12) (i := (x1.toInt).toNat) kM_at5 rfl rfl (by omega)
      have hRW := hq35
      refine lv_if_ne (tgt := 44) hx hb dX12_rule_33 (by decide) (fun c => absurd (by decide) c) (fun _ => ?_)
      replace hM := hM.neg (by decide)
      refine lv_bipush (v := (-2)) hx hb dX12_rule_36 (by decide) ?_
      refine lv_aload_n hx hb dX12_rule_38 rfl (lv_at hl 0 rfl) ?_
      refine tk_geti hC hK hw hT hinX12 kM_at0 (by decide) rfl 15 (by decide) (List.mem_cons_of_mem _ uw_19_12) rfl rfl dX12_rule_39 (fun x61 c62 rx61 tx61 => ?_)
      refine wk_top x29 (c62.symm.trans c30) ?_
      replace hM := hM.rd (sI_at c30)
      refine lv_isub hx hb dX12_rule_42 ?_
      refine lv_topi (fun x63 ex63 => ?_)
      have ezx63 := ex63
      have ex63 : x63.toInt = (-2 : Int) - x29.toInt := by rw [ex63]; exact wk_sub (show (-2147483648) ≤ (-2 : Int) - x29.toInt by omega) (show (-2 : Int) - x29.toInt ≤ 2147483647 by omega)
      replace hM := hM.lt ex63.symm
      exact tk_iret hC hr hlocks hK ⟨hT, hF, hM.ret rfl, (Or.inl ⟨(show (-3207) ≤ x63.toInt by first | with_reducible assumption | omega), (show x63.toInt ≤ (-3) by first | with_reducible assumption | omega), ⟨x27, c28, (show 0 ≤ x27.toInt by first | with_reducible assumption | omega), (show x27.toInt ≤ 0 by first | with_reducible assumption | omega)⟩, ⟨x1, c47, (show 0 ≤ x1.toInt from rx1), (show x1.toInt ≤ 5 by first | with_reducible assumption | omega)⟩, ⟨x29, c30, (show 1 ≤ x29.toInt by first | with_reducible assumption | omega), (show x29.toInt ≤ 3205 by first | with_reducible assumption | omega)⟩, ⟨x1, c48, (show 0 ≤ x1.toInt from rx1), (show x1.toInt ≤ 5 by first | with_reducible assumption | omega)⟩, ⟨x33, c34, (show 0 ≤ x33.toInt by first | with_reducible assumption | omega), (show x33.toInt ≤ 12 by first | with_reducible assumption | omega)⟩, hRW⟩)⟩ hw dX12_rule_43
    · replace hM := hM.call (r' := 1) hv46 (by decide)
      have ex40 : x40.toInt = x1.toInt := by rw [← c48.symm.trans c41]
      obtain ⟨x55, c56, rx55, tx55⟩ := hT.rda (lo := 0) (hi := 400) (i := (x1.toInt).toNat) kM_at3 rfl rfl (by omega)
      obtain ⟨x57, c58, rx57, tx57⟩ := hT.rdi (lo := 0) (hi := 60) (k := 18) kM_at0 (by decide) rfl
      obtain ⟨x59, c60, rx59, tx59⟩ := hT.rda (lo := 0) (hi := 12) (i := (x1.toInt).toNat) kM_at5 rfl rfl (by omega)
      have hRW := hq44
      refine lv_if_ne (tgt := 44) hx hb dX12_rule_33 (by decide) (fun _ => ?_) (fun c => absurd c (by decide))
      replace hM := hM.pos (by decide)
      refine lv_aload_n hx hb dX12_rule_44 rfl (lv_at hl 0 rfl) ?_
      refine lv_dup hx hb dX12_rule_45 rfl ?_
      refine tk_geti hC hK hw hT hinX12 kM_at0 (by decide) rfl 2 (by decide) (List.mem_cons_of_mem _ uw_29_21) rfl rfl dX12_rule_46 (fun x64 c65 rx64 tx64 => ?_)
      refine wk_top x1 (c65.symm.trans c47) ?_
      replace hM := hM.rd (sI_at c47)
      refine lv_iconst (v := 1) hx hb dX12_rule_49 (by decide) ?_
      refine lv_iadd hx hb dX12_rule_50 ?_
      refine lv_topi (fun x66 ex66 => ?_)
      have ezx66 := ex66
      have ex66 : x66.toInt = x1.toInt + (1 : Int) := by rw [ex66]; exact wk_add (show (-2147483648) ≤ x1.toInt + (1 : Int) by omega) (show x1.toInt + (1 : Int) ≤ 2147483647 by omega)
      replace hM := hM.lt ex66.symm
      refine tk_puti hC hK hw hT hinX12 tyX12_ok nmX12 kM_at0 (by decide) rfl rfl 2 (by decide) (List.mem_cons_of_mem _ uw_29_21) rfl rfl rfl rfl (show 0 ≤ x66.toInt by first | with_reducible assumption | omega) (show x66.toInt ≤ 6 by first | with_reducible assumption | omega) dX12_rule_51 (fun H locs w67 hw hT k69 c68 => ?_)
      replace hM := hM.wr (sI_up k69 c68)
      have hRW := RW_F1 k69 (by decide) (by decide) (by decide) hRW
      have hF := hF.put kM_at0 (k := 2) (by decide) k69
      have c70 := k69.gi (Or.inr (by decide)) c48
      have c71 := k69.gi (Or.inr (by decide)) c37
      have c72 := k69.gi (Or.inr (by decide)) c39
      have c73 := k69.gi (Or.inr (by decide)) c43
      have c74 := k69.gi (Or.inl (tk_ne kM_at3 kM_at0 (by decide))) c56
      have c75 := k69.gi (Or.inr (by decide)) c58
      have c76 := k69.gi (Or.inl (tk_ne kM_at5 kM_at0 (by decide))) c60
      refine lv_aload_n hx hb dX12_rule_54 rfl (lv_at hl 0 rfl) ?_
      refine tk_geti hC hK hw hT hinX12 kM_at0 (by decide) rfl 2 (by decide) (List.mem_cons_of_mem _ uw_29_21) rfl rfl dX12_rule_55 (fun x77 c78 rx77 tx77 => ?_)
      refine wk_top x66 (c78.symm.trans c68) ?_
      replace hM := hM.rd (sI_at c68)
      refine lv_iconst (v := 1) hx hb dX12_rule_58 (by decide) ?_
      refine lv_isub hx hb dX12_rule_59 ?_
      refine lv_topi (fun x79 ex79 => ?_)
      have ezx79 := ex79
      have ex79 : x79.toInt = x66.toInt - (1 : Int) := by rw [ex79]; exact wk_sub (show (-2147483648) ≤ x66.toInt - (1 : Int) by omega) (show x66.toInt - (1 : Int) ≤ 2147483647 by omega)
      replace hM := hM.lt ex79.symm
      exact tk_iret hC hr hlocks hK ⟨hT, hF, hM.ret rfl, (Or.inr (Or.inl ⟨(show 0 ≤ x79.toInt by first | with_reducible assumption | omega), (show x79.toInt ≤ 5 by first | with_reducible assumption | omega), ⟨x36, c71, (show 0 ≤ x36.toInt by first | with_reducible assumption | omega), (show x36.toInt ≤ 0 by first | with_reducible assumption | omega)⟩, ⟨x66, c68, (show 1 ≤ x66.toInt by first | with_reducible assumption | omega), (show x66.toInt ≤ 6 by first | with_reducible assumption | omega)⟩, ⟨x38, c72, (show 0 ≤ x38.toInt by first | with_reducible assumption | omega), (show x38.toInt ≤ 0 by first | with_reducible assumption | omega)⟩, ⟨x1, c70, (show 0 ≤ x1.toInt from rx1), (show x1.toInt ≤ 5 by first | with_reducible assumption | omega)⟩, ⟨x42, c73, (show 0 ≤ x42.toInt by first | with_reducible assumption | omega), (show x42.toInt ≤ 12 by first | with_reducible assumption | omega)⟩, hRW⟩))⟩ hw dX12_rule_60
  · have c3 : x1.toInt = (6 : Int) := wk_eq.mp c3
    replace hM := hM.neg (fun q => q c3)
    refine lv_iconst (v := (-1)) hx hb dX12_rule_9 (by decide) ?_
    exact tk_iret hC hr hlocks hK ⟨hT, hF, hM.ret (by decide), (Or.inr (Or.inr ⟨rfl, ⟨x1, c2, (show 6 ≤ x1.toInt by first | with_reducible assumption | omega), (show x1.toInt ≤ 6 from tx1)⟩, hRW⟩))⟩ hw dX12_rule_10
abbrev Pz_X12_in_10 (ad : Nat → Nat) (cy : Nat → ClassId) (B : Int) (qr : Nat) (s1 : Int) (a0 : Int64) (w0 : va_W) : Int32 → va_W → Prop := fun r u => w0 = u ∧ Ev (fun n => m_X12_in n a0.toInt 0 3 (sI w0)) (r.toInt, sI w0) ∧ ((r = 0) ∨ (r = 1 ∧ 0 ≤ a0.toInt ∧ a0.toInt ≤ 3))
set_option maxHeartbeats 4000000 in
set_option maxRecDepth 100000 in
theorem kz_X12_in_10 (l : Launch) (adK adV : Nat → Nat) (dC : Nat → ClassId) (dI : Nat → Nat → Nat) (cy : Nat → ClassId) (ad : Nat → Nat) (B : Int) (hB0 : 100000 ≤ B) (hB1 : B ≤ 1073741824) (qr : Nat) (s1 : Int)  (a0 : Int64) (ra0 : (-2147483648) ≤ a0.toInt) (ta0 : a0.toInt ≤ 2147483647) (w0 : va_W) (sz : Nat) (hT : TW ksM ad cy B qr 12 w0)  : Met l yX12_in (wu yX12_in cX12_in 6 (some .boolean)) ({ frames := 1, cells := 0, slots := 0, locals := 12 }) (va_Pc [.long a0, .long 0, .long 3] (wpreS adK adV dC dI cy sz w0)) (va_Qi (Pz_X12_in_10 ad cy B qr s1 a0 w0) (fun u : va_W => wpost dC dI cy (va_A w0 sz) u) (va_A w0 sz)) 0 0 (va_A w0 sz) := by
  refine Met.ofW (cc := cX12_in) (maxL := 6) (ret := (some .boolean)) (by decide) rfl ?_
  intro p e s m args below meth c s₁ Bk hml hv
  obtain ⟨rfl, ⟨hsz, hP, hK, hD0⟩, hE, hSR⟩ := hv
  have hx := Bk.exec
  have hb := Bk.bytes
  have hr := Bk.returns
  have hlocks := Bk.notSynchronized
  have hC : CallFix p m c cX12_in 6 s _ (wu yX12_in cX12_in 6 (some .boolean)) RX12 := ⟨hx, hb, hml, findClass_of_methodNamed Bk.named, atoms_spec (ws := (wu yX12_in cX12_in 6 (some .boolean))) Bk.pre⟩
  subst hsz
  have hD := hD0.self (sz := s.heap.size)
  generalize hAe : va_A w0 s.heap.size = A at hD hE ⊢
  have hA : ∀ q : Nat, s.heap.size ≤ q → A q := fun q h => by rw [← hAe]; exact Or.inr h
  have hw : Wd dC dI A s.heap s.heap [] w0 := ⟨hP, hD, va_S.rf⟩
  have hF : FE ksM ([] : List (Nat × Nat × Nat)) w0 w0 := FE.rf
  have hl := lv_entry ([.long a0, .long 0, .long 3]) (n := 6) (Nat.le_of_ble_eq_true rfl)
  rw [lg_entry_eq]
  generalize (lg_sl ([.long a0, .long 0, .long 3]) ++ List.replicate (6 - (lg_sl ([.long a0, .long 0, .long 3])).length) Slot.unset).toArray = ls at hl ⊢
  have hl : lv_has ls 6 [(0, .long a0), (2, .long 0), (4, .long 3)] := hl
  generalize hloc : ([] : List Loc) = locs at hw ⊢
  have J17 : ∀ (H : Heap) (locs : List Loc) (ls : Array Slot), (-2147483648) ≤ a0.toInt → a0.toInt ≤ 2147483647 → Wd dC dI A s.heap H locs w0 → TT (fun n => m_X12_in n a0.toInt 0 3 (sI w0)) (fun n => b_X12_in_17 n (sI w0)) → lv_has ls 6 [(0, .long a0), (2, .long 0), (4, .long 3)] → W p l e ({ frames := 1, cells := 0, slots := 0, locals := 12 }) s m (List.toArray [.long a0, .long 0, .long 3]) below meth c H locs 0 0 (MQ below (va_Qi (Pz_X12_in_10 ad cy B qr s1 a0 w0) (fun u : va_W => wpost dC dI cy A u) A) (List.toArray [.long a0, .long 0, .long 3]) s 0 0 A) (F0 m 17 ls []) := by
    intro H locs ls r1 t2 hw hM hl
    refine lv_iconst (v := 0) hx hb dX12_in_17 (by decide) ?_
    exact tk_zret hC hr rfl hlocks hK ⟨rfl, hM.ret (by decide), (Or.inl rfl)⟩ hw dX12_in_18
  have hM : TT (fun n => m_X12_in n a0.toInt 0 3 (sI w0)) (fun n => m_X12_in n a0.toInt 0 3 (sI w0)) := TT.rf
  refine lv_lload_n hx hb dX12_in_0 rfl (lv_at hl 0 rfl) ?_
  refine lv_lload_n hx hb dX12_in_1 rfl (lv_at hl 1 rfl) ?_
  refine W.lcmp hx hb dX12_in_2 ?_
  refine lv_if_lt (tgt := 17) hx hb dX12_in_3 (by decide) (fun c3 => ?_) (fun c3 => ?_)
  · have c3 : a0.toInt < (0 : Int) := wk_cltT c3
    replace hM := hM.pos c3
    exact J17  s.heap locs ls  (show (-2147483648) ≤ a0.toInt from ra0) (show a0.toInt ≤ 2147483647 from ta0)  hw  hM (lv_sub hl [0, 1, 2] rfl)
  · have c3 : (0 : Int) ≤ a0.toInt := wk_cltF c3
    replace hM := hM.neg (Int.not_lt.mpr c3)
    refine lv_lload_n hx hb dX12_in_6 rfl (lv_at hl 0 rfl) ?_
    refine lv_lload hx hb dX12_in_7 (lv_at hl 2 rfl) ?_
    refine W.lcmp hx hb dX12_in_9 ?_
    refine lv_if_gt (tgt := 17) hx hb dX12_in_10 (by decide) (fun c4 => ?_) (fun c4 => ?_)
    · have c4 : (3 : Int) < a0.toInt := wk_cgtT c4
      replace hM := hM.pos c4
      exact J17  s.heap locs ls  (show (-2147483648) ≤ a0.toInt from ra0) (show a0.toInt ≤ 2147483647 from ta0)  hw  hM (lv_sub hl [0, 1, 2] rfl)
    · have c4 : a0.toInt ≤ (3 : Int) := wk_cgtF c4
      replace hM := hM.neg (Int.not_lt.mpr c4)
      refine lv_iconst (v := 1) hx hb dX12_in_13 (by decide) ?_
      refine lv_goto (tgt := 18) hx hb dX12_in_14 (by decide) ?_
      exact tk_zret hC hr rfl hlocks hK ⟨rfl, hM.ret (by decide), (Or.inr ⟨rfl, (show 0 ≤ a0.toInt by first | with_reducible assumption | omega), (show a0.toInt ≤ 3 by first | with_reducible assumption | omega)⟩)⟩ hw dX12_in_18
abbrev Pz_X12_image_1 (ad : Nat → Nat) (cy : Nat → ClassId) (B : Int) (qr : Nat) (s1 : Int) (a1 : Int32) (w0 : va_W) : Int32 → va_W → Prop := fun r u => TW ksM ad cy B qr 12 u ∧ FE ksM [(80, 0, 1184), (81, 0, 4)] w0 u ∧ Ev (fun n => m_X12_image n 0 a1.toInt (sI w0)) (r.toInt, sI u) ∧ ((0 ≤ r.toInt ∧ r.toInt ≤ 4 ∧ 0 ≤ a1.toInt ∧ a1.toInt ≤ 3) ∨ (r = (-1)))
set_option maxHeartbeats 4000000 in
set_option maxRecDepth 100000 in
theorem kz_X12_image_1 (l : Launch) (adK adV : Nat → Nat) (dC : Nat → ClassId) (dI : Nat → Nat → Nat) (cy : Nat → ClassId) (ad : Nat → Nat) (B : Int) (hB0 : 100000 ≤ B) (hB1 : B ≤ 1073741824) (qr : Nat) (s1 : Int)  (a1 : Int32) (w0 : va_W) (sz : Nat) (hT : TW ksM ad cy B qr 12 w0)  : Met l yX12_image (wu yX12_image cX12_image 3 (some .int)) ({ frames := 2, cells := 0, slots := 0, locals := 37 }) (va_Pc [.ref (ad 0), .int a1] (wpreS adK adV dC dI cy sz w0)) (va_Qi (Pz_X12_image_1 ad cy B qr s1 a1 w0) (fun u : va_W => wpost dC dI cy (va_A w0 sz) u) (va_A w0 sz)) 0 0 (va_A w0 sz) := by
  refine Met.ofW (cc := cX12_image) (maxL := 3) (ret := (some .int)) (by decide) rfl ?_
  intro p e s m args below meth c s₁ Bk hml hv
  obtain ⟨rfl, ⟨hsz, hP, hK, hD0⟩, hE, hSR⟩ := hv
  have hx := Bk.exec
  have hb := Bk.bytes
  have hr := Bk.returns
  have hlocks := Bk.notSynchronized
  have hC : CallFix p m c cX12_image 3 s _ (wu yX12_image cX12_image 3 (some .int)) RX12 := ⟨hx, hb, hml, findClass_of_methodNamed Bk.named, atoms_spec (ws := (wu yX12_image cX12_image 3 (some .int))) Bk.pre⟩
  subst hsz
  have hD := hD0.self (sz := s.heap.size)
  generalize hAe : va_A w0 s.heap.size = A at hD hE ⊢
  have hA : ∀ q : Nat, s.heap.size ≤ q → A q := fun q h => by rw [← hAe]; exact Or.inr h
  have hw : Wd dC dI A s.heap s.heap [] w0 := ⟨hP, hD, va_S.rf⟩
  have hF : FE ksM [(80, 0, 1184), (81, 0, 4)] w0 w0 := FE.rf
  have hl := lv_entry ([.ref (ad 0), .int a1]) (n := 3) (Nat.le_of_ble_eq_true rfl)
  rw [lg_entry_eq]
  generalize (lg_sl ([.ref (ad 0), .int a1]) ++ List.replicate (3 - (lg_sl ([.ref (ad 0), .int a1])).length) Slot.unset).toArray = ls at hl ⊢
  have hl : lv_has ls 3 [(0, .ref (ad 0)), (1, .int a1)] := hl
  generalize hloc : ([] : List Loc) = locs at hw ⊢
  have hinX12 : ∀ w ∈ u_ws RX12 TX12 42, w ∈ (wu yX12_image cX12_image 3 (some .int)) := fun _ h => List.mem_cons_of_mem _ (up_71 h)
  have L23 : ∀ (n23 : Nat) (v23_2 : Int32) (H : Heap) (locs : List Loc) (ls : Array Slot) (w1 : va_W), 0 ≤ a1.toInt → a1.toInt ≤ 3 → 0 ≤ v23_2.toInt → v23_2.toInt ≤ 296 → (296 - v23_2.toInt).toNat < n23 → Wd dC dI A s.heap H locs w1 → TW ksM ad cy B qr 12 w1 → FE ksM [(80, 0, 1184), (81, 0, 4)] w0 w1 → TT (fun n => m_X12_image n 0 a1.toInt (sI w0)) (fun n => j_X12_image 0 n 23 [a1.toInt, v23_2.toInt] (sI w1)) → lv_has ls 3 [(0, .ref (ad 0)), (1, .int a1), (2, .int v23_2)] → W p l e ({ frames := 2, cells := 0, slots := 0, locals := 37 }) s m (List.toArray [.ref (ad 0), .int a1]) below meth c H locs 0 0 (MQ below (va_Qi (Pz_X12_image_1 ad cy B qr s1 a1 w0) (fun u : va_W => wpost dC dI cy A u) A) (List.toArray [.ref (ad 0), .int a1]) s 0 0 A) (F0 m 23 ls []) := by
    intro n23
    induction n23 with
    | zero => intro v23_2 H locs ls w1 r2 t3 r4 t5 hm23 hw hT hF hM hl; omega
    | succ n23 ih23 =>
      intro v23_2 H locs ls w1 r2 t3 r4 t5 hm23 hw hT hF hM hl
      replace hM := hM.suc (fun _ => e_X12_image_23)
      refine lv_iload_n hx hb dX12_image_23 rfl (lv_at hl 2 rfl) ?_
      refine lv_sipush (v := 296) hx hb dX12_image_24 (by decide) ?_
      refine lv_icmp_ge (tgt := 54) hx hb dX12_image_27 (by decide) (fun c6 => ?_) (fun c6 => ?_)
      · have c6 : (296 : Int) ≤ v23_2.toInt := wk_le.mp c6
        replace hM := hM.pos c6
        refine lv_aload_n hx hb dX12_image_54 rfl (lv_at hl 0 rfl) ?_
        refine tk_getA hC hK hw hT hinX12 kM_at0 (by decide) rfl 26 (by decide) (List.mem_cons_of_mem _ uw_7_1) rfl rfl dX12_image_55 ?_
        refine lv_iconst (v := 5) hx hb dX12_image_58 (by decide) ?_
        refine tk_ialdR hC hK hw hT kM_at12 rfl (by decide) (by decide) dX12_image_59 (fun x7 c8 Ex7 => ?_)
        have hox7 := c8
        replace hM := hM.rd (sI_at hox7)
        have bx7 := tk_rgI rfl 5 1 1 0 4 (by decide +kernel) ⟨0, by decide, by decide⟩ Ex7
        have c8 : gi w1 12 5 = x7 := c8
        exact tk_iret hC hr hlocks hK ⟨hT, hF, hM.ret rfl, (Or.inl ⟨(show 0 ≤ x7.toInt by first | with_reducible assumption | omega), (show x7.toInt ≤ 4 by first | with_reducible assumption | omega), (show 0 ≤ a1.toInt from r2), (show a1.toInt ≤ 3 from t3)⟩)⟩ hw dX12_image_60
      · have c6 : v23_2.toInt < (296 : Int) := wk_leF c6
        replace hM := hM.neg (Int.not_le.mpr c6)
        refine lv_aload_n hx hb dX12_image_30 rfl (lv_at hl 0 rfl) ?_
        refine tk_getA hC hK hw hT hinX12 kM_at0 (by decide) rfl 40 (by decide) (List.mem_cons_of_mem _ uw_7_11) rfl rfl dX12_image_31 ?_
        refine lv_sipush (v := 296) hx hb dX12_image_34 (by decide) ?_
        refine lv_iload_n hx hb dX12_image_37 rfl (lv_at hl 1 rfl) ?_
        refine lv_imul hx hb dX12_image_38 ?_
        refine lv_topi (fun x9 ex9 => ?_)
        have ezx9 := ex9
        have ex9 : x9.toInt = (296 : Int) * a1.toInt := by rw [ex9]; exact wk_mul (show (-2147483648) ≤ (296 : Int) * a1.toInt by omega) (show (296 : Int) * a1.toInt ≤ 2147483647 by omega)
        replace hM := hM.lt ex9.symm
        refine lv_iload_n hx hb dX12_image_39 rfl (lv_at hl 2 rfl) ?_
        refine lv_iadd hx hb dX12_image_40 ?_
        refine lv_topi (fun x10 ex10 => ?_)
        have ezx10 := ex10
        have ex10 : x10.toInt = x9.toInt + v23_2.toInt := by rw [ex10]; exact wk_add (show (-2147483648) ≤ x9.toInt + v23_2.toInt by omega) (show x9.toInt + v23_2.toInt ≤ 2147483647 by omega)
        replace hM := hM.lt ex10.symm
        refine lv_aload_n hx hb dX12_image_41 rfl (lv_at hl 0 rfl) ?_
        refine tk_getA hC hK hw hT hinX12 kM_at0 (by decide) rfl 26 (by decide) (List.mem_cons_of_mem _ uw_7_1) rfl rfl dX12_image_42 ?_
        refine lv_iload_n hx hb dX12_image_45 rfl (lv_at hl 2 rfl) ?_
        refine tk_ialdR hC hK hw hT kM_at12 rfl (show 0 ≤ v23_2.toInt from r4) (show v23_2.toInt < 296 by first | with_reducible assumption | omega) dX12_image_46 (fun x11 c12 Ex11 => ?_)
        have hox11 := c12
        have c12 : gi w1 12 (v23_2.toInt).toNat = x11 := (congrArg (gi w1 12) (congrArg Int.toNat (show v23_2.toInt = v23_2.toInt from rfl))).trans c12
        replace hM := hM.rd (sI_at hox11)
        refine tk_iastR hC hK hw hT kM_at21 (by decide) rfl (show 0 ≤ x10.toInt by first | with_reducible assumption | omega) (show x10.toInt < 1184 by first | with_reducible assumption | omega) (tk_rgC rfl rfl (show v23_2.toInt.toNat % 296 = x10.toInt.toNat % 296 by first | exact Int.le_antisymm (by omega) (by omega) | omega) Ex11) dX12_image_47 (fun H locs w13 hw hT k15 c14 => ?_)
        replace hM := hM.wr (sI_up k15 c14)
        have hF := hF.put kM_at21 (inE_of (a := 0) (b := 1184) (by decide) (show 0 ≤ x10.toInt.toNat by omega) (show x10.toInt.toNat ≤ 1184 by omega)) k15
        have c16 := k15.gi (Or.inl (tk_ne kM_at12 kM_at21 (by decide))) c12
        obtain ⟨x17, ex17⟩ : ∃ y : Int32, y = v23_2 + Int32.ofInt 1 := ⟨_, rfl⟩
        have erx17 := ex17
        refine lv_iinc (v := x17) (lv' := [(2, .int x17), (0, .ref (ad 0)), (1, .int a1)]) hx hb dX12_image_48 hl (k := 2) rfl ex17.symm (by decide) rfl (fun ls hl => ?_)
        have ex17 : x17.toInt = v23_2.toInt + 1 := by rw [ex17]; exact wk_add (y := 1) (show -2147483648 ≤ v23_2.toInt + 1 by omega) (show v23_2.toInt + 1 ≤ 2147483647 by omega)
        replace hM := hM.lt ex17.symm
        refine lv_goto (tgt := 23) hx hb dX12_image_51 (by decide) ?_
        exact ih23 x17 H locs ls w13 (show 0 ≤ a1.toInt from r2) (show a1.toInt ≤ 3 from t3) (show 0 ≤ x17.toInt by first | with_reducible assumption | omega) (show x17.toInt ≤ 296 by first | with_reducible assumption | omega) (show (296 - x17.toInt).toNat < n23 by first | exact tn_lt hm23 (by omega) (by omega) | omega) hw hT hF hM (lv_sub hl [1, 2, 0] rfl)
  have hM : TT (fun n => m_X12_image n 0 a1.toInt (sI w0)) (fun n => m_X12_image n 0 a1.toInt (sI w0)) := TT.rf
  refine lv_iload_n hx hb dX12_image_0 rfl (lv_at hl 1 rfl) ?_
  refine lv_i2l hx hb dX12_image_1 rfl ?_
  refine lv_topl (fun x18 ex18 => ?_)
  have ex18 : x18.toInt = a1.toInt := by rw [ex18]; exact wk_i2l _
  have bx18 := wk_i32 a1
  replace hM := hM.lt ex18.symm
  refine lv_lconst (v := 0) hx hb dX12_image_2 (by decide) ?_
  refine lv_ldc2 (v := 3) hx hb hC.2.2.2.1 (hC.2.2.2.2 _ (List.mem_cons_of_mem _ uw_35_2)) dX12_image_3 ?_
  refine tk_Si hC hK hw hT hA hE hSR (kz_X12_in_10 l adK adV dC dI cy ad B hB0 (Int.le_trans hB1 (by decide)) qr s1   x18 (show (-2147483648) ≤ x18.toInt by first | with_reducible assumption | omega) (show x18.toInt ≤ 2147483647 by first | with_reducible assumption | omega) w0 s.heap.size hT ) (va_cwS 3 hC.2.2.2.2 uS_RX12_122 rfl rfl rfl (by decide +kernel) ⟨Nat.le_of_ble_eq_true rfl, Nat.le_of_ble_eq_true rfl⟩) rfl hl.1 rfl (Nat.le_of_ble_eq_true rfl) dX12_image_6 (fun r19 w21 H locs hp20 hw => ?_)
  obtain ⟨rfl, hv26, hg25⟩ := hp20
  rcases hg25 with rfl | ⟨rfl, g23, g24⟩
  · replace hM := hM.call (r' := 0) hv26 (by decide)
    refine lv_if_ne (tgt := 14) hx hb dX12_image_9 (by decide) (fun c => absurd (by decide) c) (fun _ => ?_)
    replace hM := hM.neg (by decide)
    refine lv_iconst (v := (-1)) hx hb dX12_image_12 (by decide) ?_
    exact tk_iret hC hr hlocks hK ⟨hT, hF, hM.ret (by decide), (Or.inr rfl)⟩ hw dX12_image_13
  · replace hM := hM.call (r' := 1) hv26 (by decide)
    refine lv_if_ne (tgt := 14) hx hb dX12_image_9 (by decide) (fun _ => ?_) (fun c => absurd c (by decide))
    replace hM := hM.pos (by decide)
    refine lv_aload_n hx hb dX12_image_14 rfl (lv_at hl 0 rfl) ?_
    refine tk_getA hC hK hw hT hinX12 kM_at0 (by decide) rfl 41 (by decide) (List.mem_cons_of_mem _ uw_7_12) rfl rfl dX12_image_15 ?_
    refine lv_iload_n hx hb dX12_image_18 rfl (lv_at hl 1 rfl) ?_
    refine lv_iconst (v := 1) hx hb dX12_image_19 (by decide) ?_
    refine tk_zast hC hK hw hT kM_at22 (by decide) rfl rfl (show 0 ≤ a1.toInt by first | with_reducible assumption | omega) (show a1.toInt < 4 by first | with_reducible assumption | omega) (by decide) (by decide) dX12_image_20 (fun H locs w27 hw hT k29 c28 => ?_)
    replace hM := hM.wr (sI_upc k29 c28 (by decide))
    have hF := hF.put kM_at22 (inE_of (a := 0) (b := 4) (by decide) (show 0 ≤ a1.toInt.toNat by omega) (show a1.toInt.toNat ≤ 4 by omega)) k29
    refine lv_iconst (v := 0) hx hb dX12_image_21 (by decide) ?_
    refine lv_istore_n (lv' := [(2, .int 0), (0, .ref (ad 0)), (1, .int a1)]) hx hb dX12_image_22 rfl hl (by decide) rfl (fun ls hl => ?_)
    exact L23 ((296 - (0 : Int)).toNat + 1) 0 H locs ls w27 (show 0 ≤ a1.toInt by first | with_reducible assumption | omega) (show a1.toInt ≤ 3 by first | with_reducible assumption | omega) (by decide) (by decide) (Nat.lt_succ_self _) hw hT hF hM (lv_sub hl [1, 2, 0] rfl)
abbrev Pz_X12_back_1 (ad : Nat → Nat) (cy : Nat → ClassId) (B : Int) (qr : Nat) (s1 : Int) (a1 : Int32) (w0 : va_W) : Int32 → va_W → Prop := fun r u => TW ksM ad cy B qr 12 u ∧ FE ksM [(71, 0, 295)] w0 u ∧ Ev (fun n => m_X12_back n 0 a1.toInt (sI w0)) (r.toInt, sI u) ∧ ((0 ≤ r.toInt ∧ r.toInt ≤ 4 ∧ 0 ≤ a1.toInt ∧ a1.toInt ≤ 3) ∨ (r = (-1)))
set_option maxHeartbeats 4000000 in
set_option maxRecDepth 100000 in
theorem kz_X12_back_1 (l : Launch) (adK adV : Nat → Nat) (dC : Nat → ClassId) (dI : Nat → Nat → Nat) (cy : Nat → ClassId) (ad : Nat → Nat) (B : Int) (hB0 : 100000 ≤ B) (hB1 : B ≤ 1073741824) (qr : Nat) (s1 : Int)  (a1 : Int32) (w0 : va_W) (sz : Nat) (hT : TW ksM ad cy B qr 12 w0)  : Met l yX12_back (wu yX12_back cX12_back 3 (some .int)) ({ frames := 2, cells := 0, slots := 0, locals := 37 }) (va_Pc [.ref (ad 0), .int a1] (wpreS adK adV dC dI cy sz w0)) (va_Qi (Pz_X12_back_1 ad cy B qr s1 a1 w0) (fun u : va_W => wpost dC dI cy (va_A w0 sz) u) (va_A w0 sz)) 0 0 (va_A w0 sz) := by
  refine Met.ofW (cc := cX12_back) (maxL := 3) (ret := (some .int)) (by decide) rfl ?_
  intro p e s m args below meth c s₁ Bk hml hv
  obtain ⟨rfl, ⟨hsz, hP, hK, hD0⟩, hE, hSR⟩ := hv
  have hx := Bk.exec
  have hb := Bk.bytes
  have hr := Bk.returns
  have hlocks := Bk.notSynchronized
  have hC : CallFix p m c cX12_back 3 s _ (wu yX12_back cX12_back 3 (some .int)) RX12 := ⟨hx, hb, hml, findClass_of_methodNamed Bk.named, atoms_spec (ws := (wu yX12_back cX12_back 3 (some .int))) Bk.pre⟩
  subst hsz
  have hD := hD0.self (sz := s.heap.size)
  generalize hAe : va_A w0 s.heap.size = A at hD hE ⊢
  have hA : ∀ q : Nat, s.heap.size ≤ q → A q := fun q h => by rw [← hAe]; exact Or.inr h
  have hw : Wd dC dI A s.heap s.heap [] w0 := ⟨hP, hD, va_S.rf⟩
  have hF : FE ksM [(71, 0, 295)] w0 w0 := FE.rf
  have hl := lv_entry ([.ref (ad 0), .int a1]) (n := 3) (Nat.le_of_ble_eq_true rfl)
  rw [lg_entry_eq]
  generalize (lg_sl ([.ref (ad 0), .int a1]) ++ List.replicate (3 - (lg_sl ([.ref (ad 0), .int a1])).length) Slot.unset).toArray = ls at hl ⊢
  have hl : lv_has ls 3 [(0, .ref (ad 0)), (1, .int a1)] := hl
  generalize hloc : ([] : List Loc) = locs at hw ⊢
  have hinX12 : ∀ w ∈ u_ws RX12 TX12 42, w ∈ (wu yX12_back cX12_back 3 (some .int)) := fun _ h => List.mem_cons_of_mem _ (up_71 h)
  have J21 : ∀ (H : Heap) (locs : List Loc) (ls : Array Slot) (w1 : va_W), Wd dC dI A s.heap H locs w1 → TW ksM ad cy B qr 12 w1 → FE ksM [(71, 0, 295)] w0 w1 → TT (fun n => m_X12_back n 0 a1.toInt (sI w0)) (fun n => b_X12_back_21 (j_X12_back 0 n) n 0 (sI w1)) → lv_has ls 3 [(0, .ref (ad 0)), (1, .int a1)] → W p l e ({ frames := 2, cells := 0, slots := 0, locals := 37 }) s m (List.toArray [.ref (ad 0), .int a1]) below meth c H locs 0 0 (MQ below (va_Qi (Pz_X12_back_1 ad cy B qr s1 a1 w0) (fun u : va_W => wpost dC dI cy A u) A) (List.toArray [.ref (ad 0), .int a1]) s 0 0 A) (F0 m 21 ls []) := by
    intro H locs ls w1 hw hT hF hM hl
    refine lv_iconst (v := (-1)) hx hb dX12_back_21 (by decide) ?_
    exact tk_iret hC hr hlocks hK ⟨hT, hF, hM.ret (by decide), (Or.inr rfl)⟩ hw dX12_back_22
  have L25 : ∀ (n25 : Nat) (v25_2 : Int32) (H : Heap) (locs : List Loc) (ls : Array Slot) (w2 : va_W), 0 ≤ a1.toInt → a1.toInt ≤ 3 → 0 ≤ v25_2.toInt → v25_2.toInt ≤ 296 → (296 - v25_2.toInt).toNat < n25 → Wd dC dI A s.heap H locs w2 → TW ksM ad cy B qr 12 w2 → FE ksM [(71, 0, 295)] w0 w2 → TT (fun n => m_X12_back n 0 a1.toInt (sI w0)) (fun n => j_X12_back 0 n 25 [a1.toInt, v25_2.toInt] (sI w2)) → lv_has ls 3 [(0, .ref (ad 0)), (1, .int a1), (2, .int v25_2)] → W p l e ({ frames := 2, cells := 0, slots := 0, locals := 37 }) s m (List.toArray [.ref (ad 0), .int a1]) below meth c H locs 0 0 (MQ below (va_Qi (Pz_X12_back_1 ad cy B qr s1 a1 w0) (fun u : va_W => wpost dC dI cy A u) A) (List.toArray [.ref (ad 0), .int a1]) s 0 0 A) (F0 m 25 ls []) := by
    intro n25
    induction n25 with
    | zero => intro v25_2 H locs ls w2 r3 t4 r5 t6 hm25 hw hT hF hM hl; omega
    | succ n25 ih25 =>
      intro v25_2 H locs ls w2 r3 t4 r5 t6 hm25 hw hT hF hM hl
      replace hM := hM.suc (fun _ => e_X12_back_25)
      refine lv_iload_n hx hb dX12_back_25 rfl (lv_at hl 2 rfl) ?_
      refine lv_sipush (v := 296) hx hb dX12_back_26 (by decide) ?_
      refine lv_icmp_ge (tgt := 56) hx hb dX12_back_29 (by decide) (fun c7 => ?_) (fun c7 => ?_)
      · have c7 : (296 : Int) ≤ v25_2.toInt := wk_le.mp c7
        replace hM := hM.pos c7
        refine lv_aload_n hx hb dX12_back_56 rfl (lv_at hl 0 rfl) ?_
        refine tk_getA hC hK hw hT hinX12 kM_at0 (by decide) rfl 26 (by decide) (List.mem_cons_of_mem _ uw_7_1) rfl rfl dX12_back_57 ?_
        refine lv_iconst (v := 5) hx hb dX12_back_60 (by decide) ?_
        refine tk_ialdR hC hK hw hT kM_at12 rfl (by decide) (by decide) dX12_back_61 (fun x8 c9 Ex8 => ?_)
        have hox8 := c9
        replace hM := hM.rd (sI_at hox8)
        have bx8 := tk_rgI rfl 5 1 1 0 4 (by decide +kernel) ⟨0, by decide, by decide⟩ Ex8
        have c9 : gi w2 12 5 = x8 := c9
        exact tk_iret hC hr hlocks hK ⟨hT, hF, hM.ret rfl, (Or.inl ⟨(show 0 ≤ x8.toInt by first | with_reducible assumption | omega), (show x8.toInt ≤ 4 by first | with_reducible assumption | omega), (show 0 ≤ a1.toInt from r3), (show a1.toInt ≤ 3 from t4)⟩)⟩ hw dX12_back_62
      · have c7 : v25_2.toInt < (296 : Int) := wk_leF c7
        replace hM := hM.neg (Int.not_le.mpr c7)
        refine lv_aload_n hx hb dX12_back_32 rfl (lv_at hl 0 rfl) ?_
        refine tk_getA hC hK hw hT hinX12 kM_at0 (by decide) rfl 26 (by decide) (List.mem_cons_of_mem _ uw_7_1) rfl rfl dX12_back_33 ?_
        refine lv_iload_n hx hb dX12_back_36 rfl (lv_at hl 2 rfl) ?_
        refine lv_aload_n hx hb dX12_back_37 rfl (lv_at hl 0 rfl) ?_
        refine tk_getA hC hK hw hT hinX12 kM_at0 (by decide) rfl 40 (by decide) (List.mem_cons_of_mem _ uw_7_11) rfl rfl dX12_back_38 ?_
        refine lv_sipush (v := 296) hx hb dX12_back_41 (by decide) ?_
        refine lv_iload_n hx hb dX12_back_44 rfl (lv_at hl 1 rfl) ?_
        refine lv_imul hx hb dX12_back_45 ?_
        refine lv_topi (fun x10 ex10 => ?_)
        have ezx10 := ex10
        have ex10 : x10.toInt = (296 : Int) * a1.toInt := by rw [ex10]; exact wk_mul (show (-2147483648) ≤ (296 : Int) * a1.toInt by omega) (show (296 : Int) * a1.toInt ≤ 2147483647 by omega)
        replace hM := hM.lt ex10.symm
        refine lv_iload_n hx hb dX12_back_46 rfl (lv_at hl 2 rfl) ?_
        refine lv_iadd hx hb dX12_back_47 ?_
        refine lv_topi (fun x11 ex11 => ?_)
        have ezx11 := ex11
        have ex11 : x11.toInt = x10.toInt + v25_2.toInt := by rw [ex11]; exact wk_add (show (-2147483648) ≤ x10.toInt + v25_2.toInt by omega) (show x10.toInt + v25_2.toInt ≤ 2147483647 by omega)
        replace hM := hM.lt ex11.symm
        refine tk_ialdR hC hK hw hT kM_at21 rfl (show 0 ≤ x11.toInt by first | with_reducible assumption | omega) (show x11.toInt < 1184 by first | with_reducible assumption | omega) dX12_back_48 (fun x12 c13 Ex12 => ?_)
        have hox12 := c13
        replace hM := hM.rd (sI_at hox12)
        refine tk_iastR hC hK hw hT kM_at12 (by decide) rfl (show 0 ≤ v25_2.toInt from r5) (show v25_2.toInt < 296 by first | with_reducible assumption | omega) (tk_rgC rfl rfl (show x11.toInt.toNat % 296 = v25_2.toInt.toNat % 296 by first | exact Int.le_antisymm (by omega) (by omega) | omega) Ex12) dX12_back_49 (fun H locs w14 hw hT k16 c15 => ?_)
        replace hM := hM.wr (sI_up k16 c15)
        have hF := hF.put kM_at12 (inE_of (a := 0) (b := 295) (by decide) (show 0 ≤ v25_2.toInt.toNat by omega) (show v25_2.toInt.toNat ≤ 295 by omega)) k16
        obtain ⟨x17, ex17⟩ : ∃ y : Int32, y = v25_2 + Int32.ofInt 1 := ⟨_, rfl⟩
        have erx17 := ex17
        refine lv_iinc (v := x17) (lv' := [(2, .int x17), (0, .ref (ad 0)), (1, .int a1)]) hx hb dX12_back_50 hl (k := 2) rfl ex17.symm (by decide) rfl (fun ls hl => ?_)
        have ex17 : x17.toInt = v25_2.toInt + 1 := by rw [ex17]; exact wk_add (y := 1) (show -2147483648 ≤ v25_2.toInt + 1 by omega) (show v25_2.toInt + 1 ≤ 2147483647 by omega)
        replace hM := hM.lt ex17.symm
        refine lv_goto (tgt := 25) hx hb dX12_back_53 (by decide) ?_
        exact ih25 x17 H locs ls w14 (show 0 ≤ a1.toInt from r3) (show a1.toInt ≤ 3 from t4) (show 0 ≤ x17.toInt by first | with_reducible assumption | omega) (show x17.toInt ≤ 296 by first | with_reducible assumption | omega) (show (296 - x17.toInt).toNat < n25 by first | exact tn_lt hm25 (by omega) (by omega) | omega) hw hT hF hM (lv_sub hl [1, 2, 0] rfl)
  have hM : TT (fun n => m_X12_back n 0 a1.toInt (sI w0)) (fun n => m_X12_back n 0 a1.toInt (sI w0)) := TT.rf
  refine lv_iload_n hx hb dX12_back_0 rfl (lv_at hl 1 rfl) ?_
  refine lv_i2l hx hb dX12_back_1 rfl ?_
  refine lv_topl (fun x18 ex18 => ?_)
  have ex18 : x18.toInt = a1.toInt := by rw [ex18]; exact wk_i2l _
  have bx18 := wk_i32 a1
  replace hM := hM.lt ex18.symm
  refine lv_lconst (v := 0) hx hb dX12_back_2 (by decide) ?_
  refine lv_ldc2 (v := 3) hx hb hC.2.2.2.1 (hC.2.2.2.2 _ (List.mem_cons_of_mem _ uw_35_2)) dX12_back_3 ?_
  refine tk_Si hC hK hw hT hA hE hSR (kz_X12_in_10 l adK adV dC dI cy ad B hB0 (Int.le_trans hB1 (by decide)) qr s1   x18 (show (-2147483648) ≤ x18.toInt by first | with_reducible assumption | omega) (show x18.toInt ≤ 2147483647 by first | with_reducible assumption | omega) w0 s.heap.size hT ) (va_cwS 3 hC.2.2.2.2 uS_RX12_122 rfl rfl rfl (by decide +kernel) ⟨Nat.le_of_ble_eq_true rfl, Nat.le_of_ble_eq_true rfl⟩) rfl hl.1 rfl (Nat.le_of_ble_eq_true rfl) dX12_back_6 (fun r19 w21 H locs hp20 hw => ?_)
  obtain ⟨rfl, hv26, hg25⟩ := hp20
  rcases hg25 with rfl | ⟨rfl, g23, g24⟩
  · replace hM := hM.call (r' := 0) hv26 (by decide)
    refine lv_if_eq (tgt := 21) hx hb dX12_back_9 (by decide) (fun _ => ?_) (fun c => absurd (by decide) c)
    replace hM := hM.pos (by decide)
    exact J21  H locs ls w0   hw hT hF hM (lv_sub hl [0, 1] rfl)
  · replace hM := hM.call (r' := 1) hv26 (by decide)
    refine lv_if_eq (tgt := 21) hx hb dX12_back_9 (by decide) (fun c => absurd c (by decide)) (fun _ => ?_)
    replace hM := hM.neg (by decide)
    refine lv_aload_n hx hb dX12_back_12 rfl (lv_at hl 0 rfl) ?_
    refine tk_getA hC hK hw hT hinX12 kM_at0 (by decide) rfl 41 (by decide) (List.mem_cons_of_mem _ uw_7_12) rfl rfl dX12_back_13 ?_
    refine lv_iload_n hx hb dX12_back_16 rfl (lv_at hl 1 rfl) ?_
    refine tk_zald hC hK hw hT kM_at22 rfl rfl (show 0 ≤ a1.toInt by first | with_reducible assumption | omega) (show a1.toInt < 4 by first | with_reducible assumption | omega) dX12_back_17 (fun x27 c28 rx27 tx27 => ?_)
    have hox27 := c28
    replace hM := hM.rd (sI_at hox27)
    refine lv_if_ne (tgt := 23) hx hb dX12_back_18 (by decide) (fun c29 => ?_) (fun c29 => ?_)
    · have c29 : ¬ x27.toInt = (0 : Int) := wk_eqF c29
      replace hM := hM.pos c29
      refine lv_iconst (v := 0) hx hb dX12_back_23 (by decide) ?_
      refine lv_istore_n (lv' := [(2, .int 0), (0, .ref (ad 0)), (1, .int a1)]) hx hb dX12_back_24 rfl hl (by decide) rfl (fun ls hl => ?_)
      exact L25 ((296 - (0 : Int)).toNat + 1) 0 H locs ls w0 (show 0 ≤ a1.toInt by first | with_reducible assumption | omega) (show a1.toInt ≤ 3 by first | with_reducible assumption | omega) (by decide) (by decide) (Nat.lt_succ_self _) hw hT hF hM (lv_sub hl [1, 2, 0] rfl)
    · have c29 : x27.toInt = (0 : Int) := wk_eq.mp c29
      replace hM := hM.neg (fun q => q c29)
      exact J21  H locs ls w0   hw hT hF hM (lv_sub hl [0, 1] rfl)
abbrev Pz_X12_isStreet_1 (ad : Nat → Nat) (cy : Nat → ClassId) (B : Int) (qr : Nat) (s1 : Int) (a1 : Int32) (w0 : va_W) : Int32 → va_W → Prop := fun r u => w0 = u ∧ Ev (fun n => m_X12_isStreet n 0 a1.toInt (sI w0)) (r.toInt, sI w0) ∧ ((r = 0) ∨ (r = 1 ∧ 0 ≤ a1.toInt ∧ a1.toInt ≤ 11 ∧ (∃ y : Int32, gi u 12 1 = y ∧ 1 ≤ y.toInt ∧ y.toInt ≤ 12)))
set_option maxHeartbeats 4000000 in
set_option maxRecDepth 100000 in
theorem kz_X12_isStreet_1 (l : Launch) (adK adV : Nat → Nat) (dC : Nat → ClassId) (dI : Nat → Nat → Nat) (cy : Nat → ClassId) (ad : Nat → Nat) (B : Int) (hB0 : 100000 ≤ B) (hB1 : B ≤ 1073741824) (qr : Nat) (s1 : Int)  (a1 : Int32) (w0 : va_W) (sz : Nat) (hT : TW ksM ad cy B qr 12 w0)  : Met l yX12_isStreet (wu yX12_isStreet cX12_isStreet 2 (some .boolean)) ({ frames := 1, cells := 0, slots := 0, locals := 12 }) (va_Pc [.ref (ad 0), .int a1] (wpreS adK adV dC dI cy sz w0)) (va_Qi (Pz_X12_isStreet_1 ad cy B qr s1 a1 w0) (fun u : va_W => wpost dC dI cy (va_A w0 sz) u) (va_A w0 sz)) 0 0 (va_A w0 sz) := by
  refine Met.ofW (cc := cX12_isStreet) (maxL := 2) (ret := (some .boolean)) (by decide) rfl ?_
  intro p e s m args below meth c s₁ Bk hml hv
  obtain ⟨rfl, ⟨hsz, hP, hK, hD0⟩, hE, hSR⟩ := hv
  have hx := Bk.exec
  have hb := Bk.bytes
  have hr := Bk.returns
  have hlocks := Bk.notSynchronized
  have hC : CallFix p m c cX12_isStreet 2 s _ (wu yX12_isStreet cX12_isStreet 2 (some .boolean)) RX12 := ⟨hx, hb, hml, findClass_of_methodNamed Bk.named, atoms_spec (ws := (wu yX12_isStreet cX12_isStreet 2 (some .boolean))) Bk.pre⟩
  subst hsz
  have hD := hD0.self (sz := s.heap.size)
  generalize hAe : va_A w0 s.heap.size = A at hD hE ⊢
  have hA : ∀ q : Nat, s.heap.size ≤ q → A q := fun q h => by rw [← hAe]; exact Or.inr h
  have hw : Wd dC dI A s.heap s.heap [] w0 := ⟨hP, hD, va_S.rf⟩
  have hF : FE ksM ([] : List (Nat × Nat × Nat)) w0 w0 := FE.rf
  have hl := lv_entry ([.ref (ad 0), .int a1]) (n := 2) (Nat.le_of_ble_eq_true rfl)
  rw [lg_entry_eq]
  generalize (lg_sl ([.ref (ad 0), .int a1]) ++ List.replicate (2 - (lg_sl ([.ref (ad 0), .int a1])).length) Slot.unset).toArray = ls at hl ⊢
  have hl : lv_has ls 2 [(0, .ref (ad 0)), (1, .int a1)] := hl
  generalize hloc : ([] : List Loc) = locs at hw ⊢
  have hinX12 : ∀ w ∈ u_ws RX12 TX12 42, w ∈ (wu yX12_isStreet cX12_isStreet 2 (some .boolean)) := fun _ h => List.mem_cons_of_mem _ (up_71 h)
  have J18 : ∀ (H : Heap) (locs : List Loc) (ls : Array Slot), Wd dC dI A s.heap H locs w0 → TT (fun n => m_X12_isStreet n 0 a1.toInt (sI w0)) (fun n => b_X12_isStreet_18 n 0 (sI w0)) → lv_has ls 2 [(0, .ref (ad 0)), (1, .int a1)] → W p l e ({ frames := 1, cells := 0, slots := 0, locals := 12 }) s m (List.toArray [.ref (ad 0), .int a1]) below meth c H locs 0 0 (MQ below (va_Qi (Pz_X12_isStreet_1 ad cy B qr s1 a1 w0) (fun u : va_W => wpost dC dI cy A u) A) (List.toArray [.ref (ad 0), .int a1]) s 0 0 A) (F0 m 18 ls []) := by
    intro H locs ls hw hM hl
    refine lv_iconst (v := 0) hx hb dX12_isStreet_18 (by decide) ?_
    exact tk_zret hC hr rfl hlocks hK ⟨rfl, hM.ret (by decide), (Or.inl rfl)⟩ hw dX12_isStreet_19
  have hM : TT (fun n => m_X12_isStreet n 0 a1.toInt (sI w0)) (fun n => m_X12_isStreet n 0 a1.toInt (sI w0)) := TT.rf
  refine lv_iload_n hx hb dX12_isStreet_0 rfl (lv_at hl 1 rfl) ?_
  refine lv_if_lt (tgt := 18) hx hb dX12_isStreet_1 (by decide) (fun c1 => ?_) (fun c1 => ?_)
  · have c1 : a1.toInt < (0 : Int) := wk_lt.mp c1
    replace hM := hM.pos c1
    exact J18  s.heap locs ls    hw  hM (lv_sub hl [0, 1] rfl)
  · have c1 : (0 : Int) ≤ a1.toInt := wk_ltF c1
    replace hM := hM.neg (Int.not_lt.mpr c1)
    refine lv_iload_n hx hb dX12_isStreet_4 rfl (lv_at hl 1 rfl) ?_
    refine lv_aload_n hx hb dX12_isStreet_5 rfl (lv_at hl 0 rfl) ?_
    refine tk_getA hC hK hw hT hinX12 kM_at0 (by decide) rfl 26 (by decide) (List.mem_cons_of_mem _ uw_7_1) rfl rfl dX12_isStreet_6 ?_
    refine lv_iconst (v := 1) hx hb dX12_isStreet_9 (by decide) ?_
    refine tk_ialdR hC hK hw hT kM_at12 rfl (by decide) (by decide) dX12_isStreet_10 (fun x2 c3 Ex2 => ?_)
    have hox2 := c3
    replace hM := hM.rd (sI_at hox2)
    have bx2 : 0 ≤ x2.toInt ∧ x2.toInt ≤ 12 := (tk_rg1 rfl).mp Ex2
    have c3 : gi w0 12 1 = x2 := c3
    refine lv_icmp_ge (tgt := 18) hx hb dX12_isStreet_11 (by decide) (fun c4 => ?_) (fun c4 => ?_)
    · have c4 : x2.toInt ≤ a1.toInt := wk_le.mp c4
      replace hM := hM.pos c4
      exact J18  s.heap locs ls    hw  hM (lv_sub hl [0, 1] rfl)
    · have c4 : a1.toInt < x2.toInt := wk_leF c4
      replace hM := hM.neg (Int.not_le.mpr c4)
      refine lv_iconst (v := 1) hx hb dX12_isStreet_14 (by decide) ?_
      refine lv_goto (tgt := 19) hx hb dX12_isStreet_15 (by decide) ?_
      exact tk_zret hC hr rfl hlocks hK ⟨rfl, hM.ret (by decide), (Or.inr ⟨rfl, (show 0 ≤ a1.toInt by first | with_reducible assumption | omega), (show a1.toInt ≤ 11 by first | with_reducible assumption | omega), ⟨x2, c3, (show 1 ≤ x2.toInt by first | with_reducible assumption | omega), (show x2.toInt ≤ 12 by first | with_reducible assumption | omega)⟩⟩)⟩ hw dX12_isStreet_19
abbrev Pz_X12_in_11 (ad : Nat → Nat) (cy : Nat → ClassId) (B : Int) (qr : Nat) (s1 : Int) (a0 : Int64) (w0 : va_W) : Int32 → va_W → Prop := fun r u => w0 = u ∧ Ev (fun n => m_X12_in n a0.toInt 0 9 (sI w0)) (r.toInt, sI w0) ∧ ((r = 0) ∨ (r = 1 ∧ 0 ≤ a0.toInt ∧ a0.toInt ≤ 9))
set_option maxHeartbeats 4000000 in
set_option maxRecDepth 100000 in
theorem kz_X12_in_11 (l : Launch) (adK adV : Nat → Nat) (dC : Nat → ClassId) (dI : Nat → Nat → Nat) (cy : Nat → ClassId) (ad : Nat → Nat) (B : Int) (hB0 : 100000 ≤ B) (hB1 : B ≤ 1073741824) (qr : Nat) (s1 : Int)  (a0 : Int64) (ra0 : (-2147483648) ≤ a0.toInt) (ta0 : a0.toInt ≤ 2147483647) (w0 : va_W) (sz : Nat) (hT : TW ksM ad cy B qr 12 w0)  : Met l yX12_in (wu yX12_in cX12_in 6 (some .boolean)) ({ frames := 1, cells := 0, slots := 0, locals := 12 }) (va_Pc [.long a0, .long 0, .long 9] (wpreS adK adV dC dI cy sz w0)) (va_Qi (Pz_X12_in_11 ad cy B qr s1 a0 w0) (fun u : va_W => wpost dC dI cy (va_A w0 sz) u) (va_A w0 sz)) 0 0 (va_A w0 sz) := by
  refine Met.ofW (cc := cX12_in) (maxL := 6) (ret := (some .boolean)) (by decide) rfl ?_
  intro p e s m args below meth c s₁ Bk hml hv
  obtain ⟨rfl, ⟨hsz, hP, hK, hD0⟩, hE, hSR⟩ := hv
  have hx := Bk.exec
  have hb := Bk.bytes
  have hr := Bk.returns
  have hlocks := Bk.notSynchronized
  have hC : CallFix p m c cX12_in 6 s _ (wu yX12_in cX12_in 6 (some .boolean)) RX12 := ⟨hx, hb, hml, findClass_of_methodNamed Bk.named, atoms_spec (ws := (wu yX12_in cX12_in 6 (some .boolean))) Bk.pre⟩
  subst hsz
  have hD := hD0.self (sz := s.heap.size)
  generalize hAe : va_A w0 s.heap.size = A at hD hE ⊢
  have hA : ∀ q : Nat, s.heap.size ≤ q → A q := fun q h => by rw [← hAe]; exact Or.inr h
  have hw : Wd dC dI A s.heap s.heap [] w0 := ⟨hP, hD, va_S.rf⟩
  have hF : FE ksM ([] : List (Nat × Nat × Nat)) w0 w0 := FE.rf
  have hl := lv_entry ([.long a0, .long 0, .long 9]) (n := 6) (Nat.le_of_ble_eq_true rfl)
  rw [lg_entry_eq]
  generalize (lg_sl ([.long a0, .long 0, .long 9]) ++ List.replicate (6 - (lg_sl ([.long a0, .long 0, .long 9])).length) Slot.unset).toArray = ls at hl ⊢
  have hl : lv_has ls 6 [(0, .long a0), (2, .long 0), (4, .long 9)] := hl
  generalize hloc : ([] : List Loc) = locs at hw ⊢
  have J17 : ∀ (H : Heap) (locs : List Loc) (ls : Array Slot), (-2147483648) ≤ a0.toInt → a0.toInt ≤ 2147483647 → Wd dC dI A s.heap H locs w0 → TT (fun n => m_X12_in n a0.toInt 0 9 (sI w0)) (fun n => b_X12_in_17 n (sI w0)) → lv_has ls 6 [(0, .long a0), (2, .long 0), (4, .long 9)] → W p l e ({ frames := 1, cells := 0, slots := 0, locals := 12 }) s m (List.toArray [.long a0, .long 0, .long 9]) below meth c H locs 0 0 (MQ below (va_Qi (Pz_X12_in_11 ad cy B qr s1 a0 w0) (fun u : va_W => wpost dC dI cy A u) A) (List.toArray [.long a0, .long 0, .long 9]) s 0 0 A) (F0 m 17 ls []) := by
    intro H locs ls r1 t2 hw hM hl
    refine lv_iconst (v := 0) hx hb dX12_in_17 (by decide) ?_
    exact tk_zret hC hr rfl hlocks hK ⟨rfl, hM.ret (by decide), (Or.inl rfl)⟩ hw dX12_in_18
  have hM : TT (fun n => m_X12_in n a0.toInt 0 9 (sI w0)) (fun n => m_X12_in n a0.toInt 0 9 (sI w0)) := TT.rf
  refine lv_lload_n hx hb dX12_in_0 rfl (lv_at hl 0 rfl) ?_
  refine lv_lload_n hx hb dX12_in_1 rfl (lv_at hl 1 rfl) ?_
  refine W.lcmp hx hb dX12_in_2 ?_
  refine lv_if_lt (tgt := 17) hx hb dX12_in_3 (by decide) (fun c3 => ?_) (fun c3 => ?_)
  · have c3 : a0.toInt < (0 : Int) := wk_cltT c3
    replace hM := hM.pos c3
    exact J17  s.heap locs ls  (show (-2147483648) ≤ a0.toInt from ra0) (show a0.toInt ≤ 2147483647 from ta0)  hw  hM (lv_sub hl [0, 1, 2] rfl)
  · have c3 : (0 : Int) ≤ a0.toInt := wk_cltF c3
    replace hM := hM.neg (Int.not_lt.mpr c3)
    refine lv_lload_n hx hb dX12_in_6 rfl (lv_at hl 0 rfl) ?_
    refine lv_lload hx hb dX12_in_7 (lv_at hl 2 rfl) ?_
    refine W.lcmp hx hb dX12_in_9 ?_
    refine lv_if_gt (tgt := 17) hx hb dX12_in_10 (by decide) (fun c4 => ?_) (fun c4 => ?_)
    · have c4 : (9 : Int) < a0.toInt := wk_cgtT c4
      replace hM := hM.pos c4
      exact J17  s.heap locs ls  (show (-2147483648) ≤ a0.toInt from ra0) (show a0.toInt ≤ 2147483647 from ta0)  hw  hM (lv_sub hl [0, 1, 2] rfl)
    · have c4 : a0.toInt ≤ (9 : Int) := wk_cgtF c4
      replace hM := hM.neg (Int.not_lt.mpr c4)
      refine lv_iconst (v := 1) hx hb dX12_in_13 (by decide) ?_
      refine lv_goto (tgt := 18) hx hb dX12_in_14 (by decide) ?_
      exact tk_zret hC hr rfl hlocks hK ⟨rfl, hM.ret (by decide), (Or.inr ⟨rfl, (show 0 ≤ a0.toInt by first | with_reducible assumption | omega), (show a0.toInt ≤ 9 by first | with_reducible assumption | omega)⟩)⟩ hw dX12_in_18
abbrev Pz_X12_streetOf_1 (ad : Nat → Nat) (cy : Nat → ClassId) (B : Int) (qr : Nat) (s1 : Int) (a1 : Int32) (a2 : Int32) (w0 : va_W) : Int32 → va_W → Prop := fun r u => w0 = u ∧ Ev (fun n => m_X12_streetOf n 0 a1.toInt a2.toInt (sI w0)) (r.toInt, sI w0) ∧ ((0 ≤ r.toInt ∧ r.toInt ≤ 9 ∧ gi u 12 (10 * a1.toInt + 1 * a2.toInt + 10).toNat = r))
set_option maxHeartbeats 4000000 in
set_option maxRecDepth 100000 in
theorem kz_X12_streetOf_1 (l : Launch) (adK adV : Nat → Nat) (dC : Nat → ClassId) (dI : Nat → Nat → Nat) (cy : Nat → ClassId) (ad : Nat → Nat) (B : Int) (hB0 : 100000 ≤ B) (hB1 : B ≤ 1073741824) (qr : Nat) (s1 : Int)  (a1 : Int32) (ra1 : 0 ≤ a1.toInt) (ta1 : a1.toInt ≤ 11) (a2 : Int32) (ra2 : 0 ≤ a2.toInt) (ta2 : a2.toInt ≤ 9) (w0 : va_W) (sz : Nat) (hT : TW ksM ad cy B qr 12 w0)  : Met l yX12_streetOf (wu yX12_streetOf cX12_streetOf 3 (some .int)) ({ frames := 1, cells := 0, slots := 0, locals := 12 }) (va_Pc [.ref (ad 0), .int a1, .int a2] (wpreS adK adV dC dI cy sz w0)) (va_Qi (Pz_X12_streetOf_1 ad cy B qr s1 a1 a2 w0) (fun u : va_W => wpost dC dI cy (va_A w0 sz) u) (va_A w0 sz)) 0 0 (va_A w0 sz) := by
  refine Met.ofW (cc := cX12_streetOf) (maxL := 3) (ret := (some .int)) (by decide) rfl ?_
  intro p e s m args below meth c s₁ Bk hml hv
  obtain ⟨rfl, ⟨hsz, hP, hK, hD0⟩, hE, hSR⟩ := hv
  have hx := Bk.exec
  have hb := Bk.bytes
  have hr := Bk.returns
  have hlocks := Bk.notSynchronized
  have hC : CallFix p m c cX12_streetOf 3 s _ (wu yX12_streetOf cX12_streetOf 3 (some .int)) RX12 := ⟨hx, hb, hml, findClass_of_methodNamed Bk.named, atoms_spec (ws := (wu yX12_streetOf cX12_streetOf 3 (some .int))) Bk.pre⟩
  subst hsz
  have hD := hD0.self (sz := s.heap.size)
  generalize hAe : va_A w0 s.heap.size = A at hD hE ⊢
  have hA : ∀ q : Nat, s.heap.size ≤ q → A q := fun q h => by rw [← hAe]; exact Or.inr h
  have hw : Wd dC dI A s.heap s.heap [] w0 := ⟨hP, hD, va_S.rf⟩
  have hF : FE ksM ([] : List (Nat × Nat × Nat)) w0 w0 := FE.rf
  have hl := lv_entry ([.ref (ad 0), .int a1, .int a2]) (n := 3) (Nat.le_of_ble_eq_true rfl)
  rw [lg_entry_eq]
  generalize (lg_sl ([.ref (ad 0), .int a1, .int a2]) ++ List.replicate (3 - (lg_sl ([.ref (ad 0), .int a1, .int a2])).length) Slot.unset).toArray = ls at hl ⊢
  have hl : lv_has ls 3 [(0, .ref (ad 0)), (1, .int a1), (2, .int a2)] := hl
  generalize hloc : ([] : List Loc) = locs at hw ⊢
  have hinX12 : ∀ w ∈ u_ws RX12 TX12 42, w ∈ (wu yX12_streetOf cX12_streetOf 3 (some .int)) := fun _ h => List.mem_cons_of_mem _ (up_71 h)
  have hM : TT (fun n => m_X12_streetOf n 0 a1.toInt a2.toInt (sI w0)) (fun n => m_X12_streetOf n 0 a1.toInt a2.toInt (sI w0)) := TT.rf
  refine lv_aload_n hx hb dX12_streetOf_0 rfl (lv_at hl 0 rfl) ?_
  refine tk_getA hC hK hw hT hinX12 kM_at0 (by decide) rfl 26 (by decide) (List.mem_cons_of_mem _ uw_7_1) rfl rfl dX12_streetOf_1 ?_
  refine lv_bipush (v := 10) hx hb dX12_streetOf_4 (by decide) ?_
  refine lv_bipush (v := 10) hx hb dX12_streetOf_6 (by decide) ?_
  refine lv_iload_n hx hb dX12_streetOf_8 rfl (lv_at hl 1 rfl) ?_
  refine lv_imul hx hb dX12_streetOf_9 ?_
  refine lv_topi (fun x1 ex1 => ?_)
  have ezx1 := ex1
  have ex1 : x1.toInt = (10 : Int) * a1.toInt := by rw [ex1]; exact wk_mul (show (-2147483648) ≤ (10 : Int) * a1.toInt by omega) (show (10 : Int) * a1.toInt ≤ 2147483647 by omega)
  replace hM := hM.lt ex1.symm
  refine lv_iadd hx hb dX12_streetOf_10 ?_
  refine lv_topi (fun x2 ex2 => ?_)
  have ezx2 := ex2
  have ex2 : x2.toInt = (10 : Int) + x1.toInt := by rw [ex2]; exact wk_add (show (-2147483648) ≤ (10 : Int) + x1.toInt by omega) (show (10 : Int) + x1.toInt ≤ 2147483647 by omega)
  replace hM := hM.lt ex2.symm
  refine lv_iload_n hx hb dX12_streetOf_11 rfl (lv_at hl 2 rfl) ?_
  refine lv_iadd hx hb dX12_streetOf_12 ?_
  refine lv_topi (fun x3 ex3 => ?_)
  have ezx3 := ex3
  have ex3 : x3.toInt = x2.toInt + a2.toInt := by rw [ex3]; exact wk_add (show (-2147483648) ≤ x2.toInt + a2.toInt by omega) (show x2.toInt + a2.toInt ≤ 2147483647 by omega)
  replace hM := hM.lt ex3.symm
  refine tk_ialdR hC hK hw hT kM_at12 rfl (show 0 ≤ x3.toInt by first | with_reducible assumption | omega) (show x3.toInt < 296 by first | with_reducible assumption | omega) dX12_streetOf_13 (fun x4 c5 Ex4 => ?_)
  have hox4 := c5
  have c5 : gi w0 12 (10 * a1.toInt + 1 * a2.toInt + 10).toNat = x4 := (congrArg (gi w0 12) (congrArg Int.toNat (show 10 * a1.toInt + 1 * a2.toInt + 10 = x3.toInt by first | exact Int.le_antisymm (by omega) (by omega) | omega))).trans c5
  replace hM := hM.rd (sI_at hox4)
  have bx4 := tk_rgI rfl 10 1 120 0 9 (by decide +kernel) ⟨(x3.toInt - 10).toNat, by omega, show x3.toInt.toNat = 10 + 1 * (x3.toInt - 10).toNat by omega⟩ Ex4
  exact tk_iret hC hr hlocks hK ⟨rfl, hM.ret rfl, ⟨(show 0 ≤ x4.toInt by first | with_reducible assumption | omega), (show x4.toInt ≤ 9 by first | with_reducible assumption | omega), c5⟩⟩ hw dX12_streetOf_14
abbrev Pz_X12_street_1 (ad : Nat → Nat) (cy : Nat → ClassId) (B : Int) (qr : Nat) (s1 : Int) (a1 : Int32) (a2 : Int32) (w0 : va_W) : Int32 → va_W → Prop := fun r u => w0 = u ∧ Ev (fun n => m_X12_street n 0 a1.toInt a2.toInt (sI w0)) (r.toInt, sI w0) ∧ ((0 ≤ r.toInt ∧ r.toInt ≤ 9 ∧ 0 ≤ a1.toInt ∧ a1.toInt ≤ 11 ∧ 0 ≤ a2.toInt ∧ a2.toInt ≤ 9 ∧ (∃ y : Int32, gi u 12 1 = y ∧ 1 ≤ y.toInt ∧ y.toInt ≤ 12)) ∨ (r = (-1)))
set_option maxHeartbeats 4000000 in
set_option maxRecDepth 100000 in
theorem kz_X12_street_1 (l : Launch) (adK adV : Nat → Nat) (dC : Nat → ClassId) (dI : Nat → Nat → Nat) (cy : Nat → ClassId) (ad : Nat → Nat) (B : Int) (hB0 : 100000 ≤ B) (hB1 : B ≤ 1073741824) (qr : Nat) (s1 : Int)  (a1 : Int32) (a2 : Int32) (w0 : va_W) (sz : Nat) (hT : TW ksM ad cy B qr 12 w0)  : Met l yX12_street (wu yX12_street cX12_street 3 (some .int)) ({ frames := 2, cells := 0, slots := 0, locals := 37 }) (va_Pc [.ref (ad 0), .int a1, .int a2] (wpreS adK adV dC dI cy sz w0)) (va_Qi (Pz_X12_street_1 ad cy B qr s1 a1 a2 w0) (fun u : va_W => wpost dC dI cy (va_A w0 sz) u) (va_A w0 sz)) 0 0 (va_A w0 sz) := by
  refine Met.ofW (cc := cX12_street) (maxL := 3) (ret := (some .int)) (by decide) rfl ?_
  intro p e s m args below meth c s₁ Bk hml hv
  obtain ⟨rfl, ⟨hsz, hP, hK, hD0⟩, hE, hSR⟩ := hv
  have hx := Bk.exec
  have hb := Bk.bytes
  have hr := Bk.returns
  have hlocks := Bk.notSynchronized
  have hC : CallFix p m c cX12_street 3 s _ (wu yX12_street cX12_street 3 (some .int)) RX12 := ⟨hx, hb, hml, findClass_of_methodNamed Bk.named, atoms_spec (ws := (wu yX12_street cX12_street 3 (some .int))) Bk.pre⟩
  subst hsz
  have hD := hD0.self (sz := s.heap.size)
  generalize hAe : va_A w0 s.heap.size = A at hD hE ⊢
  have hA : ∀ q : Nat, s.heap.size ≤ q → A q := fun q h => by rw [← hAe]; exact Or.inr h
  have hw : Wd dC dI A s.heap s.heap [] w0 := ⟨hP, hD, va_S.rf⟩
  have hF : FE ksM ([] : List (Nat × Nat × Nat)) w0 w0 := FE.rf
  have hl := lv_entry ([.ref (ad 0), .int a1, .int a2]) (n := 3) (Nat.le_of_ble_eq_true rfl)
  rw [lg_entry_eq]
  generalize (lg_sl ([.ref (ad 0), .int a1, .int a2]) ++ List.replicate (3 - (lg_sl ([.ref (ad 0), .int a1, .int a2])).length) Slot.unset).toArray = ls at hl ⊢
  have hl : lv_has ls 3 [(0, .ref (ad 0)), (1, .int a1), (2, .int a2)] := hl
  generalize hloc : ([] : List Loc) = locs at hw ⊢
  have J29 : ∀ (H : Heap) (locs : List Loc) (ls : Array Slot), Wd dC dI A s.heap H locs w0 → TT (fun n => m_X12_street n 0 a1.toInt a2.toInt (sI w0)) (fun n => b_X12_street_29 n 0 (sI w0)) → lv_has ls 3 [(0, .ref (ad 0)), (1, .int a1), (2, .int a2)] → W p l e ({ frames := 2, cells := 0, slots := 0, locals := 37 }) s m (List.toArray [.ref (ad 0), .int a1, .int a2]) below meth c H locs 0 0 (MQ below (va_Qi (Pz_X12_street_1 ad cy B qr s1 a1 a2 w0) (fun u : va_W => wpost dC dI cy A u) A) (List.toArray [.ref (ad 0), .int a1, .int a2]) s 0 0 A) (F0 m 29 ls []) := by
    intro H locs ls hw hM hl
    refine lv_iconst (v := (-1)) hx hb dX12_street_29 (by decide) ?_
    exact tk_iret hC hr hlocks hK ⟨rfl, hM.ret (by decide), (Or.inr rfl)⟩ hw dX12_street_30
  have hM : TT (fun n => m_X12_street n 0 a1.toInt a2.toInt (sI w0)) (fun n => m_X12_street n 0 a1.toInt a2.toInt (sI w0)) := TT.rf
  refine lv_aload_n hx hb dX12_street_0 rfl (lv_at hl 0 rfl) ?_
  refine lv_iload_n hx hb dX12_street_1 rfl (lv_at hl 1 rfl) ?_
  refine tk_Vi hC hK hw hT hA hE hSR kM_at0 (by decide) rfl (kz_X12_isStreet_1 l adK adV dC dI cy ad B hB0 (Int.le_trans hB1 (by decide)) qr s1   a1 w0 s.heap.size hT ) (cwV 1 hC.2.2.2.2 uV_RX12_323 rfl rfl rfl (by decide +kernel) ⟨Nat.le_of_ble_eq_true rfl, Nat.le_of_ble_eq_true rfl⟩) rfl hl.1 rfl (Nat.le_of_ble_eq_true rfl) dX12_street_2 (fun r1 w3 H locs hp2 hw => ?_)
  obtain ⟨rfl, hv10, hg9⟩ := hp2
  rcases hg9 with rfl | ⟨rfl, g5, g6, ⟨x7, c8, rx7, tx7⟩⟩
  · replace hM := hM.call (r' := 0) hv10 (by decide)
    refine lv_if_eq (tgt := 29) hx hb dX12_street_5 (by decide) (fun _ => ?_) (fun c => absurd (by decide) c)
    replace hM := hM.pos (by decide)
    exact J29  H locs ls    hw  hM (lv_sub hl [0, 1, 2] rfl)
  · replace hM := hM.call (r' := 1) hv10 (by decide)
    refine lv_if_eq (tgt := 29) hx hb dX12_street_5 (by decide) (fun c => absurd c (by decide)) (fun _ => ?_)
    replace hM := hM.neg (by decide)
    refine lv_iload_n hx hb dX12_street_8 rfl (lv_at hl 2 rfl) ?_
    refine lv_i2l hx hb dX12_street_9 rfl ?_
    refine lv_topl (fun x11 ex11 => ?_)
    have ex11 : x11.toInt = a2.toInt := by rw [ex11]; exact wk_i2l _
    have bx11 := wk_i32 a2
    replace hM := hM.lt ex11.symm
    refine lv_lconst (v := 0) hx hb dX12_street_10 (by decide) ?_
    refine lv_ldc2 (v := 9) hx hb hC.2.2.2.1 (hC.2.2.2.2 _ (List.mem_cons_of_mem _ uw_30_16)) dX12_street_11 ?_
    refine tk_Si hC hK hw hT hA hE hSR (kz_X12_in_11 l adK adV dC dI cy ad B hB0 (Int.le_trans hB1 (by decide)) qr s1   x11 (show (-2147483648) ≤ x11.toInt by first | with_reducible assumption | omega) (show x11.toInt ≤ 2147483647 by first | with_reducible assumption | omega) w0 H.size hT ) (va_cwS 3 hC.2.2.2.2 uS_RX12_122 rfl rfl rfl (by decide +kernel) ⟨Nat.le_of_ble_eq_true rfl, Nat.le_of_ble_eq_true rfl⟩) rfl hl.1 rfl (Nat.le_of_ble_eq_true rfl) dX12_street_14 (fun r12 w14 H locs hp13 hw => ?_)
    obtain ⟨rfl, hv19, hg18⟩ := hp13
    rcases hg18 with rfl | ⟨rfl, g16, g17⟩
    · replace hM := hM.call (r' := 0) hv19 (by decide)
      refine lv_if_eq (tgt := 29) hx hb dX12_street_17 (by decide) (fun _ => ?_) (fun c => absurd (by decide) c)
      replace hM := hM.pos (by decide)
      exact J29  H locs ls    hw  hM (lv_sub hl [0, 1, 2] rfl)
    · replace hM := hM.call (r' := 1) hv19 (by decide)
      refine lv_if_eq (tgt := 29) hx hb dX12_street_17 (by decide) (fun c => absurd c (by decide)) (fun _ => ?_)
      replace hM := hM.neg (by decide)
      refine lv_aload_n hx hb dX12_street_20 rfl (lv_at hl 0 rfl) ?_
      refine lv_iload_n hx hb dX12_street_21 rfl (lv_at hl 1 rfl) ?_
      refine lv_iload_n hx hb dX12_street_22 rfl (lv_at hl 2 rfl) ?_
      refine tk_Vi hC hK hw hT hA hE hSR kM_at0 (by decide) rfl (kz_X12_streetOf_1 l adK adV dC dI cy ad B hB0 (Int.le_trans hB1 (by decide)) qr s1   a1 (show 0 ≤ a1.toInt by first | with_reducible assumption | omega) (show a1.toInt ≤ 11 by first | with_reducible assumption | omega) a2 (show 0 ≤ a2.toInt by first | with_reducible assumption | omega) (show a2.toInt ≤ 9 by first | with_reducible assumption | omega) w0 H.size hT ) (cwV 2 hC.2.2.2.2 uV_RX12_300 rfl rfl rfl (by decide +kernel) ⟨Nat.le_of_ble_eq_true rfl, Nat.le_of_ble_eq_true rfl⟩) rfl hl.1 rfl (Nat.le_of_ble_eq_true rfl) dX12_street_23 (fun r20 w22 H locs hp21 hw => ?_)
      obtain ⟨rfl, hv28, hg27⟩ := hp21
      obtain ⟨g24, g25, c26⟩ := hg27
      replace hM := hM.call hv28 rfl
      refine lv_goto (tgt := 30) hx hb dX12_street_26 (by decide) ?_
      exact tk_iret hC hr hlocks hK ⟨rfl, hM.ret rfl, (Or.inl ⟨(show 0 ≤ r20.toInt by first | with_reducible assumption | omega), (show r20.toInt ≤ 9 by first | with_reducible assumption | omega), (show 0 ≤ a1.toInt by first | with_reducible assumption | omega), (show a1.toInt ≤ 11 by first | with_reducible assumption | omega), (show 0 ≤ a2.toInt by first | with_reducible assumption | omega), (show a2.toInt ≤ 9 by first | with_reducible assumption | omega), ⟨x7, c8, (show 1 ≤ x7.toInt by first | with_reducible assumption | omega), (show x7.toInt ≤ 12 by first | with_reducible assumption | omega)⟩⟩)⟩ hw dX12_street_30
abbrev Pz_X12_streetOf_2 (ad : Nat → Nat) (cy : Nat → ClassId) (B : Int) (qr : Nat) (s1 : Int) (a1 : Int32) (a2 : Int32) (w0 : va_W) : Int32 → va_W → Prop := fun r u => w0 = u ∧ Ev (fun n => m_X12_streetOf n 0 a1.toInt a2.toInt (sI w0)) (r.toInt, sI w0) ∧ ((0 ≤ r.toInt ∧ r.toInt ≤ 9 ∧ gi u 12 (10 * a1.toInt + 1 * a2.toInt + 10).toNat = r))
set_option maxHeartbeats 4000000 in
set_option maxRecDepth 100000 in
theorem kz_X12_streetOf_2 (l : Launch) (adK adV : Nat → Nat) (dC : Nat → ClassId) (dI : Nat → Nat → Nat) (cy : Nat → ClassId) (ad : Nat → Nat) (B : Int) (hB0 : 100000 ≤ B) (hB1 : B ≤ 1073741824) (qr : Nat) (s1 : Int)  (a1 : Int32) (ra1 : 0 ≤ a1.toInt) (ta1 : a1.toInt ≤ 11) (a2 : Int32) (ra2 : 3 ≤ a2.toInt) (ta2 : a2.toInt ≤ 9) (w0 : va_W) (sz : Nat) (hT : TW ksM ad cy B qr 12 w0)  : Met l yX12_streetOf (wu yX12_streetOf cX12_streetOf 3 (some .int)) ({ frames := 1, cells := 0, slots := 0, locals := 12 }) (va_Pc [.ref (ad 0), .int a1, .int a2] (wpreS adK adV dC dI cy sz w0)) (va_Qi (Pz_X12_streetOf_2 ad cy B qr s1 a1 a2 w0) (fun u : va_W => wpost dC dI cy (va_A w0 sz) u) (va_A w0 sz)) 0 0 (va_A w0 sz) := by
  refine Met.ofW (cc := cX12_streetOf) (maxL := 3) (ret := (some .int)) (by decide) rfl ?_
  intro p e s m args below meth c s₁ Bk hml hv
  obtain ⟨rfl, ⟨hsz, hP, hK, hD0⟩, hE, hSR⟩ := hv
  have hx := Bk.exec
  have hb := Bk.bytes
  have hr := Bk.returns
  have hlocks := Bk.notSynchronized
  have hC : CallFix p m c cX12_streetOf 3 s _ (wu yX12_streetOf cX12_streetOf 3 (some .int)) RX12 := ⟨hx, hb, hml, findClass_of_methodNamed Bk.named, atoms_spec (ws := (wu yX12_streetOf cX12_streetOf 3 (some .int))) Bk.pre⟩
  subst hsz
  have hD := hD0.self (sz := s.heap.size)
  generalize hAe : va_A w0 s.heap.size = A at hD hE ⊢
  have hA : ∀ q : Nat, s.heap.size ≤ q → A q := fun q h => by rw [← hAe]; exact Or.inr h
  have hw : Wd dC dI A s.heap s.heap [] w0 := ⟨hP, hD, va_S.rf⟩
  have hF : FE ksM ([] : List (Nat × Nat × Nat)) w0 w0 := FE.rf
  have hl := lv_entry ([.ref (ad 0), .int a1, .int a2]) (n := 3) (Nat.le_of_ble_eq_true rfl)
  rw [lg_entry_eq]
  generalize (lg_sl ([.ref (ad 0), .int a1, .int a2]) ++ List.replicate (3 - (lg_sl ([.ref (ad 0), .int a1, .int a2])).length) Slot.unset).toArray = ls at hl ⊢
  have hl : lv_has ls 3 [(0, .ref (ad 0)), (1, .int a1), (2, .int a2)] := hl
  generalize hloc : ([] : List Loc) = locs at hw ⊢
  have hinX12 : ∀ w ∈ u_ws RX12 TX12 42, w ∈ (wu yX12_streetOf cX12_streetOf 3 (some .int)) := fun _ h => List.mem_cons_of_mem _ (up_71 h)
  have hM : TT (fun n => m_X12_streetOf n 0 a1.toInt a2.toInt (sI w0)) (fun n => m_X12_streetOf n 0 a1.toInt a2.toInt (sI w0)) := TT.rf
  refine lv_aload_n hx hb dX12_streetOf_0 rfl (lv_at hl 0 rfl) ?_
  refine tk_getA hC hK hw hT hinX12 kM_at0 (by decide) rfl 26 (by decide) (List.mem_cons_of_mem _ uw_7_1) rfl rfl dX12_streetOf_1 ?_
  refine lv_bipush (v := 10) hx hb dX12_streetOf_4 (by decide) ?_
  refine lv_bipush (v := 10) hx hb dX12_streetOf_6 (by decide) ?_
  refine lv_iload_n hx hb dX12_streetOf_8 rfl (lv_at hl 1 rfl) ?_
  refine lv_imul hx hb dX12_streetOf_9 ?_
  refine lv_topi (fun x1 ex1 => ?_)
  have ezx1 := ex1
  have ex1 : x1.toInt = (10 : Int) * a1.toInt := by rw [ex1]; exact wk_mul (show (-2147483648) ≤ (10 : Int) * a1.toInt by omega) (show (10 : Int) * a1.toInt ≤ 2147483647 by omega)
  replace hM := hM.lt ex1.symm
  refine lv_iadd hx hb dX12_streetOf_10 ?_
  refine lv_topi (fun x2 ex2 => ?_)
  have ezx2 := ex2
  have ex2 : x2.toInt = (10 : Int) + x1.toInt := by rw [ex2]; exact wk_add (show (-2147483648) ≤ (10 : Int) + x1.toInt by omega) (show (10 : Int) + x1.toInt ≤ 2147483647 by omega)
  replace hM := hM.lt ex2.symm
  refine lv_iload_n hx hb dX12_streetOf_11 rfl (lv_at hl 2 rfl) ?_
  refine lv_iadd hx hb dX12_streetOf_12 ?_
  refine lv_topi (fun x3 ex3 => ?_)
  have ezx3 := ex3
  have ex3 : x3.toInt = x2.toInt + a2.toInt := by rw [ex3]; exact wk_add (show (-2147483648) ≤ x2.toInt + a2.toInt by omega) (show x2.toInt + a2.toInt ≤ 2147483647 by omega)
  replace hM := hM.lt ex3.symm
  refine tk_ialdR hC hK hw hT kM_at12 rfl (show 0 ≤ x3.toInt by first | with_reducible assumption | omega) (show x3.toInt < 296 by first | with_reducible assumption | omega) dX12_streetOf_13 (fun x4 c5 Ex4 => ?_)
  have hox4 := c5
  have c5 : gi w0 12 (10 * a1.toInt + 1 * a2.toInt + 10).toNat = x4 := (congrArg (gi w0 12) (congrArg Int.toNat (show 10 * a1.toInt + 1 * a2.toInt + 10 = x3.toInt by first | exact Int.le_antisymm (by omega) (by omega) | omega))).trans c5
  replace hM := hM.rd (sI_at hox4)
  have bx4 := tk_rgI rfl 13 1 117 0 9 (by decide +kernel) ⟨(x3.toInt - 13).toNat, by omega, show x3.toInt.toNat = 13 + 1 * (x3.toInt - 13).toNat by omega⟩ Ex4
  exact tk_iret hC hr hlocks hK ⟨rfl, hM.ret rfl, ⟨(show 0 ≤ x4.toInt by first | with_reducible assumption | omega), (show x4.toInt ≤ 9 by first | with_reducible assumption | omega), c5⟩⟩ hw dX12_streetOf_14
abbrev Pz_X12_isTown_1 (ad : Nat → Nat) (cy : Nat → ClassId) (B : Int) (qr : Nat) (s1 : Int)  (w0 : va_W) : Int32 → va_W → Prop := fun r u => w0 = u ∧ Ev (fun n => m_X12_isTown n 0 (sI w0)) (r.toInt, sI w0) ∧ ((r = 0 ∧ (∃ y : Int32, gi u 12 0 = y ∧ 0 ≤ y.toInt ∧ y.toInt ≤ 0)) ∨ (r = 1 ∧ (∃ y : Int32, gi u 12 0 = y ∧ 1 ≤ y.toInt ∧ y.toInt ≤ 10)))
set_option maxHeartbeats 4000000 in
set_option maxRecDepth 100000 in
theorem kz_X12_isTown_1 (l : Launch) (adK adV : Nat → Nat) (dC : Nat → ClassId) (dI : Nat → Nat → Nat) (cy : Nat → ClassId) (ad : Nat → Nat) (B : Int) (hB0 : 100000 ≤ B) (hB1 : B ≤ 1073741824) (qr : Nat) (s1 : Int)   (w0 : va_W) (sz : Nat) (hT : TW ksM ad cy B qr 12 w0)  : Met l yX12_isTown (wu yX12_isTown cX12_isTown 1 (some .boolean)) ({ frames := 1, cells := 0, slots := 0, locals := 12 }) (va_Pc [.ref (ad 0)] (wpreS adK adV dC dI cy sz w0)) (va_Qi (Pz_X12_isTown_1 ad cy B qr s1  w0) (fun u : va_W => wpost dC dI cy (va_A w0 sz) u) (va_A w0 sz)) 0 0 (va_A w0 sz) := by
  refine Met.ofW (cc := cX12_isTown) (maxL := 1) (ret := (some .boolean)) (by decide) rfl ?_
  intro p e s m args below meth c s₁ Bk hml hv
  obtain ⟨rfl, ⟨hsz, hP, hK, hD0⟩, hE, hSR⟩ := hv
  have hx := Bk.exec
  have hb := Bk.bytes
  have hr := Bk.returns
  have hlocks := Bk.notSynchronized
  have hC : CallFix p m c cX12_isTown 1 s _ (wu yX12_isTown cX12_isTown 1 (some .boolean)) RX12 := ⟨hx, hb, hml, findClass_of_methodNamed Bk.named, atoms_spec (ws := (wu yX12_isTown cX12_isTown 1 (some .boolean))) Bk.pre⟩
  subst hsz
  have hD := hD0.self (sz := s.heap.size)
  generalize hAe : va_A w0 s.heap.size = A at hD hE ⊢
  have hA : ∀ q : Nat, s.heap.size ≤ q → A q := fun q h => by rw [← hAe]; exact Or.inr h
  have hw : Wd dC dI A s.heap s.heap [] w0 := ⟨hP, hD, va_S.rf⟩
  have hF : FE ksM ([] : List (Nat × Nat × Nat)) w0 w0 := FE.rf
  have hl := lv_entry ([.ref (ad 0)]) (n := 1) (Nat.le_of_ble_eq_true rfl)
  rw [lg_entry_eq]
  generalize (lg_sl ([.ref (ad 0)]) ++ List.replicate (1 - (lg_sl ([.ref (ad 0)])).length) Slot.unset).toArray = ls at hl ⊢
  have hl : lv_has ls 1 [(0, .ref (ad 0))] := hl
  generalize hloc : ([] : List Loc) = locs at hw ⊢
  have hinX12 : ∀ w ∈ u_ws RX12 TX12 42, w ∈ (wu yX12_isTown cX12_isTown 1 (some .boolean)) := fun _ h => List.mem_cons_of_mem _ (up_71 h)
  have hM : TT (fun n => m_X12_isTown n 0 (sI w0)) (fun n => m_X12_isTown n 0 (sI w0)) := TT.rf
  refine lv_aload_n hx hb dX12_isTown_0 rfl (lv_at hl 0 rfl) ?_
  refine tk_getA hC hK hw hT hinX12 kM_at0 (by decide) rfl 26 (by decide) (List.mem_cons_of_mem _ uw_7_1) rfl rfl dX12_isTown_1 ?_
  refine lv_iconst (v := 0) hx hb dX12_isTown_4 (by decide) ?_
  refine tk_ialdR hC hK hw hT kM_at12 rfl (by decide) (by decide) dX12_isTown_5 (fun x1 c2 Ex1 => ?_)
  have hox1 := c2
  replace hM := hM.rd (sI_at hox1)
  have bx1 := tk_rgI rfl 0 1 1 0 10 (by decide +kernel) ⟨0, by decide, by decide⟩ Ex1
  have c2 : gi w0 12 0 = x1 := c2
  refine lv_if_le (tgt := 13) hx hb dX12_isTown_6 (by decide) (fun c3 => ?_) (fun c3 => ?_)
  · have c3 : x1.toInt ≤ (0 : Int) := wk_le.mp c3
    replace hM := hM.pos c3
    refine lv_iconst (v := 0) hx hb dX12_isTown_13 (by decide) ?_
    exact tk_zret hC hr rfl hlocks hK ⟨rfl, hM.ret (by decide), (Or.inl ⟨rfl, ⟨x1, c2, (show 0 ≤ x1.toInt by first | with_reducible assumption | omega), (show x1.toInt ≤ 0 by first | with_reducible assumption | omega)⟩⟩)⟩ hw dX12_isTown_14
  · have c3 : (0 : Int) < x1.toInt := wk_leF c3
    replace hM := hM.neg (Int.not_le.mpr c3)
    refine lv_iconst (v := 1) hx hb dX12_isTown_9 (by decide) ?_
    refine lv_goto (tgt := 14) hx hb dX12_isTown_10 (by decide) ?_
    exact tk_zret hC hr rfl hlocks hK ⟨rfl, hM.ret (by decide), (Or.inr ⟨rfl, ⟨x1, c2, (show 1 ≤ x1.toInt by first | with_reducible assumption | omega), (show x1.toInt ≤ 10 by first | with_reducible assumption | omega)⟩⟩)⟩ hw dX12_isTown_14
abbrev Pz_X12_in_12 (ad : Nat → Nat) (cy : Nat → ClassId) (B : Int) (qr : Nat) (s1 : Int) (a0 : Int64) (w0 : va_W) : Int32 → va_W → Prop := fun r u => w0 = u ∧ Ev (fun n => m_X12_in n a0.toInt 0 6 (sI w0)) (r.toInt, sI w0) ∧ ((r = 0) ∨ (r = 1 ∧ 0 ≤ a0.toInt ∧ a0.toInt ≤ 6))
set_option maxHeartbeats 4000000 in
set_option maxRecDepth 100000 in
theorem kz_X12_in_12 (l : Launch) (adK adV : Nat → Nat) (dC : Nat → ClassId) (dI : Nat → Nat → Nat) (cy : Nat → ClassId) (ad : Nat → Nat) (B : Int) (hB0 : 100000 ≤ B) (hB1 : B ≤ 1073741824) (qr : Nat) (s1 : Int)  (a0 : Int64) (ra0 : (-2147483648) ≤ a0.toInt) (ta0 : a0.toInt ≤ 2147483647) (w0 : va_W) (sz : Nat) (hT : TW ksM ad cy B qr 12 w0)  : Met l yX12_in (wu yX12_in cX12_in 6 (some .boolean)) ({ frames := 1, cells := 0, slots := 0, locals := 12 }) (va_Pc [.long a0, .long 0, .long 6] (wpreS adK adV dC dI cy sz w0)) (va_Qi (Pz_X12_in_12 ad cy B qr s1 a0 w0) (fun u : va_W => wpost dC dI cy (va_A w0 sz) u) (va_A w0 sz)) 0 0 (va_A w0 sz) := by
  refine Met.ofW (cc := cX12_in) (maxL := 6) (ret := (some .boolean)) (by decide) rfl ?_
  intro p e s m args below meth c s₁ Bk hml hv
  obtain ⟨rfl, ⟨hsz, hP, hK, hD0⟩, hE, hSR⟩ := hv
  have hx := Bk.exec
  have hb := Bk.bytes
  have hr := Bk.returns
  have hlocks := Bk.notSynchronized
  have hC : CallFix p m c cX12_in 6 s _ (wu yX12_in cX12_in 6 (some .boolean)) RX12 := ⟨hx, hb, hml, findClass_of_methodNamed Bk.named, atoms_spec (ws := (wu yX12_in cX12_in 6 (some .boolean))) Bk.pre⟩
  subst hsz
  have hD := hD0.self (sz := s.heap.size)
  generalize hAe : va_A w0 s.heap.size = A at hD hE ⊢
  have hA : ∀ q : Nat, s.heap.size ≤ q → A q := fun q h => by rw [← hAe]; exact Or.inr h
  have hw : Wd dC dI A s.heap s.heap [] w0 := ⟨hP, hD, va_S.rf⟩
  have hF : FE ksM ([] : List (Nat × Nat × Nat)) w0 w0 := FE.rf
  have hl := lv_entry ([.long a0, .long 0, .long 6]) (n := 6) (Nat.le_of_ble_eq_true rfl)
  rw [lg_entry_eq]
  generalize (lg_sl ([.long a0, .long 0, .long 6]) ++ List.replicate (6 - (lg_sl ([.long a0, .long 0, .long 6])).length) Slot.unset).toArray = ls at hl ⊢
  have hl : lv_has ls 6 [(0, .long a0), (2, .long 0), (4, .long 6)] := hl
  generalize hloc : ([] : List Loc) = locs at hw ⊢
  have J17 : ∀ (H : Heap) (locs : List Loc) (ls : Array Slot), (-2147483648) ≤ a0.toInt → a0.toInt ≤ 2147483647 → Wd dC dI A s.heap H locs w0 → TT (fun n => m_X12_in n a0.toInt 0 6 (sI w0)) (fun n => b_X12_in_17 n (sI w0)) → lv_has ls 6 [(0, .long a0), (2, .long 0), (4, .long 6)] → W p l e ({ frames := 1, cells := 0, slots := 0, locals := 12 }) s m (List.toArray [.long a0, .long 0, .long 6]) below meth c H locs 0 0 (MQ below (va_Qi (Pz_X12_in_12 ad cy B qr s1 a0 w0) (fun u : va_W => wpost dC dI cy A u) A) (List.toArray [.long a0, .long 0, .long 6]) s 0 0 A) (F0 m 17 ls []) := by
    intro H locs ls r1 t2 hw hM hl
    refine lv_iconst (v := 0) hx hb dX12_in_17 (by decide) ?_
    exact tk_zret hC hr rfl hlocks hK ⟨rfl, hM.ret (by decide), (Or.inl rfl)⟩ hw dX12_in_18
  have hM : TT (fun n => m_X12_in n a0.toInt 0 6 (sI w0)) (fun n => m_X12_in n a0.toInt 0 6 (sI w0)) := TT.rf
  refine lv_lload_n hx hb dX12_in_0 rfl (lv_at hl 0 rfl) ?_
  refine lv_lload_n hx hb dX12_in_1 rfl (lv_at hl 1 rfl) ?_
  refine W.lcmp hx hb dX12_in_2 ?_
  refine lv_if_lt (tgt := 17) hx hb dX12_in_3 (by decide) (fun c3 => ?_) (fun c3 => ?_)
  · have c3 : a0.toInt < (0 : Int) := wk_cltT c3
    replace hM := hM.pos c3
    exact J17  s.heap locs ls  (show (-2147483648) ≤ a0.toInt from ra0) (show a0.toInt ≤ 2147483647 from ta0)  hw  hM (lv_sub hl [0, 1, 2] rfl)
  · have c3 : (0 : Int) ≤ a0.toInt := wk_cltF c3
    replace hM := hM.neg (Int.not_lt.mpr c3)
    refine lv_lload_n hx hb dX12_in_6 rfl (lv_at hl 0 rfl) ?_
    refine lv_lload hx hb dX12_in_7 (lv_at hl 2 rfl) ?_
    refine W.lcmp hx hb dX12_in_9 ?_
    refine lv_if_gt (tgt := 17) hx hb dX12_in_10 (by decide) (fun c4 => ?_) (fun c4 => ?_)
    · have c4 : (6 : Int) < a0.toInt := wk_cgtT c4
      replace hM := hM.pos c4
      exact J17  s.heap locs ls  (show (-2147483648) ≤ a0.toInt from ra0) (show a0.toInt ≤ 2147483647 from ta0)  hw  hM (lv_sub hl [0, 1, 2] rfl)
    · have c4 : a0.toInt ≤ (6 : Int) := wk_cgtF c4
      replace hM := hM.neg (Int.not_lt.mpr c4)
      refine lv_iconst (v := 1) hx hb dX12_in_13 (by decide) ?_
      refine lv_goto (tgt := 18) hx hb dX12_in_14 (by decide) ?_
      exact tk_zret hC hr rfl hlocks hK ⟨rfl, hM.ret (by decide), (Or.inr ⟨rfl, (show 0 ≤ a0.toInt by first | with_reducible assumption | omega), (show a0.toInt ≤ 6 by first | with_reducible assumption | omega)⟩)⟩ hw dX12_in_18
abbrev Pz_X12_print_1 (ad : Nat → Nat) (cy : Nat → ClassId) (B : Int) (qr : Nat) (s1 : Int) (a1 : Int32) (w0 : va_W) : Int32 → va_W → Prop := fun r u => TW ksM ad cy B qr 12 u ∧ FE ksM [(71, 4, 4), (71, 168, 215)] w0 u ∧ Ev (fun n => m_X12_print n 0 a1.toInt (sI w0)) (r.toInt, sI u) ∧ ((r = (-2)) ∨ (0 ≤ r.toInt ∧ r.toInt ≤ 3 ∧ 0 ≤ a1.toInt ∧ a1.toInt ≤ 6 ∧ (∃ y : Int32, gi u 12 0 = y ∧ 1 ≤ y.toInt ∧ y.toInt ≤ 10) ∧ (∃ y : Int32, gi u 12 4 = y ∧ 1 ≤ y.toInt ∧ y.toInt ≤ 4)))
set_option maxHeartbeats 4000000 in
set_option maxRecDepth 100000 in
theorem kz_X12_print_1 (l : Launch) (adK adV : Nat → Nat) (dC : Nat → ClassId) (dI : Nat → Nat → Nat) (cy : Nat → ClassId) (ad : Nat → Nat) (B : Int) (hB0 : 100000 ≤ B) (hB1 : B ≤ 1073741824) (qr : Nat) (s1 : Int)  (a1 : Int32) (w0 : va_W) (sz : Nat) (hT : TW ksM ad cy B qr 12 w0)  : Met l yX12_print (wu yX12_print cX12_print 3 (some .int)) ({ frames := 2, cells := 0, slots := 0, locals := 37 }) (va_Pc [.ref (ad 0), .int a1] (wpreS adK adV dC dI cy sz w0)) (va_Qi (Pz_X12_print_1 ad cy B qr s1 a1 w0) (fun u : va_W => wpost dC dI cy (va_A w0 sz) u) (va_A w0 sz)) 0 0 (va_A w0 sz) := by
  refine Met.ofW (cc := cX12_print) (maxL := 3) (ret := (some .int)) (by decide) rfl ?_
  intro p e s m args below meth c s₁ Bk hml hv
  obtain ⟨rfl, ⟨hsz, hP, hK, hD0⟩, hE, hSR⟩ := hv
  have hx := Bk.exec
  have hb := Bk.bytes
  have hr := Bk.returns
  have hlocks := Bk.notSynchronized
  have hC : CallFix p m c cX12_print 3 s _ (wu yX12_print cX12_print 3 (some .int)) RX12 := ⟨hx, hb, hml, findClass_of_methodNamed Bk.named, atoms_spec (ws := (wu yX12_print cX12_print 3 (some .int))) Bk.pre⟩
  subst hsz
  have hD := hD0.self (sz := s.heap.size)
  generalize hAe : va_A w0 s.heap.size = A at hD hE ⊢
  have hA : ∀ q : Nat, s.heap.size ≤ q → A q := fun q h => by rw [← hAe]; exact Or.inr h
  have hw : Wd dC dI A s.heap s.heap [] w0 := ⟨hP, hD, va_S.rf⟩
  have hF : FE ksM [(71, 4, 4), (71, 168, 215)] w0 w0 := FE.rf
  have hl := lv_entry ([.ref (ad 0), .int a1]) (n := 3) (Nat.le_of_ble_eq_true rfl)
  rw [lg_entry_eq]
  generalize (lg_sl ([.ref (ad 0), .int a1]) ++ List.replicate (3 - (lg_sl ([.ref (ad 0), .int a1])).length) Slot.unset).toArray = ls at hl ⊢
  have hl : lv_has ls 3 [(0, .ref (ad 0)), (1, .int a1)] := hl
  generalize hloc : ([] : List Loc) = locs at hw ⊢
  have hinX12 : ∀ w ∈ u_ws RX12 TX12 42, w ∈ (wu yX12_print cX12_print 3 (some .int)) := fun _ h => List.mem_cons_of_mem _ (up_71 h)
  have J29 : ∀ (f29_12_0 : Int32) (H : Heap) (locs : List Loc) (ls : Array Slot) (w1 : va_W), 0 ≤ f29_12_0.toInt → f29_12_0.toInt ≤ 10 → Wd dC dI A s.heap H locs w1 → TW ksM ad cy B qr 12 w1 → FE ksM [(71, 4, 4), (71, 168, 215)] w0 w1 → gi w1 12 0 = f29_12_0 → TT (fun n => m_X12_print n 0 a1.toInt (sI w0)) (fun n => b_X12_print_29 (j_X12_print 0 n) n 0 (sI w1)) → lv_has ls 3 [(0, .ref (ad 0)), (1, .int a1)] → W p l e ({ frames := 2, cells := 0, slots := 0, locals := 37 }) s m (List.toArray [.ref (ad 0), .int a1]) below meth c H locs 0 0 (MQ below (va_Qi (Pz_X12_print_1 ad cy B qr s1 a1 w0) (fun u : va_W => wpost dC dI cy A u) A) (List.toArray [.ref (ad 0), .int a1]) s 0 0 A) (F0 m 29 ls []) := by
    intro f29_12_0 H locs ls w1 r2 t3 hw hT hF c4 hM hl
    refine lv_bipush (v := (-2)) hx hb dX12_print_29 (by decide) ?_
    exact tk_iret hC hr hlocks hK ⟨hT, hF, hM.ret (by decide), (Or.inl rfl)⟩ hw dX12_print_31
  have L34 : ∀ (n34 : Nat) (v34_2 : Int32) (f34_12_0 : Int32) (f34_12_4 : Int32) (H : Heap) (locs : List Loc) (ls : Array Slot) (w5 : va_W), 0 ≤ a1.toInt → a1.toInt ≤ 6 → 0 ≤ v34_2.toInt → v34_2.toInt ≤ 12 → 1 ≤ f34_12_0.toInt → f34_12_0.toInt ≤ 10 → 0 ≤ f34_12_4.toInt → f34_12_4.toInt ≤ 3 → (12 - v34_2.toInt).toNat < n34 → Wd dC dI A s.heap H locs w5 → TW ksM ad cy B qr 12 w5 → FE ksM [(71, 4, 4), (71, 168, 215)] w0 w5 → gi w5 12 0 = f34_12_0 → gi w5 12 4 = f34_12_4 → TT (fun n => m_X12_print n 0 a1.toInt (sI w0)) (fun n => j_X12_print 0 n 34 [a1.toInt, v34_2.toInt] (sI w5)) → lv_has ls 3 [(0, .ref (ad 0)), (1, .int a1), (2, .int v34_2)] → W p l e ({ frames := 2, cells := 0, slots := 0, locals := 37 }) s m (List.toArray [.ref (ad 0), .int a1]) below meth c H locs 0 0 (MQ below (va_Qi (Pz_X12_print_1 ad cy B qr s1 a1 w0) (fun u : va_W => wpost dC dI cy A u) A) (List.toArray [.ref (ad 0), .int a1]) s 0 0 A) (F0 m 34 ls []) := by
    intro n34
    induction n34 with
    | zero => intro v34_2 f34_12_0 f34_12_4 H locs ls w5 r6 t7 r8 t9 r10 t11 r13 t14 hm34 hw hT hF c12 c15 hM hl; omega
    | succ n34 ih34 =>
      intro v34_2 f34_12_0 f34_12_4 H locs ls w5 r6 t7 r8 t9 r10 t11 r13 t14 hm34 hw hT hF c12 c15 hM hl
      replace hM := hM.suc (fun _ => e_X12_print_34)
      refine lv_iload_n hx hb dX12_print_34 rfl (lv_at hl 2 rfl) ?_
      refine lv_aload_n hx hb dX12_print_35 rfl (lv_at hl 0 rfl) ?_
      refine tk_getA hC hK hw hT hinX12 kM_at0 (by decide) rfl 26 (by decide) (List.mem_cons_of_mem _ uw_7_1) rfl rfl dX12_print_36 ?_
      refine lv_iconst (v := 1) hx hb dX12_print_39 (by decide) ?_
      refine tk_ialdR hC hK hw hT kM_at12 rfl (by decide) (by decide) dX12_print_40 (fun x16 c17 Ex16 => ?_)
      have hox16 := c17
      replace hM := hM.rd (sI_at hox16)
      have bx16 : 0 ≤ x16.toInt ∧ x16.toInt ≤ 12 := (tk_rg1 rfl).mp Ex16
      have c17 : gi w5 12 1 = x16 := c17
      refine lv_icmp_ge (tgt := 78) hx hb dX12_print_41 (by decide) (fun c18 => ?_) (fun c18 => ?_)
      · have c18 : x16.toInt ≤ v34_2.toInt := wk_le.mp c18
        replace hM := hM.pos c18
        refine lv_aload_n hx hb dX12_print_78 rfl (lv_at hl 0 rfl) ?_
        refine tk_getA hC hK hw hT hinX12 kM_at0 (by decide) rfl 26 (by decide) (List.mem_cons_of_mem _ uw_7_1) rfl rfl dX12_print_79 ?_
        refine lv_iconst (v := 4) hx hb dX12_print_82 (by decide) ?_
        refine lv_dup2_11 hx hb dX12_print_83 rfl rfl ?_
        refine tk_ialdR hC hK hw hT kM_at12 rfl (by decide) (by decide) dX12_print_84 (fun x19 c20 Ex19 => ?_)
        have hox19 := c20
        refine wk_top f34_12_4 (c20.symm.trans c15) ?_
        replace hM := hM.rd ((sI_at hox19).trans (congrArg Int32.toInt (c20.symm.trans c15)))
        refine lv_iconst (v := 1) hx hb dX12_print_85 (by decide) ?_
        refine lv_iadd hx hb dX12_print_86 ?_
        refine lv_topi (fun x21 ex21 => ?_)
        have ezx21 := ex21
        have ex21 : x21.toInt = f34_12_4.toInt + (1 : Int) := by rw [ex21]; exact wk_add (show (-2147483648) ≤ f34_12_4.toInt + (1 : Int) by omega) (show f34_12_4.toInt + (1 : Int) ≤ 2147483647 by omega)
        replace hM := hM.lt ex21.symm
        refine tk_iastR hC hK hw hT kM_at12 (by decide) rfl (by decide) (by decide) (tk_rgS rfl 4 1 1 1 4 (by decide +kernel) ⟨0, by decide, by decide⟩ (show 1 ≤ x21.toInt by first | with_reducible assumption | omega) (show x21.toInt ≤ 4 by first | with_reducible assumption | omega)) dX12_print_87 (fun H locs w22 hw hT k24 c23 => ?_)
        replace hM := hM.wr (sI_up k24 c23)
        have hF := hF.put kM_at12 (inE_of (a := 4) (b := 4) (by decide) (by decide) (by decide)) k24
        have c25 := k24.gi (Or.inr (by decide)) c12
        have c26 := k24.gi (Or.inr (by decide)) c17
        have c23 : gi w22 12 4 = x21 := c23
        refine lv_aload_n hx hb dX12_print_88 rfl (lv_at hl 0 rfl) ?_
        refine tk_getA hC hK hw hT hinX12 kM_at0 (by decide) rfl 26 (by decide) (List.mem_cons_of_mem _ uw_7_1) rfl rfl dX12_print_89 ?_
        refine lv_iconst (v := 4) hx hb dX12_print_92 (by decide) ?_
        refine tk_ialdR hC hK hw hT kM_at12 rfl (by decide) (by decide) dX12_print_93 (fun x27 c28 Ex27 => ?_)
        have hox27 := c28
        refine wk_top x21 (c28.symm.trans c23) ?_
        replace hM := hM.rd ((sI_at hox27).trans (congrArg Int32.toInt (c28.symm.trans c23)))
        refine lv_iconst (v := 1) hx hb dX12_print_94 (by decide) ?_
        refine lv_isub hx hb dX12_print_95 ?_
        refine lv_topi (fun x29 ex29 => ?_)
        have ezx29 := ex29
        have ex29 : x29.toInt = x21.toInt - (1 : Int) := by rw [ex29]; exact wk_sub (show (-2147483648) ≤ x21.toInt - (1 : Int) by omega) (show x21.toInt - (1 : Int) ≤ 2147483647 by omega)
        replace hM := hM.lt ex29.symm
        exact tk_iret hC hr hlocks hK ⟨hT, hF, hM.ret rfl, (Or.inr ⟨(show 0 ≤ x29.toInt by first | with_reducible assumption | omega), (show x29.toInt ≤ 3 by first | with_reducible assumption | omega), (show 0 ≤ a1.toInt from r6), (show a1.toInt ≤ 6 from t7), ⟨f34_12_0, c25, (show 1 ≤ f34_12_0.toInt from r10), (show f34_12_0.toInt ≤ 10 from t11)⟩, ⟨x21, c23, (show 1 ≤ x21.toInt by first | with_reducible assumption | omega), (show x21.toInt ≤ 4 by first | with_reducible assumption | omega)⟩⟩)⟩ hw dX12_print_96
      · have c18 : v34_2.toInt < x16.toInt := wk_leF c18
        replace hM := hM.neg (Int.not_le.mpr c18)
        refine lv_aload_n hx hb dX12_print_44 rfl (lv_at hl 0 rfl) ?_
        refine tk_getA hC hK hw hT hinX12 kM_at0 (by decide) rfl 26 (by decide) (List.mem_cons_of_mem _ uw_7_1) rfl rfl dX12_print_45 ?_
        refine lv_sipush (v := 168) hx hb dX12_print_48 (by decide) ?_
        refine lv_bipush (v := 12) hx hb dX12_print_51 (by decide) ?_
        refine lv_aload_n hx hb dX12_print_53 rfl (lv_at hl 0 rfl) ?_
        refine tk_getA hC hK hw hT hinX12 kM_at0 (by decide) rfl 26 (by decide) (List.mem_cons_of_mem _ uw_7_1) rfl rfl dX12_print_54 ?_
        refine lv_iconst (v := 4) hx hb dX12_print_57 (by decide) ?_
        refine tk_ialdR hC hK hw hT kM_at12 rfl (by decide) (by decide) dX12_print_58 (fun x30 c31 Ex30 => ?_)
        have hox30 := c31
        refine wk_top f34_12_4 (c31.symm.trans c15) ?_
        replace hM := hM.rd ((sI_at hox30).trans (congrArg Int32.toInt (c31.symm.trans c15)))
        refine lv_imul hx hb dX12_print_59 ?_
        refine lv_topi (fun x32 ex32 => ?_)
        have ezx32 := ex32
        have ex32 : x32.toInt = (12 : Int) * f34_12_4.toInt := by rw [ex32]; exact wk_mul (show (-2147483648) ≤ (12 : Int) * f34_12_4.toInt by omega) (show (12 : Int) * f34_12_4.toInt ≤ 2147483647 by omega)
        replace hM := hM.lt ex32.symm
        refine lv_iadd hx hb dX12_print_60 ?_
        refine lv_topi (fun x33 ex33 => ?_)
        have ezx33 := ex33
        have ex33 : x33.toInt = (168 : Int) + x32.toInt := by rw [ex33]; exact wk_add (show (-2147483648) ≤ (168 : Int) + x32.toInt by omega) (show (168 : Int) + x32.toInt ≤ 2147483647 by omega)
        replace hM := hM.lt ex33.symm
        refine lv_iload_n hx hb dX12_print_61 rfl (lv_at hl 2 rfl) ?_
        refine lv_iadd hx hb dX12_print_62 ?_
        refine lv_topi (fun x34 ex34 => ?_)
        have ezx34 := ex34
        have ex34 : x34.toInt = x33.toInt + v34_2.toInt := by rw [ex34]; exact wk_add (show (-2147483648) ≤ x33.toInt + v34_2.toInt by omega) (show x33.toInt + v34_2.toInt ≤ 2147483647 by omega)
        replace hM := hM.lt ex34.symm
        refine lv_aload_n hx hb dX12_print_63 rfl (lv_at hl 0 rfl) ?_
        refine lv_iload_n hx hb dX12_print_64 rfl (lv_at hl 2 rfl) ?_
        refine lv_iconst (v := 3) hx hb dX12_print_65 (by decide) ?_
        refine lv_iload_n hx hb dX12_print_66 rfl (lv_at hl 1 rfl) ?_
        refine lv_iadd hx hb dX12_print_67 ?_
        refine lv_topi (fun x35 ex35 => ?_)
        have ezx35 := ex35
        have ex35 : x35.toInt = (3 : Int) + a1.toInt := by rw [ex35]; exact wk_add (show (-2147483648) ≤ (3 : Int) + a1.toInt by omega) (show (3 : Int) + a1.toInt ≤ 2147483647 by omega)
        replace hM := hM.lt ex35.symm
        refine tk_Vi hC hK hw hT hA hE hSR kM_at0 (by decide) rfl (kz_X12_streetOf_2 l adK adV dC dI cy ad B hB0 (Int.le_trans hB1 (by decide)) qr s1   v34_2 (show 0 ≤ v34_2.toInt from r8) (show v34_2.toInt ≤ 11 by first | with_reducible assumption | omega) x35 (show 3 ≤ x35.toInt by first | with_reducible assumption | omega) (show x35.toInt ≤ 9 by first | with_reducible assumption | omega) w5 H.size hT ) (cwV 2 hC.2.2.2.2 uV_RX12_300 rfl rfl rfl (by decide +kernel) ⟨Nat.le_of_ble_eq_true rfl, Nat.le_of_ble_eq_true rfl⟩) rfl hl.1 rfl (Nat.le_of_ble_eq_true rfl) dX12_print_68 (fun r36 w38 H locs hp37 hw => ?_)
        obtain ⟨rfl, hv44, hg43⟩ := hp37
        obtain ⟨g40, g41, c42⟩ := hg43
        replace hM := hM.call hv44 rfl
        refine tk_iastR hC hK hw hT kM_at12 (by decide) rfl (show 0 ≤ x34.toInt by first | with_reducible assumption | omega) (show x34.toInt < 296 by first | with_reducible assumption | omega) (tk_rgS rfl 168 1 48 0 9 (by decide +kernel) ⟨(x34.toInt - 168).toNat, by omega, show x34.toInt.toNat = 168 + 1 * (x34.toInt - 168).toNat by omega⟩ (show 0 ≤ r36.toInt by first | with_reducible assumption | omega) (show r36.toInt ≤ 9 by first | with_reducible assumption | omega)) dX12_print_71 (fun H locs w45 hw hT k47 c46 => ?_)
        replace hM := hM.wr (sI_up k47 c46)
        have hF := hF.put kM_at12 (inE_of (a := 168) (b := 215) (by decide) (show 168 ≤ x34.toInt.toNat by omega) (show x34.toInt.toNat ≤ 215 by omega)) k47
        have c48 := k47.gi (Or.inr (show 0 ≠ x34.toInt.toNat by omega)) c12
        have c49 := k47.gi (Or.inr (show 4 ≠ x34.toInt.toNat by omega)) c15
        have c50 := k47.gi (Or.inr (show 1 ≠ x34.toInt.toNat by omega)) c17
        obtain ⟨x51, ex51⟩ : ∃ y : Int32, y = v34_2 + Int32.ofInt 1 := ⟨_, rfl⟩
        have erx51 := ex51
        refine lv_iinc (v := x51) (lv' := [(2, .int x51), (0, .ref (ad 0)), (1, .int a1)]) hx hb dX12_print_72 hl (k := 2) rfl ex51.symm (by decide) rfl (fun ls hl => ?_)
        have ex51 : x51.toInt = v34_2.toInt + 1 := by rw [ex51]; exact wk_add (y := 1) (show -2147483648 ≤ v34_2.toInt + 1 by omega) (show v34_2.toInt + 1 ≤ 2147483647 by omega)
        replace hM := hM.lt ex51.symm
        refine lv_goto (tgt := 34) hx hb dX12_print_75 (by decide) ?_
        exact ih34 x51 f34_12_0 f34_12_4 H locs ls w45 (show 0 ≤ a1.toInt from r6) (show a1.toInt ≤ 6 from t7) (show 0 ≤ x51.toInt by first | with_reducible assumption | omega) (show x51.toInt ≤ 12 by first | with_reducible assumption | omega) (show 1 ≤ f34_12_0.toInt from r10) (show f34_12_0.toInt ≤ 10 from t11) (show 0 ≤ f34_12_4.toInt from r13) (show f34_12_4.toInt ≤ 3 from t14) (show (12 - x51.toInt).toNat < n34 by first | exact tn_lt hm34 (by omega) (by omega) | omega) hw hT hF c48 c49 hM (lv_sub hl [1, 2, 0] rfl)
  have hM : TT (fun n => m_X12_print n 0 a1.toInt (sI w0)) (fun n => m_X12_print n 0 a1.toInt (sI w0)) := TT.rf
  refine lv_aload_n hx hb dX12_print_0 rfl (lv_at hl 0 rfl) ?_
  refine tk_Vi hC hK hw hT hA hE hSR kM_at0 (by decide) rfl (kz_X12_isTown_1 l adK adV dC dI cy ad B hB0 (Int.le_trans hB1 (by decide)) qr s1    w0 s.heap.size hT ) (cwV 0 hC.2.2.2.2 uV_RX12_337 rfl rfl rfl (by decide +kernel) ⟨Nat.le_of_ble_eq_true rfl, Nat.le_of_ble_eq_true rfl⟩) rfl hl.1 rfl (Nat.le_of_ble_eq_true rfl) dX12_print_1 (fun r52 w54 H locs hp53 hw => ?_)
  obtain ⟨rfl, hv61, hg60⟩ := hp53
  rcases hg60 with ⟨rfl, ⟨x56, c57, rx56, tx56⟩⟩ | ⟨rfl, ⟨x58, c59, rx58, tx58⟩⟩
  · replace hM := hM.call (r' := 0) hv61 (by decide)
    refine lv_if_eq (tgt := 29) hx hb dX12_print_4 (by decide) (fun _ => ?_) (fun c => absurd (by decide) c)
    replace hM := hM.pos (by decide)
    exact J29 x56 H locs ls w0 (show 0 ≤ x56.toInt by first | with_reducible assumption | omega) (show x56.toInt ≤ 10 by first | with_reducible assumption | omega)  hw hT hF c57 hM (lv_sub hl [0, 1] rfl)
  · replace hM := hM.call (r' := 1) hv61 (by decide)
    refine lv_if_eq (tgt := 29) hx hb dX12_print_4 (by decide) (fun c => absurd c (by decide)) (fun _ => ?_)
    replace hM := hM.neg (by decide)
    refine lv_iload_n hx hb dX12_print_7 rfl (lv_at hl 1 rfl) ?_
    refine lv_i2l hx hb dX12_print_8 rfl ?_
    refine lv_topl (fun x62 ex62 => ?_)
    have ex62 : x62.toInt = a1.toInt := by rw [ex62]; exact wk_i2l _
    have bx62 := wk_i32 a1
    replace hM := hM.lt ex62.symm
    refine lv_lconst (v := 0) hx hb dX12_print_9 (by decide) ?_
    refine lv_ldc2 (v := 6) hx hb hC.2.2.2.1 (hC.2.2.2.2 _ (List.mem_cons_of_mem _ uw_34_6)) dX12_print_10 ?_
    refine tk_Si hC hK hw hT hA hE hSR (kz_X12_in_12 l adK adV dC dI cy ad B hB0 (Int.le_trans hB1 (by decide)) qr s1   x62 (show (-2147483648) ≤ x62.toInt by first | with_reducible assumption | omega) (show x62.toInt ≤ 2147483647 by first | with_reducible assumption | omega) w0 H.size hT ) (va_cwS 3 hC.2.2.2.2 uS_RX12_122 rfl rfl rfl (by decide +kernel) ⟨Nat.le_of_ble_eq_true rfl, Nat.le_of_ble_eq_true rfl⟩) rfl hl.1 rfl (Nat.le_of_ble_eq_true rfl) dX12_print_13 (fun r63 w65 H locs hp64 hw => ?_)
    obtain ⟨rfl, hv70, hg69⟩ := hp64
    rcases hg69 with rfl | ⟨rfl, g67, g68⟩
    · replace hM := hM.call (r' := 0) hv70 (by decide)
      refine lv_if_eq (tgt := 29) hx hb dX12_print_16 (by decide) (fun _ => ?_) (fun c => absurd (by decide) c)
      replace hM := hM.pos (by decide)
      exact J29 x58 H locs ls w0 (show 0 ≤ x58.toInt by first | with_reducible assumption | omega) (show x58.toInt ≤ 10 by first | with_reducible assumption | omega)  hw hT hF c59 hM (lv_sub hl [0, 1] rfl)
    · replace hM := hM.call (r' := 1) hv70 (by decide)
      refine lv_if_eq (tgt := 29) hx hb dX12_print_16 (by decide) (fun c => absurd c (by decide)) (fun _ => ?_)
      replace hM := hM.neg (by decide)
      refine lv_aload_n hx hb dX12_print_19 rfl (lv_at hl 0 rfl) ?_
      refine tk_getA hC hK hw hT hinX12 kM_at0 (by decide) rfl 26 (by decide) (List.mem_cons_of_mem _ uw_7_1) rfl rfl dX12_print_20 ?_
      refine lv_iconst (v := 4) hx hb dX12_print_23 (by decide) ?_
      refine tk_ialdR hC hK hw hT kM_at12 rfl (by decide) (by decide) dX12_print_24 (fun x71 c72 Ex71 => ?_)
      have hox71 := c72
      replace hM := hM.rd (sI_at hox71)
      have bx71 := tk_rgI rfl 4 1 1 0 4 (by decide +kernel) ⟨0, by decide, by decide⟩ Ex71
      have c72 : gi w0 12 4 = x71 := c72
      refine lv_iconst (v := 4) hx hb dX12_print_25 (by decide) ?_
      refine lv_icmp_ne (tgt := 32) hx hb dX12_print_26 (by decide) (fun c73 => ?_) (fun c73 => ?_)
      · have c73 : ¬ x71.toInt = (4 : Int) := wk_eqF c73
        replace hM := hM.pos c73
        refine lv_iconst (v := 0) hx hb dX12_print_32 (by decide) ?_
        refine lv_istore_n (lv' := [(2, .int 0), (0, .ref (ad 0)), (1, .int a1)]) hx hb dX12_print_33 rfl hl (by decide) rfl (fun ls hl => ?_)
        exact L34 ((12 - (0 : Int)).toNat + 1) 0 x58 x71 H locs ls w0 (show 0 ≤ a1.toInt by first | with_reducible assumption | omega) (show a1.toInt ≤ 6 by first | with_reducible assumption | omega) (by decide) (by decide) (show 1 ≤ x58.toInt by first | with_reducible assumption | omega) (show x58.toInt ≤ 10 by first | with_reducible assumption | omega) (show 0 ≤ x71.toInt by first | with_reducible assumption | omega) (show x71.toInt ≤ 3 by first | with_reducible assumption | omega) (Nat.lt_succ_self _) hw hT hF c59 c72 hM (lv_sub hl [1, 2, 0] rfl)
      · have c73 : x71.toInt = (4 : Int) := wk_eq.mp c73
        replace hM := hM.neg (fun q => q c73)
        exact J29 x58 H locs ls w0 (show 0 ≤ x58.toInt by first | with_reducible assumption | omega) (show x58.toInt ≤ 10 by first | with_reducible assumption | omega)  hw hT hF c59 hM (lv_sub hl [0, 1] rfl)
