abbrev Pz_X12_clauseHere_2 (ad : Nat → Nat) (cy : Nat → ClassId) (B : Int) (qr : Nat) (s1 : Int)  (gT : Int) (w0 : va_W) : Int32 → va_W → Prop := fun r u => TW ksM ad cy B qr 12 u ∧ FE ksM [(12, 14, 14), (12, 15, 15), (12, 16, 16), (12, 18, 18), (12, 19, 19), (12, 20, 20), (12, 22, 22), (61, 0, 2400), (62, 0, 7), (63, 0, 216), (64, 0, 6), (68, 0, 400)] w0 u ∧ Ev (fun n => m_X12_clauseHere n 0 (sI w0)) (r.toInt, sI u) ∧ ((r = 0 ∧ (∃ y : Int32, gi u 0 1 = y ∧ 1 ≤ y.toInt ∧ y.toInt ≤ 400) ∧ (∃ y : Int32, gi u 0 15 = y ∧ 1 ≤ y.toInt ∧ y.toInt ≤ 3205) ∧ (∃ y : Int32, gi u 0 17 = y ∧ 0 ≤ y.toInt ∧ y.toInt ≤ 5) ∧ (∃ y : Int32, gi u 0 20 = y ∧ 0 ≤ y.toInt ∧ y.toInt ≤ 12) ∧ RLc u gT ∧ ((gi w0 0 20).toInt ≤ (gi u 0 20).toInt) ∧ ((gi u 0 20).toInt ≤ 12)) ∨ (r = 0 ∧ (∃ y : Int32, gi u 0 1 = y ∧ 0 ≤ y.toInt ∧ y.toInt ≤ 400) ∧ (∃ y : Int32, gi u 0 15 = y ∧ 1 ≤ y.toInt ∧ y.toInt ≤ 3205) ∧ (∃ y : Int32, gi u 0 17 = y ∧ 0 ≤ y.toInt ∧ y.toInt ≤ 5) ∧ (∃ y : Int32, gi u 0 20 = y ∧ 0 ≤ y.toInt ∧ y.toInt ≤ 12) ∧ RLc u gT ∧ ((gi w0 0 20).toInt ≤ (gi u 0 20).toInt) ∧ ((gi u 0 20).toInt ≤ 12)) ∨ (r = 1 ∧ (∃ y : Int32, gi u 0 1 = y ∧ 1 ≤ y.toInt ∧ y.toInt ≤ 400) ∧ (∃ y : Int32, gi u 0 17 = y ∧ 0 ≤ y.toInt ∧ y.toInt ≤ 5) ∧ (∃ y : Int32, gi u 0 20 = y ∧ 1 ≤ y.toInt ∧ y.toInt ≤ 12) ∧ RLc u gT ∧ (3 * (gi u 3 ((gi u 0 17).toInt).toNat).toInt ≤ 14 * (gi u 0 18).toInt) ∧ ((gi u 5 ((gi u 0 17).toInt).toNat).toInt ≤ (gi u 0 20).toInt) ∧ ((gi u 0 20).toInt = (gi w0 0 20).toInt + 1) ∧ ((gi u 0 20).toInt ≤ 12)) ∨ (r = 1 ∧ (∃ y : Int32, gi u 0 1 = y ∧ 0 ≤ y.toInt ∧ y.toInt ≤ 400) ∧ (∃ y : Int32, gi u 0 17 = y ∧ 0 ≤ y.toInt ∧ y.toInt ≤ 5) ∧ (∃ y : Int32, gi u 0 20 = y ∧ 1 ≤ y.toInt ∧ y.toInt ≤ 12) ∧ RLc u gT ∧ (3 * (gi u 3 ((gi u 0 17).toInt).toNat).toInt ≤ 14 * (gi u 0 18).toInt) ∧ ((gi u 5 ((gi u 0 17).toInt).toNat).toInt ≤ (gi u 0 20).toInt) ∧ ((gi u 0 20).toInt = (gi w0 0 20).toInt + 1) ∧ ((gi u 0 20).toInt ≤ 12)))
set_option maxHeartbeats 4000000 in
set_option maxRecDepth 100000 in
theorem kz_X12_clauseHere_2 (l : Launch) (adK adV : Nat → Nat) (dC : Nat → ClassId) (dI : Nat → Nat → Nat) (cy : Nat → ClassId) (ad : Nat → Nat) (B : Int) (hB0 : 100000 ≤ B) (hB1 : B ≤ 1073741824) (qr : Nat) (s1 : Int)   (w0 : va_W) (sz : Nat) (hT : TW ksM ad cy B qr 12 w0) (f0_ : Int32) (cf0_ : gi w0 0 17 = f0_) (rf0_ : 0 ≤ f0_.toInt) (tf0_ : f0_.toInt ≤ 5) (f1_ : Int32) (cf1_ : gi w0 0 18 = f1_) (rf1_ : 0 ≤ f1_.toInt) (tf1_ : f1_.toInt ≤ 60) (f2_ : Int32) (cf2_ : gi w0 0 20 = f2_) (rf2_ : 0 ≤ f2_.toInt) (tf2_ : f2_.toInt ≤ 32) (f3_ : Int32) (cf3_ : gi w0 3 (f0_.toInt).toNat = f3_) (rf3_ : 0 ≤ f3_.toInt) (tf3_ : f3_.toInt ≤ 400) (f4_ : Int32) (cf4_ : gi w0 5 (f0_.toInt).toNat = f4_) (rf4_ : 0 ≤ f4_.toInt) (tf4_ : f4_.toInt ≤ 12) (pr0_ : 3 * f3_.toInt ≤ 14 * f1_.toInt) (pr1_ : f4_.toInt ≤ f2_.toInt) (pr2_ : f2_.toInt ≤ 12) (pr3_ : f3_.toInt ≤ 280) (hR : RLc w0 f0_.toInt) : Met l yX12_clauseHere (wu yX12_clauseHere cX12_clauseHere 4 (some .boolean)) ({ frames := 11, cells := 0, slots := 0, locals := 232 }) (va_Pc [.ref (ad 0)] (wpreS adK adV dC dI cy sz w0)) (va_Qi (Pz_X12_clauseHere_2 ad cy B qr s1  f0_.toInt w0) (fun u : va_W => wpost dC dI cy (va_A w0 sz) u) (va_A w0 sz)) 0 0 (va_A w0 sz) := by
  refine Met.ofW (cc := cX12_clauseHere) (maxL := 4) (ret := (some .boolean)) (by decide) rfl ?_
  intro p e s m args below meth c s₁ Bk hml hv
  obtain ⟨rfl, ⟨hsz, hP, hK, hD0⟩, hE, hSR⟩ := hv
  have hx := Bk.exec
  have hb := Bk.bytes
  have hr := Bk.returns
  have hlocks := Bk.notSynchronized
  have hC : CallFix p m c cX12_clauseHere 4 s _ (wu yX12_clauseHere cX12_clauseHere 4 (some .boolean)) RX12 := ⟨hx, hb, hml, findClass_of_methodNamed Bk.named, atoms_spec (ws := (wu yX12_clauseHere cX12_clauseHere 4 (some .boolean))) Bk.pre⟩
  subst hsz
  have hD := hD0.self (sz := s.heap.size)
  generalize hAe : va_A w0 s.heap.size = A at hD hE ⊢
  have hA : ∀ q : Nat, s.heap.size ≤ q → A q := fun q h => by rw [← hAe]; exact Or.inr h
  have hw : Wd dC dI A s.heap s.heap [] w0 := ⟨hP, hD, va_S.rf⟩
  have hF : FE ksM [(12, 14, 14), (12, 15, 15), (12, 16, 16), (12, 18, 18), (12, 19, 19), (12, 20, 20), (12, 22, 22), (61, 0, 2400), (62, 0, 7), (63, 0, 216), (64, 0, 6), (68, 0, 400)] w0 w0 := FE.rf
  have hl := lv_entry ([.ref (ad 0)]) (n := 4) (Nat.le_of_ble_eq_true rfl)
  rw [lg_entry_eq]
  generalize (lg_sl ([.ref (ad 0)]) ++ List.replicate (4 - (lg_sl ([.ref (ad 0)])).length) Slot.unset).toArray = ls at hl ⊢
  have hl : lv_has ls 4 [(0, .ref (ad 0))] := hl
  generalize hloc : ([] : List Loc) = locs at hw ⊢
  have hinX12 : ∀ w ∈ u_ws RX12 TX12 42, w ∈ (wu yX12_clauseHere cX12_clauseHere 4 (some .boolean)) := fun _ h => List.mem_cons_of_mem _ (up_71 h)
  have hM : TT (fun n => m_X12_clauseHere n 0 (sI w0)) (fun n => m_X12_clauseHere n 0 (sI w0)) := TT.rf
  refine lv_aload_n hx hb dX12_clauseHere_0 rfl (lv_at hl 0 rfl) ?_
  obtain ⟨x1, c2, rx1, tx1⟩ := hT.rdi (lo := 0) (hi := 400) (k := 14) kM_at0 (by decide) rfl
  refine tk_Vi hC hK hw hT hA hE hSR kM_at0 (by decide) rfl (kz_X12_see_1 l adK adV dC dI cy ad B (by omega) (by omega) qr s1    w0 s.heap.size hT x1 c2 (show 0 ≤ x1.toInt by omega) (show x1.toInt ≤ 400 by omega)) (cwV 0 hC.2.2.2.2 uV_RX12_97 rfl rfl rfl (by decide +kernel) ⟨Nat.le_of_ble_eq_true rfl, Nat.le_of_ble_eq_true rfl⟩) rfl hl.1 rfl (Nat.le_of_ble_eq_true rfl) dX12_clauseHere_1 (fun r3 w5 H locs hp4 hw => ?_)
  obtain ⟨hT, k6, hv24, hg23⟩ := hp4
  have hR := RL_FE k6 (fun _ => rfl) (fun _ => rfl) (fun _ => rfl) (fun _ => rfl) hR
  have hF := hF.tr k6 (by decide)
  have c25 := k6.gi kM_at0 (by decide) cf0_
  have c26 := k6.gi kM_at0 (by decide) cf1_
  have c27 := k6.gi kM_at0 (by decide) cf2_
  have c28 := k6.gi kM_at3 rfl cf3_
  have c29 := k6.gi kM_at5 rfl cf4_
  rcases hg23 with ⟨g7, g8, ⟨x9, c10, rx9, tx9⟩, ⟨x11, c12, rx11, tx11⟩, g13, g14⟩ | ⟨rfl, ⟨x15, c16, rx15, tx15⟩, ⟨x17, c18, rx17, tx17⟩, g19⟩ | ⟨rfl, ⟨x20, c21, rx20, tx20⟩, g22⟩
  · replace hM := hM.call hv24 rfl
    have g13 : (gi w5 1 (x11.toInt).toNat).toInt ≠ 32 := by have q := g13; simp only [cf0_, c25, c12] at q; omega
    have g14 : (x11.toInt = x1.toInt ∨ (gi w0 1 (x1.toInt).toNat).toInt = 32) := by have q := g14; simp only [cf0_, c25, c2, c12] at q; omega
    refine lv_pop hx hb dX12_clauseHere_4 rfl ?_
    refine lv_aload_n hx hb dX12_clauseHere_5 rfl (lv_at hl 0 rfl) ?_
    refine tk_geti hC hK hw hT hinX12 kM_at0 (by decide) rfl 14 (by decide) (List.mem_cons_of_mem _ uw_19_18) rfl rfl dX12_clauseHere_6 (fun x32 c33 rx32 tx32 => ?_)
    refine wk_top x11 (c33.symm.trans c12) ?_
    replace hM := hM.rd (sI_at c12)
    refine lv_istore_n (lv' := [(1, .int x11), (0, .ref (ad 0))]) hx hb dX12_clauseHere_9 rfl hl (by decide) rfl (fun ls hl => ?_)
    refine lv_aload_n hx hb dX12_clauseHere_10 rfl (lv_at hl 1 rfl) ?_
    refine tk_geti hC hK hw hT hinX12 kM_at0 (by decide) rfl 17 (by decide) (List.mem_cons_of_mem _ uw_19_7) rfl rfl dX12_clauseHere_11 (fun x34 c35 rx34 tx34 => ?_)
    refine wk_top f0_ (c35.symm.trans c25) ?_
    replace hM := hM.rd (sI_at c25)
    refine lv_bipush (v := 6) hx hb dX12_clauseHere_14 (by decide) ?_
    refine lv_icmp_ne (tgt := 23) hx hb dX12_clauseHere_16 (by decide) (fun _ => ?_) (fun c => absurd (show f0_.toInt = (6 : Int) from wk_eq.mp c) (by omega))
    replace hM := hM.pos (by omega)
    refine lv_iconst (v := 0) hx hb dX12_clauseHere_23 (by decide) ?_
    refine lv_istore_n (lv' := [(2, .int 0), (1, .int x11), (0, .ref (ad 0))]) hx hb dX12_clauseHere_24 rfl hl (by decide) rfl (fun ls hl => ?_)
    refine lv_iload_n hx hb dX12_clauseHere_25 rfl (lv_at hl 0 rfl) ?_
    refine lv_if_eq (tgt := 77) hx hb dX12_clauseHere_26 (by decide) (fun _ => ?_) (fun c => absurd (by decide) c)
    replace hM := hM.pos (by decide)
    refine lv_aload_n hx hb dX12_clauseHere_77 rfl (lv_at hl 2 rfl) ?_
    refine tk_Vi hC hK hw hT hA hE hSR kM_at0 (by decide) rfl (kz_X12_doingSort_1 l adK adV dC dI cy ad B (by omega) (by omega) qr s1    w5 H.size hT ) (cwV 0 hC.2.2.2.2 uV_RX12_264 rfl rfl rfl (by decide +kernel) ⟨Nat.le_of_ble_eq_true rfl, Nat.le_of_ble_eq_true rfl⟩) rfl hl.1 rfl (Nat.le_of_ble_eq_true rfl) dX12_clauseHere_78 (fun r36 w38 H locs hp37 hw => ?_)
    obtain ⟨hT, k39, hv47, hg46⟩ := hp37
    have hR := RL_FE k39 (fun _ => rfl) (fun _ => rfl) (fun _ => rfl) (fun _ => rfl) hR
    have hF := hF.tr k39 (by decide)
    have c48 := k39.gi kM_at0 (by decide) c25
    have c49 := k39.gi kM_at0 (by decide) c26
    have c50 := k39.gi kM_at0 (by decide) c27
    have c51 := k39.gi kM_at3 rfl c28
    have c52 := k39.gi kM_at5 rfl c29
    have c53 := k39.gi kM_at0 (by decide) c10
    rcases hg46 with ⟨g40, g41, ⟨x42, c43, rx42, tx42⟩⟩ | ⟨rfl, ⟨x44, c45, rx44, tx44⟩⟩
    · replace hM := hM.call hv47 rfl
      have ex42 : x42.toInt = x9.toInt := by rw [← c53.symm.trans c43]
      refine lv_if_lt (tgt := 88) hx hb dX12_clauseHere_81 (by decide) (fun c => absurd c (fun h => absurd (show r36.toInt < (0 : Int) from wk_lt.mp h) (by omega))) (fun _ => ?_)
      replace hM := hM.neg (by omega)
      refine lv_iconst (v := 1) hx hb dX12_clauseHere_84 (by decide) ?_
      refine lv_goto (tgt := 89) hx hb dX12_clauseHere_85 (by decide) ?_
      refine lv_istore_n (lv' := [(3, .int 1), (2, .int 0), (1, .int x11), (0, .ref (ad 0))]) hx hb dX12_clauseHere_89 rfl hl (by decide) rfl (fun ls hl => ?_)
      refine lv_iload_n hx hb dX12_clauseHere_90 rfl (lv_at hl 0 rfl) ?_
      refine lv_if_ne (tgt := 101) hx hb dX12_clauseHere_91 (by decide) (fun _ => ?_) (fun c => absurd c (by decide))
      replace hM := hM.pos (by decide)
      refine lv_aload_n hx hb dX12_clauseHere_101 rfl (lv_at hl 3 rfl) ?_
      refine tk_geti hC hK hw hT hinX12 kM_at0 (by decide) rfl 20 (by decide) (List.mem_cons_of_mem _ uw_19_17) rfl rfl dX12_clauseHere_102 (fun x54 c55 rx54 tx54 => ?_)
      refine wk_top f2_ (c55.symm.trans c50) ?_
      replace hM := hM.rd (sI_at c50)
      refine lv_iload_n hx hb dX12_clauseHere_105 rfl (lv_at hl 1 rfl) ?_
      refine lv_if_eq (tgt := 114) hx hb dX12_clauseHere_106 (by decide) (fun _ => ?_) (fun c => absurd (by decide) c)
      replace hM := hM.pos (by decide)
      refine lv_bipush (v := 12) hx hb dX12_clauseHere_114 (by decide) ?_
      refine lv_icmp_ne (tgt := 126) hx hb dX12_clauseHere_116 (by decide) (fun c56 => ?_) (fun c56 => ?_)
      · have c56 : ¬ f2_.toInt = (12 : Int) := wk_eqF c56
        replace hM := hM.pos c56
        refine lv_aload_n hx hb dX12_clauseHere_126 rfl (lv_at hl 3 rfl) ?_
        refine lv_dup hx hb dX12_clauseHere_127 rfl ?_
        refine tk_geti hC hK hw hT hinX12 kM_at0 (by decide) rfl 20 (by decide) (List.mem_cons_of_mem _ uw_19_17) rfl rfl dX12_clauseHere_128 (fun x57 c58 rx57 tx57 => ?_)
        refine wk_top f2_ (c58.symm.trans c50) ?_
        replace hM := hM.rd (sI_at c50)
        refine lv_iconst (v := 1) hx hb dX12_clauseHere_131 (by decide) ?_
        refine lv_iadd hx hb dX12_clauseHere_132 ?_
        refine lv_topi (fun x59 ex59 => ?_)
        have ezx59 := ex59
        have ex59 : x59.toInt = f2_.toInt + (1 : Int) := by rw [ex59]; exact wk_add (show (-2147483648) ≤ f2_.toInt + (1 : Int) by omega) (show f2_.toInt + (1 : Int) ≤ 2147483647 by omega)
        replace hM := hM.lt ex59.symm
        refine tk_puti hC hK hw hT hinX12 tyX12_ok nmX12 kM_at0 (by decide) rfl rfl 20 (by decide) (List.mem_cons_of_mem _ uw_19_17) rfl rfl rfl rfl (show 0 ≤ x59.toInt by omega) (show x59.toInt ≤ 32 by omega) dX12_clauseHere_133 (fun H locs w60 hw hT k62 c61 => ?_)
        replace hM := hM.wr (sI_up k62 c61)
        have hR := RL_F1 k62 (by decide) (by decide) (by decide) (by decide) hR
        have hF := hF.put kM_at0 (k := 20) (by decide) k62
        have c63 := k62.gi (Or.inr (by decide)) c48
        have c64 := k62.gi (Or.inr (by decide)) c49
        have c65 := k62.gi (Or.inl (tk_ne kM_at3 kM_at0 (by decide))) c51
        have c66 := k62.gi (Or.inl (tk_ne kM_at5 kM_at0 (by decide))) c52
        have c67 := k62.gi (Or.inr (by decide)) c53
        refine lv_iload_n hx hb dX12_clauseHere_136 rfl (lv_at hl 1 rfl) ?_
        refine lv_if_eq (tgt := 148) hx hb dX12_clauseHere_137 (by decide) (fun _ => ?_) (fun c => absurd (by decide) c)
        replace hM := hM.pos (by decide)
        refine lv_aload_n hx hb dX12_clauseHere_148 rfl (lv_at hl 3 rfl) ?_
        refine lv_aload_n hx hb dX12_clauseHere_149 rfl (lv_at hl 3 rfl) ?_
        refine tk_Vi hC hK hw hT hA hE hSR kM_at0 (by decide) rfl (kz_X12_doingSort_1 l adK adV dC dI cy ad B (by omega) (by omega) qr s1    w60 H.size hT ) (cwV 0 hC.2.2.2.2 uV_RX12_264 rfl rfl rfl (by decide +kernel) ⟨Nat.le_of_ble_eq_true rfl, Nat.le_of_ble_eq_true rfl⟩) rfl hl.1 rfl (Nat.le_of_ble_eq_true rfl) dX12_clauseHere_150 (fun r68 w70 H locs hp69 hw => ?_)
        obtain ⟨hT, k71, hv79, hg78⟩ := hp69
        have hR := RL_FE k71 (fun _ => rfl) (fun _ => rfl) (fun _ => rfl) (fun _ => rfl) hR
        have hF := hF.tr k71 (by decide)
        have c80 := k71.gi kM_at0 (by decide) c63
        have c81 := k71.gi kM_at0 (by decide) c64
        have c82 := k71.gi kM_at3 rfl c65
        have c83 := k71.gi kM_at5 rfl c66
        have c84 := k71.gi kM_at0 (by decide) c67
        have c85 := k71.gi kM_at0 (by decide) c61
        rcases hg78 with ⟨g72, g73, ⟨x74, c75, rx74, tx74⟩⟩ | ⟨rfl, ⟨x76, c77, rx76, tx76⟩⟩
        · replace hM := hM.call hv79 rfl
          have ex74 : x74.toInt = x9.toInt := by rw [← c84.symm.trans c75]
          refine tk_Vi hC hK hw hT hA hE hSR kM_at0 (by decide) rfl (kz_X12_isDoingHere_1 l adK adV dC dI cy ad B (by omega) (by omega) qr s1   r68 (show 0 ≤ r68.toInt by omega) (show r68.toInt ≤ 3 by omega) w70 H.size hT f0_ c80 (show 0 ≤ f0_.toInt from rf0_) (show f0_.toInt ≤ 5 from tf0_) f1_ c81 (show 0 ≤ f1_.toInt from rf1_) (show f1_.toInt ≤ 60 from tf1_) f3_ c82 (show 0 ≤ f3_.toInt from rf3_) (show f3_.toInt ≤ 400 from tf3_) f4_ c83 (show 0 ≤ f4_.toInt from rf4_) (show f4_.toInt ≤ 12 from tf4_) (show 3 * f3_.toInt ≤ 14 * f1_.toInt from pr0_) (show f3_.toInt ≤ 280 from pr3_) (show f4_.toInt ≤ 11 by omega) hR) (cwV 1 hC.2.2.2.2 uV_RX12_273 rfl rfl rfl (by decide +kernel) ⟨Nat.le_of_ble_eq_true rfl, Nat.le_of_ble_eq_true rfl⟩) rfl hl.1 rfl (Nat.le_of_ble_eq_true rfl) dX12_clauseHere_153 (fun r86 w88 H locs hp87 hw => ?_)
          obtain ⟨hT, k89, hv123, hg122⟩ := hp87
          have hF := hF.tr k89 (by decide)
          have c124 := k89.gi kM_at0 (by decide) c80
          have c125 := k89.gi kM_at0 (by decide) c84
          have c126 := k89.gi kM_at0 (by decide) c85
          rcases hg122 with ⟨rfl, ⟨x90, c91, rx90, tx90⟩, ⟨x92, c93, rx92, tx92⟩, ⟨x94, c95, rx94, tx94⟩, ⟨x96, c97, rx96, tx96⟩, hq98⟩ | ⟨rfl, ⟨x99, c100, rx99, tx99⟩, ⟨x101, c102, rx101, tx101⟩, ⟨x103, c104, rx103, tx103⟩, ⟨x105, c106, rx105, tx105⟩, hq107⟩ | ⟨rfl, ⟨x108, c109, rx108, tx108⟩, ⟨x110, c111, rx110, tx110⟩, hq112, g113, g114⟩ | ⟨rfl, ⟨x115, c116, rx115, tx115⟩, ⟨x117, c118, rx117, tx117⟩, hq119, g120, g121⟩
          · replace hM := hM.call (r' := 0) hv123 (by decide)
            have ex90 : x90.toInt = x9.toInt := by rw [← c125.symm.trans c91]
            have ex94 : x94.toInt = f0_.toInt := by rw [← c124.symm.trans c95]
            obtain ⟨x127, c128, rx127, tx127⟩ := hT.rda (lo := 0) (hi := 400) (i := (f0_.toInt).toNat) kM_at3 rfl rfl (by omega)
            obtain ⟨x129, c130, rx129, tx129⟩ := hT.rdi (lo := 0) (hi := 60) (k := 18) kM_at0 (by decide) rfl
            obtain ⟨x131, c132, rx131, tx131⟩ := hT.rda (lo := 0) (hi := 12) (i := (f0_.toInt).toNat) kM_at5 rfl rfl (by omega)
            have hR := hq98
            exact tk_zret hC hr rfl hlocks hK ⟨hT, hF, hM.ret (by decide), (Or.inl ⟨rfl, ⟨x9, c125, (show 1 ≤ x9.toInt by omega), (show x9.toInt ≤ 400 by omega)⟩, ⟨x92, c93, (show 1 ≤ x92.toInt by omega), (show x92.toInt ≤ 3205 by omega)⟩, ⟨f0_, c124, (show 0 ≤ f0_.toInt from rf0_), (show f0_.toInt ≤ 5 from tf0_)⟩, ⟨x59, c126, (show 0 ≤ x59.toInt by omega), (show x59.toInt ≤ 12 by omega)⟩, hR, (by simp only [c124, cf0_, cf2_, c126]; omega), (by simp only [c124, cf0_, c126]; omega)⟩)⟩ hw dX12_clauseHere_156
          · replace hM := hM.call (r' := 0) hv123 (by decide)
            have ex99 : x99.toInt = x9.toInt := by rw [← c125.symm.trans c100]
            have ex103 : x103.toInt = f0_.toInt := by rw [← c124.symm.trans c104]
            obtain ⟨x133, c134, rx133, tx133⟩ := hT.rda (lo := 0) (hi := 400) (i := (f0_.toInt).toNat) kM_at3 rfl rfl (by omega)
            obtain ⟨x135, c136, rx135, tx135⟩ := hT.rdi (lo := 0) (hi := 60) (k := 18) kM_at0 (by decide) rfl
            obtain ⟨x137, c138, rx137, tx137⟩ := hT.rda (lo := 0) (hi := 12) (i := (f0_.toInt).toNat) kM_at5 rfl rfl (by omega)
            have hR := hq107
            exact tk_zret hC hr rfl hlocks hK ⟨hT, hF, hM.ret (by decide), (Or.inl ⟨rfl, ⟨x9, c125, (show 1 ≤ x9.toInt by omega), (show x9.toInt ≤ 400 by omega)⟩, ⟨x101, c102, (show 1 ≤ x101.toInt by omega), (show x101.toInt ≤ 3205 by omega)⟩, ⟨f0_, c124, (show 0 ≤ f0_.toInt from rf0_), (show f0_.toInt ≤ 5 from tf0_)⟩, ⟨x59, c126, (show 0 ≤ x59.toInt by omega), (show x59.toInt ≤ 12 by omega)⟩, hR, (by simp only [c124, cf0_, cf2_, c126]; omega), (by simp only [c124, cf0_, c126]; omega)⟩)⟩ hw dX12_clauseHere_156
          · replace hM := hM.call (r' := 1) hv123 (by decide)
            have ex108 : x108.toInt = x9.toInt := by rw [← c125.symm.trans c109]
            have ex110 : x110.toInt = f0_.toInt := by rw [← c124.symm.trans c111]
            obtain ⟨x139, c140, rx139, tx139⟩ := hT.rda (lo := 0) (hi := 400) (i := (f0_.toInt).toNat) kM_at3 rfl rfl (by omega)
            obtain ⟨x141, c142, rx141, tx141⟩ := hT.rdi (lo := 0) (hi := 60) (k := 18) kM_at0 (by decide) rfl
            obtain ⟨x143, c144, rx143, tx143⟩ := hT.rda (lo := 0) (hi := 12) (i := (f0_.toInt).toNat) kM_at5 rfl rfl (by omega)
            have g113 : 3 * x139.toInt ≤ 14 * x141.toInt := by have q := g113; simp only [c80, c124, c140, c142] at q; omega
            have g114 : x143.toInt = f4_.toInt + 1 := by have q := g114; simp only [c80, c124, c83, c144] at q; omega
            have hR := hq112
            exact tk_zret hC hr rfl hlocks hK ⟨hT, hF, hM.ret (by decide), (Or.inr (Or.inr (Or.inl ⟨rfl, ⟨x9, c125, (show 1 ≤ x9.toInt by omega), (show x9.toInt ≤ 400 by omega)⟩, ⟨f0_, c124, (show 0 ≤ f0_.toInt from rf0_), (show f0_.toInt ≤ 5 from tf0_)⟩, ⟨x59, c126, (show 1 ≤ x59.toInt by omega), (show x59.toInt ≤ 12 by omega)⟩, hR, (by simp only [c124, cf0_, c140, c142]; omega), (by simp only [c124, cf0_, c144, c126]; omega), (by simp only [c124, cf0_, cf2_, c126]; omega), (by simp only [c124, cf0_, c126]; omega)⟩)))⟩ hw dX12_clauseHere_156
          · replace hM := hM.call (r' := 1) hv123 (by decide)
            have ex115 : x115.toInt = x9.toInt := by rw [← c125.symm.trans c116]
            have ex117 : x117.toInt = f0_.toInt := by rw [← c124.symm.trans c118]
            obtain ⟨x145, c146, rx145, tx145⟩ := hT.rda (lo := 0) (hi := 400) (i := (f0_.toInt).toNat) kM_at3 rfl rfl (by omega)
            obtain ⟨x147, c148, rx147, tx147⟩ := hT.rdi (lo := 0) (hi := 60) (k := 18) kM_at0 (by decide) rfl
            obtain ⟨x149, c150, rx149, tx149⟩ := hT.rda (lo := 0) (hi := 12) (i := (f0_.toInt).toNat) kM_at5 rfl rfl (by omega)
            have g120 : 3 * x145.toInt ≤ 14 * x147.toInt := by have q := g120; simp only [c80, c124, c146, c148] at q; omega
            have g121 : x149.toInt = f4_.toInt + 1 := by have q := g121; simp only [c80, c124, c83, c150] at q; omega
            have hR := hq119
            exact tk_zret hC hr rfl hlocks hK ⟨hT, hF, hM.ret (by decide), (Or.inr (Or.inr (Or.inl ⟨rfl, ⟨x9, c125, (show 1 ≤ x9.toInt by omega), (show x9.toInt ≤ 400 by omega)⟩, ⟨f0_, c124, (show 0 ≤ f0_.toInt from rf0_), (show f0_.toInt ≤ 5 from tf0_)⟩, ⟨x59, c126, (show 1 ≤ x59.toInt by omega), (show x59.toInt ≤ 12 by omega)⟩, hR, (by simp only [c124, cf0_, c146, c148]; omega), (by simp only [c124, cf0_, c150, c126]; omega), (by simp only [c124, cf0_, cf2_, c126]; omega), (by simp only [c124, cf0_, c126]; omega)⟩)))⟩ hw dX12_clauseHere_156
        · replace hM := hM.call (r' := (-1)) hv79 (by decide)
          have ex76 : x76.toInt = x9.toInt := by rw [← c84.symm.trans c77]
          refine tk_Vi hC hK hw hT hA hE hSR kM_at0 (by decide) rfl (kz_X12_isDoingHere_2 l adK adV dC dI cy ad B (by omega) (by omega) qr s1    w70 H.size hT f0_ c80 (show 0 ≤ f0_.toInt from rf0_) (show f0_.toInt ≤ 5 from tf0_) f1_ c81 (show 0 ≤ f1_.toInt from rf1_) (show f1_.toInt ≤ 60 from tf1_) f3_ c82 (show 0 ≤ f3_.toInt from rf3_) (show f3_.toInt ≤ 400 from tf3_) f4_ c83 (show 0 ≤ f4_.toInt from rf4_) (show f4_.toInt ≤ 12 from tf4_) (show 3 * f3_.toInt ≤ 14 * f1_.toInt from pr0_) (show f3_.toInt ≤ 280 from pr3_) (show f4_.toInt ≤ 11 by omega) hR) (cwV 1 hC.2.2.2.2 uV_RX12_273 rfl rfl rfl (by decide +kernel) ⟨Nat.le_of_ble_eq_true rfl, Nat.le_of_ble_eq_true rfl⟩) rfl hl.1 rfl (Nat.le_of_ble_eq_true rfl) dX12_clauseHere_153 (fun r151 w153 H locs hp152 hw => ?_)
          obtain ⟨hT, k154, hv188, hg187⟩ := hp152
          have hF := hF.tr k154 (by decide)
          have c189 := k154.gi kM_at0 (by decide) c80
          have c190 := k154.gi kM_at0 (by decide) c84
          have c191 := k154.gi kM_at0 (by decide) c85
          rcases hg187 with ⟨rfl, ⟨x155, c156, rx155, tx155⟩, ⟨x157, c158, rx157, tx157⟩, ⟨x159, c160, rx159, tx159⟩, ⟨x161, c162, rx161, tx161⟩, hq163⟩ | ⟨rfl, ⟨x164, c165, rx164, tx164⟩, ⟨x166, c167, rx166, tx166⟩, ⟨x168, c169, rx168, tx168⟩, ⟨x170, c171, rx170, tx170⟩, hq172⟩ | ⟨rfl, ⟨x173, c174, rx173, tx173⟩, ⟨x175, c176, rx175, tx175⟩, hq177, g178, g179⟩ | ⟨rfl, ⟨x180, c181, rx180, tx180⟩, ⟨x182, c183, rx182, tx182⟩, hq184, g185, g186⟩
          · replace hM := hM.call (r' := 0) hv188 (by decide)
            have ex155 : x155.toInt = x9.toInt := by rw [← c190.symm.trans c156]
            have ex159 : x159.toInt = f0_.toInt := by rw [← c189.symm.trans c160]
            obtain ⟨x192, c193, rx192, tx192⟩ := hT.rda (lo := 0) (hi := 400) (i := (f0_.toInt).toNat) kM_at3 rfl rfl (by omega)
            obtain ⟨x194, c195, rx194, tx194⟩ := hT.rdi (lo := 0) (hi := 60) (k := 18) kM_at0 (by decide) rfl
            obtain ⟨x196, c197, rx196, tx196⟩ := hT.rda (lo := 0) (hi := 12) (i := (f0_.toInt).toNat) kM_at5 rfl rfl (by omega)
            have hR := hq163
            exact tk_zret hC hr rfl hlocks hK ⟨hT, hF, hM.ret (by decide), (Or.inl ⟨rfl, ⟨x9, c190, (show 1 ≤ x9.toInt by omega), (show x9.toInt ≤ 400 by omega)⟩, ⟨x157, c158, (show 1 ≤ x157.toInt by omega), (show x157.toInt ≤ 3205 by omega)⟩, ⟨f0_, c189, (show 0 ≤ f0_.toInt from rf0_), (show f0_.toInt ≤ 5 from tf0_)⟩, ⟨x59, c191, (show 0 ≤ x59.toInt by omega), (show x59.toInt ≤ 12 by omega)⟩, hR, (by simp only [c189, cf0_, cf2_, c191]; omega), (by simp only [c189, cf0_, c191]; omega)⟩)⟩ hw dX12_clauseHere_156
          · replace hM := hM.call (r' := 0) hv188 (by decide)
            have ex164 : x164.toInt = x9.toInt := by rw [← c190.symm.trans c165]
            have ex168 : x168.toInt = f0_.toInt := by rw [← c189.symm.trans c169]
            obtain ⟨x198, c199, rx198, tx198⟩ := hT.rda (lo := 0) (hi := 400) (i := (f0_.toInt).toNat) kM_at3 rfl rfl (by omega)
            obtain ⟨x200, c201, rx200, tx200⟩ := hT.rdi (lo := 0) (hi := 60) (k := 18) kM_at0 (by decide) rfl
            obtain ⟨x202, c203, rx202, tx202⟩ := hT.rda (lo := 0) (hi := 12) (i := (f0_.toInt).toNat) kM_at5 rfl rfl (by omega)
            have hR := hq172
            exact tk_zret hC hr rfl hlocks hK ⟨hT, hF, hM.ret (by decide), (Or.inl ⟨rfl, ⟨x9, c190, (show 1 ≤ x9.toInt by omega), (show x9.toInt ≤ 400 by omega)⟩, ⟨x166, c167, (show 1 ≤ x166.toInt by omega), (show x166.toInt ≤ 3205 by omega)⟩, ⟨f0_, c189, (show 0 ≤ f0_.toInt from rf0_), (show f0_.toInt ≤ 5 from tf0_)⟩, ⟨x59, c191, (show 0 ≤ x59.toInt by omega), (show x59.toInt ≤ 12 by omega)⟩, hR, (by simp only [c189, cf0_, cf2_, c191]; omega), (by simp only [c189, cf0_, c191]; omega)⟩)⟩ hw dX12_clauseHere_156
          · replace hM := hM.call (r' := 1) hv188 (by decide)
            have ex173 : x173.toInt = x9.toInt := by rw [← c190.symm.trans c174]
            have ex175 : x175.toInt = f0_.toInt := by rw [← c189.symm.trans c176]
            obtain ⟨x204, c205, rx204, tx204⟩ := hT.rda (lo := 0) (hi := 400) (i := (f0_.toInt).toNat) kM_at3 rfl rfl (by omega)
            obtain ⟨x206, c207, rx206, tx206⟩ := hT.rdi (lo := 0) (hi := 60) (k := 18) kM_at0 (by decide) rfl
            obtain ⟨x208, c209, rx208, tx208⟩ := hT.rda (lo := 0) (hi := 12) (i := (f0_.toInt).toNat) kM_at5 rfl rfl (by omega)
            have g178 : 3 * x204.toInt ≤ 14 * x206.toInt := by have q := g178; simp only [c80, c189, c205, c207] at q; omega
            have g179 : x208.toInt = f4_.toInt + 1 := by have q := g179; simp only [c80, c189, c83, c209] at q; omega
            have hR := hq177
            exact tk_zret hC hr rfl hlocks hK ⟨hT, hF, hM.ret (by decide), (Or.inr (Or.inr (Or.inl ⟨rfl, ⟨x9, c190, (show 1 ≤ x9.toInt by omega), (show x9.toInt ≤ 400 by omega)⟩, ⟨f0_, c189, (show 0 ≤ f0_.toInt from rf0_), (show f0_.toInt ≤ 5 from tf0_)⟩, ⟨x59, c191, (show 1 ≤ x59.toInt by omega), (show x59.toInt ≤ 12 by omega)⟩, hR, (by simp only [c189, cf0_, c205, c207]; omega), (by simp only [c189, cf0_, c209, c191]; omega), (by simp only [c189, cf0_, cf2_, c191]; omega), (by simp only [c189, cf0_, c191]; omega)⟩)))⟩ hw dX12_clauseHere_156
          · replace hM := hM.call (r' := 1) hv188 (by decide)
            have ex180 : x180.toInt = x9.toInt := by rw [← c190.symm.trans c181]
            have ex182 : x182.toInt = f0_.toInt := by rw [← c189.symm.trans c183]
            obtain ⟨x210, c211, rx210, tx210⟩ := hT.rda (lo := 0) (hi := 400) (i := (f0_.toInt).toNat) kM_at3 rfl rfl (by omega)
            obtain ⟨x212, c213, rx212, tx212⟩ := hT.rdi (lo := 0) (hi := 60) (k := 18) kM_at0 (by decide) rfl
            obtain ⟨x214, c215, rx214, tx214⟩ := hT.rda (lo := 0) (hi := 12) (i := (f0_.toInt).toNat) kM_at5 rfl rfl (by omega)
            have g185 : 3 * x210.toInt ≤ 14 * x212.toInt := by have q := g185; simp only [c80, c189, c211, c213] at q; omega
            have g186 : x214.toInt = f4_.toInt + 1 := by have q := g186; simp only [c80, c189, c83, c215] at q; omega
            have hR := hq184
            exact tk_zret hC hr rfl hlocks hK ⟨hT, hF, hM.ret (by decide), (Or.inr (Or.inr (Or.inl ⟨rfl, ⟨x9, c190, (show 1 ≤ x9.toInt by omega), (show x9.toInt ≤ 400 by omega)⟩, ⟨f0_, c189, (show 0 ≤ f0_.toInt from rf0_), (show f0_.toInt ≤ 5 from tf0_)⟩, ⟨x59, c191, (show 1 ≤ x59.toInt by omega), (show x59.toInt ≤ 12 by omega)⟩, hR, (by simp only [c189, cf0_, c211, c213]; omega), (by simp only [c189, cf0_, c215, c191]; omega), (by simp only [c189, cf0_, cf2_, c191]; omega), (by simp only [c189, cf0_, c191]; omega)⟩)))⟩ hw dX12_clauseHere_156
      · have c56 : f2_.toInt = (12 : Int) := wk_eq.mp c56
        replace hM := hM.neg (fun q => q c56)
        refine lv_aload_n hx hb dX12_clauseHere_119 rfl (lv_at hl 3 rfl) ?_
        refine lv_iconst (v := 4) hx hb dX12_clauseHere_120 (by decide) ?_
        refine lv_iload_n hx hb dX12_clauseHere_121 rfl (lv_at hl 2 rfl) ?_
        refine tk_Vi hC hK hw hT hA hE hSR kM_at0 (by decide) rfl (kz_X12_fails_1 l adK adV dC dI cy ad B (by omega) (by omega) qr s1   4 (by decide) (by decide) x11 (show 0 ≤ x11.toInt by omega) (show x11.toInt ≤ 400 by omega) w38 H.size hT ) (cwV 2 hC.2.2.2.2 uV_RX12_115 rfl rfl rfl (by decide +kernel) ⟨Nat.le_of_ble_eq_true rfl, Nat.le_of_ble_eq_true rfl⟩) rfl hl.1 rfl (Nat.le_of_ble_eq_true rfl) dX12_clauseHere_122 (fun r216 w218 H locs hp217 hw => ?_)
        obtain ⟨hT, k219, hv223, hg222⟩ := hp217
        try simp only [show (4 : Int32).toInt = 4 by decide] at hv223
        have hR := RL_FE k219 (fun _ => rfl) (fun _ => rfl) (fun _ => rfl) (fun _ => rfl) hR
        have hF := hF.tr k219 (by decide)
        have c224 := k219.gi kM_at0 (by decide) c48
        have c225 := k219.gi kM_at0 (by decide) c49
        have c226 := k219.gi kM_at0 (by decide) c50
        have c227 := k219.gi kM_at3 rfl c51
        have c228 := k219.gi kM_at5 rfl c52
        have c229 := k219.gi kM_at0 (by decide) c53
        obtain ⟨rfl, ⟨x220, c221, rx220, tx220⟩⟩ := hg222
        replace hM := hM.call (r' := 0) hv223 (by decide)
        exact tk_zret hC hr rfl hlocks hK ⟨hT, hF, hM.ret (by decide), (Or.inl ⟨rfl, ⟨x9, c229, (show 1 ≤ x9.toInt by omega), (show x9.toInt ≤ 400 by omega)⟩, ⟨x220, c221, (show 1 ≤ x220.toInt by omega), (show x220.toInt ≤ 3205 by omega)⟩, ⟨f0_, c224, (show 0 ≤ f0_.toInt from rf0_), (show f0_.toInt ≤ 5 from tf0_)⟩, ⟨f2_, c226, (show 0 ≤ f2_.toInt from rf2_), (show f2_.toInt ≤ 12 from pr2_)⟩, hR, (by simp only [c224, cf0_, cf2_, c226]; omega), (by simp only [c224, cf0_, c226]; omega)⟩)⟩ hw dX12_clauseHere_125
    · replace hM := hM.call (r' := (-1)) hv47 (by decide)
      have ex44 : x44.toInt = x9.toInt := by rw [← c53.symm.trans c45]
      refine lv_if_lt (tgt := 88) hx hb dX12_clauseHere_81 (by decide) (fun _ => ?_) (fun c => absurd (by decide) c)
      replace hM := hM.pos (by decide)
      refine lv_iconst (v := 0) hx hb dX12_clauseHere_88 (by decide) ?_
      refine lv_istore_n (lv' := [(3, .int 0), (2, .int 0), (1, .int x11), (0, .ref (ad 0))]) hx hb dX12_clauseHere_89 rfl hl (by decide) rfl (fun ls hl => ?_)
      refine lv_iload_n hx hb dX12_clauseHere_90 rfl (lv_at hl 0 rfl) ?_
      refine lv_if_ne (tgt := 101) hx hb dX12_clauseHere_91 (by decide) (fun c => absurd (by decide) c) (fun _ => ?_)
      replace hM := hM.neg (by decide)
      refine lv_aload_n hx hb dX12_clauseHere_94 rfl (lv_at hl 3 rfl) ?_
      refine lv_iconst (v := 0) hx hb dX12_clauseHere_95 (by decide) ?_
      refine lv_iload_n hx hb dX12_clauseHere_96 rfl (lv_at hl 2 rfl) ?_
      refine tk_Vi hC hK hw hT hA hE hSR kM_at0 (by decide) rfl (kz_X12_fails_1 l adK adV dC dI cy ad B (by omega) (by omega) qr s1   0 (by decide) (by decide) x11 (show 0 ≤ x11.toInt by omega) (show x11.toInt ≤ 400 by omega) w38 H.size hT ) (cwV 2 hC.2.2.2.2 uV_RX12_115 rfl rfl rfl (by decide +kernel) ⟨Nat.le_of_ble_eq_true rfl, Nat.le_of_ble_eq_true rfl⟩) rfl hl.1 rfl (Nat.le_of_ble_eq_true rfl) dX12_clauseHere_97 (fun r230 w232 H locs hp231 hw => ?_)
      obtain ⟨hT, k233, hv237, hg236⟩ := hp231
      try simp only [show (0 : Int32).toInt = 0 by decide] at hv237
      have hR := RL_FE k233 (fun _ => rfl) (fun _ => rfl) (fun _ => rfl) (fun _ => rfl) hR
      have hF := hF.tr k233 (by decide)
      have c238 := k233.gi kM_at0 (by decide) c48
      have c239 := k233.gi kM_at0 (by decide) c49
      have c240 := k233.gi kM_at0 (by decide) c50
      have c241 := k233.gi kM_at3 rfl c51
      have c242 := k233.gi kM_at5 rfl c52
      have c243 := k233.gi kM_at0 (by decide) c53
      obtain ⟨rfl, ⟨x234, c235, rx234, tx234⟩⟩ := hg236
      replace hM := hM.call (r' := 0) hv237 (by decide)
      exact tk_zret hC hr rfl hlocks hK ⟨hT, hF, hM.ret (by decide), (Or.inl ⟨rfl, ⟨x9, c243, (show 1 ≤ x9.toInt by omega), (show x9.toInt ≤ 400 by omega)⟩, ⟨x234, c235, (show 1 ≤ x234.toInt by omega), (show x234.toInt ≤ 3205 by omega)⟩, ⟨f0_, c238, (show 0 ≤ f0_.toInt from rf0_), (show f0_.toInt ≤ 5 from tf0_)⟩, ⟨f2_, c240, (show 0 ≤ f2_.toInt from rf2_), (show f2_.toInt ≤ 12 from pr2_)⟩, hR, (by simp only [c238, cf0_, cf2_, c240]; omega), (by simp only [c238, cf0_, c240]; omega)⟩)⟩ hw dX12_clauseHere_100
  · replace hM := hM.call (r' := (-1)) hv24 (by decide)
    have g19 : (x17.toInt = x1.toInt ∨ (gi w0 1 (x1.toInt).toNat).toInt = 32) := by have q := g19; simp only [cf0_, c25, c2, c18] at q; omega
    refine lv_pop hx hb dX12_clauseHere_4 rfl ?_
    refine lv_aload_n hx hb dX12_clauseHere_5 rfl (lv_at hl 0 rfl) ?_
    refine tk_geti hC hK hw hT hinX12 kM_at0 (by decide) rfl 14 (by decide) (List.mem_cons_of_mem _ uw_19_18) rfl rfl dX12_clauseHere_6 (fun x244 c245 rx244 tx244 => ?_)
    refine wk_top x17 (c245.symm.trans c18) ?_
    replace hM := hM.rd (sI_at c18)
    refine lv_istore_n (lv' := [(1, .int x17), (0, .ref (ad 0))]) hx hb dX12_clauseHere_9 rfl hl (by decide) rfl (fun ls hl => ?_)
    refine lv_aload_n hx hb dX12_clauseHere_10 rfl (lv_at hl 1 rfl) ?_
    refine tk_geti hC hK hw hT hinX12 kM_at0 (by decide) rfl 17 (by decide) (List.mem_cons_of_mem _ uw_19_7) rfl rfl dX12_clauseHere_11 (fun x246 c247 rx246 tx246 => ?_)
    refine wk_top f0_ (c247.symm.trans c25) ?_
    replace hM := hM.rd (sI_at c25)
    refine lv_bipush (v := 6) hx hb dX12_clauseHere_14 (by decide) ?_
    refine lv_icmp_ne (tgt := 23) hx hb dX12_clauseHere_16 (by decide) (fun _ => ?_) (fun c => absurd (show f0_.toInt = (6 : Int) from wk_eq.mp c) (by omega))
    replace hM := hM.pos (by omega)
    refine lv_iconst (v := 0) hx hb dX12_clauseHere_23 (by decide) ?_
    refine lv_istore_n (lv' := [(2, .int 0), (1, .int x17), (0, .ref (ad 0))]) hx hb dX12_clauseHere_24 rfl hl (by decide) rfl (fun ls hl => ?_)
    refine lv_iload_n hx hb dX12_clauseHere_25 rfl (lv_at hl 0 rfl) ?_
    refine lv_if_eq (tgt := 77) hx hb dX12_clauseHere_26 (by decide) (fun _ => ?_) (fun c => absurd (by decide) c)
    replace hM := hM.pos (by decide)
    refine lv_aload_n hx hb dX12_clauseHere_77 rfl (lv_at hl 2 rfl) ?_
    refine tk_Vi hC hK hw hT hA hE hSR kM_at0 (by decide) rfl (kz_X12_doingSort_1 l adK adV dC dI cy ad B (by omega) (by omega) qr s1    w5 H.size hT ) (cwV 0 hC.2.2.2.2 uV_RX12_264 rfl rfl rfl (by decide +kernel) ⟨Nat.le_of_ble_eq_true rfl, Nat.le_of_ble_eq_true rfl⟩) rfl hl.1 rfl (Nat.le_of_ble_eq_true rfl) dX12_clauseHere_78 (fun r248 w250 H locs hp249 hw => ?_)
    obtain ⟨hT, k251, hv259, hg258⟩ := hp249
    have hR := RL_FE k251 (fun _ => rfl) (fun _ => rfl) (fun _ => rfl) (fun _ => rfl) hR
    have hF := hF.tr k251 (by decide)
    have c260 := k251.gi kM_at0 (by decide) c25
    have c261 := k251.gi kM_at0 (by decide) c26
    have c262 := k251.gi kM_at0 (by decide) c27
    have c263 := k251.gi kM_at3 rfl c28
    have c264 := k251.gi kM_at5 rfl c29
    have c265 := k251.gi kM_at0 (by decide) c16
    rcases hg258 with ⟨g252, g253, ⟨x254, c255, rx254, tx254⟩⟩ | ⟨rfl, ⟨x256, c257, rx256, tx256⟩⟩
    · replace hM := hM.call hv259 rfl
      have ex254 : x254.toInt = x15.toInt := by rw [← c265.symm.trans c255]
      refine lv_if_lt (tgt := 88) hx hb dX12_clauseHere_81 (by decide) (fun c => absurd c (fun h => absurd (show r248.toInt < (0 : Int) from wk_lt.mp h) (by omega))) (fun _ => ?_)
      replace hM := hM.neg (by omega)
      refine lv_iconst (v := 1) hx hb dX12_clauseHere_84 (by decide) ?_
      refine lv_goto (tgt := 89) hx hb dX12_clauseHere_85 (by decide) ?_
      refine lv_istore_n (lv' := [(3, .int 1), (2, .int 0), (1, .int x17), (0, .ref (ad 0))]) hx hb dX12_clauseHere_89 rfl hl (by decide) rfl (fun ls hl => ?_)
      refine lv_iload_n hx hb dX12_clauseHere_90 rfl (lv_at hl 0 rfl) ?_
      refine lv_if_ne (tgt := 101) hx hb dX12_clauseHere_91 (by decide) (fun _ => ?_) (fun c => absurd c (by decide))
      replace hM := hM.pos (by decide)
      refine lv_aload_n hx hb dX12_clauseHere_101 rfl (lv_at hl 3 rfl) ?_
      refine tk_geti hC hK hw hT hinX12 kM_at0 (by decide) rfl 20 (by decide) (List.mem_cons_of_mem _ uw_19_17) rfl rfl dX12_clauseHere_102 (fun x266 c267 rx266 tx266 => ?_)
      refine wk_top f2_ (c267.symm.trans c262) ?_
      replace hM := hM.rd (sI_at c262)
      refine lv_iload_n hx hb dX12_clauseHere_105 rfl (lv_at hl 1 rfl) ?_
      refine lv_if_eq (tgt := 114) hx hb dX12_clauseHere_106 (by decide) (fun _ => ?_) (fun c => absurd (by decide) c)
      replace hM := hM.pos (by decide)
      refine lv_bipush (v := 12) hx hb dX12_clauseHere_114 (by decide) ?_
      refine lv_icmp_ne (tgt := 126) hx hb dX12_clauseHere_116 (by decide) (fun c268 => ?_) (fun c268 => ?_)
      · have c268 : ¬ f2_.toInt = (12 : Int) := wk_eqF c268
        replace hM := hM.pos c268
        refine lv_aload_n hx hb dX12_clauseHere_126 rfl (lv_at hl 3 rfl) ?_
        refine lv_dup hx hb dX12_clauseHere_127 rfl ?_
        refine tk_geti hC hK hw hT hinX12 kM_at0 (by decide) rfl 20 (by decide) (List.mem_cons_of_mem _ uw_19_17) rfl rfl dX12_clauseHere_128 (fun x269 c270 rx269 tx269 => ?_)
        refine wk_top f2_ (c270.symm.trans c262) ?_
        replace hM := hM.rd (sI_at c262)
        refine lv_iconst (v := 1) hx hb dX12_clauseHere_131 (by decide) ?_
        refine lv_iadd hx hb dX12_clauseHere_132 ?_
        refine lv_topi (fun x271 ex271 => ?_)
        have ezx271 := ex271
        have ex271 : x271.toInt = f2_.toInt + (1 : Int) := by rw [ex271]; exact wk_add (show (-2147483648) ≤ f2_.toInt + (1 : Int) by omega) (show f2_.toInt + (1 : Int) ≤ 2147483647 by omega)
        replace hM := hM.lt ex271.symm
        refine tk_puti hC hK hw hT hinX12 tyX12_ok nmX12 kM_at0 (by decide) rfl rfl 20 (by decide) (List.mem_cons_of_mem _ uw_19_17) rfl rfl rfl rfl (show 0 ≤ x271.toInt by omega) (show x271.toInt ≤ 32 by omega) dX12_clauseHere_133 (fun H locs w272 hw hT k274 c273 => ?_)
        replace hM := hM.wr (sI_up k274 c273)
        have hR := RL_F1 k274 (by decide) (by decide) (by decide) (by decide) hR
        have hF := hF.put kM_at0 (k := 20) (by decide) k274
        have c275 := k274.gi (Or.inr (by decide)) c260
        have c276 := k274.gi (Or.inr (by decide)) c261
        have c277 := k274.gi (Or.inl (tk_ne kM_at3 kM_at0 (by decide))) c263
        have c278 := k274.gi (Or.inl (tk_ne kM_at5 kM_at0 (by decide))) c264
        have c279 := k274.gi (Or.inr (by decide)) c265
        refine lv_iload_n hx hb dX12_clauseHere_136 rfl (lv_at hl 1 rfl) ?_
        refine lv_if_eq (tgt := 148) hx hb dX12_clauseHere_137 (by decide) (fun _ => ?_) (fun c => absurd (by decide) c)
        replace hM := hM.pos (by decide)
        refine lv_aload_n hx hb dX12_clauseHere_148 rfl (lv_at hl 3 rfl) ?_
        refine lv_aload_n hx hb dX12_clauseHere_149 rfl (lv_at hl 3 rfl) ?_
        refine tk_Vi hC hK hw hT hA hE hSR kM_at0 (by decide) rfl (kz_X12_doingSort_1 l adK adV dC dI cy ad B (by omega) (by omega) qr s1    w272 H.size hT ) (cwV 0 hC.2.2.2.2 uV_RX12_264 rfl rfl rfl (by decide +kernel) ⟨Nat.le_of_ble_eq_true rfl, Nat.le_of_ble_eq_true rfl⟩) rfl hl.1 rfl (Nat.le_of_ble_eq_true rfl) dX12_clauseHere_150 (fun r280 w282 H locs hp281 hw => ?_)
        obtain ⟨hT, k283, hv291, hg290⟩ := hp281
        have hR := RL_FE k283 (fun _ => rfl) (fun _ => rfl) (fun _ => rfl) (fun _ => rfl) hR
        have hF := hF.tr k283 (by decide)
        have c292 := k283.gi kM_at0 (by decide) c275
        have c293 := k283.gi kM_at0 (by decide) c276
        have c294 := k283.gi kM_at3 rfl c277
        have c295 := k283.gi kM_at5 rfl c278
        have c296 := k283.gi kM_at0 (by decide) c279
        have c297 := k283.gi kM_at0 (by decide) c273
        rcases hg290 with ⟨g284, g285, ⟨x286, c287, rx286, tx286⟩⟩ | ⟨rfl, ⟨x288, c289, rx288, tx288⟩⟩
        · replace hM := hM.call hv291 rfl
          have ex286 : x286.toInt = x15.toInt := by rw [← c296.symm.trans c287]
          refine tk_Vi hC hK hw hT hA hE hSR kM_at0 (by decide) rfl (kz_X12_isDoingHere_1 l adK adV dC dI cy ad B (by omega) (by omega) qr s1   r280 (show 0 ≤ r280.toInt by omega) (show r280.toInt ≤ 3 by omega) w282 H.size hT f0_ c292 (show 0 ≤ f0_.toInt from rf0_) (show f0_.toInt ≤ 5 from tf0_) f1_ c293 (show 0 ≤ f1_.toInt from rf1_) (show f1_.toInt ≤ 60 from tf1_) f3_ c294 (show 0 ≤ f3_.toInt from rf3_) (show f3_.toInt ≤ 400 from tf3_) f4_ c295 (show 0 ≤ f4_.toInt from rf4_) (show f4_.toInt ≤ 12 from tf4_) (show 3 * f3_.toInt ≤ 14 * f1_.toInt from pr0_) (show f3_.toInt ≤ 280 from pr3_) (show f4_.toInt ≤ 11 by omega) hR) (cwV 1 hC.2.2.2.2 uV_RX12_273 rfl rfl rfl (by decide +kernel) ⟨Nat.le_of_ble_eq_true rfl, Nat.le_of_ble_eq_true rfl⟩) rfl hl.1 rfl (Nat.le_of_ble_eq_true rfl) dX12_clauseHere_153 (fun r298 w300 H locs hp299 hw => ?_)
          obtain ⟨hT, k301, hv335, hg334⟩ := hp299
          have hF := hF.tr k301 (by decide)
          have c336 := k301.gi kM_at0 (by decide) c292
          have c337 := k301.gi kM_at0 (by decide) c296
          have c338 := k301.gi kM_at0 (by decide) c297
          rcases hg334 with ⟨rfl, ⟨x302, c303, rx302, tx302⟩, ⟨x304, c305, rx304, tx304⟩, ⟨x306, c307, rx306, tx306⟩, ⟨x308, c309, rx308, tx308⟩, hq310⟩ | ⟨rfl, ⟨x311, c312, rx311, tx311⟩, ⟨x313, c314, rx313, tx313⟩, ⟨x315, c316, rx315, tx315⟩, ⟨x317, c318, rx317, tx317⟩, hq319⟩ | ⟨rfl, ⟨x320, c321, rx320, tx320⟩, ⟨x322, c323, rx322, tx322⟩, hq324, g325, g326⟩ | ⟨rfl, ⟨x327, c328, rx327, tx327⟩, ⟨x329, c330, rx329, tx329⟩, hq331, g332, g333⟩
          · replace hM := hM.call (r' := 0) hv335 (by decide)
            have ex302 : x302.toInt = x15.toInt := by rw [← c337.symm.trans c303]
            have ex306 : x306.toInt = f0_.toInt := by rw [← c336.symm.trans c307]
            obtain ⟨x339, c340, rx339, tx339⟩ := hT.rda (lo := 0) (hi := 400) (i := (f0_.toInt).toNat) kM_at3 rfl rfl (by omega)
            obtain ⟨x341, c342, rx341, tx341⟩ := hT.rdi (lo := 0) (hi := 60) (k := 18) kM_at0 (by decide) rfl
            obtain ⟨x343, c344, rx343, tx343⟩ := hT.rda (lo := 0) (hi := 12) (i := (f0_.toInt).toNat) kM_at5 rfl rfl (by omega)
            have hR := hq310
            exact tk_zret hC hr rfl hlocks hK ⟨hT, hF, hM.ret (by decide), (Or.inl ⟨rfl, ⟨x15, c337, (show 1 ≤ x15.toInt by omega), (show x15.toInt ≤ 400 by omega)⟩, ⟨x304, c305, (show 1 ≤ x304.toInt by omega), (show x304.toInt ≤ 3205 by omega)⟩, ⟨f0_, c336, (show 0 ≤ f0_.toInt from rf0_), (show f0_.toInt ≤ 5 from tf0_)⟩, ⟨x271, c338, (show 0 ≤ x271.toInt by omega), (show x271.toInt ≤ 12 by omega)⟩, hR, (by simp only [c336, cf0_, cf2_, c338]; omega), (by simp only [c336, cf0_, c338]; omega)⟩)⟩ hw dX12_clauseHere_156
          · replace hM := hM.call (r' := 0) hv335 (by decide)
            have ex311 : x311.toInt = x15.toInt := by rw [← c337.symm.trans c312]
            have ex315 : x315.toInt = f0_.toInt := by rw [← c336.symm.trans c316]
            obtain ⟨x345, c346, rx345, tx345⟩ := hT.rda (lo := 0) (hi := 400) (i := (f0_.toInt).toNat) kM_at3 rfl rfl (by omega)
            obtain ⟨x347, c348, rx347, tx347⟩ := hT.rdi (lo := 0) (hi := 60) (k := 18) kM_at0 (by decide) rfl
            obtain ⟨x349, c350, rx349, tx349⟩ := hT.rda (lo := 0) (hi := 12) (i := (f0_.toInt).toNat) kM_at5 rfl rfl (by omega)
            have hR := hq319
            exact tk_zret hC hr rfl hlocks hK ⟨hT, hF, hM.ret (by decide), (Or.inl ⟨rfl, ⟨x15, c337, (show 1 ≤ x15.toInt by omega), (show x15.toInt ≤ 400 by omega)⟩, ⟨x313, c314, (show 1 ≤ x313.toInt by omega), (show x313.toInt ≤ 3205 by omega)⟩, ⟨f0_, c336, (show 0 ≤ f0_.toInt from rf0_), (show f0_.toInt ≤ 5 from tf0_)⟩, ⟨x271, c338, (show 0 ≤ x271.toInt by omega), (show x271.toInt ≤ 12 by omega)⟩, hR, (by simp only [c336, cf0_, cf2_, c338]; omega), (by simp only [c336, cf0_, c338]; omega)⟩)⟩ hw dX12_clauseHere_156
          · replace hM := hM.call (r' := 1) hv335 (by decide)
            have ex320 : x320.toInt = x15.toInt := by rw [← c337.symm.trans c321]
            have ex322 : x322.toInt = f0_.toInt := by rw [← c336.symm.trans c323]
            obtain ⟨x351, c352, rx351, tx351⟩ := hT.rda (lo := 0) (hi := 400) (i := (f0_.toInt).toNat) kM_at3 rfl rfl (by omega)
            obtain ⟨x353, c354, rx353, tx353⟩ := hT.rdi (lo := 0) (hi := 60) (k := 18) kM_at0 (by decide) rfl
            obtain ⟨x355, c356, rx355, tx355⟩ := hT.rda (lo := 0) (hi := 12) (i := (f0_.toInt).toNat) kM_at5 rfl rfl (by omega)
            have g325 : 3 * x351.toInt ≤ 14 * x353.toInt := by have q := g325; simp only [c292, c336, c352, c354] at q; omega
            have g326 : x355.toInt = f4_.toInt + 1 := by have q := g326; simp only [c292, c336, c295, c356] at q; omega
            have hR := hq324
            exact tk_zret hC hr rfl hlocks hK ⟨hT, hF, hM.ret (by decide), (Or.inr (Or.inr (Or.inl ⟨rfl, ⟨x15, c337, (show 1 ≤ x15.toInt by omega), (show x15.toInt ≤ 400 by omega)⟩, ⟨f0_, c336, (show 0 ≤ f0_.toInt from rf0_), (show f0_.toInt ≤ 5 from tf0_)⟩, ⟨x271, c338, (show 1 ≤ x271.toInt by omega), (show x271.toInt ≤ 12 by omega)⟩, hR, (by simp only [c336, cf0_, c352, c354]; omega), (by simp only [c336, cf0_, c356, c338]; omega), (by simp only [c336, cf0_, cf2_, c338]; omega), (by simp only [c336, cf0_, c338]; omega)⟩)))⟩ hw dX12_clauseHere_156
          · replace hM := hM.call (r' := 1) hv335 (by decide)
            have ex327 : x327.toInt = x15.toInt := by rw [← c337.symm.trans c328]
            have ex329 : x329.toInt = f0_.toInt := by rw [← c336.symm.trans c330]
            obtain ⟨x357, c358, rx357, tx357⟩ := hT.rda (lo := 0) (hi := 400) (i := (f0_.toInt).toNat) kM_at3 rfl rfl (by omega)
            obtain ⟨x359, c360, rx359, tx359⟩ := hT.rdi (lo := 0) (hi := 60) (k := 18) kM_at0 (by decide) rfl
            obtain ⟨x361, c362, rx361, tx361⟩ := hT.rda (lo := 0) (hi := 12) (i := (f0_.toInt).toNat) kM_at5 rfl rfl (by omega)
            have g332 : 3 * x357.toInt ≤ 14 * x359.toInt := by have q := g332; simp only [c292, c336, c358, c360] at q; omega
            have g333 : x361.toInt = f4_.toInt + 1 := by have q := g333; simp only [c292, c336, c295, c362] at q; omega
            have hR := hq331
            exact tk_zret hC hr rfl hlocks hK ⟨hT, hF, hM.ret (by decide), (Or.inr (Or.inr (Or.inl ⟨rfl, ⟨x15, c337, (show 1 ≤ x15.toInt by omega), (show x15.toInt ≤ 400 by omega)⟩, ⟨f0_, c336, (show 0 ≤ f0_.toInt from rf0_), (show f0_.toInt ≤ 5 from tf0_)⟩, ⟨x271, c338, (show 1 ≤ x271.toInt by omega), (show x271.toInt ≤ 12 by omega)⟩, hR, (by simp only [c336, cf0_, c358, c360]; omega), (by simp only [c336, cf0_, c362, c338]; omega), (by simp only [c336, cf0_, cf2_, c338]; omega), (by simp only [c336, cf0_, c338]; omega)⟩)))⟩ hw dX12_clauseHere_156
        · replace hM := hM.call (r' := (-1)) hv291 (by decide)
          have ex288 : x288.toInt = x15.toInt := by rw [← c296.symm.trans c289]
          refine tk_Vi hC hK hw hT hA hE hSR kM_at0 (by decide) rfl (kz_X12_isDoingHere_2 l adK adV dC dI cy ad B (by omega) (by omega) qr s1    w282 H.size hT f0_ c292 (show 0 ≤ f0_.toInt from rf0_) (show f0_.toInt ≤ 5 from tf0_) f1_ c293 (show 0 ≤ f1_.toInt from rf1_) (show f1_.toInt ≤ 60 from tf1_) f3_ c294 (show 0 ≤ f3_.toInt from rf3_) (show f3_.toInt ≤ 400 from tf3_) f4_ c295 (show 0 ≤ f4_.toInt from rf4_) (show f4_.toInt ≤ 12 from tf4_) (show 3 * f3_.toInt ≤ 14 * f1_.toInt from pr0_) (show f3_.toInt ≤ 280 from pr3_) (show f4_.toInt ≤ 11 by omega) hR) (cwV 1 hC.2.2.2.2 uV_RX12_273 rfl rfl rfl (by decide +kernel) ⟨Nat.le_of_ble_eq_true rfl, Nat.le_of_ble_eq_true rfl⟩) rfl hl.1 rfl (Nat.le_of_ble_eq_true rfl) dX12_clauseHere_153 (fun r363 w365 H locs hp364 hw => ?_)
          obtain ⟨hT, k366, hv400, hg399⟩ := hp364
          have hF := hF.tr k366 (by decide)
          have c401 := k366.gi kM_at0 (by decide) c292
          have c402 := k366.gi kM_at0 (by decide) c296
          have c403 := k366.gi kM_at0 (by decide) c297
          rcases hg399 with ⟨rfl, ⟨x367, c368, rx367, tx367⟩, ⟨x369, c370, rx369, tx369⟩, ⟨x371, c372, rx371, tx371⟩, ⟨x373, c374, rx373, tx373⟩, hq375⟩ | ⟨rfl, ⟨x376, c377, rx376, tx376⟩, ⟨x378, c379, rx378, tx378⟩, ⟨x380, c381, rx380, tx380⟩, ⟨x382, c383, rx382, tx382⟩, hq384⟩ | ⟨rfl, ⟨x385, c386, rx385, tx385⟩, ⟨x387, c388, rx387, tx387⟩, hq389, g390, g391⟩ | ⟨rfl, ⟨x392, c393, rx392, tx392⟩, ⟨x394, c395, rx394, tx394⟩, hq396, g397, g398⟩
          · replace hM := hM.call (r' := 0) hv400 (by decide)
            have ex367 : x367.toInt = x15.toInt := by rw [← c402.symm.trans c368]
            have ex371 : x371.toInt = f0_.toInt := by rw [← c401.symm.trans c372]
            obtain ⟨x404, c405, rx404, tx404⟩ := hT.rda (lo := 0) (hi := 400) (i := (f0_.toInt).toNat) kM_at3 rfl rfl (by omega)
            obtain ⟨x406, c407, rx406, tx406⟩ := hT.rdi (lo := 0) (hi := 60) (k := 18) kM_at0 (by decide) rfl
            obtain ⟨x408, c409, rx408, tx408⟩ := hT.rda (lo := 0) (hi := 12) (i := (f0_.toInt).toNat) kM_at5 rfl rfl (by omega)
            have hR := hq375
            exact tk_zret hC hr rfl hlocks hK ⟨hT, hF, hM.ret (by decide), (Or.inl ⟨rfl, ⟨x15, c402, (show 1 ≤ x15.toInt by omega), (show x15.toInt ≤ 400 by omega)⟩, ⟨x369, c370, (show 1 ≤ x369.toInt by omega), (show x369.toInt ≤ 3205 by omega)⟩, ⟨f0_, c401, (show 0 ≤ f0_.toInt from rf0_), (show f0_.toInt ≤ 5 from tf0_)⟩, ⟨x271, c403, (show 0 ≤ x271.toInt by omega), (show x271.toInt ≤ 12 by omega)⟩, hR, (by simp only [c401, cf0_, cf2_, c403]; omega), (by simp only [c401, cf0_, c403]; omega)⟩)⟩ hw dX12_clauseHere_156
          · replace hM := hM.call (r' := 0) hv400 (by decide)
            have ex376 : x376.toInt = x15.toInt := by rw [← c402.symm.trans c377]
            have ex380 : x380.toInt = f0_.toInt := by rw [← c401.symm.trans c381]
            obtain ⟨x410, c411, rx410, tx410⟩ := hT.rda (lo := 0) (hi := 400) (i := (f0_.toInt).toNat) kM_at3 rfl rfl (by omega)
            obtain ⟨x412, c413, rx412, tx412⟩ := hT.rdi (lo := 0) (hi := 60) (k := 18) kM_at0 (by decide) rfl
            obtain ⟨x414, c415, rx414, tx414⟩ := hT.rda (lo := 0) (hi := 12) (i := (f0_.toInt).toNat) kM_at5 rfl rfl (by omega)
            have hR := hq384
            exact tk_zret hC hr rfl hlocks hK ⟨hT, hF, hM.ret (by decide), (Or.inl ⟨rfl, ⟨x15, c402, (show 1 ≤ x15.toInt by omega), (show x15.toInt ≤ 400 by omega)⟩, ⟨x378, c379, (show 1 ≤ x378.toInt by omega), (show x378.toInt ≤ 3205 by omega)⟩, ⟨f0_, c401, (show 0 ≤ f0_.toInt from rf0_), (show f0_.toInt ≤ 5 from tf0_)⟩, ⟨x271, c403, (show 0 ≤ x271.toInt by omega), (show x271.toInt ≤ 12 by omega)⟩, hR, (by simp only [c401, cf0_, cf2_, c403]; omega), (by simp only [c401, cf0_, c403]; omega)⟩)⟩ hw dX12_clauseHere_156
          · replace hM := hM.call (r' := 1) hv400 (by decide)
            have ex385 : x385.toInt = x15.toInt := by rw [← c402.symm.trans c386]
            have ex387 : x387.toInt = f0_.toInt := by rw [← c401.symm.trans c388]
            obtain ⟨x416, c417, rx416, tx416⟩ := hT.rda (lo := 0) (hi := 400) (i := (f0_.toInt).toNat) kM_at3 rfl rfl (by omega)
            obtain ⟨x418, c419, rx418, tx418⟩ := hT.rdi (lo := 0) (hi := 60) (k := 18) kM_at0 (by decide) rfl
            obtain ⟨x420, c421, rx420, tx420⟩ := hT.rda (lo := 0) (hi := 12) (i := (f0_.toInt).toNat) kM_at5 rfl rfl (by omega)
            have g390 : 3 * x416.toInt ≤ 14 * x418.toInt := by have q := g390; simp only [c292, c401, c417, c419] at q; omega
            have g391 : x420.toInt = f4_.toInt + 1 := by have q := g391; simp only [c292, c401, c295, c421] at q; omega
            have hR := hq389
            exact tk_zret hC hr rfl hlocks hK ⟨hT, hF, hM.ret (by decide), (Or.inr (Or.inr (Or.inl ⟨rfl, ⟨x15, c402, (show 1 ≤ x15.toInt by omega), (show x15.toInt ≤ 400 by omega)⟩, ⟨f0_, c401, (show 0 ≤ f0_.toInt from rf0_), (show f0_.toInt ≤ 5 from tf0_)⟩, ⟨x271, c403, (show 1 ≤ x271.toInt by omega), (show x271.toInt ≤ 12 by omega)⟩, hR, (by simp only [c401, cf0_, c417, c419]; omega), (by simp only [c401, cf0_, c421, c403]; omega), (by simp only [c401, cf0_, cf2_, c403]; omega), (by simp only [c401, cf0_, c403]; omega)⟩)))⟩ hw dX12_clauseHere_156
          · replace hM := hM.call (r' := 1) hv400 (by decide)
            have ex392 : x392.toInt = x15.toInt := by rw [← c402.symm.trans c393]
            have ex394 : x394.toInt = f0_.toInt := by rw [← c401.symm.trans c395]
            obtain ⟨x422, c423, rx422, tx422⟩ := hT.rda (lo := 0) (hi := 400) (i := (f0_.toInt).toNat) kM_at3 rfl rfl (by omega)
            obtain ⟨x424, c425, rx424, tx424⟩ := hT.rdi (lo := 0) (hi := 60) (k := 18) kM_at0 (by decide) rfl
            obtain ⟨x426, c427, rx426, tx426⟩ := hT.rda (lo := 0) (hi := 12) (i := (f0_.toInt).toNat) kM_at5 rfl rfl (by omega)
            have g397 : 3 * x422.toInt ≤ 14 * x424.toInt := by have q := g397; simp only [c292, c401, c423, c425] at q; omega
            have g398 : x426.toInt = f4_.toInt + 1 := by have q := g398; simp only [c292, c401, c295, c427] at q; omega
            have hR := hq396
            exact tk_zret hC hr rfl hlocks hK ⟨hT, hF, hM.ret (by decide), (Or.inr (Or.inr (Or.inl ⟨rfl, ⟨x15, c402, (show 1 ≤ x15.toInt by omega), (show x15.toInt ≤ 400 by omega)⟩, ⟨f0_, c401, (show 0 ≤ f0_.toInt from rf0_), (show f0_.toInt ≤ 5 from tf0_)⟩, ⟨x271, c403, (show 1 ≤ x271.toInt by omega), (show x271.toInt ≤ 12 by omega)⟩, hR, (by simp only [c401, cf0_, c423, c425]; omega), (by simp only [c401, cf0_, c427, c403]; omega), (by simp only [c401, cf0_, cf2_, c403]; omega), (by simp only [c401, cf0_, c403]; omega)⟩)))⟩ hw dX12_clauseHere_156
      · have c268 : f2_.toInt = (12 : Int) := wk_eq.mp c268
        replace hM := hM.neg (fun q => q c268)
        refine lv_aload_n hx hb dX12_clauseHere_119 rfl (lv_at hl 3 rfl) ?_
        refine lv_iconst (v := 4) hx hb dX12_clauseHere_120 (by decide) ?_
        refine lv_iload_n hx hb dX12_clauseHere_121 rfl (lv_at hl 2 rfl) ?_
        refine tk_Vi hC hK hw hT hA hE hSR kM_at0 (by decide) rfl (kz_X12_fails_1 l adK adV dC dI cy ad B (by omega) (by omega) qr s1   4 (by decide) (by decide) x17 (show 0 ≤ x17.toInt by omega) (show x17.toInt ≤ 400 by omega) w250 H.size hT ) (cwV 2 hC.2.2.2.2 uV_RX12_115 rfl rfl rfl (by decide +kernel) ⟨Nat.le_of_ble_eq_true rfl, Nat.le_of_ble_eq_true rfl⟩) rfl hl.1 rfl (Nat.le_of_ble_eq_true rfl) dX12_clauseHere_122 (fun r428 w430 H locs hp429 hw => ?_)
        obtain ⟨hT, k431, hv435, hg434⟩ := hp429
        try simp only [show (4 : Int32).toInt = 4 by decide] at hv435
        have hR := RL_FE k431 (fun _ => rfl) (fun _ => rfl) (fun _ => rfl) (fun _ => rfl) hR
        have hF := hF.tr k431 (by decide)
        have c436 := k431.gi kM_at0 (by decide) c260
        have c437 := k431.gi kM_at0 (by decide) c261
        have c438 := k431.gi kM_at0 (by decide) c262
        have c439 := k431.gi kM_at3 rfl c263
        have c440 := k431.gi kM_at5 rfl c264
        have c441 := k431.gi kM_at0 (by decide) c265
        obtain ⟨rfl, ⟨x432, c433, rx432, tx432⟩⟩ := hg434
        replace hM := hM.call (r' := 0) hv435 (by decide)
        exact tk_zret hC hr rfl hlocks hK ⟨hT, hF, hM.ret (by decide), (Or.inl ⟨rfl, ⟨x15, c441, (show 1 ≤ x15.toInt by omega), (show x15.toInt ≤ 400 by omega)⟩, ⟨x432, c433, (show 1 ≤ x432.toInt by omega), (show x432.toInt ≤ 3205 by omega)⟩, ⟨f0_, c436, (show 0 ≤ f0_.toInt from rf0_), (show f0_.toInt ≤ 5 from tf0_)⟩, ⟨f2_, c438, (show 0 ≤ f2_.toInt from rf2_), (show f2_.toInt ≤ 12 from pr2_)⟩, hR, (by simp only [c436, cf0_, cf2_, c438]; omega), (by simp only [c436, cf0_, c438]; omega)⟩)⟩ hw dX12_clauseHere_125
    · replace hM := hM.call (r' := (-1)) hv259 (by decide)
      have ex256 : x256.toInt = x15.toInt := by rw [← c265.symm.trans c257]
      refine lv_if_lt (tgt := 88) hx hb dX12_clauseHere_81 (by decide) (fun _ => ?_) (fun c => absurd (by decide) c)
      replace hM := hM.pos (by decide)
      refine lv_iconst (v := 0) hx hb dX12_clauseHere_88 (by decide) ?_
      refine lv_istore_n (lv' := [(3, .int 0), (2, .int 0), (1, .int x17), (0, .ref (ad 0))]) hx hb dX12_clauseHere_89 rfl hl (by decide) rfl (fun ls hl => ?_)
      refine lv_iload_n hx hb dX12_clauseHere_90 rfl (lv_at hl 0 rfl) ?_
      refine lv_if_ne (tgt := 101) hx hb dX12_clauseHere_91 (by decide) (fun c => absurd (by decide) c) (fun _ => ?_)
      replace hM := hM.neg (by decide)
      refine lv_aload_n hx hb dX12_clauseHere_94 rfl (lv_at hl 3 rfl) ?_
      refine lv_iconst (v := 0) hx hb dX12_clauseHere_95 (by decide) ?_
      refine lv_iload_n hx hb dX12_clauseHere_96 rfl (lv_at hl 2 rfl) ?_
      refine tk_Vi hC hK hw hT hA hE hSR kM_at0 (by decide) rfl (kz_X12_fails_1 l adK adV dC dI cy ad B (by omega) (by omega) qr s1   0 (by decide) (by decide) x17 (show 0 ≤ x17.toInt by omega) (show x17.toInt ≤ 400 by omega) w250 H.size hT ) (cwV 2 hC.2.2.2.2 uV_RX12_115 rfl rfl rfl (by decide +kernel) ⟨Nat.le_of_ble_eq_true rfl, Nat.le_of_ble_eq_true rfl⟩) rfl hl.1 rfl (Nat.le_of_ble_eq_true rfl) dX12_clauseHere_97 (fun r442 w444 H locs hp443 hw => ?_)
      obtain ⟨hT, k445, hv449, hg448⟩ := hp443
      try simp only [show (0 : Int32).toInt = 0 by decide] at hv449
      have hR := RL_FE k445 (fun _ => rfl) (fun _ => rfl) (fun _ => rfl) (fun _ => rfl) hR
      have hF := hF.tr k445 (by decide)
      have c450 := k445.gi kM_at0 (by decide) c260
      have c451 := k445.gi kM_at0 (by decide) c261
      have c452 := k445.gi kM_at0 (by decide) c262
      have c453 := k445.gi kM_at3 rfl c263
      have c454 := k445.gi kM_at5 rfl c264
      have c455 := k445.gi kM_at0 (by decide) c265
      obtain ⟨rfl, ⟨x446, c447, rx446, tx446⟩⟩ := hg448
      replace hM := hM.call (r' := 0) hv449 (by decide)
      exact tk_zret hC hr rfl hlocks hK ⟨hT, hF, hM.ret (by decide), (Or.inl ⟨rfl, ⟨x15, c455, (show 1 ≤ x15.toInt by omega), (show x15.toInt ≤ 400 by omega)⟩, ⟨x446, c447, (show 1 ≤ x446.toInt by omega), (show x446.toInt ≤ 3205 by omega)⟩, ⟨f0_, c450, (show 0 ≤ f0_.toInt from rf0_), (show f0_.toInt ≤ 5 from tf0_)⟩, ⟨f2_, c452, (show 0 ≤ f2_.toInt from rf2_), (show f2_.toInt ≤ 12 from pr2_)⟩, hR, (by simp only [c450, cf0_, cf2_, c452]; omega), (by simp only [c450, cf0_, c452]; omega)⟩)⟩ hw dX12_clauseHere_100
  · replace hM := hM.call (r' := (-1)) hv24 (by decide)
    obtain ⟨x30, c31, rx30, tx30⟩ := hT.rdi (lo := 0) (hi := 400) (k := 14) kM_at0 (by decide) rfl
    have g22 : (x30.toInt = x1.toInt ∨ (gi w0 1 (x1.toInt).toNat).toInt = 32) := by have q := g22; simp only [cf0_, c25, c2, c31] at q; omega
    refine lv_pop hx hb dX12_clauseHere_4 rfl ?_
    refine lv_aload_n hx hb dX12_clauseHere_5 rfl (lv_at hl 0 rfl) ?_
    refine tk_geti hC hK hw hT hinX12 kM_at0 (by decide) rfl 14 (by decide) (List.mem_cons_of_mem _ uw_19_18) rfl rfl dX12_clauseHere_6 (fun x456 c457 rx456 tx456 => ?_)
    refine wk_top x30 (c457.symm.trans c31) ?_
    replace hM := hM.rd (sI_at c31)
    refine lv_istore_n (lv' := [(1, .int x30), (0, .ref (ad 0))]) hx hb dX12_clauseHere_9 rfl hl (by decide) rfl (fun ls hl => ?_)
    refine lv_aload_n hx hb dX12_clauseHere_10 rfl (lv_at hl 1 rfl) ?_
    refine tk_geti hC hK hw hT hinX12 kM_at0 (by decide) rfl 17 (by decide) (List.mem_cons_of_mem _ uw_19_7) rfl rfl dX12_clauseHere_11 (fun x458 c459 rx458 tx458 => ?_)
    refine wk_top f0_ (c459.symm.trans c25) ?_
    replace hM := hM.rd (sI_at c25)
    refine lv_bipush (v := 6) hx hb dX12_clauseHere_14 (by decide) ?_
    refine lv_icmp_ne (tgt := 23) hx hb dX12_clauseHere_16 (by decide) (fun _ => ?_) (fun c => absurd (show f0_.toInt = (6 : Int) from wk_eq.mp c) (by omega))
    replace hM := hM.pos (by omega)
    refine lv_iconst (v := 0) hx hb dX12_clauseHere_23 (by decide) ?_
    refine lv_istore_n (lv' := [(2, .int 0), (1, .int x30), (0, .ref (ad 0))]) hx hb dX12_clauseHere_24 rfl hl (by decide) rfl (fun ls hl => ?_)
    refine lv_iload_n hx hb dX12_clauseHere_25 rfl (lv_at hl 0 rfl) ?_
    refine lv_if_eq (tgt := 77) hx hb dX12_clauseHere_26 (by decide) (fun _ => ?_) (fun c => absurd (by decide) c)
    replace hM := hM.pos (by decide)
    refine lv_aload_n hx hb dX12_clauseHere_77 rfl (lv_at hl 2 rfl) ?_
    refine tk_Vi hC hK hw hT hA hE hSR kM_at0 (by decide) rfl (kz_X12_doingSort_1 l adK adV dC dI cy ad B (by omega) (by omega) qr s1    w5 H.size hT ) (cwV 0 hC.2.2.2.2 uV_RX12_264 rfl rfl rfl (by decide +kernel) ⟨Nat.le_of_ble_eq_true rfl, Nat.le_of_ble_eq_true rfl⟩) rfl hl.1 rfl (Nat.le_of_ble_eq_true rfl) dX12_clauseHere_78 (fun r460 w462 H locs hp461 hw => ?_)
    obtain ⟨hT, k463, hv471, hg470⟩ := hp461
    have hR := RL_FE k463 (fun _ => rfl) (fun _ => rfl) (fun _ => rfl) (fun _ => rfl) hR
    have hF := hF.tr k463 (by decide)
    have c472 := k463.gi kM_at0 (by decide) c25
    have c473 := k463.gi kM_at0 (by decide) c26
    have c474 := k463.gi kM_at0 (by decide) c27
    have c475 := k463.gi kM_at3 rfl c28
    have c476 := k463.gi kM_at5 rfl c29
    have c477 := k463.gi kM_at0 (by decide) c21
    rcases hg470 with ⟨g464, g465, ⟨x466, c467, rx466, tx466⟩⟩ | ⟨rfl, ⟨x468, c469, rx468, tx468⟩⟩
    · replace hM := hM.call hv471 rfl
      have ex466 : x466.toInt = x20.toInt := by rw [← c477.symm.trans c467]
      refine lv_if_lt (tgt := 88) hx hb dX12_clauseHere_81 (by decide) (fun c => absurd c (fun h => absurd (show r460.toInt < (0 : Int) from wk_lt.mp h) (by omega))) (fun _ => ?_)
      replace hM := hM.neg (by omega)
      refine lv_iconst (v := 1) hx hb dX12_clauseHere_84 (by decide) ?_
      refine lv_goto (tgt := 89) hx hb dX12_clauseHere_85 (by decide) ?_
      refine lv_istore_n (lv' := [(3, .int 1), (2, .int 0), (1, .int x30), (0, .ref (ad 0))]) hx hb dX12_clauseHere_89 rfl hl (by decide) rfl (fun ls hl => ?_)
      refine lv_iload_n hx hb dX12_clauseHere_90 rfl (lv_at hl 0 rfl) ?_
      refine lv_if_ne (tgt := 101) hx hb dX12_clauseHere_91 (by decide) (fun _ => ?_) (fun c => absurd c (by decide))
      replace hM := hM.pos (by decide)
      refine lv_aload_n hx hb dX12_clauseHere_101 rfl (lv_at hl 3 rfl) ?_
      refine tk_geti hC hK hw hT hinX12 kM_at0 (by decide) rfl 20 (by decide) (List.mem_cons_of_mem _ uw_19_17) rfl rfl dX12_clauseHere_102 (fun x478 c479 rx478 tx478 => ?_)
      refine wk_top f2_ (c479.symm.trans c474) ?_
      replace hM := hM.rd (sI_at c474)
      refine lv_iload_n hx hb dX12_clauseHere_105 rfl (lv_at hl 1 rfl) ?_
      refine lv_if_eq (tgt := 114) hx hb dX12_clauseHere_106 (by decide) (fun _ => ?_) (fun c => absurd (by decide) c)
      replace hM := hM.pos (by decide)
      refine lv_bipush (v := 12) hx hb dX12_clauseHere_114 (by decide) ?_
      refine lv_icmp_ne (tgt := 126) hx hb dX12_clauseHere_116 (by decide) (fun c480 => ?_) (fun c480 => ?_)
      · have c480 : ¬ f2_.toInt = (12 : Int) := wk_eqF c480
        replace hM := hM.pos c480
        refine lv_aload_n hx hb dX12_clauseHere_126 rfl (lv_at hl 3 rfl) ?_
        refine lv_dup hx hb dX12_clauseHere_127 rfl ?_
        refine tk_geti hC hK hw hT hinX12 kM_at0 (by decide) rfl 20 (by decide) (List.mem_cons_of_mem _ uw_19_17) rfl rfl dX12_clauseHere_128 (fun x481 c482 rx481 tx481 => ?_)
        refine wk_top f2_ (c482.symm.trans c474) ?_
        replace hM := hM.rd (sI_at c474)
        refine lv_iconst (v := 1) hx hb dX12_clauseHere_131 (by decide) ?_
        refine lv_iadd hx hb dX12_clauseHere_132 ?_
        refine lv_topi (fun x483 ex483 => ?_)
        have ezx483 := ex483
        have ex483 : x483.toInt = f2_.toInt + (1 : Int) := by rw [ex483]; exact wk_add (show (-2147483648) ≤ f2_.toInt + (1 : Int) by omega) (show f2_.toInt + (1 : Int) ≤ 2147483647 by omega)
        replace hM := hM.lt ex483.symm
        refine tk_puti hC hK hw hT hinX12 tyX12_ok nmX12 kM_at0 (by decide) rfl rfl 20 (by decide) (List.mem_cons_of_mem _ uw_19_17) rfl rfl rfl rfl (show 0 ≤ x483.toInt by omega) (show x483.toInt ≤ 32 by omega) dX12_clauseHere_133 (fun H locs w484 hw hT k486 c485 => ?_)
        replace hM := hM.wr (sI_up k486 c485)
        have hR := RL_F1 k486 (by decide) (by decide) (by decide) (by decide) hR
        have hF := hF.put kM_at0 (k := 20) (by decide) k486
        have c487 := k486.gi (Or.inr (by decide)) c472
        have c488 := k486.gi (Or.inr (by decide)) c473
        have c489 := k486.gi (Or.inl (tk_ne kM_at3 kM_at0 (by decide))) c475
        have c490 := k486.gi (Or.inl (tk_ne kM_at5 kM_at0 (by decide))) c476
        have c491 := k486.gi (Or.inr (by decide)) c477
        refine lv_iload_n hx hb dX12_clauseHere_136 rfl (lv_at hl 1 rfl) ?_
        refine lv_if_eq (tgt := 148) hx hb dX12_clauseHere_137 (by decide) (fun _ => ?_) (fun c => absurd (by decide) c)
        replace hM := hM.pos (by decide)
        refine lv_aload_n hx hb dX12_clauseHere_148 rfl (lv_at hl 3 rfl) ?_
        refine lv_aload_n hx hb dX12_clauseHere_149 rfl (lv_at hl 3 rfl) ?_
        refine tk_Vi hC hK hw hT hA hE hSR kM_at0 (by decide) rfl (kz_X12_doingSort_1 l adK adV dC dI cy ad B (by omega) (by omega) qr s1    w484 H.size hT ) (cwV 0 hC.2.2.2.2 uV_RX12_264 rfl rfl rfl (by decide +kernel) ⟨Nat.le_of_ble_eq_true rfl, Nat.le_of_ble_eq_true rfl⟩) rfl hl.1 rfl (Nat.le_of_ble_eq_true rfl) dX12_clauseHere_150 (fun r492 w494 H locs hp493 hw => ?_)
        obtain ⟨hT, k495, hv503, hg502⟩ := hp493
        have hR := RL_FE k495 (fun _ => rfl) (fun _ => rfl) (fun _ => rfl) (fun _ => rfl) hR
        have hF := hF.tr k495 (by decide)
        have c504 := k495.gi kM_at0 (by decide) c487
        have c505 := k495.gi kM_at0 (by decide) c488
        have c506 := k495.gi kM_at3 rfl c489
        have c507 := k495.gi kM_at5 rfl c490
        have c508 := k495.gi kM_at0 (by decide) c491
        have c509 := k495.gi kM_at0 (by decide) c485
        rcases hg502 with ⟨g496, g497, ⟨x498, c499, rx498, tx498⟩⟩ | ⟨rfl, ⟨x500, c501, rx500, tx500⟩⟩
        · replace hM := hM.call hv503 rfl
          have ex498 : x498.toInt = x20.toInt := by rw [← c508.symm.trans c499]
          refine tk_Vi hC hK hw hT hA hE hSR kM_at0 (by decide) rfl (kz_X12_isDoingHere_1 l adK adV dC dI cy ad B (by omega) (by omega) qr s1   r492 (show 0 ≤ r492.toInt by omega) (show r492.toInt ≤ 3 by omega) w494 H.size hT f0_ c504 (show 0 ≤ f0_.toInt from rf0_) (show f0_.toInt ≤ 5 from tf0_) f1_ c505 (show 0 ≤ f1_.toInt from rf1_) (show f1_.toInt ≤ 60 from tf1_) f3_ c506 (show 0 ≤ f3_.toInt from rf3_) (show f3_.toInt ≤ 400 from tf3_) f4_ c507 (show 0 ≤ f4_.toInt from rf4_) (show f4_.toInt ≤ 12 from tf4_) (show 3 * f3_.toInt ≤ 14 * f1_.toInt from pr0_) (show f3_.toInt ≤ 280 from pr3_) (show f4_.toInt ≤ 11 by omega) hR) (cwV 1 hC.2.2.2.2 uV_RX12_273 rfl rfl rfl (by decide +kernel) ⟨Nat.le_of_ble_eq_true rfl, Nat.le_of_ble_eq_true rfl⟩) rfl hl.1 rfl (Nat.le_of_ble_eq_true rfl) dX12_clauseHere_153 (fun r510 w512 H locs hp511 hw => ?_)
          obtain ⟨hT, k513, hv547, hg546⟩ := hp511
          have hF := hF.tr k513 (by decide)
          have c548 := k513.gi kM_at0 (by decide) c504
          have c549 := k513.gi kM_at0 (by decide) c508
          have c550 := k513.gi kM_at0 (by decide) c509
          rcases hg546 with ⟨rfl, ⟨x514, c515, rx514, tx514⟩, ⟨x516, c517, rx516, tx516⟩, ⟨x518, c519, rx518, tx518⟩, ⟨x520, c521, rx520, tx520⟩, hq522⟩ | ⟨rfl, ⟨x523, c524, rx523, tx523⟩, ⟨x525, c526, rx525, tx525⟩, ⟨x527, c528, rx527, tx527⟩, ⟨x529, c530, rx529, tx529⟩, hq531⟩ | ⟨rfl, ⟨x532, c533, rx532, tx532⟩, ⟨x534, c535, rx534, tx534⟩, hq536, g537, g538⟩ | ⟨rfl, ⟨x539, c540, rx539, tx539⟩, ⟨x541, c542, rx541, tx541⟩, hq543, g544, g545⟩
          · replace hM := hM.call (r' := 0) hv547 (by decide)
            have ex514 : x514.toInt = x20.toInt := by rw [← c549.symm.trans c515]
            have ex518 : x518.toInt = f0_.toInt := by rw [← c548.symm.trans c519]
            obtain ⟨x551, c552, rx551, tx551⟩ := hT.rda (lo := 0) (hi := 400) (i := (f0_.toInt).toNat) kM_at3 rfl rfl (by omega)
            obtain ⟨x553, c554, rx553, tx553⟩ := hT.rdi (lo := 0) (hi := 60) (k := 18) kM_at0 (by decide) rfl
            obtain ⟨x555, c556, rx555, tx555⟩ := hT.rda (lo := 0) (hi := 12) (i := (f0_.toInt).toNat) kM_at5 rfl rfl (by omega)
            have hR := hq522
            exact tk_zret hC hr rfl hlocks hK ⟨hT, hF, hM.ret (by decide), (Or.inl ⟨rfl, ⟨x20, c549, (show 1 ≤ x20.toInt by omega), (show x20.toInt ≤ 400 by omega)⟩, ⟨x516, c517, (show 1 ≤ x516.toInt by omega), (show x516.toInt ≤ 3205 by omega)⟩, ⟨f0_, c548, (show 0 ≤ f0_.toInt from rf0_), (show f0_.toInt ≤ 5 from tf0_)⟩, ⟨x483, c550, (show 0 ≤ x483.toInt by omega), (show x483.toInt ≤ 12 by omega)⟩, hR, (by simp only [c548, cf0_, cf2_, c550]; omega), (by simp only [c548, cf0_, c550]; omega)⟩)⟩ hw dX12_clauseHere_156
          · replace hM := hM.call (r' := 0) hv547 (by decide)
            have ex523 : x523.toInt = x20.toInt := by rw [← c549.symm.trans c524]
            have ex527 : x527.toInt = f0_.toInt := by rw [← c548.symm.trans c528]
            obtain ⟨x557, c558, rx557, tx557⟩ := hT.rda (lo := 0) (hi := 400) (i := (f0_.toInt).toNat) kM_at3 rfl rfl (by omega)
            obtain ⟨x559, c560, rx559, tx559⟩ := hT.rdi (lo := 0) (hi := 60) (k := 18) kM_at0 (by decide) rfl
            obtain ⟨x561, c562, rx561, tx561⟩ := hT.rda (lo := 0) (hi := 12) (i := (f0_.toInt).toNat) kM_at5 rfl rfl (by omega)
            have hR := hq531
            exact tk_zret hC hr rfl hlocks hK ⟨hT, hF, hM.ret (by decide), (Or.inr (Or.inl ⟨rfl, ⟨x20, c549, (show 0 ≤ x20.toInt by omega), (show x20.toInt ≤ 400 by omega)⟩, ⟨x525, c526, (show 1 ≤ x525.toInt by omega), (show x525.toInt ≤ 3205 by omega)⟩, ⟨f0_, c548, (show 0 ≤ f0_.toInt from rf0_), (show f0_.toInt ≤ 5 from tf0_)⟩, ⟨x483, c550, (show 0 ≤ x483.toInt by omega), (show x483.toInt ≤ 12 by omega)⟩, hR, (by simp only [c548, cf0_, cf2_, c550]; omega), (by simp only [c548, cf0_, c550]; omega)⟩))⟩ hw dX12_clauseHere_156
          · replace hM := hM.call (r' := 1) hv547 (by decide)
            have ex532 : x532.toInt = x20.toInt := by rw [← c549.symm.trans c533]
            have ex534 : x534.toInt = f0_.toInt := by rw [← c548.symm.trans c535]
            obtain ⟨x563, c564, rx563, tx563⟩ := hT.rda (lo := 0) (hi := 400) (i := (f0_.toInt).toNat) kM_at3 rfl rfl (by omega)
            obtain ⟨x565, c566, rx565, tx565⟩ := hT.rdi (lo := 0) (hi := 60) (k := 18) kM_at0 (by decide) rfl
            obtain ⟨x567, c568, rx567, tx567⟩ := hT.rda (lo := 0) (hi := 12) (i := (f0_.toInt).toNat) kM_at5 rfl rfl (by omega)
            have g537 : 3 * x563.toInt ≤ 14 * x565.toInt := by have q := g537; simp only [c504, c548, c564, c566] at q; omega
            have g538 : x567.toInt = f4_.toInt + 1 := by have q := g538; simp only [c504, c548, c507, c568] at q; omega
            have hR := hq536
            exact tk_zret hC hr rfl hlocks hK ⟨hT, hF, hM.ret (by decide), (Or.inr (Or.inr (Or.inl ⟨rfl, ⟨x20, c549, (show 1 ≤ x20.toInt by omega), (show x20.toInt ≤ 400 by omega)⟩, ⟨f0_, c548, (show 0 ≤ f0_.toInt from rf0_), (show f0_.toInt ≤ 5 from tf0_)⟩, ⟨x483, c550, (show 1 ≤ x483.toInt by omega), (show x483.toInt ≤ 12 by omega)⟩, hR, (by simp only [c548, cf0_, c564, c566]; omega), (by simp only [c548, cf0_, c568, c550]; omega), (by simp only [c548, cf0_, cf2_, c550]; omega), (by simp only [c548, cf0_, c550]; omega)⟩)))⟩ hw dX12_clauseHere_156
          · replace hM := hM.call (r' := 1) hv547 (by decide)
            have ex539 : x539.toInt = x20.toInt := by rw [← c549.symm.trans c540]
            have ex541 : x541.toInt = f0_.toInt := by rw [← c548.symm.trans c542]
            obtain ⟨x569, c570, rx569, tx569⟩ := hT.rda (lo := 0) (hi := 400) (i := (f0_.toInt).toNat) kM_at3 rfl rfl (by omega)
            obtain ⟨x571, c572, rx571, tx571⟩ := hT.rdi (lo := 0) (hi := 60) (k := 18) kM_at0 (by decide) rfl
            obtain ⟨x573, c574, rx573, tx573⟩ := hT.rda (lo := 0) (hi := 12) (i := (f0_.toInt).toNat) kM_at5 rfl rfl (by omega)
            have g544 : 3 * x569.toInt ≤ 14 * x571.toInt := by have q := g544; simp only [c504, c548, c570, c572] at q; omega
            have g545 : x573.toInt = f4_.toInt + 1 := by have q := g545; simp only [c504, c548, c507, c574] at q; omega
            have hR := hq543
            exact tk_zret hC hr rfl hlocks hK ⟨hT, hF, hM.ret (by decide), (Or.inr (Or.inr (Or.inr ⟨rfl, ⟨x20, c549, (show 0 ≤ x20.toInt by omega), (show x20.toInt ≤ 400 by omega)⟩, ⟨f0_, c548, (show 0 ≤ f0_.toInt from rf0_), (show f0_.toInt ≤ 5 from tf0_)⟩, ⟨x483, c550, (show 1 ≤ x483.toInt by omega), (show x483.toInt ≤ 12 by omega)⟩, hR, (by simp only [c548, cf0_, c570, c572]; omega), (by simp only [c548, cf0_, c574, c550]; omega), (by simp only [c548, cf0_, cf2_, c550]; omega), (by simp only [c548, cf0_, c550]; omega)⟩)))⟩ hw dX12_clauseHere_156
        · replace hM := hM.call (r' := (-1)) hv503 (by decide)
          have ex500 : x500.toInt = x20.toInt := by rw [← c508.symm.trans c501]
          refine tk_Vi hC hK hw hT hA hE hSR kM_at0 (by decide) rfl (kz_X12_isDoingHere_2 l adK adV dC dI cy ad B (by omega) (by omega) qr s1    w494 H.size hT f0_ c504 (show 0 ≤ f0_.toInt from rf0_) (show f0_.toInt ≤ 5 from tf0_) f1_ c505 (show 0 ≤ f1_.toInt from rf1_) (show f1_.toInt ≤ 60 from tf1_) f3_ c506 (show 0 ≤ f3_.toInt from rf3_) (show f3_.toInt ≤ 400 from tf3_) f4_ c507 (show 0 ≤ f4_.toInt from rf4_) (show f4_.toInt ≤ 12 from tf4_) (show 3 * f3_.toInt ≤ 14 * f1_.toInt from pr0_) (show f3_.toInt ≤ 280 from pr3_) (show f4_.toInt ≤ 11 by omega) hR) (cwV 1 hC.2.2.2.2 uV_RX12_273 rfl rfl rfl (by decide +kernel) ⟨Nat.le_of_ble_eq_true rfl, Nat.le_of_ble_eq_true rfl⟩) rfl hl.1 rfl (Nat.le_of_ble_eq_true rfl) dX12_clauseHere_153 (fun r575 w577 H locs hp576 hw => ?_)
          obtain ⟨hT, k578, hv612, hg611⟩ := hp576
          have hF := hF.tr k578 (by decide)
          have c613 := k578.gi kM_at0 (by decide) c504
          have c614 := k578.gi kM_at0 (by decide) c508
          have c615 := k578.gi kM_at0 (by decide) c509
          rcases hg611 with ⟨rfl, ⟨x579, c580, rx579, tx579⟩, ⟨x581, c582, rx581, tx581⟩, ⟨x583, c584, rx583, tx583⟩, ⟨x585, c586, rx585, tx585⟩, hq587⟩ | ⟨rfl, ⟨x588, c589, rx588, tx588⟩, ⟨x590, c591, rx590, tx590⟩, ⟨x592, c593, rx592, tx592⟩, ⟨x594, c595, rx594, tx594⟩, hq596⟩ | ⟨rfl, ⟨x597, c598, rx597, tx597⟩, ⟨x599, c600, rx599, tx599⟩, hq601, g602, g603⟩ | ⟨rfl, ⟨x604, c605, rx604, tx604⟩, ⟨x606, c607, rx606, tx606⟩, hq608, g609, g610⟩
          · replace hM := hM.call (r' := 0) hv612 (by decide)
            have ex579 : x579.toInt = x20.toInt := by rw [← c614.symm.trans c580]
            have ex583 : x583.toInt = f0_.toInt := by rw [← c613.symm.trans c584]
            obtain ⟨x616, c617, rx616, tx616⟩ := hT.rda (lo := 0) (hi := 400) (i := (f0_.toInt).toNat) kM_at3 rfl rfl (by omega)
            obtain ⟨x618, c619, rx618, tx618⟩ := hT.rdi (lo := 0) (hi := 60) (k := 18) kM_at0 (by decide) rfl
            obtain ⟨x620, c621, rx620, tx620⟩ := hT.rda (lo := 0) (hi := 12) (i := (f0_.toInt).toNat) kM_at5 rfl rfl (by omega)
            have hR := hq587
            exact tk_zret hC hr rfl hlocks hK ⟨hT, hF, hM.ret (by decide), (Or.inl ⟨rfl, ⟨x20, c614, (show 1 ≤ x20.toInt by omega), (show x20.toInt ≤ 400 by omega)⟩, ⟨x581, c582, (show 1 ≤ x581.toInt by omega), (show x581.toInt ≤ 3205 by omega)⟩, ⟨f0_, c613, (show 0 ≤ f0_.toInt from rf0_), (show f0_.toInt ≤ 5 from tf0_)⟩, ⟨x483, c615, (show 0 ≤ x483.toInt by omega), (show x483.toInt ≤ 12 by omega)⟩, hR, (by simp only [c613, cf0_, cf2_, c615]; omega), (by simp only [c613, cf0_, c615]; omega)⟩)⟩ hw dX12_clauseHere_156
          · replace hM := hM.call (r' := 0) hv612 (by decide)
            have ex588 : x588.toInt = x20.toInt := by rw [← c614.symm.trans c589]
            have ex592 : x592.toInt = f0_.toInt := by rw [← c613.symm.trans c593]
            obtain ⟨x622, c623, rx622, tx622⟩ := hT.rda (lo := 0) (hi := 400) (i := (f0_.toInt).toNat) kM_at3 rfl rfl (by omega)
            obtain ⟨x624, c625, rx624, tx624⟩ := hT.rdi (lo := 0) (hi := 60) (k := 18) kM_at0 (by decide) rfl
            obtain ⟨x626, c627, rx626, tx626⟩ := hT.rda (lo := 0) (hi := 12) (i := (f0_.toInt).toNat) kM_at5 rfl rfl (by omega)
            have hR := hq596
            exact tk_zret hC hr rfl hlocks hK ⟨hT, hF, hM.ret (by decide), (Or.inr (Or.inl ⟨rfl, ⟨x20, c614, (show 0 ≤ x20.toInt by omega), (show x20.toInt ≤ 400 by omega)⟩, ⟨x590, c591, (show 1 ≤ x590.toInt by omega), (show x590.toInt ≤ 3205 by omega)⟩, ⟨f0_, c613, (show 0 ≤ f0_.toInt from rf0_), (show f0_.toInt ≤ 5 from tf0_)⟩, ⟨x483, c615, (show 0 ≤ x483.toInt by omega), (show x483.toInt ≤ 12 by omega)⟩, hR, (by simp only [c613, cf0_, cf2_, c615]; omega), (by simp only [c613, cf0_, c615]; omega)⟩))⟩ hw dX12_clauseHere_156
          · replace hM := hM.call (r' := 1) hv612 (by decide)
            have ex597 : x597.toInt = x20.toInt := by rw [← c614.symm.trans c598]
            have ex599 : x599.toInt = f0_.toInt := by rw [← c613.symm.trans c600]
            obtain ⟨x628, c629, rx628, tx628⟩ := hT.rda (lo := 0) (hi := 400) (i := (f0_.toInt).toNat) kM_at3 rfl rfl (by omega)
            obtain ⟨x630, c631, rx630, tx630⟩ := hT.rdi (lo := 0) (hi := 60) (k := 18) kM_at0 (by decide) rfl
            obtain ⟨x632, c633, rx632, tx632⟩ := hT.rda (lo := 0) (hi := 12) (i := (f0_.toInt).toNat) kM_at5 rfl rfl (by omega)
            have g602 : 3 * x628.toInt ≤ 14 * x630.toInt := by have q := g602; simp only [c504, c613, c629, c631] at q; omega
            have g603 : x632.toInt = f4_.toInt + 1 := by have q := g603; simp only [c504, c613, c507, c633] at q; omega
            have hR := hq601
            exact tk_zret hC hr rfl hlocks hK ⟨hT, hF, hM.ret (by decide), (Or.inr (Or.inr (Or.inl ⟨rfl, ⟨x20, c614, (show 1 ≤ x20.toInt by omega), (show x20.toInt ≤ 400 by omega)⟩, ⟨f0_, c613, (show 0 ≤ f0_.toInt from rf0_), (show f0_.toInt ≤ 5 from tf0_)⟩, ⟨x483, c615, (show 1 ≤ x483.toInt by omega), (show x483.toInt ≤ 12 by omega)⟩, hR, (by simp only [c613, cf0_, c629, c631]; omega), (by simp only [c613, cf0_, c633, c615]; omega), (by simp only [c613, cf0_, cf2_, c615]; omega), (by simp only [c613, cf0_, c615]; omega)⟩)))⟩ hw dX12_clauseHere_156
          · replace hM := hM.call (r' := 1) hv612 (by decide)
            have ex604 : x604.toInt = x20.toInt := by rw [← c614.symm.trans c605]
            have ex606 : x606.toInt = f0_.toInt := by rw [← c613.symm.trans c607]
            obtain ⟨x634, c635, rx634, tx634⟩ := hT.rda (lo := 0) (hi := 400) (i := (f0_.toInt).toNat) kM_at3 rfl rfl (by omega)
            obtain ⟨x636, c637, rx636, tx636⟩ := hT.rdi (lo := 0) (hi := 60) (k := 18) kM_at0 (by decide) rfl
            obtain ⟨x638, c639, rx638, tx638⟩ := hT.rda (lo := 0) (hi := 12) (i := (f0_.toInt).toNat) kM_at5 rfl rfl (by omega)
            have g609 : 3 * x634.toInt ≤ 14 * x636.toInt := by have q := g609; simp only [c504, c613, c635, c637] at q; omega
            have g610 : x638.toInt = f4_.toInt + 1 := by have q := g610; simp only [c504, c613, c507, c639] at q; omega
            have hR := hq608
            exact tk_zret hC hr rfl hlocks hK ⟨hT, hF, hM.ret (by decide), (Or.inr (Or.inr (Or.inr ⟨rfl, ⟨x20, c614, (show 0 ≤ x20.toInt by omega), (show x20.toInt ≤ 400 by omega)⟩, ⟨f0_, c613, (show 0 ≤ f0_.toInt from rf0_), (show f0_.toInt ≤ 5 from tf0_)⟩, ⟨x483, c615, (show 1 ≤ x483.toInt by omega), (show x483.toInt ≤ 12 by omega)⟩, hR, (by simp only [c613, cf0_, c635, c637]; omega), (by simp only [c613, cf0_, c639, c615]; omega), (by simp only [c613, cf0_, cf2_, c615]; omega), (by simp only [c613, cf0_, c615]; omega)⟩)))⟩ hw dX12_clauseHere_156
      · have c480 : f2_.toInt = (12 : Int) := wk_eq.mp c480
        replace hM := hM.neg (fun q => q c480)
        refine lv_aload_n hx hb dX12_clauseHere_119 rfl (lv_at hl 3 rfl) ?_
        refine lv_iconst (v := 4) hx hb dX12_clauseHere_120 (by decide) ?_
        refine lv_iload_n hx hb dX12_clauseHere_121 rfl (lv_at hl 2 rfl) ?_
        refine tk_Vi hC hK hw hT hA hE hSR kM_at0 (by decide) rfl (kz_X12_fails_1 l adK adV dC dI cy ad B (by omega) (by omega) qr s1   4 (by decide) (by decide) x30 (show 0 ≤ x30.toInt by omega) (show x30.toInt ≤ 400 by omega) w462 H.size hT ) (cwV 2 hC.2.2.2.2 uV_RX12_115 rfl rfl rfl (by decide +kernel) ⟨Nat.le_of_ble_eq_true rfl, Nat.le_of_ble_eq_true rfl⟩) rfl hl.1 rfl (Nat.le_of_ble_eq_true rfl) dX12_clauseHere_122 (fun r640 w642 H locs hp641 hw => ?_)
        obtain ⟨hT, k643, hv647, hg646⟩ := hp641
        try simp only [show (4 : Int32).toInt = 4 by decide] at hv647
        have hR := RL_FE k643 (fun _ => rfl) (fun _ => rfl) (fun _ => rfl) (fun _ => rfl) hR
        have hF := hF.tr k643 (by decide)
        have c648 := k643.gi kM_at0 (by decide) c472
        have c649 := k643.gi kM_at0 (by decide) c473
        have c650 := k643.gi kM_at0 (by decide) c474
        have c651 := k643.gi kM_at3 rfl c475
        have c652 := k643.gi kM_at5 rfl c476
        have c653 := k643.gi kM_at0 (by decide) c477
        obtain ⟨rfl, ⟨x644, c645, rx644, tx644⟩⟩ := hg646
        replace hM := hM.call (r' := 0) hv647 (by decide)
        exact tk_zret hC hr rfl hlocks hK ⟨hT, hF, hM.ret (by decide), (Or.inr (Or.inl ⟨rfl, ⟨x20, c653, (show 0 ≤ x20.toInt by omega), (show x20.toInt ≤ 400 by omega)⟩, ⟨x644, c645, (show 1 ≤ x644.toInt by omega), (show x644.toInt ≤ 3205 by omega)⟩, ⟨f0_, c648, (show 0 ≤ f0_.toInt from rf0_), (show f0_.toInt ≤ 5 from tf0_)⟩, ⟨f2_, c650, (show 0 ≤ f2_.toInt from rf2_), (show f2_.toInt ≤ 12 from pr2_)⟩, hR, (by simp only [c648, cf0_, cf2_, c650]; omega), (by simp only [c648, cf0_, c650]; omega)⟩))⟩ hw dX12_clauseHere_125
    · replace hM := hM.call (r' := (-1)) hv471 (by decide)
      have ex468 : x468.toInt = x20.toInt := by rw [← c477.symm.trans c469]
      refine lv_if_lt (tgt := 88) hx hb dX12_clauseHere_81 (by decide) (fun _ => ?_) (fun c => absurd (by decide) c)
      replace hM := hM.pos (by decide)
      refine lv_iconst (v := 0) hx hb dX12_clauseHere_88 (by decide) ?_
      refine lv_istore_n (lv' := [(3, .int 0), (2, .int 0), (1, .int x30), (0, .ref (ad 0))]) hx hb dX12_clauseHere_89 rfl hl (by decide) rfl (fun ls hl => ?_)
      refine lv_iload_n hx hb dX12_clauseHere_90 rfl (lv_at hl 0 rfl) ?_
      refine lv_if_ne (tgt := 101) hx hb dX12_clauseHere_91 (by decide) (fun c => absurd (by decide) c) (fun _ => ?_)
      replace hM := hM.neg (by decide)
      refine lv_aload_n hx hb dX12_clauseHere_94 rfl (lv_at hl 3 rfl) ?_
      refine lv_iconst (v := 0) hx hb dX12_clauseHere_95 (by decide) ?_
      refine lv_iload_n hx hb dX12_clauseHere_96 rfl (lv_at hl 2 rfl) ?_
      refine tk_Vi hC hK hw hT hA hE hSR kM_at0 (by decide) rfl (kz_X12_fails_1 l adK adV dC dI cy ad B (by omega) (by omega) qr s1   0 (by decide) (by decide) x30 (show 0 ≤ x30.toInt by omega) (show x30.toInt ≤ 400 by omega) w462 H.size hT ) (cwV 2 hC.2.2.2.2 uV_RX12_115 rfl rfl rfl (by decide +kernel) ⟨Nat.le_of_ble_eq_true rfl, Nat.le_of_ble_eq_true rfl⟩) rfl hl.1 rfl (Nat.le_of_ble_eq_true rfl) dX12_clauseHere_97 (fun r654 w656 H locs hp655 hw => ?_)
      obtain ⟨hT, k657, hv661, hg660⟩ := hp655
      try simp only [show (0 : Int32).toInt = 0 by decide] at hv661
      have hR := RL_FE k657 (fun _ => rfl) (fun _ => rfl) (fun _ => rfl) (fun _ => rfl) hR
      have hF := hF.tr k657 (by decide)
      have c662 := k657.gi kM_at0 (by decide) c472
      have c663 := k657.gi kM_at0 (by decide) c473
      have c664 := k657.gi kM_at0 (by decide) c474
      have c665 := k657.gi kM_at3 rfl c475
      have c666 := k657.gi kM_at5 rfl c476
      have c667 := k657.gi kM_at0 (by decide) c477
      obtain ⟨rfl, ⟨x658, c659, rx658, tx658⟩⟩ := hg660
      replace hM := hM.call (r' := 0) hv661 (by decide)
      exact tk_zret hC hr rfl hlocks hK ⟨hT, hF, hM.ret (by decide), (Or.inr (Or.inl ⟨rfl, ⟨x20, c667, (show 0 ≤ x20.toInt by omega), (show x20.toInt ≤ 400 by omega)⟩, ⟨x658, c659, (show 1 ≤ x658.toInt by omega), (show x658.toInt ≤ 3205 by omega)⟩, ⟨f0_, c662, (show 0 ≤ f0_.toInt from rf0_), (show f0_.toInt ≤ 5 from tf0_)⟩, ⟨f2_, c664, (show 0 ≤ f2_.toInt from rf2_), (show f2_.toInt ≤ 12 from pr2_)⟩, hR, (by simp only [c662, cf0_, cf2_, c664]; omega), (by simp only [c662, cf0_, c664]; omega)⟩))⟩ hw dX12_clauseHere_100
abbrev Pz_X12_readsAll_2 (ad : Nat → Nat) (cy : Nat → ClassId) (B : Int) (qr : Nat) (s1 : Int)  (w0 : va_W) : Int32 → va_W → Prop := fun r u => TW ksM ad cy B qr 12 u ∧ FE ksM [(12, 1, 1), (12, 14, 14), (12, 15, 15), (12, 16, 16), (12, 18, 18), (12, 19, 19), (12, 20, 20), (12, 22, 22), (61, 0, 2400), (62, 0, 7), (63, 0, 216), (64, 0, 6), (68, 0, 400)] w0 u ∧ Ev (fun n => m_X12_readsAll n 0 (sI w0)) (r.toInt, sI u) ∧ ((r = 0 ∧ (∃ y : Int32, gi u 0 1 = y ∧ 0 ≤ y.toInt ∧ y.toInt ≤ 0) ∧ (∃ y : Int32, gi u 0 15 = y ∧ 1 ≤ y.toInt ∧ y.toInt ≤ 3205) ∧ (∃ y : Int32, gi u 0 17 = y ∧ 0 ≤ y.toInt ∧ y.toInt ≤ 5) ∧ (∃ y : Int32, gi u 0 20 = y ∧ 0 ≤ y.toInt ∧ y.toInt ≤ 12) ∧ RW u) ∨ (r = 1 ∧ (∃ y : Int32, gi u 0 1 = y ∧ 0 ≤ y.toInt ∧ y.toInt ≤ 0) ∧ (∃ y : Int32, gi u 0 15 = y ∧ 0 ≤ y.toInt ∧ y.toInt ≤ 0) ∧ (∃ y : Int32, gi u 0 17 = y ∧ 0 ≤ y.toInt ∧ y.toInt ≤ 5) ∧ (∃ y : Int32, gi u 0 20 = y ∧ 0 ≤ y.toInt ∧ y.toInt ≤ 12) ∧ RW u))
set_option maxHeartbeats 4000000 in
set_option maxRecDepth 100000 in
theorem kz_X12_readsAll_2 (l : Launch) (adK adV : Nat → Nat) (dC : Nat → ClassId) (dI : Nat → Nat → Nat) (cy : Nat → ClassId) (ad : Nat → Nat) (B : Int) (hB0 : 100000 ≤ B) (hB1 : B ≤ 1073741824) (qr : Nat) (s1 : Int)   (w0 : va_W) (sz : Nat) (hT : TW ksM ad cy B qr 12 w0) (f0_ : Int32) (cf0_ : gi w0 0 17 = f0_) (rf0_ : 0 ≤ f0_.toInt) (tf0_ : f0_.toInt ≤ 5) (f1_ : Int32) (cf1_ : gi w0 0 18 = f1_) (rf1_ : 0 ≤ f1_.toInt) (tf1_ : f1_.toInt ≤ 60) (f2_ : Int32) (cf2_ : gi w0 0 20 = f2_) (rf2_ : 0 ≤ f2_.toInt) (tf2_ : f2_.toInt ≤ 32) (f3_ : Int32) (cf3_ : gi w0 3 (f0_.toInt).toNat = f3_) (rf3_ : 0 ≤ f3_.toInt) (tf3_ : f3_.toInt ≤ 400) (f4_ : Int32) (cf4_ : gi w0 5 (f0_.toInt).toNat = f4_) (rf4_ : 0 ≤ f4_.toInt) (tf4_ : f4_.toInt ≤ 12) (pr0_ : f4_.toInt ≤ 0) (hRW : RW w0) : Met l yX12_readsAll (wu yX12_readsAll cX12_readsAll 2 (some .boolean)) ({ frames := 12, cells := 0, slots := 0, locals := 255 }) (va_Pc [.ref (ad 0)] (wpreS adK adV dC dI cy sz w0)) (va_Qi (Pz_X12_readsAll_2 ad cy B qr s1  w0) (fun u : va_W => wpost dC dI cy (va_A w0 sz) u) (va_A w0 sz)) 0 0 (va_A w0 sz) := by
  refine Met.ofW (cc := cX12_readsAll) (maxL := 2) (ret := (some .boolean)) (by decide) rfl ?_
  intro p e s m args below meth c s₁ Bk hml hv
  obtain ⟨rfl, ⟨hsz, hP, hK, hD0⟩, hE, hSR⟩ := hv
  have hx := Bk.exec
  have hb := Bk.bytes
  have hr := Bk.returns
  have hlocks := Bk.notSynchronized
  have hC : CallFix p m c cX12_readsAll 2 s _ (wu yX12_readsAll cX12_readsAll 2 (some .boolean)) RX12 := ⟨hx, hb, hml, findClass_of_methodNamed Bk.named, atoms_spec (ws := (wu yX12_readsAll cX12_readsAll 2 (some .boolean))) Bk.pre⟩
  subst hsz
  have hD := hD0.self (sz := s.heap.size)
  generalize hAe : va_A w0 s.heap.size = A at hD hE ⊢
  have hA : ∀ q : Nat, s.heap.size ≤ q → A q := fun q h => by rw [← hAe]; exact Or.inr h
  have hw : Wd dC dI A s.heap s.heap [] w0 := ⟨hP, hD, va_S.rf⟩
  have hF : FE ksM [(12, 1, 1), (12, 14, 14), (12, 15, 15), (12, 16, 16), (12, 18, 18), (12, 19, 19), (12, 20, 20), (12, 22, 22), (61, 0, 2400), (62, 0, 7), (63, 0, 216), (64, 0, 6), (68, 0, 400)] w0 w0 := FE.rf
  have hl := lv_entry ([.ref (ad 0)]) (n := 2) (Nat.le_of_ble_eq_true rfl)
  rw [lg_entry_eq]
  generalize (lg_sl ([.ref (ad 0)]) ++ List.replicate (2 - (lg_sl ([.ref (ad 0)])).length) Slot.unset).toArray = ls at hl ⊢
  have hl : lv_has ls 2 [(0, .ref (ad 0))] := hl
  generalize hloc : ([] : List Loc) = locs at hw ⊢
  have hinX12 : ∀ w ∈ u_ws RX12 TX12 42, w ∈ (wu yX12_readsAll cX12_readsAll 2 (some .boolean)) := fun _ h => List.mem_cons_of_mem _ (up_71 h)
  have J88 : ∀ (v88_1 : Int32) (f88_0_1 : Int32) (f88_0_18 : Int32) (f88_0_20 : Int32) (f88_3__f0__toInt_toNat : Int32) (f88_5__f0__toInt_toNat : Int32) (H : Heap) (locs : List Loc) (ls : Array Slot) (w1 : va_W), 0 ≤ v88_1.toInt → v88_1.toInt ≤ 1 → 0 ≤ f88_0_1.toInt → f88_0_1.toInt ≤ 400 → 0 ≤ f0_.toInt → f0_.toInt ≤ 5 → 0 ≤ f88_0_18.toInt → f88_0_18.toInt ≤ 60 → 0 ≤ f88_0_20.toInt → f88_0_20.toInt ≤ 12 → 0 ≤ f88_3__f0__toInt_toNat.toInt → f88_3__f0__toInt_toNat.toInt ≤ 400 → 0 ≤ f88_5__f0__toInt_toNat.toInt → f88_5__f0__toInt_toNat.toInt ≤ 12 → ((v88_1.toInt = 0 ∨ 3 * f88_3__f0__toInt_toNat.toInt ≤ 14 * f88_0_18.toInt)) → ((v88_1.toInt = 0 ∨ f88_5__f0__toInt_toNat.toInt ≤ f88_0_20.toInt)) → (f88_0_20.toInt ≤ 12) → Wd dC dI A s.heap H locs w1 → TW ksM ad cy B qr 12 w1 → FE ksM [(12, 1, 1), (12, 14, 14), (12, 15, 15), (12, 16, 16), (12, 18, 18), (12, 19, 19), (12, 20, 20), (12, 22, 22), (61, 0, 2400), (62, 0, 7), (63, 0, 216), (64, 0, 6), (68, 0, 400)] w0 w1 → RLc w1 f0_.toInt → gi w1 0 1 = f88_0_1 → gi w1 0 17 = f0_ → gi w1 0 18 = f88_0_18 → gi w1 0 20 = f88_0_20 → gi w1 3 (f0_.toInt).toNat = f88_3__f0__toInt_toNat → gi w1 5 (f0_.toInt).toNat = f88_5__f0__toInt_toNat → TT (fun n => m_X12_readsAll n 0 (sI w0)) (fun n => b_X12_readsAll_88 (j_X12_readsAll 0 n) n 0 (sI w1)) → lv_has ls 2 [(0, .ref (ad 0)), (1, .int v88_1)] → W p l e ({ frames := 12, cells := 0, slots := 0, locals := 255 }) s m (List.toArray [.ref (ad 0)]) below meth c H locs 0 0 (MQ below (va_Qi (Pz_X12_readsAll_2 ad cy B qr s1  w0) (fun u : va_W => wpost dC dI cy A u) A) (List.toArray [.ref (ad 0)]) s 0 0 A) (F0 m 88 ls []) := by
    intro v88_1 f88_0_1 f88_0_18 f88_0_20 f88_3__f0__toInt_toNat f88_5__f0__toInt_toNat H locs ls w1 r2 t3 r4 t5 r7 t8 r10 t11 r13 t14 r16 t17 r19 t20 hcr88_0 hcr88_1 hcr88_2 hw hT hF hR c6 c9 c12 c15 c18 c21 hM hl
    refine lv_aload_n hx hb dX12_readsAll_88 rfl (lv_at hl 0 rfl) ?_
    refine lv_iconst (v := 0) hx hb dX12_readsAll_89 (by decide) ?_
    refine tk_puti hC hK hw hT hinX12 tyX12_ok nmX12 kM_at0 (by decide) rfl rfl 1 (by decide) (List.mem_cons_of_mem _ uw_8_7) rfl rfl rfl rfl (by decide) (by decide) dX12_readsAll_90 (fun H locs w22 hw hT k24 c23 => ?_)
    replace hM := hM.wr (sI_upc k24 c23 (by decide))
    have hR := RL_F1 k24 (by decide) (by decide) (by decide) (by decide) hR
    have hF := hF.put kM_at0 (k := 1) (by decide) k24
    have c25 := k24.gi (Or.inr (by decide)) c9
    have c26 := k24.gi (Or.inr (by decide)) c12
    have c27 := k24.gi (Or.inr (by decide)) c15
    have c28 := k24.gi (Or.inl (tk_ne kM_at3 kM_at0 (by decide))) c18
    have c29 := k24.gi (Or.inl (tk_ne kM_at5 kM_at0 (by decide))) c21
    refine lv_aload_n hx hb dX12_readsAll_93 rfl (lv_at hl 0 rfl) ?_
    refine tk_geti hC hK hw hT hinX12 kM_at0 (by decide) rfl 15 (by decide) (List.mem_cons_of_mem _ uw_19_12) rfl rfl dX12_readsAll_94 (fun x30 c31 rx30 tx30 => ?_)
    replace hM := hM.rd (sI_at c31)
    refine lv_if_ne (tgt := 104) hx hb dX12_readsAll_97 (by decide) (fun c32 => ?_) (fun c32 => ?_)
    · have c32 : ¬ x30.toInt = (0 : Int) := wk_eqF c32
      replace hM := hM.pos c32
      refine lv_iconst (v := 0) hx hb dX12_readsAll_104 (by decide) ?_
      exact tk_zret hC hr rfl hlocks hK ⟨hT, hF, hM.ret (by decide), (Or.inl ⟨rfl, ⟨0, c23, (by decide), (by decide)⟩, ⟨x30, c31, (show 1 ≤ x30.toInt by omega), (show x30.toInt ≤ 3205 from tx30)⟩, ⟨f0_, c25, (show 0 ≤ f0_.toInt from r7), (show f0_.toInt ≤ 5 from t8)⟩, ⟨f88_0_20, c27, (show 0 ≤ f88_0_20.toInt from r13), (show f88_0_20.toInt ≤ 12 from t14)⟩, hR.2.1⟩)⟩ hw dX12_readsAll_105
    · have c32 : x30.toInt = (0 : Int) := wk_eq.mp c32
      replace hM := hM.neg (fun q => q c32)
      refine lv_iconst (v := 1) hx hb dX12_readsAll_100 (by decide) ?_
      refine lv_goto (tgt := 105) hx hb dX12_readsAll_101 (by decide) ?_
      exact tk_zret hC hr rfl hlocks hK ⟨hT, hF, hM.ret (by decide), (Or.inr ⟨rfl, ⟨0, c23, (by decide), (by decide)⟩, ⟨x30, c31, (show 0 ≤ x30.toInt from rx30), (show x30.toInt ≤ 0 by omega)⟩, ⟨f0_, c25, (show 0 ≤ f0_.toInt from r7), (show f0_.toInt ≤ 5 from t8)⟩, ⟨f88_0_20, c27, (show 0 ≤ f88_0_20.toInt from r13), (show f88_0_20.toInt ≤ 12 from t14)⟩, hR.2.1⟩)⟩ hw dX12_readsAll_105
  have J66 : ∀ (v66_1 : Int32) (f66_0_1 : Int32) (f66_0_18 : Int32) (f66_0_20 : Int32) (f66_3__f0__toInt_toNat : Int32) (f66_5__f0__toInt_toNat : Int32) (H : Heap) (locs : List Loc) (ls : Array Slot) (w33 : va_W), 0 ≤ v66_1.toInt → v66_1.toInt ≤ 1 → 0 ≤ f66_0_1.toInt → f66_0_1.toInt ≤ 400 → 0 ≤ f0_.toInt → f0_.toInt ≤ 5 → 0 ≤ f66_0_18.toInt → f66_0_18.toInt ≤ 60 → 0 ≤ f66_0_20.toInt → f66_0_20.toInt ≤ 12 → 0 ≤ f66_3__f0__toInt_toNat.toInt → f66_3__f0__toInt_toNat.toInt ≤ 400 → 0 ≤ f66_5__f0__toInt_toNat.toInt → f66_5__f0__toInt_toNat.toInt ≤ 12 → ((v66_1.toInt = 0 ∨ 3 * f66_3__f0__toInt_toNat.toInt ≤ 14 * f66_0_18.toInt)) → ((v66_1.toInt = 0 ∨ f66_5__f0__toInt_toNat.toInt ≤ f66_0_20.toInt)) → (f66_0_20.toInt ≤ 12) → Wd dC dI A s.heap H locs w33 → TW ksM ad cy B qr 12 w33 → FE ksM [(12, 1, 1), (12, 14, 14), (12, 15, 15), (12, 16, 16), (12, 18, 18), (12, 19, 19), (12, 20, 20), (12, 22, 22), (61, 0, 2400), (62, 0, 7), (63, 0, 216), (64, 0, 6), (68, 0, 400)] w0 w33 → RLc w33 f0_.toInt → gi w33 0 1 = f66_0_1 → gi w33 0 17 = f0_ → gi w33 0 18 = f66_0_18 → gi w33 0 20 = f66_0_20 → gi w33 3 (f0_.toInt).toNat = f66_3__f0__toInt_toNat → gi w33 5 (f0_.toInt).toNat = f66_5__f0__toInt_toNat → TT (fun n => m_X12_readsAll n 0 (sI w0)) (fun n => b_X12_readsAll_66 (j_X12_readsAll 0 n) n 0 (v66_1.toInt) (sI w33)) → lv_has ls 2 [(0, .ref (ad 0)), (1, .int v66_1)] → W p l e ({ frames := 12, cells := 0, slots := 0, locals := 255 }) s m (List.toArray [.ref (ad 0)]) below meth c H locs 0 0 (MQ below (va_Qi (Pz_X12_readsAll_2 ad cy B qr s1  w0) (fun u : va_W => wpost dC dI cy A u) A) (List.toArray [.ref (ad 0)]) s 0 0 A) (F0 m 66 ls []) := by
    intro v66_1 f66_0_1 f66_0_18 f66_0_20 f66_3__f0__toInt_toNat f66_5__f0__toInt_toNat H locs ls w33 r34 t35 r36 t37 r39 t40 r42 t43 r45 t46 r48 t49 r51 t52 hcr66_0 hcr66_1 hcr66_2 hw hT hF hR c38 c41 c44 c47 c50 c53 hM hl
    refine lv_iload_n hx hb dX12_readsAll_66 rfl (lv_at hl 1 rfl) ?_
    refine lv_if_eq (tgt := 88) hx hb dX12_readsAll_67 (by decide) (fun c54 => ?_) (fun c54 => ?_)
    · have c54 : v66_1.toInt = (0 : Int) := wk_eq.mp c54
      replace hM := hM.pos c54
      exact J88 v66_1 f66_0_1 f66_0_18 f66_0_20 f66_3__f0__toInt_toNat f66_5__f0__toInt_toNat H locs ls w33 (show 0 ≤ v66_1.toInt from r34) (show v66_1.toInt ≤ 1 from t35) (show 0 ≤ f66_0_1.toInt from r36) (show f66_0_1.toInt ≤ 400 from t37) (show 0 ≤ f0_.toInt from r39) (show f0_.toInt ≤ 5 from t40) (show 0 ≤ f66_0_18.toInt from r42) (show f66_0_18.toInt ≤ 60 from t43) (show 0 ≤ f66_0_20.toInt from r45) (show f66_0_20.toInt ≤ 12 from t46) (show 0 ≤ f66_3__f0__toInt_toNat.toInt from r48) (show f66_3__f0__toInt_toNat.toInt ≤ 400 from t49) (show 0 ≤ f66_5__f0__toInt_toNat.toInt from r51) (show f66_5__f0__toInt_toNat.toInt ≤ 12 from t52) (show (v66_1.toInt = 0 ∨ 3 * f66_3__f0__toInt_toNat.toInt ≤ 14 * f66_0_18.toInt) by omega) (show (v66_1.toInt = 0 ∨ f66_5__f0__toInt_toNat.toInt ≤ f66_0_20.toInt) by omega) (show f66_0_20.toInt ≤ 12 from t46)  hw hT hF hR c38 c41 c44 c47 c50 c53 hM (lv_sub hl [0, 1] rfl)
    · have c54 : ¬ v66_1.toInt = (0 : Int) := wk_eqF c54
      replace hM := hM.neg c54
      refine lv_aload_n hx hb dX12_readsAll_70 rfl (lv_at hl 0 rfl) ?_
      obtain ⟨x55, c56, rx55, tx55⟩ := hT.rdi (lo := 0) (hi := 400) (k := 14) kM_at0 (by decide) rfl
      refine tk_Vi hC hK hw hT hA hE hSR kM_at0 (by decide) rfl (kz_X12_see_1 l adK adV dC dI cy ad B (by omega) (by omega) qr s1    w33 H.size hT x55 c56 (show 0 ≤ x55.toInt by omega) (show x55.toInt ≤ 400 by omega)) (cwV 0 hC.2.2.2.2 uV_RX12_97 rfl rfl rfl (by decide +kernel) ⟨Nat.le_of_ble_eq_true rfl, Nat.le_of_ble_eq_true rfl⟩) rfl hl.1 rfl (Nat.le_of_ble_eq_true rfl) dX12_readsAll_71 (fun r57 w59 H locs hp58 hw => ?_)
      obtain ⟨hT, k60, hv78, hg77⟩ := hp58
      have hR := RL_FE k60 (fun _ => rfl) (fun _ => rfl) (fun _ => rfl) (fun _ => rfl) hR
      have hF := hF.tr k60 (by decide)
      have c79 := k60.gi kM_at0 (by decide) c38
      have c80 := k60.gi kM_at0 (by decide) c41
      have c81 := k60.gi kM_at0 (by decide) c44
      have c82 := k60.gi kM_at0 (by decide) c47
      have c83 := k60.gi kM_at3 rfl c50
      have c84 := k60.gi kM_at5 rfl c53
      rcases hg77 with ⟨g61, g62, ⟨x63, c64, rx63, tx63⟩, ⟨x65, c66, rx65, tx65⟩, g67, g68⟩ | ⟨rfl, ⟨x69, c70, rx69, tx69⟩, ⟨x71, c72, rx71, tx71⟩, g73⟩ | ⟨rfl, ⟨x74, c75, rx74, tx74⟩, g76⟩
      · replace hM := hM.call hv78 rfl
        have ex63 : x63.toInt = f66_0_1.toInt := by rw [← c79.symm.trans c64]
        have g67 : (gi w59 1 (x65.toInt).toNat).toInt ≠ 32 := by have q := g67; simp only [c41, c80, c66] at q; omega
        have g68 : (x65.toInt = x55.toInt ∨ (gi w33 1 (x55.toInt).toNat).toInt = 32) := by have q := g68; simp only [c41, c80, c56, c66] at q; omega
        refine lv_iconst (v := (-1)) hx hb dX12_readsAll_74 (by decide) ?_
        refine lv_icmp_eq (tgt := 88) hx hb dX12_readsAll_75 (by decide) (fun c => absurd c (fun h => absurd (show r57.toInt = (-1 : Int) from wk_eq.mp h) (by omega))) (fun _ => ?_)
        replace hM := hM.neg (by omega)
        refine lv_aload_n hx hb dX12_readsAll_78 rfl (lv_at hl 0 rfl) ?_
        refine lv_iconst (v := 0) hx hb dX12_readsAll_79 (by decide) ?_
        refine lv_aload_n hx hb dX12_readsAll_80 rfl (lv_at hl 0 rfl) ?_
        refine tk_geti hC hK hw hT hinX12 kM_at0 (by decide) rfl 14 (by decide) (List.mem_cons_of_mem _ uw_19_18) rfl rfl dX12_readsAll_81 (fun x87 c88 rx87 tx87 => ?_)
        refine wk_top x65 (c88.symm.trans c66) ?_
        replace hM := hM.rd (sI_at c66)
        refine tk_Vi hC hK hw hT hA hE hSR kM_at0 (by decide) rfl (kz_X12_fails_1 l adK adV dC dI cy ad B (by omega) (by omega) qr s1   0 (by decide) (by decide) x65 (show 0 ≤ x65.toInt by omega) (show x65.toInt ≤ 400 by omega) w59 H.size hT ) (cwV 2 hC.2.2.2.2 uV_RX12_115 rfl rfl rfl (by decide +kernel) ⟨Nat.le_of_ble_eq_true rfl, Nat.le_of_ble_eq_true rfl⟩) rfl hl.1 rfl (Nat.le_of_ble_eq_true rfl) dX12_readsAll_84 (fun r89 w91 H locs hp90 hw => ?_)
        obtain ⟨hT, k92, hv96, hg95⟩ := hp90
        try simp only [show (0 : Int32).toInt = 0 by decide] at hv96
        have hR := RL_FE k92 (fun _ => rfl) (fun _ => rfl) (fun _ => rfl) (fun _ => rfl) hR
        have hF := hF.tr k92 (by decide)
        have c97 := k92.gi kM_at0 (by decide) c79
        have c98 := k92.gi kM_at0 (by decide) c80
        have c99 := k92.gi kM_at0 (by decide) c81
        have c100 := k92.gi kM_at0 (by decide) c82
        have c101 := k92.gi kM_at3 rfl c83
        have c102 := k92.gi kM_at5 rfl c84
        have c103 := k92.gi kM_at0 (by decide) c66
        obtain ⟨rfl, ⟨x93, c94, rx93, tx93⟩⟩ := hg95
        replace hM := hM.call (r' := 0) hv96 (by decide)
        refine lv_pop hx hb dX12_readsAll_87 rfl ?_
        exact J88 v66_1 f66_0_1 f66_0_18 f66_0_20 f66_3__f0__toInt_toNat f66_5__f0__toInt_toNat H locs ls w91 (show 0 ≤ v66_1.toInt from r34) (show v66_1.toInt ≤ 1 from t35) (show 0 ≤ f66_0_1.toInt from r36) (show f66_0_1.toInt ≤ 400 from t37) (show 0 ≤ f0_.toInt from r39) (show f0_.toInt ≤ 5 from t40) (show 0 ≤ f66_0_18.toInt from r42) (show f66_0_18.toInt ≤ 60 from t43) (show 0 ≤ f66_0_20.toInt from r45) (show f66_0_20.toInt ≤ 12 from t46) (show 0 ≤ f66_3__f0__toInt_toNat.toInt from r48) (show f66_3__f0__toInt_toNat.toInt ≤ 400 from t49) (show 0 ≤ f66_5__f0__toInt_toNat.toInt from r51) (show f66_5__f0__toInt_toNat.toInt ≤ 12 from t52) (show (v66_1.toInt = 0 ∨ 3 * f66_3__f0__toInt_toNat.toInt ≤ 14 * f66_0_18.toInt) by omega) (show (v66_1.toInt = 0 ∨ f66_5__f0__toInt_toNat.toInt ≤ f66_0_20.toInt) by omega) (show f66_0_20.toInt ≤ 12 from t46)  hw hT hF hR c97 c98 c99 c100 c101 c102 hM (lv_sub hl [0, 1] rfl)
      · replace hM := hM.call (r' := (-1)) hv78 (by decide)
        have ex69 : x69.toInt = f66_0_1.toInt := by rw [← c79.symm.trans c70]
        have g73 : (x71.toInt = x55.toInt ∨ (gi w33 1 (x55.toInt).toNat).toInt = 32) := by have q := g73; simp only [c41, c80, c56, c72] at q; omega
        refine lv_iconst (v := (-1)) hx hb dX12_readsAll_74 (by decide) ?_
        refine lv_icmp_eq (tgt := 88) hx hb dX12_readsAll_75 (by decide) (fun _ => ?_) (fun c => absurd (by decide) c)
        replace hM := hM.pos (by decide)
        exact J88 v66_1 f66_0_1 f66_0_18 f66_0_20 f66_3__f0__toInt_toNat f66_5__f0__toInt_toNat H locs ls w59 (show 0 ≤ v66_1.toInt from r34) (show v66_1.toInt ≤ 1 from t35) (show 0 ≤ f66_0_1.toInt from r36) (show f66_0_1.toInt ≤ 400 from t37) (show 0 ≤ f0_.toInt from r39) (show f0_.toInt ≤ 5 from t40) (show 0 ≤ f66_0_18.toInt from r42) (show f66_0_18.toInt ≤ 60 from t43) (show 0 ≤ f66_0_20.toInt from r45) (show f66_0_20.toInt ≤ 12 from t46) (show 0 ≤ f66_3__f0__toInt_toNat.toInt from r48) (show f66_3__f0__toInt_toNat.toInt ≤ 400 from t49) (show 0 ≤ f66_5__f0__toInt_toNat.toInt from r51) (show f66_5__f0__toInt_toNat.toInt ≤ 12 from t52) (show (v66_1.toInt = 0 ∨ 3 * f66_3__f0__toInt_toNat.toInt ≤ 14 * f66_0_18.toInt) by omega) (show (v66_1.toInt = 0 ∨ f66_5__f0__toInt_toNat.toInt ≤ f66_0_20.toInt) by omega) (show f66_0_20.toInt ≤ 12 from t46)  hw hT hF hR c79 c80 c81 c82 c83 c84 hM (lv_sub hl [0, 1] rfl)
      · replace hM := hM.call (r' := (-1)) hv78 (by decide)
        have ex74 : x74.toInt = f66_0_1.toInt := by rw [← c79.symm.trans c75]
        obtain ⟨x85, c86, rx85, tx85⟩ := hT.rdi (lo := 0) (hi := 400) (k := 14) kM_at0 (by decide) rfl
        have g76 : (x85.toInt = x55.toInt ∨ (gi w33 1 (x55.toInt).toNat).toInt = 32) := by have q := g76; simp only [c41, c80, c56, c86] at q; omega
        refine lv_iconst (v := (-1)) hx hb dX12_readsAll_74 (by decide) ?_
        refine lv_icmp_eq (tgt := 88) hx hb dX12_readsAll_75 (by decide) (fun _ => ?_) (fun c => absurd (by decide) c)
        replace hM := hM.pos (by decide)
        exact J88 v66_1 f66_0_1 f66_0_18 f66_0_20 f66_3__f0__toInt_toNat f66_5__f0__toInt_toNat H locs ls w59 (show 0 ≤ v66_1.toInt from r34) (show v66_1.toInt ≤ 1 from t35) (show 0 ≤ f66_0_1.toInt from r36) (show f66_0_1.toInt ≤ 400 from t37) (show 0 ≤ f0_.toInt from r39) (show f0_.toInt ≤ 5 from t40) (show 0 ≤ f66_0_18.toInt from r42) (show f66_0_18.toInt ≤ 60 from t43) (show 0 ≤ f66_0_20.toInt from r45) (show f66_0_20.toInt ≤ 12 from t46) (show 0 ≤ f66_3__f0__toInt_toNat.toInt from r48) (show f66_3__f0__toInt_toNat.toInt ≤ 400 from t49) (show 0 ≤ f66_5__f0__toInt_toNat.toInt from r51) (show f66_5__f0__toInt_toNat.toInt ≤ 12 from t52) (show (v66_1.toInt = 0 ∨ 3 * f66_3__f0__toInt_toNat.toInt ≤ 14 * f66_0_18.toInt) by omega) (show (v66_1.toInt = 0 ∨ f66_5__f0__toInt_toNat.toInt ≤ f66_0_20.toInt) by omega) (show f66_0_20.toInt ≤ 12 from t46)  hw hT hF hR c79 c80 c81 c82 c83 c84 hM (lv_sub hl [0, 1] rfl)
  have L35 : ∀ (n35 : Nat) (v35_1 : Int32) (f35_0_1 : Int32) (f35_0_18 : Int32) (f35_0_20 : Int32) (f35_3__f0__toInt_toNat : Int32) (f35_5__f0__toInt_toNat : Int32) (H : Heap) (locs : List Loc) (ls : Array Slot) (w104 : va_W), 0 ≤ v35_1.toInt → v35_1.toInt ≤ 1 → 0 ≤ f35_0_1.toInt → f35_0_1.toInt ≤ 400 → 0 ≤ f0_.toInt → f0_.toInt ≤ 5 → 0 ≤ f35_0_18.toInt → f35_0_18.toInt ≤ 60 → 0 ≤ f35_0_20.toInt → f35_0_20.toInt ≤ 12 → 0 ≤ f35_3__f0__toInt_toNat.toInt → f35_3__f0__toInt_toNat.toInt ≤ 400 → 0 ≤ f35_5__f0__toInt_toNat.toInt → f35_5__f0__toInt_toNat.toInt ≤ 12 → ((v35_1.toInt = 0 ∨ 3 * f35_3__f0__toInt_toNat.toInt ≤ 14 * f35_0_18.toInt)) → ((v35_1.toInt = 0 ∨ f35_5__f0__toInt_toNat.toInt ≤ f35_0_20.toInt)) → (f35_0_20.toInt ≤ 12) → (2 * (32 - f35_0_20.toInt) + v35_1.toInt).toNat < n35 → Wd dC dI A s.heap H locs w104 → TW ksM ad cy B qr 12 w104 → FE ksM [(12, 1, 1), (12, 14, 14), (12, 15, 15), (12, 16, 16), (12, 18, 18), (12, 19, 19), (12, 20, 20), (12, 22, 22), (61, 0, 2400), (62, 0, 7), (63, 0, 216), (64, 0, 6), (68, 0, 400)] w0 w104 → RLc w104 f0_.toInt → gi w104 0 1 = f35_0_1 → gi w104 0 17 = f0_ → gi w104 0 18 = f35_0_18 → gi w104 0 20 = f35_0_20 → gi w104 3 (f0_.toInt).toNat = f35_3__f0__toInt_toNat → gi w104 5 (f0_.toInt).toNat = f35_5__f0__toInt_toNat → TT (fun n => m_X12_readsAll n 0 (sI w0)) (fun n => j_X12_readsAll 0 n 35 [v35_1.toInt] (sI w104)) → lv_has ls 2 [(0, .ref (ad 0)), (1, .int v35_1)] → W p l e ({ frames := 12, cells := 0, slots := 0, locals := 255 }) s m (List.toArray [.ref (ad 0)]) below meth c H locs 0 0 (MQ below (va_Qi (Pz_X12_readsAll_2 ad cy B qr s1  w0) (fun u : va_W => wpost dC dI cy A u) A) (List.toArray [.ref (ad 0)]) s 0 0 A) (F0 m 35 ls []) := by
    intro n35
    induction n35 with
    | zero => intro v35_1 f35_0_1 f35_0_18 f35_0_20 f35_3__f0__toInt_toNat f35_5__f0__toInt_toNat H locs ls w104 r105 t106 r107 t108 r110 t111 r113 t114 r116 t117 r119 t120 r122 t123 hcr35_0 hcr35_1 hcr35_2 hm35 hw hT hF hR c109 c112 c115 c118 c121 c124 hM hl; omega
    | succ n35 ih35 =>
      intro v35_1 f35_0_1 f35_0_18 f35_0_20 f35_3__f0__toInt_toNat f35_5__f0__toInt_toNat H locs ls w104 r105 t106 r107 t108 r110 t111 r113 t114 r116 t117 r119 t120 r122 t123 hcr35_0 hcr35_1 hcr35_2 hm35 hw hT hF hR c109 c112 c115 c118 c121 c124 hM hl
      replace hM := hM.suc (fun _ => e_X12_readsAll_35)
      refine lv_iload_n hx hb dX12_readsAll_35 rfl (lv_at hl 1 rfl) ?_
      refine lv_if_eq (tgt := 66) hx hb dX12_readsAll_36 (by decide) (fun c125 => ?_) (fun c125 => ?_)
      · have c125 : v35_1.toInt = (0 : Int) := wk_eq.mp c125
        replace hM := hM.pos c125
        exact J66 v35_1 f35_0_1 f35_0_18 f35_0_20 f35_3__f0__toInt_toNat f35_5__f0__toInt_toNat H locs ls w104 (show 0 ≤ v35_1.toInt from r105) (show v35_1.toInt ≤ 1 from t106) (show 0 ≤ f35_0_1.toInt from r107) (show f35_0_1.toInt ≤ 400 from t108) (show 0 ≤ f0_.toInt from r110) (show f0_.toInt ≤ 5 from t111) (show 0 ≤ f35_0_18.toInt from r113) (show f35_0_18.toInt ≤ 60 from t114) (show 0 ≤ f35_0_20.toInt from r116) (show f35_0_20.toInt ≤ 12 from t117) (show 0 ≤ f35_3__f0__toInt_toNat.toInt from r119) (show f35_3__f0__toInt_toNat.toInt ≤ 400 from t120) (show 0 ≤ f35_5__f0__toInt_toNat.toInt from r122) (show f35_5__f0__toInt_toNat.toInt ≤ 12 from t123) (show (v35_1.toInt = 0 ∨ 3 * f35_3__f0__toInt_toNat.toInt ≤ 14 * f35_0_18.toInt) by omega) (show (v35_1.toInt = 0 ∨ f35_5__f0__toInt_toNat.toInt ≤ f35_0_20.toInt) by omega) (show f35_0_20.toInt ≤ 12 from t117)  hw hT hF hR c109 c112 c115 c118 c121 c124 hM (lv_sub hl [0, 1] rfl)
      · have c125 : ¬ v35_1.toInt = (0 : Int) := wk_eqF c125
        replace hM := hM.neg c125
        refine lv_aload_n hx hb dX12_readsAll_39 rfl (lv_at hl 0 rfl) ?_
        obtain ⟨x126, c127, rx126, tx126⟩ := hT.rdi (lo := 0) (hi := 400) (k := 14) kM_at0 (by decide) rfl
        refine tk_Vi hC hK hw hT hA hE hSR kM_at0 (by decide) rfl (kz_X12_see_1 l adK adV dC dI cy ad B (by omega) (by omega) qr s1    w104 H.size hT x126 c127 (show 0 ≤ x126.toInt by omega) (show x126.toInt ≤ 400 by omega)) (cwV 0 hC.2.2.2.2 uV_RX12_97 rfl rfl rfl (by decide +kernel) ⟨Nat.le_of_ble_eq_true rfl, Nat.le_of_ble_eq_true rfl⟩) rfl hl.1 rfl (Nat.le_of_ble_eq_true rfl) dX12_readsAll_40 (fun r128 w130 H locs hp129 hw => ?_)
        obtain ⟨hT, k131, hv149, hg148⟩ := hp129
        have hR := RL_FE k131 (fun _ => rfl) (fun _ => rfl) (fun _ => rfl) (fun _ => rfl) hR
        have hF := hF.tr k131 (by decide)
        have c150 := k131.gi kM_at0 (by decide) c109
        have c151 := k131.gi kM_at0 (by decide) c112
        have c152 := k131.gi kM_at0 (by decide) c115
        have c153 := k131.gi kM_at0 (by decide) c118
        have c154 := k131.gi kM_at3 rfl c121
        have c155 := k131.gi kM_at5 rfl c124
        rcases hg148 with ⟨g132, g133, ⟨x134, c135, rx134, tx134⟩, ⟨x136, c137, rx136, tx136⟩, g138, g139⟩ | ⟨rfl, ⟨x140, c141, rx140, tx140⟩, ⟨x142, c143, rx142, tx142⟩, g144⟩ | ⟨rfl, ⟨x145, c146, rx145, tx145⟩, g147⟩
        · replace hM := hM.call hv149 rfl
          have ex134 : x134.toInt = f35_0_1.toInt := by rw [← c150.symm.trans c135]
          have g138 : (gi w130 1 (x136.toInt).toNat).toInt ≠ 32 := by have q := g138; simp only [c112, c151, c137] at q; omega
          have g139 : (x136.toInt = x126.toInt ∨ (gi w104 1 (x126.toInt).toNat).toInt = 32) := by have q := g139; simp only [c112, c151, c127, c137] at q; omega
          refine lv_bipush (v := 59) hx hb dX12_readsAll_43 (by decide) ?_
          refine lv_icmp_ne (tgt := 66) hx hb dX12_readsAll_45 (by decide) (fun c158 => ?_) (fun c158 => ?_)
          · have c158 : ¬ r128.toInt = (59 : Int) := wk_eqF c158
            replace hM := hM.pos c158
            exact J66 v35_1 f35_0_1 f35_0_18 f35_0_20 f35_3__f0__toInt_toNat f35_5__f0__toInt_toNat H locs ls w130 (show 0 ≤ v35_1.toInt from r105) (show v35_1.toInt ≤ 1 from t106) (show 0 ≤ f35_0_1.toInt from r107) (show f35_0_1.toInt ≤ 400 from t108) (show 0 ≤ f0_.toInt from r110) (show f0_.toInt ≤ 5 from t111) (show 0 ≤ f35_0_18.toInt from r113) (show f35_0_18.toInt ≤ 60 from t114) (show 0 ≤ f35_0_20.toInt from r116) (show f35_0_20.toInt ≤ 12 from t117) (show 0 ≤ f35_3__f0__toInt_toNat.toInt from r119) (show f35_3__f0__toInt_toNat.toInt ≤ 400 from t120) (show 0 ≤ f35_5__f0__toInt_toNat.toInt from r122) (show f35_5__f0__toInt_toNat.toInt ≤ 12 from t123) (show (v35_1.toInt = 0 ∨ 3 * f35_3__f0__toInt_toNat.toInt ≤ 14 * f35_0_18.toInt) by omega) (show (v35_1.toInt = 0 ∨ f35_5__f0__toInt_toNat.toInt ≤ f35_0_20.toInt) by omega) (show f35_0_20.toInt ≤ 12 from t117)  hw hT hF hR c150 c151 c152 c153 c154 c155 hM (lv_sub hl [0, 1] rfl)
          · have c158 : r128.toInt = (59 : Int) := wk_eq.mp c158
            replace hM := hM.neg (fun q => q c158)
            refine lv_aload_n hx hb dX12_readsAll_48 rfl (lv_at hl 0 rfl) ?_
            refine lv_dup hx hb dX12_readsAll_49 rfl ?_
            refine tk_geti hC hK hw hT hinX12 kM_at0 (by decide) rfl 14 (by decide) (List.mem_cons_of_mem _ uw_19_18) rfl rfl dX12_readsAll_50 (fun x159 c160 rx159 tx159 => ?_)
            refine wk_top x136 (c160.symm.trans c137) ?_
            replace hM := hM.rd (sI_at c137)
            refine lv_iconst (v := 1) hx hb dX12_readsAll_53 (by decide) ?_
            refine lv_iadd hx hb dX12_readsAll_54 ?_
            refine lv_topi (fun x161 ex161 => ?_)
            have ezx161 := ex161
            have ex161 : x161.toInt = x136.toInt + (1 : Int) := by rw [ex161]; exact wk_add (show (-2147483648) ≤ x136.toInt + (1 : Int) by omega) (show x136.toInt + (1 : Int) ≤ 2147483647 by omega)
            replace hM := hM.lt ex161.symm
            refine tk_puti hC hK hw hT hinX12 tyX12_ok nmX12 kM_at0 (by decide) rfl rfl 14 (by decide) (List.mem_cons_of_mem _ uw_19_18) rfl rfl rfl rfl (show 0 ≤ x161.toInt by omega) (show x161.toInt ≤ 400 by omega) dX12_readsAll_55 (fun H locs w162 hw hT k164 c163 => ?_)
            replace hM := hM.wr (sI_up k164 c163)
            have hR := RL_F1 k164 (by decide) (by decide) (by decide) (by decide) hR
            have hF := hF.put kM_at0 (k := 14) (by decide) k164
            have c165 := k164.gi (Or.inr (by decide)) c150
            have c166 := k164.gi (Or.inr (by decide)) c151
            have c167 := k164.gi (Or.inr (by decide)) c152
            have c168 := k164.gi (Or.inr (by decide)) c153
            have c169 := k164.gi (Or.inl (tk_ne kM_at3 kM_at0 (by decide))) c154
            have c170 := k164.gi (Or.inl (tk_ne kM_at5 kM_at0 (by decide))) c155
            refine lv_aload_n hx hb dX12_readsAll_58 rfl (lv_at hl 0 rfl) ?_
            refine tk_Vi hC hK hw hT hA hE hSR kM_at0 (by decide) rfl (kz_X12_clauseHere_2 l adK adV dC dI cy ad B (by omega) (by omega) qr s1    w162 H.size hT f0_ c166 (show 0 ≤ f0_.toInt from r110) (show f0_.toInt ≤ 5 from t111) f35_0_18 c167 (show 0 ≤ f35_0_18.toInt from r113) (show f35_0_18.toInt ≤ 60 from t114) f35_0_20 c168 (show 0 ≤ f35_0_20.toInt from r116) (show f35_0_20.toInt ≤ 32 from Int.le_trans t117 (by decide)) f35_3__f0__toInt_toNat c169 (show 0 ≤ f35_3__f0__toInt_toNat.toInt from r119) (show f35_3__f0__toInt_toNat.toInt ≤ 400 from t120) f35_5__f0__toInt_toNat c170 (show 0 ≤ f35_5__f0__toInt_toNat.toInt from r122) (show f35_5__f0__toInt_toNat.toInt ≤ 12 from t123) (show 3 * f35_3__f0__toInt_toNat.toInt ≤ 14 * f35_0_18.toInt by omega) (show f35_5__f0__toInt_toNat.toInt ≤ f35_0_20.toInt by omega) (show f35_0_20.toInt ≤ 12 from t117) (show f35_3__f0__toInt_toNat.toInt ≤ 280 by omega) hR) (cwV 0 hC.2.2.2.2 uV_RX12_276 rfl rfl rfl (by decide +kernel) ⟨Nat.le_of_ble_eq_true rfl, Nat.le_of_ble_eq_true rfl⟩) rfl hl.1 rfl (Nat.le_of_ble_eq_true rfl) dX12_readsAll_59 (fun r171 w173 H locs hp172 hw => ?_)
            obtain ⟨hT, k174, hv220, hg219⟩ := hp172
            have hF := hF.tr k174 (by decide)
            have c221 := k174.gi kM_at0 (by decide) c165
            have c222 := k174.gi kM_at0 (by decide) c166
            rcases hg219 with ⟨rfl, ⟨x175, c176, rx175, tx175⟩, ⟨x177, c178, rx177, tx177⟩, ⟨x179, c180, rx179, tx179⟩, ⟨x181, c182, rx181, tx181⟩, hq183, g184, g185⟩ | ⟨rfl, ⟨x186, c187, rx186, tx186⟩, ⟨x188, c189, rx188, tx188⟩, ⟨x190, c191, rx190, tx190⟩, ⟨x192, c193, rx192, tx192⟩, hq194, g195, g196⟩ | ⟨rfl, ⟨x197, c198, rx197, tx197⟩, ⟨x199, c200, rx199, tx199⟩, ⟨x201, c202, rx201, tx201⟩, hq203, g204, g205, g206, g207⟩ | ⟨rfl, ⟨x208, c209, rx208, tx208⟩, ⟨x210, c211, rx210, tx210⟩, ⟨x212, c213, rx212, tx212⟩, hq214, g215, g216, g217, g218⟩
            · replace hM := hM.call (r' := 0) hv220 (by decide)
              have ex175 : x175.toInt = f35_0_1.toInt := by rw [← c221.symm.trans c176]
              have ex179 : x179.toInt = f0_.toInt := by rw [← c222.symm.trans c180]
              obtain ⟨x223, c224, rx223, tx223⟩ := hT.rda (lo := 0) (hi := 400) (i := (f0_.toInt).toNat) kM_at3 rfl rfl (by omega)
              obtain ⟨x225, c226, rx225, tx225⟩ := hT.rdi (lo := 0) (hi := 60) (k := 18) kM_at0 (by decide) rfl
              obtain ⟨x227, c228, rx227, tx227⟩ := hT.rda (lo := 0) (hi := 12) (i := (f0_.toInt).toNat) kM_at5 rfl rfl (by omega)
              have g184 : f35_0_20.toInt ≤ x181.toInt := by have q := g184; simp only [c166, c222, c168, c182] at q; omega
              have g185 : x181.toInt ≤ 12 := by have q := g185; simp only [c166, c222, c182] at q; omega
              have hR := hq183
              refine lv_istore_n (lv' := [(1, .int 0), (0, .ref (ad 0))]) hx hb dX12_readsAll_62 rfl hl (by decide) rfl (fun ls hl => ?_)
              refine lv_goto (tgt := 35) hx hb dX12_readsAll_63 (by decide) ?_
              exact ih35 0 f35_0_1 x225 x181 x223 x227 H locs ls w173 (by decide) (by decide) (show 0 ≤ f35_0_1.toInt from r107) (show f35_0_1.toInt ≤ 400 from t108) (show 0 ≤ f0_.toInt from r110) (show f0_.toInt ≤ 5 from t111) (show 0 ≤ x225.toInt by omega) (show x225.toInt ≤ 60 by omega) (show 0 ≤ x181.toInt by omega) (show x181.toInt ≤ 12 from g185) (show 0 ≤ x223.toInt by omega) (show x223.toInt ≤ 400 by omega) (show 0 ≤ x227.toInt by omega) (show x227.toInt ≤ 12 by omega) (show ((0 : Int) = 0 ∨ 3 * x223.toInt ≤ 14 * x225.toInt) by omega) (show ((0 : Int) = 0 ∨ x227.toInt ≤ x181.toInt) by omega) (show x181.toInt ≤ 12 from g185) (show (2 * (32 - x181.toInt) + (0 : Int)).toNat < n35 by omega) hw hT hF hR c221 c222 c226 c182 c224 c228 hM (lv_sub hl [1, 0] rfl)
            · replace hM := hM.call (r' := 0) hv220 (by decide)
              have ex186 : x186.toInt = f35_0_1.toInt := by rw [← c221.symm.trans c187]
              have ex190 : x190.toInt = f0_.toInt := by rw [← c222.symm.trans c191]
              obtain ⟨x229, c230, rx229, tx229⟩ := hT.rda (lo := 0) (hi := 400) (i := (f0_.toInt).toNat) kM_at3 rfl rfl (by omega)
              obtain ⟨x231, c232, rx231, tx231⟩ := hT.rdi (lo := 0) (hi := 60) (k := 18) kM_at0 (by decide) rfl
              obtain ⟨x233, c234, rx233, tx233⟩ := hT.rda (lo := 0) (hi := 12) (i := (f0_.toInt).toNat) kM_at5 rfl rfl (by omega)
              have g195 : f35_0_20.toInt ≤ x192.toInt := by have q := g195; simp only [c166, c222, c168, c193] at q; omega
              have g196 : x192.toInt ≤ 12 := by have q := g196; simp only [c166, c222, c193] at q; omega
              have hR := hq194
              refine lv_istore_n (lv' := [(1, .int 0), (0, .ref (ad 0))]) hx hb dX12_readsAll_62 rfl hl (by decide) rfl (fun ls hl => ?_)
              refine lv_goto (tgt := 35) hx hb dX12_readsAll_63 (by decide) ?_
              exact ih35 0 f35_0_1 x231 x192 x229 x233 H locs ls w173 (by decide) (by decide) (show 0 ≤ f35_0_1.toInt from r107) (show f35_0_1.toInt ≤ 400 from t108) (show 0 ≤ f0_.toInt from r110) (show f0_.toInt ≤ 5 from t111) (show 0 ≤ x231.toInt by omega) (show x231.toInt ≤ 60 by omega) (show 0 ≤ x192.toInt by omega) (show x192.toInt ≤ 12 from g196) (show 0 ≤ x229.toInt by omega) (show x229.toInt ≤ 400 by omega) (show 0 ≤ x233.toInt by omega) (show x233.toInt ≤ 12 by omega) (show ((0 : Int) = 0 ∨ 3 * x229.toInt ≤ 14 * x231.toInt) by omega) (show ((0 : Int) = 0 ∨ x233.toInt ≤ x192.toInt) by omega) (show x192.toInt ≤ 12 from g196) (show (2 * (32 - x192.toInt) + (0 : Int)).toNat < n35 by omega) hw hT hF hR c221 c222 c232 c193 c230 c234 hM (lv_sub hl [1, 0] rfl)
            · replace hM := hM.call (r' := 1) hv220 (by decide)
              have ex197 : x197.toInt = f35_0_1.toInt := by rw [← c221.symm.trans c198]
              have ex199 : x199.toInt = f0_.toInt := by rw [← c222.symm.trans c200]
              obtain ⟨x235, c236, rx235, tx235⟩ := hT.rda (lo := 0) (hi := 400) (i := (f0_.toInt).toNat) kM_at3 rfl rfl (by omega)
              obtain ⟨x237, c238, rx237, tx237⟩ := hT.rdi (lo := 0) (hi := 60) (k := 18) kM_at0 (by decide) rfl
              obtain ⟨x239, c240, rx239, tx239⟩ := hT.rda (lo := 0) (hi := 12) (i := (f0_.toInt).toNat) kM_at5 rfl rfl (by omega)
              have g204 : 3 * x235.toInt ≤ 14 * x237.toInt := by have q := g204; simp only [c166, c222, c236, c238] at q; omega
              have g205 : x239.toInt ≤ x201.toInt := by have q := g205; simp only [c166, c222, c240, c202] at q; omega
              have g206 : x201.toInt = f35_0_20.toInt + 1 := by have q := g206; simp only [c166, c222, c168, c202] at q; omega
              have g207 : x201.toInt ≤ 12 := by have q := g207; simp only [c166, c222, c202] at q; omega
              have hR := hq203
              refine lv_istore_n (lv' := [(1, .int 1), (0, .ref (ad 0))]) hx hb dX12_readsAll_62 rfl hl (by decide) rfl (fun ls hl => ?_)
              refine lv_goto (tgt := 35) hx hb dX12_readsAll_63 (by decide) ?_
              exact ih35 1 f35_0_1 x237 x201 x235 x239 H locs ls w173 (by decide) (by decide) (show 0 ≤ f35_0_1.toInt from r107) (show f35_0_1.toInt ≤ 400 from t108) (show 0 ≤ f0_.toInt from r110) (show f0_.toInt ≤ 5 from t111) (show 0 ≤ x237.toInt by omega) (show x237.toInt ≤ 60 by omega) (show 0 ≤ x201.toInt by omega) (show x201.toInt ≤ 12 from g207) (show 0 ≤ x235.toInt by omega) (show x235.toInt ≤ 400 by omega) (show 0 ≤ x239.toInt by omega) (show x239.toInt ≤ 12 by omega) (show ((1 : Int) = 0 ∨ 3 * x235.toInt ≤ 14 * x237.toInt) by omega) (show ((1 : Int) = 0 ∨ x239.toInt ≤ x201.toInt) by omega) (show x201.toInt ≤ 12 from g207) (show (2 * (32 - x201.toInt) + (1 : Int)).toNat < n35 by omega) hw hT hF hR c221 c222 c238 c202 c236 c240 hM (lv_sub hl [1, 0] rfl)
            · replace hM := hM.call (r' := 1) hv220 (by decide)
              have ex208 : x208.toInt = f35_0_1.toInt := by rw [← c221.symm.trans c209]
              have ex210 : x210.toInt = f0_.toInt := by rw [← c222.symm.trans c211]
              obtain ⟨x241, c242, rx241, tx241⟩ := hT.rda (lo := 0) (hi := 400) (i := (f0_.toInt).toNat) kM_at3 rfl rfl (by omega)
              obtain ⟨x243, c244, rx243, tx243⟩ := hT.rdi (lo := 0) (hi := 60) (k := 18) kM_at0 (by decide) rfl
              obtain ⟨x245, c246, rx245, tx245⟩ := hT.rda (lo := 0) (hi := 12) (i := (f0_.toInt).toNat) kM_at5 rfl rfl (by omega)
              have g215 : 3 * x241.toInt ≤ 14 * x243.toInt := by have q := g215; simp only [c166, c222, c242, c244] at q; omega
              have g216 : x245.toInt ≤ x212.toInt := by have q := g216; simp only [c166, c222, c246, c213] at q; omega
              have g217 : x212.toInt = f35_0_20.toInt + 1 := by have q := g217; simp only [c166, c222, c168, c213] at q; omega
              have g218 : x212.toInt ≤ 12 := by have q := g218; simp only [c166, c222, c213] at q; omega
              have hR := hq214
              refine lv_istore_n (lv' := [(1, .int 1), (0, .ref (ad 0))]) hx hb dX12_readsAll_62 rfl hl (by decide) rfl (fun ls hl => ?_)
              refine lv_goto (tgt := 35) hx hb dX12_readsAll_63 (by decide) ?_
              exact ih35 1 f35_0_1 x243 x212 x241 x245 H locs ls w173 (by decide) (by decide) (show 0 ≤ f35_0_1.toInt from r107) (show f35_0_1.toInt ≤ 400 from t108) (show 0 ≤ f0_.toInt from r110) (show f0_.toInt ≤ 5 from t111) (show 0 ≤ x243.toInt by omega) (show x243.toInt ≤ 60 by omega) (show 0 ≤ x212.toInt by omega) (show x212.toInt ≤ 12 from g218) (show 0 ≤ x241.toInt by omega) (show x241.toInt ≤ 400 by omega) (show 0 ≤ x245.toInt by omega) (show x245.toInt ≤ 12 by omega) (show ((1 : Int) = 0 ∨ 3 * x241.toInt ≤ 14 * x243.toInt) by omega) (show ((1 : Int) = 0 ∨ x245.toInt ≤ x212.toInt) by omega) (show x212.toInt ≤ 12 from g218) (show (2 * (32 - x212.toInt) + (1 : Int)).toNat < n35 by omega) hw hT hF hR c221 c222 c244 c213 c242 c246 hM (lv_sub hl [1, 0] rfl)
        · replace hM := hM.call (r' := (-1)) hv149 (by decide)
          have ex140 : x140.toInt = f35_0_1.toInt := by rw [← c150.symm.trans c141]
          have g144 : (x142.toInt = x126.toInt ∨ (gi w104 1 (x126.toInt).toNat).toInt = 32) := by have q := g144; simp only [c112, c151, c127, c143] at q; omega
          refine lv_bipush (v := 59) hx hb dX12_readsAll_43 (by decide) ?_
          refine lv_icmp_ne (tgt := 66) hx hb dX12_readsAll_45 (by decide) (fun _ => ?_) (fun c => absurd c (by decide))
          replace hM := hM.pos (by decide)
          exact J66 v35_1 f35_0_1 f35_0_18 f35_0_20 f35_3__f0__toInt_toNat f35_5__f0__toInt_toNat H locs ls w130 (show 0 ≤ v35_1.toInt from r105) (show v35_1.toInt ≤ 1 from t106) (show 0 ≤ f35_0_1.toInt from r107) (show f35_0_1.toInt ≤ 400 from t108) (show 0 ≤ f0_.toInt from r110) (show f0_.toInt ≤ 5 from t111) (show 0 ≤ f35_0_18.toInt from r113) (show f35_0_18.toInt ≤ 60 from t114) (show 0 ≤ f35_0_20.toInt from r116) (show f35_0_20.toInt ≤ 12 from t117) (show 0 ≤ f35_3__f0__toInt_toNat.toInt from r119) (show f35_3__f0__toInt_toNat.toInt ≤ 400 from t120) (show 0 ≤ f35_5__f0__toInt_toNat.toInt from r122) (show f35_5__f0__toInt_toNat.toInt ≤ 12 from t123) (show (v35_1.toInt = 0 ∨ 3 * f35_3__f0__toInt_toNat.toInt ≤ 14 * f35_0_18.toInt) by omega) (show (v35_1.toInt = 0 ∨ f35_5__f0__toInt_toNat.toInt ≤ f35_0_20.toInt) by omega) (show f35_0_20.toInt ≤ 12 from t117)  hw hT hF hR c150 c151 c152 c153 c154 c155 hM (lv_sub hl [0, 1] rfl)
        · replace hM := hM.call (r' := (-1)) hv149 (by decide)
          have ex145 : x145.toInt = f35_0_1.toInt := by rw [← c150.symm.trans c146]
          obtain ⟨x156, c157, rx156, tx156⟩ := hT.rdi (lo := 0) (hi := 400) (k := 14) kM_at0 (by decide) rfl
          have g147 : (x156.toInt = x126.toInt ∨ (gi w104 1 (x126.toInt).toNat).toInt = 32) := by have q := g147; simp only [c112, c151, c127, c157] at q; omega
          refine lv_bipush (v := 59) hx hb dX12_readsAll_43 (by decide) ?_
          refine lv_icmp_ne (tgt := 66) hx hb dX12_readsAll_45 (by decide) (fun _ => ?_) (fun c => absurd c (by decide))
          replace hM := hM.pos (by decide)
          exact J66 v35_1 f35_0_1 f35_0_18 f35_0_20 f35_3__f0__toInt_toNat f35_5__f0__toInt_toNat H locs ls w130 (show 0 ≤ v35_1.toInt from r105) (show v35_1.toInt ≤ 1 from t106) (show 0 ≤ f35_0_1.toInt from r107) (show f35_0_1.toInt ≤ 400 from t108) (show 0 ≤ f0_.toInt from r110) (show f0_.toInt ≤ 5 from t111) (show 0 ≤ f35_0_18.toInt from r113) (show f35_0_18.toInt ≤ 60 from t114) (show 0 ≤ f35_0_20.toInt from r116) (show f35_0_20.toInt ≤ 12 from t117) (show 0 ≤ f35_3__f0__toInt_toNat.toInt from r119) (show f35_3__f0__toInt_toNat.toInt ≤ 400 from t120) (show 0 ≤ f35_5__f0__toInt_toNat.toInt from r122) (show f35_5__f0__toInt_toNat.toInt ≤ 12 from t123) (show (v35_1.toInt = 0 ∨ 3 * f35_3__f0__toInt_toNat.toInt ≤ 14 * f35_0_18.toInt) by omega) (show (v35_1.toInt = 0 ∨ f35_5__f0__toInt_toNat.toInt ≤ f35_0_20.toInt) by omega) (show f35_0_20.toInt ≤ 12 from t117)  hw hT hF hR c150 c151 c152 c153 c154 c155 hM (lv_sub hl [0, 1] rfl)
  have hM : TT (fun n => m_X12_readsAll n 0 (sI w0)) (fun n => m_X12_readsAll n 0 (sI w0)) := TT.rf
  refine lv_aload_n hx hb dX12_readsAll_0 rfl (lv_at hl 0 rfl) ?_
  refine tk_getA hC hK hw hT hinX12 kM_at0 (by decide) rfl 4 (by decide) (List.mem_cons_of_mem _ uw_6_16) rfl rfl dX12_readsAll_1 ?_
  refine lv_aload_n hx hb dX12_readsAll_4 rfl (lv_at hl 0 rfl) ?_
  refine tk_geti hC hK hw hT hinX12 kM_at0 (by decide) rfl 17 (by decide) (List.mem_cons_of_mem _ uw_19_7) rfl rfl dX12_readsAll_5 (fun x247 c248 rx247 tx247 => ?_)
  refine wk_top f0_ (c248.symm.trans cf0_) ?_
  replace hM := hM.rd (sI_at cf0_)
  refine lv_iconst (v := 0) hx hb dX12_readsAll_8 (by decide) ?_
  refine tk_iast hC hK hw hT kM_at3 (by decide) rfl rfl (show 0 ≤ f0_.toInt from rf0_) (show f0_.toInt < 7 from Int.lt_of_le_of_lt tf0_ (by decide)) (by decide) (by decide) dX12_readsAll_9 (fun H locs w249 hw hT k251 c250 => ?_)
  replace hM := hM.wr (sI_upc k251 c250 (by decide))
  have hR := RL_start (t := f0_.toInt) hRW (by omega) (by omega) (by rw [cf4_]; omega) k251
  have hF := hF.put kM_at3 (inE_of (a := 0) (b := 7) (by decide) (show 0 ≤ f0_.toInt.toNat by omega) (show f0_.toInt.toNat ≤ 7 by omega)) k251
  have c252 := k251.gi (Or.inl (tk_ne kM_at0 kM_at3 (by decide))) cf0_
  have c253 := k251.gi (Or.inl (tk_ne kM_at0 kM_at3 (by decide))) cf1_
  have c254 := k251.gi (Or.inl (tk_ne kM_at0 kM_at3 (by decide))) cf2_
  have c255 := k251.gi (Or.inl (tk_ne kM_at5 kM_at3 (by decide))) cf4_
  have c250 : gi w249 3 (f0_.toInt).toNat = 0 := (congrArg (gi w249 3) (congrArg Int.toNat (show f0_.toInt = f0_.toInt by omega))).trans c250
  refine lv_aload_n hx hb dX12_readsAll_10 rfl (lv_at hl 0 rfl) ?_
  refine lv_iconst (v := 0) hx hb dX12_readsAll_11 (by decide) ?_
  refine tk_puti hC hK hw hT hinX12 tyX12_ok nmX12 kM_at0 (by decide) rfl rfl 20 (by decide) (List.mem_cons_of_mem _ uw_19_17) rfl rfl rfl rfl (by decide) (by decide) dX12_readsAll_12 (fun H locs w256 hw hT k258 c257 => ?_)
  replace hM := hM.wr (sI_upc k258 c257 (by decide))
  have hR := RL_F1 k258 (by decide) (by decide) (by decide) (by decide) hR
  have hF := hF.put kM_at0 (k := 20) (by decide) k258
  have c259 := k258.gi (Or.inr (by decide)) c252
  have c260 := k258.gi (Or.inr (by decide)) c253
  have c261 := k258.gi (Or.inl (tk_ne kM_at5 kM_at0 (by decide))) c255
  have c262 := k258.gi (Or.inl (tk_ne kM_at3 kM_at0 (by decide))) c250
  refine lv_aload_n hx hb dX12_readsAll_15 rfl (lv_at hl 0 rfl) ?_
  refine lv_iconst (v := 0) hx hb dX12_readsAll_16 (by decide) ?_
  refine tk_puti hC hK hw hT hinX12 tyX12_ok nmX12 kM_at0 (by decide) rfl rfl 14 (by decide) (List.mem_cons_of_mem _ uw_19_18) rfl rfl rfl rfl (by decide) (by decide) dX12_readsAll_17 (fun H locs w263 hw hT k265 c264 => ?_)
  replace hM := hM.wr (sI_upc k265 c264 (by decide))
  have hR := RL_F1 k265 (by decide) (by decide) (by decide) (by decide) hR
  have hF := hF.put kM_at0 (k := 14) (by decide) k265
  have c266 := k265.gi (Or.inr (by decide)) c259
  have c267 := k265.gi (Or.inr (by decide)) c260
  have c268 := k265.gi (Or.inl (tk_ne kM_at5 kM_at0 (by decide))) c261
  have c269 := k265.gi (Or.inl (tk_ne kM_at3 kM_at0 (by decide))) c262
  have c270 := k265.gi (Or.inr (by decide)) c257
  refine lv_aload_n hx hb dX12_readsAll_20 rfl (lv_at hl 0 rfl) ?_
  refine lv_iconst (v := 0) hx hb dX12_readsAll_21 (by decide) ?_
  refine tk_puti hC hK hw hT hinX12 tyX12_ok nmX12 kM_at0 (by decide) rfl rfl 15 (by decide) (List.mem_cons_of_mem _ uw_19_12) rfl rfl rfl rfl (by decide) (by decide) dX12_readsAll_22 (fun H locs w271 hw hT k273 c272 => ?_)
  replace hM := hM.wr (sI_upc k273 c272 (by decide))
  have hR := RL_F1 k273 (by decide) (by decide) (by decide) (by decide) hR
  have hF := hF.put kM_at0 (k := 15) (by decide) k273
  have c274 := k273.gi (Or.inr (by decide)) c266
  have c275 := k273.gi (Or.inr (by decide)) c267
  have c276 := k273.gi (Or.inl (tk_ne kM_at5 kM_at0 (by decide))) c268
  have c277 := k273.gi (Or.inl (tk_ne kM_at3 kM_at0 (by decide))) c269
  have c278 := k273.gi (Or.inr (by decide)) c270
  have c279 := k273.gi (Or.inr (by decide)) c264
  refine lv_aload_n hx hb dX12_readsAll_25 rfl (lv_at hl 0 rfl) ?_
  refine lv_iconst (v := 0) hx hb dX12_readsAll_26 (by decide) ?_
  refine tk_puti hC hK hw hT hinX12 tyX12_ok nmX12 kM_at0 (by decide) rfl rfl 18 (by decide) (List.mem_cons_of_mem _ uw_19_19) rfl rfl rfl rfl (by decide) (by decide) dX12_readsAll_27 (fun H locs w280 hw hT k282 c281 => ?_)
  replace hM := hM.wr (sI_upc k282 c281 (by decide))
  have hR := RL_F1 k282 (by decide) (by decide) (by decide) (by decide) hR
  have hF := hF.put kM_at0 (k := 18) (by decide) k282
  have c283 := k282.gi (Or.inr (by decide)) c274
  have c284 := k282.gi (Or.inl (tk_ne kM_at5 kM_at0 (by decide))) c276
  have c285 := k282.gi (Or.inl (tk_ne kM_at3 kM_at0 (by decide))) c277
  have c286 := k282.gi (Or.inr (by decide)) c278
  have c287 := k282.gi (Or.inr (by decide)) c279
  have c288 := k282.gi (Or.inr (by decide)) c272
  refine lv_aload_n hx hb dX12_readsAll_30 rfl (lv_at hl 0 rfl) ?_
  refine tk_Vi hC hK hw hT hA hE hSR kM_at0 (by decide) rfl (kz_X12_clauseHere_2 l adK adV dC dI cy ad B (by omega) (by omega) qr s1    w280 H.size hT f0_ c283 (show 0 ≤ f0_.toInt from rf0_) (show f0_.toInt ≤ 5 from tf0_) 0 c281 (by decide) (by decide) 0 c286 (by decide) (by decide) 0 c285 (by decide) (by decide) f4_ c284 (show 0 ≤ f4_.toInt from rf4_) (show f4_.toInt ≤ 12 from tf4_) (show 3 * (0 : Int) ≤ 14 * (0 : Int) by omega) (show f4_.toInt ≤ (0 : Int) from pr0_) (show (0 : Int) ≤ 12 by omega) (show (0 : Int) ≤ 280 by omega) hR) (cwV 0 hC.2.2.2.2 uV_RX12_276 rfl rfl rfl (by decide +kernel) ⟨Nat.le_of_ble_eq_true rfl, Nat.le_of_ble_eq_true rfl⟩) rfl hl.1 rfl (Nat.le_of_ble_eq_true rfl) dX12_readsAll_31 (fun r289 w291 H locs hp290 hw => ?_)
  obtain ⟨hT, k292, hv338, hg337⟩ := hp290
  have hF := hF.tr k292 (by decide)
  have c339 := k292.gi kM_at0 (by decide) c283
  rcases hg337 with ⟨rfl, ⟨x293, c294, rx293, tx293⟩, ⟨x295, c296, rx295, tx295⟩, ⟨x297, c298, rx297, tx297⟩, ⟨x299, c300, rx299, tx299⟩, hq301, g302, g303⟩ | ⟨rfl, ⟨x304, c305, rx304, tx304⟩, ⟨x306, c307, rx306, tx306⟩, ⟨x308, c309, rx308, tx308⟩, ⟨x310, c311, rx310, tx310⟩, hq312, g313, g314⟩ | ⟨rfl, ⟨x315, c316, rx315, tx315⟩, ⟨x317, c318, rx317, tx317⟩, ⟨x319, c320, rx319, tx319⟩, hq321, g322, g323, g324, g325⟩ | ⟨rfl, ⟨x326, c327, rx326, tx326⟩, ⟨x328, c329, rx328, tx328⟩, ⟨x330, c331, rx330, tx330⟩, hq332, g333, g334, g335, g336⟩
  · replace hM := hM.call (r' := 0) hv338 (by decide)
    have ex297 : x297.toInt = f0_.toInt := by rw [← c339.symm.trans c298]
    obtain ⟨x340, c341, rx340, tx340⟩ := hT.rda (lo := 0) (hi := 400) (i := (f0_.toInt).toNat) kM_at3 rfl rfl (by omega)
    obtain ⟨x342, c343, rx342, tx342⟩ := hT.rdi (lo := 0) (hi := 60) (k := 18) kM_at0 (by decide) rfl
    obtain ⟨x344, c345, rx344, tx344⟩ := hT.rda (lo := 0) (hi := 12) (i := (f0_.toInt).toNat) kM_at5 rfl rfl (by omega)
    have g302 : (0 : Int) ≤ x299.toInt := by have q := g302; simp only [c283, c339, c286, (show (0 : Int32).toInt = 0 by decide), c300] at q; omega
    have g303 : x299.toInt ≤ 12 := by have q := g303; simp only [c283, c339, c300] at q; omega
    have hR := hq301
    refine lv_istore_n (lv' := [(1, .int 0), (0, .ref (ad 0))]) hx hb dX12_readsAll_34 rfl hl (by decide) rfl (fun ls hl => ?_)
    exact L35 ((2 * (32 - x299.toInt) + (0 : Int)).toNat + 1) 0 x293 x342 x299 x340 x344 H locs ls w291 (by decide) (by decide) (show 0 ≤ x293.toInt by omega) (show x293.toInt ≤ 400 by omega) (show 0 ≤ f0_.toInt from rf0_) (show f0_.toInt ≤ 5 from tf0_) (show 0 ≤ x342.toInt by omega) (show x342.toInt ≤ 60 by omega) (show 0 ≤ x299.toInt from g302) (show x299.toInt ≤ 12 from g303) (show 0 ≤ x340.toInt by omega) (show x340.toInt ≤ 400 by omega) (show 0 ≤ x344.toInt by omega) (show x344.toInt ≤ 12 by omega) (show ((0 : Int) = 0 ∨ 3 * x340.toInt ≤ 14 * x342.toInt) by omega) (show ((0 : Int) = 0 ∨ x344.toInt ≤ x299.toInt) by omega) (show x299.toInt ≤ 12 from g303) (Nat.lt_succ_self _) hw hT hF hR c294 c339 c343 c300 c341 c345 hM (lv_sub hl [1, 0] rfl)
  · replace hM := hM.call (r' := 0) hv338 (by decide)
    have ex308 : x308.toInt = f0_.toInt := by rw [← c339.symm.trans c309]
    obtain ⟨x346, c347, rx346, tx346⟩ := hT.rda (lo := 0) (hi := 400) (i := (f0_.toInt).toNat) kM_at3 rfl rfl (by omega)
    obtain ⟨x348, c349, rx348, tx348⟩ := hT.rdi (lo := 0) (hi := 60) (k := 18) kM_at0 (by decide) rfl
    obtain ⟨x350, c351, rx350, tx350⟩ := hT.rda (lo := 0) (hi := 12) (i := (f0_.toInt).toNat) kM_at5 rfl rfl (by omega)
    have g313 : (0 : Int) ≤ x310.toInt := by have q := g313; simp only [c283, c339, c286, (show (0 : Int32).toInt = 0 by decide), c311] at q; omega
    have g314 : x310.toInt ≤ 12 := by have q := g314; simp only [c283, c339, c311] at q; omega
    have hR := hq312
    refine lv_istore_n (lv' := [(1, .int 0), (0, .ref (ad 0))]) hx hb dX12_readsAll_34 rfl hl (by decide) rfl (fun ls hl => ?_)
    exact L35 ((2 * (32 - x310.toInt) + (0 : Int)).toNat + 1) 0 x304 x348 x310 x346 x350 H locs ls w291 (by decide) (by decide) (show 0 ≤ x304.toInt by omega) (show x304.toInt ≤ 400 by omega) (show 0 ≤ f0_.toInt from rf0_) (show f0_.toInt ≤ 5 from tf0_) (show 0 ≤ x348.toInt by omega) (show x348.toInt ≤ 60 by omega) (show 0 ≤ x310.toInt from g313) (show x310.toInt ≤ 12 from g314) (show 0 ≤ x346.toInt by omega) (show x346.toInt ≤ 400 by omega) (show 0 ≤ x350.toInt by omega) (show x350.toInt ≤ 12 by omega) (show ((0 : Int) = 0 ∨ 3 * x346.toInt ≤ 14 * x348.toInt) by omega) (show ((0 : Int) = 0 ∨ x350.toInt ≤ x310.toInt) by omega) (show x310.toInt ≤ 12 from g314) (Nat.lt_succ_self _) hw hT hF hR c305 c339 c349 c311 c347 c351 hM (lv_sub hl [1, 0] rfl)
  · replace hM := hM.call (r' := 1) hv338 (by decide)
    have ex317 : x317.toInt = f0_.toInt := by rw [← c339.symm.trans c318]
    obtain ⟨x352, c353, rx352, tx352⟩ := hT.rda (lo := 0) (hi := 400) (i := (f0_.toInt).toNat) kM_at3 rfl rfl (by omega)
    obtain ⟨x354, c355, rx354, tx354⟩ := hT.rdi (lo := 0) (hi := 60) (k := 18) kM_at0 (by decide) rfl
    obtain ⟨x356, c357, rx356, tx356⟩ := hT.rda (lo := 0) (hi := 12) (i := (f0_.toInt).toNat) kM_at5 rfl rfl (by omega)
    have g322 : 3 * x352.toInt ≤ 14 * x354.toInt := by have q := g322; simp only [c283, c339, c353, c355] at q; omega
    have g323 : x356.toInt ≤ x319.toInt := by have q := g323; simp only [c283, c339, c357, c320] at q; omega
    have g324 : x319.toInt = (0 : Int) + 1 := by have q := g324; simp only [c283, c339, c286, (show (0 : Int32).toInt = 0 by decide), c320] at q; omega
    have g325 : x319.toInt ≤ 12 := by have q := g325; simp only [c283, c339, c320] at q; omega
    have hR := hq321
    refine lv_istore_n (lv' := [(1, .int 1), (0, .ref (ad 0))]) hx hb dX12_readsAll_34 rfl hl (by decide) rfl (fun ls hl => ?_)
    exact L35 ((2 * (32 - x319.toInt) + (1 : Int)).toNat + 1) 1 x315 x354 x319 x352 x356 H locs ls w291 (by decide) (by decide) (show 0 ≤ x315.toInt by omega) (show x315.toInt ≤ 400 by omega) (show 0 ≤ f0_.toInt from rf0_) (show f0_.toInt ≤ 5 from tf0_) (show 0 ≤ x354.toInt by omega) (show x354.toInt ≤ 60 by omega) (show 0 ≤ x319.toInt by omega) (show x319.toInt ≤ 12 from g325) (show 0 ≤ x352.toInt by omega) (show x352.toInt ≤ 400 by omega) (show 0 ≤ x356.toInt by omega) (show x356.toInt ≤ 12 by omega) (show ((1 : Int) = 0 ∨ 3 * x352.toInt ≤ 14 * x354.toInt) by omega) (show ((1 : Int) = 0 ∨ x356.toInt ≤ x319.toInt) by omega) (show x319.toInt ≤ 12 from g325) (Nat.lt_succ_self _) hw hT hF hR c316 c339 c355 c320 c353 c357 hM (lv_sub hl [1, 0] rfl)
  · replace hM := hM.call (r' := 1) hv338 (by decide)
    have ex328 : x328.toInt = f0_.toInt := by rw [← c339.symm.trans c329]
    obtain ⟨x358, c359, rx358, tx358⟩ := hT.rda (lo := 0) (hi := 400) (i := (f0_.toInt).toNat) kM_at3 rfl rfl (by omega)
    obtain ⟨x360, c361, rx360, tx360⟩ := hT.rdi (lo := 0) (hi := 60) (k := 18) kM_at0 (by decide) rfl
    obtain ⟨x362, c363, rx362, tx362⟩ := hT.rda (lo := 0) (hi := 12) (i := (f0_.toInt).toNat) kM_at5 rfl rfl (by omega)
    have g333 : 3 * x358.toInt ≤ 14 * x360.toInt := by have q := g333; simp only [c283, c339, c359, c361] at q; omega
    have g334 : x362.toInt ≤ x330.toInt := by have q := g334; simp only [c283, c339, c363, c331] at q; omega
    have g335 : x330.toInt = (0 : Int) + 1 := by have q := g335; simp only [c283, c339, c286, (show (0 : Int32).toInt = 0 by decide), c331] at q; omega
    have g336 : x330.toInt ≤ 12 := by have q := g336; simp only [c283, c339, c331] at q; omega
    have hR := hq332
    refine lv_istore_n (lv' := [(1, .int 1), (0, .ref (ad 0))]) hx hb dX12_readsAll_34 rfl hl (by decide) rfl (fun ls hl => ?_)
    exact L35 ((2 * (32 - x330.toInt) + (1 : Int)).toNat + 1) 1 x326 x360 x330 x358 x362 H locs ls w291 (by decide) (by decide) (show 0 ≤ x326.toInt by omega) (show x326.toInt ≤ 400 by omega) (show 0 ≤ f0_.toInt from rf0_) (show f0_.toInt ≤ 5 from tf0_) (show 0 ≤ x360.toInt by omega) (show x360.toInt ≤ 60 by omega) (show 0 ≤ x330.toInt by omega) (show x330.toInt ≤ 12 from g336) (show 0 ≤ x358.toInt by omega) (show x358.toInt ≤ 400 by omega) (show 0 ≤ x362.toInt by omega) (show x362.toInt ≤ 12 by omega) (show ((1 : Int) = 0 ∨ 3 * x358.toInt ≤ 14 * x360.toInt) by omega) (show ((1 : Int) = 0 ∨ x362.toInt ≤ x330.toInt) by omega) (show x330.toInt ≤ 12 from g336) (Nat.lt_succ_self _) hw hT hF hR c327 c339 c361 c331 c359 c363 hM (lv_sub hl [1, 0] rfl)
abbrev Pz_X12_rule_1 (ad : Nat → Nat) (cy : Nat → ClassId) (B : Int) (qr : Nat) (s1 : Int)  (w0 : va_W) : Int32 → va_W → Prop := fun r u => TW ksM ad cy B qr 12 u ∧ FE ksM [(12, 1, 1), (12, 2, 2), (12, 14, 14), (12, 15, 15), (12, 16, 16), (12, 17, 17), (12, 18, 18), (12, 19, 19), (12, 20, 20), (12, 22, 22), (61, 0, 2400), (62, 0, 7), (63, 0, 216), (64, 0, 6), (68, 0, 400)] w0 u ∧ Ev (fun n => m_X12_rule n 0 (sI w0)) (r.toInt, sI u) ∧ (((-3207) ≤ r.toInt ∧ r.toInt ≤ (-3) ∧ (∃ y : Int32, gi u 0 1 = y ∧ 0 ≤ y.toInt ∧ y.toInt ≤ 0) ∧ (∃ y : Int32, gi u 0 2 = y ∧ 0 ≤ y.toInt ∧ y.toInt ≤ 5) ∧ (∃ y : Int32, gi u 0 15 = y ∧ 1 ≤ y.toInt ∧ y.toInt ≤ 3205) ∧ (∃ y : Int32, gi u 0 17 = y ∧ 0 ≤ y.toInt ∧ y.toInt ≤ 5) ∧ (∃ y : Int32, gi u 0 20 = y ∧ 0 ≤ y.toInt ∧ y.toInt ≤ 12) ∧ RW u) ∨ (0 ≤ r.toInt ∧ r.toInt ≤ 5 ∧ (∃ y : Int32, gi u 0 1 = y ∧ 0 ≤ y.toInt ∧ y.toInt ≤ 0) ∧ (∃ y : Int32, gi u 0 2 = y ∧ 1 ≤ y.toInt ∧ y.toInt ≤ 6) ∧ (∃ y : Int32, gi u 0 15 = y ∧ 0 ≤ y.toInt ∧ y.toInt ≤ 0) ∧ (∃ y : Int32, gi u 0 17 = y ∧ 0 ≤ y.toInt ∧ y.toInt ≤ 5) ∧ (∃ y : Int32, gi u 0 20 = y ∧ 0 ≤ y.toInt ∧ y.toInt ≤ 12) ∧ RW u) ∨ (r = (-1) ∧ (∃ y : Int32, gi u 0 2 = y ∧ 6 ≤ y.toInt ∧ y.toInt ≤ 6) ∧ RW u))
set_option maxHeartbeats 4000000 in
set_option maxRecDepth 100000 in
theorem kz_X12_rule_1 (l : Launch) (adK adV : Nat → Nat) (dC : Nat → ClassId) (dI : Nat → Nat → Nat) (cy : Nat → ClassId) (ad : Nat → Nat) (B : Int) (hB0 : 100000 ≤ B) (hB1 : B ≤ 1073741824) (qr : Nat) (s1 : Int)   (w0 : va_W) (sz : Nat) (hT : TW ksM ad cy B qr 12 w0) (hRW : RW w0) : Met l yX12_rule (wu yX12_rule cX12_rule 1 (some .int)) ({ frames := 13, cells := 0, slots := 0, locals := 276 }) (va_Pc [.ref (ad 0)] (wpreS adK adV dC dI cy sz w0)) (va_Qi (Pz_X12_rule_1 ad cy B qr s1  w0) (fun u : va_W => wpost dC dI cy (va_A w0 sz) u) (va_A w0 sz)) 0 0 (va_A w0 sz) := by
  refine Met.ofW (cc := cX12_rule) (maxL := 1) (ret := (some .int)) (by decide) rfl ?_
  intro p e s m args below meth c s₁ Bk hml hv
  obtain ⟨rfl, ⟨hsz, hP, hK, hD0⟩, hE, hSR⟩ := hv
  have hx := Bk.exec
  have hb := Bk.bytes
  have hr := Bk.returns
  have hlocks := Bk.notSynchronized
  have hC : CallFix p m c cX12_rule 1 s _ (wu yX12_rule cX12_rule 1 (some .int)) RX12 := ⟨hx, hb, hml, findClass_of_methodNamed Bk.named, atoms_spec (ws := (wu yX12_rule cX12_rule 1 (some .int))) Bk.pre⟩
  subst hsz
  have hD := hD0.self (sz := s.heap.size)
  generalize hAe : va_A w0 s.heap.size = A at hD hE ⊢
  have hA : ∀ q : Nat, s.heap.size ≤ q → A q := fun q h => by rw [← hAe]; exact Or.inr h
  have hw : Wd dC dI A s.heap s.heap [] w0 := ⟨hP, hD, va_S.rf⟩
  have hF : FE ksM [(12, 1, 1), (12, 2, 2), (12, 14, 14), (12, 15, 15), (12, 16, 16), (12, 17, 17), (12, 18, 18), (12, 19, 19), (12, 20, 20), (12, 22, 22), (61, 0, 2400), (62, 0, 7), (63, 0, 216), (64, 0, 6), (68, 0, 400)] w0 w0 := FE.rf
  have hl := lv_entry ([.ref (ad 0)]) (n := 1) (Nat.le_of_ble_eq_true rfl)
  rw [lg_entry_eq]
  generalize (lg_sl ([.ref (ad 0)]) ++ List.replicate (1 - (lg_sl ([.ref (ad 0)])).length) Slot.unset).toArray = ls at hl ⊢
  have hl : lv_has ls 1 [(0, .ref (ad 0))] := hl
  generalize hloc : ([] : List Loc) = locs at hw ⊢
  have hinX12 : ∀ w ∈ u_ws RX12 TX12 42, w ∈ (wu yX12_rule cX12_rule 1 (some .int)) := fun _ h => List.mem_cons_of_mem _ (up_71 h)
  have hM : TT (fun n => m_X12_rule n 0 (sI w0)) (fun n => m_X12_rule n 0 (sI w0)) := TT.rf
  refine lv_aload_n hx hb dX12_rule_0 rfl (lv_at hl 0 rfl) ?_
  refine tk_geti hC hK hw hT hinX12 kM_at0 (by decide) rfl 2 (by decide) (List.mem_cons_of_mem _ uw_29_21) rfl rfl dX12_rule_1 (fun x1 c2 rx1 tx1 => ?_)
  replace hM := hM.rd (sI_at c2)
  refine lv_bipush (v := 6) hx hb dX12_rule_4 (by decide) ?_
  refine lv_icmp_ne (tgt := 11) hx hb dX12_rule_6 (by decide) (fun c3 => ?_) (fun c3 => ?_)
  · have c3 : ¬ x1.toInt = (6 : Int) := wk_eqF c3
    replace hM := hM.pos c3
    refine lv_aload_n hx hb dX12_rule_11 rfl (lv_at hl 0 rfl) ?_
    refine lv_aload_n hx hb dX12_rule_12 rfl (lv_at hl 0 rfl) ?_
    refine tk_geti hC hK hw hT hinX12 kM_at0 (by decide) rfl 2 (by decide) (List.mem_cons_of_mem _ uw_29_21) rfl rfl dX12_rule_13 (fun x4 c5 rx4 tx4 => ?_)
    refine wk_top x1 (c5.symm.trans c2) ?_
    replace hM := hM.rd (sI_at c2)
    refine tk_puti hC hK hw hT hinX12 tyX12_ok nmX12 kM_at0 (by decide) rfl rfl 17 (by decide) (List.mem_cons_of_mem _ uw_19_7) rfl rfl rfl rfl (show 0 ≤ x1.toInt from rx1) (show x1.toInt ≤ 6 from tx1) dX12_rule_16 (fun H locs w6 hw hT k8 c7 => ?_)
    replace hM := hM.wr (sI_up k8 c7)
    have hRW := RW_F1 k8 (by decide) (by decide) (by decide) hRW
    have hF := hF.put kM_at0 (k := 17) (by decide) k8
    have c9 := k8.gi (Or.inr (by decide)) c2
    refine lv_aload_n hx hb dX12_rule_19 rfl (lv_at hl 0 rfl) ?_
    refine tk_getA hC hK hw hT hinX12 kM_at0 (by decide) rfl 6 (by decide) (List.mem_cons_of_mem _ uw_6_18) rfl rfl dX12_rule_20 ?_
    refine lv_aload_n hx hb dX12_rule_23 rfl (lv_at hl 0 rfl) ?_
    refine tk_geti hC hK hw hT hinX12 kM_at0 (by decide) rfl 17 (by decide) (List.mem_cons_of_mem _ uw_19_7) rfl rfl dX12_rule_24 (fun x10 c11 rx10 tx10 => ?_)
    refine wk_top x1 (c11.symm.trans c7) ?_
    replace hM := hM.rd (sI_at c7)
    refine lv_iconst (v := 0) hx hb dX12_rule_27 (by decide) ?_
    refine tk_iast hC hK hw hT kM_at5 (by decide) rfl rfl (show 0 ≤ x1.toInt from rx1) (show x1.toInt < 6 by omega) (by decide) (by decide) dX12_rule_28 (fun H locs w12 hw hT k14 c13 => ?_)
    replace hM := hM.wr (sI_upc k14 c13 (by decide))
    have hRW := RL_new (t := x1.toInt) hRW (by omega) (by omega) k14 (by rw [show gi w12 5 (x1.toInt).toNat = 0 from c13]; decide)
    have hF := hF.put kM_at5 (inE_of (a := 0) (b := 6) (by decide) (show 0 ≤ x1.toInt.toNat by omega) (show x1.toInt.toNat ≤ 6 by omega)) k14
    have c15 := k14.gi (Or.inl (tk_ne kM_at0 kM_at5 (by decide))) c9
    have c16 := k14.gi (Or.inl (tk_ne kM_at0 kM_at5 (by decide))) c7
    have c13 : gi w12 5 (x1.toInt).toNat = 0 := (congrArg (gi w12 5) (congrArg Int.toNat (show x1.toInt = x1.toInt by omega))).trans c13
    refine lv_aload_n hx hb dX12_rule_29 rfl (lv_at hl 0 rfl) ?_
    obtain ⟨x17, c18, rx17, tx17⟩ := hT.rda (lo := 0) (hi := 400) (i := (x1.toInt).toNat) kM_at3 rfl rfl (by omega)
    obtain ⟨x19, c20, rx19, tx19⟩ := hT.rdi (lo := 0) (hi := 60) (k := 18) kM_at0 (by decide) rfl
    obtain ⟨x21, c22, rx21, tx21⟩ := hT.rdi (lo := 0) (hi := 32) (k := 20) kM_at0 (by decide) rfl
    refine tk_Vi hC hK hw hT hA hE hSR kM_at0 (by decide) rfl (kz_X12_readsAll_2 l adK adV dC dI cy ad B (by omega) (by omega) qr s1    w12 H.size hT x1 c16 (show 0 ≤ x1.toInt from rx1) (show x1.toInt ≤ 5 by omega) x19 c20 (show 0 ≤ x19.toInt by omega) (show x19.toInt ≤ 60 by omega) x21 c22 (show 0 ≤ x21.toInt by omega) (show x21.toInt ≤ 32 by omega) x17 c18 (show 0 ≤ x17.toInt by omega) (show x17.toInt ≤ 400 by omega) 0 c13 (by decide) (by decide) (show (0 : Int) ≤ 0 by omega) hRW) (cwV 0 hC.2.2.2.2 uV_RX12_282 rfl rfl rfl (by decide +kernel) ⟨Nat.le_of_ble_eq_true rfl, Nat.le_of_ble_eq_true rfl⟩) rfl hl.1 rfl (Nat.le_of_ble_eq_true rfl) dX12_rule_30 (fun r23 w25 H locs hp24 hw => ?_)
    obtain ⟨hT, k26, hv46, hg45⟩ := hp24
    have hF := hF.tr k26 (by decide)
    have c47 := k26.gi kM_at0 (by decide) c15
    have c48 := k26.gi kM_at0 (by decide) c16
    rcases hg45 with ⟨rfl, ⟨x27, c28, rx27, tx27⟩, ⟨x29, c30, rx29, tx29⟩, ⟨x31, c32, rx31, tx31⟩, ⟨x33, c34, rx33, tx33⟩, hq35⟩ | ⟨rfl, ⟨x36, c37, rx36, tx36⟩, ⟨x38, c39, rx38, tx38⟩, ⟨x40, c41, rx40, tx40⟩, ⟨x42, c43, rx42, tx42⟩, hq44⟩
    · replace hM := hM.call (r' := 0) hv46 (by decide)
      have ex31 : x31.toInt = x1.toInt := by rw [← c48.symm.trans c32]
      obtain ⟨x49, c50, rx49, tx49⟩ := hT.rda (lo := 0) (hi := 400) (i := (x1.toInt).toNat) kM_at3 rfl rfl (by omega)
      obtain ⟨x51, c52, rx51, tx51⟩ := hT.rdi (lo := 0) (hi := 60) (k := 18) kM_at0 (by decide) rfl
      obtain ⟨x53, c54, rx53, tx53⟩ := hT.rda (lo := 0) (hi := 12) (i := (x1.toInt).toNat) kM_at5 rfl rfl (by omega)
      have hRW := hq35
      refine lv_if_ne (tgt := 44) hx hb dX12_rule_33 (by decide) (fun c => absurd (by decide) c) (fun _ => ?_)
      replace hM := hM.neg (by decide)
      refine lv_bipush (v := (-2)) hx hb dX12_rule_36 (by decide) ?_
      refine lv_aload_n hx hb dX12_rule_38 rfl (lv_at hl 0 rfl) ?_
      refine tk_geti hC hK hw hT hinX12 kM_at0 (by decide) rfl 15 (by decide) (List.mem_cons_of_mem _ uw_19_12) rfl rfl dX12_rule_39 (fun x61 c62 rx61 tx61 => ?_)
      refine wk_top x29 (c62.symm.trans c30) ?_
      replace hM := hM.rd (sI_at c30)
      refine lv_isub hx hb dX12_rule_42 ?_
      refine lv_topi (fun x63 ex63 => ?_)
      have ezx63 := ex63
      have ex63 : x63.toInt = (-2 : Int) - x29.toInt := by rw [ex63]; exact wk_sub (show (-2147483648) ≤ (-2 : Int) - x29.toInt by omega) (show (-2 : Int) - x29.toInt ≤ 2147483647 by omega)
      replace hM := hM.lt ex63.symm
      exact tk_iret hC hr hlocks hK ⟨hT, hF, hM.ret rfl, (Or.inl ⟨(show (-3207) ≤ x63.toInt by omega), (show x63.toInt ≤ (-3) by omega), ⟨x27, c28, (show 0 ≤ x27.toInt by omega), (show x27.toInt ≤ 0 by omega)⟩, ⟨x1, c47, (show 0 ≤ x1.toInt from rx1), (show x1.toInt ≤ 5 by omega)⟩, ⟨x29, c30, (show 1 ≤ x29.toInt by omega), (show x29.toInt ≤ 3205 by omega)⟩, ⟨x1, c48, (show 0 ≤ x1.toInt from rx1), (show x1.toInt ≤ 5 by omega)⟩, ⟨x33, c34, (show 0 ≤ x33.toInt by omega), (show x33.toInt ≤ 12 by omega)⟩, hRW⟩)⟩ hw dX12_rule_43
    · replace hM := hM.call (r' := 1) hv46 (by decide)
      have ex40 : x40.toInt = x1.toInt := by rw [← c48.symm.trans c41]
      obtain ⟨x55, c56, rx55, tx55⟩ := hT.rda (lo := 0) (hi := 400) (i := (x1.toInt).toNat) kM_at3 rfl rfl (by omega)
      obtain ⟨x57, c58, rx57, tx57⟩ := hT.rdi (lo := 0) (hi := 60) (k := 18) kM_at0 (by decide) rfl
      obtain ⟨x59, c60, rx59, tx59⟩ := hT.rda (lo := 0) (hi := 12) (i := (x1.toInt).toNat) kM_at5 rfl rfl (by omega)
      have hRW := hq44
      refine lv_if_ne (tgt := 44) hx hb dX12_rule_33 (by decide) (fun _ => ?_) (fun c => absurd c (by decide))
      replace hM := hM.pos (by decide)
      refine lv_aload_n hx hb dX12_rule_44 rfl (lv_at hl 0 rfl) ?_
      refine lv_dup hx hb dX12_rule_45 rfl ?_
      refine tk_geti hC hK hw hT hinX12 kM_at0 (by decide) rfl 2 (by decide) (List.mem_cons_of_mem _ uw_29_21) rfl rfl dX12_rule_46 (fun x64 c65 rx64 tx64 => ?_)
      refine wk_top x1 (c65.symm.trans c47) ?_
      replace hM := hM.rd (sI_at c47)
      refine lv_iconst (v := 1) hx hb dX12_rule_49 (by decide) ?_
      refine lv_iadd hx hb dX12_rule_50 ?_
      refine lv_topi (fun x66 ex66 => ?_)
      have ezx66 := ex66
      have ex66 : x66.toInt = x1.toInt + (1 : Int) := by rw [ex66]; exact wk_add (show (-2147483648) ≤ x1.toInt + (1 : Int) by omega) (show x1.toInt + (1 : Int) ≤ 2147483647 by omega)
      replace hM := hM.lt ex66.symm
      refine tk_puti hC hK hw hT hinX12 tyX12_ok nmX12 kM_at0 (by decide) rfl rfl 2 (by decide) (List.mem_cons_of_mem _ uw_29_21) rfl rfl rfl rfl (show 0 ≤ x66.toInt by omega) (show x66.toInt ≤ 6 by omega) dX12_rule_51 (fun H locs w67 hw hT k69 c68 => ?_)
      replace hM := hM.wr (sI_up k69 c68)
      have hRW := RW_F1 k69 (by decide) (by decide) (by decide) hRW
      have hF := hF.put kM_at0 (k := 2) (by decide) k69
      have c70 := k69.gi (Or.inr (by decide)) c48
      have c71 := k69.gi (Or.inr (by decide)) c37
      have c72 := k69.gi (Or.inr (by decide)) c39
      have c73 := k69.gi (Or.inr (by decide)) c43
      have c74 := k69.gi (Or.inl (tk_ne kM_at3 kM_at0 (by decide))) c56
      have c75 := k69.gi (Or.inr (by decide)) c58
      have c76 := k69.gi (Or.inl (tk_ne kM_at5 kM_at0 (by decide))) c60
      refine lv_aload_n hx hb dX12_rule_54 rfl (lv_at hl 0 rfl) ?_
      refine tk_geti hC hK hw hT hinX12 kM_at0 (by decide) rfl 2 (by decide) (List.mem_cons_of_mem _ uw_29_21) rfl rfl dX12_rule_55 (fun x77 c78 rx77 tx77 => ?_)
      refine wk_top x66 (c78.symm.trans c68) ?_
      replace hM := hM.rd (sI_at c68)
      refine lv_iconst (v := 1) hx hb dX12_rule_58 (by decide) ?_
      refine lv_isub hx hb dX12_rule_59 ?_
      refine lv_topi (fun x79 ex79 => ?_)
      have ezx79 := ex79
      have ex79 : x79.toInt = x66.toInt - (1 : Int) := by rw [ex79]; exact wk_sub (show (-2147483648) ≤ x66.toInt - (1 : Int) by omega) (show x66.toInt - (1 : Int) ≤ 2147483647 by omega)
      replace hM := hM.lt ex79.symm
      exact tk_iret hC hr hlocks hK ⟨hT, hF, hM.ret rfl, (Or.inr (Or.inl ⟨(show 0 ≤ x79.toInt by omega), (show x79.toInt ≤ 5 by omega), ⟨x36, c71, (show 0 ≤ x36.toInt by omega), (show x36.toInt ≤ 0 by omega)⟩, ⟨x66, c68, (show 1 ≤ x66.toInt by omega), (show x66.toInt ≤ 6 by omega)⟩, ⟨x38, c72, (show 0 ≤ x38.toInt by omega), (show x38.toInt ≤ 0 by omega)⟩, ⟨x1, c70, (show 0 ≤ x1.toInt from rx1), (show x1.toInt ≤ 5 by omega)⟩, ⟨x42, c73, (show 0 ≤ x42.toInt by omega), (show x42.toInt ≤ 12 by omega)⟩, hRW⟩))⟩ hw dX12_rule_60
  · have c3 : x1.toInt = (6 : Int) := wk_eq.mp c3
    replace hM := hM.neg (fun q => q c3)
    refine lv_iconst (v := (-1)) hx hb dX12_rule_9 (by decide) ?_
    exact tk_iret hC hr hlocks hK ⟨hT, hF, hM.ret (by decide), (Or.inr (Or.inr ⟨rfl, ⟨x1, c2, (show 6 ≤ x1.toInt by omega), (show x1.toInt ≤ 6 from tx1)⟩, hRW⟩))⟩ hw dX12_rule_10
abbrev Pz_X12_in_10 (ad : Nat → Nat) (cy : Nat → ClassId) (B : Int) (qr : Nat) (s1 : Int) (a0 : Int64) (w0 : va_W) : Int32 → va_W → Prop := fun r u => w0 = u ∧ Ev (fun n => m_X12_in n a0.toInt 0 3 (sI w0)) (r.toInt, sI w0) ∧ ((r = 0) ∨ (r = 1 ∧ 0 ≤ a0.toInt ∧ a0.toInt ≤ 3))
set_option maxHeartbeats 4000000 in
set_option maxRecDepth 100000 in
theorem kz_X12_in_10 (l : Launch) (adK adV : Nat → Nat) (dC : Nat → ClassId) (dI : Nat → Nat → Nat) (cy : Nat → ClassId) (ad : Nat → Nat) (B : Int) (hB0 : 100000 ≤ B) (hB1 : B ≤ 1073741824) (qr : Nat) (s1 : Int)  (a0 : Int64) (ra0 : (-2147483648) ≤ a0.toInt) (ta0 : a0.toInt ≤ 2147483647) (w0 : va_W) (sz : Nat) (hT : TW ksM ad cy B qr 12 w0)  : Met l yX12_in (wu yX12_in cX12_in 6 (some .boolean)) ({ frames := 1, cells := 0, slots := 0, locals := 12 }) (va_Pc [.long a0, .long 0, .long 3] (wpreS adK adV dC dI cy sz w0)) (va_Qi (Pz_X12_in_10 ad cy B qr s1 a0 w0) (fun u : va_W => wpost dC dI cy (va_A w0 sz) u) (va_A w0 sz)) 0 0 (va_A w0 sz) := by
  refine Met.ofW (cc := cX12_in) (maxL := 6) (ret := (some .boolean)) (by decide) rfl ?_
  intro p e s m args below meth c s₁ Bk hml hv
  obtain ⟨rfl, ⟨hsz, hP, hK, hD0⟩, hE, hSR⟩ := hv
  have hx := Bk.exec
  have hb := Bk.bytes
  have hr := Bk.returns
  have hlocks := Bk.notSynchronized
  have hC : CallFix p m c cX12_in 6 s _ (wu yX12_in cX12_in 6 (some .boolean)) RX12 := ⟨hx, hb, hml, findClass_of_methodNamed Bk.named, atoms_spec (ws := (wu yX12_in cX12_in 6 (some .boolean))) Bk.pre⟩
  subst hsz
  have hD := hD0.self (sz := s.heap.size)
  generalize hAe : va_A w0 s.heap.size = A at hD hE ⊢
  have hA : ∀ q : Nat, s.heap.size ≤ q → A q := fun q h => by rw [← hAe]; exact Or.inr h
  have hw : Wd dC dI A s.heap s.heap [] w0 := ⟨hP, hD, va_S.rf⟩
  have hF : FE ksM ([] : List (Nat × Nat × Nat)) w0 w0 := FE.rf
  have hl := lv_entry ([.long a0, .long 0, .long 3]) (n := 6) (Nat.le_of_ble_eq_true rfl)
  rw [lg_entry_eq]
  generalize (lg_sl ([.long a0, .long 0, .long 3]) ++ List.replicate (6 - (lg_sl ([.long a0, .long 0, .long 3])).length) Slot.unset).toArray = ls at hl ⊢
  have hl : lv_has ls 6 [(0, .long a0), (2, .long 0), (4, .long 3)] := hl
  generalize hloc : ([] : List Loc) = locs at hw ⊢
  have J17 : ∀ (H : Heap) (locs : List Loc) (ls : Array Slot), (-2147483648) ≤ a0.toInt → a0.toInt ≤ 2147483647 → Wd dC dI A s.heap H locs w0 → TT (fun n => m_X12_in n a0.toInt 0 3 (sI w0)) (fun n => b_X12_in_17 n (sI w0)) → lv_has ls 6 [(0, .long a0), (2, .long 0), (4, .long 3)] → W p l e ({ frames := 1, cells := 0, slots := 0, locals := 12 }) s m (List.toArray [.long a0, .long 0, .long 3]) below meth c H locs 0 0 (MQ below (va_Qi (Pz_X12_in_10 ad cy B qr s1 a0 w0) (fun u : va_W => wpost dC dI cy A u) A) (List.toArray [.long a0, .long 0, .long 3]) s 0 0 A) (F0 m 17 ls []) := by
    intro H locs ls r1 t2 hw hM hl
    refine lv_iconst (v := 0) hx hb dX12_in_17 (by decide) ?_
    exact tk_zret hC hr rfl hlocks hK ⟨rfl, hM.ret (by decide), (Or.inl rfl)⟩ hw dX12_in_18
  have hM : TT (fun n => m_X12_in n a0.toInt 0 3 (sI w0)) (fun n => m_X12_in n a0.toInt 0 3 (sI w0)) := TT.rf
  refine lv_lload_n hx hb dX12_in_0 rfl (lv_at hl 0 rfl) ?_
  refine lv_lload_n hx hb dX12_in_1 rfl (lv_at hl 1 rfl) ?_
  refine W.lcmp hx hb dX12_in_2 ?_
  refine lv_if_lt (tgt := 17) hx hb dX12_in_3 (by decide) (fun c3 => ?_) (fun c3 => ?_)
  · have c3 : a0.toInt < (0 : Int) := wk_cltT c3
    replace hM := hM.pos c3
    exact J17  s.heap locs ls  (show (-2147483648) ≤ a0.toInt from ra0) (show a0.toInt ≤ 2147483647 from ta0)  hw  hM (lv_sub hl [0, 1, 2] rfl)
  · have c3 : (0 : Int) ≤ a0.toInt := wk_cltF c3
    replace hM := hM.neg (Int.not_lt.mpr c3)
    refine lv_lload_n hx hb dX12_in_6 rfl (lv_at hl 0 rfl) ?_
    refine lv_lload hx hb dX12_in_7 (lv_at hl 2 rfl) ?_
    refine W.lcmp hx hb dX12_in_9 ?_
    refine lv_if_gt (tgt := 17) hx hb dX12_in_10 (by decide) (fun c4 => ?_) (fun c4 => ?_)
    · have c4 : (3 : Int) < a0.toInt := wk_cgtT c4
      replace hM := hM.pos c4
      exact J17  s.heap locs ls  (show (-2147483648) ≤ a0.toInt from ra0) (show a0.toInt ≤ 2147483647 from ta0)  hw  hM (lv_sub hl [0, 1, 2] rfl)
    · have c4 : a0.toInt ≤ (3 : Int) := wk_cgtF c4
      replace hM := hM.neg (Int.not_lt.mpr c4)
      refine lv_iconst (v := 1) hx hb dX12_in_13 (by decide) ?_
      refine lv_goto (tgt := 18) hx hb dX12_in_14 (by decide) ?_
      exact tk_zret hC hr rfl hlocks hK ⟨rfl, hM.ret (by decide), (Or.inr ⟨rfl, (show 0 ≤ a0.toInt by omega), (show a0.toInt ≤ 3 by omega)⟩)⟩ hw dX12_in_18
abbrev Pz_X12_image_1 (ad : Nat → Nat) (cy : Nat → ClassId) (B : Int) (qr : Nat) (s1 : Int) (a1 : Int32) (w0 : va_W) : Int32 → va_W → Prop := fun r u => TW ksM ad cy B qr 12 u ∧ FE ksM [(80, 0, 1184), (81, 0, 4)] w0 u ∧ Ev (fun n => m_X12_image n 0 a1.toInt (sI w0)) (r.toInt, sI u) ∧ ((0 ≤ r.toInt ∧ r.toInt ≤ 4 ∧ 0 ≤ a1.toInt ∧ a1.toInt ≤ 3) ∨ (r = (-1)))
set_option maxHeartbeats 4000000 in
set_option maxRecDepth 100000 in
theorem kz_X12_image_1 (l : Launch) (adK adV : Nat → Nat) (dC : Nat → ClassId) (dI : Nat → Nat → Nat) (cy : Nat → ClassId) (ad : Nat → Nat) (B : Int) (hB0 : 100000 ≤ B) (hB1 : B ≤ 1073741824) (qr : Nat) (s1 : Int)  (a1 : Int32) (w0 : va_W) (sz : Nat) (hT : TW ksM ad cy B qr 12 w0)  : Met l yX12_image (wu yX12_image cX12_image 3 (some .int)) ({ frames := 2, cells := 0, slots := 0, locals := 37 }) (va_Pc [.ref (ad 0), .int a1] (wpreS adK adV dC dI cy sz w0)) (va_Qi (Pz_X12_image_1 ad cy B qr s1 a1 w0) (fun u : va_W => wpost dC dI cy (va_A w0 sz) u) (va_A w0 sz)) 0 0 (va_A w0 sz) := by
  refine Met.ofW (cc := cX12_image) (maxL := 3) (ret := (some .int)) (by decide) rfl ?_
  intro p e s m args below meth c s₁ Bk hml hv
  obtain ⟨rfl, ⟨hsz, hP, hK, hD0⟩, hE, hSR⟩ := hv
  have hx := Bk.exec
  have hb := Bk.bytes
  have hr := Bk.returns
  have hlocks := Bk.notSynchronized
  have hC : CallFix p m c cX12_image 3 s _ (wu yX12_image cX12_image 3 (some .int)) RX12 := ⟨hx, hb, hml, findClass_of_methodNamed Bk.named, atoms_spec (ws := (wu yX12_image cX12_image 3 (some .int))) Bk.pre⟩
  subst hsz
  have hD := hD0.self (sz := s.heap.size)
  generalize hAe : va_A w0 s.heap.size = A at hD hE ⊢
  have hA : ∀ q : Nat, s.heap.size ≤ q → A q := fun q h => by rw [← hAe]; exact Or.inr h
  have hw : Wd dC dI A s.heap s.heap [] w0 := ⟨hP, hD, va_S.rf⟩
  have hF : FE ksM [(80, 0, 1184), (81, 0, 4)] w0 w0 := FE.rf
  have hl := lv_entry ([.ref (ad 0), .int a1]) (n := 3) (Nat.le_of_ble_eq_true rfl)
  rw [lg_entry_eq]
  generalize (lg_sl ([.ref (ad 0), .int a1]) ++ List.replicate (3 - (lg_sl ([.ref (ad 0), .int a1])).length) Slot.unset).toArray = ls at hl ⊢
  have hl : lv_has ls 3 [(0, .ref (ad 0)), (1, .int a1)] := hl
  generalize hloc : ([] : List Loc) = locs at hw ⊢
  have hinX12 : ∀ w ∈ u_ws RX12 TX12 42, w ∈ (wu yX12_image cX12_image 3 (some .int)) := fun _ h => List.mem_cons_of_mem _ (up_71 h)
  have L23 : ∀ (n23 : Nat) (v23_2 : Int32) (H : Heap) (locs : List Loc) (ls : Array Slot) (w1 : va_W), 0 ≤ a1.toInt → a1.toInt ≤ 3 → 0 ≤ v23_2.toInt → v23_2.toInt ≤ 296 → (296 - v23_2.toInt).toNat < n23 → Wd dC dI A s.heap H locs w1 → TW ksM ad cy B qr 12 w1 → FE ksM [(80, 0, 1184), (81, 0, 4)] w0 w1 → TT (fun n => m_X12_image n 0 a1.toInt (sI w0)) (fun n => j_X12_image 0 n 23 [a1.toInt, v23_2.toInt] (sI w1)) → lv_has ls 3 [(0, .ref (ad 0)), (1, .int a1), (2, .int v23_2)] → W p l e ({ frames := 2, cells := 0, slots := 0, locals := 37 }) s m (List.toArray [.ref (ad 0), .int a1]) below meth c H locs 0 0 (MQ below (va_Qi (Pz_X12_image_1 ad cy B qr s1 a1 w0) (fun u : va_W => wpost dC dI cy A u) A) (List.toArray [.ref (ad 0), .int a1]) s 0 0 A) (F0 m 23 ls []) := by
    intro n23
    induction n23 with
    | zero => intro v23_2 H locs ls w1 r2 t3 r4 t5 hm23 hw hT hF hM hl; omega
    | succ n23 ih23 =>
      intro v23_2 H locs ls w1 r2 t3 r4 t5 hm23 hw hT hF hM hl
      replace hM := hM.suc (fun _ => e_X12_image_23)
      refine lv_iload_n hx hb dX12_image_23 rfl (lv_at hl 2 rfl) ?_
      refine lv_sipush (v := 296) hx hb dX12_image_24 (by decide) ?_
      refine lv_icmp_ge (tgt := 54) hx hb dX12_image_27 (by decide) (fun c6 => ?_) (fun c6 => ?_)
      · have c6 : (296 : Int) ≤ v23_2.toInt := wk_le.mp c6
        replace hM := hM.pos c6
        refine lv_aload_n hx hb dX12_image_54 rfl (lv_at hl 0 rfl) ?_
        refine tk_getA hC hK hw hT hinX12 kM_at0 (by decide) rfl 26 (by decide) (List.mem_cons_of_mem _ uw_7_1) rfl rfl dX12_image_55 ?_
        refine lv_iconst (v := 5) hx hb dX12_image_58 (by decide) ?_
        refine tk_ialdR hC hK hw hT kM_at12 rfl (by decide) (by decide) dX12_image_59 (fun x7 c8 Ex7 => ?_)
        have hox7 := c8
        replace hM := hM.rd (sI_at hox7)
        have bx7 := tk_rgI rfl 5 1 1 0 4 (by decide +kernel) ⟨0, by decide, by decide⟩ Ex7
        have c8 : gi w1 12 5 = x7 := c8
        exact tk_iret hC hr hlocks hK ⟨hT, hF, hM.ret rfl, (Or.inl ⟨(show 0 ≤ x7.toInt by omega), (show x7.toInt ≤ 4 by omega), (show 0 ≤ a1.toInt from r2), (show a1.toInt ≤ 3 from t3)⟩)⟩ hw dX12_image_60
      · have c6 : v23_2.toInt < (296 : Int) := wk_leF c6
        replace hM := hM.neg (Int.not_le.mpr c6)
        refine lv_aload_n hx hb dX12_image_30 rfl (lv_at hl 0 rfl) ?_
        refine tk_getA hC hK hw hT hinX12 kM_at0 (by decide) rfl 40 (by decide) (List.mem_cons_of_mem _ uw_7_11) rfl rfl dX12_image_31 ?_
        refine lv_sipush (v := 296) hx hb dX12_image_34 (by decide) ?_
        refine lv_iload_n hx hb dX12_image_37 rfl (lv_at hl 1 rfl) ?_
        refine lv_imul hx hb dX12_image_38 ?_
        refine lv_topi (fun x9 ex9 => ?_)
        have ezx9 := ex9
        have ex9 : x9.toInt = (296 : Int) * a1.toInt := by rw [ex9]; exact wk_mul (show (-2147483648) ≤ (296 : Int) * a1.toInt by omega) (show (296 : Int) * a1.toInt ≤ 2147483647 by omega)
        replace hM := hM.lt ex9.symm
        refine lv_iload_n hx hb dX12_image_39 rfl (lv_at hl 2 rfl) ?_
        refine lv_iadd hx hb dX12_image_40 ?_
        refine lv_topi (fun x10 ex10 => ?_)
        have ezx10 := ex10
        have ex10 : x10.toInt = x9.toInt + v23_2.toInt := by rw [ex10]; exact wk_add (show (-2147483648) ≤ x9.toInt + v23_2.toInt by omega) (show x9.toInt + v23_2.toInt ≤ 2147483647 by omega)
        replace hM := hM.lt ex10.symm
        refine lv_aload_n hx hb dX12_image_41 rfl (lv_at hl 0 rfl) ?_
        refine tk_getA hC hK hw hT hinX12 kM_at0 (by decide) rfl 26 (by decide) (List.mem_cons_of_mem _ uw_7_1) rfl rfl dX12_image_42 ?_
        refine lv_iload_n hx hb dX12_image_45 rfl (lv_at hl 2 rfl) ?_
        refine tk_ialdR hC hK hw hT kM_at12 rfl (show 0 ≤ v23_2.toInt from r4) (show v23_2.toInt < 296 by omega) dX12_image_46 (fun x11 c12 Ex11 => ?_)
        have hox11 := c12
        have c12 : gi w1 12 (v23_2.toInt).toNat = x11 := (congrArg (gi w1 12) (congrArg Int.toNat (show v23_2.toInt = v23_2.toInt by omega))).trans c12
        replace hM := hM.rd (sI_at hox11)
        refine tk_iastR hC hK hw hT kM_at21 (by decide) rfl (show 0 ≤ x10.toInt by omega) (show x10.toInt < 1184 by omega) (tk_rgC rfl rfl (show v23_2.toInt.toNat % 296 = x10.toInt.toNat % 296 by omega) Ex11) dX12_image_47 (fun H locs w13 hw hT k15 c14 => ?_)
        replace hM := hM.wr (sI_up k15 c14)
        have hF := hF.put kM_at21 (inE_of (a := 0) (b := 1184) (by decide) (show 0 ≤ x10.toInt.toNat by omega) (show x10.toInt.toNat ≤ 1184 by omega)) k15
        have c16 := k15.gi (Or.inl (tk_ne kM_at12 kM_at21 (by decide))) c12
        obtain ⟨x17, ex17⟩ : ∃ y : Int32, y = v23_2 + Int32.ofInt 1 := ⟨_, rfl⟩
        have erx17 := ex17
        refine lv_iinc (v := x17) (lv' := [(2, .int x17), (0, .ref (ad 0)), (1, .int a1)]) hx hb dX12_image_48 hl (k := 2) rfl ex17.symm (by decide) rfl (fun ls hl => ?_)
        have ex17 : x17.toInt = v23_2.toInt + 1 := by rw [ex17]; exact wk_add (y := 1) (show -2147483648 ≤ v23_2.toInt + 1 by omega) (show v23_2.toInt + 1 ≤ 2147483647 by omega)
        replace hM := hM.lt ex17.symm
        refine lv_goto (tgt := 23) hx hb dX12_image_51 (by decide) ?_
        exact ih23 x17 H locs ls w13 (show 0 ≤ a1.toInt from r2) (show a1.toInt ≤ 3 from t3) (show 0 ≤ x17.toInt by omega) (show x17.toInt ≤ 296 by omega) (show (296 - x17.toInt).toNat < n23 by omega) hw hT hF hM (lv_sub hl [1, 2, 0] rfl)
  have hM : TT (fun n => m_X12_image n 0 a1.toInt (sI w0)) (fun n => m_X12_image n 0 a1.toInt (sI w0)) := TT.rf
  refine lv_iload_n hx hb dX12_image_0 rfl (lv_at hl 1 rfl) ?_
  refine lv_i2l hx hb dX12_image_1 rfl ?_
  refine lv_topl (fun x18 ex18 => ?_)
  have ex18 : x18.toInt = a1.toInt := by rw [ex18]; exact wk_i2l _
  have bx18 := wk_i32 a1
  replace hM := hM.lt ex18.symm
  refine lv_lconst (v := 0) hx hb dX12_image_2 (by decide) ?_
  refine lv_ldc2 (v := 3) hx hb hC.2.2.2.1 (hC.2.2.2.2 _ (List.mem_cons_of_mem _ uw_35_2)) dX12_image_3 ?_
  refine tk_Si hC hK hw hT hA hE hSR (kz_X12_in_10 l adK adV dC dI cy ad B (by omega) (by omega) qr s1   x18 (show (-2147483648) ≤ x18.toInt by omega) (show x18.toInt ≤ 2147483647 by omega) w0 s.heap.size hT ) (va_cwS 3 hC.2.2.2.2 uS_RX12_122 rfl rfl rfl (by decide +kernel) ⟨Nat.le_of_ble_eq_true rfl, Nat.le_of_ble_eq_true rfl⟩) rfl hl.1 rfl (Nat.le_of_ble_eq_true rfl) dX12_image_6 (fun r19 w21 H locs hp20 hw => ?_)
  obtain ⟨rfl, hv26, hg25⟩ := hp20
  rcases hg25 with rfl | ⟨rfl, g23, g24⟩
  · replace hM := hM.call (r' := 0) hv26 (by decide)
    refine lv_if_ne (tgt := 14) hx hb dX12_image_9 (by decide) (fun c => absurd (by decide) c) (fun _ => ?_)
    replace hM := hM.neg (by decide)
    refine lv_iconst (v := (-1)) hx hb dX12_image_12 (by decide) ?_
    exact tk_iret hC hr hlocks hK ⟨hT, hF, hM.ret (by decide), (Or.inr rfl)⟩ hw dX12_image_13
  · replace hM := hM.call (r' := 1) hv26 (by decide)
    refine lv_if_ne (tgt := 14) hx hb dX12_image_9 (by decide) (fun _ => ?_) (fun c => absurd c (by decide))
    replace hM := hM.pos (by decide)
    refine lv_aload_n hx hb dX12_image_14 rfl (lv_at hl 0 rfl) ?_
    refine tk_getA hC hK hw hT hinX12 kM_at0 (by decide) rfl 41 (by decide) (List.mem_cons_of_mem _ uw_7_12) rfl rfl dX12_image_15 ?_
    refine lv_iload_n hx hb dX12_image_18 rfl (lv_at hl 1 rfl) ?_
    refine lv_iconst (v := 1) hx hb dX12_image_19 (by decide) ?_
    refine tk_zast hC hK hw hT kM_at22 (by decide) rfl rfl (show 0 ≤ a1.toInt by omega) (show a1.toInt < 4 by omega) (by decide) (by decide) dX12_image_20 (fun H locs w27 hw hT k29 c28 => ?_)
    replace hM := hM.wr (sI_upc k29 c28 (by decide))
    have hF := hF.put kM_at22 (inE_of (a := 0) (b := 4) (by decide) (show 0 ≤ a1.toInt.toNat by omega) (show a1.toInt.toNat ≤ 4 by omega)) k29
    refine lv_iconst (v := 0) hx hb dX12_image_21 (by decide) ?_
    refine lv_istore_n (lv' := [(2, .int 0), (0, .ref (ad 0)), (1, .int a1)]) hx hb dX12_image_22 rfl hl (by decide) rfl (fun ls hl => ?_)
    exact L23 ((296 - (0 : Int)).toNat + 1) 0 H locs ls w27 (show 0 ≤ a1.toInt by omega) (show a1.toInt ≤ 3 by omega) (by decide) (by decide) (Nat.lt_succ_self _) hw hT hF hM (lv_sub hl [1, 2, 0] rfl)
abbrev Pz_X12_back_1 (ad : Nat → Nat) (cy : Nat → ClassId) (B : Int) (qr : Nat) (s1 : Int) (a1 : Int32) (w0 : va_W) : Int32 → va_W → Prop := fun r u => TW ksM ad cy B qr 12 u ∧ FE ksM [(71, 0, 295)] w0 u ∧ Ev (fun n => m_X12_back n 0 a1.toInt (sI w0)) (r.toInt, sI u) ∧ ((0 ≤ r.toInt ∧ r.toInt ≤ 4 ∧ 0 ≤ a1.toInt ∧ a1.toInt ≤ 3) ∨ (r = (-1)))
set_option maxHeartbeats 4000000 in
set_option maxRecDepth 100000 in
theorem kz_X12_back_1 (l : Launch) (adK adV : Nat → Nat) (dC : Nat → ClassId) (dI : Nat → Nat → Nat) (cy : Nat → ClassId) (ad : Nat → Nat) (B : Int) (hB0 : 100000 ≤ B) (hB1 : B ≤ 1073741824) (qr : Nat) (s1 : Int)  (a1 : Int32) (w0 : va_W) (sz : Nat) (hT : TW ksM ad cy B qr 12 w0)  : Met l yX12_back (wu yX12_back cX12_back 3 (some .int)) ({ frames := 2, cells := 0, slots := 0, locals := 37 }) (va_Pc [.ref (ad 0), .int a1] (wpreS adK adV dC dI cy sz w0)) (va_Qi (Pz_X12_back_1 ad cy B qr s1 a1 w0) (fun u : va_W => wpost dC dI cy (va_A w0 sz) u) (va_A w0 sz)) 0 0 (va_A w0 sz) := by
  refine Met.ofW (cc := cX12_back) (maxL := 3) (ret := (some .int)) (by decide) rfl ?_
  intro p e s m args below meth c s₁ Bk hml hv
  obtain ⟨rfl, ⟨hsz, hP, hK, hD0⟩, hE, hSR⟩ := hv
  have hx := Bk.exec
  have hb := Bk.bytes
  have hr := Bk.returns
  have hlocks := Bk.notSynchronized
  have hC : CallFix p m c cX12_back 3 s _ (wu yX12_back cX12_back 3 (some .int)) RX12 := ⟨hx, hb, hml, findClass_of_methodNamed Bk.named, atoms_spec (ws := (wu yX12_back cX12_back 3 (some .int))) Bk.pre⟩
  subst hsz
  have hD := hD0.self (sz := s.heap.size)
  generalize hAe : va_A w0 s.heap.size = A at hD hE ⊢
  have hA : ∀ q : Nat, s.heap.size ≤ q → A q := fun q h => by rw [← hAe]; exact Or.inr h
  have hw : Wd dC dI A s.heap s.heap [] w0 := ⟨hP, hD, va_S.rf⟩
  have hF : FE ksM [(71, 0, 295)] w0 w0 := FE.rf
  have hl := lv_entry ([.ref (ad 0), .int a1]) (n := 3) (Nat.le_of_ble_eq_true rfl)
  rw [lg_entry_eq]
  generalize (lg_sl ([.ref (ad 0), .int a1]) ++ List.replicate (3 - (lg_sl ([.ref (ad 0), .int a1])).length) Slot.unset).toArray = ls at hl ⊢
  have hl : lv_has ls 3 [(0, .ref (ad 0)), (1, .int a1)] := hl
  generalize hloc : ([] : List Loc) = locs at hw ⊢
  have hinX12 : ∀ w ∈ u_ws RX12 TX12 42, w ∈ (wu yX12_back cX12_back 3 (some .int)) := fun _ h => List.mem_cons_of_mem _ (up_71 h)
  have J21 : ∀ (H : Heap) (locs : List Loc) (ls : Array Slot) (w1 : va_W), Wd dC dI A s.heap H locs w1 → TW ksM ad cy B qr 12 w1 → FE ksM [(71, 0, 295)] w0 w1 → TT (fun n => m_X12_back n 0 a1.toInt (sI w0)) (fun n => b_X12_back_21 (j_X12_back 0 n) n 0 (sI w1)) → lv_has ls 3 [(0, .ref (ad 0)), (1, .int a1)] → W p l e ({ frames := 2, cells := 0, slots := 0, locals := 37 }) s m (List.toArray [.ref (ad 0), .int a1]) below meth c H locs 0 0 (MQ below (va_Qi (Pz_X12_back_1 ad cy B qr s1 a1 w0) (fun u : va_W => wpost dC dI cy A u) A) (List.toArray [.ref (ad 0), .int a1]) s 0 0 A) (F0 m 21 ls []) := by
    intro H locs ls w1 hw hT hF hM hl
    refine lv_iconst (v := (-1)) hx hb dX12_back_21 (by decide) ?_
    exact tk_iret hC hr hlocks hK ⟨hT, hF, hM.ret (by decide), (Or.inr rfl)⟩ hw dX12_back_22
  have L25 : ∀ (n25 : Nat) (v25_2 : Int32) (H : Heap) (locs : List Loc) (ls : Array Slot) (w2 : va_W), 0 ≤ a1.toInt → a1.toInt ≤ 3 → 0 ≤ v25_2.toInt → v25_2.toInt ≤ 296 → (296 - v25_2.toInt).toNat < n25 → Wd dC dI A s.heap H locs w2 → TW ksM ad cy B qr 12 w2 → FE ksM [(71, 0, 295)] w0 w2 → TT (fun n => m_X12_back n 0 a1.toInt (sI w0)) (fun n => j_X12_back 0 n 25 [a1.toInt, v25_2.toInt] (sI w2)) → lv_has ls 3 [(0, .ref (ad 0)), (1, .int a1), (2, .int v25_2)] → W p l e ({ frames := 2, cells := 0, slots := 0, locals := 37 }) s m (List.toArray [.ref (ad 0), .int a1]) below meth c H locs 0 0 (MQ below (va_Qi (Pz_X12_back_1 ad cy B qr s1 a1 w0) (fun u : va_W => wpost dC dI cy A u) A) (List.toArray [.ref (ad 0), .int a1]) s 0 0 A) (F0 m 25 ls []) := by
    intro n25
    induction n25 with
    | zero => intro v25_2 H locs ls w2 r3 t4 r5 t6 hm25 hw hT hF hM hl; omega
    | succ n25 ih25 =>
      intro v25_2 H locs ls w2 r3 t4 r5 t6 hm25 hw hT hF hM hl
      replace hM := hM.suc (fun _ => e_X12_back_25)
      refine lv_iload_n hx hb dX12_back_25 rfl (lv_at hl 2 rfl) ?_
      refine lv_sipush (v := 296) hx hb dX12_back_26 (by decide) ?_
      refine lv_icmp_ge (tgt := 56) hx hb dX12_back_29 (by decide) (fun c7 => ?_) (fun c7 => ?_)
      · have c7 : (296 : Int) ≤ v25_2.toInt := wk_le.mp c7
        replace hM := hM.pos c7
        refine lv_aload_n hx hb dX12_back_56 rfl (lv_at hl 0 rfl) ?_
        refine tk_getA hC hK hw hT hinX12 kM_at0 (by decide) rfl 26 (by decide) (List.mem_cons_of_mem _ uw_7_1) rfl rfl dX12_back_57 ?_
        refine lv_iconst (v := 5) hx hb dX12_back_60 (by decide) ?_
        refine tk_ialdR hC hK hw hT kM_at12 rfl (by decide) (by decide) dX12_back_61 (fun x8 c9 Ex8 => ?_)
        have hox8 := c9
        replace hM := hM.rd (sI_at hox8)
        have bx8 := tk_rgI rfl 5 1 1 0 4 (by decide +kernel) ⟨0, by decide, by decide⟩ Ex8
        have c9 : gi w2 12 5 = x8 := c9
        exact tk_iret hC hr hlocks hK ⟨hT, hF, hM.ret rfl, (Or.inl ⟨(show 0 ≤ x8.toInt by omega), (show x8.toInt ≤ 4 by omega), (show 0 ≤ a1.toInt from r3), (show a1.toInt ≤ 3 from t4)⟩)⟩ hw dX12_back_62
      · have c7 : v25_2.toInt < (296 : Int) := wk_leF c7
        replace hM := hM.neg (Int.not_le.mpr c7)
        refine lv_aload_n hx hb dX12_back_32 rfl (lv_at hl 0 rfl) ?_
        refine tk_getA hC hK hw hT hinX12 kM_at0 (by decide) rfl 26 (by decide) (List.mem_cons_of_mem _ uw_7_1) rfl rfl dX12_back_33 ?_
        refine lv_iload_n hx hb dX12_back_36 rfl (lv_at hl 2 rfl) ?_
        refine lv_aload_n hx hb dX12_back_37 rfl (lv_at hl 0 rfl) ?_
        refine tk_getA hC hK hw hT hinX12 kM_at0 (by decide) rfl 40 (by decide) (List.mem_cons_of_mem _ uw_7_11) rfl rfl dX12_back_38 ?_
        refine lv_sipush (v := 296) hx hb dX12_back_41 (by decide) ?_
        refine lv_iload_n hx hb dX12_back_44 rfl (lv_at hl 1 rfl) ?_
        refine lv_imul hx hb dX12_back_45 ?_
        refine lv_topi (fun x10 ex10 => ?_)
        have ezx10 := ex10
        have ex10 : x10.toInt = (296 : Int) * a1.toInt := by rw [ex10]; exact wk_mul (show (-2147483648) ≤ (296 : Int) * a1.toInt by omega) (show (296 : Int) * a1.toInt ≤ 2147483647 by omega)
        replace hM := hM.lt ex10.symm
        refine lv_iload_n hx hb dX12_back_46 rfl (lv_at hl 2 rfl) ?_
        refine lv_iadd hx hb dX12_back_47 ?_
        refine lv_topi (fun x11 ex11 => ?_)
        have ezx11 := ex11
        have ex11 : x11.toInt = x10.toInt + v25_2.toInt := by rw [ex11]; exact wk_add (show (-2147483648) ≤ x10.toInt + v25_2.toInt by omega) (show x10.toInt + v25_2.toInt ≤ 2147483647 by omega)
        replace hM := hM.lt ex11.symm
        refine tk_ialdR hC hK hw hT kM_at21 rfl (show 0 ≤ x11.toInt by omega) (show x11.toInt < 1184 by omega) dX12_back_48 (fun x12 c13 Ex12 => ?_)
        have hox12 := c13
        replace hM := hM.rd (sI_at hox12)
        refine tk_iastR hC hK hw hT kM_at12 (by decide) rfl (show 0 ≤ v25_2.toInt from r5) (show v25_2.toInt < 296 by omega) (tk_rgC rfl rfl (show x11.toInt.toNat % 296 = v25_2.toInt.toNat % 296 by omega) Ex12) dX12_back_49 (fun H locs w14 hw hT k16 c15 => ?_)
        replace hM := hM.wr (sI_up k16 c15)
        have hF := hF.put kM_at12 (inE_of (a := 0) (b := 295) (by decide) (show 0 ≤ v25_2.toInt.toNat by omega) (show v25_2.toInt.toNat ≤ 295 by omega)) k16
        obtain ⟨x17, ex17⟩ : ∃ y : Int32, y = v25_2 + Int32.ofInt 1 := ⟨_, rfl⟩
        have erx17 := ex17
        refine lv_iinc (v := x17) (lv' := [(2, .int x17), (0, .ref (ad 0)), (1, .int a1)]) hx hb dX12_back_50 hl (k := 2) rfl ex17.symm (by decide) rfl (fun ls hl => ?_)
        have ex17 : x17.toInt = v25_2.toInt + 1 := by rw [ex17]; exact wk_add (y := 1) (show -2147483648 ≤ v25_2.toInt + 1 by omega) (show v25_2.toInt + 1 ≤ 2147483647 by omega)
        replace hM := hM.lt ex17.symm
        refine lv_goto (tgt := 25) hx hb dX12_back_53 (by decide) ?_
        exact ih25 x17 H locs ls w14 (show 0 ≤ a1.toInt from r3) (show a1.toInt ≤ 3 from t4) (show 0 ≤ x17.toInt by omega) (show x17.toInt ≤ 296 by omega) (show (296 - x17.toInt).toNat < n25 by omega) hw hT hF hM (lv_sub hl [1, 2, 0] rfl)
  have hM : TT (fun n => m_X12_back n 0 a1.toInt (sI w0)) (fun n => m_X12_back n 0 a1.toInt (sI w0)) := TT.rf
  refine lv_iload_n hx hb dX12_back_0 rfl (lv_at hl 1 rfl) ?_
  refine lv_i2l hx hb dX12_back_1 rfl ?_
  refine lv_topl (fun x18 ex18 => ?_)
  have ex18 : x18.toInt = a1.toInt := by rw [ex18]; exact wk_i2l _
  have bx18 := wk_i32 a1
  replace hM := hM.lt ex18.symm
  refine lv_lconst (v := 0) hx hb dX12_back_2 (by decide) ?_
  refine lv_ldc2 (v := 3) hx hb hC.2.2.2.1 (hC.2.2.2.2 _ (List.mem_cons_of_mem _ uw_35_2)) dX12_back_3 ?_
  refine tk_Si hC hK hw hT hA hE hSR (kz_X12_in_10 l adK adV dC dI cy ad B (by omega) (by omega) qr s1   x18 (show (-2147483648) ≤ x18.toInt by omega) (show x18.toInt ≤ 2147483647 by omega) w0 s.heap.size hT ) (va_cwS 3 hC.2.2.2.2 uS_RX12_122 rfl rfl rfl (by decide +kernel) ⟨Nat.le_of_ble_eq_true rfl, Nat.le_of_ble_eq_true rfl⟩) rfl hl.1 rfl (Nat.le_of_ble_eq_true rfl) dX12_back_6 (fun r19 w21 H locs hp20 hw => ?_)
  obtain ⟨rfl, hv26, hg25⟩ := hp20
  rcases hg25 with rfl | ⟨rfl, g23, g24⟩
  · replace hM := hM.call (r' := 0) hv26 (by decide)
    refine lv_if_eq (tgt := 21) hx hb dX12_back_9 (by decide) (fun _ => ?_) (fun c => absurd (by decide) c)
    replace hM := hM.pos (by decide)
    exact J21  H locs ls w0   hw hT hF hM (lv_sub hl [0, 1] rfl)
  · replace hM := hM.call (r' := 1) hv26 (by decide)
    refine lv_if_eq (tgt := 21) hx hb dX12_back_9 (by decide) (fun c => absurd c (by decide)) (fun _ => ?_)
    replace hM := hM.neg (by decide)
    refine lv_aload_n hx hb dX12_back_12 rfl (lv_at hl 0 rfl) ?_
    refine tk_getA hC hK hw hT hinX12 kM_at0 (by decide) rfl 41 (by decide) (List.mem_cons_of_mem _ uw_7_12) rfl rfl dX12_back_13 ?_
    refine lv_iload_n hx hb dX12_back_16 rfl (lv_at hl 1 rfl) ?_
    refine tk_zald hC hK hw hT kM_at22 rfl rfl (show 0 ≤ a1.toInt by omega) (show a1.toInt < 4 by omega) dX12_back_17 (fun x27 c28 rx27 tx27 => ?_)
    have hox27 := c28
    replace hM := hM.rd (sI_at hox27)
    refine lv_if_ne (tgt := 23) hx hb dX12_back_18 (by decide) (fun c29 => ?_) (fun c29 => ?_)
    · have c29 : ¬ x27.toInt = (0 : Int) := wk_eqF c29
      replace hM := hM.pos c29
      refine lv_iconst (v := 0) hx hb dX12_back_23 (by decide) ?_
      refine lv_istore_n (lv' := [(2, .int 0), (0, .ref (ad 0)), (1, .int a1)]) hx hb dX12_back_24 rfl hl (by decide) rfl (fun ls hl => ?_)
      exact L25 ((296 - (0 : Int)).toNat + 1) 0 H locs ls w0 (show 0 ≤ a1.toInt by omega) (show a1.toInt ≤ 3 by omega) (by decide) (by decide) (Nat.lt_succ_self _) hw hT hF hM (lv_sub hl [1, 2, 0] rfl)
    · have c29 : x27.toInt = (0 : Int) := wk_eq.mp c29
      replace hM := hM.neg (fun q => q c29)
      exact J21  H locs ls w0   hw hT hF hM (lv_sub hl [0, 1] rfl)
abbrev Pz_X12_isStreet_1 (ad : Nat → Nat) (cy : Nat → ClassId) (B : Int) (qr : Nat) (s1 : Int) (a1 : Int32) (w0 : va_W) : Int32 → va_W → Prop := fun r u => w0 = u ∧ Ev (fun n => m_X12_isStreet n 0 a1.toInt (sI w0)) (r.toInt, sI w0) ∧ ((r = 0) ∨ (r = 1 ∧ 0 ≤ a1.toInt ∧ a1.toInt ≤ 11 ∧ (∃ y : Int32, gi u 12 1 = y ∧ 1 ≤ y.toInt ∧ y.toInt ≤ 12)))
set_option maxHeartbeats 4000000 in
set_option maxRecDepth 100000 in
theorem kz_X12_isStreet_1 (l : Launch) (adK adV : Nat → Nat) (dC : Nat → ClassId) (dI : Nat → Nat → Nat) (cy : Nat → ClassId) (ad : Nat → Nat) (B : Int) (hB0 : 100000 ≤ B) (hB1 : B ≤ 1073741824) (qr : Nat) (s1 : Int)  (a1 : Int32) (w0 : va_W) (sz : Nat) (hT : TW ksM ad cy B qr 12 w0)  : Met l yX12_isStreet (wu yX12_isStreet cX12_isStreet 2 (some .boolean)) ({ frames := 1, cells := 0, slots := 0, locals := 12 }) (va_Pc [.ref (ad 0), .int a1] (wpreS adK adV dC dI cy sz w0)) (va_Qi (Pz_X12_isStreet_1 ad cy B qr s1 a1 w0) (fun u : va_W => wpost dC dI cy (va_A w0 sz) u) (va_A w0 sz)) 0 0 (va_A w0 sz) := by
  refine Met.ofW (cc := cX12_isStreet) (maxL := 2) (ret := (some .boolean)) (by decide) rfl ?_
  intro p e s m args below meth c s₁ Bk hml hv
  obtain ⟨rfl, ⟨hsz, hP, hK, hD0⟩, hE, hSR⟩ := hv
  have hx := Bk.exec
  have hb := Bk.bytes
  have hr := Bk.returns
  have hlocks := Bk.notSynchronized
  have hC : CallFix p m c cX12_isStreet 2 s _ (wu yX12_isStreet cX12_isStreet 2 (some .boolean)) RX12 := ⟨hx, hb, hml, findClass_of_methodNamed Bk.named, atoms_spec (ws := (wu yX12_isStreet cX12_isStreet 2 (some .boolean))) Bk.pre⟩
  subst hsz
  have hD := hD0.self (sz := s.heap.size)
  generalize hAe : va_A w0 s.heap.size = A at hD hE ⊢
  have hA : ∀ q : Nat, s.heap.size ≤ q → A q := fun q h => by rw [← hAe]; exact Or.inr h
  have hw : Wd dC dI A s.heap s.heap [] w0 := ⟨hP, hD, va_S.rf⟩
  have hF : FE ksM ([] : List (Nat × Nat × Nat)) w0 w0 := FE.rf
  have hl := lv_entry ([.ref (ad 0), .int a1]) (n := 2) (Nat.le_of_ble_eq_true rfl)
  rw [lg_entry_eq]
  generalize (lg_sl ([.ref (ad 0), .int a1]) ++ List.replicate (2 - (lg_sl ([.ref (ad 0), .int a1])).length) Slot.unset).toArray = ls at hl ⊢
  have hl : lv_has ls 2 [(0, .ref (ad 0)), (1, .int a1)] := hl
  generalize hloc : ([] : List Loc) = locs at hw ⊢
  have hinX12 : ∀ w ∈ u_ws RX12 TX12 42, w ∈ (wu yX12_isStreet cX12_isStreet 2 (some .boolean)) := fun _ h => List.mem_cons_of_mem _ (up_71 h)
  have J18 : ∀ (H : Heap) (locs : List Loc) (ls : Array Slot), Wd dC dI A s.heap H locs w0 → TT (fun n => m_X12_isStreet n 0 a1.toInt (sI w0)) (fun n => b_X12_isStreet_18 n 0 (sI w0)) → lv_has ls 2 [(0, .ref (ad 0)), (1, .int a1)] → W p l e ({ frames := 1, cells := 0, slots := 0, locals := 12 }) s m (List.toArray [.ref (ad 0), .int a1]) below meth c H locs 0 0 (MQ below (va_Qi (Pz_X12_isStreet_1 ad cy B qr s1 a1 w0) (fun u : va_W => wpost dC dI cy A u) A) (List.toArray [.ref (ad 0), .int a1]) s 0 0 A) (F0 m 18 ls []) := by
    intro H locs ls hw hM hl
    refine lv_iconst (v := 0) hx hb dX12_isStreet_18 (by decide) ?_
    exact tk_zret hC hr rfl hlocks hK ⟨rfl, hM.ret (by decide), (Or.inl rfl)⟩ hw dX12_isStreet_19
  have hM : TT (fun n => m_X12_isStreet n 0 a1.toInt (sI w0)) (fun n => m_X12_isStreet n 0 a1.toInt (sI w0)) := TT.rf
  refine lv_iload_n hx hb dX12_isStreet_0 rfl (lv_at hl 1 rfl) ?_
  refine lv_if_lt (tgt := 18) hx hb dX12_isStreet_1 (by decide) (fun c1 => ?_) (fun c1 => ?_)
  · have c1 : a1.toInt < (0 : Int) := wk_lt.mp c1
    replace hM := hM.pos c1
    exact J18  s.heap locs ls    hw  hM (lv_sub hl [0, 1] rfl)
  · have c1 : (0 : Int) ≤ a1.toInt := wk_ltF c1
    replace hM := hM.neg (Int.not_lt.mpr c1)
    refine lv_iload_n hx hb dX12_isStreet_4 rfl (lv_at hl 1 rfl) ?_
    refine lv_aload_n hx hb dX12_isStreet_5 rfl (lv_at hl 0 rfl) ?_
    refine tk_getA hC hK hw hT hinX12 kM_at0 (by decide) rfl 26 (by decide) (List.mem_cons_of_mem _ uw_7_1) rfl rfl dX12_isStreet_6 ?_
    refine lv_iconst (v := 1) hx hb dX12_isStreet_9 (by decide) ?_
    refine tk_ialdR hC hK hw hT kM_at12 rfl (by decide) (by decide) dX12_isStreet_10 (fun x2 c3 Ex2 => ?_)
    have hox2 := c3
    replace hM := hM.rd (sI_at hox2)
    have bx2 : 0 ≤ x2.toInt ∧ x2.toInt ≤ 12 := (tk_rg1 rfl).mp Ex2
    have c3 : gi w0 12 1 = x2 := c3
    refine lv_icmp_ge (tgt := 18) hx hb dX12_isStreet_11 (by decide) (fun c4 => ?_) (fun c4 => ?_)
    · have c4 : x2.toInt ≤ a1.toInt := wk_le.mp c4
      replace hM := hM.pos c4
      exact J18  s.heap locs ls    hw  hM (lv_sub hl [0, 1] rfl)
    · have c4 : a1.toInt < x2.toInt := wk_leF c4
      replace hM := hM.neg (Int.not_le.mpr c4)
      refine lv_iconst (v := 1) hx hb dX12_isStreet_14 (by decide) ?_
      refine lv_goto (tgt := 19) hx hb dX12_isStreet_15 (by decide) ?_
      exact tk_zret hC hr rfl hlocks hK ⟨rfl, hM.ret (by decide), (Or.inr ⟨rfl, (show 0 ≤ a1.toInt by omega), (show a1.toInt ≤ 11 by omega), ⟨x2, c3, (show 1 ≤ x2.toInt by omega), (show x2.toInt ≤ 12 by omega)⟩⟩)⟩ hw dX12_isStreet_19
abbrev Pz_X12_in_11 (ad : Nat → Nat) (cy : Nat → ClassId) (B : Int) (qr : Nat) (s1 : Int) (a0 : Int64) (w0 : va_W) : Int32 → va_W → Prop := fun r u => w0 = u ∧ Ev (fun n => m_X12_in n a0.toInt 0 9 (sI w0)) (r.toInt, sI w0) ∧ ((r = 0) ∨ (r = 1 ∧ 0 ≤ a0.toInt ∧ a0.toInt ≤ 9))
set_option maxHeartbeats 4000000 in
set_option maxRecDepth 100000 in
theorem kz_X12_in_11 (l : Launch) (adK adV : Nat → Nat) (dC : Nat → ClassId) (dI : Nat → Nat → Nat) (cy : Nat → ClassId) (ad : Nat → Nat) (B : Int) (hB0 : 100000 ≤ B) (hB1 : B ≤ 1073741824) (qr : Nat) (s1 : Int)  (a0 : Int64) (ra0 : (-2147483648) ≤ a0.toInt) (ta0 : a0.toInt ≤ 2147483647) (w0 : va_W) (sz : Nat) (hT : TW ksM ad cy B qr 12 w0)  : Met l yX12_in (wu yX12_in cX12_in 6 (some .boolean)) ({ frames := 1, cells := 0, slots := 0, locals := 12 }) (va_Pc [.long a0, .long 0, .long 9] (wpreS adK adV dC dI cy sz w0)) (va_Qi (Pz_X12_in_11 ad cy B qr s1 a0 w0) (fun u : va_W => wpost dC dI cy (va_A w0 sz) u) (va_A w0 sz)) 0 0 (va_A w0 sz) := by
  refine Met.ofW (cc := cX12_in) (maxL := 6) (ret := (some .boolean)) (by decide) rfl ?_
  intro p e s m args below meth c s₁ Bk hml hv
  obtain ⟨rfl, ⟨hsz, hP, hK, hD0⟩, hE, hSR⟩ := hv
  have hx := Bk.exec
  have hb := Bk.bytes
  have hr := Bk.returns
  have hlocks := Bk.notSynchronized
  have hC : CallFix p m c cX12_in 6 s _ (wu yX12_in cX12_in 6 (some .boolean)) RX12 := ⟨hx, hb, hml, findClass_of_methodNamed Bk.named, atoms_spec (ws := (wu yX12_in cX12_in 6 (some .boolean))) Bk.pre⟩
  subst hsz
  have hD := hD0.self (sz := s.heap.size)
  generalize hAe : va_A w0 s.heap.size = A at hD hE ⊢
  have hA : ∀ q : Nat, s.heap.size ≤ q → A q := fun q h => by rw [← hAe]; exact Or.inr h
  have hw : Wd dC dI A s.heap s.heap [] w0 := ⟨hP, hD, va_S.rf⟩
  have hF : FE ksM ([] : List (Nat × Nat × Nat)) w0 w0 := FE.rf
  have hl := lv_entry ([.long a0, .long 0, .long 9]) (n := 6) (Nat.le_of_ble_eq_true rfl)
  rw [lg_entry_eq]
  generalize (lg_sl ([.long a0, .long 0, .long 9]) ++ List.replicate (6 - (lg_sl ([.long a0, .long 0, .long 9])).length) Slot.unset).toArray = ls at hl ⊢
  have hl : lv_has ls 6 [(0, .long a0), (2, .long 0), (4, .long 9)] := hl
  generalize hloc : ([] : List Loc) = locs at hw ⊢
  have J17 : ∀ (H : Heap) (locs : List Loc) (ls : Array Slot), (-2147483648) ≤ a0.toInt → a0.toInt ≤ 2147483647 → Wd dC dI A s.heap H locs w0 → TT (fun n => m_X12_in n a0.toInt 0 9 (sI w0)) (fun n => b_X12_in_17 n (sI w0)) → lv_has ls 6 [(0, .long a0), (2, .long 0), (4, .long 9)] → W p l e ({ frames := 1, cells := 0, slots := 0, locals := 12 }) s m (List.toArray [.long a0, .long 0, .long 9]) below meth c H locs 0 0 (MQ below (va_Qi (Pz_X12_in_11 ad cy B qr s1 a0 w0) (fun u : va_W => wpost dC dI cy A u) A) (List.toArray [.long a0, .long 0, .long 9]) s 0 0 A) (F0 m 17 ls []) := by
    intro H locs ls r1 t2 hw hM hl
    refine lv_iconst (v := 0) hx hb dX12_in_17 (by decide) ?_
    exact tk_zret hC hr rfl hlocks hK ⟨rfl, hM.ret (by decide), (Or.inl rfl)⟩ hw dX12_in_18
  have hM : TT (fun n => m_X12_in n a0.toInt 0 9 (sI w0)) (fun n => m_X12_in n a0.toInt 0 9 (sI w0)) := TT.rf
  refine lv_lload_n hx hb dX12_in_0 rfl (lv_at hl 0 rfl) ?_
  refine lv_lload_n hx hb dX12_in_1 rfl (lv_at hl 1 rfl) ?_
  refine W.lcmp hx hb dX12_in_2 ?_
  refine lv_if_lt (tgt := 17) hx hb dX12_in_3 (by decide) (fun c3 => ?_) (fun c3 => ?_)
  · have c3 : a0.toInt < (0 : Int) := wk_cltT c3
    replace hM := hM.pos c3
    exact J17  s.heap locs ls  (show (-2147483648) ≤ a0.toInt from ra0) (show a0.toInt ≤ 2147483647 from ta0)  hw  hM (lv_sub hl [0, 1, 2] rfl)
  · have c3 : (0 : Int) ≤ a0.toInt := wk_cltF c3
    replace hM := hM.neg (Int.not_lt.mpr c3)
    refine lv_lload_n hx hb dX12_in_6 rfl (lv_at hl 0 rfl) ?_
    refine lv_lload hx hb dX12_in_7 (lv_at hl 2 rfl) ?_
    refine W.lcmp hx hb dX12_in_9 ?_
    refine lv_if_gt (tgt := 17) hx hb dX12_in_10 (by decide) (fun c4 => ?_) (fun c4 => ?_)
    · have c4 : (9 : Int) < a0.toInt := wk_cgtT c4
      replace hM := hM.pos c4
      exact J17  s.heap locs ls  (show (-2147483648) ≤ a0.toInt from ra0) (show a0.toInt ≤ 2147483647 from ta0)  hw  hM (lv_sub hl [0, 1, 2] rfl)
    · have c4 : a0.toInt ≤ (9 : Int) := wk_cgtF c4
      replace hM := hM.neg (Int.not_lt.mpr c4)
      refine lv_iconst (v := 1) hx hb dX12_in_13 (by decide) ?_
      refine lv_goto (tgt := 18) hx hb dX12_in_14 (by decide) ?_
      exact tk_zret hC hr rfl hlocks hK ⟨rfl, hM.ret (by decide), (Or.inr ⟨rfl, (show 0 ≤ a0.toInt by omega), (show a0.toInt ≤ 9 by omega)⟩)⟩ hw dX12_in_18
abbrev Pz_X12_streetOf_1 (ad : Nat → Nat) (cy : Nat → ClassId) (B : Int) (qr : Nat) (s1 : Int) (a1 : Int32) (a2 : Int32) (w0 : va_W) : Int32 → va_W → Prop := fun r u => w0 = u ∧ Ev (fun n => m_X12_streetOf n 0 a1.toInt a2.toInt (sI w0)) (r.toInt, sI w0) ∧ ((0 ≤ r.toInt ∧ r.toInt ≤ 9 ∧ gi u 12 (10 * a1.toInt + 1 * a2.toInt + 10).toNat = r))
set_option maxHeartbeats 4000000 in
set_option maxRecDepth 100000 in
theorem kz_X12_streetOf_1 (l : Launch) (adK adV : Nat → Nat) (dC : Nat → ClassId) (dI : Nat → Nat → Nat) (cy : Nat → ClassId) (ad : Nat → Nat) (B : Int) (hB0 : 100000 ≤ B) (hB1 : B ≤ 1073741824) (qr : Nat) (s1 : Int)  (a1 : Int32) (ra1 : 0 ≤ a1.toInt) (ta1 : a1.toInt ≤ 11) (a2 : Int32) (ra2 : 0 ≤ a2.toInt) (ta2 : a2.toInt ≤ 9) (w0 : va_W) (sz : Nat) (hT : TW ksM ad cy B qr 12 w0)  : Met l yX12_streetOf (wu yX12_streetOf cX12_streetOf 3 (some .int)) ({ frames := 1, cells := 0, slots := 0, locals := 12 }) (va_Pc [.ref (ad 0), .int a1, .int a2] (wpreS adK adV dC dI cy sz w0)) (va_Qi (Pz_X12_streetOf_1 ad cy B qr s1 a1 a2 w0) (fun u : va_W => wpost dC dI cy (va_A w0 sz) u) (va_A w0 sz)) 0 0 (va_A w0 sz) := by
  refine Met.ofW (cc := cX12_streetOf) (maxL := 3) (ret := (some .int)) (by decide) rfl ?_
  intro p e s m args below meth c s₁ Bk hml hv
  obtain ⟨rfl, ⟨hsz, hP, hK, hD0⟩, hE, hSR⟩ := hv
  have hx := Bk.exec
  have hb := Bk.bytes
  have hr := Bk.returns
  have hlocks := Bk.notSynchronized
  have hC : CallFix p m c cX12_streetOf 3 s _ (wu yX12_streetOf cX12_streetOf 3 (some .int)) RX12 := ⟨hx, hb, hml, findClass_of_methodNamed Bk.named, atoms_spec (ws := (wu yX12_streetOf cX12_streetOf 3 (some .int))) Bk.pre⟩
  subst hsz
  have hD := hD0.self (sz := s.heap.size)
  generalize hAe : va_A w0 s.heap.size = A at hD hE ⊢
  have hA : ∀ q : Nat, s.heap.size ≤ q → A q := fun q h => by rw [← hAe]; exact Or.inr h
  have hw : Wd dC dI A s.heap s.heap [] w0 := ⟨hP, hD, va_S.rf⟩
  have hF : FE ksM ([] : List (Nat × Nat × Nat)) w0 w0 := FE.rf
  have hl := lv_entry ([.ref (ad 0), .int a1, .int a2]) (n := 3) (Nat.le_of_ble_eq_true rfl)
  rw [lg_entry_eq]
  generalize (lg_sl ([.ref (ad 0), .int a1, .int a2]) ++ List.replicate (3 - (lg_sl ([.ref (ad 0), .int a1, .int a2])).length) Slot.unset).toArray = ls at hl ⊢
  have hl : lv_has ls 3 [(0, .ref (ad 0)), (1, .int a1), (2, .int a2)] := hl
  generalize hloc : ([] : List Loc) = locs at hw ⊢
  have hinX12 : ∀ w ∈ u_ws RX12 TX12 42, w ∈ (wu yX12_streetOf cX12_streetOf 3 (some .int)) := fun _ h => List.mem_cons_of_mem _ (up_71 h)
  have hM : TT (fun n => m_X12_streetOf n 0 a1.toInt a2.toInt (sI w0)) (fun n => m_X12_streetOf n 0 a1.toInt a2.toInt (sI w0)) := TT.rf
  refine lv_aload_n hx hb dX12_streetOf_0 rfl (lv_at hl 0 rfl) ?_
  refine tk_getA hC hK hw hT hinX12 kM_at0 (by decide) rfl 26 (by decide) (List.mem_cons_of_mem _ uw_7_1) rfl rfl dX12_streetOf_1 ?_
  refine lv_bipush (v := 10) hx hb dX12_streetOf_4 (by decide) ?_
  refine lv_bipush (v := 10) hx hb dX12_streetOf_6 (by decide) ?_
  refine lv_iload_n hx hb dX12_streetOf_8 rfl (lv_at hl 1 rfl) ?_
  refine lv_imul hx hb dX12_streetOf_9 ?_
  refine lv_topi (fun x1 ex1 => ?_)
  have ezx1 := ex1
  have ex1 : x1.toInt = (10 : Int) * a1.toInt := by rw [ex1]; exact wk_mul (show (-2147483648) ≤ (10 : Int) * a1.toInt by omega) (show (10 : Int) * a1.toInt ≤ 2147483647 by omega)
  replace hM := hM.lt ex1.symm
  refine lv_iadd hx hb dX12_streetOf_10 ?_
  refine lv_topi (fun x2 ex2 => ?_)
  have ezx2 := ex2
  have ex2 : x2.toInt = (10 : Int) + x1.toInt := by rw [ex2]; exact wk_add (show (-2147483648) ≤ (10 : Int) + x1.toInt by omega) (show (10 : Int) + x1.toInt ≤ 2147483647 by omega)
  replace hM := hM.lt ex2.symm
  refine lv_iload_n hx hb dX12_streetOf_11 rfl (lv_at hl 2 rfl) ?_
  refine lv_iadd hx hb dX12_streetOf_12 ?_
  refine lv_topi (fun x3 ex3 => ?_)
  have ezx3 := ex3
  have ex3 : x3.toInt = x2.toInt + a2.toInt := by rw [ex3]; exact wk_add (show (-2147483648) ≤ x2.toInt + a2.toInt by omega) (show x2.toInt + a2.toInt ≤ 2147483647 by omega)
  replace hM := hM.lt ex3.symm
  refine tk_ialdR hC hK hw hT kM_at12 rfl (show 0 ≤ x3.toInt by omega) (show x3.toInt < 296 by omega) dX12_streetOf_13 (fun x4 c5 Ex4 => ?_)
  have hox4 := c5
  have c5 : gi w0 12 (10 * a1.toInt + 1 * a2.toInt + 10).toNat = x4 := (congrArg (gi w0 12) (congrArg Int.toNat (show 10 * a1.toInt + 1 * a2.toInt + 10 = x3.toInt by omega))).trans c5
  replace hM := hM.rd (sI_at hox4)
  have bx4 := tk_rgI rfl 10 1 120 0 9 (by decide +kernel) ⟨(x3.toInt - 10).toNat, by omega, show x3.toInt.toNat = 10 + 1 * (x3.toInt - 10).toNat by omega⟩ Ex4
  exact tk_iret hC hr hlocks hK ⟨rfl, hM.ret rfl, ⟨(show 0 ≤ x4.toInt by omega), (show x4.toInt ≤ 9 by omega), c5⟩⟩ hw dX12_streetOf_14
abbrev Pz_X12_street_1 (ad : Nat → Nat) (cy : Nat → ClassId) (B : Int) (qr : Nat) (s1 : Int) (a1 : Int32) (a2 : Int32) (w0 : va_W) : Int32 → va_W → Prop := fun r u => w0 = u ∧ Ev (fun n => m_X12_street n 0 a1.toInt a2.toInt (sI w0)) (r.toInt, sI w0) ∧ ((0 ≤ r.toInt ∧ r.toInt ≤ 9 ∧ 0 ≤ a1.toInt ∧ a1.toInt ≤ 11 ∧ 0 ≤ a2.toInt ∧ a2.toInt ≤ 9 ∧ (∃ y : Int32, gi u 12 1 = y ∧ 1 ≤ y.toInt ∧ y.toInt ≤ 12)) ∨ (r = (-1)))
set_option maxHeartbeats 4000000 in
set_option maxRecDepth 100000 in
theorem kz_X12_street_1 (l : Launch) (adK adV : Nat → Nat) (dC : Nat → ClassId) (dI : Nat → Nat → Nat) (cy : Nat → ClassId) (ad : Nat → Nat) (B : Int) (hB0 : 100000 ≤ B) (hB1 : B ≤ 1073741824) (qr : Nat) (s1 : Int)  (a1 : Int32) (a2 : Int32) (w0 : va_W) (sz : Nat) (hT : TW ksM ad cy B qr 12 w0)  : Met l yX12_street (wu yX12_street cX12_street 3 (some .int)) ({ frames := 2, cells := 0, slots := 0, locals := 37 }) (va_Pc [.ref (ad 0), .int a1, .int a2] (wpreS adK adV dC dI cy sz w0)) (va_Qi (Pz_X12_street_1 ad cy B qr s1 a1 a2 w0) (fun u : va_W => wpost dC dI cy (va_A w0 sz) u) (va_A w0 sz)) 0 0 (va_A w0 sz) := by
  refine Met.ofW (cc := cX12_street) (maxL := 3) (ret := (some .int)) (by decide) rfl ?_
  intro p e s m args below meth c s₁ Bk hml hv
  obtain ⟨rfl, ⟨hsz, hP, hK, hD0⟩, hE, hSR⟩ := hv
  have hx := Bk.exec
  have hb := Bk.bytes
  have hr := Bk.returns
  have hlocks := Bk.notSynchronized
  have hC : CallFix p m c cX12_street 3 s _ (wu yX12_street cX12_street 3 (some .int)) RX12 := ⟨hx, hb, hml, findClass_of_methodNamed Bk.named, atoms_spec (ws := (wu yX12_street cX12_street 3 (some .int))) Bk.pre⟩
  subst hsz
  have hD := hD0.self (sz := s.heap.size)
  generalize hAe : va_A w0 s.heap.size = A at hD hE ⊢
  have hA : ∀ q : Nat, s.heap.size ≤ q → A q := fun q h => by rw [← hAe]; exact Or.inr h
  have hw : Wd dC dI A s.heap s.heap [] w0 := ⟨hP, hD, va_S.rf⟩
  have hF : FE ksM ([] : List (Nat × Nat × Nat)) w0 w0 := FE.rf
  have hl := lv_entry ([.ref (ad 0), .int a1, .int a2]) (n := 3) (Nat.le_of_ble_eq_true rfl)
  rw [lg_entry_eq]
  generalize (lg_sl ([.ref (ad 0), .int a1, .int a2]) ++ List.replicate (3 - (lg_sl ([.ref (ad 0), .int a1, .int a2])).length) Slot.unset).toArray = ls at hl ⊢
  have hl : lv_has ls 3 [(0, .ref (ad 0)), (1, .int a1), (2, .int a2)] := hl
  generalize hloc : ([] : List Loc) = locs at hw ⊢
  have J29 : ∀ (H : Heap) (locs : List Loc) (ls : Array Slot), Wd dC dI A s.heap H locs w0 → TT (fun n => m_X12_street n 0 a1.toInt a2.toInt (sI w0)) (fun n => b_X12_street_29 n 0 (sI w0)) → lv_has ls 3 [(0, .ref (ad 0)), (1, .int a1), (2, .int a2)] → W p l e ({ frames := 2, cells := 0, slots := 0, locals := 37 }) s m (List.toArray [.ref (ad 0), .int a1, .int a2]) below meth c H locs 0 0 (MQ below (va_Qi (Pz_X12_street_1 ad cy B qr s1 a1 a2 w0) (fun u : va_W => wpost dC dI cy A u) A) (List.toArray [.ref (ad 0), .int a1, .int a2]) s 0 0 A) (F0 m 29 ls []) := by
    intro H locs ls hw hM hl
    refine lv_iconst (v := (-1)) hx hb dX12_street_29 (by decide) ?_
    exact tk_iret hC hr hlocks hK ⟨rfl, hM.ret (by decide), (Or.inr rfl)⟩ hw dX12_street_30
  have hM : TT (fun n => m_X12_street n 0 a1.toInt a2.toInt (sI w0)) (fun n => m_X12_street n 0 a1.toInt a2.toInt (sI w0)) := TT.rf
  refine lv_aload_n hx hb dX12_street_0 rfl (lv_at hl 0 rfl) ?_
  refine lv_iload_n hx hb dX12_street_1 rfl (lv_at hl 1 rfl) ?_
  refine tk_Vi hC hK hw hT hA hE hSR kM_at0 (by decide) rfl (kz_X12_isStreet_1 l adK adV dC dI cy ad B (by omega) (by omega) qr s1   a1 w0 s.heap.size hT ) (cwV 1 hC.2.2.2.2 uV_RX12_323 rfl rfl rfl (by decide +kernel) ⟨Nat.le_of_ble_eq_true rfl, Nat.le_of_ble_eq_true rfl⟩) rfl hl.1 rfl (Nat.le_of_ble_eq_true rfl) dX12_street_2 (fun r1 w3 H locs hp2 hw => ?_)
  obtain ⟨rfl, hv10, hg9⟩ := hp2
  rcases hg9 with rfl | ⟨rfl, g5, g6, ⟨x7, c8, rx7, tx7⟩⟩
  · replace hM := hM.call (r' := 0) hv10 (by decide)
    refine lv_if_eq (tgt := 29) hx hb dX12_street_5 (by decide) (fun _ => ?_) (fun c => absurd (by decide) c)
    replace hM := hM.pos (by decide)
    exact J29  H locs ls    hw  hM (lv_sub hl [0, 1, 2] rfl)
  · replace hM := hM.call (r' := 1) hv10 (by decide)
    refine lv_if_eq (tgt := 29) hx hb dX12_street_5 (by decide) (fun c => absurd c (by decide)) (fun _ => ?_)
    replace hM := hM.neg (by decide)
    refine lv_iload_n hx hb dX12_street_8 rfl (lv_at hl 2 rfl) ?_
    refine lv_i2l hx hb dX12_street_9 rfl ?_
    refine lv_topl (fun x11 ex11 => ?_)
    have ex11 : x11.toInt = a2.toInt := by rw [ex11]; exact wk_i2l _
    have bx11 := wk_i32 a2
    replace hM := hM.lt ex11.symm
    refine lv_lconst (v := 0) hx hb dX12_street_10 (by decide) ?_
    refine lv_ldc2 (v := 9) hx hb hC.2.2.2.1 (hC.2.2.2.2 _ (List.mem_cons_of_mem _ uw_30_16)) dX12_street_11 ?_
    refine tk_Si hC hK hw hT hA hE hSR (kz_X12_in_11 l adK adV dC dI cy ad B (by omega) (by omega) qr s1   x11 (show (-2147483648) ≤ x11.toInt by omega) (show x11.toInt ≤ 2147483647 by omega) w0 H.size hT ) (va_cwS 3 hC.2.2.2.2 uS_RX12_122 rfl rfl rfl (by decide +kernel) ⟨Nat.le_of_ble_eq_true rfl, Nat.le_of_ble_eq_true rfl⟩) rfl hl.1 rfl (Nat.le_of_ble_eq_true rfl) dX12_street_14 (fun r12 w14 H locs hp13 hw => ?_)
    obtain ⟨rfl, hv19, hg18⟩ := hp13
    rcases hg18 with rfl | ⟨rfl, g16, g17⟩
    · replace hM := hM.call (r' := 0) hv19 (by decide)
      refine lv_if_eq (tgt := 29) hx hb dX12_street_17 (by decide) (fun _ => ?_) (fun c => absurd (by decide) c)
      replace hM := hM.pos (by decide)
      exact J29  H locs ls    hw  hM (lv_sub hl [0, 1, 2] rfl)
    · replace hM := hM.call (r' := 1) hv19 (by decide)
      refine lv_if_eq (tgt := 29) hx hb dX12_street_17 (by decide) (fun c => absurd c (by decide)) (fun _ => ?_)
      replace hM := hM.neg (by decide)
      refine lv_aload_n hx hb dX12_street_20 rfl (lv_at hl 0 rfl) ?_
      refine lv_iload_n hx hb dX12_street_21 rfl (lv_at hl 1 rfl) ?_
      refine lv_iload_n hx hb dX12_street_22 rfl (lv_at hl 2 rfl) ?_
      refine tk_Vi hC hK hw hT hA hE hSR kM_at0 (by decide) rfl (kz_X12_streetOf_1 l adK adV dC dI cy ad B (by omega) (by omega) qr s1   a1 (show 0 ≤ a1.toInt by omega) (show a1.toInt ≤ 11 by omega) a2 (show 0 ≤ a2.toInt by omega) (show a2.toInt ≤ 9 by omega) w0 H.size hT ) (cwV 2 hC.2.2.2.2 uV_RX12_300 rfl rfl rfl (by decide +kernel) ⟨Nat.le_of_ble_eq_true rfl, Nat.le_of_ble_eq_true rfl⟩) rfl hl.1 rfl (Nat.le_of_ble_eq_true rfl) dX12_street_23 (fun r20 w22 H locs hp21 hw => ?_)
      obtain ⟨rfl, hv28, hg27⟩ := hp21
      obtain ⟨g24, g25, c26⟩ := hg27
      replace hM := hM.call hv28 rfl
      refine lv_goto (tgt := 30) hx hb dX12_street_26 (by decide) ?_
      exact tk_iret hC hr hlocks hK ⟨rfl, hM.ret rfl, (Or.inl ⟨(show 0 ≤ r20.toInt by omega), (show r20.toInt ≤ 9 by omega), (show 0 ≤ a1.toInt by omega), (show a1.toInt ≤ 11 by omega), (show 0 ≤ a2.toInt by omega), (show a2.toInt ≤ 9 by omega), ⟨x7, c8, (show 1 ≤ x7.toInt by omega), (show x7.toInt ≤ 12 by omega)⟩⟩)⟩ hw dX12_street_30
abbrev Pz_X12_streetOf_2 (ad : Nat → Nat) (cy : Nat → ClassId) (B : Int) (qr : Nat) (s1 : Int) (a1 : Int32) (a2 : Int32) (w0 : va_W) : Int32 → va_W → Prop := fun r u => w0 = u ∧ Ev (fun n => m_X12_streetOf n 0 a1.toInt a2.toInt (sI w0)) (r.toInt, sI w0) ∧ ((0 ≤ r.toInt ∧ r.toInt ≤ 9 ∧ gi u 12 (10 * a1.toInt + 1 * a2.toInt + 10).toNat = r))
set_option maxHeartbeats 4000000 in
set_option maxRecDepth 100000 in
theorem kz_X12_streetOf_2 (l : Launch) (adK adV : Nat → Nat) (dC : Nat → ClassId) (dI : Nat → Nat → Nat) (cy : Nat → ClassId) (ad : Nat → Nat) (B : Int) (hB0 : 100000 ≤ B) (hB1 : B ≤ 1073741824) (qr : Nat) (s1 : Int)  (a1 : Int32) (ra1 : 0 ≤ a1.toInt) (ta1 : a1.toInt ≤ 11) (a2 : Int32) (ra2 : 3 ≤ a2.toInt) (ta2 : a2.toInt ≤ 9) (w0 : va_W) (sz : Nat) (hT : TW ksM ad cy B qr 12 w0)  : Met l yX12_streetOf (wu yX12_streetOf cX12_streetOf 3 (some .int)) ({ frames := 1, cells := 0, slots := 0, locals := 12 }) (va_Pc [.ref (ad 0), .int a1, .int a2] (wpreS adK adV dC dI cy sz w0)) (va_Qi (Pz_X12_streetOf_2 ad cy B qr s1 a1 a2 w0) (fun u : va_W => wpost dC dI cy (va_A w0 sz) u) (va_A w0 sz)) 0 0 (va_A w0 sz) := by
  refine Met.ofW (cc := cX12_streetOf) (maxL := 3) (ret := (some .int)) (by decide) rfl ?_
  intro p e s m args below meth c s₁ Bk hml hv
  obtain ⟨rfl, ⟨hsz, hP, hK, hD0⟩, hE, hSR⟩ := hv
  have hx := Bk.exec
  have hb := Bk.bytes
  have hr := Bk.returns
  have hlocks := Bk.notSynchronized
  have hC : CallFix p m c cX12_streetOf 3 s _ (wu yX12_streetOf cX12_streetOf 3 (some .int)) RX12 := ⟨hx, hb, hml, findClass_of_methodNamed Bk.named, atoms_spec (ws := (wu yX12_streetOf cX12_streetOf 3 (some .int))) Bk.pre⟩
  subst hsz
  have hD := hD0.self (sz := s.heap.size)
  generalize hAe : va_A w0 s.heap.size = A at hD hE ⊢
  have hA : ∀ q : Nat, s.heap.size ≤ q → A q := fun q h => by rw [← hAe]; exact Or.inr h
  have hw : Wd dC dI A s.heap s.heap [] w0 := ⟨hP, hD, va_S.rf⟩
  have hF : FE ksM ([] : List (Nat × Nat × Nat)) w0 w0 := FE.rf
  have hl := lv_entry ([.ref (ad 0), .int a1, .int a2]) (n := 3) (Nat.le_of_ble_eq_true rfl)
  rw [lg_entry_eq]
  generalize (lg_sl ([.ref (ad 0), .int a1, .int a2]) ++ List.replicate (3 - (lg_sl ([.ref (ad 0), .int a1, .int a2])).length) Slot.unset).toArray = ls at hl ⊢
  have hl : lv_has ls 3 [(0, .ref (ad 0)), (1, .int a1), (2, .int a2)] := hl
  generalize hloc : ([] : List Loc) = locs at hw ⊢
  have hinX12 : ∀ w ∈ u_ws RX12 TX12 42, w ∈ (wu yX12_streetOf cX12_streetOf 3 (some .int)) := fun _ h => List.mem_cons_of_mem _ (up_71 h)
  have hM : TT (fun n => m_X12_streetOf n 0 a1.toInt a2.toInt (sI w0)) (fun n => m_X12_streetOf n 0 a1.toInt a2.toInt (sI w0)) := TT.rf
  refine lv_aload_n hx hb dX12_streetOf_0 rfl (lv_at hl 0 rfl) ?_
  refine tk_getA hC hK hw hT hinX12 kM_at0 (by decide) rfl 26 (by decide) (List.mem_cons_of_mem _ uw_7_1) rfl rfl dX12_streetOf_1 ?_
  refine lv_bipush (v := 10) hx hb dX12_streetOf_4 (by decide) ?_
  refine lv_bipush (v := 10) hx hb dX12_streetOf_6 (by decide) ?_
  refine lv_iload_n hx hb dX12_streetOf_8 rfl (lv_at hl 1 rfl) ?_
  refine lv_imul hx hb dX12_streetOf_9 ?_
  refine lv_topi (fun x1 ex1 => ?_)
  have ezx1 := ex1
  have ex1 : x1.toInt = (10 : Int) * a1.toInt := by rw [ex1]; exact wk_mul (show (-2147483648) ≤ (10 : Int) * a1.toInt by omega) (show (10 : Int) * a1.toInt ≤ 2147483647 by omega)
  replace hM := hM.lt ex1.symm
  refine lv_iadd hx hb dX12_streetOf_10 ?_
  refine lv_topi (fun x2 ex2 => ?_)
  have ezx2 := ex2
  have ex2 : x2.toInt = (10 : Int) + x1.toInt := by rw [ex2]; exact wk_add (show (-2147483648) ≤ (10 : Int) + x1.toInt by omega) (show (10 : Int) + x1.toInt ≤ 2147483647 by omega)
  replace hM := hM.lt ex2.symm
  refine lv_iload_n hx hb dX12_streetOf_11 rfl (lv_at hl 2 rfl) ?_
  refine lv_iadd hx hb dX12_streetOf_12 ?_
  refine lv_topi (fun x3 ex3 => ?_)
  have ezx3 := ex3
  have ex3 : x3.toInt = x2.toInt + a2.toInt := by rw [ex3]; exact wk_add (show (-2147483648) ≤ x2.toInt + a2.toInt by omega) (show x2.toInt + a2.toInt ≤ 2147483647 by omega)
  replace hM := hM.lt ex3.symm
  refine tk_ialdR hC hK hw hT kM_at12 rfl (show 0 ≤ x3.toInt by omega) (show x3.toInt < 296 by omega) dX12_streetOf_13 (fun x4 c5 Ex4 => ?_)
  have hox4 := c5
  have c5 : gi w0 12 (10 * a1.toInt + 1 * a2.toInt + 10).toNat = x4 := (congrArg (gi w0 12) (congrArg Int.toNat (show 10 * a1.toInt + 1 * a2.toInt + 10 = x3.toInt by omega))).trans c5
  replace hM := hM.rd (sI_at hox4)
  have bx4 := tk_rgI rfl 13 1 117 0 9 (by decide +kernel) ⟨(x3.toInt - 13).toNat, by omega, show x3.toInt.toNat = 13 + 1 * (x3.toInt - 13).toNat by omega⟩ Ex4
  exact tk_iret hC hr hlocks hK ⟨rfl, hM.ret rfl, ⟨(show 0 ≤ x4.toInt by omega), (show x4.toInt ≤ 9 by omega), c5⟩⟩ hw dX12_streetOf_14
abbrev Pz_X12_isTown_1 (ad : Nat → Nat) (cy : Nat → ClassId) (B : Int) (qr : Nat) (s1 : Int)  (w0 : va_W) : Int32 → va_W → Prop := fun r u => w0 = u ∧ Ev (fun n => m_X12_isTown n 0 (sI w0)) (r.toInt, sI w0) ∧ ((r = 0 ∧ (∃ y : Int32, gi u 12 0 = y ∧ 0 ≤ y.toInt ∧ y.toInt ≤ 0)) ∨ (r = 1 ∧ (∃ y : Int32, gi u 12 0 = y ∧ 1 ≤ y.toInt ∧ y.toInt ≤ 10)))
set_option maxHeartbeats 4000000 in
set_option maxRecDepth 100000 in
theorem kz_X12_isTown_1 (l : Launch) (adK adV : Nat → Nat) (dC : Nat → ClassId) (dI : Nat → Nat → Nat) (cy : Nat → ClassId) (ad : Nat → Nat) (B : Int) (hB0 : 100000 ≤ B) (hB1 : B ≤ 1073741824) (qr : Nat) (s1 : Int)   (w0 : va_W) (sz : Nat) (hT : TW ksM ad cy B qr 12 w0)  : Met l yX12_isTown (wu yX12_isTown cX12_isTown 1 (some .boolean)) ({ frames := 1, cells := 0, slots := 0, locals := 12 }) (va_Pc [.ref (ad 0)] (wpreS adK adV dC dI cy sz w0)) (va_Qi (Pz_X12_isTown_1 ad cy B qr s1  w0) (fun u : va_W => wpost dC dI cy (va_A w0 sz) u) (va_A w0 sz)) 0 0 (va_A w0 sz) := by
  refine Met.ofW (cc := cX12_isTown) (maxL := 1) (ret := (some .boolean)) (by decide) rfl ?_
  intro p e s m args below meth c s₁ Bk hml hv
  obtain ⟨rfl, ⟨hsz, hP, hK, hD0⟩, hE, hSR⟩ := hv
  have hx := Bk.exec
  have hb := Bk.bytes
  have hr := Bk.returns
  have hlocks := Bk.notSynchronized
  have hC : CallFix p m c cX12_isTown 1 s _ (wu yX12_isTown cX12_isTown 1 (some .boolean)) RX12 := ⟨hx, hb, hml, findClass_of_methodNamed Bk.named, atoms_spec (ws := (wu yX12_isTown cX12_isTown 1 (some .boolean))) Bk.pre⟩
  subst hsz
  have hD := hD0.self (sz := s.heap.size)
  generalize hAe : va_A w0 s.heap.size = A at hD hE ⊢
  have hA : ∀ q : Nat, s.heap.size ≤ q → A q := fun q h => by rw [← hAe]; exact Or.inr h
  have hw : Wd dC dI A s.heap s.heap [] w0 := ⟨hP, hD, va_S.rf⟩
  have hF : FE ksM ([] : List (Nat × Nat × Nat)) w0 w0 := FE.rf
  have hl := lv_entry ([.ref (ad 0)]) (n := 1) (Nat.le_of_ble_eq_true rfl)
  rw [lg_entry_eq]
  generalize (lg_sl ([.ref (ad 0)]) ++ List.replicate (1 - (lg_sl ([.ref (ad 0)])).length) Slot.unset).toArray = ls at hl ⊢
  have hl : lv_has ls 1 [(0, .ref (ad 0))] := hl
  generalize hloc : ([] : List Loc) = locs at hw ⊢
  have hinX12 : ∀ w ∈ u_ws RX12 TX12 42, w ∈ (wu yX12_isTown cX12_isTown 1 (some .boolean)) := fun _ h => List.mem_cons_of_mem _ (up_71 h)
  have hM : TT (fun n => m_X12_isTown n 0 (sI w0)) (fun n => m_X12_isTown n 0 (sI w0)) := TT.rf
  refine lv_aload_n hx hb dX12_isTown_0 rfl (lv_at hl 0 rfl) ?_
  refine tk_getA hC hK hw hT hinX12 kM_at0 (by decide) rfl 26 (by decide) (List.mem_cons_of_mem _ uw_7_1) rfl rfl dX12_isTown_1 ?_
  refine lv_iconst (v := 0) hx hb dX12_isTown_4 (by decide) ?_
  refine tk_ialdR hC hK hw hT kM_at12 rfl (by decide) (by decide) dX12_isTown_5 (fun x1 c2 Ex1 => ?_)
  have hox1 := c2
  replace hM := hM.rd (sI_at hox1)
  have bx1 := tk_rgI rfl 0 1 1 0 10 (by decide +kernel) ⟨0, by decide, by decide⟩ Ex1
  have c2 : gi w0 12 0 = x1 := c2
  refine lv_if_le (tgt := 13) hx hb dX12_isTown_6 (by decide) (fun c3 => ?_) (fun c3 => ?_)
  · have c3 : x1.toInt ≤ (0 : Int) := wk_le.mp c3
    replace hM := hM.pos c3
    refine lv_iconst (v := 0) hx hb dX12_isTown_13 (by decide) ?_
    exact tk_zret hC hr rfl hlocks hK ⟨rfl, hM.ret (by decide), (Or.inl ⟨rfl, ⟨x1, c2, (show 0 ≤ x1.toInt by omega), (show x1.toInt ≤ 0 by omega)⟩⟩)⟩ hw dX12_isTown_14
  · have c3 : (0 : Int) < x1.toInt := wk_leF c3
    replace hM := hM.neg (Int.not_le.mpr c3)
    refine lv_iconst (v := 1) hx hb dX12_isTown_9 (by decide) ?_
    refine lv_goto (tgt := 14) hx hb dX12_isTown_10 (by decide) ?_
    exact tk_zret hC hr rfl hlocks hK ⟨rfl, hM.ret (by decide), (Or.inr ⟨rfl, ⟨x1, c2, (show 1 ≤ x1.toInt by omega), (show x1.toInt ≤ 10 by omega)⟩⟩)⟩ hw dX12_isTown_14
abbrev Pz_X12_in_12 (ad : Nat → Nat) (cy : Nat → ClassId) (B : Int) (qr : Nat) (s1 : Int) (a0 : Int64) (w0 : va_W) : Int32 → va_W → Prop := fun r u => w0 = u ∧ Ev (fun n => m_X12_in n a0.toInt 0 6 (sI w0)) (r.toInt, sI w0) ∧ ((r = 0) ∨ (r = 1 ∧ 0 ≤ a0.toInt ∧ a0.toInt ≤ 6))
set_option maxHeartbeats 4000000 in
set_option maxRecDepth 100000 in
theorem kz_X12_in_12 (l : Launch) (adK adV : Nat → Nat) (dC : Nat → ClassId) (dI : Nat → Nat → Nat) (cy : Nat → ClassId) (ad : Nat → Nat) (B : Int) (hB0 : 100000 ≤ B) (hB1 : B ≤ 1073741824) (qr : Nat) (s1 : Int)  (a0 : Int64) (ra0 : (-2147483648) ≤ a0.toInt) (ta0 : a0.toInt ≤ 2147483647) (w0 : va_W) (sz : Nat) (hT : TW ksM ad cy B qr 12 w0)  : Met l yX12_in (wu yX12_in cX12_in 6 (some .boolean)) ({ frames := 1, cells := 0, slots := 0, locals := 12 }) (va_Pc [.long a0, .long 0, .long 6] (wpreS adK adV dC dI cy sz w0)) (va_Qi (Pz_X12_in_12 ad cy B qr s1 a0 w0) (fun u : va_W => wpost dC dI cy (va_A w0 sz) u) (va_A w0 sz)) 0 0 (va_A w0 sz) := by
  refine Met.ofW (cc := cX12_in) (maxL := 6) (ret := (some .boolean)) (by decide) rfl ?_
  intro p e s m args below meth c s₁ Bk hml hv
  obtain ⟨rfl, ⟨hsz, hP, hK, hD0⟩, hE, hSR⟩ := hv
  have hx := Bk.exec
  have hb := Bk.bytes
  have hr := Bk.returns
  have hlocks := Bk.notSynchronized
  have hC : CallFix p m c cX12_in 6 s _ (wu yX12_in cX12_in 6 (some .boolean)) RX12 := ⟨hx, hb, hml, findClass_of_methodNamed Bk.named, atoms_spec (ws := (wu yX12_in cX12_in 6 (some .boolean))) Bk.pre⟩
  subst hsz
  have hD := hD0.self (sz := s.heap.size)
  generalize hAe : va_A w0 s.heap.size = A at hD hE ⊢
  have hA : ∀ q : Nat, s.heap.size ≤ q → A q := fun q h => by rw [← hAe]; exact Or.inr h
  have hw : Wd dC dI A s.heap s.heap [] w0 := ⟨hP, hD, va_S.rf⟩
  have hF : FE ksM ([] : List (Nat × Nat × Nat)) w0 w0 := FE.rf
  have hl := lv_entry ([.long a0, .long 0, .long 6]) (n := 6) (Nat.le_of_ble_eq_true rfl)
  rw [lg_entry_eq]
  generalize (lg_sl ([.long a0, .long 0, .long 6]) ++ List.replicate (6 - (lg_sl ([.long a0, .long 0, .long 6])).length) Slot.unset).toArray = ls at hl ⊢
  have hl : lv_has ls 6 [(0, .long a0), (2, .long 0), (4, .long 6)] := hl
  generalize hloc : ([] : List Loc) = locs at hw ⊢
  have J17 : ∀ (H : Heap) (locs : List Loc) (ls : Array Slot), (-2147483648) ≤ a0.toInt → a0.toInt ≤ 2147483647 → Wd dC dI A s.heap H locs w0 → TT (fun n => m_X12_in n a0.toInt 0 6 (sI w0)) (fun n => b_X12_in_17 n (sI w0)) → lv_has ls 6 [(0, .long a0), (2, .long 0), (4, .long 6)] → W p l e ({ frames := 1, cells := 0, slots := 0, locals := 12 }) s m (List.toArray [.long a0, .long 0, .long 6]) below meth c H locs 0 0 (MQ below (va_Qi (Pz_X12_in_12 ad cy B qr s1 a0 w0) (fun u : va_W => wpost dC dI cy A u) A) (List.toArray [.long a0, .long 0, .long 6]) s 0 0 A) (F0 m 17 ls []) := by
    intro H locs ls r1 t2 hw hM hl
    refine lv_iconst (v := 0) hx hb dX12_in_17 (by decide) ?_
    exact tk_zret hC hr rfl hlocks hK ⟨rfl, hM.ret (by decide), (Or.inl rfl)⟩ hw dX12_in_18
  have hM : TT (fun n => m_X12_in n a0.toInt 0 6 (sI w0)) (fun n => m_X12_in n a0.toInt 0 6 (sI w0)) := TT.rf
  refine lv_lload_n hx hb dX12_in_0 rfl (lv_at hl 0 rfl) ?_
  refine lv_lload_n hx hb dX12_in_1 rfl (lv_at hl 1 rfl) ?_
  refine W.lcmp hx hb dX12_in_2 ?_
  refine lv_if_lt (tgt := 17) hx hb dX12_in_3 (by decide) (fun c3 => ?_) (fun c3 => ?_)
  · have c3 : a0.toInt < (0 : Int) := wk_cltT c3
    replace hM := hM.pos c3
    exact J17  s.heap locs ls  (show (-2147483648) ≤ a0.toInt from ra0) (show a0.toInt ≤ 2147483647 from ta0)  hw  hM (lv_sub hl [0, 1, 2] rfl)
  · have c3 : (0 : Int) ≤ a0.toInt := wk_cltF c3
    replace hM := hM.neg (Int.not_lt.mpr c3)
    refine lv_lload_n hx hb dX12_in_6 rfl (lv_at hl 0 rfl) ?_
    refine lv_lload hx hb dX12_in_7 (lv_at hl 2 rfl) ?_
    refine W.lcmp hx hb dX12_in_9 ?_
    refine lv_if_gt (tgt := 17) hx hb dX12_in_10 (by decide) (fun c4 => ?_) (fun c4 => ?_)
    · have c4 : (6 : Int) < a0.toInt := wk_cgtT c4
      replace hM := hM.pos c4
      exact J17  s.heap locs ls  (show (-2147483648) ≤ a0.toInt from ra0) (show a0.toInt ≤ 2147483647 from ta0)  hw  hM (lv_sub hl [0, 1, 2] rfl)
    · have c4 : a0.toInt ≤ (6 : Int) := wk_cgtF c4
      replace hM := hM.neg (Int.not_lt.mpr c4)
      refine lv_iconst (v := 1) hx hb dX12_in_13 (by decide) ?_
      refine lv_goto (tgt := 18) hx hb dX12_in_14 (by decide) ?_
      exact tk_zret hC hr rfl hlocks hK ⟨rfl, hM.ret (by decide), (Or.inr ⟨rfl, (show 0 ≤ a0.toInt by omega), (show a0.toInt ≤ 6 by omega)⟩)⟩ hw dX12_in_18
abbrev Pz_X12_print_1 (ad : Nat → Nat) (cy : Nat → ClassId) (B : Int) (qr : Nat) (s1 : Int) (a1 : Int32) (w0 : va_W) : Int32 → va_W → Prop := fun r u => TW ksM ad cy B qr 12 u ∧ FE ksM [(71, 4, 4), (71, 168, 215)] w0 u ∧ Ev (fun n => m_X12_print n 0 a1.toInt (sI w0)) (r.toInt, sI u) ∧ ((r = (-2)) ∨ (0 ≤ r.toInt ∧ r.toInt ≤ 3 ∧ 0 ≤ a1.toInt ∧ a1.toInt ≤ 6 ∧ (∃ y : Int32, gi u 12 0 = y ∧ 1 ≤ y.toInt ∧ y.toInt ≤ 10) ∧ (∃ y : Int32, gi u 12 4 = y ∧ 1 ≤ y.toInt ∧ y.toInt ≤ 4)))
set_option maxHeartbeats 4000000 in
set_option maxRecDepth 100000 in
theorem kz_X12_print_1 (l : Launch) (adK adV : Nat → Nat) (dC : Nat → ClassId) (dI : Nat → Nat → Nat) (cy : Nat → ClassId) (ad : Nat → Nat) (B : Int) (hB0 : 100000 ≤ B) (hB1 : B ≤ 1073741824) (qr : Nat) (s1 : Int)  (a1 : Int32) (w0 : va_W) (sz : Nat) (hT : TW ksM ad cy B qr 12 w0)  : Met l yX12_print (wu yX12_print cX12_print 3 (some .int)) ({ frames := 2, cells := 0, slots := 0, locals := 37 }) (va_Pc [.ref (ad 0), .int a1] (wpreS adK adV dC dI cy sz w0)) (va_Qi (Pz_X12_print_1 ad cy B qr s1 a1 w0) (fun u : va_W => wpost dC dI cy (va_A w0 sz) u) (va_A w0 sz)) 0 0 (va_A w0 sz) := by
  refine Met.ofW (cc := cX12_print) (maxL := 3) (ret := (some .int)) (by decide) rfl ?_
  intro p e s m args below meth c s₁ Bk hml hv
  obtain ⟨rfl, ⟨hsz, hP, hK, hD0⟩, hE, hSR⟩ := hv
  have hx := Bk.exec
  have hb := Bk.bytes
  have hr := Bk.returns
  have hlocks := Bk.notSynchronized
  have hC : CallFix p m c cX12_print 3 s _ (wu yX12_print cX12_print 3 (some .int)) RX12 := ⟨hx, hb, hml, findClass_of_methodNamed Bk.named, atoms_spec (ws := (wu yX12_print cX12_print 3 (some .int))) Bk.pre⟩
  subst hsz
  have hD := hD0.self (sz := s.heap.size)
  generalize hAe : va_A w0 s.heap.size = A at hD hE ⊢
  have hA : ∀ q : Nat, s.heap.size ≤ q → A q := fun q h => by rw [← hAe]; exact Or.inr h
  have hw : Wd dC dI A s.heap s.heap [] w0 := ⟨hP, hD, va_S.rf⟩
  have hF : FE ksM [(71, 4, 4), (71, 168, 215)] w0 w0 := FE.rf
  have hl := lv_entry ([.ref (ad 0), .int a1]) (n := 3) (Nat.le_of_ble_eq_true rfl)
  rw [lg_entry_eq]
  generalize (lg_sl ([.ref (ad 0), .int a1]) ++ List.replicate (3 - (lg_sl ([.ref (ad 0), .int a1])).length) Slot.unset).toArray = ls at hl ⊢
  have hl : lv_has ls 3 [(0, .ref (ad 0)), (1, .int a1)] := hl
  generalize hloc : ([] : List Loc) = locs at hw ⊢
  have hinX12 : ∀ w ∈ u_ws RX12 TX12 42, w ∈ (wu yX12_print cX12_print 3 (some .int)) := fun _ h => List.mem_cons_of_mem _ (up_71 h)
  have J29 : ∀ (f29_12_0 : Int32) (H : Heap) (locs : List Loc) (ls : Array Slot) (w1 : va_W), 0 ≤ f29_12_0.toInt → f29_12_0.toInt ≤ 10 → Wd dC dI A s.heap H locs w1 → TW ksM ad cy B qr 12 w1 → FE ksM [(71, 4, 4), (71, 168, 215)] w0 w1 → gi w1 12 0 = f29_12_0 → TT (fun n => m_X12_print n 0 a1.toInt (sI w0)) (fun n => b_X12_print_29 (j_X12_print 0 n) n 0 (sI w1)) → lv_has ls 3 [(0, .ref (ad 0)), (1, .int a1)] → W p l e ({ frames := 2, cells := 0, slots := 0, locals := 37 }) s m (List.toArray [.ref (ad 0), .int a1]) below meth c H locs 0 0 (MQ below (va_Qi (Pz_X12_print_1 ad cy B qr s1 a1 w0) (fun u : va_W => wpost dC dI cy A u) A) (List.toArray [.ref (ad 0), .int a1]) s 0 0 A) (F0 m 29 ls []) := by
    intro f29_12_0 H locs ls w1 r2 t3 hw hT hF c4 hM hl
    refine lv_bipush (v := (-2)) hx hb dX12_print_29 (by decide) ?_
    exact tk_iret hC hr hlocks hK ⟨hT, hF, hM.ret (by decide), (Or.inl rfl)⟩ hw dX12_print_31
  have L34 : ∀ (n34 : Nat) (v34_2 : Int32) (f34_12_0 : Int32) (f34_12_4 : Int32) (H : Heap) (locs : List Loc) (ls : Array Slot) (w5 : va_W), 0 ≤ a1.toInt → a1.toInt ≤ 6 → 0 ≤ v34_2.toInt → v34_2.toInt ≤ 12 → 1 ≤ f34_12_0.toInt → f34_12_0.toInt ≤ 10 → 0 ≤ f34_12_4.toInt → f34_12_4.toInt ≤ 3 → (12 - v34_2.toInt).toNat < n34 → Wd dC dI A s.heap H locs w5 → TW ksM ad cy B qr 12 w5 → FE ksM [(71, 4, 4), (71, 168, 215)] w0 w5 → gi w5 12 0 = f34_12_0 → gi w5 12 4 = f34_12_4 → TT (fun n => m_X12_print n 0 a1.toInt (sI w0)) (fun n => j_X12_print 0 n 34 [a1.toInt, v34_2.toInt] (sI w5)) → lv_has ls 3 [(0, .ref (ad 0)), (1, .int a1), (2, .int v34_2)] → W p l e ({ frames := 2, cells := 0, slots := 0, locals := 37 }) s m (List.toArray [.ref (ad 0), .int a1]) below meth c H locs 0 0 (MQ below (va_Qi (Pz_X12_print_1 ad cy B qr s1 a1 w0) (fun u : va_W => wpost dC dI cy A u) A) (List.toArray [.ref (ad 0), .int a1]) s 0 0 A) (F0 m 34 ls []) := by
    intro n34
    induction n34 with
    | zero => intro v34_2 f34_12_0 f34_12_4 H locs ls w5 r6 t7 r8 t9 r10 t11 r13 t14 hm34 hw hT hF c12 c15 hM hl; omega
    | succ n34 ih34 =>
      intro v34_2 f34_12_0 f34_12_4 H locs ls w5 r6 t7 r8 t9 r10 t11 r13 t14 hm34 hw hT hF c12 c15 hM hl
      replace hM := hM.suc (fun _ => e_X12_print_34)
      refine lv_iload_n hx hb dX12_print_34 rfl (lv_at hl 2 rfl) ?_
      refine lv_aload_n hx hb dX12_print_35 rfl (lv_at hl 0 rfl) ?_
      refine tk_getA hC hK hw hT hinX12 kM_at0 (by decide) rfl 26 (by decide) (List.mem_cons_of_mem _ uw_7_1) rfl rfl dX12_print_36 ?_
      refine lv_iconst (v := 1) hx hb dX12_print_39 (by decide) ?_
      refine tk_ialdR hC hK hw hT kM_at12 rfl (by decide) (by decide) dX12_print_40 (fun x16 c17 Ex16 => ?_)
      have hox16 := c17
      replace hM := hM.rd (sI_at hox16)
      have bx16 : 0 ≤ x16.toInt ∧ x16.toInt ≤ 12 := (tk_rg1 rfl).mp Ex16
      have c17 : gi w5 12 1 = x16 := c17
      refine lv_icmp_ge (tgt := 78) hx hb dX12_print_41 (by decide) (fun c18 => ?_) (fun c18 => ?_)
      · have c18 : x16.toInt ≤ v34_2.toInt := wk_le.mp c18
        replace hM := hM.pos c18
        refine lv_aload_n hx hb dX12_print_78 rfl (lv_at hl 0 rfl) ?_
        refine tk_getA hC hK hw hT hinX12 kM_at0 (by decide) rfl 26 (by decide) (List.mem_cons_of_mem _ uw_7_1) rfl rfl dX12_print_79 ?_
        refine lv_iconst (v := 4) hx hb dX12_print_82 (by decide) ?_
        refine lv_dup2_11 hx hb dX12_print_83 rfl rfl ?_
        refine tk_ialdR hC hK hw hT kM_at12 rfl (by decide) (by decide) dX12_print_84 (fun x19 c20 Ex19 => ?_)
        have hox19 := c20
        refine wk_top f34_12_4 (c20.symm.trans c15) ?_
        replace hM := hM.rd ((sI_at hox19).trans (congrArg Int32.toInt (c20.symm.trans c15)))
        refine lv_iconst (v := 1) hx hb dX12_print_85 (by decide) ?_
        refine lv_iadd hx hb dX12_print_86 ?_
        refine lv_topi (fun x21 ex21 => ?_)
        have ezx21 := ex21
        have ex21 : x21.toInt = f34_12_4.toInt + (1 : Int) := by rw [ex21]; exact wk_add (show (-2147483648) ≤ f34_12_4.toInt + (1 : Int) by omega) (show f34_12_4.toInt + (1 : Int) ≤ 2147483647 by omega)
        replace hM := hM.lt ex21.symm
        refine tk_iastR hC hK hw hT kM_at12 (by decide) rfl (by decide) (by decide) (tk_rgS rfl 4 1 1 1 4 (by decide +kernel) ⟨0, by decide, by decide⟩ (show 1 ≤ x21.toInt by omega) (show x21.toInt ≤ 4 by omega)) dX12_print_87 (fun H locs w22 hw hT k24 c23 => ?_)
        replace hM := hM.wr (sI_up k24 c23)
        have hF := hF.put kM_at12 (inE_of (a := 4) (b := 4) (by decide) (by decide) (by decide)) k24
        have c25 := k24.gi (Or.inr (by decide)) c12
        have c26 := k24.gi (Or.inr (by decide)) c17
        have c23 : gi w22 12 4 = x21 := c23
        refine lv_aload_n hx hb dX12_print_88 rfl (lv_at hl 0 rfl) ?_
        refine tk_getA hC hK hw hT hinX12 kM_at0 (by decide) rfl 26 (by decide) (List.mem_cons_of_mem _ uw_7_1) rfl rfl dX12_print_89 ?_
        refine lv_iconst (v := 4) hx hb dX12_print_92 (by decide) ?_
        refine tk_ialdR hC hK hw hT kM_at12 rfl (by decide) (by decide) dX12_print_93 (fun x27 c28 Ex27 => ?_)
        have hox27 := c28
        refine wk_top x21 (c28.symm.trans c23) ?_
        replace hM := hM.rd ((sI_at hox27).trans (congrArg Int32.toInt (c28.symm.trans c23)))
        refine lv_iconst (v := 1) hx hb dX12_print_94 (by decide) ?_
        refine lv_isub hx hb dX12_print_95 ?_
        refine lv_topi (fun x29 ex29 => ?_)
        have ezx29 := ex29
        have ex29 : x29.toInt = x21.toInt - (1 : Int) := by rw [ex29]; exact wk_sub (show (-2147483648) ≤ x21.toInt - (1 : Int) by omega) (show x21.toInt - (1 : Int) ≤ 2147483647 by omega)
        replace hM := hM.lt ex29.symm
        exact tk_iret hC hr hlocks hK ⟨hT, hF, hM.ret rfl, (Or.inr ⟨(show 0 ≤ x29.toInt by omega), (show x29.toInt ≤ 3 by omega), (show 0 ≤ a1.toInt from r6), (show a1.toInt ≤ 6 from t7), ⟨f34_12_0, c25, (show 1 ≤ f34_12_0.toInt from r10), (show f34_12_0.toInt ≤ 10 from t11)⟩, ⟨x21, c23, (show 1 ≤ x21.toInt by omega), (show x21.toInt ≤ 4 by omega)⟩⟩)⟩ hw dX12_print_96
      · have c18 : v34_2.toInt < x16.toInt := wk_leF c18
        replace hM := hM.neg (Int.not_le.mpr c18)
        refine lv_aload_n hx hb dX12_print_44 rfl (lv_at hl 0 rfl) ?_
        refine tk_getA hC hK hw hT hinX12 kM_at0 (by decide) rfl 26 (by decide) (List.mem_cons_of_mem _ uw_7_1) rfl rfl dX12_print_45 ?_
        refine lv_sipush (v := 168) hx hb dX12_print_48 (by decide) ?_
        refine lv_bipush (v := 12) hx hb dX12_print_51 (by decide) ?_
        refine lv_aload_n hx hb dX12_print_53 rfl (lv_at hl 0 rfl) ?_
        refine tk_getA hC hK hw hT hinX12 kM_at0 (by decide) rfl 26 (by decide) (List.mem_cons_of_mem _ uw_7_1) rfl rfl dX12_print_54 ?_
        refine lv_iconst (v := 4) hx hb dX12_print_57 (by decide) ?_
        refine tk_ialdR hC hK hw hT kM_at12 rfl (by decide) (by decide) dX12_print_58 (fun x30 c31 Ex30 => ?_)
        have hox30 := c31
        refine wk_top f34_12_4 (c31.symm.trans c15) ?_
        replace hM := hM.rd ((sI_at hox30).trans (congrArg Int32.toInt (c31.symm.trans c15)))
        refine lv_imul hx hb dX12_print_59 ?_
        refine lv_topi (fun x32 ex32 => ?_)
        have ezx32 := ex32
        have ex32 : x32.toInt = (12 : Int) * f34_12_4.toInt := by rw [ex32]; exact wk_mul (show (-2147483648) ≤ (12 : Int) * f34_12_4.toInt by omega) (show (12 : Int) * f34_12_4.toInt ≤ 2147483647 by omega)
        replace hM := hM.lt ex32.symm
        refine lv_iadd hx hb dX12_print_60 ?_
        refine lv_topi (fun x33 ex33 => ?_)
        have ezx33 := ex33
        have ex33 : x33.toInt = (168 : Int) + x32.toInt := by rw [ex33]; exact wk_add (show (-2147483648) ≤ (168 : Int) + x32.toInt by omega) (show (168 : Int) + x32.toInt ≤ 2147483647 by omega)
        replace hM := hM.lt ex33.symm
        refine lv_iload_n hx hb dX12_print_61 rfl (lv_at hl 2 rfl) ?_
        refine lv_iadd hx hb dX12_print_62 ?_
        refine lv_topi (fun x34 ex34 => ?_)
        have ezx34 := ex34
        have ex34 : x34.toInt = x33.toInt + v34_2.toInt := by rw [ex34]; exact wk_add (show (-2147483648) ≤ x33.toInt + v34_2.toInt by omega) (show x33.toInt + v34_2.toInt ≤ 2147483647 by omega)
        replace hM := hM.lt ex34.symm
        refine lv_aload_n hx hb dX12_print_63 rfl (lv_at hl 0 rfl) ?_
        refine lv_iload_n hx hb dX12_print_64 rfl (lv_at hl 2 rfl) ?_
        refine lv_iconst (v := 3) hx hb dX12_print_65 (by decide) ?_
        refine lv_iload_n hx hb dX12_print_66 rfl (lv_at hl 1 rfl) ?_
        refine lv_iadd hx hb dX12_print_67 ?_
        refine lv_topi (fun x35 ex35 => ?_)
        have ezx35 := ex35
        have ex35 : x35.toInt = (3 : Int) + a1.toInt := by rw [ex35]; exact wk_add (show (-2147483648) ≤ (3 : Int) + a1.toInt by omega) (show (3 : Int) + a1.toInt ≤ 2147483647 by omega)
        replace hM := hM.lt ex35.symm
        refine tk_Vi hC hK hw hT hA hE hSR kM_at0 (by decide) rfl (kz_X12_streetOf_2 l adK adV dC dI cy ad B (by omega) (by omega) qr s1   v34_2 (show 0 ≤ v34_2.toInt from r8) (show v34_2.toInt ≤ 11 by omega) x35 (show 3 ≤ x35.toInt by omega) (show x35.toInt ≤ 9 by omega) w5 H.size hT ) (cwV 2 hC.2.2.2.2 uV_RX12_300 rfl rfl rfl (by decide +kernel) ⟨Nat.le_of_ble_eq_true rfl, Nat.le_of_ble_eq_true rfl⟩) rfl hl.1 rfl (Nat.le_of_ble_eq_true rfl) dX12_print_68 (fun r36 w38 H locs hp37 hw => ?_)
        obtain ⟨rfl, hv44, hg43⟩ := hp37
        obtain ⟨g40, g41, c42⟩ := hg43
        replace hM := hM.call hv44 rfl
        refine tk_iastR hC hK hw hT kM_at12 (by decide) rfl (show 0 ≤ x34.toInt by omega) (show x34.toInt < 296 by omega) (tk_rgS rfl 168 1 48 0 9 (by decide +kernel) ⟨(x34.toInt - 168).toNat, by omega, show x34.toInt.toNat = 168 + 1 * (x34.toInt - 168).toNat by omega⟩ (show 0 ≤ r36.toInt by omega) (show r36.toInt ≤ 9 by omega)) dX12_print_71 (fun H locs w45 hw hT k47 c46 => ?_)
        replace hM := hM.wr (sI_up k47 c46)
        have hF := hF.put kM_at12 (inE_of (a := 168) (b := 215) (by decide) (show 168 ≤ x34.toInt.toNat by omega) (show x34.toInt.toNat ≤ 215 by omega)) k47
        have c48 := k47.gi (Or.inr (show 0 ≠ x34.toInt.toNat by omega)) c12
        have c49 := k47.gi (Or.inr (show 4 ≠ x34.toInt.toNat by omega)) c15
        have c50 := k47.gi (Or.inr (show 1 ≠ x34.toInt.toNat by omega)) c17
        obtain ⟨x51, ex51⟩ : ∃ y : Int32, y = v34_2 + Int32.ofInt 1 := ⟨_, rfl⟩
        have erx51 := ex51
        refine lv_iinc (v := x51) (lv' := [(2, .int x51), (0, .ref (ad 0)), (1, .int a1)]) hx hb dX12_print_72 hl (k := 2) rfl ex51.symm (by decide) rfl (fun ls hl => ?_)
        have ex51 : x51.toInt = v34_2.toInt + 1 := by rw [ex51]; exact wk_add (y := 1) (show -2147483648 ≤ v34_2.toInt + 1 by omega) (show v34_2.toInt + 1 ≤ 2147483647 by omega)
        replace hM := hM.lt ex51.symm
        refine lv_goto (tgt := 34) hx hb dX12_print_75 (by decide) ?_
        exact ih34 x51 f34_12_0 f34_12_4 H locs ls w45 (show 0 ≤ a1.toInt from r6) (show a1.toInt ≤ 6 from t7) (show 0 ≤ x51.toInt by omega) (show x51.toInt ≤ 12 by omega) (show 1 ≤ f34_12_0.toInt from r10) (show f34_12_0.toInt ≤ 10 from t11) (show 0 ≤ f34_12_4.toInt from r13) (show f34_12_4.toInt ≤ 3 from t14) (show (12 - x51.toInt).toNat < n34 by omega) hw hT hF c48 c49 hM (lv_sub hl [1, 2, 0] rfl)
  have hM : TT (fun n => m_X12_print n 0 a1.toInt (sI w0)) (fun n => m_X12_print n 0 a1.toInt (sI w0)) := TT.rf
  refine lv_aload_n hx hb dX12_print_0 rfl (lv_at hl 0 rfl) ?_
  refine tk_Vi hC hK hw hT hA hE hSR kM_at0 (by decide) rfl (kz_X12_isTown_1 l adK adV dC dI cy ad B (by omega) (by omega) qr s1    w0 s.heap.size hT ) (cwV 0 hC.2.2.2.2 uV_RX12_337 rfl rfl rfl (by decide +kernel) ⟨Nat.le_of_ble_eq_true rfl, Nat.le_of_ble_eq_true rfl⟩) rfl hl.1 rfl (Nat.le_of_ble_eq_true rfl) dX12_print_1 (fun r52 w54 H locs hp53 hw => ?_)
  obtain ⟨rfl, hv61, hg60⟩ := hp53
  rcases hg60 with ⟨rfl, ⟨x56, c57, rx56, tx56⟩⟩ | ⟨rfl, ⟨x58, c59, rx58, tx58⟩⟩
  · replace hM := hM.call (r' := 0) hv61 (by decide)
    refine lv_if_eq (tgt := 29) hx hb dX12_print_4 (by decide) (fun _ => ?_) (fun c => absurd (by decide) c)
    replace hM := hM.pos (by decide)
    exact J29 x56 H locs ls w0 (show 0 ≤ x56.toInt by omega) (show x56.toInt ≤ 10 by omega)  hw hT hF c57 hM (lv_sub hl [0, 1] rfl)
  · replace hM := hM.call (r' := 1) hv61 (by decide)
    refine lv_if_eq (tgt := 29) hx hb dX12_print_4 (by decide) (fun c => absurd c (by decide)) (fun _ => ?_)
    replace hM := hM.neg (by decide)
    refine lv_iload_n hx hb dX12_print_7 rfl (lv_at hl 1 rfl) ?_
    refine lv_i2l hx hb dX12_print_8 rfl ?_
    refine lv_topl (fun x62 ex62 => ?_)
    have ex62 : x62.toInt = a1.toInt := by rw [ex62]; exact wk_i2l _
    have bx62 := wk_i32 a1
    replace hM := hM.lt ex62.symm
    refine lv_lconst (v := 0) hx hb dX12_print_9 (by decide) ?_
    refine lv_ldc2 (v := 6) hx hb hC.2.2.2.1 (hC.2.2.2.2 _ (List.mem_cons_of_mem _ uw_34_6)) dX12_print_10 ?_
    refine tk_Si hC hK hw hT hA hE hSR (kz_X12_in_12 l adK adV dC dI cy ad B (by omega) (by omega) qr s1   x62 (show (-2147483648) ≤ x62.toInt by omega) (show x62.toInt ≤ 2147483647 by omega) w0 H.size hT ) (va_cwS 3 hC.2.2.2.2 uS_RX12_122 rfl rfl rfl (by decide +kernel) ⟨Nat.le_of_ble_eq_true rfl, Nat.le_of_ble_eq_true rfl⟩) rfl hl.1 rfl (Nat.le_of_ble_eq_true rfl) dX12_print_13 (fun r63 w65 H locs hp64 hw => ?_)
    obtain ⟨rfl, hv70, hg69⟩ := hp64
    rcases hg69 with rfl | ⟨rfl, g67, g68⟩
    · replace hM := hM.call (r' := 0) hv70 (by decide)
      refine lv_if_eq (tgt := 29) hx hb dX12_print_16 (by decide) (fun _ => ?_) (fun c => absurd (by decide) c)
      replace hM := hM.pos (by decide)
      exact J29 x58 H locs ls w0 (show 0 ≤ x58.toInt by omega) (show x58.toInt ≤ 10 by omega)  hw hT hF c59 hM (lv_sub hl [0, 1] rfl)
    · replace hM := hM.call (r' := 1) hv70 (by decide)
      refine lv_if_eq (tgt := 29) hx hb dX12_print_16 (by decide) (fun c => absurd c (by decide)) (fun _ => ?_)
      replace hM := hM.neg (by decide)
      refine lv_aload_n hx hb dX12_print_19 rfl (lv_at hl 0 rfl) ?_
      refine tk_getA hC hK hw hT hinX12 kM_at0 (by decide) rfl 26 (by decide) (List.mem_cons_of_mem _ uw_7_1) rfl rfl dX12_print_20 ?_
      refine lv_iconst (v := 4) hx hb dX12_print_23 (by decide) ?_
      refine tk_ialdR hC hK hw hT kM_at12 rfl (by decide) (by decide) dX12_print_24 (fun x71 c72 Ex71 => ?_)
      have hox71 := c72
      replace hM := hM.rd (sI_at hox71)
      have bx71 := tk_rgI rfl 4 1 1 0 4 (by decide +kernel) ⟨0, by decide, by decide⟩ Ex71
      have c72 : gi w0 12 4 = x71 := c72
      refine lv_iconst (v := 4) hx hb dX12_print_25 (by decide) ?_
      refine lv_icmp_ne (tgt := 32) hx hb dX12_print_26 (by decide) (fun c73 => ?_) (fun c73 => ?_)
      · have c73 : ¬ x71.toInt = (4 : Int) := wk_eqF c73
        replace hM := hM.pos c73
        refine lv_iconst (v := 0) hx hb dX12_print_32 (by decide) ?_
        refine lv_istore_n (lv' := [(2, .int 0), (0, .ref (ad 0)), (1, .int a1)]) hx hb dX12_print_33 rfl hl (by decide) rfl (fun ls hl => ?_)
        exact L34 ((12 - (0 : Int)).toNat + 1) 0 x58 x71 H locs ls w0 (show 0 ≤ a1.toInt by omega) (show a1.toInt ≤ 6 by omega) (by decide) (by decide) (show 1 ≤ x58.toInt by omega) (show x58.toInt ≤ 10 by omega) (show 0 ≤ x71.toInt by omega) (show x71.toInt ≤ 3 by omega) (Nat.lt_succ_self _) hw hT hF c59 c72 hM (lv_sub hl [1, 2, 0] rfl)
      · have c73 : x71.toInt = (4 : Int) := wk_eq.mp c73
        replace hM := hM.neg (fun q => q c73)
        exact J29 x58 H locs ls w0 (show 0 ≤ x58.toInt by omega) (show x58.toInt ≤ 10 by omega)  hw hT hF c59 hM (lv_sub hl [0, 1] rfl)
abbrev Pz_X12_isMap_1 (ad : Nat → Nat) (cy : Nat → ClassId) (B : Int) (qr : Nat) (s1 : Int) (a1 : Int32) (w0 : va_W) : Int32 → va_W → Prop := fun r u => w0 = u ∧ Ev (fun n => m_X12_isMap n 0 a1.toInt (sI w0)) (r.toInt, sI w0) ∧ ((r = 0) ∨ (r = 1 ∧ 0 ≤ a1.toInt ∧ a1.toInt ≤ 3 ∧ (∃ y : Int32, gi u 12 4 = y ∧ 1 ≤ y.toInt ∧ y.toInt ≤ 4)))
set_option maxHeartbeats 4000000 in
set_option maxRecDepth 100000 in
theorem kz_X12_isMap_1 (l : Launch) (adK adV : Nat → Nat) (dC : Nat → ClassId) (dI : Nat → Nat → Nat) (cy : Nat → ClassId) (ad : Nat → Nat) (B : Int) (hB0 : 100000 ≤ B) (hB1 : B ≤ 1073741824) (qr : Nat) (s1 : Int)  (a1 : Int32) (w0 : va_W) (sz : Nat) (hT : TW ksM ad cy B qr 12 w0)  : Met l yX12_isMap (wu yX12_isMap cX12_isMap 2 (some .boolean)) ({ frames := 1, cells := 0, slots := 0, locals := 12 }) (va_Pc [.ref (ad 0), .int a1] (wpreS adK adV dC dI cy sz w0)) (va_Qi (Pz_X12_isMap_1 ad cy B qr s1 a1 w0) (fun u : va_W => wpost dC dI cy (va_A w0 sz) u) (va_A w0 sz)) 0 0 (va_A w0 sz) := by
  refine Met.ofW (cc := cX12_isMap) (maxL := 2) (ret := (some .boolean)) (by decide) rfl ?_
  intro p e s m args below meth c s₁ Bk hml hv
  obtain ⟨rfl, ⟨hsz, hP, hK, hD0⟩, hE, hSR⟩ := hv
  have hx := Bk.exec
  have hb := Bk.bytes
  have hr := Bk.returns
  have hlocks := Bk.notSynchronized
  have hC : CallFix p m c cX12_isMap 2 s _ (wu yX12_isMap cX12_isMap 2 (some .boolean)) RX12 := ⟨hx, hb, hml, findClass_of_methodNamed Bk.named, atoms_spec (ws := (wu yX12_isMap cX12_isMap 2 (some .boolean))) Bk.pre⟩
  subst hsz
  have hD := hD0.self (sz := s.heap.size)
  generalize hAe : va_A w0 s.heap.size = A at hD hE ⊢
  have hA : ∀ q : Nat, s.heap.size ≤ q → A q := fun q h => by rw [← hAe]; exact Or.inr h
  have hw : Wd dC dI A s.heap s.heap [] w0 := ⟨hP, hD, va_S.rf⟩
  have hF : FE ksM ([] : List (Nat × Nat × Nat)) w0 w0 := FE.rf
  have hl := lv_entry ([.ref (ad 0), .int a1]) (n := 2) (Nat.le_of_ble_eq_true rfl)
  rw [lg_entry_eq]
  generalize (lg_sl ([.ref (ad 0), .int a1]) ++ List.replicate (2 - (lg_sl ([.ref (ad 0), .int a1])).length) Slot.unset).toArray = ls at hl ⊢
  have hl : lv_has ls 2 [(0, .ref (ad 0)), (1, .int a1)] := hl
  generalize hloc : ([] : List Loc) = locs at hw ⊢
  have hinX12 : ∀ w ∈ u_ws RX12 TX12 42, w ∈ (wu yX12_isMap cX12_isMap 2 (some .boolean)) := fun _ h => List.mem_cons_of_mem _ (up_71 h)
  have J18 : ∀ (H : Heap) (locs : List Loc) (ls : Array Slot), Wd dC dI A s.heap H locs w0 → TT (fun n => m_X12_isMap n 0 a1.toInt (sI w0)) (fun n => b_X12_isMap_18 n 0 (sI w0)) → lv_has ls 2 [(0, .ref (ad 0)), (1, .int a1)] → W p l e ({ frames := 1, cells := 0, slots := 0, locals := 12 }) s m (List.toArray [.ref (ad 0), .int a1]) below meth c H locs 0 0 (MQ below (va_Qi (Pz_X12_isMap_1 ad cy B qr s1 a1 w0) (fun u : va_W => wpost dC dI cy A u) A) (List.toArray [.ref (ad 0), .int a1]) s 0 0 A) (F0 m 18 ls []) := by
    intro H locs ls hw hM hl
    refine lv_iconst (v := 0) hx hb dX12_isMap_18 (by decide) ?_
    exact tk_zret hC hr rfl hlocks hK ⟨rfl, hM.ret (by decide), (Or.inl rfl)⟩ hw dX12_isMap_19
  have hM : TT (fun n => m_X12_isMap n 0 a1.toInt (sI w0)) (fun n => m_X12_isMap n 0 a1.toInt (sI w0)) := TT.rf
  refine lv_iload_n hx hb dX12_isMap_0 rfl (lv_at hl 1 rfl) ?_
  refine lv_if_lt (tgt := 18) hx hb dX12_isMap_1 (by decide) (fun c1 => ?_) (fun c1 => ?_)
  · have c1 : a1.toInt < (0 : Int) := wk_lt.mp c1
    replace hM := hM.pos c1
    exact J18  s.heap locs ls    hw  hM (lv_sub hl [0, 1] rfl)
  · have c1 : (0 : Int) ≤ a1.toInt := wk_ltF c1
    replace hM := hM.neg (Int.not_lt.mpr c1)
    refine lv_iload_n hx hb dX12_isMap_4 rfl (lv_at hl 1 rfl) ?_
    refine lv_aload_n hx hb dX12_isMap_5 rfl (lv_at hl 0 rfl) ?_
    refine tk_getA hC hK hw hT hinX12 kM_at0 (by decide) rfl 26 (by decide) (List.mem_cons_of_mem _ uw_7_1) rfl rfl dX12_isMap_6 ?_
    refine lv_iconst (v := 4) hx hb dX12_isMap_9 (by decide) ?_
    refine tk_ialdR hC hK hw hT kM_at12 rfl (by decide) (by decide) dX12_isMap_10 (fun x2 c3 Ex2 => ?_)
    have hox2 := c3
    replace hM := hM.rd (sI_at hox2)
    have bx2 := tk_rgI rfl 4 1 1 0 4 (by decide +kernel) ⟨0, by decide, by decide⟩ Ex2
    have c3 : gi w0 12 4 = x2 := c3
    refine lv_icmp_ge (tgt := 18) hx hb dX12_isMap_11 (by decide) (fun c4 => ?_) (fun c4 => ?_)
    · have c4 : x2.toInt ≤ a1.toInt := wk_le.mp c4
      replace hM := hM.pos c4
      exact J18  s.heap locs ls    hw  hM (lv_sub hl [0, 1] rfl)
    · have c4 : a1.toInt < x2.toInt := wk_leF c4
      replace hM := hM.neg (Int.not_le.mpr c4)
      refine lv_iconst (v := 1) hx hb dX12_isMap_14 (by decide) ?_
      refine lv_goto (tgt := 19) hx hb dX12_isMap_15 (by decide) ?_
      exact tk_zret hC hr rfl hlocks hK ⟨rfl, hM.ret (by decide), (Or.inr ⟨rfl, (show 0 ≤ a1.toInt by omega), (show a1.toInt ≤ 3 by omega), ⟨x2, c3, (show 1 ≤ x2.toInt by omega), (show x2.toInt ≤ 4 by omega)⟩⟩)⟩ hw dX12_isMap_19
abbrev Pz_X12_misprint_1 (ad : Nat → Nat) (cy : Nat → ClassId) (B : Int) (qr : Nat) (s1 : Int) (a1 : Int32) (a2 : Int32) (a3 : Int32) (w0 : va_W) : Int32 → va_W → Prop := fun r u => TW ksM ad cy B qr 12 u ∧ FE ksM [(71, 168, 215)] w0 u ∧ Ev (fun n => m_X12_misprint n 0 a1.toInt a2.toInt a3.toInt (sI w0)) (r.toInt, sI u) ∧ ((0 ≤ a1.toInt ∧ a1.toInt ≤ 3 ∧ 0 ≤ a2.toInt ∧ a2.toInt ≤ 11 ∧ 0 ≤ a3.toInt ∧ a3.toInt ≤ 3 ∧ (∃ y : Int32, gi u 12 1 = y ∧ 1 ≤ y.toInt ∧ y.toInt ≤ 12) ∧ (∃ y : Int32, gi u 12 4 = y ∧ 1 ≤ y.toInt ∧ y.toInt ≤ 4)) ∨ (r = (-1)))
set_option maxHeartbeats 4000000 in
set_option maxRecDepth 100000 in
theorem kz_X12_misprint_1 (l : Launch) (adK adV : Nat → Nat) (dC : Nat → ClassId) (dI : Nat → Nat → Nat) (cy : Nat → ClassId) (ad : Nat → Nat) (B : Int) (hB0 : 100000 ≤ B) (hB1 : B ≤ 1073741824) (qr : Nat) (s1 : Int)  (a1 : Int32) (a2 : Int32) (a3 : Int32) (w0 : va_W) (sz : Nat) (hT : TW ksM ad cy B qr 12 w0)  : Met l yX12_misprint (wu yX12_misprint cX12_misprint 5 (some .int)) ({ frames := 2, cells := 0, slots := 0, locals := 37 }) (va_Pc [.ref (ad 0), .int a1, .int a2, .int a3] (wpreS adK adV dC dI cy sz w0)) (va_Qi (Pz_X12_misprint_1 ad cy B qr s1 a1 a2 a3 w0) (fun u : va_W => wpost dC dI cy (va_A w0 sz) u) (va_A w0 sz)) 0 0 (va_A w0 sz) := by
  refine Met.ofW (cc := cX12_misprint) (maxL := 5) (ret := (some .int)) (by decide) rfl ?_
  intro p e s m args below meth c s₁ Bk hml hv
  obtain ⟨rfl, ⟨hsz, hP, hK, hD0⟩, hE, hSR⟩ := hv
  have hx := Bk.exec
  have hb := Bk.bytes
  have hr := Bk.returns
  have hlocks := Bk.notSynchronized
  have hC : CallFix p m c cX12_misprint 5 s _ (wu yX12_misprint cX12_misprint 5 (some .int)) RX12 := ⟨hx, hb, hml, findClass_of_methodNamed Bk.named, atoms_spec (ws := (wu yX12_misprint cX12_misprint 5 (some .int))) Bk.pre⟩
  subst hsz
  have hD := hD0.self (sz := s.heap.size)
  generalize hAe : va_A w0 s.heap.size = A at hD hE ⊢
  have hA : ∀ q : Nat, s.heap.size ≤ q → A q := fun q h => by rw [← hAe]; exact Or.inr h
  have hw : Wd dC dI A s.heap s.heap [] w0 := ⟨hP, hD, va_S.rf⟩
  have hF : FE ksM [(71, 168, 215)] w0 w0 := FE.rf
  have hl := lv_entry ([.ref (ad 0), .int a1, .int a2, .int a3]) (n := 5) (Nat.le_of_ble_eq_true rfl)
  rw [lg_entry_eq]
  generalize (lg_sl ([.ref (ad 0), .int a1, .int a2, .int a3]) ++ List.replicate (5 - (lg_sl ([.ref (ad 0), .int a1, .int a2, .int a3])).length) Slot.unset).toArray = ls at hl ⊢
  have hl : lv_has ls 5 [(0, .ref (ad 0)), (1, .int a1), (2, .int a2), (3, .int a3)] := hl
  generalize hloc : ([] : List Loc) = locs at hw ⊢
  have hinX12 : ∀ w ∈ u_ws RX12 TX12 42, w ∈ (wu yX12_misprint cX12_misprint 5 (some .int)) := fun _ h => List.mem_cons_of_mem _ (up_71 h)
  have J28 : ∀ (H : Heap) (locs : List Loc) (ls : Array Slot) (w1 : va_W), Wd dC dI A s.heap H locs w1 → TW ksM ad cy B qr 12 w1 → FE ksM [(71, 168, 215)] w0 w1 → TT (fun n => m_X12_misprint n 0 a1.toInt a2.toInt a3.toInt (sI w0)) (fun n => b_X12_misprint_28 n 0 (sI w1)) → lv_has ls 5 [(0, .ref (ad 0)), (1, .int a1), (2, .int a2), (3, .int a3)] → W p l e ({ frames := 2, cells := 0, slots := 0, locals := 37 }) s m (List.toArray [.ref (ad 0), .int a1, .int a2, .int a3]) below meth c H locs 0 0 (MQ below (va_Qi (Pz_X12_misprint_1 ad cy B qr s1 a1 a2 a3 w0) (fun u : va_W => wpost dC dI cy A u) A) (List.toArray [.ref (ad 0), .int a1, .int a2, .int a3]) s 0 0 A) (F0 m 28 ls []) := by
    intro H locs ls w1 hw hT hF hM hl
    refine lv_iconst (v := (-1)) hx hb dX12_misprint_28 (by decide) ?_
    exact tk_iret hC hr hlocks hK ⟨hT, hF, hM.ret (by decide), (Or.inr rfl)⟩ hw dX12_misprint_29
  have hM : TT (fun n => m_X12_misprint n 0 a1.toInt a2.toInt a3.toInt (sI w0)) (fun n => m_X12_misprint n 0 a1.toInt a2.toInt a3.toInt (sI w0)) := TT.rf
  refine lv_aload_n hx hb dX12_misprint_0 rfl (lv_at hl 0 rfl) ?_
  refine lv_iload_n hx hb dX12_misprint_1 rfl (lv_at hl 1 rfl) ?_
  refine tk_Vi hC hK hw hT hA hE hSR kM_at0 (by decide) rfl (kz_X12_isMap_1 l adK adV dC dI cy ad B (by omega) (by omega) qr s1   a1 w0 s.heap.size hT ) (cwV 1 hC.2.2.2.2 uV_RX12_342 rfl rfl rfl (by decide +kernel) ⟨Nat.le_of_ble_eq_true rfl, Nat.le_of_ble_eq_true rfl⟩) rfl hl.1 rfl (Nat.le_of_ble_eq_true rfl) dX12_misprint_2 (fun r2 w4 H locs hp3 hw => ?_)
  obtain ⟨rfl, hv11, hg10⟩ := hp3
  rcases hg10 with rfl | ⟨rfl, g6, g7, ⟨x8, c9, rx8, tx8⟩⟩
  · replace hM := hM.call (r' := 0) hv11 (by decide)
    refine lv_if_eq (tgt := 28) hx hb dX12_misprint_5 (by decide) (fun _ => ?_) (fun c => absurd (by decide) c)
    replace hM := hM.pos (by decide)
    exact J28  H locs ls w0   hw hT hF hM (lv_sub hl [0, 1, 2, 3] rfl)
  · replace hM := hM.call (r' := 1) hv11 (by decide)
    refine lv_if_eq (tgt := 28) hx hb dX12_misprint_5 (by decide) (fun c => absurd c (by decide)) (fun _ => ?_)
    replace hM := hM.neg (by decide)
    refine lv_aload_n hx hb dX12_misprint_8 rfl (lv_at hl 0 rfl) ?_
    refine lv_iload_n hx hb dX12_misprint_9 rfl (lv_at hl 2 rfl) ?_
    refine tk_Vi hC hK hw hT hA hE hSR kM_at0 (by decide) rfl (kz_X12_isStreet_1 l adK adV dC dI cy ad B (by omega) (by omega) qr s1   a2 w0 H.size hT ) (cwV 1 hC.2.2.2.2 uV_RX12_323 rfl rfl rfl (by decide +kernel) ⟨Nat.le_of_ble_eq_true rfl, Nat.le_of_ble_eq_true rfl⟩) rfl hl.1 rfl (Nat.le_of_ble_eq_true rfl) dX12_misprint_10 (fun r12 w14 H locs hp13 hw => ?_)
    obtain ⟨rfl, hv21, hg20⟩ := hp13
    rcases hg20 with rfl | ⟨rfl, g16, g17, ⟨x18, c19, rx18, tx18⟩⟩
    · replace hM := hM.call (r' := 0) hv21 (by decide)
      refine lv_if_eq (tgt := 28) hx hb dX12_misprint_13 (by decide) (fun _ => ?_) (fun c => absurd (by decide) c)
      replace hM := hM.pos (by decide)
      exact J28  H locs ls w0   hw hT hF hM (lv_sub hl [0, 1, 2, 3] rfl)
    · replace hM := hM.call (r' := 1) hv21 (by decide)
      refine lv_if_eq (tgt := 28) hx hb dX12_misprint_13 (by decide) (fun c => absurd c (by decide)) (fun _ => ?_)
      replace hM := hM.neg (by decide)
      refine lv_iload_n hx hb dX12_misprint_16 rfl (lv_at hl 3 rfl) ?_
      refine lv_i2l hx hb dX12_misprint_17 rfl ?_
      refine lv_topl (fun x22 ex22 => ?_)
      have ex22 : x22.toInt = a3.toInt := by rw [ex22]; exact wk_i2l _
      have bx22 := wk_i32 a3
      replace hM := hM.lt ex22.symm
      refine lv_lconst (v := 0) hx hb dX12_misprint_18 (by decide) ?_
      refine lv_ldc2 (v := 3) hx hb hC.2.2.2.1 (hC.2.2.2.2 _ (List.mem_cons_of_mem _ uw_35_2)) dX12_misprint_19 ?_
      refine tk_Si hC hK hw hT hA hE hSR (kz_X12_in_10 l adK adV dC dI cy ad B (by omega) (by omega) qr s1   x22 (show (-2147483648) ≤ x22.toInt by omega) (show x22.toInt ≤ 2147483647 by omega) w0 H.size hT ) (va_cwS 3 hC.2.2.2.2 uS_RX12_122 rfl rfl rfl (by decide +kernel) ⟨Nat.le_of_ble_eq_true rfl, Nat.le_of_ble_eq_true rfl⟩) rfl hl.1 rfl (Nat.le_of_ble_eq_true rfl) dX12_misprint_22 (fun r23 w25 H locs hp24 hw => ?_)
      obtain ⟨rfl, hv30, hg29⟩ := hp24
      rcases hg29 with rfl | ⟨rfl, g27, g28⟩
      · replace hM := hM.call (r' := 0) hv30 (by decide)
        refine lv_if_ne (tgt := 30) hx hb dX12_misprint_25 (by decide) (fun c => absurd (by decide) c) (fun _ => ?_)
        replace hM := hM.neg (by decide)
        exact J28  H locs ls w0   hw hT hF hM (lv_sub hl [0, 1, 2, 3] rfl)
      · replace hM := hM.call (r' := 1) hv30 (by decide)
        refine lv_if_ne (tgt := 30) hx hb dX12_misprint_25 (by decide) (fun _ => ?_) (fun c => absurd c (by decide))
        replace hM := hM.pos (by decide)
        refine lv_aload_n hx hb dX12_misprint_30 rfl (lv_at hl 0 rfl) ?_
        refine tk_getA hC hK hw hT hinX12 kM_at0 (by decide) rfl 26 (by decide) (List.mem_cons_of_mem _ uw_7_1) rfl rfl dX12_misprint_31 ?_
        refine lv_sipush (v := 168) hx hb dX12_misprint_34 (by decide) ?_
        refine lv_bipush (v := 12) hx hb dX12_misprint_37 (by decide) ?_
        refine lv_iload_n hx hb dX12_misprint_39 rfl (lv_at hl 1 rfl) ?_
        refine lv_imul hx hb dX12_misprint_40 ?_
        refine lv_topi (fun x31 ex31 => ?_)
        have ezx31 := ex31
        have ex31 : x31.toInt = (12 : Int) * a1.toInt := by rw [ex31]; exact wk_mul (show (-2147483648) ≤ (12 : Int) * a1.toInt by omega) (show (12 : Int) * a1.toInt ≤ 2147483647 by omega)
        replace hM := hM.lt ex31.symm
        refine lv_iadd hx hb dX12_misprint_41 ?_
        refine lv_topi (fun x32 ex32 => ?_)
        have ezx32 := ex32
        have ex32 : x32.toInt = (168 : Int) + x31.toInt := by rw [ex32]; exact wk_add (show (-2147483648) ≤ (168 : Int) + x31.toInt by omega) (show (168 : Int) + x31.toInt ≤ 2147483647 by omega)
        replace hM := hM.lt ex32.symm
        refine lv_iload_n hx hb dX12_misprint_42 rfl (lv_at hl 2 rfl) ?_
        refine lv_iadd hx hb dX12_misprint_43 ?_
        refine lv_topi (fun x33 ex33 => ?_)
        have ezx33 := ex33
        have ex33 : x33.toInt = x32.toInt + a2.toInt := by rw [ex33]; exact wk_add (show (-2147483648) ≤ x32.toInt + a2.toInt by omega) (show x32.toInt + a2.toInt ≤ 2147483647 by omega)
        replace hM := hM.lt ex33.symm
        refine tk_ialdR hC hK hw hT kM_at12 rfl (show 0 ≤ x33.toInt by omega) (show x33.toInt < 296 by omega) dX12_misprint_44 (fun x34 c35 Ex34 => ?_)
        have hox34 := c35
        have c35 : gi w0 12 (12 * a1.toInt + 1 * a2.toInt + 168).toNat = x34 := (congrArg (gi w0 12) (congrArg Int.toNat (show 12 * a1.toInt + 1 * a2.toInt + 168 = x33.toInt by omega))).trans c35
        replace hM := hM.rd (sI_at hox34)
        refine lv_istore (lv' := [(4, .int x34), (0, .ref (ad 0)), (1, .int a1), (2, .int a2), (3, .int a3)]) hx hb dX12_misprint_45 hl (by decide) rfl (fun ls hl => ?_)
        refine lv_aload_n hx hb dX12_misprint_47 rfl (lv_at hl 1 rfl) ?_
        refine tk_getA hC hK hw hT hinX12 kM_at0 (by decide) rfl 26 (by decide) (List.mem_cons_of_mem _ uw_7_1) rfl rfl dX12_misprint_48 ?_
        refine lv_sipush (v := 168) hx hb dX12_misprint_51 (by decide) ?_
        refine lv_bipush (v := 12) hx hb dX12_misprint_54 (by decide) ?_
        refine lv_iload_n hx hb dX12_misprint_56 rfl (lv_at hl 2 rfl) ?_
        refine lv_imul hx hb dX12_misprint_57 ?_
        refine lv_topi (fun x36 ex36 => ?_)
        have ezx36 := ex36
        have ex36 : x36.toInt = (12 : Int) * a1.toInt := by rw [ex36]; exact wk_mul (show (-2147483648) ≤ (12 : Int) * a1.toInt by omega) (show (12 : Int) * a1.toInt ≤ 2147483647 by omega)
        replace hM := hM.lt ex36.symm
        refine lv_iadd hx hb dX12_misprint_58 ?_
        refine lv_topi (fun x37 ex37 => ?_)
        have ezx37 := ex37
        have ex37 : x37.toInt = (168 : Int) + x36.toInt := by rw [ex37]; exact wk_add (show (-2147483648) ≤ (168 : Int) + x36.toInt by omega) (show (168 : Int) + x36.toInt ≤ 2147483647 by omega)
        replace hM := hM.lt ex37.symm
        refine lv_iload_n hx hb dX12_misprint_59 rfl (lv_at hl 3 rfl) ?_
        refine lv_iadd hx hb dX12_misprint_60 ?_
        refine lv_topi (fun x38 ex38 => ?_)
        have ezx38 := ex38
        have ex38 : x38.toInt = x37.toInt + a2.toInt := by rw [ex38]; exact wk_add (show (-2147483648) ≤ x37.toInt + a2.toInt by omega) (show x37.toInt + a2.toInt ≤ 2147483647 by omega)
        replace hM := hM.lt ex38.symm
        refine lv_iload_n hx hb dX12_misprint_61 rfl (lv_at hl 4 rfl) ?_
        refine tk_iastR hC hK hw hT kM_at12 (by decide) rfl (show 0 ≤ x38.toInt by omega) (show x38.toInt < 296 by omega) (tk_rgS rfl 168 1 48 0 3 (by decide +kernel) ⟨(x38.toInt - 168).toNat, by omega, show x38.toInt.toNat = 168 + 1 * (x38.toInt - 168).toNat by omega⟩ (show 0 ≤ a3.toInt by omega) (show a3.toInt ≤ 3 by omega)) dX12_misprint_62 (fun H locs w39 hw hT k41 c40 => ?_)
        replace hM := hM.wr (sI_up k41 c40)
        have hF := hF.put kM_at12 (inE_of (a := 168) (b := 215) (by decide) (show 168 ≤ x38.toInt.toNat by omega) (show x38.toInt.toNat ≤ 215 by omega)) k41
        have c42 := k41.gi (Or.inr (show 4 ≠ x38.toInt.toNat by omega)) c9
        have c43 := k41.gi (Or.inr (show 1 ≠ x38.toInt.toNat by omega)) c19
        refine lv_iload hx hb dX12_misprint_63 (lv_at hl 0 rfl) ?_
        exact tk_iret hC hr hlocks hK ⟨hT, hF, hM.ret rfl, (Or.inl ⟨(show 0 ≤ a1.toInt by omega), (show a1.toInt ≤ 3 by omega), (show 0 ≤ a2.toInt by omega), (show a2.toInt ≤ 11 by omega), (show 0 ≤ a3.toInt by omega), (show a3.toInt ≤ 3 by omega), ⟨x18, c43, (show 1 ≤ x18.toInt by omega), (show x18.toInt ≤ 12 by omega)⟩, ⟨x8, c42, (show 1 ≤ x8.toInt by omega), (show x8.toInt ≤ 4 by omega)⟩⟩)⟩ hw dX12_misprint_65
abbrev Pz_X12_shown_1 (ad : Nat → Nat) (cy : Nat → ClassId) (B : Int) (qr : Nat) (s1 : Int) (a1 : Int32) (a2 : Int32) (w0 : va_W) : Int32 → va_W → Prop := fun r u => w0 = u ∧ Ev (fun n => m_X12_shown n 0 a1.toInt a2.toInt (sI w0)) (r.toInt, sI w0) ∧ ((0 ≤ a1.toInt ∧ a1.toInt ≤ 3 ∧ 0 ≤ a2.toInt ∧ a2.toInt ≤ 11 ∧ (∃ y : Int32, gi u 12 1 = y ∧ 1 ≤ y.toInt ∧ y.toInt ≤ 12) ∧ (∃ y : Int32, gi u 12 4 = y ∧ 1 ≤ y.toInt ∧ y.toInt ≤ 4)) ∨ (r = (-1)))
set_option maxHeartbeats 4000000 in
set_option maxRecDepth 100000 in
theorem kz_X12_shown_1 (l : Launch) (adK adV : Nat → Nat) (dC : Nat → ClassId) (dI : Nat → Nat → Nat) (cy : Nat → ClassId) (ad : Nat → Nat) (B : Int) (hB0 : 100000 ≤ B) (hB1 : B ≤ 1073741824) (qr : Nat) (s1 : Int)  (a1 : Int32) (a2 : Int32) (w0 : va_W) (sz : Nat) (hT : TW ksM ad cy B qr 12 w0)  : Met l yX12_shown (wu yX12_shown cX12_shown 3 (some .int)) ({ frames := 2, cells := 0, slots := 0, locals := 33 }) (va_Pc [.ref (ad 0), .int a1, .int a2] (wpreS adK adV dC dI cy sz w0)) (va_Qi (Pz_X12_shown_1 ad cy B qr s1 a1 a2 w0) (fun u : va_W => wpost dC dI cy (va_A w0 sz) u) (va_A w0 sz)) 0 0 (va_A w0 sz) := by
  refine Met.ofW (cc := cX12_shown) (maxL := 3) (ret := (some .int)) (by decide) rfl ?_
  intro p e s m args below meth c s₁ Bk hml hv
  obtain ⟨rfl, ⟨hsz, hP, hK, hD0⟩, hE, hSR⟩ := hv
  have hx := Bk.exec
  have hb := Bk.bytes
  have hr := Bk.returns
  have hlocks := Bk.notSynchronized
  have hC : CallFix p m c cX12_shown 3 s _ (wu yX12_shown cX12_shown 3 (some .int)) RX12 := ⟨hx, hb, hml, findClass_of_methodNamed Bk.named, atoms_spec (ws := (wu yX12_shown cX12_shown 3 (some .int))) Bk.pre⟩
  subst hsz
  have hD := hD0.self (sz := s.heap.size)
  generalize hAe : va_A w0 s.heap.size = A at hD hE ⊢
  have hA : ∀ q : Nat, s.heap.size ≤ q → A q := fun q h => by rw [← hAe]; exact Or.inr h
  have hw : Wd dC dI A s.heap s.heap [] w0 := ⟨hP, hD, va_S.rf⟩
  have hF : FE ksM ([] : List (Nat × Nat × Nat)) w0 w0 := FE.rf
  have hl := lv_entry ([.ref (ad 0), .int a1, .int a2]) (n := 3) (Nat.le_of_ble_eq_true rfl)
  rw [lg_entry_eq]
  generalize (lg_sl ([.ref (ad 0), .int a1, .int a2]) ++ List.replicate (3 - (lg_sl ([.ref (ad 0), .int a1, .int a2])).length) Slot.unset).toArray = ls at hl ⊢
  have hl : lv_has ls 3 [(0, .ref (ad 0)), (1, .int a1), (2, .int a2)] := hl
  generalize hloc : ([] : List Loc) = locs at hw ⊢
  have hinX12 : ∀ w ∈ u_ws RX12 TX12 42, w ∈ (wu yX12_shown cX12_shown 3 (some .int)) := fun _ h => List.mem_cons_of_mem _ (up_71 h)
  have J34 : ∀ (H : Heap) (locs : List Loc) (ls : Array Slot), Wd dC dI A s.heap H locs w0 → TT (fun n => m_X12_shown n 0 a1.toInt a2.toInt (sI w0)) (fun n => b_X12_shown_34 n 0 (sI w0)) → lv_has ls 3 [(0, .ref (ad 0)), (1, .int a1), (2, .int a2)] → W p l e ({ frames := 2, cells := 0, slots := 0, locals := 33 }) s m (List.toArray [.ref (ad 0), .int a1, .int a2]) below meth c H locs 0 0 (MQ below (va_Qi (Pz_X12_shown_1 ad cy B qr s1 a1 a2 w0) (fun u : va_W => wpost dC dI cy A u) A) (List.toArray [.ref (ad 0), .int a1, .int a2]) s 0 0 A) (F0 m 34 ls []) := by
    intro H locs ls hw hM hl
    refine lv_iconst (v := (-1)) hx hb dX12_shown_34 (by decide) ?_
    exact tk_iret hC hr hlocks hK ⟨rfl, hM.ret (by decide), (Or.inr rfl)⟩ hw dX12_shown_35
  have hM : TT (fun n => m_X12_shown n 0 a1.toInt a2.toInt (sI w0)) (fun n => m_X12_shown n 0 a1.toInt a2.toInt (sI w0)) := TT.rf
  refine lv_aload_n hx hb dX12_shown_0 rfl (lv_at hl 0 rfl) ?_
  refine lv_iload_n hx hb dX12_shown_1 rfl (lv_at hl 1 rfl) ?_
  refine tk_Vi hC hK hw hT hA hE hSR kM_at0 (by decide) rfl (kz_X12_isMap_1 l adK adV dC dI cy ad B (by omega) (by omega) qr s1   a1 w0 s.heap.size hT ) (cwV 1 hC.2.2.2.2 uV_RX12_342 rfl rfl rfl (by decide +kernel) ⟨Nat.le_of_ble_eq_true rfl, Nat.le_of_ble_eq_true rfl⟩) rfl hl.1 rfl (Nat.le_of_ble_eq_true rfl) dX12_shown_2 (fun r1 w3 H locs hp2 hw => ?_)
  obtain ⟨rfl, hv10, hg9⟩ := hp2
  rcases hg9 with rfl | ⟨rfl, g5, g6, ⟨x7, c8, rx7, tx7⟩⟩
  · replace hM := hM.call (r' := 0) hv10 (by decide)
    refine lv_if_eq (tgt := 34) hx hb dX12_shown_5 (by decide) (fun _ => ?_) (fun c => absurd (by decide) c)
    replace hM := hM.pos (by decide)
    exact J34  H locs ls    hw  hM (lv_sub hl [0, 1, 2] rfl)
  · replace hM := hM.call (r' := 1) hv10 (by decide)
    refine lv_if_eq (tgt := 34) hx hb dX12_shown_5 (by decide) (fun c => absurd c (by decide)) (fun _ => ?_)
    replace hM := hM.neg (by decide)
    refine lv_aload_n hx hb dX12_shown_8 rfl (lv_at hl 0 rfl) ?_
    refine lv_iload_n hx hb dX12_shown_9 rfl (lv_at hl 2 rfl) ?_
    refine tk_Vi hC hK hw hT hA hE hSR kM_at0 (by decide) rfl (kz_X12_isStreet_1 l adK adV dC dI cy ad B (by omega) (by omega) qr s1   a2 w0 H.size hT ) (cwV 1 hC.2.2.2.2 uV_RX12_323 rfl rfl rfl (by decide +kernel) ⟨Nat.le_of_ble_eq_true rfl, Nat.le_of_ble_eq_true rfl⟩) rfl hl.1 rfl (Nat.le_of_ble_eq_true rfl) dX12_shown_10 (fun r11 w13 H locs hp12 hw => ?_)
    obtain ⟨rfl, hv20, hg19⟩ := hp12
    rcases hg19 with rfl | ⟨rfl, g15, g16, ⟨x17, c18, rx17, tx17⟩⟩
    · replace hM := hM.call (r' := 0) hv20 (by decide)
      refine lv_if_eq (tgt := 34) hx hb dX12_shown_13 (by decide) (fun _ => ?_) (fun c => absurd (by decide) c)
      replace hM := hM.pos (by decide)
      exact J34  H locs ls    hw  hM (lv_sub hl [0, 1, 2] rfl)
    · replace hM := hM.call (r' := 1) hv20 (by decide)
      refine lv_if_eq (tgt := 34) hx hb dX12_shown_13 (by decide) (fun c => absurd c (by decide)) (fun _ => ?_)
      replace hM := hM.neg (by decide)
      refine lv_aload_n hx hb dX12_shown_16 rfl (lv_at hl 0 rfl) ?_
      refine tk_getA hC hK hw hT hinX12 kM_at0 (by decide) rfl 26 (by decide) (List.mem_cons_of_mem _ uw_7_1) rfl rfl dX12_shown_17 ?_
      refine lv_sipush (v := 168) hx hb dX12_shown_20 (by decide) ?_
      refine lv_bipush (v := 12) hx hb dX12_shown_23 (by decide) ?_
      refine lv_iload_n hx hb dX12_shown_25 rfl (lv_at hl 1 rfl) ?_
      refine lv_imul hx hb dX12_shown_26 ?_
      refine lv_topi (fun x21 ex21 => ?_)
      have ezx21 := ex21
      have ex21 : x21.toInt = (12 : Int) * a1.toInt := by rw [ex21]; exact wk_mul (show (-2147483648) ≤ (12 : Int) * a1.toInt by omega) (show (12 : Int) * a1.toInt ≤ 2147483647 by omega)
      replace hM := hM.lt ex21.symm
      refine lv_iadd hx hb dX12_shown_27 ?_
      refine lv_topi (fun x22 ex22 => ?_)
      have ezx22 := ex22
      have ex22 : x22.toInt = (168 : Int) + x21.toInt := by rw [ex22]; exact wk_add (show (-2147483648) ≤ (168 : Int) + x21.toInt by omega) (show (168 : Int) + x21.toInt ≤ 2147483647 by omega)
      replace hM := hM.lt ex22.symm
      refine lv_iload_n hx hb dX12_shown_28 rfl (lv_at hl 2 rfl) ?_
      refine lv_iadd hx hb dX12_shown_29 ?_
      refine lv_topi (fun x23 ex23 => ?_)
      have ezx23 := ex23
      have ex23 : x23.toInt = x22.toInt + a2.toInt := by rw [ex23]; exact wk_add (show (-2147483648) ≤ x22.toInt + a2.toInt by omega) (show x22.toInt + a2.toInt ≤ 2147483647 by omega)
      replace hM := hM.lt ex23.symm
      refine tk_ialdR hC hK hw hT kM_at12 rfl (show 0 ≤ x23.toInt by omega) (show x23.toInt < 296 by omega) dX12_shown_30 (fun x24 c25 Ex24 => ?_)
      have hox24 := c25
      have c25 : gi w0 12 (12 * a1.toInt + 1 * a2.toInt + 168).toNat = x24 := (congrArg (gi w0 12) (congrArg Int.toNat (show 12 * a1.toInt + 1 * a2.toInt + 168 = x23.toInt by omega))).trans c25
      replace hM := hM.rd (sI_at hox24)
      refine lv_goto (tgt := 35) hx hb dX12_shown_31 (by decide) ?_
      exact tk_iret hC hr hlocks hK ⟨rfl, hM.ret rfl, (Or.inl ⟨(show 0 ≤ a1.toInt by omega), (show a1.toInt ≤ 3 by omega), (show 0 ≤ a2.toInt by omega), (show a2.toInt ≤ 11 by omega), ⟨x17, c18, (show 1 ≤ x17.toInt by omega), (show x17.toInt ≤ 12 by omega)⟩, ⟨x7, c8, (show 1 ≤ x7.toInt by omega), (show x7.toInt ≤ 4 by omega)⟩⟩)⟩ hw dX12_shown_35
abbrev Pz_X12_isCorner_1 (ad : Nat → Nat) (cy : Nat → ClassId) (B : Int) (qr : Nat) (s1 : Int) (a1 : Int32) (w0 : va_W) : Int32 → va_W → Prop := fun r u => w0 = u ∧ Ev (fun n => m_X12_isCorner n 0 a1.toInt (sI w0)) (r.toInt, sI w0) ∧ ((r = 0) ∨ (r = 1 ∧ 0 ≤ a1.toInt ∧ a1.toInt ≤ 9 ∧ (∃ y : Int32, gi u 12 0 = y ∧ 1 ≤ y.toInt ∧ y.toInt ≤ 10)))
set_option maxHeartbeats 4000000 in
set_option maxRecDepth 100000 in
theorem kz_X12_isCorner_1 (l : Launch) (adK adV : Nat → Nat) (dC : Nat → ClassId) (dI : Nat → Nat → Nat) (cy : Nat → ClassId) (ad : Nat → Nat) (B : Int) (hB0 : 100000 ≤ B) (hB1 : B ≤ 1073741824) (qr : Nat) (s1 : Int)  (a1 : Int32) (w0 : va_W) (sz : Nat) (hT : TW ksM ad cy B qr 12 w0)  : Met l yX12_isCorner (wu yX12_isCorner cX12_isCorner 2 (some .boolean)) ({ frames := 1, cells := 0, slots := 0, locals := 12 }) (va_Pc [.ref (ad 0), .int a1] (wpreS adK adV dC dI cy sz w0)) (va_Qi (Pz_X12_isCorner_1 ad cy B qr s1 a1 w0) (fun u : va_W => wpost dC dI cy (va_A w0 sz) u) (va_A w0 sz)) 0 0 (va_A w0 sz) := by
  refine Met.ofW (cc := cX12_isCorner) (maxL := 2) (ret := (some .boolean)) (by decide) rfl ?_
  intro p e s m args below meth c s₁ Bk hml hv
  obtain ⟨rfl, ⟨hsz, hP, hK, hD0⟩, hE, hSR⟩ := hv
  have hx := Bk.exec
  have hb := Bk.bytes
  have hr := Bk.returns
  have hlocks := Bk.notSynchronized
  have hC : CallFix p m c cX12_isCorner 2 s _ (wu yX12_isCorner cX12_isCorner 2 (some .boolean)) RX12 := ⟨hx, hb, hml, findClass_of_methodNamed Bk.named, atoms_spec (ws := (wu yX12_isCorner cX12_isCorner 2 (some .boolean))) Bk.pre⟩
  subst hsz
  have hD := hD0.self (sz := s.heap.size)
  generalize hAe : va_A w0 s.heap.size = A at hD hE ⊢
  have hA : ∀ q : Nat, s.heap.size ≤ q → A q := fun q h => by rw [← hAe]; exact Or.inr h
  have hw : Wd dC dI A s.heap s.heap [] w0 := ⟨hP, hD, va_S.rf⟩
  have hF : FE ksM ([] : List (Nat × Nat × Nat)) w0 w0 := FE.rf
  have hl := lv_entry ([.ref (ad 0), .int a1]) (n := 2) (Nat.le_of_ble_eq_true rfl)
  rw [lg_entry_eq]
  generalize (lg_sl ([.ref (ad 0), .int a1]) ++ List.replicate (2 - (lg_sl ([.ref (ad 0), .int a1])).length) Slot.unset).toArray = ls at hl ⊢
  have hl : lv_has ls 2 [(0, .ref (ad 0)), (1, .int a1)] := hl
  generalize hloc : ([] : List Loc) = locs at hw ⊢
  have hinX12 : ∀ w ∈ u_ws RX12 TX12 42, w ∈ (wu yX12_isCorner cX12_isCorner 2 (some .boolean)) := fun _ h => List.mem_cons_of_mem _ (up_71 h)
  have J18 : ∀ (H : Heap) (locs : List Loc) (ls : Array Slot), Wd dC dI A s.heap H locs w0 → TT (fun n => m_X12_isCorner n 0 a1.toInt (sI w0)) (fun n => b_X12_isCorner_18 n 0 (sI w0)) → lv_has ls 2 [(0, .ref (ad 0)), (1, .int a1)] → W p l e ({ frames := 1, cells := 0, slots := 0, locals := 12 }) s m (List.toArray [.ref (ad 0), .int a1]) below meth c H locs 0 0 (MQ below (va_Qi (Pz_X12_isCorner_1 ad cy B qr s1 a1 w0) (fun u : va_W => wpost dC dI cy A u) A) (List.toArray [.ref (ad 0), .int a1]) s 0 0 A) (F0 m 18 ls []) := by
    intro H locs ls hw hM hl
    refine lv_iconst (v := 0) hx hb dX12_isCorner_18 (by decide) ?_
    exact tk_zret hC hr rfl hlocks hK ⟨rfl, hM.ret (by decide), (Or.inl rfl)⟩ hw dX12_isCorner_19
  have hM : TT (fun n => m_X12_isCorner n 0 a1.toInt (sI w0)) (fun n => m_X12_isCorner n 0 a1.toInt (sI w0)) := TT.rf
  refine lv_iload_n hx hb dX12_isCorner_0 rfl (lv_at hl 1 rfl) ?_
  refine lv_if_lt (tgt := 18) hx hb dX12_isCorner_1 (by decide) (fun c1 => ?_) (fun c1 => ?_)
  · have c1 : a1.toInt < (0 : Int) := wk_lt.mp c1
    replace hM := hM.pos c1
    exact J18  s.heap locs ls    hw  hM (lv_sub hl [0, 1] rfl)
  · have c1 : (0 : Int) ≤ a1.toInt := wk_ltF c1
    replace hM := hM.neg (Int.not_lt.mpr c1)
    refine lv_iload_n hx hb dX12_isCorner_4 rfl (lv_at hl 1 rfl) ?_
    refine lv_aload_n hx hb dX12_isCorner_5 rfl (lv_at hl 0 rfl) ?_
    refine tk_getA hC hK hw hT hinX12 kM_at0 (by decide) rfl 26 (by decide) (List.mem_cons_of_mem _ uw_7_1) rfl rfl dX12_isCorner_6 ?_
    refine lv_iconst (v := 0) hx hb dX12_isCorner_9 (by decide) ?_
    refine tk_ialdR hC hK hw hT kM_at12 rfl (by decide) (by decide) dX12_isCorner_10 (fun x2 c3 Ex2 => ?_)
    have hox2 := c3
    replace hM := hM.rd (sI_at hox2)
    have bx2 := tk_rgI rfl 0 1 1 0 10 (by decide +kernel) ⟨0, by decide, by decide⟩ Ex2
    have c3 : gi w0 12 0 = x2 := c3
    refine lv_icmp_ge (tgt := 18) hx hb dX12_isCorner_11 (by decide) (fun c4 => ?_) (fun c4 => ?_)
    · have c4 : x2.toInt ≤ a1.toInt := wk_le.mp c4
      replace hM := hM.pos c4
      exact J18  s.heap locs ls    hw  hM (lv_sub hl [0, 1] rfl)
    · have c4 : a1.toInt < x2.toInt := wk_leF c4
      replace hM := hM.neg (Int.not_le.mpr c4)
      refine lv_iconst (v := 1) hx hb dX12_isCorner_14 (by decide) ?_
      refine lv_goto (tgt := 19) hx hb dX12_isCorner_15 (by decide) ?_
      exact tk_zret hC hr rfl hlocks hK ⟨rfl, hM.ret (by decide), (Or.inr ⟨rfl, (show 0 ≤ a1.toInt by omega), (show a1.toInt ≤ 9 by omega), ⟨x2, c3, (show 1 ≤ x2.toInt by omega), (show x2.toInt ≤ 10 by omega)⟩⟩)⟩ hw dX12_isCorner_19
abbrev Pz_X12_errand_1 (ad : Nat → Nat) (cy : Nat → ClassId) (B : Int) (qr : Nat) (s1 : Int) (a1 : Int32) (a2 : Int32) (w0 : va_W) : Int32 → va_W → Prop := fun r u => TW ksM ad cy B qr 12 u ∧ FE ksM [(71, 6, 6), (71, 252, 262), (71, 253, 263)] w0 u ∧ Ev (fun n => m_X12_errand n 0 a1.toInt a2.toInt (sI w0)) (r.toInt, sI u) ∧ ((r = (-2)) ∨ (0 ≤ r.toInt ∧ r.toInt ≤ 6 ∧ (-1) ≤ a1.toInt ∧ a1.toInt ≤ 9 ∧ (∃ y : Int32, gi u 12 6 = y ∧ 0 ≤ y.toInt ∧ y.toInt ≤ 6)))
set_option maxHeartbeats 4000000 in
set_option maxRecDepth 100000 in
theorem kz_X12_errand_1 (l : Launch) (adK adV : Nat → Nat) (dC : Nat → ClassId) (dI : Nat → Nat → Nat) (cy : Nat → ClassId) (ad : Nat → Nat) (B : Int) (hB0 : 100000 ≤ B) (hB1 : B ≤ 1073741824) (qr : Nat) (s1 : Int)  (a1 : Int32) (a2 : Int32) (w0 : va_W) (sz : Nat) (hT : TW ksM ad cy B qr 12 w0)  : Met l yX12_errand (wu yX12_errand cX12_errand 3 (some .int)) ({ frames := 2, cells := 0, slots := 0, locals := 33 }) (va_Pc [.ref (ad 0), .int a1, .int a2] (wpreS adK adV dC dI cy sz w0)) (va_Qi (Pz_X12_errand_1 ad cy B qr s1 a1 a2 w0) (fun u : va_W => wpost dC dI cy (va_A w0 sz) u) (va_A w0 sz)) 0 0 (va_A w0 sz) := by
  refine Met.ofW (cc := cX12_errand) (maxL := 3) (ret := (some .int)) (by decide) rfl ?_
  intro p e s m args below meth c s₁ Bk hml hv
  obtain ⟨rfl, ⟨hsz, hP, hK, hD0⟩, hE, hSR⟩ := hv
  have hx := Bk.exec
  have hb := Bk.bytes
  have hr := Bk.returns
  have hlocks := Bk.notSynchronized
  have hC : CallFix p m c cX12_errand 3 s _ (wu yX12_errand cX12_errand 3 (some .int)) RX12 := ⟨hx, hb, hml, findClass_of_methodNamed Bk.named, atoms_spec (ws := (wu yX12_errand cX12_errand 3 (some .int))) Bk.pre⟩
  subst hsz
  have hD := hD0.self (sz := s.heap.size)
  generalize hAe : va_A w0 s.heap.size = A at hD hE ⊢
  have hA : ∀ q : Nat, s.heap.size ≤ q → A q := fun q h => by rw [← hAe]; exact Or.inr h
  have hw : Wd dC dI A s.heap s.heap [] w0 := ⟨hP, hD, va_S.rf⟩
  have hF : FE ksM [(71, 6, 6), (71, 252, 262), (71, 253, 263)] w0 w0 := FE.rf
  have hl := lv_entry ([.ref (ad 0), .int a1, .int a2]) (n := 3) (Nat.le_of_ble_eq_true rfl)
  rw [lg_entry_eq]
  generalize (lg_sl ([.ref (ad 0), .int a1, .int a2]) ++ List.replicate (3 - (lg_sl ([.ref (ad 0), .int a1, .int a2])).length) Slot.unset).toArray = ls at hl ⊢
  have hl : lv_has ls 3 [(0, .ref (ad 0)), (1, .int a1), (2, .int a2)] := hl
  generalize hloc : ([] : List Loc) = locs at hw ⊢
  have hinX12 : ∀ w ∈ u_ws RX12 TX12 42, w ∈ (wu yX12_errand cX12_errand 3 (some .int)) := fun _ h => List.mem_cons_of_mem _ (up_71 h)
  have J48 : ∀ (H : Heap) (locs : List Loc) (ls : Array Slot) (w1 : va_W), Wd dC dI A s.heap H locs w1 → TW ksM ad cy B qr 12 w1 → FE ksM [(71, 6, 6), (71, 252, 262), (71, 253, 263)] w0 w1 → TT (fun n => m_X12_errand n 0 a1.toInt a2.toInt (sI w0)) (fun n => b_X12_errand_48 n 0 (sI w1)) → lv_has ls 3 [(0, .ref (ad 0)), (1, .int a1), (2, .int a2)] → W p l e ({ frames := 2, cells := 0, slots := 0, locals := 33 }) s m (List.toArray [.ref (ad 0), .int a1, .int a2]) below meth c H locs 0 0 (MQ below (va_Qi (Pz_X12_errand_1 ad cy B qr s1 a1 a2 w0) (fun u : va_W => wpost dC dI cy A u) A) (List.toArray [.ref (ad 0), .int a1, .int a2]) s 0 0 A) (F0 m 48 ls []) := by
    intro H locs ls w1 hw hT hF hM hl
    refine lv_bipush (v := (-2)) hx hb dX12_errand_48 (by decide) ?_
    exact tk_iret hC hr hlocks hK ⟨hT, hF, hM.ret (by decide), (Or.inl rfl)⟩ hw dX12_errand_50
  have hM : TT (fun n => m_X12_errand n 0 a1.toInt a2.toInt (sI w0)) (fun n => m_X12_errand n 0 a1.toInt a2.toInt (sI w0)) := TT.rf
  refine lv_iload_n hx hb dX12_errand_0 rfl (lv_at hl 1 rfl) ?_
  refine lv_iconst (v := (-1)) hx hb dX12_errand_1 (by decide) ?_
  refine lv_icmp_ne (tgt := 15) hx hb dX12_errand_2 (by decide) (fun c2 => ?_) (fun c2 => ?_)
  · have c2 : ¬ a1.toInt = (-1 : Int) := wk_eqF c2
    replace hM := hM.pos c2
    refine lv_aload_n hx hb dX12_errand_15 rfl (lv_at hl 0 rfl) ?_
    refine lv_iload_n hx hb dX12_errand_16 rfl (lv_at hl 1 rfl) ?_
    refine tk_Vi hC hK hw hT hA hE hSR kM_at0 (by decide) rfl (kz_X12_isCorner_1 l adK adV dC dI cy ad B (by omega) (by omega) qr s1   a1 w0 s.heap.size hT ) (cwV 1 hC.2.2.2.2 uV_RX12_328 rfl rfl rfl (by decide +kernel) ⟨Nat.le_of_ble_eq_true rfl, Nat.le_of_ble_eq_true rfl⟩) rfl hl.1 rfl (Nat.le_of_ble_eq_true rfl) dX12_errand_17 (fun r3 w5 H locs hp4 hw => ?_)
    obtain ⟨rfl, hv12, hg11⟩ := hp4
    rcases hg11 with rfl | ⟨rfl, g7, g8, ⟨x9, c10, rx9, tx9⟩⟩
    · replace hM := hM.call (r' := 0) hv12 (by decide)
      refine lv_if_eq (tgt := 48) hx hb dX12_errand_20 (by decide) (fun _ => ?_) (fun c => absurd (by decide) c)
      replace hM := hM.pos (by decide)
      exact J48  H locs ls w0   hw hT hF hM (lv_sub hl [0, 1, 2] rfl)
    · replace hM := hM.call (r' := 1) hv12 (by decide)
      refine lv_if_eq (tgt := 48) hx hb dX12_errand_20 (by decide) (fun c => absurd c (by decide)) (fun _ => ?_)
      replace hM := hM.neg (by decide)
      refine lv_aload_n hx hb dX12_errand_23 rfl (lv_at hl 0 rfl) ?_
      refine lv_iload_n hx hb dX12_errand_24 rfl (lv_at hl 2 rfl) ?_
      refine tk_Vi hC hK hw hT hA hE hSR kM_at0 (by decide) rfl (kz_X12_isCorner_1 l adK adV dC dI cy ad B (by omega) (by omega) qr s1   a2 w0 H.size hT ) (cwV 1 hC.2.2.2.2 uV_RX12_328 rfl rfl rfl (by decide +kernel) ⟨Nat.le_of_ble_eq_true rfl, Nat.le_of_ble_eq_true rfl⟩) rfl hl.1 rfl (Nat.le_of_ble_eq_true rfl) dX12_errand_25 (fun r13 w15 H locs hp14 hw => ?_)
      obtain ⟨rfl, hv22, hg21⟩ := hp14
      rcases hg21 with rfl | ⟨rfl, g17, g18, ⟨x19, c20, rx19, tx19⟩⟩
      · replace hM := hM.call (r' := 0) hv22 (by decide)
        refine lv_if_eq (tgt := 48) hx hb dX12_errand_28 (by decide) (fun _ => ?_) (fun c => absurd (by decide) c)
        replace hM := hM.pos (by decide)
        exact J48  H locs ls w0   hw hT hF hM (lv_sub hl [0, 1, 2] rfl)
      · replace hM := hM.call (r' := 1) hv22 (by decide)
        have ex19 : x19.toInt = x9.toInt := by rw [← c10.symm.trans c20]
        refine lv_if_eq (tgt := 48) hx hb dX12_errand_28 (by decide) (fun c => absurd c (by decide)) (fun _ => ?_)
        replace hM := hM.neg (by decide)
        refine lv_iload_n hx hb dX12_errand_31 rfl (lv_at hl 1 rfl) ?_
        refine lv_iload_n hx hb dX12_errand_32 rfl (lv_at hl 2 rfl) ?_
        refine lv_icmp_eq (tgt := 48) hx hb dX12_errand_33 (by decide) (fun c23 => ?_) (fun c23 => ?_)
        · have c23 : a1.toInt = a2.toInt := wk_eq.mp c23
          replace hM := hM.pos c23
          exact J48  H locs ls w0   hw hT hF hM (lv_sub hl [0, 1, 2] rfl)
        · have c23 : ¬ a1.toInt = a2.toInt := wk_eqF c23
          replace hM := hM.neg c23
          refine lv_aload_n hx hb dX12_errand_36 rfl (lv_at hl 0 rfl) ?_
          refine tk_getA hC hK hw hT hinX12 kM_at0 (by decide) rfl 26 (by decide) (List.mem_cons_of_mem _ uw_7_1) rfl rfl dX12_errand_37 ?_
          refine lv_bipush (v := 6) hx hb dX12_errand_40 (by decide) ?_
          refine tk_ialdR hC hK hw hT kM_at12 rfl (by decide) (by decide) dX12_errand_42 (fun x24 c25 Ex24 => ?_)
          have hox24 := c25
          replace hM := hM.rd (sI_at hox24)
          have bx24 := tk_rgI rfl 6 1 1 0 6 (by decide +kernel) ⟨0, by decide, by decide⟩ Ex24
          have c25 : gi w0 12 6 = x24 := c25
          refine lv_bipush (v := 6) hx hb dX12_errand_43 (by decide) ?_
          refine lv_icmp_ne (tgt := 51) hx hb dX12_errand_45 (by decide) (fun c26 => ?_) (fun c26 => ?_)
          · have c26 : ¬ x24.toInt = (6 : Int) := wk_eqF c26
            replace hM := hM.pos c26
            refine lv_aload_n hx hb dX12_errand_51 rfl (lv_at hl 0 rfl) ?_
            refine tk_getA hC hK hw hT hinX12 kM_at0 (by decide) rfl 26 (by decide) (List.mem_cons_of_mem _ uw_7_1) rfl rfl dX12_errand_52 ?_
            refine lv_sipush (v := 252) hx hb dX12_errand_55 (by decide) ?_
            refine lv_iconst (v := 2) hx hb dX12_errand_58 (by decide) ?_
            refine lv_aload_n hx hb dX12_errand_59 rfl (lv_at hl 0 rfl) ?_
            refine tk_getA hC hK hw hT hinX12 kM_at0 (by decide) rfl 26 (by decide) (List.mem_cons_of_mem _ uw_7_1) rfl rfl dX12_errand_60 ?_
            refine lv_bipush (v := 6) hx hb dX12_errand_63 (by decide) ?_
            refine tk_ialdR hC hK hw hT kM_at12 rfl (by decide) (by decide) dX12_errand_65 (fun x27 c28 Ex27 => ?_)
            have hox27 := c28
            refine wk_top x24 (c28.symm.trans c25) ?_
            replace hM := hM.rd ((sI_at hox27).trans (congrArg Int32.toInt (c28.symm.trans c25)))
            refine lv_imul hx hb dX12_errand_66 ?_
            refine lv_topi (fun x29 ex29 => ?_)
            have ezx29 := ex29
            have ex29 : x29.toInt = (2 : Int) * x24.toInt := by rw [ex29]; exact wk_mul (show (-2147483648) ≤ (2 : Int) * x24.toInt by omega) (show (2 : Int) * x24.toInt ≤ 2147483647 by omega)
            replace hM := hM.lt ex29.symm
            refine lv_iadd hx hb dX12_errand_67 ?_
            refine lv_topi (fun x30 ex30 => ?_)
            have ezx30 := ex30
            have ex30 : x30.toInt = (252 : Int) + x29.toInt := by rw [ex30]; exact wk_add (show (-2147483648) ≤ (252 : Int) + x29.toInt by omega) (show (252 : Int) + x29.toInt ≤ 2147483647 by omega)
            replace hM := hM.lt ex30.symm
            refine lv_iload_n hx hb dX12_errand_68 rfl (lv_at hl 1 rfl) ?_
            refine tk_iastR hC hK hw hT kM_at12 (by decide) rfl (show 0 ≤ x30.toInt by omega) (show x30.toInt < 296 by omega) (tk_rgS rfl 252 2 6 0 9 (by decide +kernel) ⟨(x24.toInt - 0).toNat, by omega, show x30.toInt.toNat = 252 + 2 * (x24.toInt - 0).toNat by omega⟩ (show 0 ≤ a1.toInt by omega) (show a1.toInt ≤ 9 by omega)) dX12_errand_69 (fun H locs w31 hw hT k33 c32 => ?_)
            replace hM := hM.wr (sI_up k33 c32)
            have hF := hF.put kM_at12 (inE_of (a := 252) (b := 262) (by decide) (show 252 ≤ x30.toInt.toNat by omega) (show x30.toInt.toNat ≤ 262 by omega)) k33
            have c34 := k33.gi (Or.inr (show 0 ≠ x30.toInt.toNat by omega)) c10
            have c35 := k33.gi (Or.inr (show 6 ≠ x30.toInt.toNat by omega)) c25
            refine lv_aload_n hx hb dX12_errand_70 rfl (lv_at hl 0 rfl) ?_
            refine tk_getA hC hK hw hT hinX12 kM_at0 (by decide) rfl 26 (by decide) (List.mem_cons_of_mem _ uw_7_1) rfl rfl dX12_errand_71 ?_
            refine lv_sipush (v := 252) hx hb dX12_errand_74 (by decide) ?_
            refine lv_iconst (v := 2) hx hb dX12_errand_77 (by decide) ?_
            refine lv_aload_n hx hb dX12_errand_78 rfl (lv_at hl 0 rfl) ?_
            refine tk_getA hC hK hw hT hinX12 kM_at0 (by decide) rfl 26 (by decide) (List.mem_cons_of_mem _ uw_7_1) rfl rfl dX12_errand_79 ?_
            refine lv_bipush (v := 6) hx hb dX12_errand_82 (by decide) ?_
            refine tk_ialdR hC hK hw hT kM_at12 rfl (by decide) (by decide) dX12_errand_84 (fun x36 c37 Ex36 => ?_)
            have hox36 := c37
            refine wk_top x24 (c37.symm.trans c35) ?_
            replace hM := hM.rd ((sI_at hox36).trans (congrArg Int32.toInt (c37.symm.trans c35)))
            refine lv_imul hx hb dX12_errand_85 ?_
            refine lv_topi (fun x38 ex38 => ?_)
            have ezx38 := ex38
            have ex38 : x38.toInt = (2 : Int) * x24.toInt := by rw [ex38]; exact wk_mul (show (-2147483648) ≤ (2 : Int) * x24.toInt by omega) (show (2 : Int) * x24.toInt ≤ 2147483647 by omega)
            replace hM := hM.lt ex38.symm
            refine lv_iadd hx hb dX12_errand_86 ?_
            refine lv_topi (fun x39 ex39 => ?_)
            have ezx39 := ex39
            have ex39 : x39.toInt = (252 : Int) + x38.toInt := by rw [ex39]; exact wk_add (show (-2147483648) ≤ (252 : Int) + x38.toInt by omega) (show (252 : Int) + x38.toInt ≤ 2147483647 by omega)
            replace hM := hM.lt ex39.symm
            refine lv_iconst (v := 1) hx hb dX12_errand_87 (by decide) ?_
            refine lv_iadd hx hb dX12_errand_88 ?_
            refine lv_topi (fun x40 ex40 => ?_)
            have ezx40 := ex40
            have ex40 : x40.toInt = x39.toInt + (1 : Int) := by rw [ex40]; exact wk_add (show (-2147483648) ≤ x39.toInt + (1 : Int) by omega) (show x39.toInt + (1 : Int) ≤ 2147483647 by omega)
            replace hM := hM.lt ex40.symm
            refine lv_iload_n hx hb dX12_errand_89 rfl (lv_at hl 2 rfl) ?_
            refine tk_iastR hC hK hw hT kM_at12 (by decide) rfl (show 0 ≤ x40.toInt by omega) (show x40.toInt < 296 by omega) (tk_rgS rfl 253 2 6 0 9 (by decide +kernel) ⟨(x24.toInt - 0).toNat, by omega, show x40.toInt.toNat = 253 + 2 * (x24.toInt - 0).toNat by omega⟩ (show 0 ≤ a2.toInt by omega) (show a2.toInt ≤ 9 by omega)) dX12_errand_90 (fun H locs w41 hw hT k43 c42 => ?_)
            replace hM := hM.wr (sI_up k43 c42)
            have hF := hF.put kM_at12 (inE_of (a := 253) (b := 263) (by decide) (show 253 ≤ x40.toInt.toNat by omega) (show x40.toInt.toNat ≤ 263 by omega)) k43
            have c44 := k43.gi (Or.inr (show 0 ≠ x40.toInt.toNat by omega)) c34
            have c45 := k43.gi (Or.inr (show 6 ≠ x40.toInt.toNat by omega)) c35
            refine lv_aload_n hx hb dX12_errand_91 rfl (lv_at hl 0 rfl) ?_
            refine tk_getA hC hK hw hT hinX12 kM_at0 (by decide) rfl 26 (by decide) (List.mem_cons_of_mem _ uw_7_1) rfl rfl dX12_errand_92 ?_
            refine lv_bipush (v := 6) hx hb dX12_errand_95 (by decide) ?_
            refine lv_dup2_11 hx hb dX12_errand_97 rfl rfl ?_
            refine tk_ialdR hC hK hw hT kM_at12 rfl (by decide) (by decide) dX12_errand_98 (fun x46 c47 Ex46 => ?_)
            have hox46 := c47
            refine wk_top x24 (c47.symm.trans c45) ?_
            replace hM := hM.rd ((sI_at hox46).trans (congrArg Int32.toInt (c47.symm.trans c45)))
            refine lv_iconst (v := 1) hx hb dX12_errand_99 (by decide) ?_
            refine lv_iadd hx hb dX12_errand_100 ?_
            refine lv_topi (fun x48 ex48 => ?_)
            have ezx48 := ex48
            have ex48 : x48.toInt = x24.toInt + (1 : Int) := by rw [ex48]; exact wk_add (show (-2147483648) ≤ x24.toInt + (1 : Int) by omega) (show x24.toInt + (1 : Int) ≤ 2147483647 by omega)
            replace hM := hM.lt ex48.symm
            refine tk_iastR hC hK hw hT kM_at12 (by decide) rfl (by decide) (by decide) (tk_rgS rfl 6 1 1 1 6 (by decide +kernel) ⟨0, by decide, by decide⟩ (show 1 ≤ x48.toInt by omega) (show x48.toInt ≤ 6 by omega)) dX12_errand_101 (fun H locs w49 hw hT k51 c50 => ?_)
            replace hM := hM.wr (sI_up k51 c50)
            have hF := hF.put kM_at12 (inE_of (a := 6) (b := 6) (by decide) (by decide) (by decide)) k51
            have c52 := k51.gi (Or.inr (by decide)) c44
            have c50 : gi w49 12 6 = x48 := c50
            refine lv_aload_n hx hb dX12_errand_102 rfl (lv_at hl 0 rfl) ?_
            refine tk_getA hC hK hw hT hinX12 kM_at0 (by decide) rfl 26 (by decide) (List.mem_cons_of_mem _ uw_7_1) rfl rfl dX12_errand_103 ?_
            refine lv_bipush (v := 6) hx hb dX12_errand_106 (by decide) ?_
            refine tk_ialdR hC hK hw hT kM_at12 rfl (by decide) (by decide) dX12_errand_108 (fun x53 c54 Ex53 => ?_)
            have hox53 := c54
            refine wk_top x48 (c54.symm.trans c50) ?_
            replace hM := hM.rd ((sI_at hox53).trans (congrArg Int32.toInt (c54.symm.trans c50)))
            exact tk_iret hC hr hlocks hK ⟨hT, hF, hM.ret rfl, (Or.inr ⟨(show 0 ≤ x48.toInt by omega), (show x48.toInt ≤ 6 by omega), (show (-1) ≤ a1.toInt by omega), (show a1.toInt ≤ 9 by omega), ⟨x48, c50, (show 0 ≤ x48.toInt by omega), (show x48.toInt ≤ 6 by omega)⟩⟩)⟩ hw dX12_errand_109
          · have c26 : x24.toInt = (6 : Int) := wk_eq.mp c26
            replace hM := hM.neg (fun q => q c26)
            exact J48  H locs ls w0   hw hT hF hM (lv_sub hl [0, 1, 2] rfl)
  · have c2 : a1.toInt = (-1 : Int) := wk_eq.mp c2
    replace hM := hM.neg (fun q => q c2)
    refine lv_aload_n hx hb dX12_errand_5 rfl (lv_at hl 0 rfl) ?_
    refine tk_getA hC hK hw hT hinX12 kM_at0 (by decide) rfl 26 (by decide) (List.mem_cons_of_mem _ uw_7_1) rfl rfl dX12_errand_6 ?_
    refine lv_bipush (v := 6) hx hb dX12_errand_9 (by decide) ?_
    refine lv_iconst (v := 0) hx hb dX12_errand_11 (by decide) ?_
    refine tk_iastR hC hK hw hT kM_at12 (by decide) rfl (by decide) (by decide) (tk_rg0 rfl (show 0 ≤ B from Int.le_trans (by decide) hB0) (by decide)) dX12_errand_12 (fun H locs w55 hw hT k57 c56 => ?_)
    replace hM := hM.wr (sI_upc k57 c56 (by decide))
    have hF := hF.put kM_at12 (inE_of (a := 6) (b := 6) (by decide) (by decide) (by decide)) k57
    have c56 : gi w55 12 6 = 0 := c56
    refine lv_iconst (v := 0) hx hb dX12_errand_13 (by decide) ?_
    exact tk_iret hC hr hlocks hK ⟨hT, hF, hM.ret (by decide), (Or.inr ⟨(by decide), (by decide), (show (-1) ≤ a1.toInt by omega), (show a1.toInt ≤ 9 by omega), ⟨0, c56, (by decide), (by decide)⟩⟩)⟩ hw dX12_errand_14
abbrev Pz_X12_sight_1 (ad : Nat → Nat) (cy : Nat → ClassId) (B : Int) (qr : Nat) (s1 : Int) (a1 : Int32) (a2 : Int32) (w0 : va_W) : Int32 → va_W → Prop := fun r u => TW ksM ad cy B qr 12 u ∧ FE ksM [(71, 7, 7), (71, 264, 286), (71, 265, 287)] w0 u ∧ Ev (fun n => m_X12_sight n 0 a1.toInt a2.toInt (sI w0)) (r.toInt, sI u) ∧ ((r = (-2)) ∨ (0 ≤ r.toInt ∧ r.toInt ≤ 12 ∧ (-1) ≤ a1.toInt ∧ a1.toInt ≤ 11 ∧ (∃ y : Int32, gi u 12 7 = y ∧ 0 ≤ y.toInt ∧ y.toInt ≤ 12)))
set_option maxHeartbeats 4000000 in
set_option maxRecDepth 100000 in
theorem kz_X12_sight_1 (l : Launch) (adK adV : Nat → Nat) (dC : Nat → ClassId) (dI : Nat → Nat → Nat) (cy : Nat → ClassId) (ad : Nat → Nat) (B : Int) (hB0 : 100000 ≤ B) (hB1 : B ≤ 1073741824) (qr : Nat) (s1 : Int)  (a1 : Int32) (a2 : Int32) (w0 : va_W) (sz : Nat) (hT : TW ksM ad cy B qr 12 w0)  : Met l yX12_sight (wu yX12_sight cX12_sight 3 (some .int)) ({ frames := 2, cells := 0, slots := 0, locals := 37 }) (va_Pc [.ref (ad 0), .int a1, .int a2] (wpreS adK adV dC dI cy sz w0)) (va_Qi (Pz_X12_sight_1 ad cy B qr s1 a1 a2 w0) (fun u : va_W => wpost dC dI cy (va_A w0 sz) u) (va_A w0 sz)) 0 0 (va_A w0 sz) := by
  refine Met.ofW (cc := cX12_sight) (maxL := 3) (ret := (some .int)) (by decide) rfl ?_
  intro p e s m args below meth c s₁ Bk hml hv
  obtain ⟨rfl, ⟨hsz, hP, hK, hD0⟩, hE, hSR⟩ := hv
  have hx := Bk.exec
  have hb := Bk.bytes
  have hr := Bk.returns
  have hlocks := Bk.notSynchronized
  have hC : CallFix p m c cX12_sight 3 s _ (wu yX12_sight cX12_sight 3 (some .int)) RX12 := ⟨hx, hb, hml, findClass_of_methodNamed Bk.named, atoms_spec (ws := (wu yX12_sight cX12_sight 3 (some .int))) Bk.pre⟩
  subst hsz
  have hD := hD0.self (sz := s.heap.size)
  generalize hAe : va_A w0 s.heap.size = A at hD hE ⊢
  have hA : ∀ q : Nat, s.heap.size ≤ q → A q := fun q h => by rw [← hAe]; exact Or.inr h
  have hw : Wd dC dI A s.heap s.heap [] w0 := ⟨hP, hD, va_S.rf⟩
  have hF : FE ksM [(71, 7, 7), (71, 264, 286), (71, 265, 287)] w0 w0 := FE.rf
  have hl := lv_entry ([.ref (ad 0), .int a1, .int a2]) (n := 3) (Nat.le_of_ble_eq_true rfl)
  rw [lg_entry_eq]
  generalize (lg_sl ([.ref (ad 0), .int a1, .int a2]) ++ List.replicate (3 - (lg_sl ([.ref (ad 0), .int a1, .int a2])).length) Slot.unset).toArray = ls at hl ⊢
  have hl : lv_has ls 3 [(0, .ref (ad 0)), (1, .int a1), (2, .int a2)] := hl
  generalize hloc : ([] : List Loc) = locs at hw ⊢
  have hinX12 : ∀ w ∈ u_ws RX12 TX12 42, w ∈ (wu yX12_sight cX12_sight 3 (some .int)) := fun _ h => List.mem_cons_of_mem _ (up_71 h)
  have J47 : ∀ (H : Heap) (locs : List Loc) (ls : Array Slot) (w1 : va_W), Wd dC dI A s.heap H locs w1 → TW ksM ad cy B qr 12 w1 → FE ksM [(71, 7, 7), (71, 264, 286), (71, 265, 287)] w0 w1 → TT (fun n => m_X12_sight n 0 a1.toInt a2.toInt (sI w0)) (fun n => b_X12_sight_47 n 0 (sI w1)) → lv_has ls 3 [(0, .ref (ad 0)), (1, .int a1), (2, .int a2)] → W p l e ({ frames := 2, cells := 0, slots := 0, locals := 37 }) s m (List.toArray [.ref (ad 0), .int a1, .int a2]) below meth c H locs 0 0 (MQ below (va_Qi (Pz_X12_sight_1 ad cy B qr s1 a1 a2 w0) (fun u : va_W => wpost dC dI cy A u) A) (List.toArray [.ref (ad 0), .int a1, .int a2]) s 0 0 A) (F0 m 47 ls []) := by
    intro H locs ls w1 hw hT hF hM hl
    refine lv_bipush (v := (-2)) hx hb dX12_sight_47 (by decide) ?_
    exact tk_iret hC hr hlocks hK ⟨hT, hF, hM.ret (by decide), (Or.inl rfl)⟩ hw dX12_sight_49
  have hM : TT (fun n => m_X12_sight n 0 a1.toInt a2.toInt (sI w0)) (fun n => m_X12_sight n 0 a1.toInt a2.toInt (sI w0)) := TT.rf
  refine lv_iload_n hx hb dX12_sight_0 rfl (lv_at hl 1 rfl) ?_
  refine lv_iconst (v := (-1)) hx hb dX12_sight_1 (by decide) ?_
  refine lv_icmp_ne (tgt := 15) hx hb dX12_sight_2 (by decide) (fun c2 => ?_) (fun c2 => ?_)
  · have c2 : ¬ a1.toInt = (-1 : Int) := wk_eqF c2
    replace hM := hM.pos c2
    refine lv_aload_n hx hb dX12_sight_15 rfl (lv_at hl 0 rfl) ?_
    refine lv_iload_n hx hb dX12_sight_16 rfl (lv_at hl 1 rfl) ?_
    refine tk_Vi hC hK hw hT hA hE hSR kM_at0 (by decide) rfl (kz_X12_isStreet_1 l adK adV dC dI cy ad B (by omega) (by omega) qr s1   a1 w0 s.heap.size hT ) (cwV 1 hC.2.2.2.2 uV_RX12_323 rfl rfl rfl (by decide +kernel) ⟨Nat.le_of_ble_eq_true rfl, Nat.le_of_ble_eq_true rfl⟩) rfl hl.1 rfl (Nat.le_of_ble_eq_true rfl) dX12_sight_17 (fun r3 w5 H locs hp4 hw => ?_)
    obtain ⟨rfl, hv12, hg11⟩ := hp4
    rcases hg11 with rfl | ⟨rfl, g7, g8, ⟨x9, c10, rx9, tx9⟩⟩
    · replace hM := hM.call (r' := 0) hv12 (by decide)
      refine lv_if_eq (tgt := 47) hx hb dX12_sight_20 (by decide) (fun _ => ?_) (fun c => absurd (by decide) c)
      replace hM := hM.pos (by decide)
      exact J47  H locs ls w0   hw hT hF hM (lv_sub hl [0, 1, 2] rfl)
    · replace hM := hM.call (r' := 1) hv12 (by decide)
      refine lv_if_eq (tgt := 47) hx hb dX12_sight_20 (by decide) (fun c => absurd c (by decide)) (fun _ => ?_)
      replace hM := hM.neg (by decide)
      refine lv_iload_n hx hb dX12_sight_23 rfl (lv_at hl 2 rfl) ?_
      refine lv_i2l hx hb dX12_sight_24 rfl ?_
      refine lv_topl (fun x13 ex13 => ?_)
      have ex13 : x13.toInt = a2.toInt := by rw [ex13]; exact wk_i2l _
      have bx13 := wk_i32 a2
      replace hM := hM.lt ex13.symm
      refine lv_lconst (v := 0) hx hb dX12_sight_25 (by decide) ?_
      refine lv_ldc2 (v := 3) hx hb hC.2.2.2.1 (hC.2.2.2.2 _ (List.mem_cons_of_mem _ uw_35_2)) dX12_sight_26 ?_
      refine tk_Si hC hK hw hT hA hE hSR (kz_X12_in_10 l adK adV dC dI cy ad B (by omega) (by omega) qr s1   x13 (show (-2147483648) ≤ x13.toInt by omega) (show x13.toInt ≤ 2147483647 by omega) w0 H.size hT ) (va_cwS 3 hC.2.2.2.2 uS_RX12_122 rfl rfl rfl (by decide +kernel) ⟨Nat.le_of_ble_eq_true rfl, Nat.le_of_ble_eq_true rfl⟩) rfl hl.1 rfl (Nat.le_of_ble_eq_true rfl) dX12_sight_29 (fun r14 w16 H locs hp15 hw => ?_)
      obtain ⟨rfl, hv21, hg20⟩ := hp15
      rcases hg20 with rfl | ⟨rfl, g18, g19⟩
      · replace hM := hM.call (r' := 0) hv21 (by decide)
        refine lv_if_eq (tgt := 47) hx hb dX12_sight_32 (by decide) (fun _ => ?_) (fun c => absurd (by decide) c)
        replace hM := hM.pos (by decide)
        exact J47  H locs ls w0   hw hT hF hM (lv_sub hl [0, 1, 2] rfl)
      · replace hM := hM.call (r' := 1) hv21 (by decide)
        refine lv_if_eq (tgt := 47) hx hb dX12_sight_32 (by decide) (fun c => absurd c (by decide)) (fun _ => ?_)
        replace hM := hM.neg (by decide)
        refine lv_aload_n hx hb dX12_sight_35 rfl (lv_at hl 0 rfl) ?_
        refine tk_getA hC hK hw hT hinX12 kM_at0 (by decide) rfl 26 (by decide) (List.mem_cons_of_mem _ uw_7_1) rfl rfl dX12_sight_36 ?_
        refine lv_bipush (v := 7) hx hb dX12_sight_39 (by decide) ?_
        refine tk_ialdR hC hK hw hT kM_at12 rfl (by decide) (by decide) dX12_sight_41 (fun x22 c23 Ex22 => ?_)
        have hox22 := c23
        replace hM := hM.rd (sI_at hox22)
        have bx22 := tk_rgI rfl 7 1 1 0 12 (by decide +kernel) ⟨0, by decide, by decide⟩ Ex22
        have c23 : gi w0 12 7 = x22 := c23
        refine lv_bipush (v := 12) hx hb dX12_sight_42 (by decide) ?_
        refine lv_icmp_ne (tgt := 50) hx hb dX12_sight_44 (by decide) (fun c24 => ?_) (fun c24 => ?_)
        · have c24 : ¬ x22.toInt = (12 : Int) := wk_eqF c24
          replace hM := hM.pos c24
          refine lv_aload_n hx hb dX12_sight_50 rfl (lv_at hl 0 rfl) ?_
          refine tk_getA hC hK hw hT hinX12 kM_at0 (by decide) rfl 26 (by decide) (List.mem_cons_of_mem _ uw_7_1) rfl rfl dX12_sight_51 ?_
          refine lv_sipush (v := 264) hx hb dX12_sight_54 (by decide) ?_
          refine lv_iconst (v := 2) hx hb dX12_sight_57 (by decide) ?_
          refine lv_aload_n hx hb dX12_sight_58 rfl (lv_at hl 0 rfl) ?_
          refine tk_getA hC hK hw hT hinX12 kM_at0 (by decide) rfl 26 (by decide) (List.mem_cons_of_mem _ uw_7_1) rfl rfl dX12_sight_59 ?_
          refine lv_bipush (v := 7) hx hb dX12_sight_62 (by decide) ?_
          refine tk_ialdR hC hK hw hT kM_at12 rfl (by decide) (by decide) dX12_sight_64 (fun x25 c26 Ex25 => ?_)
          have hox25 := c26
          refine wk_top x22 (c26.symm.trans c23) ?_
          replace hM := hM.rd ((sI_at hox25).trans (congrArg Int32.toInt (c26.symm.trans c23)))
          refine lv_imul hx hb dX12_sight_65 ?_
          refine lv_topi (fun x27 ex27 => ?_)
          have ezx27 := ex27
          have ex27 : x27.toInt = (2 : Int) * x22.toInt := by rw [ex27]; exact wk_mul (show (-2147483648) ≤ (2 : Int) * x22.toInt by omega) (show (2 : Int) * x22.toInt ≤ 2147483647 by omega)
          replace hM := hM.lt ex27.symm
          refine lv_iadd hx hb dX12_sight_66 ?_
          refine lv_topi (fun x28 ex28 => ?_)
          have ezx28 := ex28
          have ex28 : x28.toInt = (264 : Int) + x27.toInt := by rw [ex28]; exact wk_add (show (-2147483648) ≤ (264 : Int) + x27.toInt by omega) (show (264 : Int) + x27.toInt ≤ 2147483647 by omega)
          replace hM := hM.lt ex28.symm
          refine lv_iload_n hx hb dX12_sight_67 rfl (lv_at hl 1 rfl) ?_
          refine tk_iastR hC hK hw hT kM_at12 (by decide) rfl (show 0 ≤ x28.toInt by omega) (show x28.toInt < 296 by omega) (tk_rgS rfl 264 2 12 0 11 (by decide +kernel) ⟨(x22.toInt - 0).toNat, by omega, show x28.toInt.toNat = 264 + 2 * (x22.toInt - 0).toNat by omega⟩ (show 0 ≤ a1.toInt by omega) (show a1.toInt ≤ 11 by omega)) dX12_sight_68 (fun H locs w29 hw hT k31 c30 => ?_)
          replace hM := hM.wr (sI_up k31 c30)
          have hF := hF.put kM_at12 (inE_of (a := 264) (b := 286) (by decide) (show 264 ≤ x28.toInt.toNat by omega) (show x28.toInt.toNat ≤ 286 by omega)) k31
          have c32 := k31.gi (Or.inr (show 1 ≠ x28.toInt.toNat by omega)) c10
          have c33 := k31.gi (Or.inr (show 7 ≠ x28.toInt.toNat by omega)) c23
          refine lv_aload_n hx hb dX12_sight_69 rfl (lv_at hl 0 rfl) ?_
          refine tk_getA hC hK hw hT hinX12 kM_at0 (by decide) rfl 26 (by decide) (List.mem_cons_of_mem _ uw_7_1) rfl rfl dX12_sight_70 ?_
          refine lv_sipush (v := 264) hx hb dX12_sight_73 (by decide) ?_
          refine lv_iconst (v := 2) hx hb dX12_sight_76 (by decide) ?_
          refine lv_aload_n hx hb dX12_sight_77 rfl (lv_at hl 0 rfl) ?_
          refine tk_getA hC hK hw hT hinX12 kM_at0 (by decide) rfl 26 (by decide) (List.mem_cons_of_mem _ uw_7_1) rfl rfl dX12_sight_78 ?_
          refine lv_bipush (v := 7) hx hb dX12_sight_81 (by decide) ?_
          refine tk_ialdR hC hK hw hT kM_at12 rfl (by decide) (by decide) dX12_sight_83 (fun x34 c35 Ex34 => ?_)
          have hox34 := c35
          refine wk_top x22 (c35.symm.trans c33) ?_
          replace hM := hM.rd ((sI_at hox34).trans (congrArg Int32.toInt (c35.symm.trans c33)))
          refine lv_imul hx hb dX12_sight_84 ?_
          refine lv_topi (fun x36 ex36 => ?_)
          have ezx36 := ex36
          have ex36 : x36.toInt = (2 : Int) * x22.toInt := by rw [ex36]; exact wk_mul (show (-2147483648) ≤ (2 : Int) * x22.toInt by omega) (show (2 : Int) * x22.toInt ≤ 2147483647 by omega)
          replace hM := hM.lt ex36.symm
          refine lv_iadd hx hb dX12_sight_85 ?_
          refine lv_topi (fun x37 ex37 => ?_)
          have ezx37 := ex37
          have ex37 : x37.toInt = (264 : Int) + x36.toInt := by rw [ex37]; exact wk_add (show (-2147483648) ≤ (264 : Int) + x36.toInt by omega) (show (264 : Int) + x36.toInt ≤ 2147483647 by omega)
          replace hM := hM.lt ex37.symm
          refine lv_iconst (v := 1) hx hb dX12_sight_86 (by decide) ?_
          refine lv_iadd hx hb dX12_sight_87 ?_
          refine lv_topi (fun x38 ex38 => ?_)
          have ezx38 := ex38
          have ex38 : x38.toInt = x37.toInt + (1 : Int) := by rw [ex38]; exact wk_add (show (-2147483648) ≤ x37.toInt + (1 : Int) by omega) (show x37.toInt + (1 : Int) ≤ 2147483647 by omega)
          replace hM := hM.lt ex38.symm
          refine lv_iload_n hx hb dX12_sight_88 rfl (lv_at hl 2 rfl) ?_
          refine tk_iastR hC hK hw hT kM_at12 (by decide) rfl (show 0 ≤ x38.toInt by omega) (show x38.toInt < 296 by omega) (tk_rgS rfl 265 2 12 0 3 (by decide +kernel) ⟨(x22.toInt - 0).toNat, by omega, show x38.toInt.toNat = 265 + 2 * (x22.toInt - 0).toNat by omega⟩ (show 0 ≤ a2.toInt by omega) (show a2.toInt ≤ 3 by omega)) dX12_sight_89 (fun H locs w39 hw hT k41 c40 => ?_)
          replace hM := hM.wr (sI_up k41 c40)
          have hF := hF.put kM_at12 (inE_of (a := 265) (b := 287) (by decide) (show 265 ≤ x38.toInt.toNat by omega) (show x38.toInt.toNat ≤ 287 by omega)) k41
          have c42 := k41.gi (Or.inr (show 1 ≠ x38.toInt.toNat by omega)) c32
          have c43 := k41.gi (Or.inr (show 7 ≠ x38.toInt.toNat by omega)) c33
          refine lv_aload_n hx hb dX12_sight_90 rfl (lv_at hl 0 rfl) ?_
          refine tk_getA hC hK hw hT hinX12 kM_at0 (by decide) rfl 26 (by decide) (List.mem_cons_of_mem _ uw_7_1) rfl rfl dX12_sight_91 ?_
          refine lv_bipush (v := 7) hx hb dX12_sight_94 (by decide) ?_
          refine lv_dup2_11 hx hb dX12_sight_96 rfl rfl ?_
          refine tk_ialdR hC hK hw hT kM_at12 rfl (by decide) (by decide) dX12_sight_97 (fun x44 c45 Ex44 => ?_)
          have hox44 := c45
          refine wk_top x22 (c45.symm.trans c43) ?_
          replace hM := hM.rd ((sI_at hox44).trans (congrArg Int32.toInt (c45.symm.trans c43)))
          refine lv_iconst (v := 1) hx hb dX12_sight_98 (by decide) ?_
          refine lv_iadd hx hb dX12_sight_99 ?_
          refine lv_topi (fun x46 ex46 => ?_)
          have ezx46 := ex46
          have ex46 : x46.toInt = x22.toInt + (1 : Int) := by rw [ex46]; exact wk_add (show (-2147483648) ≤ x22.toInt + (1 : Int) by omega) (show x22.toInt + (1 : Int) ≤ 2147483647 by omega)
          replace hM := hM.lt ex46.symm
          refine tk_iastR hC hK hw hT kM_at12 (by decide) rfl (by decide) (by decide) (tk_rgS rfl 7 1 1 1 12 (by decide +kernel) ⟨0, by decide, by decide⟩ (show 1 ≤ x46.toInt by omega) (show x46.toInt ≤ 12 by omega)) dX12_sight_100 (fun H locs w47 hw hT k49 c48 => ?_)
          replace hM := hM.wr (sI_up k49 c48)
          have hF := hF.put kM_at12 (inE_of (a := 7) (b := 7) (by decide) (by decide) (by decide)) k49
          have c50 := k49.gi (Or.inr (by decide)) c42
          have c48 : gi w47 12 7 = x46 := c48
          refine lv_aload_n hx hb dX12_sight_101 rfl (lv_at hl 0 rfl) ?_
          refine tk_getA hC hK hw hT hinX12 kM_at0 (by decide) rfl 26 (by decide) (List.mem_cons_of_mem _ uw_7_1) rfl rfl dX12_sight_102 ?_
          refine lv_bipush (v := 7) hx hb dX12_sight_105 (by decide) ?_
          refine tk_ialdR hC hK hw hT kM_at12 rfl (by decide) (by decide) dX12_sight_107 (fun x51 c52 Ex51 => ?_)
          have hox51 := c52
          refine wk_top x46 (c52.symm.trans c48) ?_
          replace hM := hM.rd ((sI_at hox51).trans (congrArg Int32.toInt (c52.symm.trans c48)))
          exact tk_iret hC hr hlocks hK ⟨hT, hF, hM.ret rfl, (Or.inr ⟨(show 0 ≤ x46.toInt by omega), (show x46.toInt ≤ 12 by omega), (show (-1) ≤ a1.toInt by omega), (show a1.toInt ≤ 11 by omega), ⟨x46, c48, (show 0 ≤ x46.toInt by omega), (show x46.toInt ≤ 12 by omega)⟩⟩)⟩ hw dX12_sight_108
        · have c24 : x22.toInt = (12 : Int) := wk_eq.mp c24
          replace hM := hM.neg (fun q => q c24)
          exact J47  H locs ls w0   hw hT hF hM (lv_sub hl [0, 1, 2] rfl)
  · have c2 : a1.toInt = (-1 : Int) := wk_eq.mp c2
    replace hM := hM.neg (fun q => q c2)
    refine lv_aload_n hx hb dX12_sight_5 rfl (lv_at hl 0 rfl) ?_
    refine tk_getA hC hK hw hT hinX12 kM_at0 (by decide) rfl 26 (by decide) (List.mem_cons_of_mem _ uw_7_1) rfl rfl dX12_sight_6 ?_
    refine lv_bipush (v := 7) hx hb dX12_sight_9 (by decide) ?_
    refine lv_iconst (v := 0) hx hb dX12_sight_11 (by decide) ?_
    refine tk_iastR hC hK hw hT kM_at12 (by decide) rfl (by decide) (by decide) (tk_rg0 rfl (show 0 ≤ B from Int.le_trans (by decide) hB0) (by decide)) dX12_sight_12 (fun H locs w53 hw hT k55 c54 => ?_)
    replace hM := hM.wr (sI_upc k55 c54 (by decide))
    have hF := hF.put kM_at12 (inE_of (a := 7) (b := 7) (by decide) (by decide) (by decide)) k55
    have c54 : gi w53 12 7 = 0 := c54
    refine lv_iconst (v := 0) hx hb dX12_sight_13 (by decide) ?_
    exact tk_iret hC hr hlocks hK ⟨hT, hF, hM.ret (by decide), (Or.inr ⟨(by decide), (by decide), (show (-1) ≤ a1.toInt by omega), (show a1.toInt ≤ 11 by omega), ⟨0, c54, (by decide), (by decide)⟩⟩)⟩ hw dX12_sight_14
abbrev Pz_X12_came_1 (ad : Nat → Nat) (cy : Nat → ClassId) (B : Int) (qr : Nat) (s1 : Int) (a1 : Int32) (w0 : va_W) : Int32 → va_W → Prop := fun r u => TW ksM ad cy B qr 12 u ∧ FE ksM [(71, 8, 8), (71, 288, 295)] w0 u ∧ Ev (fun n => m_X12_came n 0 a1.toInt (sI w0)) (r.toInt, sI u) ∧ ((r = (-2)) ∨ (0 ≤ r.toInt ∧ r.toInt ≤ 8 ∧ (-1) ≤ a1.toInt ∧ a1.toInt ≤ 9 ∧ (∃ y : Int32, gi u 12 8 = y ∧ 0 ≤ y.toInt ∧ y.toInt ≤ 8)))
set_option maxHeartbeats 4000000 in
set_option maxRecDepth 100000 in
theorem kz_X12_came_1 (l : Launch) (adK adV : Nat → Nat) (dC : Nat → ClassId) (dI : Nat → Nat → Nat) (cy : Nat → ClassId) (ad : Nat → Nat) (B : Int) (hB0 : 100000 ≤ B) (hB1 : B ≤ 1073741824) (qr : Nat) (s1 : Int)  (a1 : Int32) (w0 : va_W) (sz : Nat) (hT : TW ksM ad cy B qr 12 w0)  : Met l yX12_came (wu yX12_came cX12_came 2 (some .int)) ({ frames := 2, cells := 0, slots := 0, locals := 33 }) (va_Pc [.ref (ad 0), .int a1] (wpreS adK adV dC dI cy sz w0)) (va_Qi (Pz_X12_came_1 ad cy B qr s1 a1 w0) (fun u : va_W => wpost dC dI cy (va_A w0 sz) u) (va_A w0 sz)) 0 0 (va_A w0 sz) := by
  refine Met.ofW (cc := cX12_came) (maxL := 2) (ret := (some .int)) (by decide) rfl ?_
  intro p e s m args below meth c s₁ Bk hml hv
  obtain ⟨rfl, ⟨hsz, hP, hK, hD0⟩, hE, hSR⟩ := hv
  have hx := Bk.exec
  have hb := Bk.bytes
  have hr := Bk.returns
  have hlocks := Bk.notSynchronized
  have hC : CallFix p m c cX12_came 2 s _ (wu yX12_came cX12_came 2 (some .int)) RX12 := ⟨hx, hb, hml, findClass_of_methodNamed Bk.named, atoms_spec (ws := (wu yX12_came cX12_came 2 (some .int))) Bk.pre⟩
  subst hsz
  have hD := hD0.self (sz := s.heap.size)
  generalize hAe : va_A w0 s.heap.size = A at hD hE ⊢
  have hA : ∀ q : Nat, s.heap.size ≤ q → A q := fun q h => by rw [← hAe]; exact Or.inr h
  have hw : Wd dC dI A s.heap s.heap [] w0 := ⟨hP, hD, va_S.rf⟩
  have hF : FE ksM [(71, 8, 8), (71, 288, 295)] w0 w0 := FE.rf
  have hl := lv_entry ([.ref (ad 0), .int a1]) (n := 2) (Nat.le_of_ble_eq_true rfl)
  rw [lg_entry_eq]
  generalize (lg_sl ([.ref (ad 0), .int a1]) ++ List.replicate (2 - (lg_sl ([.ref (ad 0), .int a1])).length) Slot.unset).toArray = ls at hl ⊢
  have hl : lv_has ls 2 [(0, .ref (ad 0)), (1, .int a1)] := hl
  generalize hloc : ([] : List Loc) = locs at hw ⊢
  have hinX12 : ∀ w ∈ u_ws RX12 TX12 42, w ∈ (wu yX12_came cX12_came 2 (some .int)) := fun _ h => List.mem_cons_of_mem _ (up_71 h)
  have J35 : ∀ (H : Heap) (locs : List Loc) (ls : Array Slot) (w1 : va_W), Wd dC dI A s.heap H locs w1 → TW ksM ad cy B qr 12 w1 → FE ksM [(71, 8, 8), (71, 288, 295)] w0 w1 → TT (fun n => m_X12_came n 0 a1.toInt (sI w0)) (fun n => b_X12_came_35 n 0 (sI w1)) → lv_has ls 2 [(0, .ref (ad 0)), (1, .int a1)] → W p l e ({ frames := 2, cells := 0, slots := 0, locals := 33 }) s m (List.toArray [.ref (ad 0), .int a1]) below meth c H locs 0 0 (MQ below (va_Qi (Pz_X12_came_1 ad cy B qr s1 a1 w0) (fun u : va_W => wpost dC dI cy A u) A) (List.toArray [.ref (ad 0), .int a1]) s 0 0 A) (F0 m 35 ls []) := by
    intro H locs ls w1 hw hT hF hM hl
    refine lv_bipush (v := (-2)) hx hb dX12_came_35 (by decide) ?_
    exact tk_iret hC hr hlocks hK ⟨hT, hF, hM.ret (by decide), (Or.inl rfl)⟩ hw dX12_came_37
  have hM : TT (fun n => m_X12_came n 0 a1.toInt (sI w0)) (fun n => m_X12_came n 0 a1.toInt (sI w0)) := TT.rf
  refine lv_iload_n hx hb dX12_came_0 rfl (lv_at hl 1 rfl) ?_
  refine lv_iconst (v := (-1)) hx hb dX12_came_1 (by decide) ?_
  refine lv_icmp_ne (tgt := 15) hx hb dX12_came_2 (by decide) (fun c2 => ?_) (fun c2 => ?_)
  · have c2 : ¬ a1.toInt = (-1 : Int) := wk_eqF c2
    replace hM := hM.pos c2
    refine lv_aload_n hx hb dX12_came_15 rfl (lv_at hl 0 rfl) ?_
    refine lv_iload_n hx hb dX12_came_16 rfl (lv_at hl 1 rfl) ?_
    refine tk_Vi hC hK hw hT hA hE hSR kM_at0 (by decide) rfl (kz_X12_isCorner_1 l adK adV dC dI cy ad B (by omega) (by omega) qr s1   a1 w0 s.heap.size hT ) (cwV 1 hC.2.2.2.2 uV_RX12_328 rfl rfl rfl (by decide +kernel) ⟨Nat.le_of_ble_eq_true rfl, Nat.le_of_ble_eq_true rfl⟩) rfl hl.1 rfl (Nat.le_of_ble_eq_true rfl) dX12_came_17 (fun r3 w5 H locs hp4 hw => ?_)
    obtain ⟨rfl, hv12, hg11⟩ := hp4
    rcases hg11 with rfl | ⟨rfl, g7, g8, ⟨x9, c10, rx9, tx9⟩⟩
    · replace hM := hM.call (r' := 0) hv12 (by decide)
      refine lv_if_eq (tgt := 35) hx hb dX12_came_20 (by decide) (fun _ => ?_) (fun c => absurd (by decide) c)
      replace hM := hM.pos (by decide)
      exact J35  H locs ls w0   hw hT hF hM (lv_sub hl [0, 1] rfl)
    · replace hM := hM.call (r' := 1) hv12 (by decide)
      refine lv_if_eq (tgt := 35) hx hb dX12_came_20 (by decide) (fun c => absurd c (by decide)) (fun _ => ?_)
      replace hM := hM.neg (by decide)
      refine lv_aload_n hx hb dX12_came_23 rfl (lv_at hl 0 rfl) ?_
      refine tk_getA hC hK hw hT hinX12 kM_at0 (by decide) rfl 26 (by decide) (List.mem_cons_of_mem _ uw_7_1) rfl rfl dX12_came_24 ?_
      refine lv_bipush (v := 8) hx hb dX12_came_27 (by decide) ?_
      refine tk_ialdR hC hK hw hT kM_at12 rfl (by decide) (by decide) dX12_came_29 (fun x13 c14 Ex13 => ?_)
      have hox13 := c14
      replace hM := hM.rd (sI_at hox13)
      have bx13 := tk_rgI rfl 8 1 1 0 8 (by decide +kernel) ⟨0, by decide, by decide⟩ Ex13
      have c14 : gi w0 12 8 = x13 := c14
      refine lv_bipush (v := 8) hx hb dX12_came_30 (by decide) ?_
      refine lv_icmp_ne (tgt := 38) hx hb dX12_came_32 (by decide) (fun c15 => ?_) (fun c15 => ?_)
      · have c15 : ¬ x13.toInt = (8 : Int) := wk_eqF c15
        replace hM := hM.pos c15
        refine lv_aload_n hx hb dX12_came_38 rfl (lv_at hl 0 rfl) ?_
        refine tk_getA hC hK hw hT hinX12 kM_at0 (by decide) rfl 26 (by decide) (List.mem_cons_of_mem _ uw_7_1) rfl rfl dX12_came_39 ?_
        refine lv_sipush (v := 288) hx hb dX12_came_42 (by decide) ?_
        refine lv_aload_n hx hb dX12_came_45 rfl (lv_at hl 0 rfl) ?_
        refine tk_getA hC hK hw hT hinX12 kM_at0 (by decide) rfl 26 (by decide) (List.mem_cons_of_mem _ uw_7_1) rfl rfl dX12_came_46 ?_
        refine lv_bipush (v := 8) hx hb dX12_came_49 (by decide) ?_
        refine tk_ialdR hC hK hw hT kM_at12 rfl (by decide) (by decide) dX12_came_51 (fun x16 c17 Ex16 => ?_)
        have hox16 := c17
        refine wk_top x13 (c17.symm.trans c14) ?_
        replace hM := hM.rd ((sI_at hox16).trans (congrArg Int32.toInt (c17.symm.trans c14)))
        refine lv_iadd hx hb dX12_came_52 ?_
        refine lv_topi (fun x18 ex18 => ?_)
        have ezx18 := ex18
        have ex18 : x18.toInt = (288 : Int) + x13.toInt := by rw [ex18]; exact wk_add (show (-2147483648) ≤ (288 : Int) + x13.toInt by omega) (show (288 : Int) + x13.toInt ≤ 2147483647 by omega)
        replace hM := hM.lt ex18.symm
        refine lv_iload_n hx hb dX12_came_53 rfl (lv_at hl 1 rfl) ?_
        refine tk_iastR hC hK hw hT kM_at12 (by decide) rfl (show 0 ≤ x18.toInt by omega) (show x18.toInt < 296 by omega) (tk_rgS rfl 288 1 8 0 9 (by decide +kernel) ⟨(x13.toInt - 0).toNat, by omega, show x18.toInt.toNat = 288 + 1 * (x13.toInt - 0).toNat by omega⟩ (show 0 ≤ a1.toInt by omega) (show a1.toInt ≤ 9 by omega)) dX12_came_54 (fun H locs w19 hw hT k21 c20 => ?_)
        replace hM := hM.wr (sI_up k21 c20)
        have hF := hF.put kM_at12 (inE_of (a := 288) (b := 295) (by decide) (show 288 ≤ x18.toInt.toNat by omega) (show x18.toInt.toNat ≤ 295 by omega)) k21
        have c22 := k21.gi (Or.inr (show 0 ≠ x18.toInt.toNat by omega)) c10
        have c23 := k21.gi (Or.inr (show 8 ≠ x18.toInt.toNat by omega)) c14
        refine lv_aload_n hx hb dX12_came_55 rfl (lv_at hl 0 rfl) ?_
        refine tk_getA hC hK hw hT hinX12 kM_at0 (by decide) rfl 26 (by decide) (List.mem_cons_of_mem _ uw_7_1) rfl rfl dX12_came_56 ?_
        refine lv_bipush (v := 8) hx hb dX12_came_59 (by decide) ?_
        refine lv_dup2_11 hx hb dX12_came_61 rfl rfl ?_
        refine tk_ialdR hC hK hw hT kM_at12 rfl (by decide) (by decide) dX12_came_62 (fun x24 c25 Ex24 => ?_)
        have hox24 := c25
        refine wk_top x13 (c25.symm.trans c23) ?_
        replace hM := hM.rd ((sI_at hox24).trans (congrArg Int32.toInt (c25.symm.trans c23)))
        refine lv_iconst (v := 1) hx hb dX12_came_63 (by decide) ?_
        refine lv_iadd hx hb dX12_came_64 ?_
        refine lv_topi (fun x26 ex26 => ?_)
        have ezx26 := ex26
        have ex26 : x26.toInt = x13.toInt + (1 : Int) := by rw [ex26]; exact wk_add (show (-2147483648) ≤ x13.toInt + (1 : Int) by omega) (show x13.toInt + (1 : Int) ≤ 2147483647 by omega)
        replace hM := hM.lt ex26.symm
        refine tk_iastR hC hK hw hT kM_at12 (by decide) rfl (by decide) (by decide) (tk_rgS rfl 8 1 1 1 8 (by decide +kernel) ⟨0, by decide, by decide⟩ (show 1 ≤ x26.toInt by omega) (show x26.toInt ≤ 8 by omega)) dX12_came_65 (fun H locs w27 hw hT k29 c28 => ?_)
        replace hM := hM.wr (sI_up k29 c28)
        have hF := hF.put kM_at12 (inE_of (a := 8) (b := 8) (by decide) (by decide) (by decide)) k29
        have c30 := k29.gi (Or.inr (by decide)) c22
        have c28 : gi w27 12 8 = x26 := c28
        refine lv_aload_n hx hb dX12_came_66 rfl (lv_at hl 0 rfl) ?_
        refine tk_getA hC hK hw hT hinX12 kM_at0 (by decide) rfl 26 (by decide) (List.mem_cons_of_mem _ uw_7_1) rfl rfl dX12_came_67 ?_
        refine lv_bipush (v := 8) hx hb dX12_came_70 (by decide) ?_
        refine tk_ialdR hC hK hw hT kM_at12 rfl (by decide) (by decide) dX12_came_72 (fun x31 c32 Ex31 => ?_)
        have hox31 := c32
        refine wk_top x26 (c32.symm.trans c28) ?_
        replace hM := hM.rd ((sI_at hox31).trans (congrArg Int32.toInt (c32.symm.trans c28)))
        exact tk_iret hC hr hlocks hK ⟨hT, hF, hM.ret rfl, (Or.inr ⟨(show 0 ≤ x26.toInt by omega), (show x26.toInt ≤ 8 by omega), (show (-1) ≤ a1.toInt by omega), (show a1.toInt ≤ 9 by omega), ⟨x26, c28, (show 0 ≤ x26.toInt by omega), (show x26.toInt ≤ 8 by omega)⟩⟩)⟩ hw dX12_came_73
      · have c15 : x13.toInt = (8 : Int) := wk_eq.mp c15
        replace hM := hM.neg (fun q => q c15)
        exact J35  H locs ls w0   hw hT hF hM (lv_sub hl [0, 1] rfl)
  · have c2 : a1.toInt = (-1 : Int) := wk_eq.mp c2
    replace hM := hM.neg (fun q => q c2)
    refine lv_aload_n hx hb dX12_came_5 rfl (lv_at hl 0 rfl) ?_
    refine tk_getA hC hK hw hT hinX12 kM_at0 (by decide) rfl 26 (by decide) (List.mem_cons_of_mem _ uw_7_1) rfl rfl dX12_came_6 ?_
    refine lv_bipush (v := 8) hx hb dX12_came_9 (by decide) ?_
    refine lv_iconst (v := 0) hx hb dX12_came_11 (by decide) ?_
    refine tk_iastR hC hK hw hT kM_at12 (by decide) rfl (by decide) (by decide) (tk_rg0 rfl (show 0 ≤ B from Int.le_trans (by decide) hB0) (by decide)) dX12_came_12 (fun H locs w33 hw hT k35 c34 => ?_)
    replace hM := hM.wr (sI_upc k35 c34 (by decide))
    have hF := hF.put kM_at12 (inE_of (a := 8) (b := 8) (by decide) (by decide) (by decide)) k35
    have c34 : gi w33 12 8 = 0 := c34
    refine lv_iconst (v := 0) hx hb dX12_came_13 (by decide) ?_
    exact tk_iret hC hr hlocks hK ⟨hT, hF, hM.ret (by decide), (Or.inr ⟨(by decide), (by decide), (show (-1) ≤ a1.toInt by omega), (show a1.toInt ≤ 9 by omega), ⟨0, c34, (by decide), (by decide)⟩⟩)⟩ hw dX12_came_14
abbrev Pz_X12_cheapOf_1 (ad : Nat → Nat) (cy : Nat → ClassId) (B : Int) (qr : Nat) (s1 : Int) (a1 : Int32) (w0 : va_W) : Int32 → va_W → Prop := fun r u => w0 = u ∧ Ev (fun n => m_X12_cheapOf n 0 a1.toInt (sI w0)) (r.toInt, sI w0) ∧ ((0 ≤ r.toInt ∧ r.toInt ≤ 3))
set_option maxHeartbeats 4000000 in
set_option maxRecDepth 100000 in
theorem kz_X12_cheapOf_1 (l : Launch) (adK adV : Nat → Nat) (dC : Nat → ClassId) (dI : Nat → Nat → Nat) (cy : Nat → ClassId) (ad : Nat → Nat) (B : Int) (hB0 : 100000 ≤ B) (hB1 : B ≤ 1073741824) (qr : Nat) (s1 : Int)  (a1 : Int32) (ra1 : 0 ≤ a1.toInt) (ta1 : a1.toInt ≤ 11) (w0 : va_W) (sz : Nat) (hT : TW ksM ad cy B qr 12 w0)  : Met l yX12_cheapOf (wu yX12_cheapOf cX12_cheapOf 7 (some .int)) ({ frames := 2, cells := 0, slots := 0, locals := 34 }) (va_Pc [.ref (ad 0), .int a1] (wpreS adK adV dC dI cy sz w0)) (va_Qi (Pz_X12_cheapOf_1 ad cy B qr s1 a1 w0) (fun u : va_W => wpost dC dI cy (va_A w0 sz) u) (va_A w0 sz)) 0 0 (va_A w0 sz) := by
  refine Met.ofW (cc := cX12_cheapOf) (maxL := 7) (ret := (some .int)) (by decide) rfl ?_
  intro p e s m args below meth c s₁ Bk hml hv
  obtain ⟨rfl, ⟨hsz, hP, hK, hD0⟩, hE, hSR⟩ := hv
  have hx := Bk.exec
  have hb := Bk.bytes
  have hr := Bk.returns
  have hlocks := Bk.notSynchronized
  have hC : CallFix p m c cX12_cheapOf 7 s _ (wu yX12_cheapOf cX12_cheapOf 7 (some .int)) RX12 := ⟨hx, hb, hml, findClass_of_methodNamed Bk.named, atoms_spec (ws := (wu yX12_cheapOf cX12_cheapOf 7 (some .int))) Bk.pre⟩
  subst hsz
  have hD := hD0.self (sz := s.heap.size)
  generalize hAe : va_A w0 s.heap.size = A at hD hE ⊢
  have hA : ∀ q : Nat, s.heap.size ≤ q → A q := fun q h => by rw [← hAe]; exact Or.inr h
  have hw : Wd dC dI A s.heap s.heap [] w0 := ⟨hP, hD, va_S.rf⟩
  have hF : FE ksM ([] : List (Nat × Nat × Nat)) w0 w0 := FE.rf
  have hl := lv_entry ([.ref (ad 0), .int a1]) (n := 7) (Nat.le_of_ble_eq_true rfl)
  rw [lg_entry_eq]
  generalize (lg_sl ([.ref (ad 0), .int a1]) ++ List.replicate (7 - (lg_sl ([.ref (ad 0), .int a1])).length) Slot.unset).toArray = ls at hl ⊢
  have hl : lv_has ls 7 [(0, .ref (ad 0)), (1, .int a1)] := hl
  generalize hloc : ([] : List Loc) = locs at hw ⊢
  have L7 : ∀ (n7 : Nat) (v7_2 : Int32) (v7_3 : Int32) (v7_4 : Int32) (H : Heap) (locs : List Loc) (ls : Array Slot), 0 ≤ a1.toInt → a1.toInt ≤ 11 → 0 ≤ v7_2.toInt → v7_2.toInt ≤ 3 → (-1) ≤ v7_3.toInt → 0 ≤ v7_4.toInt → v7_4.toInt ≤ 4 → (4 - v7_4.toInt).toNat < n7 → Wd dC dI A s.heap H locs w0 → TT (fun n => m_X12_cheapOf n 0 a1.toInt (sI w0)) (fun n => j_X12_cheapOf 0 n 7 [a1.toInt, v7_2.toInt, v7_3.toInt, v7_4.toInt] (sI w0)) → lv_has ls 7 [(0, .ref (ad 0)), (1, .int a1), (2, .int v7_2), (3, .int v7_3), (4, .int v7_4)] → W p l e ({ frames := 2, cells := 0, slots := 0, locals := 34 }) s m (List.toArray [.ref (ad 0), .int a1]) below meth c H locs 0 0 (MQ below (va_Qi (Pz_X12_cheapOf_1 ad cy B qr s1 a1 w0) (fun u : va_W => wpost dC dI cy A u) A) (List.toArray [.ref (ad 0), .int a1]) s 0 0 A) (F0 m 7 ls []) := by
    intro n7
    induction n7 with
    | zero => intro v7_2 v7_3 v7_4 H locs ls r1 t2 r3 t4 r5 r6 t7 hm7 hw hM hl; omega
    | succ n7 ih7 =>
      intro v7_2 v7_3 v7_4 H locs ls r1 t2 r3 t4 r5 r6 t7 hm7 hw hM hl
      have L19 : ∀ (n19 : Nat) (v19_5 : Int32) (v19_6 : Int32) (H : Heap) (locs : List Loc) (ls : Array Slot), 0 ≤ a1.toInt → a1.toInt ≤ 11 → 0 ≤ v7_2.toInt → v7_2.toInt ≤ 3 → (-1) ≤ v7_3.toInt → 0 ≤ v7_4.toInt → v7_4.toInt ≤ 3 → 0 ≤ v19_6.toInt → v19_6.toInt ≤ 7 → (7 - v19_6.toInt).toNat < n19 → Wd dC dI A s.heap H locs w0 → TT (fun n => m_X12_cheapOf n 0 a1.toInt (sI w0)) (fun n => j_X12_cheapOf 0 n 19 [a1.toInt, v7_2.toInt, v7_3.toInt, v7_4.toInt, v19_5.toInt, v19_6.toInt] (sI w0)) → lv_has ls 7 [(0, .ref (ad 0)), (1, .int a1), (2, .int v7_2), (3, .int v7_3), (4, .int v7_4), (5, .int v19_5), (6, .int v19_6)] → W p l e ({ frames := 2, cells := 0, slots := 0, locals := 34 }) s m (List.toArray [.ref (ad 0), .int a1]) below meth c H locs 0 0 (MQ below (va_Qi (Pz_X12_cheapOf_1 ad cy B qr s1 a1 w0) (fun u : va_W => wpost dC dI cy A u) A) (List.toArray [.ref (ad 0), .int a1]) s 0 0 A) (F0 m 19 ls []) := by
        intro n19
        induction n19 with
        | zero => intro v19_5 v19_6 H locs ls r8 t9 r10 t11 r12 r13 t14 r15 t16 hm19 hw hM hl; omega
        | succ n19 ih19 =>
          intro v19_5 v19_6 H locs ls r8 t9 r10 t11 r12 r13 t14 r15 t16 hm19 hw hM hl
          replace hM := hM.suc (fun _ => e_X12_cheapOf_19)
          refine lv_iload hx hb dX12_cheapOf_19 (lv_at hl 6 rfl) ?_
          refine lv_bipush (v := 7) hx hb dX12_cheapOf_21 (by decide) ?_
          refine lv_icmp_ge (tgt := 56) hx hb dX12_cheapOf_23 (by decide) (fun c17 => ?_) (fun c17 => ?_)
          · have c17 : (7 : Int) ≤ v19_6.toInt := wk_le.mp c17
            replace hM := hM.pos c17
            refine lv_iload hx hb dX12_cheapOf_56 (lv_at hl 5 rfl) ?_
            refine lv_iload_n hx hb dX12_cheapOf_58 rfl (lv_at hl 3 rfl) ?_
            refine lv_icmp_le (tgt := 67) hx hb dX12_cheapOf_59 (by decide) (fun c18 => ?_) (fun c18 => ?_)
            · have c18 : v19_5.toInt ≤ v7_3.toInt := wk_le.mp c18
              replace hM := hM.pos c18
              refine lv_iload_n hx hb dX12_cheapOf_67 rfl (lv_at hl 2 rfl) ?_
              refine lv_istore_n (lv' := [(2, .int v7_2), (0, .ref (ad 0)), (1, .int a1), (3, .int v7_3), (4, .int v7_4), (5, .int v19_5), (6, .int v19_6)]) hx hb dX12_cheapOf_68 rfl hl (by decide) rfl (fun ls hl => ?_)
              refine lv_iload hx hb dX12_cheapOf_69 (lv_at hl 5 rfl) ?_
              refine lv_iload_n hx hb dX12_cheapOf_71 rfl (lv_at hl 3 rfl) ?_
              refine lv_icmp_le (tgt := 80) hx hb dX12_cheapOf_72 (by decide) (fun c19 => ?_) (fun c19 => ?_)
              · have c19 : v19_5.toInt ≤ v7_3.toInt := wk_le.mp c19
                replace hM := hM.pos c19
                refine lv_iload_n hx hb dX12_cheapOf_80 rfl (lv_at hl 3 rfl) ?_
                refine lv_istore_n (lv' := [(3, .int v7_3), (2, .int v7_2), (0, .ref (ad 0)), (1, .int a1), (4, .int v7_4), (5, .int v19_5), (6, .int v19_6)]) hx hb dX12_cheapOf_81 rfl hl (by decide) rfl (fun ls hl => ?_)
                obtain ⟨x20, ex20⟩ : ∃ y : Int32, y = v7_4 + Int32.ofInt 1 := ⟨_, rfl⟩
                have erx20 := ex20
                refine lv_iinc (v := x20) (lv' := [(4, .int x20), (3, .int v7_3), (2, .int v7_2), (0, .ref (ad 0)), (1, .int a1), (5, .int v19_5), (6, .int v19_6)]) hx hb dX12_cheapOf_82 hl (k := 4) rfl ex20.symm (by decide) rfl (fun ls hl => ?_)
                have ex20 : x20.toInt = v7_4.toInt + 1 := by rw [ex20]; exact wk_add (y := 1) (show -2147483648 ≤ v7_4.toInt + 1 by omega) (show v7_4.toInt + 1 ≤ 2147483647 by omega)
                replace hM := hM.lt ex20.symm
                refine lv_goto (tgt := 7) hx hb dX12_cheapOf_85 (by decide) ?_
                exact ih7 v7_2 v7_3 x20 H locs ls  (show 0 ≤ a1.toInt from r8) (show a1.toInt ≤ 11 from t9) (show 0 ≤ v7_2.toInt from r10) (show v7_2.toInt ≤ 3 from t11) (show (-1) ≤ v7_3.toInt from r12) (show 0 ≤ x20.toInt by omega) (show x20.toInt ≤ 4 by omega) (show (4 - x20.toInt).toNat < n7 by omega) hw  hM (lv_sub hl [3, 4, 2, 1, 0] rfl)
              · have c19 : v7_3.toInt < v19_5.toInt := wk_leF c19
                replace hM := hM.neg (Int.not_le.mpr c19)
                refine lv_iload hx hb dX12_cheapOf_75 (lv_at hl 5 rfl) ?_
                refine lv_goto (tgt := 81) hx hb dX12_cheapOf_77 (by decide) ?_
                refine lv_istore_n (lv' := [(3, .int v19_5), (2, .int v7_2), (0, .ref (ad 0)), (1, .int a1), (4, .int v7_4), (5, .int v19_5), (6, .int v19_6)]) hx hb dX12_cheapOf_81 rfl hl (by decide) rfl (fun ls hl => ?_)
                obtain ⟨x21, ex21⟩ : ∃ y : Int32, y = v7_4 + Int32.ofInt 1 := ⟨_, rfl⟩
                have erx21 := ex21
                refine lv_iinc (v := x21) (lv' := [(4, .int x21), (3, .int v19_5), (2, .int v7_2), (0, .ref (ad 0)), (1, .int a1), (5, .int v19_5), (6, .int v19_6)]) hx hb dX12_cheapOf_82 hl (k := 4) rfl ex21.symm (by decide) rfl (fun ls hl => ?_)
                have ex21 : x21.toInt = v7_4.toInt + 1 := by rw [ex21]; exact wk_add (y := 1) (show -2147483648 ≤ v7_4.toInt + 1 by omega) (show v7_4.toInt + 1 ≤ 2147483647 by omega)
                replace hM := hM.lt ex21.symm
                refine lv_goto (tgt := 7) hx hb dX12_cheapOf_85 (by decide) ?_
                exact ih7 v7_2 v19_5 x21 H locs ls  (show 0 ≤ a1.toInt from r8) (show a1.toInt ≤ 11 from t9) (show 0 ≤ v7_2.toInt from r10) (show v7_2.toInt ≤ 3 from t11) (show (-1) ≤ v19_5.toInt by omega) (show 0 ≤ x21.toInt by omega) (show x21.toInt ≤ 4 by omega) (show (4 - x21.toInt).toNat < n7 by omega) hw  hM (lv_sub hl [3, 4, 2, 1, 0] rfl)
            · have c18 : v7_3.toInt < v19_5.toInt := wk_leF c18
              replace hM := hM.neg (Int.not_le.mpr c18)
              refine lv_iload hx hb dX12_cheapOf_62 (lv_at hl 4 rfl) ?_
              refine lv_goto (tgt := 68) hx hb dX12_cheapOf_64 (by decide) ?_
              refine lv_istore_n (lv' := [(2, .int v7_4), (0, .ref (ad 0)), (1, .int a1), (3, .int v7_3), (4, .int v7_4), (5, .int v19_5), (6, .int v19_6)]) hx hb dX12_cheapOf_68 rfl hl (by decide) rfl (fun ls hl => ?_)
              refine lv_iload hx hb dX12_cheapOf_69 (lv_at hl 5 rfl) ?_
              refine lv_iload_n hx hb dX12_cheapOf_71 rfl (lv_at hl 3 rfl) ?_
              refine lv_icmp_le (tgt := 80) hx hb dX12_cheapOf_72 (by decide) (fun c22 => ?_) (fun c22 => ?_)
              · have c22 : v19_5.toInt ≤ v7_3.toInt := wk_le.mp c22
                replace hM := hM.pos c22
                refine lv_iload_n hx hb dX12_cheapOf_80 rfl (lv_at hl 3 rfl) ?_
                refine lv_istore_n (lv' := [(3, .int v7_3), (2, .int v7_4), (0, .ref (ad 0)), (1, .int a1), (4, .int v7_4), (5, .int v19_5), (6, .int v19_6)]) hx hb dX12_cheapOf_81 rfl hl (by decide) rfl (fun ls hl => ?_)
                obtain ⟨x23, ex23⟩ : ∃ y : Int32, y = v7_4 + Int32.ofInt 1 := ⟨_, rfl⟩
                have erx23 := ex23
                refine lv_iinc (v := x23) (lv' := [(4, .int x23), (3, .int v7_3), (2, .int v7_4), (0, .ref (ad 0)), (1, .int a1), (5, .int v19_5), (6, .int v19_6)]) hx hb dX12_cheapOf_82 hl (k := 4) rfl ex23.symm (by decide) rfl (fun ls hl => ?_)
                have ex23 : x23.toInt = v7_4.toInt + 1 := by rw [ex23]; exact wk_add (y := 1) (show -2147483648 ≤ v7_4.toInt + 1 by omega) (show v7_4.toInt + 1 ≤ 2147483647 by omega)
                replace hM := hM.lt ex23.symm
                refine lv_goto (tgt := 7) hx hb dX12_cheapOf_85 (by decide) ?_
                exact ih7 v7_4 v7_3 x23 H locs ls  (show 0 ≤ a1.toInt from r8) (show a1.toInt ≤ 11 from t9) (show 0 ≤ v7_4.toInt from r13) (show v7_4.toInt ≤ 3 from t14) (show (-1) ≤ v7_3.toInt from r12) (show 0 ≤ x23.toInt by omega) (show x23.toInt ≤ 4 by omega) (show (4 - x23.toInt).toNat < n7 by omega) hw  hM (lv_sub hl [3, 4, 2, 1, 0] rfl)
              · have c22 : v7_3.toInt < v19_5.toInt := wk_leF c22
                replace hM := hM.neg (Int.not_le.mpr c22)
                refine lv_iload hx hb dX12_cheapOf_75 (lv_at hl 5 rfl) ?_
                refine lv_goto (tgt := 81) hx hb dX12_cheapOf_77 (by decide) ?_
                refine lv_istore_n (lv' := [(3, .int v19_5), (2, .int v7_4), (0, .ref (ad 0)), (1, .int a1), (4, .int v7_4), (5, .int v19_5), (6, .int v19_6)]) hx hb dX12_cheapOf_81 rfl hl (by decide) rfl (fun ls hl => ?_)
                obtain ⟨x24, ex24⟩ : ∃ y : Int32, y = v7_4 + Int32.ofInt 1 := ⟨_, rfl⟩
                have erx24 := ex24
                refine lv_iinc (v := x24) (lv' := [(4, .int x24), (3, .int v19_5), (2, .int v7_4), (0, .ref (ad 0)), (1, .int a1), (5, .int v19_5), (6, .int v19_6)]) hx hb dX12_cheapOf_82 hl (k := 4) rfl ex24.symm (by decide) rfl (fun ls hl => ?_)
                have ex24 : x24.toInt = v7_4.toInt + 1 := by rw [ex24]; exact wk_add (y := 1) (show -2147483648 ≤ v7_4.toInt + 1 by omega) (show v7_4.toInt + 1 ≤ 2147483647 by omega)
                replace hM := hM.lt ex24.symm
                refine lv_goto (tgt := 7) hx hb dX12_cheapOf_85 (by decide) ?_
                exact ih7 v7_4 v19_5 x24 H locs ls  (show 0 ≤ a1.toInt from r8) (show a1.toInt ≤ 11 from t9) (show 0 ≤ v7_4.toInt from r13) (show v7_4.toInt ≤ 3 from t14) (show (-1) ≤ v19_5.toInt by omega) (show 0 ≤ x24.toInt by omega) (show x24.toInt ≤ 4 by omega) (show (4 - x24.toInt).toNat < n7 by omega) hw  hM (lv_sub hl [3, 4, 2, 1, 0] rfl)
          · have c17 : v19_6.toInt < (7 : Int) := wk_leF c17
            replace hM := hM.neg (Int.not_le.mpr c17)
            refine lv_iload hx hb dX12_cheapOf_26 (lv_at hl 5 rfl) ?_
            refine lv_aload_n hx hb dX12_cheapOf_28 rfl (lv_at hl 0 rfl) ?_
            refine lv_iload_n hx hb dX12_cheapOf_29 rfl (lv_at hl 1 rfl) ?_
            refine lv_iconst (v := 3) hx hb dX12_cheapOf_30 (by decide) ?_
            refine lv_iload hx hb dX12_cheapOf_31 (lv_at hl 6 rfl) ?_
            refine lv_iadd hx hb dX12_cheapOf_33 ?_
            refine lv_topi (fun x25 ex25 => ?_)
            have ezx25 := ex25
            have ex25 : x25.toInt = (3 : Int) + v19_6.toInt := by rw [ex25]; exact wk_add (show (-2147483648) ≤ (3 : Int) + v19_6.toInt by omega) (show (3 : Int) + v19_6.toInt ≤ 2147483647 by omega)
            replace hM := hM.lt ex25.symm
            refine tk_Vi hC hK hw hT hA hE hSR kM_at0 (by decide) rfl (kz_X12_streetOf_2 l adK adV dC dI cy ad B (by omega) (by omega) qr s1   a1 (show 0 ≤ a1.toInt from r8) (show a1.toInt ≤ 11 from t9) x25 (show 3 ≤ x25.toInt by omega) (show x25.toInt ≤ 9 by omega) w0 H.size hT ) (cwV 2 hC.2.2.2.2 uV_RX12_300 rfl rfl rfl (by decide +kernel) ⟨Nat.le_of_ble_eq_true rfl, Nat.le_of_ble_eq_true rfl⟩) rfl hl.1 rfl (Nat.le_of_ble_eq_true rfl) dX12_cheapOf_34 (fun r26 w28 H locs hp27 hw => ?_)
            obtain ⟨rfl, hv34, hg33⟩ := hp27
            obtain ⟨g30, g31, c32⟩ := hg33
            replace hM := hM.call hv34 rfl
            refine lv_iload hx hb dX12_cheapOf_37 (lv_at hl 4 rfl) ?_
            refine lv_icmp_ne (tgt := 46) hx hb dX12_cheapOf_39 (by decide) (fun c35 => ?_) (fun c35 => ?_)
            · have c35 : ¬ r26.toInt = v7_4.toInt := wk_eqF c35
              replace hM := hM.pos c35
              refine lv_iconst (v := 0) hx hb dX12_cheapOf_46 (by decide) ?_
              refine lv_iadd hx hb dX12_cheapOf_47 ?_
              have nx36 := wk_i32 v19_5
              refine lv_topi (fun x37 ex37 => ?_)
              have ezx37 := ex37
              have ex37 : x37.toInt = v19_5.toInt + (0 : Int) := by rw [ex37]; exact wk_add (show (-2147483648) ≤ v19_5.toInt + (0 : Int) by omega) (show v19_5.toInt + (0 : Int) ≤ 2147483647 by omega)
              replace hM := hM.lt (o32_e (f := fun x y => x + y) ezx37 rfl (by decide))
              refine lv_istore (lv' := [(5, .int x37), (0, .ref (ad 0)), (1, .int a1), (2, .int v7_2), (3, .int v7_3), (4, .int v7_4), (6, .int v19_6)]) hx hb dX12_cheapOf_48 hl (by decide) rfl (fun ls hl => ?_)
              obtain ⟨x38, ex38⟩ : ∃ y : Int32, y = v19_6 + Int32.ofInt 1 := ⟨_, rfl⟩
              have erx38 := ex38
              refine lv_iinc (v := x38) (lv' := [(6, .int x38), (5, .int x37), (0, .ref (ad 0)), (1, .int a1), (2, .int v7_2), (3, .int v7_3), (4, .int v7_4)]) hx hb dX12_cheapOf_50 hl (k := 6) rfl ex38.symm (by decide) rfl (fun ls hl => ?_)
              have ex38 : x38.toInt = v19_6.toInt + 1 := by rw [ex38]; exact wk_add (y := 1) (show -2147483648 ≤ v19_6.toInt + 1 by omega) (show v19_6.toInt + 1 ≤ 2147483647 by omega)
              replace hM := hM.lt ex38.symm
              refine lv_goto (tgt := 19) hx hb dX12_cheapOf_53 (by decide) ?_
              exact ih19 x37 x38 H locs ls  (show 0 ≤ a1.toInt from r8) (show a1.toInt ≤ 11 from t9) (show 0 ≤ v7_2.toInt from r10) (show v7_2.toInt ≤ 3 from t11) (show (-1) ≤ v7_3.toInt from r12) (show 0 ≤ v7_4.toInt from r13) (show v7_4.toInt ≤ 3 from t14) (show 0 ≤ x38.toInt by omega) (show x38.toInt ≤ 7 by omega) (show (7 - x38.toInt).toNat < n19 by omega) hw  hM (lv_sub hl [2, 3, 4, 5, 6, 1, 0] rfl)
            · have c35 : r26.toInt = v7_4.toInt := wk_eq.mp c35
              replace hM := hM.neg (fun q => q c35)
              refine lv_iconst (v := 1) hx hb dX12_cheapOf_42 (by decide) ?_
              refine lv_goto (tgt := 47) hx hb dX12_cheapOf_43 (by decide) ?_
              refine lv_iadd hx hb dX12_cheapOf_47 ?_
              have nx39 := wk_i32 v19_5
              refine lv_topi (fun x40 ex40 => ?_)
              have ezx40 := ex40
              replace hM := hM.lt (o32_e (f := fun x y => x + y) ezx40 rfl (by decide))
              refine lv_istore (lv' := [(5, .int x40), (0, .ref (ad 0)), (1, .int a1), (2, .int v7_2), (3, .int v7_3), (4, .int v7_4), (6, .int v19_6)]) hx hb dX12_cheapOf_48 hl (by decide) rfl (fun ls hl => ?_)
              obtain ⟨x41, ex41⟩ : ∃ y : Int32, y = v19_6 + Int32.ofInt 1 := ⟨_, rfl⟩
              have erx41 := ex41
              refine lv_iinc (v := x41) (lv' := [(6, .int x41), (5, .int x40), (0, .ref (ad 0)), (1, .int a1), (2, .int v7_2), (3, .int v7_3), (4, .int v7_4)]) hx hb dX12_cheapOf_50 hl (k := 6) rfl ex41.symm (by decide) rfl (fun ls hl => ?_)
              have ex41 : x41.toInt = v19_6.toInt + 1 := by rw [ex41]; exact wk_add (y := 1) (show -2147483648 ≤ v19_6.toInt + 1 by omega) (show v19_6.toInt + 1 ≤ 2147483647 by omega)
              replace hM := hM.lt ex41.symm
              refine lv_goto (tgt := 19) hx hb dX12_cheapOf_53 (by decide) ?_
              exact ih19 x40 x41 H locs ls  (show 0 ≤ a1.toInt from r8) (show a1.toInt ≤ 11 from t9) (show 0 ≤ v7_2.toInt from r10) (show v7_2.toInt ≤ 3 from t11) (show (-1) ≤ v7_3.toInt from r12) (show 0 ≤ v7_4.toInt from r13) (show v7_4.toInt ≤ 3 from t14) (show 0 ≤ x41.toInt by omega) (show x41.toInt ≤ 7 by omega) (show (7 - x41.toInt).toNat < n19 by omega) hw  hM (lv_sub hl [2, 3, 4, 5, 6, 1, 0] rfl)
      replace hM := hM.suc (fun _ => e_X12_cheapOf_7)
      refine lv_iload hx hb dX12_cheapOf_7 (lv_at hl 4 rfl) ?_
      refine lv_iconst (v := 4) hx hb dX12_cheapOf_9 (by decide) ?_
      refine lv_icmp_ge (tgt := 88) hx hb dX12_cheapOf_10 (by decide) (fun c42 => ?_) (fun c42 => ?_)
      · have c42 : (4 : Int) ≤ v7_4.toInt := wk_le.mp c42
        replace hM := hM.pos c42
        refine lv_iload_n hx hb dX12_cheapOf_88 rfl (lv_at hl 2 rfl) ?_
        exact tk_iret hC hr hlocks hK ⟨rfl, hM.ret rfl, ⟨(show 0 ≤ v7_2.toInt from r3), (show v7_2.toInt ≤ 3 from t4)⟩⟩ hw dX12_cheapOf_89
      · have c42 : v7_4.toInt < (4 : Int) := wk_leF c42
        replace hM := hM.neg (Int.not_le.mpr c42)
        refine lv_iconst (v := 0) hx hb dX12_cheapOf_13 (by decide) ?_
        refine lv_istore (lv' := [(5, .int 0), (0, .ref (ad 0)), (1, .int a1), (2, .int v7_2), (3, .int v7_3), (4, .int v7_4)]) hx hb dX12_cheapOf_14 hl (by decide) rfl (fun ls hl => ?_)
        refine lv_iconst (v := 0) hx hb dX12_cheapOf_16 (by decide) ?_
        refine lv_istore (lv' := [(6, .int 0), (5, .int 0), (0, .ref (ad 0)), (1, .int a1), (2, .int v7_2), (3, .int v7_3), (4, .int v7_4)]) hx hb dX12_cheapOf_17 hl (by decide) rfl (fun ls hl => ?_)
        exact L19 ((7 - (0 : Int)).toNat + 1) 0 0 H locs ls  (show 0 ≤ a1.toInt from r1) (show a1.toInt ≤ 11 from t2) (show 0 ≤ v7_2.toInt from r3) (show v7_2.toInt ≤ 3 from t4) (show (-1) ≤ v7_3.toInt from r5) (show 0 ≤ v7_4.toInt from r6) (show v7_4.toInt ≤ 3 by omega) (by decide) (by decide) (Nat.lt_succ_self _) hw  hM (lv_sub hl [2, 3, 4, 5, 6, 1, 0] rfl)
  have hM : TT (fun n => m_X12_cheapOf n 0 a1.toInt (sI w0)) (fun n => m_X12_cheapOf n 0 a1.toInt (sI w0)) := TT.rf
  refine lv_iconst (v := 0) hx hb dX12_cheapOf_0 (by decide) ?_
  refine lv_istore_n (lv' := [(2, .int 0), (0, .ref (ad 0)), (1, .int a1)]) hx hb dX12_cheapOf_1 rfl hl (by decide) rfl (fun ls hl => ?_)
  refine lv_iconst (v := (-1)) hx hb dX12_cheapOf_2 (by decide) ?_
  refine lv_istore_n (lv' := [(3, .int (-1)), (2, .int 0), (0, .ref (ad 0)), (1, .int a1)]) hx hb dX12_cheapOf_3 rfl hl (by decide) rfl (fun ls hl => ?_)
  refine lv_iconst (v := 0) hx hb dX12_cheapOf_4 (by decide) ?_
  refine lv_istore (lv' := [(4, .int 0), (3, .int (-1)), (2, .int 0), (0, .ref (ad 0)), (1, .int a1)]) hx hb dX12_cheapOf_5 hl (by decide) rfl (fun ls hl => ?_)
  exact L7 ((4 - (0 : Int)).toNat + 1) 0 (-1) 0 s.heap locs ls  (show 0 ≤ a1.toInt from ra1) (show a1.toInt ≤ 11 from ta1) (by decide) (by decide) (by decide) (by decide) (by decide) (Nat.lt_succ_self _) hw  hM (lv_sub hl [3, 4, 2, 1, 0] rfl)
abbrev Pz_X12_cheap_1 (ad : Nat → Nat) (cy : Nat → ClassId) (B : Int) (qr : Nat) (s1 : Int) (a1 : Int32) (w0 : va_W) : Int32 → va_W → Prop := fun r u => w0 = u ∧ Ev (fun n => m_X12_cheap n 0 a1.toInt (sI w0)) (r.toInt, sI w0) ∧ ((0 ≤ r.toInt ∧ r.toInt ≤ 3 ∧ 0 ≤ a1.toInt ∧ a1.toInt ≤ 11 ∧ (∃ y : Int32, gi u 12 1 = y ∧ 1 ≤ y.toInt ∧ y.toInt ≤ 12)) ∨ (r = (-1)))
set_option maxHeartbeats 4000000 in
set_option maxRecDepth 100000 in
theorem kz_X12_cheap_1 (l : Launch) (adK adV : Nat → Nat) (dC : Nat → ClassId) (dI : Nat → Nat → Nat) (cy : Nat → ClassId) (ad : Nat → Nat) (B : Int) (hB0 : 100000 ≤ B) (hB1 : B ≤ 1073741824) (qr : Nat) (s1 : Int)  (a1 : Int32) (w0 : va_W) (sz : Nat) (hT : TW ksM ad cy B qr 12 w0)  : Met l yX12_cheap (wu yX12_cheap cX12_cheap 2 (some .int)) ({ frames := 3, cells := 0, slots := 0, locals := 60 }) (va_Pc [.ref (ad 0), .int a1] (wpreS adK adV dC dI cy sz w0)) (va_Qi (Pz_X12_cheap_1 ad cy B qr s1 a1 w0) (fun u : va_W => wpost dC dI cy (va_A w0 sz) u) (va_A w0 sz)) 0 0 (va_A w0 sz) := by
  refine Met.ofW (cc := cX12_cheap) (maxL := 2) (ret := (some .int)) (by decide) rfl ?_
  intro p e s m args below meth c s₁ Bk hml hv
  obtain ⟨rfl, ⟨hsz, hP, hK, hD0⟩, hE, hSR⟩ := hv
  have hx := Bk.exec
  have hb := Bk.bytes
  have hr := Bk.returns
  have hlocks := Bk.notSynchronized
  have hC : CallFix p m c cX12_cheap 2 s _ (wu yX12_cheap cX12_cheap 2 (some .int)) RX12 := ⟨hx, hb, hml, findClass_of_methodNamed Bk.named, atoms_spec (ws := (wu yX12_cheap cX12_cheap 2 (some .int))) Bk.pre⟩
  subst hsz
  have hD := hD0.self (sz := s.heap.size)
  generalize hAe : va_A w0 s.heap.size = A at hD hE ⊢
  have hA : ∀ q : Nat, s.heap.size ≤ q → A q := fun q h => by rw [← hAe]; exact Or.inr h
  have hw : Wd dC dI A s.heap s.heap [] w0 := ⟨hP, hD, va_S.rf⟩
  have hF : FE ksM ([] : List (Nat × Nat × Nat)) w0 w0 := FE.rf
  have hl := lv_entry ([.ref (ad 0), .int a1]) (n := 2) (Nat.le_of_ble_eq_true rfl)
  rw [lg_entry_eq]
  generalize (lg_sl ([.ref (ad 0), .int a1]) ++ List.replicate (2 - (lg_sl ([.ref (ad 0), .int a1])).length) Slot.unset).toArray = ls at hl ⊢
  have hl : lv_has ls 2 [(0, .ref (ad 0)), (1, .int a1)] := hl
  generalize hloc : ([] : List Loc) = locs at hw ⊢
  have hM : TT (fun n => m_X12_cheap n 0 a1.toInt (sI w0)) (fun n => m_X12_cheap n 0 a1.toInt (sI w0)) := TT.rf
  refine lv_aload_n hx hb dX12_cheap_0 rfl (lv_at hl 0 rfl) ?_
  refine lv_iload_n hx hb dX12_cheap_1 rfl (lv_at hl 1 rfl) ?_
  refine tk_Vi hC hK hw hT hA hE hSR kM_at0 (by decide) rfl (kz_X12_isStreet_1 l adK adV dC dI cy ad B (by omega) (by omega) qr s1   a1 w0 s.heap.size hT ) (cwV 1 hC.2.2.2.2 uV_RX12_323 rfl rfl rfl (by decide +kernel) ⟨Nat.le_of_ble_eq_true rfl, Nat.le_of_ble_eq_true rfl⟩) rfl hl.1 rfl (Nat.le_of_ble_eq_true rfl) dX12_cheap_2 (fun r1 w3 H locs hp2 hw => ?_)
  obtain ⟨rfl, hv10, hg9⟩ := hp2
  rcases hg9 with rfl | ⟨rfl, g5, g6, ⟨x7, c8, rx7, tx7⟩⟩
  · replace hM := hM.call (r' := 0) hv10 (by decide)
    refine lv_if_eq (tgt := 16) hx hb dX12_cheap_5 (by decide) (fun _ => ?_) (fun c => absurd (by decide) c)
    replace hM := hM.pos (by decide)
    refine lv_iconst (v := (-1)) hx hb dX12_cheap_16 (by decide) ?_
    exact tk_iret hC hr hlocks hK ⟨rfl, hM.ret (by decide), (Or.inr rfl)⟩ hw dX12_cheap_17
  · replace hM := hM.call (r' := 1) hv10 (by decide)
    refine lv_if_eq (tgt := 16) hx hb dX12_cheap_5 (by decide) (fun c => absurd c (by decide)) (fun _ => ?_)
    replace hM := hM.neg (by decide)
    refine lv_aload_n hx hb dX12_cheap_8 rfl (lv_at hl 0 rfl) ?_
    refine lv_iload_n hx hb dX12_cheap_9 rfl (lv_at hl 1 rfl) ?_
    refine tk_Vi hC hK hw hT hA hE hSR kM_at0 (by decide) rfl (kz_X12_cheapOf_1 l adK adV dC dI cy ad B (by omega) (by omega) qr s1   a1 (show 0 ≤ a1.toInt by omega) (show a1.toInt ≤ 11 by omega) w0 H.size hT ) (cwV 1 hC.2.2.2.2 uV_RX12_465 rfl rfl rfl (by decide +kernel) ⟨Nat.le_of_ble_eq_true rfl, Nat.le_of_ble_eq_true rfl⟩) rfl hl.1 rfl (Nat.le_of_ble_eq_true rfl) dX12_cheap_10 (fun r11 w13 H locs hp12 hw => ?_)
    obtain ⟨rfl, hv18, hg17⟩ := hp12
    obtain ⟨g15, g16⟩ := hg17
    replace hM := hM.call hv18 rfl
    refine lv_goto (tgt := 17) hx hb dX12_cheap_13 (by decide) ?_
    exact tk_iret hC hr hlocks hK ⟨rfl, hM.ret rfl, (Or.inl ⟨(show 0 ≤ r11.toInt by omega), (show r11.toInt ≤ 3 by omega), (show 0 ≤ a1.toInt by omega), (show a1.toInt ≤ 11 by omega), ⟨x7, c8, (show 1 ≤ x7.toInt by omega), (show x7.toInt ≤ 12 by omega)⟩⟩)⟩ hw dX12_cheap_17
abbrev Pz_X12_in_13 (ad : Nat → Nat) (cy : Nat → ClassId) (B : Int) (qr : Nat) (s1 : Int) (a0 : Int64) (w0 : va_W) : Int32 → va_W → Prop := fun r u => w0 = u ∧ Ev (fun n => m_X12_in n a0.toInt 0 7 (sI w0)) (r.toInt, sI w0) ∧ ((r = 0) ∨ (r = 1 ∧ 0 ≤ a0.toInt ∧ a0.toInt ≤ 7))
set_option maxHeartbeats 4000000 in
set_option maxRecDepth 100000 in
theorem kz_X12_in_13 (l : Launch) (adK adV : Nat → Nat) (dC : Nat → ClassId) (dI : Nat → Nat → Nat) (cy : Nat → ClassId) (ad : Nat → Nat) (B : Int) (hB0 : 100000 ≤ B) (hB1 : B ≤ 1073741824) (qr : Nat) (s1 : Int)  (a0 : Int64) (ra0 : (-2147483648) ≤ a0.toInt) (ta0 : a0.toInt ≤ 2147483647) (w0 : va_W) (sz : Nat) (hT : TW ksM ad cy B qr 12 w0)  : Met l yX12_in (wu yX12_in cX12_in 6 (some .boolean)) ({ frames := 1, cells := 0, slots := 0, locals := 12 }) (va_Pc [.long a0, .long 0, .long 7] (wpreS adK adV dC dI cy sz w0)) (va_Qi (Pz_X12_in_13 ad cy B qr s1 a0 w0) (fun u : va_W => wpost dC dI cy (va_A w0 sz) u) (va_A w0 sz)) 0 0 (va_A w0 sz) := by
  refine Met.ofW (cc := cX12_in) (maxL := 6) (ret := (some .boolean)) (by decide) rfl ?_
  intro p e s m args below meth c s₁ Bk hml hv
  obtain ⟨rfl, ⟨hsz, hP, hK, hD0⟩, hE, hSR⟩ := hv
  have hx := Bk.exec
  have hb := Bk.bytes
  have hr := Bk.returns
  have hlocks := Bk.notSynchronized
  have hC : CallFix p m c cX12_in 6 s _ (wu yX12_in cX12_in 6 (some .boolean)) RX12 := ⟨hx, hb, hml, findClass_of_methodNamed Bk.named, atoms_spec (ws := (wu yX12_in cX12_in 6 (some .boolean))) Bk.pre⟩
  subst hsz
  have hD := hD0.self (sz := s.heap.size)
  generalize hAe : va_A w0 s.heap.size = A at hD hE ⊢
  have hA : ∀ q : Nat, s.heap.size ≤ q → A q := fun q h => by rw [← hAe]; exact Or.inr h
  have hw : Wd dC dI A s.heap s.heap [] w0 := ⟨hP, hD, va_S.rf⟩
  have hF : FE ksM ([] : List (Nat × Nat × Nat)) w0 w0 := FE.rf
  have hl := lv_entry ([.long a0, .long 0, .long 7]) (n := 6) (Nat.le_of_ble_eq_true rfl)
  rw [lg_entry_eq]
  generalize (lg_sl ([.long a0, .long 0, .long 7]) ++ List.replicate (6 - (lg_sl ([.long a0, .long 0, .long 7])).length) Slot.unset).toArray = ls at hl ⊢
  have hl : lv_has ls 6 [(0, .long a0), (2, .long 0), (4, .long 7)] := hl
  generalize hloc : ([] : List Loc) = locs at hw ⊢
  have J17 : ∀ (H : Heap) (locs : List Loc) (ls : Array Slot), (-2147483648) ≤ a0.toInt → a0.toInt ≤ 2147483647 → Wd dC dI A s.heap H locs w0 → TT (fun n => m_X12_in n a0.toInt 0 7 (sI w0)) (fun n => b_X12_in_17 n (sI w0)) → lv_has ls 6 [(0, .long a0), (2, .long 0), (4, .long 7)] → W p l e ({ frames := 1, cells := 0, slots := 0, locals := 12 }) s m (List.toArray [.long a0, .long 0, .long 7]) below meth c H locs 0 0 (MQ below (va_Qi (Pz_X12_in_13 ad cy B qr s1 a0 w0) (fun u : va_W => wpost dC dI cy A u) A) (List.toArray [.long a0, .long 0, .long 7]) s 0 0 A) (F0 m 17 ls []) := by
    intro H locs ls r1 t2 hw hM hl
    refine lv_iconst (v := 0) hx hb dX12_in_17 (by decide) ?_
    exact tk_zret hC hr rfl hlocks hK ⟨rfl, hM.ret (by decide), (Or.inl rfl)⟩ hw dX12_in_18
  have hM : TT (fun n => m_X12_in n a0.toInt 0 7 (sI w0)) (fun n => m_X12_in n a0.toInt 0 7 (sI w0)) := TT.rf
  refine lv_lload_n hx hb dX12_in_0 rfl (lv_at hl 0 rfl) ?_
  refine lv_lload_n hx hb dX12_in_1 rfl (lv_at hl 1 rfl) ?_
  refine W.lcmp hx hb dX12_in_2 ?_
  refine lv_if_lt (tgt := 17) hx hb dX12_in_3 (by decide) (fun c3 => ?_) (fun c3 => ?_)
  · have c3 : a0.toInt < (0 : Int) := wk_cltT c3
    replace hM := hM.pos c3
    exact J17  s.heap locs ls  (show (-2147483648) ≤ a0.toInt from ra0) (show a0.toInt ≤ 2147483647 from ta0)  hw  hM (lv_sub hl [0, 1, 2] rfl)
  · have c3 : (0 : Int) ≤ a0.toInt := wk_cltF c3
    replace hM := hM.neg (Int.not_lt.mpr c3)
    refine lv_lload_n hx hb dX12_in_6 rfl (lv_at hl 0 rfl) ?_
    refine lv_lload hx hb dX12_in_7 (lv_at hl 2 rfl) ?_
    refine W.lcmp hx hb dX12_in_9 ?_
    refine lv_if_gt (tgt := 17) hx hb dX12_in_10 (by decide) (fun c4 => ?_) (fun c4 => ?_)
    · have c4 : (7 : Int) < a0.toInt := wk_cgtT c4
      replace hM := hM.pos c4
      exact J17  s.heap locs ls  (show (-2147483648) ≤ a0.toInt from ra0) (show a0.toInt ≤ 2147483647 from ta0)  hw  hM (lv_sub hl [0, 1, 2] rfl)
    · have c4 : a0.toInt ≤ (7 : Int) := wk_cgtF c4
      replace hM := hM.neg (Int.not_lt.mpr c4)
      refine lv_iconst (v := 1) hx hb dX12_in_13 (by decide) ?_
      refine lv_goto (tgt := 18) hx hb dX12_in_14 (by decide) ?_
      exact tk_zret hC hr rfl hlocks hK ⟨rfl, hM.ret (by decide), (Or.inr ⟨rfl, (show 0 ≤ a0.toInt by omega), (show a0.toInt ≤ 7 by omega)⟩)⟩ hw dX12_in_18
abbrev Pz_X12_wrong_1 (ad : Nat → Nat) (cy : Nat → ClassId) (B : Int) (qr : Nat) (s1 : Int) (a1 : Int32) (w0 : va_W) : Int32 → va_W → Prop := fun r u => w0 = u ∧ Ev (fun n => m_X12_wrong n 0 a1.toInt (sI w0)) (r.toInt, sI w0) ∧ ((0 ≤ a1.toInt ∧ a1.toInt ≤ 7 ∧ (∃ y : Int32, gi u 12 0 = y ∧ 1 ≤ y.toInt ∧ y.toInt ≤ 10)) ∨ (r = (-1)))
set_option maxHeartbeats 4000000 in
set_option maxRecDepth 100000 in
theorem kz_X12_wrong_1 (l : Launch) (adK adV : Nat → Nat) (dC : Nat → ClassId) (dI : Nat → Nat → Nat) (cy : Nat → ClassId) (ad : Nat → Nat) (B : Int) (hB0 : 100000 ≤ B) (hB1 : B ≤ 1073741824) (qr : Nat) (s1 : Int)  (a1 : Int32) (w0 : va_W) (sz : Nat) (hT : TW ksM ad cy B qr 12 w0)  : Met l yX12_wrong (wu yX12_wrong cX12_wrong 5 (some .int)) ({ frames := 3, cells := 0, slots := 0, locals := 60 }) (va_Pc [.ref (ad 0), .int a1] (wpreS adK adV dC dI cy sz w0)) (va_Qi (Pz_X12_wrong_1 ad cy B qr s1 a1 w0) (fun u : va_W => wpost dC dI cy (va_A w0 sz) u) (va_A w0 sz)) 0 0 (va_A w0 sz) := by
  refine Met.ofW (cc := cX12_wrong) (maxL := 5) (ret := (some .int)) (by decide) rfl ?_
  intro p e s m args below meth c s₁ Bk hml hv
  obtain ⟨rfl, ⟨hsz, hP, hK, hD0⟩, hE, hSR⟩ := hv
  have hx := Bk.exec
  have hb := Bk.bytes
  have hr := Bk.returns
  have hlocks := Bk.notSynchronized
  have hC : CallFix p m c cX12_wrong 5 s _ (wu yX12_wrong cX12_wrong 5 (some .int)) RX12 := ⟨hx, hb, hml, findClass_of_methodNamed Bk.named, atoms_spec (ws := (wu yX12_wrong cX12_wrong 5 (some .int))) Bk.pre⟩
  subst hsz
  have hD := hD0.self (sz := s.heap.size)
  generalize hAe : va_A w0 s.heap.size = A at hD hE ⊢
  have hA : ∀ q : Nat, s.heap.size ≤ q → A q := fun q h => by rw [← hAe]; exact Or.inr h
  have hw : Wd dC dI A s.heap s.heap [] w0 := ⟨hP, hD, va_S.rf⟩
  have hF : FE ksM ([] : List (Nat × Nat × Nat)) w0 w0 := FE.rf
  have hl := lv_entry ([.ref (ad 0), .int a1]) (n := 5) (Nat.le_of_ble_eq_true rfl)
  rw [lg_entry_eq]
  generalize (lg_sl ([.ref (ad 0), .int a1]) ++ List.replicate (5 - (lg_sl ([.ref (ad 0), .int a1])).length) Slot.unset).toArray = ls at hl ⊢
  have hl : lv_has ls 5 [(0, .ref (ad 0)), (1, .int a1)] := hl
  generalize hloc : ([] : List Loc) = locs at hw ⊢
  have hinX12 : ∀ w ∈ u_ws RX12 TX12 42, w ∈ (wu yX12_wrong cX12_wrong 5 (some .int)) := fun _ h => List.mem_cons_of_mem _ (up_71 h)
  have J19 : ∀ (f19_12_0 : Int32) (H : Heap) (locs : List Loc) (ls : Array Slot), 0 ≤ f19_12_0.toInt → f19_12_0.toInt ≤ 10 → Wd dC dI A s.heap H locs w0 → gi w0 12 0 = f19_12_0 → TT (fun n => m_X12_wrong n 0 a1.toInt (sI w0)) (fun n => b_X12_wrong_19 (j_X12_wrong 0 n) n 0 (sI w0)) → lv_has ls 5 [(0, .ref (ad 0)), (1, .int a1)] → W p l e ({ frames := 3, cells := 0, slots := 0, locals := 60 }) s m (List.toArray [.ref (ad 0), .int a1]) below meth c H locs 0 0 (MQ below (va_Qi (Pz_X12_wrong_1 ad cy B qr s1 a1 w0) (fun u : va_W => wpost dC dI cy A u) A) (List.toArray [.ref (ad 0), .int a1]) s 0 0 A) (F0 m 19 ls []) := by
    intro f19_12_0 H locs ls r1 t2 hw c3 hM hl
    refine lv_iconst (v := (-1)) hx hb dX12_wrong_19 (by decide) ?_
    exact tk_iret hC hr hlocks hK ⟨rfl, hM.ret (by decide), (Or.inr rfl)⟩ hw dX12_wrong_20
  have L25 : ∀ (n25 : Nat) (v25_2 : Int32) (v25_3 : Int32) (f25_12_0 : Int32) (H : Heap) (locs : List Loc) (ls : Array Slot), 0 ≤ a1.toInt → a1.toInt ≤ 7 → 0 ≤ v25_3.toInt → v25_3.toInt ≤ 12 → 1 ≤ f25_12_0.toInt → f25_12_0.toInt ≤ 10 → (12 - v25_3.toInt).toNat < n25 → Wd dC dI A s.heap H locs w0 → gi w0 12 0 = f25_12_0 → TT (fun n => m_X12_wrong n 0 a1.toInt (sI w0)) (fun n => j_X12_wrong 0 n 25 [a1.toInt, v25_2.toInt, v25_3.toInt] (sI w0)) → lv_has ls 5 [(0, .ref (ad 0)), (1, .int a1), (2, .int v25_2), (3, .int v25_3)] → W p l e ({ frames := 3, cells := 0, slots := 0, locals := 60 }) s m (List.toArray [.ref (ad 0), .int a1]) below meth c H locs 0 0 (MQ below (va_Qi (Pz_X12_wrong_1 ad cy B qr s1 a1 w0) (fun u : va_W => wpost dC dI cy A u) A) (List.toArray [.ref (ad 0), .int a1]) s 0 0 A) (F0 m 25 ls []) := by
    intro n25
    induction n25 with
    | zero => intro v25_2 v25_3 f25_12_0 H locs ls r4 t5 r6 t7 r8 t9 hm25 hw c10 hM hl; omega
    | succ n25 ih25 =>
      intro v25_2 v25_3 f25_12_0 H locs ls r4 t5 r6 t7 r8 t9 hm25 hw c10 hM hl
      have L38 : ∀ (n38 : Nat) (v38_2 : Int32) (v38_4 : Int32) (f38_12_1 : Int32) (H : Heap) (locs : List Loc) (ls : Array Slot), 0 ≤ a1.toInt → a1.toInt ≤ 7 → 0 ≤ v25_3.toInt → v25_3.toInt ≤ 11 → 0 ≤ v38_4.toInt → v38_4.toInt ≤ 7 → 1 ≤ f25_12_0.toInt → f25_12_0.toInt ≤ 10 → 1 ≤ f38_12_1.toInt → f38_12_1.toInt ≤ 12 → (7 - v38_4.toInt).toNat < n38 → Wd dC dI A s.heap H locs w0 → gi w0 12 0 = f25_12_0 → gi w0 12 1 = f38_12_1 → TT (fun n => m_X12_wrong n 0 a1.toInt (sI w0)) (fun n => j_X12_wrong 0 n 38 [a1.toInt, v38_2.toInt, v25_3.toInt, v38_4.toInt] (sI w0)) → lv_has ls 5 [(0, .ref (ad 0)), (1, .int a1), (2, .int v38_2), (3, .int v25_3), (4, .int v38_4)] → W p l e ({ frames := 3, cells := 0, slots := 0, locals := 60 }) s m (List.toArray [.ref (ad 0), .int a1]) below meth c H locs 0 0 (MQ below (va_Qi (Pz_X12_wrong_1 ad cy B qr s1 a1 w0) (fun u : va_W => wpost dC dI cy A u) A) (List.toArray [.ref (ad 0), .int a1]) s 0 0 A) (F0 m 38 ls []) := by
        intro n38
        induction n38 with
        | zero => intro v38_2 v38_4 f38_12_1 H locs ls r11 t12 r13 t14 r15 t16 r17 t18 r20 t21 hm38 hw c19 c22 hM hl; omega
        | succ n38 ih38 =>
          intro v38_2 v38_4 f38_12_1 H locs ls r11 t12 r13 t14 r15 t16 r17 t18 r20 t21 hm38 hw c19 c22 hM hl
          replace hM := hM.suc (fun _ => e_X12_wrong_38)
          refine lv_iload hx hb dX12_wrong_38 (lv_at hl 4 rfl) ?_
          refine lv_bipush (v := 7) hx hb dX12_wrong_40 (by decide) ?_
          refine lv_icmp_ge (tgt := 88) hx hb dX12_wrong_42 (by decide) (fun c23 => ?_) (fun c23 => ?_)
          · have c23 : (7 : Int) ≤ v38_4.toInt := wk_le.mp c23
            replace hM := hM.pos c23
            obtain ⟨x24, ex24⟩ : ∃ y : Int32, y = v25_3 + Int32.ofInt 1 := ⟨_, rfl⟩
            have erx24 := ex24
            refine lv_iinc (v := x24) (lv' := [(3, .int x24), (0, .ref (ad 0)), (1, .int a1), (2, .int v38_2), (4, .int v38_4)]) hx hb dX12_wrong_88 hl (k := 3) rfl ex24.symm (by decide) rfl (fun ls hl => ?_)
            have ex24 : x24.toInt = v25_3.toInt + 1 := by rw [ex24]; exact wk_add (y := 1) (show -2147483648 ≤ v25_3.toInt + 1 by omega) (show v25_3.toInt + 1 ≤ 2147483647 by omega)
            replace hM := hM.lt ex24.symm
            refine lv_goto (tgt := 25) hx hb dX12_wrong_91 (by decide) ?_
            exact ih25 v38_2 x24 f25_12_0 H locs ls  (show 0 ≤ a1.toInt from r11) (show a1.toInt ≤ 7 from t12) (show 0 ≤ x24.toInt by omega) (show x24.toInt ≤ 12 by omega) (show 1 ≤ f25_12_0.toInt from r17) (show f25_12_0.toInt ≤ 10 from t18) (show (12 - x24.toInt).toNat < n25 by omega) hw  c19 hM (lv_sub hl [1, 2, 3, 0] rfl)
          · have c23 : v38_4.toInt < (7 : Int) := wk_leF c23
            replace hM := hM.neg (Int.not_le.mpr c23)
            refine lv_iload_n hx hb dX12_wrong_45 rfl (lv_at hl 2 rfl) ?_
            refine lv_iload_n hx hb dX12_wrong_46 rfl (lv_at hl 1 rfl) ?_
            refine lv_bipush (v := 7) hx hb dX12_wrong_47 (by decide) ?_
            refine lv_icmp_eq (tgt := 58) hx hb dX12_wrong_49 (by decide) (fun c25 => ?_) (fun c25 => ?_)
            · have c25 : a1.toInt = (7 : Int) := wk_eq.mp c25
              replace hM := hM.pos c25
              refine lv_aload_n hx hb dX12_wrong_58 rfl (lv_at hl 0 rfl) ?_
              refine lv_iload_n hx hb dX12_wrong_59 rfl (lv_at hl 3 rfl) ?_
              refine lv_iconst (v := 3) hx hb dX12_wrong_60 (by decide) ?_
              refine lv_iload hx hb dX12_wrong_61 (lv_at hl 4 rfl) ?_
              refine lv_iadd hx hb dX12_wrong_63 ?_
              refine lv_topi (fun x26 ex26 => ?_)
              have ezx26 := ex26
              have ex26 : x26.toInt = (3 : Int) + v38_4.toInt := by rw [ex26]; exact wk_add (show (-2147483648) ≤ (3 : Int) + v38_4.toInt by omega) (show (3 : Int) + v38_4.toInt ≤ 2147483647 by omega)
              replace hM := hM.lt ex26.symm
              refine tk_Vi hC hK hw hT hA hE hSR kM_at0 (by decide) rfl (kz_X12_streetOf_2 l adK adV dC dI cy ad B (by omega) (by omega) qr s1   v25_3 (show 0 ≤ v25_3.toInt from r13) (show v25_3.toInt ≤ 11 from t14) x26 (show 3 ≤ x26.toInt by omega) (show x26.toInt ≤ 9 by omega) w0 H.size hT ) (cwV 2 hC.2.2.2.2 uV_RX12_300 rfl rfl rfl (by decide +kernel) ⟨Nat.le_of_ble_eq_true rfl, Nat.le_of_ble_eq_true rfl⟩) rfl hl.1 rfl (Nat.le_of_ble_eq_true rfl) dX12_wrong_64 (fun r27 w29 H locs hp28 hw => ?_)
              obtain ⟨rfl, hv35, hg34⟩ := hp28
              obtain ⟨g31, g32, c33⟩ := hg34
              replace hM := hM.call hv35 rfl
              refine lv_aload_n hx hb dX12_wrong_67 rfl (lv_at hl 0 rfl) ?_
              refine lv_iload_n hx hb dX12_wrong_68 rfl (lv_at hl 3 rfl) ?_
              refine tk_Vi hC hK hw hT hA hE hSR kM_at0 (by decide) rfl (kz_X12_cheapOf_1 l adK adV dC dI cy ad B (by omega) (by omega) qr s1   v25_3 (show 0 ≤ v25_3.toInt from r13) (show v25_3.toInt ≤ 11 from t14) w0 H.size hT ) (cwV 1 hC.2.2.2.2 uV_RX12_465 rfl rfl rfl (by decide +kernel) ⟨Nat.le_of_ble_eq_true rfl, Nat.le_of_ble_eq_true rfl⟩) rfl hl.1 rfl (Nat.le_of_ble_eq_true rfl) dX12_wrong_69 (fun r36 w38 H locs hp37 hw => ?_)
              obtain ⟨rfl, hv43, hg42⟩ := hp37
              obtain ⟨g40, g41⟩ := hg42
              replace hM := hM.call hv43 rfl
              refine lv_icmp_eq (tgt := 79) hx hb dX12_wrong_72 (by decide) (fun c44 => ?_) (fun c44 => ?_)
              · have c44 : r27.toInt = r36.toInt := wk_eq.mp c44
                replace hM := hM.pos c44
                have hM : TT (fun n => m_X12_wrong n 0 a1.toInt (sI w0)) (fun n => b_X12_wrong_80 (j_X12_wrong 0 n) n 0 (a1.toInt) (v25_3.toInt) (v38_4.toInt) 0 (v38_2.toInt) (sI w0)) := hM
                refine lv_iconst (v := 0) hx hb dX12_wrong_79 (by decide) ?_
                refine lv_iadd hx hb dX12_wrong_80 ?_
                have nx45 := wk_i32 v38_2
                refine lv_topi (fun x46 ex46 => ?_)
                have ezx46 := ex46
                have ex46 : x46.toInt = v38_2.toInt + (0 : Int) := by rw [ex46]; exact wk_add (show (-2147483648) ≤ v38_2.toInt + (0 : Int) by omega) (show v38_2.toInt + (0 : Int) ≤ 2147483647 by omega)
                replace hM := hM.lt (o32_e (f := fun x y => x + y) ezx46 rfl (by decide))
                refine lv_istore_n (lv' := [(2, .int x46), (0, .ref (ad 0)), (1, .int a1), (3, .int v25_3), (4, .int v38_4)]) hx hb dX12_wrong_81 rfl hl (by decide) rfl (fun ls hl => ?_)
                obtain ⟨x47, ex47⟩ : ∃ y : Int32, y = v38_4 + Int32.ofInt 1 := ⟨_, rfl⟩
                have erx47 := ex47
                refine lv_iinc (v := x47) (lv' := [(4, .int x47), (2, .int x46), (0, .ref (ad 0)), (1, .int a1), (3, .int v25_3)]) hx hb dX12_wrong_82 hl (k := 4) rfl ex47.symm (by decide) rfl (fun ls hl => ?_)
                have ex47 : x47.toInt = v38_4.toInt + 1 := by rw [ex47]; exact wk_add (y := 1) (show -2147483648 ≤ v38_4.toInt + 1 by omega) (show v38_4.toInt + 1 ≤ 2147483647 by omega)
                replace hM := hM.lt ex47.symm
                refine lv_goto (tgt := 38) hx hb dX12_wrong_85 (by decide) ?_
                exact ih38 x46 x47 f38_12_1 H locs ls  (show 0 ≤ a1.toInt from r11) (show a1.toInt ≤ 7 from t12) (show 0 ≤ v25_3.toInt from r13) (show v25_3.toInt ≤ 11 from t14) (show 0 ≤ x47.toInt by omega) (show x47.toInt ≤ 7 by omega) (show 1 ≤ f25_12_0.toInt from r17) (show f25_12_0.toInt ≤ 10 from t18) (show 1 ≤ f38_12_1.toInt from r20) (show f38_12_1.toInt ≤ 12 from t21) (show (7 - x47.toInt).toNat < n38 by omega) hw  c19 c22 hM (lv_sub hl [2, 3, 1, 4, 0] rfl)
              · have c44 : ¬ r27.toInt = r36.toInt := wk_eqF c44
                replace hM := hM.neg c44
                refine lv_iconst (v := 1) hx hb dX12_wrong_75 (by decide) ?_
                refine lv_goto (tgt := 80) hx hb dX12_wrong_76 (by decide) ?_
                refine lv_iadd hx hb dX12_wrong_80 ?_
                have nx48 := wk_i32 v38_2
                refine lv_topi (fun x49 ex49 => ?_)
                have ezx49 := ex49
                replace hM := hM.lt (o32_e (f := fun x y => x + y) ezx49 rfl (by decide))
                refine lv_istore_n (lv' := [(2, .int x49), (0, .ref (ad 0)), (1, .int a1), (3, .int v25_3), (4, .int v38_4)]) hx hb dX12_wrong_81 rfl hl (by decide) rfl (fun ls hl => ?_)
                obtain ⟨x50, ex50⟩ : ∃ y : Int32, y = v38_4 + Int32.ofInt 1 := ⟨_, rfl⟩
                have erx50 := ex50
                refine lv_iinc (v := x50) (lv' := [(4, .int x50), (2, .int x49), (0, .ref (ad 0)), (1, .int a1), (3, .int v25_3)]) hx hb dX12_wrong_82 hl (k := 4) rfl ex50.symm (by decide) rfl (fun ls hl => ?_)
                have ex50 : x50.toInt = v38_4.toInt + 1 := by rw [ex50]; exact wk_add (y := 1) (show -2147483648 ≤ v38_4.toInt + 1 by omega) (show v38_4.toInt + 1 ≤ 2147483647 by omega)
                replace hM := hM.lt ex50.symm
                refine lv_goto (tgt := 38) hx hb dX12_wrong_85 (by decide) ?_
                exact ih38 x49 x50 f38_12_1 H locs ls  (show 0 ≤ a1.toInt from r11) (show a1.toInt ≤ 7 from t12) (show 0 ≤ v25_3.toInt from r13) (show v25_3.toInt ≤ 11 from t14) (show 0 ≤ x50.toInt by omega) (show x50.toInt ≤ 7 by omega) (show 1 ≤ f25_12_0.toInt from r17) (show f25_12_0.toInt ≤ 10 from t18) (show 1 ≤ f38_12_1.toInt from r20) (show f38_12_1.toInt ≤ 12 from t21) (show (7 - x50.toInt).toNat < n38 by omega) hw  c19 c22 hM (lv_sub hl [2, 3, 1, 4, 0] rfl)
            · have c25 : ¬ a1.toInt = (7 : Int) := wk_eqF c25
              replace hM := hM.neg c25
              refine lv_iload_n hx hb dX12_wrong_52 rfl (lv_at hl 1 rfl) ?_
              refine lv_iload hx hb dX12_wrong_53 (lv_at hl 4 rfl) ?_
              refine lv_icmp_ne (tgt := 79) hx hb dX12_wrong_55 (by decide) (fun c51 => ?_) (fun c51 => ?_)
              · have c51 : ¬ a1.toInt = v38_4.toInt := wk_eqF c51
                replace hM := hM.pos c51
                have hM : TT (fun n => m_X12_wrong n 0 a1.toInt (sI w0)) (fun n => b_X12_wrong_80 (j_X12_wrong 0 n) n 0 (a1.toInt) (v25_3.toInt) (v38_4.toInt) 0 (v38_2.toInt) (sI w0)) := hM
                refine lv_iconst (v := 0) hx hb dX12_wrong_79 (by decide) ?_
                refine lv_iadd hx hb dX12_wrong_80 ?_
                have nx52 := wk_i32 v38_2
                refine lv_topi (fun x53 ex53 => ?_)
                have ezx53 := ex53
                have ex53 : x53.toInt = v38_2.toInt + (0 : Int) := by rw [ex53]; exact wk_add (show (-2147483648) ≤ v38_2.toInt + (0 : Int) by omega) (show v38_2.toInt + (0 : Int) ≤ 2147483647 by omega)
                replace hM := hM.lt (o32_e (f := fun x y => x + y) ezx53 rfl (by decide))
                refine lv_istore_n (lv' := [(2, .int x53), (0, .ref (ad 0)), (1, .int a1), (3, .int v25_3), (4, .int v38_4)]) hx hb dX12_wrong_81 rfl hl (by decide) rfl (fun ls hl => ?_)
                obtain ⟨x54, ex54⟩ : ∃ y : Int32, y = v38_4 + Int32.ofInt 1 := ⟨_, rfl⟩
                have erx54 := ex54
                refine lv_iinc (v := x54) (lv' := [(4, .int x54), (2, .int x53), (0, .ref (ad 0)), (1, .int a1), (3, .int v25_3)]) hx hb dX12_wrong_82 hl (k := 4) rfl ex54.symm (by decide) rfl (fun ls hl => ?_)
                have ex54 : x54.toInt = v38_4.toInt + 1 := by rw [ex54]; exact wk_add (y := 1) (show -2147483648 ≤ v38_4.toInt + 1 by omega) (show v38_4.toInt + 1 ≤ 2147483647 by omega)
                replace hM := hM.lt ex54.symm
                refine lv_goto (tgt := 38) hx hb dX12_wrong_85 (by decide) ?_
                exact ih38 x53 x54 f38_12_1 H locs ls  (show 0 ≤ a1.toInt from r11) (show a1.toInt ≤ 7 from t12) (show 0 ≤ v25_3.toInt from r13) (show v25_3.toInt ≤ 11 from t14) (show 0 ≤ x54.toInt by omega) (show x54.toInt ≤ 7 by omega) (show 1 ≤ f25_12_0.toInt from r17) (show f25_12_0.toInt ≤ 10 from t18) (show 1 ≤ f38_12_1.toInt from r20) (show f38_12_1.toInt ≤ 12 from t21) (show (7 - x54.toInt).toNat < n38 by omega) hw  c19 c22 hM (lv_sub hl [2, 3, 1, 4, 0] rfl)
              · have c51 : a1.toInt = v38_4.toInt := wk_eq.mp c51
                replace hM := hM.neg (fun q => q c51)
                refine lv_aload_n hx hb dX12_wrong_58 rfl (lv_at hl 0 rfl) ?_
                refine lv_iload_n hx hb dX12_wrong_59 rfl (lv_at hl 3 rfl) ?_
                refine lv_iconst (v := 3) hx hb dX12_wrong_60 (by decide) ?_
                refine lv_iload hx hb dX12_wrong_61 (lv_at hl 4 rfl) ?_
                refine lv_iadd hx hb dX12_wrong_63 ?_
                refine lv_topi (fun x55 ex55 => ?_)
                have ezx55 := ex55
                have ex55 : x55.toInt = (3 : Int) + v38_4.toInt := by rw [ex55]; exact wk_add (show (-2147483648) ≤ (3 : Int) + v38_4.toInt by omega) (show (3 : Int) + v38_4.toInt ≤ 2147483647 by omega)
                replace hM := hM.lt ex55.symm
                refine tk_Vi hC hK hw hT hA hE hSR kM_at0 (by decide) rfl (kz_X12_streetOf_2 l adK adV dC dI cy ad B (by omega) (by omega) qr s1   v25_3 (show 0 ≤ v25_3.toInt from r13) (show v25_3.toInt ≤ 11 from t14) x55 (show 3 ≤ x55.toInt by omega) (show x55.toInt ≤ 9 by omega) w0 H.size hT ) (cwV 2 hC.2.2.2.2 uV_RX12_300 rfl rfl rfl (by decide +kernel) ⟨Nat.le_of_ble_eq_true rfl, Nat.le_of_ble_eq_true rfl⟩) rfl hl.1 rfl (Nat.le_of_ble_eq_true rfl) dX12_wrong_64 (fun r56 w58 H locs hp57 hw => ?_)
                obtain ⟨rfl, hv64, hg63⟩ := hp57
                obtain ⟨g60, g61, c62⟩ := hg63
                replace hM := hM.call hv64 rfl
                refine lv_aload_n hx hb dX12_wrong_67 rfl (lv_at hl 0 rfl) ?_
                refine lv_iload_n hx hb dX12_wrong_68 rfl (lv_at hl 3 rfl) ?_
                refine tk_Vi hC hK hw hT hA hE hSR kM_at0 (by decide) rfl (kz_X12_cheapOf_1 l adK adV dC dI cy ad B (by omega) (by omega) qr s1   v25_3 (show 0 ≤ v25_3.toInt from r13) (show v25_3.toInt ≤ 11 from t14) w0 H.size hT ) (cwV 1 hC.2.2.2.2 uV_RX12_465 rfl rfl rfl (by decide +kernel) ⟨Nat.le_of_ble_eq_true rfl, Nat.le_of_ble_eq_true rfl⟩) rfl hl.1 rfl (Nat.le_of_ble_eq_true rfl) dX12_wrong_69 (fun r65 w67 H locs hp66 hw => ?_)
                obtain ⟨rfl, hv72, hg71⟩ := hp66
                obtain ⟨g69, g70⟩ := hg71
                replace hM := hM.call hv72 rfl
                refine lv_icmp_eq (tgt := 79) hx hb dX12_wrong_72 (by decide) (fun c73 => ?_) (fun c73 => ?_)
                · have c73 : r56.toInt = r65.toInt := wk_eq.mp c73
                  replace hM := hM.pos c73
                  have hM : TT (fun n => m_X12_wrong n 0 a1.toInt (sI w0)) (fun n => b_X12_wrong_80 (j_X12_wrong 0 n) n 0 (a1.toInt) (v25_3.toInt) (v38_4.toInt) 0 (v38_2.toInt) (sI w0)) := hM
                  refine lv_iconst (v := 0) hx hb dX12_wrong_79 (by decide) ?_
                  refine lv_iadd hx hb dX12_wrong_80 ?_
                  have nx74 := wk_i32 v38_2
                  refine lv_topi (fun x75 ex75 => ?_)
                  have ezx75 := ex75
                  have ex75 : x75.toInt = v38_2.toInt + (0 : Int) := by rw [ex75]; exact wk_add (show (-2147483648) ≤ v38_2.toInt + (0 : Int) by omega) (show v38_2.toInt + (0 : Int) ≤ 2147483647 by omega)
                  replace hM := hM.lt (o32_e (f := fun x y => x + y) ezx75 rfl (by decide))
                  refine lv_istore_n (lv' := [(2, .int x75), (0, .ref (ad 0)), (1, .int a1), (3, .int v25_3), (4, .int v38_4)]) hx hb dX12_wrong_81 rfl hl (by decide) rfl (fun ls hl => ?_)
                  obtain ⟨x76, ex76⟩ : ∃ y : Int32, y = v38_4 + Int32.ofInt 1 := ⟨_, rfl⟩
                  have erx76 := ex76
                  refine lv_iinc (v := x76) (lv' := [(4, .int x76), (2, .int x75), (0, .ref (ad 0)), (1, .int a1), (3, .int v25_3)]) hx hb dX12_wrong_82 hl (k := 4) rfl ex76.symm (by decide) rfl (fun ls hl => ?_)
                  have ex76 : x76.toInt = v38_4.toInt + 1 := by rw [ex76]; exact wk_add (y := 1) (show -2147483648 ≤ v38_4.toInt + 1 by omega) (show v38_4.toInt + 1 ≤ 2147483647 by omega)
                  replace hM := hM.lt ex76.symm
                  refine lv_goto (tgt := 38) hx hb dX12_wrong_85 (by decide) ?_
                  exact ih38 x75 x76 f38_12_1 H locs ls  (show 0 ≤ a1.toInt from r11) (show a1.toInt ≤ 7 from t12) (show 0 ≤ v25_3.toInt from r13) (show v25_3.toInt ≤ 11 from t14) (show 0 ≤ x76.toInt by omega) (show x76.toInt ≤ 7 by omega) (show 1 ≤ f25_12_0.toInt from r17) (show f25_12_0.toInt ≤ 10 from t18) (show 1 ≤ f38_12_1.toInt from r20) (show f38_12_1.toInt ≤ 12 from t21) (show (7 - x76.toInt).toNat < n38 by omega) hw  c19 c22 hM (lv_sub hl [2, 3, 1, 4, 0] rfl)
                · have c73 : ¬ r56.toInt = r65.toInt := wk_eqF c73
                  replace hM := hM.neg c73
                  refine lv_iconst (v := 1) hx hb dX12_wrong_75 (by decide) ?_
                  refine lv_goto (tgt := 80) hx hb dX12_wrong_76 (by decide) ?_
                  refine lv_iadd hx hb dX12_wrong_80 ?_
                  have nx77 := wk_i32 v38_2
                  refine lv_topi (fun x78 ex78 => ?_)
                  have ezx78 := ex78
                  replace hM := hM.lt (o32_e (f := fun x y => x + y) ezx78 rfl (by decide))
                  refine lv_istore_n (lv' := [(2, .int x78), (0, .ref (ad 0)), (1, .int a1), (3, .int v25_3), (4, .int v38_4)]) hx hb dX12_wrong_81 rfl hl (by decide) rfl (fun ls hl => ?_)
                  obtain ⟨x79, ex79⟩ : ∃ y : Int32, y = v38_4 + Int32.ofInt 1 := ⟨_, rfl⟩
                  have erx79 := ex79
                  refine lv_iinc (v := x79) (lv' := [(4, .int x79), (2, .int x78), (0, .ref (ad 0)), (1, .int a1), (3, .int v25_3)]) hx hb dX12_wrong_82 hl (k := 4) rfl ex79.symm (by decide) rfl (fun ls hl => ?_)
                  have ex79 : x79.toInt = v38_4.toInt + 1 := by rw [ex79]; exact wk_add (y := 1) (show -2147483648 ≤ v38_4.toInt + 1 by omega) (show v38_4.toInt + 1 ≤ 2147483647 by omega)
                  replace hM := hM.lt ex79.symm
                  refine lv_goto (tgt := 38) hx hb dX12_wrong_85 (by decide) ?_
                  exact ih38 x78 x79 f38_12_1 H locs ls  (show 0 ≤ a1.toInt from r11) (show a1.toInt ≤ 7 from t12) (show 0 ≤ v25_3.toInt from r13) (show v25_3.toInt ≤ 11 from t14) (show 0 ≤ x79.toInt by omega) (show x79.toInt ≤ 7 by omega) (show 1 ≤ f25_12_0.toInt from r17) (show f25_12_0.toInt ≤ 10 from t18) (show 1 ≤ f38_12_1.toInt from r20) (show f38_12_1.toInt ≤ 12 from t21) (show (7 - x79.toInt).toNat < n38 by omega) hw  c19 c22 hM (lv_sub hl [2, 3, 1, 4, 0] rfl)
      replace hM := hM.suc (fun _ => e_X12_wrong_25)
      refine lv_iload_n hx hb dX12_wrong_25 rfl (lv_at hl 3 rfl) ?_
      refine lv_aload_n hx hb dX12_wrong_26 rfl (lv_at hl 0 rfl) ?_
      refine tk_getA hC hK hw hT hinX12 kM_at0 (by decide) rfl 26 (by decide) (List.mem_cons_of_mem _ uw_7_1) rfl rfl dX12_wrong_27 ?_
      refine lv_iconst (v := 1) hx hb dX12_wrong_30 (by decide) ?_
      refine tk_ialdR hC hK hw hT kM_at12 rfl (by decide) (by decide) dX12_wrong_31 (fun x80 c81 Ex80 => ?_)
      have hox80 := c81
      replace hM := hM.rd (sI_at hox80)
      have bx80 : 0 ≤ x80.toInt ∧ x80.toInt ≤ 12 := (tk_rg1 rfl).mp Ex80
      have c81 : gi w0 12 1 = x80 := c81
      refine lv_icmp_ge (tgt := 94) hx hb dX12_wrong_32 (by decide) (fun c82 => ?_) (fun c82 => ?_)
      · have c82 : x80.toInt ≤ v25_3.toInt := wk_le.mp c82
        replace hM := hM.pos c82
        refine lv_iload_n hx hb dX12_wrong_94 rfl (lv_at hl 2 rfl) ?_
        exact tk_iret hC hr hlocks hK ⟨rfl, hM.ret rfl, (Or.inl ⟨(show 0 ≤ a1.toInt from r4), (show a1.toInt ≤ 7 from t5), ⟨f25_12_0, c10, (show 1 ≤ f25_12_0.toInt from r8), (show f25_12_0.toInt ≤ 10 from t9)⟩⟩)⟩ hw dX12_wrong_95
      · have c82 : v25_3.toInt < x80.toInt := wk_leF c82
        replace hM := hM.neg (Int.not_le.mpr c82)
        refine lv_iconst (v := 0) hx hb dX12_wrong_35 (by decide) ?_
        refine lv_istore (lv' := [(4, .int 0), (0, .ref (ad 0)), (1, .int a1), (2, .int v25_2), (3, .int v25_3)]) hx hb dX12_wrong_36 hl (by decide) rfl (fun ls hl => ?_)
        exact L38 ((7 - (0 : Int)).toNat + 1) v25_2 0 x80 H locs ls  (show 0 ≤ a1.toInt from r4) (show a1.toInt ≤ 7 from t5) (show 0 ≤ v25_3.toInt from r6) (show v25_3.toInt ≤ 11 by omega) (by decide) (by decide) (show 1 ≤ f25_12_0.toInt from r8) (show f25_12_0.toInt ≤ 10 from t9) (show 1 ≤ x80.toInt by omega) (show x80.toInt ≤ 12 by omega) (Nat.lt_succ_self _) hw  c10 c81 hM (lv_sub hl [1, 2, 3, 4, 0] rfl)
  have hM : TT (fun n => m_X12_wrong n 0 a1.toInt (sI w0)) (fun n => m_X12_wrong n 0 a1.toInt (sI w0)) := TT.rf
  refine lv_aload_n hx hb dX12_wrong_0 rfl (lv_at hl 0 rfl) ?_
  refine tk_Vi hC hK hw hT hA hE hSR kM_at0 (by decide) rfl (kz_X12_isTown_1 l adK adV dC dI cy ad B (by omega) (by omega) qr s1    w0 s.heap.size hT ) (cwV 0 hC.2.2.2.2 uV_RX12_337 rfl rfl rfl (by decide +kernel) ⟨Nat.le_of_ble_eq_true rfl, Nat.le_of_ble_eq_true rfl⟩) rfl hl.1 rfl (Nat.le_of_ble_eq_true rfl) dX12_wrong_1 (fun r83 w85 H locs hp84 hw => ?_)
  obtain ⟨rfl, hv92, hg91⟩ := hp84
  rcases hg91 with ⟨rfl, ⟨x87, c88, rx87, tx87⟩⟩ | ⟨rfl, ⟨x89, c90, rx89, tx89⟩⟩
  · replace hM := hM.call (r' := 0) hv92 (by decide)
    refine lv_if_eq (tgt := 19) hx hb dX12_wrong_4 (by decide) (fun _ => ?_) (fun c => absurd (by decide) c)
    replace hM := hM.pos (by decide)
    exact J19 x87 H locs ls  (show 0 ≤ x87.toInt by omega) (show x87.toInt ≤ 10 by omega)  hw  c88 hM (lv_sub hl [0, 1] rfl)
  · replace hM := hM.call (r' := 1) hv92 (by decide)
    refine lv_if_eq (tgt := 19) hx hb dX12_wrong_4 (by decide) (fun c => absurd c (by decide)) (fun _ => ?_)
    replace hM := hM.neg (by decide)
    refine lv_iload_n hx hb dX12_wrong_7 rfl (lv_at hl 1 rfl) ?_
    refine lv_i2l hx hb dX12_wrong_8 rfl ?_
    refine lv_topl (fun x93 ex93 => ?_)
    have ex93 : x93.toInt = a1.toInt := by rw [ex93]; exact wk_i2l _
    have bx93 := wk_i32 a1
    replace hM := hM.lt ex93.symm
    refine lv_lconst (v := 0) hx hb dX12_wrong_9 (by decide) ?_
    refine lv_ldc2 (v := 7) hx hb hC.2.2.2.1 (hC.2.2.2.2 _ (List.mem_cons_of_mem _ uw_40_23)) dX12_wrong_10 ?_
    refine tk_Si hC hK hw hT hA hE hSR (kz_X12_in_13 l adK adV dC dI cy ad B (by omega) (by omega) qr s1   x93 (show (-2147483648) ≤ x93.toInt by omega) (show x93.toInt ≤ 2147483647 by omega) w0 H.size hT ) (va_cwS 3 hC.2.2.2.2 uS_RX12_122 rfl rfl rfl (by decide +kernel) ⟨Nat.le_of_ble_eq_true rfl, Nat.le_of_ble_eq_true rfl⟩) rfl hl.1 rfl (Nat.le_of_ble_eq_true rfl) dX12_wrong_13 (fun r94 w96 H locs hp95 hw => ?_)
    obtain ⟨rfl, hv101, hg100⟩ := hp95
    rcases hg100 with rfl | ⟨rfl, g98, g99⟩
    · replace hM := hM.call (r' := 0) hv101 (by decide)
      refine lv_if_ne (tgt := 21) hx hb dX12_wrong_16 (by decide) (fun c => absurd (by decide) c) (fun _ => ?_)
      replace hM := hM.neg (by decide)
      exact J19 x89 H locs ls  (show 0 ≤ x89.toInt by omega) (show x89.toInt ≤ 10 by omega)  hw  c90 hM (lv_sub hl [0, 1] rfl)
    · replace hM := hM.call (r' := 1) hv101 (by decide)
      refine lv_if_ne (tgt := 21) hx hb dX12_wrong_16 (by decide) (fun _ => ?_) (fun c => absurd c (by decide))
      replace hM := hM.pos (by decide)
      refine lv_iconst (v := 0) hx hb dX12_wrong_21 (by decide) ?_
      refine lv_istore_n (lv' := [(2, .int 0), (0, .ref (ad 0)), (1, .int a1)]) hx hb dX12_wrong_22 rfl hl (by decide) rfl (fun ls hl => ?_)
      refine lv_iconst (v := 0) hx hb dX12_wrong_23 (by decide) ?_
      refine lv_istore_n (lv' := [(3, .int 0), (2, .int 0), (0, .ref (ad 0)), (1, .int a1)]) hx hb dX12_wrong_24 rfl hl (by decide) rfl (fun ls hl => ?_)
      exact L25 ((12 - (0 : Int)).toNat + 1) 0 0 x89 H locs ls  (show 0 ≤ a1.toInt by omega) (show a1.toInt ≤ 7 by omega) (by decide) (by decide) (show 1 ≤ x89.toInt by omega) (show x89.toInt ≤ 10 by omega) (Nat.lt_succ_self _) hw  c90 hM (lv_sub hl [2, 3, 1, 0] rfl)
abbrev Pz_X12_streetOf_3 (ad : Nat → Nat) (cy : Nat → ClassId) (B : Int) (qr : Nat) (s1 : Int) (a1 : Int32) (w0 : va_W) : Int32 → va_W → Prop := fun r u => w0 = u ∧ Ev (fun n => m_X12_streetOf n 0 a1.toInt 0 (sI w0)) (r.toInt, sI w0) ∧ ((0 ≤ r.toInt ∧ r.toInt ≤ 9 ∧ gi u 12 (10 * a1.toInt + 10).toNat = r))
set_option maxHeartbeats 4000000 in
set_option maxRecDepth 100000 in
theorem kz_X12_streetOf_3 (l : Launch) (adK adV : Nat → Nat) (dC : Nat → ClassId) (dI : Nat → Nat → Nat) (cy : Nat → ClassId) (ad : Nat → Nat) (B : Int) (hB0 : 100000 ≤ B) (hB1 : B ≤ 1073741824) (qr : Nat) (s1 : Int)  (a1 : Int32) (ra1 : 0 ≤ a1.toInt) (ta1 : a1.toInt ≤ 12) (w0 : va_W) (sz : Nat) (hT : TW ksM ad cy B qr 13 w0)  : Met l yX12_streetOf (wu yX12_streetOf cX12_streetOf 3 (some .int)) ({ frames := 1, cells := 0, slots := 0, locals := 12 }) (va_Pc [.ref (ad 0), .int a1, .int 0] (wpreS adK adV dC dI cy sz w0)) (va_Qi (Pz_X12_streetOf_3 ad cy B qr s1 a1 w0) (fun u : va_W => wpost dC dI cy (va_A w0 sz) u) (va_A w0 sz)) 0 0 (va_A w0 sz) := by
  refine Met.ofW (cc := cX12_streetOf) (maxL := 3) (ret := (some .int)) (by decide) rfl ?_
  intro p e s m args below meth c s₁ Bk hml hv
  obtain ⟨rfl, ⟨hsz, hP, hK, hD0⟩, hE, hSR⟩ := hv
  have hx := Bk.exec
  have hb := Bk.bytes
  have hr := Bk.returns
  have hlocks := Bk.notSynchronized
  have hC : CallFix p m c cX12_streetOf 3 s _ (wu yX12_streetOf cX12_streetOf 3 (some .int)) RX12 := ⟨hx, hb, hml, findClass_of_methodNamed Bk.named, atoms_spec (ws := (wu yX12_streetOf cX12_streetOf 3 (some .int))) Bk.pre⟩
  subst hsz
  have hD := hD0.self (sz := s.heap.size)
  generalize hAe : va_A w0 s.heap.size = A at hD hE ⊢
  have hA : ∀ q : Nat, s.heap.size ≤ q → A q := fun q h => by rw [← hAe]; exact Or.inr h
  have hw : Wd dC dI A s.heap s.heap [] w0 := ⟨hP, hD, va_S.rf⟩
  have hF : FE ksM ([] : List (Nat × Nat × Nat)) w0 w0 := FE.rf
  have hl := lv_entry ([.ref (ad 0), .int a1, .int 0]) (n := 3) (Nat.le_of_ble_eq_true rfl)
  rw [lg_entry_eq]
  generalize (lg_sl ([.ref (ad 0), .int a1, .int 0]) ++ List.replicate (3 - (lg_sl ([.ref (ad 0), .int a1, .int 0])).length) Slot.unset).toArray = ls at hl ⊢
  have hl : lv_has ls 3 [(0, .ref (ad 0)), (1, .int a1), (2, .int 0)] := hl
  generalize hloc : ([] : List Loc) = locs at hw ⊢
  have hinX12 : ∀ w ∈ u_ws RX12 TX12 42, w ∈ (wu yX12_streetOf cX12_streetOf 3 (some .int)) := fun _ h => List.mem_cons_of_mem _ (up_71 h)
  have hM : TT (fun n => m_X12_streetOf n 0 a1.toInt 0 (sI w0)) (fun n => m_X12_streetOf n 0 a1.toInt 0 (sI w0)) := TT.rf
  refine lv_aload_n hx hb dX12_streetOf_0 rfl (lv_at hl 0 rfl) ?_
  refine tk_getA hC hK hw hT hinX12 kM_at0 (by decide) rfl 26 (by decide) (List.mem_cons_of_mem _ uw_7_1) rfl rfl dX12_streetOf_1 ?_
  refine lv_bipush (v := 10) hx hb dX12_streetOf_4 (by decide) ?_
  refine lv_bipush (v := 10) hx hb dX12_streetOf_6 (by decide) ?_
  refine lv_iload_n hx hb dX12_streetOf_8 rfl (lv_at hl 1 rfl) ?_
  refine lv_imul hx hb dX12_streetOf_9 ?_
  refine lv_topi (fun x1 ex1 => ?_)
  have ezx1 := ex1
  have ex1 : x1.toInt = (10 : Int) * a1.toInt := by rw [ex1]; exact wk_mul (show (-2147483648) ≤ (10 : Int) * a1.toInt by omega) (show (10 : Int) * a1.toInt ≤ 2147483647 by omega)
  replace hM := hM.lt ex1.symm
  refine lv_iadd hx hb dX12_streetOf_10 ?_
  refine lv_topi (fun x2 ex2 => ?_)
  have ezx2 := ex2
  have ex2 : x2.toInt = (10 : Int) + x1.toInt := by rw [ex2]; exact wk_add (show (-2147483648) ≤ (10 : Int) + x1.toInt by omega) (show (10 : Int) + x1.toInt ≤ 2147483647 by omega)
  replace hM := hM.lt ex2.symm
  refine lv_iload_n hx hb dX12_streetOf_11 rfl (lv_at hl 2 rfl) ?_
  refine lv_iadd hx hb dX12_streetOf_12 ?_
  refine lv_topi (fun x3 ex3 => ?_)
  have ezx3 := ex3
  have ex3 : x3.toInt = x2.toInt + (0 : Int) := by rw [ex3]; exact wk_add (show (-2147483648) ≤ x2.toInt + (0 : Int) by omega) (show x2.toInt + (0 : Int) ≤ 2147483647 by omega)
  replace hM := hM.lt ex3.symm
  refine tk_ialdR hC hK hw hT kM_at12 rfl (show 0 ≤ x3.toInt by omega) (show x3.toInt < 296 by omega) dX12_streetOf_13 (fun x4 c5 Ex4 => ?_)
  have hox4 := c5
  have c5 : gi w0 12 (10 * a1.toInt + 10).toNat = x4 := (congrArg (gi w0 12) (congrArg Int.toNat (show 10 * a1.toInt + 10 = x3.toInt by omega))).trans c5
  replace hM := hM.rd (sI_at hox4)
  have bx4 := tk_rgI rfl 10 10 13 0 9 (by decide +kernel) ⟨(a1.toInt - 0).toNat, by omega, show x3.toInt.toNat = 10 + 10 * (a1.toInt - 0).toNat by omega⟩ Ex4
  exact tk_iret hC hr hlocks hK ⟨rfl, hM.ret rfl, ⟨(show 0 ≤ x4.toInt by omega), (show x4.toInt ≤ 9 by omega), c5⟩⟩ hw dX12_streetOf_14
abbrev Pz_X12_streetOf_4 (ad : Nat → Nat) (cy : Nat → ClassId) (B : Int) (qr : Nat) (s1 : Int) (a1 : Int32) (w0 : va_W) : Int32 → va_W → Prop := fun r u => w0 = u ∧ Ev (fun n => m_X12_streetOf n 0 a1.toInt 1 (sI w0)) (r.toInt, sI w0) ∧ ((0 ≤ r.toInt ∧ r.toInt ≤ 9 ∧ gi u 12 (10 * a1.toInt + 11).toNat = r))
set_option maxHeartbeats 4000000 in
set_option maxRecDepth 100000 in
theorem kz_X12_streetOf_4 (l : Launch) (adK adV : Nat → Nat) (dC : Nat → ClassId) (dI : Nat → Nat → Nat) (cy : Nat → ClassId) (ad : Nat → Nat) (B : Int) (hB0 : 100000 ≤ B) (hB1 : B ≤ 1073741824) (qr : Nat) (s1 : Int)  (a1 : Int32) (ra1 : 0 ≤ a1.toInt) (ta1 : a1.toInt ≤ 12) (w0 : va_W) (sz : Nat) (hT : TW ksM ad cy B qr 13 w0)  : Met l yX12_streetOf (wu yX12_streetOf cX12_streetOf 3 (some .int)) ({ frames := 1, cells := 0, slots := 0, locals := 12 }) (va_Pc [.ref (ad 0), .int a1, .int 1] (wpreS adK adV dC dI cy sz w0)) (va_Qi (Pz_X12_streetOf_4 ad cy B qr s1 a1 w0) (fun u : va_W => wpost dC dI cy (va_A w0 sz) u) (va_A w0 sz)) 0 0 (va_A w0 sz) := by
  refine Met.ofW (cc := cX12_streetOf) (maxL := 3) (ret := (some .int)) (by decide) rfl ?_
  intro p e s m args below meth c s₁ Bk hml hv
  obtain ⟨rfl, ⟨hsz, hP, hK, hD0⟩, hE, hSR⟩ := hv
  have hx := Bk.exec
  have hb := Bk.bytes
  have hr := Bk.returns
  have hlocks := Bk.notSynchronized
  have hC : CallFix p m c cX12_streetOf 3 s _ (wu yX12_streetOf cX12_streetOf 3 (some .int)) RX12 := ⟨hx, hb, hml, findClass_of_methodNamed Bk.named, atoms_spec (ws := (wu yX12_streetOf cX12_streetOf 3 (some .int))) Bk.pre⟩
  subst hsz
  have hD := hD0.self (sz := s.heap.size)
  generalize hAe : va_A w0 s.heap.size = A at hD hE ⊢
  have hA : ∀ q : Nat, s.heap.size ≤ q → A q := fun q h => by rw [← hAe]; exact Or.inr h
  have hw : Wd dC dI A s.heap s.heap [] w0 := ⟨hP, hD, va_S.rf⟩
  have hF : FE ksM ([] : List (Nat × Nat × Nat)) w0 w0 := FE.rf
  have hl := lv_entry ([.ref (ad 0), .int a1, .int 1]) (n := 3) (Nat.le_of_ble_eq_true rfl)
  rw [lg_entry_eq]
  generalize (lg_sl ([.ref (ad 0), .int a1, .int 1]) ++ List.replicate (3 - (lg_sl ([.ref (ad 0), .int a1, .int 1])).length) Slot.unset).toArray = ls at hl ⊢
  have hl : lv_has ls 3 [(0, .ref (ad 0)), (1, .int a1), (2, .int 1)] := hl
  generalize hloc : ([] : List Loc) = locs at hw ⊢
  have hinX12 : ∀ w ∈ u_ws RX12 TX12 42, w ∈ (wu yX12_streetOf cX12_streetOf 3 (some .int)) := fun _ h => List.mem_cons_of_mem _ (up_71 h)
  have hM : TT (fun n => m_X12_streetOf n 0 a1.toInt 1 (sI w0)) (fun n => m_X12_streetOf n 0 a1.toInt 1 (sI w0)) := TT.rf
  refine lv_aload_n hx hb dX12_streetOf_0 rfl (lv_at hl 0 rfl) ?_
  refine tk_getA hC hK hw hT hinX12 kM_at0 (by decide) rfl 26 (by decide) (List.mem_cons_of_mem _ uw_7_1) rfl rfl dX12_streetOf_1 ?_
  refine lv_bipush (v := 10) hx hb dX12_streetOf_4 (by decide) ?_
  refine lv_bipush (v := 10) hx hb dX12_streetOf_6 (by decide) ?_
  refine lv_iload_n hx hb dX12_streetOf_8 rfl (lv_at hl 1 rfl) ?_
  refine lv_imul hx hb dX12_streetOf_9 ?_
  refine lv_topi (fun x1 ex1 => ?_)
  have ezx1 := ex1
  have ex1 : x1.toInt = (10 : Int) * a1.toInt := by rw [ex1]; exact wk_mul (show (-2147483648) ≤ (10 : Int) * a1.toInt by omega) (show (10 : Int) * a1.toInt ≤ 2147483647 by omega)
  replace hM := hM.lt ex1.symm
  refine lv_iadd hx hb dX12_streetOf_10 ?_
  refine lv_topi (fun x2 ex2 => ?_)
  have ezx2 := ex2
  have ex2 : x2.toInt = (10 : Int) + x1.toInt := by rw [ex2]; exact wk_add (show (-2147483648) ≤ (10 : Int) + x1.toInt by omega) (show (10 : Int) + x1.toInt ≤ 2147483647 by omega)
  replace hM := hM.lt ex2.symm
  refine lv_iload_n hx hb dX12_streetOf_11 rfl (lv_at hl 2 rfl) ?_
  refine lv_iadd hx hb dX12_streetOf_12 ?_
  refine lv_topi (fun x3 ex3 => ?_)
  have ezx3 := ex3
  have ex3 : x3.toInt = x2.toInt + (1 : Int) := by rw [ex3]; exact wk_add (show (-2147483648) ≤ x2.toInt + (1 : Int) by omega) (show x2.toInt + (1 : Int) ≤ 2147483647 by omega)
  replace hM := hM.lt ex3.symm
  refine tk_ialdR hC hK hw hT kM_at12 rfl (show 0 ≤ x3.toInt by omega) (show x3.toInt < 296 by omega) dX12_streetOf_13 (fun x4 c5 Ex4 => ?_)
  have hox4 := c5
  have c5 : gi w0 12 (10 * a1.toInt + 11).toNat = x4 := (congrArg (gi w0 12) (congrArg Int.toNat (show 10 * a1.toInt + 11 = x3.toInt by omega))).trans c5
  replace hM := hM.rd (sI_at hox4)
  have bx4 := tk_rgI rfl 11 10 13 0 9 (by decide +kernel) ⟨(a1.toInt - 0).toNat, by omega, show x3.toInt.toNat = 11 + 10 * (a1.toInt - 0).toNat by omega⟩ Ex4
  exact tk_iret hC hr hlocks hK ⟨rfl, hM.ret rfl, ⟨(show 0 ≤ x4.toInt by omega), (show x4.toInt ≤ 9 by omega), c5⟩⟩ hw dX12_streetOf_14
abbrev Pz_X12_isAt_1 (ad : Nat → Nat) (cy : Nat → ClassId) (B : Int) (qr : Nat) (s1 : Int) (a1 : Int32) (a2 : Int32) (w0 : va_W) : Int32 → va_W → Prop := fun r u => w0 = u ∧ Ev (fun n => m_X12_isAt n 0 a1.toInt a2.toInt (sI w0)) (r.toInt, sI w0) ∧ ((r = 0 ∧ (¬ mAt w0 a1.toInt a2.toInt)) ∨ (r = 1 ∧ gi u 12 (10 * a1.toInt + 10).toNat = a2 ∧ (mAt w0 a1.toInt a2.toInt)) ∨ (r = 1 ∧ gi u 12 (10 * a1.toInt + 11).toNat = a2 ∧ (mAt w0 a1.toInt a2.toInt)))
set_option maxHeartbeats 4000000 in
set_option maxRecDepth 100000 in
theorem kz_X12_isAt_1 (l : Launch) (adK adV : Nat → Nat) (dC : Nat → ClassId) (dI : Nat → Nat → Nat) (cy : Nat → ClassId) (ad : Nat → Nat) (B : Int) (hB0 : 100000 ≤ B) (hB1 : B ≤ 1073741824) (qr : Nat) (s1 : Int)  (a1 : Int32) (ra1 : 0 ≤ a1.toInt) (ta1 : a1.toInt ≤ 12) (a2 : Int32) (ra2 : 0 ≤ a2.toInt) (ta2 : a2.toInt ≤ 9) (w0 : va_W) (sz : Nat) (hT : TW ksM ad cy B qr 13 w0)  : Met l yX12_isAt (wu yX12_isAt cX12_isAt 3 (some .boolean)) ({ frames := 2, cells := 0, slots := 0, locals := 34 }) (va_Pc [.ref (ad 0), .int a1, .int a2] (wpreS adK adV dC dI cy sz w0)) (va_Qi (Pz_X12_isAt_1 ad cy B qr s1 a1 a2 w0) (fun u : va_W => wpost dC dI cy (va_A w0 sz) u) (va_A w0 sz)) 0 0 (va_A w0 sz) := by
  refine Met.ofW (cc := cX12_isAt) (maxL := 3) (ret := (some .boolean)) (by decide) rfl ?_
  intro p e s m args below meth c s₁ Bk hml hv
  obtain ⟨rfl, ⟨hsz, hP, hK, hD0⟩, hE, hSR⟩ := hv
  have hx := Bk.exec
  have hb := Bk.bytes
  have hr := Bk.returns
  have hlocks := Bk.notSynchronized
  have hC : CallFix p m c cX12_isAt 3 s _ (wu yX12_isAt cX12_isAt 3 (some .boolean)) RX12 := ⟨hx, hb, hml, findClass_of_methodNamed Bk.named, atoms_spec (ws := (wu yX12_isAt cX12_isAt 3 (some .boolean))) Bk.pre⟩
  subst hsz
  have hD := hD0.self (sz := s.heap.size)
  generalize hAe : va_A w0 s.heap.size = A at hD hE ⊢
  have hA : ∀ q : Nat, s.heap.size ≤ q → A q := fun q h => by rw [← hAe]; exact Or.inr h
  have hw : Wd dC dI A s.heap s.heap [] w0 := ⟨hP, hD, va_S.rf⟩
  have hF : FE ksM ([] : List (Nat × Nat × Nat)) w0 w0 := FE.rf
  have hl := lv_entry ([.ref (ad 0), .int a1, .int a2]) (n := 3) (Nat.le_of_ble_eq_true rfl)
  rw [lg_entry_eq]
  generalize (lg_sl ([.ref (ad 0), .int a1, .int a2]) ++ List.replicate (3 - (lg_sl ([.ref (ad 0), .int a1, .int a2])).length) Slot.unset).toArray = ls at hl ⊢
  have hl : lv_has ls 3 [(0, .ref (ad 0)), (1, .int a1), (2, .int a2)] := hl
  generalize hloc : ([] : List Loc) = locs at hw ⊢
  have hM : TT (fun n => m_X12_isAt n 0 a1.toInt a2.toInt (sI w0)) (fun n => m_X12_isAt n 0 a1.toInt a2.toInt (sI w0)) := TT.rf
  refine lv_aload_n hx hb dX12_isAt_0 rfl (lv_at hl 0 rfl) ?_
  refine lv_iload_n hx hb dX12_isAt_1 rfl (lv_at hl 1 rfl) ?_
  refine lv_iconst (v := 0) hx hb dX12_isAt_2 (by decide) ?_
  refine tk_Vi hC hK hw hT hA hE hSR kM_at0 (by decide) rfl (kz_X12_streetOf_3 l adK adV dC dI cy ad B (by omega) (by omega) qr s1   a1 (show 0 ≤ a1.toInt from ra1) (show a1.toInt ≤ 12 from ta1) w0 s.heap.size hT ) (cwV 2 hC.2.2.2.2 uV_RX12_300 rfl rfl rfl (by decide +kernel) ⟨Nat.le_of_ble_eq_true rfl, Nat.le_of_ble_eq_true rfl⟩) rfl hl.1 rfl (Nat.le_of_ble_eq_true rfl) dX12_isAt_3 (fun r1 w3 H locs hp2 hw => ?_)
  obtain ⟨rfl, hv9, hg8⟩ := hp2
  obtain ⟨g5, g6, c7⟩ := hg8
  replace hM := hM.call hv9 rfl
  refine lv_iload_n hx hb dX12_isAt_6 rfl (lv_at hl 2 rfl) ?_
  refine lv_icmp_eq (tgt := 20) hx hb dX12_isAt_7 (by decide) (fun c10 => ?_) (fun c10 => ?_)
  · have c10 : r1.toInt = a2.toInt := wk_eq.mp c10
    replace hM := hM.pos c10
    refine lv_iconst (v := 1) hx hb dX12_isAt_20 (by decide) ?_
    refine lv_goto (tgt := 25) hx hb dX12_isAt_21 (by decide) ?_
    exact tk_zret hC hr rfl hlocks hK ⟨rfl, hM.ret (by decide), (Or.inr (Or.inl ⟨rfl, (c7.trans (wk_eq.mpr (show r1.toInt = a2.toInt by omega))), (by unfold mAt; simp only [c7]; omega)⟩))⟩ hw dX12_isAt_25
  · have c10 : ¬ r1.toInt = a2.toInt := wk_eqF c10
    replace hM := hM.neg c10
    refine lv_aload_n hx hb dX12_isAt_10 rfl (lv_at hl 0 rfl) ?_
    refine lv_iload_n hx hb dX12_isAt_11 rfl (lv_at hl 1 rfl) ?_
    refine lv_iconst (v := 1) hx hb dX12_isAt_12 (by decide) ?_
    refine tk_Vi hC hK hw hT hA hE hSR kM_at0 (by decide) rfl (kz_X12_streetOf_4 l adK adV dC dI cy ad B (by omega) (by omega) qr s1   a1 (show 0 ≤ a1.toInt from ra1) (show a1.toInt ≤ 12 from ta1) w0 H.size hT ) (cwV 2 hC.2.2.2.2 uV_RX12_300 rfl rfl rfl (by decide +kernel) ⟨Nat.le_of_ble_eq_true rfl, Nat.le_of_ble_eq_true rfl⟩) rfl hl.1 rfl (Nat.le_of_ble_eq_true rfl) dX12_isAt_13 (fun r11 w13 H locs hp12 hw => ?_)
    obtain ⟨rfl, hv19, hg18⟩ := hp12
    obtain ⟨g15, g16, c17⟩ := hg18
    replace hM := hM.call hv19 rfl
    refine lv_iload_n hx hb dX12_isAt_16 rfl (lv_at hl 2 rfl) ?_
    refine lv_icmp_ne (tgt := 24) hx hb dX12_isAt_17 (by decide) (fun c20 => ?_) (fun c20 => ?_)
    · have c20 : ¬ r11.toInt = a2.toInt := wk_eqF c20
      replace hM := hM.pos c20
      refine lv_iconst (v := 0) hx hb dX12_isAt_24 (by decide) ?_
      exact tk_zret hC hr rfl hlocks hK ⟨rfl, hM.ret (by decide), (Or.inl ⟨rfl, (by unfold mAt; simp only [c7, c17]; omega)⟩)⟩ hw dX12_isAt_25
    · have c20 : r11.toInt = a2.toInt := wk_eq.mp c20
      replace hM := hM.neg (fun q => q c20)
      refine lv_iconst (v := 1) hx hb dX12_isAt_20 (by decide) ?_
      refine lv_goto (tgt := 25) hx hb dX12_isAt_21 (by decide) ?_
      exact tk_zret hC hr rfl hlocks hK ⟨rfl, hM.ret (by decide), (Or.inr (Or.inr ⟨rfl, (c17.trans (wk_eq.mpr (show r11.toInt = a2.toInt by omega))), (by unfold mAt; simp only [c7, c17]; omega)⟩))⟩ hw dX12_isAt_25
abbrev Pz_X12_streetOf_5 (ad : Nat → Nat) (cy : Nat → ClassId) (B : Int) (qr : Nat) (s1 : Int) (a1 : Int32) (a2 : Int32) (w0 : va_W) : Int32 → va_W → Prop := fun r u => w0 = u ∧ Ev (fun n => m_X12_streetOf n 0 a1.toInt a2.toInt (sI w0)) (r.toInt, sI w0) ∧ ((0 ≤ r.toInt ∧ r.toInt ≤ 9 ∧ gi u 12 (10 * a1.toInt + 1 * a2.toInt + 10).toNat = r))
set_option maxHeartbeats 4000000 in
set_option maxRecDepth 100000 in
theorem kz_X12_streetOf_5 (l : Launch) (adK adV : Nat → Nat) (dC : Nat → ClassId) (dI : Nat → Nat → Nat) (cy : Nat → ClassId) (ad : Nat → Nat) (B : Int) (hB0 : 100000 ≤ B) (hB1 : B ≤ 1073741824) (qr : Nat) (s1 : Int)  (a1 : Int32) (ra1 : 0 ≤ a1.toInt) (ta1 : a1.toInt ≤ 12) (a2 : Int32) (ra2 : 3 ≤ a2.toInt) (ta2 : a2.toInt ≤ 9) (w0 : va_W) (sz : Nat) (hT : TW ksM ad cy B qr 13 w0)  : Met l yX12_streetOf (wu yX12_streetOf cX12_streetOf 3 (some .int)) ({ frames := 1, cells := 0, slots := 0, locals := 12 }) (va_Pc [.ref (ad 0), .int a1, .int a2] (wpreS adK adV dC dI cy sz w0)) (va_Qi (Pz_X12_streetOf_5 ad cy B qr s1 a1 a2 w0) (fun u : va_W => wpost dC dI cy (va_A w0 sz) u) (va_A w0 sz)) 0 0 (va_A w0 sz) := by
  refine Met.ofW (cc := cX12_streetOf) (maxL := 3) (ret := (some .int)) (by decide) rfl ?_
  intro p e s m args below meth c s₁ Bk hml hv
  obtain ⟨rfl, ⟨hsz, hP, hK, hD0⟩, hE, hSR⟩ := hv
  have hx := Bk.exec
  have hb := Bk.bytes
  have hr := Bk.returns
  have hlocks := Bk.notSynchronized
  have hC : CallFix p m c cX12_streetOf 3 s _ (wu yX12_streetOf cX12_streetOf 3 (some .int)) RX12 := ⟨hx, hb, hml, findClass_of_methodNamed Bk.named, atoms_spec (ws := (wu yX12_streetOf cX12_streetOf 3 (some .int))) Bk.pre⟩
  subst hsz
  have hD := hD0.self (sz := s.heap.size)
  generalize hAe : va_A w0 s.heap.size = A at hD hE ⊢
  have hA : ∀ q : Nat, s.heap.size ≤ q → A q := fun q h => by rw [← hAe]; exact Or.inr h
  have hw : Wd dC dI A s.heap s.heap [] w0 := ⟨hP, hD, va_S.rf⟩
  have hF : FE ksM ([] : List (Nat × Nat × Nat)) w0 w0 := FE.rf
  have hl := lv_entry ([.ref (ad 0), .int a1, .int a2]) (n := 3) (Nat.le_of_ble_eq_true rfl)
  rw [lg_entry_eq]
  generalize (lg_sl ([.ref (ad 0), .int a1, .int a2]) ++ List.replicate (3 - (lg_sl ([.ref (ad 0), .int a1, .int a2])).length) Slot.unset).toArray = ls at hl ⊢
  have hl : lv_has ls 3 [(0, .ref (ad 0)), (1, .int a1), (2, .int a2)] := hl
  generalize hloc : ([] : List Loc) = locs at hw ⊢
  have hinX12 : ∀ w ∈ u_ws RX12 TX12 42, w ∈ (wu yX12_streetOf cX12_streetOf 3 (some .int)) := fun _ h => List.mem_cons_of_mem _ (up_71 h)
  have hM : TT (fun n => m_X12_streetOf n 0 a1.toInt a2.toInt (sI w0)) (fun n => m_X12_streetOf n 0 a1.toInt a2.toInt (sI w0)) := TT.rf
  refine lv_aload_n hx hb dX12_streetOf_0 rfl (lv_at hl 0 rfl) ?_
  refine tk_getA hC hK hw hT hinX12 kM_at0 (by decide) rfl 26 (by decide) (List.mem_cons_of_mem _ uw_7_1) rfl rfl dX12_streetOf_1 ?_
  refine lv_bipush (v := 10) hx hb dX12_streetOf_4 (by decide) ?_
  refine lv_bipush (v := 10) hx hb dX12_streetOf_6 (by decide) ?_
  refine lv_iload_n hx hb dX12_streetOf_8 rfl (lv_at hl 1 rfl) ?_
  refine lv_imul hx hb dX12_streetOf_9 ?_
  refine lv_topi (fun x1 ex1 => ?_)
  have ezx1 := ex1
  have ex1 : x1.toInt = (10 : Int) * a1.toInt := by rw [ex1]; exact wk_mul (show (-2147483648) ≤ (10 : Int) * a1.toInt by omega) (show (10 : Int) * a1.toInt ≤ 2147483647 by omega)
  replace hM := hM.lt ex1.symm
  refine lv_iadd hx hb dX12_streetOf_10 ?_
  refine lv_topi (fun x2 ex2 => ?_)
  have ezx2 := ex2
  have ex2 : x2.toInt = (10 : Int) + x1.toInt := by rw [ex2]; exact wk_add (show (-2147483648) ≤ (10 : Int) + x1.toInt by omega) (show (10 : Int) + x1.toInt ≤ 2147483647 by omega)
  replace hM := hM.lt ex2.symm
  refine lv_iload_n hx hb dX12_streetOf_11 rfl (lv_at hl 2 rfl) ?_
  refine lv_iadd hx hb dX12_streetOf_12 ?_
  refine lv_topi (fun x3 ex3 => ?_)
  have ezx3 := ex3
  have ex3 : x3.toInt = x2.toInt + a2.toInt := by rw [ex3]; exact wk_add (show (-2147483648) ≤ x2.toInt + a2.toInt by omega) (show x2.toInt + a2.toInt ≤ 2147483647 by omega)
  replace hM := hM.lt ex3.symm
  refine tk_ialdR hC hK hw hT kM_at12 rfl (show 0 ≤ x3.toInt by omega) (show x3.toInt < 296 by omega) dX12_streetOf_13 (fun x4 c5 Ex4 => ?_)
  have hox4 := c5
  have c5 : gi w0 12 (10 * a1.toInt + 1 * a2.toInt + 10).toNat = x4 := (congrArg (gi w0 12) (congrArg Int.toNat (show 10 * a1.toInt + 1 * a2.toInt + 10 = x3.toInt by omega))).trans c5
  replace hM := hM.rd (sI_at hox4)
  have bx4 := tk_rgI rfl 13 1 127 0 9 (by decide +kernel) ⟨(x3.toInt - 13).toNat, by omega, show x3.toInt.toNat = 13 + 1 * (x3.toInt - 13).toNat by omega⟩ Ex4
  exact tk_iret hC hr hlocks hK ⟨rfl, hM.ret rfl, ⟨(show 0 ≤ x4.toInt by omega), (show x4.toInt ≤ 9 by omega), c5⟩⟩ hw dX12_streetOf_14
abbrev Pz_X12_isOf_1 (ad : Nat → Nat) (cy : Nat → ClassId) (B : Int) (qr : Nat) (s1 : Int) (a0 : Int32) (w0 : va_W) : Int32 → va_W → Prop := fun r u => w0 = u ∧ Ev (fun n => m_X12_isOf n a0.toInt 1 (sI w0)) (r.toInt, sI w0) ∧ ((r = 0 ∧ (¬ mOf a0 (1 : Int32))) ∨ (r = 1 ∧ (mOf a0 (1 : Int32))))
set_option maxHeartbeats 4000000 in
set_option maxRecDepth 100000 in
theorem kz_X12_isOf_1 (l : Launch) (adK adV : Nat → Nat) (dC : Nat → ClassId) (dI : Nat → Nat → Nat) (cy : Nat → ClassId) (ad : Nat → Nat) (B : Int) (hB0 : 100000 ≤ B) (hB1 : B ≤ 1073741824) (qr : Nat) (s1 : Int)  (a0 : Int32) (ra0 : 0 ≤ a0.toInt) (ta0 : a0.toInt ≤ 9) (w0 : va_W) (sz : Nat) (hT : TW ksM ad cy B qr 13 w0)  : Met l yX12_isOf (wu yX12_isOf cX12_isOf 2 (some .boolean)) ({ frames := 1, cells := 0, slots := 0, locals := 12 }) (va_Pc [.int a0, .int 1] (wpreS adK adV dC dI cy sz w0)) (va_Qi (Pz_X12_isOf_1 ad cy B qr s1 a0 w0) (fun u : va_W => wpost dC dI cy (va_A w0 sz) u) (va_A w0 sz)) 0 0 (va_A w0 sz) := by
  refine Met.ofW (cc := cX12_isOf) (maxL := 2) (ret := (some .boolean)) (by decide) rfl ?_
  intro p e s m args below meth c s₁ Bk hml hv
  obtain ⟨rfl, ⟨hsz, hP, hK, hD0⟩, hE, hSR⟩ := hv
  have hx := Bk.exec
  have hb := Bk.bytes
  have hr := Bk.returns
  have hlocks := Bk.notSynchronized
  have hC : CallFix p m c cX12_isOf 2 s _ (wu yX12_isOf cX12_isOf 2 (some .boolean)) RX12 := ⟨hx, hb, hml, findClass_of_methodNamed Bk.named, atoms_spec (ws := (wu yX12_isOf cX12_isOf 2 (some .boolean))) Bk.pre⟩
  subst hsz
  have hD := hD0.self (sz := s.heap.size)
  generalize hAe : va_A w0 s.heap.size = A at hD hE ⊢
  have hA : ∀ q : Nat, s.heap.size ≤ q → A q := fun q h => by rw [← hAe]; exact Or.inr h
  have hw : Wd dC dI A s.heap s.heap [] w0 := ⟨hP, hD, va_S.rf⟩
  have hF : FE ksM ([] : List (Nat × Nat × Nat)) w0 w0 := FE.rf
  have hl := lv_entry ([.int a0, .int 1]) (n := 2) (Nat.le_of_ble_eq_true rfl)
  rw [lg_entry_eq]
  generalize (lg_sl ([.int a0, .int 1]) ++ List.replicate (2 - (lg_sl ([.int a0, .int 1])).length) Slot.unset).toArray = ls at hl ⊢
  have hl : lv_has ls 2 [(0, .int a0), (1, .int 1)] := hl
  generalize hloc : ([] : List Loc) = locs at hw ⊢
  have hM : TT (fun n => m_X12_isOf n a0.toInt 1 (sI w0)) (fun n => m_X12_isOf n a0.toInt 1 (sI w0)) := TT.rf
  refine lv_iload_n hx hb dX12_isOf_0 rfl (lv_at hl 0 rfl) ?_
  refine lv_iload_n hx hb dX12_isOf_1 rfl (lv_at hl 1 rfl) ?_
  refine lv_ishr hx hb dX12_isOf_2 ?_
  refine lv_topi (fun x1 ex1 => ?_)
  have ezx1 := ex1
  have bx1 : 0 ≤ x1.toInt ∧ x1.toInt ≤ a0.toInt := by rw [ex1]; exact wk_shr (by omega)
  replace hM := hM.lt (o32_e (f := fun x y => x >>> (y &&& 31)) ezx1 rfl (by decide))
  refine lv_iconst (v := 1) hx hb dX12_isOf_3 (by decide) ?_
  refine lv_iand hx hb dX12_isOf_4 ?_
  refine lv_topi (fun x2 ex2 => ?_)
  have ezx2 := ex2
  have bx2 : 0 ≤ x2.toInt ∧ x2.toInt ≤ (1 : Int) := by rw [ex2]; exact wk_and (by decide)
  replace hM := hM.lt (o32_e (f := fun x y => x &&& y) ezx2 rfl (by decide))
  refine lv_iconst (v := 1) hx hb dX12_isOf_5 (by decide) ?_
  refine lv_icmp_ne (tgt := 13) hx hb dX12_isOf_6 (by decide) (fun c3 => ?_) (fun c3 => ?_)
  · have c3 : ¬ x2.toInt = (1 : Int) := wk_eqF c3
    replace hM := hM.pos c3
    refine lv_iconst (v := 0) hx hb dX12_isOf_13 (by decide) ?_
    exact tk_zret hC hr rfl hlocks hK ⟨rfl, hM.ret (by decide), (Or.inl ⟨rfl, (by unfold mOf; rw [← ex1, ← ex2]; omega)⟩)⟩ hw dX12_isOf_14
  · have c3 : x2.toInt = (1 : Int) := wk_eq.mp c3
    replace hM := hM.neg (fun q => q c3)
    refine lv_iconst (v := 1) hx hb dX12_isOf_9 (by decide) ?_
    refine lv_goto (tgt := 14) hx hb dX12_isOf_10 (by decide) ?_
    exact tk_zret hC hr rfl hlocks hK ⟨rfl, hM.ret (by decide), (Or.inr ⟨rfl, (by unfold mOf; rw [← ex1, ← ex2]; omega)⟩)⟩ hw dX12_isOf_14
abbrev Pz_X12_isOf_2 (ad : Nat → Nat) (cy : Nat → ClassId) (B : Int) (qr : Nat) (s1 : Int) (a0 : Int32) (w0 : va_W) : Int32 → va_W → Prop := fun r u => w0 = u ∧ Ev (fun n => m_X12_isOf n a0.toInt 0 (sI w0)) (r.toInt, sI w0) ∧ ((r = 0 ∧ (¬ mOf a0 (0 : Int32))) ∨ (r = 1 ∧ (mOf a0 (0 : Int32))))
set_option maxHeartbeats 4000000 in
set_option maxRecDepth 100000 in
theorem kz_X12_isOf_2 (l : Launch) (adK adV : Nat → Nat) (dC : Nat → ClassId) (dI : Nat → Nat → Nat) (cy : Nat → ClassId) (ad : Nat → Nat) (B : Int) (hB0 : 100000 ≤ B) (hB1 : B ≤ 1073741824) (qr : Nat) (s1 : Int)  (a0 : Int32) (ra0 : 0 ≤ a0.toInt) (ta0 : a0.toInt ≤ 9) (w0 : va_W) (sz : Nat) (hT : TW ksM ad cy B qr 13 w0)  : Met l yX12_isOf (wu yX12_isOf cX12_isOf 2 (some .boolean)) ({ frames := 1, cells := 0, slots := 0, locals := 12 }) (va_Pc [.int a0, .int 0] (wpreS adK adV dC dI cy sz w0)) (va_Qi (Pz_X12_isOf_2 ad cy B qr s1 a0 w0) (fun u : va_W => wpost dC dI cy (va_A w0 sz) u) (va_A w0 sz)) 0 0 (va_A w0 sz) := by
  refine Met.ofW (cc := cX12_isOf) (maxL := 2) (ret := (some .boolean)) (by decide) rfl ?_
  intro p e s m args below meth c s₁ Bk hml hv
  obtain ⟨rfl, ⟨hsz, hP, hK, hD0⟩, hE, hSR⟩ := hv
  have hx := Bk.exec
  have hb := Bk.bytes
  have hr := Bk.returns
  have hlocks := Bk.notSynchronized
  have hC : CallFix p m c cX12_isOf 2 s _ (wu yX12_isOf cX12_isOf 2 (some .boolean)) RX12 := ⟨hx, hb, hml, findClass_of_methodNamed Bk.named, atoms_spec (ws := (wu yX12_isOf cX12_isOf 2 (some .boolean))) Bk.pre⟩
  subst hsz
  have hD := hD0.self (sz := s.heap.size)
  generalize hAe : va_A w0 s.heap.size = A at hD hE ⊢
  have hA : ∀ q : Nat, s.heap.size ≤ q → A q := fun q h => by rw [← hAe]; exact Or.inr h
  have hw : Wd dC dI A s.heap s.heap [] w0 := ⟨hP, hD, va_S.rf⟩
  have hF : FE ksM ([] : List (Nat × Nat × Nat)) w0 w0 := FE.rf
  have hl := lv_entry ([.int a0, .int 0]) (n := 2) (Nat.le_of_ble_eq_true rfl)
  rw [lg_entry_eq]
  generalize (lg_sl ([.int a0, .int 0]) ++ List.replicate (2 - (lg_sl ([.int a0, .int 0])).length) Slot.unset).toArray = ls at hl ⊢
  have hl : lv_has ls 2 [(0, .int a0), (1, .int 0)] := hl
  generalize hloc : ([] : List Loc) = locs at hw ⊢
  have hM : TT (fun n => m_X12_isOf n a0.toInt 0 (sI w0)) (fun n => m_X12_isOf n a0.toInt 0 (sI w0)) := TT.rf
  refine lv_iload_n hx hb dX12_isOf_0 rfl (lv_at hl 0 rfl) ?_
  refine lv_iload_n hx hb dX12_isOf_1 rfl (lv_at hl 1 rfl) ?_
  refine lv_ishr hx hb dX12_isOf_2 ?_
  refine lv_topi (fun x1 ex1 => ?_)
  have ezx1 := ex1
  have bx1 : 0 ≤ x1.toInt ∧ x1.toInt ≤ a0.toInt := by rw [ex1]; exact wk_shr (by omega)
  replace hM := hM.lt (o32_e (f := fun x y => x >>> (y &&& 31)) ezx1 rfl (by decide))
  refine lv_iconst (v := 1) hx hb dX12_isOf_3 (by decide) ?_
  refine lv_iand hx hb dX12_isOf_4 ?_
  refine lv_topi (fun x2 ex2 => ?_)
  have ezx2 := ex2
  have bx2 : 0 ≤ x2.toInt ∧ x2.toInt ≤ (1 : Int) := by rw [ex2]; exact wk_and (by decide)
  replace hM := hM.lt (o32_e (f := fun x y => x &&& y) ezx2 rfl (by decide))
  refine lv_iconst (v := 1) hx hb dX12_isOf_5 (by decide) ?_
  refine lv_icmp_ne (tgt := 13) hx hb dX12_isOf_6 (by decide) (fun c3 => ?_) (fun c3 => ?_)
  · have c3 : ¬ x2.toInt = (1 : Int) := wk_eqF c3
    replace hM := hM.pos c3
    refine lv_iconst (v := 0) hx hb dX12_isOf_13 (by decide) ?_
    exact tk_zret hC hr rfl hlocks hK ⟨rfl, hM.ret (by decide), (Or.inl ⟨rfl, (by unfold mOf; rw [← ex1, ← ex2]; omega)⟩)⟩ hw dX12_isOf_14
  · have c3 : x2.toInt = (1 : Int) := wk_eq.mp c3
    replace hM := hM.neg (fun q => q c3)
    refine lv_iconst (v := 1) hx hb dX12_isOf_9 (by decide) ?_
    refine lv_goto (tgt := 14) hx hb dX12_isOf_10 (by decide) ?_
    exact tk_zret hC hr rfl hlocks hK ⟨rfl, hM.ret (by decide), (Or.inr ⟨rfl, (by unfold mOf; rw [← ex1, ← ex2]; omega)⟩)⟩ hw dX12_isOf_14
abbrev Pz_X12_hasSign_1 (ad : Nat → Nat) (cy : Nat → ClassId) (B : Int) (qr : Nat) (s1 : Int) (a1 : Int32) (a2 : Int32) (a3 : Int32) (w0 : va_W) : Int32 → va_W → Prop := fun r u => w0 = u ∧ Ev (fun n => m_X12_hasSign n 0 a1.toInt a2.toInt a3.toInt (sI w0)) (r.toInt, sI w0) ∧ ((r = 0 ∧ (¬ mSign w0 a1 a2.toInt a3.toInt)) ∨ (r = 0 ∧ gi u 12 (10 * a2.toInt + 10).toNat = a3 ∧ (¬ mSign w0 a1 a2.toInt a3.toInt)) ∨ (r = 1 ∧ (mSign w0 a1 a2.toInt a3.toInt)) ∨ (r = 1 ∧ gi u 12 (10 * a2.toInt + 10).toNat = a3 ∧ (mSign w0 a1 a2.toInt a3.toInt)))
set_option maxHeartbeats 4000000 in
set_option maxRecDepth 100000 in
theorem kz_X12_hasSign_1 (l : Launch) (adK adV : Nat → Nat) (dC : Nat → ClassId) (dI : Nat → Nat → Nat) (cy : Nat → ClassId) (ad : Nat → Nat) (B : Int) (hB0 : 100000 ≤ B) (hB1 : B ≤ 1073741824) (qr : Nat) (s1 : Int)  (a1 : Int32) (ra1 : 0 ≤ a1.toInt) (ta1 : a1.toInt ≤ 9) (a2 : Int32) (ra2 : 0 ≤ a2.toInt) (ta2 : a2.toInt ≤ 12) (a3 : Int32) (ra3 : 0 ≤ a3.toInt) (ta3 : a3.toInt ≤ 9) (w0 : va_W) (sz : Nat) (hT : TW ksM ad cy B qr 13 w0)  : Met l yX12_hasSign (wu yX12_hasSign cX12_hasSign 4 (some .boolean)) ({ frames := 2, cells := 0, slots := 0, locals := 34 }) (va_Pc [.ref (ad 0), .int a1, .int a2, .int a3] (wpreS adK adV dC dI cy sz w0)) (va_Qi (Pz_X12_hasSign_1 ad cy B qr s1 a1 a2 a3 w0) (fun u : va_W => wpost dC dI cy (va_A w0 sz) u) (va_A w0 sz)) 0 0 (va_A w0 sz) := by
  refine Met.ofW (cc := cX12_hasSign) (maxL := 4) (ret := (some .boolean)) (by decide) rfl ?_
  intro p e s m args below meth c s₁ Bk hml hv
  obtain ⟨rfl, ⟨hsz, hP, hK, hD0⟩, hE, hSR⟩ := hv
  have hx := Bk.exec
  have hb := Bk.bytes
  have hr := Bk.returns
  have hlocks := Bk.notSynchronized
  have hC : CallFix p m c cX12_hasSign 4 s _ (wu yX12_hasSign cX12_hasSign 4 (some .boolean)) RX12 := ⟨hx, hb, hml, findClass_of_methodNamed Bk.named, atoms_spec (ws := (wu yX12_hasSign cX12_hasSign 4 (some .boolean))) Bk.pre⟩
  subst hsz
  have hD := hD0.self (sz := s.heap.size)
  generalize hAe : va_A w0 s.heap.size = A at hD hE ⊢
  have hA : ∀ q : Nat, s.heap.size ≤ q → A q := fun q h => by rw [← hAe]; exact Or.inr h
  have hw : Wd dC dI A s.heap s.heap [] w0 := ⟨hP, hD, va_S.rf⟩
  have hF : FE ksM ([] : List (Nat × Nat × Nat)) w0 w0 := FE.rf
  have hl := lv_entry ([.ref (ad 0), .int a1, .int a2, .int a3]) (n := 4) (Nat.le_of_ble_eq_true rfl)
  rw [lg_entry_eq]
  generalize (lg_sl ([.ref (ad 0), .int a1, .int a2, .int a3]) ++ List.replicate (4 - (lg_sl ([.ref (ad 0), .int a1, .int a2, .int a3])).length) Slot.unset).toArray = ls at hl ⊢
  have hl : lv_has ls 4 [(0, .ref (ad 0)), (1, .int a1), (2, .int a2), (3, .int a3)] := hl
  generalize hloc : ([] : List Loc) = locs at hw ⊢
  have hM : TT (fun n => m_X12_hasSign n 0 a1.toInt a2.toInt a3.toInt (sI w0)) (fun n => m_X12_hasSign n 0 a1.toInt a2.toInt a3.toInt (sI w0)) := TT.rf
  refine lv_iload_n hx hb dX12_hasSign_0 rfl (lv_at hl 1 rfl) ?_
  refine lv_aload_n hx hb dX12_hasSign_1 rfl (lv_at hl 0 rfl) ?_
  refine lv_iload_n hx hb dX12_hasSign_2 rfl (lv_at hl 2 rfl) ?_
  refine lv_iconst (v := 0) hx hb dX12_hasSign_3 (by decide) ?_
  refine tk_Vi hC hK hw hT hA hE hSR kM_at0 (by decide) rfl (kz_X12_streetOf_3 l adK adV dC dI cy ad B (by omega) (by omega) qr s1   a2 (show 0 ≤ a2.toInt from ra2) (show a2.toInt ≤ 12 from ta2) w0 s.heap.size hT ) (cwV 2 hC.2.2.2.2 uV_RX12_300 rfl rfl rfl (by decide +kernel) ⟨Nat.le_of_ble_eq_true rfl, Nat.le_of_ble_eq_true rfl⟩) rfl hl.1 rfl (Nat.le_of_ble_eq_true rfl) dX12_hasSign_4 (fun r1 w3 H locs hp2 hw => ?_)
  obtain ⟨rfl, hv9, hg8⟩ := hp2
  obtain ⟨g5, g6, c7⟩ := hg8
  replace hM := hM.call hv9 rfl
  refine lv_iload_n hx hb dX12_hasSign_7 rfl (lv_at hl 3 rfl) ?_
  refine lv_icmp_ne (tgt := 15) hx hb dX12_hasSign_8 (by decide) (fun c10 => ?_) (fun c10 => ?_)
  · have c10 : ¬ r1.toInt = a3.toInt := wk_eqF c10
    replace hM := hM.pos c10
    refine lv_iconst (v := 1) hx hb dX12_hasSign_15 (by decide) ?_
    refine tk_Si hC hK hw hT hA hE hSR (kz_X12_isOf_1 l adK adV dC dI cy ad B (by omega) (by omega) qr s1   a1 (show 0 ≤ a1.toInt from ra1) (show a1.toInt ≤ 9 from ta1) w0 H.size hT ) (va_cwS 2 hC.2.2.2.2 uS_RX12_304 rfl rfl rfl (by decide +kernel) ⟨Nat.le_of_ble_eq_true rfl, Nat.le_of_ble_eq_true rfl⟩) rfl hl.1 rfl (Nat.le_of_ble_eq_true rfl) dX12_hasSign_16 (fun r11 w13 H locs hp12 hw => ?_)
    obtain ⟨rfl, hv18, hg17⟩ := hp12
    rcases hg17 with ⟨rfl, hq15⟩ | ⟨rfl, hq16⟩
    · replace hM := hM.call (r' := 0) hv18 (by decide)
      exact tk_zret hC hr rfl hlocks hK ⟨rfl, hM.ret (by decide), (Or.inl ⟨rfl, (by unfold mSign; simp only [c7]; first | exact Or.inl ⟨by omega, by assumption⟩ | exact Or.inr ⟨by omega, by assumption⟩ | (rintro (⟨q1, q2⟩ | ⟨q1, q2⟩) <;> first | omega | contradiction))⟩)⟩ hw dX12_hasSign_19
    · replace hM := hM.call (r' := 1) hv18 (by decide)
      exact tk_zret hC hr rfl hlocks hK ⟨rfl, hM.ret (by decide), (Or.inr (Or.inr (Or.inl ⟨rfl, (by unfold mSign; simp only [c7]; first | exact Or.inl ⟨by omega, by assumption⟩ | exact Or.inr ⟨by omega, by assumption⟩ | (rintro (⟨q1, q2⟩ | ⟨q1, q2⟩) <;> first | omega | contradiction))⟩)))⟩ hw dX12_hasSign_19
  · have c10 : r1.toInt = a3.toInt := wk_eq.mp c10
    replace hM := hM.neg (fun q => q c10)
    refine lv_iconst (v := 0) hx hb dX12_hasSign_11 (by decide) ?_
    refine lv_goto (tgt := 16) hx hb dX12_hasSign_12 (by decide) ?_
    refine tk_Si hC hK hw hT hA hE hSR (kz_X12_isOf_2 l adK adV dC dI cy ad B (by omega) (by omega) qr s1   a1 (show 0 ≤ a1.toInt from ra1) (show a1.toInt ≤ 9 from ta1) w0 H.size hT ) (va_cwS 2 hC.2.2.2.2 uS_RX12_304 rfl rfl rfl (by decide +kernel) ⟨Nat.le_of_ble_eq_true rfl, Nat.le_of_ble_eq_true rfl⟩) rfl hl.1 rfl (Nat.le_of_ble_eq_true rfl) dX12_hasSign_16 (fun r19 w21 H locs hp20 hw => ?_)
    obtain ⟨rfl, hv26, hg25⟩ := hp20
    rcases hg25 with ⟨rfl, hq23⟩ | ⟨rfl, hq24⟩
    · replace hM := hM.call (r' := 0) hv26 (by decide)
      exact tk_zret hC hr rfl hlocks hK ⟨rfl, hM.ret (by decide), (Or.inr (Or.inl ⟨rfl, (c7.trans (wk_eq.mpr (show r1.toInt = a3.toInt by omega))), (by unfold mSign; simp only [c7]; first | exact Or.inl ⟨by omega, by assumption⟩ | exact Or.inr ⟨by omega, by assumption⟩ | (rintro (⟨q1, q2⟩ | ⟨q1, q2⟩) <;> first | omega | contradiction))⟩))⟩ hw dX12_hasSign_19
    · replace hM := hM.call (r' := 1) hv26 (by decide)
      exact tk_zret hC hr rfl hlocks hK ⟨rfl, hM.ret (by decide), (Or.inr (Or.inr (Or.inr ⟨rfl, (c7.trans (wk_eq.mpr (show r1.toInt = a3.toInt by omega))), (by unfold mSign; simp only [c7]; first | exact Or.inl ⟨by omega, by assumption⟩ | exact Or.inr ⟨by omega, by assumption⟩ | (rintro (⟨q1, q2⟩ | ⟨q1, q2⟩) <;> first | omega | contradiction))⟩)))⟩ hw dX12_hasSign_19
abbrev Pz_X12_isClosed_1 (ad : Nat → Nat) (cy : Nat → ClassId) (B : Int) (qr : Nat) (s1 : Int) (a1 : Int32) (a2 : Int32) (w0 : va_W) : Int32 → va_W → Prop := fun r u => w0 = u ∧ Ev (fun n => m_X12_isClosed n 0 a1.toInt a2.toInt (sI w0)) (r.toInt, sI w0) ∧ ((r = 0 ∧ (¬ mCl w0 a1.toInt a2.toInt)) ∨ (r = 1 ∧ (∃ y : Int32, gi u 0 27 = y ∧ 1 ≤ y.toInt ∧ y.toInt ≤ 1) ∧ (∃ y : Int32, gi u 12 2 = y ∧ 1 ≤ y.toInt ∧ y.toInt ≤ 8) ∧ (mCl w0 a1.toInt a2.toInt)))
set_option maxHeartbeats 4000000 in
set_option maxRecDepth 100000 in
theorem kz_X12_isClosed_1 (l : Launch) (adK adV : Nat → Nat) (dC : Nat → ClassId) (dI : Nat → Nat → Nat) (cy : Nat → ClassId) (ad : Nat → Nat) (B : Int) (hB0 : 100000 ≤ B) (hB1 : B ≤ 1073741824) (qr : Nat) (s1 : Int)  (a1 : Int32) (ra1 : 0 ≤ a1.toInt) (ta1 : a1.toInt ≤ 9) (a2 : Int32) (ra2 : 0 ≤ a2.toInt) (ta2 : a2.toInt ≤ 359) (w0 : va_W) (sz : Nat) (hT : TW ksM ad cy B qr 13 w0)  : Met l yX12_isClosed (wu yX12_isClosed cX12_isClosed 4 (some .boolean)) ({ frames := 1, cells := 0, slots := 0, locals := 12 }) (va_Pc [.ref (ad 0), .int a1, .int a2] (wpreS adK adV dC dI cy sz w0)) (va_Qi (Pz_X12_isClosed_1 ad cy B qr s1 a1 a2 w0) (fun u : va_W => wpost dC dI cy (va_A w0 sz) u) (va_A w0 sz)) 0 0 (va_A w0 sz) := by
  refine Met.ofW (cc := cX12_isClosed) (maxL := 4) (ret := (some .boolean)) (by decide) rfl ?_
  intro p e s m args below meth c s₁ Bk hml hv
  obtain ⟨rfl, ⟨hsz, hP, hK, hD0⟩, hE, hSR⟩ := hv
  have hx := Bk.exec
  have hb := Bk.bytes
  have hr := Bk.returns
  have hlocks := Bk.notSynchronized
  have hC : CallFix p m c cX12_isClosed 4 s _ (wu yX12_isClosed cX12_isClosed 4 (some .boolean)) RX12 := ⟨hx, hb, hml, findClass_of_methodNamed Bk.named, atoms_spec (ws := (wu yX12_isClosed cX12_isClosed 4 (some .boolean))) Bk.pre⟩
  subst hsz
  have hD := hD0.self (sz := s.heap.size)
  generalize hAe : va_A w0 s.heap.size = A at hD hE ⊢
  have hA : ∀ q : Nat, s.heap.size ≤ q → A q := fun q h => by rw [← hAe]; exact Or.inr h
  have hw : Wd dC dI A s.heap s.heap [] w0 := ⟨hP, hD, va_S.rf⟩
  have hF : FE ksM ([] : List (Nat × Nat × Nat)) w0 w0 := FE.rf
  have hl := lv_entry ([.ref (ad 0), .int a1, .int a2]) (n := 4) (Nat.le_of_ble_eq_true rfl)
  rw [lg_entry_eq]
  generalize (lg_sl ([.ref (ad 0), .int a1, .int a2]) ++ List.replicate (4 - (lg_sl ([.ref (ad 0), .int a1, .int a2])).length) Slot.unset).toArray = ls at hl ⊢
  have hl : lv_has ls 4 [(0, .ref (ad 0)), (1, .int a1), (2, .int a2)] := hl
  generalize hloc : ([] : List Loc) = locs at hw ⊢
  have hinX12 : ∀ w ∈ u_ws RX12 TX12 42, w ∈ (wu yX12_isClosed cX12_isClosed 4 (some .boolean)) := fun _ h => List.mem_cons_of_mem _ (up_71 h)
  have L2 : ∀ (n2 : Nat) (v2_3 : Int32) (H : Heap) (locs : List Loc) (ls : Array Slot), 0 ≤ a1.toInt → a1.toInt ≤ 9 → 0 ≤ a2.toInt → a2.toInt ≤ 359 → 0 ≤ v2_3.toInt → v2_3.toInt ≤ 8 → (∀ k : Int, 0 ≤ k → k < v2_3.toInt → ¬ mCl1 w0 k a1.toInt a2.toInt) → (8 - v2_3.toInt).toNat < n2 → Wd dC dI A s.heap H locs w0 → TT (fun n => m_X12_isClosed n 0 a1.toInt a2.toInt (sI w0)) (fun n => j_X12_isClosed 0 n 2 [a1.toInt, a2.toInt, v2_3.toInt] (sI w0)) → lv_has ls 4 [(0, .ref (ad 0)), (1, .int a1), (2, .int a2), (3, .int v2_3)] → W p l e ({ frames := 1, cells := 0, slots := 0, locals := 12 }) s m (List.toArray [.ref (ad 0), .int a1, .int a2]) below meth c H locs 0 0 (MQ below (va_Qi (Pz_X12_isClosed_1 ad cy B qr s1 a1 a2 w0) (fun u : va_W => wpost dC dI cy A u) A) (List.toArray [.ref (ad 0), .int a1, .int a2]) s 0 0 A) (F0 m 2 ls []) := by
    intro n2
    induction n2 with
    | zero => intro v2_3 H locs ls r1 t2 r3 t4 r5 t6 hcr2_0 hm2 hw hM hl; omega
    | succ n2 ih2 =>
      intro v2_3 H locs ls r1 t2 r3 t4 r5 t6 hcr2_0 hm2 hw hM hl
      replace hM := hM.suc (fun _ => e_X12_isClosed_2)
      refine lv_iload_n hx hb dX12_isClosed_2 rfl (lv_at hl 3 rfl) ?_
      refine lv_aload_n hx hb dX12_isClosed_3 rfl (lv_at hl 0 rfl) ?_
      refine tk_getA hC hK hw hT hinX12 kM_at0 (by decide) rfl 26 (by decide) (List.mem_cons_of_mem _ uw_7_1) rfl rfl dX12_isClosed_4 ?_
      refine lv_iconst (v := 2) hx hb dX12_isClosed_7 (by decide) ?_
      refine tk_ialdR hC hK hw hT kM_at12 rfl (by decide) (by decide) dX12_isClosed_8 (fun x7 c8 Ex7 => ?_)
      have hox7 := c8
      replace hM := hM.rd (sI_at hox7)
      have bx7 := tk_rgI rfl 2 1 1 0 8 (by decide +kernel) ⟨0, by decide, by decide⟩ Ex7
      have c8 : gi w0 12 2 = x7 := c8
      refine lv_icmp_ge (tgt := 61) hx hb dX12_isClosed_9 (by decide) (fun c9 => ?_) (fun c9 => ?_)
      · have c9 : x7.toInt ≤ v2_3.toInt := wk_le.mp c9
        replace hM := hM.pos c9
        refine lv_iconst (v := 0) hx hb dX12_isClosed_61 (by decide) ?_
        exact tk_zret hC hr rfl hlocks hK ⟨rfl, hM.ret (by decide), (Or.inl ⟨rfl, (by first | exact mCl_no hcr2_0 (by simp only [c8]; omega) | exact mCl_off (by simp only [c8]; omega))⟩)⟩ hw dX12_isClosed_62
      · have c9 : v2_3.toInt < x7.toInt := wk_leF c9
        replace hM := hM.neg (Int.not_le.mpr c9)
        refine lv_aload_n hx hb dX12_isClosed_12 rfl (lv_at hl 0 rfl) ?_
        refine tk_geti hC hK hw hT hinX12 kM_at0 (by decide) rfl 27 (by decide) (List.mem_cons_of_mem _ uw_7_2) rfl rfl dX12_isClosed_13 (fun x10 c11 rx10 tx10 => ?_)
        replace hM := hM.rd (sI_at c11)
        refine lv_if_eq (tgt := 61) hx hb dX12_isClosed_16 (by decide) (fun c12 => ?_) (fun c12 => ?_)
        · have c12 : x10.toInt = (0 : Int) := wk_eq.mp c12
          replace hM := hM.pos c12
          refine lv_iconst (v := 0) hx hb dX12_isClosed_61 (by decide) ?_
          exact tk_zret hC hr rfl hlocks hK ⟨rfl, hM.ret (by decide), (Or.inl ⟨rfl, (by first | exact mCl_no hcr2_0 (by simp only [c8, c11]; omega) | exact mCl_off (by simp only [c8, c11]; omega))⟩)⟩ hw dX12_isClosed_62
        · have c12 : ¬ x10.toInt = (0 : Int) := wk_eqF c12
          replace hM := hM.neg c12
          refine lv_aload_n hx hb dX12_isClosed_19 rfl (lv_at hl 0 rfl) ?_
          refine tk_getA hC hK hw hT hinX12 kM_at0 (by decide) rfl 26 (by decide) (List.mem_cons_of_mem _ uw_7_1) rfl rfl dX12_isClosed_20 ?_
          refine lv_sipush (v := 140) hx hb dX12_isClosed_23 (by decide) ?_
          refine lv_iconst (v := 2) hx hb dX12_isClosed_26 (by decide) ?_
          refine lv_iload_n hx hb dX12_isClosed_27 rfl (lv_at hl 3 rfl) ?_
          refine lv_imul hx hb dX12_isClosed_28 ?_
          refine lv_topi (fun x13 ex13 => ?_)
          have ezx13 := ex13
          have ex13 : x13.toInt = (2 : Int) * v2_3.toInt := by rw [ex13]; exact wk_mul (show (-2147483648) ≤ (2 : Int) * v2_3.toInt by omega) (show (2 : Int) * v2_3.toInt ≤ 2147483647 by omega)
          replace hM := hM.lt ex13.symm
          refine lv_iadd hx hb dX12_isClosed_29 ?_
          refine lv_topi (fun x14 ex14 => ?_)
          have ezx14 := ex14
          have ex14 : x14.toInt = (140 : Int) + x13.toInt := by rw [ex14]; exact wk_add (show (-2147483648) ≤ (140 : Int) + x13.toInt by omega) (show (140 : Int) + x13.toInt ≤ 2147483647 by omega)
          replace hM := hM.lt ex14.symm
          refine tk_ialdR hC hK hw hT kM_at12 rfl (show 0 ≤ x14.toInt by omega) (show x14.toInt < 296 by omega) dX12_isClosed_30 (fun x15 c16 Ex15 => ?_)
          have hox15 := c16
          have c16 : gi w0 12 (2 * v2_3.toInt + 140).toNat = x15 := (congrArg (gi w0 12) (congrArg Int.toNat (show 2 * v2_3.toInt + 140 = x14.toInt by omega))).trans c16
          replace hM := hM.rd (sI_at hox15)
          refine lv_iload_n hx hb dX12_isClosed_31 rfl (lv_at hl 1 rfl) ?_
          refine lv_icmp_ne (tgt := 55) hx hb dX12_isClosed_32 (by decide) (fun c17 => ?_) (fun c17 => ?_)
          · have c17 : ¬ x15.toInt = a1.toInt := wk_eqF c17
            replace hM := hM.pos c17
            obtain ⟨x18, ex18⟩ : ∃ y : Int32, y = v2_3 + Int32.ofInt 1 := ⟨_, rfl⟩
            have erx18 := ex18
            refine lv_iinc (v := x18) (lv' := [(3, .int x18), (0, .ref (ad 0)), (1, .int a1), (2, .int a2)]) hx hb dX12_isClosed_55 hl (k := 3) rfl ex18.symm (by decide) rfl (fun ls hl => ?_)
            have ex18 : x18.toInt = v2_3.toInt + 1 := by rw [ex18]; exact wk_add (y := 1) (show -2147483648 ≤ v2_3.toInt + 1 by omega) (show v2_3.toInt + 1 ≤ 2147483647 by omega)
            replace hM := hM.lt ex18.symm
            refine lv_goto (tgt := 2) hx hb dX12_isClosed_58 (by decide) ?_
            exact ih2 x18 H locs ls  (show 0 ≤ a1.toInt from r1) (show a1.toInt ≤ 9 from t2) (show 0 ≤ a2.toInt from r3) (show a2.toInt ≤ 359 from t4) (show 0 ≤ x18.toInt by omega) (show x18.toInt ≤ 8 by omega) (show ∀ k : Int, 0 ≤ k → k < x18.toInt → ¬ mCl1 w0 k a1.toInt a2.toInt from all_step hcr2_0 (show ¬ mCl1 w0 v2_3.toInt a1.toInt a2.toInt by unfold mCl1; simp only [c8, c11, c16]; omega) (by omega)) (show (8 - x18.toInt).toNat < n2 by omega) hw  hM (lv_sub hl [1, 2, 3, 0] rfl)
          · have c17 : x15.toInt = a1.toInt := wk_eq.mp c17
            replace hM := hM.neg (fun q => q c17)
            refine lv_aload_n hx hb dX12_isClosed_35 rfl (lv_at hl 0 rfl) ?_
            refine tk_getA hC hK hw hT hinX12 kM_at0 (by decide) rfl 26 (by decide) (List.mem_cons_of_mem _ uw_7_1) rfl rfl dX12_isClosed_36 ?_
            refine lv_sipush (v := 140) hx hb dX12_isClosed_39 (by decide) ?_
            refine lv_iconst (v := 2) hx hb dX12_isClosed_42 (by decide) ?_
            refine lv_iload_n hx hb dX12_isClosed_43 rfl (lv_at hl 3 rfl) ?_
            refine lv_imul hx hb dX12_isClosed_44 ?_
            refine lv_topi (fun x19 ex19 => ?_)
            have ezx19 := ex19
            have ex19 : x19.toInt = (2 : Int) * v2_3.toInt := by rw [ex19]; exact wk_mul (show (-2147483648) ≤ (2 : Int) * v2_3.toInt by omega) (show (2 : Int) * v2_3.toInt ≤ 2147483647 by omega)
            replace hM := hM.lt ex19.symm
            refine lv_iadd hx hb dX12_isClosed_45 ?_
            refine lv_topi (fun x20 ex20 => ?_)
            have ezx20 := ex20
            have ex20 : x20.toInt = (140 : Int) + x19.toInt := by rw [ex20]; exact wk_add (show (-2147483648) ≤ (140 : Int) + x19.toInt by omega) (show (140 : Int) + x19.toInt ≤ 2147483647 by omega)
            replace hM := hM.lt ex20.symm
            refine lv_iconst (v := 1) hx hb dX12_isClosed_46 (by decide) ?_
            refine lv_iadd hx hb dX12_isClosed_47 ?_
            refine lv_topi (fun x21 ex21 => ?_)
            have ezx21 := ex21
            have ex21 : x21.toInt = x20.toInt + (1 : Int) := by rw [ex21]; exact wk_add (show (-2147483648) ≤ x20.toInt + (1 : Int) by omega) (show x20.toInt + (1 : Int) ≤ 2147483647 by omega)
            replace hM := hM.lt ex21.symm
            refine tk_ialdR hC hK hw hT kM_at12 rfl (show 0 ≤ x21.toInt by omega) (show x21.toInt < 296 by omega) dX12_isClosed_48 (fun x22 c23 Ex22 => ?_)
            have hox22 := c23
            have c23 : gi w0 12 (2 * v2_3.toInt + 141).toNat = x22 := (congrArg (gi w0 12) (congrArg Int.toNat (show 2 * v2_3.toInt + 141 = x21.toInt by omega))).trans c23
            replace hM := hM.rd (sI_at hox22)
            refine lv_iload_n hx hb dX12_isClosed_49 rfl (lv_at hl 2 rfl) ?_
            refine lv_icmp_ne (tgt := 55) hx hb dX12_isClosed_50 (by decide) (fun c24 => ?_) (fun c24 => ?_)
            · have c24 : ¬ x22.toInt = a2.toInt := wk_eqF c24
              replace hM := hM.pos c24
              obtain ⟨x25, ex25⟩ : ∃ y : Int32, y = v2_3 + Int32.ofInt 1 := ⟨_, rfl⟩
              have erx25 := ex25
              refine lv_iinc (v := x25) (lv' := [(3, .int x25), (0, .ref (ad 0)), (1, .int a1), (2, .int a2)]) hx hb dX12_isClosed_55 hl (k := 3) rfl ex25.symm (by decide) rfl (fun ls hl => ?_)
              have ex25 : x25.toInt = v2_3.toInt + 1 := by rw [ex25]; exact wk_add (y := 1) (show -2147483648 ≤ v2_3.toInt + 1 by omega) (show v2_3.toInt + 1 ≤ 2147483647 by omega)
              replace hM := hM.lt ex25.symm
              refine lv_goto (tgt := 2) hx hb dX12_isClosed_58 (by decide) ?_
              exact ih2 x25 H locs ls  (show 0 ≤ a1.toInt from r1) (show a1.toInt ≤ 9 from t2) (show 0 ≤ a2.toInt from r3) (show a2.toInt ≤ 359 from t4) (show 0 ≤ x25.toInt by omega) (show x25.toInt ≤ 8 by omega) (show ∀ k : Int, 0 ≤ k → k < x25.toInt → ¬ mCl1 w0 k a1.toInt a2.toInt from all_step hcr2_0 (show ¬ mCl1 w0 v2_3.toInt a1.toInt a2.toInt by unfold mCl1; simp only [c8, c11, c16, c23]; omega) (by omega)) (show (8 - x25.toInt).toNat < n2 by omega) hw  hM (lv_sub hl [1, 2, 3, 0] rfl)
            · have c24 : x22.toInt = a2.toInt := wk_eq.mp c24
              replace hM := hM.neg (fun q => q c24)
              refine lv_iconst (v := 1) hx hb dX12_isClosed_53 (by decide) ?_
              exact tk_zret hC hr rfl hlocks hK ⟨rfl, hM.ret (by decide), (Or.inr ⟨rfl, ⟨x10, c11, (show 1 ≤ x10.toInt by omega), (show x10.toInt ≤ 1 from tx10)⟩, ⟨x7, c8, (show 1 ≤ x7.toInt by omega), (show x7.toInt ≤ 8 by omega)⟩, (by exact ⟨v2_3.toInt, by omega, by simp only [c8, c11, c16, c23]; omega, by unfold mCl1; simp only [c8, c11, c16, c23]; omega⟩)⟩)⟩ hw dX12_isClosed_54
  have hM : TT (fun n => m_X12_isClosed n 0 a1.toInt a2.toInt (sI w0)) (fun n => m_X12_isClosed n 0 a1.toInt a2.toInt (sI w0)) := TT.rf
  refine lv_iconst (v := 0) hx hb dX12_isClosed_0 (by decide) ?_
  refine lv_istore_n (lv' := [(3, .int 0), (0, .ref (ad 0)), (1, .int a1), (2, .int a2)]) hx hb dX12_isClosed_1 rfl hl (by decide) rfl (fun ls hl => ?_)
  exact L2 ((8 - (0 : Int)).toNat + 1) 0 s.heap locs ls  (show 0 ≤ a1.toInt from ra1) (show a1.toInt ≤ 9 from ta1) (show 0 ≤ a2.toInt from ra2) (show a2.toInt ≤ 359 from ta2) (by decide) (by decide) (show ∀ k : Int, 0 ≤ k → k < (0 : Int) → ¬ mCl1 w0 k a1.toInt a2.toInt from all_none) (Nat.lt_succ_self _) hw  hM (lv_sub hl [1, 2, 3, 0] rfl)
