abbrev P_X12_clauseHere_2 (ad : Nat → Nat) (cy : Nat → ClassId) (B : Int) (qr : Nat) (s1 : Int)  (gT : Int) (w0 : va_W) : Int32 → va_W → Prop := fun r u => TW ksM ad cy B qr 12 u ∧ FE ksM [(12, 14, 14), (12, 15, 15), (12, 16, 16), (12, 18, 18), (12, 19, 19), (12, 20, 20), (12, 22, 22), (61, 0, 2400), (62, 0, 7), (63, 0, 216), (64, 0, 6), (68, 0, 400)] w0 u ∧ ((r = 0 ∧ (∃ y : Int32, gi u 0 1 = y ∧ 1 ≤ y.toInt ∧ y.toInt ≤ 400) ∧ (∃ y : Int32, gi u 0 15 = y ∧ 1 ≤ y.toInt ∧ y.toInt ≤ 3205) ∧ (∃ y : Int32, gi u 0 17 = y ∧ 0 ≤ y.toInt ∧ y.toInt ≤ 5) ∧ (∃ y : Int32, gi u 0 20 = y ∧ 0 ≤ y.toInt ∧ y.toInt ≤ 12) ∧ RLc u gT ∧ ((gi w0 0 20).toInt ≤ (gi u 0 20).toInt) ∧ ((gi u 0 20).toInt ≤ 12)) ∨ (r = 0 ∧ (∃ y : Int32, gi u 0 1 = y ∧ 0 ≤ y.toInt ∧ y.toInt ≤ 400) ∧ (∃ y : Int32, gi u 0 15 = y ∧ 1 ≤ y.toInt ∧ y.toInt ≤ 3205) ∧ (∃ y : Int32, gi u 0 17 = y ∧ 0 ≤ y.toInt ∧ y.toInt ≤ 5) ∧ (∃ y : Int32, gi u 0 20 = y ∧ 0 ≤ y.toInt ∧ y.toInt ≤ 12) ∧ RLc u gT ∧ ((gi w0 0 20).toInt ≤ (gi u 0 20).toInt) ∧ ((gi u 0 20).toInt ≤ 12)) ∨ (r = 1 ∧ (∃ y : Int32, gi u 0 1 = y ∧ 1 ≤ y.toInt ∧ y.toInt ≤ 400) ∧ (∃ y : Int32, gi u 0 17 = y ∧ 0 ≤ y.toInt ∧ y.toInt ≤ 5) ∧ (∃ y : Int32, gi u 0 20 = y ∧ 1 ≤ y.toInt ∧ y.toInt ≤ 12) ∧ RLc u gT ∧ (3 * (gi u 3 ((gi u 0 17).toInt).toNat).toInt ≤ 14 * (gi u 0 18).toInt) ∧ ((gi u 5 ((gi u 0 17).toInt).toNat).toInt ≤ (gi u 0 20).toInt) ∧ ((gi u 0 20).toInt = (gi w0 0 20).toInt + 1) ∧ ((gi u 0 20).toInt ≤ 12)) ∨ (r = 1 ∧ (∃ y : Int32, gi u 0 1 = y ∧ 0 ≤ y.toInt ∧ y.toInt ≤ 400) ∧ (∃ y : Int32, gi u 0 17 = y ∧ 0 ≤ y.toInt ∧ y.toInt ≤ 5) ∧ (∃ y : Int32, gi u 0 20 = y ∧ 1 ≤ y.toInt ∧ y.toInt ≤ 12) ∧ RLc u gT ∧ (3 * (gi u 3 ((gi u 0 17).toInt).toNat).toInt ≤ 14 * (gi u 0 18).toInt) ∧ ((gi u 5 ((gi u 0 17).toInt).toNat).toInt ≤ (gi u 0 20).toInt) ∧ ((gi u 0 20).toInt = (gi w0 0 20).toInt + 1) ∧ ((gi u 0 20).toInt ≤ 12)))
set_option maxHeartbeats 4000000 in
set_option maxRecDepth 100000 in
theorem k_X12_clauseHere_2 (l : Launch) (adK adV : Nat → Nat) (dC : Nat → ClassId) (dI : Nat → Nat → Nat) (cy : Nat → ClassId) (ad : Nat → Nat) (B : Int) (hB0 : 100000 ≤ B) (hB1 : B ≤ 1073741824) (qr : Nat) (s1 : Int)   (w0 : va_W) (sz : Nat) (hT : TW ksM ad cy B qr 12 w0) (f0_ : Int32) (cf0_ : gi w0 0 17 = f0_) (rf0_ : 0 ≤ f0_.toInt) (tf0_ : f0_.toInt ≤ 5) (f1_ : Int32) (cf1_ : gi w0 0 18 = f1_) (rf1_ : 0 ≤ f1_.toInt) (tf1_ : f1_.toInt ≤ 60) (f2_ : Int32) (cf2_ : gi w0 0 20 = f2_) (rf2_ : 0 ≤ f2_.toInt) (tf2_ : f2_.toInt ≤ 32) (f3_ : Int32) (cf3_ : gi w0 3 (f0_.toInt).toNat = f3_) (rf3_ : 0 ≤ f3_.toInt) (tf3_ : f3_.toInt ≤ 400) (f4_ : Int32) (cf4_ : gi w0 5 (f0_.toInt).toNat = f4_) (rf4_ : 0 ≤ f4_.toInt) (tf4_ : f4_.toInt ≤ 12) (pr0_ : 3 * f3_.toInt ≤ 14 * f1_.toInt) (pr1_ : f4_.toInt ≤ f2_.toInt) (pr2_ : f2_.toInt ≤ 12) (pr3_ : f3_.toInt ≤ 280) (hR : RLc w0 f0_.toInt) : Met l yX12_clauseHere wsX12_clauseHere ({ frames := 11, cells := 0, slots := 0, locals := 232 }) (va_Pc [.ref (ad 0)] (wpreS adK adV dC dI cy sz w0)) (va_Qi (P_X12_clauseHere_2 ad cy B qr s1  f0_.toInt w0) (fun u : va_W => wpost dC dI cy (va_A w0 sz) u) (va_A w0 sz)) 0 0 (va_A w0 sz) := by
  refine Met.ofW (cc := cX12_clauseHere) (maxL := 4) (ret := (some .boolean)) (by decide) rfl ?_
  intro p e s m args below meth c s₁ Bk hml hv
  obtain ⟨rfl, ⟨hsz, hP, hK, hD0⟩, hE, hSR⟩ := hv
  have hx := Bk.exec
  have hb := Bk.bytes
  have hr := Bk.returns
  have hlocks := Bk.notSynchronized
  have hC : CallFix p m c cX12_clauseHere 4 s _ wsX12_clauseHere RX12 := ⟨hx, hb, hml, findClass_of_methodNamed Bk.named, atoms_spec (ws := wsX12_clauseHere) Bk.pre⟩
  subst hsz
  have hD := hD0.self (sz := s.heap.size)
  generalize hAe : va_A w0 s.heap.size = A at hD hE ⊢
  have hA : ∀ q : Nat, s.heap.size ≤ q → A q := fun q h => by rw [← hAe]; exact Or.inr h
  have hw : Wd dC dI A s.heap s.heap [] w0 := ⟨hP, hD, va_S.rf⟩
  have hF : FE ksM [(12, 14, 14), (12, 15, 15), (12, 16, 16), (12, 18, 18), (12, 19, 19), (12, 20, 20), (12, 22, 22), (61, 0, 2400), (62, 0, 7), (63, 0, 216), (64, 0, 6), (68, 0, 400)] w0 w0 := FE.rf
  have hl := lv_entry ([.ref (ad 0)]) (n := 4) (Nat.le_of_ble_eq_true rfl)
  rw [lg_entry_eq]
  generalize (lg_sl ([.ref (ad 0)]) ++ List.replicate (4 - (lg_sl ([.ref (ad 0)])).length) Slot.unset).toArray = ls at hl ⊢
  have hl : lv_has ls 4 [(0, .ref (ad 0))] := hl
  generalize hloc : ([] : List Loc) = locs at hw ⊢
  have hinX12 : ∀ w ∈ u_ws RX12 TX12 42, w ∈ wsX12_clauseHere := fun _ h => List.mem_cons_of_mem _ (List.mem_append_right _ (h))
  refine lv_aload_n hx hb dX12_clauseHere_0 rfl (lv_at hl 0 rfl) ?_
  obtain ⟨x1, c2, rx1, tx1⟩ := hT.rdi (lo := 0) (hi := 400) (k := 14) kM_at0 (by decide) rfl
  refine tk_Vi hC hK hw hT hA hE hSR kM_at0 (by decide) rfl (k_X12_see_1 l adK adV dC dI cy ad B (by omega) (by omega) qr s1    w0 s.heap.size hT x1 c2 (show 0 ≤ x1.toInt by omega) (show x1.toInt ≤ 400 by omega)) (cwV 0 hC.2.2.2.2 gX12_clauseHere_X12_see rfl rfl rfl (by decide +kernel) ⟨Nat.le_of_ble_eq_true rfl, Nat.le_of_ble_eq_true rfl⟩) rfl hl.1 rfl (Nat.le_of_ble_eq_true rfl) dX12_clauseHere_1 (fun r3 w5 H locs hp4 hw => ?_)
  obtain ⟨hT, k6, hg23⟩ := hp4
  have hR := RL_FE k6 (fun _ => rfl) (fun _ => rfl) (fun _ => rfl) (fun _ => rfl) hR
  have hF := hF.tr k6 (by decide)
  have c24 := k6.gi kM_at0 (by decide) cf0_
  have c25 := k6.gi kM_at0 (by decide) cf1_
  have c26 := k6.gi kM_at0 (by decide) cf2_
  have c27 := k6.gi kM_at3 rfl cf3_
  have c28 := k6.gi kM_at5 rfl cf4_
  rcases hg23 with ⟨g7, g8, ⟨x9, c10, rx9, tx9⟩, ⟨x11, c12, rx11, tx11⟩, g13, g14⟩ | ⟨rfl, ⟨x15, c16, rx15, tx15⟩, ⟨x17, c18, rx17, tx17⟩, g19⟩ | ⟨rfl, ⟨x20, c21, rx20, tx20⟩, g22⟩
  · have g13 : (gi w5 1 (x11.toInt).toNat).toInt ≠ 32 := by have q := g13; simp only [cf0_, c24, c12] at q; omega
    have g14 : (x11.toInt = x1.toInt ∨ (gi w0 1 (x1.toInt).toNat).toInt = 32) := by have q := g14; simp only [cf0_, c24, c2, c12] at q; omega
    refine lv_pop hx hb dX12_clauseHere_4 rfl ?_
    refine lv_aload_n hx hb dX12_clauseHere_5 rfl (lv_at hl 0 rfl) ?_
    refine tk_geti hC hK hw hT hinX12 kM_at0 (by decide) rfl 14 (by decide) (List.mem_of_getElem? (i := 1) rfl) rfl rfl dX12_clauseHere_6 (fun x31 c32 rx31 tx31 => ?_)
    refine wk_top x11 (c32.symm.trans c12) ?_
    refine lv_istore_n (lv' := [(1, .int x11), (0, .ref (ad 0))]) hx hb dX12_clauseHere_9 rfl hl (by decide) rfl (fun ls hl => ?_)
    refine lv_aload_n hx hb dX12_clauseHere_10 rfl (lv_at hl 1 rfl) ?_
    refine tk_geti hC hK hw hT hinX12 kM_at0 (by decide) rfl 17 (by decide) (List.mem_of_getElem? (i := 2) rfl) rfl rfl dX12_clauseHere_11 (fun x33 c34 rx33 tx33 => ?_)
    refine wk_top f0_ (c34.symm.trans c24) ?_
    refine lv_bipush (v := 6) hx hb dX12_clauseHere_14 (by decide) ?_
    refine lv_icmp_ne (tgt := 23) hx hb dX12_clauseHere_16 (by decide) (fun _ => ?_) (fun c => absurd (show f0_.toInt = (6 : Int) from wk_eq.mp c) (by omega))
    refine lv_iconst (v := 0) hx hb dX12_clauseHere_23 (by decide) ?_
    refine lv_istore_n (lv' := [(2, .int 0), (1, .int x11), (0, .ref (ad 0))]) hx hb dX12_clauseHere_24 rfl hl (by decide) rfl (fun ls hl => ?_)
    refine lv_iload_n hx hb dX12_clauseHere_25 rfl (lv_at hl 0 rfl) ?_
    refine lv_if_eq (tgt := 77) hx hb dX12_clauseHere_26 (by decide) (fun _ => ?_) (fun c => absurd (by decide) c)
    refine lv_aload_n hx hb dX12_clauseHere_77 rfl (lv_at hl 2 rfl) ?_
    refine tk_Vi hC hK hw hT hA hE hSR kM_at0 (by decide) rfl (k_X12_doingSort_1 l adK adV dC dI cy ad B (by omega) (by omega) qr s1    w5 H.size hT ) (cwV 0 hC.2.2.2.2 gX12_clauseHere_X12_doingSort rfl rfl rfl (by decide +kernel) ⟨Nat.le_of_ble_eq_true rfl, Nat.le_of_ble_eq_true rfl⟩) rfl hl.1 rfl (Nat.le_of_ble_eq_true rfl) dX12_clauseHere_78 (fun r35 w37 H locs hp36 hw => ?_)
    obtain ⟨hT, k38, hg45⟩ := hp36
    have hR := RL_FE k38 (fun _ => rfl) (fun _ => rfl) (fun _ => rfl) (fun _ => rfl) hR
    have hF := hF.tr k38 (by decide)
    have c46 := k38.gi kM_at0 (by decide) c24
    have c47 := k38.gi kM_at0 (by decide) c25
    have c48 := k38.gi kM_at0 (by decide) c26
    have c49 := k38.gi kM_at3 rfl c27
    have c50 := k38.gi kM_at5 rfl c28
    have c51 := k38.gi kM_at0 (by decide) c10
    rcases hg45 with ⟨g39, g40, ⟨x41, c42, rx41, tx41⟩⟩ | ⟨rfl, ⟨x43, c44, rx43, tx43⟩⟩
    · have ex41 : x41.toInt = x9.toInt := by rw [← c51.symm.trans c42]
      refine lv_if_lt (tgt := 88) hx hb dX12_clauseHere_81 (by decide) (fun c => absurd c (fun h => absurd (show r35.toInt < (0 : Int) from wk_lt.mp h) (by omega))) (fun _ => ?_)
      refine lv_iconst (v := 1) hx hb dX12_clauseHere_84 (by decide) ?_
      refine lv_goto (tgt := 89) hx hb dX12_clauseHere_85 (by decide) ?_
      refine lv_istore_n (lv' := [(3, .int 1), (2, .int 0), (1, .int x11), (0, .ref (ad 0))]) hx hb dX12_clauseHere_89 rfl hl (by decide) rfl (fun ls hl => ?_)
      refine lv_iload_n hx hb dX12_clauseHere_90 rfl (lv_at hl 0 rfl) ?_
      refine lv_if_ne (tgt := 101) hx hb dX12_clauseHere_91 (by decide) (fun _ => ?_) (fun c => absurd c (by decide))
      refine lv_aload_n hx hb dX12_clauseHere_101 rfl (lv_at hl 3 rfl) ?_
      refine tk_geti hC hK hw hT hinX12 kM_at0 (by decide) rfl 20 (by decide) (List.mem_of_getElem? (i := 7) rfl) rfl rfl dX12_clauseHere_102 (fun x52 c53 rx52 tx52 => ?_)
      refine wk_top f2_ (c53.symm.trans c48) ?_
      refine lv_iload_n hx hb dX12_clauseHere_105 rfl (lv_at hl 1 rfl) ?_
      refine lv_if_eq (tgt := 114) hx hb dX12_clauseHere_106 (by decide) (fun _ => ?_) (fun c => absurd (by decide) c)
      refine lv_bipush (v := 12) hx hb dX12_clauseHere_114 (by decide) ?_
      refine lv_icmp_ne (tgt := 126) hx hb dX12_clauseHere_116 (by decide) (fun c54 => ?_) (fun c54 => ?_)
      · have c54 : ¬ f2_.toInt = (12 : Int) := wk_eqF c54
        refine lv_aload_n hx hb dX12_clauseHere_126 rfl (lv_at hl 3 rfl) ?_
        refine lv_dup hx hb dX12_clauseHere_127 rfl ?_
        refine tk_geti hC hK hw hT hinX12 kM_at0 (by decide) rfl 20 (by decide) (List.mem_of_getElem? (i := 7) rfl) rfl rfl dX12_clauseHere_128 (fun x55 c56 rx55 tx55 => ?_)
        refine wk_top f2_ (c56.symm.trans c48) ?_
        refine lv_iconst (v := 1) hx hb dX12_clauseHere_131 (by decide) ?_
        refine lv_iadd hx hb dX12_clauseHere_132 ?_
        refine lv_topi (fun x57 ex57 => ?_)
        have ex57 : x57.toInt = f2_.toInt + (1 : Int) := by rw [ex57]; exact wk_add (show (-2147483648) ≤ f2_.toInt + (1 : Int) by omega) (show f2_.toInt + (1 : Int) ≤ 2147483647 by omega)
        refine tk_puti hC hK hw hT hinX12 tyX12_ok nmX12 kM_at0 (by decide) rfl rfl 20 (by decide) (List.mem_of_getElem? (i := 7) rfl) rfl rfl rfl rfl (show 0 ≤ x57.toInt by omega) (show x57.toInt ≤ 32 by omega) dX12_clauseHere_133 (fun H locs w58 hw hT k60 c59 => ?_)
        have hR := RL_F1 k60 (by decide) (by decide) (by decide) (by decide) hR
        have hF := hF.put kM_at0 (k := 20) (by decide) k60
        have c61 := k60.gi (Or.inr (by decide)) c46
        have c62 := k60.gi (Or.inr (by decide)) c47
        have c63 := k60.gi (Or.inl (tk_ne kM_at3 kM_at0 (by decide))) c49
        have c64 := k60.gi (Or.inl (tk_ne kM_at5 kM_at0 (by decide))) c50
        have c65 := k60.gi (Or.inr (by decide)) c51
        refine lv_iload_n hx hb dX12_clauseHere_136 rfl (lv_at hl 1 rfl) ?_
        refine lv_if_eq (tgt := 148) hx hb dX12_clauseHere_137 (by decide) (fun _ => ?_) (fun c => absurd (by decide) c)
        refine lv_aload_n hx hb dX12_clauseHere_148 rfl (lv_at hl 3 rfl) ?_
        refine lv_aload_n hx hb dX12_clauseHere_149 rfl (lv_at hl 3 rfl) ?_
        refine tk_Vi hC hK hw hT hA hE hSR kM_at0 (by decide) rfl (k_X12_doingSort_1 l adK adV dC dI cy ad B (by omega) (by omega) qr s1    w58 H.size hT ) (cwV 0 hC.2.2.2.2 gX12_clauseHere_X12_doingSort rfl rfl rfl (by decide +kernel) ⟨Nat.le_of_ble_eq_true rfl, Nat.le_of_ble_eq_true rfl⟩) rfl hl.1 rfl (Nat.le_of_ble_eq_true rfl) dX12_clauseHere_150 (fun r66 w68 H locs hp67 hw => ?_)
        obtain ⟨hT, k69, hg76⟩ := hp67
        have hR := RL_FE k69 (fun _ => rfl) (fun _ => rfl) (fun _ => rfl) (fun _ => rfl) hR
        have hF := hF.tr k69 (by decide)
        have c77 := k69.gi kM_at0 (by decide) c61
        have c78 := k69.gi kM_at0 (by decide) c62
        have c79 := k69.gi kM_at3 rfl c63
        have c80 := k69.gi kM_at5 rfl c64
        have c81 := k69.gi kM_at0 (by decide) c65
        have c82 := k69.gi kM_at0 (by decide) c59
        rcases hg76 with ⟨g70, g71, ⟨x72, c73, rx72, tx72⟩⟩ | ⟨rfl, ⟨x74, c75, rx74, tx74⟩⟩
        · have ex72 : x72.toInt = x9.toInt := by rw [← c81.symm.trans c73]
          refine tk_Vi hC hK hw hT hA hE hSR kM_at0 (by decide) rfl (k_X12_isDoingHere_2 l adK adV dC dI cy ad B (by omega) (by omega) qr s1   r66 (show 0 ≤ r66.toInt by omega) (show r66.toInt ≤ 3 by omega) w68 H.size hT f0_ c77 (show 0 ≤ f0_.toInt by omega) (show f0_.toInt ≤ 5 by omega) f1_ c78 (show 0 ≤ f1_.toInt by omega) (show f1_.toInt ≤ 60 by omega) f3_ c79 (show 0 ≤ f3_.toInt by omega) (show f3_.toInt ≤ 400 by omega) f4_ c80 (show 0 ≤ f4_.toInt by omega) (show f4_.toInt ≤ 12 by omega) (show 3 * f3_.toInt ≤ 14 * f1_.toInt by omega) (show f3_.toInt ≤ 280 by omega) (show f4_.toInt ≤ 11 by omega) hR) (cwV 1 hC.2.2.2.2 gX12_clauseHere_X12_isDoingHere rfl rfl rfl (by decide +kernel) ⟨Nat.le_of_ble_eq_true rfl, Nat.le_of_ble_eq_true rfl⟩) rfl hl.1 rfl (Nat.le_of_ble_eq_true rfl) dX12_clauseHere_153 (fun r83 w85 H locs hp84 hw => ?_)
          obtain ⟨hT, k86, hg119⟩ := hp84
          have hF := hF.tr k86 (by decide)
          have c120 := k86.gi kM_at0 (by decide) c77
          have c121 := k86.gi kM_at0 (by decide) c81
          have c122 := k86.gi kM_at0 (by decide) c82
          rcases hg119 with ⟨rfl, ⟨x87, c88, rx87, tx87⟩, ⟨x89, c90, rx89, tx89⟩, ⟨x91, c92, rx91, tx91⟩, ⟨x93, c94, rx93, tx93⟩, hq95⟩ | ⟨rfl, ⟨x96, c97, rx96, tx96⟩, ⟨x98, c99, rx98, tx98⟩, ⟨x100, c101, rx100, tx100⟩, ⟨x102, c103, rx102, tx102⟩, hq104⟩ | ⟨rfl, ⟨x105, c106, rx105, tx105⟩, ⟨x107, c108, rx107, tx107⟩, hq109, g110, g111⟩ | ⟨rfl, ⟨x112, c113, rx112, tx112⟩, ⟨x114, c115, rx114, tx114⟩, hq116, g117, g118⟩
          · have ex87 : x87.toInt = x9.toInt := by rw [← c121.symm.trans c88]
            have ex91 : x91.toInt = f0_.toInt := by rw [← c120.symm.trans c92]
            obtain ⟨x123, c124, rx123, tx123⟩ := hT.rda (lo := 0) (hi := 400) (i := (f0_.toInt).toNat) kM_at3 rfl rfl (by omega)
            obtain ⟨x125, c126, rx125, tx125⟩ := hT.rdi (lo := 0) (hi := 60) (k := 18) kM_at0 (by decide) rfl
            obtain ⟨x127, c128, rx127, tx127⟩ := hT.rda (lo := 0) (hi := 12) (i := (f0_.toInt).toNat) kM_at5 rfl rfl (by omega)
            have hR := hq95
            exact tk_zret hC hr rfl hlocks hK ⟨hT, hF, (Or.inl ⟨rfl, ⟨x9, c121, (show 1 ≤ x9.toInt by omega), (show x9.toInt ≤ 400 by omega)⟩, ⟨x89, c90, (show 1 ≤ x89.toInt by omega), (show x89.toInt ≤ 3205 by omega)⟩, ⟨f0_, c120, (show 0 ≤ f0_.toInt by omega), (show f0_.toInt ≤ 5 by omega)⟩, ⟨x57, c122, (show 0 ≤ x57.toInt by omega), (show x57.toInt ≤ 12 by omega)⟩, hR, (by simp only [c120, cf0_, cf2_, c122]; omega), (by simp only [c120, cf0_, c122]; omega)⟩)⟩ hw dX12_clauseHere_156
          · have ex96 : x96.toInt = x9.toInt := by rw [← c121.symm.trans c97]
            have ex100 : x100.toInt = f0_.toInt := by rw [← c120.symm.trans c101]
            obtain ⟨x129, c130, rx129, tx129⟩ := hT.rda (lo := 0) (hi := 400) (i := (f0_.toInt).toNat) kM_at3 rfl rfl (by omega)
            obtain ⟨x131, c132, rx131, tx131⟩ := hT.rdi (lo := 0) (hi := 60) (k := 18) kM_at0 (by decide) rfl
            obtain ⟨x133, c134, rx133, tx133⟩ := hT.rda (lo := 0) (hi := 12) (i := (f0_.toInt).toNat) kM_at5 rfl rfl (by omega)
            have hR := hq104
            exact tk_zret hC hr rfl hlocks hK ⟨hT, hF, (Or.inl ⟨rfl, ⟨x9, c121, (show 1 ≤ x9.toInt by omega), (show x9.toInt ≤ 400 by omega)⟩, ⟨x98, c99, (show 1 ≤ x98.toInt by omega), (show x98.toInt ≤ 3205 by omega)⟩, ⟨f0_, c120, (show 0 ≤ f0_.toInt by omega), (show f0_.toInt ≤ 5 by omega)⟩, ⟨x57, c122, (show 0 ≤ x57.toInt by omega), (show x57.toInt ≤ 12 by omega)⟩, hR, (by simp only [c120, cf0_, cf2_, c122]; omega), (by simp only [c120, cf0_, c122]; omega)⟩)⟩ hw dX12_clauseHere_156
          · have ex105 : x105.toInt = x9.toInt := by rw [← c121.symm.trans c106]
            have ex107 : x107.toInt = f0_.toInt := by rw [← c120.symm.trans c108]
            obtain ⟨x135, c136, rx135, tx135⟩ := hT.rda (lo := 0) (hi := 400) (i := (f0_.toInt).toNat) kM_at3 rfl rfl (by omega)
            obtain ⟨x137, c138, rx137, tx137⟩ := hT.rdi (lo := 0) (hi := 60) (k := 18) kM_at0 (by decide) rfl
            obtain ⟨x139, c140, rx139, tx139⟩ := hT.rda (lo := 0) (hi := 12) (i := (f0_.toInt).toNat) kM_at5 rfl rfl (by omega)
            have g110 : 3 * x135.toInt ≤ 14 * x137.toInt := by have q := g110; simp only [c77, c120, c136, c138] at q; omega
            have g111 : x139.toInt = f4_.toInt + 1 := by have q := g111; simp only [c77, c120, c80, c140] at q; omega
            have hR := hq109
            exact tk_zret hC hr rfl hlocks hK ⟨hT, hF, (Or.inr (Or.inr (Or.inl ⟨rfl, ⟨x9, c121, (show 1 ≤ x9.toInt by omega), (show x9.toInt ≤ 400 by omega)⟩, ⟨f0_, c120, (show 0 ≤ f0_.toInt by omega), (show f0_.toInt ≤ 5 by omega)⟩, ⟨x57, c122, (show 1 ≤ x57.toInt by omega), (show x57.toInt ≤ 12 by omega)⟩, hR, (by simp only [c120, cf0_, c136, c138]; omega), (by simp only [c120, cf0_, c140, c122]; omega), (by simp only [c120, cf0_, cf2_, c122]; omega), (by simp only [c120, cf0_, c122]; omega)⟩)))⟩ hw dX12_clauseHere_156
          · have ex112 : x112.toInt = x9.toInt := by rw [← c121.symm.trans c113]
            have ex114 : x114.toInt = f0_.toInt := by rw [← c120.symm.trans c115]
            obtain ⟨x141, c142, rx141, tx141⟩ := hT.rda (lo := 0) (hi := 400) (i := (f0_.toInt).toNat) kM_at3 rfl rfl (by omega)
            obtain ⟨x143, c144, rx143, tx143⟩ := hT.rdi (lo := 0) (hi := 60) (k := 18) kM_at0 (by decide) rfl
            obtain ⟨x145, c146, rx145, tx145⟩ := hT.rda (lo := 0) (hi := 12) (i := (f0_.toInt).toNat) kM_at5 rfl rfl (by omega)
            have g117 : 3 * x141.toInt ≤ 14 * x143.toInt := by have q := g117; simp only [c77, c120, c142, c144] at q; omega
            have g118 : x145.toInt = f4_.toInt + 1 := by have q := g118; simp only [c77, c120, c80, c146] at q; omega
            have hR := hq116
            exact tk_zret hC hr rfl hlocks hK ⟨hT, hF, (Or.inr (Or.inr (Or.inl ⟨rfl, ⟨x9, c121, (show 1 ≤ x9.toInt by omega), (show x9.toInt ≤ 400 by omega)⟩, ⟨f0_, c120, (show 0 ≤ f0_.toInt by omega), (show f0_.toInt ≤ 5 by omega)⟩, ⟨x57, c122, (show 1 ≤ x57.toInt by omega), (show x57.toInt ≤ 12 by omega)⟩, hR, (by simp only [c120, cf0_, c142, c144]; omega), (by simp only [c120, cf0_, c146, c122]; omega), (by simp only [c120, cf0_, cf2_, c122]; omega), (by simp only [c120, cf0_, c122]; omega)⟩)))⟩ hw dX12_clauseHere_156
        · have ex74 : x74.toInt = x9.toInt := by rw [← c81.symm.trans c75]
          refine tk_Vi hC hK hw hT hA hE hSR kM_at0 (by decide) rfl (k_X12_isDoingHere_1 l adK adV dC dI cy ad B (by omega) (by omega) qr s1    w68 H.size hT f0_ c77 (show 0 ≤ f0_.toInt by omega) (show f0_.toInt ≤ 5 by omega) f1_ c78 (show 0 ≤ f1_.toInt by omega) (show f1_.toInt ≤ 60 by omega) f3_ c79 (show 0 ≤ f3_.toInt by omega) (show f3_.toInt ≤ 400 by omega) f4_ c80 (show 0 ≤ f4_.toInt by omega) (show f4_.toInt ≤ 12 by omega) (show 3 * f3_.toInt ≤ 14 * f1_.toInt by omega) (show f3_.toInt ≤ 280 by omega) (show f4_.toInt ≤ 11 by omega) hR) (cwV 1 hC.2.2.2.2 gX12_clauseHere_X12_isDoingHere rfl rfl rfl (by decide +kernel) ⟨Nat.le_of_ble_eq_true rfl, Nat.le_of_ble_eq_true rfl⟩) rfl hl.1 rfl (Nat.le_of_ble_eq_true rfl) dX12_clauseHere_153 (fun r147 w149 H locs hp148 hw => ?_)
          obtain ⟨hT, k150, hg183⟩ := hp148
          have hF := hF.tr k150 (by decide)
          have c184 := k150.gi kM_at0 (by decide) c77
          have c185 := k150.gi kM_at0 (by decide) c81
          have c186 := k150.gi kM_at0 (by decide) c82
          rcases hg183 with ⟨rfl, ⟨x151, c152, rx151, tx151⟩, ⟨x153, c154, rx153, tx153⟩, ⟨x155, c156, rx155, tx155⟩, ⟨x157, c158, rx157, tx157⟩, hq159⟩ | ⟨rfl, ⟨x160, c161, rx160, tx160⟩, ⟨x162, c163, rx162, tx162⟩, ⟨x164, c165, rx164, tx164⟩, ⟨x166, c167, rx166, tx166⟩, hq168⟩ | ⟨rfl, ⟨x169, c170, rx169, tx169⟩, ⟨x171, c172, rx171, tx171⟩, hq173, g174, g175⟩ | ⟨rfl, ⟨x176, c177, rx176, tx176⟩, ⟨x178, c179, rx178, tx178⟩, hq180, g181, g182⟩
          · have ex151 : x151.toInt = x9.toInt := by rw [← c185.symm.trans c152]
            have ex155 : x155.toInt = f0_.toInt := by rw [← c184.symm.trans c156]
            obtain ⟨x187, c188, rx187, tx187⟩ := hT.rda (lo := 0) (hi := 400) (i := (f0_.toInt).toNat) kM_at3 rfl rfl (by omega)
            obtain ⟨x189, c190, rx189, tx189⟩ := hT.rdi (lo := 0) (hi := 60) (k := 18) kM_at0 (by decide) rfl
            obtain ⟨x191, c192, rx191, tx191⟩ := hT.rda (lo := 0) (hi := 12) (i := (f0_.toInt).toNat) kM_at5 rfl rfl (by omega)
            have hR := hq159
            exact tk_zret hC hr rfl hlocks hK ⟨hT, hF, (Or.inl ⟨rfl, ⟨x9, c185, (show 1 ≤ x9.toInt by omega), (show x9.toInt ≤ 400 by omega)⟩, ⟨x153, c154, (show 1 ≤ x153.toInt by omega), (show x153.toInt ≤ 3205 by omega)⟩, ⟨f0_, c184, (show 0 ≤ f0_.toInt by omega), (show f0_.toInt ≤ 5 by omega)⟩, ⟨x57, c186, (show 0 ≤ x57.toInt by omega), (show x57.toInt ≤ 12 by omega)⟩, hR, (by simp only [c184, cf0_, cf2_, c186]; omega), (by simp only [c184, cf0_, c186]; omega)⟩)⟩ hw dX12_clauseHere_156
          · have ex160 : x160.toInt = x9.toInt := by rw [← c185.symm.trans c161]
            have ex164 : x164.toInt = f0_.toInt := by rw [← c184.symm.trans c165]
            obtain ⟨x193, c194, rx193, tx193⟩ := hT.rda (lo := 0) (hi := 400) (i := (f0_.toInt).toNat) kM_at3 rfl rfl (by omega)
            obtain ⟨x195, c196, rx195, tx195⟩ := hT.rdi (lo := 0) (hi := 60) (k := 18) kM_at0 (by decide) rfl
            obtain ⟨x197, c198, rx197, tx197⟩ := hT.rda (lo := 0) (hi := 12) (i := (f0_.toInt).toNat) kM_at5 rfl rfl (by omega)
            have hR := hq168
            exact tk_zret hC hr rfl hlocks hK ⟨hT, hF, (Or.inl ⟨rfl, ⟨x9, c185, (show 1 ≤ x9.toInt by omega), (show x9.toInt ≤ 400 by omega)⟩, ⟨x162, c163, (show 1 ≤ x162.toInt by omega), (show x162.toInt ≤ 3205 by omega)⟩, ⟨f0_, c184, (show 0 ≤ f0_.toInt by omega), (show f0_.toInt ≤ 5 by omega)⟩, ⟨x57, c186, (show 0 ≤ x57.toInt by omega), (show x57.toInt ≤ 12 by omega)⟩, hR, (by simp only [c184, cf0_, cf2_, c186]; omega), (by simp only [c184, cf0_, c186]; omega)⟩)⟩ hw dX12_clauseHere_156
          · have ex169 : x169.toInt = x9.toInt := by rw [← c185.symm.trans c170]
            have ex171 : x171.toInt = f0_.toInt := by rw [← c184.symm.trans c172]
            obtain ⟨x199, c200, rx199, tx199⟩ := hT.rda (lo := 0) (hi := 400) (i := (f0_.toInt).toNat) kM_at3 rfl rfl (by omega)
            obtain ⟨x201, c202, rx201, tx201⟩ := hT.rdi (lo := 0) (hi := 60) (k := 18) kM_at0 (by decide) rfl
            obtain ⟨x203, c204, rx203, tx203⟩ := hT.rda (lo := 0) (hi := 12) (i := (f0_.toInt).toNat) kM_at5 rfl rfl (by omega)
            have g174 : 3 * x199.toInt ≤ 14 * x201.toInt := by have q := g174; simp only [c77, c184, c200, c202] at q; omega
            have g175 : x203.toInt = f4_.toInt + 1 := by have q := g175; simp only [c77, c184, c80, c204] at q; omega
            have hR := hq173
            exact tk_zret hC hr rfl hlocks hK ⟨hT, hF, (Or.inr (Or.inr (Or.inl ⟨rfl, ⟨x9, c185, (show 1 ≤ x9.toInt by omega), (show x9.toInt ≤ 400 by omega)⟩, ⟨f0_, c184, (show 0 ≤ f0_.toInt by omega), (show f0_.toInt ≤ 5 by omega)⟩, ⟨x57, c186, (show 1 ≤ x57.toInt by omega), (show x57.toInt ≤ 12 by omega)⟩, hR, (by simp only [c184, cf0_, c200, c202]; omega), (by simp only [c184, cf0_, c204, c186]; omega), (by simp only [c184, cf0_, cf2_, c186]; omega), (by simp only [c184, cf0_, c186]; omega)⟩)))⟩ hw dX12_clauseHere_156
          · have ex176 : x176.toInt = x9.toInt := by rw [← c185.symm.trans c177]
            have ex178 : x178.toInt = f0_.toInt := by rw [← c184.symm.trans c179]
            obtain ⟨x205, c206, rx205, tx205⟩ := hT.rda (lo := 0) (hi := 400) (i := (f0_.toInt).toNat) kM_at3 rfl rfl (by omega)
            obtain ⟨x207, c208, rx207, tx207⟩ := hT.rdi (lo := 0) (hi := 60) (k := 18) kM_at0 (by decide) rfl
            obtain ⟨x209, c210, rx209, tx209⟩ := hT.rda (lo := 0) (hi := 12) (i := (f0_.toInt).toNat) kM_at5 rfl rfl (by omega)
            have g181 : 3 * x205.toInt ≤ 14 * x207.toInt := by have q := g181; simp only [c77, c184, c206, c208] at q; omega
            have g182 : x209.toInt = f4_.toInt + 1 := by have q := g182; simp only [c77, c184, c80, c210] at q; omega
            have hR := hq180
            exact tk_zret hC hr rfl hlocks hK ⟨hT, hF, (Or.inr (Or.inr (Or.inl ⟨rfl, ⟨x9, c185, (show 1 ≤ x9.toInt by omega), (show x9.toInt ≤ 400 by omega)⟩, ⟨f0_, c184, (show 0 ≤ f0_.toInt by omega), (show f0_.toInt ≤ 5 by omega)⟩, ⟨x57, c186, (show 1 ≤ x57.toInt by omega), (show x57.toInt ≤ 12 by omega)⟩, hR, (by simp only [c184, cf0_, c206, c208]; omega), (by simp only [c184, cf0_, c210, c186]; omega), (by simp only [c184, cf0_, cf2_, c186]; omega), (by simp only [c184, cf0_, c186]; omega)⟩)))⟩ hw dX12_clauseHere_156
      · have c54 : f2_.toInt = (12 : Int) := wk_eq.mp c54
        refine lv_aload_n hx hb dX12_clauseHere_119 rfl (lv_at hl 3 rfl) ?_
        refine lv_iconst (v := 4) hx hb dX12_clauseHere_120 (by decide) ?_
        refine lv_iload_n hx hb dX12_clauseHere_121 rfl (lv_at hl 2 rfl) ?_
        refine tk_Vi hC hK hw hT hA hE hSR kM_at0 (by decide) rfl (k_X12_fails_1 l adK adV dC dI cy ad B (by omega) (by omega) qr s1   4 (by decide) (by decide) x11 (show 0 ≤ x11.toInt by omega) (show x11.toInt ≤ 400 by omega) w37 H.size hT ) (cwV 2 hC.2.2.2.2 gX12_clauseHere_X12_fails rfl rfl rfl (by decide +kernel) ⟨Nat.le_of_ble_eq_true rfl, Nat.le_of_ble_eq_true rfl⟩) rfl hl.1 rfl (Nat.le_of_ble_eq_true rfl) dX12_clauseHere_122 (fun r211 w213 H locs hp212 hw => ?_)
        obtain ⟨hT, k214, hg217⟩ := hp212
        have hR := RL_FE k214 (fun _ => rfl) (fun _ => rfl) (fun _ => rfl) (fun _ => rfl) hR
        have hF := hF.tr k214 (by decide)
        have c218 := k214.gi kM_at0 (by decide) c46
        have c219 := k214.gi kM_at0 (by decide) c47
        have c220 := k214.gi kM_at0 (by decide) c48
        have c221 := k214.gi kM_at3 rfl c49
        have c222 := k214.gi kM_at5 rfl c50
        have c223 := k214.gi kM_at0 (by decide) c51
        obtain ⟨rfl, ⟨x215, c216, rx215, tx215⟩⟩ := hg217
        exact tk_zret hC hr rfl hlocks hK ⟨hT, hF, (Or.inl ⟨rfl, ⟨x9, c223, (show 1 ≤ x9.toInt by omega), (show x9.toInt ≤ 400 by omega)⟩, ⟨x215, c216, (show 1 ≤ x215.toInt by omega), (show x215.toInt ≤ 3205 by omega)⟩, ⟨f0_, c218, (show 0 ≤ f0_.toInt by omega), (show f0_.toInt ≤ 5 by omega)⟩, ⟨f2_, c220, (show 0 ≤ f2_.toInt by omega), (show f2_.toInt ≤ 12 by omega)⟩, hR, (by simp only [c218, cf0_, cf2_, c220]; omega), (by simp only [c218, cf0_, c220]; omega)⟩)⟩ hw dX12_clauseHere_125
    · have ex43 : x43.toInt = x9.toInt := by rw [← c51.symm.trans c44]
      refine lv_if_lt (tgt := 88) hx hb dX12_clauseHere_81 (by decide) (fun _ => ?_) (fun c => absurd (by decide) c)
      refine lv_iconst (v := 0) hx hb dX12_clauseHere_88 (by decide) ?_
      refine lv_istore_n (lv' := [(3, .int 0), (2, .int 0), (1, .int x11), (0, .ref (ad 0))]) hx hb dX12_clauseHere_89 rfl hl (by decide) rfl (fun ls hl => ?_)
      refine lv_iload_n hx hb dX12_clauseHere_90 rfl (lv_at hl 0 rfl) ?_
      refine lv_if_ne (tgt := 101) hx hb dX12_clauseHere_91 (by decide) (fun c => absurd (by decide) c) (fun _ => ?_)
      refine lv_aload_n hx hb dX12_clauseHere_94 rfl (lv_at hl 3 rfl) ?_
      refine lv_iconst (v := 0) hx hb dX12_clauseHere_95 (by decide) ?_
      refine lv_iload_n hx hb dX12_clauseHere_96 rfl (lv_at hl 2 rfl) ?_
      refine tk_Vi hC hK hw hT hA hE hSR kM_at0 (by decide) rfl (k_X12_fails_1 l adK adV dC dI cy ad B (by omega) (by omega) qr s1   0 (by decide) (by decide) x11 (show 0 ≤ x11.toInt by omega) (show x11.toInt ≤ 400 by omega) w37 H.size hT ) (cwV 2 hC.2.2.2.2 gX12_clauseHere_X12_fails rfl rfl rfl (by decide +kernel) ⟨Nat.le_of_ble_eq_true rfl, Nat.le_of_ble_eq_true rfl⟩) rfl hl.1 rfl (Nat.le_of_ble_eq_true rfl) dX12_clauseHere_97 (fun r224 w226 H locs hp225 hw => ?_)
      obtain ⟨hT, k227, hg230⟩ := hp225
      have hR := RL_FE k227 (fun _ => rfl) (fun _ => rfl) (fun _ => rfl) (fun _ => rfl) hR
      have hF := hF.tr k227 (by decide)
      have c231 := k227.gi kM_at0 (by decide) c46
      have c232 := k227.gi kM_at0 (by decide) c47
      have c233 := k227.gi kM_at0 (by decide) c48
      have c234 := k227.gi kM_at3 rfl c49
      have c235 := k227.gi kM_at5 rfl c50
      have c236 := k227.gi kM_at0 (by decide) c51
      obtain ⟨rfl, ⟨x228, c229, rx228, tx228⟩⟩ := hg230
      exact tk_zret hC hr rfl hlocks hK ⟨hT, hF, (Or.inl ⟨rfl, ⟨x9, c236, (show 1 ≤ x9.toInt by omega), (show x9.toInt ≤ 400 by omega)⟩, ⟨x228, c229, (show 1 ≤ x228.toInt by omega), (show x228.toInt ≤ 3205 by omega)⟩, ⟨f0_, c231, (show 0 ≤ f0_.toInt by omega), (show f0_.toInt ≤ 5 by omega)⟩, ⟨f2_, c233, (show 0 ≤ f2_.toInt by omega), (show f2_.toInt ≤ 12 by omega)⟩, hR, (by simp only [c231, cf0_, cf2_, c233]; omega), (by simp only [c231, cf0_, c233]; omega)⟩)⟩ hw dX12_clauseHere_100
  · have g19 : (x17.toInt = x1.toInt ∨ (gi w0 1 (x1.toInt).toNat).toInt = 32) := by have q := g19; simp only [cf0_, c24, c2, c18] at q; omega
    refine lv_pop hx hb dX12_clauseHere_4 rfl ?_
    refine lv_aload_n hx hb dX12_clauseHere_5 rfl (lv_at hl 0 rfl) ?_
    refine tk_geti hC hK hw hT hinX12 kM_at0 (by decide) rfl 14 (by decide) (List.mem_of_getElem? (i := 1) rfl) rfl rfl dX12_clauseHere_6 (fun x237 c238 rx237 tx237 => ?_)
    refine wk_top x17 (c238.symm.trans c18) ?_
    refine lv_istore_n (lv' := [(1, .int x17), (0, .ref (ad 0))]) hx hb dX12_clauseHere_9 rfl hl (by decide) rfl (fun ls hl => ?_)
    refine lv_aload_n hx hb dX12_clauseHere_10 rfl (lv_at hl 1 rfl) ?_
    refine tk_geti hC hK hw hT hinX12 kM_at0 (by decide) rfl 17 (by decide) (List.mem_of_getElem? (i := 2) rfl) rfl rfl dX12_clauseHere_11 (fun x239 c240 rx239 tx239 => ?_)
    refine wk_top f0_ (c240.symm.trans c24) ?_
    refine lv_bipush (v := 6) hx hb dX12_clauseHere_14 (by decide) ?_
    refine lv_icmp_ne (tgt := 23) hx hb dX12_clauseHere_16 (by decide) (fun _ => ?_) (fun c => absurd (show f0_.toInt = (6 : Int) from wk_eq.mp c) (by omega))
    refine lv_iconst (v := 0) hx hb dX12_clauseHere_23 (by decide) ?_
    refine lv_istore_n (lv' := [(2, .int 0), (1, .int x17), (0, .ref (ad 0))]) hx hb dX12_clauseHere_24 rfl hl (by decide) rfl (fun ls hl => ?_)
    refine lv_iload_n hx hb dX12_clauseHere_25 rfl (lv_at hl 0 rfl) ?_
    refine lv_if_eq (tgt := 77) hx hb dX12_clauseHere_26 (by decide) (fun _ => ?_) (fun c => absurd (by decide) c)
    refine lv_aload_n hx hb dX12_clauseHere_77 rfl (lv_at hl 2 rfl) ?_
    refine tk_Vi hC hK hw hT hA hE hSR kM_at0 (by decide) rfl (k_X12_doingSort_1 l adK adV dC dI cy ad B (by omega) (by omega) qr s1    w5 H.size hT ) (cwV 0 hC.2.2.2.2 gX12_clauseHere_X12_doingSort rfl rfl rfl (by decide +kernel) ⟨Nat.le_of_ble_eq_true rfl, Nat.le_of_ble_eq_true rfl⟩) rfl hl.1 rfl (Nat.le_of_ble_eq_true rfl) dX12_clauseHere_78 (fun r241 w243 H locs hp242 hw => ?_)
    obtain ⟨hT, k244, hg251⟩ := hp242
    have hR := RL_FE k244 (fun _ => rfl) (fun _ => rfl) (fun _ => rfl) (fun _ => rfl) hR
    have hF := hF.tr k244 (by decide)
    have c252 := k244.gi kM_at0 (by decide) c24
    have c253 := k244.gi kM_at0 (by decide) c25
    have c254 := k244.gi kM_at0 (by decide) c26
    have c255 := k244.gi kM_at3 rfl c27
    have c256 := k244.gi kM_at5 rfl c28
    have c257 := k244.gi kM_at0 (by decide) c16
    rcases hg251 with ⟨g245, g246, ⟨x247, c248, rx247, tx247⟩⟩ | ⟨rfl, ⟨x249, c250, rx249, tx249⟩⟩
    · have ex247 : x247.toInt = x15.toInt := by rw [← c257.symm.trans c248]
      refine lv_if_lt (tgt := 88) hx hb dX12_clauseHere_81 (by decide) (fun c => absurd c (fun h => absurd (show r241.toInt < (0 : Int) from wk_lt.mp h) (by omega))) (fun _ => ?_)
      refine lv_iconst (v := 1) hx hb dX12_clauseHere_84 (by decide) ?_
      refine lv_goto (tgt := 89) hx hb dX12_clauseHere_85 (by decide) ?_
      refine lv_istore_n (lv' := [(3, .int 1), (2, .int 0), (1, .int x17), (0, .ref (ad 0))]) hx hb dX12_clauseHere_89 rfl hl (by decide) rfl (fun ls hl => ?_)
      refine lv_iload_n hx hb dX12_clauseHere_90 rfl (lv_at hl 0 rfl) ?_
      refine lv_if_ne (tgt := 101) hx hb dX12_clauseHere_91 (by decide) (fun _ => ?_) (fun c => absurd c (by decide))
      refine lv_aload_n hx hb dX12_clauseHere_101 rfl (lv_at hl 3 rfl) ?_
      refine tk_geti hC hK hw hT hinX12 kM_at0 (by decide) rfl 20 (by decide) (List.mem_of_getElem? (i := 7) rfl) rfl rfl dX12_clauseHere_102 (fun x258 c259 rx258 tx258 => ?_)
      refine wk_top f2_ (c259.symm.trans c254) ?_
      refine lv_iload_n hx hb dX12_clauseHere_105 rfl (lv_at hl 1 rfl) ?_
      refine lv_if_eq (tgt := 114) hx hb dX12_clauseHere_106 (by decide) (fun _ => ?_) (fun c => absurd (by decide) c)
      refine lv_bipush (v := 12) hx hb dX12_clauseHere_114 (by decide) ?_
      refine lv_icmp_ne (tgt := 126) hx hb dX12_clauseHere_116 (by decide) (fun c260 => ?_) (fun c260 => ?_)
      · have c260 : ¬ f2_.toInt = (12 : Int) := wk_eqF c260
        refine lv_aload_n hx hb dX12_clauseHere_126 rfl (lv_at hl 3 rfl) ?_
        refine lv_dup hx hb dX12_clauseHere_127 rfl ?_
        refine tk_geti hC hK hw hT hinX12 kM_at0 (by decide) rfl 20 (by decide) (List.mem_of_getElem? (i := 7) rfl) rfl rfl dX12_clauseHere_128 (fun x261 c262 rx261 tx261 => ?_)
        refine wk_top f2_ (c262.symm.trans c254) ?_
        refine lv_iconst (v := 1) hx hb dX12_clauseHere_131 (by decide) ?_
        refine lv_iadd hx hb dX12_clauseHere_132 ?_
        refine lv_topi (fun x263 ex263 => ?_)
        have ex263 : x263.toInt = f2_.toInt + (1 : Int) := by rw [ex263]; exact wk_add (show (-2147483648) ≤ f2_.toInt + (1 : Int) by omega) (show f2_.toInt + (1 : Int) ≤ 2147483647 by omega)
        refine tk_puti hC hK hw hT hinX12 tyX12_ok nmX12 kM_at0 (by decide) rfl rfl 20 (by decide) (List.mem_of_getElem? (i := 7) rfl) rfl rfl rfl rfl (show 0 ≤ x263.toInt by omega) (show x263.toInt ≤ 32 by omega) dX12_clauseHere_133 (fun H locs w264 hw hT k266 c265 => ?_)
        have hR := RL_F1 k266 (by decide) (by decide) (by decide) (by decide) hR
        have hF := hF.put kM_at0 (k := 20) (by decide) k266
        have c267 := k266.gi (Or.inr (by decide)) c252
        have c268 := k266.gi (Or.inr (by decide)) c253
        have c269 := k266.gi (Or.inl (tk_ne kM_at3 kM_at0 (by decide))) c255
        have c270 := k266.gi (Or.inl (tk_ne kM_at5 kM_at0 (by decide))) c256
        have c271 := k266.gi (Or.inr (by decide)) c257
        refine lv_iload_n hx hb dX12_clauseHere_136 rfl (lv_at hl 1 rfl) ?_
        refine lv_if_eq (tgt := 148) hx hb dX12_clauseHere_137 (by decide) (fun _ => ?_) (fun c => absurd (by decide) c)
        refine lv_aload_n hx hb dX12_clauseHere_148 rfl (lv_at hl 3 rfl) ?_
        refine lv_aload_n hx hb dX12_clauseHere_149 rfl (lv_at hl 3 rfl) ?_
        refine tk_Vi hC hK hw hT hA hE hSR kM_at0 (by decide) rfl (k_X12_doingSort_1 l adK adV dC dI cy ad B (by omega) (by omega) qr s1    w264 H.size hT ) (cwV 0 hC.2.2.2.2 gX12_clauseHere_X12_doingSort rfl rfl rfl (by decide +kernel) ⟨Nat.le_of_ble_eq_true rfl, Nat.le_of_ble_eq_true rfl⟩) rfl hl.1 rfl (Nat.le_of_ble_eq_true rfl) dX12_clauseHere_150 (fun r272 w274 H locs hp273 hw => ?_)
        obtain ⟨hT, k275, hg282⟩ := hp273
        have hR := RL_FE k275 (fun _ => rfl) (fun _ => rfl) (fun _ => rfl) (fun _ => rfl) hR
        have hF := hF.tr k275 (by decide)
        have c283 := k275.gi kM_at0 (by decide) c267
        have c284 := k275.gi kM_at0 (by decide) c268
        have c285 := k275.gi kM_at3 rfl c269
        have c286 := k275.gi kM_at5 rfl c270
        have c287 := k275.gi kM_at0 (by decide) c271
        have c288 := k275.gi kM_at0 (by decide) c265
        rcases hg282 with ⟨g276, g277, ⟨x278, c279, rx278, tx278⟩⟩ | ⟨rfl, ⟨x280, c281, rx280, tx280⟩⟩
        · have ex278 : x278.toInt = x15.toInt := by rw [← c287.symm.trans c279]
          refine tk_Vi hC hK hw hT hA hE hSR kM_at0 (by decide) rfl (k_X12_isDoingHere_2 l adK adV dC dI cy ad B (by omega) (by omega) qr s1   r272 (show 0 ≤ r272.toInt by omega) (show r272.toInt ≤ 3 by omega) w274 H.size hT f0_ c283 (show 0 ≤ f0_.toInt by omega) (show f0_.toInt ≤ 5 by omega) f1_ c284 (show 0 ≤ f1_.toInt by omega) (show f1_.toInt ≤ 60 by omega) f3_ c285 (show 0 ≤ f3_.toInt by omega) (show f3_.toInt ≤ 400 by omega) f4_ c286 (show 0 ≤ f4_.toInt by omega) (show f4_.toInt ≤ 12 by omega) (show 3 * f3_.toInt ≤ 14 * f1_.toInt by omega) (show f3_.toInt ≤ 280 by omega) (show f4_.toInt ≤ 11 by omega) hR) (cwV 1 hC.2.2.2.2 gX12_clauseHere_X12_isDoingHere rfl rfl rfl (by decide +kernel) ⟨Nat.le_of_ble_eq_true rfl, Nat.le_of_ble_eq_true rfl⟩) rfl hl.1 rfl (Nat.le_of_ble_eq_true rfl) dX12_clauseHere_153 (fun r289 w291 H locs hp290 hw => ?_)
          obtain ⟨hT, k292, hg325⟩ := hp290
          have hF := hF.tr k292 (by decide)
          have c326 := k292.gi kM_at0 (by decide) c283
          have c327 := k292.gi kM_at0 (by decide) c287
          have c328 := k292.gi kM_at0 (by decide) c288
          rcases hg325 with ⟨rfl, ⟨x293, c294, rx293, tx293⟩, ⟨x295, c296, rx295, tx295⟩, ⟨x297, c298, rx297, tx297⟩, ⟨x299, c300, rx299, tx299⟩, hq301⟩ | ⟨rfl, ⟨x302, c303, rx302, tx302⟩, ⟨x304, c305, rx304, tx304⟩, ⟨x306, c307, rx306, tx306⟩, ⟨x308, c309, rx308, tx308⟩, hq310⟩ | ⟨rfl, ⟨x311, c312, rx311, tx311⟩, ⟨x313, c314, rx313, tx313⟩, hq315, g316, g317⟩ | ⟨rfl, ⟨x318, c319, rx318, tx318⟩, ⟨x320, c321, rx320, tx320⟩, hq322, g323, g324⟩
          · have ex293 : x293.toInt = x15.toInt := by rw [← c327.symm.trans c294]
            have ex297 : x297.toInt = f0_.toInt := by rw [← c326.symm.trans c298]
            obtain ⟨x329, c330, rx329, tx329⟩ := hT.rda (lo := 0) (hi := 400) (i := (f0_.toInt).toNat) kM_at3 rfl rfl (by omega)
            obtain ⟨x331, c332, rx331, tx331⟩ := hT.rdi (lo := 0) (hi := 60) (k := 18) kM_at0 (by decide) rfl
            obtain ⟨x333, c334, rx333, tx333⟩ := hT.rda (lo := 0) (hi := 12) (i := (f0_.toInt).toNat) kM_at5 rfl rfl (by omega)
            have hR := hq301
            exact tk_zret hC hr rfl hlocks hK ⟨hT, hF, (Or.inl ⟨rfl, ⟨x15, c327, (show 1 ≤ x15.toInt by omega), (show x15.toInt ≤ 400 by omega)⟩, ⟨x295, c296, (show 1 ≤ x295.toInt by omega), (show x295.toInt ≤ 3205 by omega)⟩, ⟨f0_, c326, (show 0 ≤ f0_.toInt by omega), (show f0_.toInt ≤ 5 by omega)⟩, ⟨x263, c328, (show 0 ≤ x263.toInt by omega), (show x263.toInt ≤ 12 by omega)⟩, hR, (by simp only [c326, cf0_, cf2_, c328]; omega), (by simp only [c326, cf0_, c328]; omega)⟩)⟩ hw dX12_clauseHere_156
          · have ex302 : x302.toInt = x15.toInt := by rw [← c327.symm.trans c303]
            have ex306 : x306.toInt = f0_.toInt := by rw [← c326.symm.trans c307]
            obtain ⟨x335, c336, rx335, tx335⟩ := hT.rda (lo := 0) (hi := 400) (i := (f0_.toInt).toNat) kM_at3 rfl rfl (by omega)
            obtain ⟨x337, c338, rx337, tx337⟩ := hT.rdi (lo := 0) (hi := 60) (k := 18) kM_at0 (by decide) rfl
            obtain ⟨x339, c340, rx339, tx339⟩ := hT.rda (lo := 0) (hi := 12) (i := (f0_.toInt).toNat) kM_at5 rfl rfl (by omega)
            have hR := hq310
            exact tk_zret hC hr rfl hlocks hK ⟨hT, hF, (Or.inl ⟨rfl, ⟨x15, c327, (show 1 ≤ x15.toInt by omega), (show x15.toInt ≤ 400 by omega)⟩, ⟨x304, c305, (show 1 ≤ x304.toInt by omega), (show x304.toInt ≤ 3205 by omega)⟩, ⟨f0_, c326, (show 0 ≤ f0_.toInt by omega), (show f0_.toInt ≤ 5 by omega)⟩, ⟨x263, c328, (show 0 ≤ x263.toInt by omega), (show x263.toInt ≤ 12 by omega)⟩, hR, (by simp only [c326, cf0_, cf2_, c328]; omega), (by simp only [c326, cf0_, c328]; omega)⟩)⟩ hw dX12_clauseHere_156
          · have ex311 : x311.toInt = x15.toInt := by rw [← c327.symm.trans c312]
            have ex313 : x313.toInt = f0_.toInt := by rw [← c326.symm.trans c314]
            obtain ⟨x341, c342, rx341, tx341⟩ := hT.rda (lo := 0) (hi := 400) (i := (f0_.toInt).toNat) kM_at3 rfl rfl (by omega)
            obtain ⟨x343, c344, rx343, tx343⟩ := hT.rdi (lo := 0) (hi := 60) (k := 18) kM_at0 (by decide) rfl
            obtain ⟨x345, c346, rx345, tx345⟩ := hT.rda (lo := 0) (hi := 12) (i := (f0_.toInt).toNat) kM_at5 rfl rfl (by omega)
            have g316 : 3 * x341.toInt ≤ 14 * x343.toInt := by have q := g316; simp only [c283, c326, c342, c344] at q; omega
            have g317 : x345.toInt = f4_.toInt + 1 := by have q := g317; simp only [c283, c326, c286, c346] at q; omega
            have hR := hq315
            exact tk_zret hC hr rfl hlocks hK ⟨hT, hF, (Or.inr (Or.inr (Or.inl ⟨rfl, ⟨x15, c327, (show 1 ≤ x15.toInt by omega), (show x15.toInt ≤ 400 by omega)⟩, ⟨f0_, c326, (show 0 ≤ f0_.toInt by omega), (show f0_.toInt ≤ 5 by omega)⟩, ⟨x263, c328, (show 1 ≤ x263.toInt by omega), (show x263.toInt ≤ 12 by omega)⟩, hR, (by simp only [c326, cf0_, c342, c344]; omega), (by simp only [c326, cf0_, c346, c328]; omega), (by simp only [c326, cf0_, cf2_, c328]; omega), (by simp only [c326, cf0_, c328]; omega)⟩)))⟩ hw dX12_clauseHere_156
          · have ex318 : x318.toInt = x15.toInt := by rw [← c327.symm.trans c319]
            have ex320 : x320.toInt = f0_.toInt := by rw [← c326.symm.trans c321]
            obtain ⟨x347, c348, rx347, tx347⟩ := hT.rda (lo := 0) (hi := 400) (i := (f0_.toInt).toNat) kM_at3 rfl rfl (by omega)
            obtain ⟨x349, c350, rx349, tx349⟩ := hT.rdi (lo := 0) (hi := 60) (k := 18) kM_at0 (by decide) rfl
            obtain ⟨x351, c352, rx351, tx351⟩ := hT.rda (lo := 0) (hi := 12) (i := (f0_.toInt).toNat) kM_at5 rfl rfl (by omega)
            have g323 : 3 * x347.toInt ≤ 14 * x349.toInt := by have q := g323; simp only [c283, c326, c348, c350] at q; omega
            have g324 : x351.toInt = f4_.toInt + 1 := by have q := g324; simp only [c283, c326, c286, c352] at q; omega
            have hR := hq322
            exact tk_zret hC hr rfl hlocks hK ⟨hT, hF, (Or.inr (Or.inr (Or.inl ⟨rfl, ⟨x15, c327, (show 1 ≤ x15.toInt by omega), (show x15.toInt ≤ 400 by omega)⟩, ⟨f0_, c326, (show 0 ≤ f0_.toInt by omega), (show f0_.toInt ≤ 5 by omega)⟩, ⟨x263, c328, (show 1 ≤ x263.toInt by omega), (show x263.toInt ≤ 12 by omega)⟩, hR, (by simp only [c326, cf0_, c348, c350]; omega), (by simp only [c326, cf0_, c352, c328]; omega), (by simp only [c326, cf0_, cf2_, c328]; omega), (by simp only [c326, cf0_, c328]; omega)⟩)))⟩ hw dX12_clauseHere_156
        · have ex280 : x280.toInt = x15.toInt := by rw [← c287.symm.trans c281]
          refine tk_Vi hC hK hw hT hA hE hSR kM_at0 (by decide) rfl (k_X12_isDoingHere_1 l adK adV dC dI cy ad B (by omega) (by omega) qr s1    w274 H.size hT f0_ c283 (show 0 ≤ f0_.toInt by omega) (show f0_.toInt ≤ 5 by omega) f1_ c284 (show 0 ≤ f1_.toInt by omega) (show f1_.toInt ≤ 60 by omega) f3_ c285 (show 0 ≤ f3_.toInt by omega) (show f3_.toInt ≤ 400 by omega) f4_ c286 (show 0 ≤ f4_.toInt by omega) (show f4_.toInt ≤ 12 by omega) (show 3 * f3_.toInt ≤ 14 * f1_.toInt by omega) (show f3_.toInt ≤ 280 by omega) (show f4_.toInt ≤ 11 by omega) hR) (cwV 1 hC.2.2.2.2 gX12_clauseHere_X12_isDoingHere rfl rfl rfl (by decide +kernel) ⟨Nat.le_of_ble_eq_true rfl, Nat.le_of_ble_eq_true rfl⟩) rfl hl.1 rfl (Nat.le_of_ble_eq_true rfl) dX12_clauseHere_153 (fun r353 w355 H locs hp354 hw => ?_)
          obtain ⟨hT, k356, hg389⟩ := hp354
          have hF := hF.tr k356 (by decide)
          have c390 := k356.gi kM_at0 (by decide) c283
          have c391 := k356.gi kM_at0 (by decide) c287
          have c392 := k356.gi kM_at0 (by decide) c288
          rcases hg389 with ⟨rfl, ⟨x357, c358, rx357, tx357⟩, ⟨x359, c360, rx359, tx359⟩, ⟨x361, c362, rx361, tx361⟩, ⟨x363, c364, rx363, tx363⟩, hq365⟩ | ⟨rfl, ⟨x366, c367, rx366, tx366⟩, ⟨x368, c369, rx368, tx368⟩, ⟨x370, c371, rx370, tx370⟩, ⟨x372, c373, rx372, tx372⟩, hq374⟩ | ⟨rfl, ⟨x375, c376, rx375, tx375⟩, ⟨x377, c378, rx377, tx377⟩, hq379, g380, g381⟩ | ⟨rfl, ⟨x382, c383, rx382, tx382⟩, ⟨x384, c385, rx384, tx384⟩, hq386, g387, g388⟩
          · have ex357 : x357.toInt = x15.toInt := by rw [← c391.symm.trans c358]
            have ex361 : x361.toInt = f0_.toInt := by rw [← c390.symm.trans c362]
            obtain ⟨x393, c394, rx393, tx393⟩ := hT.rda (lo := 0) (hi := 400) (i := (f0_.toInt).toNat) kM_at3 rfl rfl (by omega)
            obtain ⟨x395, c396, rx395, tx395⟩ := hT.rdi (lo := 0) (hi := 60) (k := 18) kM_at0 (by decide) rfl
            obtain ⟨x397, c398, rx397, tx397⟩ := hT.rda (lo := 0) (hi := 12) (i := (f0_.toInt).toNat) kM_at5 rfl rfl (by omega)
            have hR := hq365
            exact tk_zret hC hr rfl hlocks hK ⟨hT, hF, (Or.inl ⟨rfl, ⟨x15, c391, (show 1 ≤ x15.toInt by omega), (show x15.toInt ≤ 400 by omega)⟩, ⟨x359, c360, (show 1 ≤ x359.toInt by omega), (show x359.toInt ≤ 3205 by omega)⟩, ⟨f0_, c390, (show 0 ≤ f0_.toInt by omega), (show f0_.toInt ≤ 5 by omega)⟩, ⟨x263, c392, (show 0 ≤ x263.toInt by omega), (show x263.toInt ≤ 12 by omega)⟩, hR, (by simp only [c390, cf0_, cf2_, c392]; omega), (by simp only [c390, cf0_, c392]; omega)⟩)⟩ hw dX12_clauseHere_156
          · have ex366 : x366.toInt = x15.toInt := by rw [← c391.symm.trans c367]
            have ex370 : x370.toInt = f0_.toInt := by rw [← c390.symm.trans c371]
            obtain ⟨x399, c400, rx399, tx399⟩ := hT.rda (lo := 0) (hi := 400) (i := (f0_.toInt).toNat) kM_at3 rfl rfl (by omega)
            obtain ⟨x401, c402, rx401, tx401⟩ := hT.rdi (lo := 0) (hi := 60) (k := 18) kM_at0 (by decide) rfl
            obtain ⟨x403, c404, rx403, tx403⟩ := hT.rda (lo := 0) (hi := 12) (i := (f0_.toInt).toNat) kM_at5 rfl rfl (by omega)
            have hR := hq374
            exact tk_zret hC hr rfl hlocks hK ⟨hT, hF, (Or.inl ⟨rfl, ⟨x15, c391, (show 1 ≤ x15.toInt by omega), (show x15.toInt ≤ 400 by omega)⟩, ⟨x368, c369, (show 1 ≤ x368.toInt by omega), (show x368.toInt ≤ 3205 by omega)⟩, ⟨f0_, c390, (show 0 ≤ f0_.toInt by omega), (show f0_.toInt ≤ 5 by omega)⟩, ⟨x263, c392, (show 0 ≤ x263.toInt by omega), (show x263.toInt ≤ 12 by omega)⟩, hR, (by simp only [c390, cf0_, cf2_, c392]; omega), (by simp only [c390, cf0_, c392]; omega)⟩)⟩ hw dX12_clauseHere_156
          · have ex375 : x375.toInt = x15.toInt := by rw [← c391.symm.trans c376]
            have ex377 : x377.toInt = f0_.toInt := by rw [← c390.symm.trans c378]
            obtain ⟨x405, c406, rx405, tx405⟩ := hT.rda (lo := 0) (hi := 400) (i := (f0_.toInt).toNat) kM_at3 rfl rfl (by omega)
            obtain ⟨x407, c408, rx407, tx407⟩ := hT.rdi (lo := 0) (hi := 60) (k := 18) kM_at0 (by decide) rfl
            obtain ⟨x409, c410, rx409, tx409⟩ := hT.rda (lo := 0) (hi := 12) (i := (f0_.toInt).toNat) kM_at5 rfl rfl (by omega)
            have g380 : 3 * x405.toInt ≤ 14 * x407.toInt := by have q := g380; simp only [c283, c390, c406, c408] at q; omega
            have g381 : x409.toInt = f4_.toInt + 1 := by have q := g381; simp only [c283, c390, c286, c410] at q; omega
            have hR := hq379
            exact tk_zret hC hr rfl hlocks hK ⟨hT, hF, (Or.inr (Or.inr (Or.inl ⟨rfl, ⟨x15, c391, (show 1 ≤ x15.toInt by omega), (show x15.toInt ≤ 400 by omega)⟩, ⟨f0_, c390, (show 0 ≤ f0_.toInt by omega), (show f0_.toInt ≤ 5 by omega)⟩, ⟨x263, c392, (show 1 ≤ x263.toInt by omega), (show x263.toInt ≤ 12 by omega)⟩, hR, (by simp only [c390, cf0_, c406, c408]; omega), (by simp only [c390, cf0_, c410, c392]; omega), (by simp only [c390, cf0_, cf2_, c392]; omega), (by simp only [c390, cf0_, c392]; omega)⟩)))⟩ hw dX12_clauseHere_156
          · have ex382 : x382.toInt = x15.toInt := by rw [← c391.symm.trans c383]
            have ex384 : x384.toInt = f0_.toInt := by rw [← c390.symm.trans c385]
            obtain ⟨x411, c412, rx411, tx411⟩ := hT.rda (lo := 0) (hi := 400) (i := (f0_.toInt).toNat) kM_at3 rfl rfl (by omega)
            obtain ⟨x413, c414, rx413, tx413⟩ := hT.rdi (lo := 0) (hi := 60) (k := 18) kM_at0 (by decide) rfl
            obtain ⟨x415, c416, rx415, tx415⟩ := hT.rda (lo := 0) (hi := 12) (i := (f0_.toInt).toNat) kM_at5 rfl rfl (by omega)
            have g387 : 3 * x411.toInt ≤ 14 * x413.toInt := by have q := g387; simp only [c283, c390, c412, c414] at q; omega
            have g388 : x415.toInt = f4_.toInt + 1 := by have q := g388; simp only [c283, c390, c286, c416] at q; omega
            have hR := hq386
            exact tk_zret hC hr rfl hlocks hK ⟨hT, hF, (Or.inr (Or.inr (Or.inl ⟨rfl, ⟨x15, c391, (show 1 ≤ x15.toInt by omega), (show x15.toInt ≤ 400 by omega)⟩, ⟨f0_, c390, (show 0 ≤ f0_.toInt by omega), (show f0_.toInt ≤ 5 by omega)⟩, ⟨x263, c392, (show 1 ≤ x263.toInt by omega), (show x263.toInt ≤ 12 by omega)⟩, hR, (by simp only [c390, cf0_, c412, c414]; omega), (by simp only [c390, cf0_, c416, c392]; omega), (by simp only [c390, cf0_, cf2_, c392]; omega), (by simp only [c390, cf0_, c392]; omega)⟩)))⟩ hw dX12_clauseHere_156
      · have c260 : f2_.toInt = (12 : Int) := wk_eq.mp c260
        refine lv_aload_n hx hb dX12_clauseHere_119 rfl (lv_at hl 3 rfl) ?_
        refine lv_iconst (v := 4) hx hb dX12_clauseHere_120 (by decide) ?_
        refine lv_iload_n hx hb dX12_clauseHere_121 rfl (lv_at hl 2 rfl) ?_
        refine tk_Vi hC hK hw hT hA hE hSR kM_at0 (by decide) rfl (k_X12_fails_1 l adK adV dC dI cy ad B (by omega) (by omega) qr s1   4 (by decide) (by decide) x17 (show 0 ≤ x17.toInt by omega) (show x17.toInt ≤ 400 by omega) w243 H.size hT ) (cwV 2 hC.2.2.2.2 gX12_clauseHere_X12_fails rfl rfl rfl (by decide +kernel) ⟨Nat.le_of_ble_eq_true rfl, Nat.le_of_ble_eq_true rfl⟩) rfl hl.1 rfl (Nat.le_of_ble_eq_true rfl) dX12_clauseHere_122 (fun r417 w419 H locs hp418 hw => ?_)
        obtain ⟨hT, k420, hg423⟩ := hp418
        have hR := RL_FE k420 (fun _ => rfl) (fun _ => rfl) (fun _ => rfl) (fun _ => rfl) hR
        have hF := hF.tr k420 (by decide)
        have c424 := k420.gi kM_at0 (by decide) c252
        have c425 := k420.gi kM_at0 (by decide) c253
        have c426 := k420.gi kM_at0 (by decide) c254
        have c427 := k420.gi kM_at3 rfl c255
        have c428 := k420.gi kM_at5 rfl c256
        have c429 := k420.gi kM_at0 (by decide) c257
        obtain ⟨rfl, ⟨x421, c422, rx421, tx421⟩⟩ := hg423
        exact tk_zret hC hr rfl hlocks hK ⟨hT, hF, (Or.inl ⟨rfl, ⟨x15, c429, (show 1 ≤ x15.toInt by omega), (show x15.toInt ≤ 400 by omega)⟩, ⟨x421, c422, (show 1 ≤ x421.toInt by omega), (show x421.toInt ≤ 3205 by omega)⟩, ⟨f0_, c424, (show 0 ≤ f0_.toInt by omega), (show f0_.toInt ≤ 5 by omega)⟩, ⟨f2_, c426, (show 0 ≤ f2_.toInt by omega), (show f2_.toInt ≤ 12 by omega)⟩, hR, (by simp only [c424, cf0_, cf2_, c426]; omega), (by simp only [c424, cf0_, c426]; omega)⟩)⟩ hw dX12_clauseHere_125
    · have ex249 : x249.toInt = x15.toInt := by rw [← c257.symm.trans c250]
      refine lv_if_lt (tgt := 88) hx hb dX12_clauseHere_81 (by decide) (fun _ => ?_) (fun c => absurd (by decide) c)
      refine lv_iconst (v := 0) hx hb dX12_clauseHere_88 (by decide) ?_
      refine lv_istore_n (lv' := [(3, .int 0), (2, .int 0), (1, .int x17), (0, .ref (ad 0))]) hx hb dX12_clauseHere_89 rfl hl (by decide) rfl (fun ls hl => ?_)
      refine lv_iload_n hx hb dX12_clauseHere_90 rfl (lv_at hl 0 rfl) ?_
      refine lv_if_ne (tgt := 101) hx hb dX12_clauseHere_91 (by decide) (fun c => absurd (by decide) c) (fun _ => ?_)
      refine lv_aload_n hx hb dX12_clauseHere_94 rfl (lv_at hl 3 rfl) ?_
      refine lv_iconst (v := 0) hx hb dX12_clauseHere_95 (by decide) ?_
      refine lv_iload_n hx hb dX12_clauseHere_96 rfl (lv_at hl 2 rfl) ?_
      refine tk_Vi hC hK hw hT hA hE hSR kM_at0 (by decide) rfl (k_X12_fails_1 l adK adV dC dI cy ad B (by omega) (by omega) qr s1   0 (by decide) (by decide) x17 (show 0 ≤ x17.toInt by omega) (show x17.toInt ≤ 400 by omega) w243 H.size hT ) (cwV 2 hC.2.2.2.2 gX12_clauseHere_X12_fails rfl rfl rfl (by decide +kernel) ⟨Nat.le_of_ble_eq_true rfl, Nat.le_of_ble_eq_true rfl⟩) rfl hl.1 rfl (Nat.le_of_ble_eq_true rfl) dX12_clauseHere_97 (fun r430 w432 H locs hp431 hw => ?_)
      obtain ⟨hT, k433, hg436⟩ := hp431
      have hR := RL_FE k433 (fun _ => rfl) (fun _ => rfl) (fun _ => rfl) (fun _ => rfl) hR
      have hF := hF.tr k433 (by decide)
      have c437 := k433.gi kM_at0 (by decide) c252
      have c438 := k433.gi kM_at0 (by decide) c253
      have c439 := k433.gi kM_at0 (by decide) c254
      have c440 := k433.gi kM_at3 rfl c255
      have c441 := k433.gi kM_at5 rfl c256
      have c442 := k433.gi kM_at0 (by decide) c257
      obtain ⟨rfl, ⟨x434, c435, rx434, tx434⟩⟩ := hg436
      exact tk_zret hC hr rfl hlocks hK ⟨hT, hF, (Or.inl ⟨rfl, ⟨x15, c442, (show 1 ≤ x15.toInt by omega), (show x15.toInt ≤ 400 by omega)⟩, ⟨x434, c435, (show 1 ≤ x434.toInt by omega), (show x434.toInt ≤ 3205 by omega)⟩, ⟨f0_, c437, (show 0 ≤ f0_.toInt by omega), (show f0_.toInt ≤ 5 by omega)⟩, ⟨f2_, c439, (show 0 ≤ f2_.toInt by omega), (show f2_.toInt ≤ 12 by omega)⟩, hR, (by simp only [c437, cf0_, cf2_, c439]; omega), (by simp only [c437, cf0_, c439]; omega)⟩)⟩ hw dX12_clauseHere_100
  · obtain ⟨x29, c30, rx29, tx29⟩ := hT.rdi (lo := 0) (hi := 400) (k := 14) kM_at0 (by decide) rfl
    have g22 : (x29.toInt = x1.toInt ∨ (gi w0 1 (x1.toInt).toNat).toInt = 32) := by have q := g22; simp only [cf0_, c24, c2, c30] at q; omega
    refine lv_pop hx hb dX12_clauseHere_4 rfl ?_
    refine lv_aload_n hx hb dX12_clauseHere_5 rfl (lv_at hl 0 rfl) ?_
    refine tk_geti hC hK hw hT hinX12 kM_at0 (by decide) rfl 14 (by decide) (List.mem_of_getElem? (i := 1) rfl) rfl rfl dX12_clauseHere_6 (fun x443 c444 rx443 tx443 => ?_)
    refine wk_top x29 (c444.symm.trans c30) ?_
    refine lv_istore_n (lv' := [(1, .int x29), (0, .ref (ad 0))]) hx hb dX12_clauseHere_9 rfl hl (by decide) rfl (fun ls hl => ?_)
    refine lv_aload_n hx hb dX12_clauseHere_10 rfl (lv_at hl 1 rfl) ?_
    refine tk_geti hC hK hw hT hinX12 kM_at0 (by decide) rfl 17 (by decide) (List.mem_of_getElem? (i := 2) rfl) rfl rfl dX12_clauseHere_11 (fun x445 c446 rx445 tx445 => ?_)
    refine wk_top f0_ (c446.symm.trans c24) ?_
    refine lv_bipush (v := 6) hx hb dX12_clauseHere_14 (by decide) ?_
    refine lv_icmp_ne (tgt := 23) hx hb dX12_clauseHere_16 (by decide) (fun _ => ?_) (fun c => absurd (show f0_.toInt = (6 : Int) from wk_eq.mp c) (by omega))
    refine lv_iconst (v := 0) hx hb dX12_clauseHere_23 (by decide) ?_
    refine lv_istore_n (lv' := [(2, .int 0), (1, .int x29), (0, .ref (ad 0))]) hx hb dX12_clauseHere_24 rfl hl (by decide) rfl (fun ls hl => ?_)
    refine lv_iload_n hx hb dX12_clauseHere_25 rfl (lv_at hl 0 rfl) ?_
    refine lv_if_eq (tgt := 77) hx hb dX12_clauseHere_26 (by decide) (fun _ => ?_) (fun c => absurd (by decide) c)
    refine lv_aload_n hx hb dX12_clauseHere_77 rfl (lv_at hl 2 rfl) ?_
    refine tk_Vi hC hK hw hT hA hE hSR kM_at0 (by decide) rfl (k_X12_doingSort_1 l adK adV dC dI cy ad B (by omega) (by omega) qr s1    w5 H.size hT ) (cwV 0 hC.2.2.2.2 gX12_clauseHere_X12_doingSort rfl rfl rfl (by decide +kernel) ⟨Nat.le_of_ble_eq_true rfl, Nat.le_of_ble_eq_true rfl⟩) rfl hl.1 rfl (Nat.le_of_ble_eq_true rfl) dX12_clauseHere_78 (fun r447 w449 H locs hp448 hw => ?_)
    obtain ⟨hT, k450, hg457⟩ := hp448
    have hR := RL_FE k450 (fun _ => rfl) (fun _ => rfl) (fun _ => rfl) (fun _ => rfl) hR
    have hF := hF.tr k450 (by decide)
    have c458 := k450.gi kM_at0 (by decide) c24
    have c459 := k450.gi kM_at0 (by decide) c25
    have c460 := k450.gi kM_at0 (by decide) c26
    have c461 := k450.gi kM_at3 rfl c27
    have c462 := k450.gi kM_at5 rfl c28
    have c463 := k450.gi kM_at0 (by decide) c21
    rcases hg457 with ⟨g451, g452, ⟨x453, c454, rx453, tx453⟩⟩ | ⟨rfl, ⟨x455, c456, rx455, tx455⟩⟩
    · have ex453 : x453.toInt = x20.toInt := by rw [← c463.symm.trans c454]
      refine lv_if_lt (tgt := 88) hx hb dX12_clauseHere_81 (by decide) (fun c => absurd c (fun h => absurd (show r447.toInt < (0 : Int) from wk_lt.mp h) (by omega))) (fun _ => ?_)
      refine lv_iconst (v := 1) hx hb dX12_clauseHere_84 (by decide) ?_
      refine lv_goto (tgt := 89) hx hb dX12_clauseHere_85 (by decide) ?_
      refine lv_istore_n (lv' := [(3, .int 1), (2, .int 0), (1, .int x29), (0, .ref (ad 0))]) hx hb dX12_clauseHere_89 rfl hl (by decide) rfl (fun ls hl => ?_)
      refine lv_iload_n hx hb dX12_clauseHere_90 rfl (lv_at hl 0 rfl) ?_
      refine lv_if_ne (tgt := 101) hx hb dX12_clauseHere_91 (by decide) (fun _ => ?_) (fun c => absurd c (by decide))
      refine lv_aload_n hx hb dX12_clauseHere_101 rfl (lv_at hl 3 rfl) ?_
      refine tk_geti hC hK hw hT hinX12 kM_at0 (by decide) rfl 20 (by decide) (List.mem_of_getElem? (i := 7) rfl) rfl rfl dX12_clauseHere_102 (fun x464 c465 rx464 tx464 => ?_)
      refine wk_top f2_ (c465.symm.trans c460) ?_
      refine lv_iload_n hx hb dX12_clauseHere_105 rfl (lv_at hl 1 rfl) ?_
      refine lv_if_eq (tgt := 114) hx hb dX12_clauseHere_106 (by decide) (fun _ => ?_) (fun c => absurd (by decide) c)
      refine lv_bipush (v := 12) hx hb dX12_clauseHere_114 (by decide) ?_
      refine lv_icmp_ne (tgt := 126) hx hb dX12_clauseHere_116 (by decide) (fun c466 => ?_) (fun c466 => ?_)
      · have c466 : ¬ f2_.toInt = (12 : Int) := wk_eqF c466
        refine lv_aload_n hx hb dX12_clauseHere_126 rfl (lv_at hl 3 rfl) ?_
        refine lv_dup hx hb dX12_clauseHere_127 rfl ?_
        refine tk_geti hC hK hw hT hinX12 kM_at0 (by decide) rfl 20 (by decide) (List.mem_of_getElem? (i := 7) rfl) rfl rfl dX12_clauseHere_128 (fun x467 c468 rx467 tx467 => ?_)
        refine wk_top f2_ (c468.symm.trans c460) ?_
        refine lv_iconst (v := 1) hx hb dX12_clauseHere_131 (by decide) ?_
        refine lv_iadd hx hb dX12_clauseHere_132 ?_
        refine lv_topi (fun x469 ex469 => ?_)
        have ex469 : x469.toInt = f2_.toInt + (1 : Int) := by rw [ex469]; exact wk_add (show (-2147483648) ≤ f2_.toInt + (1 : Int) by omega) (show f2_.toInt + (1 : Int) ≤ 2147483647 by omega)
        refine tk_puti hC hK hw hT hinX12 tyX12_ok nmX12 kM_at0 (by decide) rfl rfl 20 (by decide) (List.mem_of_getElem? (i := 7) rfl) rfl rfl rfl rfl (show 0 ≤ x469.toInt by omega) (show x469.toInt ≤ 32 by omega) dX12_clauseHere_133 (fun H locs w470 hw hT k472 c471 => ?_)
        have hR := RL_F1 k472 (by decide) (by decide) (by decide) (by decide) hR
        have hF := hF.put kM_at0 (k := 20) (by decide) k472
        have c473 := k472.gi (Or.inr (by decide)) c458
        have c474 := k472.gi (Or.inr (by decide)) c459
        have c475 := k472.gi (Or.inl (tk_ne kM_at3 kM_at0 (by decide))) c461
        have c476 := k472.gi (Or.inl (tk_ne kM_at5 kM_at0 (by decide))) c462
        have c477 := k472.gi (Or.inr (by decide)) c463
        refine lv_iload_n hx hb dX12_clauseHere_136 rfl (lv_at hl 1 rfl) ?_
        refine lv_if_eq (tgt := 148) hx hb dX12_clauseHere_137 (by decide) (fun _ => ?_) (fun c => absurd (by decide) c)
        refine lv_aload_n hx hb dX12_clauseHere_148 rfl (lv_at hl 3 rfl) ?_
        refine lv_aload_n hx hb dX12_clauseHere_149 rfl (lv_at hl 3 rfl) ?_
        refine tk_Vi hC hK hw hT hA hE hSR kM_at0 (by decide) rfl (k_X12_doingSort_1 l adK adV dC dI cy ad B (by omega) (by omega) qr s1    w470 H.size hT ) (cwV 0 hC.2.2.2.2 gX12_clauseHere_X12_doingSort rfl rfl rfl (by decide +kernel) ⟨Nat.le_of_ble_eq_true rfl, Nat.le_of_ble_eq_true rfl⟩) rfl hl.1 rfl (Nat.le_of_ble_eq_true rfl) dX12_clauseHere_150 (fun r478 w480 H locs hp479 hw => ?_)
        obtain ⟨hT, k481, hg488⟩ := hp479
        have hR := RL_FE k481 (fun _ => rfl) (fun _ => rfl) (fun _ => rfl) (fun _ => rfl) hR
        have hF := hF.tr k481 (by decide)
        have c489 := k481.gi kM_at0 (by decide) c473
        have c490 := k481.gi kM_at0 (by decide) c474
        have c491 := k481.gi kM_at3 rfl c475
        have c492 := k481.gi kM_at5 rfl c476
        have c493 := k481.gi kM_at0 (by decide) c477
        have c494 := k481.gi kM_at0 (by decide) c471
        rcases hg488 with ⟨g482, g483, ⟨x484, c485, rx484, tx484⟩⟩ | ⟨rfl, ⟨x486, c487, rx486, tx486⟩⟩
        · have ex484 : x484.toInt = x20.toInt := by rw [← c493.symm.trans c485]
          refine tk_Vi hC hK hw hT hA hE hSR kM_at0 (by decide) rfl (k_X12_isDoingHere_2 l adK adV dC dI cy ad B (by omega) (by omega) qr s1   r478 (show 0 ≤ r478.toInt by omega) (show r478.toInt ≤ 3 by omega) w480 H.size hT f0_ c489 (show 0 ≤ f0_.toInt by omega) (show f0_.toInt ≤ 5 by omega) f1_ c490 (show 0 ≤ f1_.toInt by omega) (show f1_.toInt ≤ 60 by omega) f3_ c491 (show 0 ≤ f3_.toInt by omega) (show f3_.toInt ≤ 400 by omega) f4_ c492 (show 0 ≤ f4_.toInt by omega) (show f4_.toInt ≤ 12 by omega) (show 3 * f3_.toInt ≤ 14 * f1_.toInt by omega) (show f3_.toInt ≤ 280 by omega) (show f4_.toInt ≤ 11 by omega) hR) (cwV 1 hC.2.2.2.2 gX12_clauseHere_X12_isDoingHere rfl rfl rfl (by decide +kernel) ⟨Nat.le_of_ble_eq_true rfl, Nat.le_of_ble_eq_true rfl⟩) rfl hl.1 rfl (Nat.le_of_ble_eq_true rfl) dX12_clauseHere_153 (fun r495 w497 H locs hp496 hw => ?_)
          obtain ⟨hT, k498, hg531⟩ := hp496
          have hF := hF.tr k498 (by decide)
          have c532 := k498.gi kM_at0 (by decide) c489
          have c533 := k498.gi kM_at0 (by decide) c493
          have c534 := k498.gi kM_at0 (by decide) c494
          rcases hg531 with ⟨rfl, ⟨x499, c500, rx499, tx499⟩, ⟨x501, c502, rx501, tx501⟩, ⟨x503, c504, rx503, tx503⟩, ⟨x505, c506, rx505, tx505⟩, hq507⟩ | ⟨rfl, ⟨x508, c509, rx508, tx508⟩, ⟨x510, c511, rx510, tx510⟩, ⟨x512, c513, rx512, tx512⟩, ⟨x514, c515, rx514, tx514⟩, hq516⟩ | ⟨rfl, ⟨x517, c518, rx517, tx517⟩, ⟨x519, c520, rx519, tx519⟩, hq521, g522, g523⟩ | ⟨rfl, ⟨x524, c525, rx524, tx524⟩, ⟨x526, c527, rx526, tx526⟩, hq528, g529, g530⟩
          · have ex499 : x499.toInt = x20.toInt := by rw [← c533.symm.trans c500]
            have ex503 : x503.toInt = f0_.toInt := by rw [← c532.symm.trans c504]
            obtain ⟨x535, c536, rx535, tx535⟩ := hT.rda (lo := 0) (hi := 400) (i := (f0_.toInt).toNat) kM_at3 rfl rfl (by omega)
            obtain ⟨x537, c538, rx537, tx537⟩ := hT.rdi (lo := 0) (hi := 60) (k := 18) kM_at0 (by decide) rfl
            obtain ⟨x539, c540, rx539, tx539⟩ := hT.rda (lo := 0) (hi := 12) (i := (f0_.toInt).toNat) kM_at5 rfl rfl (by omega)
            have hR := hq507
            exact tk_zret hC hr rfl hlocks hK ⟨hT, hF, (Or.inl ⟨rfl, ⟨x20, c533, (show 1 ≤ x20.toInt by omega), (show x20.toInt ≤ 400 by omega)⟩, ⟨x501, c502, (show 1 ≤ x501.toInt by omega), (show x501.toInt ≤ 3205 by omega)⟩, ⟨f0_, c532, (show 0 ≤ f0_.toInt by omega), (show f0_.toInt ≤ 5 by omega)⟩, ⟨x469, c534, (show 0 ≤ x469.toInt by omega), (show x469.toInt ≤ 12 by omega)⟩, hR, (by simp only [c532, cf0_, cf2_, c534]; omega), (by simp only [c532, cf0_, c534]; omega)⟩)⟩ hw dX12_clauseHere_156
          · have ex508 : x508.toInt = x20.toInt := by rw [← c533.symm.trans c509]
            have ex512 : x512.toInt = f0_.toInt := by rw [← c532.symm.trans c513]
            obtain ⟨x541, c542, rx541, tx541⟩ := hT.rda (lo := 0) (hi := 400) (i := (f0_.toInt).toNat) kM_at3 rfl rfl (by omega)
            obtain ⟨x543, c544, rx543, tx543⟩ := hT.rdi (lo := 0) (hi := 60) (k := 18) kM_at0 (by decide) rfl
            obtain ⟨x545, c546, rx545, tx545⟩ := hT.rda (lo := 0) (hi := 12) (i := (f0_.toInt).toNat) kM_at5 rfl rfl (by omega)
            have hR := hq516
            exact tk_zret hC hr rfl hlocks hK ⟨hT, hF, (Or.inr (Or.inl ⟨rfl, ⟨x20, c533, (show 0 ≤ x20.toInt by omega), (show x20.toInt ≤ 400 by omega)⟩, ⟨x510, c511, (show 1 ≤ x510.toInt by omega), (show x510.toInt ≤ 3205 by omega)⟩, ⟨f0_, c532, (show 0 ≤ f0_.toInt by omega), (show f0_.toInt ≤ 5 by omega)⟩, ⟨x469, c534, (show 0 ≤ x469.toInt by omega), (show x469.toInt ≤ 12 by omega)⟩, hR, (by simp only [c532, cf0_, cf2_, c534]; omega), (by simp only [c532, cf0_, c534]; omega)⟩))⟩ hw dX12_clauseHere_156
          · have ex517 : x517.toInt = x20.toInt := by rw [← c533.symm.trans c518]
            have ex519 : x519.toInt = f0_.toInt := by rw [← c532.symm.trans c520]
            obtain ⟨x547, c548, rx547, tx547⟩ := hT.rda (lo := 0) (hi := 400) (i := (f0_.toInt).toNat) kM_at3 rfl rfl (by omega)
            obtain ⟨x549, c550, rx549, tx549⟩ := hT.rdi (lo := 0) (hi := 60) (k := 18) kM_at0 (by decide) rfl
            obtain ⟨x551, c552, rx551, tx551⟩ := hT.rda (lo := 0) (hi := 12) (i := (f0_.toInt).toNat) kM_at5 rfl rfl (by omega)
            have g522 : 3 * x547.toInt ≤ 14 * x549.toInt := by have q := g522; simp only [c489, c532, c548, c550] at q; omega
            have g523 : x551.toInt = f4_.toInt + 1 := by have q := g523; simp only [c489, c532, c492, c552] at q; omega
            have hR := hq521
            exact tk_zret hC hr rfl hlocks hK ⟨hT, hF, (Or.inr (Or.inr (Or.inl ⟨rfl, ⟨x20, c533, (show 1 ≤ x20.toInt by omega), (show x20.toInt ≤ 400 by omega)⟩, ⟨f0_, c532, (show 0 ≤ f0_.toInt by omega), (show f0_.toInt ≤ 5 by omega)⟩, ⟨x469, c534, (show 1 ≤ x469.toInt by omega), (show x469.toInt ≤ 12 by omega)⟩, hR, (by simp only [c532, cf0_, c548, c550]; omega), (by simp only [c532, cf0_, c552, c534]; omega), (by simp only [c532, cf0_, cf2_, c534]; omega), (by simp only [c532, cf0_, c534]; omega)⟩)))⟩ hw dX12_clauseHere_156
          · have ex524 : x524.toInt = x20.toInt := by rw [← c533.symm.trans c525]
            have ex526 : x526.toInt = f0_.toInt := by rw [← c532.symm.trans c527]
            obtain ⟨x553, c554, rx553, tx553⟩ := hT.rda (lo := 0) (hi := 400) (i := (f0_.toInt).toNat) kM_at3 rfl rfl (by omega)
            obtain ⟨x555, c556, rx555, tx555⟩ := hT.rdi (lo := 0) (hi := 60) (k := 18) kM_at0 (by decide) rfl
            obtain ⟨x557, c558, rx557, tx557⟩ := hT.rda (lo := 0) (hi := 12) (i := (f0_.toInt).toNat) kM_at5 rfl rfl (by omega)
            have g529 : 3 * x553.toInt ≤ 14 * x555.toInt := by have q := g529; simp only [c489, c532, c554, c556] at q; omega
            have g530 : x557.toInt = f4_.toInt + 1 := by have q := g530; simp only [c489, c532, c492, c558] at q; omega
            have hR := hq528
            exact tk_zret hC hr rfl hlocks hK ⟨hT, hF, (Or.inr (Or.inr (Or.inr ⟨rfl, ⟨x20, c533, (show 0 ≤ x20.toInt by omega), (show x20.toInt ≤ 400 by omega)⟩, ⟨f0_, c532, (show 0 ≤ f0_.toInt by omega), (show f0_.toInt ≤ 5 by omega)⟩, ⟨x469, c534, (show 1 ≤ x469.toInt by omega), (show x469.toInt ≤ 12 by omega)⟩, hR, (by simp only [c532, cf0_, c554, c556]; omega), (by simp only [c532, cf0_, c558, c534]; omega), (by simp only [c532, cf0_, cf2_, c534]; omega), (by simp only [c532, cf0_, c534]; omega)⟩)))⟩ hw dX12_clauseHere_156
        · have ex486 : x486.toInt = x20.toInt := by rw [← c493.symm.trans c487]
          refine tk_Vi hC hK hw hT hA hE hSR kM_at0 (by decide) rfl (k_X12_isDoingHere_1 l adK adV dC dI cy ad B (by omega) (by omega) qr s1    w480 H.size hT f0_ c489 (show 0 ≤ f0_.toInt by omega) (show f0_.toInt ≤ 5 by omega) f1_ c490 (show 0 ≤ f1_.toInt by omega) (show f1_.toInt ≤ 60 by omega) f3_ c491 (show 0 ≤ f3_.toInt by omega) (show f3_.toInt ≤ 400 by omega) f4_ c492 (show 0 ≤ f4_.toInt by omega) (show f4_.toInt ≤ 12 by omega) (show 3 * f3_.toInt ≤ 14 * f1_.toInt by omega) (show f3_.toInt ≤ 280 by omega) (show f4_.toInt ≤ 11 by omega) hR) (cwV 1 hC.2.2.2.2 gX12_clauseHere_X12_isDoingHere rfl rfl rfl (by decide +kernel) ⟨Nat.le_of_ble_eq_true rfl, Nat.le_of_ble_eq_true rfl⟩) rfl hl.1 rfl (Nat.le_of_ble_eq_true rfl) dX12_clauseHere_153 (fun r559 w561 H locs hp560 hw => ?_)
          obtain ⟨hT, k562, hg595⟩ := hp560
          have hF := hF.tr k562 (by decide)
          have c596 := k562.gi kM_at0 (by decide) c489
          have c597 := k562.gi kM_at0 (by decide) c493
          have c598 := k562.gi kM_at0 (by decide) c494
          rcases hg595 with ⟨rfl, ⟨x563, c564, rx563, tx563⟩, ⟨x565, c566, rx565, tx565⟩, ⟨x567, c568, rx567, tx567⟩, ⟨x569, c570, rx569, tx569⟩, hq571⟩ | ⟨rfl, ⟨x572, c573, rx572, tx572⟩, ⟨x574, c575, rx574, tx574⟩, ⟨x576, c577, rx576, tx576⟩, ⟨x578, c579, rx578, tx578⟩, hq580⟩ | ⟨rfl, ⟨x581, c582, rx581, tx581⟩, ⟨x583, c584, rx583, tx583⟩, hq585, g586, g587⟩ | ⟨rfl, ⟨x588, c589, rx588, tx588⟩, ⟨x590, c591, rx590, tx590⟩, hq592, g593, g594⟩
          · have ex563 : x563.toInt = x20.toInt := by rw [← c597.symm.trans c564]
            have ex567 : x567.toInt = f0_.toInt := by rw [← c596.symm.trans c568]
            obtain ⟨x599, c600, rx599, tx599⟩ := hT.rda (lo := 0) (hi := 400) (i := (f0_.toInt).toNat) kM_at3 rfl rfl (by omega)
            obtain ⟨x601, c602, rx601, tx601⟩ := hT.rdi (lo := 0) (hi := 60) (k := 18) kM_at0 (by decide) rfl
            obtain ⟨x603, c604, rx603, tx603⟩ := hT.rda (lo := 0) (hi := 12) (i := (f0_.toInt).toNat) kM_at5 rfl rfl (by omega)
            have hR := hq571
            exact tk_zret hC hr rfl hlocks hK ⟨hT, hF, (Or.inl ⟨rfl, ⟨x20, c597, (show 1 ≤ x20.toInt by omega), (show x20.toInt ≤ 400 by omega)⟩, ⟨x565, c566, (show 1 ≤ x565.toInt by omega), (show x565.toInt ≤ 3205 by omega)⟩, ⟨f0_, c596, (show 0 ≤ f0_.toInt by omega), (show f0_.toInt ≤ 5 by omega)⟩, ⟨x469, c598, (show 0 ≤ x469.toInt by omega), (show x469.toInt ≤ 12 by omega)⟩, hR, (by simp only [c596, cf0_, cf2_, c598]; omega), (by simp only [c596, cf0_, c598]; omega)⟩)⟩ hw dX12_clauseHere_156
          · have ex572 : x572.toInt = x20.toInt := by rw [← c597.symm.trans c573]
            have ex576 : x576.toInt = f0_.toInt := by rw [← c596.symm.trans c577]
            obtain ⟨x605, c606, rx605, tx605⟩ := hT.rda (lo := 0) (hi := 400) (i := (f0_.toInt).toNat) kM_at3 rfl rfl (by omega)
            obtain ⟨x607, c608, rx607, tx607⟩ := hT.rdi (lo := 0) (hi := 60) (k := 18) kM_at0 (by decide) rfl
            obtain ⟨x609, c610, rx609, tx609⟩ := hT.rda (lo := 0) (hi := 12) (i := (f0_.toInt).toNat) kM_at5 rfl rfl (by omega)
            have hR := hq580
            exact tk_zret hC hr rfl hlocks hK ⟨hT, hF, (Or.inr (Or.inl ⟨rfl, ⟨x20, c597, (show 0 ≤ x20.toInt by omega), (show x20.toInt ≤ 400 by omega)⟩, ⟨x574, c575, (show 1 ≤ x574.toInt by omega), (show x574.toInt ≤ 3205 by omega)⟩, ⟨f0_, c596, (show 0 ≤ f0_.toInt by omega), (show f0_.toInt ≤ 5 by omega)⟩, ⟨x469, c598, (show 0 ≤ x469.toInt by omega), (show x469.toInt ≤ 12 by omega)⟩, hR, (by simp only [c596, cf0_, cf2_, c598]; omega), (by simp only [c596, cf0_, c598]; omega)⟩))⟩ hw dX12_clauseHere_156
          · have ex581 : x581.toInt = x20.toInt := by rw [← c597.symm.trans c582]
            have ex583 : x583.toInt = f0_.toInt := by rw [← c596.symm.trans c584]
            obtain ⟨x611, c612, rx611, tx611⟩ := hT.rda (lo := 0) (hi := 400) (i := (f0_.toInt).toNat) kM_at3 rfl rfl (by omega)
            obtain ⟨x613, c614, rx613, tx613⟩ := hT.rdi (lo := 0) (hi := 60) (k := 18) kM_at0 (by decide) rfl
            obtain ⟨x615, c616, rx615, tx615⟩ := hT.rda (lo := 0) (hi := 12) (i := (f0_.toInt).toNat) kM_at5 rfl rfl (by omega)
            have g586 : 3 * x611.toInt ≤ 14 * x613.toInt := by have q := g586; simp only [c489, c596, c612, c614] at q; omega
            have g587 : x615.toInt = f4_.toInt + 1 := by have q := g587; simp only [c489, c596, c492, c616] at q; omega
            have hR := hq585
            exact tk_zret hC hr rfl hlocks hK ⟨hT, hF, (Or.inr (Or.inr (Or.inl ⟨rfl, ⟨x20, c597, (show 1 ≤ x20.toInt by omega), (show x20.toInt ≤ 400 by omega)⟩, ⟨f0_, c596, (show 0 ≤ f0_.toInt by omega), (show f0_.toInt ≤ 5 by omega)⟩, ⟨x469, c598, (show 1 ≤ x469.toInt by omega), (show x469.toInt ≤ 12 by omega)⟩, hR, (by simp only [c596, cf0_, c612, c614]; omega), (by simp only [c596, cf0_, c616, c598]; omega), (by simp only [c596, cf0_, cf2_, c598]; omega), (by simp only [c596, cf0_, c598]; omega)⟩)))⟩ hw dX12_clauseHere_156
          · have ex588 : x588.toInt = x20.toInt := by rw [← c597.symm.trans c589]
            have ex590 : x590.toInt = f0_.toInt := by rw [← c596.symm.trans c591]
            obtain ⟨x617, c618, rx617, tx617⟩ := hT.rda (lo := 0) (hi := 400) (i := (f0_.toInt).toNat) kM_at3 rfl rfl (by omega)
            obtain ⟨x619, c620, rx619, tx619⟩ := hT.rdi (lo := 0) (hi := 60) (k := 18) kM_at0 (by decide) rfl
            obtain ⟨x621, c622, rx621, tx621⟩ := hT.rda (lo := 0) (hi := 12) (i := (f0_.toInt).toNat) kM_at5 rfl rfl (by omega)
            have g593 : 3 * x617.toInt ≤ 14 * x619.toInt := by have q := g593; simp only [c489, c596, c618, c620] at q; omega
            have g594 : x621.toInt = f4_.toInt + 1 := by have q := g594; simp only [c489, c596, c492, c622] at q; omega
            have hR := hq592
            exact tk_zret hC hr rfl hlocks hK ⟨hT, hF, (Or.inr (Or.inr (Or.inr ⟨rfl, ⟨x20, c597, (show 0 ≤ x20.toInt by omega), (show x20.toInt ≤ 400 by omega)⟩, ⟨f0_, c596, (show 0 ≤ f0_.toInt by omega), (show f0_.toInt ≤ 5 by omega)⟩, ⟨x469, c598, (show 1 ≤ x469.toInt by omega), (show x469.toInt ≤ 12 by omega)⟩, hR, (by simp only [c596, cf0_, c618, c620]; omega), (by simp only [c596, cf0_, c622, c598]; omega), (by simp only [c596, cf0_, cf2_, c598]; omega), (by simp only [c596, cf0_, c598]; omega)⟩)))⟩ hw dX12_clauseHere_156
      · have c466 : f2_.toInt = (12 : Int) := wk_eq.mp c466
        refine lv_aload_n hx hb dX12_clauseHere_119 rfl (lv_at hl 3 rfl) ?_
        refine lv_iconst (v := 4) hx hb dX12_clauseHere_120 (by decide) ?_
        refine lv_iload_n hx hb dX12_clauseHere_121 rfl (lv_at hl 2 rfl) ?_
        refine tk_Vi hC hK hw hT hA hE hSR kM_at0 (by decide) rfl (k_X12_fails_1 l adK adV dC dI cy ad B (by omega) (by omega) qr s1   4 (by decide) (by decide) x29 (show 0 ≤ x29.toInt by omega) (show x29.toInt ≤ 400 by omega) w449 H.size hT ) (cwV 2 hC.2.2.2.2 gX12_clauseHere_X12_fails rfl rfl rfl (by decide +kernel) ⟨Nat.le_of_ble_eq_true rfl, Nat.le_of_ble_eq_true rfl⟩) rfl hl.1 rfl (Nat.le_of_ble_eq_true rfl) dX12_clauseHere_122 (fun r623 w625 H locs hp624 hw => ?_)
        obtain ⟨hT, k626, hg629⟩ := hp624
        have hR := RL_FE k626 (fun _ => rfl) (fun _ => rfl) (fun _ => rfl) (fun _ => rfl) hR
        have hF := hF.tr k626 (by decide)
        have c630 := k626.gi kM_at0 (by decide) c458
        have c631 := k626.gi kM_at0 (by decide) c459
        have c632 := k626.gi kM_at0 (by decide) c460
        have c633 := k626.gi kM_at3 rfl c461
        have c634 := k626.gi kM_at5 rfl c462
        have c635 := k626.gi kM_at0 (by decide) c463
        obtain ⟨rfl, ⟨x627, c628, rx627, tx627⟩⟩ := hg629
        exact tk_zret hC hr rfl hlocks hK ⟨hT, hF, (Or.inr (Or.inl ⟨rfl, ⟨x20, c635, (show 0 ≤ x20.toInt by omega), (show x20.toInt ≤ 400 by omega)⟩, ⟨x627, c628, (show 1 ≤ x627.toInt by omega), (show x627.toInt ≤ 3205 by omega)⟩, ⟨f0_, c630, (show 0 ≤ f0_.toInt by omega), (show f0_.toInt ≤ 5 by omega)⟩, ⟨f2_, c632, (show 0 ≤ f2_.toInt by omega), (show f2_.toInt ≤ 12 by omega)⟩, hR, (by simp only [c630, cf0_, cf2_, c632]; omega), (by simp only [c630, cf0_, c632]; omega)⟩))⟩ hw dX12_clauseHere_125
    · have ex455 : x455.toInt = x20.toInt := by rw [← c463.symm.trans c456]
      refine lv_if_lt (tgt := 88) hx hb dX12_clauseHere_81 (by decide) (fun _ => ?_) (fun c => absurd (by decide) c)
      refine lv_iconst (v := 0) hx hb dX12_clauseHere_88 (by decide) ?_
      refine lv_istore_n (lv' := [(3, .int 0), (2, .int 0), (1, .int x29), (0, .ref (ad 0))]) hx hb dX12_clauseHere_89 rfl hl (by decide) rfl (fun ls hl => ?_)
      refine lv_iload_n hx hb dX12_clauseHere_90 rfl (lv_at hl 0 rfl) ?_
      refine lv_if_ne (tgt := 101) hx hb dX12_clauseHere_91 (by decide) (fun c => absurd (by decide) c) (fun _ => ?_)
      refine lv_aload_n hx hb dX12_clauseHere_94 rfl (lv_at hl 3 rfl) ?_
      refine lv_iconst (v := 0) hx hb dX12_clauseHere_95 (by decide) ?_
      refine lv_iload_n hx hb dX12_clauseHere_96 rfl (lv_at hl 2 rfl) ?_
      refine tk_Vi hC hK hw hT hA hE hSR kM_at0 (by decide) rfl (k_X12_fails_1 l adK adV dC dI cy ad B (by omega) (by omega) qr s1   0 (by decide) (by decide) x29 (show 0 ≤ x29.toInt by omega) (show x29.toInt ≤ 400 by omega) w449 H.size hT ) (cwV 2 hC.2.2.2.2 gX12_clauseHere_X12_fails rfl rfl rfl (by decide +kernel) ⟨Nat.le_of_ble_eq_true rfl, Nat.le_of_ble_eq_true rfl⟩) rfl hl.1 rfl (Nat.le_of_ble_eq_true rfl) dX12_clauseHere_97 (fun r636 w638 H locs hp637 hw => ?_)
      obtain ⟨hT, k639, hg642⟩ := hp637
      have hR := RL_FE k639 (fun _ => rfl) (fun _ => rfl) (fun _ => rfl) (fun _ => rfl) hR
      have hF := hF.tr k639 (by decide)
      have c643 := k639.gi kM_at0 (by decide) c458
      have c644 := k639.gi kM_at0 (by decide) c459
      have c645 := k639.gi kM_at0 (by decide) c460
      have c646 := k639.gi kM_at3 rfl c461
      have c647 := k639.gi kM_at5 rfl c462
      have c648 := k639.gi kM_at0 (by decide) c463
      obtain ⟨rfl, ⟨x640, c641, rx640, tx640⟩⟩ := hg642
      exact tk_zret hC hr rfl hlocks hK ⟨hT, hF, (Or.inr (Or.inl ⟨rfl, ⟨x20, c648, (show 0 ≤ x20.toInt by omega), (show x20.toInt ≤ 400 by omega)⟩, ⟨x640, c641, (show 1 ≤ x640.toInt by omega), (show x640.toInt ≤ 3205 by omega)⟩, ⟨f0_, c643, (show 0 ≤ f0_.toInt by omega), (show f0_.toInt ≤ 5 by omega)⟩, ⟨f2_, c645, (show 0 ≤ f2_.toInt by omega), (show f2_.toInt ≤ 12 by omega)⟩, hR, (by simp only [c643, cf0_, cf2_, c645]; omega), (by simp only [c643, cf0_, c645]; omega)⟩))⟩ hw dX12_clauseHere_100
abbrev P_X12_readsAll_2 (ad : Nat → Nat) (cy : Nat → ClassId) (B : Int) (qr : Nat) (s1 : Int)  (w0 : va_W) : Int32 → va_W → Prop := fun r u => TW ksM ad cy B qr 12 u ∧ FE ksM [(12, 1, 1), (12, 14, 14), (12, 15, 15), (12, 16, 16), (12, 18, 18), (12, 19, 19), (12, 20, 20), (12, 22, 22), (61, 0, 2400), (62, 0, 7), (63, 0, 216), (64, 0, 6), (68, 0, 400)] w0 u ∧ ((r = 0 ∧ (∃ y : Int32, gi u 0 1 = y ∧ 0 ≤ y.toInt ∧ y.toInt ≤ 0) ∧ (∃ y : Int32, gi u 0 15 = y ∧ 1 ≤ y.toInt ∧ y.toInt ≤ 3205) ∧ (∃ y : Int32, gi u 0 17 = y ∧ 0 ≤ y.toInt ∧ y.toInt ≤ 5) ∧ (∃ y : Int32, gi u 0 20 = y ∧ 0 ≤ y.toInt ∧ y.toInt ≤ 12) ∧ RW u) ∨ (r = 1 ∧ (∃ y : Int32, gi u 0 1 = y ∧ 0 ≤ y.toInt ∧ y.toInt ≤ 0) ∧ (∃ y : Int32, gi u 0 15 = y ∧ 0 ≤ y.toInt ∧ y.toInt ≤ 0) ∧ (∃ y : Int32, gi u 0 17 = y ∧ 0 ≤ y.toInt ∧ y.toInt ≤ 5) ∧ (∃ y : Int32, gi u 0 20 = y ∧ 0 ≤ y.toInt ∧ y.toInt ≤ 12) ∧ RW u))
set_option maxHeartbeats 4000000 in
set_option maxRecDepth 100000 in
theorem k_X12_readsAll_2 (l : Launch) (adK adV : Nat → Nat) (dC : Nat → ClassId) (dI : Nat → Nat → Nat) (cy : Nat → ClassId) (ad : Nat → Nat) (B : Int) (hB0 : 100000 ≤ B) (hB1 : B ≤ 1073741824) (qr : Nat) (s1 : Int)   (w0 : va_W) (sz : Nat) (hT : TW ksM ad cy B qr 12 w0) (f0_ : Int32) (cf0_ : gi w0 0 17 = f0_) (rf0_ : 0 ≤ f0_.toInt) (tf0_ : f0_.toInt ≤ 5) (f1_ : Int32) (cf1_ : gi w0 0 18 = f1_) (rf1_ : 0 ≤ f1_.toInt) (tf1_ : f1_.toInt ≤ 60) (f2_ : Int32) (cf2_ : gi w0 0 20 = f2_) (rf2_ : 0 ≤ f2_.toInt) (tf2_ : f2_.toInt ≤ 32) (f3_ : Int32) (cf3_ : gi w0 3 (f0_.toInt).toNat = f3_) (rf3_ : 0 ≤ f3_.toInt) (tf3_ : f3_.toInt ≤ 400) (f4_ : Int32) (cf4_ : gi w0 5 (f0_.toInt).toNat = f4_) (rf4_ : 0 ≤ f4_.toInt) (tf4_ : f4_.toInt ≤ 12) (pr0_ : f4_.toInt ≤ 0) (hRW : RW w0) : Met l yX12_readsAll wsX12_readsAll ({ frames := 12, cells := 0, slots := 0, locals := 255 }) (va_Pc [.ref (ad 0)] (wpreS adK adV dC dI cy sz w0)) (va_Qi (P_X12_readsAll_2 ad cy B qr s1  w0) (fun u : va_W => wpost dC dI cy (va_A w0 sz) u) (va_A w0 sz)) 0 0 (va_A w0 sz) := by
  refine Met.ofW (cc := cX12_readsAll) (maxL := 2) (ret := (some .boolean)) (by decide) rfl ?_
  intro p e s m args below meth c s₁ Bk hml hv
  obtain ⟨rfl, ⟨hsz, hP, hK, hD0⟩, hE, hSR⟩ := hv
  have hx := Bk.exec
  have hb := Bk.bytes
  have hr := Bk.returns
  have hlocks := Bk.notSynchronized
  have hC : CallFix p m c cX12_readsAll 2 s _ wsX12_readsAll RX12 := ⟨hx, hb, hml, findClass_of_methodNamed Bk.named, atoms_spec (ws := wsX12_readsAll) Bk.pre⟩
  subst hsz
  have hD := hD0.self (sz := s.heap.size)
  generalize hAe : va_A w0 s.heap.size = A at hD hE ⊢
  have hA : ∀ q : Nat, s.heap.size ≤ q → A q := fun q h => by rw [← hAe]; exact Or.inr h
  have hw : Wd dC dI A s.heap s.heap [] w0 := ⟨hP, hD, va_S.rf⟩
  have hF : FE ksM [(12, 1, 1), (12, 14, 14), (12, 15, 15), (12, 16, 16), (12, 18, 18), (12, 19, 19), (12, 20, 20), (12, 22, 22), (61, 0, 2400), (62, 0, 7), (63, 0, 216), (64, 0, 6), (68, 0, 400)] w0 w0 := FE.rf
  have hl := lv_entry ([.ref (ad 0)]) (n := 2) (Nat.le_of_ble_eq_true rfl)
  rw [lg_entry_eq]
  generalize (lg_sl ([.ref (ad 0)]) ++ List.replicate (2 - (lg_sl ([.ref (ad 0)])).length) Slot.unset).toArray = ls at hl ⊢
  have hl : lv_has ls 2 [(0, .ref (ad 0))] := hl
  generalize hloc : ([] : List Loc) = locs at hw ⊢
  have hinX12 : ∀ w ∈ u_ws RX12 TX12 42, w ∈ wsX12_readsAll := fun _ h => List.mem_cons_of_mem _ (List.mem_append_right _ (h))
  have J88 : ∀ (v88_1 : Int32) (f88_0_1 : Int32) (f88_0_18 : Int32) (f88_0_20 : Int32) (f88_3__f0__toInt_toNat : Int32) (f88_5__f0__toInt_toNat : Int32) (H : Heap) (locs : List Loc) (ls : Array Slot) (w1 : va_W), 0 ≤ v88_1.toInt → v88_1.toInt ≤ 1 → 0 ≤ f88_0_1.toInt → f88_0_1.toInt ≤ 400 → 0 ≤ f0_.toInt → f0_.toInt ≤ 5 → 0 ≤ f88_0_18.toInt → f88_0_18.toInt ≤ 60 → 0 ≤ f88_0_20.toInt → f88_0_20.toInt ≤ 12 → 0 ≤ f88_3__f0__toInt_toNat.toInt → f88_3__f0__toInt_toNat.toInt ≤ 400 → 0 ≤ f88_5__f0__toInt_toNat.toInt → f88_5__f0__toInt_toNat.toInt ≤ 12 → ((v88_1.toInt = 0 ∨ 3 * f88_3__f0__toInt_toNat.toInt ≤ 14 * f88_0_18.toInt)) → ((v88_1.toInt = 0 ∨ f88_5__f0__toInt_toNat.toInt ≤ f88_0_20.toInt)) → (f88_0_20.toInt ≤ 12) → Wd dC dI A s.heap H locs w1 → TW ksM ad cy B qr 12 w1 → FE ksM [(12, 1, 1), (12, 14, 14), (12, 15, 15), (12, 16, 16), (12, 18, 18), (12, 19, 19), (12, 20, 20), (12, 22, 22), (61, 0, 2400), (62, 0, 7), (63, 0, 216), (64, 0, 6), (68, 0, 400)] w0 w1 → RLc w1 f0_.toInt → gi w1 0 1 = f88_0_1 → gi w1 0 17 = f0_ → gi w1 0 18 = f88_0_18 → gi w1 0 20 = f88_0_20 → gi w1 3 (f0_.toInt).toNat = f88_3__f0__toInt_toNat → gi w1 5 (f0_.toInt).toNat = f88_5__f0__toInt_toNat → lv_has ls 2 [(0, .ref (ad 0)), (1, .int v88_1)] → W p l e ({ frames := 12, cells := 0, slots := 0, locals := 255 }) s m (List.toArray [.ref (ad 0)]) below meth c H locs 0 0 (MQ below (va_Qi (P_X12_readsAll_2 ad cy B qr s1  w0) (fun u : va_W => wpost dC dI cy A u) A) (List.toArray [.ref (ad 0)]) s 0 0 A) (F0 m 88 ls []) := by
    intro v88_1 f88_0_1 f88_0_18 f88_0_20 f88_3__f0__toInt_toNat f88_5__f0__toInt_toNat H locs ls w1 r2 t3 r4 t5 r7 t8 r10 t11 r13 t14 r16 t17 r19 t20 hcr88_0 hcr88_1 hcr88_2 hw hT hF hR c6 c9 c12 c15 c18 c21 hl
    refine lv_aload_n hx hb dX12_readsAll_88 rfl (lv_at hl 0 rfl) ?_
    refine lv_iconst (v := 0) hx hb dX12_readsAll_89 (by decide) ?_
    refine tk_puti hC hK hw hT hinX12 tyX12_ok nmX12 kM_at0 (by decide) rfl rfl 1 (by decide) (List.mem_of_getElem? (i := 7) rfl) rfl rfl rfl rfl (by decide) (by decide) dX12_readsAll_90 (fun H locs w22 hw hT k24 c23 => ?_)
    have hR := RL_F1 k24 (by decide) (by decide) (by decide) (by decide) hR
    have hF := hF.put kM_at0 (k := 1) (by decide) k24
    have c25 := k24.gi (Or.inr (by decide)) c9
    have c26 := k24.gi (Or.inr (by decide)) c12
    have c27 := k24.gi (Or.inr (by decide)) c15
    have c28 := k24.gi (Or.inl (tk_ne kM_at3 kM_at0 (by decide))) c18
    have c29 := k24.gi (Or.inl (tk_ne kM_at5 kM_at0 (by decide))) c21
    refine lv_aload_n hx hb dX12_readsAll_93 rfl (lv_at hl 0 rfl) ?_
    refine tk_geti hC hK hw hT hinX12 kM_at0 (by decide) rfl 15 (by decide) (List.mem_of_getElem? (i := 5) rfl) rfl rfl dX12_readsAll_94 (fun x30 c31 rx30 tx30 => ?_)
    refine lv_if_ne (tgt := 104) hx hb dX12_readsAll_97 (by decide) (fun c32 => ?_) (fun c32 => ?_)
    · have c32 : ¬ x30.toInt = (0 : Int) := wk_eqF c32
      refine lv_iconst (v := 0) hx hb dX12_readsAll_104 (by decide) ?_
      exact tk_zret hC hr rfl hlocks hK ⟨hT, hF, (Or.inl ⟨rfl, ⟨0, c23, (by decide), (by decide)⟩, ⟨x30, c31, (show 1 ≤ x30.toInt by omega), (show x30.toInt ≤ 3205 by omega)⟩, ⟨f0_, c25, (show 0 ≤ f0_.toInt by omega), (show f0_.toInt ≤ 5 by omega)⟩, ⟨f88_0_20, c27, (show 0 ≤ f88_0_20.toInt by omega), (show f88_0_20.toInt ≤ 12 by omega)⟩, hR.2.1⟩)⟩ hw dX12_readsAll_105
    · have c32 : x30.toInt = (0 : Int) := wk_eq.mp c32
      refine lv_iconst (v := 1) hx hb dX12_readsAll_100 (by decide) ?_
      refine lv_goto (tgt := 105) hx hb dX12_readsAll_101 (by decide) ?_
      exact tk_zret hC hr rfl hlocks hK ⟨hT, hF, (Or.inr ⟨rfl, ⟨0, c23, (by decide), (by decide)⟩, ⟨x30, c31, (show 0 ≤ x30.toInt by omega), (show x30.toInt ≤ 0 by omega)⟩, ⟨f0_, c25, (show 0 ≤ f0_.toInt by omega), (show f0_.toInt ≤ 5 by omega)⟩, ⟨f88_0_20, c27, (show 0 ≤ f88_0_20.toInt by omega), (show f88_0_20.toInt ≤ 12 by omega)⟩, hR.2.1⟩)⟩ hw dX12_readsAll_105
  have J66 : ∀ (v66_1 : Int32) (f66_0_1 : Int32) (f66_0_18 : Int32) (f66_0_20 : Int32) (f66_3__f0__toInt_toNat : Int32) (f66_5__f0__toInt_toNat : Int32) (H : Heap) (locs : List Loc) (ls : Array Slot) (w33 : va_W), 0 ≤ v66_1.toInt → v66_1.toInt ≤ 1 → 0 ≤ f66_0_1.toInt → f66_0_1.toInt ≤ 400 → 0 ≤ f0_.toInt → f0_.toInt ≤ 5 → 0 ≤ f66_0_18.toInt → f66_0_18.toInt ≤ 60 → 0 ≤ f66_0_20.toInt → f66_0_20.toInt ≤ 12 → 0 ≤ f66_3__f0__toInt_toNat.toInt → f66_3__f0__toInt_toNat.toInt ≤ 400 → 0 ≤ f66_5__f0__toInt_toNat.toInt → f66_5__f0__toInt_toNat.toInt ≤ 12 → ((v66_1.toInt = 0 ∨ 3 * f66_3__f0__toInt_toNat.toInt ≤ 14 * f66_0_18.toInt)) → ((v66_1.toInt = 0 ∨ f66_5__f0__toInt_toNat.toInt ≤ f66_0_20.toInt)) → (f66_0_20.toInt ≤ 12) → Wd dC dI A s.heap H locs w33 → TW ksM ad cy B qr 12 w33 → FE ksM [(12, 1, 1), (12, 14, 14), (12, 15, 15), (12, 16, 16), (12, 18, 18), (12, 19, 19), (12, 20, 20), (12, 22, 22), (61, 0, 2400), (62, 0, 7), (63, 0, 216), (64, 0, 6), (68, 0, 400)] w0 w33 → RLc w33 f0_.toInt → gi w33 0 1 = f66_0_1 → gi w33 0 17 = f0_ → gi w33 0 18 = f66_0_18 → gi w33 0 20 = f66_0_20 → gi w33 3 (f0_.toInt).toNat = f66_3__f0__toInt_toNat → gi w33 5 (f0_.toInt).toNat = f66_5__f0__toInt_toNat → lv_has ls 2 [(0, .ref (ad 0)), (1, .int v66_1)] → W p l e ({ frames := 12, cells := 0, slots := 0, locals := 255 }) s m (List.toArray [.ref (ad 0)]) below meth c H locs 0 0 (MQ below (va_Qi (P_X12_readsAll_2 ad cy B qr s1  w0) (fun u : va_W => wpost dC dI cy A u) A) (List.toArray [.ref (ad 0)]) s 0 0 A) (F0 m 66 ls []) := by
    intro v66_1 f66_0_1 f66_0_18 f66_0_20 f66_3__f0__toInt_toNat f66_5__f0__toInt_toNat H locs ls w33 r34 t35 r36 t37 r39 t40 r42 t43 r45 t46 r48 t49 r51 t52 hcr66_0 hcr66_1 hcr66_2 hw hT hF hR c38 c41 c44 c47 c50 c53 hl
    refine lv_iload_n hx hb dX12_readsAll_66 rfl (lv_at hl 1 rfl) ?_
    refine lv_if_eq (tgt := 88) hx hb dX12_readsAll_67 (by decide) (fun c54 => ?_) (fun c54 => ?_)
    · have c54 : v66_1.toInt = (0 : Int) := wk_eq.mp c54
      exact J88 v66_1 f66_0_1 f66_0_18 f66_0_20 f66_3__f0__toInt_toNat f66_5__f0__toInt_toNat H locs ls w33 (show 0 ≤ v66_1.toInt by omega) (show v66_1.toInt ≤ 1 by omega) (show 0 ≤ f66_0_1.toInt by omega) (show f66_0_1.toInt ≤ 400 by omega) (show 0 ≤ f0_.toInt by omega) (show f0_.toInt ≤ 5 by omega) (show 0 ≤ f66_0_18.toInt by omega) (show f66_0_18.toInt ≤ 60 by omega) (show 0 ≤ f66_0_20.toInt by omega) (show f66_0_20.toInt ≤ 12 by omega) (show 0 ≤ f66_3__f0__toInt_toNat.toInt by omega) (show f66_3__f0__toInt_toNat.toInt ≤ 400 by omega) (show 0 ≤ f66_5__f0__toInt_toNat.toInt by omega) (show f66_5__f0__toInt_toNat.toInt ≤ 12 by omega) (show (v66_1.toInt = 0 ∨ 3 * f66_3__f0__toInt_toNat.toInt ≤ 14 * f66_0_18.toInt) by omega) (show (v66_1.toInt = 0 ∨ f66_5__f0__toInt_toNat.toInt ≤ f66_0_20.toInt) by omega) (show f66_0_20.toInt ≤ 12 by omega)  hw hT hF hR c38 c41 c44 c47 c50 c53 (lv_sub hl [0, 1] rfl)
    · have c54 : ¬ v66_1.toInt = (0 : Int) := wk_eqF c54
      refine lv_aload_n hx hb dX12_readsAll_70 rfl (lv_at hl 0 rfl) ?_
      obtain ⟨x55, c56, rx55, tx55⟩ := hT.rdi (lo := 0) (hi := 400) (k := 14) kM_at0 (by decide) rfl
      refine tk_Vi hC hK hw hT hA hE hSR kM_at0 (by decide) rfl (k_X12_see_1 l adK adV dC dI cy ad B (by omega) (by omega) qr s1    w33 H.size hT x55 c56 (show 0 ≤ x55.toInt by omega) (show x55.toInt ≤ 400 by omega)) (cwV 0 hC.2.2.2.2 gX12_readsAll_X12_see rfl rfl rfl (by decide +kernel) ⟨Nat.le_of_ble_eq_true rfl, Nat.le_of_ble_eq_true rfl⟩) rfl hl.1 rfl (Nat.le_of_ble_eq_true rfl) dX12_readsAll_71 (fun r57 w59 H locs hp58 hw => ?_)
      obtain ⟨hT, k60, hg77⟩ := hp58
      have hR := RL_FE k60 (fun _ => rfl) (fun _ => rfl) (fun _ => rfl) (fun _ => rfl) hR
      have hF := hF.tr k60 (by decide)
      have c78 := k60.gi kM_at0 (by decide) c38
      have c79 := k60.gi kM_at0 (by decide) c41
      have c80 := k60.gi kM_at0 (by decide) c44
      have c81 := k60.gi kM_at0 (by decide) c47
      have c82 := k60.gi kM_at3 rfl c50
      have c83 := k60.gi kM_at5 rfl c53
      rcases hg77 with ⟨g61, g62, ⟨x63, c64, rx63, tx63⟩, ⟨x65, c66, rx65, tx65⟩, g67, g68⟩ | ⟨rfl, ⟨x69, c70, rx69, tx69⟩, ⟨x71, c72, rx71, tx71⟩, g73⟩ | ⟨rfl, ⟨x74, c75, rx74, tx74⟩, g76⟩
      · have ex63 : x63.toInt = f66_0_1.toInt := by rw [← c78.symm.trans c64]
        have g67 : (gi w59 1 (x65.toInt).toNat).toInt ≠ 32 := by have q := g67; simp only [c41, c79, c66] at q; omega
        have g68 : (x65.toInt = x55.toInt ∨ (gi w33 1 (x55.toInt).toNat).toInt = 32) := by have q := g68; simp only [c41, c79, c56, c66] at q; omega
        refine lv_iconst (v := (-1)) hx hb dX12_readsAll_74 (by decide) ?_
        refine lv_icmp_eq (tgt := 88) hx hb dX12_readsAll_75 (by decide) (fun c => absurd c (fun h => absurd (show r57.toInt = (-1 : Int) from wk_eq.mp h) (by omega))) (fun _ => ?_)
        refine lv_aload_n hx hb dX12_readsAll_78 rfl (lv_at hl 0 rfl) ?_
        refine lv_iconst (v := 0) hx hb dX12_readsAll_79 (by decide) ?_
        refine lv_aload_n hx hb dX12_readsAll_80 rfl (lv_at hl 0 rfl) ?_
        refine tk_geti hC hK hw hT hinX12 kM_at0 (by decide) rfl 14 (by decide) (List.mem_of_getElem? (i := 4) rfl) rfl rfl dX12_readsAll_81 (fun x86 c87 rx86 tx86 => ?_)
        refine wk_top x65 (c87.symm.trans c66) ?_
        refine tk_Vi hC hK hw hT hA hE hSR kM_at0 (by decide) rfl (k_X12_fails_1 l adK adV dC dI cy ad B (by omega) (by omega) qr s1   0 (by decide) (by decide) x65 (show 0 ≤ x65.toInt by omega) (show x65.toInt ≤ 400 by omega) w59 H.size hT ) (cwV 2 hC.2.2.2.2 gX12_readsAll_X12_fails rfl rfl rfl (by decide +kernel) ⟨Nat.le_of_ble_eq_true rfl, Nat.le_of_ble_eq_true rfl⟩) rfl hl.1 rfl (Nat.le_of_ble_eq_true rfl) dX12_readsAll_84 (fun r88 w90 H locs hp89 hw => ?_)
        obtain ⟨hT, k91, hg94⟩ := hp89
        have hR := RL_FE k91 (fun _ => rfl) (fun _ => rfl) (fun _ => rfl) (fun _ => rfl) hR
        have hF := hF.tr k91 (by decide)
        have c95 := k91.gi kM_at0 (by decide) c78
        have c96 := k91.gi kM_at0 (by decide) c79
        have c97 := k91.gi kM_at0 (by decide) c80
        have c98 := k91.gi kM_at0 (by decide) c81
        have c99 := k91.gi kM_at3 rfl c82
        have c100 := k91.gi kM_at5 rfl c83
        have c101 := k91.gi kM_at0 (by decide) c66
        obtain ⟨rfl, ⟨x92, c93, rx92, tx92⟩⟩ := hg94
        refine lv_pop hx hb dX12_readsAll_87 rfl ?_
        exact J88 v66_1 f66_0_1 f66_0_18 f66_0_20 f66_3__f0__toInt_toNat f66_5__f0__toInt_toNat H locs ls w90 (show 0 ≤ v66_1.toInt by omega) (show v66_1.toInt ≤ 1 by omega) (show 0 ≤ f66_0_1.toInt by omega) (show f66_0_1.toInt ≤ 400 by omega) (show 0 ≤ f0_.toInt by omega) (show f0_.toInt ≤ 5 by omega) (show 0 ≤ f66_0_18.toInt by omega) (show f66_0_18.toInt ≤ 60 by omega) (show 0 ≤ f66_0_20.toInt by omega) (show f66_0_20.toInt ≤ 12 by omega) (show 0 ≤ f66_3__f0__toInt_toNat.toInt by omega) (show f66_3__f0__toInt_toNat.toInt ≤ 400 by omega) (show 0 ≤ f66_5__f0__toInt_toNat.toInt by omega) (show f66_5__f0__toInt_toNat.toInt ≤ 12 by omega) (show (v66_1.toInt = 0 ∨ 3 * f66_3__f0__toInt_toNat.toInt ≤ 14 * f66_0_18.toInt) by omega) (show (v66_1.toInt = 0 ∨ f66_5__f0__toInt_toNat.toInt ≤ f66_0_20.toInt) by omega) (show f66_0_20.toInt ≤ 12 by omega)  hw hT hF hR c95 c96 c97 c98 c99 c100 (lv_sub hl [0, 1] rfl)
      · have ex69 : x69.toInt = f66_0_1.toInt := by rw [← c78.symm.trans c70]
        have g73 : (x71.toInt = x55.toInt ∨ (gi w33 1 (x55.toInt).toNat).toInt = 32) := by have q := g73; simp only [c41, c79, c56, c72] at q; omega
        refine lv_iconst (v := (-1)) hx hb dX12_readsAll_74 (by decide) ?_
        refine lv_icmp_eq (tgt := 88) hx hb dX12_readsAll_75 (by decide) (fun _ => ?_) (fun c => absurd (by decide) c)
        exact J88 v66_1 f66_0_1 f66_0_18 f66_0_20 f66_3__f0__toInt_toNat f66_5__f0__toInt_toNat H locs ls w59 (show 0 ≤ v66_1.toInt by omega) (show v66_1.toInt ≤ 1 by omega) (show 0 ≤ f66_0_1.toInt by omega) (show f66_0_1.toInt ≤ 400 by omega) (show 0 ≤ f0_.toInt by omega) (show f0_.toInt ≤ 5 by omega) (show 0 ≤ f66_0_18.toInt by omega) (show f66_0_18.toInt ≤ 60 by omega) (show 0 ≤ f66_0_20.toInt by omega) (show f66_0_20.toInt ≤ 12 by omega) (show 0 ≤ f66_3__f0__toInt_toNat.toInt by omega) (show f66_3__f0__toInt_toNat.toInt ≤ 400 by omega) (show 0 ≤ f66_5__f0__toInt_toNat.toInt by omega) (show f66_5__f0__toInt_toNat.toInt ≤ 12 by omega) (show (v66_1.toInt = 0 ∨ 3 * f66_3__f0__toInt_toNat.toInt ≤ 14 * f66_0_18.toInt) by omega) (show (v66_1.toInt = 0 ∨ f66_5__f0__toInt_toNat.toInt ≤ f66_0_20.toInt) by omega) (show f66_0_20.toInt ≤ 12 by omega)  hw hT hF hR c78 c79 c80 c81 c82 c83 (lv_sub hl [0, 1] rfl)
      · have ex74 : x74.toInt = f66_0_1.toInt := by rw [← c78.symm.trans c75]
        obtain ⟨x84, c85, rx84, tx84⟩ := hT.rdi (lo := 0) (hi := 400) (k := 14) kM_at0 (by decide) rfl
        have g76 : (x84.toInt = x55.toInt ∨ (gi w33 1 (x55.toInt).toNat).toInt = 32) := by have q := g76; simp only [c41, c79, c56, c85] at q; omega
        refine lv_iconst (v := (-1)) hx hb dX12_readsAll_74 (by decide) ?_
        refine lv_icmp_eq (tgt := 88) hx hb dX12_readsAll_75 (by decide) (fun _ => ?_) (fun c => absurd (by decide) c)
        exact J88 v66_1 f66_0_1 f66_0_18 f66_0_20 f66_3__f0__toInt_toNat f66_5__f0__toInt_toNat H locs ls w59 (show 0 ≤ v66_1.toInt by omega) (show v66_1.toInt ≤ 1 by omega) (show 0 ≤ f66_0_1.toInt by omega) (show f66_0_1.toInt ≤ 400 by omega) (show 0 ≤ f0_.toInt by omega) (show f0_.toInt ≤ 5 by omega) (show 0 ≤ f66_0_18.toInt by omega) (show f66_0_18.toInt ≤ 60 by omega) (show 0 ≤ f66_0_20.toInt by omega) (show f66_0_20.toInt ≤ 12 by omega) (show 0 ≤ f66_3__f0__toInt_toNat.toInt by omega) (show f66_3__f0__toInt_toNat.toInt ≤ 400 by omega) (show 0 ≤ f66_5__f0__toInt_toNat.toInt by omega) (show f66_5__f0__toInt_toNat.toInt ≤ 12 by omega) (show (v66_1.toInt = 0 ∨ 3 * f66_3__f0__toInt_toNat.toInt ≤ 14 * f66_0_18.toInt) by omega) (show (v66_1.toInt = 0 ∨ f66_5__f0__toInt_toNat.toInt ≤ f66_0_20.toInt) by omega) (show f66_0_20.toInt ≤ 12 by omega)  hw hT hF hR c78 c79 c80 c81 c82 c83 (lv_sub hl [0, 1] rfl)
  have L35 : ∀ (n35 : Nat) (v35_1 : Int32) (f35_0_1 : Int32) (f35_0_18 : Int32) (f35_0_20 : Int32) (f35_3__f0__toInt_toNat : Int32) (f35_5__f0__toInt_toNat : Int32) (H : Heap) (locs : List Loc) (ls : Array Slot) (w102 : va_W), 0 ≤ v35_1.toInt → v35_1.toInt ≤ 1 → 0 ≤ f35_0_1.toInt → f35_0_1.toInt ≤ 400 → 0 ≤ f0_.toInt → f0_.toInt ≤ 5 → 0 ≤ f35_0_18.toInt → f35_0_18.toInt ≤ 60 → 0 ≤ f35_0_20.toInt → f35_0_20.toInt ≤ 12 → 0 ≤ f35_3__f0__toInt_toNat.toInt → f35_3__f0__toInt_toNat.toInt ≤ 400 → 0 ≤ f35_5__f0__toInt_toNat.toInt → f35_5__f0__toInt_toNat.toInt ≤ 12 → ((v35_1.toInt = 0 ∨ 3 * f35_3__f0__toInt_toNat.toInt ≤ 14 * f35_0_18.toInt)) → ((v35_1.toInt = 0 ∨ f35_5__f0__toInt_toNat.toInt ≤ f35_0_20.toInt)) → (f35_0_20.toInt ≤ 12) → (2 * (32 - f35_0_20.toInt) + v35_1.toInt).toNat < n35 → Wd dC dI A s.heap H locs w102 → TW ksM ad cy B qr 12 w102 → FE ksM [(12, 1, 1), (12, 14, 14), (12, 15, 15), (12, 16, 16), (12, 18, 18), (12, 19, 19), (12, 20, 20), (12, 22, 22), (61, 0, 2400), (62, 0, 7), (63, 0, 216), (64, 0, 6), (68, 0, 400)] w0 w102 → RLc w102 f0_.toInt → gi w102 0 1 = f35_0_1 → gi w102 0 17 = f0_ → gi w102 0 18 = f35_0_18 → gi w102 0 20 = f35_0_20 → gi w102 3 (f0_.toInt).toNat = f35_3__f0__toInt_toNat → gi w102 5 (f0_.toInt).toNat = f35_5__f0__toInt_toNat → lv_has ls 2 [(0, .ref (ad 0)), (1, .int v35_1)] → W p l e ({ frames := 12, cells := 0, slots := 0, locals := 255 }) s m (List.toArray [.ref (ad 0)]) below meth c H locs 0 0 (MQ below (va_Qi (P_X12_readsAll_2 ad cy B qr s1  w0) (fun u : va_W => wpost dC dI cy A u) A) (List.toArray [.ref (ad 0)]) s 0 0 A) (F0 m 35 ls []) := by
    intro n35
    induction n35 with
    | zero => intro v35_1 f35_0_1 f35_0_18 f35_0_20 f35_3__f0__toInt_toNat f35_5__f0__toInt_toNat H locs ls w102 r103 t104 r105 t106 r108 t109 r111 t112 r114 t115 r117 t118 r120 t121 hcr35_0 hcr35_1 hcr35_2 hm35 hw hT hF hR c107 c110 c113 c116 c119 c122 hl; omega
    | succ n35 ih35 =>
      intro v35_1 f35_0_1 f35_0_18 f35_0_20 f35_3__f0__toInt_toNat f35_5__f0__toInt_toNat H locs ls w102 r103 t104 r105 t106 r108 t109 r111 t112 r114 t115 r117 t118 r120 t121 hcr35_0 hcr35_1 hcr35_2 hm35 hw hT hF hR c107 c110 c113 c116 c119 c122 hl
      refine lv_iload_n hx hb dX12_readsAll_35 rfl (lv_at hl 1 rfl) ?_
      refine lv_if_eq (tgt := 66) hx hb dX12_readsAll_36 (by decide) (fun c123 => ?_) (fun c123 => ?_)
      · have c123 : v35_1.toInt = (0 : Int) := wk_eq.mp c123
        exact J66 v35_1 f35_0_1 f35_0_18 f35_0_20 f35_3__f0__toInt_toNat f35_5__f0__toInt_toNat H locs ls w102 (show 0 ≤ v35_1.toInt by omega) (show v35_1.toInt ≤ 1 by omega) (show 0 ≤ f35_0_1.toInt by omega) (show f35_0_1.toInt ≤ 400 by omega) (show 0 ≤ f0_.toInt by omega) (show f0_.toInt ≤ 5 by omega) (show 0 ≤ f35_0_18.toInt by omega) (show f35_0_18.toInt ≤ 60 by omega) (show 0 ≤ f35_0_20.toInt by omega) (show f35_0_20.toInt ≤ 12 by omega) (show 0 ≤ f35_3__f0__toInt_toNat.toInt by omega) (show f35_3__f0__toInt_toNat.toInt ≤ 400 by omega) (show 0 ≤ f35_5__f0__toInt_toNat.toInt by omega) (show f35_5__f0__toInt_toNat.toInt ≤ 12 by omega) (show (v35_1.toInt = 0 ∨ 3 * f35_3__f0__toInt_toNat.toInt ≤ 14 * f35_0_18.toInt) by omega) (show (v35_1.toInt = 0 ∨ f35_5__f0__toInt_toNat.toInt ≤ f35_0_20.toInt) by omega) (show f35_0_20.toInt ≤ 12 by omega)  hw hT hF hR c107 c110 c113 c116 c119 c122 (lv_sub hl [0, 1] rfl)
      · have c123 : ¬ v35_1.toInt = (0 : Int) := wk_eqF c123
        refine lv_aload_n hx hb dX12_readsAll_39 rfl (lv_at hl 0 rfl) ?_
        obtain ⟨x124, c125, rx124, tx124⟩ := hT.rdi (lo := 0) (hi := 400) (k := 14) kM_at0 (by decide) rfl
        refine tk_Vi hC hK hw hT hA hE hSR kM_at0 (by decide) rfl (k_X12_see_1 l adK adV dC dI cy ad B (by omega) (by omega) qr s1    w102 H.size hT x124 c125 (show 0 ≤ x124.toInt by omega) (show x124.toInt ≤ 400 by omega)) (cwV 0 hC.2.2.2.2 gX12_readsAll_X12_see rfl rfl rfl (by decide +kernel) ⟨Nat.le_of_ble_eq_true rfl, Nat.le_of_ble_eq_true rfl⟩) rfl hl.1 rfl (Nat.le_of_ble_eq_true rfl) dX12_readsAll_40 (fun r126 w128 H locs hp127 hw => ?_)
        obtain ⟨hT, k129, hg146⟩ := hp127
        have hR := RL_FE k129 (fun _ => rfl) (fun _ => rfl) (fun _ => rfl) (fun _ => rfl) hR
        have hF := hF.tr k129 (by decide)
        have c147 := k129.gi kM_at0 (by decide) c107
        have c148 := k129.gi kM_at0 (by decide) c110
        have c149 := k129.gi kM_at0 (by decide) c113
        have c150 := k129.gi kM_at0 (by decide) c116
        have c151 := k129.gi kM_at3 rfl c119
        have c152 := k129.gi kM_at5 rfl c122
        rcases hg146 with ⟨g130, g131, ⟨x132, c133, rx132, tx132⟩, ⟨x134, c135, rx134, tx134⟩, g136, g137⟩ | ⟨rfl, ⟨x138, c139, rx138, tx138⟩, ⟨x140, c141, rx140, tx140⟩, g142⟩ | ⟨rfl, ⟨x143, c144, rx143, tx143⟩, g145⟩
        · have ex132 : x132.toInt = f35_0_1.toInt := by rw [← c147.symm.trans c133]
          have g136 : (gi w128 1 (x134.toInt).toNat).toInt ≠ 32 := by have q := g136; simp only [c110, c148, c135] at q; omega
          have g137 : (x134.toInt = x124.toInt ∨ (gi w102 1 (x124.toInt).toNat).toInt = 32) := by have q := g137; simp only [c110, c148, c125, c135] at q; omega
          refine lv_bipush (v := 59) hx hb dX12_readsAll_43 (by decide) ?_
          refine lv_icmp_ne (tgt := 66) hx hb dX12_readsAll_45 (by decide) (fun c155 => ?_) (fun c155 => ?_)
          · have c155 : ¬ r126.toInt = (59 : Int) := wk_eqF c155
            exact J66 v35_1 f35_0_1 f35_0_18 f35_0_20 f35_3__f0__toInt_toNat f35_5__f0__toInt_toNat H locs ls w128 (show 0 ≤ v35_1.toInt by omega) (show v35_1.toInt ≤ 1 by omega) (show 0 ≤ f35_0_1.toInt by omega) (show f35_0_1.toInt ≤ 400 by omega) (show 0 ≤ f0_.toInt by omega) (show f0_.toInt ≤ 5 by omega) (show 0 ≤ f35_0_18.toInt by omega) (show f35_0_18.toInt ≤ 60 by omega) (show 0 ≤ f35_0_20.toInt by omega) (show f35_0_20.toInt ≤ 12 by omega) (show 0 ≤ f35_3__f0__toInt_toNat.toInt by omega) (show f35_3__f0__toInt_toNat.toInt ≤ 400 by omega) (show 0 ≤ f35_5__f0__toInt_toNat.toInt by omega) (show f35_5__f0__toInt_toNat.toInt ≤ 12 by omega) (show (v35_1.toInt = 0 ∨ 3 * f35_3__f0__toInt_toNat.toInt ≤ 14 * f35_0_18.toInt) by omega) (show (v35_1.toInt = 0 ∨ f35_5__f0__toInt_toNat.toInt ≤ f35_0_20.toInt) by omega) (show f35_0_20.toInt ≤ 12 by omega)  hw hT hF hR c147 c148 c149 c150 c151 c152 (lv_sub hl [0, 1] rfl)
          · have c155 : r126.toInt = (59 : Int) := wk_eq.mp c155
            refine lv_aload_n hx hb dX12_readsAll_48 rfl (lv_at hl 0 rfl) ?_
            refine lv_dup hx hb dX12_readsAll_49 rfl ?_
            refine tk_geti hC hK hw hT hinX12 kM_at0 (by decide) rfl 14 (by decide) (List.mem_of_getElem? (i := 4) rfl) rfl rfl dX12_readsAll_50 (fun x156 c157 rx156 tx156 => ?_)
            refine wk_top x134 (c157.symm.trans c135) ?_
            refine lv_iconst (v := 1) hx hb dX12_readsAll_53 (by decide) ?_
            refine lv_iadd hx hb dX12_readsAll_54 ?_
            refine lv_topi (fun x158 ex158 => ?_)
            have ex158 : x158.toInt = x134.toInt + (1 : Int) := by rw [ex158]; exact wk_add (show (-2147483648) ≤ x134.toInt + (1 : Int) by omega) (show x134.toInt + (1 : Int) ≤ 2147483647 by omega)
            refine tk_puti hC hK hw hT hinX12 tyX12_ok nmX12 kM_at0 (by decide) rfl rfl 14 (by decide) (List.mem_of_getElem? (i := 4) rfl) rfl rfl rfl rfl (show 0 ≤ x158.toInt by omega) (show x158.toInt ≤ 400 by omega) dX12_readsAll_55 (fun H locs w159 hw hT k161 c160 => ?_)
            have hR := RL_F1 k161 (by decide) (by decide) (by decide) (by decide) hR
            have hF := hF.put kM_at0 (k := 14) (by decide) k161
            have c162 := k161.gi (Or.inr (by decide)) c147
            have c163 := k161.gi (Or.inr (by decide)) c148
            have c164 := k161.gi (Or.inr (by decide)) c149
            have c165 := k161.gi (Or.inr (by decide)) c150
            have c166 := k161.gi (Or.inl (tk_ne kM_at3 kM_at0 (by decide))) c151
            have c167 := k161.gi (Or.inl (tk_ne kM_at5 kM_at0 (by decide))) c152
            refine lv_aload_n hx hb dX12_readsAll_58 rfl (lv_at hl 0 rfl) ?_
            refine tk_Vi hC hK hw hT hA hE hSR kM_at0 (by decide) rfl (k_X12_clauseHere_2 l adK adV dC dI cy ad B (by omega) (by omega) qr s1    w159 H.size hT f0_ c163 (show 0 ≤ f0_.toInt by omega) (show f0_.toInt ≤ 5 by omega) f35_0_18 c164 (show 0 ≤ f35_0_18.toInt by omega) (show f35_0_18.toInt ≤ 60 by omega) f35_0_20 c165 (show 0 ≤ f35_0_20.toInt by omega) (show f35_0_20.toInt ≤ 32 by omega) f35_3__f0__toInt_toNat c166 (show 0 ≤ f35_3__f0__toInt_toNat.toInt by omega) (show f35_3__f0__toInt_toNat.toInt ≤ 400 by omega) f35_5__f0__toInt_toNat c167 (show 0 ≤ f35_5__f0__toInt_toNat.toInt by omega) (show f35_5__f0__toInt_toNat.toInt ≤ 12 by omega) (show 3 * f35_3__f0__toInt_toNat.toInt ≤ 14 * f35_0_18.toInt by omega) (show f35_5__f0__toInt_toNat.toInt ≤ f35_0_20.toInt by omega) (show f35_0_20.toInt ≤ 12 by omega) (show f35_3__f0__toInt_toNat.toInt ≤ 280 by omega) hR) (cwV 0 hC.2.2.2.2 gX12_readsAll_X12_clauseHere rfl rfl rfl (by decide +kernel) ⟨Nat.le_of_ble_eq_true rfl, Nat.le_of_ble_eq_true rfl⟩) rfl hl.1 rfl (Nat.le_of_ble_eq_true rfl) dX12_readsAll_59 (fun r168 w170 H locs hp169 hw => ?_)
            obtain ⟨hT, k171, hg216⟩ := hp169
            have hF := hF.tr k171 (by decide)
            have c217 := k171.gi kM_at0 (by decide) c162
            have c218 := k171.gi kM_at0 (by decide) c163
            rcases hg216 with ⟨rfl, ⟨x172, c173, rx172, tx172⟩, ⟨x174, c175, rx174, tx174⟩, ⟨x176, c177, rx176, tx176⟩, ⟨x178, c179, rx178, tx178⟩, hq180, g181, g182⟩ | ⟨rfl, ⟨x183, c184, rx183, tx183⟩, ⟨x185, c186, rx185, tx185⟩, ⟨x187, c188, rx187, tx187⟩, ⟨x189, c190, rx189, tx189⟩, hq191, g192, g193⟩ | ⟨rfl, ⟨x194, c195, rx194, tx194⟩, ⟨x196, c197, rx196, tx196⟩, ⟨x198, c199, rx198, tx198⟩, hq200, g201, g202, g203, g204⟩ | ⟨rfl, ⟨x205, c206, rx205, tx205⟩, ⟨x207, c208, rx207, tx207⟩, ⟨x209, c210, rx209, tx209⟩, hq211, g212, g213, g214, g215⟩
            · have ex172 : x172.toInt = f35_0_1.toInt := by rw [← c217.symm.trans c173]
              have ex176 : x176.toInt = f0_.toInt := by rw [← c218.symm.trans c177]
              obtain ⟨x219, c220, rx219, tx219⟩ := hT.rda (lo := 0) (hi := 400) (i := (f0_.toInt).toNat) kM_at3 rfl rfl (by omega)
              obtain ⟨x221, c222, rx221, tx221⟩ := hT.rdi (lo := 0) (hi := 60) (k := 18) kM_at0 (by decide) rfl
              obtain ⟨x223, c224, rx223, tx223⟩ := hT.rda (lo := 0) (hi := 12) (i := (f0_.toInt).toNat) kM_at5 rfl rfl (by omega)
              have g181 : f35_0_20.toInt ≤ x178.toInt := by have q := g181; simp only [c163, c218, c165, c179] at q; omega
              have g182 : x178.toInt ≤ 12 := by have q := g182; simp only [c163, c218, c179] at q; omega
              have hR := hq180
              refine lv_istore_n (lv' := [(1, .int 0), (0, .ref (ad 0))]) hx hb dX12_readsAll_62 rfl hl (by decide) rfl (fun ls hl => ?_)
              refine lv_goto (tgt := 35) hx hb dX12_readsAll_63 (by decide) ?_
              exact ih35 0 f35_0_1 x221 x178 x219 x223 H locs ls w170 (by decide) (by decide) (show 0 ≤ f35_0_1.toInt by omega) (show f35_0_1.toInt ≤ 400 by omega) (show 0 ≤ f0_.toInt by omega) (show f0_.toInt ≤ 5 by omega) (show 0 ≤ x221.toInt by omega) (show x221.toInt ≤ 60 by omega) (show 0 ≤ x178.toInt by omega) (show x178.toInt ≤ 12 by omega) (show 0 ≤ x219.toInt by omega) (show x219.toInt ≤ 400 by omega) (show 0 ≤ x223.toInt by omega) (show x223.toInt ≤ 12 by omega) (show ((0 : Int) = 0 ∨ 3 * x219.toInt ≤ 14 * x221.toInt) by omega) (show ((0 : Int) = 0 ∨ x223.toInt ≤ x178.toInt) by omega) (show x178.toInt ≤ 12 by omega) (show (2 * (32 - x178.toInt) + (0 : Int)).toNat < n35 by omega) hw hT hF hR c217 c218 c222 c179 c220 c224 (lv_sub hl [1, 0] rfl)
            · have ex183 : x183.toInt = f35_0_1.toInt := by rw [← c217.symm.trans c184]
              have ex187 : x187.toInt = f0_.toInt := by rw [← c218.symm.trans c188]
              obtain ⟨x225, c226, rx225, tx225⟩ := hT.rda (lo := 0) (hi := 400) (i := (f0_.toInt).toNat) kM_at3 rfl rfl (by omega)
              obtain ⟨x227, c228, rx227, tx227⟩ := hT.rdi (lo := 0) (hi := 60) (k := 18) kM_at0 (by decide) rfl
              obtain ⟨x229, c230, rx229, tx229⟩ := hT.rda (lo := 0) (hi := 12) (i := (f0_.toInt).toNat) kM_at5 rfl rfl (by omega)
              have g192 : f35_0_20.toInt ≤ x189.toInt := by have q := g192; simp only [c163, c218, c165, c190] at q; omega
              have g193 : x189.toInt ≤ 12 := by have q := g193; simp only [c163, c218, c190] at q; omega
              have hR := hq191
              refine lv_istore_n (lv' := [(1, .int 0), (0, .ref (ad 0))]) hx hb dX12_readsAll_62 rfl hl (by decide) rfl (fun ls hl => ?_)
              refine lv_goto (tgt := 35) hx hb dX12_readsAll_63 (by decide) ?_
              exact ih35 0 f35_0_1 x227 x189 x225 x229 H locs ls w170 (by decide) (by decide) (show 0 ≤ f35_0_1.toInt by omega) (show f35_0_1.toInt ≤ 400 by omega) (show 0 ≤ f0_.toInt by omega) (show f0_.toInt ≤ 5 by omega) (show 0 ≤ x227.toInt by omega) (show x227.toInt ≤ 60 by omega) (show 0 ≤ x189.toInt by omega) (show x189.toInt ≤ 12 by omega) (show 0 ≤ x225.toInt by omega) (show x225.toInt ≤ 400 by omega) (show 0 ≤ x229.toInt by omega) (show x229.toInt ≤ 12 by omega) (show ((0 : Int) = 0 ∨ 3 * x225.toInt ≤ 14 * x227.toInt) by omega) (show ((0 : Int) = 0 ∨ x229.toInt ≤ x189.toInt) by omega) (show x189.toInt ≤ 12 by omega) (show (2 * (32 - x189.toInt) + (0 : Int)).toNat < n35 by omega) hw hT hF hR c217 c218 c228 c190 c226 c230 (lv_sub hl [1, 0] rfl)
            · have ex194 : x194.toInt = f35_0_1.toInt := by rw [← c217.symm.trans c195]
              have ex196 : x196.toInt = f0_.toInt := by rw [← c218.symm.trans c197]
              obtain ⟨x231, c232, rx231, tx231⟩ := hT.rda (lo := 0) (hi := 400) (i := (f0_.toInt).toNat) kM_at3 rfl rfl (by omega)
              obtain ⟨x233, c234, rx233, tx233⟩ := hT.rdi (lo := 0) (hi := 60) (k := 18) kM_at0 (by decide) rfl
              obtain ⟨x235, c236, rx235, tx235⟩ := hT.rda (lo := 0) (hi := 12) (i := (f0_.toInt).toNat) kM_at5 rfl rfl (by omega)
              have g201 : 3 * x231.toInt ≤ 14 * x233.toInt := by have q := g201; simp only [c163, c218, c232, c234] at q; omega
              have g202 : x235.toInt ≤ x198.toInt := by have q := g202; simp only [c163, c218, c236, c199] at q; omega
              have g203 : x198.toInt = f35_0_20.toInt + 1 := by have q := g203; simp only [c163, c218, c165, c199] at q; omega
              have g204 : x198.toInt ≤ 12 := by have q := g204; simp only [c163, c218, c199] at q; omega
              have hR := hq200
              refine lv_istore_n (lv' := [(1, .int 1), (0, .ref (ad 0))]) hx hb dX12_readsAll_62 rfl hl (by decide) rfl (fun ls hl => ?_)
              refine lv_goto (tgt := 35) hx hb dX12_readsAll_63 (by decide) ?_
              exact ih35 1 f35_0_1 x233 x198 x231 x235 H locs ls w170 (by decide) (by decide) (show 0 ≤ f35_0_1.toInt by omega) (show f35_0_1.toInt ≤ 400 by omega) (show 0 ≤ f0_.toInt by omega) (show f0_.toInt ≤ 5 by omega) (show 0 ≤ x233.toInt by omega) (show x233.toInt ≤ 60 by omega) (show 0 ≤ x198.toInt by omega) (show x198.toInt ≤ 12 by omega) (show 0 ≤ x231.toInt by omega) (show x231.toInt ≤ 400 by omega) (show 0 ≤ x235.toInt by omega) (show x235.toInt ≤ 12 by omega) (show ((1 : Int) = 0 ∨ 3 * x231.toInt ≤ 14 * x233.toInt) by omega) (show ((1 : Int) = 0 ∨ x235.toInt ≤ x198.toInt) by omega) (show x198.toInt ≤ 12 by omega) (show (2 * (32 - x198.toInt) + (1 : Int)).toNat < n35 by omega) hw hT hF hR c217 c218 c234 c199 c232 c236 (lv_sub hl [1, 0] rfl)
            · have ex205 : x205.toInt = f35_0_1.toInt := by rw [← c217.symm.trans c206]
              have ex207 : x207.toInt = f0_.toInt := by rw [← c218.symm.trans c208]
              obtain ⟨x237, c238, rx237, tx237⟩ := hT.rda (lo := 0) (hi := 400) (i := (f0_.toInt).toNat) kM_at3 rfl rfl (by omega)
              obtain ⟨x239, c240, rx239, tx239⟩ := hT.rdi (lo := 0) (hi := 60) (k := 18) kM_at0 (by decide) rfl
              obtain ⟨x241, c242, rx241, tx241⟩ := hT.rda (lo := 0) (hi := 12) (i := (f0_.toInt).toNat) kM_at5 rfl rfl (by omega)
              have g212 : 3 * x237.toInt ≤ 14 * x239.toInt := by have q := g212; simp only [c163, c218, c238, c240] at q; omega
              have g213 : x241.toInt ≤ x209.toInt := by have q := g213; simp only [c163, c218, c242, c210] at q; omega
              have g214 : x209.toInt = f35_0_20.toInt + 1 := by have q := g214; simp only [c163, c218, c165, c210] at q; omega
              have g215 : x209.toInt ≤ 12 := by have q := g215; simp only [c163, c218, c210] at q; omega
              have hR := hq211
              refine lv_istore_n (lv' := [(1, .int 1), (0, .ref (ad 0))]) hx hb dX12_readsAll_62 rfl hl (by decide) rfl (fun ls hl => ?_)
              refine lv_goto (tgt := 35) hx hb dX12_readsAll_63 (by decide) ?_
              exact ih35 1 f35_0_1 x239 x209 x237 x241 H locs ls w170 (by decide) (by decide) (show 0 ≤ f35_0_1.toInt by omega) (show f35_0_1.toInt ≤ 400 by omega) (show 0 ≤ f0_.toInt by omega) (show f0_.toInt ≤ 5 by omega) (show 0 ≤ x239.toInt by omega) (show x239.toInt ≤ 60 by omega) (show 0 ≤ x209.toInt by omega) (show x209.toInt ≤ 12 by omega) (show 0 ≤ x237.toInt by omega) (show x237.toInt ≤ 400 by omega) (show 0 ≤ x241.toInt by omega) (show x241.toInt ≤ 12 by omega) (show ((1 : Int) = 0 ∨ 3 * x237.toInt ≤ 14 * x239.toInt) by omega) (show ((1 : Int) = 0 ∨ x241.toInt ≤ x209.toInt) by omega) (show x209.toInt ≤ 12 by omega) (show (2 * (32 - x209.toInt) + (1 : Int)).toNat < n35 by omega) hw hT hF hR c217 c218 c240 c210 c238 c242 (lv_sub hl [1, 0] rfl)
        · have ex138 : x138.toInt = f35_0_1.toInt := by rw [← c147.symm.trans c139]
          have g142 : (x140.toInt = x124.toInt ∨ (gi w102 1 (x124.toInt).toNat).toInt = 32) := by have q := g142; simp only [c110, c148, c125, c141] at q; omega
          refine lv_bipush (v := 59) hx hb dX12_readsAll_43 (by decide) ?_
          refine lv_icmp_ne (tgt := 66) hx hb dX12_readsAll_45 (by decide) (fun _ => ?_) (fun c => absurd c (by decide))
          exact J66 v35_1 f35_0_1 f35_0_18 f35_0_20 f35_3__f0__toInt_toNat f35_5__f0__toInt_toNat H locs ls w128 (show 0 ≤ v35_1.toInt by omega) (show v35_1.toInt ≤ 1 by omega) (show 0 ≤ f35_0_1.toInt by omega) (show f35_0_1.toInt ≤ 400 by omega) (show 0 ≤ f0_.toInt by omega) (show f0_.toInt ≤ 5 by omega) (show 0 ≤ f35_0_18.toInt by omega) (show f35_0_18.toInt ≤ 60 by omega) (show 0 ≤ f35_0_20.toInt by omega) (show f35_0_20.toInt ≤ 12 by omega) (show 0 ≤ f35_3__f0__toInt_toNat.toInt by omega) (show f35_3__f0__toInt_toNat.toInt ≤ 400 by omega) (show 0 ≤ f35_5__f0__toInt_toNat.toInt by omega) (show f35_5__f0__toInt_toNat.toInt ≤ 12 by omega) (show (v35_1.toInt = 0 ∨ 3 * f35_3__f0__toInt_toNat.toInt ≤ 14 * f35_0_18.toInt) by omega) (show (v35_1.toInt = 0 ∨ f35_5__f0__toInt_toNat.toInt ≤ f35_0_20.toInt) by omega) (show f35_0_20.toInt ≤ 12 by omega)  hw hT hF hR c147 c148 c149 c150 c151 c152 (lv_sub hl [0, 1] rfl)
        · have ex143 : x143.toInt = f35_0_1.toInt := by rw [← c147.symm.trans c144]
          obtain ⟨x153, c154, rx153, tx153⟩ := hT.rdi (lo := 0) (hi := 400) (k := 14) kM_at0 (by decide) rfl
          have g145 : (x153.toInt = x124.toInt ∨ (gi w102 1 (x124.toInt).toNat).toInt = 32) := by have q := g145; simp only [c110, c148, c125, c154] at q; omega
          refine lv_bipush (v := 59) hx hb dX12_readsAll_43 (by decide) ?_
          refine lv_icmp_ne (tgt := 66) hx hb dX12_readsAll_45 (by decide) (fun _ => ?_) (fun c => absurd c (by decide))
          exact J66 v35_1 f35_0_1 f35_0_18 f35_0_20 f35_3__f0__toInt_toNat f35_5__f0__toInt_toNat H locs ls w128 (show 0 ≤ v35_1.toInt by omega) (show v35_1.toInt ≤ 1 by omega) (show 0 ≤ f35_0_1.toInt by omega) (show f35_0_1.toInt ≤ 400 by omega) (show 0 ≤ f0_.toInt by omega) (show f0_.toInt ≤ 5 by omega) (show 0 ≤ f35_0_18.toInt by omega) (show f35_0_18.toInt ≤ 60 by omega) (show 0 ≤ f35_0_20.toInt by omega) (show f35_0_20.toInt ≤ 12 by omega) (show 0 ≤ f35_3__f0__toInt_toNat.toInt by omega) (show f35_3__f0__toInt_toNat.toInt ≤ 400 by omega) (show 0 ≤ f35_5__f0__toInt_toNat.toInt by omega) (show f35_5__f0__toInt_toNat.toInt ≤ 12 by omega) (show (v35_1.toInt = 0 ∨ 3 * f35_3__f0__toInt_toNat.toInt ≤ 14 * f35_0_18.toInt) by omega) (show (v35_1.toInt = 0 ∨ f35_5__f0__toInt_toNat.toInt ≤ f35_0_20.toInt) by omega) (show f35_0_20.toInt ≤ 12 by omega)  hw hT hF hR c147 c148 c149 c150 c151 c152 (lv_sub hl [0, 1] rfl)
  refine lv_aload_n hx hb dX12_readsAll_0 rfl (lv_at hl 0 rfl) ?_
  refine tk_getA hC hK hw hT hinX12 kM_at0 (by decide) rfl 4 (by decide) (List.mem_of_getElem? (i := 1) rfl) rfl rfl dX12_readsAll_1 ?_
  refine lv_aload_n hx hb dX12_readsAll_4 rfl (lv_at hl 0 rfl) ?_
  refine tk_geti hC hK hw hT hinX12 kM_at0 (by decide) rfl 17 (by decide) (List.mem_of_getElem? (i := 2) rfl) rfl rfl dX12_readsAll_5 (fun x243 c244 rx243 tx243 => ?_)
  refine wk_top f0_ (c244.symm.trans cf0_) ?_
  refine lv_iconst (v := 0) hx hb dX12_readsAll_8 (by decide) ?_
  refine tk_iast hC hK hw hT kM_at3 (by decide) rfl rfl (show 0 ≤ f0_.toInt by omega) (show f0_.toInt < 7 by omega) (by decide) (by decide) dX12_readsAll_9 (fun H locs w245 hw hT k247 c246 => ?_)
  have hR := RL_start (t := f0_.toInt) hRW (by omega) (by omega) (by rw [cf4_]; omega) k247
  have hF := hF.put kM_at3 (inE_of (a := 0) (b := 7) (by decide) (show 0 ≤ f0_.toInt.toNat by omega) (show f0_.toInt.toNat ≤ 7 by omega)) k247
  have c248 := k247.gi (Or.inl (tk_ne kM_at0 kM_at3 (by decide))) cf0_
  have c249 := k247.gi (Or.inl (tk_ne kM_at0 kM_at3 (by decide))) cf1_
  have c250 := k247.gi (Or.inl (tk_ne kM_at0 kM_at3 (by decide))) cf2_
  have c251 := k247.gi (Or.inl (tk_ne kM_at5 kM_at3 (by decide))) cf4_
  have c246 : gi w245 3 (f0_.toInt).toNat = 0 := (congrArg (gi w245 3) (congrArg Int.toNat (show f0_.toInt = f0_.toInt by omega))).trans c246
  refine lv_aload_n hx hb dX12_readsAll_10 rfl (lv_at hl 0 rfl) ?_
  refine lv_iconst (v := 0) hx hb dX12_readsAll_11 (by decide) ?_
  refine tk_puti hC hK hw hT hinX12 tyX12_ok nmX12 kM_at0 (by decide) rfl rfl 20 (by decide) (List.mem_of_getElem? (i := 3) rfl) rfl rfl rfl rfl (by decide) (by decide) dX12_readsAll_12 (fun H locs w252 hw hT k254 c253 => ?_)
  have hR := RL_F1 k254 (by decide) (by decide) (by decide) (by decide) hR
  have hF := hF.put kM_at0 (k := 20) (by decide) k254
  have c255 := k254.gi (Or.inr (by decide)) c248
  have c256 := k254.gi (Or.inr (by decide)) c249
  have c257 := k254.gi (Or.inl (tk_ne kM_at5 kM_at0 (by decide))) c251
  have c258 := k254.gi (Or.inl (tk_ne kM_at3 kM_at0 (by decide))) c246
  refine lv_aload_n hx hb dX12_readsAll_15 rfl (lv_at hl 0 rfl) ?_
  refine lv_iconst (v := 0) hx hb dX12_readsAll_16 (by decide) ?_
  refine tk_puti hC hK hw hT hinX12 tyX12_ok nmX12 kM_at0 (by decide) rfl rfl 14 (by decide) (List.mem_of_getElem? (i := 4) rfl) rfl rfl rfl rfl (by decide) (by decide) dX12_readsAll_17 (fun H locs w259 hw hT k261 c260 => ?_)
  have hR := RL_F1 k261 (by decide) (by decide) (by decide) (by decide) hR
  have hF := hF.put kM_at0 (k := 14) (by decide) k261
  have c262 := k261.gi (Or.inr (by decide)) c255
  have c263 := k261.gi (Or.inr (by decide)) c256
  have c264 := k261.gi (Or.inl (tk_ne kM_at5 kM_at0 (by decide))) c257
  have c265 := k261.gi (Or.inl (tk_ne kM_at3 kM_at0 (by decide))) c258
  have c266 := k261.gi (Or.inr (by decide)) c253
  refine lv_aload_n hx hb dX12_readsAll_20 rfl (lv_at hl 0 rfl) ?_
  refine lv_iconst (v := 0) hx hb dX12_readsAll_21 (by decide) ?_
  refine tk_puti hC hK hw hT hinX12 tyX12_ok nmX12 kM_at0 (by decide) rfl rfl 15 (by decide) (List.mem_of_getElem? (i := 5) rfl) rfl rfl rfl rfl (by decide) (by decide) dX12_readsAll_22 (fun H locs w267 hw hT k269 c268 => ?_)
  have hR := RL_F1 k269 (by decide) (by decide) (by decide) (by decide) hR
  have hF := hF.put kM_at0 (k := 15) (by decide) k269
  have c270 := k269.gi (Or.inr (by decide)) c262
  have c271 := k269.gi (Or.inr (by decide)) c263
  have c272 := k269.gi (Or.inl (tk_ne kM_at5 kM_at0 (by decide))) c264
  have c273 := k269.gi (Or.inl (tk_ne kM_at3 kM_at0 (by decide))) c265
  have c274 := k269.gi (Or.inr (by decide)) c266
  have c275 := k269.gi (Or.inr (by decide)) c260
  refine lv_aload_n hx hb dX12_readsAll_25 rfl (lv_at hl 0 rfl) ?_
  refine lv_iconst (v := 0) hx hb dX12_readsAll_26 (by decide) ?_
  refine tk_puti hC hK hw hT hinX12 tyX12_ok nmX12 kM_at0 (by decide) rfl rfl 18 (by decide) (List.mem_of_getElem? (i := 6) rfl) rfl rfl rfl rfl (by decide) (by decide) dX12_readsAll_27 (fun H locs w276 hw hT k278 c277 => ?_)
  have hR := RL_F1 k278 (by decide) (by decide) (by decide) (by decide) hR
  have hF := hF.put kM_at0 (k := 18) (by decide) k278
  have c279 := k278.gi (Or.inr (by decide)) c270
  have c280 := k278.gi (Or.inl (tk_ne kM_at5 kM_at0 (by decide))) c272
  have c281 := k278.gi (Or.inl (tk_ne kM_at3 kM_at0 (by decide))) c273
  have c282 := k278.gi (Or.inr (by decide)) c274
  have c283 := k278.gi (Or.inr (by decide)) c275
  have c284 := k278.gi (Or.inr (by decide)) c268
  refine lv_aload_n hx hb dX12_readsAll_30 rfl (lv_at hl 0 rfl) ?_
  refine tk_Vi hC hK hw hT hA hE hSR kM_at0 (by decide) rfl (k_X12_clauseHere_2 l adK adV dC dI cy ad B (by omega) (by omega) qr s1    w276 H.size hT f0_ c279 (show 0 ≤ f0_.toInt by omega) (show f0_.toInt ≤ 5 by omega) 0 c277 (by decide) (by decide) 0 c282 (by decide) (by decide) 0 c281 (by decide) (by decide) f4_ c280 (show 0 ≤ f4_.toInt by omega) (show f4_.toInt ≤ 12 by omega) (show 3 * (0 : Int) ≤ 14 * (0 : Int) by omega) (show f4_.toInt ≤ (0 : Int) by omega) (show (0 : Int) ≤ 12 by omega) (show (0 : Int) ≤ 280 by omega) hR) (cwV 0 hC.2.2.2.2 gX12_readsAll_X12_clauseHere rfl rfl rfl (by decide +kernel) ⟨Nat.le_of_ble_eq_true rfl, Nat.le_of_ble_eq_true rfl⟩) rfl hl.1 rfl (Nat.le_of_ble_eq_true rfl) dX12_readsAll_31 (fun r285 w287 H locs hp286 hw => ?_)
  obtain ⟨hT, k288, hg333⟩ := hp286
  have hF := hF.tr k288 (by decide)
  have c334 := k288.gi kM_at0 (by decide) c279
  rcases hg333 with ⟨rfl, ⟨x289, c290, rx289, tx289⟩, ⟨x291, c292, rx291, tx291⟩, ⟨x293, c294, rx293, tx293⟩, ⟨x295, c296, rx295, tx295⟩, hq297, g298, g299⟩ | ⟨rfl, ⟨x300, c301, rx300, tx300⟩, ⟨x302, c303, rx302, tx302⟩, ⟨x304, c305, rx304, tx304⟩, ⟨x306, c307, rx306, tx306⟩, hq308, g309, g310⟩ | ⟨rfl, ⟨x311, c312, rx311, tx311⟩, ⟨x313, c314, rx313, tx313⟩, ⟨x315, c316, rx315, tx315⟩, hq317, g318, g319, g320, g321⟩ | ⟨rfl, ⟨x322, c323, rx322, tx322⟩, ⟨x324, c325, rx324, tx324⟩, ⟨x326, c327, rx326, tx326⟩, hq328, g329, g330, g331, g332⟩
  · have ex293 : x293.toInt = f0_.toInt := by rw [← c334.symm.trans c294]
    obtain ⟨x335, c336, rx335, tx335⟩ := hT.rda (lo := 0) (hi := 400) (i := (f0_.toInt).toNat) kM_at3 rfl rfl (by omega)
    obtain ⟨x337, c338, rx337, tx337⟩ := hT.rdi (lo := 0) (hi := 60) (k := 18) kM_at0 (by decide) rfl
    obtain ⟨x339, c340, rx339, tx339⟩ := hT.rda (lo := 0) (hi := 12) (i := (f0_.toInt).toNat) kM_at5 rfl rfl (by omega)
    have g298 : (0 : Int) ≤ x295.toInt := by have q := g298; simp only [c279, c334, c282, (show (0 : Int32).toInt = 0 by decide), c296] at q; omega
    have g299 : x295.toInt ≤ 12 := by have q := g299; simp only [c279, c334, c296] at q; omega
    have hR := hq297
    refine lv_istore_n (lv' := [(1, .int 0), (0, .ref (ad 0))]) hx hb dX12_readsAll_34 rfl hl (by decide) rfl (fun ls hl => ?_)
    exact L35 ((2 * (32 - x295.toInt) + (0 : Int)).toNat + 1) 0 x289 x337 x295 x335 x339 H locs ls w287 (by decide) (by decide) (show 0 ≤ x289.toInt by omega) (show x289.toInt ≤ 400 by omega) (show 0 ≤ f0_.toInt by omega) (show f0_.toInt ≤ 5 by omega) (show 0 ≤ x337.toInt by omega) (show x337.toInt ≤ 60 by omega) (show 0 ≤ x295.toInt by omega) (show x295.toInt ≤ 12 by omega) (show 0 ≤ x335.toInt by omega) (show x335.toInt ≤ 400 by omega) (show 0 ≤ x339.toInt by omega) (show x339.toInt ≤ 12 by omega) (show ((0 : Int) = 0 ∨ 3 * x335.toInt ≤ 14 * x337.toInt) by omega) (show ((0 : Int) = 0 ∨ x339.toInt ≤ x295.toInt) by omega) (show x295.toInt ≤ 12 by omega) (Nat.lt_succ_self _) hw hT hF hR c290 c334 c338 c296 c336 c340 (lv_sub hl [1, 0] rfl)
  · have ex304 : x304.toInt = f0_.toInt := by rw [← c334.symm.trans c305]
    obtain ⟨x341, c342, rx341, tx341⟩ := hT.rda (lo := 0) (hi := 400) (i := (f0_.toInt).toNat) kM_at3 rfl rfl (by omega)
    obtain ⟨x343, c344, rx343, tx343⟩ := hT.rdi (lo := 0) (hi := 60) (k := 18) kM_at0 (by decide) rfl
    obtain ⟨x345, c346, rx345, tx345⟩ := hT.rda (lo := 0) (hi := 12) (i := (f0_.toInt).toNat) kM_at5 rfl rfl (by omega)
    have g309 : (0 : Int) ≤ x306.toInt := by have q := g309; simp only [c279, c334, c282, (show (0 : Int32).toInt = 0 by decide), c307] at q; omega
    have g310 : x306.toInt ≤ 12 := by have q := g310; simp only [c279, c334, c307] at q; omega
    have hR := hq308
    refine lv_istore_n (lv' := [(1, .int 0), (0, .ref (ad 0))]) hx hb dX12_readsAll_34 rfl hl (by decide) rfl (fun ls hl => ?_)
    exact L35 ((2 * (32 - x306.toInt) + (0 : Int)).toNat + 1) 0 x300 x343 x306 x341 x345 H locs ls w287 (by decide) (by decide) (show 0 ≤ x300.toInt by omega) (show x300.toInt ≤ 400 by omega) (show 0 ≤ f0_.toInt by omega) (show f0_.toInt ≤ 5 by omega) (show 0 ≤ x343.toInt by omega) (show x343.toInt ≤ 60 by omega) (show 0 ≤ x306.toInt by omega) (show x306.toInt ≤ 12 by omega) (show 0 ≤ x341.toInt by omega) (show x341.toInt ≤ 400 by omega) (show 0 ≤ x345.toInt by omega) (show x345.toInt ≤ 12 by omega) (show ((0 : Int) = 0 ∨ 3 * x341.toInt ≤ 14 * x343.toInt) by omega) (show ((0 : Int) = 0 ∨ x345.toInt ≤ x306.toInt) by omega) (show x306.toInt ≤ 12 by omega) (Nat.lt_succ_self _) hw hT hF hR c301 c334 c344 c307 c342 c346 (lv_sub hl [1, 0] rfl)
  · have ex313 : x313.toInt = f0_.toInt := by rw [← c334.symm.trans c314]
    obtain ⟨x347, c348, rx347, tx347⟩ := hT.rda (lo := 0) (hi := 400) (i := (f0_.toInt).toNat) kM_at3 rfl rfl (by omega)
    obtain ⟨x349, c350, rx349, tx349⟩ := hT.rdi (lo := 0) (hi := 60) (k := 18) kM_at0 (by decide) rfl
    obtain ⟨x351, c352, rx351, tx351⟩ := hT.rda (lo := 0) (hi := 12) (i := (f0_.toInt).toNat) kM_at5 rfl rfl (by omega)
    have g318 : 3 * x347.toInt ≤ 14 * x349.toInt := by have q := g318; simp only [c279, c334, c348, c350] at q; omega
    have g319 : x351.toInt ≤ x315.toInt := by have q := g319; simp only [c279, c334, c352, c316] at q; omega
    have g320 : x315.toInt = (0 : Int) + 1 := by have q := g320; simp only [c279, c334, c282, (show (0 : Int32).toInt = 0 by decide), c316] at q; omega
    have g321 : x315.toInt ≤ 12 := by have q := g321; simp only [c279, c334, c316] at q; omega
    have hR := hq317
    refine lv_istore_n (lv' := [(1, .int 1), (0, .ref (ad 0))]) hx hb dX12_readsAll_34 rfl hl (by decide) rfl (fun ls hl => ?_)
    exact L35 ((2 * (32 - x315.toInt) + (1 : Int)).toNat + 1) 1 x311 x349 x315 x347 x351 H locs ls w287 (by decide) (by decide) (show 0 ≤ x311.toInt by omega) (show x311.toInt ≤ 400 by omega) (show 0 ≤ f0_.toInt by omega) (show f0_.toInt ≤ 5 by omega) (show 0 ≤ x349.toInt by omega) (show x349.toInt ≤ 60 by omega) (show 0 ≤ x315.toInt by omega) (show x315.toInt ≤ 12 by omega) (show 0 ≤ x347.toInt by omega) (show x347.toInt ≤ 400 by omega) (show 0 ≤ x351.toInt by omega) (show x351.toInt ≤ 12 by omega) (show ((1 : Int) = 0 ∨ 3 * x347.toInt ≤ 14 * x349.toInt) by omega) (show ((1 : Int) = 0 ∨ x351.toInt ≤ x315.toInt) by omega) (show x315.toInt ≤ 12 by omega) (Nat.lt_succ_self _) hw hT hF hR c312 c334 c350 c316 c348 c352 (lv_sub hl [1, 0] rfl)
  · have ex324 : x324.toInt = f0_.toInt := by rw [← c334.symm.trans c325]
    obtain ⟨x353, c354, rx353, tx353⟩ := hT.rda (lo := 0) (hi := 400) (i := (f0_.toInt).toNat) kM_at3 rfl rfl (by omega)
    obtain ⟨x355, c356, rx355, tx355⟩ := hT.rdi (lo := 0) (hi := 60) (k := 18) kM_at0 (by decide) rfl
    obtain ⟨x357, c358, rx357, tx357⟩ := hT.rda (lo := 0) (hi := 12) (i := (f0_.toInt).toNat) kM_at5 rfl rfl (by omega)
    have g329 : 3 * x353.toInt ≤ 14 * x355.toInt := by have q := g329; simp only [c279, c334, c354, c356] at q; omega
    have g330 : x357.toInt ≤ x326.toInt := by have q := g330; simp only [c279, c334, c358, c327] at q; omega
    have g331 : x326.toInt = (0 : Int) + 1 := by have q := g331; simp only [c279, c334, c282, (show (0 : Int32).toInt = 0 by decide), c327] at q; omega
    have g332 : x326.toInt ≤ 12 := by have q := g332; simp only [c279, c334, c327] at q; omega
    have hR := hq328
    refine lv_istore_n (lv' := [(1, .int 1), (0, .ref (ad 0))]) hx hb dX12_readsAll_34 rfl hl (by decide) rfl (fun ls hl => ?_)
    exact L35 ((2 * (32 - x326.toInt) + (1 : Int)).toNat + 1) 1 x322 x355 x326 x353 x357 H locs ls w287 (by decide) (by decide) (show 0 ≤ x322.toInt by omega) (show x322.toInt ≤ 400 by omega) (show 0 ≤ f0_.toInt by omega) (show f0_.toInt ≤ 5 by omega) (show 0 ≤ x355.toInt by omega) (show x355.toInt ≤ 60 by omega) (show 0 ≤ x326.toInt by omega) (show x326.toInt ≤ 12 by omega) (show 0 ≤ x353.toInt by omega) (show x353.toInt ≤ 400 by omega) (show 0 ≤ x357.toInt by omega) (show x357.toInt ≤ 12 by omega) (show ((1 : Int) = 0 ∨ 3 * x353.toInt ≤ 14 * x355.toInt) by omega) (show ((1 : Int) = 0 ∨ x357.toInt ≤ x326.toInt) by omega) (show x326.toInt ≤ 12 by omega) (Nat.lt_succ_self _) hw hT hF hR c323 c334 c356 c327 c354 c358 (lv_sub hl [1, 0] rfl)
abbrev P_X12_rule_1 (ad : Nat → Nat) (cy : Nat → ClassId) (B : Int) (qr : Nat) (s1 : Int)  (w0 : va_W) : Int32 → va_W → Prop := fun r u => TW ksM ad cy B qr 12 u ∧ FE ksM [(12, 1, 1), (12, 2, 2), (12, 14, 14), (12, 15, 15), (12, 16, 16), (12, 17, 17), (12, 18, 18), (12, 19, 19), (12, 20, 20), (12, 22, 22), (61, 0, 2400), (62, 0, 7), (63, 0, 216), (64, 0, 6), (68, 0, 400)] w0 u ∧ (((-3207) ≤ r.toInt ∧ r.toInt ≤ (-3) ∧ (∃ y : Int32, gi u 0 1 = y ∧ 0 ≤ y.toInt ∧ y.toInt ≤ 0) ∧ (∃ y : Int32, gi u 0 2 = y ∧ 0 ≤ y.toInt ∧ y.toInt ≤ 5) ∧ (∃ y : Int32, gi u 0 15 = y ∧ 1 ≤ y.toInt ∧ y.toInt ≤ 3205) ∧ (∃ y : Int32, gi u 0 17 = y ∧ 0 ≤ y.toInt ∧ y.toInt ≤ 5) ∧ (∃ y : Int32, gi u 0 20 = y ∧ 0 ≤ y.toInt ∧ y.toInt ≤ 12) ∧ RW u) ∨ (0 ≤ r.toInt ∧ r.toInt ≤ 5 ∧ (∃ y : Int32, gi u 0 1 = y ∧ 0 ≤ y.toInt ∧ y.toInt ≤ 0) ∧ (∃ y : Int32, gi u 0 2 = y ∧ 1 ≤ y.toInt ∧ y.toInt ≤ 6) ∧ (∃ y : Int32, gi u 0 15 = y ∧ 0 ≤ y.toInt ∧ y.toInt ≤ 0) ∧ (∃ y : Int32, gi u 0 17 = y ∧ 0 ≤ y.toInt ∧ y.toInt ≤ 5) ∧ (∃ y : Int32, gi u 0 20 = y ∧ 0 ≤ y.toInt ∧ y.toInt ≤ 12) ∧ RW u) ∨ (r = (-1) ∧ (∃ y : Int32, gi u 0 2 = y ∧ 6 ≤ y.toInt ∧ y.toInt ≤ 6) ∧ RW u))
set_option maxHeartbeats 4000000 in
set_option maxRecDepth 100000 in
theorem k_X12_rule_1 (l : Launch) (adK adV : Nat → Nat) (dC : Nat → ClassId) (dI : Nat → Nat → Nat) (cy : Nat → ClassId) (ad : Nat → Nat) (B : Int) (hB0 : 100000 ≤ B) (hB1 : B ≤ 1073741824) (qr : Nat) (s1 : Int)   (w0 : va_W) (sz : Nat) (hT : TW ksM ad cy B qr 12 w0) (hRW : RW w0) : Met l yX12_rule wsX12_rule ({ frames := 13, cells := 0, slots := 0, locals := 276 }) (va_Pc [.ref (ad 0)] (wpreS adK adV dC dI cy sz w0)) (va_Qi (P_X12_rule_1 ad cy B qr s1  w0) (fun u : va_W => wpost dC dI cy (va_A w0 sz) u) (va_A w0 sz)) 0 0 (va_A w0 sz) := by
  refine Met.ofW (cc := cX12_rule) (maxL := 1) (ret := (some .int)) (by decide) rfl ?_
  intro p e s m args below meth c s₁ Bk hml hv
  obtain ⟨rfl, ⟨hsz, hP, hK, hD0⟩, hE, hSR⟩ := hv
  have hx := Bk.exec
  have hb := Bk.bytes
  have hr := Bk.returns
  have hlocks := Bk.notSynchronized
  have hC : CallFix p m c cX12_rule 1 s _ wsX12_rule RX12 := ⟨hx, hb, hml, findClass_of_methodNamed Bk.named, atoms_spec (ws := wsX12_rule) Bk.pre⟩
  subst hsz
  have hD := hD0.self (sz := s.heap.size)
  generalize hAe : va_A w0 s.heap.size = A at hD hE ⊢
  have hA : ∀ q : Nat, s.heap.size ≤ q → A q := fun q h => by rw [← hAe]; exact Or.inr h
  have hw : Wd dC dI A s.heap s.heap [] w0 := ⟨hP, hD, va_S.rf⟩
  have hF : FE ksM [(12, 1, 1), (12, 2, 2), (12, 14, 14), (12, 15, 15), (12, 16, 16), (12, 17, 17), (12, 18, 18), (12, 19, 19), (12, 20, 20), (12, 22, 22), (61, 0, 2400), (62, 0, 7), (63, 0, 216), (64, 0, 6), (68, 0, 400)] w0 w0 := FE.rf
  have hl := lv_entry ([.ref (ad 0)]) (n := 1) (Nat.le_of_ble_eq_true rfl)
  rw [lg_entry_eq]
  generalize (lg_sl ([.ref (ad 0)]) ++ List.replicate (1 - (lg_sl ([.ref (ad 0)])).length) Slot.unset).toArray = ls at hl ⊢
  have hl : lv_has ls 1 [(0, .ref (ad 0))] := hl
  generalize hloc : ([] : List Loc) = locs at hw ⊢
  have hinX12 : ∀ w ∈ u_ws RX12 TX12 42, w ∈ wsX12_rule := fun _ h => List.mem_cons_of_mem _ (List.mem_append_right _ (h))
  refine lv_aload_n hx hb dX12_rule_0 rfl (lv_at hl 0 rfl) ?_
  refine tk_geti hC hK hw hT hinX12 kM_at0 (by decide) rfl 2 (by decide) (List.mem_of_getElem? (i := 1) rfl) rfl rfl dX12_rule_1 (fun x1 c2 rx1 tx1 => ?_)
  refine lv_bipush (v := 6) hx hb dX12_rule_4 (by decide) ?_
  refine lv_icmp_ne (tgt := 11) hx hb dX12_rule_6 (by decide) (fun c3 => ?_) (fun c3 => ?_)
  · have c3 : ¬ x1.toInt = (6 : Int) := wk_eqF c3
    refine lv_aload_n hx hb dX12_rule_11 rfl (lv_at hl 0 rfl) ?_
    refine lv_aload_n hx hb dX12_rule_12 rfl (lv_at hl 0 rfl) ?_
    refine tk_geti hC hK hw hT hinX12 kM_at0 (by decide) rfl 2 (by decide) (List.mem_of_getElem? (i := 1) rfl) rfl rfl dX12_rule_13 (fun x4 c5 rx4 tx4 => ?_)
    refine wk_top x1 (c5.symm.trans c2) ?_
    refine tk_puti hC hK hw hT hinX12 tyX12_ok nmX12 kM_at0 (by decide) rfl rfl 17 (by decide) (List.mem_of_getElem? (i := 2) rfl) rfl rfl rfl rfl (show 0 ≤ x1.toInt by omega) (show x1.toInt ≤ 6 by omega) dX12_rule_16 (fun H locs w6 hw hT k8 c7 => ?_)
    have hRW := RW_F1 k8 (by decide) (by decide) (by decide) hRW
    have hF := hF.put kM_at0 (k := 17) (by decide) k8
    have c9 := k8.gi (Or.inr (by decide)) c2
    refine lv_aload_n hx hb dX12_rule_19 rfl (lv_at hl 0 rfl) ?_
    refine tk_getA hC hK hw hT hinX12 kM_at0 (by decide) rfl 6 (by decide) (List.mem_of_getElem? (i := 3) rfl) rfl rfl dX12_rule_20 ?_
    refine lv_aload_n hx hb dX12_rule_23 rfl (lv_at hl 0 rfl) ?_
    refine tk_geti hC hK hw hT hinX12 kM_at0 (by decide) rfl 17 (by decide) (List.mem_of_getElem? (i := 2) rfl) rfl rfl dX12_rule_24 (fun x10 c11 rx10 tx10 => ?_)
    refine wk_top x1 (c11.symm.trans c7) ?_
    refine lv_iconst (v := 0) hx hb dX12_rule_27 (by decide) ?_
    refine tk_iast hC hK hw hT kM_at5 (by decide) rfl rfl (show 0 ≤ x1.toInt by omega) (show x1.toInt < 6 by omega) (by decide) (by decide) dX12_rule_28 (fun H locs w12 hw hT k14 c13 => ?_)
    have hRW := RL_new (t := x1.toInt) hRW (by omega) (by omega) k14 (by rw [show gi w12 5 (x1.toInt).toNat = 0 from c13]; decide)
    have hF := hF.put kM_at5 (inE_of (a := 0) (b := 6) (by decide) (show 0 ≤ x1.toInt.toNat by omega) (show x1.toInt.toNat ≤ 6 by omega)) k14
    have c15 := k14.gi (Or.inl (tk_ne kM_at0 kM_at5 (by decide))) c9
    have c16 := k14.gi (Or.inl (tk_ne kM_at0 kM_at5 (by decide))) c7
    have c13 : gi w12 5 (x1.toInt).toNat = 0 := (congrArg (gi w12 5) (congrArg Int.toNat (show x1.toInt = x1.toInt by omega))).trans c13
    refine lv_aload_n hx hb dX12_rule_29 rfl (lv_at hl 0 rfl) ?_
    obtain ⟨x17, c18, rx17, tx17⟩ := hT.rda (lo := 0) (hi := 400) (i := (x1.toInt).toNat) kM_at3 rfl rfl (by omega)
    obtain ⟨x19, c20, rx19, tx19⟩ := hT.rdi (lo := 0) (hi := 60) (k := 18) kM_at0 (by decide) rfl
    obtain ⟨x21, c22, rx21, tx21⟩ := hT.rdi (lo := 0) (hi := 32) (k := 20) kM_at0 (by decide) rfl
    refine tk_Vi hC hK hw hT hA hE hSR kM_at0 (by decide) rfl (k_X12_readsAll_2 l adK adV dC dI cy ad B (by omega) (by omega) qr s1    w12 H.size hT x1 c16 (show 0 ≤ x1.toInt by omega) (show x1.toInt ≤ 5 by omega) x19 c20 (show 0 ≤ x19.toInt by omega) (show x19.toInt ≤ 60 by omega) x21 c22 (show 0 ≤ x21.toInt by omega) (show x21.toInt ≤ 32 by omega) x17 c18 (show 0 ≤ x17.toInt by omega) (show x17.toInt ≤ 400 by omega) 0 c13 (by decide) (by decide) (show (0 : Int) ≤ 0 by omega) hRW) (cwV 0 hC.2.2.2.2 gX12_rule_X12_readsAll rfl rfl rfl (by decide +kernel) ⟨Nat.le_of_ble_eq_true rfl, Nat.le_of_ble_eq_true rfl⟩) rfl hl.1 rfl (Nat.le_of_ble_eq_true rfl) dX12_rule_30 (fun r23 w25 H locs hp24 hw => ?_)
    obtain ⟨hT, k26, hg45⟩ := hp24
    have hF := hF.tr k26 (by decide)
    have c46 := k26.gi kM_at0 (by decide) c15
    have c47 := k26.gi kM_at0 (by decide) c16
    rcases hg45 with ⟨rfl, ⟨x27, c28, rx27, tx27⟩, ⟨x29, c30, rx29, tx29⟩, ⟨x31, c32, rx31, tx31⟩, ⟨x33, c34, rx33, tx33⟩, hq35⟩ | ⟨rfl, ⟨x36, c37, rx36, tx36⟩, ⟨x38, c39, rx38, tx38⟩, ⟨x40, c41, rx40, tx40⟩, ⟨x42, c43, rx42, tx42⟩, hq44⟩
    · have ex31 : x31.toInt = x1.toInt := by rw [← c47.symm.trans c32]
      obtain ⟨x48, c49, rx48, tx48⟩ := hT.rda (lo := 0) (hi := 400) (i := (x1.toInt).toNat) kM_at3 rfl rfl (by omega)
      obtain ⟨x50, c51, rx50, tx50⟩ := hT.rdi (lo := 0) (hi := 60) (k := 18) kM_at0 (by decide) rfl
      obtain ⟨x52, c53, rx52, tx52⟩ := hT.rda (lo := 0) (hi := 12) (i := (x1.toInt).toNat) kM_at5 rfl rfl (by omega)
      have hRW := hq35
      refine lv_if_ne (tgt := 44) hx hb dX12_rule_33 (by decide) (fun c => absurd (by decide) c) (fun _ => ?_)
      refine lv_bipush (v := (-2)) hx hb dX12_rule_36 (by decide) ?_
      refine lv_aload_n hx hb dX12_rule_38 rfl (lv_at hl 0 rfl) ?_
      refine tk_geti hC hK hw hT hinX12 kM_at0 (by decide) rfl 15 (by decide) (List.mem_of_getElem? (i := 4) rfl) rfl rfl dX12_rule_39 (fun x60 c61 rx60 tx60 => ?_)
      refine wk_top x29 (c61.symm.trans c30) ?_
      refine lv_isub hx hb dX12_rule_42 ?_
      refine lv_topi (fun x62 ex62 => ?_)
      have ex62 : x62.toInt = (-2 : Int) - x29.toInt := by rw [ex62]; exact wk_sub (show (-2147483648) ≤ (-2 : Int) - x29.toInt by omega) (show (-2 : Int) - x29.toInt ≤ 2147483647 by omega)
      exact tk_iret hC hr hlocks hK ⟨hT, hF, (Or.inl ⟨(show (-3207) ≤ x62.toInt by omega), (show x62.toInt ≤ (-3) by omega), ⟨x27, c28, (show 0 ≤ x27.toInt by omega), (show x27.toInt ≤ 0 by omega)⟩, ⟨x1, c46, (show 0 ≤ x1.toInt by omega), (show x1.toInt ≤ 5 by omega)⟩, ⟨x29, c30, (show 1 ≤ x29.toInt by omega), (show x29.toInt ≤ 3205 by omega)⟩, ⟨x1, c47, (show 0 ≤ x1.toInt by omega), (show x1.toInt ≤ 5 by omega)⟩, ⟨x33, c34, (show 0 ≤ x33.toInt by omega), (show x33.toInt ≤ 12 by omega)⟩, hRW⟩)⟩ hw dX12_rule_43
    · have ex40 : x40.toInt = x1.toInt := by rw [← c47.symm.trans c41]
      obtain ⟨x54, c55, rx54, tx54⟩ := hT.rda (lo := 0) (hi := 400) (i := (x1.toInt).toNat) kM_at3 rfl rfl (by omega)
      obtain ⟨x56, c57, rx56, tx56⟩ := hT.rdi (lo := 0) (hi := 60) (k := 18) kM_at0 (by decide) rfl
      obtain ⟨x58, c59, rx58, tx58⟩ := hT.rda (lo := 0) (hi := 12) (i := (x1.toInt).toNat) kM_at5 rfl rfl (by omega)
      have hRW := hq44
      refine lv_if_ne (tgt := 44) hx hb dX12_rule_33 (by decide) (fun _ => ?_) (fun c => absurd c (by decide))
      refine lv_aload_n hx hb dX12_rule_44 rfl (lv_at hl 0 rfl) ?_
      refine lv_dup hx hb dX12_rule_45 rfl ?_
      refine tk_geti hC hK hw hT hinX12 kM_at0 (by decide) rfl 2 (by decide) (List.mem_of_getElem? (i := 1) rfl) rfl rfl dX12_rule_46 (fun x63 c64 rx63 tx63 => ?_)
      refine wk_top x1 (c64.symm.trans c46) ?_
      refine lv_iconst (v := 1) hx hb dX12_rule_49 (by decide) ?_
      refine lv_iadd hx hb dX12_rule_50 ?_
      refine lv_topi (fun x65 ex65 => ?_)
      have ex65 : x65.toInt = x1.toInt + (1 : Int) := by rw [ex65]; exact wk_add (show (-2147483648) ≤ x1.toInt + (1 : Int) by omega) (show x1.toInt + (1 : Int) ≤ 2147483647 by omega)
      refine tk_puti hC hK hw hT hinX12 tyX12_ok nmX12 kM_at0 (by decide) rfl rfl 2 (by decide) (List.mem_of_getElem? (i := 1) rfl) rfl rfl rfl rfl (show 0 ≤ x65.toInt by omega) (show x65.toInt ≤ 6 by omega) dX12_rule_51 (fun H locs w66 hw hT k68 c67 => ?_)
      have hRW := RW_F1 k68 (by decide) (by decide) (by decide) hRW
      have hF := hF.put kM_at0 (k := 2) (by decide) k68
      have c69 := k68.gi (Or.inr (by decide)) c47
      have c70 := k68.gi (Or.inr (by decide)) c37
      have c71 := k68.gi (Or.inr (by decide)) c39
      have c72 := k68.gi (Or.inr (by decide)) c43
      have c73 := k68.gi (Or.inl (tk_ne kM_at3 kM_at0 (by decide))) c55
      have c74 := k68.gi (Or.inr (by decide)) c57
      have c75 := k68.gi (Or.inl (tk_ne kM_at5 kM_at0 (by decide))) c59
      refine lv_aload_n hx hb dX12_rule_54 rfl (lv_at hl 0 rfl) ?_
      refine tk_geti hC hK hw hT hinX12 kM_at0 (by decide) rfl 2 (by decide) (List.mem_of_getElem? (i := 1) rfl) rfl rfl dX12_rule_55 (fun x76 c77 rx76 tx76 => ?_)
      refine wk_top x65 (c77.symm.trans c67) ?_
      refine lv_iconst (v := 1) hx hb dX12_rule_58 (by decide) ?_
      refine lv_isub hx hb dX12_rule_59 ?_
      refine lv_topi (fun x78 ex78 => ?_)
      have ex78 : x78.toInt = x65.toInt - (1 : Int) := by rw [ex78]; exact wk_sub (show (-2147483648) ≤ x65.toInt - (1 : Int) by omega) (show x65.toInt - (1 : Int) ≤ 2147483647 by omega)
      exact tk_iret hC hr hlocks hK ⟨hT, hF, (Or.inr (Or.inl ⟨(show 0 ≤ x78.toInt by omega), (show x78.toInt ≤ 5 by omega), ⟨x36, c70, (show 0 ≤ x36.toInt by omega), (show x36.toInt ≤ 0 by omega)⟩, ⟨x65, c67, (show 1 ≤ x65.toInt by omega), (show x65.toInt ≤ 6 by omega)⟩, ⟨x38, c71, (show 0 ≤ x38.toInt by omega), (show x38.toInt ≤ 0 by omega)⟩, ⟨x1, c69, (show 0 ≤ x1.toInt by omega), (show x1.toInt ≤ 5 by omega)⟩, ⟨x42, c72, (show 0 ≤ x42.toInt by omega), (show x42.toInt ≤ 12 by omega)⟩, hRW⟩))⟩ hw dX12_rule_60
  · have c3 : x1.toInt = (6 : Int) := wk_eq.mp c3
    refine lv_iconst (v := (-1)) hx hb dX12_rule_9 (by decide) ?_
    exact tk_iret hC hr hlocks hK ⟨hT, hF, (Or.inr (Or.inr ⟨rfl, ⟨x1, c2, (show 6 ≤ x1.toInt by omega), (show x1.toInt ≤ 6 by omega)⟩, hRW⟩))⟩ hw dX12_rule_10
