abbrev P_X12_isLifted_2 (ad : Nat → Nat) (cy : Nat → ClassId) (B : Int) (qr : Nat) (s1 : Int) (a1 : Int32) (a2 : Int32) (w0 : va_W) : Int32 → va_W → Prop := fun r u => w0 = u ∧ ((r = 0) ∨ (r = 1 ∧ (∃ y : Int32, gi u 12 3 = y ∧ 1 ≤ y.toInt ∧ y.toInt ≤ 4)))
set_option maxHeartbeats 4000000 in
set_option maxRecDepth 100000 in
theorem k_X12_isLifted_2 (l : Launch) (adK adV : Nat → Nat) (dC : Nat → ClassId) (dI : Nat → Nat → Nat) (cy : Nat → ClassId) (ad : Nat → Nat) (B : Int) (hB0 : 100000 ≤ B) (hB1 : B ≤ 1073741824) (qr : Nat) (s1 : Int)  (a1 : Int32) (ra1 : 0 ≤ a1.toInt) (ta1 : a1.toInt ≤ 11) (a2 : Int32) (ra2 : 0 ≤ a2.toInt) (ta2 : a2.toInt ≤ 101999) (w0 : va_W) (sz : Nat) (hT : TW ksM ad cy B qr 12 w0)  : Met l yX12_isLifted wsX12_isLifted ({ frames := 1, cells := 0, slots := 0, locals := 12 }) (va_Pc [.ref (ad 0), .int a1, .int a2] (wpreS adK adV dC dI cy sz w0)) (va_Qi (P_X12_isLifted_2 ad cy B qr s1 a1 a2 w0) (fun u : va_W => wpost dC dI cy (va_A w0 sz) u) (va_A w0 sz)) 0 0 (va_A w0 sz) := by
  refine Met.ofW (cc := cX12_isLifted) (maxL := 5) (ret := (some .boolean)) (by decide) rfl ?_
  intro p e s m args below meth c s₁ Bk hml hv
  obtain ⟨rfl, ⟨hsz, hP, hK, hD0⟩, hE, hSR⟩ := hv
  have hx := Bk.exec
  have hb := Bk.bytes
  have hr := Bk.returns
  have hlocks := Bk.notSynchronized
  have hC : CallFix p m c cX12_isLifted 5 s _ wsX12_isLifted RX12 := ⟨hx, hb, hml, findClass_of_methodNamed Bk.named, atoms_spec (ws := wsX12_isLifted) Bk.pre⟩
  subst hsz
  have hD := hD0.self (sz := s.heap.size)
  generalize hAe : va_A w0 s.heap.size = A at hD hE ⊢
  have hA : ∀ q : Nat, s.heap.size ≤ q → A q := fun q h => by rw [← hAe]; exact Or.inr h
  have hw : Wd dC dI A s.heap s.heap [] w0 := ⟨hP, hD, va_S.rf⟩
  have hF : FE ksM ([] : List (Nat × Nat × Nat)) w0 w0 := FE.rf
  have hl := lv_entry ([.ref (ad 0), .int a1, .int a2]) (n := 5) (Nat.le_of_ble_eq_true rfl)
  rw [lg_entry_eq]
  generalize (lg_sl ([.ref (ad 0), .int a1, .int a2]) ++ List.replicate (5 - (lg_sl ([.ref (ad 0), .int a1, .int a2])).length) Slot.unset).toArray = ls at hl ⊢
  have hl : lv_has ls 5 [(0, .ref (ad 0)), (1, .int a1), (2, .int a2)] := hl
  generalize hloc : ([] : List Loc) = locs at hw ⊢
  have hinX12 : ∀ w ∈ u_ws RX12 TX12 42, w ∈ wsX12_isLifted := fun _ h => List.mem_cons_of_mem _ (List.mem_append_right _ (h))
  have L2 : ∀ (n2 : Nat) (v2_3 : Int32) (H : Heap) (locs : List Loc) (ls : Array Slot), 0 ≤ a1.toInt → a1.toInt ≤ 11 → 0 ≤ a2.toInt → a2.toInt ≤ 101999 → 0 ≤ v2_3.toInt → v2_3.toInt ≤ 4 → (4 - v2_3.toInt).toNat < n2 → Wd dC dI A s.heap H locs w0 → lv_has ls 5 [(0, .ref (ad 0)), (1, .int a1), (2, .int a2), (3, .int v2_3)] → W p l e ({ frames := 1, cells := 0, slots := 0, locals := 12 }) s m (List.toArray [.ref (ad 0), .int a1, .int a2]) below meth c H locs 0 0 (MQ below (va_Qi (P_X12_isLifted_2 ad cy B qr s1 a1 a2 w0) (fun u : va_W => wpost dC dI cy A u) A) (List.toArray [.ref (ad 0), .int a1, .int a2]) s 0 0 A) (F0 m 2 ls []) := by
    intro n2
    induction n2 with
    | zero => intro v2_3 H locs ls r1 t2 r3 t4 r5 t6 hm2 hw hl; omega
    | succ n2 ih2 =>
      intro v2_3 H locs ls r1 t2 r3 t4 r5 t6 hm2 hw hl
      have J66 : ∀ (v66_4 : Int32) (f66_12__3_v2_3_toInt_156_toNat : Int32) (f66_12_3 : Int32) (H : Heap) (locs : List Loc) (ls : Array Slot), 0 ≤ a1.toInt → a1.toInt ≤ 11 → 0 ≤ a2.toInt → a2.toInt ≤ 101999 → 0 ≤ v2_3.toInt → v2_3.toInt ≤ 3 → 156 ≤ v66_4.toInt → v66_4.toInt ≤ 165 → v66_4.toInt = 3 * v2_3.toInt + 156 → 1 ≤ f66_12_3.toInt → f66_12_3.toInt ≤ 4 → Wd dC dI A s.heap H locs w0 → gi w0 12 (3 * v2_3.toInt + 156).toNat = f66_12__3_v2_3_toInt_156_toNat → gi w0 12 3 = f66_12_3 → lv_has ls 5 [(0, .ref (ad 0)), (1, .int a1), (2, .int a2), (3, .int v2_3), (4, .int v66_4)] → W p l e ({ frames := 1, cells := 0, slots := 0, locals := 12 }) s m (List.toArray [.ref (ad 0), .int a1, .int a2]) below meth c H locs 0 0 (MQ below (va_Qi (P_X12_isLifted_2 ad cy B qr s1 a1 a2 w0) (fun u : va_W => wpost dC dI cy A u) A) (List.toArray [.ref (ad 0), .int a1, .int a2]) s 0 0 A) (F0 m 66 ls []) := by
        intro v66_4 f66_12__3_v2_3_toInt_156_toNat f66_12_3 H locs ls r7 t8 r9 t10 r11 t12 r13 t14 l15 r17 t18 hw c16 c19 hl
        obtain ⟨x20, ex20⟩ : ∃ y : Int32, y = v2_3 + Int32.ofInt 1 := ⟨_, rfl⟩
        refine lv_iinc (v := x20) (lv' := [(3, .int x20), (0, .ref (ad 0)), (1, .int a1), (2, .int a2), (4, .int v66_4)]) hx hb dX12_isLifted_66 hl (k := 3) rfl ex20.symm (by decide) rfl (fun ls hl => ?_)
        have ex20 : x20.toInt = v2_3.toInt + 1 := by rw [ex20]; exact wk_add (y := 1) (show -2147483648 ≤ v2_3.toInt + 1 by omega) (show v2_3.toInt + 1 ≤ 2147483647 by omega)
        refine lv_goto (tgt := 2) hx hb dX12_isLifted_69 (by decide) ?_
        exact ih2 x20 H locs ls  (show 0 ≤ a1.toInt by omega) (show a1.toInt ≤ 11 by omega) (show 0 ≤ a2.toInt by omega) (show a2.toInt ≤ 101999 by omega) (show 0 ≤ x20.toInt by omega) (show x20.toInt ≤ 4 by omega) (show (4 - x20.toInt).toNat < n2 by omega) hw   (lv_sub hl [1, 2, 3, 0] rfl)
      refine lv_iload_n hx hb dX12_isLifted_2 rfl (lv_at hl 3 rfl) ?_
      refine lv_aload_n hx hb dX12_isLifted_3 rfl (lv_at hl 0 rfl) ?_
      refine tk_getA hC hK hw hT hinX12 kM_at0 (by decide) rfl 26 (by decide) (List.mem_of_getElem? (i := 1) rfl) rfl rfl dX12_isLifted_4 ?_
      refine lv_iconst (v := 3) hx hb dX12_isLifted_7 (by decide) ?_
      refine tk_ialdR hC hK hw hT kM_at12 rfl (by decide) (by decide) dX12_isLifted_8 (fun x21 c22 Ex21 => ?_)
      have bx21 := tk_rgI rfl 3 1 1 0 4 (by decide +kernel) ⟨0, by decide, by decide⟩ Ex21
      have c22 : gi w0 12 3 = x21 := c22
      refine lv_icmp_ge (tgt := 72) hx hb dX12_isLifted_9 (by decide) (fun c23 => ?_) (fun c23 => ?_)
      · have c23 : x21.toInt ≤ v2_3.toInt := wk_le.mp c23
        refine lv_iconst (v := 0) hx hb dX12_isLifted_72 (by decide) ?_
        exact tk_zret hC hr rfl hlocks hK ⟨rfl, (Or.inl rfl)⟩ hw dX12_isLifted_73
      · have c23 : v2_3.toInt < x21.toInt := wk_leF c23
        refine lv_sipush (v := 156) hx hb dX12_isLifted_12 (by decide) ?_
        refine lv_iconst (v := 3) hx hb dX12_isLifted_15 (by decide) ?_
        refine lv_iload_n hx hb dX12_isLifted_16 rfl (lv_at hl 3 rfl) ?_
        refine lv_imul hx hb dX12_isLifted_17 ?_
        refine lv_topi (fun x24 ex24 => ?_)
        have ex24 : x24.toInt = (3 : Int) * v2_3.toInt := by rw [ex24]; exact wk_mul (show (-2147483648) ≤ (3 : Int) * v2_3.toInt by omega) (show (3 : Int) * v2_3.toInt ≤ 2147483647 by omega)
        refine lv_iadd hx hb dX12_isLifted_18 ?_
        refine lv_topi (fun x25 ex25 => ?_)
        have ex25 : x25.toInt = (156 : Int) + x24.toInt := by rw [ex25]; exact wk_add (show (-2147483648) ≤ (156 : Int) + x24.toInt by omega) (show (156 : Int) + x24.toInt ≤ 2147483647 by omega)
        refine lv_istore (lv' := [(4, .int x25), (0, .ref (ad 0)), (1, .int a1), (2, .int a2), (3, .int v2_3)]) hx hb dX12_isLifted_19 hl (by decide) rfl (fun ls hl => ?_)
        refine lv_aload_n hx hb dX12_isLifted_21 rfl (lv_at hl 1 rfl) ?_
        refine tk_getA hC hK hw hT hinX12 kM_at0 (by decide) rfl 26 (by decide) (List.mem_of_getElem? (i := 1) rfl) rfl rfl dX12_isLifted_22 ?_
        refine lv_iload hx hb dX12_isLifted_25 (lv_at hl 0 rfl) ?_
        refine tk_ialdR hC hK hw hT kM_at12 rfl (show 0 ≤ x25.toInt by omega) (show x25.toInt < 296 by omega) dX12_isLifted_27 (fun x26 c27 Ex26 => ?_)
        have c27 : gi w0 12 (3 * v2_3.toInt + 156).toNat = x26 := (congrArg (gi w0 12) (congrArg Int.toNat (show 3 * v2_3.toInt + 156 = x25.toInt by omega))).trans c27
        refine lv_iload_n hx hb dX12_isLifted_28 rfl (lv_at hl 2 rfl) ?_
        refine lv_icmp_ne (tgt := 66) hx hb dX12_isLifted_29 (by decide) (fun c28 => ?_) (fun c28 => ?_)
        · have c28 : ¬ x26.toInt = a1.toInt := wk_eqF c28
          exact J66 x25 x26 x21 H locs ls  (show 0 ≤ a1.toInt by omega) (show a1.toInt ≤ 11 by omega) (show 0 ≤ a2.toInt by omega) (show a2.toInt ≤ 101999 by omega) (show 0 ≤ v2_3.toInt by omega) (show v2_3.toInt ≤ 3 by omega) (show 156 ≤ x25.toInt by omega) (show x25.toInt ≤ 165 by omega) (show x25.toInt = 3 * v2_3.toInt + 156 by omega) (show 1 ≤ x21.toInt by omega) (show x21.toInt ≤ 4 by omega)  hw  c27 c22 (lv_sub hl [1, 2, 3, 4, 0] rfl)
        · have c28 : x26.toInt = a1.toInt := wk_eq.mp c28
          refine lv_iload_n hx hb dX12_isLifted_32 rfl (lv_at hl 3 rfl) ?_
          refine lv_bipush (v := 24) hx hb dX12_isLifted_33 (by decide) ?_
          refine lv_irem hx hb dX12_isLifted_35 (by decide) ?_
          refine lv_topi (fun x29 ex29 => ?_)
          have ex29 : x29.toInt = a2.toInt % (24 : Int) := by rw [ex29]; exact wk_rem (show 0 ≤ a2.toInt by omega) (show 0 < (24 : Int) by decide)
          refine lv_aload_n hx hb dX12_isLifted_36 rfl (lv_at hl 1 rfl) ?_
          refine tk_getA hC hK hw hT hinX12 kM_at0 (by decide) rfl 26 (by decide) (List.mem_of_getElem? (i := 1) rfl) rfl rfl dX12_isLifted_37 ?_
          refine lv_iload hx hb dX12_isLifted_40 (lv_at hl 0 rfl) ?_
          refine lv_iconst (v := 1) hx hb dX12_isLifted_42 (by decide) ?_
          refine lv_iadd hx hb dX12_isLifted_43 ?_
          refine lv_topi (fun x30 ex30 => ?_)
          have ex30 : x30.toInt = x25.toInt + (1 : Int) := by rw [ex30]; exact wk_add (show (-2147483648) ≤ x25.toInt + (1 : Int) by omega) (show x25.toInt + (1 : Int) ≤ 2147483647 by omega)
          refine tk_ialdR hC hK hw hT kM_at12 rfl (show 0 ≤ x30.toInt by omega) (show x30.toInt < 296 by omega) dX12_isLifted_44 (fun x31 c32 Ex31 => ?_)
          have c32 : gi w0 12 (3 * v2_3.toInt + 157).toNat = x31 := (congrArg (gi w0 12) (congrArg Int.toNat (show 3 * v2_3.toInt + 157 = x30.toInt by omega))).trans c32
          refine lv_icmp_lt (tgt := 66) hx hb dX12_isLifted_45 (by decide) (fun c33 => ?_) (fun c33 => ?_)
          · have c33 : x29.toInt < x31.toInt := wk_lt.mp c33
            exact J66 x25 x26 x21 H locs ls  (show 0 ≤ a1.toInt by omega) (show a1.toInt ≤ 11 by omega) (show 0 ≤ a2.toInt by omega) (show a2.toInt ≤ 101999 by omega) (show 0 ≤ v2_3.toInt by omega) (show v2_3.toInt ≤ 3 by omega) (show 156 ≤ x25.toInt by omega) (show x25.toInt ≤ 165 by omega) (show x25.toInt = 3 * v2_3.toInt + 156 by omega) (show 1 ≤ x21.toInt by omega) (show x21.toInt ≤ 4 by omega)  hw  c27 c22 (lv_sub hl [1, 2, 3, 4, 0] rfl)
          · have c33 : x31.toInt ≤ x29.toInt := wk_ltF c33
            refine lv_iload_n hx hb dX12_isLifted_48 rfl (lv_at hl 3 rfl) ?_
            refine lv_bipush (v := 24) hx hb dX12_isLifted_49 (by decide) ?_
            refine lv_irem hx hb dX12_isLifted_51 (by decide) ?_
            refine lv_topi (fun x34 ex34 => ?_)
            have ex34 : x34.toInt = a2.toInt % (24 : Int) := by rw [ex34]; exact wk_rem (show 0 ≤ a2.toInt by omega) (show 0 < (24 : Int) by decide)
            refine lv_aload_n hx hb dX12_isLifted_52 rfl (lv_at hl 1 rfl) ?_
            refine tk_getA hC hK hw hT hinX12 kM_at0 (by decide) rfl 26 (by decide) (List.mem_of_getElem? (i := 1) rfl) rfl rfl dX12_isLifted_53 ?_
            refine lv_iload hx hb dX12_isLifted_56 (lv_at hl 0 rfl) ?_
            refine lv_iconst (v := 2) hx hb dX12_isLifted_58 (by decide) ?_
            refine lv_iadd hx hb dX12_isLifted_59 ?_
            refine lv_topi (fun x35 ex35 => ?_)
            have ex35 : x35.toInt = x25.toInt + (2 : Int) := by rw [ex35]; exact wk_add (show (-2147483648) ≤ x25.toInt + (2 : Int) by omega) (show x25.toInt + (2 : Int) ≤ 2147483647 by omega)
            refine tk_ialdR hC hK hw hT kM_at12 rfl (show 0 ≤ x35.toInt by omega) (show x35.toInt < 296 by omega) dX12_isLifted_60 (fun x36 c37 Ex36 => ?_)
            have c37 : gi w0 12 (3 * v2_3.toInt + 158).toNat = x36 := (congrArg (gi w0 12) (congrArg Int.toNat (show 3 * v2_3.toInt + 158 = x35.toInt by omega))).trans c37
            refine lv_icmp_ge (tgt := 66) hx hb dX12_isLifted_61 (by decide) (fun c38 => ?_) (fun c38 => ?_)
            · have c38 : x36.toInt ≤ x34.toInt := wk_le.mp c38
              exact J66 x25 x26 x21 H locs ls  (show 0 ≤ a1.toInt by omega) (show a1.toInt ≤ 11 by omega) (show 0 ≤ a2.toInt by omega) (show a2.toInt ≤ 101999 by omega) (show 0 ≤ v2_3.toInt by omega) (show v2_3.toInt ≤ 3 by omega) (show 156 ≤ x25.toInt by omega) (show x25.toInt ≤ 165 by omega) (show x25.toInt = 3 * v2_3.toInt + 156 by omega) (show 1 ≤ x21.toInt by omega) (show x21.toInt ≤ 4 by omega)  hw  c27 c22 (lv_sub hl [1, 2, 3, 4, 0] rfl)
            · have c38 : x34.toInt < x36.toInt := wk_leF c38
              refine lv_iconst (v := 1) hx hb dX12_isLifted_64 (by decide) ?_
              exact tk_zret hC hr rfl hlocks hK ⟨rfl, (Or.inr ⟨rfl, ⟨x21, c22, (show 1 ≤ x21.toInt by omega), (show x21.toInt ≤ 4 by omega)⟩⟩)⟩ hw dX12_isLifted_65
  refine lv_iconst (v := 0) hx hb dX12_isLifted_0 (by decide) ?_
  refine lv_istore_n (lv' := [(3, .int 0), (0, .ref (ad 0)), (1, .int a1), (2, .int a2)]) hx hb dX12_isLifted_1 rfl hl (by decide) rfl (fun ls hl => ?_)
  exact L2 ((4 - (0 : Int)).toNat + 1) 0 s.heap locs ls  (show 0 ≤ a1.toInt by omega) (show a1.toInt ≤ 11 by omega) (show 0 ≤ a2.toInt by omega) (show a2.toInt ≤ 101999 by omega) (by decide) (by decide) (Nat.lt_succ_self _) hw   (lv_sub hl [1, 2, 3, 0] rfl)
abbrev P_X12_firstOpen_1 (ad : Nat → Nat) (cy : Nat → ClassId) (B : Int) (qr : Nat) (s1 : Int) (a1 : Int32) (a2 : Int32) (a3 : Int32) (a4 : Int32) (w0 : va_W) : Int32 → va_W → Prop := fun r u => w0 = u ∧ ((0 ≤ r.toInt ∧ r.toInt ≤ 100000000) ∨ (0 ≤ r.toInt ∧ r.toInt ≤ 101999 ∧ gi u 12 (10 * a1.toInt + 10).toNat = a2))
set_option maxHeartbeats 4000000 in
set_option maxRecDepth 100000 in
theorem k_X12_firstOpen_1 (l : Launch) (adK adV : Nat → Nat) (dC : Nat → ClassId) (dI : Nat → Nat → Nat) (cy : Nat → ClassId) (ad : Nat → Nat) (B : Int) (hB0 : 100000 ≤ B) (hB1 : B ≤ 1073741824) (qr : Nat) (s1 : Int)  (a1 : Int32) (ra1 : 0 ≤ a1.toInt) (ta1 : a1.toInt ≤ 11) (a2 : Int32) (ra2 : 0 ≤ a2.toInt) (ta2 : a2.toInt ≤ 9) (a3 : Int32) (ra3 : 0 ≤ a3.toInt) (ta3 : a3.toInt ≤ 100000100) (a4 : Int32) (ra4 : 2000 ≤ a4.toInt) (ta4 : a4.toInt ≤ 101999) (w0 : va_W) (sz : Nat) (hT : TW ksM ad cy B qr 12 w0)  : Met l yX12_firstOpen wsX12_firstOpen ({ frames := 4, cells := 0, slots := 0, locals := 80 }) (va_Pc [.ref (ad 0), .int a1, .int a2, .int a3, .int a4] (wpreS adK adV dC dI cy sz w0)) (va_Qi (P_X12_firstOpen_1 ad cy B qr s1 a1 a2 a3 a4 w0) (fun u : va_W => wpost dC dI cy (va_A w0 sz) u) (va_A w0 sz)) 0 0 (va_A w0 sz) := by
  refine Met.ofW (cc := cX12_firstOpen) (maxL := 6) (ret := (some .int)) (by decide) rfl ?_
  intro p e s m args below meth c s₁ Bk hml hv
  obtain ⟨rfl, ⟨hsz, hP, hK, hD0⟩, hE, hSR⟩ := hv
  have hx := Bk.exec
  have hb := Bk.bytes
  have hr := Bk.returns
  have hlocks := Bk.notSynchronized
  have hC : CallFix p m c cX12_firstOpen 6 s _ wsX12_firstOpen RX12 := ⟨hx, hb, hml, findClass_of_methodNamed Bk.named, atoms_spec (ws := wsX12_firstOpen) Bk.pre⟩
  subst hsz
  have hD := hD0.self (sz := s.heap.size)
  generalize hAe : va_A w0 s.heap.size = A at hD hE ⊢
  have hA : ∀ q : Nat, s.heap.size ≤ q → A q := fun q h => by rw [← hAe]; exact Or.inr h
  have hw : Wd dC dI A s.heap s.heap [] w0 := ⟨hP, hD, va_S.rf⟩
  have hF : FE ksM ([] : List (Nat × Nat × Nat)) w0 w0 := FE.rf
  have hl := lv_entry ([.ref (ad 0), .int a1, .int a2, .int a3, .int a4]) (n := 6) (Nat.le_of_ble_eq_true rfl)
  rw [lg_entry_eq]
  generalize (lg_sl ([.ref (ad 0), .int a1, .int a2, .int a3, .int a4]) ++ List.replicate (6 - (lg_sl ([.ref (ad 0), .int a1, .int a2, .int a3, .int a4])).length) Slot.unset).toArray = ls at hl ⊢
  have hl : lv_has ls 6 [(0, .ref (ad 0)), (1, .int a1), (2, .int a2), (3, .int a3), (4, .int a4)] := hl
  generalize hloc : ([] : List Loc) = locs at hw ⊢
  have L3 : ∀ (n3 : Nat) (v3_5 : Int32) (H : Heap) (locs : List Loc) (ls : Array Slot), 0 ≤ a1.toInt → a1.toInt ≤ 11 → 0 ≤ a2.toInt → a2.toInt ≤ 9 → 0 ≤ a3.toInt → a3.toInt ≤ 100000100 → 2000 ≤ a4.toInt → a4.toInt ≤ 101999 → 0 ≤ v3_5.toInt → v3_5.toInt ≤ 100000100 → (100000100 - v3_5.toInt).toNat < n3 → Wd dC dI A s.heap H locs w0 → lv_has ls 6 [(0, .ref (ad 0)), (1, .int a1), (2, .int a2), (3, .int a3), (4, .int a4), (5, .int v3_5)] → W p l e ({ frames := 4, cells := 0, slots := 0, locals := 80 }) s m (List.toArray [.ref (ad 0), .int a1, .int a2, .int a3, .int a4]) below meth c H locs 0 0 (MQ below (va_Qi (P_X12_firstOpen_1 ad cy B qr s1 a1 a2 a3 a4 w0) (fun u : va_W => wpost dC dI cy A u) A) (List.toArray [.ref (ad 0), .int a1, .int a2, .int a3, .int a4]) s 0 0 A) (F0 m 3 ls []) := by
    intro n3
    induction n3 with
    | zero => intro v3_5 H locs ls r1 t2 r3 t4 r5 t6 r7 t8 r9 t10 hm3 hw hl; omega
    | succ n3 ih3 =>
      intro v3_5 H locs ls r1 t2 r3 t4 r5 t6 r7 t8 r9 t10 hm3 hw hl
      refine lv_iload hx hb dX12_firstOpen_3 (lv_at hl 5 rfl) ?_
      refine lv_iload hx hb dX12_firstOpen_5 (lv_at hl 4 rfl) ?_
      refine lv_icmp_gt (tgt := 58) hx hb dX12_firstOpen_7 (by decide) (fun c11 => ?_) (fun c11 => ?_)
      · have c11 : a4.toInt < v3_5.toInt := wk_lt.mp c11
        refine lv_ldcw (v := 100000000) hx hb hC.2.2.2.1 (hC.2.2.2.2 _ (List.mem_of_getElem? (i := 1) rfl)) dX12_firstOpen_58 ?_
        exact tk_iret hC hr hlocks hK ⟨rfl, (Or.inl ⟨(by decide), (by decide)⟩)⟩ hw dX12_firstOpen_61
      · have c11 : v3_5.toInt ≤ a4.toInt := wk_ltF c11
        refine lv_aload_n hx hb dX12_firstOpen_10 rfl (lv_at hl 0 rfl) ?_
        refine lv_iload_n hx hb dX12_firstOpen_11 rfl (lv_at hl 1 rfl) ?_
        refine lv_iload_n hx hb dX12_firstOpen_12 rfl (lv_at hl 2 rfl) ?_
        refine lv_iload hx hb dX12_firstOpen_13 (lv_at hl 5 rfl) ?_
        refine lv_bipush (v := 24) hx hb dX12_firstOpen_15 (by decide) ?_
        refine lv_idiv hx hb dX12_firstOpen_17 (by decide) ?_
        refine lv_topi (fun x12 ex12 => ?_)
        have ex12 : x12.toInt = v3_5.toInt / (24 : Int) := by rw [ex12]; exact wk_div (show 0 ≤ v3_5.toInt by omega) (show 0 < (24 : Int) by decide)
        refine tk_Vi hC hK hw hT hA hE hSR kM_at0 (by decide) rfl (k_X12_isDayFor_2 l adK adV dC dI cy ad B (by omega) (by omega) qr s1   a1 (show 0 ≤ a1.toInt by omega) (show a1.toInt ≤ 11 by omega) a2 (show 0 ≤ a2.toInt by omega) (show a2.toInt ≤ 9 by omega) x12 (show 0 ≤ x12.toInt by omega) (show x12.toInt ≤ 4249 by omega) w0 H.size hT ) (cwV 3 hC.2.2.2.2 gX12_firstOpen_X12_isDayFor rfl rfl rfl (by decide +kernel) ⟨Nat.le_of_ble_eq_true rfl, Nat.le_of_ble_eq_true rfl⟩) rfl hl.1 rfl (Nat.le_of_ble_eq_true rfl) dX12_firstOpen_18 (fun r13 w15 H locs hp14 hw => ?_)
        obtain ⟨rfl, hg19⟩ := hp14
        rcases hg19 with rfl | ⟨rfl, c17⟩ | rfl | ⟨rfl, c18⟩
        · refine lv_if_ne (tgt := 39) hx hb dX12_firstOpen_21 (by decide) (fun c => absurd (by decide) c) (fun _ => ?_)
          refine lv_iload hx hb dX12_firstOpen_24 (lv_at hl 5 rfl) ?_
          refine lv_bipush (v := 24) hx hb dX12_firstOpen_26 (by decide) ?_
          refine lv_idiv hx hb dX12_firstOpen_28 (by decide) ?_
          refine lv_topi (fun x20 ex20 => ?_)
          have ex20 : x20.toInt = v3_5.toInt / (24 : Int) := by rw [ex20]; exact wk_div (show 0 ≤ v3_5.toInt by omega) (show 0 < (24 : Int) by decide)
          refine lv_iconst (v := 1) hx hb dX12_firstOpen_29 (by decide) ?_
          refine lv_iadd hx hb dX12_firstOpen_30 ?_
          refine lv_topi (fun x21 ex21 => ?_)
          have ex21 : x21.toInt = x20.toInt + (1 : Int) := by rw [ex21]; exact wk_add (show (-2147483648) ≤ x20.toInt + (1 : Int) by omega) (show x20.toInt + (1 : Int) ≤ 2147483647 by omega)
          refine lv_bipush (v := 24) hx hb dX12_firstOpen_31 (by decide) ?_
          refine lv_imul hx hb dX12_firstOpen_33 ?_
          refine lv_topi (fun x22 ex22 => ?_)
          have ex22 : x22.toInt = x21.toInt * (24 : Int) := by rw [ex22]; exact wk_mul (show (-2147483648) ≤ x21.toInt * (24 : Int) by omega) (show x21.toInt * (24 : Int) ≤ 2147483647 by omega)
          refine lv_istore (lv' := [(5, .int x22), (0, .ref (ad 0)), (1, .int a1), (2, .int a2), (3, .int a3), (4, .int a4)]) hx hb dX12_firstOpen_34 hl (by decide) rfl (fun ls hl => ?_)
          refine lv_goto (tgt := 3) hx hb dX12_firstOpen_36 (by decide) ?_
          exact ih3 x22 H locs ls  (show 0 ≤ a1.toInt by omega) (show a1.toInt ≤ 11 by omega) (show 0 ≤ a2.toInt by omega) (show a2.toInt ≤ 9 by omega) (show 0 ≤ a3.toInt by omega) (show a3.toInt ≤ 100000100 by omega) (show 2000 ≤ a4.toInt by omega) (show a4.toInt ≤ 101999 by omega) (show 0 ≤ x22.toInt by omega) (show x22.toInt ≤ 100000100 by omega) (show (100000100 - x22.toInt).toNat < n3 by omega) hw   (lv_sub hl [1, 2, 3, 4, 5, 0] rfl)
        · refine lv_if_ne (tgt := 39) hx hb dX12_firstOpen_21 (by decide) (fun c => absurd (by decide) c) (fun _ => ?_)
          refine lv_iload hx hb dX12_firstOpen_24 (lv_at hl 5 rfl) ?_
          refine lv_bipush (v := 24) hx hb dX12_firstOpen_26 (by decide) ?_
          refine lv_idiv hx hb dX12_firstOpen_28 (by decide) ?_
          refine lv_topi (fun x23 ex23 => ?_)
          have ex23 : x23.toInt = v3_5.toInt / (24 : Int) := by rw [ex23]; exact wk_div (show 0 ≤ v3_5.toInt by omega) (show 0 < (24 : Int) by decide)
          refine lv_iconst (v := 1) hx hb dX12_firstOpen_29 (by decide) ?_
          refine lv_iadd hx hb dX12_firstOpen_30 ?_
          refine lv_topi (fun x24 ex24 => ?_)
          have ex24 : x24.toInt = x23.toInt + (1 : Int) := by rw [ex24]; exact wk_add (show (-2147483648) ≤ x23.toInt + (1 : Int) by omega) (show x23.toInt + (1 : Int) ≤ 2147483647 by omega)
          refine lv_bipush (v := 24) hx hb dX12_firstOpen_31 (by decide) ?_
          refine lv_imul hx hb dX12_firstOpen_33 ?_
          refine lv_topi (fun x25 ex25 => ?_)
          have ex25 : x25.toInt = x24.toInt * (24 : Int) := by rw [ex25]; exact wk_mul (show (-2147483648) ≤ x24.toInt * (24 : Int) by omega) (show x24.toInt * (24 : Int) ≤ 2147483647 by omega)
          refine lv_istore (lv' := [(5, .int x25), (0, .ref (ad 0)), (1, .int a1), (2, .int a2), (3, .int a3), (4, .int a4)]) hx hb dX12_firstOpen_34 hl (by decide) rfl (fun ls hl => ?_)
          refine lv_goto (tgt := 3) hx hb dX12_firstOpen_36 (by decide) ?_
          exact ih3 x25 H locs ls  (show 0 ≤ a1.toInt by omega) (show a1.toInt ≤ 11 by omega) (show 0 ≤ a2.toInt by omega) (show a2.toInt ≤ 9 by omega) (show 0 ≤ a3.toInt by omega) (show a3.toInt ≤ 100000100 by omega) (show 2000 ≤ a4.toInt by omega) (show a4.toInt ≤ 101999 by omega) (show 0 ≤ x25.toInt by omega) (show x25.toInt ≤ 100000100 by omega) (show (100000100 - x25.toInt).toNat < n3 by omega) hw   (lv_sub hl [1, 2, 3, 4, 5, 0] rfl)
        · refine lv_if_ne (tgt := 39) hx hb dX12_firstOpen_21 (by decide) (fun _ => ?_) (fun c => absurd c (by decide))
          refine lv_aload_n hx hb dX12_firstOpen_39 rfl (lv_at hl 0 rfl) ?_
          refine lv_iload_n hx hb dX12_firstOpen_40 rfl (lv_at hl 1 rfl) ?_
          refine lv_iload hx hb dX12_firstOpen_41 (lv_at hl 5 rfl) ?_
          refine tk_Vi hC hK hw hT hA hE hSR kM_at0 (by decide) rfl (k_X12_isLifted_2 l adK adV dC dI cy ad B (by omega) (by omega) qr s1   a1 (show 0 ≤ a1.toInt by omega) (show a1.toInt ≤ 11 by omega) v3_5 (show 0 ≤ v3_5.toInt by omega) (show v3_5.toInt ≤ 101999 by omega) w0 H.size hT ) (cwV 2 hC.2.2.2.2 gX12_firstOpen_X12_isLifted rfl rfl rfl (by decide +kernel) ⟨Nat.le_of_ble_eq_true rfl, Nat.le_of_ble_eq_true rfl⟩) rfl hl.1 rfl (Nat.le_of_ble_eq_true rfl) dX12_firstOpen_43 (fun r26 w28 H locs hp27 hw => ?_)
          obtain ⟨rfl, hg32⟩ := hp27
          rcases hg32 with rfl | ⟨rfl, ⟨x30, c31, rx30, tx30⟩⟩
          · refine lv_if_eq (tgt := 55) hx hb dX12_firstOpen_46 (by decide) (fun _ => ?_) (fun c => absurd (by decide) c)
            refine lv_iload hx hb dX12_firstOpen_55 (lv_at hl 5 rfl) ?_
            exact tk_iret hC hr hlocks hK ⟨rfl, (Or.inl ⟨(show 0 ≤ v3_5.toInt by omega), (show v3_5.toInt ≤ 100000000 by omega)⟩)⟩ hw dX12_firstOpen_57
          · refine lv_if_eq (tgt := 55) hx hb dX12_firstOpen_46 (by decide) (fun c => absurd c (by decide)) (fun _ => ?_)
            obtain ⟨x33, ex33⟩ : ∃ y : Int32, y = v3_5 + Int32.ofInt 1 := ⟨_, rfl⟩
            refine lv_iinc (v := x33) (lv' := [(5, .int x33), (0, .ref (ad 0)), (1, .int a1), (2, .int a2), (3, .int a3), (4, .int a4)]) hx hb dX12_firstOpen_49 hl (k := 5) rfl ex33.symm (by decide) rfl (fun ls hl => ?_)
            have ex33 : x33.toInt = v3_5.toInt + 1 := by rw [ex33]; exact wk_add (y := 1) (show -2147483648 ≤ v3_5.toInt + 1 by omega) (show v3_5.toInt + 1 ≤ 2147483647 by omega)
            refine lv_goto (tgt := 3) hx hb dX12_firstOpen_52 (by decide) ?_
            exact ih3 x33 H locs ls  (show 0 ≤ a1.toInt by omega) (show a1.toInt ≤ 11 by omega) (show 0 ≤ a2.toInt by omega) (show a2.toInt ≤ 9 by omega) (show 0 ≤ a3.toInt by omega) (show a3.toInt ≤ 100000100 by omega) (show 2000 ≤ a4.toInt by omega) (show a4.toInt ≤ 101999 by omega) (show 0 ≤ x33.toInt by omega) (show x33.toInt ≤ 100000100 by omega) (show (100000100 - x33.toInt).toNat < n3 by omega) hw   (lv_sub hl [1, 2, 3, 4, 5, 0] rfl)
        · refine lv_if_ne (tgt := 39) hx hb dX12_firstOpen_21 (by decide) (fun _ => ?_) (fun c => absurd c (by decide))
          refine lv_aload_n hx hb dX12_firstOpen_39 rfl (lv_at hl 0 rfl) ?_
          refine lv_iload_n hx hb dX12_firstOpen_40 rfl (lv_at hl 1 rfl) ?_
          refine lv_iload hx hb dX12_firstOpen_41 (lv_at hl 5 rfl) ?_
          refine tk_Vi hC hK hw hT hA hE hSR kM_at0 (by decide) rfl (k_X12_isLifted_2 l adK adV dC dI cy ad B (by omega) (by omega) qr s1   a1 (show 0 ≤ a1.toInt by omega) (show a1.toInt ≤ 11 by omega) v3_5 (show 0 ≤ v3_5.toInt by omega) (show v3_5.toInt ≤ 101999 by omega) w0 H.size hT ) (cwV 2 hC.2.2.2.2 gX12_firstOpen_X12_isLifted rfl rfl rfl (by decide +kernel) ⟨Nat.le_of_ble_eq_true rfl, Nat.le_of_ble_eq_true rfl⟩) rfl hl.1 rfl (Nat.le_of_ble_eq_true rfl) dX12_firstOpen_43 (fun r34 w36 H locs hp35 hw => ?_)
          obtain ⟨rfl, hg40⟩ := hp35
          rcases hg40 with rfl | ⟨rfl, ⟨x38, c39, rx38, tx38⟩⟩
          · refine lv_if_eq (tgt := 55) hx hb dX12_firstOpen_46 (by decide) (fun _ => ?_) (fun c => absurd (by decide) c)
            refine lv_iload hx hb dX12_firstOpen_55 (lv_at hl 5 rfl) ?_
            exact tk_iret hC hr hlocks hK ⟨rfl, (Or.inr ⟨(show 0 ≤ v3_5.toInt by omega), (show v3_5.toInt ≤ 101999 by omega), c18⟩)⟩ hw dX12_firstOpen_57
          · refine lv_if_eq (tgt := 55) hx hb dX12_firstOpen_46 (by decide) (fun c => absurd c (by decide)) (fun _ => ?_)
            obtain ⟨x41, ex41⟩ : ∃ y : Int32, y = v3_5 + Int32.ofInt 1 := ⟨_, rfl⟩
            refine lv_iinc (v := x41) (lv' := [(5, .int x41), (0, .ref (ad 0)), (1, .int a1), (2, .int a2), (3, .int a3), (4, .int a4)]) hx hb dX12_firstOpen_49 hl (k := 5) rfl ex41.symm (by decide) rfl (fun ls hl => ?_)
            have ex41 : x41.toInt = v3_5.toInt + 1 := by rw [ex41]; exact wk_add (y := 1) (show -2147483648 ≤ v3_5.toInt + 1 by omega) (show v3_5.toInt + 1 ≤ 2147483647 by omega)
            refine lv_goto (tgt := 3) hx hb dX12_firstOpen_52 (by decide) ?_
            exact ih3 x41 H locs ls  (show 0 ≤ a1.toInt by omega) (show a1.toInt ≤ 11 by omega) (show 0 ≤ a2.toInt by omega) (show a2.toInt ≤ 9 by omega) (show 0 ≤ a3.toInt by omega) (show a3.toInt ≤ 100000100 by omega) (show 2000 ≤ a4.toInt by omega) (show a4.toInt ≤ 101999 by omega) (show 0 ≤ x41.toInt by omega) (show x41.toInt ≤ 100000100 by omega) (show (100000100 - x41.toInt).toNat < n3 by omega) hw   (lv_sub hl [1, 2, 3, 4, 5, 0] rfl)
  refine lv_iload_n hx hb dX12_firstOpen_0 rfl (lv_at hl 3 rfl) ?_
  refine lv_istore (lv' := [(5, .int a3), (0, .ref (ad 0)), (1, .int a1), (2, .int a2), (3, .int a3), (4, .int a4)]) hx hb dX12_firstOpen_1 hl (by decide) rfl (fun ls hl => ?_)
  exact L3 ((100000100 - a3.toInt).toNat + 1) a3 s.heap locs ls  (show 0 ≤ a1.toInt by omega) (show a1.toInt ≤ 11 by omega) (show 0 ≤ a2.toInt by omega) (show a2.toInt ≤ 9 by omega) (show 0 ≤ a3.toInt by omega) (show a3.toInt ≤ 100000100 by omega) (show 2000 ≤ a4.toInt by omega) (show a4.toInt ≤ 101999 by omega) (show 0 ≤ a3.toInt by omega) (show a3.toInt ≤ 100000100 by omega) (Nat.lt_succ_self _) hw   (lv_sub hl [1, 2, 3, 4, 5, 0] rfl)
abbrev P_X12_reaches_1 (ad : Nat → Nat) (cy : Nat → ClassId) (B : Int) (qr : Nat) (s1 : Int) (a1 : Int32) (a2 : Int32) (a3 : Int32) (a4 : Int32) (w0 : va_W) : Int32 → va_W → Prop := fun r u => TW ksM ad cy B qr 12 u ∧ FE ksM [(77, 0, 10), (78, 0, 10)] w0 u ∧ ((0 ≤ r.toInt ∧ r.toInt ≤ 100000100))
set_option maxHeartbeats 4000000 in
set_option maxRecDepth 100000 in
theorem k_X12_reaches_1 (l : Launch) (adK adV : Nat → Nat) (dC : Nat → ClassId) (dI : Nat → Nat → Nat) (cy : Nat → ClassId) (ad : Nat → Nat) (B : Int) (hB0 : 100000 ≤ B) (hB1 : B ≤ 1073741824) (qr : Nat) (s1 : Int)  (a1 : Int32) (ra1 : 0 ≤ a1.toInt) (ta1 : a1.toInt ≤ 9) (a2 : Int32) (ra2 : 0 ≤ a2.toInt) (ta2 : a2.toInt ≤ 9) (a3 : Int32) (ra3 : 0 ≤ a3.toInt) (ta3 : a3.toInt ≤ 99999) (a4 : Int32) (ra4 : 2000 ≤ a4.toInt) (ta4 : a4.toInt ≤ 101999) (w0 : va_W) (sz : Nat) (hT : TW ksM ad cy B qr 12 w0)  : Met l yX12_reaches wsX12_reaches ({ frames := 5, cells := 0, slots := 0, locals := 105 }) (va_Pc [.ref (ad 0), .int a1, .int a2, .int a3, .int a4] (wpreS adK adV dC dI cy sz w0)) (va_Qi (P_X12_reaches_1 ad cy B qr s1 a1 a2 a3 a4 w0) (fun u : va_W => wpost dC dI cy (va_A w0 sz) u) (va_A w0 sz)) 0 0 (va_A w0 sz) := by
  refine Met.ofW (cc := cX12_reaches) (maxL := 9) (ret := (some .int)) (by decide) rfl ?_
  intro p e s m args below meth c s₁ Bk hml hv
  obtain ⟨rfl, ⟨hsz, hP, hK, hD0⟩, hE, hSR⟩ := hv
  have hx := Bk.exec
  have hb := Bk.bytes
  have hr := Bk.returns
  have hlocks := Bk.notSynchronized
  have hC : CallFix p m c cX12_reaches 9 s _ wsX12_reaches RX12 := ⟨hx, hb, hml, findClass_of_methodNamed Bk.named, atoms_spec (ws := wsX12_reaches) Bk.pre⟩
  subst hsz
  have hD := hD0.self (sz := s.heap.size)
  generalize hAe : va_A w0 s.heap.size = A at hD hE ⊢
  have hA : ∀ q : Nat, s.heap.size ≤ q → A q := fun q h => by rw [← hAe]; exact Or.inr h
  have hw : Wd dC dI A s.heap s.heap [] w0 := ⟨hP, hD, va_S.rf⟩
  have hF : FE ksM [(77, 0, 10), (78, 0, 10)] w0 w0 := FE.rf
  have hl := lv_entry ([.ref (ad 0), .int a1, .int a2, .int a3, .int a4]) (n := 9) (Nat.le_of_ble_eq_true rfl)
  rw [lg_entry_eq]
  generalize (lg_sl ([.ref (ad 0), .int a1, .int a2, .int a3, .int a4]) ++ List.replicate (9 - (lg_sl ([.ref (ad 0), .int a1, .int a2, .int a3, .int a4])).length) Slot.unset).toArray = ls at hl ⊢
  have hl : lv_has ls 9 [(0, .ref (ad 0)), (1, .int a1), (2, .int a2), (3, .int a3), (4, .int a4)] := hl
  generalize hloc : ([] : List Loc) = locs at hw ⊢
  have hinX12 : ∀ w ∈ u_ws RX12 TX12 42, w ∈ wsX12_reaches := fun _ h => List.mem_cons_of_mem _ (List.mem_append_right _ (h))
  have L44 : ∀ (n44 : Nat) (v44_5 : Int32) (H : Heap) (locs : List Loc) (ls : Array Slot) (w1 : va_W), 0 ≤ a1.toInt → a1.toInt ≤ 9 → 0 ≤ a2.toInt → a2.toInt ≤ 9 → 0 ≤ a3.toInt → a3.toInt ≤ 99999 → 2000 ≤ a4.toInt → a4.toInt ≤ 101999 → 0 ≤ v44_5.toInt → v44_5.toInt ≤ 10 → 0 ≤ (sumG 19 10 w1) → (10 - (sumG 19 10 w1)).toNat < n44 → Wd dC dI A s.heap H locs w1 → TW ksM ad cy B qr 12 w1 → FE ksM [(77, 0, 10), (78, 0, 10)] w0 w1 → lv_has ls 9 [(0, .ref (ad 0)), (1, .int a1), (2, .int a2), (3, .int a3), (4, .int a4), (5, .int v44_5)] → W p l e ({ frames := 5, cells := 0, slots := 0, locals := 105 }) s m (List.toArray [.ref (ad 0), .int a1, .int a2, .int a3, .int a4]) below meth c H locs 0 0 (MQ below (va_Qi (P_X12_reaches_1 ad cy B qr s1 a1 a2 a3 a4 w0) (fun u : va_W => wpost dC dI cy A u) A) (List.toArray [.ref (ad 0), .int a1, .int a2, .int a3, .int a4]) s 0 0 A) (F0 m 44 ls []) := by
    intro n44
    induction n44 with
    | zero => intro v44_5 H locs ls w1 r2 t3 r4 t5 r6 t7 r8 t9 r10 t11 hcr44_0 hm44 hw hT hF hl; omega
    | succ n44 ih44 =>
      intro v44_5 H locs ls w1 r2 t3 r4 t5 r6 t7 r8 t9 r10 t11 hcr44_0 hm44 hw hT hF hl
      have L145 : ∀ (n145 : Nat) (v145_5 : Int32) (v145_6 : Int32) (f145_12_0 : Int32) (H : Heap) (locs : List Loc) (ls : Array Slot) (w12 : va_W), 0 ≤ a1.toInt → a1.toInt ≤ 9 → 0 ≤ a2.toInt → a2.toInt ≤ 9 → 0 ≤ a3.toInt → a3.toInt ≤ 99999 → 2000 ≤ a4.toInt → a4.toInt ≤ 101999 → 0 ≤ v145_5.toInt → v145_5.toInt ≤ 9 → 0 ≤ v145_6.toInt → v145_6.toInt ≤ 12 → 0 ≤ f145_12_0.toInt → f145_12_0.toInt ≤ 10 → (sumG 19 10 w1) + 1 ≤ (sumG 19 10 w12) → (12 - v145_6.toInt).toNat < n145 → Wd dC dI A s.heap H locs w12 → TW ksM ad cy B qr 12 w12 → FE ksM [(77, 0, 10), (78, 0, 10)] w0 w12 → gi w12 12 0 = f145_12_0 → lv_has ls 9 [(0, .ref (ad 0)), (1, .int a1), (2, .int a2), (3, .int a3), (4, .int a4), (5, .int v145_5), (6, .int v145_6)] → W p l e ({ frames := 5, cells := 0, slots := 0, locals := 105 }) s m (List.toArray [.ref (ad 0), .int a1, .int a2, .int a3, .int a4]) below meth c H locs 0 0 (MQ below (va_Qi (P_X12_reaches_1 ad cy B qr s1 a1 a2 a3 a4 w0) (fun u : va_W => wpost dC dI cy A u) A) (List.toArray [.ref (ad 0), .int a1, .int a2, .int a3, .int a4]) s 0 0 A) (F0 m 145 ls []) := by
        intro n145
        induction n145 with
        | zero => intro v145_5 v145_6 f145_12_0 H locs ls w12 r13 t14 r15 t16 r17 t18 r19 t20 r21 t22 r23 t24 r25 t26 hcr145_0 hm145 hw hT hF c27 hl; omega
        | succ n145 ih145 =>
          intro v145_5 v145_6 f145_12_0 H locs ls w12 r13 t14 r15 t16 r17 t18 r19 t20 r21 t22 r23 t24 r25 t26 hcr145_0 hm145 hw hT hF c27 hl
          have J259 : ∀ (f259_12_1 : Int32) (H : Heap) (locs : List Loc) (ls : Array Slot) (w28 : va_W), 0 ≤ a1.toInt → a1.toInt ≤ 9 → 0 ≤ a2.toInt → a2.toInt ≤ 9 → 0 ≤ a3.toInt → a3.toInt ≤ 99999 → 2000 ≤ a4.toInt → a4.toInt ≤ 101999 → 0 ≤ v145_5.toInt → v145_5.toInt ≤ 9 → 0 ≤ v145_6.toInt → v145_6.toInt ≤ 11 → 0 ≤ f145_12_0.toInt → f145_12_0.toInt ≤ 10 → 1 ≤ f259_12_1.toInt → f259_12_1.toInt ≤ 12 → (sumG 19 10 w1) + 1 ≤ (sumG 19 10 w28) → Wd dC dI A s.heap H locs w28 → TW ksM ad cy B qr 12 w28 → FE ksM [(77, 0, 10), (78, 0, 10)] w0 w28 → gi w28 12 0 = f145_12_0 → gi w28 12 1 = f259_12_1 → lv_has ls 9 [(0, .ref (ad 0)), (1, .int a1), (2, .int a2), (3, .int a3), (4, .int a4), (5, .int v145_5), (6, .int v145_6)] → W p l e ({ frames := 5, cells := 0, slots := 0, locals := 105 }) s m (List.toArray [.ref (ad 0), .int a1, .int a2, .int a3, .int a4]) below meth c H locs 0 0 (MQ below (va_Qi (P_X12_reaches_1 ad cy B qr s1 a1 a2 a3 a4 w0) (fun u : va_W => wpost dC dI cy A u) A) (List.toArray [.ref (ad 0), .int a1, .int a2, .int a3, .int a4]) s 0 0 A) (F0 m 259 ls []) := by
            intro f259_12_1 H locs ls w28 r29 t30 r31 t32 r33 t34 r35 t36 r37 t38 r39 t40 r41 t42 r44 t45 hcr259_0 hw hT hF c43 c46 hl
            obtain ⟨x47, ex47⟩ : ∃ y : Int32, y = v145_6 + Int32.ofInt 1 := ⟨_, rfl⟩
            refine lv_iinc (v := x47) (lv' := [(6, .int x47), (0, .ref (ad 0)), (1, .int a1), (2, .int a2), (3, .int a3), (4, .int a4), (5, .int v145_5)]) hx hb dX12_reaches_259 hl (k := 6) rfl ex47.symm (by decide) rfl (fun ls hl => ?_)
            have ex47 : x47.toInt = v145_6.toInt + 1 := by rw [ex47]; exact wk_add (y := 1) (show -2147483648 ≤ v145_6.toInt + 1 by omega) (show v145_6.toInt + 1 ≤ 2147483647 by omega)
            refine lv_goto (tgt := 145) hx hb dX12_reaches_262 (by decide) ?_
            have gb48 : 0 ≤ sumG 19 10 w28 ∧ sumG 19 10 w28 ≤ 10 := hT.sum (lo := 0) (hi := 1) kM_at19 rfl (by decide) rfl
            exact ih145 v145_5 x47 f145_12_0 H locs ls w28 (show 0 ≤ a1.toInt by omega) (show a1.toInt ≤ 9 by omega) (show 0 ≤ a2.toInt by omega) (show a2.toInt ≤ 9 by omega) (show 0 ≤ a3.toInt by omega) (show a3.toInt ≤ 99999 by omega) (show 2000 ≤ a4.toInt by omega) (show a4.toInt ≤ 101999 by omega) (show 0 ≤ v145_5.toInt by omega) (show v145_5.toInt ≤ 9 by omega) (show 0 ≤ x47.toInt by omega) (show x47.toInt ≤ 12 by omega) (show 0 ≤ f145_12_0.toInt by omega) (show f145_12_0.toInt ≤ 10 by omega) (show (sumG 19 10 w1) + 1 ≤ (sumG 19 10 w28) by omega) (show (12 - x47.toInt).toNat < n145 by omega) hw hT hF c43 (lv_sub hl [1, 2, 3, 4, 5, 6, 0] rfl)
          refine lv_iload hx hb dX12_reaches_145 (lv_at hl 6 rfl) ?_
          refine lv_aload_n hx hb dX12_reaches_147 rfl (lv_at hl 0 rfl) ?_
          refine tk_getA hC hK hw hT hinX12 kM_at0 (by decide) rfl 26 (by decide) (List.mem_of_getElem? (i := 4) rfl) rfl rfl dX12_reaches_148 ?_
          refine lv_iconst (v := 1) hx hb dX12_reaches_151 (by decide) ?_
          refine tk_ialdR hC hK hw hT kM_at12 rfl (by decide) (by decide) dX12_reaches_152 (fun x49 c50 Ex49 => ?_)
          have bx49 : 0 ≤ x49.toInt ∧ x49.toInt ≤ 12 := (tk_rg1 rfl).mp Ex49
          have c50 : gi w12 12 1 = x49 := c50
          refine lv_icmp_ge (tgt := 265) hx hb dX12_reaches_153 (by decide) (fun c51 => ?_) (fun c51 => ?_)
          · have c51 : x49.toInt ≤ v145_6.toInt := wk_le.mp c51
            refine lv_goto (tgt := 44) hx hb dX12_reaches_265 (by decide) ?_
            have gb52 : 0 ≤ sumG 19 10 w12 ∧ sumG 19 10 w12 ≤ 10 := hT.sum (lo := 0) (hi := 1) kM_at19 rfl (by decide) rfl
            exact ih44 v145_5 H locs ls w12 (show 0 ≤ a1.toInt by omega) (show a1.toInt ≤ 9 by omega) (show 0 ≤ a2.toInt by omega) (show a2.toInt ≤ 9 by omega) (show 0 ≤ a3.toInt by omega) (show a3.toInt ≤ 99999 by omega) (show 2000 ≤ a4.toInt by omega) (show a4.toInt ≤ 101999 by omega) (show 0 ≤ v145_5.toInt by omega) (show v145_5.toInt ≤ 10 by omega) (show 0 ≤ (sumG 19 10 w12) by omega) (show (10 - (sumG 19 10 w12)).toNat < n44 by omega) hw hT hF  (lv_sub hl [0, 1, 2, 3, 4, 5] rfl)
          · have c51 : v145_6.toInt < x49.toInt := wk_leF c51
            refine lv_aload_n hx hb dX12_reaches_156 rfl (lv_at hl 0 rfl) ?_
            refine lv_iload hx hb dX12_reaches_157 (lv_at hl 6 rfl) ?_
            refine lv_iload hx hb dX12_reaches_159 (lv_at hl 5 rfl) ?_
            refine tk_Vi hC hK hw hT hA hE hSR kM_at0 (by decide) rfl (k_X12_isAt_1 l adK adV dC dI cy ad B (by omega) (by omega) qr s1   v145_6 (show 0 ≤ v145_6.toInt by omega) (show v145_6.toInt ≤ 11 by omega) v145_5 (show 0 ≤ v145_5.toInt by omega) (show v145_5.toInt ≤ 9 by omega) w12 H.size hT ) (cwV 2 hC.2.2.2.2 gX12_reaches_X12_isAt rfl rfl rfl (by decide +kernel) ⟨Nat.le_of_ble_eq_true rfl, Nat.le_of_ble_eq_true rfl⟩) rfl hl.1 rfl (Nat.le_of_ble_eq_true rfl) dX12_reaches_161 (fun r53 w55 H locs hp54 hw => ?_)
            obtain ⟨rfl, hg57⟩ := hp54
            rcases hg57 with rfl | rfl
            · refine lv_if_ne (tgt := 170) hx hb dX12_reaches_164 (by decide) (fun c => absurd (by decide) c) (fun _ => ?_)
              refine lv_goto (tgt := 259) hx hb dX12_reaches_167 (by decide) ?_
              have gb58 : 0 ≤ sumG 19 10 w12 ∧ sumG 19 10 w12 ≤ 10 := hT.sum (lo := 0) (hi := 1) kM_at19 rfl (by decide) rfl
              exact J259 x49 H locs ls w12 (show 0 ≤ a1.toInt by omega) (show a1.toInt ≤ 9 by omega) (show 0 ≤ a2.toInt by omega) (show a2.toInt ≤ 9 by omega) (show 0 ≤ a3.toInt by omega) (show a3.toInt ≤ 99999 by omega) (show 2000 ≤ a4.toInt by omega) (show a4.toInt ≤ 101999 by omega) (show 0 ≤ v145_5.toInt by omega) (show v145_5.toInt ≤ 9 by omega) (show 0 ≤ v145_6.toInt by omega) (show v145_6.toInt ≤ 11 by omega) (show 0 ≤ f145_12_0.toInt by omega) (show f145_12_0.toInt ≤ 10 by omega) (show 1 ≤ x49.toInt by omega) (show x49.toInt ≤ 12 by omega) (show (sumG 19 10 w1) + 1 ≤ (sumG 19 10 w12) by omega)  hw hT hF c27 c50 (lv_sub hl [0, 1, 2, 3, 4, 5, 6] rfl)
            · refine lv_if_ne (tgt := 170) hx hb dX12_reaches_164 (by decide) (fun _ => ?_) (fun c => absurd c (by decide))
              refine lv_aload_n hx hb dX12_reaches_170 rfl (lv_at hl 0 rfl) ?_
              refine lv_iload hx hb dX12_reaches_171 (lv_at hl 6 rfl) ?_
              refine lv_iload hx hb dX12_reaches_173 (lv_at hl 5 rfl) ?_
              refine lv_aload_n hx hb dX12_reaches_175 rfl (lv_at hl 0 rfl) ?_
              refine tk_getA hC hK hw hT hinX12 kM_at0 (by decide) rfl 35 (by decide) (List.mem_of_getElem? (i := 1) rfl) rfl rfl dX12_reaches_176 ?_
              refine lv_iload hx hb dX12_reaches_179 (lv_at hl 5 rfl) ?_
              refine tk_iald hC hK hw hT kM_at18 rfl rfl (show 0 ≤ v145_5.toInt by omega) (show v145_5.toInt < 10 by omega) dX12_reaches_181 (fun x59 c60 rx59 tx59 => ?_)
              refine lv_iload hx hb dX12_reaches_182 (lv_at hl 4 rfl) ?_
              refine tk_Vi hC hK hw hT hA hE hSR kM_at0 (by decide) rfl (k_X12_firstOpen_1 l adK adV dC dI cy ad B (by omega) (by omega) qr s1   v145_6 (show 0 ≤ v145_6.toInt by omega) (show v145_6.toInt ≤ 11 by omega) v145_5 (show 0 ≤ v145_5.toInt by omega) (show v145_5.toInt ≤ 9 by omega) x59 (show 0 ≤ x59.toInt by omega) (show x59.toInt ≤ 100000100 by omega) a4 (show 2000 ≤ a4.toInt by omega) (show a4.toInt ≤ 101999 by omega) w12 H.size hT ) (cwV 4 hC.2.2.2.2 gX12_reaches_X12_firstOpen rfl rfl rfl (by decide +kernel) ⟨Nat.le_of_ble_eq_true rfl, Nat.le_of_ble_eq_true rfl⟩) rfl hl.1 rfl (Nat.le_of_ble_eq_true rfl) dX12_reaches_184 (fun r61 w63 H locs hp62 hw => ?_)
              obtain ⟨rfl, hg70⟩ := hp62
              rcases hg70 with ⟨g65, g66⟩ | ⟨g67, g68, c69⟩
              · refine lv_istore (lv' := [(7, .int r61), (0, .ref (ad 0)), (1, .int a1), (2, .int a2), (3, .int a3), (4, .int a4), (5, .int v145_5), (6, .int v145_6)]) hx hb dX12_reaches_187 hl (by decide) rfl (fun ls hl => ?_)
                refine lv_aload_n hx hb dX12_reaches_189 rfl (lv_at hl 1 rfl) ?_
                refine lv_iload hx hb dX12_reaches_190 (lv_at hl 7 rfl) ?_
                refine lv_iload hx hb dX12_reaches_192 (lv_at hl 6 rfl) ?_
                refine tk_Vi hC hK hw hT hA hE hSR kM_at0 (by decide) rfl (k_X12_otherOf_1 l adK adV dC dI cy ad B (by omega) (by omega) qr s1   v145_6 (show 0 ≤ v145_6.toInt by omega) (show v145_6.toInt ≤ 11 by omega) v145_5 (show 0 ≤ v145_5.toInt by omega) (show v145_5.toInt ≤ 9 by omega) w12 H.size hT ) (cwV 2 hC.2.2.2.2 gX12_reaches_X12_otherOf rfl rfl rfl (by decide +kernel) ⟨Nat.le_of_ble_eq_true rfl, Nat.le_of_ble_eq_true rfl⟩) rfl hl.1 rfl (Nat.le_of_ble_eq_true rfl) dX12_reaches_194 (fun r71 w73 H locs hp72 hw => ?_)
                obtain ⟨rfl, hg80⟩ := hp72
                rcases hg80 with ⟨g75, g76⟩ | ⟨g77, g78, c79⟩
                · refine lv_istore (lv' := [(8, .int r71), (7, .int r61), (0, .ref (ad 0)), (1, .int a1), (2, .int a2), (3, .int a3), (4, .int a4), (5, .int v145_5), (6, .int v145_6)]) hx hb dX12_reaches_197 hl (by decide) rfl (fun ls hl => ?_)
                  refine lv_iload hx hb dX12_reaches_199 (lv_at hl 1 rfl) ?_
                  refine lv_ldcw (v := 100000000) hx hb hC.2.2.2.1 (hC.2.2.2.2 _ (List.mem_of_getElem? (i := 2) rfl)) dX12_reaches_201 ?_
                  refine lv_icmp_ge (tgt := 259) hx hb dX12_reaches_204 (by decide) (fun c81 => ?_) (fun c81 => ?_)
                  · have c81 : (100000000 : Int) ≤ r61.toInt := wk_le.mp c81
                    have gb82 : 0 ≤ sumG 19 10 w12 ∧ sumG 19 10 w12 ≤ 10 := hT.sum (lo := 0) (hi := 1) kM_at19 rfl (by decide) rfl
                    exact J259 x49 H locs ls w12 (show 0 ≤ a1.toInt by omega) (show a1.toInt ≤ 9 by omega) (show 0 ≤ a2.toInt by omega) (show a2.toInt ≤ 9 by omega) (show 0 ≤ a3.toInt by omega) (show a3.toInt ≤ 99999 by omega) (show 2000 ≤ a4.toInt by omega) (show a4.toInt ≤ 101999 by omega) (show 0 ≤ v145_5.toInt by omega) (show v145_5.toInt ≤ 9 by omega) (show 0 ≤ v145_6.toInt by omega) (show v145_6.toInt ≤ 11 by omega) (show 0 ≤ f145_12_0.toInt by omega) (show f145_12_0.toInt ≤ 10 by omega) (show 1 ≤ x49.toInt by omega) (show x49.toInt ≤ 12 by omega) (show (sumG 19 10 w1) + 1 ≤ (sumG 19 10 w12) by omega)  hw hT hF c27 c50 (lv_sub hl [2, 3, 4, 5, 6, 7, 8] rfl)
                  · have c81 : r61.toInt < (100000000 : Int) := wk_leF c81
                    refine lv_iload hx hb dX12_reaches_207 (lv_at hl 1 rfl) ?_
                    refine lv_aload_n hx hb dX12_reaches_209 rfl (lv_at hl 2 rfl) ?_
                    refine lv_iload hx hb dX12_reaches_210 (lv_at hl 8 rfl) ?_
                    refine lv_iconst (v := 2) hx hb dX12_reaches_212 (by decide) ?_
                    refine tk_Vi hC hK hw hT hA hE hSR kM_at0 (by decide) rfl (k_X12_streetOf_6 l adK adV dC dI cy ad B (by omega) (by omega) qr s1   v145_6 (show 0 ≤ v145_6.toInt by omega) (show v145_6.toInt ≤ 11 by omega) w12 H.size hT ) (cwV 2 hC.2.2.2.2 gX12_reaches_X12_streetOf rfl rfl rfl (by decide +kernel) ⟨Nat.le_of_ble_eq_true rfl, Nat.le_of_ble_eq_true rfl⟩) rfl hl.1 rfl (Nat.le_of_ble_eq_true rfl) dX12_reaches_213 (fun r83 w85 H locs hp84 hw => ?_)
                    obtain ⟨rfl, hg90⟩ := hp84
                    obtain ⟨g87, g88, c89⟩ := hg90
                    refine lv_iadd hx hb dX12_reaches_216 ?_
                    refine lv_topi (fun x91 ex91 => ?_)
                    have ex91 : x91.toInt = r61.toInt + r83.toInt := by rw [ex91]; exact wk_add (show (-2147483648) ≤ r61.toInt + r83.toInt by omega) (show r61.toInt + r83.toInt ≤ 2147483647 by omega)
                    refine lv_iload hx hb dX12_reaches_217 (lv_at hl 6 rfl) ?_
                    refine lv_icmp_gt (tgt := 259) hx hb dX12_reaches_219 (by decide) (fun c92 => ?_) (fun c92 => ?_)
                    · have c92 : a4.toInt < x91.toInt := wk_lt.mp c92
                      have gb93 : 0 ≤ sumG 19 10 w12 ∧ sumG 19 10 w12 ≤ 10 := hT.sum (lo := 0) (hi := 1) kM_at19 rfl (by decide) rfl
                      exact J259 x49 H locs ls w12 (show 0 ≤ a1.toInt by omega) (show a1.toInt ≤ 9 by omega) (show 0 ≤ a2.toInt by omega) (show a2.toInt ≤ 9 by omega) (show 0 ≤ a3.toInt by omega) (show a3.toInt ≤ 99999 by omega) (show 2000 ≤ a4.toInt by omega) (show a4.toInt ≤ 101999 by omega) (show 0 ≤ v145_5.toInt by omega) (show v145_5.toInt ≤ 9 by omega) (show 0 ≤ v145_6.toInt by omega) (show v145_6.toInt ≤ 11 by omega) (show 0 ≤ f145_12_0.toInt by omega) (show f145_12_0.toInt ≤ 10 by omega) (show 1 ≤ x49.toInt by omega) (show x49.toInt ≤ 12 by omega) (show (sumG 19 10 w1) + 1 ≤ (sumG 19 10 w12) by omega)  hw hT hF c27 c50 (lv_sub hl [2, 3, 4, 5, 6, 7, 8] rfl)
                    · have c92 : x91.toInt ≤ a4.toInt := wk_ltF c92
                      refine lv_iload hx hb dX12_reaches_222 (lv_at hl 1 rfl) ?_
                      refine lv_aload_n hx hb dX12_reaches_224 rfl (lv_at hl 2 rfl) ?_
                      refine lv_iload hx hb dX12_reaches_225 (lv_at hl 8 rfl) ?_
                      refine lv_iconst (v := 2) hx hb dX12_reaches_227 (by decide) ?_
                      refine tk_Vi hC hK hw hT hA hE hSR kM_at0 (by decide) rfl (k_X12_streetOf_6 l adK adV dC dI cy ad B (by omega) (by omega) qr s1   v145_6 (show 0 ≤ v145_6.toInt by omega) (show v145_6.toInt ≤ 11 by omega) w12 H.size hT ) (cwV 2 hC.2.2.2.2 gX12_reaches_X12_streetOf rfl rfl rfl (by decide +kernel) ⟨Nat.le_of_ble_eq_true rfl, Nat.le_of_ble_eq_true rfl⟩) rfl hl.1 rfl (Nat.le_of_ble_eq_true rfl) dX12_reaches_228 (fun r94 w96 H locs hp95 hw => ?_)
                      obtain ⟨rfl, hg101⟩ := hp95
                      obtain ⟨g98, g99, c100⟩ := hg101
                      obtain rfl : r94 = r83 := c100.symm.trans c89
                      refine lv_iadd hx hb dX12_reaches_231 ?_
                      refine lv_topi (fun x102 ex102 => ?_)
                      have ex102 : x102.toInt = r61.toInt + r83.toInt := by rw [ex102]; exact wk_add (show (-2147483648) ≤ r61.toInt + r83.toInt by omega) (show r61.toInt + r83.toInt ≤ 2147483647 by omega)
                      refine lv_aload_n hx hb dX12_reaches_232 rfl (lv_at hl 2 rfl) ?_
                      refine tk_getA hC hK hw hT hinX12 kM_at0 (by decide) rfl 35 (by decide) (List.mem_of_getElem? (i := 1) rfl) rfl rfl dX12_reaches_233 ?_
                      refine lv_iload hx hb dX12_reaches_236 (lv_at hl 0 rfl) ?_
                      refine tk_iald hC hK hw hT kM_at18 rfl rfl (show 0 ≤ r71.toInt by omega) (show r71.toInt < 10 by omega) dX12_reaches_238 (fun x103 c104 rx103 tx103 => ?_)
                      refine lv_icmp_ge (tgt := 259) hx hb dX12_reaches_239 (by decide) (fun c105 => ?_) (fun c105 => ?_)
                      · have c105 : x103.toInt ≤ x102.toInt := wk_le.mp c105
                        have gb106 : 0 ≤ sumG 19 10 w12 ∧ sumG 19 10 w12 ≤ 10 := hT.sum (lo := 0) (hi := 1) kM_at19 rfl (by decide) rfl
                        exact J259 x49 H locs ls w12 (show 0 ≤ a1.toInt by omega) (show a1.toInt ≤ 9 by omega) (show 0 ≤ a2.toInt by omega) (show a2.toInt ≤ 9 by omega) (show 0 ≤ a3.toInt by omega) (show a3.toInt ≤ 99999 by omega) (show 2000 ≤ a4.toInt by omega) (show a4.toInt ≤ 101999 by omega) (show 0 ≤ v145_5.toInt by omega) (show v145_5.toInt ≤ 9 by omega) (show 0 ≤ v145_6.toInt by omega) (show v145_6.toInt ≤ 11 by omega) (show 0 ≤ f145_12_0.toInt by omega) (show f145_12_0.toInt ≤ 10 by omega) (show 1 ≤ x49.toInt by omega) (show x49.toInt ≤ 12 by omega) (show (sumG 19 10 w1) + 1 ≤ (sumG 19 10 w12) by omega)  hw hT hF c27 c50 (lv_sub hl [2, 3, 4, 5, 6, 7, 8] rfl)
                      · have c105 : x102.toInt < x103.toInt := wk_leF c105
                        refine lv_aload_n hx hb dX12_reaches_242 rfl (lv_at hl 2 rfl) ?_
                        refine tk_getA hC hK hw hT hinX12 kM_at0 (by decide) rfl 35 (by decide) (List.mem_of_getElem? (i := 1) rfl) rfl rfl dX12_reaches_243 ?_
                        refine lv_iload hx hb dX12_reaches_246 (lv_at hl 0 rfl) ?_
                        refine lv_iload hx hb dX12_reaches_248 (lv_at hl 1 rfl) ?_
                        refine lv_aload_n hx hb dX12_reaches_250 rfl (lv_at hl 2 rfl) ?_
                        refine lv_iload hx hb dX12_reaches_251 (lv_at hl 8 rfl) ?_
                        refine lv_iconst (v := 2) hx hb dX12_reaches_253 (by decide) ?_
                        refine tk_Vi hC hK hw hT hA hE hSR kM_at0 (by decide) rfl (k_X12_streetOf_6 l adK adV dC dI cy ad B (by omega) (by omega) qr s1   v145_6 (show 0 ≤ v145_6.toInt by omega) (show v145_6.toInt ≤ 11 by omega) w12 H.size hT ) (cwV 2 hC.2.2.2.2 gX12_reaches_X12_streetOf rfl rfl rfl (by decide +kernel) ⟨Nat.le_of_ble_eq_true rfl, Nat.le_of_ble_eq_true rfl⟩) rfl hl.1 rfl (Nat.le_of_ble_eq_true rfl) dX12_reaches_254 (fun r107 w109 H locs hp108 hw => ?_)
                        obtain ⟨rfl, hg114⟩ := hp108
                        obtain ⟨g111, g112, c113⟩ := hg114
                        obtain rfl : r107 = r83 := c113.symm.trans c89
                        refine lv_iadd hx hb dX12_reaches_257 ?_
                        refine lv_topi (fun x115 ex115 => ?_)
                        have ex115 : x115.toInt = r61.toInt + r83.toInt := by rw [ex115]; exact wk_add (show (-2147483648) ≤ r61.toInt + r83.toInt by omega) (show r61.toInt + r83.toInt ≤ 2147483647 by omega)
                        refine tk_iast hC hK hw hT kM_at18 (by decide) rfl rfl (show 0 ≤ r71.toInt by omega) (show r71.toInt < 10 by omega) (show 0 ≤ x115.toInt by omega) (show x115.toInt ≤ 100000100 by omega) dX12_reaches_258 (fun H locs w116 hw hT k118 c117 => ?_)
                        have gs119 : sumG 19 10 w116 = sumG 19 10 w12 := sumG_ne 10 k118 (tk_ne kM_at19 kM_at18 (by decide))
                        have hF := hF.put kM_at18 (inE_of (a := 0) (b := 10) (by decide) (show 0 ≤ r71.toInt.toNat by omega) (show r71.toInt.toNat ≤ 10 by omega)) k118
                        have c120 := k118.gi (Or.inl (tk_ne kM_at12 kM_at18 (by decide))) c27
                        have c121 := k118.gi (Or.inl (tk_ne kM_at12 kM_at18 (by decide))) c50
                        have c122 := k118.gi (Or.inl (tk_ne kM_at12 kM_at18 (by decide))) c89
                        have gb123 : 0 ≤ sumG 19 10 w116 ∧ sumG 19 10 w116 ≤ 10 := hT.sum (lo := 0) (hi := 1) kM_at19 rfl (by decide) rfl
                        exact J259 x49 H locs ls w116 (show 0 ≤ a1.toInt by omega) (show a1.toInt ≤ 9 by omega) (show 0 ≤ a2.toInt by omega) (show a2.toInt ≤ 9 by omega) (show 0 ≤ a3.toInt by omega) (show a3.toInt ≤ 99999 by omega) (show 2000 ≤ a4.toInt by omega) (show a4.toInt ≤ 101999 by omega) (show 0 ≤ v145_5.toInt by omega) (show v145_5.toInt ≤ 9 by omega) (show 0 ≤ v145_6.toInt by omega) (show v145_6.toInt ≤ 11 by omega) (show 0 ≤ f145_12_0.toInt by omega) (show f145_12_0.toInt ≤ 10 by omega) (show 1 ≤ x49.toInt by omega) (show x49.toInt ≤ 12 by omega) (show (sumG 19 10 w1) + 1 ≤ (sumG 19 10 w116) by omega)  hw hT hF c120 c121 (lv_sub hl [2, 3, 4, 5, 6, 7, 8] rfl)
                · refine lv_istore (lv' := [(8, .int r71), (7, .int r61), (0, .ref (ad 0)), (1, .int a1), (2, .int a2), (3, .int a3), (4, .int a4), (5, .int v145_5), (6, .int v145_6)]) hx hb dX12_reaches_197 hl (by decide) rfl (fun ls hl => ?_)
                  refine lv_iload hx hb dX12_reaches_199 (lv_at hl 1 rfl) ?_
                  refine lv_ldcw (v := 100000000) hx hb hC.2.2.2.1 (hC.2.2.2.2 _ (List.mem_of_getElem? (i := 2) rfl)) dX12_reaches_201 ?_
                  refine lv_icmp_ge (tgt := 259) hx hb dX12_reaches_204 (by decide) (fun c124 => ?_) (fun c124 => ?_)
                  · have c124 : (100000000 : Int) ≤ r61.toInt := wk_le.mp c124
                    have gb125 : 0 ≤ sumG 19 10 w12 ∧ sumG 19 10 w12 ≤ 10 := hT.sum (lo := 0) (hi := 1) kM_at19 rfl (by decide) rfl
                    exact J259 x49 H locs ls w12 (show 0 ≤ a1.toInt by omega) (show a1.toInt ≤ 9 by omega) (show 0 ≤ a2.toInt by omega) (show a2.toInt ≤ 9 by omega) (show 0 ≤ a3.toInt by omega) (show a3.toInt ≤ 99999 by omega) (show 2000 ≤ a4.toInt by omega) (show a4.toInt ≤ 101999 by omega) (show 0 ≤ v145_5.toInt by omega) (show v145_5.toInt ≤ 9 by omega) (show 0 ≤ v145_6.toInt by omega) (show v145_6.toInt ≤ 11 by omega) (show 0 ≤ f145_12_0.toInt by omega) (show f145_12_0.toInt ≤ 10 by omega) (show 1 ≤ x49.toInt by omega) (show x49.toInt ≤ 12 by omega) (show (sumG 19 10 w1) + 1 ≤ (sumG 19 10 w12) by omega)  hw hT hF c27 c50 (lv_sub hl [2, 3, 4, 5, 6, 7, 8] rfl)
                  · have c124 : r61.toInt < (100000000 : Int) := wk_leF c124
                    refine lv_iload hx hb dX12_reaches_207 (lv_at hl 1 rfl) ?_
                    refine lv_aload_n hx hb dX12_reaches_209 rfl (lv_at hl 2 rfl) ?_
                    refine lv_iload hx hb dX12_reaches_210 (lv_at hl 8 rfl) ?_
                    refine lv_iconst (v := 2) hx hb dX12_reaches_212 (by decide) ?_
                    refine tk_Vi hC hK hw hT hA hE hSR kM_at0 (by decide) rfl (k_X12_streetOf_6 l adK adV dC dI cy ad B (by omega) (by omega) qr s1   v145_6 (show 0 ≤ v145_6.toInt by omega) (show v145_6.toInt ≤ 11 by omega) w12 H.size hT ) (cwV 2 hC.2.2.2.2 gX12_reaches_X12_streetOf rfl rfl rfl (by decide +kernel) ⟨Nat.le_of_ble_eq_true rfl, Nat.le_of_ble_eq_true rfl⟩) rfl hl.1 rfl (Nat.le_of_ble_eq_true rfl) dX12_reaches_213 (fun r126 w128 H locs hp127 hw => ?_)
                    obtain ⟨rfl, hg133⟩ := hp127
                    obtain ⟨g130, g131, c132⟩ := hg133
                    refine lv_iadd hx hb dX12_reaches_216 ?_
                    refine lv_topi (fun x134 ex134 => ?_)
                    have ex134 : x134.toInt = r61.toInt + r126.toInt := by rw [ex134]; exact wk_add (show (-2147483648) ≤ r61.toInt + r126.toInt by omega) (show r61.toInt + r126.toInt ≤ 2147483647 by omega)
                    refine lv_iload hx hb dX12_reaches_217 (lv_at hl 6 rfl) ?_
                    refine lv_icmp_gt (tgt := 259) hx hb dX12_reaches_219 (by decide) (fun c135 => ?_) (fun c135 => ?_)
                    · have c135 : a4.toInt < x134.toInt := wk_lt.mp c135
                      have gb136 : 0 ≤ sumG 19 10 w12 ∧ sumG 19 10 w12 ≤ 10 := hT.sum (lo := 0) (hi := 1) kM_at19 rfl (by decide) rfl
                      exact J259 x49 H locs ls w12 (show 0 ≤ a1.toInt by omega) (show a1.toInt ≤ 9 by omega) (show 0 ≤ a2.toInt by omega) (show a2.toInt ≤ 9 by omega) (show 0 ≤ a3.toInt by omega) (show a3.toInt ≤ 99999 by omega) (show 2000 ≤ a4.toInt by omega) (show a4.toInt ≤ 101999 by omega) (show 0 ≤ v145_5.toInt by omega) (show v145_5.toInt ≤ 9 by omega) (show 0 ≤ v145_6.toInt by omega) (show v145_6.toInt ≤ 11 by omega) (show 0 ≤ f145_12_0.toInt by omega) (show f145_12_0.toInt ≤ 10 by omega) (show 1 ≤ x49.toInt by omega) (show x49.toInt ≤ 12 by omega) (show (sumG 19 10 w1) + 1 ≤ (sumG 19 10 w12) by omega)  hw hT hF c27 c50 (lv_sub hl [2, 3, 4, 5, 6, 7, 8] rfl)
                    · have c135 : x134.toInt ≤ a4.toInt := wk_ltF c135
                      refine lv_iload hx hb dX12_reaches_222 (lv_at hl 1 rfl) ?_
                      refine lv_aload_n hx hb dX12_reaches_224 rfl (lv_at hl 2 rfl) ?_
                      refine lv_iload hx hb dX12_reaches_225 (lv_at hl 8 rfl) ?_
                      refine lv_iconst (v := 2) hx hb dX12_reaches_227 (by decide) ?_
                      refine tk_Vi hC hK hw hT hA hE hSR kM_at0 (by decide) rfl (k_X12_streetOf_6 l adK adV dC dI cy ad B (by omega) (by omega) qr s1   v145_6 (show 0 ≤ v145_6.toInt by omega) (show v145_6.toInt ≤ 11 by omega) w12 H.size hT ) (cwV 2 hC.2.2.2.2 gX12_reaches_X12_streetOf rfl rfl rfl (by decide +kernel) ⟨Nat.le_of_ble_eq_true rfl, Nat.le_of_ble_eq_true rfl⟩) rfl hl.1 rfl (Nat.le_of_ble_eq_true rfl) dX12_reaches_228 (fun r137 w139 H locs hp138 hw => ?_)
                      obtain ⟨rfl, hg144⟩ := hp138
                      obtain ⟨g141, g142, c143⟩ := hg144
                      obtain rfl : r137 = r126 := c143.symm.trans c132
                      refine lv_iadd hx hb dX12_reaches_231 ?_
                      refine lv_topi (fun x145 ex145 => ?_)
                      have ex145 : x145.toInt = r61.toInt + r126.toInt := by rw [ex145]; exact wk_add (show (-2147483648) ≤ r61.toInt + r126.toInt by omega) (show r61.toInt + r126.toInt ≤ 2147483647 by omega)
                      refine lv_aload_n hx hb dX12_reaches_232 rfl (lv_at hl 2 rfl) ?_
                      refine tk_getA hC hK hw hT hinX12 kM_at0 (by decide) rfl 35 (by decide) (List.mem_of_getElem? (i := 1) rfl) rfl rfl dX12_reaches_233 ?_
                      refine lv_iload hx hb dX12_reaches_236 (lv_at hl 0 rfl) ?_
                      refine tk_iald hC hK hw hT kM_at18 rfl rfl (show 0 ≤ r71.toInt by omega) (show r71.toInt < 10 by omega) dX12_reaches_238 (fun x146 c147 rx146 tx146 => ?_)
                      refine lv_icmp_ge (tgt := 259) hx hb dX12_reaches_239 (by decide) (fun c148 => ?_) (fun c148 => ?_)
                      · have c148 : x146.toInt ≤ x145.toInt := wk_le.mp c148
                        have gb149 : 0 ≤ sumG 19 10 w12 ∧ sumG 19 10 w12 ≤ 10 := hT.sum (lo := 0) (hi := 1) kM_at19 rfl (by decide) rfl
                        exact J259 x49 H locs ls w12 (show 0 ≤ a1.toInt by omega) (show a1.toInt ≤ 9 by omega) (show 0 ≤ a2.toInt by omega) (show a2.toInt ≤ 9 by omega) (show 0 ≤ a3.toInt by omega) (show a3.toInt ≤ 99999 by omega) (show 2000 ≤ a4.toInt by omega) (show a4.toInt ≤ 101999 by omega) (show 0 ≤ v145_5.toInt by omega) (show v145_5.toInt ≤ 9 by omega) (show 0 ≤ v145_6.toInt by omega) (show v145_6.toInt ≤ 11 by omega) (show 0 ≤ f145_12_0.toInt by omega) (show f145_12_0.toInt ≤ 10 by omega) (show 1 ≤ x49.toInt by omega) (show x49.toInt ≤ 12 by omega) (show (sumG 19 10 w1) + 1 ≤ (sumG 19 10 w12) by omega)  hw hT hF c27 c50 (lv_sub hl [2, 3, 4, 5, 6, 7, 8] rfl)
                      · have c148 : x145.toInt < x146.toInt := wk_leF c148
                        refine lv_aload_n hx hb dX12_reaches_242 rfl (lv_at hl 2 rfl) ?_
                        refine tk_getA hC hK hw hT hinX12 kM_at0 (by decide) rfl 35 (by decide) (List.mem_of_getElem? (i := 1) rfl) rfl rfl dX12_reaches_243 ?_
                        refine lv_iload hx hb dX12_reaches_246 (lv_at hl 0 rfl) ?_
                        refine lv_iload hx hb dX12_reaches_248 (lv_at hl 1 rfl) ?_
                        refine lv_aload_n hx hb dX12_reaches_250 rfl (lv_at hl 2 rfl) ?_
                        refine lv_iload hx hb dX12_reaches_251 (lv_at hl 8 rfl) ?_
                        refine lv_iconst (v := 2) hx hb dX12_reaches_253 (by decide) ?_
                        refine tk_Vi hC hK hw hT hA hE hSR kM_at0 (by decide) rfl (k_X12_streetOf_6 l adK adV dC dI cy ad B (by omega) (by omega) qr s1   v145_6 (show 0 ≤ v145_6.toInt by omega) (show v145_6.toInt ≤ 11 by omega) w12 H.size hT ) (cwV 2 hC.2.2.2.2 gX12_reaches_X12_streetOf rfl rfl rfl (by decide +kernel) ⟨Nat.le_of_ble_eq_true rfl, Nat.le_of_ble_eq_true rfl⟩) rfl hl.1 rfl (Nat.le_of_ble_eq_true rfl) dX12_reaches_254 (fun r150 w152 H locs hp151 hw => ?_)
                        obtain ⟨rfl, hg157⟩ := hp151
                        obtain ⟨g154, g155, c156⟩ := hg157
                        obtain rfl : r150 = r126 := c156.symm.trans c132
                        refine lv_iadd hx hb dX12_reaches_257 ?_
                        refine lv_topi (fun x158 ex158 => ?_)
                        have ex158 : x158.toInt = r61.toInt + r126.toInt := by rw [ex158]; exact wk_add (show (-2147483648) ≤ r61.toInt + r126.toInt by omega) (show r61.toInt + r126.toInt ≤ 2147483647 by omega)
                        refine tk_iast hC hK hw hT kM_at18 (by decide) rfl rfl (show 0 ≤ r71.toInt by omega) (show r71.toInt < 10 by omega) (show 0 ≤ x158.toInt by omega) (show x158.toInt ≤ 100000100 by omega) dX12_reaches_258 (fun H locs w159 hw hT k161 c160 => ?_)
                        have gs162 : sumG 19 10 w159 = sumG 19 10 w12 := sumG_ne 10 k161 (tk_ne kM_at19 kM_at18 (by decide))
                        have hF := hF.put kM_at18 (inE_of (a := 0) (b := 10) (by decide) (show 0 ≤ r71.toInt.toNat by omega) (show r71.toInt.toNat ≤ 10 by omega)) k161
                        have c163 := k161.gi (Or.inl (tk_ne kM_at12 kM_at18 (by decide))) c27
                        have c164 := k161.gi (Or.inl (tk_ne kM_at12 kM_at18 (by decide))) c50
                        have c165 := k161.gi (Or.inl (tk_ne kM_at12 kM_at18 (by decide))) c79
                        have c166 := k161.gi (Or.inl (tk_ne kM_at12 kM_at18 (by decide))) c132
                        have gb167 : 0 ≤ sumG 19 10 w159 ∧ sumG 19 10 w159 ≤ 10 := hT.sum (lo := 0) (hi := 1) kM_at19 rfl (by decide) rfl
                        exact J259 x49 H locs ls w159 (show 0 ≤ a1.toInt by omega) (show a1.toInt ≤ 9 by omega) (show 0 ≤ a2.toInt by omega) (show a2.toInt ≤ 9 by omega) (show 0 ≤ a3.toInt by omega) (show a3.toInt ≤ 99999 by omega) (show 2000 ≤ a4.toInt by omega) (show a4.toInt ≤ 101999 by omega) (show 0 ≤ v145_5.toInt by omega) (show v145_5.toInt ≤ 9 by omega) (show 0 ≤ v145_6.toInt by omega) (show v145_6.toInt ≤ 11 by omega) (show 0 ≤ f145_12_0.toInt by omega) (show f145_12_0.toInt ≤ 10 by omega) (show 1 ≤ x49.toInt by omega) (show x49.toInt ≤ 12 by omega) (show (sumG 19 10 w1) + 1 ≤ (sumG 19 10 w159) by omega)  hw hT hF c163 c164 (lv_sub hl [2, 3, 4, 5, 6, 7, 8] rfl)
              · refine lv_istore (lv' := [(7, .int r61), (0, .ref (ad 0)), (1, .int a1), (2, .int a2), (3, .int a3), (4, .int a4), (5, .int v145_5), (6, .int v145_6)]) hx hb dX12_reaches_187 hl (by decide) rfl (fun ls hl => ?_)
                refine lv_aload_n hx hb dX12_reaches_189 rfl (lv_at hl 1 rfl) ?_
                refine lv_iload hx hb dX12_reaches_190 (lv_at hl 7 rfl) ?_
                refine lv_iload hx hb dX12_reaches_192 (lv_at hl 6 rfl) ?_
                refine tk_Vi hC hK hw hT hA hE hSR kM_at0 (by decide) rfl (k_X12_otherOf_1 l adK adV dC dI cy ad B (by omega) (by omega) qr s1   v145_6 (show 0 ≤ v145_6.toInt by omega) (show v145_6.toInt ≤ 11 by omega) v145_5 (show 0 ≤ v145_5.toInt by omega) (show v145_5.toInt ≤ 9 by omega) w12 H.size hT ) (cwV 2 hC.2.2.2.2 gX12_reaches_X12_otherOf rfl rfl rfl (by decide +kernel) ⟨Nat.le_of_ble_eq_true rfl, Nat.le_of_ble_eq_true rfl⟩) rfl hl.1 rfl (Nat.le_of_ble_eq_true rfl) dX12_reaches_194 (fun r168 w170 H locs hp169 hw => ?_)
                obtain ⟨rfl, hg177⟩ := hp169
                rcases hg177 with ⟨g172, g173⟩ | ⟨g174, g175, c176⟩
                · refine lv_istore (lv' := [(8, .int r168), (7, .int r61), (0, .ref (ad 0)), (1, .int a1), (2, .int a2), (3, .int a3), (4, .int a4), (5, .int v145_5), (6, .int v145_6)]) hx hb dX12_reaches_197 hl (by decide) rfl (fun ls hl => ?_)
                  refine lv_iload hx hb dX12_reaches_199 (lv_at hl 1 rfl) ?_
                  refine lv_ldcw (v := 100000000) hx hb hC.2.2.2.1 (hC.2.2.2.2 _ (List.mem_of_getElem? (i := 2) rfl)) dX12_reaches_201 ?_
                  refine lv_icmp_ge (tgt := 259) hx hb dX12_reaches_204 (by decide) (fun c => absurd c (fun h => absurd (show (100000000 : Int) ≤ r61.toInt from wk_le.mp h) (by omega))) (fun _ => ?_)
                  refine lv_iload hx hb dX12_reaches_207 (lv_at hl 1 rfl) ?_
                  refine lv_aload_n hx hb dX12_reaches_209 rfl (lv_at hl 2 rfl) ?_
                  refine lv_iload hx hb dX12_reaches_210 (lv_at hl 8 rfl) ?_
                  refine lv_iconst (v := 2) hx hb dX12_reaches_212 (by decide) ?_
                  refine tk_Vi hC hK hw hT hA hE hSR kM_at0 (by decide) rfl (k_X12_streetOf_6 l adK adV dC dI cy ad B (by omega) (by omega) qr s1   v145_6 (show 0 ≤ v145_6.toInt by omega) (show v145_6.toInt ≤ 11 by omega) w12 H.size hT ) (cwV 2 hC.2.2.2.2 gX12_reaches_X12_streetOf rfl rfl rfl (by decide +kernel) ⟨Nat.le_of_ble_eq_true rfl, Nat.le_of_ble_eq_true rfl⟩) rfl hl.1 rfl (Nat.le_of_ble_eq_true rfl) dX12_reaches_213 (fun r178 w180 H locs hp179 hw => ?_)
                  obtain ⟨rfl, hg185⟩ := hp179
                  obtain ⟨g182, g183, c184⟩ := hg185
                  refine lv_iadd hx hb dX12_reaches_216 ?_
                  refine lv_topi (fun x186 ex186 => ?_)
                  have ex186 : x186.toInt = r61.toInt + r178.toInt := by rw [ex186]; exact wk_add (show (-2147483648) ≤ r61.toInt + r178.toInt by omega) (show r61.toInt + r178.toInt ≤ 2147483647 by omega)
                  refine lv_iload hx hb dX12_reaches_217 (lv_at hl 6 rfl) ?_
                  refine lv_icmp_gt (tgt := 259) hx hb dX12_reaches_219 (by decide) (fun c187 => ?_) (fun c187 => ?_)
                  · have c187 : a4.toInt < x186.toInt := wk_lt.mp c187
                    have gb188 : 0 ≤ sumG 19 10 w12 ∧ sumG 19 10 w12 ≤ 10 := hT.sum (lo := 0) (hi := 1) kM_at19 rfl (by decide) rfl
                    exact J259 x49 H locs ls w12 (show 0 ≤ a1.toInt by omega) (show a1.toInt ≤ 9 by omega) (show 0 ≤ a2.toInt by omega) (show a2.toInt ≤ 9 by omega) (show 0 ≤ a3.toInt by omega) (show a3.toInt ≤ 99999 by omega) (show 2000 ≤ a4.toInt by omega) (show a4.toInt ≤ 101999 by omega) (show 0 ≤ v145_5.toInt by omega) (show v145_5.toInt ≤ 9 by omega) (show 0 ≤ v145_6.toInt by omega) (show v145_6.toInt ≤ 11 by omega) (show 0 ≤ f145_12_0.toInt by omega) (show f145_12_0.toInt ≤ 10 by omega) (show 1 ≤ x49.toInt by omega) (show x49.toInt ≤ 12 by omega) (show (sumG 19 10 w1) + 1 ≤ (sumG 19 10 w12) by omega)  hw hT hF c27 c50 (lv_sub hl [2, 3, 4, 5, 6, 7, 8] rfl)
                  · have c187 : x186.toInt ≤ a4.toInt := wk_ltF c187
                    refine lv_iload hx hb dX12_reaches_222 (lv_at hl 1 rfl) ?_
                    refine lv_aload_n hx hb dX12_reaches_224 rfl (lv_at hl 2 rfl) ?_
                    refine lv_iload hx hb dX12_reaches_225 (lv_at hl 8 rfl) ?_
                    refine lv_iconst (v := 2) hx hb dX12_reaches_227 (by decide) ?_
                    refine tk_Vi hC hK hw hT hA hE hSR kM_at0 (by decide) rfl (k_X12_streetOf_6 l adK adV dC dI cy ad B (by omega) (by omega) qr s1   v145_6 (show 0 ≤ v145_6.toInt by omega) (show v145_6.toInt ≤ 11 by omega) w12 H.size hT ) (cwV 2 hC.2.2.2.2 gX12_reaches_X12_streetOf rfl rfl rfl (by decide +kernel) ⟨Nat.le_of_ble_eq_true rfl, Nat.le_of_ble_eq_true rfl⟩) rfl hl.1 rfl (Nat.le_of_ble_eq_true rfl) dX12_reaches_228 (fun r189 w191 H locs hp190 hw => ?_)
                    obtain ⟨rfl, hg196⟩ := hp190
                    obtain ⟨g193, g194, c195⟩ := hg196
                    obtain rfl : r189 = r178 := c195.symm.trans c184
                    refine lv_iadd hx hb dX12_reaches_231 ?_
                    refine lv_topi (fun x197 ex197 => ?_)
                    have ex197 : x197.toInt = r61.toInt + r178.toInt := by rw [ex197]; exact wk_add (show (-2147483648) ≤ r61.toInt + r178.toInt by omega) (show r61.toInt + r178.toInt ≤ 2147483647 by omega)
                    refine lv_aload_n hx hb dX12_reaches_232 rfl (lv_at hl 2 rfl) ?_
                    refine tk_getA hC hK hw hT hinX12 kM_at0 (by decide) rfl 35 (by decide) (List.mem_of_getElem? (i := 1) rfl) rfl rfl dX12_reaches_233 ?_
                    refine lv_iload hx hb dX12_reaches_236 (lv_at hl 0 rfl) ?_
                    refine tk_iald hC hK hw hT kM_at18 rfl rfl (show 0 ≤ r168.toInt by omega) (show r168.toInt < 10 by omega) dX12_reaches_238 (fun x198 c199 rx198 tx198 => ?_)
                    refine lv_icmp_ge (tgt := 259) hx hb dX12_reaches_239 (by decide) (fun c200 => ?_) (fun c200 => ?_)
                    · have c200 : x198.toInt ≤ x197.toInt := wk_le.mp c200
                      have gb201 : 0 ≤ sumG 19 10 w12 ∧ sumG 19 10 w12 ≤ 10 := hT.sum (lo := 0) (hi := 1) kM_at19 rfl (by decide) rfl
                      exact J259 x49 H locs ls w12 (show 0 ≤ a1.toInt by omega) (show a1.toInt ≤ 9 by omega) (show 0 ≤ a2.toInt by omega) (show a2.toInt ≤ 9 by omega) (show 0 ≤ a3.toInt by omega) (show a3.toInt ≤ 99999 by omega) (show 2000 ≤ a4.toInt by omega) (show a4.toInt ≤ 101999 by omega) (show 0 ≤ v145_5.toInt by omega) (show v145_5.toInt ≤ 9 by omega) (show 0 ≤ v145_6.toInt by omega) (show v145_6.toInt ≤ 11 by omega) (show 0 ≤ f145_12_0.toInt by omega) (show f145_12_0.toInt ≤ 10 by omega) (show 1 ≤ x49.toInt by omega) (show x49.toInt ≤ 12 by omega) (show (sumG 19 10 w1) + 1 ≤ (sumG 19 10 w12) by omega)  hw hT hF c27 c50 (lv_sub hl [2, 3, 4, 5, 6, 7, 8] rfl)
                    · have c200 : x197.toInt < x198.toInt := wk_leF c200
                      refine lv_aload_n hx hb dX12_reaches_242 rfl (lv_at hl 2 rfl) ?_
                      refine tk_getA hC hK hw hT hinX12 kM_at0 (by decide) rfl 35 (by decide) (List.mem_of_getElem? (i := 1) rfl) rfl rfl dX12_reaches_243 ?_
                      refine lv_iload hx hb dX12_reaches_246 (lv_at hl 0 rfl) ?_
                      refine lv_iload hx hb dX12_reaches_248 (lv_at hl 1 rfl) ?_
                      refine lv_aload_n hx hb dX12_reaches_250 rfl (lv_at hl 2 rfl) ?_
                      refine lv_iload hx hb dX12_reaches_251 (lv_at hl 8 rfl) ?_
                      refine lv_iconst (v := 2) hx hb dX12_reaches_253 (by decide) ?_
                      refine tk_Vi hC hK hw hT hA hE hSR kM_at0 (by decide) rfl (k_X12_streetOf_6 l adK adV dC dI cy ad B (by omega) (by omega) qr s1   v145_6 (show 0 ≤ v145_6.toInt by omega) (show v145_6.toInt ≤ 11 by omega) w12 H.size hT ) (cwV 2 hC.2.2.2.2 gX12_reaches_X12_streetOf rfl rfl rfl (by decide +kernel) ⟨Nat.le_of_ble_eq_true rfl, Nat.le_of_ble_eq_true rfl⟩) rfl hl.1 rfl (Nat.le_of_ble_eq_true rfl) dX12_reaches_254 (fun r202 w204 H locs hp203 hw => ?_)
                      obtain ⟨rfl, hg209⟩ := hp203
                      obtain ⟨g206, g207, c208⟩ := hg209
                      obtain rfl : r202 = r178 := c208.symm.trans c184
                      refine lv_iadd hx hb dX12_reaches_257 ?_
                      refine lv_topi (fun x210 ex210 => ?_)
                      have ex210 : x210.toInt = r61.toInt + r178.toInt := by rw [ex210]; exact wk_add (show (-2147483648) ≤ r61.toInt + r178.toInt by omega) (show r61.toInt + r178.toInt ≤ 2147483647 by omega)
                      refine tk_iast hC hK hw hT kM_at18 (by decide) rfl rfl (show 0 ≤ r168.toInt by omega) (show r168.toInt < 10 by omega) (show 0 ≤ x210.toInt by omega) (show x210.toInt ≤ 100000100 by omega) dX12_reaches_258 (fun H locs w211 hw hT k213 c212 => ?_)
                      have gs214 : sumG 19 10 w211 = sumG 19 10 w12 := sumG_ne 10 k213 (tk_ne kM_at19 kM_at18 (by decide))
                      have hF := hF.put kM_at18 (inE_of (a := 0) (b := 10) (by decide) (show 0 ≤ r168.toInt.toNat by omega) (show r168.toInt.toNat ≤ 10 by omega)) k213
                      have c215 := k213.gi (Or.inl (tk_ne kM_at12 kM_at18 (by decide))) c27
                      have c216 := k213.gi (Or.inl (tk_ne kM_at12 kM_at18 (by decide))) c50
                      have c217 := k213.gi (Or.inl (tk_ne kM_at12 kM_at18 (by decide))) c69
                      have c218 := k213.gi (Or.inl (tk_ne kM_at12 kM_at18 (by decide))) c184
                      have gb219 : 0 ≤ sumG 19 10 w211 ∧ sumG 19 10 w211 ≤ 10 := hT.sum (lo := 0) (hi := 1) kM_at19 rfl (by decide) rfl
                      exact J259 x49 H locs ls w211 (show 0 ≤ a1.toInt by omega) (show a1.toInt ≤ 9 by omega) (show 0 ≤ a2.toInt by omega) (show a2.toInt ≤ 9 by omega) (show 0 ≤ a3.toInt by omega) (show a3.toInt ≤ 99999 by omega) (show 2000 ≤ a4.toInt by omega) (show a4.toInt ≤ 101999 by omega) (show 0 ≤ v145_5.toInt by omega) (show v145_5.toInt ≤ 9 by omega) (show 0 ≤ v145_6.toInt by omega) (show v145_6.toInt ≤ 11 by omega) (show 0 ≤ f145_12_0.toInt by omega) (show f145_12_0.toInt ≤ 10 by omega) (show 1 ≤ x49.toInt by omega) (show x49.toInt ≤ 12 by omega) (show (sumG 19 10 w1) + 1 ≤ (sumG 19 10 w211) by omega)  hw hT hF c215 c216 (lv_sub hl [2, 3, 4, 5, 6, 7, 8] rfl)
                · refine lv_istore (lv' := [(8, .int r168), (7, .int r61), (0, .ref (ad 0)), (1, .int a1), (2, .int a2), (3, .int a3), (4, .int a4), (5, .int v145_5), (6, .int v145_6)]) hx hb dX12_reaches_197 hl (by decide) rfl (fun ls hl => ?_)
                  refine lv_iload hx hb dX12_reaches_199 (lv_at hl 1 rfl) ?_
                  refine lv_ldcw (v := 100000000) hx hb hC.2.2.2.1 (hC.2.2.2.2 _ (List.mem_of_getElem? (i := 2) rfl)) dX12_reaches_201 ?_
                  refine lv_icmp_ge (tgt := 259) hx hb dX12_reaches_204 (by decide) (fun c => absurd c (fun h => absurd (show (100000000 : Int) ≤ r61.toInt from wk_le.mp h) (by omega))) (fun _ => ?_)
                  refine lv_iload hx hb dX12_reaches_207 (lv_at hl 1 rfl) ?_
                  refine lv_aload_n hx hb dX12_reaches_209 rfl (lv_at hl 2 rfl) ?_
                  refine lv_iload hx hb dX12_reaches_210 (lv_at hl 8 rfl) ?_
                  refine lv_iconst (v := 2) hx hb dX12_reaches_212 (by decide) ?_
                  refine tk_Vi hC hK hw hT hA hE hSR kM_at0 (by decide) rfl (k_X12_streetOf_6 l adK adV dC dI cy ad B (by omega) (by omega) qr s1   v145_6 (show 0 ≤ v145_6.toInt by omega) (show v145_6.toInt ≤ 11 by omega) w12 H.size hT ) (cwV 2 hC.2.2.2.2 gX12_reaches_X12_streetOf rfl rfl rfl (by decide +kernel) ⟨Nat.le_of_ble_eq_true rfl, Nat.le_of_ble_eq_true rfl⟩) rfl hl.1 rfl (Nat.le_of_ble_eq_true rfl) dX12_reaches_213 (fun r220 w222 H locs hp221 hw => ?_)
                  obtain ⟨rfl, hg227⟩ := hp221
                  obtain ⟨g224, g225, c226⟩ := hg227
                  refine lv_iadd hx hb dX12_reaches_216 ?_
                  refine lv_topi (fun x228 ex228 => ?_)
                  have ex228 : x228.toInt = r61.toInt + r220.toInt := by rw [ex228]; exact wk_add (show (-2147483648) ≤ r61.toInt + r220.toInt by omega) (show r61.toInt + r220.toInt ≤ 2147483647 by omega)
                  refine lv_iload hx hb dX12_reaches_217 (lv_at hl 6 rfl) ?_
                  refine lv_icmp_gt (tgt := 259) hx hb dX12_reaches_219 (by decide) (fun c229 => ?_) (fun c229 => ?_)
                  · have c229 : a4.toInt < x228.toInt := wk_lt.mp c229
                    have gb230 : 0 ≤ sumG 19 10 w12 ∧ sumG 19 10 w12 ≤ 10 := hT.sum (lo := 0) (hi := 1) kM_at19 rfl (by decide) rfl
                    exact J259 x49 H locs ls w12 (show 0 ≤ a1.toInt by omega) (show a1.toInt ≤ 9 by omega) (show 0 ≤ a2.toInt by omega) (show a2.toInt ≤ 9 by omega) (show 0 ≤ a3.toInt by omega) (show a3.toInt ≤ 99999 by omega) (show 2000 ≤ a4.toInt by omega) (show a4.toInt ≤ 101999 by omega) (show 0 ≤ v145_5.toInt by omega) (show v145_5.toInt ≤ 9 by omega) (show 0 ≤ v145_6.toInt by omega) (show v145_6.toInt ≤ 11 by omega) (show 0 ≤ f145_12_0.toInt by omega) (show f145_12_0.toInt ≤ 10 by omega) (show 1 ≤ x49.toInt by omega) (show x49.toInt ≤ 12 by omega) (show (sumG 19 10 w1) + 1 ≤ (sumG 19 10 w12) by omega)  hw hT hF c27 c50 (lv_sub hl [2, 3, 4, 5, 6, 7, 8] rfl)
                  · have c229 : x228.toInt ≤ a4.toInt := wk_ltF c229
                    refine lv_iload hx hb dX12_reaches_222 (lv_at hl 1 rfl) ?_
                    refine lv_aload_n hx hb dX12_reaches_224 rfl (lv_at hl 2 rfl) ?_
                    refine lv_iload hx hb dX12_reaches_225 (lv_at hl 8 rfl) ?_
                    refine lv_iconst (v := 2) hx hb dX12_reaches_227 (by decide) ?_
                    refine tk_Vi hC hK hw hT hA hE hSR kM_at0 (by decide) rfl (k_X12_streetOf_6 l adK adV dC dI cy ad B (by omega) (by omega) qr s1   v145_6 (show 0 ≤ v145_6.toInt by omega) (show v145_6.toInt ≤ 11 by omega) w12 H.size hT ) (cwV 2 hC.2.2.2.2 gX12_reaches_X12_streetOf rfl rfl rfl (by decide +kernel) ⟨Nat.le_of_ble_eq_true rfl, Nat.le_of_ble_eq_true rfl⟩) rfl hl.1 rfl (Nat.le_of_ble_eq_true rfl) dX12_reaches_228 (fun r231 w233 H locs hp232 hw => ?_)
                    obtain ⟨rfl, hg238⟩ := hp232
                    obtain ⟨g235, g236, c237⟩ := hg238
                    obtain rfl : r231 = r220 := c237.symm.trans c226
                    refine lv_iadd hx hb dX12_reaches_231 ?_
                    refine lv_topi (fun x239 ex239 => ?_)
                    have ex239 : x239.toInt = r61.toInt + r220.toInt := by rw [ex239]; exact wk_add (show (-2147483648) ≤ r61.toInt + r220.toInt by omega) (show r61.toInt + r220.toInt ≤ 2147483647 by omega)
                    refine lv_aload_n hx hb dX12_reaches_232 rfl (lv_at hl 2 rfl) ?_
                    refine tk_getA hC hK hw hT hinX12 kM_at0 (by decide) rfl 35 (by decide) (List.mem_of_getElem? (i := 1) rfl) rfl rfl dX12_reaches_233 ?_
                    refine lv_iload hx hb dX12_reaches_236 (lv_at hl 0 rfl) ?_
                    refine tk_iald hC hK hw hT kM_at18 rfl rfl (show 0 ≤ r168.toInt by omega) (show r168.toInt < 10 by omega) dX12_reaches_238 (fun x240 c241 rx240 tx240 => ?_)
                    refine lv_icmp_ge (tgt := 259) hx hb dX12_reaches_239 (by decide) (fun c242 => ?_) (fun c242 => ?_)
                    · have c242 : x240.toInt ≤ x239.toInt := wk_le.mp c242
                      have gb243 : 0 ≤ sumG 19 10 w12 ∧ sumG 19 10 w12 ≤ 10 := hT.sum (lo := 0) (hi := 1) kM_at19 rfl (by decide) rfl
                      exact J259 x49 H locs ls w12 (show 0 ≤ a1.toInt by omega) (show a1.toInt ≤ 9 by omega) (show 0 ≤ a2.toInt by omega) (show a2.toInt ≤ 9 by omega) (show 0 ≤ a3.toInt by omega) (show a3.toInt ≤ 99999 by omega) (show 2000 ≤ a4.toInt by omega) (show a4.toInt ≤ 101999 by omega) (show 0 ≤ v145_5.toInt by omega) (show v145_5.toInt ≤ 9 by omega) (show 0 ≤ v145_6.toInt by omega) (show v145_6.toInt ≤ 11 by omega) (show 0 ≤ f145_12_0.toInt by omega) (show f145_12_0.toInt ≤ 10 by omega) (show 1 ≤ x49.toInt by omega) (show x49.toInt ≤ 12 by omega) (show (sumG 19 10 w1) + 1 ≤ (sumG 19 10 w12) by omega)  hw hT hF c27 c50 (lv_sub hl [2, 3, 4, 5, 6, 7, 8] rfl)
                    · have c242 : x239.toInt < x240.toInt := wk_leF c242
                      refine lv_aload_n hx hb dX12_reaches_242 rfl (lv_at hl 2 rfl) ?_
                      refine tk_getA hC hK hw hT hinX12 kM_at0 (by decide) rfl 35 (by decide) (List.mem_of_getElem? (i := 1) rfl) rfl rfl dX12_reaches_243 ?_
                      refine lv_iload hx hb dX12_reaches_246 (lv_at hl 0 rfl) ?_
                      refine lv_iload hx hb dX12_reaches_248 (lv_at hl 1 rfl) ?_
                      refine lv_aload_n hx hb dX12_reaches_250 rfl (lv_at hl 2 rfl) ?_
                      refine lv_iload hx hb dX12_reaches_251 (lv_at hl 8 rfl) ?_
                      refine lv_iconst (v := 2) hx hb dX12_reaches_253 (by decide) ?_
                      refine tk_Vi hC hK hw hT hA hE hSR kM_at0 (by decide) rfl (k_X12_streetOf_6 l adK adV dC dI cy ad B (by omega) (by omega) qr s1   v145_6 (show 0 ≤ v145_6.toInt by omega) (show v145_6.toInt ≤ 11 by omega) w12 H.size hT ) (cwV 2 hC.2.2.2.2 gX12_reaches_X12_streetOf rfl rfl rfl (by decide +kernel) ⟨Nat.le_of_ble_eq_true rfl, Nat.le_of_ble_eq_true rfl⟩) rfl hl.1 rfl (Nat.le_of_ble_eq_true rfl) dX12_reaches_254 (fun r244 w246 H locs hp245 hw => ?_)
                      obtain ⟨rfl, hg251⟩ := hp245
                      obtain ⟨g248, g249, c250⟩ := hg251
                      obtain rfl : r244 = r220 := c250.symm.trans c226
                      refine lv_iadd hx hb dX12_reaches_257 ?_
                      refine lv_topi (fun x252 ex252 => ?_)
                      have ex252 : x252.toInt = r61.toInt + r220.toInt := by rw [ex252]; exact wk_add (show (-2147483648) ≤ r61.toInt + r220.toInt by omega) (show r61.toInt + r220.toInt ≤ 2147483647 by omega)
                      refine tk_iast hC hK hw hT kM_at18 (by decide) rfl rfl (show 0 ≤ r168.toInt by omega) (show r168.toInt < 10 by omega) (show 0 ≤ x252.toInt by omega) (show x252.toInt ≤ 100000100 by omega) dX12_reaches_258 (fun H locs w253 hw hT k255 c254 => ?_)
                      have gs256 : sumG 19 10 w253 = sumG 19 10 w12 := sumG_ne 10 k255 (tk_ne kM_at19 kM_at18 (by decide))
                      have hF := hF.put kM_at18 (inE_of (a := 0) (b := 10) (by decide) (show 0 ≤ r168.toInt.toNat by omega) (show r168.toInt.toNat ≤ 10 by omega)) k255
                      have c257 := k255.gi (Or.inl (tk_ne kM_at12 kM_at18 (by decide))) c27
                      have c258 := k255.gi (Or.inl (tk_ne kM_at12 kM_at18 (by decide))) c50
                      have c259 := k255.gi (Or.inl (tk_ne kM_at12 kM_at18 (by decide))) c69
                      have c260 := k255.gi (Or.inl (tk_ne kM_at12 kM_at18 (by decide))) c226
                      have gb261 : 0 ≤ sumG 19 10 w253 ∧ sumG 19 10 w253 ≤ 10 := hT.sum (lo := 0) (hi := 1) kM_at19 rfl (by decide) rfl
                      exact J259 x49 H locs ls w253 (show 0 ≤ a1.toInt by omega) (show a1.toInt ≤ 9 by omega) (show 0 ≤ a2.toInt by omega) (show a2.toInt ≤ 9 by omega) (show 0 ≤ a3.toInt by omega) (show a3.toInt ≤ 99999 by omega) (show 2000 ≤ a4.toInt by omega) (show a4.toInt ≤ 101999 by omega) (show 0 ≤ v145_5.toInt by omega) (show v145_5.toInt ≤ 9 by omega) (show 0 ≤ v145_6.toInt by omega) (show v145_6.toInt ≤ 11 by omega) (show 0 ≤ f145_12_0.toInt by omega) (show f145_12_0.toInt ≤ 10 by omega) (show 1 ≤ x49.toInt by omega) (show x49.toInt ≤ 12 by omega) (show (sumG 19 10 w1) + 1 ≤ (sumG 19 10 w253) by omega)  hw hT hF c257 c258 (lv_sub hl [2, 3, 4, 5, 6, 7, 8] rfl)
      have L59 : ∀ (n59 : Nat) (v59_5 : Int32) (v59_6 : Int32) (H : Heap) (locs : List Loc) (ls : Array Slot) (w262 : va_W), 0 ≤ a1.toInt → a1.toInt ≤ 9 → 0 ≤ a2.toInt → a2.toInt ≤ 9 → 0 ≤ a3.toInt → a3.toInt ≤ 99999 → 2000 ≤ a4.toInt → a4.toInt ≤ 101999 → (-1) ≤ v59_5.toInt → v59_5.toInt ≤ 9 → 0 ≤ v59_6.toInt → v59_6.toInt ≤ 10 → (sumG 19 10 w262) ≤ (sumG 19 10 w1) → (sumG 19 10 w1) ≤ (sumG 19 10 w262) → (v59_5.toInt = -1 ∨ (gi w262 19 (v59_5.toInt).toNat).toInt = 0) → (10 - v59_6.toInt).toNat < n59 → Wd dC dI A s.heap H locs w262 → TW ksM ad cy B qr 12 w262 → FE ksM [(77, 0, 10), (78, 0, 10)] w0 w262 → gi w262 19 (a2.toInt).toNat = 0 → lv_has ls 9 [(0, .ref (ad 0)), (1, .int a1), (2, .int a2), (3, .int a3), (4, .int a4), (5, .int v59_5), (6, .int v59_6)] → W p l e ({ frames := 5, cells := 0, slots := 0, locals := 105 }) s m (List.toArray [.ref (ad 0), .int a1, .int a2, .int a3, .int a4]) below meth c H locs 0 0 (MQ below (va_Qi (P_X12_reaches_1 ad cy B qr s1 a1 a2 a3 a4 w0) (fun u : va_W => wpost dC dI cy A u) A) (List.toArray [.ref (ad 0), .int a1, .int a2, .int a3, .int a4]) s 0 0 A) (F0 m 59 ls []) := by
        intro n59
        induction n59 with
        | zero => intro v59_5 v59_6 H locs ls w262 r263 t264 r265 t266 r267 t268 r269 t270 r271 t272 r273 t274 hcr59_0 hcr59_1 hcr59_2 hm59 hw hT hF c275 hl; omega
        | succ n59 ih59 =>
          intro v59_5 v59_6 H locs ls w262 r263 t264 r265 t266 r267 t268 r269 t270 r271 t272 r273 t274 hcr59_0 hcr59_1 hcr59_2 hm59 hw hT hF c275 hl
          have J119 : ∀ (v119_5 : Int32) (f119_12_0 : Int32) (f119_19__v59_6_toInt_toNat : Int32) (H : Heap) (locs : List Loc) (ls : Array Slot) (w276 : va_W), 0 ≤ a1.toInt → a1.toInt ≤ 9 → 0 ≤ a2.toInt → a2.toInt ≤ 9 → 0 ≤ a3.toInt → a3.toInt ≤ 99999 → 2000 ≤ a4.toInt → a4.toInt ≤ 101999 → (-1) ≤ v119_5.toInt → v119_5.toInt ≤ 9 → 0 ≤ v59_6.toInt → v59_6.toInt ≤ 9 → 1 ≤ f119_12_0.toInt → f119_12_0.toInt ≤ 10 → 0 ≤ f119_19__v59_6_toInt_toNat.toInt → f119_19__v59_6_toInt_toNat.toInt ≤ 1 → (sumG 19 10 w276) ≤ (sumG 19 10 w1) → (sumG 19 10 w1) ≤ (sumG 19 10 w276) → (v119_5.toInt = -1 ∨ (gi w276 19 (v119_5.toInt).toNat).toInt = 0) → Wd dC dI A s.heap H locs w276 → TW ksM ad cy B qr 12 w276 → FE ksM [(77, 0, 10), (78, 0, 10)] w0 w276 → gi w276 12 0 = f119_12_0 → gi w276 19 (a2.toInt).toNat = 0 → gi w276 19 (v59_6.toInt).toNat = f119_19__v59_6_toInt_toNat → lv_has ls 9 [(0, .ref (ad 0)), (1, .int a1), (2, .int a2), (3, .int a3), (4, .int a4), (5, .int v119_5), (6, .int v59_6)] → W p l e ({ frames := 5, cells := 0, slots := 0, locals := 105 }) s m (List.toArray [.ref (ad 0), .int a1, .int a2, .int a3, .int a4]) below meth c H locs 0 0 (MQ below (va_Qi (P_X12_reaches_1 ad cy B qr s1 a1 a2 a3 a4 w0) (fun u : va_W => wpost dC dI cy A u) A) (List.toArray [.ref (ad 0), .int a1, .int a2, .int a3, .int a4]) s 0 0 A) (F0 m 119 ls []) := by
            intro v119_5 f119_12_0 f119_19__v59_6_toInt_toNat H locs ls w276 r277 t278 r279 t280 r281 t282 r283 t284 r285 t286 r287 t288 r289 t290 r293 t294 hcr119_0 hcr119_1 hcr119_2 hw hT hF c291 c292 c295 hl
            obtain ⟨x296, ex296⟩ : ∃ y : Int32, y = v59_6 + Int32.ofInt 1 := ⟨_, rfl⟩
            refine lv_iinc (v := x296) (lv' := [(6, .int x296), (0, .ref (ad 0)), (1, .int a1), (2, .int a2), (3, .int a3), (4, .int a4), (5, .int v119_5)]) hx hb dX12_reaches_119 hl (k := 6) rfl ex296.symm (by decide) rfl (fun ls hl => ?_)
            have ex296 : x296.toInt = v59_6.toInt + 1 := by rw [ex296]; exact wk_add (y := 1) (show -2147483648 ≤ v59_6.toInt + 1 by omega) (show v59_6.toInt + 1 ≤ 2147483647 by omega)
            refine lv_goto (tgt := 59) hx hb dX12_reaches_122 (by decide) ?_
            have gb297 : 0 ≤ sumG 19 10 w276 ∧ sumG 19 10 w276 ≤ 10 := hT.sum (lo := 0) (hi := 1) kM_at19 rfl (by decide) rfl
            exact ih59 v119_5 x296 H locs ls w276 (show 0 ≤ a1.toInt by omega) (show a1.toInt ≤ 9 by omega) (show 0 ≤ a2.toInt by omega) (show a2.toInt ≤ 9 by omega) (show 0 ≤ a3.toInt by omega) (show a3.toInt ≤ 99999 by omega) (show 2000 ≤ a4.toInt by omega) (show a4.toInt ≤ 101999 by omega) (show (-1) ≤ v119_5.toInt by omega) (show v119_5.toInt ≤ 9 by omega) (show 0 ≤ x296.toInt by omega) (show x296.toInt ≤ 10 by omega) (show (sumG 19 10 w276) ≤ (sumG 19 10 w1) by omega) (show (sumG 19 10 w1) ≤ (sumG 19 10 w276) by omega) (show (v119_5.toInt = -1 ∨ (gi w276 19 (v119_5.toInt).toNat).toInt = 0) by first | omega | assumption | (left; omega) | (left; decide) | (right; assumption) | (right; rw [c292]; omega) | (right; rw [c292]; decide) | (right; rw [c295]; omega) | (right; rw [c295]; decide) | (right; rcases hcr59_2 with hx1 | hx1; · rw [← hx1]; exact (congrArg Int32.toInt ((hF.gi kM_at19 rfl rfl).symm.trans c292)).trans (by omega); · exact hx1) | (right; rcases hcr59_2 with hx1 | hx1; · rw [← hx1]; exact (congrArg Int32.toInt ((hF.gi kM_at19 rfl rfl).symm.trans c295)).trans (by omega); · exact hx1)) (show (10 - x296.toInt).toNat < n59 by omega) hw hT hF c292 (lv_sub hl [1, 2, 3, 4, 5, 6, 0] rfl)
          have J115 : ∀ (f115_12_0 : Int32) (H : Heap) (locs : List Loc) (ls : Array Slot) (w298 : va_W), 0 ≤ a1.toInt → a1.toInt ≤ 9 → 0 ≤ a2.toInt → a2.toInt ≤ 9 → 0 ≤ a3.toInt → a3.toInt ≤ 99999 → 2000 ≤ a4.toInt → a4.toInt ≤ 101999 → (-1) ≤ v59_5.toInt → v59_5.toInt ≤ 9 → 0 ≤ v59_6.toInt → v59_6.toInt ≤ 9 → 1 ≤ f115_12_0.toInt → f115_12_0.toInt ≤ 10 → (sumG 19 10 w298) ≤ (sumG 19 10 w1) → (sumG 19 10 w1) ≤ (sumG 19 10 w298) → (v59_5.toInt = -1 ∨ (gi w298 19 (v59_5.toInt).toNat).toInt = 0) → Wd dC dI A s.heap H locs w298 → TW ksM ad cy B qr 12 w298 → FE ksM [(77, 0, 10), (78, 0, 10)] w0 w298 → gi w298 12 0 = f115_12_0 → gi w298 19 (a2.toInt).toNat = 0 → gi w298 19 (v59_6.toInt).toNat = 0 → lv_has ls 9 [(0, .ref (ad 0)), (1, .int a1), (2, .int a2), (3, .int a3), (4, .int a4), (5, .int v59_5), (6, .int v59_6)] → W p l e ({ frames := 5, cells := 0, slots := 0, locals := 105 }) s m (List.toArray [.ref (ad 0), .int a1, .int a2, .int a3, .int a4]) below meth c H locs 0 0 (MQ below (va_Qi (P_X12_reaches_1 ad cy B qr s1 a1 a2 a3 a4 w0) (fun u : va_W => wpost dC dI cy A u) A) (List.toArray [.ref (ad 0), .int a1, .int a2, .int a3, .int a4]) s 0 0 A) (F0 m 115 ls []) := by
            intro f115_12_0 H locs ls w298 r299 t300 r301 t302 r303 t304 r305 t306 r307 t308 r309 t310 r311 t312 hcr115_0 hcr115_1 hcr115_2 hw hT hF c313 c314 c315 hl
            refine lv_iload hx hb dX12_reaches_115 (lv_at hl 6 rfl) ?_
            refine lv_istore (lv' := [(5, .int v59_6), (0, .ref (ad 0)), (1, .int a1), (2, .int a2), (3, .int a3), (4, .int a4), (6, .int v59_6)]) hx hb dX12_reaches_117 hl (by decide) rfl (fun ls hl => ?_)
            have gb316 : 0 ≤ sumG 19 10 w298 ∧ sumG 19 10 w298 ≤ 10 := hT.sum (lo := 0) (hi := 1) kM_at19 rfl (by decide) rfl
            exact J119 v59_6 f115_12_0 0 H locs ls w298 (show 0 ≤ a1.toInt by omega) (show a1.toInt ≤ 9 by omega) (show 0 ≤ a2.toInt by omega) (show a2.toInt ≤ 9 by omega) (show 0 ≤ a3.toInt by omega) (show a3.toInt ≤ 99999 by omega) (show 2000 ≤ a4.toInt by omega) (show a4.toInt ≤ 101999 by omega) (show (-1) ≤ v59_6.toInt by omega) (show v59_6.toInt ≤ 9 by omega) (show 0 ≤ v59_6.toInt by omega) (show v59_6.toInt ≤ 9 by omega) (show 1 ≤ f115_12_0.toInt by omega) (show f115_12_0.toInt ≤ 10 by omega) (by decide) (by decide) (show (sumG 19 10 w298) ≤ (sumG 19 10 w1) by omega) (show (sumG 19 10 w1) ≤ (sumG 19 10 w298) by omega) (show (v59_6.toInt = -1 ∨ (gi w298 19 (v59_6.toInt).toNat).toInt = 0) by first | omega | assumption | (left; omega) | (left; decide) | (right; assumption) | (right; rw [c314]; omega) | (right; rw [c314]; decide) | (right; rw [c315]; omega) | (right; rw [c315]; decide))  hw hT hF c313 c314 c315 (lv_sub hl [1, 2, 3, 4, 5, 0, 6] rfl)
          refine lv_iload hx hb dX12_reaches_59 (lv_at hl 6 rfl) ?_
          refine lv_aload_n hx hb dX12_reaches_61 rfl (lv_at hl 0 rfl) ?_
          refine tk_getA hC hK hw hT hinX12 kM_at0 (by decide) rfl 26 (by decide) (List.mem_of_getElem? (i := 4) rfl) rfl rfl dX12_reaches_62 ?_
          refine lv_iconst (v := 0) hx hb dX12_reaches_65 (by decide) ?_
          refine tk_ialdR hC hK hw hT kM_at12 rfl (by decide) (by decide) dX12_reaches_66 (fun x317 c318 Ex317 => ?_)
          have bx317 := tk_rgI rfl 0 1 1 0 10 (by decide +kernel) ⟨0, by decide, by decide⟩ Ex317
          have c318 : gi w262 12 0 = x317 := c318
          refine lv_icmp_ge (tgt := 125) hx hb dX12_reaches_67 (by decide) (fun c319 => ?_) (fun c319 => ?_)
          · have c319 : x317.toInt ≤ v59_6.toInt := wk_le.mp c319
            refine lv_iload hx hb dX12_reaches_125 (lv_at hl 5 rfl) ?_
            refine lv_if_ge (tgt := 134) hx hb dX12_reaches_127 (by decide) (fun c320 => ?_) (fun c320 => ?_)
            · have c320 : (0 : Int) ≤ v59_5.toInt := wk_le.mp c320
              refine lv_aload_n hx hb dX12_reaches_134 rfl (lv_at hl 0 rfl) ?_
              refine tk_getA hC hK hw hT hinX12 kM_at0 (by decide) rfl 36 (by decide) (List.mem_of_getElem? (i := 3) rfl) rfl rfl dX12_reaches_135 ?_
              refine lv_iload hx hb dX12_reaches_138 (lv_at hl 5 rfl) ?_
              refine lv_iconst (v := 1) hx hb dX12_reaches_140 (by decide) ?_
              refine tk_zast hC hK hw hT kM_at19 (by decide) rfl rfl (show 0 ≤ v59_5.toInt by omega) (show v59_5.toInt < 10 by omega) (by decide) (by decide) dX12_reaches_141 (fun H locs w321 hw hT k323 c322 => ?_)
              have gs324 : sumG 19 10 w321 = sumG 19 10 w262 - (gi w262 19 (v59_5.toInt.toNat)).toInt + (gi w321 19 (v59_5.toInt.toNat)).toInt := sumG_up (i := v59_5.toInt.toNat) k323 10 (show v59_5.toInt.toNat < 10 by omega)
              rw [show gi w321 19 (v59_5.toInt.toNat) = 1 from c322] at gs324
              rw [show (1 : Int32).toInt = 1 by decide] at gs324
              have hF := hF.put kM_at19 (inE_of (a := 0) (b := 10) (by decide) (show 0 ≤ v59_5.toInt.toNat by omega) (show v59_5.toInt.toNat ≤ 10 by omega)) k323
              have c325 := k323.gi (Or.inl (tk_ne kM_at12 kM_at19 (by decide))) c318
              refine lv_iconst (v := 0) hx hb dX12_reaches_142 (by decide) ?_
              refine lv_istore (lv' := [(6, .int 0), (0, .ref (ad 0)), (1, .int a1), (2, .int a2), (3, .int a3), (4, .int a4), (5, .int v59_5)]) hx hb dX12_reaches_143 hl (by decide) rfl (fun ls hl => ?_)
              have gb326 : 0 ≤ sumG 19 10 w321 ∧ sumG 19 10 w321 ≤ 10 := hT.sum (lo := 0) (hi := 1) kM_at19 rfl (by decide) rfl
              exact L145 ((12 - (0 : Int)).toNat + 1) v59_5 0 x317 H locs ls w321 (show 0 ≤ a1.toInt by omega) (show a1.toInt ≤ 9 by omega) (show 0 ≤ a2.toInt by omega) (show a2.toInt ≤ 9 by omega) (show 0 ≤ a3.toInt by omega) (show a3.toInt ≤ 99999 by omega) (show 2000 ≤ a4.toInt by omega) (show a4.toInt ≤ 101999 by omega) (show 0 ≤ v59_5.toInt by omega) (show v59_5.toInt ≤ 9 by omega) (by decide) (by decide) (show 0 ≤ x317.toInt by omega) (show x317.toInt ≤ 10 by omega) (show (sumG 19 10 w1) + 1 ≤ (sumG 19 10 w321) by omega) (Nat.lt_succ_self _) hw hT hF c325 (lv_sub hl [1, 2, 3, 4, 5, 6, 0] rfl)
            · have c320 : v59_5.toInt < (0 : Int) := wk_leF c320
              refine lv_ldcw (v := 100000000) hx hb hC.2.2.2.1 (hC.2.2.2.2 _ (List.mem_of_getElem? (i := 2) rfl)) dX12_reaches_130 ?_
              exact tk_iret hC hr hlocks hK ⟨hT, hF, ⟨(by decide), (by decide)⟩⟩ hw dX12_reaches_133
          · have c319 : v59_6.toInt < x317.toInt := wk_leF c319
            refine lv_aload_n hx hb dX12_reaches_70 rfl (lv_at hl 0 rfl) ?_
            refine tk_getA hC hK hw hT hinX12 kM_at0 (by decide) rfl 36 (by decide) (List.mem_of_getElem? (i := 3) rfl) rfl rfl dX12_reaches_71 ?_
            refine lv_iload hx hb dX12_reaches_74 (lv_at hl 6 rfl) ?_
            refine tk_zald hC hK hw hT kM_at19 rfl rfl (show 0 ≤ v59_6.toInt by omega) (show v59_6.toInt < 10 by omega) dX12_reaches_76 (fun x327 c328 rx327 tx327 => ?_)
            have c328 : gi w262 19 (v59_6.toInt).toNat = x327 := (congrArg (gi w262 19) (congrArg Int.toNat (show v59_6.toInt = v59_6.toInt by omega))).trans c328
            refine lv_if_ne (tgt := 119) hx hb dX12_reaches_77 (by decide) (fun c329 => ?_) (fun c329 => ?_)
            · have c329 : ¬ x327.toInt = (0 : Int) := wk_eqF c329
              have gb330 : 0 ≤ sumG 19 10 w262 ∧ sumG 19 10 w262 ≤ 10 := hT.sum (lo := 0) (hi := 1) kM_at19 rfl (by decide) rfl
              exact J119 v59_5 x317 x327 H locs ls w262 (show 0 ≤ a1.toInt by omega) (show a1.toInt ≤ 9 by omega) (show 0 ≤ a2.toInt by omega) (show a2.toInt ≤ 9 by omega) (show 0 ≤ a3.toInt by omega) (show a3.toInt ≤ 99999 by omega) (show 2000 ≤ a4.toInt by omega) (show a4.toInt ≤ 101999 by omega) (show (-1) ≤ v59_5.toInt by omega) (show v59_5.toInt ≤ 9 by omega) (show 0 ≤ v59_6.toInt by omega) (show v59_6.toInt ≤ 9 by omega) (show 1 ≤ x317.toInt by omega) (show x317.toInt ≤ 10 by omega) (show 0 ≤ x327.toInt by omega) (show x327.toInt ≤ 1 by omega) (show (sumG 19 10 w262) ≤ (sumG 19 10 w1) by omega) (show (sumG 19 10 w1) ≤ (sumG 19 10 w262) by omega) (show (v59_5.toInt = -1 ∨ (gi w262 19 (v59_5.toInt).toNat).toInt = 0) by first | omega | assumption | (left; omega) | (left; decide) | (right; assumption) | (right; rw [c275]; omega) | (right; rw [c275]; decide) | (right; rw [c328]; omega) | (right; rw [c328]; decide))  hw hT hF c318 c275 c328 (lv_sub hl [0, 1, 2, 3, 4, 5, 6] rfl)
            · have c329 : x327.toInt = (0 : Int) := wk_eq.mp c329
              refine lv_aload_n hx hb dX12_reaches_80 rfl (lv_at hl 0 rfl) ?_
              refine tk_getA hC hK hw hT hinX12 kM_at0 (by decide) rfl 35 (by decide) (List.mem_of_getElem? (i := 1) rfl) rfl rfl dX12_reaches_81 ?_
              refine lv_iload hx hb dX12_reaches_84 (lv_at hl 6 rfl) ?_
              refine tk_iald hC hK hw hT kM_at18 rfl rfl (show 0 ≤ v59_6.toInt by omega) (show v59_6.toInt < 10 by omega) dX12_reaches_86 (fun x331 c332 rx331 tx331 => ?_)
              refine lv_ldcw (v := 100000000) hx hb hC.2.2.2.1 (hC.2.2.2.2 _ (List.mem_of_getElem? (i := 2) rfl)) dX12_reaches_87 ?_
              refine lv_icmp_ge (tgt := 119) hx hb dX12_reaches_90 (by decide) (fun c333 => ?_) (fun c333 => ?_)
              · have c333 : (100000000 : Int) ≤ x331.toInt := wk_le.mp c333
                have gb334 : 0 ≤ sumG 19 10 w262 ∧ sumG 19 10 w262 ≤ 10 := hT.sum (lo := 0) (hi := 1) kM_at19 rfl (by decide) rfl
                exact J119 v59_5 x317 x327 H locs ls w262 (show 0 ≤ a1.toInt by omega) (show a1.toInt ≤ 9 by omega) (show 0 ≤ a2.toInt by omega) (show a2.toInt ≤ 9 by omega) (show 0 ≤ a3.toInt by omega) (show a3.toInt ≤ 99999 by omega) (show 2000 ≤ a4.toInt by omega) (show a4.toInt ≤ 101999 by omega) (show (-1) ≤ v59_5.toInt by omega) (show v59_5.toInt ≤ 9 by omega) (show 0 ≤ v59_6.toInt by omega) (show v59_6.toInt ≤ 9 by omega) (show 1 ≤ x317.toInt by omega) (show x317.toInt ≤ 10 by omega) (show 0 ≤ x327.toInt by omega) (show x327.toInt ≤ 1 by omega) (show (sumG 19 10 w262) ≤ (sumG 19 10 w1) by omega) (show (sumG 19 10 w1) ≤ (sumG 19 10 w262) by omega) (show (v59_5.toInt = -1 ∨ (gi w262 19 (v59_5.toInt).toNat).toInt = 0) by first | omega | assumption | (left; omega) | (left; decide) | (right; assumption) | (right; rw [c275]; omega) | (right; rw [c275]; decide) | (right; rw [c328]; omega) | (right; rw [c328]; decide))  hw hT hF c318 c275 c328 (lv_sub hl [0, 1, 2, 3, 4, 5, 6] rfl)
              · have c333 : x331.toInt < (100000000 : Int) := wk_leF c333
                refine lv_iload hx hb dX12_reaches_93 (lv_at hl 5 rfl) ?_
                refine lv_if_lt (tgt := 115) hx hb dX12_reaches_95 (by decide) (fun c335 => ?_) (fun c335 => ?_)
                · have c335 : v59_5.toInt < (0 : Int) := wk_lt.mp c335
                  have gb336 : 0 ≤ sumG 19 10 w262 ∧ sumG 19 10 w262 ≤ 10 := hT.sum (lo := 0) (hi := 1) kM_at19 rfl (by decide) rfl
                  obtain rfl : x327 = 0 := wk_eq.mpr (show x327.toInt = 0 by omega)
                  exact J115 x317 H locs ls w262 (show 0 ≤ a1.toInt by omega) (show a1.toInt ≤ 9 by omega) (show 0 ≤ a2.toInt by omega) (show a2.toInt ≤ 9 by omega) (show 0 ≤ a3.toInt by omega) (show a3.toInt ≤ 99999 by omega) (show 2000 ≤ a4.toInt by omega) (show a4.toInt ≤ 101999 by omega) (show (-1) ≤ v59_5.toInt by omega) (show v59_5.toInt ≤ 9 by omega) (show 0 ≤ v59_6.toInt by omega) (show v59_6.toInt ≤ 9 by omega) (show 1 ≤ x317.toInt by omega) (show x317.toInt ≤ 10 by omega) (show (sumG 19 10 w262) ≤ (sumG 19 10 w1) by omega) (show (sumG 19 10 w1) ≤ (sumG 19 10 w262) by omega) (show (v59_5.toInt = -1 ∨ (gi w262 19 (v59_5.toInt).toNat).toInt = 0) by first | omega | assumption | (left; omega) | (left; decide) | (right; assumption) | (right; rw [c275]; omega) | (right; rw [c275]; decide) | (right; rw [c328]; omega) | (right; rw [c328]; decide))  hw hT hF c318 c275 c328 (lv_sub hl [0, 1, 2, 3, 4, 5, 6] rfl)
                · have c335 : (0 : Int) ≤ v59_5.toInt := wk_ltF c335
                  refine lv_aload_n hx hb dX12_reaches_98 rfl (lv_at hl 0 rfl) ?_
                  refine tk_getA hC hK hw hT hinX12 kM_at0 (by decide) rfl 35 (by decide) (List.mem_of_getElem? (i := 1) rfl) rfl rfl dX12_reaches_99 ?_
                  refine lv_iload hx hb dX12_reaches_102 (lv_at hl 6 rfl) ?_
                  refine tk_iald hC hK hw hT kM_at18 rfl rfl (show 0 ≤ v59_6.toInt by omega) (show v59_6.toInt < 10 by omega) dX12_reaches_104 (fun x337 c338 rx337 tx337 => ?_)
                  refine lv_aload_n hx hb dX12_reaches_105 rfl (lv_at hl 0 rfl) ?_
                  refine tk_getA hC hK hw hT hinX12 kM_at0 (by decide) rfl 35 (by decide) (List.mem_of_getElem? (i := 1) rfl) rfl rfl dX12_reaches_106 ?_
                  refine lv_iload hx hb dX12_reaches_109 (lv_at hl 5 rfl) ?_
                  refine tk_iald hC hK hw hT kM_at18 rfl rfl (show 0 ≤ v59_5.toInt by omega) (show v59_5.toInt < 10 by omega) dX12_reaches_111 (fun x339 c340 rx339 tx339 => ?_)
                  refine lv_icmp_ge (tgt := 119) hx hb dX12_reaches_112 (by decide) (fun c341 => ?_) (fun c341 => ?_)
                  · have c341 : x339.toInt ≤ x337.toInt := wk_le.mp c341
                    have gb342 : 0 ≤ sumG 19 10 w262 ∧ sumG 19 10 w262 ≤ 10 := hT.sum (lo := 0) (hi := 1) kM_at19 rfl (by decide) rfl
                    exact J119 v59_5 x317 x327 H locs ls w262 (show 0 ≤ a1.toInt by omega) (show a1.toInt ≤ 9 by omega) (show 0 ≤ a2.toInt by omega) (show a2.toInt ≤ 9 by omega) (show 0 ≤ a3.toInt by omega) (show a3.toInt ≤ 99999 by omega) (show 2000 ≤ a4.toInt by omega) (show a4.toInt ≤ 101999 by omega) (show (-1) ≤ v59_5.toInt by omega) (show v59_5.toInt ≤ 9 by omega) (show 0 ≤ v59_6.toInt by omega) (show v59_6.toInt ≤ 9 by omega) (show 1 ≤ x317.toInt by omega) (show x317.toInt ≤ 10 by omega) (show 0 ≤ x327.toInt by omega) (show x327.toInt ≤ 1 by omega) (show (sumG 19 10 w262) ≤ (sumG 19 10 w1) by omega) (show (sumG 19 10 w1) ≤ (sumG 19 10 w262) by omega) (show (v59_5.toInt = -1 ∨ (gi w262 19 (v59_5.toInt).toNat).toInt = 0) by first | omega | assumption | (left; omega) | (left; decide) | (right; assumption) | (right; rw [c275]; omega) | (right; rw [c275]; decide) | (right; rw [c328]; omega) | (right; rw [c328]; decide))  hw hT hF c318 c275 c328 (lv_sub hl [0, 1, 2, 3, 4, 5, 6] rfl)
                  · have c341 : x337.toInt < x339.toInt := wk_leF c341
                    have gb343 : 0 ≤ sumG 19 10 w262 ∧ sumG 19 10 w262 ≤ 10 := hT.sum (lo := 0) (hi := 1) kM_at19 rfl (by decide) rfl
                    obtain rfl : x327 = 0 := wk_eq.mpr (show x327.toInt = 0 by omega)
                    exact J115 x317 H locs ls w262 (show 0 ≤ a1.toInt by omega) (show a1.toInt ≤ 9 by omega) (show 0 ≤ a2.toInt by omega) (show a2.toInt ≤ 9 by omega) (show 0 ≤ a3.toInt by omega) (show a3.toInt ≤ 99999 by omega) (show 2000 ≤ a4.toInt by omega) (show a4.toInt ≤ 101999 by omega) (show (-1) ≤ v59_5.toInt by omega) (show v59_5.toInt ≤ 9 by omega) (show 0 ≤ v59_6.toInt by omega) (show v59_6.toInt ≤ 9 by omega) (show 1 ≤ x317.toInt by omega) (show x317.toInt ≤ 10 by omega) (show (sumG 19 10 w262) ≤ (sumG 19 10 w1) by omega) (show (sumG 19 10 w1) ≤ (sumG 19 10 w262) by omega) (show (v59_5.toInt = -1 ∨ (gi w262 19 (v59_5.toInt).toNat).toInt = 0) by first | omega | assumption | (left; omega) | (left; decide) | (right; assumption) | (right; rw [c275]; omega) | (right; rw [c275]; decide) | (right; rw [c328]; omega) | (right; rw [c328]; decide))  hw hT hF c318 c275 c328 (lv_sub hl [0, 1, 2, 3, 4, 5, 6] rfl)
      refine lv_aload_n hx hb dX12_reaches_44 rfl (lv_at hl 0 rfl) ?_
      refine tk_getA hC hK hw hT hinX12 kM_at0 (by decide) rfl 36 (by decide) (List.mem_of_getElem? (i := 3) rfl) rfl rfl dX12_reaches_45 ?_
      refine lv_iload_n hx hb dX12_reaches_48 rfl (lv_at hl 2 rfl) ?_
      refine tk_zald hC hK hw hT kM_at19 rfl rfl (show 0 ≤ a2.toInt by omega) (show a2.toInt < 10 by omega) dX12_reaches_49 (fun x344 c345 rx344 tx344 => ?_)
      have c345 : gi w1 19 (a2.toInt).toNat = x344 := (congrArg (gi w1 19) (congrArg Int.toNat (show a2.toInt = a2.toInt by omega))).trans c345
      refine lv_if_ne (tgt := 268) hx hb dX12_reaches_50 (by decide) (fun c346 => ?_) (fun c346 => ?_)
      · have c346 : ¬ x344.toInt = (0 : Int) := wk_eqF c346
        refine lv_aload_n hx hb dX12_reaches_268 rfl (lv_at hl 0 rfl) ?_
        refine tk_getA hC hK hw hT hinX12 kM_at0 (by decide) rfl 35 (by decide) (List.mem_of_getElem? (i := 1) rfl) rfl rfl dX12_reaches_269 ?_
        refine lv_iload_n hx hb dX12_reaches_272 rfl (lv_at hl 2 rfl) ?_
        refine tk_iald hC hK hw hT kM_at18 rfl rfl (show 0 ≤ a2.toInt by omega) (show a2.toInt < 10 by omega) dX12_reaches_273 (fun x347 c348 rx347 tx347 => ?_)
        exact tk_iret hC hr hlocks hK ⟨hT, hF, ⟨(show 0 ≤ x347.toInt by omega), (show x347.toInt ≤ 100000100 by omega)⟩⟩ hw dX12_reaches_274
      · have c346 : x344.toInt = (0 : Int) := wk_eq.mp c346
        refine lv_iconst (v := (-1)) hx hb dX12_reaches_53 (by decide) ?_
        refine lv_istore (lv' := [(5, .int (-1)), (0, .ref (ad 0)), (1, .int a1), (2, .int a2), (3, .int a3), (4, .int a4)]) hx hb dX12_reaches_54 hl (by decide) rfl (fun ls hl => ?_)
        refine lv_iconst (v := 0) hx hb dX12_reaches_56 (by decide) ?_
        refine lv_istore (lv' := [(6, .int 0), (5, .int (-1)), (0, .ref (ad 0)), (1, .int a1), (2, .int a2), (3, .int a3), (4, .int a4)]) hx hb dX12_reaches_57 hl (by decide) rfl (fun ls hl => ?_)
        have gb349 : 0 ≤ sumG 19 10 w1 ∧ sumG 19 10 w1 ≤ 10 := hT.sum (lo := 0) (hi := 1) kM_at19 rfl (by decide) rfl
        obtain rfl : x344 = 0 := wk_eq.mpr (show x344.toInt = 0 by omega)
        exact L59 ((10 - (0 : Int)).toNat + 1) (-1) 0 H locs ls w1 (show 0 ≤ a1.toInt by omega) (show a1.toInt ≤ 9 by omega) (show 0 ≤ a2.toInt by omega) (show a2.toInt ≤ 9 by omega) (show 0 ≤ a3.toInt by omega) (show a3.toInt ≤ 99999 by omega) (show 2000 ≤ a4.toInt by omega) (show a4.toInt ≤ 101999 by omega) (by decide) (by decide) (by decide) (by decide) (show (sumG 19 10 w1) ≤ (sumG 19 10 w1) by omega) (show (sumG 19 10 w1) ≤ (sumG 19 10 w1) by omega) (show ((-1 : Int) = -1 ∨ (gi w1 19 ((-1 : Int)).toNat).toInt = 0) by first | omega | assumption | (left; omega) | (left; decide) | (right; assumption) | (right; rw [c345]; omega) | (right; rw [c345]; decide)) (Nat.lt_succ_self _) hw hT hF c345 (lv_sub hl [2, 3, 4, 5, 6, 1, 0] rfl)
  have L3 : ∀ (n3 : Nat) (v3_5 : Int32) (H : Heap) (locs : List Loc) (ls : Array Slot) (w350 : va_W), 0 ≤ a1.toInt → a1.toInt ≤ 9 → 0 ≤ a2.toInt → a2.toInt ≤ 9 → 0 ≤ a3.toInt → a3.toInt ≤ 99999 → 2000 ≤ a4.toInt → a4.toInt ≤ 101999 → 0 ≤ v3_5.toInt → v3_5.toInt ≤ 10 → (10 - v3_5.toInt).toNat < n3 → Wd dC dI A s.heap H locs w350 → TW ksM ad cy B qr 12 w350 → FE ksM [(77, 0, 10), (78, 0, 10)] w0 w350 → lv_has ls 9 [(0, .ref (ad 0)), (1, .int a1), (2, .int a2), (3, .int a3), (4, .int a4), (5, .int v3_5)] → W p l e ({ frames := 5, cells := 0, slots := 0, locals := 105 }) s m (List.toArray [.ref (ad 0), .int a1, .int a2, .int a3, .int a4]) below meth c H locs 0 0 (MQ below (va_Qi (P_X12_reaches_1 ad cy B qr s1 a1 a2 a3 a4 w0) (fun u : va_W => wpost dC dI cy A u) A) (List.toArray [.ref (ad 0), .int a1, .int a2, .int a3, .int a4]) s 0 0 A) (F0 m 3 ls []) := by
    intro n3
    induction n3 with
    | zero => intro v3_5 H locs ls w350 r351 t352 r353 t354 r355 t356 r357 t358 r359 t360 hm3 hw hT hF hl; omega
    | succ n3 ih3 =>
      intro v3_5 H locs ls w350 r351 t352 r353 t354 r355 t356 r357 t358 r359 t360 hm3 hw hT hF hl
      refine lv_iload hx hb dX12_reaches_3 (lv_at hl 5 rfl) ?_
      refine lv_bipush (v := 10) hx hb dX12_reaches_5 (by decide) ?_
      refine lv_icmp_ge (tgt := 44) hx hb dX12_reaches_7 (by decide) (fun c361 => ?_) (fun c361 => ?_)
      · have c361 : (10 : Int) ≤ v3_5.toInt := wk_le.mp c361
        have gb362 : 0 ≤ sumG 19 10 w350 ∧ sumG 19 10 w350 ≤ 10 := hT.sum (lo := 0) (hi := 1) kM_at19 rfl (by decide) rfl
        exact L44 ((10 - (sumG 19 10 w350)).toNat + 1) v3_5 H locs ls w350 (show 0 ≤ a1.toInt by omega) (show a1.toInt ≤ 9 by omega) (show 0 ≤ a2.toInt by omega) (show a2.toInt ≤ 9 by omega) (show 0 ≤ a3.toInt by omega) (show a3.toInt ≤ 99999 by omega) (show 2000 ≤ a4.toInt by omega) (show a4.toInt ≤ 101999 by omega) (show 0 ≤ v3_5.toInt by omega) (show v3_5.toInt ≤ 10 by omega) (show 0 ≤ (sumG 19 10 w350) by omega) (Nat.lt_succ_self _) hw hT hF  (lv_sub hl [0, 1, 2, 3, 4, 5] rfl)
      · have c361 : v3_5.toInt < (10 : Int) := wk_leF c361
        refine lv_aload_n hx hb dX12_reaches_10 rfl (lv_at hl 0 rfl) ?_
        refine tk_getA hC hK hw hT hinX12 kM_at0 (by decide) rfl 35 (by decide) (List.mem_of_getElem? (i := 1) rfl) rfl rfl dX12_reaches_11 ?_
        refine lv_iload hx hb dX12_reaches_14 (lv_at hl 5 rfl) ?_
        refine lv_iload hx hb dX12_reaches_16 (lv_at hl 5 rfl) ?_
        refine lv_iload_n hx hb dX12_reaches_18 rfl (lv_at hl 1 rfl) ?_
        refine lv_icmp_ne (tgt := 26) hx hb dX12_reaches_19 (by decide) (fun c363 => ?_) (fun c363 => ?_)
        · have c363 : ¬ v3_5.toInt = a1.toInt := wk_eqF c363
          refine lv_ldcw (v := 100000000) hx hb hC.2.2.2.1 (hC.2.2.2.2 _ (List.mem_of_getElem? (i := 2) rfl)) dX12_reaches_26 ?_
          refine tk_iast hC hK hw hT kM_at18 (by decide) rfl rfl (show 0 ≤ v3_5.toInt by omega) (show v3_5.toInt < 10 by omega) (by decide) (by decide) dX12_reaches_29 (fun H locs w364 hw hT k366 c365 => ?_)
          have gs367 : sumG 19 10 w364 = sumG 19 10 w350 := sumG_ne 10 k366 (tk_ne kM_at19 kM_at18 (by decide))
          have hF := hF.put kM_at18 (inE_of (a := 0) (b := 10) (by decide) (show 0 ≤ v3_5.toInt.toNat by omega) (show v3_5.toInt.toNat ≤ 10 by omega)) k366
          refine lv_aload_n hx hb dX12_reaches_30 rfl (lv_at hl 0 rfl) ?_
          refine tk_getA hC hK hw hT hinX12 kM_at0 (by decide) rfl 36 (by decide) (List.mem_of_getElem? (i := 3) rfl) rfl rfl dX12_reaches_31 ?_
          refine lv_iload hx hb dX12_reaches_34 (lv_at hl 5 rfl) ?_
          refine lv_iconst (v := 0) hx hb dX12_reaches_36 (by decide) ?_
          refine tk_zast hC hK hw hT kM_at19 (by decide) rfl rfl (show 0 ≤ v3_5.toInt by omega) (show v3_5.toInt < 10 by omega) (by decide) (by decide) dX12_reaches_37 (fun H locs w368 hw hT k370 c369 => ?_)
          have gs371 : sumG 19 10 w368 = sumG 19 10 w364 - (gi w364 19 (v3_5.toInt.toNat)).toInt + (gi w368 19 (v3_5.toInt.toNat)).toInt := sumG_up (i := v3_5.toInt.toNat) k370 10 (show v3_5.toInt.toNat < 10 by omega)
          rw [show gi w368 19 (v3_5.toInt.toNat) = 0 from c369] at gs371
          rw [show (0 : Int32).toInt = 0 by decide] at gs371
          have hF := hF.put kM_at19 (inE_of (a := 0) (b := 10) (by decide) (show 0 ≤ v3_5.toInt.toNat by omega) (show v3_5.toInt.toNat ≤ 10 by omega)) k370
          obtain ⟨x372, ex372⟩ : ∃ y : Int32, y = v3_5 + Int32.ofInt 1 := ⟨_, rfl⟩
          refine lv_iinc (v := x372) (lv' := [(5, .int x372), (0, .ref (ad 0)), (1, .int a1), (2, .int a2), (3, .int a3), (4, .int a4)]) hx hb dX12_reaches_38 hl (k := 5) rfl ex372.symm (by decide) rfl (fun ls hl => ?_)
          have ex372 : x372.toInt = v3_5.toInt + 1 := by rw [ex372]; exact wk_add (y := 1) (show -2147483648 ≤ v3_5.toInt + 1 by omega) (show v3_5.toInt + 1 ≤ 2147483647 by omega)
          refine lv_goto (tgt := 3) hx hb dX12_reaches_41 (by decide) ?_
          exact ih3 x372 H locs ls w368 (show 0 ≤ a1.toInt by omega) (show a1.toInt ≤ 9 by omega) (show 0 ≤ a2.toInt by omega) (show a2.toInt ≤ 9 by omega) (show 0 ≤ a3.toInt by omega) (show a3.toInt ≤ 99999 by omega) (show 2000 ≤ a4.toInt by omega) (show a4.toInt ≤ 101999 by omega) (show 0 ≤ x372.toInt by omega) (show x372.toInt ≤ 10 by omega) (show (10 - x372.toInt).toNat < n3 by omega) hw hT hF  (lv_sub hl [1, 2, 3, 4, 5, 0] rfl)
        · have c363 : v3_5.toInt = a1.toInt := wk_eq.mp c363
          refine lv_iload_n hx hb dX12_reaches_22 rfl (lv_at hl 3 rfl) ?_
          refine lv_goto (tgt := 29) hx hb dX12_reaches_23 (by decide) ?_
          refine tk_iast hC hK hw hT kM_at18 (by decide) rfl rfl (show 0 ≤ v3_5.toInt by omega) (show v3_5.toInt < 10 by omega) (show 0 ≤ a3.toInt by omega) (show a3.toInt ≤ 100000100 by omega) dX12_reaches_29 (fun H locs w373 hw hT k375 c374 => ?_)
          have gs376 : sumG 19 10 w373 = sumG 19 10 w350 := sumG_ne 10 k375 (tk_ne kM_at19 kM_at18 (by decide))
          have hF := hF.put kM_at18 (inE_of (a := 0) (b := 10) (by decide) (show 0 ≤ v3_5.toInt.toNat by omega) (show v3_5.toInt.toNat ≤ 10 by omega)) k375
          refine lv_aload_n hx hb dX12_reaches_30 rfl (lv_at hl 0 rfl) ?_
          refine tk_getA hC hK hw hT hinX12 kM_at0 (by decide) rfl 36 (by decide) (List.mem_of_getElem? (i := 3) rfl) rfl rfl dX12_reaches_31 ?_
          refine lv_iload hx hb dX12_reaches_34 (lv_at hl 5 rfl) ?_
          refine lv_iconst (v := 0) hx hb dX12_reaches_36 (by decide) ?_
          refine tk_zast hC hK hw hT kM_at19 (by decide) rfl rfl (show 0 ≤ v3_5.toInt by omega) (show v3_5.toInt < 10 by omega) (by decide) (by decide) dX12_reaches_37 (fun H locs w377 hw hT k379 c378 => ?_)
          have gs380 : sumG 19 10 w377 = sumG 19 10 w373 - (gi w373 19 (v3_5.toInt.toNat)).toInt + (gi w377 19 (v3_5.toInt.toNat)).toInt := sumG_up (i := v3_5.toInt.toNat) k379 10 (show v3_5.toInt.toNat < 10 by omega)
          rw [show gi w377 19 (v3_5.toInt.toNat) = 0 from c378] at gs380
          rw [show (0 : Int32).toInt = 0 by decide] at gs380
          have hF := hF.put kM_at19 (inE_of (a := 0) (b := 10) (by decide) (show 0 ≤ v3_5.toInt.toNat by omega) (show v3_5.toInt.toNat ≤ 10 by omega)) k379
          obtain ⟨x381, ex381⟩ : ∃ y : Int32, y = v3_5 + Int32.ofInt 1 := ⟨_, rfl⟩
          refine lv_iinc (v := x381) (lv' := [(5, .int x381), (0, .ref (ad 0)), (1, .int a1), (2, .int a2), (3, .int a3), (4, .int a4)]) hx hb dX12_reaches_38 hl (k := 5) rfl ex381.symm (by decide) rfl (fun ls hl => ?_)
          have ex381 : x381.toInt = v3_5.toInt + 1 := by rw [ex381]; exact wk_add (y := 1) (show -2147483648 ≤ v3_5.toInt + 1 by omega) (show v3_5.toInt + 1 ≤ 2147483647 by omega)
          refine lv_goto (tgt := 3) hx hb dX12_reaches_41 (by decide) ?_
          exact ih3 x381 H locs ls w377 (show 0 ≤ a1.toInt by omega) (show a1.toInt ≤ 9 by omega) (show 0 ≤ a2.toInt by omega) (show a2.toInt ≤ 9 by omega) (show 0 ≤ a3.toInt by omega) (show a3.toInt ≤ 99999 by omega) (show 2000 ≤ a4.toInt by omega) (show a4.toInt ≤ 101999 by omega) (show 0 ≤ x381.toInt by omega) (show x381.toInt ≤ 10 by omega) (show (10 - x381.toInt).toNat < n3 by omega) hw hT hF  (lv_sub hl [1, 2, 3, 4, 5, 0] rfl)
  refine lv_iconst (v := 0) hx hb dX12_reaches_0 (by decide) ?_
  refine lv_istore (lv' := [(5, .int 0), (0, .ref (ad 0)), (1, .int a1), (2, .int a2), (3, .int a3), (4, .int a4)]) hx hb dX12_reaches_1 hl (by decide) rfl (fun ls hl => ?_)
  exact L3 ((10 - (0 : Int)).toNat + 1) 0 s.heap locs ls w0 (show 0 ≤ a1.toInt by omega) (show a1.toInt ≤ 9 by omega) (show 0 ≤ a2.toInt by omega) (show a2.toInt ≤ 9 by omega) (show 0 ≤ a3.toInt by omega) (show a3.toInt ≤ 99999 by omega) (show 2000 ≤ a4.toInt by omega) (show a4.toInt ≤ 101999 by omega) (by decide) (by decide) (Nat.lt_succ_self _) hw hT hF  (lv_sub hl [1, 2, 3, 4, 5, 0] rfl)
abbrev P_X12_soonest_1 (ad : Nat → Nat) (cy : Nat → ClassId) (B : Int) (qr : Nat) (s1 : Int) (a1 : Int32) (a2 : Int32) (a3 : Int32) (w0 : va_W) : Int32 → va_W → Prop := fun r u => TW ksM ad cy B qr 12 u ∧ FE ksM [(77, 0, 10), (78, 0, 10)] w0 u ∧ ((r = (-2) ∧ 0 ≤ a1.toInt ∧ a1.toInt ≤ 9 ∧ 0 ≤ a2.toInt ∧ a2.toInt ≤ 9 ∧ 0 ≤ a3.toInt ∧ a3.toInt ≤ 99999 ∧ (∃ y : Int32, gi u 12 0 = y ∧ 1 ≤ y.toInt ∧ y.toInt ≤ 10)) ∨ (0 ≤ r.toInt ∧ r.toInt ≤ 100000100 ∧ 0 ≤ a1.toInt ∧ a1.toInt ≤ 9 ∧ 0 ≤ a2.toInt ∧ a2.toInt ≤ 9 ∧ 0 ≤ a3.toInt ∧ a3.toInt ≤ 99999 ∧ (∃ y : Int32, gi u 12 0 = y ∧ 1 ≤ y.toInt ∧ y.toInt ≤ 10)) ∨ (r = (-1)))
set_option maxHeartbeats 4000000 in
set_option maxRecDepth 100000 in
theorem k_X12_soonest_1 (l : Launch) (adK adV : Nat → Nat) (dC : Nat → ClassId) (dI : Nat → Nat → Nat) (cy : Nat → ClassId) (ad : Nat → Nat) (B : Int) (hB0 : 100000 ≤ B) (hB1 : B ≤ 1073741824) (qr : Nat) (s1 : Int)  (a1 : Int32) (a2 : Int32) (a3 : Int32) (w0 : va_W) (sz : Nat) (hT : TW ksM ad cy B qr 12 w0)  : Met l yX12_soonest wsX12_soonest ({ frames := 6, cells := 0, slots := 0, locals := 133 }) (va_Pc [.ref (ad 0), .int a1, .int a2, .int a3] (wpreS adK adV dC dI cy sz w0)) (va_Qi (P_X12_soonest_1 ad cy B qr s1 a1 a2 a3 w0) (fun u : va_W => wpost dC dI cy (va_A w0 sz) u) (va_A w0 sz)) 0 0 (va_A w0 sz) := by
  refine Met.ofW (cc := cX12_soonest) (maxL := 5) (ret := (some .int)) (by decide) rfl ?_
  intro p e s m args below meth c s₁ Bk hml hv
  obtain ⟨rfl, ⟨hsz, hP, hK, hD0⟩, hE, hSR⟩ := hv
  have hx := Bk.exec
  have hb := Bk.bytes
  have hr := Bk.returns
  have hlocks := Bk.notSynchronized
  have hC : CallFix p m c cX12_soonest 5 s _ wsX12_soonest RX12 := ⟨hx, hb, hml, findClass_of_methodNamed Bk.named, atoms_spec (ws := wsX12_soonest) Bk.pre⟩
  subst hsz
  have hD := hD0.self (sz := s.heap.size)
  generalize hAe : va_A w0 s.heap.size = A at hD hE ⊢
  have hA : ∀ q : Nat, s.heap.size ≤ q → A q := fun q h => by rw [← hAe]; exact Or.inr h
  have hw : Wd dC dI A s.heap s.heap [] w0 := ⟨hP, hD, va_S.rf⟩
  have hF : FE ksM [(77, 0, 10), (78, 0, 10)] w0 w0 := FE.rf
  have hl := lv_entry ([.ref (ad 0), .int a1, .int a2, .int a3]) (n := 5) (Nat.le_of_ble_eq_true rfl)
  rw [lg_entry_eq]
  generalize (lg_sl ([.ref (ad 0), .int a1, .int a2, .int a3]) ++ List.replicate (5 - (lg_sl ([.ref (ad 0), .int a1, .int a2, .int a3])).length) Slot.unset).toArray = ls at hl ⊢
  have hl : lv_has ls 5 [(0, .ref (ad 0)), (1, .int a1), (2, .int a2), (3, .int a3)] := hl
  generalize hloc : ([] : List Loc) = locs at hw ⊢
  refine lv_aload_n hx hb dX12_soonest_0 rfl (lv_at hl 0 rfl) ?_
  refine lv_iload_n hx hb dX12_soonest_1 rfl (lv_at hl 1 rfl) ?_
  refine lv_iload_n hx hb dX12_soonest_2 rfl (lv_at hl 2 rfl) ?_
  refine lv_iload_n hx hb dX12_soonest_3 rfl (lv_at hl 3 rfl) ?_
  refine tk_Vi hC hK hw hT hA hE hSR kM_at0 (by decide) rfl (k_X12_canLook_1 l adK adV dC dI cy ad B (by omega) (by omega) qr s1   a1 a2 a3 w0 s.heap.size hT ) (cwV 3 hC.2.2.2.2 gX12_soonest_X12_canLook rfl rfl rfl (by decide +kernel) ⟨Nat.le_of_ble_eq_true rfl, Nat.le_of_ble_eq_true rfl⟩) rfl hl.1 rfl (Nat.le_of_ble_eq_true rfl) dX12_soonest_4 (fun r1 w3 H locs hp2 hw => ?_)
  obtain ⟨rfl, hg13⟩ := hp2
  rcases hg13 with rfl | ⟨rfl, g5, g6, g7, g8, g9, g10, ⟨x11, c12, rx11, tx11⟩⟩
  · refine lv_if_ne (tgt := 12) hx hb dX12_soonest_7 (by decide) (fun c => absurd (by decide) c) (fun _ => ?_)
    refine lv_iconst (v := (-1)) hx hb dX12_soonest_10 (by decide) ?_
    exact tk_iret hC hr hlocks hK ⟨hT, hF, (Or.inr (Or.inr rfl))⟩ hw dX12_soonest_11
  · refine lv_if_ne (tgt := 12) hx hb dX12_soonest_7 (by decide) (fun _ => ?_) (fun c => absurd c (by decide))
    refine lv_aload_n hx hb dX12_soonest_12 rfl (lv_at hl 0 rfl) ?_
    refine lv_iload_n hx hb dX12_soonest_13 rfl (lv_at hl 1 rfl) ?_
    refine lv_iload_n hx hb dX12_soonest_14 rfl (lv_at hl 2 rfl) ?_
    refine lv_iload_n hx hb dX12_soonest_15 rfl (lv_at hl 3 rfl) ?_
    refine lv_iload_n hx hb dX12_soonest_16 rfl (lv_at hl 3 rfl) ?_
    refine lv_sipush (v := 2000) hx hb dX12_soonest_17 (by decide) ?_
    refine lv_iadd hx hb dX12_soonest_20 ?_
    refine lv_topi (fun x14 ex14 => ?_)
    have ex14 : x14.toInt = a3.toInt + (2000 : Int) := by rw [ex14]; exact wk_add (show (-2147483648) ≤ a3.toInt + (2000 : Int) by omega) (show a3.toInt + (2000 : Int) ≤ 2147483647 by omega)
    refine tk_Vi hC hK hw hT hA hE hSR kM_at0 (by decide) rfl (k_X12_reaches_1 l adK adV dC dI cy ad B (by omega) (by omega) qr s1   a1 (show 0 ≤ a1.toInt by omega) (show a1.toInt ≤ 9 by omega) a2 (show 0 ≤ a2.toInt by omega) (show a2.toInt ≤ 9 by omega) a3 (show 0 ≤ a3.toInt by omega) (show a3.toInt ≤ 99999 by omega) x14 (show 2000 ≤ x14.toInt by omega) (show x14.toInt ≤ 101999 by omega) w0 H.size hT ) (cwV 4 hC.2.2.2.2 gX12_soonest_X12_reaches rfl rfl rfl (by decide +kernel) ⟨Nat.le_of_ble_eq_true rfl, Nat.le_of_ble_eq_true rfl⟩) rfl hl.1 rfl (Nat.le_of_ble_eq_true rfl) dX12_soonest_21 (fun r15 w17 H locs hp16 hw => ?_)
    obtain ⟨hT, k18, hg21⟩ := hp16
    have hF := hF.tr k18 (by decide)
    have c22 := k18.gi kM_at12 (by decide) c12
    obtain ⟨g19, g20⟩ := hg21
    refine lv_istore (lv' := [(4, .int r15), (0, .ref (ad 0)), (1, .int a1), (2, .int a2), (3, .int a3)]) hx hb dX12_soonest_24 hl (by decide) rfl (fun ls hl => ?_)
    refine lv_iload hx hb dX12_soonest_26 (lv_at hl 0 rfl) ?_
    refine lv_ldcw (v := 100000000) hx hb hC.2.2.2.1 (hC.2.2.2.2 _ (List.mem_of_getElem? (i := 1) rfl)) dX12_soonest_28 ?_
    refine lv_icmp_ne (tgt := 39) hx hb dX12_soonest_31 (by decide) (fun c23 => ?_) (fun c23 => ?_)
    · have c23 : ¬ r15.toInt = (100000000 : Int) := wk_eqF c23
      refine lv_iload hx hb dX12_soonest_39 (lv_at hl 0 rfl) ?_
      exact tk_iret hC hr hlocks hK ⟨hT, hF, (Or.inr (Or.inl ⟨(show 0 ≤ r15.toInt by omega), (show r15.toInt ≤ 100000100 by omega), (show 0 ≤ a1.toInt by omega), (show a1.toInt ≤ 9 by omega), (show 0 ≤ a2.toInt by omega), (show a2.toInt ≤ 9 by omega), (show 0 ≤ a3.toInt by omega), (show a3.toInt ≤ 99999 by omega), ⟨x11, c22, (show 1 ≤ x11.toInt by omega), (show x11.toInt ≤ 10 by omega)⟩⟩))⟩ hw dX12_soonest_41
    · have c23 : r15.toInt = (100000000 : Int) := wk_eq.mp c23
      refine lv_bipush (v := (-2)) hx hb dX12_soonest_34 (by decide) ?_
      refine lv_goto (tgt := 41) hx hb dX12_soonest_36 (by decide) ?_
      exact tk_iret hC hr hlocks hK ⟨hT, hF, (Or.inl ⟨rfl, (show 0 ≤ a1.toInt by omega), (show a1.toInt ≤ 9 by omega), (show 0 ≤ a2.toInt by omega), (show a2.toInt ≤ 9 by omega), (show 0 ≤ a3.toInt by omega), (show a3.toInt ≤ 99999 by omega), ⟨x11, c22, (show 1 ≤ x11.toInt by omega), (show x11.toInt ≤ 10 by omega)⟩⟩)⟩ hw dX12_soonest_41
abbrev P_X12_isAt_2 (ad : Nat → Nat) (cy : Nat → ClassId) (B : Int) (qr : Nat) (s1 : Int) (a1 : Int32) (a2 : Int32) (w0 : va_W) : Int32 → va_W → Prop := fun r u => w0 = u ∧ ((r = 0) ∨ (r = 1 ∧ a2.toInt ≤ 9))
set_option maxHeartbeats 4000000 in
set_option maxRecDepth 100000 in
theorem k_X12_isAt_2 (l : Launch) (adK adV : Nat → Nat) (dC : Nat → ClassId) (dI : Nat → Nat → Nat) (cy : Nat → ClassId) (ad : Nat → Nat) (B : Int) (hB0 : 100000 ≤ B) (hB1 : B ≤ 1073741824) (qr : Nat) (s1 : Int)  (a1 : Int32) (ra1 : 0 ≤ a1.toInt) (ta1 : a1.toInt ≤ 11) (a2 : Int32) (ra2 : 0 ≤ a2.toInt) (ta2 : a2.toInt ≤ 12) (w0 : va_W) (sz : Nat) (hT : TW ksM ad cy B qr 12 w0)  : Met l yX12_isAt wsX12_isAt ({ frames := 2, cells := 0, slots := 0, locals := 34 }) (va_Pc [.ref (ad 0), .int a1, .int a2] (wpreS adK adV dC dI cy sz w0)) (va_Qi (P_X12_isAt_2 ad cy B qr s1 a1 a2 w0) (fun u : va_W => wpost dC dI cy (va_A w0 sz) u) (va_A w0 sz)) 0 0 (va_A w0 sz) := by
  refine Met.ofW (cc := cX12_isAt) (maxL := 3) (ret := (some .boolean)) (by decide) rfl ?_
  intro p e s m args below meth c s₁ Bk hml hv
  obtain ⟨rfl, ⟨hsz, hP, hK, hD0⟩, hE, hSR⟩ := hv
  have hx := Bk.exec
  have hb := Bk.bytes
  have hr := Bk.returns
  have hlocks := Bk.notSynchronized
  have hC : CallFix p m c cX12_isAt 3 s _ wsX12_isAt RX12 := ⟨hx, hb, hml, findClass_of_methodNamed Bk.named, atoms_spec (ws := wsX12_isAt) Bk.pre⟩
  subst hsz
  have hD := hD0.self (sz := s.heap.size)
  generalize hAe : va_A w0 s.heap.size = A at hD hE ⊢
  have hA : ∀ q : Nat, s.heap.size ≤ q → A q := fun q h => by rw [← hAe]; exact Or.inr h
  have hw : Wd dC dI A s.heap s.heap [] w0 := ⟨hP, hD, va_S.rf⟩
  have hF : FE ksM ([] : List (Nat × Nat × Nat)) w0 w0 := FE.rf
  have hl := lv_entry ([.ref (ad 0), .int a1, .int a2]) (n := 3) (Nat.le_of_ble_eq_true rfl)
  rw [lg_entry_eq]
  generalize (lg_sl ([.ref (ad 0), .int a1, .int a2]) ++ List.replicate (3 - (lg_sl ([.ref (ad 0), .int a1, .int a2])).length) Slot.unset).toArray = ls at hl ⊢
  have hl : lv_has ls 3 [(0, .ref (ad 0)), (1, .int a1), (2, .int a2)] := hl
  generalize hloc : ([] : List Loc) = locs at hw ⊢
  have J20 : ∀ (f20_12__10_a1_toInt_10_toNat : Int32) (H : Heap) (locs : List Loc) (ls : Array Slot), 0 ≤ a1.toInt → a1.toInt ≤ 11 → 0 ≤ a2.toInt → a2.toInt ≤ 9 → 0 ≤ f20_12__10_a1_toInt_10_toNat.toInt → f20_12__10_a1_toInt_10_toNat.toInt ≤ 9 → Wd dC dI A s.heap H locs w0 → gi w0 12 (10 * a1.toInt + 10).toNat = f20_12__10_a1_toInt_10_toNat → lv_has ls 3 [(0, .ref (ad 0)), (1, .int a1), (2, .int a2)] → W p l e ({ frames := 2, cells := 0, slots := 0, locals := 34 }) s m (List.toArray [.ref (ad 0), .int a1, .int a2]) below meth c H locs 0 0 (MQ below (va_Qi (P_X12_isAt_2 ad cy B qr s1 a1 a2 w0) (fun u : va_W => wpost dC dI cy A u) A) (List.toArray [.ref (ad 0), .int a1, .int a2]) s 0 0 A) (F0 m 20 ls []) := by
    intro f20_12__10_a1_toInt_10_toNat H locs ls r1 t2 r3 t4 r5 t6 hw c7 hl
    refine lv_iconst (v := 1) hx hb dX12_isAt_20 (by decide) ?_
    refine lv_goto (tgt := 25) hx hb dX12_isAt_21 (by decide) ?_
    exact tk_zret hC hr rfl hlocks hK ⟨rfl, (Or.inr ⟨rfl, (show a2.toInt ≤ 9 by omega)⟩)⟩ hw dX12_isAt_25
  refine lv_aload_n hx hb dX12_isAt_0 rfl (lv_at hl 0 rfl) ?_
  refine lv_iload_n hx hb dX12_isAt_1 rfl (lv_at hl 1 rfl) ?_
  refine lv_iconst (v := 0) hx hb dX12_isAt_2 (by decide) ?_
  refine tk_Vi hC hK hw hT hA hE hSR kM_at0 (by decide) rfl (k_X12_streetOf_2 l adK adV dC dI cy ad B (by omega) (by omega) qr s1   a1 (show 0 ≤ a1.toInt by omega) (show a1.toInt ≤ 11 by omega) w0 s.heap.size hT ) (cwV 2 hC.2.2.2.2 gX12_isAt_X12_streetOf rfl rfl rfl (by decide +kernel) ⟨Nat.le_of_ble_eq_true rfl, Nat.le_of_ble_eq_true rfl⟩) rfl hl.1 rfl (Nat.le_of_ble_eq_true rfl) dX12_isAt_3 (fun r8 w10 H locs hp9 hw => ?_)
  obtain ⟨rfl, hg15⟩ := hp9
  obtain ⟨g12, g13, c14⟩ := hg15
  refine lv_iload_n hx hb dX12_isAt_6 rfl (lv_at hl 2 rfl) ?_
  refine lv_icmp_eq (tgt := 20) hx hb dX12_isAt_7 (by decide) (fun c16 => ?_) (fun c16 => ?_)
  · have c16 : r8.toInt = a2.toInt := wk_eq.mp c16
    exact J20 r8 H locs ls  (show 0 ≤ a1.toInt by omega) (show a1.toInt ≤ 11 by omega) (show 0 ≤ a2.toInt by omega) (show a2.toInt ≤ 9 by omega) (show 0 ≤ r8.toInt by omega) (show r8.toInt ≤ 9 by omega)  hw  c14 (lv_sub hl [0, 1, 2] rfl)
  · have c16 : ¬ r8.toInt = a2.toInt := wk_eqF c16
    refine lv_aload_n hx hb dX12_isAt_10 rfl (lv_at hl 0 rfl) ?_
    refine lv_iload_n hx hb dX12_isAt_11 rfl (lv_at hl 1 rfl) ?_
    refine lv_iconst (v := 1) hx hb dX12_isAt_12 (by decide) ?_
    refine tk_Vi hC hK hw hT hA hE hSR kM_at0 (by decide) rfl (k_X12_streetOf_3 l adK adV dC dI cy ad B (by omega) (by omega) qr s1   a1 (show 0 ≤ a1.toInt by omega) (show a1.toInt ≤ 11 by omega) w0 H.size hT ) (cwV 2 hC.2.2.2.2 gX12_isAt_X12_streetOf rfl rfl rfl (by decide +kernel) ⟨Nat.le_of_ble_eq_true rfl, Nat.le_of_ble_eq_true rfl⟩) rfl hl.1 rfl (Nat.le_of_ble_eq_true rfl) dX12_isAt_13 (fun r17 w19 H locs hp18 hw => ?_)
    obtain ⟨rfl, hg24⟩ := hp18
    obtain ⟨g21, g22, c23⟩ := hg24
    refine lv_iload_n hx hb dX12_isAt_16 rfl (lv_at hl 2 rfl) ?_
    refine lv_icmp_ne (tgt := 24) hx hb dX12_isAt_17 (by decide) (fun c25 => ?_) (fun c25 => ?_)
    · have c25 : ¬ r17.toInt = a2.toInt := wk_eqF c25
      refine lv_iconst (v := 0) hx hb dX12_isAt_24 (by decide) ?_
      exact tk_zret hC hr rfl hlocks hK ⟨rfl, (Or.inl rfl)⟩ hw dX12_isAt_25
    · have c25 : r17.toInt = a2.toInt := wk_eq.mp c25
      exact J20 r8 H locs ls  (show 0 ≤ a1.toInt by omega) (show a1.toInt ≤ 11 by omega) (show 0 ≤ a2.toInt by omega) (show a2.toInt ≤ 9 by omega) (show 0 ≤ r8.toInt by omega) (show r8.toInt ≤ 9 by omega)  hw  c14 (lv_sub hl [0, 1, 2] rfl)
abbrev P_X12_isDayFor_3 (ad : Nat → Nat) (cy : Nat → ClassId) (B : Int) (qr : Nat) (s1 : Int) (a1 : Int32) (a2 : Int32) (a3 : Int32) (w0 : va_W) : Int32 → va_W → Prop := fun r u => w0 = u ∧ ((r = 0) ∨ (r = 0 ∧ gi u 12 (10 * a1.toInt + 10).toNat = a2) ∨ (r = 1) ∨ (r = 1 ∧ gi u 12 (10 * a1.toInt + 10).toNat = a2))
set_option maxHeartbeats 4000000 in
set_option maxRecDepth 100000 in
theorem k_X12_isDayFor_3 (l : Launch) (adK adV : Nat → Nat) (dC : Nat → ClassId) (dI : Nat → Nat → Nat) (cy : Nat → ClassId) (ad : Nat → Nat) (B : Int) (hB0 : 100000 ≤ B) (hB1 : B ≤ 1073741824) (qr : Nat) (s1 : Int)  (a1 : Int32) (ra1 : 0 ≤ a1.toInt) (ta1 : a1.toInt ≤ 11) (a2 : Int32) (ra2 : 0 ≤ a2.toInt) (ta2 : a2.toInt ≤ 9) (a3 : Int32) (ra3 : 0 ≤ a3.toInt) (ta3 : a3.toInt ≤ 4166670) (w0 : va_W) (sz : Nat) (hT : TW ksM ad cy B qr 12 w0)  : Met l yX12_isDayFor wsX12_isDayFor ({ frames := 3, cells := 0, slots := 0, locals := 57 }) (va_Pc [.ref (ad 0), .int a1, .int a2, .int a3] (wpreS adK adV dC dI cy sz w0)) (va_Qi (P_X12_isDayFor_3 ad cy B qr s1 a1 a2 a3 w0) (fun u : va_W => wpost dC dI cy (va_A w0 sz) u) (va_A w0 sz)) 0 0 (va_A w0 sz) := by
  refine Met.ofW (cc := cX12_isDayFor) (maxL := 4) (ret := (some .boolean)) (by decide) rfl ?_
  intro p e s m args below meth c s₁ Bk hml hv
  obtain ⟨rfl, ⟨hsz, hP, hK, hD0⟩, hE, hSR⟩ := hv
  have hx := Bk.exec
  have hb := Bk.bytes
  have hr := Bk.returns
  have hlocks := Bk.notSynchronized
  have hC : CallFix p m c cX12_isDayFor 4 s _ wsX12_isDayFor RX12 := ⟨hx, hb, hml, findClass_of_methodNamed Bk.named, atoms_spec (ws := wsX12_isDayFor) Bk.pre⟩
  subst hsz
  have hD := hD0.self (sz := s.heap.size)
  generalize hAe : va_A w0 s.heap.size = A at hD hE ⊢
  have hA : ∀ q : Nat, s.heap.size ≤ q → A q := fun q h => by rw [← hAe]; exact Or.inr h
  have hw : Wd dC dI A s.heap s.heap [] w0 := ⟨hP, hD, va_S.rf⟩
  have hF : FE ksM ([] : List (Nat × Nat × Nat)) w0 w0 := FE.rf
  have hl := lv_entry ([.ref (ad 0), .int a1, .int a2, .int a3]) (n := 4) (Nat.le_of_ble_eq_true rfl)
  rw [lg_entry_eq]
  generalize (lg_sl ([.ref (ad 0), .int a1, .int a2, .int a3]) ++ List.replicate (4 - (lg_sl ([.ref (ad 0), .int a1, .int a2, .int a3])).length) Slot.unset).toArray = ls at hl ⊢
  have hl : lv_has ls 4 [(0, .ref (ad 0)), (1, .int a1), (2, .int a2), (3, .int a3)] := hl
  generalize hloc : ([] : List Loc) = locs at hw ⊢
  have J62 : ∀ (f62_12__10_a1_toInt_10_toNat : Int32) (f62_12_2 : Int32) (H : Heap) (locs : List Loc) (ls : Array Slot), 0 ≤ a1.toInt → a1.toInt ≤ 11 → 0 ≤ a2.toInt → a2.toInt ≤ 9 → 0 ≤ a3.toInt → a3.toInt ≤ 4166670 → 0 ≤ f62_12__10_a1_toInt_10_toNat.toInt → f62_12__10_a1_toInt_10_toNat.toInt ≤ 9 → 1 ≤ f62_12_2.toInt → f62_12_2.toInt ≤ 8 → Wd dC dI A s.heap H locs w0 → gi w0 0 27 = 1 → gi w0 12 (10 * a1.toInt + 10).toNat = f62_12__10_a1_toInt_10_toNat → gi w0 12 2 = f62_12_2 → lv_has ls 4 [(0, .ref (ad 0)), (1, .int a1), (2, .int a2), (3, .int a3)] → W p l e ({ frames := 3, cells := 0, slots := 0, locals := 57 }) s m (List.toArray [.ref (ad 0), .int a1, .int a2, .int a3]) below meth c H locs 0 0 (MQ below (va_Qi (P_X12_isDayFor_3 ad cy B qr s1 a1 a2 a3 w0) (fun u : va_W => wpost dC dI cy A u) A) (List.toArray [.ref (ad 0), .int a1, .int a2, .int a3]) s 0 0 A) (F0 m 62 ls []) := by
    intro f62_12__10_a1_toInt_10_toNat f62_12_2 H locs ls r1 t2 r3 t4 r5 t6 r8 t9 r11 t12 hw c7 c10 c13 hl
    refine lv_iconst (v := 0) hx hb dX12_isDayFor_62 (by decide) ?_
    exact tk_zret hC hr rfl hlocks hK ⟨rfl, (Or.inl rfl)⟩ hw dX12_isDayFor_63
  refine lv_aload_n hx hb dX12_isDayFor_0 rfl (lv_at hl 0 rfl) ?_
  refine lv_aload_n hx hb dX12_isDayFor_1 rfl (lv_at hl 0 rfl) ?_
  refine lv_iload_n hx hb dX12_isDayFor_2 rfl (lv_at hl 1 rfl) ?_
  refine lv_iconst (v := 3) hx hb dX12_isDayFor_3 (by decide) ?_
  refine lv_iload_n hx hb dX12_isDayFor_4 rfl (lv_at hl 3 rfl) ?_
  refine lv_bipush (v := 7) hx hb dX12_isDayFor_5 (by decide) ?_
  refine lv_irem hx hb dX12_isDayFor_7 (by decide) ?_
  refine lv_topi (fun x14 ex14 => ?_)
  have ex14 : x14.toInt = a3.toInt % (7 : Int) := by rw [ex14]; exact wk_rem (show 0 ≤ a3.toInt by omega) (show 0 < (7 : Int) by decide)
  refine lv_iadd hx hb dX12_isDayFor_8 ?_
  refine lv_topi (fun x15 ex15 => ?_)
  have ex15 : x15.toInt = (3 : Int) + x14.toInt := by rw [ex15]; exact wk_add (show (-2147483648) ≤ (3 : Int) + x14.toInt by omega) (show (3 : Int) + x14.toInt ≤ 2147483647 by omega)
  refine tk_Vi hC hK hw hT hA hE hSR kM_at0 (by decide) rfl (k_X12_streetOf_4 l adK adV dC dI cy ad B (by omega) (by omega) qr s1   a1 (show 0 ≤ a1.toInt by omega) (show a1.toInt ≤ 11 by omega) x15 (show 3 ≤ x15.toInt by omega) (show x15.toInt ≤ 9 by omega) w0 s.heap.size hT ) (cwV 2 hC.2.2.2.2 gX12_isDayFor_X12_streetOf rfl rfl rfl (by decide +kernel) ⟨Nat.le_of_ble_eq_true rfl, Nat.le_of_ble_eq_true rfl⟩) rfl hl.1 rfl (Nat.le_of_ble_eq_true rfl) dX12_isDayFor_9 (fun r16 w18 H locs hp17 hw => ?_)
  obtain ⟨rfl, hg22⟩ := hp17
  obtain ⟨g20, g21⟩ := hg22
  refine lv_iload_n hx hb dX12_isDayFor_12 rfl (lv_at hl 1 rfl) ?_
  refine lv_iload_n hx hb dX12_isDayFor_13 rfl (lv_at hl 2 rfl) ?_
  refine tk_Vi hC hK hw hT hA hE hSR kM_at0 (by decide) rfl (k_X12_hasSign_1 l adK adV dC dI cy ad B (by omega) (by omega) qr s1   r16 (show 0 ≤ r16.toInt by omega) (show r16.toInt ≤ 9 by omega) a1 (show 0 ≤ a1.toInt by omega) (show a1.toInt ≤ 11 by omega) a2 (show 0 ≤ a2.toInt by omega) (show a2.toInt ≤ 9 by omega) w0 H.size hT ) (cwV 3 hC.2.2.2.2 gX12_isDayFor_X12_hasSign rfl rfl rfl (by decide +kernel) ⟨Nat.le_of_ble_eq_true rfl, Nat.le_of_ble_eq_true rfl⟩) rfl hl.1 rfl (Nat.le_of_ble_eq_true rfl) dX12_isDayFor_14 (fun r23 w25 H locs hp24 hw => ?_)
  obtain ⟨rfl, hg29⟩ := hp24
  rcases hg29 with rfl | ⟨rfl, c27⟩ | rfl | ⟨rfl, c28⟩
  · refine lv_if_ne (tgt := 22) hx hb dX12_isDayFor_17 (by decide) (fun c => absurd (by decide) c) (fun _ => ?_)
    refine lv_iconst (v := 0) hx hb dX12_isDayFor_20 (by decide) ?_
    exact tk_zret hC hr rfl hlocks hK ⟨rfl, (Or.inl rfl)⟩ hw dX12_isDayFor_21
  · refine lv_if_ne (tgt := 22) hx hb dX12_isDayFor_17 (by decide) (fun c => absurd (by decide) c) (fun _ => ?_)
    refine lv_iconst (v := 0) hx hb dX12_isDayFor_20 (by decide) ?_
    exact tk_zret hC hr rfl hlocks hK ⟨rfl, (Or.inr (Or.inl ⟨rfl, c27⟩))⟩ hw dX12_isDayFor_21
  · refine lv_if_ne (tgt := 22) hx hb dX12_isDayFor_17 (by decide) (fun _ => ?_) (fun c => absurd c (by decide))
    refine lv_aload_n hx hb dX12_isDayFor_22 rfl (lv_at hl 0 rfl) ?_
    refine lv_aload_n hx hb dX12_isDayFor_23 rfl (lv_at hl 0 rfl) ?_
    refine lv_iload_n hx hb dX12_isDayFor_24 rfl (lv_at hl 1 rfl) ?_
    refine lv_iconst (v := 0) hx hb dX12_isDayFor_25 (by decide) ?_
    refine tk_Vi hC hK hw hT hA hE hSR kM_at0 (by decide) rfl (k_X12_streetOf_2 l adK adV dC dI cy ad B (by omega) (by omega) qr s1   a1 (show 0 ≤ a1.toInt by omega) (show a1.toInt ≤ 11 by omega) w0 H.size hT ) (cwV 2 hC.2.2.2.2 gX12_isDayFor_X12_streetOf rfl rfl rfl (by decide +kernel) ⟨Nat.le_of_ble_eq_true rfl, Nat.le_of_ble_eq_true rfl⟩) rfl hl.1 rfl (Nat.le_of_ble_eq_true rfl) dX12_isDayFor_26 (fun r30 w32 H locs hp31 hw => ?_)
    obtain ⟨rfl, hg37⟩ := hp31
    obtain ⟨g34, g35, c36⟩ := hg37
    refine lv_iload_n hx hb dX12_isDayFor_29 rfl (lv_at hl 3 rfl) ?_
    refine lv_sipush (v := 360) hx hb dX12_isDayFor_30 (by decide) ?_
    refine lv_irem hx hb dX12_isDayFor_33 (by decide) ?_
    refine lv_topi (fun x38 ex38 => ?_)
    have ex38 : x38.toInt = a3.toInt % (360 : Int) := by rw [ex38]; exact wk_rem (show 0 ≤ a3.toInt by omega) (show 0 < (360 : Int) by decide)
    refine tk_Vi hC hK hw hT hA hE hSR kM_at0 (by decide) rfl (k_X12_isClosed_1 l adK adV dC dI cy ad B (by omega) (by omega) qr s1   r30 (show 0 ≤ r30.toInt by omega) (show r30.toInt ≤ 9 by omega) x38 (show 0 ≤ x38.toInt by omega) (show x38.toInt ≤ 359 by omega) w0 H.size hT ) (cwV 2 hC.2.2.2.2 gX12_isDayFor_X12_isClosed rfl rfl rfl (by decide +kernel) ⟨Nat.le_of_ble_eq_true rfl, Nat.le_of_ble_eq_true rfl⟩) rfl hl.1 rfl (Nat.le_of_ble_eq_true rfl) dX12_isDayFor_34 (fun r39 w41 H locs hp40 hw => ?_)
    obtain ⟨rfl, hg47⟩ := hp40
    rcases hg47 with rfl | ⟨rfl, ⟨x43, c44, rx43, tx43⟩, ⟨x45, c46, rx45, tx45⟩⟩
    · refine lv_if_ne (tgt := 62) hx hb dX12_isDayFor_37 (by decide) (fun c => absurd (by decide) c) (fun _ => ?_)
      refine lv_aload_n hx hb dX12_isDayFor_40 rfl (lv_at hl 0 rfl) ?_
      refine lv_aload_n hx hb dX12_isDayFor_41 rfl (lv_at hl 0 rfl) ?_
      refine lv_iload_n hx hb dX12_isDayFor_42 rfl (lv_at hl 1 rfl) ?_
      refine lv_iconst (v := 1) hx hb dX12_isDayFor_43 (by decide) ?_
      refine tk_Vi hC hK hw hT hA hE hSR kM_at0 (by decide) rfl (k_X12_streetOf_3 l adK adV dC dI cy ad B (by omega) (by omega) qr s1   a1 (show 0 ≤ a1.toInt by omega) (show a1.toInt ≤ 11 by omega) w0 H.size hT ) (cwV 2 hC.2.2.2.2 gX12_isDayFor_X12_streetOf rfl rfl rfl (by decide +kernel) ⟨Nat.le_of_ble_eq_true rfl, Nat.le_of_ble_eq_true rfl⟩) rfl hl.1 rfl (Nat.le_of_ble_eq_true rfl) dX12_isDayFor_44 (fun r48 w50 H locs hp49 hw => ?_)
      obtain ⟨rfl, hg55⟩ := hp49
      obtain ⟨g52, g53, c54⟩ := hg55
      refine lv_iload_n hx hb dX12_isDayFor_47 rfl (lv_at hl 3 rfl) ?_
      refine lv_sipush (v := 360) hx hb dX12_isDayFor_48 (by decide) ?_
      refine lv_irem hx hb dX12_isDayFor_51 (by decide) ?_
      refine lv_topi (fun x56 ex56 => ?_)
      have ex56 : x56.toInt = a3.toInt % (360 : Int) := by rw [ex56]; exact wk_rem (show 0 ≤ a3.toInt by omega) (show 0 < (360 : Int) by decide)
      refine tk_Vi hC hK hw hT hA hE hSR kM_at0 (by decide) rfl (k_X12_isClosed_1 l adK adV dC dI cy ad B (by omega) (by omega) qr s1   r48 (show 0 ≤ r48.toInt by omega) (show r48.toInt ≤ 9 by omega) x56 (show 0 ≤ x56.toInt by omega) (show x56.toInt ≤ 359 by omega) w0 H.size hT ) (cwV 2 hC.2.2.2.2 gX12_isDayFor_X12_isClosed rfl rfl rfl (by decide +kernel) ⟨Nat.le_of_ble_eq_true rfl, Nat.le_of_ble_eq_true rfl⟩) rfl hl.1 rfl (Nat.le_of_ble_eq_true rfl) dX12_isDayFor_52 (fun r57 w59 H locs hp58 hw => ?_)
      obtain ⟨rfl, hg65⟩ := hp58
      rcases hg65 with rfl | ⟨rfl, ⟨x61, c62, rx61, tx61⟩, ⟨x63, c64, rx63, tx63⟩⟩
      · refine lv_if_ne (tgt := 62) hx hb dX12_isDayFor_55 (by decide) (fun c => absurd (by decide) c) (fun _ => ?_)
        refine lv_iconst (v := 1) hx hb dX12_isDayFor_58 (by decide) ?_
        refine lv_goto (tgt := 63) hx hb dX12_isDayFor_59 (by decide) ?_
        exact tk_zret hC hr rfl hlocks hK ⟨rfl, (Or.inr (Or.inr (Or.inl rfl)))⟩ hw dX12_isDayFor_63
      · refine lv_if_ne (tgt := 62) hx hb dX12_isDayFor_55 (by decide) (fun _ => ?_) (fun c => absurd c (by decide))
        obtain rfl : x61 = 1 := wk_eq.mpr (show x61.toInt = 1 by omega)
        exact J62 r30 x63 H locs ls  (show 0 ≤ a1.toInt by omega) (show a1.toInt ≤ 11 by omega) (show 0 ≤ a2.toInt by omega) (show a2.toInt ≤ 9 by omega) (show 0 ≤ a3.toInt by omega) (show a3.toInt ≤ 4166670 by omega) (show 0 ≤ r30.toInt by omega) (show r30.toInt ≤ 9 by omega) (show 1 ≤ x63.toInt by omega) (show x63.toInt ≤ 8 by omega)  hw  c62 c36 c64 (lv_sub hl [0, 1, 2, 3] rfl)
    · refine lv_if_ne (tgt := 62) hx hb dX12_isDayFor_37 (by decide) (fun _ => ?_) (fun c => absurd c (by decide))
      obtain rfl : x43 = 1 := wk_eq.mpr (show x43.toInt = 1 by omega)
      exact J62 r30 x45 H locs ls  (show 0 ≤ a1.toInt by omega) (show a1.toInt ≤ 11 by omega) (show 0 ≤ a2.toInt by omega) (show a2.toInt ≤ 9 by omega) (show 0 ≤ a3.toInt by omega) (show a3.toInt ≤ 4166670 by omega) (show 0 ≤ r30.toInt by omega) (show r30.toInt ≤ 9 by omega) (show 1 ≤ x45.toInt by omega) (show x45.toInt ≤ 8 by omega)  hw  c44 c36 c46 (lv_sub hl [0, 1, 2, 3] rfl)
  · refine lv_if_ne (tgt := 22) hx hb dX12_isDayFor_17 (by decide) (fun _ => ?_) (fun c => absurd c (by decide))
    refine lv_aload_n hx hb dX12_isDayFor_22 rfl (lv_at hl 0 rfl) ?_
    refine lv_aload_n hx hb dX12_isDayFor_23 rfl (lv_at hl 0 rfl) ?_
    refine lv_iload_n hx hb dX12_isDayFor_24 rfl (lv_at hl 1 rfl) ?_
    refine lv_iconst (v := 0) hx hb dX12_isDayFor_25 (by decide) ?_
    refine tk_Vi hC hK hw hT hA hE hSR kM_at0 (by decide) rfl (k_X12_streetOf_2 l adK adV dC dI cy ad B (by omega) (by omega) qr s1   a1 (show 0 ≤ a1.toInt by omega) (show a1.toInt ≤ 11 by omega) w0 H.size hT ) (cwV 2 hC.2.2.2.2 gX12_isDayFor_X12_streetOf rfl rfl rfl (by decide +kernel) ⟨Nat.le_of_ble_eq_true rfl, Nat.le_of_ble_eq_true rfl⟩) rfl hl.1 rfl (Nat.le_of_ble_eq_true rfl) dX12_isDayFor_26 (fun r66 w68 H locs hp67 hw => ?_)
    obtain ⟨rfl, hg73⟩ := hp67
    obtain ⟨g70, g71, c72⟩ := hg73
    obtain rfl : r66 = a2 := c72.symm.trans c28
    refine lv_iload_n hx hb dX12_isDayFor_29 rfl (lv_at hl 3 rfl) ?_
    refine lv_sipush (v := 360) hx hb dX12_isDayFor_30 (by decide) ?_
    refine lv_irem hx hb dX12_isDayFor_33 (by decide) ?_
    refine lv_topi (fun x74 ex74 => ?_)
    have ex74 : x74.toInt = a3.toInt % (360 : Int) := by rw [ex74]; exact wk_rem (show 0 ≤ a3.toInt by omega) (show 0 < (360 : Int) by decide)
    refine tk_Vi hC hK hw hT hA hE hSR kM_at0 (by decide) rfl (k_X12_isClosed_1 l adK adV dC dI cy ad B (by omega) (by omega) qr s1   a2 (show 0 ≤ a2.toInt by omega) (show a2.toInt ≤ 9 by omega) x74 (show 0 ≤ x74.toInt by omega) (show x74.toInt ≤ 359 by omega) w0 H.size hT ) (cwV 2 hC.2.2.2.2 gX12_isDayFor_X12_isClosed rfl rfl rfl (by decide +kernel) ⟨Nat.le_of_ble_eq_true rfl, Nat.le_of_ble_eq_true rfl⟩) rfl hl.1 rfl (Nat.le_of_ble_eq_true rfl) dX12_isDayFor_34 (fun r75 w77 H locs hp76 hw => ?_)
    obtain ⟨rfl, hg83⟩ := hp76
    rcases hg83 with rfl | ⟨rfl, ⟨x79, c80, rx79, tx79⟩, ⟨x81, c82, rx81, tx81⟩⟩
    · refine lv_if_ne (tgt := 62) hx hb dX12_isDayFor_37 (by decide) (fun c => absurd (by decide) c) (fun _ => ?_)
      refine lv_aload_n hx hb dX12_isDayFor_40 rfl (lv_at hl 0 rfl) ?_
      refine lv_aload_n hx hb dX12_isDayFor_41 rfl (lv_at hl 0 rfl) ?_
      refine lv_iload_n hx hb dX12_isDayFor_42 rfl (lv_at hl 1 rfl) ?_
      refine lv_iconst (v := 1) hx hb dX12_isDayFor_43 (by decide) ?_
      refine tk_Vi hC hK hw hT hA hE hSR kM_at0 (by decide) rfl (k_X12_streetOf_3 l adK adV dC dI cy ad B (by omega) (by omega) qr s1   a1 (show 0 ≤ a1.toInt by omega) (show a1.toInt ≤ 11 by omega) w0 H.size hT ) (cwV 2 hC.2.2.2.2 gX12_isDayFor_X12_streetOf rfl rfl rfl (by decide +kernel) ⟨Nat.le_of_ble_eq_true rfl, Nat.le_of_ble_eq_true rfl⟩) rfl hl.1 rfl (Nat.le_of_ble_eq_true rfl) dX12_isDayFor_44 (fun r84 w86 H locs hp85 hw => ?_)
      obtain ⟨rfl, hg91⟩ := hp85
      obtain ⟨g88, g89, c90⟩ := hg91
      refine lv_iload_n hx hb dX12_isDayFor_47 rfl (lv_at hl 3 rfl) ?_
      refine lv_sipush (v := 360) hx hb dX12_isDayFor_48 (by decide) ?_
      refine lv_irem hx hb dX12_isDayFor_51 (by decide) ?_
      refine lv_topi (fun x92 ex92 => ?_)
      have ex92 : x92.toInt = a3.toInt % (360 : Int) := by rw [ex92]; exact wk_rem (show 0 ≤ a3.toInt by omega) (show 0 < (360 : Int) by decide)
      refine tk_Vi hC hK hw hT hA hE hSR kM_at0 (by decide) rfl (k_X12_isClosed_1 l adK adV dC dI cy ad B (by omega) (by omega) qr s1   r84 (show 0 ≤ r84.toInt by omega) (show r84.toInt ≤ 9 by omega) x92 (show 0 ≤ x92.toInt by omega) (show x92.toInt ≤ 359 by omega) w0 H.size hT ) (cwV 2 hC.2.2.2.2 gX12_isDayFor_X12_isClosed rfl rfl rfl (by decide +kernel) ⟨Nat.le_of_ble_eq_true rfl, Nat.le_of_ble_eq_true rfl⟩) rfl hl.1 rfl (Nat.le_of_ble_eq_true rfl) dX12_isDayFor_52 (fun r93 w95 H locs hp94 hw => ?_)
      obtain ⟨rfl, hg101⟩ := hp94
      rcases hg101 with rfl | ⟨rfl, ⟨x97, c98, rx97, tx97⟩, ⟨x99, c100, rx99, tx99⟩⟩
      · refine lv_if_ne (tgt := 62) hx hb dX12_isDayFor_55 (by decide) (fun c => absurd (by decide) c) (fun _ => ?_)
        refine lv_iconst (v := 1) hx hb dX12_isDayFor_58 (by decide) ?_
        refine lv_goto (tgt := 63) hx hb dX12_isDayFor_59 (by decide) ?_
        exact tk_zret hC hr rfl hlocks hK ⟨rfl, (Or.inr (Or.inr (Or.inr ⟨rfl, c28⟩)))⟩ hw dX12_isDayFor_63
      · refine lv_if_ne (tgt := 62) hx hb dX12_isDayFor_55 (by decide) (fun _ => ?_) (fun c => absurd c (by decide))
        obtain rfl : x97 = 1 := wk_eq.mpr (show x97.toInt = 1 by omega)
        exact J62 a2 x99 H locs ls  (show 0 ≤ a1.toInt by omega) (show a1.toInt ≤ 11 by omega) (show 0 ≤ a2.toInt by omega) (show a2.toInt ≤ 9 by omega) (show 0 ≤ a3.toInt by omega) (show a3.toInt ≤ 4166670 by omega) (show 0 ≤ a2.toInt by omega) (show a2.toInt ≤ 9 by omega) (show 1 ≤ x99.toInt by omega) (show x99.toInt ≤ 8 by omega)  hw  c98 c28 c100 (lv_sub hl [0, 1, 2, 3] rfl)
    · refine lv_if_ne (tgt := 62) hx hb dX12_isDayFor_37 (by decide) (fun _ => ?_) (fun c => absurd c (by decide))
      obtain rfl : x79 = 1 := wk_eq.mpr (show x79.toInt = 1 by omega)
      exact J62 a2 x81 H locs ls  (show 0 ≤ a1.toInt by omega) (show a1.toInt ≤ 11 by omega) (show 0 ≤ a2.toInt by omega) (show a2.toInt ≤ 9 by omega) (show 0 ≤ a3.toInt by omega) (show a3.toInt ≤ 4166670 by omega) (show 0 ≤ a2.toInt by omega) (show a2.toInt ≤ 9 by omega) (show 1 ≤ x81.toInt by omega) (show x81.toInt ≤ 8 by omega)  hw  c80 c28 c82 (lv_sub hl [0, 1, 2, 3] rfl)
abbrev P_X12_isLifted_3 (ad : Nat → Nat) (cy : Nat → ClassId) (B : Int) (qr : Nat) (s1 : Int) (a1 : Int32) (a2 : Int32) (w0 : va_W) : Int32 → va_W → Prop := fun r u => w0 = u ∧ ((r = 0) ∨ (r = 1 ∧ (∃ y : Int32, gi u 12 3 = y ∧ 1 ≤ y.toInt ∧ y.toInt ≤ 4)))
set_option maxHeartbeats 4000000 in
set_option maxRecDepth 100000 in
theorem k_X12_isLifted_3 (l : Launch) (adK adV : Nat → Nat) (dC : Nat → ClassId) (dI : Nat → Nat → Nat) (cy : Nat → ClassId) (ad : Nat → Nat) (B : Int) (hB0 : 100000 ≤ B) (hB1 : B ≤ 1073741824) (qr : Nat) (s1 : Int)  (a1 : Int32) (ra1 : 0 ≤ a1.toInt) (ta1 : a1.toInt ≤ 11) (a2 : Int32) (ra2 : 0 ≤ a2.toInt) (ta2 : a2.toInt ≤ 100000100) (w0 : va_W) (sz : Nat) (hT : TW ksM ad cy B qr 12 w0)  : Met l yX12_isLifted wsX12_isLifted ({ frames := 1, cells := 0, slots := 0, locals := 12 }) (va_Pc [.ref (ad 0), .int a1, .int a2] (wpreS adK adV dC dI cy sz w0)) (va_Qi (P_X12_isLifted_3 ad cy B qr s1 a1 a2 w0) (fun u : va_W => wpost dC dI cy (va_A w0 sz) u) (va_A w0 sz)) 0 0 (va_A w0 sz) := by
  refine Met.ofW (cc := cX12_isLifted) (maxL := 5) (ret := (some .boolean)) (by decide) rfl ?_
  intro p e s m args below meth c s₁ Bk hml hv
  obtain ⟨rfl, ⟨hsz, hP, hK, hD0⟩, hE, hSR⟩ := hv
  have hx := Bk.exec
  have hb := Bk.bytes
  have hr := Bk.returns
  have hlocks := Bk.notSynchronized
  have hC : CallFix p m c cX12_isLifted 5 s _ wsX12_isLifted RX12 := ⟨hx, hb, hml, findClass_of_methodNamed Bk.named, atoms_spec (ws := wsX12_isLifted) Bk.pre⟩
  subst hsz
  have hD := hD0.self (sz := s.heap.size)
  generalize hAe : va_A w0 s.heap.size = A at hD hE ⊢
  have hA : ∀ q : Nat, s.heap.size ≤ q → A q := fun q h => by rw [← hAe]; exact Or.inr h
  have hw : Wd dC dI A s.heap s.heap [] w0 := ⟨hP, hD, va_S.rf⟩
  have hF : FE ksM ([] : List (Nat × Nat × Nat)) w0 w0 := FE.rf
  have hl := lv_entry ([.ref (ad 0), .int a1, .int a2]) (n := 5) (Nat.le_of_ble_eq_true rfl)
  rw [lg_entry_eq]
  generalize (lg_sl ([.ref (ad 0), .int a1, .int a2]) ++ List.replicate (5 - (lg_sl ([.ref (ad 0), .int a1, .int a2])).length) Slot.unset).toArray = ls at hl ⊢
  have hl : lv_has ls 5 [(0, .ref (ad 0)), (1, .int a1), (2, .int a2)] := hl
  generalize hloc : ([] : List Loc) = locs at hw ⊢
  have hinX12 : ∀ w ∈ u_ws RX12 TX12 42, w ∈ wsX12_isLifted := fun _ h => List.mem_cons_of_mem _ (List.mem_append_right _ (h))
  have L2 : ∀ (n2 : Nat) (v2_3 : Int32) (H : Heap) (locs : List Loc) (ls : Array Slot), 0 ≤ a1.toInt → a1.toInt ≤ 11 → 0 ≤ a2.toInt → a2.toInt ≤ 100000100 → 0 ≤ v2_3.toInt → v2_3.toInt ≤ 4 → (4 - v2_3.toInt).toNat < n2 → Wd dC dI A s.heap H locs w0 → lv_has ls 5 [(0, .ref (ad 0)), (1, .int a1), (2, .int a2), (3, .int v2_3)] → W p l e ({ frames := 1, cells := 0, slots := 0, locals := 12 }) s m (List.toArray [.ref (ad 0), .int a1, .int a2]) below meth c H locs 0 0 (MQ below (va_Qi (P_X12_isLifted_3 ad cy B qr s1 a1 a2 w0) (fun u : va_W => wpost dC dI cy A u) A) (List.toArray [.ref (ad 0), .int a1, .int a2]) s 0 0 A) (F0 m 2 ls []) := by
    intro n2
    induction n2 with
    | zero => intro v2_3 H locs ls r1 t2 r3 t4 r5 t6 hm2 hw hl; omega
    | succ n2 ih2 =>
      intro v2_3 H locs ls r1 t2 r3 t4 r5 t6 hm2 hw hl
      have J66 : ∀ (v66_4 : Int32) (f66_12__3_v2_3_toInt_156_toNat : Int32) (f66_12_3 : Int32) (H : Heap) (locs : List Loc) (ls : Array Slot), 0 ≤ a1.toInt → a1.toInt ≤ 11 → 0 ≤ a2.toInt → a2.toInt ≤ 100000100 → 0 ≤ v2_3.toInt → v2_3.toInt ≤ 3 → 156 ≤ v66_4.toInt → v66_4.toInt ≤ 165 → v66_4.toInt = 3 * v2_3.toInt + 156 → 1 ≤ f66_12_3.toInt → f66_12_3.toInt ≤ 4 → Wd dC dI A s.heap H locs w0 → gi w0 12 (3 * v2_3.toInt + 156).toNat = f66_12__3_v2_3_toInt_156_toNat → gi w0 12 3 = f66_12_3 → lv_has ls 5 [(0, .ref (ad 0)), (1, .int a1), (2, .int a2), (3, .int v2_3), (4, .int v66_4)] → W p l e ({ frames := 1, cells := 0, slots := 0, locals := 12 }) s m (List.toArray [.ref (ad 0), .int a1, .int a2]) below meth c H locs 0 0 (MQ below (va_Qi (P_X12_isLifted_3 ad cy B qr s1 a1 a2 w0) (fun u : va_W => wpost dC dI cy A u) A) (List.toArray [.ref (ad 0), .int a1, .int a2]) s 0 0 A) (F0 m 66 ls []) := by
        intro v66_4 f66_12__3_v2_3_toInt_156_toNat f66_12_3 H locs ls r7 t8 r9 t10 r11 t12 r13 t14 l15 r17 t18 hw c16 c19 hl
        obtain ⟨x20, ex20⟩ : ∃ y : Int32, y = v2_3 + Int32.ofInt 1 := ⟨_, rfl⟩
        refine lv_iinc (v := x20) (lv' := [(3, .int x20), (0, .ref (ad 0)), (1, .int a1), (2, .int a2), (4, .int v66_4)]) hx hb dX12_isLifted_66 hl (k := 3) rfl ex20.symm (by decide) rfl (fun ls hl => ?_)
        have ex20 : x20.toInt = v2_3.toInt + 1 := by rw [ex20]; exact wk_add (y := 1) (show -2147483648 ≤ v2_3.toInt + 1 by omega) (show v2_3.toInt + 1 ≤ 2147483647 by omega)
        refine lv_goto (tgt := 2) hx hb dX12_isLifted_69 (by decide) ?_
        exact ih2 x20 H locs ls  (show 0 ≤ a1.toInt by omega) (show a1.toInt ≤ 11 by omega) (show 0 ≤ a2.toInt by omega) (show a2.toInt ≤ 100000100 by omega) (show 0 ≤ x20.toInt by omega) (show x20.toInt ≤ 4 by omega) (show (4 - x20.toInt).toNat < n2 by omega) hw   (lv_sub hl [1, 2, 3, 0] rfl)
      refine lv_iload_n hx hb dX12_isLifted_2 rfl (lv_at hl 3 rfl) ?_
      refine lv_aload_n hx hb dX12_isLifted_3 rfl (lv_at hl 0 rfl) ?_
      refine tk_getA hC hK hw hT hinX12 kM_at0 (by decide) rfl 26 (by decide) (List.mem_of_getElem? (i := 1) rfl) rfl rfl dX12_isLifted_4 ?_
      refine lv_iconst (v := 3) hx hb dX12_isLifted_7 (by decide) ?_
      refine tk_ialdR hC hK hw hT kM_at12 rfl (by decide) (by decide) dX12_isLifted_8 (fun x21 c22 Ex21 => ?_)
      have bx21 := tk_rgI rfl 3 1 1 0 4 (by decide +kernel) ⟨0, by decide, by decide⟩ Ex21
      have c22 : gi w0 12 3 = x21 := c22
      refine lv_icmp_ge (tgt := 72) hx hb dX12_isLifted_9 (by decide) (fun c23 => ?_) (fun c23 => ?_)
      · have c23 : x21.toInt ≤ v2_3.toInt := wk_le.mp c23
        refine lv_iconst (v := 0) hx hb dX12_isLifted_72 (by decide) ?_
        exact tk_zret hC hr rfl hlocks hK ⟨rfl, (Or.inl rfl)⟩ hw dX12_isLifted_73
      · have c23 : v2_3.toInt < x21.toInt := wk_leF c23
        refine lv_sipush (v := 156) hx hb dX12_isLifted_12 (by decide) ?_
        refine lv_iconst (v := 3) hx hb dX12_isLifted_15 (by decide) ?_
        refine lv_iload_n hx hb dX12_isLifted_16 rfl (lv_at hl 3 rfl) ?_
        refine lv_imul hx hb dX12_isLifted_17 ?_
        refine lv_topi (fun x24 ex24 => ?_)
        have ex24 : x24.toInt = (3 : Int) * v2_3.toInt := by rw [ex24]; exact wk_mul (show (-2147483648) ≤ (3 : Int) * v2_3.toInt by omega) (show (3 : Int) * v2_3.toInt ≤ 2147483647 by omega)
        refine lv_iadd hx hb dX12_isLifted_18 ?_
        refine lv_topi (fun x25 ex25 => ?_)
        have ex25 : x25.toInt = (156 : Int) + x24.toInt := by rw [ex25]; exact wk_add (show (-2147483648) ≤ (156 : Int) + x24.toInt by omega) (show (156 : Int) + x24.toInt ≤ 2147483647 by omega)
        refine lv_istore (lv' := [(4, .int x25), (0, .ref (ad 0)), (1, .int a1), (2, .int a2), (3, .int v2_3)]) hx hb dX12_isLifted_19 hl (by decide) rfl (fun ls hl => ?_)
        refine lv_aload_n hx hb dX12_isLifted_21 rfl (lv_at hl 1 rfl) ?_
        refine tk_getA hC hK hw hT hinX12 kM_at0 (by decide) rfl 26 (by decide) (List.mem_of_getElem? (i := 1) rfl) rfl rfl dX12_isLifted_22 ?_
        refine lv_iload hx hb dX12_isLifted_25 (lv_at hl 0 rfl) ?_
        refine tk_ialdR hC hK hw hT kM_at12 rfl (show 0 ≤ x25.toInt by omega) (show x25.toInt < 296 by omega) dX12_isLifted_27 (fun x26 c27 Ex26 => ?_)
        have c27 : gi w0 12 (3 * v2_3.toInt + 156).toNat = x26 := (congrArg (gi w0 12) (congrArg Int.toNat (show 3 * v2_3.toInt + 156 = x25.toInt by omega))).trans c27
        refine lv_iload_n hx hb dX12_isLifted_28 rfl (lv_at hl 2 rfl) ?_
        refine lv_icmp_ne (tgt := 66) hx hb dX12_isLifted_29 (by decide) (fun c28 => ?_) (fun c28 => ?_)
        · have c28 : ¬ x26.toInt = a1.toInt := wk_eqF c28
          exact J66 x25 x26 x21 H locs ls  (show 0 ≤ a1.toInt by omega) (show a1.toInt ≤ 11 by omega) (show 0 ≤ a2.toInt by omega) (show a2.toInt ≤ 100000100 by omega) (show 0 ≤ v2_3.toInt by omega) (show v2_3.toInt ≤ 3 by omega) (show 156 ≤ x25.toInt by omega) (show x25.toInt ≤ 165 by omega) (show x25.toInt = 3 * v2_3.toInt + 156 by omega) (show 1 ≤ x21.toInt by omega) (show x21.toInt ≤ 4 by omega)  hw  c27 c22 (lv_sub hl [1, 2, 3, 4, 0] rfl)
        · have c28 : x26.toInt = a1.toInt := wk_eq.mp c28
          refine lv_iload_n hx hb dX12_isLifted_32 rfl (lv_at hl 3 rfl) ?_
          refine lv_bipush (v := 24) hx hb dX12_isLifted_33 (by decide) ?_
          refine lv_irem hx hb dX12_isLifted_35 (by decide) ?_
          refine lv_topi (fun x29 ex29 => ?_)
          have ex29 : x29.toInt = a2.toInt % (24 : Int) := by rw [ex29]; exact wk_rem (show 0 ≤ a2.toInt by omega) (show 0 < (24 : Int) by decide)
          refine lv_aload_n hx hb dX12_isLifted_36 rfl (lv_at hl 1 rfl) ?_
          refine tk_getA hC hK hw hT hinX12 kM_at0 (by decide) rfl 26 (by decide) (List.mem_of_getElem? (i := 1) rfl) rfl rfl dX12_isLifted_37 ?_
          refine lv_iload hx hb dX12_isLifted_40 (lv_at hl 0 rfl) ?_
          refine lv_iconst (v := 1) hx hb dX12_isLifted_42 (by decide) ?_
          refine lv_iadd hx hb dX12_isLifted_43 ?_
          refine lv_topi (fun x30 ex30 => ?_)
          have ex30 : x30.toInt = x25.toInt + (1 : Int) := by rw [ex30]; exact wk_add (show (-2147483648) ≤ x25.toInt + (1 : Int) by omega) (show x25.toInt + (1 : Int) ≤ 2147483647 by omega)
          refine tk_ialdR hC hK hw hT kM_at12 rfl (show 0 ≤ x30.toInt by omega) (show x30.toInt < 296 by omega) dX12_isLifted_44 (fun x31 c32 Ex31 => ?_)
          have c32 : gi w0 12 (3 * v2_3.toInt + 157).toNat = x31 := (congrArg (gi w0 12) (congrArg Int.toNat (show 3 * v2_3.toInt + 157 = x30.toInt by omega))).trans c32
          refine lv_icmp_lt (tgt := 66) hx hb dX12_isLifted_45 (by decide) (fun c33 => ?_) (fun c33 => ?_)
          · have c33 : x29.toInt < x31.toInt := wk_lt.mp c33
            exact J66 x25 x26 x21 H locs ls  (show 0 ≤ a1.toInt by omega) (show a1.toInt ≤ 11 by omega) (show 0 ≤ a2.toInt by omega) (show a2.toInt ≤ 100000100 by omega) (show 0 ≤ v2_3.toInt by omega) (show v2_3.toInt ≤ 3 by omega) (show 156 ≤ x25.toInt by omega) (show x25.toInt ≤ 165 by omega) (show x25.toInt = 3 * v2_3.toInt + 156 by omega) (show 1 ≤ x21.toInt by omega) (show x21.toInt ≤ 4 by omega)  hw  c27 c22 (lv_sub hl [1, 2, 3, 4, 0] rfl)
          · have c33 : x31.toInt ≤ x29.toInt := wk_ltF c33
            refine lv_iload_n hx hb dX12_isLifted_48 rfl (lv_at hl 3 rfl) ?_
            refine lv_bipush (v := 24) hx hb dX12_isLifted_49 (by decide) ?_
            refine lv_irem hx hb dX12_isLifted_51 (by decide) ?_
            refine lv_topi (fun x34 ex34 => ?_)
            have ex34 : x34.toInt = a2.toInt % (24 : Int) := by rw [ex34]; exact wk_rem (show 0 ≤ a2.toInt by omega) (show 0 < (24 : Int) by decide)
            refine lv_aload_n hx hb dX12_isLifted_52 rfl (lv_at hl 1 rfl) ?_
            refine tk_getA hC hK hw hT hinX12 kM_at0 (by decide) rfl 26 (by decide) (List.mem_of_getElem? (i := 1) rfl) rfl rfl dX12_isLifted_53 ?_
            refine lv_iload hx hb dX12_isLifted_56 (lv_at hl 0 rfl) ?_
            refine lv_iconst (v := 2) hx hb dX12_isLifted_58 (by decide) ?_
            refine lv_iadd hx hb dX12_isLifted_59 ?_
            refine lv_topi (fun x35 ex35 => ?_)
            have ex35 : x35.toInt = x25.toInt + (2 : Int) := by rw [ex35]; exact wk_add (show (-2147483648) ≤ x25.toInt + (2 : Int) by omega) (show x25.toInt + (2 : Int) ≤ 2147483647 by omega)
            refine tk_ialdR hC hK hw hT kM_at12 rfl (show 0 ≤ x35.toInt by omega) (show x35.toInt < 296 by omega) dX12_isLifted_60 (fun x36 c37 Ex36 => ?_)
            have c37 : gi w0 12 (3 * v2_3.toInt + 158).toNat = x36 := (congrArg (gi w0 12) (congrArg Int.toNat (show 3 * v2_3.toInt + 158 = x35.toInt by omega))).trans c37
            refine lv_icmp_ge (tgt := 66) hx hb dX12_isLifted_61 (by decide) (fun c38 => ?_) (fun c38 => ?_)
            · have c38 : x36.toInt ≤ x34.toInt := wk_le.mp c38
              exact J66 x25 x26 x21 H locs ls  (show 0 ≤ a1.toInt by omega) (show a1.toInt ≤ 11 by omega) (show 0 ≤ a2.toInt by omega) (show a2.toInt ≤ 100000100 by omega) (show 0 ≤ v2_3.toInt by omega) (show v2_3.toInt ≤ 3 by omega) (show 156 ≤ x25.toInt by omega) (show x25.toInt ≤ 165 by omega) (show x25.toInt = 3 * v2_3.toInt + 156 by omega) (show 1 ≤ x21.toInt by omega) (show x21.toInt ≤ 4 by omega)  hw  c27 c22 (lv_sub hl [1, 2, 3, 4, 0] rfl)
            · have c38 : x34.toInt < x36.toInt := wk_leF c38
              refine lv_iconst (v := 1) hx hb dX12_isLifted_64 (by decide) ?_
              exact tk_zret hC hr rfl hlocks hK ⟨rfl, (Or.inr ⟨rfl, ⟨x21, c22, (show 1 ≤ x21.toInt by omega), (show x21.toInt ≤ 4 by omega)⟩⟩)⟩ hw dX12_isLifted_65
  refine lv_iconst (v := 0) hx hb dX12_isLifted_0 (by decide) ?_
  refine lv_istore_n (lv' := [(3, .int 0), (0, .ref (ad 0)), (1, .int a1), (2, .int a2)]) hx hb dX12_isLifted_1 rfl hl (by decide) rfl (fun ls hl => ?_)
  exact L2 ((4 - (0 : Int)).toNat + 1) 0 s.heap locs ls  (show 0 ≤ a1.toInt by omega) (show a1.toInt ≤ 11 by omega) (show 0 ≤ a2.toInt by omega) (show a2.toInt ≤ 100000100 by omega) (by decide) (by decide) (Nat.lt_succ_self _) hw   (lv_sub hl [1, 2, 3, 0] rfl)
abbrev P_X12_firstOpen_2 (ad : Nat → Nat) (cy : Nat → ClassId) (B : Int) (qr : Nat) (s1 : Int) (a1 : Int32) (a2 : Int32) (a3 : Int32) (a4 : Int32) (w0 : va_W) : Int32 → va_W → Prop := fun r u => w0 = u ∧ ((0 ≤ r.toInt ∧ r.toInt ≤ 100000100) ∨ (0 ≤ r.toInt ∧ r.toInt ≤ 100000100 ∧ gi u 12 (10 * a1.toInt + 10).toNat = a2))
set_option maxHeartbeats 4000000 in
set_option maxRecDepth 100000 in
theorem k_X12_firstOpen_2 (l : Launch) (adK adV : Nat → Nat) (dC : Nat → ClassId) (dI : Nat → Nat → Nat) (cy : Nat → ClassId) (ad : Nat → Nat) (B : Int) (hB0 : 100000 ≤ B) (hB1 : B ≤ 1073741824) (qr : Nat) (s1 : Int)  (a1 : Int32) (ra1 : 0 ≤ a1.toInt) (ta1 : a1.toInt ≤ 11) (a2 : Int32) (ra2 : 0 ≤ a2.toInt) (ta2 : a2.toInt ≤ 9) (a3 : Int32) (ra3 : 0 ≤ a3.toInt) (ta3 : a3.toInt ≤ 100000208) (a4 : Int32) (ra4 : 0 ≤ a4.toInt) (ta4 : a4.toInt ≤ 100000100) (w0 : va_W) (sz : Nat) (hT : TW ksM ad cy B qr 12 w0)  : Met l yX12_firstOpen wsX12_firstOpen ({ frames := 4, cells := 0, slots := 0, locals := 80 }) (va_Pc [.ref (ad 0), .int a1, .int a2, .int a3, .int a4] (wpreS adK adV dC dI cy sz w0)) (va_Qi (P_X12_firstOpen_2 ad cy B qr s1 a1 a2 a3 a4 w0) (fun u : va_W => wpost dC dI cy (va_A w0 sz) u) (va_A w0 sz)) 0 0 (va_A w0 sz) := by
  refine Met.ofW (cc := cX12_firstOpen) (maxL := 6) (ret := (some .int)) (by decide) rfl ?_
  intro p e s m args below meth c s₁ Bk hml hv
  obtain ⟨rfl, ⟨hsz, hP, hK, hD0⟩, hE, hSR⟩ := hv
  have hx := Bk.exec
  have hb := Bk.bytes
  have hr := Bk.returns
  have hlocks := Bk.notSynchronized
  have hC : CallFix p m c cX12_firstOpen 6 s _ wsX12_firstOpen RX12 := ⟨hx, hb, hml, findClass_of_methodNamed Bk.named, atoms_spec (ws := wsX12_firstOpen) Bk.pre⟩
  subst hsz
  have hD := hD0.self (sz := s.heap.size)
  generalize hAe : va_A w0 s.heap.size = A at hD hE ⊢
  have hA : ∀ q : Nat, s.heap.size ≤ q → A q := fun q h => by rw [← hAe]; exact Or.inr h
  have hw : Wd dC dI A s.heap s.heap [] w0 := ⟨hP, hD, va_S.rf⟩
  have hF : FE ksM ([] : List (Nat × Nat × Nat)) w0 w0 := FE.rf
  have hl := lv_entry ([.ref (ad 0), .int a1, .int a2, .int a3, .int a4]) (n := 6) (Nat.le_of_ble_eq_true rfl)
  rw [lg_entry_eq]
  generalize (lg_sl ([.ref (ad 0), .int a1, .int a2, .int a3, .int a4]) ++ List.replicate (6 - (lg_sl ([.ref (ad 0), .int a1, .int a2, .int a3, .int a4])).length) Slot.unset).toArray = ls at hl ⊢
  have hl : lv_has ls 6 [(0, .ref (ad 0)), (1, .int a1), (2, .int a2), (3, .int a3), (4, .int a4)] := hl
  generalize hloc : ([] : List Loc) = locs at hw ⊢
  have L3 : ∀ (n3 : Nat) (v3_5 : Int32) (H : Heap) (locs : List Loc) (ls : Array Slot), 0 ≤ a1.toInt → a1.toInt ≤ 11 → 0 ≤ a2.toInt → a2.toInt ≤ 9 → 0 ≤ a3.toInt → a3.toInt ≤ 100000208 → 0 ≤ a4.toInt → a4.toInt ≤ 100000100 → 0 ≤ v3_5.toInt → v3_5.toInt ≤ 100000208 → (100000208 - v3_5.toInt).toNat < n3 → Wd dC dI A s.heap H locs w0 → lv_has ls 6 [(0, .ref (ad 0)), (1, .int a1), (2, .int a2), (3, .int a3), (4, .int a4), (5, .int v3_5)] → W p l e ({ frames := 4, cells := 0, slots := 0, locals := 80 }) s m (List.toArray [.ref (ad 0), .int a1, .int a2, .int a3, .int a4]) below meth c H locs 0 0 (MQ below (va_Qi (P_X12_firstOpen_2 ad cy B qr s1 a1 a2 a3 a4 w0) (fun u : va_W => wpost dC dI cy A u) A) (List.toArray [.ref (ad 0), .int a1, .int a2, .int a3, .int a4]) s 0 0 A) (F0 m 3 ls []) := by
    intro n3
    induction n3 with
    | zero => intro v3_5 H locs ls r1 t2 r3 t4 r5 t6 r7 t8 r9 t10 hm3 hw hl; omega
    | succ n3 ih3 =>
      intro v3_5 H locs ls r1 t2 r3 t4 r5 t6 r7 t8 r9 t10 hm3 hw hl
      refine lv_iload hx hb dX12_firstOpen_3 (lv_at hl 5 rfl) ?_
      refine lv_iload hx hb dX12_firstOpen_5 (lv_at hl 4 rfl) ?_
      refine lv_icmp_gt (tgt := 58) hx hb dX12_firstOpen_7 (by decide) (fun c11 => ?_) (fun c11 => ?_)
      · have c11 : a4.toInt < v3_5.toInt := wk_lt.mp c11
        refine lv_ldcw (v := 100000000) hx hb hC.2.2.2.1 (hC.2.2.2.2 _ (List.mem_of_getElem? (i := 1) rfl)) dX12_firstOpen_58 ?_
        exact tk_iret hC hr hlocks hK ⟨rfl, (Or.inl ⟨(by decide), (by decide)⟩)⟩ hw dX12_firstOpen_61
      · have c11 : v3_5.toInt ≤ a4.toInt := wk_ltF c11
        refine lv_aload_n hx hb dX12_firstOpen_10 rfl (lv_at hl 0 rfl) ?_
        refine lv_iload_n hx hb dX12_firstOpen_11 rfl (lv_at hl 1 rfl) ?_
        refine lv_iload_n hx hb dX12_firstOpen_12 rfl (lv_at hl 2 rfl) ?_
        refine lv_iload hx hb dX12_firstOpen_13 (lv_at hl 5 rfl) ?_
        refine lv_bipush (v := 24) hx hb dX12_firstOpen_15 (by decide) ?_
        refine lv_idiv hx hb dX12_firstOpen_17 (by decide) ?_
        refine lv_topi (fun x12 ex12 => ?_)
        have ex12 : x12.toInt = v3_5.toInt / (24 : Int) := by rw [ex12]; exact wk_div (show 0 ≤ v3_5.toInt by omega) (show 0 < (24 : Int) by decide)
        refine tk_Vi hC hK hw hT hA hE hSR kM_at0 (by decide) rfl (k_X12_isDayFor_3 l adK adV dC dI cy ad B (by omega) (by omega) qr s1   a1 (show 0 ≤ a1.toInt by omega) (show a1.toInt ≤ 11 by omega) a2 (show 0 ≤ a2.toInt by omega) (show a2.toInt ≤ 9 by omega) x12 (show 0 ≤ x12.toInt by omega) (show x12.toInt ≤ 4166670 by omega) w0 H.size hT ) (cwV 3 hC.2.2.2.2 gX12_firstOpen_X12_isDayFor rfl rfl rfl (by decide +kernel) ⟨Nat.le_of_ble_eq_true rfl, Nat.le_of_ble_eq_true rfl⟩) rfl hl.1 rfl (Nat.le_of_ble_eq_true rfl) dX12_firstOpen_18 (fun r13 w15 H locs hp14 hw => ?_)
        obtain ⟨rfl, hg19⟩ := hp14
        rcases hg19 with rfl | ⟨rfl, c17⟩ | rfl | ⟨rfl, c18⟩
        · refine lv_if_ne (tgt := 39) hx hb dX12_firstOpen_21 (by decide) (fun c => absurd (by decide) c) (fun _ => ?_)
          refine lv_iload hx hb dX12_firstOpen_24 (lv_at hl 5 rfl) ?_
          refine lv_bipush (v := 24) hx hb dX12_firstOpen_26 (by decide) ?_
          refine lv_idiv hx hb dX12_firstOpen_28 (by decide) ?_
          refine lv_topi (fun x20 ex20 => ?_)
          have ex20 : x20.toInt = v3_5.toInt / (24 : Int) := by rw [ex20]; exact wk_div (show 0 ≤ v3_5.toInt by omega) (show 0 < (24 : Int) by decide)
          refine lv_iconst (v := 1) hx hb dX12_firstOpen_29 (by decide) ?_
          refine lv_iadd hx hb dX12_firstOpen_30 ?_
          refine lv_topi (fun x21 ex21 => ?_)
          have ex21 : x21.toInt = x20.toInt + (1 : Int) := by rw [ex21]; exact wk_add (show (-2147483648) ≤ x20.toInt + (1 : Int) by omega) (show x20.toInt + (1 : Int) ≤ 2147483647 by omega)
          refine lv_bipush (v := 24) hx hb dX12_firstOpen_31 (by decide) ?_
          refine lv_imul hx hb dX12_firstOpen_33 ?_
          refine lv_topi (fun x22 ex22 => ?_)
          have ex22 : x22.toInt = x21.toInt * (24 : Int) := by rw [ex22]; exact wk_mul (show (-2147483648) ≤ x21.toInt * (24 : Int) by omega) (show x21.toInt * (24 : Int) ≤ 2147483647 by omega)
          refine lv_istore (lv' := [(5, .int x22), (0, .ref (ad 0)), (1, .int a1), (2, .int a2), (3, .int a3), (4, .int a4)]) hx hb dX12_firstOpen_34 hl (by decide) rfl (fun ls hl => ?_)
          refine lv_goto (tgt := 3) hx hb dX12_firstOpen_36 (by decide) ?_
          exact ih3 x22 H locs ls  (show 0 ≤ a1.toInt by omega) (show a1.toInt ≤ 11 by omega) (show 0 ≤ a2.toInt by omega) (show a2.toInt ≤ 9 by omega) (show 0 ≤ a3.toInt by omega) (show a3.toInt ≤ 100000208 by omega) (show 0 ≤ a4.toInt by omega) (show a4.toInt ≤ 100000100 by omega) (show 0 ≤ x22.toInt by omega) (show x22.toInt ≤ 100000208 by omega) (show (100000208 - x22.toInt).toNat < n3 by omega) hw   (lv_sub hl [1, 2, 3, 4, 5, 0] rfl)
        · refine lv_if_ne (tgt := 39) hx hb dX12_firstOpen_21 (by decide) (fun c => absurd (by decide) c) (fun _ => ?_)
          refine lv_iload hx hb dX12_firstOpen_24 (lv_at hl 5 rfl) ?_
          refine lv_bipush (v := 24) hx hb dX12_firstOpen_26 (by decide) ?_
          refine lv_idiv hx hb dX12_firstOpen_28 (by decide) ?_
          refine lv_topi (fun x23 ex23 => ?_)
          have ex23 : x23.toInt = v3_5.toInt / (24 : Int) := by rw [ex23]; exact wk_div (show 0 ≤ v3_5.toInt by omega) (show 0 < (24 : Int) by decide)
          refine lv_iconst (v := 1) hx hb dX12_firstOpen_29 (by decide) ?_
          refine lv_iadd hx hb dX12_firstOpen_30 ?_
          refine lv_topi (fun x24 ex24 => ?_)
          have ex24 : x24.toInt = x23.toInt + (1 : Int) := by rw [ex24]; exact wk_add (show (-2147483648) ≤ x23.toInt + (1 : Int) by omega) (show x23.toInt + (1 : Int) ≤ 2147483647 by omega)
          refine lv_bipush (v := 24) hx hb dX12_firstOpen_31 (by decide) ?_
          refine lv_imul hx hb dX12_firstOpen_33 ?_
          refine lv_topi (fun x25 ex25 => ?_)
          have ex25 : x25.toInt = x24.toInt * (24 : Int) := by rw [ex25]; exact wk_mul (show (-2147483648) ≤ x24.toInt * (24 : Int) by omega) (show x24.toInt * (24 : Int) ≤ 2147483647 by omega)
          refine lv_istore (lv' := [(5, .int x25), (0, .ref (ad 0)), (1, .int a1), (2, .int a2), (3, .int a3), (4, .int a4)]) hx hb dX12_firstOpen_34 hl (by decide) rfl (fun ls hl => ?_)
          refine lv_goto (tgt := 3) hx hb dX12_firstOpen_36 (by decide) ?_
          exact ih3 x25 H locs ls  (show 0 ≤ a1.toInt by omega) (show a1.toInt ≤ 11 by omega) (show 0 ≤ a2.toInt by omega) (show a2.toInt ≤ 9 by omega) (show 0 ≤ a3.toInt by omega) (show a3.toInt ≤ 100000208 by omega) (show 0 ≤ a4.toInt by omega) (show a4.toInt ≤ 100000100 by omega) (show 0 ≤ x25.toInt by omega) (show x25.toInt ≤ 100000208 by omega) (show (100000208 - x25.toInt).toNat < n3 by omega) hw   (lv_sub hl [1, 2, 3, 4, 5, 0] rfl)
        · refine lv_if_ne (tgt := 39) hx hb dX12_firstOpen_21 (by decide) (fun _ => ?_) (fun c => absurd c (by decide))
          refine lv_aload_n hx hb dX12_firstOpen_39 rfl (lv_at hl 0 rfl) ?_
          refine lv_iload_n hx hb dX12_firstOpen_40 rfl (lv_at hl 1 rfl) ?_
          refine lv_iload hx hb dX12_firstOpen_41 (lv_at hl 5 rfl) ?_
          refine tk_Vi hC hK hw hT hA hE hSR kM_at0 (by decide) rfl (k_X12_isLifted_3 l adK adV dC dI cy ad B (by omega) (by omega) qr s1   a1 (show 0 ≤ a1.toInt by omega) (show a1.toInt ≤ 11 by omega) v3_5 (show 0 ≤ v3_5.toInt by omega) (show v3_5.toInt ≤ 100000100 by omega) w0 H.size hT ) (cwV 2 hC.2.2.2.2 gX12_firstOpen_X12_isLifted rfl rfl rfl (by decide +kernel) ⟨Nat.le_of_ble_eq_true rfl, Nat.le_of_ble_eq_true rfl⟩) rfl hl.1 rfl (Nat.le_of_ble_eq_true rfl) dX12_firstOpen_43 (fun r26 w28 H locs hp27 hw => ?_)
          obtain ⟨rfl, hg32⟩ := hp27
          rcases hg32 with rfl | ⟨rfl, ⟨x30, c31, rx30, tx30⟩⟩
          · refine lv_if_eq (tgt := 55) hx hb dX12_firstOpen_46 (by decide) (fun _ => ?_) (fun c => absurd (by decide) c)
            refine lv_iload hx hb dX12_firstOpen_55 (lv_at hl 5 rfl) ?_
            exact tk_iret hC hr hlocks hK ⟨rfl, (Or.inl ⟨(show 0 ≤ v3_5.toInt by omega), (show v3_5.toInt ≤ 100000100 by omega)⟩)⟩ hw dX12_firstOpen_57
          · refine lv_if_eq (tgt := 55) hx hb dX12_firstOpen_46 (by decide) (fun c => absurd c (by decide)) (fun _ => ?_)
            obtain ⟨x33, ex33⟩ : ∃ y : Int32, y = v3_5 + Int32.ofInt 1 := ⟨_, rfl⟩
            refine lv_iinc (v := x33) (lv' := [(5, .int x33), (0, .ref (ad 0)), (1, .int a1), (2, .int a2), (3, .int a3), (4, .int a4)]) hx hb dX12_firstOpen_49 hl (k := 5) rfl ex33.symm (by decide) rfl (fun ls hl => ?_)
            have ex33 : x33.toInt = v3_5.toInt + 1 := by rw [ex33]; exact wk_add (y := 1) (show -2147483648 ≤ v3_5.toInt + 1 by omega) (show v3_5.toInt + 1 ≤ 2147483647 by omega)
            refine lv_goto (tgt := 3) hx hb dX12_firstOpen_52 (by decide) ?_
            exact ih3 x33 H locs ls  (show 0 ≤ a1.toInt by omega) (show a1.toInt ≤ 11 by omega) (show 0 ≤ a2.toInt by omega) (show a2.toInt ≤ 9 by omega) (show 0 ≤ a3.toInt by omega) (show a3.toInt ≤ 100000208 by omega) (show 0 ≤ a4.toInt by omega) (show a4.toInt ≤ 100000100 by omega) (show 0 ≤ x33.toInt by omega) (show x33.toInt ≤ 100000208 by omega) (show (100000208 - x33.toInt).toNat < n3 by omega) hw   (lv_sub hl [1, 2, 3, 4, 5, 0] rfl)
        · refine lv_if_ne (tgt := 39) hx hb dX12_firstOpen_21 (by decide) (fun _ => ?_) (fun c => absurd c (by decide))
          refine lv_aload_n hx hb dX12_firstOpen_39 rfl (lv_at hl 0 rfl) ?_
          refine lv_iload_n hx hb dX12_firstOpen_40 rfl (lv_at hl 1 rfl) ?_
          refine lv_iload hx hb dX12_firstOpen_41 (lv_at hl 5 rfl) ?_
          refine tk_Vi hC hK hw hT hA hE hSR kM_at0 (by decide) rfl (k_X12_isLifted_3 l adK adV dC dI cy ad B (by omega) (by omega) qr s1   a1 (show 0 ≤ a1.toInt by omega) (show a1.toInt ≤ 11 by omega) v3_5 (show 0 ≤ v3_5.toInt by omega) (show v3_5.toInt ≤ 100000100 by omega) w0 H.size hT ) (cwV 2 hC.2.2.2.2 gX12_firstOpen_X12_isLifted rfl rfl rfl (by decide +kernel) ⟨Nat.le_of_ble_eq_true rfl, Nat.le_of_ble_eq_true rfl⟩) rfl hl.1 rfl (Nat.le_of_ble_eq_true rfl) dX12_firstOpen_43 (fun r34 w36 H locs hp35 hw => ?_)
          obtain ⟨rfl, hg40⟩ := hp35
          rcases hg40 with rfl | ⟨rfl, ⟨x38, c39, rx38, tx38⟩⟩
          · refine lv_if_eq (tgt := 55) hx hb dX12_firstOpen_46 (by decide) (fun _ => ?_) (fun c => absurd (by decide) c)
            refine lv_iload hx hb dX12_firstOpen_55 (lv_at hl 5 rfl) ?_
            exact tk_iret hC hr hlocks hK ⟨rfl, (Or.inr ⟨(show 0 ≤ v3_5.toInt by omega), (show v3_5.toInt ≤ 100000100 by omega), c18⟩)⟩ hw dX12_firstOpen_57
          · refine lv_if_eq (tgt := 55) hx hb dX12_firstOpen_46 (by decide) (fun c => absurd c (by decide)) (fun _ => ?_)
            obtain ⟨x41, ex41⟩ : ∃ y : Int32, y = v3_5 + Int32.ofInt 1 := ⟨_, rfl⟩
            refine lv_iinc (v := x41) (lv' := [(5, .int x41), (0, .ref (ad 0)), (1, .int a1), (2, .int a2), (3, .int a3), (4, .int a4)]) hx hb dX12_firstOpen_49 hl (k := 5) rfl ex41.symm (by decide) rfl (fun ls hl => ?_)
            have ex41 : x41.toInt = v3_5.toInt + 1 := by rw [ex41]; exact wk_add (y := 1) (show -2147483648 ≤ v3_5.toInt + 1 by omega) (show v3_5.toInt + 1 ≤ 2147483647 by omega)
            refine lv_goto (tgt := 3) hx hb dX12_firstOpen_52 (by decide) ?_
            exact ih3 x41 H locs ls  (show 0 ≤ a1.toInt by omega) (show a1.toInt ≤ 11 by omega) (show 0 ≤ a2.toInt by omega) (show a2.toInt ≤ 9 by omega) (show 0 ≤ a3.toInt by omega) (show a3.toInt ≤ 100000208 by omega) (show 0 ≤ a4.toInt by omega) (show a4.toInt ≤ 100000100 by omega) (show 0 ≤ x41.toInt by omega) (show x41.toInt ≤ 100000208 by omega) (show (100000208 - x41.toInt).toNat < n3 by omega) hw   (lv_sub hl [1, 2, 3, 4, 5, 0] rfl)
  refine lv_iload_n hx hb dX12_firstOpen_0 rfl (lv_at hl 3 rfl) ?_
  refine lv_istore (lv' := [(5, .int a3), (0, .ref (ad 0)), (1, .int a1), (2, .int a2), (3, .int a3), (4, .int a4)]) hx hb dX12_firstOpen_1 hl (by decide) rfl (fun ls hl => ?_)
  exact L3 ((100000208 - a3.toInt).toNat + 1) a3 s.heap locs ls  (show 0 ≤ a1.toInt by omega) (show a1.toInt ≤ 11 by omega) (show 0 ≤ a2.toInt by omega) (show a2.toInt ≤ 9 by omega) (show 0 ≤ a3.toInt by omega) (show a3.toInt ≤ 100000208 by omega) (show 0 ≤ a4.toInt by omega) (show a4.toInt ≤ 100000100 by omega) (show 0 ≤ a3.toInt by omega) (show a3.toInt ≤ 100000208 by omega) (Nat.lt_succ_self _) hw   (lv_sub hl [1, 2, 3, 4, 5, 0] rfl)
abbrev P_X12_firstOpen_3 (ad : Nat → Nat) (cy : Nat → ClassId) (B : Int) (qr : Nat) (s1 : Int) (a1 : Int32) (a2 : Int32) (a3 : Int32) (a4 : Int32) (w0 : va_W) : Int32 → va_W → Prop := fun r u => w0 = u ∧ ((0 ≤ r.toInt ∧ r.toInt ≤ 100000100) ∨ (0 ≤ r.toInt ∧ r.toInt ≤ 100000100 ∧ gi u 12 (10 * a1.toInt + 10).toNat = a2))
set_option maxHeartbeats 4000000 in
set_option maxRecDepth 100000 in
theorem k_X12_firstOpen_3 (l : Launch) (adK adV : Nat → Nat) (dC : Nat → ClassId) (dI : Nat → Nat → Nat) (cy : Nat → ClassId) (ad : Nat → Nat) (B : Int) (hB0 : 100000 ≤ B) (hB1 : B ≤ 1073741824) (qr : Nat) (s1 : Int)  (a1 : Int32) (ra1 : 0 ≤ a1.toInt) (ta1 : a1.toInt ≤ 11) (a2 : Int32) (ra2 : 0 ≤ a2.toInt) (ta2 : a2.toInt ≤ 9) (a3 : Int32) (ra3 : 0 ≤ a3.toInt) (ta3 : a3.toInt ≤ 100000100) (a4 : Int32) (ra4 : 0 ≤ a4.toInt) (ta4 : a4.toInt ≤ 100000100) (w0 : va_W) (sz : Nat) (hT : TW ksM ad cy B qr 12 w0)  : Met l yX12_firstOpen wsX12_firstOpen ({ frames := 4, cells := 0, slots := 0, locals := 80 }) (va_Pc [.ref (ad 0), .int a1, .int a2, .int a3, .int a4] (wpreS adK adV dC dI cy sz w0)) (va_Qi (P_X12_firstOpen_3 ad cy B qr s1 a1 a2 a3 a4 w0) (fun u : va_W => wpost dC dI cy (va_A w0 sz) u) (va_A w0 sz)) 0 0 (va_A w0 sz) := by
  refine Met.ofW (cc := cX12_firstOpen) (maxL := 6) (ret := (some .int)) (by decide) rfl ?_
  intro p e s m args below meth c s₁ Bk hml hv
  obtain ⟨rfl, ⟨hsz, hP, hK, hD0⟩, hE, hSR⟩ := hv
  have hx := Bk.exec
  have hb := Bk.bytes
  have hr := Bk.returns
  have hlocks := Bk.notSynchronized
  have hC : CallFix p m c cX12_firstOpen 6 s _ wsX12_firstOpen RX12 := ⟨hx, hb, hml, findClass_of_methodNamed Bk.named, atoms_spec (ws := wsX12_firstOpen) Bk.pre⟩
  subst hsz
  have hD := hD0.self (sz := s.heap.size)
  generalize hAe : va_A w0 s.heap.size = A at hD hE ⊢
  have hA : ∀ q : Nat, s.heap.size ≤ q → A q := fun q h => by rw [← hAe]; exact Or.inr h
  have hw : Wd dC dI A s.heap s.heap [] w0 := ⟨hP, hD, va_S.rf⟩
  have hF : FE ksM ([] : List (Nat × Nat × Nat)) w0 w0 := FE.rf
  have hl := lv_entry ([.ref (ad 0), .int a1, .int a2, .int a3, .int a4]) (n := 6) (Nat.le_of_ble_eq_true rfl)
  rw [lg_entry_eq]
  generalize (lg_sl ([.ref (ad 0), .int a1, .int a2, .int a3, .int a4]) ++ List.replicate (6 - (lg_sl ([.ref (ad 0), .int a1, .int a2, .int a3, .int a4])).length) Slot.unset).toArray = ls at hl ⊢
  have hl : lv_has ls 6 [(0, .ref (ad 0)), (1, .int a1), (2, .int a2), (3, .int a3), (4, .int a4)] := hl
  generalize hloc : ([] : List Loc) = locs at hw ⊢
  have L3 : ∀ (n3 : Nat) (v3_5 : Int32) (H : Heap) (locs : List Loc) (ls : Array Slot), 0 ≤ a1.toInt → a1.toInt ≤ 11 → 0 ≤ a2.toInt → a2.toInt ≤ 9 → 0 ≤ a3.toInt → a3.toInt ≤ 100000100 → 0 ≤ a4.toInt → a4.toInt ≤ 100000100 → 0 ≤ v3_5.toInt → v3_5.toInt ≤ 100000104 → (100000104 - v3_5.toInt).toNat < n3 → Wd dC dI A s.heap H locs w0 → lv_has ls 6 [(0, .ref (ad 0)), (1, .int a1), (2, .int a2), (3, .int a3), (4, .int a4), (5, .int v3_5)] → W p l e ({ frames := 4, cells := 0, slots := 0, locals := 80 }) s m (List.toArray [.ref (ad 0), .int a1, .int a2, .int a3, .int a4]) below meth c H locs 0 0 (MQ below (va_Qi (P_X12_firstOpen_3 ad cy B qr s1 a1 a2 a3 a4 w0) (fun u : va_W => wpost dC dI cy A u) A) (List.toArray [.ref (ad 0), .int a1, .int a2, .int a3, .int a4]) s 0 0 A) (F0 m 3 ls []) := by
    intro n3
    induction n3 with
    | zero => intro v3_5 H locs ls r1 t2 r3 t4 r5 t6 r7 t8 r9 t10 hm3 hw hl; omega
    | succ n3 ih3 =>
      intro v3_5 H locs ls r1 t2 r3 t4 r5 t6 r7 t8 r9 t10 hm3 hw hl
      refine lv_iload hx hb dX12_firstOpen_3 (lv_at hl 5 rfl) ?_
      refine lv_iload hx hb dX12_firstOpen_5 (lv_at hl 4 rfl) ?_
      refine lv_icmp_gt (tgt := 58) hx hb dX12_firstOpen_7 (by decide) (fun c11 => ?_) (fun c11 => ?_)
      · have c11 : a4.toInt < v3_5.toInt := wk_lt.mp c11
        refine lv_ldcw (v := 100000000) hx hb hC.2.2.2.1 (hC.2.2.2.2 _ (List.mem_of_getElem? (i := 1) rfl)) dX12_firstOpen_58 ?_
        exact tk_iret hC hr hlocks hK ⟨rfl, (Or.inl ⟨(by decide), (by decide)⟩)⟩ hw dX12_firstOpen_61
      · have c11 : v3_5.toInt ≤ a4.toInt := wk_ltF c11
        refine lv_aload_n hx hb dX12_firstOpen_10 rfl (lv_at hl 0 rfl) ?_
        refine lv_iload_n hx hb dX12_firstOpen_11 rfl (lv_at hl 1 rfl) ?_
        refine lv_iload_n hx hb dX12_firstOpen_12 rfl (lv_at hl 2 rfl) ?_
        refine lv_iload hx hb dX12_firstOpen_13 (lv_at hl 5 rfl) ?_
        refine lv_bipush (v := 24) hx hb dX12_firstOpen_15 (by decide) ?_
        refine lv_idiv hx hb dX12_firstOpen_17 (by decide) ?_
        refine lv_topi (fun x12 ex12 => ?_)
        have ex12 : x12.toInt = v3_5.toInt / (24 : Int) := by rw [ex12]; exact wk_div (show 0 ≤ v3_5.toInt by omega) (show 0 < (24 : Int) by decide)
        refine tk_Vi hC hK hw hT hA hE hSR kM_at0 (by decide) rfl (k_X12_isDayFor_3 l adK adV dC dI cy ad B (by omega) (by omega) qr s1   a1 (show 0 ≤ a1.toInt by omega) (show a1.toInt ≤ 11 by omega) a2 (show 0 ≤ a2.toInt by omega) (show a2.toInt ≤ 9 by omega) x12 (show 0 ≤ x12.toInt by omega) (show x12.toInt ≤ 4166670 by omega) w0 H.size hT ) (cwV 3 hC.2.2.2.2 gX12_firstOpen_X12_isDayFor rfl rfl rfl (by decide +kernel) ⟨Nat.le_of_ble_eq_true rfl, Nat.le_of_ble_eq_true rfl⟩) rfl hl.1 rfl (Nat.le_of_ble_eq_true rfl) dX12_firstOpen_18 (fun r13 w15 H locs hp14 hw => ?_)
        obtain ⟨rfl, hg19⟩ := hp14
        rcases hg19 with rfl | ⟨rfl, c17⟩ | rfl | ⟨rfl, c18⟩
        · refine lv_if_ne (tgt := 39) hx hb dX12_firstOpen_21 (by decide) (fun c => absurd (by decide) c) (fun _ => ?_)
          refine lv_iload hx hb dX12_firstOpen_24 (lv_at hl 5 rfl) ?_
          refine lv_bipush (v := 24) hx hb dX12_firstOpen_26 (by decide) ?_
          refine lv_idiv hx hb dX12_firstOpen_28 (by decide) ?_
          refine lv_topi (fun x20 ex20 => ?_)
          have ex20 : x20.toInt = v3_5.toInt / (24 : Int) := by rw [ex20]; exact wk_div (show 0 ≤ v3_5.toInt by omega) (show 0 < (24 : Int) by decide)
          refine lv_iconst (v := 1) hx hb dX12_firstOpen_29 (by decide) ?_
          refine lv_iadd hx hb dX12_firstOpen_30 ?_
          refine lv_topi (fun x21 ex21 => ?_)
          have ex21 : x21.toInt = x20.toInt + (1 : Int) := by rw [ex21]; exact wk_add (show (-2147483648) ≤ x20.toInt + (1 : Int) by omega) (show x20.toInt + (1 : Int) ≤ 2147483647 by omega)
          refine lv_bipush (v := 24) hx hb dX12_firstOpen_31 (by decide) ?_
          refine lv_imul hx hb dX12_firstOpen_33 ?_
          refine lv_topi (fun x22 ex22 => ?_)
          have ex22 : x22.toInt = x21.toInt * (24 : Int) := by rw [ex22]; exact wk_mul (show (-2147483648) ≤ x21.toInt * (24 : Int) by omega) (show x21.toInt * (24 : Int) ≤ 2147483647 by omega)
          refine lv_istore (lv' := [(5, .int x22), (0, .ref (ad 0)), (1, .int a1), (2, .int a2), (3, .int a3), (4, .int a4)]) hx hb dX12_firstOpen_34 hl (by decide) rfl (fun ls hl => ?_)
          refine lv_goto (tgt := 3) hx hb dX12_firstOpen_36 (by decide) ?_
          exact ih3 x22 H locs ls  (show 0 ≤ a1.toInt by omega) (show a1.toInt ≤ 11 by omega) (show 0 ≤ a2.toInt by omega) (show a2.toInt ≤ 9 by omega) (show 0 ≤ a3.toInt by omega) (show a3.toInt ≤ 100000100 by omega) (show 0 ≤ a4.toInt by omega) (show a4.toInt ≤ 100000100 by omega) (show 0 ≤ x22.toInt by omega) (show x22.toInt ≤ 100000104 by omega) (show (100000104 - x22.toInt).toNat < n3 by omega) hw   (lv_sub hl [1, 2, 3, 4, 5, 0] rfl)
        · refine lv_if_ne (tgt := 39) hx hb dX12_firstOpen_21 (by decide) (fun c => absurd (by decide) c) (fun _ => ?_)
          refine lv_iload hx hb dX12_firstOpen_24 (lv_at hl 5 rfl) ?_
          refine lv_bipush (v := 24) hx hb dX12_firstOpen_26 (by decide) ?_
          refine lv_idiv hx hb dX12_firstOpen_28 (by decide) ?_
          refine lv_topi (fun x23 ex23 => ?_)
          have ex23 : x23.toInt = v3_5.toInt / (24 : Int) := by rw [ex23]; exact wk_div (show 0 ≤ v3_5.toInt by omega) (show 0 < (24 : Int) by decide)
          refine lv_iconst (v := 1) hx hb dX12_firstOpen_29 (by decide) ?_
          refine lv_iadd hx hb dX12_firstOpen_30 ?_
          refine lv_topi (fun x24 ex24 => ?_)
          have ex24 : x24.toInt = x23.toInt + (1 : Int) := by rw [ex24]; exact wk_add (show (-2147483648) ≤ x23.toInt + (1 : Int) by omega) (show x23.toInt + (1 : Int) ≤ 2147483647 by omega)
          refine lv_bipush (v := 24) hx hb dX12_firstOpen_31 (by decide) ?_
          refine lv_imul hx hb dX12_firstOpen_33 ?_
          refine lv_topi (fun x25 ex25 => ?_)
          have ex25 : x25.toInt = x24.toInt * (24 : Int) := by rw [ex25]; exact wk_mul (show (-2147483648) ≤ x24.toInt * (24 : Int) by omega) (show x24.toInt * (24 : Int) ≤ 2147483647 by omega)
          refine lv_istore (lv' := [(5, .int x25), (0, .ref (ad 0)), (1, .int a1), (2, .int a2), (3, .int a3), (4, .int a4)]) hx hb dX12_firstOpen_34 hl (by decide) rfl (fun ls hl => ?_)
          refine lv_goto (tgt := 3) hx hb dX12_firstOpen_36 (by decide) ?_
          exact ih3 x25 H locs ls  (show 0 ≤ a1.toInt by omega) (show a1.toInt ≤ 11 by omega) (show 0 ≤ a2.toInt by omega) (show a2.toInt ≤ 9 by omega) (show 0 ≤ a3.toInt by omega) (show a3.toInt ≤ 100000100 by omega) (show 0 ≤ a4.toInt by omega) (show a4.toInt ≤ 100000100 by omega) (show 0 ≤ x25.toInt by omega) (show x25.toInt ≤ 100000104 by omega) (show (100000104 - x25.toInt).toNat < n3 by omega) hw   (lv_sub hl [1, 2, 3, 4, 5, 0] rfl)
        · refine lv_if_ne (tgt := 39) hx hb dX12_firstOpen_21 (by decide) (fun _ => ?_) (fun c => absurd c (by decide))
          refine lv_aload_n hx hb dX12_firstOpen_39 rfl (lv_at hl 0 rfl) ?_
          refine lv_iload_n hx hb dX12_firstOpen_40 rfl (lv_at hl 1 rfl) ?_
          refine lv_iload hx hb dX12_firstOpen_41 (lv_at hl 5 rfl) ?_
          refine tk_Vi hC hK hw hT hA hE hSR kM_at0 (by decide) rfl (k_X12_isLifted_3 l adK adV dC dI cy ad B (by omega) (by omega) qr s1   a1 (show 0 ≤ a1.toInt by omega) (show a1.toInt ≤ 11 by omega) v3_5 (show 0 ≤ v3_5.toInt by omega) (show v3_5.toInt ≤ 100000100 by omega) w0 H.size hT ) (cwV 2 hC.2.2.2.2 gX12_firstOpen_X12_isLifted rfl rfl rfl (by decide +kernel) ⟨Nat.le_of_ble_eq_true rfl, Nat.le_of_ble_eq_true rfl⟩) rfl hl.1 rfl (Nat.le_of_ble_eq_true rfl) dX12_firstOpen_43 (fun r26 w28 H locs hp27 hw => ?_)
          obtain ⟨rfl, hg32⟩ := hp27
          rcases hg32 with rfl | ⟨rfl, ⟨x30, c31, rx30, tx30⟩⟩
          · refine lv_if_eq (tgt := 55) hx hb dX12_firstOpen_46 (by decide) (fun _ => ?_) (fun c => absurd (by decide) c)
            refine lv_iload hx hb dX12_firstOpen_55 (lv_at hl 5 rfl) ?_
            exact tk_iret hC hr hlocks hK ⟨rfl, (Or.inl ⟨(show 0 ≤ v3_5.toInt by omega), (show v3_5.toInt ≤ 100000100 by omega)⟩)⟩ hw dX12_firstOpen_57
          · refine lv_if_eq (tgt := 55) hx hb dX12_firstOpen_46 (by decide) (fun c => absurd c (by decide)) (fun _ => ?_)
            obtain ⟨x33, ex33⟩ : ∃ y : Int32, y = v3_5 + Int32.ofInt 1 := ⟨_, rfl⟩
            refine lv_iinc (v := x33) (lv' := [(5, .int x33), (0, .ref (ad 0)), (1, .int a1), (2, .int a2), (3, .int a3), (4, .int a4)]) hx hb dX12_firstOpen_49 hl (k := 5) rfl ex33.symm (by decide) rfl (fun ls hl => ?_)
            have ex33 : x33.toInt = v3_5.toInt + 1 := by rw [ex33]; exact wk_add (y := 1) (show -2147483648 ≤ v3_5.toInt + 1 by omega) (show v3_5.toInt + 1 ≤ 2147483647 by omega)
            refine lv_goto (tgt := 3) hx hb dX12_firstOpen_52 (by decide) ?_
            exact ih3 x33 H locs ls  (show 0 ≤ a1.toInt by omega) (show a1.toInt ≤ 11 by omega) (show 0 ≤ a2.toInt by omega) (show a2.toInt ≤ 9 by omega) (show 0 ≤ a3.toInt by omega) (show a3.toInt ≤ 100000100 by omega) (show 0 ≤ a4.toInt by omega) (show a4.toInt ≤ 100000100 by omega) (show 0 ≤ x33.toInt by omega) (show x33.toInt ≤ 100000104 by omega) (show (100000104 - x33.toInt).toNat < n3 by omega) hw   (lv_sub hl [1, 2, 3, 4, 5, 0] rfl)
        · refine lv_if_ne (tgt := 39) hx hb dX12_firstOpen_21 (by decide) (fun _ => ?_) (fun c => absurd c (by decide))
          refine lv_aload_n hx hb dX12_firstOpen_39 rfl (lv_at hl 0 rfl) ?_
          refine lv_iload_n hx hb dX12_firstOpen_40 rfl (lv_at hl 1 rfl) ?_
          refine lv_iload hx hb dX12_firstOpen_41 (lv_at hl 5 rfl) ?_
          refine tk_Vi hC hK hw hT hA hE hSR kM_at0 (by decide) rfl (k_X12_isLifted_3 l adK adV dC dI cy ad B (by omega) (by omega) qr s1   a1 (show 0 ≤ a1.toInt by omega) (show a1.toInt ≤ 11 by omega) v3_5 (show 0 ≤ v3_5.toInt by omega) (show v3_5.toInt ≤ 100000100 by omega) w0 H.size hT ) (cwV 2 hC.2.2.2.2 gX12_firstOpen_X12_isLifted rfl rfl rfl (by decide +kernel) ⟨Nat.le_of_ble_eq_true rfl, Nat.le_of_ble_eq_true rfl⟩) rfl hl.1 rfl (Nat.le_of_ble_eq_true rfl) dX12_firstOpen_43 (fun r34 w36 H locs hp35 hw => ?_)
          obtain ⟨rfl, hg40⟩ := hp35
          rcases hg40 with rfl | ⟨rfl, ⟨x38, c39, rx38, tx38⟩⟩
          · refine lv_if_eq (tgt := 55) hx hb dX12_firstOpen_46 (by decide) (fun _ => ?_) (fun c => absurd (by decide) c)
            refine lv_iload hx hb dX12_firstOpen_55 (lv_at hl 5 rfl) ?_
            exact tk_iret hC hr hlocks hK ⟨rfl, (Or.inr ⟨(show 0 ≤ v3_5.toInt by omega), (show v3_5.toInt ≤ 100000100 by omega), c18⟩)⟩ hw dX12_firstOpen_57
          · refine lv_if_eq (tgt := 55) hx hb dX12_firstOpen_46 (by decide) (fun c => absurd c (by decide)) (fun _ => ?_)
            obtain ⟨x41, ex41⟩ : ∃ y : Int32, y = v3_5 + Int32.ofInt 1 := ⟨_, rfl⟩
            refine lv_iinc (v := x41) (lv' := [(5, .int x41), (0, .ref (ad 0)), (1, .int a1), (2, .int a2), (3, .int a3), (4, .int a4)]) hx hb dX12_firstOpen_49 hl (k := 5) rfl ex41.symm (by decide) rfl (fun ls hl => ?_)
            have ex41 : x41.toInt = v3_5.toInt + 1 := by rw [ex41]; exact wk_add (y := 1) (show -2147483648 ≤ v3_5.toInt + 1 by omega) (show v3_5.toInt + 1 ≤ 2147483647 by omega)
            refine lv_goto (tgt := 3) hx hb dX12_firstOpen_52 (by decide) ?_
            exact ih3 x41 H locs ls  (show 0 ≤ a1.toInt by omega) (show a1.toInt ≤ 11 by omega) (show 0 ≤ a2.toInt by omega) (show a2.toInt ≤ 9 by omega) (show 0 ≤ a3.toInt by omega) (show a3.toInt ≤ 100000100 by omega) (show 0 ≤ a4.toInt by omega) (show a4.toInt ≤ 100000100 by omega) (show 0 ≤ x41.toInt by omega) (show x41.toInt ≤ 100000104 by omega) (show (100000104 - x41.toInt).toNat < n3 by omega) hw   (lv_sub hl [1, 2, 3, 4, 5, 0] rfl)
  refine lv_iload_n hx hb dX12_firstOpen_0 rfl (lv_at hl 3 rfl) ?_
  refine lv_istore (lv' := [(5, .int a3), (0, .ref (ad 0)), (1, .int a1), (2, .int a2), (3, .int a3), (4, .int a4)]) hx hb dX12_firstOpen_1 hl (by decide) rfl (fun ls hl => ?_)
  exact L3 ((100000104 - a3.toInt).toNat + 1) a3 s.heap locs ls  (show 0 ≤ a1.toInt by omega) (show a1.toInt ≤ 11 by omega) (show 0 ≤ a2.toInt by omega) (show a2.toInt ≤ 9 by omega) (show 0 ≤ a3.toInt by omega) (show a3.toInt ≤ 100000100 by omega) (show 0 ≤ a4.toInt by omega) (show a4.toInt ≤ 100000100 by omega) (show 0 ≤ a3.toInt by omega) (show a3.toInt ≤ 100000104 by omega) (Nat.lt_succ_self _) hw   (lv_sub hl [1, 2, 3, 4, 5, 0] rfl)
abbrev P_X12_reaches_2 (ad : Nat → Nat) (cy : Nat → ClassId) (B : Int) (qr : Nat) (s1 : Int) (a1 : Int32) (a2 : Int32) (a3 : Int32) (a4 : Int32) (w0 : va_W) : Int32 → va_W → Prop := fun r u => TW ksM ad cy B qr 12 u ∧ FE ksM [(77, 0, 10), (78, 0, 10)] w0 u ∧ ((0 ≤ r.toInt ∧ r.toInt ≤ 100000100))
set_option maxHeartbeats 4000000 in
set_option maxRecDepth 100000 in
theorem k_X12_reaches_2 (l : Launch) (adK adV : Nat → Nat) (dC : Nat → ClassId) (dI : Nat → Nat → Nat) (cy : Nat → ClassId) (ad : Nat → Nat) (B : Int) (hB0 : 100000 ≤ B) (hB1 : B ≤ 1073741824) (qr : Nat) (s1 : Int)  (a1 : Int32) (ra1 : 0 ≤ a1.toInt) (ta1 : a1.toInt ≤ 9) (a2 : Int32) (ra2 : 0 ≤ a2.toInt) (ta2 : a2.toInt ≤ 9) (a3 : Int32) (ra3 : 0 ≤ a3.toInt) (ta3 : a3.toInt ≤ 100000100) (a4 : Int32) (ra4 : 0 ≤ a4.toInt) (ta4 : a4.toInt ≤ 100000100) (w0 : va_W) (sz : Nat) (hT : TW ksM ad cy B qr 12 w0)  : Met l yX12_reaches wsX12_reaches ({ frames := 5, cells := 0, slots := 0, locals := 105 }) (va_Pc [.ref (ad 0), .int a1, .int a2, .int a3, .int a4] (wpreS adK adV dC dI cy sz w0)) (va_Qi (P_X12_reaches_2 ad cy B qr s1 a1 a2 a3 a4 w0) (fun u : va_W => wpost dC dI cy (va_A w0 sz) u) (va_A w0 sz)) 0 0 (va_A w0 sz) := by
  refine Met.ofW (cc := cX12_reaches) (maxL := 9) (ret := (some .int)) (by decide) rfl ?_
  intro p e s m args below meth c s₁ Bk hml hv
  obtain ⟨rfl, ⟨hsz, hP, hK, hD0⟩, hE, hSR⟩ := hv
  have hx := Bk.exec
  have hb := Bk.bytes
  have hr := Bk.returns
  have hlocks := Bk.notSynchronized
  have hC : CallFix p m c cX12_reaches 9 s _ wsX12_reaches RX12 := ⟨hx, hb, hml, findClass_of_methodNamed Bk.named, atoms_spec (ws := wsX12_reaches) Bk.pre⟩
  subst hsz
  have hD := hD0.self (sz := s.heap.size)
  generalize hAe : va_A w0 s.heap.size = A at hD hE ⊢
  have hA : ∀ q : Nat, s.heap.size ≤ q → A q := fun q h => by rw [← hAe]; exact Or.inr h
  have hw : Wd dC dI A s.heap s.heap [] w0 := ⟨hP, hD, va_S.rf⟩
  have hF : FE ksM [(77, 0, 10), (78, 0, 10)] w0 w0 := FE.rf
  have hl := lv_entry ([.ref (ad 0), .int a1, .int a2, .int a3, .int a4]) (n := 9) (Nat.le_of_ble_eq_true rfl)
  rw [lg_entry_eq]
  generalize (lg_sl ([.ref (ad 0), .int a1, .int a2, .int a3, .int a4]) ++ List.replicate (9 - (lg_sl ([.ref (ad 0), .int a1, .int a2, .int a3, .int a4])).length) Slot.unset).toArray = ls at hl ⊢
  have hl : lv_has ls 9 [(0, .ref (ad 0)), (1, .int a1), (2, .int a2), (3, .int a3), (4, .int a4)] := hl
  generalize hloc : ([] : List Loc) = locs at hw ⊢
  have hinX12 : ∀ w ∈ u_ws RX12 TX12 42, w ∈ wsX12_reaches := fun _ h => List.mem_cons_of_mem _ (List.mem_append_right _ (h))
  have L44 : ∀ (n44 : Nat) (v44_5 : Int32) (H : Heap) (locs : List Loc) (ls : Array Slot) (w1 : va_W), 0 ≤ a1.toInt → a1.toInt ≤ 9 → 0 ≤ a2.toInt → a2.toInt ≤ 9 → 0 ≤ a3.toInt → a3.toInt ≤ 100000100 → 0 ≤ a4.toInt → a4.toInt ≤ 100000100 → 0 ≤ v44_5.toInt → v44_5.toInt ≤ 10 → 0 ≤ (sumG 19 10 w1) → (10 - (sumG 19 10 w1)).toNat < n44 → Wd dC dI A s.heap H locs w1 → TW ksM ad cy B qr 12 w1 → FE ksM [(77, 0, 10), (78, 0, 10)] w0 w1 → lv_has ls 9 [(0, .ref (ad 0)), (1, .int a1), (2, .int a2), (3, .int a3), (4, .int a4), (5, .int v44_5)] → W p l e ({ frames := 5, cells := 0, slots := 0, locals := 105 }) s m (List.toArray [.ref (ad 0), .int a1, .int a2, .int a3, .int a4]) below meth c H locs 0 0 (MQ below (va_Qi (P_X12_reaches_2 ad cy B qr s1 a1 a2 a3 a4 w0) (fun u : va_W => wpost dC dI cy A u) A) (List.toArray [.ref (ad 0), .int a1, .int a2, .int a3, .int a4]) s 0 0 A) (F0 m 44 ls []) := by
    intro n44
    induction n44 with
    | zero => intro v44_5 H locs ls w1 r2 t3 r4 t5 r6 t7 r8 t9 r10 t11 hcr44_0 hm44 hw hT hF hl; omega
    | succ n44 ih44 =>
      intro v44_5 H locs ls w1 r2 t3 r4 t5 r6 t7 r8 t9 r10 t11 hcr44_0 hm44 hw hT hF hl
      have L145 : ∀ (n145 : Nat) (v145_5 : Int32) (v145_6 : Int32) (f145_12_0 : Int32) (H : Heap) (locs : List Loc) (ls : Array Slot) (w12 : va_W), 0 ≤ a1.toInt → a1.toInt ≤ 9 → 0 ≤ a2.toInt → a2.toInt ≤ 9 → 0 ≤ a3.toInt → a3.toInt ≤ 100000100 → 0 ≤ a4.toInt → a4.toInt ≤ 100000100 → 0 ≤ v145_5.toInt → v145_5.toInt ≤ 9 → 0 ≤ v145_6.toInt → v145_6.toInt ≤ 12 → 0 ≤ f145_12_0.toInt → f145_12_0.toInt ≤ 10 → (sumG 19 10 w1) + 1 ≤ (sumG 19 10 w12) → (12 - v145_6.toInt).toNat < n145 → Wd dC dI A s.heap H locs w12 → TW ksM ad cy B qr 12 w12 → FE ksM [(77, 0, 10), (78, 0, 10)] w0 w12 → gi w12 12 0 = f145_12_0 → lv_has ls 9 [(0, .ref (ad 0)), (1, .int a1), (2, .int a2), (3, .int a3), (4, .int a4), (5, .int v145_5), (6, .int v145_6)] → W p l e ({ frames := 5, cells := 0, slots := 0, locals := 105 }) s m (List.toArray [.ref (ad 0), .int a1, .int a2, .int a3, .int a4]) below meth c H locs 0 0 (MQ below (va_Qi (P_X12_reaches_2 ad cy B qr s1 a1 a2 a3 a4 w0) (fun u : va_W => wpost dC dI cy A u) A) (List.toArray [.ref (ad 0), .int a1, .int a2, .int a3, .int a4]) s 0 0 A) (F0 m 145 ls []) := by
        intro n145
        induction n145 with
        | zero => intro v145_5 v145_6 f145_12_0 H locs ls w12 r13 t14 r15 t16 r17 t18 r19 t20 r21 t22 r23 t24 r25 t26 hcr145_0 hm145 hw hT hF c27 hl; omega
        | succ n145 ih145 =>
          intro v145_5 v145_6 f145_12_0 H locs ls w12 r13 t14 r15 t16 r17 t18 r19 t20 r21 t22 r23 t24 r25 t26 hcr145_0 hm145 hw hT hF c27 hl
          have J259 : ∀ (f259_12_1 : Int32) (H : Heap) (locs : List Loc) (ls : Array Slot) (w28 : va_W), 0 ≤ a1.toInt → a1.toInt ≤ 9 → 0 ≤ a2.toInt → a2.toInt ≤ 9 → 0 ≤ a3.toInt → a3.toInt ≤ 100000100 → 0 ≤ a4.toInt → a4.toInt ≤ 100000100 → 0 ≤ v145_5.toInt → v145_5.toInt ≤ 9 → 0 ≤ v145_6.toInt → v145_6.toInt ≤ 11 → 0 ≤ f145_12_0.toInt → f145_12_0.toInt ≤ 10 → 1 ≤ f259_12_1.toInt → f259_12_1.toInt ≤ 12 → (sumG 19 10 w1) + 1 ≤ (sumG 19 10 w28) → Wd dC dI A s.heap H locs w28 → TW ksM ad cy B qr 12 w28 → FE ksM [(77, 0, 10), (78, 0, 10)] w0 w28 → gi w28 12 0 = f145_12_0 → gi w28 12 1 = f259_12_1 → lv_has ls 9 [(0, .ref (ad 0)), (1, .int a1), (2, .int a2), (3, .int a3), (4, .int a4), (5, .int v145_5), (6, .int v145_6)] → W p l e ({ frames := 5, cells := 0, slots := 0, locals := 105 }) s m (List.toArray [.ref (ad 0), .int a1, .int a2, .int a3, .int a4]) below meth c H locs 0 0 (MQ below (va_Qi (P_X12_reaches_2 ad cy B qr s1 a1 a2 a3 a4 w0) (fun u : va_W => wpost dC dI cy A u) A) (List.toArray [.ref (ad 0), .int a1, .int a2, .int a3, .int a4]) s 0 0 A) (F0 m 259 ls []) := by
            intro f259_12_1 H locs ls w28 r29 t30 r31 t32 r33 t34 r35 t36 r37 t38 r39 t40 r41 t42 r44 t45 hcr259_0 hw hT hF c43 c46 hl
            obtain ⟨x47, ex47⟩ : ∃ y : Int32, y = v145_6 + Int32.ofInt 1 := ⟨_, rfl⟩
            refine lv_iinc (v := x47) (lv' := [(6, .int x47), (0, .ref (ad 0)), (1, .int a1), (2, .int a2), (3, .int a3), (4, .int a4), (5, .int v145_5)]) hx hb dX12_reaches_259 hl (k := 6) rfl ex47.symm (by decide) rfl (fun ls hl => ?_)
            have ex47 : x47.toInt = v145_6.toInt + 1 := by rw [ex47]; exact wk_add (y := 1) (show -2147483648 ≤ v145_6.toInt + 1 by omega) (show v145_6.toInt + 1 ≤ 2147483647 by omega)
            refine lv_goto (tgt := 145) hx hb dX12_reaches_262 (by decide) ?_
            have gb48 : 0 ≤ sumG 19 10 w28 ∧ sumG 19 10 w28 ≤ 10 := hT.sum (lo := 0) (hi := 1) kM_at19 rfl (by decide) rfl
            exact ih145 v145_5 x47 f145_12_0 H locs ls w28 (show 0 ≤ a1.toInt by omega) (show a1.toInt ≤ 9 by omega) (show 0 ≤ a2.toInt by omega) (show a2.toInt ≤ 9 by omega) (show 0 ≤ a3.toInt by omega) (show a3.toInt ≤ 100000100 by omega) (show 0 ≤ a4.toInt by omega) (show a4.toInt ≤ 100000100 by omega) (show 0 ≤ v145_5.toInt by omega) (show v145_5.toInt ≤ 9 by omega) (show 0 ≤ x47.toInt by omega) (show x47.toInt ≤ 12 by omega) (show 0 ≤ f145_12_0.toInt by omega) (show f145_12_0.toInt ≤ 10 by omega) (show (sumG 19 10 w1) + 1 ≤ (sumG 19 10 w28) by omega) (show (12 - x47.toInt).toNat < n145 by omega) hw hT hF c43 (lv_sub hl [1, 2, 3, 4, 5, 6, 0] rfl)
          refine lv_iload hx hb dX12_reaches_145 (lv_at hl 6 rfl) ?_
          refine lv_aload_n hx hb dX12_reaches_147 rfl (lv_at hl 0 rfl) ?_
          refine tk_getA hC hK hw hT hinX12 kM_at0 (by decide) rfl 26 (by decide) (List.mem_of_getElem? (i := 4) rfl) rfl rfl dX12_reaches_148 ?_
          refine lv_iconst (v := 1) hx hb dX12_reaches_151 (by decide) ?_
          refine tk_ialdR hC hK hw hT kM_at12 rfl (by decide) (by decide) dX12_reaches_152 (fun x49 c50 Ex49 => ?_)
          have bx49 : 0 ≤ x49.toInt ∧ x49.toInt ≤ 12 := (tk_rg1 rfl).mp Ex49
          have c50 : gi w12 12 1 = x49 := c50
          refine lv_icmp_ge (tgt := 265) hx hb dX12_reaches_153 (by decide) (fun c51 => ?_) (fun c51 => ?_)
          · have c51 : x49.toInt ≤ v145_6.toInt := wk_le.mp c51
            refine lv_goto (tgt := 44) hx hb dX12_reaches_265 (by decide) ?_
            have gb52 : 0 ≤ sumG 19 10 w12 ∧ sumG 19 10 w12 ≤ 10 := hT.sum (lo := 0) (hi := 1) kM_at19 rfl (by decide) rfl
            exact ih44 v145_5 H locs ls w12 (show 0 ≤ a1.toInt by omega) (show a1.toInt ≤ 9 by omega) (show 0 ≤ a2.toInt by omega) (show a2.toInt ≤ 9 by omega) (show 0 ≤ a3.toInt by omega) (show a3.toInt ≤ 100000100 by omega) (show 0 ≤ a4.toInt by omega) (show a4.toInt ≤ 100000100 by omega) (show 0 ≤ v145_5.toInt by omega) (show v145_5.toInt ≤ 10 by omega) (show 0 ≤ (sumG 19 10 w12) by omega) (show (10 - (sumG 19 10 w12)).toNat < n44 by omega) hw hT hF  (lv_sub hl [0, 1, 2, 3, 4, 5] rfl)
          · have c51 : v145_6.toInt < x49.toInt := wk_leF c51
            refine lv_aload_n hx hb dX12_reaches_156 rfl (lv_at hl 0 rfl) ?_
            refine lv_iload hx hb dX12_reaches_157 (lv_at hl 6 rfl) ?_
            refine lv_iload hx hb dX12_reaches_159 (lv_at hl 5 rfl) ?_
            refine tk_Vi hC hK hw hT hA hE hSR kM_at0 (by decide) rfl (k_X12_isAt_1 l adK adV dC dI cy ad B (by omega) (by omega) qr s1   v145_6 (show 0 ≤ v145_6.toInt by omega) (show v145_6.toInt ≤ 11 by omega) v145_5 (show 0 ≤ v145_5.toInt by omega) (show v145_5.toInt ≤ 9 by omega) w12 H.size hT ) (cwV 2 hC.2.2.2.2 gX12_reaches_X12_isAt rfl rfl rfl (by decide +kernel) ⟨Nat.le_of_ble_eq_true rfl, Nat.le_of_ble_eq_true rfl⟩) rfl hl.1 rfl (Nat.le_of_ble_eq_true rfl) dX12_reaches_161 (fun r53 w55 H locs hp54 hw => ?_)
            obtain ⟨rfl, hg57⟩ := hp54
            rcases hg57 with rfl | rfl
            · refine lv_if_ne (tgt := 170) hx hb dX12_reaches_164 (by decide) (fun c => absurd (by decide) c) (fun _ => ?_)
              refine lv_goto (tgt := 259) hx hb dX12_reaches_167 (by decide) ?_
              have gb58 : 0 ≤ sumG 19 10 w12 ∧ sumG 19 10 w12 ≤ 10 := hT.sum (lo := 0) (hi := 1) kM_at19 rfl (by decide) rfl
              exact J259 x49 H locs ls w12 (show 0 ≤ a1.toInt by omega) (show a1.toInt ≤ 9 by omega) (show 0 ≤ a2.toInt by omega) (show a2.toInt ≤ 9 by omega) (show 0 ≤ a3.toInt by omega) (show a3.toInt ≤ 100000100 by omega) (show 0 ≤ a4.toInt by omega) (show a4.toInt ≤ 100000100 by omega) (show 0 ≤ v145_5.toInt by omega) (show v145_5.toInt ≤ 9 by omega) (show 0 ≤ v145_6.toInt by omega) (show v145_6.toInt ≤ 11 by omega) (show 0 ≤ f145_12_0.toInt by omega) (show f145_12_0.toInt ≤ 10 by omega) (show 1 ≤ x49.toInt by omega) (show x49.toInt ≤ 12 by omega) (show (sumG 19 10 w1) + 1 ≤ (sumG 19 10 w12) by omega)  hw hT hF c27 c50 (lv_sub hl [0, 1, 2, 3, 4, 5, 6] rfl)
            · refine lv_if_ne (tgt := 170) hx hb dX12_reaches_164 (by decide) (fun _ => ?_) (fun c => absurd c (by decide))
              refine lv_aload_n hx hb dX12_reaches_170 rfl (lv_at hl 0 rfl) ?_
              refine lv_iload hx hb dX12_reaches_171 (lv_at hl 6 rfl) ?_
              refine lv_iload hx hb dX12_reaches_173 (lv_at hl 5 rfl) ?_
              refine lv_aload_n hx hb dX12_reaches_175 rfl (lv_at hl 0 rfl) ?_
              refine tk_getA hC hK hw hT hinX12 kM_at0 (by decide) rfl 35 (by decide) (List.mem_of_getElem? (i := 1) rfl) rfl rfl dX12_reaches_176 ?_
              refine lv_iload hx hb dX12_reaches_179 (lv_at hl 5 rfl) ?_
              refine tk_iald hC hK hw hT kM_at18 rfl rfl (show 0 ≤ v145_5.toInt by omega) (show v145_5.toInt < 10 by omega) dX12_reaches_181 (fun x59 c60 rx59 tx59 => ?_)
              refine lv_iload hx hb dX12_reaches_182 (lv_at hl 4 rfl) ?_
              refine tk_Vi hC hK hw hT hA hE hSR kM_at0 (by decide) rfl (k_X12_firstOpen_3 l adK adV dC dI cy ad B (by omega) (by omega) qr s1   v145_6 (show 0 ≤ v145_6.toInt by omega) (show v145_6.toInt ≤ 11 by omega) v145_5 (show 0 ≤ v145_5.toInt by omega) (show v145_5.toInt ≤ 9 by omega) x59 (show 0 ≤ x59.toInt by omega) (show x59.toInt ≤ 100000100 by omega) a4 (show 0 ≤ a4.toInt by omega) (show a4.toInt ≤ 100000100 by omega) w12 H.size hT ) (cwV 4 hC.2.2.2.2 gX12_reaches_X12_firstOpen rfl rfl rfl (by decide +kernel) ⟨Nat.le_of_ble_eq_true rfl, Nat.le_of_ble_eq_true rfl⟩) rfl hl.1 rfl (Nat.le_of_ble_eq_true rfl) dX12_reaches_184 (fun r61 w63 H locs hp62 hw => ?_)
              obtain ⟨rfl, hg70⟩ := hp62
              rcases hg70 with ⟨g65, g66⟩ | ⟨g67, g68, c69⟩
              · refine lv_istore (lv' := [(7, .int r61), (0, .ref (ad 0)), (1, .int a1), (2, .int a2), (3, .int a3), (4, .int a4), (5, .int v145_5), (6, .int v145_6)]) hx hb dX12_reaches_187 hl (by decide) rfl (fun ls hl => ?_)
                refine lv_aload_n hx hb dX12_reaches_189 rfl (lv_at hl 1 rfl) ?_
                refine lv_iload hx hb dX12_reaches_190 (lv_at hl 7 rfl) ?_
                refine lv_iload hx hb dX12_reaches_192 (lv_at hl 6 rfl) ?_
                refine tk_Vi hC hK hw hT hA hE hSR kM_at0 (by decide) rfl (k_X12_otherOf_1 l adK adV dC dI cy ad B (by omega) (by omega) qr s1   v145_6 (show 0 ≤ v145_6.toInt by omega) (show v145_6.toInt ≤ 11 by omega) v145_5 (show 0 ≤ v145_5.toInt by omega) (show v145_5.toInt ≤ 9 by omega) w12 H.size hT ) (cwV 2 hC.2.2.2.2 gX12_reaches_X12_otherOf rfl rfl rfl (by decide +kernel) ⟨Nat.le_of_ble_eq_true rfl, Nat.le_of_ble_eq_true rfl⟩) rfl hl.1 rfl (Nat.le_of_ble_eq_true rfl) dX12_reaches_194 (fun r71 w73 H locs hp72 hw => ?_)
                obtain ⟨rfl, hg80⟩ := hp72
                rcases hg80 with ⟨g75, g76⟩ | ⟨g77, g78, c79⟩
                · refine lv_istore (lv' := [(8, .int r71), (7, .int r61), (0, .ref (ad 0)), (1, .int a1), (2, .int a2), (3, .int a3), (4, .int a4), (5, .int v145_5), (6, .int v145_6)]) hx hb dX12_reaches_197 hl (by decide) rfl (fun ls hl => ?_)
                  refine lv_iload hx hb dX12_reaches_199 (lv_at hl 1 rfl) ?_
                  refine lv_ldcw (v := 100000000) hx hb hC.2.2.2.1 (hC.2.2.2.2 _ (List.mem_of_getElem? (i := 2) rfl)) dX12_reaches_201 ?_
                  refine lv_icmp_ge (tgt := 259) hx hb dX12_reaches_204 (by decide) (fun c81 => ?_) (fun c81 => ?_)
                  · have c81 : (100000000 : Int) ≤ r61.toInt := wk_le.mp c81
                    have gb82 : 0 ≤ sumG 19 10 w12 ∧ sumG 19 10 w12 ≤ 10 := hT.sum (lo := 0) (hi := 1) kM_at19 rfl (by decide) rfl
                    exact J259 x49 H locs ls w12 (show 0 ≤ a1.toInt by omega) (show a1.toInt ≤ 9 by omega) (show 0 ≤ a2.toInt by omega) (show a2.toInt ≤ 9 by omega) (show 0 ≤ a3.toInt by omega) (show a3.toInt ≤ 100000100 by omega) (show 0 ≤ a4.toInt by omega) (show a4.toInt ≤ 100000100 by omega) (show 0 ≤ v145_5.toInt by omega) (show v145_5.toInt ≤ 9 by omega) (show 0 ≤ v145_6.toInt by omega) (show v145_6.toInt ≤ 11 by omega) (show 0 ≤ f145_12_0.toInt by omega) (show f145_12_0.toInt ≤ 10 by omega) (show 1 ≤ x49.toInt by omega) (show x49.toInt ≤ 12 by omega) (show (sumG 19 10 w1) + 1 ≤ (sumG 19 10 w12) by omega)  hw hT hF c27 c50 (lv_sub hl [2, 3, 4, 5, 6, 7, 8] rfl)
                  · have c81 : r61.toInt < (100000000 : Int) := wk_leF c81
                    refine lv_iload hx hb dX12_reaches_207 (lv_at hl 1 rfl) ?_
                    refine lv_aload_n hx hb dX12_reaches_209 rfl (lv_at hl 2 rfl) ?_
                    refine lv_iload hx hb dX12_reaches_210 (lv_at hl 8 rfl) ?_
                    refine lv_iconst (v := 2) hx hb dX12_reaches_212 (by decide) ?_
                    refine tk_Vi hC hK hw hT hA hE hSR kM_at0 (by decide) rfl (k_X12_streetOf_6 l adK adV dC dI cy ad B (by omega) (by omega) qr s1   v145_6 (show 0 ≤ v145_6.toInt by omega) (show v145_6.toInt ≤ 11 by omega) w12 H.size hT ) (cwV 2 hC.2.2.2.2 gX12_reaches_X12_streetOf rfl rfl rfl (by decide +kernel) ⟨Nat.le_of_ble_eq_true rfl, Nat.le_of_ble_eq_true rfl⟩) rfl hl.1 rfl (Nat.le_of_ble_eq_true rfl) dX12_reaches_213 (fun r83 w85 H locs hp84 hw => ?_)
                    obtain ⟨rfl, hg90⟩ := hp84
                    obtain ⟨g87, g88, c89⟩ := hg90
                    refine lv_iadd hx hb dX12_reaches_216 ?_
                    refine lv_topi (fun x91 ex91 => ?_)
                    have ex91 : x91.toInt = r61.toInt + r83.toInt := by rw [ex91]; exact wk_add (show (-2147483648) ≤ r61.toInt + r83.toInt by omega) (show r61.toInt + r83.toInt ≤ 2147483647 by omega)
                    refine lv_iload hx hb dX12_reaches_217 (lv_at hl 6 rfl) ?_
                    refine lv_icmp_gt (tgt := 259) hx hb dX12_reaches_219 (by decide) (fun c92 => ?_) (fun c92 => ?_)
                    · have c92 : a4.toInt < x91.toInt := wk_lt.mp c92
                      have gb93 : 0 ≤ sumG 19 10 w12 ∧ sumG 19 10 w12 ≤ 10 := hT.sum (lo := 0) (hi := 1) kM_at19 rfl (by decide) rfl
                      exact J259 x49 H locs ls w12 (show 0 ≤ a1.toInt by omega) (show a1.toInt ≤ 9 by omega) (show 0 ≤ a2.toInt by omega) (show a2.toInt ≤ 9 by omega) (show 0 ≤ a3.toInt by omega) (show a3.toInt ≤ 100000100 by omega) (show 0 ≤ a4.toInt by omega) (show a4.toInt ≤ 100000100 by omega) (show 0 ≤ v145_5.toInt by omega) (show v145_5.toInt ≤ 9 by omega) (show 0 ≤ v145_6.toInt by omega) (show v145_6.toInt ≤ 11 by omega) (show 0 ≤ f145_12_0.toInt by omega) (show f145_12_0.toInt ≤ 10 by omega) (show 1 ≤ x49.toInt by omega) (show x49.toInt ≤ 12 by omega) (show (sumG 19 10 w1) + 1 ≤ (sumG 19 10 w12) by omega)  hw hT hF c27 c50 (lv_sub hl [2, 3, 4, 5, 6, 7, 8] rfl)
                    · have c92 : x91.toInt ≤ a4.toInt := wk_ltF c92
                      refine lv_iload hx hb dX12_reaches_222 (lv_at hl 1 rfl) ?_
                      refine lv_aload_n hx hb dX12_reaches_224 rfl (lv_at hl 2 rfl) ?_
                      refine lv_iload hx hb dX12_reaches_225 (lv_at hl 8 rfl) ?_
                      refine lv_iconst (v := 2) hx hb dX12_reaches_227 (by decide) ?_
                      refine tk_Vi hC hK hw hT hA hE hSR kM_at0 (by decide) rfl (k_X12_streetOf_6 l adK adV dC dI cy ad B (by omega) (by omega) qr s1   v145_6 (show 0 ≤ v145_6.toInt by omega) (show v145_6.toInt ≤ 11 by omega) w12 H.size hT ) (cwV 2 hC.2.2.2.2 gX12_reaches_X12_streetOf rfl rfl rfl (by decide +kernel) ⟨Nat.le_of_ble_eq_true rfl, Nat.le_of_ble_eq_true rfl⟩) rfl hl.1 rfl (Nat.le_of_ble_eq_true rfl) dX12_reaches_228 (fun r94 w96 H locs hp95 hw => ?_)
                      obtain ⟨rfl, hg101⟩ := hp95
                      obtain ⟨g98, g99, c100⟩ := hg101
                      obtain rfl : r94 = r83 := c100.symm.trans c89
                      refine lv_iadd hx hb dX12_reaches_231 ?_
                      refine lv_topi (fun x102 ex102 => ?_)
                      have ex102 : x102.toInt = r61.toInt + r83.toInt := by rw [ex102]; exact wk_add (show (-2147483648) ≤ r61.toInt + r83.toInt by omega) (show r61.toInt + r83.toInt ≤ 2147483647 by omega)
                      refine lv_aload_n hx hb dX12_reaches_232 rfl (lv_at hl 2 rfl) ?_
                      refine tk_getA hC hK hw hT hinX12 kM_at0 (by decide) rfl 35 (by decide) (List.mem_of_getElem? (i := 1) rfl) rfl rfl dX12_reaches_233 ?_
                      refine lv_iload hx hb dX12_reaches_236 (lv_at hl 0 rfl) ?_
                      refine tk_iald hC hK hw hT kM_at18 rfl rfl (show 0 ≤ r71.toInt by omega) (show r71.toInt < 10 by omega) dX12_reaches_238 (fun x103 c104 rx103 tx103 => ?_)
                      refine lv_icmp_ge (tgt := 259) hx hb dX12_reaches_239 (by decide) (fun c105 => ?_) (fun c105 => ?_)
                      · have c105 : x103.toInt ≤ x102.toInt := wk_le.mp c105
                        have gb106 : 0 ≤ sumG 19 10 w12 ∧ sumG 19 10 w12 ≤ 10 := hT.sum (lo := 0) (hi := 1) kM_at19 rfl (by decide) rfl
                        exact J259 x49 H locs ls w12 (show 0 ≤ a1.toInt by omega) (show a1.toInt ≤ 9 by omega) (show 0 ≤ a2.toInt by omega) (show a2.toInt ≤ 9 by omega) (show 0 ≤ a3.toInt by omega) (show a3.toInt ≤ 100000100 by omega) (show 0 ≤ a4.toInt by omega) (show a4.toInt ≤ 100000100 by omega) (show 0 ≤ v145_5.toInt by omega) (show v145_5.toInt ≤ 9 by omega) (show 0 ≤ v145_6.toInt by omega) (show v145_6.toInt ≤ 11 by omega) (show 0 ≤ f145_12_0.toInt by omega) (show f145_12_0.toInt ≤ 10 by omega) (show 1 ≤ x49.toInt by omega) (show x49.toInt ≤ 12 by omega) (show (sumG 19 10 w1) + 1 ≤ (sumG 19 10 w12) by omega)  hw hT hF c27 c50 (lv_sub hl [2, 3, 4, 5, 6, 7, 8] rfl)
                      · have c105 : x102.toInt < x103.toInt := wk_leF c105
                        refine lv_aload_n hx hb dX12_reaches_242 rfl (lv_at hl 2 rfl) ?_
                        refine tk_getA hC hK hw hT hinX12 kM_at0 (by decide) rfl 35 (by decide) (List.mem_of_getElem? (i := 1) rfl) rfl rfl dX12_reaches_243 ?_
                        refine lv_iload hx hb dX12_reaches_246 (lv_at hl 0 rfl) ?_
                        refine lv_iload hx hb dX12_reaches_248 (lv_at hl 1 rfl) ?_
                        refine lv_aload_n hx hb dX12_reaches_250 rfl (lv_at hl 2 rfl) ?_
                        refine lv_iload hx hb dX12_reaches_251 (lv_at hl 8 rfl) ?_
                        refine lv_iconst (v := 2) hx hb dX12_reaches_253 (by decide) ?_
                        refine tk_Vi hC hK hw hT hA hE hSR kM_at0 (by decide) rfl (k_X12_streetOf_6 l adK adV dC dI cy ad B (by omega) (by omega) qr s1   v145_6 (show 0 ≤ v145_6.toInt by omega) (show v145_6.toInt ≤ 11 by omega) w12 H.size hT ) (cwV 2 hC.2.2.2.2 gX12_reaches_X12_streetOf rfl rfl rfl (by decide +kernel) ⟨Nat.le_of_ble_eq_true rfl, Nat.le_of_ble_eq_true rfl⟩) rfl hl.1 rfl (Nat.le_of_ble_eq_true rfl) dX12_reaches_254 (fun r107 w109 H locs hp108 hw => ?_)
                        obtain ⟨rfl, hg114⟩ := hp108
                        obtain ⟨g111, g112, c113⟩ := hg114
                        obtain rfl : r107 = r83 := c113.symm.trans c89
                        refine lv_iadd hx hb dX12_reaches_257 ?_
                        refine lv_topi (fun x115 ex115 => ?_)
                        have ex115 : x115.toInt = r61.toInt + r83.toInt := by rw [ex115]; exact wk_add (show (-2147483648) ≤ r61.toInt + r83.toInt by omega) (show r61.toInt + r83.toInt ≤ 2147483647 by omega)
                        refine tk_iast hC hK hw hT kM_at18 (by decide) rfl rfl (show 0 ≤ r71.toInt by omega) (show r71.toInt < 10 by omega) (show 0 ≤ x115.toInt by omega) (show x115.toInt ≤ 100000100 by omega) dX12_reaches_258 (fun H locs w116 hw hT k118 c117 => ?_)
                        have gs119 : sumG 19 10 w116 = sumG 19 10 w12 := sumG_ne 10 k118 (tk_ne kM_at19 kM_at18 (by decide))
                        have hF := hF.put kM_at18 (inE_of (a := 0) (b := 10) (by decide) (show 0 ≤ r71.toInt.toNat by omega) (show r71.toInt.toNat ≤ 10 by omega)) k118
                        have c120 := k118.gi (Or.inl (tk_ne kM_at12 kM_at18 (by decide))) c27
                        have c121 := k118.gi (Or.inl (tk_ne kM_at12 kM_at18 (by decide))) c50
                        have c122 := k118.gi (Or.inl (tk_ne kM_at12 kM_at18 (by decide))) c89
                        have gb123 : 0 ≤ sumG 19 10 w116 ∧ sumG 19 10 w116 ≤ 10 := hT.sum (lo := 0) (hi := 1) kM_at19 rfl (by decide) rfl
                        exact J259 x49 H locs ls w116 (show 0 ≤ a1.toInt by omega) (show a1.toInt ≤ 9 by omega) (show 0 ≤ a2.toInt by omega) (show a2.toInt ≤ 9 by omega) (show 0 ≤ a3.toInt by omega) (show a3.toInt ≤ 100000100 by omega) (show 0 ≤ a4.toInt by omega) (show a4.toInt ≤ 100000100 by omega) (show 0 ≤ v145_5.toInt by omega) (show v145_5.toInt ≤ 9 by omega) (show 0 ≤ v145_6.toInt by omega) (show v145_6.toInt ≤ 11 by omega) (show 0 ≤ f145_12_0.toInt by omega) (show f145_12_0.toInt ≤ 10 by omega) (show 1 ≤ x49.toInt by omega) (show x49.toInt ≤ 12 by omega) (show (sumG 19 10 w1) + 1 ≤ (sumG 19 10 w116) by omega)  hw hT hF c120 c121 (lv_sub hl [2, 3, 4, 5, 6, 7, 8] rfl)
                · refine lv_istore (lv' := [(8, .int r71), (7, .int r61), (0, .ref (ad 0)), (1, .int a1), (2, .int a2), (3, .int a3), (4, .int a4), (5, .int v145_5), (6, .int v145_6)]) hx hb dX12_reaches_197 hl (by decide) rfl (fun ls hl => ?_)
                  refine lv_iload hx hb dX12_reaches_199 (lv_at hl 1 rfl) ?_
                  refine lv_ldcw (v := 100000000) hx hb hC.2.2.2.1 (hC.2.2.2.2 _ (List.mem_of_getElem? (i := 2) rfl)) dX12_reaches_201 ?_
                  refine lv_icmp_ge (tgt := 259) hx hb dX12_reaches_204 (by decide) (fun c124 => ?_) (fun c124 => ?_)
                  · have c124 : (100000000 : Int) ≤ r61.toInt := wk_le.mp c124
                    have gb125 : 0 ≤ sumG 19 10 w12 ∧ sumG 19 10 w12 ≤ 10 := hT.sum (lo := 0) (hi := 1) kM_at19 rfl (by decide) rfl
                    exact J259 x49 H locs ls w12 (show 0 ≤ a1.toInt by omega) (show a1.toInt ≤ 9 by omega) (show 0 ≤ a2.toInt by omega) (show a2.toInt ≤ 9 by omega) (show 0 ≤ a3.toInt by omega) (show a3.toInt ≤ 100000100 by omega) (show 0 ≤ a4.toInt by omega) (show a4.toInt ≤ 100000100 by omega) (show 0 ≤ v145_5.toInt by omega) (show v145_5.toInt ≤ 9 by omega) (show 0 ≤ v145_6.toInt by omega) (show v145_6.toInt ≤ 11 by omega) (show 0 ≤ f145_12_0.toInt by omega) (show f145_12_0.toInt ≤ 10 by omega) (show 1 ≤ x49.toInt by omega) (show x49.toInt ≤ 12 by omega) (show (sumG 19 10 w1) + 1 ≤ (sumG 19 10 w12) by omega)  hw hT hF c27 c50 (lv_sub hl [2, 3, 4, 5, 6, 7, 8] rfl)
                  · have c124 : r61.toInt < (100000000 : Int) := wk_leF c124
                    refine lv_iload hx hb dX12_reaches_207 (lv_at hl 1 rfl) ?_
                    refine lv_aload_n hx hb dX12_reaches_209 rfl (lv_at hl 2 rfl) ?_
                    refine lv_iload hx hb dX12_reaches_210 (lv_at hl 8 rfl) ?_
                    refine lv_iconst (v := 2) hx hb dX12_reaches_212 (by decide) ?_
                    refine tk_Vi hC hK hw hT hA hE hSR kM_at0 (by decide) rfl (k_X12_streetOf_6 l adK adV dC dI cy ad B (by omega) (by omega) qr s1   v145_6 (show 0 ≤ v145_6.toInt by omega) (show v145_6.toInt ≤ 11 by omega) w12 H.size hT ) (cwV 2 hC.2.2.2.2 gX12_reaches_X12_streetOf rfl rfl rfl (by decide +kernel) ⟨Nat.le_of_ble_eq_true rfl, Nat.le_of_ble_eq_true rfl⟩) rfl hl.1 rfl (Nat.le_of_ble_eq_true rfl) dX12_reaches_213 (fun r126 w128 H locs hp127 hw => ?_)
                    obtain ⟨rfl, hg133⟩ := hp127
                    obtain ⟨g130, g131, c132⟩ := hg133
                    refine lv_iadd hx hb dX12_reaches_216 ?_
                    refine lv_topi (fun x134 ex134 => ?_)
                    have ex134 : x134.toInt = r61.toInt + r126.toInt := by rw [ex134]; exact wk_add (show (-2147483648) ≤ r61.toInt + r126.toInt by omega) (show r61.toInt + r126.toInt ≤ 2147483647 by omega)
                    refine lv_iload hx hb dX12_reaches_217 (lv_at hl 6 rfl) ?_
                    refine lv_icmp_gt (tgt := 259) hx hb dX12_reaches_219 (by decide) (fun c135 => ?_) (fun c135 => ?_)
                    · have c135 : a4.toInt < x134.toInt := wk_lt.mp c135
                      have gb136 : 0 ≤ sumG 19 10 w12 ∧ sumG 19 10 w12 ≤ 10 := hT.sum (lo := 0) (hi := 1) kM_at19 rfl (by decide) rfl
                      exact J259 x49 H locs ls w12 (show 0 ≤ a1.toInt by omega) (show a1.toInt ≤ 9 by omega) (show 0 ≤ a2.toInt by omega) (show a2.toInt ≤ 9 by omega) (show 0 ≤ a3.toInt by omega) (show a3.toInt ≤ 100000100 by omega) (show 0 ≤ a4.toInt by omega) (show a4.toInt ≤ 100000100 by omega) (show 0 ≤ v145_5.toInt by omega) (show v145_5.toInt ≤ 9 by omega) (show 0 ≤ v145_6.toInt by omega) (show v145_6.toInt ≤ 11 by omega) (show 0 ≤ f145_12_0.toInt by omega) (show f145_12_0.toInt ≤ 10 by omega) (show 1 ≤ x49.toInt by omega) (show x49.toInt ≤ 12 by omega) (show (sumG 19 10 w1) + 1 ≤ (sumG 19 10 w12) by omega)  hw hT hF c27 c50 (lv_sub hl [2, 3, 4, 5, 6, 7, 8] rfl)
                    · have c135 : x134.toInt ≤ a4.toInt := wk_ltF c135
                      refine lv_iload hx hb dX12_reaches_222 (lv_at hl 1 rfl) ?_
                      refine lv_aload_n hx hb dX12_reaches_224 rfl (lv_at hl 2 rfl) ?_
                      refine lv_iload hx hb dX12_reaches_225 (lv_at hl 8 rfl) ?_
                      refine lv_iconst (v := 2) hx hb dX12_reaches_227 (by decide) ?_
                      refine tk_Vi hC hK hw hT hA hE hSR kM_at0 (by decide) rfl (k_X12_streetOf_6 l adK adV dC dI cy ad B (by omega) (by omega) qr s1   v145_6 (show 0 ≤ v145_6.toInt by omega) (show v145_6.toInt ≤ 11 by omega) w12 H.size hT ) (cwV 2 hC.2.2.2.2 gX12_reaches_X12_streetOf rfl rfl rfl (by decide +kernel) ⟨Nat.le_of_ble_eq_true rfl, Nat.le_of_ble_eq_true rfl⟩) rfl hl.1 rfl (Nat.le_of_ble_eq_true rfl) dX12_reaches_228 (fun r137 w139 H locs hp138 hw => ?_)
                      obtain ⟨rfl, hg144⟩ := hp138
                      obtain ⟨g141, g142, c143⟩ := hg144
                      obtain rfl : r137 = r126 := c143.symm.trans c132
                      refine lv_iadd hx hb dX12_reaches_231 ?_
                      refine lv_topi (fun x145 ex145 => ?_)
                      have ex145 : x145.toInt = r61.toInt + r126.toInt := by rw [ex145]; exact wk_add (show (-2147483648) ≤ r61.toInt + r126.toInt by omega) (show r61.toInt + r126.toInt ≤ 2147483647 by omega)
                      refine lv_aload_n hx hb dX12_reaches_232 rfl (lv_at hl 2 rfl) ?_
                      refine tk_getA hC hK hw hT hinX12 kM_at0 (by decide) rfl 35 (by decide) (List.mem_of_getElem? (i := 1) rfl) rfl rfl dX12_reaches_233 ?_
                      refine lv_iload hx hb dX12_reaches_236 (lv_at hl 0 rfl) ?_
                      refine tk_iald hC hK hw hT kM_at18 rfl rfl (show 0 ≤ r71.toInt by omega) (show r71.toInt < 10 by omega) dX12_reaches_238 (fun x146 c147 rx146 tx146 => ?_)
                      refine lv_icmp_ge (tgt := 259) hx hb dX12_reaches_239 (by decide) (fun c148 => ?_) (fun c148 => ?_)
                      · have c148 : x146.toInt ≤ x145.toInt := wk_le.mp c148
                        have gb149 : 0 ≤ sumG 19 10 w12 ∧ sumG 19 10 w12 ≤ 10 := hT.sum (lo := 0) (hi := 1) kM_at19 rfl (by decide) rfl
                        exact J259 x49 H locs ls w12 (show 0 ≤ a1.toInt by omega) (show a1.toInt ≤ 9 by omega) (show 0 ≤ a2.toInt by omega) (show a2.toInt ≤ 9 by omega) (show 0 ≤ a3.toInt by omega) (show a3.toInt ≤ 100000100 by omega) (show 0 ≤ a4.toInt by omega) (show a4.toInt ≤ 100000100 by omega) (show 0 ≤ v145_5.toInt by omega) (show v145_5.toInt ≤ 9 by omega) (show 0 ≤ v145_6.toInt by omega) (show v145_6.toInt ≤ 11 by omega) (show 0 ≤ f145_12_0.toInt by omega) (show f145_12_0.toInt ≤ 10 by omega) (show 1 ≤ x49.toInt by omega) (show x49.toInt ≤ 12 by omega) (show (sumG 19 10 w1) + 1 ≤ (sumG 19 10 w12) by omega)  hw hT hF c27 c50 (lv_sub hl [2, 3, 4, 5, 6, 7, 8] rfl)
                      · have c148 : x145.toInt < x146.toInt := wk_leF c148
                        refine lv_aload_n hx hb dX12_reaches_242 rfl (lv_at hl 2 rfl) ?_
                        refine tk_getA hC hK hw hT hinX12 kM_at0 (by decide) rfl 35 (by decide) (List.mem_of_getElem? (i := 1) rfl) rfl rfl dX12_reaches_243 ?_
                        refine lv_iload hx hb dX12_reaches_246 (lv_at hl 0 rfl) ?_
                        refine lv_iload hx hb dX12_reaches_248 (lv_at hl 1 rfl) ?_
                        refine lv_aload_n hx hb dX12_reaches_250 rfl (lv_at hl 2 rfl) ?_
                        refine lv_iload hx hb dX12_reaches_251 (lv_at hl 8 rfl) ?_
                        refine lv_iconst (v := 2) hx hb dX12_reaches_253 (by decide) ?_
                        refine tk_Vi hC hK hw hT hA hE hSR kM_at0 (by decide) rfl (k_X12_streetOf_6 l adK adV dC dI cy ad B (by omega) (by omega) qr s1   v145_6 (show 0 ≤ v145_6.toInt by omega) (show v145_6.toInt ≤ 11 by omega) w12 H.size hT ) (cwV 2 hC.2.2.2.2 gX12_reaches_X12_streetOf rfl rfl rfl (by decide +kernel) ⟨Nat.le_of_ble_eq_true rfl, Nat.le_of_ble_eq_true rfl⟩) rfl hl.1 rfl (Nat.le_of_ble_eq_true rfl) dX12_reaches_254 (fun r150 w152 H locs hp151 hw => ?_)
                        obtain ⟨rfl, hg157⟩ := hp151
                        obtain ⟨g154, g155, c156⟩ := hg157
                        obtain rfl : r150 = r126 := c156.symm.trans c132
                        refine lv_iadd hx hb dX12_reaches_257 ?_
                        refine lv_topi (fun x158 ex158 => ?_)
                        have ex158 : x158.toInt = r61.toInt + r126.toInt := by rw [ex158]; exact wk_add (show (-2147483648) ≤ r61.toInt + r126.toInt by omega) (show r61.toInt + r126.toInt ≤ 2147483647 by omega)
                        refine tk_iast hC hK hw hT kM_at18 (by decide) rfl rfl (show 0 ≤ r71.toInt by omega) (show r71.toInt < 10 by omega) (show 0 ≤ x158.toInt by omega) (show x158.toInt ≤ 100000100 by omega) dX12_reaches_258 (fun H locs w159 hw hT k161 c160 => ?_)
                        have gs162 : sumG 19 10 w159 = sumG 19 10 w12 := sumG_ne 10 k161 (tk_ne kM_at19 kM_at18 (by decide))
                        have hF := hF.put kM_at18 (inE_of (a := 0) (b := 10) (by decide) (show 0 ≤ r71.toInt.toNat by omega) (show r71.toInt.toNat ≤ 10 by omega)) k161
                        have c163 := k161.gi (Or.inl (tk_ne kM_at12 kM_at18 (by decide))) c27
                        have c164 := k161.gi (Or.inl (tk_ne kM_at12 kM_at18 (by decide))) c50
                        have c165 := k161.gi (Or.inl (tk_ne kM_at12 kM_at18 (by decide))) c79
                        have c166 := k161.gi (Or.inl (tk_ne kM_at12 kM_at18 (by decide))) c132
                        have gb167 : 0 ≤ sumG 19 10 w159 ∧ sumG 19 10 w159 ≤ 10 := hT.sum (lo := 0) (hi := 1) kM_at19 rfl (by decide) rfl
                        exact J259 x49 H locs ls w159 (show 0 ≤ a1.toInt by omega) (show a1.toInt ≤ 9 by omega) (show 0 ≤ a2.toInt by omega) (show a2.toInt ≤ 9 by omega) (show 0 ≤ a3.toInt by omega) (show a3.toInt ≤ 100000100 by omega) (show 0 ≤ a4.toInt by omega) (show a4.toInt ≤ 100000100 by omega) (show 0 ≤ v145_5.toInt by omega) (show v145_5.toInt ≤ 9 by omega) (show 0 ≤ v145_6.toInt by omega) (show v145_6.toInt ≤ 11 by omega) (show 0 ≤ f145_12_0.toInt by omega) (show f145_12_0.toInt ≤ 10 by omega) (show 1 ≤ x49.toInt by omega) (show x49.toInt ≤ 12 by omega) (show (sumG 19 10 w1) + 1 ≤ (sumG 19 10 w159) by omega)  hw hT hF c163 c164 (lv_sub hl [2, 3, 4, 5, 6, 7, 8] rfl)
              · refine lv_istore (lv' := [(7, .int r61), (0, .ref (ad 0)), (1, .int a1), (2, .int a2), (3, .int a3), (4, .int a4), (5, .int v145_5), (6, .int v145_6)]) hx hb dX12_reaches_187 hl (by decide) rfl (fun ls hl => ?_)
                refine lv_aload_n hx hb dX12_reaches_189 rfl (lv_at hl 1 rfl) ?_
                refine lv_iload hx hb dX12_reaches_190 (lv_at hl 7 rfl) ?_
                refine lv_iload hx hb dX12_reaches_192 (lv_at hl 6 rfl) ?_
                refine tk_Vi hC hK hw hT hA hE hSR kM_at0 (by decide) rfl (k_X12_otherOf_1 l adK adV dC dI cy ad B (by omega) (by omega) qr s1   v145_6 (show 0 ≤ v145_6.toInt by omega) (show v145_6.toInt ≤ 11 by omega) v145_5 (show 0 ≤ v145_5.toInt by omega) (show v145_5.toInt ≤ 9 by omega) w12 H.size hT ) (cwV 2 hC.2.2.2.2 gX12_reaches_X12_otherOf rfl rfl rfl (by decide +kernel) ⟨Nat.le_of_ble_eq_true rfl, Nat.le_of_ble_eq_true rfl⟩) rfl hl.1 rfl (Nat.le_of_ble_eq_true rfl) dX12_reaches_194 (fun r168 w170 H locs hp169 hw => ?_)
                obtain ⟨rfl, hg177⟩ := hp169
                rcases hg177 with ⟨g172, g173⟩ | ⟨g174, g175, c176⟩
                · refine lv_istore (lv' := [(8, .int r168), (7, .int r61), (0, .ref (ad 0)), (1, .int a1), (2, .int a2), (3, .int a3), (4, .int a4), (5, .int v145_5), (6, .int v145_6)]) hx hb dX12_reaches_197 hl (by decide) rfl (fun ls hl => ?_)
                  refine lv_iload hx hb dX12_reaches_199 (lv_at hl 1 rfl) ?_
                  refine lv_ldcw (v := 100000000) hx hb hC.2.2.2.1 (hC.2.2.2.2 _ (List.mem_of_getElem? (i := 2) rfl)) dX12_reaches_201 ?_
                  refine lv_icmp_ge (tgt := 259) hx hb dX12_reaches_204 (by decide) (fun c178 => ?_) (fun c178 => ?_)
                  · have c178 : (100000000 : Int) ≤ r61.toInt := wk_le.mp c178
                    have gb179 : 0 ≤ sumG 19 10 w12 ∧ sumG 19 10 w12 ≤ 10 := hT.sum (lo := 0) (hi := 1) kM_at19 rfl (by decide) rfl
                    exact J259 x49 H locs ls w12 (show 0 ≤ a1.toInt by omega) (show a1.toInt ≤ 9 by omega) (show 0 ≤ a2.toInt by omega) (show a2.toInt ≤ 9 by omega) (show 0 ≤ a3.toInt by omega) (show a3.toInt ≤ 100000100 by omega) (show 0 ≤ a4.toInt by omega) (show a4.toInt ≤ 100000100 by omega) (show 0 ≤ v145_5.toInt by omega) (show v145_5.toInt ≤ 9 by omega) (show 0 ≤ v145_6.toInt by omega) (show v145_6.toInt ≤ 11 by omega) (show 0 ≤ f145_12_0.toInt by omega) (show f145_12_0.toInt ≤ 10 by omega) (show 1 ≤ x49.toInt by omega) (show x49.toInt ≤ 12 by omega) (show (sumG 19 10 w1) + 1 ≤ (sumG 19 10 w12) by omega)  hw hT hF c27 c50 (lv_sub hl [2, 3, 4, 5, 6, 7, 8] rfl)
                  · have c178 : r61.toInt < (100000000 : Int) := wk_leF c178
                    refine lv_iload hx hb dX12_reaches_207 (lv_at hl 1 rfl) ?_
                    refine lv_aload_n hx hb dX12_reaches_209 rfl (lv_at hl 2 rfl) ?_
                    refine lv_iload hx hb dX12_reaches_210 (lv_at hl 8 rfl) ?_
                    refine lv_iconst (v := 2) hx hb dX12_reaches_212 (by decide) ?_
                    refine tk_Vi hC hK hw hT hA hE hSR kM_at0 (by decide) rfl (k_X12_streetOf_6 l adK adV dC dI cy ad B (by omega) (by omega) qr s1   v145_6 (show 0 ≤ v145_6.toInt by omega) (show v145_6.toInt ≤ 11 by omega) w12 H.size hT ) (cwV 2 hC.2.2.2.2 gX12_reaches_X12_streetOf rfl rfl rfl (by decide +kernel) ⟨Nat.le_of_ble_eq_true rfl, Nat.le_of_ble_eq_true rfl⟩) rfl hl.1 rfl (Nat.le_of_ble_eq_true rfl) dX12_reaches_213 (fun r180 w182 H locs hp181 hw => ?_)
                    obtain ⟨rfl, hg187⟩ := hp181
                    obtain ⟨g184, g185, c186⟩ := hg187
                    refine lv_iadd hx hb dX12_reaches_216 ?_
                    refine lv_topi (fun x188 ex188 => ?_)
                    have ex188 : x188.toInt = r61.toInt + r180.toInt := by rw [ex188]; exact wk_add (show (-2147483648) ≤ r61.toInt + r180.toInt by omega) (show r61.toInt + r180.toInt ≤ 2147483647 by omega)
                    refine lv_iload hx hb dX12_reaches_217 (lv_at hl 6 rfl) ?_
                    refine lv_icmp_gt (tgt := 259) hx hb dX12_reaches_219 (by decide) (fun c189 => ?_) (fun c189 => ?_)
                    · have c189 : a4.toInt < x188.toInt := wk_lt.mp c189
                      have gb190 : 0 ≤ sumG 19 10 w12 ∧ sumG 19 10 w12 ≤ 10 := hT.sum (lo := 0) (hi := 1) kM_at19 rfl (by decide) rfl
                      exact J259 x49 H locs ls w12 (show 0 ≤ a1.toInt by omega) (show a1.toInt ≤ 9 by omega) (show 0 ≤ a2.toInt by omega) (show a2.toInt ≤ 9 by omega) (show 0 ≤ a3.toInt by omega) (show a3.toInt ≤ 100000100 by omega) (show 0 ≤ a4.toInt by omega) (show a4.toInt ≤ 100000100 by omega) (show 0 ≤ v145_5.toInt by omega) (show v145_5.toInt ≤ 9 by omega) (show 0 ≤ v145_6.toInt by omega) (show v145_6.toInt ≤ 11 by omega) (show 0 ≤ f145_12_0.toInt by omega) (show f145_12_0.toInt ≤ 10 by omega) (show 1 ≤ x49.toInt by omega) (show x49.toInt ≤ 12 by omega) (show (sumG 19 10 w1) + 1 ≤ (sumG 19 10 w12) by omega)  hw hT hF c27 c50 (lv_sub hl [2, 3, 4, 5, 6, 7, 8] rfl)
                    · have c189 : x188.toInt ≤ a4.toInt := wk_ltF c189
                      refine lv_iload hx hb dX12_reaches_222 (lv_at hl 1 rfl) ?_
                      refine lv_aload_n hx hb dX12_reaches_224 rfl (lv_at hl 2 rfl) ?_
                      refine lv_iload hx hb dX12_reaches_225 (lv_at hl 8 rfl) ?_
                      refine lv_iconst (v := 2) hx hb dX12_reaches_227 (by decide) ?_
                      refine tk_Vi hC hK hw hT hA hE hSR kM_at0 (by decide) rfl (k_X12_streetOf_6 l adK adV dC dI cy ad B (by omega) (by omega) qr s1   v145_6 (show 0 ≤ v145_6.toInt by omega) (show v145_6.toInt ≤ 11 by omega) w12 H.size hT ) (cwV 2 hC.2.2.2.2 gX12_reaches_X12_streetOf rfl rfl rfl (by decide +kernel) ⟨Nat.le_of_ble_eq_true rfl, Nat.le_of_ble_eq_true rfl⟩) rfl hl.1 rfl (Nat.le_of_ble_eq_true rfl) dX12_reaches_228 (fun r191 w193 H locs hp192 hw => ?_)
                      obtain ⟨rfl, hg198⟩ := hp192
                      obtain ⟨g195, g196, c197⟩ := hg198
                      obtain rfl : r191 = r180 := c197.symm.trans c186
                      refine lv_iadd hx hb dX12_reaches_231 ?_
                      refine lv_topi (fun x199 ex199 => ?_)
                      have ex199 : x199.toInt = r61.toInt + r180.toInt := by rw [ex199]; exact wk_add (show (-2147483648) ≤ r61.toInt + r180.toInt by omega) (show r61.toInt + r180.toInt ≤ 2147483647 by omega)
                      refine lv_aload_n hx hb dX12_reaches_232 rfl (lv_at hl 2 rfl) ?_
                      refine tk_getA hC hK hw hT hinX12 kM_at0 (by decide) rfl 35 (by decide) (List.mem_of_getElem? (i := 1) rfl) rfl rfl dX12_reaches_233 ?_
                      refine lv_iload hx hb dX12_reaches_236 (lv_at hl 0 rfl) ?_
                      refine tk_iald hC hK hw hT kM_at18 rfl rfl (show 0 ≤ r168.toInt by omega) (show r168.toInt < 10 by omega) dX12_reaches_238 (fun x200 c201 rx200 tx200 => ?_)
                      refine lv_icmp_ge (tgt := 259) hx hb dX12_reaches_239 (by decide) (fun c202 => ?_) (fun c202 => ?_)
                      · have c202 : x200.toInt ≤ x199.toInt := wk_le.mp c202
                        have gb203 : 0 ≤ sumG 19 10 w12 ∧ sumG 19 10 w12 ≤ 10 := hT.sum (lo := 0) (hi := 1) kM_at19 rfl (by decide) rfl
                        exact J259 x49 H locs ls w12 (show 0 ≤ a1.toInt by omega) (show a1.toInt ≤ 9 by omega) (show 0 ≤ a2.toInt by omega) (show a2.toInt ≤ 9 by omega) (show 0 ≤ a3.toInt by omega) (show a3.toInt ≤ 100000100 by omega) (show 0 ≤ a4.toInt by omega) (show a4.toInt ≤ 100000100 by omega) (show 0 ≤ v145_5.toInt by omega) (show v145_5.toInt ≤ 9 by omega) (show 0 ≤ v145_6.toInt by omega) (show v145_6.toInt ≤ 11 by omega) (show 0 ≤ f145_12_0.toInt by omega) (show f145_12_0.toInt ≤ 10 by omega) (show 1 ≤ x49.toInt by omega) (show x49.toInt ≤ 12 by omega) (show (sumG 19 10 w1) + 1 ≤ (sumG 19 10 w12) by omega)  hw hT hF c27 c50 (lv_sub hl [2, 3, 4, 5, 6, 7, 8] rfl)
                      · have c202 : x199.toInt < x200.toInt := wk_leF c202
                        refine lv_aload_n hx hb dX12_reaches_242 rfl (lv_at hl 2 rfl) ?_
                        refine tk_getA hC hK hw hT hinX12 kM_at0 (by decide) rfl 35 (by decide) (List.mem_of_getElem? (i := 1) rfl) rfl rfl dX12_reaches_243 ?_
                        refine lv_iload hx hb dX12_reaches_246 (lv_at hl 0 rfl) ?_
                        refine lv_iload hx hb dX12_reaches_248 (lv_at hl 1 rfl) ?_
                        refine lv_aload_n hx hb dX12_reaches_250 rfl (lv_at hl 2 rfl) ?_
                        refine lv_iload hx hb dX12_reaches_251 (lv_at hl 8 rfl) ?_
                        refine lv_iconst (v := 2) hx hb dX12_reaches_253 (by decide) ?_
                        refine tk_Vi hC hK hw hT hA hE hSR kM_at0 (by decide) rfl (k_X12_streetOf_6 l adK adV dC dI cy ad B (by omega) (by omega) qr s1   v145_6 (show 0 ≤ v145_6.toInt by omega) (show v145_6.toInt ≤ 11 by omega) w12 H.size hT ) (cwV 2 hC.2.2.2.2 gX12_reaches_X12_streetOf rfl rfl rfl (by decide +kernel) ⟨Nat.le_of_ble_eq_true rfl, Nat.le_of_ble_eq_true rfl⟩) rfl hl.1 rfl (Nat.le_of_ble_eq_true rfl) dX12_reaches_254 (fun r204 w206 H locs hp205 hw => ?_)
                        obtain ⟨rfl, hg211⟩ := hp205
                        obtain ⟨g208, g209, c210⟩ := hg211
                        obtain rfl : r204 = r180 := c210.symm.trans c186
                        refine lv_iadd hx hb dX12_reaches_257 ?_
                        refine lv_topi (fun x212 ex212 => ?_)
                        have ex212 : x212.toInt = r61.toInt + r180.toInt := by rw [ex212]; exact wk_add (show (-2147483648) ≤ r61.toInt + r180.toInt by omega) (show r61.toInt + r180.toInt ≤ 2147483647 by omega)
                        refine tk_iast hC hK hw hT kM_at18 (by decide) rfl rfl (show 0 ≤ r168.toInt by omega) (show r168.toInt < 10 by omega) (show 0 ≤ x212.toInt by omega) (show x212.toInt ≤ 100000100 by omega) dX12_reaches_258 (fun H locs w213 hw hT k215 c214 => ?_)
                        have gs216 : sumG 19 10 w213 = sumG 19 10 w12 := sumG_ne 10 k215 (tk_ne kM_at19 kM_at18 (by decide))
                        have hF := hF.put kM_at18 (inE_of (a := 0) (b := 10) (by decide) (show 0 ≤ r168.toInt.toNat by omega) (show r168.toInt.toNat ≤ 10 by omega)) k215
                        have c217 := k215.gi (Or.inl (tk_ne kM_at12 kM_at18 (by decide))) c27
                        have c218 := k215.gi (Or.inl (tk_ne kM_at12 kM_at18 (by decide))) c50
                        have c219 := k215.gi (Or.inl (tk_ne kM_at12 kM_at18 (by decide))) c69
                        have c220 := k215.gi (Or.inl (tk_ne kM_at12 kM_at18 (by decide))) c186
                        have gb221 : 0 ≤ sumG 19 10 w213 ∧ sumG 19 10 w213 ≤ 10 := hT.sum (lo := 0) (hi := 1) kM_at19 rfl (by decide) rfl
                        exact J259 x49 H locs ls w213 (show 0 ≤ a1.toInt by omega) (show a1.toInt ≤ 9 by omega) (show 0 ≤ a2.toInt by omega) (show a2.toInt ≤ 9 by omega) (show 0 ≤ a3.toInt by omega) (show a3.toInt ≤ 100000100 by omega) (show 0 ≤ a4.toInt by omega) (show a4.toInt ≤ 100000100 by omega) (show 0 ≤ v145_5.toInt by omega) (show v145_5.toInt ≤ 9 by omega) (show 0 ≤ v145_6.toInt by omega) (show v145_6.toInt ≤ 11 by omega) (show 0 ≤ f145_12_0.toInt by omega) (show f145_12_0.toInt ≤ 10 by omega) (show 1 ≤ x49.toInt by omega) (show x49.toInt ≤ 12 by omega) (show (sumG 19 10 w1) + 1 ≤ (sumG 19 10 w213) by omega)  hw hT hF c217 c218 (lv_sub hl [2, 3, 4, 5, 6, 7, 8] rfl)
                · refine lv_istore (lv' := [(8, .int r168), (7, .int r61), (0, .ref (ad 0)), (1, .int a1), (2, .int a2), (3, .int a3), (4, .int a4), (5, .int v145_5), (6, .int v145_6)]) hx hb dX12_reaches_197 hl (by decide) rfl (fun ls hl => ?_)
                  refine lv_iload hx hb dX12_reaches_199 (lv_at hl 1 rfl) ?_
                  refine lv_ldcw (v := 100000000) hx hb hC.2.2.2.1 (hC.2.2.2.2 _ (List.mem_of_getElem? (i := 2) rfl)) dX12_reaches_201 ?_
                  refine lv_icmp_ge (tgt := 259) hx hb dX12_reaches_204 (by decide) (fun c222 => ?_) (fun c222 => ?_)
                  · have c222 : (100000000 : Int) ≤ r61.toInt := wk_le.mp c222
                    have gb223 : 0 ≤ sumG 19 10 w12 ∧ sumG 19 10 w12 ≤ 10 := hT.sum (lo := 0) (hi := 1) kM_at19 rfl (by decide) rfl
                    exact J259 x49 H locs ls w12 (show 0 ≤ a1.toInt by omega) (show a1.toInt ≤ 9 by omega) (show 0 ≤ a2.toInt by omega) (show a2.toInt ≤ 9 by omega) (show 0 ≤ a3.toInt by omega) (show a3.toInt ≤ 100000100 by omega) (show 0 ≤ a4.toInt by omega) (show a4.toInt ≤ 100000100 by omega) (show 0 ≤ v145_5.toInt by omega) (show v145_5.toInt ≤ 9 by omega) (show 0 ≤ v145_6.toInt by omega) (show v145_6.toInt ≤ 11 by omega) (show 0 ≤ f145_12_0.toInt by omega) (show f145_12_0.toInt ≤ 10 by omega) (show 1 ≤ x49.toInt by omega) (show x49.toInt ≤ 12 by omega) (show (sumG 19 10 w1) + 1 ≤ (sumG 19 10 w12) by omega)  hw hT hF c27 c50 (lv_sub hl [2, 3, 4, 5, 6, 7, 8] rfl)
                  · have c222 : r61.toInt < (100000000 : Int) := wk_leF c222
                    refine lv_iload hx hb dX12_reaches_207 (lv_at hl 1 rfl) ?_
                    refine lv_aload_n hx hb dX12_reaches_209 rfl (lv_at hl 2 rfl) ?_
                    refine lv_iload hx hb dX12_reaches_210 (lv_at hl 8 rfl) ?_
                    refine lv_iconst (v := 2) hx hb dX12_reaches_212 (by decide) ?_
                    refine tk_Vi hC hK hw hT hA hE hSR kM_at0 (by decide) rfl (k_X12_streetOf_6 l adK adV dC dI cy ad B (by omega) (by omega) qr s1   v145_6 (show 0 ≤ v145_6.toInt by omega) (show v145_6.toInt ≤ 11 by omega) w12 H.size hT ) (cwV 2 hC.2.2.2.2 gX12_reaches_X12_streetOf rfl rfl rfl (by decide +kernel) ⟨Nat.le_of_ble_eq_true rfl, Nat.le_of_ble_eq_true rfl⟩) rfl hl.1 rfl (Nat.le_of_ble_eq_true rfl) dX12_reaches_213 (fun r224 w226 H locs hp225 hw => ?_)
                    obtain ⟨rfl, hg231⟩ := hp225
                    obtain ⟨g228, g229, c230⟩ := hg231
                    refine lv_iadd hx hb dX12_reaches_216 ?_
                    refine lv_topi (fun x232 ex232 => ?_)
                    have ex232 : x232.toInt = r61.toInt + r224.toInt := by rw [ex232]; exact wk_add (show (-2147483648) ≤ r61.toInt + r224.toInt by omega) (show r61.toInt + r224.toInt ≤ 2147483647 by omega)
                    refine lv_iload hx hb dX12_reaches_217 (lv_at hl 6 rfl) ?_
                    refine lv_icmp_gt (tgt := 259) hx hb dX12_reaches_219 (by decide) (fun c233 => ?_) (fun c233 => ?_)
                    · have c233 : a4.toInt < x232.toInt := wk_lt.mp c233
                      have gb234 : 0 ≤ sumG 19 10 w12 ∧ sumG 19 10 w12 ≤ 10 := hT.sum (lo := 0) (hi := 1) kM_at19 rfl (by decide) rfl
                      exact J259 x49 H locs ls w12 (show 0 ≤ a1.toInt by omega) (show a1.toInt ≤ 9 by omega) (show 0 ≤ a2.toInt by omega) (show a2.toInt ≤ 9 by omega) (show 0 ≤ a3.toInt by omega) (show a3.toInt ≤ 100000100 by omega) (show 0 ≤ a4.toInt by omega) (show a4.toInt ≤ 100000100 by omega) (show 0 ≤ v145_5.toInt by omega) (show v145_5.toInt ≤ 9 by omega) (show 0 ≤ v145_6.toInt by omega) (show v145_6.toInt ≤ 11 by omega) (show 0 ≤ f145_12_0.toInt by omega) (show f145_12_0.toInt ≤ 10 by omega) (show 1 ≤ x49.toInt by omega) (show x49.toInt ≤ 12 by omega) (show (sumG 19 10 w1) + 1 ≤ (sumG 19 10 w12) by omega)  hw hT hF c27 c50 (lv_sub hl [2, 3, 4, 5, 6, 7, 8] rfl)
                    · have c233 : x232.toInt ≤ a4.toInt := wk_ltF c233
                      refine lv_iload hx hb dX12_reaches_222 (lv_at hl 1 rfl) ?_
                      refine lv_aload_n hx hb dX12_reaches_224 rfl (lv_at hl 2 rfl) ?_
                      refine lv_iload hx hb dX12_reaches_225 (lv_at hl 8 rfl) ?_
                      refine lv_iconst (v := 2) hx hb dX12_reaches_227 (by decide) ?_
                      refine tk_Vi hC hK hw hT hA hE hSR kM_at0 (by decide) rfl (k_X12_streetOf_6 l adK adV dC dI cy ad B (by omega) (by omega) qr s1   v145_6 (show 0 ≤ v145_6.toInt by omega) (show v145_6.toInt ≤ 11 by omega) w12 H.size hT ) (cwV 2 hC.2.2.2.2 gX12_reaches_X12_streetOf rfl rfl rfl (by decide +kernel) ⟨Nat.le_of_ble_eq_true rfl, Nat.le_of_ble_eq_true rfl⟩) rfl hl.1 rfl (Nat.le_of_ble_eq_true rfl) dX12_reaches_228 (fun r235 w237 H locs hp236 hw => ?_)
                      obtain ⟨rfl, hg242⟩ := hp236
                      obtain ⟨g239, g240, c241⟩ := hg242
                      obtain rfl : r235 = r224 := c241.symm.trans c230
                      refine lv_iadd hx hb dX12_reaches_231 ?_
                      refine lv_topi (fun x243 ex243 => ?_)
                      have ex243 : x243.toInt = r61.toInt + r224.toInt := by rw [ex243]; exact wk_add (show (-2147483648) ≤ r61.toInt + r224.toInt by omega) (show r61.toInt + r224.toInt ≤ 2147483647 by omega)
                      refine lv_aload_n hx hb dX12_reaches_232 rfl (lv_at hl 2 rfl) ?_
                      refine tk_getA hC hK hw hT hinX12 kM_at0 (by decide) rfl 35 (by decide) (List.mem_of_getElem? (i := 1) rfl) rfl rfl dX12_reaches_233 ?_
                      refine lv_iload hx hb dX12_reaches_236 (lv_at hl 0 rfl) ?_
                      refine tk_iald hC hK hw hT kM_at18 rfl rfl (show 0 ≤ r168.toInt by omega) (show r168.toInt < 10 by omega) dX12_reaches_238 (fun x244 c245 rx244 tx244 => ?_)
                      refine lv_icmp_ge (tgt := 259) hx hb dX12_reaches_239 (by decide) (fun c246 => ?_) (fun c246 => ?_)
                      · have c246 : x244.toInt ≤ x243.toInt := wk_le.mp c246
                        have gb247 : 0 ≤ sumG 19 10 w12 ∧ sumG 19 10 w12 ≤ 10 := hT.sum (lo := 0) (hi := 1) kM_at19 rfl (by decide) rfl
                        exact J259 x49 H locs ls w12 (show 0 ≤ a1.toInt by omega) (show a1.toInt ≤ 9 by omega) (show 0 ≤ a2.toInt by omega) (show a2.toInt ≤ 9 by omega) (show 0 ≤ a3.toInt by omega) (show a3.toInt ≤ 100000100 by omega) (show 0 ≤ a4.toInt by omega) (show a4.toInt ≤ 100000100 by omega) (show 0 ≤ v145_5.toInt by omega) (show v145_5.toInt ≤ 9 by omega) (show 0 ≤ v145_6.toInt by omega) (show v145_6.toInt ≤ 11 by omega) (show 0 ≤ f145_12_0.toInt by omega) (show f145_12_0.toInt ≤ 10 by omega) (show 1 ≤ x49.toInt by omega) (show x49.toInt ≤ 12 by omega) (show (sumG 19 10 w1) + 1 ≤ (sumG 19 10 w12) by omega)  hw hT hF c27 c50 (lv_sub hl [2, 3, 4, 5, 6, 7, 8] rfl)
                      · have c246 : x243.toInt < x244.toInt := wk_leF c246
                        refine lv_aload_n hx hb dX12_reaches_242 rfl (lv_at hl 2 rfl) ?_
                        refine tk_getA hC hK hw hT hinX12 kM_at0 (by decide) rfl 35 (by decide) (List.mem_of_getElem? (i := 1) rfl) rfl rfl dX12_reaches_243 ?_
                        refine lv_iload hx hb dX12_reaches_246 (lv_at hl 0 rfl) ?_
                        refine lv_iload hx hb dX12_reaches_248 (lv_at hl 1 rfl) ?_
                        refine lv_aload_n hx hb dX12_reaches_250 rfl (lv_at hl 2 rfl) ?_
                        refine lv_iload hx hb dX12_reaches_251 (lv_at hl 8 rfl) ?_
                        refine lv_iconst (v := 2) hx hb dX12_reaches_253 (by decide) ?_
                        refine tk_Vi hC hK hw hT hA hE hSR kM_at0 (by decide) rfl (k_X12_streetOf_6 l adK adV dC dI cy ad B (by omega) (by omega) qr s1   v145_6 (show 0 ≤ v145_6.toInt by omega) (show v145_6.toInt ≤ 11 by omega) w12 H.size hT ) (cwV 2 hC.2.2.2.2 gX12_reaches_X12_streetOf rfl rfl rfl (by decide +kernel) ⟨Nat.le_of_ble_eq_true rfl, Nat.le_of_ble_eq_true rfl⟩) rfl hl.1 rfl (Nat.le_of_ble_eq_true rfl) dX12_reaches_254 (fun r248 w250 H locs hp249 hw => ?_)
                        obtain ⟨rfl, hg255⟩ := hp249
                        obtain ⟨g252, g253, c254⟩ := hg255
                        obtain rfl : r248 = r224 := c254.symm.trans c230
                        refine lv_iadd hx hb dX12_reaches_257 ?_
                        refine lv_topi (fun x256 ex256 => ?_)
                        have ex256 : x256.toInt = r61.toInt + r224.toInt := by rw [ex256]; exact wk_add (show (-2147483648) ≤ r61.toInt + r224.toInt by omega) (show r61.toInt + r224.toInt ≤ 2147483647 by omega)
                        refine tk_iast hC hK hw hT kM_at18 (by decide) rfl rfl (show 0 ≤ r168.toInt by omega) (show r168.toInt < 10 by omega) (show 0 ≤ x256.toInt by omega) (show x256.toInt ≤ 100000100 by omega) dX12_reaches_258 (fun H locs w257 hw hT k259 c258 => ?_)
                        have gs260 : sumG 19 10 w257 = sumG 19 10 w12 := sumG_ne 10 k259 (tk_ne kM_at19 kM_at18 (by decide))
                        have hF := hF.put kM_at18 (inE_of (a := 0) (b := 10) (by decide) (show 0 ≤ r168.toInt.toNat by omega) (show r168.toInt.toNat ≤ 10 by omega)) k259
                        have c261 := k259.gi (Or.inl (tk_ne kM_at12 kM_at18 (by decide))) c27
                        have c262 := k259.gi (Or.inl (tk_ne kM_at12 kM_at18 (by decide))) c50
                        have c263 := k259.gi (Or.inl (tk_ne kM_at12 kM_at18 (by decide))) c69
                        have c264 := k259.gi (Or.inl (tk_ne kM_at12 kM_at18 (by decide))) c230
                        have gb265 : 0 ≤ sumG 19 10 w257 ∧ sumG 19 10 w257 ≤ 10 := hT.sum (lo := 0) (hi := 1) kM_at19 rfl (by decide) rfl
                        exact J259 x49 H locs ls w257 (show 0 ≤ a1.toInt by omega) (show a1.toInt ≤ 9 by omega) (show 0 ≤ a2.toInt by omega) (show a2.toInt ≤ 9 by omega) (show 0 ≤ a3.toInt by omega) (show a3.toInt ≤ 100000100 by omega) (show 0 ≤ a4.toInt by omega) (show a4.toInt ≤ 100000100 by omega) (show 0 ≤ v145_5.toInt by omega) (show v145_5.toInt ≤ 9 by omega) (show 0 ≤ v145_6.toInt by omega) (show v145_6.toInt ≤ 11 by omega) (show 0 ≤ f145_12_0.toInt by omega) (show f145_12_0.toInt ≤ 10 by omega) (show 1 ≤ x49.toInt by omega) (show x49.toInt ≤ 12 by omega) (show (sumG 19 10 w1) + 1 ≤ (sumG 19 10 w257) by omega)  hw hT hF c261 c262 (lv_sub hl [2, 3, 4, 5, 6, 7, 8] rfl)
      have L59 : ∀ (n59 : Nat) (v59_5 : Int32) (v59_6 : Int32) (H : Heap) (locs : List Loc) (ls : Array Slot) (w266 : va_W), 0 ≤ a1.toInt → a1.toInt ≤ 9 → 0 ≤ a2.toInt → a2.toInt ≤ 9 → 0 ≤ a3.toInt → a3.toInt ≤ 100000100 → 0 ≤ a4.toInt → a4.toInt ≤ 100000100 → (-1) ≤ v59_5.toInt → v59_5.toInt ≤ 9 → 0 ≤ v59_6.toInt → v59_6.toInt ≤ 10 → (sumG 19 10 w266) ≤ (sumG 19 10 w1) → (sumG 19 10 w1) ≤ (sumG 19 10 w266) → (v59_5.toInt = -1 ∨ (gi w266 19 (v59_5.toInt).toNat).toInt = 0) → (10 - v59_6.toInt).toNat < n59 → Wd dC dI A s.heap H locs w266 → TW ksM ad cy B qr 12 w266 → FE ksM [(77, 0, 10), (78, 0, 10)] w0 w266 → gi w266 19 (a2.toInt).toNat = 0 → lv_has ls 9 [(0, .ref (ad 0)), (1, .int a1), (2, .int a2), (3, .int a3), (4, .int a4), (5, .int v59_5), (6, .int v59_6)] → W p l e ({ frames := 5, cells := 0, slots := 0, locals := 105 }) s m (List.toArray [.ref (ad 0), .int a1, .int a2, .int a3, .int a4]) below meth c H locs 0 0 (MQ below (va_Qi (P_X12_reaches_2 ad cy B qr s1 a1 a2 a3 a4 w0) (fun u : va_W => wpost dC dI cy A u) A) (List.toArray [.ref (ad 0), .int a1, .int a2, .int a3, .int a4]) s 0 0 A) (F0 m 59 ls []) := by
        intro n59
        induction n59 with
        | zero => intro v59_5 v59_6 H locs ls w266 r267 t268 r269 t270 r271 t272 r273 t274 r275 t276 r277 t278 hcr59_0 hcr59_1 hcr59_2 hm59 hw hT hF c279 hl; omega
        | succ n59 ih59 =>
          intro v59_5 v59_6 H locs ls w266 r267 t268 r269 t270 r271 t272 r273 t274 r275 t276 r277 t278 hcr59_0 hcr59_1 hcr59_2 hm59 hw hT hF c279 hl
          have J119 : ∀ (v119_5 : Int32) (f119_12_0 : Int32) (f119_19__v59_6_toInt_toNat : Int32) (H : Heap) (locs : List Loc) (ls : Array Slot) (w280 : va_W), 0 ≤ a1.toInt → a1.toInt ≤ 9 → 0 ≤ a2.toInt → a2.toInt ≤ 9 → 0 ≤ a3.toInt → a3.toInt ≤ 100000100 → 0 ≤ a4.toInt → a4.toInt ≤ 100000100 → (-1) ≤ v119_5.toInt → v119_5.toInt ≤ 9 → 0 ≤ v59_6.toInt → v59_6.toInt ≤ 9 → 1 ≤ f119_12_0.toInt → f119_12_0.toInt ≤ 10 → 0 ≤ f119_19__v59_6_toInt_toNat.toInt → f119_19__v59_6_toInt_toNat.toInt ≤ 1 → (sumG 19 10 w280) ≤ (sumG 19 10 w1) → (sumG 19 10 w1) ≤ (sumG 19 10 w280) → (v119_5.toInt = -1 ∨ (gi w280 19 (v119_5.toInt).toNat).toInt = 0) → Wd dC dI A s.heap H locs w280 → TW ksM ad cy B qr 12 w280 → FE ksM [(77, 0, 10), (78, 0, 10)] w0 w280 → gi w280 12 0 = f119_12_0 → gi w280 19 (a2.toInt).toNat = 0 → gi w280 19 (v59_6.toInt).toNat = f119_19__v59_6_toInt_toNat → lv_has ls 9 [(0, .ref (ad 0)), (1, .int a1), (2, .int a2), (3, .int a3), (4, .int a4), (5, .int v119_5), (6, .int v59_6)] → W p l e ({ frames := 5, cells := 0, slots := 0, locals := 105 }) s m (List.toArray [.ref (ad 0), .int a1, .int a2, .int a3, .int a4]) below meth c H locs 0 0 (MQ below (va_Qi (P_X12_reaches_2 ad cy B qr s1 a1 a2 a3 a4 w0) (fun u : va_W => wpost dC dI cy A u) A) (List.toArray [.ref (ad 0), .int a1, .int a2, .int a3, .int a4]) s 0 0 A) (F0 m 119 ls []) := by
            intro v119_5 f119_12_0 f119_19__v59_6_toInt_toNat H locs ls w280 r281 t282 r283 t284 r285 t286 r287 t288 r289 t290 r291 t292 r293 t294 r297 t298 hcr119_0 hcr119_1 hcr119_2 hw hT hF c295 c296 c299 hl
            obtain ⟨x300, ex300⟩ : ∃ y : Int32, y = v59_6 + Int32.ofInt 1 := ⟨_, rfl⟩
            refine lv_iinc (v := x300) (lv' := [(6, .int x300), (0, .ref (ad 0)), (1, .int a1), (2, .int a2), (3, .int a3), (4, .int a4), (5, .int v119_5)]) hx hb dX12_reaches_119 hl (k := 6) rfl ex300.symm (by decide) rfl (fun ls hl => ?_)
            have ex300 : x300.toInt = v59_6.toInt + 1 := by rw [ex300]; exact wk_add (y := 1) (show -2147483648 ≤ v59_6.toInt + 1 by omega) (show v59_6.toInt + 1 ≤ 2147483647 by omega)
            refine lv_goto (tgt := 59) hx hb dX12_reaches_122 (by decide) ?_
            have gb301 : 0 ≤ sumG 19 10 w280 ∧ sumG 19 10 w280 ≤ 10 := hT.sum (lo := 0) (hi := 1) kM_at19 rfl (by decide) rfl
            exact ih59 v119_5 x300 H locs ls w280 (show 0 ≤ a1.toInt by omega) (show a1.toInt ≤ 9 by omega) (show 0 ≤ a2.toInt by omega) (show a2.toInt ≤ 9 by omega) (show 0 ≤ a3.toInt by omega) (show a3.toInt ≤ 100000100 by omega) (show 0 ≤ a4.toInt by omega) (show a4.toInt ≤ 100000100 by omega) (show (-1) ≤ v119_5.toInt by omega) (show v119_5.toInt ≤ 9 by omega) (show 0 ≤ x300.toInt by omega) (show x300.toInt ≤ 10 by omega) (show (sumG 19 10 w280) ≤ (sumG 19 10 w1) by omega) (show (sumG 19 10 w1) ≤ (sumG 19 10 w280) by omega) (show (v119_5.toInt = -1 ∨ (gi w280 19 (v119_5.toInt).toNat).toInt = 0) by first | omega | assumption | (left; omega) | (left; decide) | (right; assumption) | (right; rw [c296]; omega) | (right; rw [c296]; decide) | (right; rw [c299]; omega) | (right; rw [c299]; decide) | (right; rcases hcr59_2 with hx1 | hx1; · rw [← hx1]; exact (congrArg Int32.toInt ((hF.gi kM_at19 rfl rfl).symm.trans c296)).trans (by omega); · exact hx1) | (right; rcases hcr59_2 with hx1 | hx1; · rw [← hx1]; exact (congrArg Int32.toInt ((hF.gi kM_at19 rfl rfl).symm.trans c299)).trans (by omega); · exact hx1)) (show (10 - x300.toInt).toNat < n59 by omega) hw hT hF c296 (lv_sub hl [1, 2, 3, 4, 5, 6, 0] rfl)
          have J115 : ∀ (f115_12_0 : Int32) (H : Heap) (locs : List Loc) (ls : Array Slot) (w302 : va_W), 0 ≤ a1.toInt → a1.toInt ≤ 9 → 0 ≤ a2.toInt → a2.toInt ≤ 9 → 0 ≤ a3.toInt → a3.toInt ≤ 100000100 → 0 ≤ a4.toInt → a4.toInt ≤ 100000100 → (-1) ≤ v59_5.toInt → v59_5.toInt ≤ 9 → 0 ≤ v59_6.toInt → v59_6.toInt ≤ 9 → 1 ≤ f115_12_0.toInt → f115_12_0.toInt ≤ 10 → (sumG 19 10 w302) ≤ (sumG 19 10 w1) → (sumG 19 10 w1) ≤ (sumG 19 10 w302) → (v59_5.toInt = -1 ∨ (gi w302 19 (v59_5.toInt).toNat).toInt = 0) → Wd dC dI A s.heap H locs w302 → TW ksM ad cy B qr 12 w302 → FE ksM [(77, 0, 10), (78, 0, 10)] w0 w302 → gi w302 12 0 = f115_12_0 → gi w302 19 (a2.toInt).toNat = 0 → gi w302 19 (v59_6.toInt).toNat = 0 → lv_has ls 9 [(0, .ref (ad 0)), (1, .int a1), (2, .int a2), (3, .int a3), (4, .int a4), (5, .int v59_5), (6, .int v59_6)] → W p l e ({ frames := 5, cells := 0, slots := 0, locals := 105 }) s m (List.toArray [.ref (ad 0), .int a1, .int a2, .int a3, .int a4]) below meth c H locs 0 0 (MQ below (va_Qi (P_X12_reaches_2 ad cy B qr s1 a1 a2 a3 a4 w0) (fun u : va_W => wpost dC dI cy A u) A) (List.toArray [.ref (ad 0), .int a1, .int a2, .int a3, .int a4]) s 0 0 A) (F0 m 115 ls []) := by
            intro f115_12_0 H locs ls w302 r303 t304 r305 t306 r307 t308 r309 t310 r311 t312 r313 t314 r315 t316 hcr115_0 hcr115_1 hcr115_2 hw hT hF c317 c318 c319 hl
            refine lv_iload hx hb dX12_reaches_115 (lv_at hl 6 rfl) ?_
            refine lv_istore (lv' := [(5, .int v59_6), (0, .ref (ad 0)), (1, .int a1), (2, .int a2), (3, .int a3), (4, .int a4), (6, .int v59_6)]) hx hb dX12_reaches_117 hl (by decide) rfl (fun ls hl => ?_)
            have gb320 : 0 ≤ sumG 19 10 w302 ∧ sumG 19 10 w302 ≤ 10 := hT.sum (lo := 0) (hi := 1) kM_at19 rfl (by decide) rfl
            exact J119 v59_6 f115_12_0 0 H locs ls w302 (show 0 ≤ a1.toInt by omega) (show a1.toInt ≤ 9 by omega) (show 0 ≤ a2.toInt by omega) (show a2.toInt ≤ 9 by omega) (show 0 ≤ a3.toInt by omega) (show a3.toInt ≤ 100000100 by omega) (show 0 ≤ a4.toInt by omega) (show a4.toInt ≤ 100000100 by omega) (show (-1) ≤ v59_6.toInt by omega) (show v59_6.toInt ≤ 9 by omega) (show 0 ≤ v59_6.toInt by omega) (show v59_6.toInt ≤ 9 by omega) (show 1 ≤ f115_12_0.toInt by omega) (show f115_12_0.toInt ≤ 10 by omega) (by decide) (by decide) (show (sumG 19 10 w302) ≤ (sumG 19 10 w1) by omega) (show (sumG 19 10 w1) ≤ (sumG 19 10 w302) by omega) (show (v59_6.toInt = -1 ∨ (gi w302 19 (v59_6.toInt).toNat).toInt = 0) by first | omega | assumption | (left; omega) | (left; decide) | (right; assumption) | (right; rw [c318]; omega) | (right; rw [c318]; decide) | (right; rw [c319]; omega) | (right; rw [c319]; decide))  hw hT hF c317 c318 c319 (lv_sub hl [1, 2, 3, 4, 5, 0, 6] rfl)
          refine lv_iload hx hb dX12_reaches_59 (lv_at hl 6 rfl) ?_
          refine lv_aload_n hx hb dX12_reaches_61 rfl (lv_at hl 0 rfl) ?_
          refine tk_getA hC hK hw hT hinX12 kM_at0 (by decide) rfl 26 (by decide) (List.mem_of_getElem? (i := 4) rfl) rfl rfl dX12_reaches_62 ?_
          refine lv_iconst (v := 0) hx hb dX12_reaches_65 (by decide) ?_
          refine tk_ialdR hC hK hw hT kM_at12 rfl (by decide) (by decide) dX12_reaches_66 (fun x321 c322 Ex321 => ?_)
          have bx321 := tk_rgI rfl 0 1 1 0 10 (by decide +kernel) ⟨0, by decide, by decide⟩ Ex321
          have c322 : gi w266 12 0 = x321 := c322
          refine lv_icmp_ge (tgt := 125) hx hb dX12_reaches_67 (by decide) (fun c323 => ?_) (fun c323 => ?_)
          · have c323 : x321.toInt ≤ v59_6.toInt := wk_le.mp c323
            refine lv_iload hx hb dX12_reaches_125 (lv_at hl 5 rfl) ?_
            refine lv_if_ge (tgt := 134) hx hb dX12_reaches_127 (by decide) (fun c324 => ?_) (fun c324 => ?_)
            · have c324 : (0 : Int) ≤ v59_5.toInt := wk_le.mp c324
              refine lv_aload_n hx hb dX12_reaches_134 rfl (lv_at hl 0 rfl) ?_
              refine tk_getA hC hK hw hT hinX12 kM_at0 (by decide) rfl 36 (by decide) (List.mem_of_getElem? (i := 3) rfl) rfl rfl dX12_reaches_135 ?_
              refine lv_iload hx hb dX12_reaches_138 (lv_at hl 5 rfl) ?_
              refine lv_iconst (v := 1) hx hb dX12_reaches_140 (by decide) ?_
              refine tk_zast hC hK hw hT kM_at19 (by decide) rfl rfl (show 0 ≤ v59_5.toInt by omega) (show v59_5.toInt < 10 by omega) (by decide) (by decide) dX12_reaches_141 (fun H locs w325 hw hT k327 c326 => ?_)
              have gs328 : sumG 19 10 w325 = sumG 19 10 w266 - (gi w266 19 (v59_5.toInt.toNat)).toInt + (gi w325 19 (v59_5.toInt.toNat)).toInt := sumG_up (i := v59_5.toInt.toNat) k327 10 (show v59_5.toInt.toNat < 10 by omega)
              rw [show gi w325 19 (v59_5.toInt.toNat) = 1 from c326] at gs328
              rw [show (1 : Int32).toInt = 1 by decide] at gs328
              have hF := hF.put kM_at19 (inE_of (a := 0) (b := 10) (by decide) (show 0 ≤ v59_5.toInt.toNat by omega) (show v59_5.toInt.toNat ≤ 10 by omega)) k327
              have c329 := k327.gi (Or.inl (tk_ne kM_at12 kM_at19 (by decide))) c322
              refine lv_iconst (v := 0) hx hb dX12_reaches_142 (by decide) ?_
              refine lv_istore (lv' := [(6, .int 0), (0, .ref (ad 0)), (1, .int a1), (2, .int a2), (3, .int a3), (4, .int a4), (5, .int v59_5)]) hx hb dX12_reaches_143 hl (by decide) rfl (fun ls hl => ?_)
              have gb330 : 0 ≤ sumG 19 10 w325 ∧ sumG 19 10 w325 ≤ 10 := hT.sum (lo := 0) (hi := 1) kM_at19 rfl (by decide) rfl
              exact L145 ((12 - (0 : Int)).toNat + 1) v59_5 0 x321 H locs ls w325 (show 0 ≤ a1.toInt by omega) (show a1.toInt ≤ 9 by omega) (show 0 ≤ a2.toInt by omega) (show a2.toInt ≤ 9 by omega) (show 0 ≤ a3.toInt by omega) (show a3.toInt ≤ 100000100 by omega) (show 0 ≤ a4.toInt by omega) (show a4.toInt ≤ 100000100 by omega) (show 0 ≤ v59_5.toInt by omega) (show v59_5.toInt ≤ 9 by omega) (by decide) (by decide) (show 0 ≤ x321.toInt by omega) (show x321.toInt ≤ 10 by omega) (show (sumG 19 10 w1) + 1 ≤ (sumG 19 10 w325) by omega) (Nat.lt_succ_self _) hw hT hF c329 (lv_sub hl [1, 2, 3, 4, 5, 6, 0] rfl)
            · have c324 : v59_5.toInt < (0 : Int) := wk_leF c324
              refine lv_ldcw (v := 100000000) hx hb hC.2.2.2.1 (hC.2.2.2.2 _ (List.mem_of_getElem? (i := 2) rfl)) dX12_reaches_130 ?_
              exact tk_iret hC hr hlocks hK ⟨hT, hF, ⟨(by decide), (by decide)⟩⟩ hw dX12_reaches_133
          · have c323 : v59_6.toInt < x321.toInt := wk_leF c323
            refine lv_aload_n hx hb dX12_reaches_70 rfl (lv_at hl 0 rfl) ?_
            refine tk_getA hC hK hw hT hinX12 kM_at0 (by decide) rfl 36 (by decide) (List.mem_of_getElem? (i := 3) rfl) rfl rfl dX12_reaches_71 ?_
            refine lv_iload hx hb dX12_reaches_74 (lv_at hl 6 rfl) ?_
            refine tk_zald hC hK hw hT kM_at19 rfl rfl (show 0 ≤ v59_6.toInt by omega) (show v59_6.toInt < 10 by omega) dX12_reaches_76 (fun x331 c332 rx331 tx331 => ?_)
            have c332 : gi w266 19 (v59_6.toInt).toNat = x331 := (congrArg (gi w266 19) (congrArg Int.toNat (show v59_6.toInt = v59_6.toInt by omega))).trans c332
            refine lv_if_ne (tgt := 119) hx hb dX12_reaches_77 (by decide) (fun c333 => ?_) (fun c333 => ?_)
            · have c333 : ¬ x331.toInt = (0 : Int) := wk_eqF c333
              have gb334 : 0 ≤ sumG 19 10 w266 ∧ sumG 19 10 w266 ≤ 10 := hT.sum (lo := 0) (hi := 1) kM_at19 rfl (by decide) rfl
              exact J119 v59_5 x321 x331 H locs ls w266 (show 0 ≤ a1.toInt by omega) (show a1.toInt ≤ 9 by omega) (show 0 ≤ a2.toInt by omega) (show a2.toInt ≤ 9 by omega) (show 0 ≤ a3.toInt by omega) (show a3.toInt ≤ 100000100 by omega) (show 0 ≤ a4.toInt by omega) (show a4.toInt ≤ 100000100 by omega) (show (-1) ≤ v59_5.toInt by omega) (show v59_5.toInt ≤ 9 by omega) (show 0 ≤ v59_6.toInt by omega) (show v59_6.toInt ≤ 9 by omega) (show 1 ≤ x321.toInt by omega) (show x321.toInt ≤ 10 by omega) (show 0 ≤ x331.toInt by omega) (show x331.toInt ≤ 1 by omega) (show (sumG 19 10 w266) ≤ (sumG 19 10 w1) by omega) (show (sumG 19 10 w1) ≤ (sumG 19 10 w266) by omega) (show (v59_5.toInt = -1 ∨ (gi w266 19 (v59_5.toInt).toNat).toInt = 0) by first | omega | assumption | (left; omega) | (left; decide) | (right; assumption) | (right; rw [c279]; omega) | (right; rw [c279]; decide) | (right; rw [c332]; omega) | (right; rw [c332]; decide))  hw hT hF c322 c279 c332 (lv_sub hl [0, 1, 2, 3, 4, 5, 6] rfl)
            · have c333 : x331.toInt = (0 : Int) := wk_eq.mp c333
              refine lv_aload_n hx hb dX12_reaches_80 rfl (lv_at hl 0 rfl) ?_
              refine tk_getA hC hK hw hT hinX12 kM_at0 (by decide) rfl 35 (by decide) (List.mem_of_getElem? (i := 1) rfl) rfl rfl dX12_reaches_81 ?_
              refine lv_iload hx hb dX12_reaches_84 (lv_at hl 6 rfl) ?_
              refine tk_iald hC hK hw hT kM_at18 rfl rfl (show 0 ≤ v59_6.toInt by omega) (show v59_6.toInt < 10 by omega) dX12_reaches_86 (fun x335 c336 rx335 tx335 => ?_)
              refine lv_ldcw (v := 100000000) hx hb hC.2.2.2.1 (hC.2.2.2.2 _ (List.mem_of_getElem? (i := 2) rfl)) dX12_reaches_87 ?_
              refine lv_icmp_ge (tgt := 119) hx hb dX12_reaches_90 (by decide) (fun c337 => ?_) (fun c337 => ?_)
              · have c337 : (100000000 : Int) ≤ x335.toInt := wk_le.mp c337
                have gb338 : 0 ≤ sumG 19 10 w266 ∧ sumG 19 10 w266 ≤ 10 := hT.sum (lo := 0) (hi := 1) kM_at19 rfl (by decide) rfl
                exact J119 v59_5 x321 x331 H locs ls w266 (show 0 ≤ a1.toInt by omega) (show a1.toInt ≤ 9 by omega) (show 0 ≤ a2.toInt by omega) (show a2.toInt ≤ 9 by omega) (show 0 ≤ a3.toInt by omega) (show a3.toInt ≤ 100000100 by omega) (show 0 ≤ a4.toInt by omega) (show a4.toInt ≤ 100000100 by omega) (show (-1) ≤ v59_5.toInt by omega) (show v59_5.toInt ≤ 9 by omega) (show 0 ≤ v59_6.toInt by omega) (show v59_6.toInt ≤ 9 by omega) (show 1 ≤ x321.toInt by omega) (show x321.toInt ≤ 10 by omega) (show 0 ≤ x331.toInt by omega) (show x331.toInt ≤ 1 by omega) (show (sumG 19 10 w266) ≤ (sumG 19 10 w1) by omega) (show (sumG 19 10 w1) ≤ (sumG 19 10 w266) by omega) (show (v59_5.toInt = -1 ∨ (gi w266 19 (v59_5.toInt).toNat).toInt = 0) by first | omega | assumption | (left; omega) | (left; decide) | (right; assumption) | (right; rw [c279]; omega) | (right; rw [c279]; decide) | (right; rw [c332]; omega) | (right; rw [c332]; decide))  hw hT hF c322 c279 c332 (lv_sub hl [0, 1, 2, 3, 4, 5, 6] rfl)
              · have c337 : x335.toInt < (100000000 : Int) := wk_leF c337
                refine lv_iload hx hb dX12_reaches_93 (lv_at hl 5 rfl) ?_
                refine lv_if_lt (tgt := 115) hx hb dX12_reaches_95 (by decide) (fun c339 => ?_) (fun c339 => ?_)
                · have c339 : v59_5.toInt < (0 : Int) := wk_lt.mp c339
                  have gb340 : 0 ≤ sumG 19 10 w266 ∧ sumG 19 10 w266 ≤ 10 := hT.sum (lo := 0) (hi := 1) kM_at19 rfl (by decide) rfl
                  obtain rfl : x331 = 0 := wk_eq.mpr (show x331.toInt = 0 by omega)
                  exact J115 x321 H locs ls w266 (show 0 ≤ a1.toInt by omega) (show a1.toInt ≤ 9 by omega) (show 0 ≤ a2.toInt by omega) (show a2.toInt ≤ 9 by omega) (show 0 ≤ a3.toInt by omega) (show a3.toInt ≤ 100000100 by omega) (show 0 ≤ a4.toInt by omega) (show a4.toInt ≤ 100000100 by omega) (show (-1) ≤ v59_5.toInt by omega) (show v59_5.toInt ≤ 9 by omega) (show 0 ≤ v59_6.toInt by omega) (show v59_6.toInt ≤ 9 by omega) (show 1 ≤ x321.toInt by omega) (show x321.toInt ≤ 10 by omega) (show (sumG 19 10 w266) ≤ (sumG 19 10 w1) by omega) (show (sumG 19 10 w1) ≤ (sumG 19 10 w266) by omega) (show (v59_5.toInt = -1 ∨ (gi w266 19 (v59_5.toInt).toNat).toInt = 0) by first | omega | assumption | (left; omega) | (left; decide) | (right; assumption) | (right; rw [c279]; omega) | (right; rw [c279]; decide) | (right; rw [c332]; omega) | (right; rw [c332]; decide))  hw hT hF c322 c279 c332 (lv_sub hl [0, 1, 2, 3, 4, 5, 6] rfl)
                · have c339 : (0 : Int) ≤ v59_5.toInt := wk_ltF c339
                  refine lv_aload_n hx hb dX12_reaches_98 rfl (lv_at hl 0 rfl) ?_
                  refine tk_getA hC hK hw hT hinX12 kM_at0 (by decide) rfl 35 (by decide) (List.mem_of_getElem? (i := 1) rfl) rfl rfl dX12_reaches_99 ?_
                  refine lv_iload hx hb dX12_reaches_102 (lv_at hl 6 rfl) ?_
                  refine tk_iald hC hK hw hT kM_at18 rfl rfl (show 0 ≤ v59_6.toInt by omega) (show v59_6.toInt < 10 by omega) dX12_reaches_104 (fun x341 c342 rx341 tx341 => ?_)
                  refine lv_aload_n hx hb dX12_reaches_105 rfl (lv_at hl 0 rfl) ?_
                  refine tk_getA hC hK hw hT hinX12 kM_at0 (by decide) rfl 35 (by decide) (List.mem_of_getElem? (i := 1) rfl) rfl rfl dX12_reaches_106 ?_
                  refine lv_iload hx hb dX12_reaches_109 (lv_at hl 5 rfl) ?_
                  refine tk_iald hC hK hw hT kM_at18 rfl rfl (show 0 ≤ v59_5.toInt by omega) (show v59_5.toInt < 10 by omega) dX12_reaches_111 (fun x343 c344 rx343 tx343 => ?_)
                  refine lv_icmp_ge (tgt := 119) hx hb dX12_reaches_112 (by decide) (fun c345 => ?_) (fun c345 => ?_)
                  · have c345 : x343.toInt ≤ x341.toInt := wk_le.mp c345
                    have gb346 : 0 ≤ sumG 19 10 w266 ∧ sumG 19 10 w266 ≤ 10 := hT.sum (lo := 0) (hi := 1) kM_at19 rfl (by decide) rfl
                    exact J119 v59_5 x321 x331 H locs ls w266 (show 0 ≤ a1.toInt by omega) (show a1.toInt ≤ 9 by omega) (show 0 ≤ a2.toInt by omega) (show a2.toInt ≤ 9 by omega) (show 0 ≤ a3.toInt by omega) (show a3.toInt ≤ 100000100 by omega) (show 0 ≤ a4.toInt by omega) (show a4.toInt ≤ 100000100 by omega) (show (-1) ≤ v59_5.toInt by omega) (show v59_5.toInt ≤ 9 by omega) (show 0 ≤ v59_6.toInt by omega) (show v59_6.toInt ≤ 9 by omega) (show 1 ≤ x321.toInt by omega) (show x321.toInt ≤ 10 by omega) (show 0 ≤ x331.toInt by omega) (show x331.toInt ≤ 1 by omega) (show (sumG 19 10 w266) ≤ (sumG 19 10 w1) by omega) (show (sumG 19 10 w1) ≤ (sumG 19 10 w266) by omega) (show (v59_5.toInt = -1 ∨ (gi w266 19 (v59_5.toInt).toNat).toInt = 0) by first | omega | assumption | (left; omega) | (left; decide) | (right; assumption) | (right; rw [c279]; omega) | (right; rw [c279]; decide) | (right; rw [c332]; omega) | (right; rw [c332]; decide))  hw hT hF c322 c279 c332 (lv_sub hl [0, 1, 2, 3, 4, 5, 6] rfl)
                  · have c345 : x341.toInt < x343.toInt := wk_leF c345
                    have gb347 : 0 ≤ sumG 19 10 w266 ∧ sumG 19 10 w266 ≤ 10 := hT.sum (lo := 0) (hi := 1) kM_at19 rfl (by decide) rfl
                    obtain rfl : x331 = 0 := wk_eq.mpr (show x331.toInt = 0 by omega)
                    exact J115 x321 H locs ls w266 (show 0 ≤ a1.toInt by omega) (show a1.toInt ≤ 9 by omega) (show 0 ≤ a2.toInt by omega) (show a2.toInt ≤ 9 by omega) (show 0 ≤ a3.toInt by omega) (show a3.toInt ≤ 100000100 by omega) (show 0 ≤ a4.toInt by omega) (show a4.toInt ≤ 100000100 by omega) (show (-1) ≤ v59_5.toInt by omega) (show v59_5.toInt ≤ 9 by omega) (show 0 ≤ v59_6.toInt by omega) (show v59_6.toInt ≤ 9 by omega) (show 1 ≤ x321.toInt by omega) (show x321.toInt ≤ 10 by omega) (show (sumG 19 10 w266) ≤ (sumG 19 10 w1) by omega) (show (sumG 19 10 w1) ≤ (sumG 19 10 w266) by omega) (show (v59_5.toInt = -1 ∨ (gi w266 19 (v59_5.toInt).toNat).toInt = 0) by first | omega | assumption | (left; omega) | (left; decide) | (right; assumption) | (right; rw [c279]; omega) | (right; rw [c279]; decide) | (right; rw [c332]; omega) | (right; rw [c332]; decide))  hw hT hF c322 c279 c332 (lv_sub hl [0, 1, 2, 3, 4, 5, 6] rfl)
      refine lv_aload_n hx hb dX12_reaches_44 rfl (lv_at hl 0 rfl) ?_
      refine tk_getA hC hK hw hT hinX12 kM_at0 (by decide) rfl 36 (by decide) (List.mem_of_getElem? (i := 3) rfl) rfl rfl dX12_reaches_45 ?_
      refine lv_iload_n hx hb dX12_reaches_48 rfl (lv_at hl 2 rfl) ?_
      refine tk_zald hC hK hw hT kM_at19 rfl rfl (show 0 ≤ a2.toInt by omega) (show a2.toInt < 10 by omega) dX12_reaches_49 (fun x348 c349 rx348 tx348 => ?_)
      have c349 : gi w1 19 (a2.toInt).toNat = x348 := (congrArg (gi w1 19) (congrArg Int.toNat (show a2.toInt = a2.toInt by omega))).trans c349
      refine lv_if_ne (tgt := 268) hx hb dX12_reaches_50 (by decide) (fun c350 => ?_) (fun c350 => ?_)
      · have c350 : ¬ x348.toInt = (0 : Int) := wk_eqF c350
        refine lv_aload_n hx hb dX12_reaches_268 rfl (lv_at hl 0 rfl) ?_
        refine tk_getA hC hK hw hT hinX12 kM_at0 (by decide) rfl 35 (by decide) (List.mem_of_getElem? (i := 1) rfl) rfl rfl dX12_reaches_269 ?_
        refine lv_iload_n hx hb dX12_reaches_272 rfl (lv_at hl 2 rfl) ?_
        refine tk_iald hC hK hw hT kM_at18 rfl rfl (show 0 ≤ a2.toInt by omega) (show a2.toInt < 10 by omega) dX12_reaches_273 (fun x351 c352 rx351 tx351 => ?_)
        exact tk_iret hC hr hlocks hK ⟨hT, hF, ⟨(show 0 ≤ x351.toInt by omega), (show x351.toInt ≤ 100000100 by omega)⟩⟩ hw dX12_reaches_274
      · have c350 : x348.toInt = (0 : Int) := wk_eq.mp c350
        refine lv_iconst (v := (-1)) hx hb dX12_reaches_53 (by decide) ?_
        refine lv_istore (lv' := [(5, .int (-1)), (0, .ref (ad 0)), (1, .int a1), (2, .int a2), (3, .int a3), (4, .int a4)]) hx hb dX12_reaches_54 hl (by decide) rfl (fun ls hl => ?_)
        refine lv_iconst (v := 0) hx hb dX12_reaches_56 (by decide) ?_
        refine lv_istore (lv' := [(6, .int 0), (5, .int (-1)), (0, .ref (ad 0)), (1, .int a1), (2, .int a2), (3, .int a3), (4, .int a4)]) hx hb dX12_reaches_57 hl (by decide) rfl (fun ls hl => ?_)
        have gb353 : 0 ≤ sumG 19 10 w1 ∧ sumG 19 10 w1 ≤ 10 := hT.sum (lo := 0) (hi := 1) kM_at19 rfl (by decide) rfl
        obtain rfl : x348 = 0 := wk_eq.mpr (show x348.toInt = 0 by omega)
        exact L59 ((10 - (0 : Int)).toNat + 1) (-1) 0 H locs ls w1 (show 0 ≤ a1.toInt by omega) (show a1.toInt ≤ 9 by omega) (show 0 ≤ a2.toInt by omega) (show a2.toInt ≤ 9 by omega) (show 0 ≤ a3.toInt by omega) (show a3.toInt ≤ 100000100 by omega) (show 0 ≤ a4.toInt by omega) (show a4.toInt ≤ 100000100 by omega) (by decide) (by decide) (by decide) (by decide) (show (sumG 19 10 w1) ≤ (sumG 19 10 w1) by omega) (show (sumG 19 10 w1) ≤ (sumG 19 10 w1) by omega) (show ((-1 : Int) = -1 ∨ (gi w1 19 ((-1 : Int)).toNat).toInt = 0) by first | omega | assumption | (left; omega) | (left; decide) | (right; assumption) | (right; rw [c349]; omega) | (right; rw [c349]; decide)) (Nat.lt_succ_self _) hw hT hF c349 (lv_sub hl [2, 3, 4, 5, 6, 1, 0] rfl)
  have L3 : ∀ (n3 : Nat) (v3_5 : Int32) (H : Heap) (locs : List Loc) (ls : Array Slot) (w354 : va_W), 0 ≤ a1.toInt → a1.toInt ≤ 9 → 0 ≤ a2.toInt → a2.toInt ≤ 9 → 0 ≤ a3.toInt → a3.toInt ≤ 100000100 → 0 ≤ a4.toInt → a4.toInt ≤ 100000100 → 0 ≤ v3_5.toInt → v3_5.toInt ≤ 10 → (10 - v3_5.toInt).toNat < n3 → Wd dC dI A s.heap H locs w354 → TW ksM ad cy B qr 12 w354 → FE ksM [(77, 0, 10), (78, 0, 10)] w0 w354 → lv_has ls 9 [(0, .ref (ad 0)), (1, .int a1), (2, .int a2), (3, .int a3), (4, .int a4), (5, .int v3_5)] → W p l e ({ frames := 5, cells := 0, slots := 0, locals := 105 }) s m (List.toArray [.ref (ad 0), .int a1, .int a2, .int a3, .int a4]) below meth c H locs 0 0 (MQ below (va_Qi (P_X12_reaches_2 ad cy B qr s1 a1 a2 a3 a4 w0) (fun u : va_W => wpost dC dI cy A u) A) (List.toArray [.ref (ad 0), .int a1, .int a2, .int a3, .int a4]) s 0 0 A) (F0 m 3 ls []) := by
    intro n3
    induction n3 with
    | zero => intro v3_5 H locs ls w354 r355 t356 r357 t358 r359 t360 r361 t362 r363 t364 hm3 hw hT hF hl; omega
    | succ n3 ih3 =>
      intro v3_5 H locs ls w354 r355 t356 r357 t358 r359 t360 r361 t362 r363 t364 hm3 hw hT hF hl
      refine lv_iload hx hb dX12_reaches_3 (lv_at hl 5 rfl) ?_
      refine lv_bipush (v := 10) hx hb dX12_reaches_5 (by decide) ?_
      refine lv_icmp_ge (tgt := 44) hx hb dX12_reaches_7 (by decide) (fun c365 => ?_) (fun c365 => ?_)
      · have c365 : (10 : Int) ≤ v3_5.toInt := wk_le.mp c365
        have gb366 : 0 ≤ sumG 19 10 w354 ∧ sumG 19 10 w354 ≤ 10 := hT.sum (lo := 0) (hi := 1) kM_at19 rfl (by decide) rfl
        exact L44 ((10 - (sumG 19 10 w354)).toNat + 1) v3_5 H locs ls w354 (show 0 ≤ a1.toInt by omega) (show a1.toInt ≤ 9 by omega) (show 0 ≤ a2.toInt by omega) (show a2.toInt ≤ 9 by omega) (show 0 ≤ a3.toInt by omega) (show a3.toInt ≤ 100000100 by omega) (show 0 ≤ a4.toInt by omega) (show a4.toInt ≤ 100000100 by omega) (show 0 ≤ v3_5.toInt by omega) (show v3_5.toInt ≤ 10 by omega) (show 0 ≤ (sumG 19 10 w354) by omega) (Nat.lt_succ_self _) hw hT hF  (lv_sub hl [0, 1, 2, 3, 4, 5] rfl)
      · have c365 : v3_5.toInt < (10 : Int) := wk_leF c365
        refine lv_aload_n hx hb dX12_reaches_10 rfl (lv_at hl 0 rfl) ?_
        refine tk_getA hC hK hw hT hinX12 kM_at0 (by decide) rfl 35 (by decide) (List.mem_of_getElem? (i := 1) rfl) rfl rfl dX12_reaches_11 ?_
        refine lv_iload hx hb dX12_reaches_14 (lv_at hl 5 rfl) ?_
        refine lv_iload hx hb dX12_reaches_16 (lv_at hl 5 rfl) ?_
        refine lv_iload_n hx hb dX12_reaches_18 rfl (lv_at hl 1 rfl) ?_
        refine lv_icmp_ne (tgt := 26) hx hb dX12_reaches_19 (by decide) (fun c367 => ?_) (fun c367 => ?_)
        · have c367 : ¬ v3_5.toInt = a1.toInt := wk_eqF c367
          refine lv_ldcw (v := 100000000) hx hb hC.2.2.2.1 (hC.2.2.2.2 _ (List.mem_of_getElem? (i := 2) rfl)) dX12_reaches_26 ?_
          refine tk_iast hC hK hw hT kM_at18 (by decide) rfl rfl (show 0 ≤ v3_5.toInt by omega) (show v3_5.toInt < 10 by omega) (by decide) (by decide) dX12_reaches_29 (fun H locs w368 hw hT k370 c369 => ?_)
          have gs371 : sumG 19 10 w368 = sumG 19 10 w354 := sumG_ne 10 k370 (tk_ne kM_at19 kM_at18 (by decide))
          have hF := hF.put kM_at18 (inE_of (a := 0) (b := 10) (by decide) (show 0 ≤ v3_5.toInt.toNat by omega) (show v3_5.toInt.toNat ≤ 10 by omega)) k370
          refine lv_aload_n hx hb dX12_reaches_30 rfl (lv_at hl 0 rfl) ?_
          refine tk_getA hC hK hw hT hinX12 kM_at0 (by decide) rfl 36 (by decide) (List.mem_of_getElem? (i := 3) rfl) rfl rfl dX12_reaches_31 ?_
          refine lv_iload hx hb dX12_reaches_34 (lv_at hl 5 rfl) ?_
          refine lv_iconst (v := 0) hx hb dX12_reaches_36 (by decide) ?_
          refine tk_zast hC hK hw hT kM_at19 (by decide) rfl rfl (show 0 ≤ v3_5.toInt by omega) (show v3_5.toInt < 10 by omega) (by decide) (by decide) dX12_reaches_37 (fun H locs w372 hw hT k374 c373 => ?_)
          have gs375 : sumG 19 10 w372 = sumG 19 10 w368 - (gi w368 19 (v3_5.toInt.toNat)).toInt + (gi w372 19 (v3_5.toInt.toNat)).toInt := sumG_up (i := v3_5.toInt.toNat) k374 10 (show v3_5.toInt.toNat < 10 by omega)
          rw [show gi w372 19 (v3_5.toInt.toNat) = 0 from c373] at gs375
          rw [show (0 : Int32).toInt = 0 by decide] at gs375
          have hF := hF.put kM_at19 (inE_of (a := 0) (b := 10) (by decide) (show 0 ≤ v3_5.toInt.toNat by omega) (show v3_5.toInt.toNat ≤ 10 by omega)) k374
          obtain ⟨x376, ex376⟩ : ∃ y : Int32, y = v3_5 + Int32.ofInt 1 := ⟨_, rfl⟩
          refine lv_iinc (v := x376) (lv' := [(5, .int x376), (0, .ref (ad 0)), (1, .int a1), (2, .int a2), (3, .int a3), (4, .int a4)]) hx hb dX12_reaches_38 hl (k := 5) rfl ex376.symm (by decide) rfl (fun ls hl => ?_)
          have ex376 : x376.toInt = v3_5.toInt + 1 := by rw [ex376]; exact wk_add (y := 1) (show -2147483648 ≤ v3_5.toInt + 1 by omega) (show v3_5.toInt + 1 ≤ 2147483647 by omega)
          refine lv_goto (tgt := 3) hx hb dX12_reaches_41 (by decide) ?_
          exact ih3 x376 H locs ls w372 (show 0 ≤ a1.toInt by omega) (show a1.toInt ≤ 9 by omega) (show 0 ≤ a2.toInt by omega) (show a2.toInt ≤ 9 by omega) (show 0 ≤ a3.toInt by omega) (show a3.toInt ≤ 100000100 by omega) (show 0 ≤ a4.toInt by omega) (show a4.toInt ≤ 100000100 by omega) (show 0 ≤ x376.toInt by omega) (show x376.toInt ≤ 10 by omega) (show (10 - x376.toInt).toNat < n3 by omega) hw hT hF  (lv_sub hl [1, 2, 3, 4, 5, 0] rfl)
        · have c367 : v3_5.toInt = a1.toInt := wk_eq.mp c367
          refine lv_iload_n hx hb dX12_reaches_22 rfl (lv_at hl 3 rfl) ?_
          refine lv_goto (tgt := 29) hx hb dX12_reaches_23 (by decide) ?_
          refine tk_iast hC hK hw hT kM_at18 (by decide) rfl rfl (show 0 ≤ v3_5.toInt by omega) (show v3_5.toInt < 10 by omega) (show 0 ≤ a3.toInt by omega) (show a3.toInt ≤ 100000100 by omega) dX12_reaches_29 (fun H locs w377 hw hT k379 c378 => ?_)
          have gs380 : sumG 19 10 w377 = sumG 19 10 w354 := sumG_ne 10 k379 (tk_ne kM_at19 kM_at18 (by decide))
          have hF := hF.put kM_at18 (inE_of (a := 0) (b := 10) (by decide) (show 0 ≤ v3_5.toInt.toNat by omega) (show v3_5.toInt.toNat ≤ 10 by omega)) k379
          refine lv_aload_n hx hb dX12_reaches_30 rfl (lv_at hl 0 rfl) ?_
          refine tk_getA hC hK hw hT hinX12 kM_at0 (by decide) rfl 36 (by decide) (List.mem_of_getElem? (i := 3) rfl) rfl rfl dX12_reaches_31 ?_
          refine lv_iload hx hb dX12_reaches_34 (lv_at hl 5 rfl) ?_
          refine lv_iconst (v := 0) hx hb dX12_reaches_36 (by decide) ?_
          refine tk_zast hC hK hw hT kM_at19 (by decide) rfl rfl (show 0 ≤ v3_5.toInt by omega) (show v3_5.toInt < 10 by omega) (by decide) (by decide) dX12_reaches_37 (fun H locs w381 hw hT k383 c382 => ?_)
          have gs384 : sumG 19 10 w381 = sumG 19 10 w377 - (gi w377 19 (v3_5.toInt.toNat)).toInt + (gi w381 19 (v3_5.toInt.toNat)).toInt := sumG_up (i := v3_5.toInt.toNat) k383 10 (show v3_5.toInt.toNat < 10 by omega)
          rw [show gi w381 19 (v3_5.toInt.toNat) = 0 from c382] at gs384
          rw [show (0 : Int32).toInt = 0 by decide] at gs384
          have hF := hF.put kM_at19 (inE_of (a := 0) (b := 10) (by decide) (show 0 ≤ v3_5.toInt.toNat by omega) (show v3_5.toInt.toNat ≤ 10 by omega)) k383
          obtain ⟨x385, ex385⟩ : ∃ y : Int32, y = v3_5 + Int32.ofInt 1 := ⟨_, rfl⟩
          refine lv_iinc (v := x385) (lv' := [(5, .int x385), (0, .ref (ad 0)), (1, .int a1), (2, .int a2), (3, .int a3), (4, .int a4)]) hx hb dX12_reaches_38 hl (k := 5) rfl ex385.symm (by decide) rfl (fun ls hl => ?_)
          have ex385 : x385.toInt = v3_5.toInt + 1 := by rw [ex385]; exact wk_add (y := 1) (show -2147483648 ≤ v3_5.toInt + 1 by omega) (show v3_5.toInt + 1 ≤ 2147483647 by omega)
          refine lv_goto (tgt := 3) hx hb dX12_reaches_41 (by decide) ?_
          exact ih3 x385 H locs ls w381 (show 0 ≤ a1.toInt by omega) (show a1.toInt ≤ 9 by omega) (show 0 ≤ a2.toInt by omega) (show a2.toInt ≤ 9 by omega) (show 0 ≤ a3.toInt by omega) (show a3.toInt ≤ 100000100 by omega) (show 0 ≤ a4.toInt by omega) (show a4.toInt ≤ 100000100 by omega) (show 0 ≤ x385.toInt by omega) (show x385.toInt ≤ 10 by omega) (show (10 - x385.toInt).toNat < n3 by omega) hw hT hF  (lv_sub hl [1, 2, 3, 4, 5, 0] rfl)
  refine lv_iconst (v := 0) hx hb dX12_reaches_0 (by decide) ?_
  refine lv_istore (lv' := [(5, .int 0), (0, .ref (ad 0)), (1, .int a1), (2, .int a2), (3, .int a3), (4, .int a4)]) hx hb dX12_reaches_1 hl (by decide) rfl (fun ls hl => ?_)
  exact L3 ((10 - (0 : Int)).toNat + 1) 0 s.heap locs ls w0 (show 0 ≤ a1.toInt by omega) (show a1.toInt ≤ 9 by omega) (show 0 ≤ a2.toInt by omega) (show a2.toInt ≤ 9 by omega) (show 0 ≤ a3.toInt by omega) (show a3.toInt ≤ 100000100 by omega) (show 0 ≤ a4.toInt by omega) (show a4.toInt ≤ 100000100 by omega) (by decide) (by decide) (Nat.lt_succ_self _) hw hT hF  (lv_sub hl [1, 2, 3, 4, 5, 0] rfl)
abbrev P_X12_wayFrom_1 (ad : Nat → Nat) (cy : Nat → ClassId) (B : Int) (qr : Nat) (s1 : Int) (a1 : Int32) (a2 : Int32) (a3 : Int32) (a4 : Int32) (w0 : va_W) : Int32 → va_W → Prop := fun r u => TW ksM ad cy B qr 12 u ∧ FE ksM [(12, 37, 37), (77, 0, 10), (78, 0, 10)] w0 u ∧ ((0 ≤ r.toInt ∧ r.toInt ≤ 11 ∧ a1.toInt ≤ 9 ∧ (∃ y : Int32, gi u 0 37 = y ∧ 0 ≤ y.toInt ∧ y.toInt ≤ 100000100) ∧ (∃ y : Int32, gi u 12 1 = y ∧ 1 ≤ y.toInt ∧ y.toInt ≤ 12)) ∨ (0 ≤ r.toInt ∧ r.toInt ≤ 11 ∧ a1.toInt ≤ 9 ∧ (∃ y : Int32, gi u 0 37 = y ∧ 0 ≤ y.toInt ∧ y.toInt ≤ 100000100) ∧ (∃ y : Int32, gi u 12 1 = y ∧ 1 ≤ y.toInt ∧ y.toInt ≤ 12) ∧ gi u 12 (10 * r.toInt + 10).toNat = a1) ∨ (r = (-1)))
set_option maxHeartbeats 4000000 in
set_option maxRecDepth 100000 in
theorem k_X12_wayFrom_1 (l : Launch) (adK adV : Nat → Nat) (dC : Nat → ClassId) (dI : Nat → Nat → Nat) (cy : Nat → ClassId) (ad : Nat → Nat) (B : Int) (hB0 : 100000 ≤ B) (hB1 : B ≤ 1073741824) (qr : Nat) (s1 : Int)  (a1 : Int32) (ra1 : 0 ≤ a1.toInt) (ta1 : a1.toInt ≤ 12) (a2 : Int32) (ra2 : 0 ≤ a2.toInt) (ta2 : a2.toInt ≤ 9) (a3 : Int32) (ra3 : 0 ≤ a3.toInt) (ta3 : a3.toInt ≤ 100000208) (a4 : Int32) (ra4 : 0 ≤ a4.toInt) (ta4 : a4.toInt ≤ 100000100) (w0 : va_W) (sz : Nat) (hT : TW ksM ad cy B qr 12 w0)  : Met l yX12_wayFrom wsX12_wayFrom ({ frames := 6, cells := 0, slots := 0, locals := 133 }) (va_Pc [.ref (ad 0), .int a1, .int a2, .int a3, .int a4] (wpreS adK adV dC dI cy sz w0)) (va_Qi (P_X12_wayFrom_1 ad cy B qr s1 a1 a2 a3 a4 w0) (fun u : va_W => wpost dC dI cy (va_A w0 sz) u) (va_A w0 sz)) 0 0 (va_A w0 sz) := by
  refine Met.ofW (cc := cX12_wayFrom) (maxL := 6) (ret := (some .int)) (by decide) rfl ?_
  intro p e s m args below meth c s₁ Bk hml hv
  obtain ⟨rfl, ⟨hsz, hP, hK, hD0⟩, hE, hSR⟩ := hv
  have hx := Bk.exec
  have hb := Bk.bytes
  have hr := Bk.returns
  have hlocks := Bk.notSynchronized
  have hC : CallFix p m c cX12_wayFrom 6 s _ wsX12_wayFrom RX12 := ⟨hx, hb, hml, findClass_of_methodNamed Bk.named, atoms_spec (ws := wsX12_wayFrom) Bk.pre⟩
  subst hsz
  have hD := hD0.self (sz := s.heap.size)
  generalize hAe : va_A w0 s.heap.size = A at hD hE ⊢
  have hA : ∀ q : Nat, s.heap.size ≤ q → A q := fun q h => by rw [← hAe]; exact Or.inr h
  have hw : Wd dC dI A s.heap s.heap [] w0 := ⟨hP, hD, va_S.rf⟩
  have hF : FE ksM [(12, 37, 37), (77, 0, 10), (78, 0, 10)] w0 w0 := FE.rf
  have hl := lv_entry ([.ref (ad 0), .int a1, .int a2, .int a3, .int a4]) (n := 6) (Nat.le_of_ble_eq_true rfl)
  rw [lg_entry_eq]
  generalize (lg_sl ([.ref (ad 0), .int a1, .int a2, .int a3, .int a4]) ++ List.replicate (6 - (lg_sl ([.ref (ad 0), .int a1, .int a2, .int a3, .int a4])).length) Slot.unset).toArray = ls at hl ⊢
  have hl : lv_has ls 6 [(0, .ref (ad 0)), (1, .int a1), (2, .int a2), (3, .int a3), (4, .int a4)] := hl
  generalize hloc : ([] : List Loc) = locs at hw ⊢
  have hinX12 : ∀ w ∈ u_ws RX12 TX12 42, w ∈ wsX12_wayFrom := fun _ h => List.mem_cons_of_mem _ (List.mem_append_right _ (h))
  have L3 : ∀ (n3 : Nat) (v3_5 : Int32) (H : Heap) (locs : List Loc) (ls : Array Slot) (w1 : va_W), 0 ≤ a1.toInt → a1.toInt ≤ 12 → 0 ≤ a2.toInt → a2.toInt ≤ 9 → 0 ≤ a3.toInt → a3.toInt ≤ 100000208 → 0 ≤ a4.toInt → a4.toInt ≤ 100000100 → 0 ≤ v3_5.toInt → v3_5.toInt ≤ 12 → (12 - v3_5.toInt).toNat < n3 → Wd dC dI A s.heap H locs w1 → TW ksM ad cy B qr 12 w1 → FE ksM [(12, 37, 37), (77, 0, 10), (78, 0, 10)] w0 w1 → lv_has ls 6 [(0, .ref (ad 0)), (1, .int a1), (2, .int a2), (3, .int a3), (4, .int a4), (5, .int v3_5)] → W p l e ({ frames := 6, cells := 0, slots := 0, locals := 133 }) s m (List.toArray [.ref (ad 0), .int a1, .int a2, .int a3, .int a4]) below meth c H locs 0 0 (MQ below (va_Qi (P_X12_wayFrom_1 ad cy B qr s1 a1 a2 a3 a4 w0) (fun u : va_W => wpost dC dI cy A u) A) (List.toArray [.ref (ad 0), .int a1, .int a2, .int a3, .int a4]) s 0 0 A) (F0 m 3 ls []) := by
    intro n3
    induction n3 with
    | zero => intro v3_5 H locs ls w1 r2 t3 r4 t5 r6 t7 r8 t9 r10 t11 hm3 hw hT hF hl; omega
    | succ n3 ih3 =>
      intro v3_5 H locs ls w1 r2 t3 r4 t5 r6 t7 r8 t9 r10 t11 hm3 hw hT hF hl
      have J105 : ∀ (f105_12_1 : Int32) (H : Heap) (locs : List Loc) (ls : Array Slot) (w12 : va_W), 0 ≤ a1.toInt → a1.toInt ≤ 12 → 0 ≤ a2.toInt → a2.toInt ≤ 9 → 0 ≤ a3.toInt → a3.toInt ≤ 100000208 → 0 ≤ a4.toInt → a4.toInt ≤ 100000100 → 0 ≤ v3_5.toInt → v3_5.toInt ≤ 11 → 1 ≤ f105_12_1.toInt → f105_12_1.toInt ≤ 12 → Wd dC dI A s.heap H locs w12 → TW ksM ad cy B qr 12 w12 → FE ksM [(12, 37, 37), (77, 0, 10), (78, 0, 10)] w0 w12 → gi w12 12 1 = f105_12_1 → lv_has ls 6 [(0, .ref (ad 0)), (1, .int a1), (2, .int a2), (3, .int a3), (4, .int a4), (5, .int v3_5)] → W p l e ({ frames := 6, cells := 0, slots := 0, locals := 133 }) s m (List.toArray [.ref (ad 0), .int a1, .int a2, .int a3, .int a4]) below meth c H locs 0 0 (MQ below (va_Qi (P_X12_wayFrom_1 ad cy B qr s1 a1 a2 a3 a4 w0) (fun u : va_W => wpost dC dI cy A u) A) (List.toArray [.ref (ad 0), .int a1, .int a2, .int a3, .int a4]) s 0 0 A) (F0 m 105 ls []) := by
        intro f105_12_1 H locs ls w12 r13 t14 r15 t16 r17 t18 r19 t20 r21 t22 r23 t24 hw hT hF c25 hl
        obtain ⟨x26, ex26⟩ : ∃ y : Int32, y = v3_5 + Int32.ofInt 1 := ⟨_, rfl⟩
        refine lv_iinc (v := x26) (lv' := [(5, .int x26), (0, .ref (ad 0)), (1, .int a1), (2, .int a2), (3, .int a3), (4, .int a4)]) hx hb dX12_wayFrom_105 hl (k := 5) rfl ex26.symm (by decide) rfl (fun ls hl => ?_)
        have ex26 : x26.toInt = v3_5.toInt + 1 := by rw [ex26]; exact wk_add (y := 1) (show -2147483648 ≤ v3_5.toInt + 1 by omega) (show v3_5.toInt + 1 ≤ 2147483647 by omega)
        refine lv_goto (tgt := 3) hx hb dX12_wayFrom_108 (by decide) ?_
        exact ih3 x26 H locs ls w12 (show 0 ≤ a1.toInt by omega) (show a1.toInt ≤ 12 by omega) (show 0 ≤ a2.toInt by omega) (show a2.toInt ≤ 9 by omega) (show 0 ≤ a3.toInt by omega) (show a3.toInt ≤ 100000208 by omega) (show 0 ≤ a4.toInt by omega) (show a4.toInt ≤ 100000100 by omega) (show 0 ≤ x26.toInt by omega) (show x26.toInt ≤ 12 by omega) (show (12 - x26.toInt).toNat < n3 by omega) hw hT hF  (lv_sub hl [1, 2, 3, 4, 5, 0] rfl)
      refine lv_iload hx hb dX12_wayFrom_3 (lv_at hl 5 rfl) ?_
      refine lv_aload_n hx hb dX12_wayFrom_5 rfl (lv_at hl 0 rfl) ?_
      refine tk_getA hC hK hw hT hinX12 kM_at0 (by decide) rfl 26 (by decide) (List.mem_of_getElem? (i := 1) rfl) rfl rfl dX12_wayFrom_6 ?_
      refine lv_iconst (v := 1) hx hb dX12_wayFrom_9 (by decide) ?_
      refine tk_ialdR hC hK hw hT kM_at12 rfl (by decide) (by decide) dX12_wayFrom_10 (fun x27 c28 Ex27 => ?_)
      have bx27 : 0 ≤ x27.toInt ∧ x27.toInt ≤ 12 := (tk_rg1 rfl).mp Ex27
      have c28 : gi w1 12 1 = x27 := c28
      refine lv_icmp_ge (tgt := 111) hx hb dX12_wayFrom_11 (by decide) (fun c29 => ?_) (fun c29 => ?_)
      · have c29 : x27.toInt ≤ v3_5.toInt := wk_le.mp c29
        refine lv_iconst (v := (-1)) hx hb dX12_wayFrom_111 (by decide) ?_
        exact tk_iret hC hr hlocks hK ⟨hT, hF, (Or.inr (Or.inr rfl))⟩ hw dX12_wayFrom_112
      · have c29 : v3_5.toInt < x27.toInt := wk_leF c29
        refine lv_aload_n hx hb dX12_wayFrom_14 rfl (lv_at hl 0 rfl) ?_
        refine lv_iload hx hb dX12_wayFrom_15 (lv_at hl 5 rfl) ?_
        refine lv_iload_n hx hb dX12_wayFrom_17 rfl (lv_at hl 1 rfl) ?_
        refine tk_Vi hC hK hw hT hA hE hSR kM_at0 (by decide) rfl (k_X12_isAt_2 l adK adV dC dI cy ad B (by omega) (by omega) qr s1   v3_5 (show 0 ≤ v3_5.toInt by omega) (show v3_5.toInt ≤ 11 by omega) a1 (show 0 ≤ a1.toInt by omega) (show a1.toInt ≤ 12 by omega) w1 H.size hT ) (cwV 2 hC.2.2.2.2 gX12_wayFrom_X12_isAt rfl rfl rfl (by decide +kernel) ⟨Nat.le_of_ble_eq_true rfl, Nat.le_of_ble_eq_true rfl⟩) rfl hl.1 rfl (Nat.le_of_ble_eq_true rfl) dX12_wayFrom_18 (fun r30 w32 H locs hp31 hw => ?_)
        obtain ⟨rfl, hg35⟩ := hp31
        rcases hg35 with rfl | ⟨rfl, g34⟩
        · refine lv_if_ne (tgt := 27) hx hb dX12_wayFrom_21 (by decide) (fun c => absurd (by decide) c) (fun _ => ?_)
          refine lv_goto (tgt := 105) hx hb dX12_wayFrom_24 (by decide) ?_
          exact J105 x27 H locs ls w1 (show 0 ≤ a1.toInt by omega) (show a1.toInt ≤ 12 by omega) (show 0 ≤ a2.toInt by omega) (show a2.toInt ≤ 9 by omega) (show 0 ≤ a3.toInt by omega) (show a3.toInt ≤ 100000208 by omega) (show 0 ≤ a4.toInt by omega) (show a4.toInt ≤ 100000100 by omega) (show 0 ≤ v3_5.toInt by omega) (show v3_5.toInt ≤ 11 by omega) (show 1 ≤ x27.toInt by omega) (show x27.toInt ≤ 12 by omega)  hw hT hF c28 (lv_sub hl [0, 1, 2, 3, 4, 5] rfl)
        · refine lv_if_ne (tgt := 27) hx hb dX12_wayFrom_21 (by decide) (fun _ => ?_) (fun c => absurd c (by decide))
          refine lv_aload_n hx hb dX12_wayFrom_27 rfl (lv_at hl 0 rfl) ?_
          refine lv_aload_n hx hb dX12_wayFrom_28 rfl (lv_at hl 0 rfl) ?_
          refine lv_iload hx hb dX12_wayFrom_29 (lv_at hl 5 rfl) ?_
          refine lv_iload_n hx hb dX12_wayFrom_31 rfl (lv_at hl 1 rfl) ?_
          refine lv_iload_n hx hb dX12_wayFrom_32 rfl (lv_at hl 3 rfl) ?_
          refine lv_iload hx hb dX12_wayFrom_33 (lv_at hl 4 rfl) ?_
          refine tk_Vi hC hK hw hT hA hE hSR kM_at0 (by decide) rfl (k_X12_firstOpen_2 l adK adV dC dI cy ad B (by omega) (by omega) qr s1   v3_5 (show 0 ≤ v3_5.toInt by omega) (show v3_5.toInt ≤ 11 by omega) a1 (show 0 ≤ a1.toInt by omega) (show a1.toInt ≤ 9 by omega) a3 (show 0 ≤ a3.toInt by omega) (show a3.toInt ≤ 100000208 by omega) a4 (show 0 ≤ a4.toInt by omega) (show a4.toInt ≤ 100000100 by omega) w1 H.size hT ) (cwV 4 hC.2.2.2.2 gX12_wayFrom_X12_firstOpen rfl rfl rfl (by decide +kernel) ⟨Nat.le_of_ble_eq_true rfl, Nat.le_of_ble_eq_true rfl⟩) rfl hl.1 rfl (Nat.le_of_ble_eq_true rfl) dX12_wayFrom_35 (fun r36 w38 H locs hp37 hw => ?_)
          obtain ⟨rfl, hg45⟩ := hp37
          rcases hg45 with ⟨g40, g41⟩ | ⟨g42, g43, c44⟩
          · refine tk_puti hC hK hw hT hinX12 tyX12_ok nmX12 kM_at0 (by decide) rfl rfl 37 (by decide) (List.mem_of_getElem? (i := 2) rfl) rfl rfl rfl rfl (show 0 ≤ r36.toInt by omega) (show r36.toInt ≤ 100000200 by omega) dX12_wayFrom_38 (fun H locs w46 hw hT k48 c47 => ?_)
            have hF := hF.put kM_at0 (k := 37) (by decide) k48
            have c49 := k48.gi (Or.inr (by decide)) c28
            refine lv_aload_n hx hb dX12_wayFrom_41 rfl (lv_at hl 0 rfl) ?_
            refine tk_geti hC hK hw hT hinX12 kM_at0 (by decide) rfl 37 (by decide) (List.mem_of_getElem? (i := 2) rfl) rfl rfl dX12_wayFrom_42 (fun x50 c51 rx50 tx50 => ?_)
            refine wk_top r36 (c51.symm.trans c47) ?_
            refine lv_ldcw (v := 100000000) hx hb hC.2.2.2.1 (hC.2.2.2.2 _ (List.mem_of_getElem? (i := 3) rfl)) dX12_wayFrom_45 ?_
            refine lv_icmp_eq (tgt := 105) hx hb dX12_wayFrom_48 (by decide) (fun c52 => ?_) (fun c52 => ?_)
            · have c52 : r36.toInt = (100000000 : Int) := wk_eq.mp c52
              exact J105 x27 H locs ls w46 (show 0 ≤ a1.toInt by omega) (show a1.toInt ≤ 12 by omega) (show 0 ≤ a2.toInt by omega) (show a2.toInt ≤ 9 by omega) (show 0 ≤ a3.toInt by omega) (show a3.toInt ≤ 100000208 by omega) (show 0 ≤ a4.toInt by omega) (show a4.toInt ≤ 100000100 by omega) (show 0 ≤ v3_5.toInt by omega) (show v3_5.toInt ≤ 11 by omega) (show 1 ≤ x27.toInt by omega) (show x27.toInt ≤ 12 by omega)  hw hT hF c49 (lv_sub hl [0, 1, 2, 3, 4, 5] rfl)
            · have c52 : ¬ r36.toInt = (100000000 : Int) := wk_eqF c52
              refine lv_aload_n hx hb dX12_wayFrom_51 rfl (lv_at hl 0 rfl) ?_
              refine tk_geti hC hK hw hT hinX12 kM_at0 (by decide) rfl 37 (by decide) (List.mem_of_getElem? (i := 2) rfl) rfl rfl dX12_wayFrom_52 (fun x53 c54 rx53 tx53 => ?_)
              refine wk_top r36 (c54.symm.trans c47) ?_
              refine lv_aload_n hx hb dX12_wayFrom_55 rfl (lv_at hl 0 rfl) ?_
              refine lv_iload hx hb dX12_wayFrom_56 (lv_at hl 5 rfl) ?_
              refine lv_iconst (v := 2) hx hb dX12_wayFrom_58 (by decide) ?_
              refine tk_Vi hC hK hw hT hA hE hSR kM_at0 (by decide) rfl (k_X12_streetOf_6 l adK adV dC dI cy ad B (by omega) (by omega) qr s1   v3_5 (show 0 ≤ v3_5.toInt by omega) (show v3_5.toInt ≤ 11 by omega) w46 H.size hT ) (cwV 2 hC.2.2.2.2 gX12_wayFrom_X12_streetOf rfl rfl rfl (by decide +kernel) ⟨Nat.le_of_ble_eq_true rfl, Nat.le_of_ble_eq_true rfl⟩) rfl hl.1 rfl (Nat.le_of_ble_eq_true rfl) dX12_wayFrom_59 (fun r55 w57 H locs hp56 hw => ?_)
              obtain ⟨rfl, hg62⟩ := hp56
              obtain ⟨g59, g60, c61⟩ := hg62
              refine lv_iadd hx hb dX12_wayFrom_62 ?_
              refine lv_topi (fun x63 ex63 => ?_)
              have ex63 : x63.toInt = r36.toInt + r55.toInt := by rw [ex63]; exact wk_add (show (-2147483648) ≤ r36.toInt + r55.toInt by omega) (show r36.toInt + r55.toInt ≤ 2147483647 by omega)
              refine lv_iload hx hb dX12_wayFrom_63 (lv_at hl 4 rfl) ?_
              refine lv_icmp_le (tgt := 71) hx hb dX12_wayFrom_65 (by decide) (fun c64 => ?_) (fun c64 => ?_)
              · have c64 : x63.toInt ≤ a4.toInt := wk_le.mp c64
                refine lv_aload_n hx hb dX12_wayFrom_71 rfl (lv_at hl 0 rfl) ?_
                refine lv_aload_n hx hb dX12_wayFrom_72 rfl (lv_at hl 0 rfl) ?_
                refine lv_iload hx hb dX12_wayFrom_73 (lv_at hl 5 rfl) ?_
                refine lv_iload_n hx hb dX12_wayFrom_75 rfl (lv_at hl 1 rfl) ?_
                refine tk_Vi hC hK hw hT hA hE hSR kM_at0 (by decide) rfl (k_X12_otherOf_1 l adK adV dC dI cy ad B (by omega) (by omega) qr s1   v3_5 (show 0 ≤ v3_5.toInt by omega) (show v3_5.toInt ≤ 11 by omega) a1 (show 0 ≤ a1.toInt by omega) (show a1.toInt ≤ 9 by omega) w46 H.size hT ) (cwV 2 hC.2.2.2.2 gX12_wayFrom_X12_otherOf rfl rfl rfl (by decide +kernel) ⟨Nat.le_of_ble_eq_true rfl, Nat.le_of_ble_eq_true rfl⟩) rfl hl.1 rfl (Nat.le_of_ble_eq_true rfl) dX12_wayFrom_76 (fun r65 w67 H locs hp66 hw => ?_)
                obtain ⟨rfl, hg74⟩ := hp66
                rcases hg74 with ⟨g69, g70⟩ | ⟨g71, g72, c73⟩
                · refine lv_iload_n hx hb dX12_wayFrom_79 rfl (lv_at hl 2 rfl) ?_
                  refine lv_aload_n hx hb dX12_wayFrom_80 rfl (lv_at hl 0 rfl) ?_
                  refine tk_geti hC hK hw hT hinX12 kM_at0 (by decide) rfl 37 (by decide) (List.mem_of_getElem? (i := 2) rfl) rfl rfl dX12_wayFrom_81 (fun x75 c76 rx75 tx75 => ?_)
                  refine wk_top r36 (c76.symm.trans c47) ?_
                  refine lv_aload_n hx hb dX12_wayFrom_84 rfl (lv_at hl 0 rfl) ?_
                  refine lv_iload hx hb dX12_wayFrom_85 (lv_at hl 5 rfl) ?_
                  refine lv_iconst (v := 2) hx hb dX12_wayFrom_87 (by decide) ?_
                  refine tk_Vi hC hK hw hT hA hE hSR kM_at0 (by decide) rfl (k_X12_streetOf_6 l adK adV dC dI cy ad B (by omega) (by omega) qr s1   v3_5 (show 0 ≤ v3_5.toInt by omega) (show v3_5.toInt ≤ 11 by omega) w46 H.size hT ) (cwV 2 hC.2.2.2.2 gX12_wayFrom_X12_streetOf rfl rfl rfl (by decide +kernel) ⟨Nat.le_of_ble_eq_true rfl, Nat.le_of_ble_eq_true rfl⟩) rfl hl.1 rfl (Nat.le_of_ble_eq_true rfl) dX12_wayFrom_88 (fun r77 w79 H locs hp78 hw => ?_)
                  obtain ⟨rfl, hg84⟩ := hp78
                  obtain ⟨g81, g82, c83⟩ := hg84
                  obtain rfl : r77 = r55 := c83.symm.trans c61
                  refine lv_iadd hx hb dX12_wayFrom_91 ?_
                  refine lv_topi (fun x85 ex85 => ?_)
                  have ex85 : x85.toInt = r36.toInt + r55.toInt := by rw [ex85]; exact wk_add (show (-2147483648) ≤ r36.toInt + r55.toInt by omega) (show r36.toInt + r55.toInt ≤ 2147483647 by omega)
                  refine lv_iload hx hb dX12_wayFrom_92 (lv_at hl 4 rfl) ?_
                  refine tk_Vi hC hK hw hT hA hE hSR kM_at0 (by decide) rfl (k_X12_reaches_2 l adK adV dC dI cy ad B (by omega) (by omega) qr s1   r65 (show 0 ≤ r65.toInt by omega) (show r65.toInt ≤ 9 by omega) a2 (show 0 ≤ a2.toInt by omega) (show a2.toInt ≤ 9 by omega) x85 (show 0 ≤ x85.toInt by omega) (show x85.toInt ≤ 100000100 by omega) a4 (show 0 ≤ a4.toInt by omega) (show a4.toInt ≤ 100000100 by omega) w46 H.size hT ) (cwV 4 hC.2.2.2.2 gX12_wayFrom_X12_reaches rfl rfl rfl (by decide +kernel) ⟨Nat.le_of_ble_eq_true rfl, Nat.le_of_ble_eq_true rfl⟩) rfl hl.1 rfl (Nat.le_of_ble_eq_true rfl) dX12_wayFrom_94 (fun r86 w88 H locs hp87 hw => ?_)
                  obtain ⟨hT, k89, hg92⟩ := hp87
                  have hF := hF.tr k89 (by decide)
                  have c93 := k89.gi kM_at12 (by decide) c49
                  have c94 := k89.gi kM_at0 (by decide) c47
                  have c95 := k89.gi kM_at12 rfl c61
                  obtain ⟨g90, g91⟩ := hg92
                  refine lv_iload hx hb dX12_wayFrom_97 (lv_at hl 4 rfl) ?_
                  refine lv_icmp_ne (tgt := 105) hx hb dX12_wayFrom_99 (by decide) (fun c96 => ?_) (fun c96 => ?_)
                  · have c96 : ¬ r86.toInt = a4.toInt := wk_eqF c96
                    exact J105 x27 H locs ls w88 (show 0 ≤ a1.toInt by omega) (show a1.toInt ≤ 12 by omega) (show 0 ≤ a2.toInt by omega) (show a2.toInt ≤ 9 by omega) (show 0 ≤ a3.toInt by omega) (show a3.toInt ≤ 100000208 by omega) (show 0 ≤ a4.toInt by omega) (show a4.toInt ≤ 100000100 by omega) (show 0 ≤ v3_5.toInt by omega) (show v3_5.toInt ≤ 11 by omega) (show 1 ≤ x27.toInt by omega) (show x27.toInt ≤ 12 by omega)  hw hT hF c93 (lv_sub hl [0, 1, 2, 3, 4, 5] rfl)
                  · have c96 : r86.toInt = a4.toInt := wk_eq.mp c96
                    refine lv_iload hx hb dX12_wayFrom_102 (lv_at hl 5 rfl) ?_
                    exact tk_iret hC hr hlocks hK ⟨hT, hF, (Or.inl ⟨(show 0 ≤ v3_5.toInt by omega), (show v3_5.toInt ≤ 11 by omega), (show a1.toInt ≤ 9 by omega), ⟨r36, c94, (show 0 ≤ r36.toInt by omega), (show r36.toInt ≤ 100000100 by omega)⟩, ⟨x27, c93, (show 1 ≤ x27.toInt by omega), (show x27.toInt ≤ 12 by omega)⟩⟩)⟩ hw dX12_wayFrom_104
                · refine lv_iload_n hx hb dX12_wayFrom_79 rfl (lv_at hl 2 rfl) ?_
                  refine lv_aload_n hx hb dX12_wayFrom_80 rfl (lv_at hl 0 rfl) ?_
                  refine tk_geti hC hK hw hT hinX12 kM_at0 (by decide) rfl 37 (by decide) (List.mem_of_getElem? (i := 2) rfl) rfl rfl dX12_wayFrom_81 (fun x97 c98 rx97 tx97 => ?_)
                  refine wk_top r36 (c98.symm.trans c47) ?_
                  refine lv_aload_n hx hb dX12_wayFrom_84 rfl (lv_at hl 0 rfl) ?_
                  refine lv_iload hx hb dX12_wayFrom_85 (lv_at hl 5 rfl) ?_
                  refine lv_iconst (v := 2) hx hb dX12_wayFrom_87 (by decide) ?_
                  refine tk_Vi hC hK hw hT hA hE hSR kM_at0 (by decide) rfl (k_X12_streetOf_6 l adK adV dC dI cy ad B (by omega) (by omega) qr s1   v3_5 (show 0 ≤ v3_5.toInt by omega) (show v3_5.toInt ≤ 11 by omega) w46 H.size hT ) (cwV 2 hC.2.2.2.2 gX12_wayFrom_X12_streetOf rfl rfl rfl (by decide +kernel) ⟨Nat.le_of_ble_eq_true rfl, Nat.le_of_ble_eq_true rfl⟩) rfl hl.1 rfl (Nat.le_of_ble_eq_true rfl) dX12_wayFrom_88 (fun r99 w101 H locs hp100 hw => ?_)
                  obtain ⟨rfl, hg106⟩ := hp100
                  obtain ⟨g103, g104, c105⟩ := hg106
                  obtain rfl : r99 = r55 := c105.symm.trans c61
                  refine lv_iadd hx hb dX12_wayFrom_91 ?_
                  refine lv_topi (fun x107 ex107 => ?_)
                  have ex107 : x107.toInt = r36.toInt + r55.toInt := by rw [ex107]; exact wk_add (show (-2147483648) ≤ r36.toInt + r55.toInt by omega) (show r36.toInt + r55.toInt ≤ 2147483647 by omega)
                  refine lv_iload hx hb dX12_wayFrom_92 (lv_at hl 4 rfl) ?_
                  refine tk_Vi hC hK hw hT hA hE hSR kM_at0 (by decide) rfl (k_X12_reaches_2 l adK adV dC dI cy ad B (by omega) (by omega) qr s1   r65 (show 0 ≤ r65.toInt by omega) (show r65.toInt ≤ 9 by omega) a2 (show 0 ≤ a2.toInt by omega) (show a2.toInt ≤ 9 by omega) x107 (show 0 ≤ x107.toInt by omega) (show x107.toInt ≤ 100000100 by omega) a4 (show 0 ≤ a4.toInt by omega) (show a4.toInt ≤ 100000100 by omega) w46 H.size hT ) (cwV 4 hC.2.2.2.2 gX12_wayFrom_X12_reaches rfl rfl rfl (by decide +kernel) ⟨Nat.le_of_ble_eq_true rfl, Nat.le_of_ble_eq_true rfl⟩) rfl hl.1 rfl (Nat.le_of_ble_eq_true rfl) dX12_wayFrom_94 (fun r108 w110 H locs hp109 hw => ?_)
                  obtain ⟨hT, k111, hg114⟩ := hp109
                  have hF := hF.tr k111 (by decide)
                  have c115 := k111.gi kM_at12 (by decide) c49
                  have c116 := k111.gi kM_at0 (by decide) c47
                  have c117 := k111.gi kM_at12 rfl c61
                  have c118 := k111.gi kM_at12 rfl c73
                  obtain ⟨g112, g113⟩ := hg114
                  refine lv_iload hx hb dX12_wayFrom_97 (lv_at hl 4 rfl) ?_
                  refine lv_icmp_ne (tgt := 105) hx hb dX12_wayFrom_99 (by decide) (fun c119 => ?_) (fun c119 => ?_)
                  · have c119 : ¬ r108.toInt = a4.toInt := wk_eqF c119
                    exact J105 x27 H locs ls w110 (show 0 ≤ a1.toInt by omega) (show a1.toInt ≤ 12 by omega) (show 0 ≤ a2.toInt by omega) (show a2.toInt ≤ 9 by omega) (show 0 ≤ a3.toInt by omega) (show a3.toInt ≤ 100000208 by omega) (show 0 ≤ a4.toInt by omega) (show a4.toInt ≤ 100000100 by omega) (show 0 ≤ v3_5.toInt by omega) (show v3_5.toInt ≤ 11 by omega) (show 1 ≤ x27.toInt by omega) (show x27.toInt ≤ 12 by omega)  hw hT hF c115 (lv_sub hl [0, 1, 2, 3, 4, 5] rfl)
                  · have c119 : r108.toInt = a4.toInt := wk_eq.mp c119
                    refine lv_iload hx hb dX12_wayFrom_102 (lv_at hl 5 rfl) ?_
                    exact tk_iret hC hr hlocks hK ⟨hT, hF, (Or.inr (Or.inl ⟨(show 0 ≤ v3_5.toInt by omega), (show v3_5.toInt ≤ 11 by omega), (show a1.toInt ≤ 9 by omega), ⟨r36, c116, (show 0 ≤ r36.toInt by omega), (show r36.toInt ≤ 100000100 by omega)⟩, ⟨x27, c115, (show 1 ≤ x27.toInt by omega), (show x27.toInt ≤ 12 by omega)⟩, c118⟩))⟩ hw dX12_wayFrom_104
              · have c64 : a4.toInt < x63.toInt := wk_leF c64
                refine lv_goto (tgt := 105) hx hb dX12_wayFrom_68 (by decide) ?_
                exact J105 x27 H locs ls w46 (show 0 ≤ a1.toInt by omega) (show a1.toInt ≤ 12 by omega) (show 0 ≤ a2.toInt by omega) (show a2.toInt ≤ 9 by omega) (show 0 ≤ a3.toInt by omega) (show a3.toInt ≤ 100000208 by omega) (show 0 ≤ a4.toInt by omega) (show a4.toInt ≤ 100000100 by omega) (show 0 ≤ v3_5.toInt by omega) (show v3_5.toInt ≤ 11 by omega) (show 1 ≤ x27.toInt by omega) (show x27.toInt ≤ 12 by omega)  hw hT hF c49 (lv_sub hl [0, 1, 2, 3, 4, 5] rfl)
          · refine tk_puti hC hK hw hT hinX12 tyX12_ok nmX12 kM_at0 (by decide) rfl rfl 37 (by decide) (List.mem_of_getElem? (i := 2) rfl) rfl rfl rfl rfl (show 0 ≤ r36.toInt by omega) (show r36.toInt ≤ 100000200 by omega) dX12_wayFrom_38 (fun H locs w120 hw hT k122 c121 => ?_)
            have hF := hF.put kM_at0 (k := 37) (by decide) k122
            have c123 := k122.gi (Or.inr (by decide)) c28
            have c124 := k122.gi (Or.inl (tk_ne kM_at12 kM_at0 (by decide))) c44
            refine lv_aload_n hx hb dX12_wayFrom_41 rfl (lv_at hl 0 rfl) ?_
            refine tk_geti hC hK hw hT hinX12 kM_at0 (by decide) rfl 37 (by decide) (List.mem_of_getElem? (i := 2) rfl) rfl rfl dX12_wayFrom_42 (fun x125 c126 rx125 tx125 => ?_)
            refine wk_top r36 (c126.symm.trans c121) ?_
            refine lv_ldcw (v := 100000000) hx hb hC.2.2.2.1 (hC.2.2.2.2 _ (List.mem_of_getElem? (i := 3) rfl)) dX12_wayFrom_45 ?_
            refine lv_icmp_eq (tgt := 105) hx hb dX12_wayFrom_48 (by decide) (fun c127 => ?_) (fun c127 => ?_)
            · have c127 : r36.toInt = (100000000 : Int) := wk_eq.mp c127
              exact J105 x27 H locs ls w120 (show 0 ≤ a1.toInt by omega) (show a1.toInt ≤ 12 by omega) (show 0 ≤ a2.toInt by omega) (show a2.toInt ≤ 9 by omega) (show 0 ≤ a3.toInt by omega) (show a3.toInt ≤ 100000208 by omega) (show 0 ≤ a4.toInt by omega) (show a4.toInt ≤ 100000100 by omega) (show 0 ≤ v3_5.toInt by omega) (show v3_5.toInt ≤ 11 by omega) (show 1 ≤ x27.toInt by omega) (show x27.toInt ≤ 12 by omega)  hw hT hF c123 (lv_sub hl [0, 1, 2, 3, 4, 5] rfl)
            · have c127 : ¬ r36.toInt = (100000000 : Int) := wk_eqF c127
              refine lv_aload_n hx hb dX12_wayFrom_51 rfl (lv_at hl 0 rfl) ?_
              refine tk_geti hC hK hw hT hinX12 kM_at0 (by decide) rfl 37 (by decide) (List.mem_of_getElem? (i := 2) rfl) rfl rfl dX12_wayFrom_52 (fun x128 c129 rx128 tx128 => ?_)
              refine wk_top r36 (c129.symm.trans c121) ?_
              refine lv_aload_n hx hb dX12_wayFrom_55 rfl (lv_at hl 0 rfl) ?_
              refine lv_iload hx hb dX12_wayFrom_56 (lv_at hl 5 rfl) ?_
              refine lv_iconst (v := 2) hx hb dX12_wayFrom_58 (by decide) ?_
              refine tk_Vi hC hK hw hT hA hE hSR kM_at0 (by decide) rfl (k_X12_streetOf_6 l adK adV dC dI cy ad B (by omega) (by omega) qr s1   v3_5 (show 0 ≤ v3_5.toInt by omega) (show v3_5.toInt ≤ 11 by omega) w120 H.size hT ) (cwV 2 hC.2.2.2.2 gX12_wayFrom_X12_streetOf rfl rfl rfl (by decide +kernel) ⟨Nat.le_of_ble_eq_true rfl, Nat.le_of_ble_eq_true rfl⟩) rfl hl.1 rfl (Nat.le_of_ble_eq_true rfl) dX12_wayFrom_59 (fun r130 w132 H locs hp131 hw => ?_)
              obtain ⟨rfl, hg137⟩ := hp131
              obtain ⟨g134, g135, c136⟩ := hg137
              refine lv_iadd hx hb dX12_wayFrom_62 ?_
              refine lv_topi (fun x138 ex138 => ?_)
              have ex138 : x138.toInt = r36.toInt + r130.toInt := by rw [ex138]; exact wk_add (show (-2147483648) ≤ r36.toInt + r130.toInt by omega) (show r36.toInt + r130.toInt ≤ 2147483647 by omega)
              refine lv_iload hx hb dX12_wayFrom_63 (lv_at hl 4 rfl) ?_
              refine lv_icmp_le (tgt := 71) hx hb dX12_wayFrom_65 (by decide) (fun c139 => ?_) (fun c139 => ?_)
              · have c139 : x138.toInt ≤ a4.toInt := wk_le.mp c139
                refine lv_aload_n hx hb dX12_wayFrom_71 rfl (lv_at hl 0 rfl) ?_
                refine lv_aload_n hx hb dX12_wayFrom_72 rfl (lv_at hl 0 rfl) ?_
                refine lv_iload hx hb dX12_wayFrom_73 (lv_at hl 5 rfl) ?_
                refine lv_iload_n hx hb dX12_wayFrom_75 rfl (lv_at hl 1 rfl) ?_
                refine tk_Vi hC hK hw hT hA hE hSR kM_at0 (by decide) rfl (k_X12_otherOf_1 l adK adV dC dI cy ad B (by omega) (by omega) qr s1   v3_5 (show 0 ≤ v3_5.toInt by omega) (show v3_5.toInt ≤ 11 by omega) a1 (show 0 ≤ a1.toInt by omega) (show a1.toInt ≤ 9 by omega) w120 H.size hT ) (cwV 2 hC.2.2.2.2 gX12_wayFrom_X12_otherOf rfl rfl rfl (by decide +kernel) ⟨Nat.le_of_ble_eq_true rfl, Nat.le_of_ble_eq_true rfl⟩) rfl hl.1 rfl (Nat.le_of_ble_eq_true rfl) dX12_wayFrom_76 (fun r140 w142 H locs hp141 hw => ?_)
                obtain ⟨rfl, hg149⟩ := hp141
                rcases hg149 with ⟨g144, g145⟩ | ⟨g146, g147, c148⟩
                · refine lv_iload_n hx hb dX12_wayFrom_79 rfl (lv_at hl 2 rfl) ?_
                  refine lv_aload_n hx hb dX12_wayFrom_80 rfl (lv_at hl 0 rfl) ?_
                  refine tk_geti hC hK hw hT hinX12 kM_at0 (by decide) rfl 37 (by decide) (List.mem_of_getElem? (i := 2) rfl) rfl rfl dX12_wayFrom_81 (fun x150 c151 rx150 tx150 => ?_)
                  refine wk_top r36 (c151.symm.trans c121) ?_
                  refine lv_aload_n hx hb dX12_wayFrom_84 rfl (lv_at hl 0 rfl) ?_
                  refine lv_iload hx hb dX12_wayFrom_85 (lv_at hl 5 rfl) ?_
                  refine lv_iconst (v := 2) hx hb dX12_wayFrom_87 (by decide) ?_
                  refine tk_Vi hC hK hw hT hA hE hSR kM_at0 (by decide) rfl (k_X12_streetOf_6 l adK adV dC dI cy ad B (by omega) (by omega) qr s1   v3_5 (show 0 ≤ v3_5.toInt by omega) (show v3_5.toInt ≤ 11 by omega) w120 H.size hT ) (cwV 2 hC.2.2.2.2 gX12_wayFrom_X12_streetOf rfl rfl rfl (by decide +kernel) ⟨Nat.le_of_ble_eq_true rfl, Nat.le_of_ble_eq_true rfl⟩) rfl hl.1 rfl (Nat.le_of_ble_eq_true rfl) dX12_wayFrom_88 (fun r152 w154 H locs hp153 hw => ?_)
                  obtain ⟨rfl, hg159⟩ := hp153
                  obtain ⟨g156, g157, c158⟩ := hg159
                  obtain rfl : r152 = r130 := c158.symm.trans c136
                  refine lv_iadd hx hb dX12_wayFrom_91 ?_
                  refine lv_topi (fun x160 ex160 => ?_)
                  have ex160 : x160.toInt = r36.toInt + r130.toInt := by rw [ex160]; exact wk_add (show (-2147483648) ≤ r36.toInt + r130.toInt by omega) (show r36.toInt + r130.toInt ≤ 2147483647 by omega)
                  refine lv_iload hx hb dX12_wayFrom_92 (lv_at hl 4 rfl) ?_
                  refine tk_Vi hC hK hw hT hA hE hSR kM_at0 (by decide) rfl (k_X12_reaches_2 l adK adV dC dI cy ad B (by omega) (by omega) qr s1   r140 (show 0 ≤ r140.toInt by omega) (show r140.toInt ≤ 9 by omega) a2 (show 0 ≤ a2.toInt by omega) (show a2.toInt ≤ 9 by omega) x160 (show 0 ≤ x160.toInt by omega) (show x160.toInt ≤ 100000100 by omega) a4 (show 0 ≤ a4.toInt by omega) (show a4.toInt ≤ 100000100 by omega) w120 H.size hT ) (cwV 4 hC.2.2.2.2 gX12_wayFrom_X12_reaches rfl rfl rfl (by decide +kernel) ⟨Nat.le_of_ble_eq_true rfl, Nat.le_of_ble_eq_true rfl⟩) rfl hl.1 rfl (Nat.le_of_ble_eq_true rfl) dX12_wayFrom_94 (fun r161 w163 H locs hp162 hw => ?_)
                  obtain ⟨hT, k164, hg167⟩ := hp162
                  have hF := hF.tr k164 (by decide)
                  have c168 := k164.gi kM_at12 (by decide) c123
                  have c169 := k164.gi kM_at12 rfl c124
                  have c170 := k164.gi kM_at0 (by decide) c121
                  have c171 := k164.gi kM_at12 rfl c136
                  obtain ⟨g165, g166⟩ := hg167
                  refine lv_iload hx hb dX12_wayFrom_97 (lv_at hl 4 rfl) ?_
                  refine lv_icmp_ne (tgt := 105) hx hb dX12_wayFrom_99 (by decide) (fun c172 => ?_) (fun c172 => ?_)
                  · have c172 : ¬ r161.toInt = a4.toInt := wk_eqF c172
                    exact J105 x27 H locs ls w163 (show 0 ≤ a1.toInt by omega) (show a1.toInt ≤ 12 by omega) (show 0 ≤ a2.toInt by omega) (show a2.toInt ≤ 9 by omega) (show 0 ≤ a3.toInt by omega) (show a3.toInt ≤ 100000208 by omega) (show 0 ≤ a4.toInt by omega) (show a4.toInt ≤ 100000100 by omega) (show 0 ≤ v3_5.toInt by omega) (show v3_5.toInt ≤ 11 by omega) (show 1 ≤ x27.toInt by omega) (show x27.toInt ≤ 12 by omega)  hw hT hF c168 (lv_sub hl [0, 1, 2, 3, 4, 5] rfl)
                  · have c172 : r161.toInt = a4.toInt := wk_eq.mp c172
                    refine lv_iload hx hb dX12_wayFrom_102 (lv_at hl 5 rfl) ?_
                    exact tk_iret hC hr hlocks hK ⟨hT, hF, (Or.inr (Or.inl ⟨(show 0 ≤ v3_5.toInt by omega), (show v3_5.toInt ≤ 11 by omega), (show a1.toInt ≤ 9 by omega), ⟨r36, c170, (show 0 ≤ r36.toInt by omega), (show r36.toInt ≤ 100000100 by omega)⟩, ⟨x27, c168, (show 1 ≤ x27.toInt by omega), (show x27.toInt ≤ 12 by omega)⟩, c169⟩))⟩ hw dX12_wayFrom_104
                · refine lv_iload_n hx hb dX12_wayFrom_79 rfl (lv_at hl 2 rfl) ?_
                  refine lv_aload_n hx hb dX12_wayFrom_80 rfl (lv_at hl 0 rfl) ?_
                  refine tk_geti hC hK hw hT hinX12 kM_at0 (by decide) rfl 37 (by decide) (List.mem_of_getElem? (i := 2) rfl) rfl rfl dX12_wayFrom_81 (fun x173 c174 rx173 tx173 => ?_)
                  refine wk_top r36 (c174.symm.trans c121) ?_
                  refine lv_aload_n hx hb dX12_wayFrom_84 rfl (lv_at hl 0 rfl) ?_
                  refine lv_iload hx hb dX12_wayFrom_85 (lv_at hl 5 rfl) ?_
                  refine lv_iconst (v := 2) hx hb dX12_wayFrom_87 (by decide) ?_
                  refine tk_Vi hC hK hw hT hA hE hSR kM_at0 (by decide) rfl (k_X12_streetOf_6 l adK adV dC dI cy ad B (by omega) (by omega) qr s1   v3_5 (show 0 ≤ v3_5.toInt by omega) (show v3_5.toInt ≤ 11 by omega) w120 H.size hT ) (cwV 2 hC.2.2.2.2 gX12_wayFrom_X12_streetOf rfl rfl rfl (by decide +kernel) ⟨Nat.le_of_ble_eq_true rfl, Nat.le_of_ble_eq_true rfl⟩) rfl hl.1 rfl (Nat.le_of_ble_eq_true rfl) dX12_wayFrom_88 (fun r175 w177 H locs hp176 hw => ?_)
                  obtain ⟨rfl, hg182⟩ := hp176
                  obtain ⟨g179, g180, c181⟩ := hg182
                  obtain rfl : r175 = r130 := c181.symm.trans c136
                  refine lv_iadd hx hb dX12_wayFrom_91 ?_
                  refine lv_topi (fun x183 ex183 => ?_)
                  have ex183 : x183.toInt = r36.toInt + r130.toInt := by rw [ex183]; exact wk_add (show (-2147483648) ≤ r36.toInt + r130.toInt by omega) (show r36.toInt + r130.toInt ≤ 2147483647 by omega)
                  refine lv_iload hx hb dX12_wayFrom_92 (lv_at hl 4 rfl) ?_
                  refine tk_Vi hC hK hw hT hA hE hSR kM_at0 (by decide) rfl (k_X12_reaches_2 l adK adV dC dI cy ad B (by omega) (by omega) qr s1   r140 (show 0 ≤ r140.toInt by omega) (show r140.toInt ≤ 9 by omega) a2 (show 0 ≤ a2.toInt by omega) (show a2.toInt ≤ 9 by omega) x183 (show 0 ≤ x183.toInt by omega) (show x183.toInt ≤ 100000100 by omega) a4 (show 0 ≤ a4.toInt by omega) (show a4.toInt ≤ 100000100 by omega) w120 H.size hT ) (cwV 4 hC.2.2.2.2 gX12_wayFrom_X12_reaches rfl rfl rfl (by decide +kernel) ⟨Nat.le_of_ble_eq_true rfl, Nat.le_of_ble_eq_true rfl⟩) rfl hl.1 rfl (Nat.le_of_ble_eq_true rfl) dX12_wayFrom_94 (fun r184 w186 H locs hp185 hw => ?_)
                  obtain ⟨hT, k187, hg190⟩ := hp185
                  have hF := hF.tr k187 (by decide)
                  have c191 := k187.gi kM_at12 (by decide) c123
                  have c192 := k187.gi kM_at12 rfl c124
                  have c193 := k187.gi kM_at0 (by decide) c121
                  have c194 := k187.gi kM_at12 rfl c136
                  obtain ⟨g188, g189⟩ := hg190
                  refine lv_iload hx hb dX12_wayFrom_97 (lv_at hl 4 rfl) ?_
                  refine lv_icmp_ne (tgt := 105) hx hb dX12_wayFrom_99 (by decide) (fun c195 => ?_) (fun c195 => ?_)
                  · have c195 : ¬ r184.toInt = a4.toInt := wk_eqF c195
                    exact J105 x27 H locs ls w186 (show 0 ≤ a1.toInt by omega) (show a1.toInt ≤ 12 by omega) (show 0 ≤ a2.toInt by omega) (show a2.toInt ≤ 9 by omega) (show 0 ≤ a3.toInt by omega) (show a3.toInt ≤ 100000208 by omega) (show 0 ≤ a4.toInt by omega) (show a4.toInt ≤ 100000100 by omega) (show 0 ≤ v3_5.toInt by omega) (show v3_5.toInt ≤ 11 by omega) (show 1 ≤ x27.toInt by omega) (show x27.toInt ≤ 12 by omega)  hw hT hF c191 (lv_sub hl [0, 1, 2, 3, 4, 5] rfl)
                  · have c195 : r184.toInt = a4.toInt := wk_eq.mp c195
                    refine lv_iload hx hb dX12_wayFrom_102 (lv_at hl 5 rfl) ?_
                    exact tk_iret hC hr hlocks hK ⟨hT, hF, (Or.inr (Or.inl ⟨(show 0 ≤ v3_5.toInt by omega), (show v3_5.toInt ≤ 11 by omega), (show a1.toInt ≤ 9 by omega), ⟨r36, c193, (show 0 ≤ r36.toInt by omega), (show r36.toInt ≤ 100000100 by omega)⟩, ⟨x27, c191, (show 1 ≤ x27.toInt by omega), (show x27.toInt ≤ 12 by omega)⟩, c192⟩))⟩ hw dX12_wayFrom_104
              · have c139 : a4.toInt < x138.toInt := wk_leF c139
                refine lv_goto (tgt := 105) hx hb dX12_wayFrom_68 (by decide) ?_
                exact J105 x27 H locs ls w120 (show 0 ≤ a1.toInt by omega) (show a1.toInt ≤ 12 by omega) (show 0 ≤ a2.toInt by omega) (show a2.toInt ≤ 9 by omega) (show 0 ≤ a3.toInt by omega) (show a3.toInt ≤ 100000208 by omega) (show 0 ≤ a4.toInt by omega) (show a4.toInt ≤ 100000100 by omega) (show 0 ≤ v3_5.toInt by omega) (show v3_5.toInt ≤ 11 by omega) (show 1 ≤ x27.toInt by omega) (show x27.toInt ≤ 12 by omega)  hw hT hF c123 (lv_sub hl [0, 1, 2, 3, 4, 5] rfl)
  refine lv_iconst (v := 0) hx hb dX12_wayFrom_0 (by decide) ?_
  refine lv_istore (lv' := [(5, .int 0), (0, .ref (ad 0)), (1, .int a1), (2, .int a2), (3, .int a3), (4, .int a4)]) hx hb dX12_wayFrom_1 hl (by decide) rfl (fun ls hl => ?_)
  exact L3 ((12 - (0 : Int)).toNat + 1) 0 s.heap locs ls w0 (show 0 ≤ a1.toInt by omega) (show a1.toInt ≤ 12 by omega) (show 0 ≤ a2.toInt by omega) (show a2.toInt ≤ 9 by omega) (show 0 ≤ a3.toInt by omega) (show a3.toInt ≤ 100000208 by omega) (show 0 ≤ a4.toInt by omega) (show a4.toInt ≤ 100000100 by omega) (by decide) (by decide) (Nat.lt_succ_self _) hw hT hF  (lv_sub hl [1, 2, 3, 4, 5, 0] rfl)
abbrev P_X12_streetOf_7 (ad : Nat → Nat) (cy : Nat → ClassId) (B : Int) (qr : Nat) (s1 : Int)  (w0 : va_W) : Int32 → va_W → Prop := fun r u => w0 = u ∧ ((0 ≤ r.toInt ∧ r.toInt ≤ 8 ∧ gi u 12 2 = r))
set_option maxHeartbeats 4000000 in
set_option maxRecDepth 100000 in
theorem k_X12_streetOf_7 (l : Launch) (adK adV : Nat → Nat) (dC : Nat → ClassId) (dI : Nat → Nat → Nat) (cy : Nat → ClassId) (ad : Nat → Nat) (B : Int) (hB0 : 100000 ≤ B) (hB1 : B ≤ 1073741824) (qr : Nat) (s1 : Int)   (w0 : va_W) (sz : Nat) (hT : TW ksM ad cy B qr 12 w0)  : Met l yX12_streetOf wsX12_streetOf ({ frames := 1, cells := 0, slots := 0, locals := 12 }) (va_Pc [.ref (ad 0), .int (-1), .int 2] (wpreS adK adV dC dI cy sz w0)) (va_Qi (P_X12_streetOf_7 ad cy B qr s1  w0) (fun u : va_W => wpost dC dI cy (va_A w0 sz) u) (va_A w0 sz)) 0 0 (va_A w0 sz) := by
  refine Met.ofW (cc := cX12_streetOf) (maxL := 3) (ret := (some .int)) (by decide) rfl ?_
  intro p e s m args below meth c s₁ Bk hml hv
  obtain ⟨rfl, ⟨hsz, hP, hK, hD0⟩, hE, hSR⟩ := hv
  have hx := Bk.exec
  have hb := Bk.bytes
  have hr := Bk.returns
  have hlocks := Bk.notSynchronized
  have hC : CallFix p m c cX12_streetOf 3 s _ wsX12_streetOf RX12 := ⟨hx, hb, hml, findClass_of_methodNamed Bk.named, atoms_spec (ws := wsX12_streetOf) Bk.pre⟩
  subst hsz
  have hD := hD0.self (sz := s.heap.size)
  generalize hAe : va_A w0 s.heap.size = A at hD hE ⊢
  have hA : ∀ q : Nat, s.heap.size ≤ q → A q := fun q h => by rw [← hAe]; exact Or.inr h
  have hw : Wd dC dI A s.heap s.heap [] w0 := ⟨hP, hD, va_S.rf⟩
  have hF : FE ksM ([] : List (Nat × Nat × Nat)) w0 w0 := FE.rf
  have hl := lv_entry ([.ref (ad 0), .int (-1), .int 2]) (n := 3) (Nat.le_of_ble_eq_true rfl)
  rw [lg_entry_eq]
  generalize (lg_sl ([.ref (ad 0), .int (-1), .int 2]) ++ List.replicate (3 - (lg_sl ([.ref (ad 0), .int (-1), .int 2])).length) Slot.unset).toArray = ls at hl ⊢
  have hl : lv_has ls 3 [(0, .ref (ad 0)), (1, .int (-1)), (2, .int 2)] := hl
  generalize hloc : ([] : List Loc) = locs at hw ⊢
  have hinX12 : ∀ w ∈ u_ws RX12 TX12 42, w ∈ wsX12_streetOf := fun _ h => List.mem_cons_of_mem _ (List.mem_append_right _ (h))
  refine lv_aload_n hx hb dX12_streetOf_0 rfl (lv_at hl 0 rfl) ?_
  refine tk_getA hC hK hw hT hinX12 kM_at0 (by decide) rfl 26 (by decide) (List.mem_of_getElem? (i := 1) rfl) rfl rfl dX12_streetOf_1 ?_
  refine lv_bipush (v := 10) hx hb dX12_streetOf_4 (by decide) ?_
  refine lv_bipush (v := 10) hx hb dX12_streetOf_6 (by decide) ?_
  refine lv_iload_n hx hb dX12_streetOf_8 rfl (lv_at hl 1 rfl) ?_
  refine lv_imul hx hb dX12_streetOf_9 ?_
  refine wk_top (-10) (by decide) ?_
  refine lv_iadd hx hb dX12_streetOf_10 ?_
  refine wk_top 0 (by decide) ?_
  refine lv_iload_n hx hb dX12_streetOf_11 rfl (lv_at hl 2 rfl) ?_
  refine lv_iadd hx hb dX12_streetOf_12 ?_
  refine wk_top 2 (by decide) ?_
  refine tk_ialdR hC hK hw hT kM_at12 rfl (by decide) (by decide) dX12_streetOf_13 (fun x1 c2 Ex1 => ?_)
  have bx1 := tk_rgI rfl 2 1 1 0 8 (by decide +kernel) ⟨0, by decide, by decide⟩ Ex1
  have c2 : gi w0 12 2 = x1 := c2
  exact tk_iret hC hr hlocks hK ⟨rfl, ⟨(show 0 ≤ x1.toInt by omega), (show x1.toInt ≤ 8 by omega), c2⟩⟩ hw dX12_streetOf_14
abbrev P_X12_streetOf_8 (ad : Nat → Nat) (cy : Nat → ClassId) (B : Int) (qr : Nat) (s1 : Int)  (w0 : va_W) : Int32 → va_W → Prop := fun r u => w0 = u ∧ ((0 ≤ r.toInt ∧ r.toInt ≤ 10 ∧ gi u 12 0 = r))
set_option maxHeartbeats 4000000 in
set_option maxRecDepth 100000 in
theorem k_X12_streetOf_8 (l : Launch) (adK adV : Nat → Nat) (dC : Nat → ClassId) (dI : Nat → Nat → Nat) (cy : Nat → ClassId) (ad : Nat → Nat) (B : Int) (hB0 : 100000 ≤ B) (hB1 : B ≤ 1073741824) (qr : Nat) (s1 : Int)   (w0 : va_W) (sz : Nat) (hT : TW ksM ad cy B qr 12 w0)  : Met l yX12_streetOf wsX12_streetOf ({ frames := 1, cells := 0, slots := 0, locals := 12 }) (va_Pc [.ref (ad 0), .int (-1), .int 0] (wpreS adK adV dC dI cy sz w0)) (va_Qi (P_X12_streetOf_8 ad cy B qr s1  w0) (fun u : va_W => wpost dC dI cy (va_A w0 sz) u) (va_A w0 sz)) 0 0 (va_A w0 sz) := by
  refine Met.ofW (cc := cX12_streetOf) (maxL := 3) (ret := (some .int)) (by decide) rfl ?_
  intro p e s m args below meth c s₁ Bk hml hv
  obtain ⟨rfl, ⟨hsz, hP, hK, hD0⟩, hE, hSR⟩ := hv
  have hx := Bk.exec
  have hb := Bk.bytes
  have hr := Bk.returns
  have hlocks := Bk.notSynchronized
  have hC : CallFix p m c cX12_streetOf 3 s _ wsX12_streetOf RX12 := ⟨hx, hb, hml, findClass_of_methodNamed Bk.named, atoms_spec (ws := wsX12_streetOf) Bk.pre⟩
  subst hsz
  have hD := hD0.self (sz := s.heap.size)
  generalize hAe : va_A w0 s.heap.size = A at hD hE ⊢
  have hA : ∀ q : Nat, s.heap.size ≤ q → A q := fun q h => by rw [← hAe]; exact Or.inr h
  have hw : Wd dC dI A s.heap s.heap [] w0 := ⟨hP, hD, va_S.rf⟩
  have hF : FE ksM ([] : List (Nat × Nat × Nat)) w0 w0 := FE.rf
  have hl := lv_entry ([.ref (ad 0), .int (-1), .int 0]) (n := 3) (Nat.le_of_ble_eq_true rfl)
  rw [lg_entry_eq]
  generalize (lg_sl ([.ref (ad 0), .int (-1), .int 0]) ++ List.replicate (3 - (lg_sl ([.ref (ad 0), .int (-1), .int 0])).length) Slot.unset).toArray = ls at hl ⊢
  have hl : lv_has ls 3 [(0, .ref (ad 0)), (1, .int (-1)), (2, .int 0)] := hl
  generalize hloc : ([] : List Loc) = locs at hw ⊢
  have hinX12 : ∀ w ∈ u_ws RX12 TX12 42, w ∈ wsX12_streetOf := fun _ h => List.mem_cons_of_mem _ (List.mem_append_right _ (h))
  refine lv_aload_n hx hb dX12_streetOf_0 rfl (lv_at hl 0 rfl) ?_
  refine tk_getA hC hK hw hT hinX12 kM_at0 (by decide) rfl 26 (by decide) (List.mem_of_getElem? (i := 1) rfl) rfl rfl dX12_streetOf_1 ?_
  refine lv_bipush (v := 10) hx hb dX12_streetOf_4 (by decide) ?_
  refine lv_bipush (v := 10) hx hb dX12_streetOf_6 (by decide) ?_
  refine lv_iload_n hx hb dX12_streetOf_8 rfl (lv_at hl 1 rfl) ?_
  refine lv_imul hx hb dX12_streetOf_9 ?_
  refine wk_top (-10) (by decide) ?_
  refine lv_iadd hx hb dX12_streetOf_10 ?_
  refine wk_top 0 (by decide) ?_
  refine lv_iload_n hx hb dX12_streetOf_11 rfl (lv_at hl 2 rfl) ?_
  refine lv_iadd hx hb dX12_streetOf_12 ?_
  refine wk_top 0 (by decide) ?_
  refine tk_ialdR hC hK hw hT kM_at12 rfl (by decide) (by decide) dX12_streetOf_13 (fun x1 c2 Ex1 => ?_)
  have bx1 := tk_rgI rfl 0 1 1 0 10 (by decide +kernel) ⟨0, by decide, by decide⟩ Ex1
  have c2 : gi w0 12 0 = x1 := c2
  exact tk_iret hC hr hlocks hK ⟨rfl, ⟨(show 0 ≤ x1.toInt by omega), (show x1.toInt ≤ 10 by omega), c2⟩⟩ hw dX12_streetOf_14
abbrev P_X12_streetOf_9 (ad : Nat → Nat) (cy : Nat → ClassId) (B : Int) (qr : Nat) (s1 : Int)  (w0 : va_W) : Int32 → va_W → Prop := fun r u => w0 = u ∧ ((0 ≤ r.toInt ∧ r.toInt ≤ 12 ∧ gi u 12 1 = r))
set_option maxHeartbeats 4000000 in
set_option maxRecDepth 100000 in
theorem k_X12_streetOf_9 (l : Launch) (adK adV : Nat → Nat) (dC : Nat → ClassId) (dI : Nat → Nat → Nat) (cy : Nat → ClassId) (ad : Nat → Nat) (B : Int) (hB0 : 100000 ≤ B) (hB1 : B ≤ 1073741824) (qr : Nat) (s1 : Int)   (w0 : va_W) (sz : Nat) (hT : TW ksM ad cy B qr 12 w0)  : Met l yX12_streetOf wsX12_streetOf ({ frames := 1, cells := 0, slots := 0, locals := 12 }) (va_Pc [.ref (ad 0), .int (-1), .int 1] (wpreS adK adV dC dI cy sz w0)) (va_Qi (P_X12_streetOf_9 ad cy B qr s1  w0) (fun u : va_W => wpost dC dI cy (va_A w0 sz) u) (va_A w0 sz)) 0 0 (va_A w0 sz) := by
  refine Met.ofW (cc := cX12_streetOf) (maxL := 3) (ret := (some .int)) (by decide) rfl ?_
  intro p e s m args below meth c s₁ Bk hml hv
  obtain ⟨rfl, ⟨hsz, hP, hK, hD0⟩, hE, hSR⟩ := hv
  have hx := Bk.exec
  have hb := Bk.bytes
  have hr := Bk.returns
  have hlocks := Bk.notSynchronized
  have hC : CallFix p m c cX12_streetOf 3 s _ wsX12_streetOf RX12 := ⟨hx, hb, hml, findClass_of_methodNamed Bk.named, atoms_spec (ws := wsX12_streetOf) Bk.pre⟩
  subst hsz
  have hD := hD0.self (sz := s.heap.size)
  generalize hAe : va_A w0 s.heap.size = A at hD hE ⊢
  have hA : ∀ q : Nat, s.heap.size ≤ q → A q := fun q h => by rw [← hAe]; exact Or.inr h
  have hw : Wd dC dI A s.heap s.heap [] w0 := ⟨hP, hD, va_S.rf⟩
  have hF : FE ksM ([] : List (Nat × Nat × Nat)) w0 w0 := FE.rf
  have hl := lv_entry ([.ref (ad 0), .int (-1), .int 1]) (n := 3) (Nat.le_of_ble_eq_true rfl)
  rw [lg_entry_eq]
  generalize (lg_sl ([.ref (ad 0), .int (-1), .int 1]) ++ List.replicate (3 - (lg_sl ([.ref (ad 0), .int (-1), .int 1])).length) Slot.unset).toArray = ls at hl ⊢
  have hl : lv_has ls 3 [(0, .ref (ad 0)), (1, .int (-1)), (2, .int 1)] := hl
  generalize hloc : ([] : List Loc) = locs at hw ⊢
  have hinX12 : ∀ w ∈ u_ws RX12 TX12 42, w ∈ wsX12_streetOf := fun _ h => List.mem_cons_of_mem _ (List.mem_append_right _ (h))
  refine lv_aload_n hx hb dX12_streetOf_0 rfl (lv_at hl 0 rfl) ?_
  refine tk_getA hC hK hw hT hinX12 kM_at0 (by decide) rfl 26 (by decide) (List.mem_of_getElem? (i := 1) rfl) rfl rfl dX12_streetOf_1 ?_
  refine lv_bipush (v := 10) hx hb dX12_streetOf_4 (by decide) ?_
  refine lv_bipush (v := 10) hx hb dX12_streetOf_6 (by decide) ?_
  refine lv_iload_n hx hb dX12_streetOf_8 rfl (lv_at hl 1 rfl) ?_
  refine lv_imul hx hb dX12_streetOf_9 ?_
  refine wk_top (-10) (by decide) ?_
  refine lv_iadd hx hb dX12_streetOf_10 ?_
  refine wk_top 0 (by decide) ?_
  refine lv_iload_n hx hb dX12_streetOf_11 rfl (lv_at hl 2 rfl) ?_
  refine lv_iadd hx hb dX12_streetOf_12 ?_
  refine wk_top 1 (by decide) ?_
  refine tk_ialdR hC hK hw hT kM_at12 rfl (by decide) (by decide) dX12_streetOf_13 (fun x1 c2 Ex1 => ?_)
  have bx1 : 0 ≤ x1.toInt ∧ x1.toInt ≤ 12 := (tk_rg1 rfl).mp Ex1
  have c2 : gi w0 12 1 = x1 := c2
  exact tk_iret hC hr hlocks hK ⟨rfl, ⟨(show 0 ≤ x1.toInt by omega), (show x1.toInt ≤ 12 by omega), c2⟩⟩ hw dX12_streetOf_14
abbrev P_X12_otherOf_2 (ad : Nat → Nat) (cy : Nat → ClassId) (B : Int) (qr : Nat) (s1 : Int) (a2 : Int32) (w0 : va_W) : Int32 → va_W → Prop := fun r u => w0 = u ∧ ((0 ≤ r.toInt ∧ r.toInt ≤ 12))
set_option maxHeartbeats 4000000 in
set_option maxRecDepth 100000 in
theorem k_X12_otherOf_2 (l : Launch) (adK adV : Nat → Nat) (dC : Nat → ClassId) (dI : Nat → Nat → Nat) (cy : Nat → ClassId) (ad : Nat → Nat) (B : Int) (hB0 : 100000 ≤ B) (hB1 : B ≤ 1073741824) (qr : Nat) (s1 : Int)  (a2 : Int32) (ra2 : 0 ≤ a2.toInt) (ta2 : a2.toInt ≤ 12) (w0 : va_W) (sz : Nat) (hT : TW ksM ad cy B qr 12 w0)  : Met l yX12_otherOf wsX12_otherOf ({ frames := 2, cells := 0, slots := 0, locals := 34 }) (va_Pc [.ref (ad 0), .int (-1), .int a2] (wpreS adK adV dC dI cy sz w0)) (va_Qi (P_X12_otherOf_2 ad cy B qr s1 a2 w0) (fun u : va_W => wpost dC dI cy (va_A w0 sz) u) (va_A w0 sz)) 0 0 (va_A w0 sz) := by
  refine Met.ofW (cc := cX12_otherOf) (maxL := 3) (ret := (some .int)) (by decide) rfl ?_
  intro p e s m args below meth c s₁ Bk hml hv
  obtain ⟨rfl, ⟨hsz, hP, hK, hD0⟩, hE, hSR⟩ := hv
  have hx := Bk.exec
  have hb := Bk.bytes
  have hr := Bk.returns
  have hlocks := Bk.notSynchronized
  have hC : CallFix p m c cX12_otherOf 3 s _ wsX12_otherOf RX12 := ⟨hx, hb, hml, findClass_of_methodNamed Bk.named, atoms_spec (ws := wsX12_otherOf) Bk.pre⟩
  subst hsz
  have hD := hD0.self (sz := s.heap.size)
  generalize hAe : va_A w0 s.heap.size = A at hD hE ⊢
  have hA : ∀ q : Nat, s.heap.size ≤ q → A q := fun q h => by rw [← hAe]; exact Or.inr h
  have hw : Wd dC dI A s.heap s.heap [] w0 := ⟨hP, hD, va_S.rf⟩
  have hF : FE ksM ([] : List (Nat × Nat × Nat)) w0 w0 := FE.rf
  have hl := lv_entry ([.ref (ad 0), .int (-1), .int a2]) (n := 3) (Nat.le_of_ble_eq_true rfl)
  rw [lg_entry_eq]
  generalize (lg_sl ([.ref (ad 0), .int (-1), .int a2]) ++ List.replicate (3 - (lg_sl ([.ref (ad 0), .int (-1), .int a2])).length) Slot.unset).toArray = ls at hl ⊢
  have hl : lv_has ls 3 [(0, .ref (ad 0)), (1, .int (-1)), (2, .int a2)] := hl
  generalize hloc : ([] : List Loc) = locs at hw ⊢
  refine lv_aload_n hx hb dX12_otherOf_0 rfl (lv_at hl 0 rfl) ?_
  refine lv_iload_n hx hb dX12_otherOf_1 rfl (lv_at hl 1 rfl) ?_
  refine lv_iconst (v := 0) hx hb dX12_otherOf_2 (by decide) ?_
  refine tk_Vi hC hK hw hT hA hE hSR kM_at0 (by decide) rfl (k_X12_streetOf_8 l adK adV dC dI cy ad B (by omega) (by omega) qr s1    w0 s.heap.size hT ) (cwV 2 hC.2.2.2.2 gX12_otherOf_X12_streetOf rfl rfl rfl (by decide +kernel) ⟨Nat.le_of_ble_eq_true rfl, Nat.le_of_ble_eq_true rfl⟩) rfl hl.1 rfl (Nat.le_of_ble_eq_true rfl) dX12_otherOf_3 (fun r1 w3 H locs hp2 hw => ?_)
  obtain ⟨rfl, hg8⟩ := hp2
  obtain ⟨g5, g6, c7⟩ := hg8
  refine lv_iload_n hx hb dX12_otherOf_6 rfl (lv_at hl 2 rfl) ?_
  refine lv_icmp_ne (tgt := 19) hx hb dX12_otherOf_7 (by decide) (fun c9 => ?_) (fun c9 => ?_)
  · have c9 : ¬ r1.toInt = a2.toInt := wk_eqF c9
    refine lv_aload_n hx hb dX12_otherOf_19 rfl (lv_at hl 0 rfl) ?_
    refine lv_iload_n hx hb dX12_otherOf_20 rfl (lv_at hl 1 rfl) ?_
    refine lv_iconst (v := 0) hx hb dX12_otherOf_21 (by decide) ?_
    refine tk_Vi hC hK hw hT hA hE hSR kM_at0 (by decide) rfl (k_X12_streetOf_8 l adK adV dC dI cy ad B (by omega) (by omega) qr s1    w0 H.size hT ) (cwV 2 hC.2.2.2.2 gX12_otherOf_X12_streetOf rfl rfl rfl (by decide +kernel) ⟨Nat.le_of_ble_eq_true rfl, Nat.le_of_ble_eq_true rfl⟩) rfl hl.1 rfl (Nat.le_of_ble_eq_true rfl) dX12_otherOf_22 (fun r10 w12 H locs hp11 hw => ?_)
    obtain ⟨rfl, hg17⟩ := hp11
    obtain ⟨g14, g15, c16⟩ := hg17
    obtain rfl : r10 = r1 := c16.symm.trans c7
    exact tk_iret hC hr hlocks hK ⟨rfl, ⟨(show 0 ≤ r1.toInt by omega), (show r1.toInt ≤ 12 by omega)⟩⟩ hw dX12_otherOf_25
  · have c9 : r1.toInt = a2.toInt := wk_eq.mp c9
    refine lv_aload_n hx hb dX12_otherOf_10 rfl (lv_at hl 0 rfl) ?_
    refine lv_iload_n hx hb dX12_otherOf_11 rfl (lv_at hl 1 rfl) ?_
    refine lv_iconst (v := 1) hx hb dX12_otherOf_12 (by decide) ?_
    refine tk_Vi hC hK hw hT hA hE hSR kM_at0 (by decide) rfl (k_X12_streetOf_9 l adK adV dC dI cy ad B (by omega) (by omega) qr s1    w0 H.size hT ) (cwV 2 hC.2.2.2.2 gX12_otherOf_X12_streetOf rfl rfl rfl (by decide +kernel) ⟨Nat.le_of_ble_eq_true rfl, Nat.le_of_ble_eq_true rfl⟩) rfl hl.1 rfl (Nat.le_of_ble_eq_true rfl) dX12_otherOf_13 (fun r18 w20 H locs hp19 hw => ?_)
    obtain ⟨rfl, hg25⟩ := hp19
    obtain ⟨g22, g23, c24⟩ := hg25
    refine lv_goto (tgt := 25) hx hb dX12_otherOf_16 (by decide) ?_
    exact tk_iret hC hr hlocks hK ⟨rfl, ⟨(show 0 ≤ r18.toInt by omega), (show r18.toInt ≤ 12 by omega)⟩⟩ hw dX12_otherOf_25
abbrev P_X12_way_1 (ad : Nat → Nat) (cy : Nat → ClassId) (B : Int) (qr : Nat) (s1 : Int) (a1 : Int32) (a2 : Int32) (a3 : Int32) (a4 : Int32) (w0 : va_W) : Int32 → va_W → Prop := fun r u => TW ksM ad cy B qr 12 u ∧ FE ksM [(12, 37, 37), (77, 0, 10), (78, 0, 10)] w0 u ∧ ((r = (-2) ∧ 0 ≤ a1.toInt ∧ a1.toInt ≤ 9 ∧ 0 ≤ a2.toInt ∧ a2.toInt ≤ 9 ∧ 0 ≤ a3.toInt ∧ a3.toInt ≤ 99999 ∧ 0 ≤ a4.toInt ∧ (∃ y : Int32, gi u 12 0 = y ∧ 1 ≤ y.toInt ∧ y.toInt ≤ 10)) ∨ (0 ≤ r.toInt ∧ r.toInt ≤ 11 ∧ 0 ≤ a1.toInt ∧ a1.toInt ≤ 9 ∧ 0 ≤ a2.toInt ∧ a2.toInt ≤ 9 ∧ 0 ≤ a3.toInt ∧ a3.toInt ≤ 99999 ∧ 0 ≤ a4.toInt ∧ (∃ y : Int32, gi u 0 37 = y ∧ 0 ≤ y.toInt ∧ y.toInt ≤ 100000100) ∧ (∃ y : Int32, gi u 12 0 = y ∧ 1 ≤ y.toInt ∧ y.toInt ≤ 10) ∧ (∃ y : Int32, gi u 12 1 = y ∧ 1 ≤ y.toInt ∧ y.toInt ≤ 12)) ∨ (r = (-1)))
set_option maxHeartbeats 4000000 in
set_option maxRecDepth 100000 in
theorem k_X12_way_1 (l : Launch) (adK adV : Nat → Nat) (dC : Nat → ClassId) (dI : Nat → Nat → Nat) (cy : Nat → ClassId) (ad : Nat → Nat) (B : Int) (hB0 : 100000 ≤ B) (hB1 : B ≤ 1073741824) (qr : Nat) (s1 : Int)  (a1 : Int32) (a2 : Int32) (a3 : Int32) (a4 : Int32) (w0 : va_W) (sz : Nat) (hT : TW ksM ad cy B qr 12 w0)  : Met l yX12_way wsX12_way ({ frames := 7, cells := 0, slots := 0, locals := 158 }) (va_Pc [.ref (ad 0), .int a1, .int a2, .int a3, .int a4] (wpreS adK adV dC dI cy sz w0)) (va_Qi (P_X12_way_1 ad cy B qr s1 a1 a2 a3 a4 w0) (fun u : va_W => wpost dC dI cy (va_A w0 sz) u) (va_A w0 sz)) 0 0 (va_A w0 sz) := by
  refine Met.ofW (cc := cX12_way) (maxL := 10) (ret := (some .int)) (by decide) rfl ?_
  intro p e s m args below meth c s₁ Bk hml hv
  obtain ⟨rfl, ⟨hsz, hP, hK, hD0⟩, hE, hSR⟩ := hv
  have hx := Bk.exec
  have hb := Bk.bytes
  have hr := Bk.returns
  have hlocks := Bk.notSynchronized
  have hC : CallFix p m c cX12_way 10 s _ wsX12_way RX12 := ⟨hx, hb, hml, findClass_of_methodNamed Bk.named, atoms_spec (ws := wsX12_way) Bk.pre⟩
  subst hsz
  have hD := hD0.self (sz := s.heap.size)
  generalize hAe : va_A w0 s.heap.size = A at hD hE ⊢
  have hA : ∀ q : Nat, s.heap.size ≤ q → A q := fun q h => by rw [← hAe]; exact Or.inr h
  have hw : Wd dC dI A s.heap s.heap [] w0 := ⟨hP, hD, va_S.rf⟩
  have hF : FE ksM [(12, 37, 37), (77, 0, 10), (78, 0, 10)] w0 w0 := FE.rf
  have hl := lv_entry ([.ref (ad 0), .int a1, .int a2, .int a3, .int a4]) (n := 10) (Nat.le_of_ble_eq_true rfl)
  rw [lg_entry_eq]
  generalize (lg_sl ([.ref (ad 0), .int a1, .int a2, .int a3, .int a4]) ++ List.replicate (10 - (lg_sl ([.ref (ad 0), .int a1, .int a2, .int a3, .int a4])).length) Slot.unset).toArray = ls at hl ⊢
  have hl : lv_has ls 10 [(0, .ref (ad 0)), (1, .int a1), (2, .int a2), (3, .int a3), (4, .int a4)] := hl
  generalize hloc : ([] : List Loc) = locs at hw ⊢
  have hinX12 : ∀ w ∈ u_ws RX12 TX12 42, w ∈ wsX12_way := fun _ h => List.mem_cons_of_mem _ (List.mem_append_right _ (h))
  have J15 : ∀ (H : Heap) (locs : List Loc) (ls : Array Slot) (w1 : va_W), Wd dC dI A s.heap H locs w1 → TW ksM ad cy B qr 12 w1 → FE ksM [(12, 37, 37), (77, 0, 10), (78, 0, 10)] w0 w1 → lv_has ls 10 [(0, .ref (ad 0)), (1, .int a1), (2, .int a2), (3, .int a3), (4, .int a4)] → W p l e ({ frames := 7, cells := 0, slots := 0, locals := 158 }) s m (List.toArray [.ref (ad 0), .int a1, .int a2, .int a3, .int a4]) below meth c H locs 0 0 (MQ below (va_Qi (P_X12_way_1 ad cy B qr s1 a1 a2 a3 a4 w0) (fun u : va_W => wpost dC dI cy A u) A) (List.toArray [.ref (ad 0), .int a1, .int a2, .int a3, .int a4]) s 0 0 A) (F0 m 15 ls []) := by
    intro H locs ls w1 hw hT hF hl
    refine lv_iconst (v := (-1)) hx hb dX12_way_15 (by decide) ?_
    exact tk_iret hC hr hlocks hK ⟨hT, hF, (Or.inr (Or.inr rfl))⟩ hw dX12_way_16
  have L51 : ∀ (n51 : Nat) (v51_5 : Int32) (v51_6 : Int32) (v51_7 : Int32) (v51_8 : Int32) (f51_12_0 : Int32) (H : Heap) (locs : List Loc) (ls : Array Slot) (w2 : va_W), 0 ≤ a1.toInt → a1.toInt ≤ 9 → 0 ≤ a2.toInt → a2.toInt ≤ 9 → 0 ≤ a3.toInt → a3.toInt ≤ 99999 → 0 ≤ a4.toInt → 0 ≤ v51_5.toInt → v51_5.toInt ≤ 100000100 → 0 ≤ v51_6.toInt → v51_6.toInt ≤ 12 → 0 ≤ v51_7.toInt → v51_7.toInt ≤ 100000208 → 0 ≤ v51_8.toInt → 1 ≤ f51_12_0.toInt → f51_12_0.toInt ≤ 10 → v51_8.toInt ≤ a4.toInt + 0 → (2147483647 - v51_8.toInt).toNat < n51 → Wd dC dI A s.heap H locs w2 → TW ksM ad cy B qr 12 w2 → FE ksM [(12, 37, 37), (77, 0, 10), (78, 0, 10)] w0 w2 → gi w2 12 0 = f51_12_0 → lv_has ls 10 [(0, .ref (ad 0)), (1, .int a1), (2, .int a2), (3, .int a3), (4, .int a4), (5, .int v51_5), (6, .int v51_6), (7, .int v51_7), (8, .int v51_8)] → W p l e ({ frames := 7, cells := 0, slots := 0, locals := 158 }) s m (List.toArray [.ref (ad 0), .int a1, .int a2, .int a3, .int a4]) below meth c H locs 0 0 (MQ below (va_Qi (P_X12_way_1 ad cy B qr s1 a1 a2 a3 a4 w0) (fun u : va_W => wpost dC dI cy A u) A) (List.toArray [.ref (ad 0), .int a1, .int a2, .int a3, .int a4]) s 0 0 A) (F0 m 51 ls []) := by
    intro n51
    induction n51 with
    | zero => intro v51_5 v51_6 v51_7 v51_8 f51_12_0 H locs ls w2 r3 t4 r5 t6 r7 t8 r9 r10 t11 r12 t13 r14 t15 r16 r17 t18 i20 hm51 hw hT hF c19 hl; omega
    | succ n51 ih51 =>
      intro v51_5 v51_6 v51_7 v51_8 f51_12_0 H locs ls w2 r3 t4 r5 t6 r7 t8 r9 r10 t11 r12 t13 r14 t15 r16 r17 t18 i20 hm51 hw hT hF c19 hl
      refine lv_iload hx hb dX12_way_51 (lv_at hl 6 rfl) ?_
      refine lv_iload_n hx hb dX12_way_53 rfl (lv_at hl 2 rfl) ?_
      refine lv_icmp_eq (tgt := 110) hx hb dX12_way_54 (by decide) (fun c21 => ?_) (fun c21 => ?_)
      · have c21 : v51_6.toInt = a2.toInt := wk_eq.mp c21
        refine lv_bipush (v := (-2)) hx hb dX12_way_110 (by decide) ?_
        exact tk_iret hC hr hlocks hK ⟨hT, hF, (Or.inl ⟨rfl, (show 0 ≤ a1.toInt by omega), (show a1.toInt ≤ 9 by omega), (show 0 ≤ a2.toInt by omega), (show a2.toInt ≤ 9 by omega), (show 0 ≤ a3.toInt by omega), (show a3.toInt ≤ 99999 by omega), (show 0 ≤ a4.toInt by omega), ⟨f51_12_0, c19, (show 1 ≤ f51_12_0.toInt by omega), (show f51_12_0.toInt ≤ 10 by omega)⟩⟩)⟩ hw dX12_way_112
      · have c21 : ¬ v51_6.toInt = a2.toInt := wk_eqF c21
        refine lv_aload_n hx hb dX12_way_57 rfl (lv_at hl 0 rfl) ?_
        refine lv_iload hx hb dX12_way_58 (lv_at hl 6 rfl) ?_
        refine lv_iload_n hx hb dX12_way_60 rfl (lv_at hl 2 rfl) ?_
        refine lv_iload hx hb dX12_way_61 (lv_at hl 7 rfl) ?_
        refine lv_iload hx hb dX12_way_63 (lv_at hl 5 rfl) ?_
        refine tk_Vi hC hK hw hT hA hE hSR kM_at0 (by decide) rfl (k_X12_wayFrom_1 l adK adV dC dI cy ad B (by omega) (by omega) qr s1   v51_6 (show 0 ≤ v51_6.toInt by omega) (show v51_6.toInt ≤ 12 by omega) a2 (show 0 ≤ a2.toInt by omega) (show a2.toInt ≤ 9 by omega) v51_7 (show 0 ≤ v51_7.toInt by omega) (show v51_7.toInt ≤ 100000208 by omega) v51_5 (show 0 ≤ v51_5.toInt by omega) (show v51_5.toInt ≤ 100000100 by omega) w2 H.size hT ) (cwV 4 hC.2.2.2.2 gX12_way_X12_wayFrom rfl rfl rfl (by decide +kernel) ⟨Nat.le_of_ble_eq_true rfl, Nat.le_of_ble_eq_true rfl⟩) rfl hl.1 rfl (Nat.le_of_ble_eq_true rfl) dX12_way_65 (fun r22 w24 H locs hp23 hw => ?_)
        obtain ⟨hT, k25, hg41⟩ := hp23
        have hF := hF.tr k25 (by decide)
        have c42 := k25.gi kM_at12 (by decide) c19
        rcases hg41 with ⟨g26, g27, g28, ⟨x29, c30, rx29, tx29⟩, ⟨x31, c32, rx31, tx31⟩⟩ | ⟨g33, g34, g35, ⟨x36, c37, rx36, tx36⟩, ⟨x38, c39, rx38, tx38⟩, c40⟩ | rfl
        · refine lv_istore (lv' := [(9, .int r22), (0, .ref (ad 0)), (1, .int a1), (2, .int a2), (3, .int a3), (4, .int a4), (5, .int v51_5), (6, .int v51_6), (7, .int v51_7), (8, .int v51_8)]) hx hb dX12_way_68 hl (by decide) rfl (fun ls hl => ?_)
          refine lv_iload hx hb dX12_way_70 (lv_at hl 9 rfl) ?_
          refine lv_iload hx hb dX12_way_72 (lv_at hl 5 rfl) ?_
          refine lv_icmp_ne (tgt := 80) hx hb dX12_way_74 (by decide) (fun c43 => ?_) (fun c43 => ?_)
          · have c43 : ¬ v51_8.toInt = a4.toInt := wk_eqF c43
            refine lv_aload_n hx hb dX12_way_80 rfl (lv_at hl 1 rfl) ?_
            refine tk_geti hC hK hw hT hinX12 kM_at0 (by decide) rfl 37 (by decide) (List.mem_of_getElem? (i := 2) rfl) rfl rfl dX12_way_81 (fun x44 c45 rx44 tx44 => ?_)
            refine wk_top x29 (c45.symm.trans c30) ?_
            refine lv_aload_n hx hb dX12_way_84 rfl (lv_at hl 1 rfl) ?_
            refine lv_iload hx hb dX12_way_85 (lv_at hl 0 rfl) ?_
            refine lv_iconst (v := 2) hx hb dX12_way_87 (by decide) ?_
            refine tk_Vi hC hK hw hT hA hE hSR kM_at0 (by decide) rfl (k_X12_streetOf_6 l adK adV dC dI cy ad B (by omega) (by omega) qr s1   r22 (show 0 ≤ r22.toInt by omega) (show r22.toInt ≤ 11 by omega) w24 H.size hT ) (cwV 2 hC.2.2.2.2 gX12_way_X12_streetOf rfl rfl rfl (by decide +kernel) ⟨Nat.le_of_ble_eq_true rfl, Nat.le_of_ble_eq_true rfl⟩) rfl hl.1 rfl (Nat.le_of_ble_eq_true rfl) dX12_way_88 (fun r46 w48 H locs hp47 hw => ?_)
            obtain ⟨rfl, hg53⟩ := hp47
            obtain ⟨g50, g51, c52⟩ := hg53
            refine lv_iadd hx hb dX12_way_91 ?_
            refine lv_topi (fun x54 ex54 => ?_)
            have ex54 : x54.toInt = x29.toInt + r46.toInt := by rw [ex54]; exact wk_add (show (-2147483648) ≤ x29.toInt + r46.toInt by omega) (show x29.toInt + r46.toInt ≤ 2147483647 by omega)
            refine lv_istore (lv' := [(7, .int x54), (9, .int r22), (0, .ref (ad 0)), (1, .int a1), (2, .int a2), (3, .int a3), (4, .int a4), (5, .int v51_5), (6, .int v51_6), (8, .int v51_8)]) hx hb dX12_way_92 hl (by decide) rfl (fun ls hl => ?_)
            refine lv_aload_n hx hb dX12_way_94 rfl (lv_at hl 2 rfl) ?_
            refine lv_iload hx hb dX12_way_95 (lv_at hl 1 rfl) ?_
            refine lv_iload hx hb dX12_way_97 (lv_at hl 8 rfl) ?_
            refine tk_Vi hC hK hw hT hA hE hSR kM_at0 (by decide) rfl (k_X12_otherOf_1 l adK adV dC dI cy ad B (by omega) (by omega) qr s1   r22 (show 0 ≤ r22.toInt by omega) (show r22.toInt ≤ 11 by omega) v51_6 (show 0 ≤ v51_6.toInt by omega) (show v51_6.toInt ≤ 9 by omega) w24 H.size hT ) (cwV 2 hC.2.2.2.2 gX12_way_X12_otherOf rfl rfl rfl (by decide +kernel) ⟨Nat.le_of_ble_eq_true rfl, Nat.le_of_ble_eq_true rfl⟩) rfl hl.1 rfl (Nat.le_of_ble_eq_true rfl) dX12_way_99 (fun r55 w57 H locs hp56 hw => ?_)
            obtain ⟨rfl, hg64⟩ := hp56
            rcases hg64 with ⟨g59, g60⟩ | ⟨g61, g62, c63⟩
            · refine lv_istore (lv' := [(6, .int r55), (7, .int x54), (9, .int r22), (0, .ref (ad 0)), (1, .int a1), (2, .int a2), (3, .int a3), (4, .int a4), (5, .int v51_5), (8, .int v51_8)]) hx hb dX12_way_102 hl (by decide) rfl (fun ls hl => ?_)
              obtain ⟨x65, ex65⟩ : ∃ y : Int32, y = v51_8 + Int32.ofInt 1 := ⟨_, rfl⟩
              refine lv_iinc (v := x65) (lv' := [(8, .int x65), (6, .int r55), (7, .int x54), (9, .int r22), (0, .ref (ad 0)), (1, .int a1), (2, .int a2), (3, .int a3), (4, .int a4), (5, .int v51_5)]) hx hb dX12_way_104 hl (k := 9) rfl ex65.symm (by decide) rfl (fun ls hl => ?_)
              have ex65 : x65.toInt = v51_8.toInt + 1 := by rw [ex65]; exact wk_add (y := 1) (show -2147483648 ≤ v51_8.toInt + 1 by omega) (show v51_8.toInt + 1 ≤ 2147483647 by omega)
              refine lv_goto (tgt := 51) hx hb dX12_way_107 (by decide) ?_
              exact ih51 v51_5 r55 x54 x65 f51_12_0 H locs ls w24 (show 0 ≤ a1.toInt by omega) (show a1.toInt ≤ 9 by omega) (show 0 ≤ a2.toInt by omega) (show a2.toInt ≤ 9 by omega) (show 0 ≤ a3.toInt by omega) (show a3.toInt ≤ 99999 by omega) (show 0 ≤ a4.toInt by omega) (show 0 ≤ v51_5.toInt by omega) (show v51_5.toInt ≤ 100000100 by omega) (show 0 ≤ r55.toInt by omega) (show r55.toInt ≤ 12 by omega) (show 0 ≤ x54.toInt by omega) (show x54.toInt ≤ 100000208 by omega) (show 0 ≤ x65.toInt by omega) (show 1 ≤ f51_12_0.toInt by omega) (show f51_12_0.toInt ≤ 10 by omega) (show x65.toInt ≤ a4.toInt + 0 by omega) (show (2147483647 - x65.toInt).toNat < n51 by omega) hw hT hF c42 (lv_sub hl [4, 5, 6, 7, 8, 9, 1, 2, 0] rfl)
            · refine lv_istore (lv' := [(6, .int r55), (7, .int x54), (9, .int r22), (0, .ref (ad 0)), (1, .int a1), (2, .int a2), (3, .int a3), (4, .int a4), (5, .int v51_5), (8, .int v51_8)]) hx hb dX12_way_102 hl (by decide) rfl (fun ls hl => ?_)
              obtain ⟨x66, ex66⟩ : ∃ y : Int32, y = v51_8 + Int32.ofInt 1 := ⟨_, rfl⟩
              refine lv_iinc (v := x66) (lv' := [(8, .int x66), (6, .int r55), (7, .int x54), (9, .int r22), (0, .ref (ad 0)), (1, .int a1), (2, .int a2), (3, .int a3), (4, .int a4), (5, .int v51_5)]) hx hb dX12_way_104 hl (k := 9) rfl ex66.symm (by decide) rfl (fun ls hl => ?_)
              have ex66 : x66.toInt = v51_8.toInt + 1 := by rw [ex66]; exact wk_add (y := 1) (show -2147483648 ≤ v51_8.toInt + 1 by omega) (show v51_8.toInt + 1 ≤ 2147483647 by omega)
              refine lv_goto (tgt := 51) hx hb dX12_way_107 (by decide) ?_
              exact ih51 v51_5 r55 x54 x66 f51_12_0 H locs ls w24 (show 0 ≤ a1.toInt by omega) (show a1.toInt ≤ 9 by omega) (show 0 ≤ a2.toInt by omega) (show a2.toInt ≤ 9 by omega) (show 0 ≤ a3.toInt by omega) (show a3.toInt ≤ 99999 by omega) (show 0 ≤ a4.toInt by omega) (show 0 ≤ v51_5.toInt by omega) (show v51_5.toInt ≤ 100000100 by omega) (show 0 ≤ r55.toInt by omega) (show r55.toInt ≤ 12 by omega) (show 0 ≤ x54.toInt by omega) (show x54.toInt ≤ 100000208 by omega) (show 0 ≤ x66.toInt by omega) (show 1 ≤ f51_12_0.toInt by omega) (show f51_12_0.toInt ≤ 10 by omega) (show x66.toInt ≤ a4.toInt + 0 by omega) (show (2147483647 - x66.toInt).toNat < n51 by omega) hw hT hF c42 (lv_sub hl [4, 5, 6, 7, 8, 9, 1, 2, 0] rfl)
          · have c43 : v51_8.toInt = a4.toInt := wk_eq.mp c43
            refine lv_iload hx hb dX12_way_77 (lv_at hl 0 rfl) ?_
            exact tk_iret hC hr hlocks hK ⟨hT, hF, (Or.inr (Or.inl ⟨(show 0 ≤ r22.toInt by omega), (show r22.toInt ≤ 11 by omega), (show 0 ≤ a1.toInt by omega), (show a1.toInt ≤ 9 by omega), (show 0 ≤ a2.toInt by omega), (show a2.toInt ≤ 9 by omega), (show 0 ≤ a3.toInt by omega), (show a3.toInt ≤ 99999 by omega), (show 0 ≤ a4.toInt by omega), ⟨x29, c30, (show 0 ≤ x29.toInt by omega), (show x29.toInt ≤ 100000100 by omega)⟩, ⟨f51_12_0, c42, (show 1 ≤ f51_12_0.toInt by omega), (show f51_12_0.toInt ≤ 10 by omega)⟩, ⟨x31, c32, (show 1 ≤ x31.toInt by omega), (show x31.toInt ≤ 12 by omega)⟩⟩))⟩ hw dX12_way_79
        · refine lv_istore (lv' := [(9, .int r22), (0, .ref (ad 0)), (1, .int a1), (2, .int a2), (3, .int a3), (4, .int a4), (5, .int v51_5), (6, .int v51_6), (7, .int v51_7), (8, .int v51_8)]) hx hb dX12_way_68 hl (by decide) rfl (fun ls hl => ?_)
          refine lv_iload hx hb dX12_way_70 (lv_at hl 9 rfl) ?_
          refine lv_iload hx hb dX12_way_72 (lv_at hl 5 rfl) ?_
          refine lv_icmp_ne (tgt := 80) hx hb dX12_way_74 (by decide) (fun c67 => ?_) (fun c67 => ?_)
          · have c67 : ¬ v51_8.toInt = a4.toInt := wk_eqF c67
            refine lv_aload_n hx hb dX12_way_80 rfl (lv_at hl 1 rfl) ?_
            refine tk_geti hC hK hw hT hinX12 kM_at0 (by decide) rfl 37 (by decide) (List.mem_of_getElem? (i := 2) rfl) rfl rfl dX12_way_81 (fun x68 c69 rx68 tx68 => ?_)
            refine wk_top x36 (c69.symm.trans c37) ?_
            refine lv_aload_n hx hb dX12_way_84 rfl (lv_at hl 1 rfl) ?_
            refine lv_iload hx hb dX12_way_85 (lv_at hl 0 rfl) ?_
            refine lv_iconst (v := 2) hx hb dX12_way_87 (by decide) ?_
            refine tk_Vi hC hK hw hT hA hE hSR kM_at0 (by decide) rfl (k_X12_streetOf_6 l adK adV dC dI cy ad B (by omega) (by omega) qr s1   r22 (show 0 ≤ r22.toInt by omega) (show r22.toInt ≤ 11 by omega) w24 H.size hT ) (cwV 2 hC.2.2.2.2 gX12_way_X12_streetOf rfl rfl rfl (by decide +kernel) ⟨Nat.le_of_ble_eq_true rfl, Nat.le_of_ble_eq_true rfl⟩) rfl hl.1 rfl (Nat.le_of_ble_eq_true rfl) dX12_way_88 (fun r70 w72 H locs hp71 hw => ?_)
            obtain ⟨rfl, hg77⟩ := hp71
            obtain ⟨g74, g75, c76⟩ := hg77
            refine lv_iadd hx hb dX12_way_91 ?_
            refine lv_topi (fun x78 ex78 => ?_)
            have ex78 : x78.toInt = x36.toInt + r70.toInt := by rw [ex78]; exact wk_add (show (-2147483648) ≤ x36.toInt + r70.toInt by omega) (show x36.toInt + r70.toInt ≤ 2147483647 by omega)
            refine lv_istore (lv' := [(7, .int x78), (9, .int r22), (0, .ref (ad 0)), (1, .int a1), (2, .int a2), (3, .int a3), (4, .int a4), (5, .int v51_5), (6, .int v51_6), (8, .int v51_8)]) hx hb dX12_way_92 hl (by decide) rfl (fun ls hl => ?_)
            refine lv_aload_n hx hb dX12_way_94 rfl (lv_at hl 2 rfl) ?_
            refine lv_iload hx hb dX12_way_95 (lv_at hl 1 rfl) ?_
            refine lv_iload hx hb dX12_way_97 (lv_at hl 8 rfl) ?_
            refine tk_Vi hC hK hw hT hA hE hSR kM_at0 (by decide) rfl (k_X12_otherOf_1 l adK adV dC dI cy ad B (by omega) (by omega) qr s1   r22 (show 0 ≤ r22.toInt by omega) (show r22.toInt ≤ 11 by omega) v51_6 (show 0 ≤ v51_6.toInt by omega) (show v51_6.toInt ≤ 9 by omega) w24 H.size hT ) (cwV 2 hC.2.2.2.2 gX12_way_X12_otherOf rfl rfl rfl (by decide +kernel) ⟨Nat.le_of_ble_eq_true rfl, Nat.le_of_ble_eq_true rfl⟩) rfl hl.1 rfl (Nat.le_of_ble_eq_true rfl) dX12_way_99 (fun r79 w81 H locs hp80 hw => ?_)
            obtain ⟨rfl, hg88⟩ := hp80
            rcases hg88 with ⟨g83, g84⟩ | ⟨g85, g86, c87⟩
            · refine lv_istore (lv' := [(6, .int r79), (7, .int x78), (9, .int r22), (0, .ref (ad 0)), (1, .int a1), (2, .int a2), (3, .int a3), (4, .int a4), (5, .int v51_5), (8, .int v51_8)]) hx hb dX12_way_102 hl (by decide) rfl (fun ls hl => ?_)
              obtain ⟨x89, ex89⟩ : ∃ y : Int32, y = v51_8 + Int32.ofInt 1 := ⟨_, rfl⟩
              refine lv_iinc (v := x89) (lv' := [(8, .int x89), (6, .int r79), (7, .int x78), (9, .int r22), (0, .ref (ad 0)), (1, .int a1), (2, .int a2), (3, .int a3), (4, .int a4), (5, .int v51_5)]) hx hb dX12_way_104 hl (k := 9) rfl ex89.symm (by decide) rfl (fun ls hl => ?_)
              have ex89 : x89.toInt = v51_8.toInt + 1 := by rw [ex89]; exact wk_add (y := 1) (show -2147483648 ≤ v51_8.toInt + 1 by omega) (show v51_8.toInt + 1 ≤ 2147483647 by omega)
              refine lv_goto (tgt := 51) hx hb dX12_way_107 (by decide) ?_
              exact ih51 v51_5 r79 x78 x89 f51_12_0 H locs ls w24 (show 0 ≤ a1.toInt by omega) (show a1.toInt ≤ 9 by omega) (show 0 ≤ a2.toInt by omega) (show a2.toInt ≤ 9 by omega) (show 0 ≤ a3.toInt by omega) (show a3.toInt ≤ 99999 by omega) (show 0 ≤ a4.toInt by omega) (show 0 ≤ v51_5.toInt by omega) (show v51_5.toInt ≤ 100000100 by omega) (show 0 ≤ r79.toInt by omega) (show r79.toInt ≤ 12 by omega) (show 0 ≤ x78.toInt by omega) (show x78.toInt ≤ 100000208 by omega) (show 0 ≤ x89.toInt by omega) (show 1 ≤ f51_12_0.toInt by omega) (show f51_12_0.toInt ≤ 10 by omega) (show x89.toInt ≤ a4.toInt + 0 by omega) (show (2147483647 - x89.toInt).toNat < n51 by omega) hw hT hF c42 (lv_sub hl [4, 5, 6, 7, 8, 9, 1, 2, 0] rfl)
            · refine lv_istore (lv' := [(6, .int r79), (7, .int x78), (9, .int r22), (0, .ref (ad 0)), (1, .int a1), (2, .int a2), (3, .int a3), (4, .int a4), (5, .int v51_5), (8, .int v51_8)]) hx hb dX12_way_102 hl (by decide) rfl (fun ls hl => ?_)
              obtain ⟨x90, ex90⟩ : ∃ y : Int32, y = v51_8 + Int32.ofInt 1 := ⟨_, rfl⟩
              refine lv_iinc (v := x90) (lv' := [(8, .int x90), (6, .int r79), (7, .int x78), (9, .int r22), (0, .ref (ad 0)), (1, .int a1), (2, .int a2), (3, .int a3), (4, .int a4), (5, .int v51_5)]) hx hb dX12_way_104 hl (k := 9) rfl ex90.symm (by decide) rfl (fun ls hl => ?_)
              have ex90 : x90.toInt = v51_8.toInt + 1 := by rw [ex90]; exact wk_add (y := 1) (show -2147483648 ≤ v51_8.toInt + 1 by omega) (show v51_8.toInt + 1 ≤ 2147483647 by omega)
              refine lv_goto (tgt := 51) hx hb dX12_way_107 (by decide) ?_
              exact ih51 v51_5 r79 x78 x90 f51_12_0 H locs ls w24 (show 0 ≤ a1.toInt by omega) (show a1.toInt ≤ 9 by omega) (show 0 ≤ a2.toInt by omega) (show a2.toInt ≤ 9 by omega) (show 0 ≤ a3.toInt by omega) (show a3.toInt ≤ 99999 by omega) (show 0 ≤ a4.toInt by omega) (show 0 ≤ v51_5.toInt by omega) (show v51_5.toInt ≤ 100000100 by omega) (show 0 ≤ r79.toInt by omega) (show r79.toInt ≤ 12 by omega) (show 0 ≤ x78.toInt by omega) (show x78.toInt ≤ 100000208 by omega) (show 0 ≤ x90.toInt by omega) (show 1 ≤ f51_12_0.toInt by omega) (show f51_12_0.toInt ≤ 10 by omega) (show x90.toInt ≤ a4.toInt + 0 by omega) (show (2147483647 - x90.toInt).toNat < n51 by omega) hw hT hF c42 (lv_sub hl [4, 5, 6, 7, 8, 9, 1, 2, 0] rfl)
          · have c67 : v51_8.toInt = a4.toInt := wk_eq.mp c67
            refine lv_iload hx hb dX12_way_77 (lv_at hl 0 rfl) ?_
            exact tk_iret hC hr hlocks hK ⟨hT, hF, (Or.inr (Or.inl ⟨(show 0 ≤ r22.toInt by omega), (show r22.toInt ≤ 11 by omega), (show 0 ≤ a1.toInt by omega), (show a1.toInt ≤ 9 by omega), (show 0 ≤ a2.toInt by omega), (show a2.toInt ≤ 9 by omega), (show 0 ≤ a3.toInt by omega), (show a3.toInt ≤ 99999 by omega), (show 0 ≤ a4.toInt by omega), ⟨x36, c37, (show 0 ≤ x36.toInt by omega), (show x36.toInt ≤ 100000100 by omega)⟩, ⟨f51_12_0, c42, (show 1 ≤ f51_12_0.toInt by omega), (show f51_12_0.toInt ≤ 10 by omega)⟩, ⟨x38, c39, (show 1 ≤ x38.toInt by omega), (show x38.toInt ≤ 12 by omega)⟩⟩))⟩ hw dX12_way_79
        · refine lv_istore (lv' := [(9, .int (-1)), (0, .ref (ad 0)), (1, .int a1), (2, .int a2), (3, .int a3), (4, .int a4), (5, .int v51_5), (6, .int v51_6), (7, .int v51_7), (8, .int v51_8)]) hx hb dX12_way_68 hl (by decide) rfl (fun ls hl => ?_)
          refine lv_iload hx hb dX12_way_70 (lv_at hl 9 rfl) ?_
          refine lv_iload hx hb dX12_way_72 (lv_at hl 5 rfl) ?_
          refine lv_icmp_ne (tgt := 80) hx hb dX12_way_74 (by decide) (fun c91 => ?_) (fun c91 => ?_)
          · have c91 : ¬ v51_8.toInt = a4.toInt := wk_eqF c91
            refine lv_aload_n hx hb dX12_way_80 rfl (lv_at hl 1 rfl) ?_
            refine tk_geti hC hK hw hT hinX12 kM_at0 (by decide) rfl 37 (by decide) (List.mem_of_getElem? (i := 2) rfl) rfl rfl dX12_way_81 (fun x92 c93 rx92 tx92 => ?_)
            refine lv_aload_n hx hb dX12_way_84 rfl (lv_at hl 1 rfl) ?_
            refine lv_iload hx hb dX12_way_85 (lv_at hl 0 rfl) ?_
            refine lv_iconst (v := 2) hx hb dX12_way_87 (by decide) ?_
            refine tk_Vi hC hK hw hT hA hE hSR kM_at0 (by decide) rfl (k_X12_streetOf_7 l adK adV dC dI cy ad B (by omega) (by omega) qr s1    w24 H.size hT ) (cwV 2 hC.2.2.2.2 gX12_way_X12_streetOf rfl rfl rfl (by decide +kernel) ⟨Nat.le_of_ble_eq_true rfl, Nat.le_of_ble_eq_true rfl⟩) rfl hl.1 rfl (Nat.le_of_ble_eq_true rfl) dX12_way_88 (fun r94 w96 H locs hp95 hw => ?_)
            obtain ⟨rfl, hg101⟩ := hp95
            obtain ⟨g98, g99, c100⟩ := hg101
            refine lv_iadd hx hb dX12_way_91 ?_
            refine lv_topi (fun x102 ex102 => ?_)
            have ex102 : x102.toInt = x92.toInt + r94.toInt := by rw [ex102]; exact wk_add (show (-2147483648) ≤ x92.toInt + r94.toInt by omega) (show x92.toInt + r94.toInt ≤ 2147483647 by omega)
            refine lv_istore (lv' := [(7, .int x102), (9, .int (-1)), (0, .ref (ad 0)), (1, .int a1), (2, .int a2), (3, .int a3), (4, .int a4), (5, .int v51_5), (6, .int v51_6), (8, .int v51_8)]) hx hb dX12_way_92 hl (by decide) rfl (fun ls hl => ?_)
            refine lv_aload_n hx hb dX12_way_94 rfl (lv_at hl 2 rfl) ?_
            refine lv_iload hx hb dX12_way_95 (lv_at hl 1 rfl) ?_
            refine lv_iload hx hb dX12_way_97 (lv_at hl 8 rfl) ?_
            refine tk_Vi hC hK hw hT hA hE hSR kM_at0 (by decide) rfl (k_X12_otherOf_2 l adK adV dC dI cy ad B (by omega) (by omega) qr s1   v51_6 (show 0 ≤ v51_6.toInt by omega) (show v51_6.toInt ≤ 12 by omega) w24 H.size hT ) (cwV 2 hC.2.2.2.2 gX12_way_X12_otherOf rfl rfl rfl (by decide +kernel) ⟨Nat.le_of_ble_eq_true rfl, Nat.le_of_ble_eq_true rfl⟩) rfl hl.1 rfl (Nat.le_of_ble_eq_true rfl) dX12_way_99 (fun r103 w105 H locs hp104 hw => ?_)
            obtain ⟨rfl, hg109⟩ := hp104
            obtain ⟨g107, g108⟩ := hg109
            refine lv_istore (lv' := [(6, .int r103), (7, .int x102), (9, .int (-1)), (0, .ref (ad 0)), (1, .int a1), (2, .int a2), (3, .int a3), (4, .int a4), (5, .int v51_5), (8, .int v51_8)]) hx hb dX12_way_102 hl (by decide) rfl (fun ls hl => ?_)
            obtain ⟨x110, ex110⟩ : ∃ y : Int32, y = v51_8 + Int32.ofInt 1 := ⟨_, rfl⟩
            refine lv_iinc (v := x110) (lv' := [(8, .int x110), (6, .int r103), (7, .int x102), (9, .int (-1)), (0, .ref (ad 0)), (1, .int a1), (2, .int a2), (3, .int a3), (4, .int a4), (5, .int v51_5)]) hx hb dX12_way_104 hl (k := 9) rfl ex110.symm (by decide) rfl (fun ls hl => ?_)
            have ex110 : x110.toInt = v51_8.toInt + 1 := by rw [ex110]; exact wk_add (y := 1) (show -2147483648 ≤ v51_8.toInt + 1 by omega) (show v51_8.toInt + 1 ≤ 2147483647 by omega)
            refine lv_goto (tgt := 51) hx hb dX12_way_107 (by decide) ?_
            exact ih51 v51_5 r103 x102 x110 f51_12_0 H locs ls w24 (show 0 ≤ a1.toInt by omega) (show a1.toInt ≤ 9 by omega) (show 0 ≤ a2.toInt by omega) (show a2.toInt ≤ 9 by omega) (show 0 ≤ a3.toInt by omega) (show a3.toInt ≤ 99999 by omega) (show 0 ≤ a4.toInt by omega) (show 0 ≤ v51_5.toInt by omega) (show v51_5.toInt ≤ 100000100 by omega) (show 0 ≤ r103.toInt by omega) (show r103.toInt ≤ 12 by omega) (show 0 ≤ x102.toInt by omega) (show x102.toInt ≤ 100000208 by omega) (show 0 ≤ x110.toInt by omega) (show 1 ≤ f51_12_0.toInt by omega) (show f51_12_0.toInt ≤ 10 by omega) (show x110.toInt ≤ a4.toInt + 0 by omega) (show (2147483647 - x110.toInt).toNat < n51 by omega) hw hT hF c42 (lv_sub hl [4, 5, 6, 7, 8, 9, 1, 2, 0] rfl)
          · have c91 : v51_8.toInt = a4.toInt := wk_eq.mp c91
            refine lv_iload hx hb dX12_way_77 (lv_at hl 0 rfl) ?_
            exact tk_iret hC hr hlocks hK ⟨hT, hF, (Or.inr (Or.inr rfl))⟩ hw dX12_way_79
  refine lv_aload_n hx hb dX12_way_0 rfl (lv_at hl 0 rfl) ?_
  refine lv_iload_n hx hb dX12_way_1 rfl (lv_at hl 1 rfl) ?_
  refine lv_iload_n hx hb dX12_way_2 rfl (lv_at hl 2 rfl) ?_
  refine lv_iload_n hx hb dX12_way_3 rfl (lv_at hl 3 rfl) ?_
  refine tk_Vi hC hK hw hT hA hE hSR kM_at0 (by decide) rfl (k_X12_canLook_1 l adK adV dC dI cy ad B (by omega) (by omega) qr s1   a1 a2 a3 w0 s.heap.size hT ) (cwV 3 hC.2.2.2.2 gX12_way_X12_canLook rfl rfl rfl (by decide +kernel) ⟨Nat.le_of_ble_eq_true rfl, Nat.le_of_ble_eq_true rfl⟩) rfl hl.1 rfl (Nat.le_of_ble_eq_true rfl) dX12_way_4 (fun r111 w113 H locs hp112 hw => ?_)
  obtain ⟨rfl, hg123⟩ := hp112
  rcases hg123 with rfl | ⟨rfl, g115, g116, g117, g118, g119, g120, ⟨x121, c122, rx121, tx121⟩⟩
  · refine lv_if_eq (tgt := 15) hx hb dX12_way_7 (by decide) (fun _ => ?_) (fun c => absurd (by decide) c)
    exact J15  H locs ls w0   hw hT hF  (lv_sub hl [0, 1, 2, 3, 4] rfl)
  · refine lv_if_eq (tgt := 15) hx hb dX12_way_7 (by decide) (fun c => absurd c (by decide)) (fun _ => ?_)
    refine lv_iload hx hb dX12_way_10 (lv_at hl 4 rfl) ?_
    refine lv_if_ge (tgt := 17) hx hb dX12_way_12 (by decide) (fun c124 => ?_) (fun c124 => ?_)
    · have c124 : (0 : Int) ≤ a4.toInt := wk_le.mp c124
      refine lv_aload_n hx hb dX12_way_17 rfl (lv_at hl 0 rfl) ?_
      refine lv_iload_n hx hb dX12_way_18 rfl (lv_at hl 1 rfl) ?_
      refine lv_iload_n hx hb dX12_way_19 rfl (lv_at hl 2 rfl) ?_
      refine lv_iload_n hx hb dX12_way_20 rfl (lv_at hl 3 rfl) ?_
      refine lv_iload_n hx hb dX12_way_21 rfl (lv_at hl 3 rfl) ?_
      refine lv_sipush (v := 2000) hx hb dX12_way_22 (by decide) ?_
      refine lv_iadd hx hb dX12_way_25 ?_
      refine lv_topi (fun x125 ex125 => ?_)
      have ex125 : x125.toInt = a3.toInt + (2000 : Int) := by rw [ex125]; exact wk_add (show (-2147483648) ≤ a3.toInt + (2000 : Int) by omega) (show a3.toInt + (2000 : Int) ≤ 2147483647 by omega)
      refine tk_Vi hC hK hw hT hA hE hSR kM_at0 (by decide) rfl (k_X12_reaches_1 l adK adV dC dI cy ad B (by omega) (by omega) qr s1   a1 (show 0 ≤ a1.toInt by omega) (show a1.toInt ≤ 9 by omega) a2 (show 0 ≤ a2.toInt by omega) (show a2.toInt ≤ 9 by omega) a3 (show 0 ≤ a3.toInt by omega) (show a3.toInt ≤ 99999 by omega) x125 (show 2000 ≤ x125.toInt by omega) (show x125.toInt ≤ 101999 by omega) w0 H.size hT ) (cwV 4 hC.2.2.2.2 gX12_way_X12_reaches rfl rfl rfl (by decide +kernel) ⟨Nat.le_of_ble_eq_true rfl, Nat.le_of_ble_eq_true rfl⟩) rfl hl.1 rfl (Nat.le_of_ble_eq_true rfl) dX12_way_26 (fun r126 w128 H locs hp127 hw => ?_)
      obtain ⟨hT, k129, hg132⟩ := hp127
      have hF := hF.tr k129 (by decide)
      have c133 := k129.gi kM_at12 (by decide) c122
      obtain ⟨g130, g131⟩ := hg132
      refine lv_istore (lv' := [(5, .int r126), (0, .ref (ad 0)), (1, .int a1), (2, .int a2), (3, .int a3), (4, .int a4)]) hx hb dX12_way_29 hl (by decide) rfl (fun ls hl => ?_)
      refine lv_iload hx hb dX12_way_31 (lv_at hl 0 rfl) ?_
      refine lv_ldcw (v := 100000000) hx hb hC.2.2.2.1 (hC.2.2.2.2 _ (List.mem_of_getElem? (i := 1) rfl)) dX12_way_33 ?_
      refine lv_icmp_ne (tgt := 42) hx hb dX12_way_36 (by decide) (fun c134 => ?_) (fun c134 => ?_)
      · have c134 : ¬ r126.toInt = (100000000 : Int) := wk_eqF c134
        refine lv_iload_n hx hb dX12_way_42 rfl (lv_at hl 2 rfl) ?_
        refine lv_istore (lv' := [(6, .int a1), (5, .int r126), (0, .ref (ad 0)), (1, .int a1), (2, .int a2), (3, .int a3), (4, .int a4)]) hx hb dX12_way_43 hl (by decide) rfl (fun ls hl => ?_)
        refine lv_iload_n hx hb dX12_way_45 rfl (lv_at hl 5 rfl) ?_
        refine lv_istore (lv' := [(7, .int a3), (6, .int a1), (5, .int r126), (0, .ref (ad 0)), (1, .int a1), (2, .int a2), (3, .int a3), (4, .int a4)]) hx hb dX12_way_46 hl (by decide) rfl (fun ls hl => ?_)
        refine lv_iconst (v := 0) hx hb dX12_way_48 (by decide) ?_
        refine lv_istore (lv' := [(8, .int 0), (7, .int a3), (6, .int a1), (5, .int r126), (0, .ref (ad 0)), (1, .int a1), (2, .int a2), (3, .int a3), (4, .int a4)]) hx hb dX12_way_49 hl (by decide) rfl (fun ls hl => ?_)
        exact L51 ((2147483647 - (0 : Int)).toNat + 1) r126 a1 a3 0 x121 H locs ls w128 (show 0 ≤ a1.toInt by omega) (show a1.toInt ≤ 9 by omega) (show 0 ≤ a2.toInt by omega) (show a2.toInt ≤ 9 by omega) (show 0 ≤ a3.toInt by omega) (show a3.toInt ≤ 99999 by omega) (show 0 ≤ a4.toInt by omega) (show 0 ≤ r126.toInt by omega) (show r126.toInt ≤ 100000100 by omega) (show 0 ≤ a1.toInt by omega) (show a1.toInt ≤ 12 by omega) (show 0 ≤ a3.toInt by omega) (show a3.toInt ≤ 100000208 by omega) (by decide) (show 1 ≤ x121.toInt by omega) (show x121.toInt ≤ 10 by omega) (show (0 : Int) ≤ a4.toInt + 0 by omega) (Nat.lt_succ_self _) hw hT hF c133 (lv_sub hl [4, 5, 6, 7, 8, 3, 2, 1, 0] rfl)
      · have c134 : r126.toInt = (100000000 : Int) := wk_eq.mp c134
        refine lv_bipush (v := (-2)) hx hb dX12_way_39 (by decide) ?_
        exact tk_iret hC hr hlocks hK ⟨hT, hF, (Or.inl ⟨rfl, (show 0 ≤ a1.toInt by omega), (show a1.toInt ≤ 9 by omega), (show 0 ≤ a2.toInt by omega), (show a2.toInt ≤ 9 by omega), (show 0 ≤ a3.toInt by omega), (show a3.toInt ≤ 99999 by omega), (show 0 ≤ a4.toInt by omega), ⟨x121, c133, (show 1 ≤ x121.toInt by omega), (show x121.toInt ≤ 10 by omega)⟩⟩)⟩ hw dX12_way_41
    · have c124 : a4.toInt < (0 : Int) := wk_leF c124
      exact J15  H locs ls w0   hw hT hF  (lv_sub hl [0, 1, 2, 3, 4] rfl)
abbrev P_X12_walkerOf_2 (ad : Nat → Nat) (cy : Nat → ClassId) (B : Int) (qr : Nat) (s1 : Int) (a1 : Int32) (w0 : va_W) : Int32 → va_W → Prop := fun r u => w0 = u ∧ ((0 ≤ r.toInt ∧ r.toInt ≤ 1073741824))
set_option maxHeartbeats 4000000 in
set_option maxRecDepth 100000 in
theorem k_X12_walkerOf_2 (l : Launch) (adK adV : Nat → Nat) (dC : Nat → ClassId) (dI : Nat → Nat → Nat) (cy : Nat → ClassId) (ad : Nat → Nat) (B : Int) (hB0 : 100000 ≤ B) (hB1 : B ≤ 1073741824) (qr : Nat) (s1 : Int)  (a1 : Int32) (ra1 : 0 ≤ a1.toInt) (ta1 : a1.toInt ≤ 3) (w0 : va_W) (sz : Nat) (hT : TW ksM ad cy B qr 12 w0)  : Met l yX12_walkerOf wsX12_walkerOf ({ frames := 1, cells := 0, slots := 0, locals := 12 }) (va_Pc [.ref (ad 0), .int a1, .int 4] (wpreS adK adV dC dI cy sz w0)) (va_Qi (P_X12_walkerOf_2 ad cy B qr s1 a1 w0) (fun u : va_W => wpost dC dI cy (va_A w0 sz) u) (va_A w0 sz)) 0 0 (va_A w0 sz) := by
  refine Met.ofW (cc := cX12_walkerOf) (maxL := 3) (ret := (some .int)) (by decide) rfl ?_
  intro p e s m args below meth c s₁ Bk hml hv
  obtain ⟨rfl, ⟨hsz, hP, hK, hD0⟩, hE, hSR⟩ := hv
  have hx := Bk.exec
  have hb := Bk.bytes
  have hr := Bk.returns
  have hlocks := Bk.notSynchronized
  have hC : CallFix p m c cX12_walkerOf 3 s _ wsX12_walkerOf RX12 := ⟨hx, hb, hml, findClass_of_methodNamed Bk.named, atoms_spec (ws := wsX12_walkerOf) Bk.pre⟩
  subst hsz
  have hD := hD0.self (sz := s.heap.size)
  generalize hAe : va_A w0 s.heap.size = A at hD hE ⊢
  have hA : ∀ q : Nat, s.heap.size ≤ q → A q := fun q h => by rw [← hAe]; exact Or.inr h
  have hw : Wd dC dI A s.heap s.heap [] w0 := ⟨hP, hD, va_S.rf⟩
  have hF : FE ksM ([] : List (Nat × Nat × Nat)) w0 w0 := FE.rf
  have hl := lv_entry ([.ref (ad 0), .int a1, .int 4]) (n := 3) (Nat.le_of_ble_eq_true rfl)
  rw [lg_entry_eq]
  generalize (lg_sl ([.ref (ad 0), .int a1, .int 4]) ++ List.replicate (3 - (lg_sl ([.ref (ad 0), .int a1, .int 4])).length) Slot.unset).toArray = ls at hl ⊢
  have hl : lv_has ls 3 [(0, .ref (ad 0)), (1, .int a1), (2, .int 4)] := hl
  generalize hloc : ([] : List Loc) = locs at hw ⊢
  have hinX12 : ∀ w ∈ u_ws RX12 TX12 42, w ∈ wsX12_walkerOf := fun _ h => List.mem_cons_of_mem _ (List.mem_append_right _ (h))
  refine lv_aload_n hx hb dX12_walkerOf_0 rfl (lv_at hl 0 rfl) ?_
  refine tk_getA hC hK hw hT hinX12 kM_at0 (by decide) rfl 26 (by decide) (List.mem_of_getElem? (i := 1) rfl) rfl rfl dX12_walkerOf_1 ?_
  refine lv_sipush (v := 216) hx hb dX12_walkerOf_4 (by decide) ?_
  refine lv_bipush (v := 9) hx hb dX12_walkerOf_7 (by decide) ?_
  refine lv_iload_n hx hb dX12_walkerOf_9 rfl (lv_at hl 1 rfl) ?_
  refine lv_imul hx hb dX12_walkerOf_10 ?_
  refine lv_topi (fun x1 ex1 => ?_)
  have ex1 : x1.toInt = (9 : Int) * a1.toInt := by rw [ex1]; exact wk_mul (show (-2147483648) ≤ (9 : Int) * a1.toInt by omega) (show (9 : Int) * a1.toInt ≤ 2147483647 by omega)
  refine lv_iadd hx hb dX12_walkerOf_11 ?_
  refine lv_topi (fun x2 ex2 => ?_)
  have ex2 : x2.toInt = (216 : Int) + x1.toInt := by rw [ex2]; exact wk_add (show (-2147483648) ≤ (216 : Int) + x1.toInt by omega) (show (216 : Int) + x1.toInt ≤ 2147483647 by omega)
  refine lv_iload_n hx hb dX12_walkerOf_12 rfl (lv_at hl 2 rfl) ?_
  refine lv_iadd hx hb dX12_walkerOf_13 ?_
  refine lv_topi (fun x3 ex3 => ?_)
  have ex3 : x3.toInt = x2.toInt + (4 : Int) := by rw [ex3]; exact wk_add (show (-2147483648) ≤ x2.toInt + (4 : Int) by omega) (show x2.toInt + (4 : Int) ≤ 2147483647 by omega)
  refine tk_ialdR hC hK hw hT kM_at12 rfl (show 0 ≤ x3.toInt by omega) (show x3.toInt < 296 by omega) dX12_walkerOf_14 (fun x4 c5 Ex4 => ?_)
  have c5 : gi w0 12 (9 * a1.toInt + 220).toNat = x4 := (congrArg (gi w0 12) (congrArg Int.toNat (show 9 * a1.toInt + 220 = x3.toInt by omega))).trans c5
  have bx4 := (tk_rgB rfl 220 9 4 (by decide +kernel) ⟨(a1.toInt - 0).toNat, by omega, show x3.toInt.toNat = 220 + 9 * (a1.toInt - 0).toNat by omega⟩).mp Ex4
  exact tk_iret hC hr hlocks hK ⟨rfl, ⟨(show 0 ≤ x4.toInt by omega), (show x4.toInt ≤ 1073741824 by omega)⟩⟩ hw dX12_walkerOf_15
abbrev P_X12_walkerOf_3 (ad : Nat → Nat) (cy : Nat → ClassId) (B : Int) (qr : Nat) (s1 : Int) (a1 : Int32) (w0 : va_W) : Int32 → va_W → Prop := fun r u => w0 = u ∧ ((0 ≤ r.toInt ∧ r.toInt ≤ 9 ∧ gi u 12 (9 * a1.toInt + 217).toNat = r))
set_option maxHeartbeats 4000000 in
set_option maxRecDepth 100000 in
theorem k_X12_walkerOf_3 (l : Launch) (adK adV : Nat → Nat) (dC : Nat → ClassId) (dI : Nat → Nat → Nat) (cy : Nat → ClassId) (ad : Nat → Nat) (B : Int) (hB0 : 100000 ≤ B) (hB1 : B ≤ 1073741824) (qr : Nat) (s1 : Int)  (a1 : Int32) (ra1 : 0 ≤ a1.toInt) (ta1 : a1.toInt ≤ 3) (w0 : va_W) (sz : Nat) (hT : TW ksM ad cy B qr 12 w0)  : Met l yX12_walkerOf wsX12_walkerOf ({ frames := 1, cells := 0, slots := 0, locals := 12 }) (va_Pc [.ref (ad 0), .int a1, .int 1] (wpreS adK adV dC dI cy sz w0)) (va_Qi (P_X12_walkerOf_3 ad cy B qr s1 a1 w0) (fun u : va_W => wpost dC dI cy (va_A w0 sz) u) (va_A w0 sz)) 0 0 (va_A w0 sz) := by
  refine Met.ofW (cc := cX12_walkerOf) (maxL := 3) (ret := (some .int)) (by decide) rfl ?_
  intro p e s m args below meth c s₁ Bk hml hv
  obtain ⟨rfl, ⟨hsz, hP, hK, hD0⟩, hE, hSR⟩ := hv
  have hx := Bk.exec
  have hb := Bk.bytes
  have hr := Bk.returns
  have hlocks := Bk.notSynchronized
  have hC : CallFix p m c cX12_walkerOf 3 s _ wsX12_walkerOf RX12 := ⟨hx, hb, hml, findClass_of_methodNamed Bk.named, atoms_spec (ws := wsX12_walkerOf) Bk.pre⟩
  subst hsz
  have hD := hD0.self (sz := s.heap.size)
  generalize hAe : va_A w0 s.heap.size = A at hD hE ⊢
  have hA : ∀ q : Nat, s.heap.size ≤ q → A q := fun q h => by rw [← hAe]; exact Or.inr h
  have hw : Wd dC dI A s.heap s.heap [] w0 := ⟨hP, hD, va_S.rf⟩
  have hF : FE ksM ([] : List (Nat × Nat × Nat)) w0 w0 := FE.rf
  have hl := lv_entry ([.ref (ad 0), .int a1, .int 1]) (n := 3) (Nat.le_of_ble_eq_true rfl)
  rw [lg_entry_eq]
  generalize (lg_sl ([.ref (ad 0), .int a1, .int 1]) ++ List.replicate (3 - (lg_sl ([.ref (ad 0), .int a1, .int 1])).length) Slot.unset).toArray = ls at hl ⊢
  have hl : lv_has ls 3 [(0, .ref (ad 0)), (1, .int a1), (2, .int 1)] := hl
  generalize hloc : ([] : List Loc) = locs at hw ⊢
  have hinX12 : ∀ w ∈ u_ws RX12 TX12 42, w ∈ wsX12_walkerOf := fun _ h => List.mem_cons_of_mem _ (List.mem_append_right _ (h))
  refine lv_aload_n hx hb dX12_walkerOf_0 rfl (lv_at hl 0 rfl) ?_
  refine tk_getA hC hK hw hT hinX12 kM_at0 (by decide) rfl 26 (by decide) (List.mem_of_getElem? (i := 1) rfl) rfl rfl dX12_walkerOf_1 ?_
  refine lv_sipush (v := 216) hx hb dX12_walkerOf_4 (by decide) ?_
  refine lv_bipush (v := 9) hx hb dX12_walkerOf_7 (by decide) ?_
  refine lv_iload_n hx hb dX12_walkerOf_9 rfl (lv_at hl 1 rfl) ?_
  refine lv_imul hx hb dX12_walkerOf_10 ?_
  refine lv_topi (fun x1 ex1 => ?_)
  have ex1 : x1.toInt = (9 : Int) * a1.toInt := by rw [ex1]; exact wk_mul (show (-2147483648) ≤ (9 : Int) * a1.toInt by omega) (show (9 : Int) * a1.toInt ≤ 2147483647 by omega)
  refine lv_iadd hx hb dX12_walkerOf_11 ?_
  refine lv_topi (fun x2 ex2 => ?_)
  have ex2 : x2.toInt = (216 : Int) + x1.toInt := by rw [ex2]; exact wk_add (show (-2147483648) ≤ (216 : Int) + x1.toInt by omega) (show (216 : Int) + x1.toInt ≤ 2147483647 by omega)
  refine lv_iload_n hx hb dX12_walkerOf_12 rfl (lv_at hl 2 rfl) ?_
  refine lv_iadd hx hb dX12_walkerOf_13 ?_
  refine lv_topi (fun x3 ex3 => ?_)
  have ex3 : x3.toInt = x2.toInt + (1 : Int) := by rw [ex3]; exact wk_add (show (-2147483648) ≤ x2.toInt + (1 : Int) by omega) (show x2.toInt + (1 : Int) ≤ 2147483647 by omega)
  refine tk_ialdR hC hK hw hT kM_at12 rfl (show 0 ≤ x3.toInt by omega) (show x3.toInt < 296 by omega) dX12_walkerOf_14 (fun x4 c5 Ex4 => ?_)
  have c5 : gi w0 12 (9 * a1.toInt + 217).toNat = x4 := (congrArg (gi w0 12) (congrArg Int.toNat (show 9 * a1.toInt + 217 = x3.toInt by omega))).trans c5
  have bx4 := tk_rgI rfl 217 9 4 0 9 (by decide +kernel) ⟨(a1.toInt - 0).toNat, by omega, show x3.toInt.toNat = 217 + 9 * (a1.toInt - 0).toNat by omega⟩ Ex4
  exact tk_iret hC hr hlocks hK ⟨rfl, ⟨(show 0 ≤ x4.toInt by omega), (show x4.toInt ≤ 9 by omega), c5⟩⟩ hw dX12_walkerOf_15
abbrev P_X12_isDayFor_4 (ad : Nat → Nat) (cy : Nat → ClassId) (B : Int) (qr : Nat) (s1 : Int) (a1 : Int32) (a2 : Int32) (a3 : Int32) (w0 : va_W) : Int32 → va_W → Prop := fun r u => w0 = u ∧ ((r = 0) ∨ (r = 0 ∧ gi u 12 (10 * a1.toInt + 10).toNat = a2) ∨ (r = 1) ∨ (r = 1 ∧ gi u 12 (10 * a1.toInt + 10).toNat = a2))
set_option maxHeartbeats 4000000 in
set_option maxRecDepth 100000 in
theorem k_X12_isDayFor_4 (l : Launch) (adK adV : Nat → Nat) (dC : Nat → ClassId) (dI : Nat → Nat → Nat) (cy : Nat → ClassId) (ad : Nat → Nat) (B : Int) (hB0 : 100000 ≤ B) (hB1 : B ≤ 1073741824) (qr : Nat) (s1 : Int)  (a1 : Int32) (ra1 : 0 ≤ a1.toInt) (ta1 : a1.toInt ≤ 11) (a2 : Int32) (ra2 : 0 ≤ a2.toInt) (ta2 : a2.toInt ≤ 9) (a3 : Int32) (ra3 : 0 ≤ a3.toInt) (ta3 : a3.toInt ≤ 44739247) (w0 : va_W) (sz : Nat) (hT : TW ksM ad cy B qr 12 w0)  : Met l yX12_isDayFor wsX12_isDayFor ({ frames := 3, cells := 0, slots := 0, locals := 57 }) (va_Pc [.ref (ad 0), .int a1, .int a2, .int a3] (wpreS adK adV dC dI cy sz w0)) (va_Qi (P_X12_isDayFor_4 ad cy B qr s1 a1 a2 a3 w0) (fun u : va_W => wpost dC dI cy (va_A w0 sz) u) (va_A w0 sz)) 0 0 (va_A w0 sz) := by
  refine Met.ofW (cc := cX12_isDayFor) (maxL := 4) (ret := (some .boolean)) (by decide) rfl ?_
  intro p e s m args below meth c s₁ Bk hml hv
  obtain ⟨rfl, ⟨hsz, hP, hK, hD0⟩, hE, hSR⟩ := hv
  have hx := Bk.exec
  have hb := Bk.bytes
  have hr := Bk.returns
  have hlocks := Bk.notSynchronized
  have hC : CallFix p m c cX12_isDayFor 4 s _ wsX12_isDayFor RX12 := ⟨hx, hb, hml, findClass_of_methodNamed Bk.named, atoms_spec (ws := wsX12_isDayFor) Bk.pre⟩
  subst hsz
  have hD := hD0.self (sz := s.heap.size)
  generalize hAe : va_A w0 s.heap.size = A at hD hE ⊢
  have hA : ∀ q : Nat, s.heap.size ≤ q → A q := fun q h => by rw [← hAe]; exact Or.inr h
  have hw : Wd dC dI A s.heap s.heap [] w0 := ⟨hP, hD, va_S.rf⟩
  have hF : FE ksM ([] : List (Nat × Nat × Nat)) w0 w0 := FE.rf
  have hl := lv_entry ([.ref (ad 0), .int a1, .int a2, .int a3]) (n := 4) (Nat.le_of_ble_eq_true rfl)
  rw [lg_entry_eq]
  generalize (lg_sl ([.ref (ad 0), .int a1, .int a2, .int a3]) ++ List.replicate (4 - (lg_sl ([.ref (ad 0), .int a1, .int a2, .int a3])).length) Slot.unset).toArray = ls at hl ⊢
  have hl : lv_has ls 4 [(0, .ref (ad 0)), (1, .int a1), (2, .int a2), (3, .int a3)] := hl
  generalize hloc : ([] : List Loc) = locs at hw ⊢
  have J62 : ∀ (f62_12__10_a1_toInt_10_toNat : Int32) (f62_12_2 : Int32) (H : Heap) (locs : List Loc) (ls : Array Slot), 0 ≤ a1.toInt → a1.toInt ≤ 11 → 0 ≤ a2.toInt → a2.toInt ≤ 9 → 0 ≤ a3.toInt → a3.toInt ≤ 44739247 → 0 ≤ f62_12__10_a1_toInt_10_toNat.toInt → f62_12__10_a1_toInt_10_toNat.toInt ≤ 9 → 1 ≤ f62_12_2.toInt → f62_12_2.toInt ≤ 8 → Wd dC dI A s.heap H locs w0 → gi w0 0 27 = 1 → gi w0 12 (10 * a1.toInt + 10).toNat = f62_12__10_a1_toInt_10_toNat → gi w0 12 2 = f62_12_2 → lv_has ls 4 [(0, .ref (ad 0)), (1, .int a1), (2, .int a2), (3, .int a3)] → W p l e ({ frames := 3, cells := 0, slots := 0, locals := 57 }) s m (List.toArray [.ref (ad 0), .int a1, .int a2, .int a3]) below meth c H locs 0 0 (MQ below (va_Qi (P_X12_isDayFor_4 ad cy B qr s1 a1 a2 a3 w0) (fun u : va_W => wpost dC dI cy A u) A) (List.toArray [.ref (ad 0), .int a1, .int a2, .int a3]) s 0 0 A) (F0 m 62 ls []) := by
    intro f62_12__10_a1_toInt_10_toNat f62_12_2 H locs ls r1 t2 r3 t4 r5 t6 r8 t9 r11 t12 hw c7 c10 c13 hl
    refine lv_iconst (v := 0) hx hb dX12_isDayFor_62 (by decide) ?_
    exact tk_zret hC hr rfl hlocks hK ⟨rfl, (Or.inl rfl)⟩ hw dX12_isDayFor_63
  refine lv_aload_n hx hb dX12_isDayFor_0 rfl (lv_at hl 0 rfl) ?_
  refine lv_aload_n hx hb dX12_isDayFor_1 rfl (lv_at hl 0 rfl) ?_
  refine lv_iload_n hx hb dX12_isDayFor_2 rfl (lv_at hl 1 rfl) ?_
  refine lv_iconst (v := 3) hx hb dX12_isDayFor_3 (by decide) ?_
  refine lv_iload_n hx hb dX12_isDayFor_4 rfl (lv_at hl 3 rfl) ?_
  refine lv_bipush (v := 7) hx hb dX12_isDayFor_5 (by decide) ?_
  refine lv_irem hx hb dX12_isDayFor_7 (by decide) ?_
  refine lv_topi (fun x14 ex14 => ?_)
  have ex14 : x14.toInt = a3.toInt % (7 : Int) := by rw [ex14]; exact wk_rem (show 0 ≤ a3.toInt by omega) (show 0 < (7 : Int) by decide)
  refine lv_iadd hx hb dX12_isDayFor_8 ?_
  refine lv_topi (fun x15 ex15 => ?_)
  have ex15 : x15.toInt = (3 : Int) + x14.toInt := by rw [ex15]; exact wk_add (show (-2147483648) ≤ (3 : Int) + x14.toInt by omega) (show (3 : Int) + x14.toInt ≤ 2147483647 by omega)
  refine tk_Vi hC hK hw hT hA hE hSR kM_at0 (by decide) rfl (k_X12_streetOf_4 l adK adV dC dI cy ad B (by omega) (by omega) qr s1   a1 (show 0 ≤ a1.toInt by omega) (show a1.toInt ≤ 11 by omega) x15 (show 3 ≤ x15.toInt by omega) (show x15.toInt ≤ 9 by omega) w0 s.heap.size hT ) (cwV 2 hC.2.2.2.2 gX12_isDayFor_X12_streetOf rfl rfl rfl (by decide +kernel) ⟨Nat.le_of_ble_eq_true rfl, Nat.le_of_ble_eq_true rfl⟩) rfl hl.1 rfl (Nat.le_of_ble_eq_true rfl) dX12_isDayFor_9 (fun r16 w18 H locs hp17 hw => ?_)
  obtain ⟨rfl, hg22⟩ := hp17
  obtain ⟨g20, g21⟩ := hg22
  refine lv_iload_n hx hb dX12_isDayFor_12 rfl (lv_at hl 1 rfl) ?_
  refine lv_iload_n hx hb dX12_isDayFor_13 rfl (lv_at hl 2 rfl) ?_
  refine tk_Vi hC hK hw hT hA hE hSR kM_at0 (by decide) rfl (k_X12_hasSign_1 l adK adV dC dI cy ad B (by omega) (by omega) qr s1   r16 (show 0 ≤ r16.toInt by omega) (show r16.toInt ≤ 9 by omega) a1 (show 0 ≤ a1.toInt by omega) (show a1.toInt ≤ 11 by omega) a2 (show 0 ≤ a2.toInt by omega) (show a2.toInt ≤ 9 by omega) w0 H.size hT ) (cwV 3 hC.2.2.2.2 gX12_isDayFor_X12_hasSign rfl rfl rfl (by decide +kernel) ⟨Nat.le_of_ble_eq_true rfl, Nat.le_of_ble_eq_true rfl⟩) rfl hl.1 rfl (Nat.le_of_ble_eq_true rfl) dX12_isDayFor_14 (fun r23 w25 H locs hp24 hw => ?_)
  obtain ⟨rfl, hg29⟩ := hp24
  rcases hg29 with rfl | ⟨rfl, c27⟩ | rfl | ⟨rfl, c28⟩
  · refine lv_if_ne (tgt := 22) hx hb dX12_isDayFor_17 (by decide) (fun c => absurd (by decide) c) (fun _ => ?_)
    refine lv_iconst (v := 0) hx hb dX12_isDayFor_20 (by decide) ?_
    exact tk_zret hC hr rfl hlocks hK ⟨rfl, (Or.inl rfl)⟩ hw dX12_isDayFor_21
  · refine lv_if_ne (tgt := 22) hx hb dX12_isDayFor_17 (by decide) (fun c => absurd (by decide) c) (fun _ => ?_)
    refine lv_iconst (v := 0) hx hb dX12_isDayFor_20 (by decide) ?_
    exact tk_zret hC hr rfl hlocks hK ⟨rfl, (Or.inr (Or.inl ⟨rfl, c27⟩))⟩ hw dX12_isDayFor_21
  · refine lv_if_ne (tgt := 22) hx hb dX12_isDayFor_17 (by decide) (fun _ => ?_) (fun c => absurd c (by decide))
    refine lv_aload_n hx hb dX12_isDayFor_22 rfl (lv_at hl 0 rfl) ?_
    refine lv_aload_n hx hb dX12_isDayFor_23 rfl (lv_at hl 0 rfl) ?_
    refine lv_iload_n hx hb dX12_isDayFor_24 rfl (lv_at hl 1 rfl) ?_
    refine lv_iconst (v := 0) hx hb dX12_isDayFor_25 (by decide) ?_
    refine tk_Vi hC hK hw hT hA hE hSR kM_at0 (by decide) rfl (k_X12_streetOf_2 l adK adV dC dI cy ad B (by omega) (by omega) qr s1   a1 (show 0 ≤ a1.toInt by omega) (show a1.toInt ≤ 11 by omega) w0 H.size hT ) (cwV 2 hC.2.2.2.2 gX12_isDayFor_X12_streetOf rfl rfl rfl (by decide +kernel) ⟨Nat.le_of_ble_eq_true rfl, Nat.le_of_ble_eq_true rfl⟩) rfl hl.1 rfl (Nat.le_of_ble_eq_true rfl) dX12_isDayFor_26 (fun r30 w32 H locs hp31 hw => ?_)
    obtain ⟨rfl, hg37⟩ := hp31
    obtain ⟨g34, g35, c36⟩ := hg37
    refine lv_iload_n hx hb dX12_isDayFor_29 rfl (lv_at hl 3 rfl) ?_
    refine lv_sipush (v := 360) hx hb dX12_isDayFor_30 (by decide) ?_
    refine lv_irem hx hb dX12_isDayFor_33 (by decide) ?_
    refine lv_topi (fun x38 ex38 => ?_)
    have ex38 : x38.toInt = a3.toInt % (360 : Int) := by rw [ex38]; exact wk_rem (show 0 ≤ a3.toInt by omega) (show 0 < (360 : Int) by decide)
    refine tk_Vi hC hK hw hT hA hE hSR kM_at0 (by decide) rfl (k_X12_isClosed_1 l adK adV dC dI cy ad B (by omega) (by omega) qr s1   r30 (show 0 ≤ r30.toInt by omega) (show r30.toInt ≤ 9 by omega) x38 (show 0 ≤ x38.toInt by omega) (show x38.toInt ≤ 359 by omega) w0 H.size hT ) (cwV 2 hC.2.2.2.2 gX12_isDayFor_X12_isClosed rfl rfl rfl (by decide +kernel) ⟨Nat.le_of_ble_eq_true rfl, Nat.le_of_ble_eq_true rfl⟩) rfl hl.1 rfl (Nat.le_of_ble_eq_true rfl) dX12_isDayFor_34 (fun r39 w41 H locs hp40 hw => ?_)
    obtain ⟨rfl, hg47⟩ := hp40
    rcases hg47 with rfl | ⟨rfl, ⟨x43, c44, rx43, tx43⟩, ⟨x45, c46, rx45, tx45⟩⟩
    · refine lv_if_ne (tgt := 62) hx hb dX12_isDayFor_37 (by decide) (fun c => absurd (by decide) c) (fun _ => ?_)
      refine lv_aload_n hx hb dX12_isDayFor_40 rfl (lv_at hl 0 rfl) ?_
      refine lv_aload_n hx hb dX12_isDayFor_41 rfl (lv_at hl 0 rfl) ?_
      refine lv_iload_n hx hb dX12_isDayFor_42 rfl (lv_at hl 1 rfl) ?_
      refine lv_iconst (v := 1) hx hb dX12_isDayFor_43 (by decide) ?_
      refine tk_Vi hC hK hw hT hA hE hSR kM_at0 (by decide) rfl (k_X12_streetOf_3 l adK adV dC dI cy ad B (by omega) (by omega) qr s1   a1 (show 0 ≤ a1.toInt by omega) (show a1.toInt ≤ 11 by omega) w0 H.size hT ) (cwV 2 hC.2.2.2.2 gX12_isDayFor_X12_streetOf rfl rfl rfl (by decide +kernel) ⟨Nat.le_of_ble_eq_true rfl, Nat.le_of_ble_eq_true rfl⟩) rfl hl.1 rfl (Nat.le_of_ble_eq_true rfl) dX12_isDayFor_44 (fun r48 w50 H locs hp49 hw => ?_)
      obtain ⟨rfl, hg55⟩ := hp49
      obtain ⟨g52, g53, c54⟩ := hg55
      refine lv_iload_n hx hb dX12_isDayFor_47 rfl (lv_at hl 3 rfl) ?_
      refine lv_sipush (v := 360) hx hb dX12_isDayFor_48 (by decide) ?_
      refine lv_irem hx hb dX12_isDayFor_51 (by decide) ?_
      refine lv_topi (fun x56 ex56 => ?_)
      have ex56 : x56.toInt = a3.toInt % (360 : Int) := by rw [ex56]; exact wk_rem (show 0 ≤ a3.toInt by omega) (show 0 < (360 : Int) by decide)
      refine tk_Vi hC hK hw hT hA hE hSR kM_at0 (by decide) rfl (k_X12_isClosed_1 l adK adV dC dI cy ad B (by omega) (by omega) qr s1   r48 (show 0 ≤ r48.toInt by omega) (show r48.toInt ≤ 9 by omega) x56 (show 0 ≤ x56.toInt by omega) (show x56.toInt ≤ 359 by omega) w0 H.size hT ) (cwV 2 hC.2.2.2.2 gX12_isDayFor_X12_isClosed rfl rfl rfl (by decide +kernel) ⟨Nat.le_of_ble_eq_true rfl, Nat.le_of_ble_eq_true rfl⟩) rfl hl.1 rfl (Nat.le_of_ble_eq_true rfl) dX12_isDayFor_52 (fun r57 w59 H locs hp58 hw => ?_)
      obtain ⟨rfl, hg65⟩ := hp58
      rcases hg65 with rfl | ⟨rfl, ⟨x61, c62, rx61, tx61⟩, ⟨x63, c64, rx63, tx63⟩⟩
      · refine lv_if_ne (tgt := 62) hx hb dX12_isDayFor_55 (by decide) (fun c => absurd (by decide) c) (fun _ => ?_)
        refine lv_iconst (v := 1) hx hb dX12_isDayFor_58 (by decide) ?_
        refine lv_goto (tgt := 63) hx hb dX12_isDayFor_59 (by decide) ?_
        exact tk_zret hC hr rfl hlocks hK ⟨rfl, (Or.inr (Or.inr (Or.inl rfl)))⟩ hw dX12_isDayFor_63
      · refine lv_if_ne (tgt := 62) hx hb dX12_isDayFor_55 (by decide) (fun _ => ?_) (fun c => absurd c (by decide))
        obtain rfl : x61 = 1 := wk_eq.mpr (show x61.toInt = 1 by omega)
        exact J62 r30 x63 H locs ls  (show 0 ≤ a1.toInt by omega) (show a1.toInt ≤ 11 by omega) (show 0 ≤ a2.toInt by omega) (show a2.toInt ≤ 9 by omega) (show 0 ≤ a3.toInt by omega) (show a3.toInt ≤ 44739247 by omega) (show 0 ≤ r30.toInt by omega) (show r30.toInt ≤ 9 by omega) (show 1 ≤ x63.toInt by omega) (show x63.toInt ≤ 8 by omega)  hw  c62 c36 c64 (lv_sub hl [0, 1, 2, 3] rfl)
    · refine lv_if_ne (tgt := 62) hx hb dX12_isDayFor_37 (by decide) (fun _ => ?_) (fun c => absurd c (by decide))
      obtain rfl : x43 = 1 := wk_eq.mpr (show x43.toInt = 1 by omega)
      exact J62 r30 x45 H locs ls  (show 0 ≤ a1.toInt by omega) (show a1.toInt ≤ 11 by omega) (show 0 ≤ a2.toInt by omega) (show a2.toInt ≤ 9 by omega) (show 0 ≤ a3.toInt by omega) (show a3.toInt ≤ 44739247 by omega) (show 0 ≤ r30.toInt by omega) (show r30.toInt ≤ 9 by omega) (show 1 ≤ x45.toInt by omega) (show x45.toInt ≤ 8 by omega)  hw  c44 c36 c46 (lv_sub hl [0, 1, 2, 3] rfl)
  · refine lv_if_ne (tgt := 22) hx hb dX12_isDayFor_17 (by decide) (fun _ => ?_) (fun c => absurd c (by decide))
    refine lv_aload_n hx hb dX12_isDayFor_22 rfl (lv_at hl 0 rfl) ?_
    refine lv_aload_n hx hb dX12_isDayFor_23 rfl (lv_at hl 0 rfl) ?_
    refine lv_iload_n hx hb dX12_isDayFor_24 rfl (lv_at hl 1 rfl) ?_
    refine lv_iconst (v := 0) hx hb dX12_isDayFor_25 (by decide) ?_
    refine tk_Vi hC hK hw hT hA hE hSR kM_at0 (by decide) rfl (k_X12_streetOf_2 l adK adV dC dI cy ad B (by omega) (by omega) qr s1   a1 (show 0 ≤ a1.toInt by omega) (show a1.toInt ≤ 11 by omega) w0 H.size hT ) (cwV 2 hC.2.2.2.2 gX12_isDayFor_X12_streetOf rfl rfl rfl (by decide +kernel) ⟨Nat.le_of_ble_eq_true rfl, Nat.le_of_ble_eq_true rfl⟩) rfl hl.1 rfl (Nat.le_of_ble_eq_true rfl) dX12_isDayFor_26 (fun r66 w68 H locs hp67 hw => ?_)
    obtain ⟨rfl, hg73⟩ := hp67
    obtain ⟨g70, g71, c72⟩ := hg73
    obtain rfl : r66 = a2 := c72.symm.trans c28
    refine lv_iload_n hx hb dX12_isDayFor_29 rfl (lv_at hl 3 rfl) ?_
    refine lv_sipush (v := 360) hx hb dX12_isDayFor_30 (by decide) ?_
    refine lv_irem hx hb dX12_isDayFor_33 (by decide) ?_
    refine lv_topi (fun x74 ex74 => ?_)
    have ex74 : x74.toInt = a3.toInt % (360 : Int) := by rw [ex74]; exact wk_rem (show 0 ≤ a3.toInt by omega) (show 0 < (360 : Int) by decide)
    refine tk_Vi hC hK hw hT hA hE hSR kM_at0 (by decide) rfl (k_X12_isClosed_1 l adK adV dC dI cy ad B (by omega) (by omega) qr s1   a2 (show 0 ≤ a2.toInt by omega) (show a2.toInt ≤ 9 by omega) x74 (show 0 ≤ x74.toInt by omega) (show x74.toInt ≤ 359 by omega) w0 H.size hT ) (cwV 2 hC.2.2.2.2 gX12_isDayFor_X12_isClosed rfl rfl rfl (by decide +kernel) ⟨Nat.le_of_ble_eq_true rfl, Nat.le_of_ble_eq_true rfl⟩) rfl hl.1 rfl (Nat.le_of_ble_eq_true rfl) dX12_isDayFor_34 (fun r75 w77 H locs hp76 hw => ?_)
    obtain ⟨rfl, hg83⟩ := hp76
    rcases hg83 with rfl | ⟨rfl, ⟨x79, c80, rx79, tx79⟩, ⟨x81, c82, rx81, tx81⟩⟩
    · refine lv_if_ne (tgt := 62) hx hb dX12_isDayFor_37 (by decide) (fun c => absurd (by decide) c) (fun _ => ?_)
      refine lv_aload_n hx hb dX12_isDayFor_40 rfl (lv_at hl 0 rfl) ?_
      refine lv_aload_n hx hb dX12_isDayFor_41 rfl (lv_at hl 0 rfl) ?_
      refine lv_iload_n hx hb dX12_isDayFor_42 rfl (lv_at hl 1 rfl) ?_
      refine lv_iconst (v := 1) hx hb dX12_isDayFor_43 (by decide) ?_
      refine tk_Vi hC hK hw hT hA hE hSR kM_at0 (by decide) rfl (k_X12_streetOf_3 l adK adV dC dI cy ad B (by omega) (by omega) qr s1   a1 (show 0 ≤ a1.toInt by omega) (show a1.toInt ≤ 11 by omega) w0 H.size hT ) (cwV 2 hC.2.2.2.2 gX12_isDayFor_X12_streetOf rfl rfl rfl (by decide +kernel) ⟨Nat.le_of_ble_eq_true rfl, Nat.le_of_ble_eq_true rfl⟩) rfl hl.1 rfl (Nat.le_of_ble_eq_true rfl) dX12_isDayFor_44 (fun r84 w86 H locs hp85 hw => ?_)
      obtain ⟨rfl, hg91⟩ := hp85
      obtain ⟨g88, g89, c90⟩ := hg91
      refine lv_iload_n hx hb dX12_isDayFor_47 rfl (lv_at hl 3 rfl) ?_
      refine lv_sipush (v := 360) hx hb dX12_isDayFor_48 (by decide) ?_
      refine lv_irem hx hb dX12_isDayFor_51 (by decide) ?_
      refine lv_topi (fun x92 ex92 => ?_)
      have ex92 : x92.toInt = a3.toInt % (360 : Int) := by rw [ex92]; exact wk_rem (show 0 ≤ a3.toInt by omega) (show 0 < (360 : Int) by decide)
      refine tk_Vi hC hK hw hT hA hE hSR kM_at0 (by decide) rfl (k_X12_isClosed_1 l adK adV dC dI cy ad B (by omega) (by omega) qr s1   r84 (show 0 ≤ r84.toInt by omega) (show r84.toInt ≤ 9 by omega) x92 (show 0 ≤ x92.toInt by omega) (show x92.toInt ≤ 359 by omega) w0 H.size hT ) (cwV 2 hC.2.2.2.2 gX12_isDayFor_X12_isClosed rfl rfl rfl (by decide +kernel) ⟨Nat.le_of_ble_eq_true rfl, Nat.le_of_ble_eq_true rfl⟩) rfl hl.1 rfl (Nat.le_of_ble_eq_true rfl) dX12_isDayFor_52 (fun r93 w95 H locs hp94 hw => ?_)
      obtain ⟨rfl, hg101⟩ := hp94
      rcases hg101 with rfl | ⟨rfl, ⟨x97, c98, rx97, tx97⟩, ⟨x99, c100, rx99, tx99⟩⟩
      · refine lv_if_ne (tgt := 62) hx hb dX12_isDayFor_55 (by decide) (fun c => absurd (by decide) c) (fun _ => ?_)
        refine lv_iconst (v := 1) hx hb dX12_isDayFor_58 (by decide) ?_
        refine lv_goto (tgt := 63) hx hb dX12_isDayFor_59 (by decide) ?_
        exact tk_zret hC hr rfl hlocks hK ⟨rfl, (Or.inr (Or.inr (Or.inr ⟨rfl, c28⟩)))⟩ hw dX12_isDayFor_63
      · refine lv_if_ne (tgt := 62) hx hb dX12_isDayFor_55 (by decide) (fun _ => ?_) (fun c => absurd c (by decide))
        obtain rfl : x97 = 1 := wk_eq.mpr (show x97.toInt = 1 by omega)
        exact J62 a2 x99 H locs ls  (show 0 ≤ a1.toInt by omega) (show a1.toInt ≤ 11 by omega) (show 0 ≤ a2.toInt by omega) (show a2.toInt ≤ 9 by omega) (show 0 ≤ a3.toInt by omega) (show a3.toInt ≤ 44739247 by omega) (show 0 ≤ a2.toInt by omega) (show a2.toInt ≤ 9 by omega) (show 1 ≤ x99.toInt by omega) (show x99.toInt ≤ 8 by omega)  hw  c98 c28 c100 (lv_sub hl [0, 1, 2, 3] rfl)
    · refine lv_if_ne (tgt := 62) hx hb dX12_isDayFor_37 (by decide) (fun _ => ?_) (fun c => absurd c (by decide))
      obtain rfl : x79 = 1 := wk_eq.mpr (show x79.toInt = 1 by omega)
      exact J62 a2 x81 H locs ls  (show 0 ≤ a1.toInt by omega) (show a1.toInt ≤ 11 by omega) (show 0 ≤ a2.toInt by omega) (show a2.toInt ≤ 9 by omega) (show 0 ≤ a3.toInt by omega) (show a3.toInt ≤ 44739247 by omega) (show 0 ≤ a2.toInt by omega) (show a2.toInt ≤ 9 by omega) (show 1 ≤ x81.toInt by omega) (show x81.toInt ≤ 8 by omega)  hw  c80 c28 c82 (lv_sub hl [0, 1, 2, 3] rfl)
abbrev P_X12_isLifted_4 (ad : Nat → Nat) (cy : Nat → ClassId) (B : Int) (qr : Nat) (s1 : Int) (a1 : Int32) (a2 : Int32) (w0 : va_W) : Int32 → va_W → Prop := fun r u => w0 = u ∧ ((r = 0) ∨ (r = 1 ∧ (∃ y : Int32, gi u 12 3 = y ∧ 1 ≤ y.toInt ∧ y.toInt ≤ 4)))
set_option maxHeartbeats 4000000 in
set_option maxRecDepth 100000 in
theorem k_X12_isLifted_4 (l : Launch) (adK adV : Nat → Nat) (dC : Nat → ClassId) (dI : Nat → Nat → Nat) (cy : Nat → ClassId) (ad : Nat → Nat) (B : Int) (hB0 : 100000 ≤ B) (hB1 : B ≤ 1073741824) (qr : Nat) (s1 : Int)  (a1 : Int32) (ra1 : 0 ≤ a1.toInt) (ta1 : a1.toInt ≤ 11) (a2 : Int32) (ra2 : 0 ≤ a2.toInt) (ta2 : a2.toInt ≤ 1073741944) (w0 : va_W) (sz : Nat) (hT : TW ksM ad cy B qr 12 w0)  : Met l yX12_isLifted wsX12_isLifted ({ frames := 1, cells := 0, slots := 0, locals := 12 }) (va_Pc [.ref (ad 0), .int a1, .int a2] (wpreS adK adV dC dI cy sz w0)) (va_Qi (P_X12_isLifted_4 ad cy B qr s1 a1 a2 w0) (fun u : va_W => wpost dC dI cy (va_A w0 sz) u) (va_A w0 sz)) 0 0 (va_A w0 sz) := by
  refine Met.ofW (cc := cX12_isLifted) (maxL := 5) (ret := (some .boolean)) (by decide) rfl ?_
  intro p e s m args below meth c s₁ Bk hml hv
  obtain ⟨rfl, ⟨hsz, hP, hK, hD0⟩, hE, hSR⟩ := hv
  have hx := Bk.exec
  have hb := Bk.bytes
  have hr := Bk.returns
  have hlocks := Bk.notSynchronized
  have hC : CallFix p m c cX12_isLifted 5 s _ wsX12_isLifted RX12 := ⟨hx, hb, hml, findClass_of_methodNamed Bk.named, atoms_spec (ws := wsX12_isLifted) Bk.pre⟩
  subst hsz
  have hD := hD0.self (sz := s.heap.size)
  generalize hAe : va_A w0 s.heap.size = A at hD hE ⊢
  have hA : ∀ q : Nat, s.heap.size ≤ q → A q := fun q h => by rw [← hAe]; exact Or.inr h
  have hw : Wd dC dI A s.heap s.heap [] w0 := ⟨hP, hD, va_S.rf⟩
  have hF : FE ksM ([] : List (Nat × Nat × Nat)) w0 w0 := FE.rf
  have hl := lv_entry ([.ref (ad 0), .int a1, .int a2]) (n := 5) (Nat.le_of_ble_eq_true rfl)
  rw [lg_entry_eq]
  generalize (lg_sl ([.ref (ad 0), .int a1, .int a2]) ++ List.replicate (5 - (lg_sl ([.ref (ad 0), .int a1, .int a2])).length) Slot.unset).toArray = ls at hl ⊢
  have hl : lv_has ls 5 [(0, .ref (ad 0)), (1, .int a1), (2, .int a2)] := hl
  generalize hloc : ([] : List Loc) = locs at hw ⊢
  have hinX12 : ∀ w ∈ u_ws RX12 TX12 42, w ∈ wsX12_isLifted := fun _ h => List.mem_cons_of_mem _ (List.mem_append_right _ (h))
  have L2 : ∀ (n2 : Nat) (v2_3 : Int32) (H : Heap) (locs : List Loc) (ls : Array Slot), 0 ≤ a1.toInt → a1.toInt ≤ 11 → 0 ≤ a2.toInt → a2.toInt ≤ 1073741944 → 0 ≤ v2_3.toInt → v2_3.toInt ≤ 4 → (4 - v2_3.toInt).toNat < n2 → Wd dC dI A s.heap H locs w0 → lv_has ls 5 [(0, .ref (ad 0)), (1, .int a1), (2, .int a2), (3, .int v2_3)] → W p l e ({ frames := 1, cells := 0, slots := 0, locals := 12 }) s m (List.toArray [.ref (ad 0), .int a1, .int a2]) below meth c H locs 0 0 (MQ below (va_Qi (P_X12_isLifted_4 ad cy B qr s1 a1 a2 w0) (fun u : va_W => wpost dC dI cy A u) A) (List.toArray [.ref (ad 0), .int a1, .int a2]) s 0 0 A) (F0 m 2 ls []) := by
    intro n2
    induction n2 with
    | zero => intro v2_3 H locs ls r1 t2 r3 t4 r5 t6 hm2 hw hl; omega
    | succ n2 ih2 =>
      intro v2_3 H locs ls r1 t2 r3 t4 r5 t6 hm2 hw hl
      have J66 : ∀ (v66_4 : Int32) (f66_12__3_v2_3_toInt_156_toNat : Int32) (f66_12_3 : Int32) (H : Heap) (locs : List Loc) (ls : Array Slot), 0 ≤ a1.toInt → a1.toInt ≤ 11 → 0 ≤ a2.toInt → a2.toInt ≤ 1073741944 → 0 ≤ v2_3.toInt → v2_3.toInt ≤ 3 → 156 ≤ v66_4.toInt → v66_4.toInt ≤ 165 → v66_4.toInt = 3 * v2_3.toInt + 156 → 1 ≤ f66_12_3.toInt → f66_12_3.toInt ≤ 4 → Wd dC dI A s.heap H locs w0 → gi w0 12 (3 * v2_3.toInt + 156).toNat = f66_12__3_v2_3_toInt_156_toNat → gi w0 12 3 = f66_12_3 → lv_has ls 5 [(0, .ref (ad 0)), (1, .int a1), (2, .int a2), (3, .int v2_3), (4, .int v66_4)] → W p l e ({ frames := 1, cells := 0, slots := 0, locals := 12 }) s m (List.toArray [.ref (ad 0), .int a1, .int a2]) below meth c H locs 0 0 (MQ below (va_Qi (P_X12_isLifted_4 ad cy B qr s1 a1 a2 w0) (fun u : va_W => wpost dC dI cy A u) A) (List.toArray [.ref (ad 0), .int a1, .int a2]) s 0 0 A) (F0 m 66 ls []) := by
        intro v66_4 f66_12__3_v2_3_toInt_156_toNat f66_12_3 H locs ls r7 t8 r9 t10 r11 t12 r13 t14 l15 r17 t18 hw c16 c19 hl
        obtain ⟨x20, ex20⟩ : ∃ y : Int32, y = v2_3 + Int32.ofInt 1 := ⟨_, rfl⟩
        refine lv_iinc (v := x20) (lv' := [(3, .int x20), (0, .ref (ad 0)), (1, .int a1), (2, .int a2), (4, .int v66_4)]) hx hb dX12_isLifted_66 hl (k := 3) rfl ex20.symm (by decide) rfl (fun ls hl => ?_)
        have ex20 : x20.toInt = v2_3.toInt + 1 := by rw [ex20]; exact wk_add (y := 1) (show -2147483648 ≤ v2_3.toInt + 1 by omega) (show v2_3.toInt + 1 ≤ 2147483647 by omega)
        refine lv_goto (tgt := 2) hx hb dX12_isLifted_69 (by decide) ?_
        exact ih2 x20 H locs ls  (show 0 ≤ a1.toInt by omega) (show a1.toInt ≤ 11 by omega) (show 0 ≤ a2.toInt by omega) (show a2.toInt ≤ 1073741944 by omega) (show 0 ≤ x20.toInt by omega) (show x20.toInt ≤ 4 by omega) (show (4 - x20.toInt).toNat < n2 by omega) hw   (lv_sub hl [1, 2, 3, 0] rfl)
      refine lv_iload_n hx hb dX12_isLifted_2 rfl (lv_at hl 3 rfl) ?_
      refine lv_aload_n hx hb dX12_isLifted_3 rfl (lv_at hl 0 rfl) ?_
      refine tk_getA hC hK hw hT hinX12 kM_at0 (by decide) rfl 26 (by decide) (List.mem_of_getElem? (i := 1) rfl) rfl rfl dX12_isLifted_4 ?_
      refine lv_iconst (v := 3) hx hb dX12_isLifted_7 (by decide) ?_
      refine tk_ialdR hC hK hw hT kM_at12 rfl (by decide) (by decide) dX12_isLifted_8 (fun x21 c22 Ex21 => ?_)
      have bx21 := tk_rgI rfl 3 1 1 0 4 (by decide +kernel) ⟨0, by decide, by decide⟩ Ex21
      have c22 : gi w0 12 3 = x21 := c22
      refine lv_icmp_ge (tgt := 72) hx hb dX12_isLifted_9 (by decide) (fun c23 => ?_) (fun c23 => ?_)
      · have c23 : x21.toInt ≤ v2_3.toInt := wk_le.mp c23
        refine lv_iconst (v := 0) hx hb dX12_isLifted_72 (by decide) ?_
        exact tk_zret hC hr rfl hlocks hK ⟨rfl, (Or.inl rfl)⟩ hw dX12_isLifted_73
      · have c23 : v2_3.toInt < x21.toInt := wk_leF c23
        refine lv_sipush (v := 156) hx hb dX12_isLifted_12 (by decide) ?_
        refine lv_iconst (v := 3) hx hb dX12_isLifted_15 (by decide) ?_
        refine lv_iload_n hx hb dX12_isLifted_16 rfl (lv_at hl 3 rfl) ?_
        refine lv_imul hx hb dX12_isLifted_17 ?_
        refine lv_topi (fun x24 ex24 => ?_)
        have ex24 : x24.toInt = (3 : Int) * v2_3.toInt := by rw [ex24]; exact wk_mul (show (-2147483648) ≤ (3 : Int) * v2_3.toInt by omega) (show (3 : Int) * v2_3.toInt ≤ 2147483647 by omega)
        refine lv_iadd hx hb dX12_isLifted_18 ?_
        refine lv_topi (fun x25 ex25 => ?_)
        have ex25 : x25.toInt = (156 : Int) + x24.toInt := by rw [ex25]; exact wk_add (show (-2147483648) ≤ (156 : Int) + x24.toInt by omega) (show (156 : Int) + x24.toInt ≤ 2147483647 by omega)
        refine lv_istore (lv' := [(4, .int x25), (0, .ref (ad 0)), (1, .int a1), (2, .int a2), (3, .int v2_3)]) hx hb dX12_isLifted_19 hl (by decide) rfl (fun ls hl => ?_)
        refine lv_aload_n hx hb dX12_isLifted_21 rfl (lv_at hl 1 rfl) ?_
        refine tk_getA hC hK hw hT hinX12 kM_at0 (by decide) rfl 26 (by decide) (List.mem_of_getElem? (i := 1) rfl) rfl rfl dX12_isLifted_22 ?_
        refine lv_iload hx hb dX12_isLifted_25 (lv_at hl 0 rfl) ?_
        refine tk_ialdR hC hK hw hT kM_at12 rfl (show 0 ≤ x25.toInt by omega) (show x25.toInt < 296 by omega) dX12_isLifted_27 (fun x26 c27 Ex26 => ?_)
        have c27 : gi w0 12 (3 * v2_3.toInt + 156).toNat = x26 := (congrArg (gi w0 12) (congrArg Int.toNat (show 3 * v2_3.toInt + 156 = x25.toInt by omega))).trans c27
        refine lv_iload_n hx hb dX12_isLifted_28 rfl (lv_at hl 2 rfl) ?_
        refine lv_icmp_ne (tgt := 66) hx hb dX12_isLifted_29 (by decide) (fun c28 => ?_) (fun c28 => ?_)
        · have c28 : ¬ x26.toInt = a1.toInt := wk_eqF c28
          exact J66 x25 x26 x21 H locs ls  (show 0 ≤ a1.toInt by omega) (show a1.toInt ≤ 11 by omega) (show 0 ≤ a2.toInt by omega) (show a2.toInt ≤ 1073741944 by omega) (show 0 ≤ v2_3.toInt by omega) (show v2_3.toInt ≤ 3 by omega) (show 156 ≤ x25.toInt by omega) (show x25.toInt ≤ 165 by omega) (show x25.toInt = 3 * v2_3.toInt + 156 by omega) (show 1 ≤ x21.toInt by omega) (show x21.toInt ≤ 4 by omega)  hw  c27 c22 (lv_sub hl [1, 2, 3, 4, 0] rfl)
        · have c28 : x26.toInt = a1.toInt := wk_eq.mp c28
          refine lv_iload_n hx hb dX12_isLifted_32 rfl (lv_at hl 3 rfl) ?_
          refine lv_bipush (v := 24) hx hb dX12_isLifted_33 (by decide) ?_
          refine lv_irem hx hb dX12_isLifted_35 (by decide) ?_
          refine lv_topi (fun x29 ex29 => ?_)
          have ex29 : x29.toInt = a2.toInt % (24 : Int) := by rw [ex29]; exact wk_rem (show 0 ≤ a2.toInt by omega) (show 0 < (24 : Int) by decide)
          refine lv_aload_n hx hb dX12_isLifted_36 rfl (lv_at hl 1 rfl) ?_
          refine tk_getA hC hK hw hT hinX12 kM_at0 (by decide) rfl 26 (by decide) (List.mem_of_getElem? (i := 1) rfl) rfl rfl dX12_isLifted_37 ?_
          refine lv_iload hx hb dX12_isLifted_40 (lv_at hl 0 rfl) ?_
          refine lv_iconst (v := 1) hx hb dX12_isLifted_42 (by decide) ?_
          refine lv_iadd hx hb dX12_isLifted_43 ?_
          refine lv_topi (fun x30 ex30 => ?_)
          have ex30 : x30.toInt = x25.toInt + (1 : Int) := by rw [ex30]; exact wk_add (show (-2147483648) ≤ x25.toInt + (1 : Int) by omega) (show x25.toInt + (1 : Int) ≤ 2147483647 by omega)
          refine tk_ialdR hC hK hw hT kM_at12 rfl (show 0 ≤ x30.toInt by omega) (show x30.toInt < 296 by omega) dX12_isLifted_44 (fun x31 c32 Ex31 => ?_)
          have c32 : gi w0 12 (3 * v2_3.toInt + 157).toNat = x31 := (congrArg (gi w0 12) (congrArg Int.toNat (show 3 * v2_3.toInt + 157 = x30.toInt by omega))).trans c32
          refine lv_icmp_lt (tgt := 66) hx hb dX12_isLifted_45 (by decide) (fun c33 => ?_) (fun c33 => ?_)
          · have c33 : x29.toInt < x31.toInt := wk_lt.mp c33
            exact J66 x25 x26 x21 H locs ls  (show 0 ≤ a1.toInt by omega) (show a1.toInt ≤ 11 by omega) (show 0 ≤ a2.toInt by omega) (show a2.toInt ≤ 1073741944 by omega) (show 0 ≤ v2_3.toInt by omega) (show v2_3.toInt ≤ 3 by omega) (show 156 ≤ x25.toInt by omega) (show x25.toInt ≤ 165 by omega) (show x25.toInt = 3 * v2_3.toInt + 156 by omega) (show 1 ≤ x21.toInt by omega) (show x21.toInt ≤ 4 by omega)  hw  c27 c22 (lv_sub hl [1, 2, 3, 4, 0] rfl)
          · have c33 : x31.toInt ≤ x29.toInt := wk_ltF c33
            refine lv_iload_n hx hb dX12_isLifted_48 rfl (lv_at hl 3 rfl) ?_
            refine lv_bipush (v := 24) hx hb dX12_isLifted_49 (by decide) ?_
            refine lv_irem hx hb dX12_isLifted_51 (by decide) ?_
            refine lv_topi (fun x34 ex34 => ?_)
            have ex34 : x34.toInt = a2.toInt % (24 : Int) := by rw [ex34]; exact wk_rem (show 0 ≤ a2.toInt by omega) (show 0 < (24 : Int) by decide)
            refine lv_aload_n hx hb dX12_isLifted_52 rfl (lv_at hl 1 rfl) ?_
            refine tk_getA hC hK hw hT hinX12 kM_at0 (by decide) rfl 26 (by decide) (List.mem_of_getElem? (i := 1) rfl) rfl rfl dX12_isLifted_53 ?_
            refine lv_iload hx hb dX12_isLifted_56 (lv_at hl 0 rfl) ?_
            refine lv_iconst (v := 2) hx hb dX12_isLifted_58 (by decide) ?_
            refine lv_iadd hx hb dX12_isLifted_59 ?_
            refine lv_topi (fun x35 ex35 => ?_)
            have ex35 : x35.toInt = x25.toInt + (2 : Int) := by rw [ex35]; exact wk_add (show (-2147483648) ≤ x25.toInt + (2 : Int) by omega) (show x25.toInt + (2 : Int) ≤ 2147483647 by omega)
            refine tk_ialdR hC hK hw hT kM_at12 rfl (show 0 ≤ x35.toInt by omega) (show x35.toInt < 296 by omega) dX12_isLifted_60 (fun x36 c37 Ex36 => ?_)
            have c37 : gi w0 12 (3 * v2_3.toInt + 158).toNat = x36 := (congrArg (gi w0 12) (congrArg Int.toNat (show 3 * v2_3.toInt + 158 = x35.toInt by omega))).trans c37
            refine lv_icmp_ge (tgt := 66) hx hb dX12_isLifted_61 (by decide) (fun c38 => ?_) (fun c38 => ?_)
            · have c38 : x36.toInt ≤ x34.toInt := wk_le.mp c38
              exact J66 x25 x26 x21 H locs ls  (show 0 ≤ a1.toInt by omega) (show a1.toInt ≤ 11 by omega) (show 0 ≤ a2.toInt by omega) (show a2.toInt ≤ 1073741944 by omega) (show 0 ≤ v2_3.toInt by omega) (show v2_3.toInt ≤ 3 by omega) (show 156 ≤ x25.toInt by omega) (show x25.toInt ≤ 165 by omega) (show x25.toInt = 3 * v2_3.toInt + 156 by omega) (show 1 ≤ x21.toInt by omega) (show x21.toInt ≤ 4 by omega)  hw  c27 c22 (lv_sub hl [1, 2, 3, 4, 0] rfl)
            · have c38 : x34.toInt < x36.toInt := wk_leF c38
              refine lv_iconst (v := 1) hx hb dX12_isLifted_64 (by decide) ?_
              exact tk_zret hC hr rfl hlocks hK ⟨rfl, (Or.inr ⟨rfl, ⟨x21, c22, (show 1 ≤ x21.toInt by omega), (show x21.toInt ≤ 4 by omega)⟩⟩)⟩ hw dX12_isLifted_65
  refine lv_iconst (v := 0) hx hb dX12_isLifted_0 (by decide) ?_
  refine lv_istore_n (lv' := [(3, .int 0), (0, .ref (ad 0)), (1, .int a1), (2, .int a2)]) hx hb dX12_isLifted_1 rfl hl (by decide) rfl (fun ls hl => ?_)
  exact L2 ((4 - (0 : Int)).toNat + 1) 0 s.heap locs ls  (show 0 ≤ a1.toInt by omega) (show a1.toInt ≤ 11 by omega) (show 0 ≤ a2.toInt by omega) (show a2.toInt ≤ 1073741944 by omega) (by decide) (by decide) (Nat.lt_succ_self _) hw   (lv_sub hl [1, 2, 3, 0] rfl)
abbrev P_X12_isOpen_2 (ad : Nat → Nat) (cy : Nat → ClassId) (B : Int) (qr : Nat) (s1 : Int) (a1 : Int32) (a2 : Int32) (a3 : Int32) (w0 : va_W) : Int32 → va_W → Prop := fun r u => w0 = u ∧ ((r = 0) ∨ (r = 1) ∨ (r = 1 ∧ gi u 12 (10 * a1.toInt + 10).toNat = a2))
set_option maxHeartbeats 4000000 in
set_option maxRecDepth 100000 in
theorem k_X12_isOpen_2 (l : Launch) (adK adV : Nat → Nat) (dC : Nat → ClassId) (dI : Nat → Nat → Nat) (cy : Nat → ClassId) (ad : Nat → Nat) (B : Int) (hB0 : 100000 ≤ B) (hB1 : B ≤ 1073741824) (qr : Nat) (s1 : Int)  (a1 : Int32) (ra1 : 0 ≤ a1.toInt) (ta1 : a1.toInt ≤ 11) (a2 : Int32) (ra2 : 0 ≤ a2.toInt) (ta2 : a2.toInt ≤ 9) (a3 : Int32) (ra3 : 0 ≤ a3.toInt) (ta3 : a3.toInt ≤ 1073741944) (w0 : va_W) (sz : Nat) (hT : TW ksM ad cy B qr 12 w0)  : Met l yX12_isOpen wsX12_isOpen ({ frames := 4, cells := 0, slots := 0, locals := 80 }) (va_Pc [.ref (ad 0), .int a1, .int a2, .int a3] (wpreS adK adV dC dI cy sz w0)) (va_Qi (P_X12_isOpen_2 ad cy B qr s1 a1 a2 a3 w0) (fun u : va_W => wpost dC dI cy (va_A w0 sz) u) (va_A w0 sz)) 0 0 (va_A w0 sz) := by
  refine Met.ofW (cc := cX12_isOpen) (maxL := 4) (ret := (some .boolean)) (by decide) rfl ?_
  intro p e s m args below meth c s₁ Bk hml hv
  obtain ⟨rfl, ⟨hsz, hP, hK, hD0⟩, hE, hSR⟩ := hv
  have hx := Bk.exec
  have hb := Bk.bytes
  have hr := Bk.returns
  have hlocks := Bk.notSynchronized
  have hC : CallFix p m c cX12_isOpen 4 s _ wsX12_isOpen RX12 := ⟨hx, hb, hml, findClass_of_methodNamed Bk.named, atoms_spec (ws := wsX12_isOpen) Bk.pre⟩
  subst hsz
  have hD := hD0.self (sz := s.heap.size)
  generalize hAe : va_A w0 s.heap.size = A at hD hE ⊢
  have hA : ∀ q : Nat, s.heap.size ≤ q → A q := fun q h => by rw [← hAe]; exact Or.inr h
  have hw : Wd dC dI A s.heap s.heap [] w0 := ⟨hP, hD, va_S.rf⟩
  have hF : FE ksM ([] : List (Nat × Nat × Nat)) w0 w0 := FE.rf
  have hl := lv_entry ([.ref (ad 0), .int a1, .int a2, .int a3]) (n := 4) (Nat.le_of_ble_eq_true rfl)
  rw [lg_entry_eq]
  generalize (lg_sl ([.ref (ad 0), .int a1, .int a2, .int a3]) ++ List.replicate (4 - (lg_sl ([.ref (ad 0), .int a1, .int a2, .int a3])).length) Slot.unset).toArray = ls at hl ⊢
  have hl : lv_has ls 4 [(0, .ref (ad 0)), (1, .int a1), (2, .int a2), (3, .int a3)] := hl
  generalize hloc : ([] : List Loc) = locs at hw ⊢
  have J35 : ∀ (H : Heap) (locs : List Loc) (ls : Array Slot), 0 ≤ a1.toInt → a1.toInt ≤ 11 → 0 ≤ a2.toInt → a2.toInt ≤ 9 → 0 ≤ a3.toInt → a3.toInt ≤ 1073741944 → Wd dC dI A s.heap H locs w0 → lv_has ls 4 [(0, .ref (ad 0)), (1, .int a1), (2, .int a2), (3, .int a3)] → W p l e ({ frames := 4, cells := 0, slots := 0, locals := 80 }) s m (List.toArray [.ref (ad 0), .int a1, .int a2, .int a3]) below meth c H locs 0 0 (MQ below (va_Qi (P_X12_isOpen_2 ad cy B qr s1 a1 a2 a3 w0) (fun u : va_W => wpost dC dI cy A u) A) (List.toArray [.ref (ad 0), .int a1, .int a2, .int a3]) s 0 0 A) (F0 m 35 ls []) := by
    intro H locs ls r1 t2 r3 t4 r5 t6 hw hl
    refine lv_iconst (v := 0) hx hb dX12_isOpen_35 (by decide) ?_
    exact tk_zret hC hr rfl hlocks hK ⟨rfl, (Or.inl rfl)⟩ hw dX12_isOpen_36
  refine lv_aload_n hx hb dX12_isOpen_0 rfl (lv_at hl 0 rfl) ?_
  refine lv_iload_n hx hb dX12_isOpen_1 rfl (lv_at hl 1 rfl) ?_
  refine lv_iload_n hx hb dX12_isOpen_2 rfl (lv_at hl 2 rfl) ?_
  refine tk_Vi hC hK hw hT hA hE hSR kM_at0 (by decide) rfl (k_X12_isAt_1 l adK adV dC dI cy ad B (by omega) (by omega) qr s1   a1 (show 0 ≤ a1.toInt by omega) (show a1.toInt ≤ 11 by omega) a2 (show 0 ≤ a2.toInt by omega) (show a2.toInt ≤ 9 by omega) w0 s.heap.size hT ) (cwV 2 hC.2.2.2.2 gX12_isOpen_X12_isAt rfl rfl rfl (by decide +kernel) ⟨Nat.le_of_ble_eq_true rfl, Nat.le_of_ble_eq_true rfl⟩) rfl hl.1 rfl (Nat.le_of_ble_eq_true rfl) dX12_isOpen_3 (fun r7 w9 H locs hp8 hw => ?_)
  obtain ⟨rfl, hg11⟩ := hp8
  rcases hg11 with rfl | rfl
  · refine lv_if_eq (tgt := 35) hx hb dX12_isOpen_6 (by decide) (fun _ => ?_) (fun c => absurd (by decide) c)
    exact J35  H locs ls  (show 0 ≤ a1.toInt by omega) (show a1.toInt ≤ 11 by omega) (show 0 ≤ a2.toInt by omega) (show a2.toInt ≤ 9 by omega) (show 0 ≤ a3.toInt by omega) (show a3.toInt ≤ 1073741944 by omega)  hw   (lv_sub hl [0, 1, 2, 3] rfl)
  · refine lv_if_eq (tgt := 35) hx hb dX12_isOpen_6 (by decide) (fun c => absurd c (by decide)) (fun _ => ?_)
    refine lv_aload_n hx hb dX12_isOpen_9 rfl (lv_at hl 0 rfl) ?_
    refine lv_iload_n hx hb dX12_isOpen_10 rfl (lv_at hl 1 rfl) ?_
    refine lv_iload_n hx hb dX12_isOpen_11 rfl (lv_at hl 2 rfl) ?_
    refine lv_iload_n hx hb dX12_isOpen_12 rfl (lv_at hl 3 rfl) ?_
    refine lv_bipush (v := 24) hx hb dX12_isOpen_13 (by decide) ?_
    refine lv_idiv hx hb dX12_isOpen_15 (by decide) ?_
    refine lv_topi (fun x12 ex12 => ?_)
    have ex12 : x12.toInt = a3.toInt / (24 : Int) := by rw [ex12]; exact wk_div (show 0 ≤ a3.toInt by omega) (show 0 < (24 : Int) by decide)
    refine tk_Vi hC hK hw hT hA hE hSR kM_at0 (by decide) rfl (k_X12_isDayFor_4 l adK adV dC dI cy ad B (by omega) (by omega) qr s1   a1 (show 0 ≤ a1.toInt by omega) (show a1.toInt ≤ 11 by omega) a2 (show 0 ≤ a2.toInt by omega) (show a2.toInt ≤ 9 by omega) x12 (show 0 ≤ x12.toInt by omega) (show x12.toInt ≤ 44739247 by omega) w0 H.size hT ) (cwV 3 hC.2.2.2.2 gX12_isOpen_X12_isDayFor rfl rfl rfl (by decide +kernel) ⟨Nat.le_of_ble_eq_true rfl, Nat.le_of_ble_eq_true rfl⟩) rfl hl.1 rfl (Nat.le_of_ble_eq_true rfl) dX12_isOpen_16 (fun r13 w15 H locs hp14 hw => ?_)
    obtain ⟨rfl, hg19⟩ := hp14
    rcases hg19 with rfl | ⟨rfl, c17⟩ | rfl | ⟨rfl, c18⟩
    · refine lv_if_eq (tgt := 35) hx hb dX12_isOpen_19 (by decide) (fun _ => ?_) (fun c => absurd (by decide) c)
      exact J35  H locs ls  (show 0 ≤ a1.toInt by omega) (show a1.toInt ≤ 11 by omega) (show 0 ≤ a2.toInt by omega) (show a2.toInt ≤ 9 by omega) (show 0 ≤ a3.toInt by omega) (show a3.toInt ≤ 1073741944 by omega)  hw   (lv_sub hl [0, 1, 2, 3] rfl)
    · refine lv_if_eq (tgt := 35) hx hb dX12_isOpen_19 (by decide) (fun _ => ?_) (fun c => absurd (by decide) c)
      exact J35  H locs ls  (show 0 ≤ a1.toInt by omega) (show a1.toInt ≤ 11 by omega) (show 0 ≤ a2.toInt by omega) (show a2.toInt ≤ 9 by omega) (show 0 ≤ a3.toInt by omega) (show a3.toInt ≤ 1073741944 by omega)  hw   (lv_sub hl [0, 1, 2, 3] rfl)
    · refine lv_if_eq (tgt := 35) hx hb dX12_isOpen_19 (by decide) (fun c => absurd c (by decide)) (fun _ => ?_)
      refine lv_aload_n hx hb dX12_isOpen_22 rfl (lv_at hl 0 rfl) ?_
      refine lv_iload_n hx hb dX12_isOpen_23 rfl (lv_at hl 1 rfl) ?_
      refine lv_iload_n hx hb dX12_isOpen_24 rfl (lv_at hl 3 rfl) ?_
      refine tk_Vi hC hK hw hT hA hE hSR kM_at0 (by decide) rfl (k_X12_isLifted_4 l adK adV dC dI cy ad B (by omega) (by omega) qr s1   a1 (show 0 ≤ a1.toInt by omega) (show a1.toInt ≤ 11 by omega) a3 (show 0 ≤ a3.toInt by omega) (show a3.toInt ≤ 1073741944 by omega) w0 H.size hT ) (cwV 2 hC.2.2.2.2 gX12_isOpen_X12_isLifted rfl rfl rfl (by decide +kernel) ⟨Nat.le_of_ble_eq_true rfl, Nat.le_of_ble_eq_true rfl⟩) rfl hl.1 rfl (Nat.le_of_ble_eq_true rfl) dX12_isOpen_25 (fun r20 w22 H locs hp21 hw => ?_)
      obtain ⟨rfl, hg26⟩ := hp21
      rcases hg26 with rfl | ⟨rfl, ⟨x24, c25, rx24, tx24⟩⟩
      · refine lv_if_ne (tgt := 35) hx hb dX12_isOpen_28 (by decide) (fun c => absurd (by decide) c) (fun _ => ?_)
        refine lv_iconst (v := 1) hx hb dX12_isOpen_31 (by decide) ?_
        refine lv_goto (tgt := 36) hx hb dX12_isOpen_32 (by decide) ?_
        exact tk_zret hC hr rfl hlocks hK ⟨rfl, (Or.inr (Or.inl rfl))⟩ hw dX12_isOpen_36
      · refine lv_if_ne (tgt := 35) hx hb dX12_isOpen_28 (by decide) (fun _ => ?_) (fun c => absurd c (by decide))
        exact J35  H locs ls  (show 0 ≤ a1.toInt by omega) (show a1.toInt ≤ 11 by omega) (show 0 ≤ a2.toInt by omega) (show a2.toInt ≤ 9 by omega) (show 0 ≤ a3.toInt by omega) (show a3.toInt ≤ 1073741944 by omega)  hw   (lv_sub hl [0, 1, 2, 3] rfl)
    · refine lv_if_eq (tgt := 35) hx hb dX12_isOpen_19 (by decide) (fun c => absurd c (by decide)) (fun _ => ?_)
      refine lv_aload_n hx hb dX12_isOpen_22 rfl (lv_at hl 0 rfl) ?_
      refine lv_iload_n hx hb dX12_isOpen_23 rfl (lv_at hl 1 rfl) ?_
      refine lv_iload_n hx hb dX12_isOpen_24 rfl (lv_at hl 3 rfl) ?_
      refine tk_Vi hC hK hw hT hA hE hSR kM_at0 (by decide) rfl (k_X12_isLifted_4 l adK adV dC dI cy ad B (by omega) (by omega) qr s1   a1 (show 0 ≤ a1.toInt by omega) (show a1.toInt ≤ 11 by omega) a3 (show 0 ≤ a3.toInt by omega) (show a3.toInt ≤ 1073741944 by omega) w0 H.size hT ) (cwV 2 hC.2.2.2.2 gX12_isOpen_X12_isLifted rfl rfl rfl (by decide +kernel) ⟨Nat.le_of_ble_eq_true rfl, Nat.le_of_ble_eq_true rfl⟩) rfl hl.1 rfl (Nat.le_of_ble_eq_true rfl) dX12_isOpen_25 (fun r27 w29 H locs hp28 hw => ?_)
      obtain ⟨rfl, hg33⟩ := hp28
      rcases hg33 with rfl | ⟨rfl, ⟨x31, c32, rx31, tx31⟩⟩
      · refine lv_if_ne (tgt := 35) hx hb dX12_isOpen_28 (by decide) (fun c => absurd (by decide) c) (fun _ => ?_)
        refine lv_iconst (v := 1) hx hb dX12_isOpen_31 (by decide) ?_
        refine lv_goto (tgt := 36) hx hb dX12_isOpen_32 (by decide) ?_
        exact tk_zret hC hr rfl hlocks hK ⟨rfl, (Or.inr (Or.inr ⟨rfl, c18⟩))⟩ hw dX12_isOpen_36
      · refine lv_if_ne (tgt := 35) hx hb dX12_isOpen_28 (by decide) (fun _ => ?_) (fun c => absurd c (by decide))
        exact J35  H locs ls  (show 0 ≤ a1.toInt by omega) (show a1.toInt ≤ 11 by omega) (show 0 ≤ a2.toInt by omega) (show a2.toInt ≤ 9 by omega) (show 0 ≤ a3.toInt by omega) (show a3.toInt ≤ 1073741944 by omega)  hw   (lv_sub hl [0, 1, 2, 3] rfl)
