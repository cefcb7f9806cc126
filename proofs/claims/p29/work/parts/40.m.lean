abbrev P_X12_town_1 (ad : Nat → Nat) (cy : Nat → ClassId) (B : Int) (qr : Nat) (s1 : Int)  (w0 : va_W) : Int32 → va_W → Prop := fun r u => TW ksM ad cy B qr 12 u ∧ FE ksM [(12, 1, 1), (12, 7, 7), (12, 8, 8), (12, 9, 9), (12, 10, 10), (12, 14, 14), (12, 15, 15), (12, 16, 16), (12, 17, 17), (12, 18, 18), (12, 20, 20), (62, 0, 7), (65, 0, 120), (66, 0, 16), (67, 0, 12), (71, 0, 0), (71, 0, 295), (71, 1, 1), (71, 2, 2), (71, 3, 3), (71, 9, 9), (71, 10, 129), (71, 140, 155), (71, 156, 167)] w0 u ∧ (((-3207) ≤ r.toInt ∧ r.toInt ≤ (-3) ∧ (∃ y : Int32, gi u 0 1 = y ∧ 0 ≤ y.toInt ∧ y.toInt ≤ 0) ∧ (∃ y : Int32, gi u 0 15 = y ∧ 1 ≤ y.toInt ∧ y.toInt ≤ 3205) ∧ (∃ y : Int32, gi u 0 17 = y ∧ 6 ≤ y.toInt ∧ y.toInt ≤ 6) ∧ (∃ y : Int32, gi u 0 18 = y ∧ 0 ≤ y.toInt ∧ y.toInt ≤ 0) ∧ (∃ y : Int32, gi u 0 20 = y ∧ 0 ≤ y.toInt ∧ y.toInt ≤ 32)) ∨ (0 ≤ r.toInt ∧ r.toInt ≤ 12 ∧ (∃ y : Int32, gi u 0 1 = y ∧ 0 ≤ y.toInt ∧ y.toInt ≤ 0) ∧ (∃ y : Int32, gi u 0 15 = y ∧ 0 ≤ y.toInt ∧ y.toInt ≤ 0) ∧ (∃ y : Int32, gi u 0 17 = y ∧ 6 ≤ y.toInt ∧ y.toInt ≤ 6) ∧ (∃ y : Int32, gi u 0 18 = y ∧ 0 ≤ y.toInt ∧ y.toInt ≤ 0) ∧ (∃ y : Int32, gi u 0 20 = y ∧ 0 ≤ y.toInt ∧ y.toInt ≤ 32)))
set_option maxHeartbeats 4000000 in
set_option maxRecDepth 100000 in
theorem k_X12_town_1 (l : Launch) (adK adV : Nat → Nat) (dC : Nat → ClassId) (dI : Nat → Nat → Nat) (cy : Nat → ClassId) (ad : Nat → Nat) (B : Int) (hB0 : 100000 ≤ B) (hB1 : B ≤ 1073741824) (qr : Nat) (s1 : Int)   (w0 : va_W) (sz : Nat) (hT : TW ksM ad cy B qr 12 w0)  : Met l yX12_town wsX12_town ({ frames := 7, cells := 0, slots := 0, locals := 149 }) (va_Pc [.ref (ad 0)] (wpreS adK adV dC dI cy sz w0)) (va_Qi (P_X12_town_1 ad cy B qr s1  w0) (fun u : va_W => wpost dC dI cy (va_A w0 sz) u) (va_A w0 sz)) 0 0 (va_A w0 sz) := by
  refine Met.ofW (cc := cX12_town) (maxL := 3) (ret := (some .int)) (by decide) rfl ?_
  intro p e s m args below meth c s₁ Bk hml hv
  obtain ⟨rfl, ⟨hsz, hP, hK, hD0⟩, hE, hSR⟩ := hv
  have hx := Bk.exec
  have hb := Bk.bytes
  have hr := Bk.returns
  have hlocks := Bk.notSynchronized
  have hC : CallFix p m c cX12_town 3 s _ wsX12_town RX12 := ⟨hx, hb, hml, findClass_of_methodNamed Bk.named, atoms_spec (ws := wsX12_town) Bk.pre⟩
  subst hsz
  have hD := hD0.self (sz := s.heap.size)
  generalize hAe : va_A w0 s.heap.size = A at hD hE ⊢
  have hA : ∀ q : Nat, s.heap.size ≤ q → A q := fun q h => by rw [← hAe]; exact Or.inr h
  have hw : Wd dC dI A s.heap s.heap [] w0 := ⟨hP, hD, va_S.rf⟩
  have hF : FE ksM [(12, 1, 1), (12, 7, 7), (12, 8, 8), (12, 9, 9), (12, 10, 10), (12, 14, 14), (12, 15, 15), (12, 16, 16), (12, 17, 17), (12, 18, 18), (12, 20, 20), (62, 0, 7), (65, 0, 120), (66, 0, 16), (67, 0, 12), (71, 0, 0), (71, 0, 295), (71, 1, 1), (71, 2, 2), (71, 3, 3), (71, 9, 9), (71, 10, 129), (71, 140, 155), (71, 156, 167)] w0 w0 := FE.rf
  have hl := lv_entry ([.ref (ad 0)]) (n := 3) (Nat.le_of_ble_eq_true rfl)
  rw [lg_entry_eq]
  generalize (lg_sl ([.ref (ad 0)]) ++ List.replicate (3 - (lg_sl ([.ref (ad 0)])).length) Slot.unset).toArray = ls at hl ⊢
  have hl : lv_has ls 3 [(0, .ref (ad 0))] := hl
  generalize hloc : ([] : List Loc) = locs at hw ⊢
  have hinX12 : ∀ w ∈ u_ws RX12 TX12 42, w ∈ wsX12_town := fun _ h => List.mem_cons_of_mem _ (List.mem_append_right _ (h))
  have L189 : ∀ (n189 : Nat) (v189_1 : Int32) (v189_2 : Int32) (f189_0_10 : Int32) (f189_0_20 : Int32) (f189_0_7 : Int32) (f189_0_8 : Int32) (f189_0_9 : Int32) (f189_12_0 : Int32) (f189_12_1 : Int32) (f189_12_2 : Int32) (f189_12_3 : Int32) (f189_12_9 : Int32) (H : Heap) (locs : List Loc) (ls : Array Slot) (w1 : va_W), 0 ≤ v189_1.toInt → 0 ≤ v189_2.toInt → v189_2.toInt ≤ 12 → 0 ≤ f189_0_10.toInt → f189_0_10.toInt ≤ 4 → 0 ≤ f189_0_20.toInt → f189_0_20.toInt ≤ 32 → 0 ≤ f189_0_7.toInt → f189_0_7.toInt ≤ 10 → 0 ≤ f189_0_8.toInt → f189_0_8.toInt ≤ 12 → 0 ≤ f189_0_9.toInt → f189_0_9.toInt ≤ 8 → 0 ≤ f189_12_0.toInt → f189_12_0.toInt ≤ 10 → 0 ≤ f189_12_1.toInt → f189_12_1.toInt ≤ 12 → 0 ≤ f189_12_2.toInt → f189_12_2.toInt ≤ 8 → 0 ≤ f189_12_3.toInt → f189_12_3.toInt ≤ 4 → 0 ≤ f189_12_9.toInt → (12 - v189_2.toInt).toNat < n189 → Wd dC dI A s.heap H locs w1 → TW ksM ad cy B qr 12 w1 → FE ksM [(12, 1, 1), (12, 7, 7), (12, 8, 8), (12, 9, 9), (12, 10, 10), (12, 14, 14), (12, 15, 15), (12, 16, 16), (12, 17, 17), (12, 18, 18), (12, 20, 20), (62, 0, 7), (65, 0, 120), (66, 0, 16), (67, 0, 12), (71, 0, 0), (71, 0, 295), (71, 1, 1), (71, 2, 2), (71, 3, 3), (71, 9, 9), (71, 10, 129), (71, 140, 155), (71, 156, 167)] w0 w1 → gi w1 0 1 = 0 → gi w1 0 10 = f189_0_10 → gi w1 0 15 = 0 → gi w1 0 17 = 6 → gi w1 0 18 = 0 → gi w1 0 20 = f189_0_20 → gi w1 0 7 = f189_0_7 → gi w1 0 8 = f189_0_8 → gi w1 0 9 = f189_0_9 → gi w1 12 0 = f189_12_0 → gi w1 12 1 = f189_12_1 → gi w1 12 2 = f189_12_2 → gi w1 12 3 = f189_12_3 → gi w1 12 9 = f189_12_9 → lv_has ls 3 [(0, .ref (ad 0)), (1, .int v189_1), (2, .int v189_2)] → W p l e ({ frames := 7, cells := 0, slots := 0, locals := 149 }) s m (List.toArray [.ref (ad 0)]) below meth c H locs 0 0 (MQ below (va_Qi (P_X12_town_1 ad cy B qr s1  w0) (fun u : va_W => wpost dC dI cy A u) A) (List.toArray [.ref (ad 0)]) s 0 0 A) (F0 m 189 ls []) := by
    intro n189
    induction n189 with
    | zero => intro v189_1 v189_2 f189_0_10 f189_0_20 f189_0_7 f189_0_8 f189_0_9 f189_12_0 f189_12_1 f189_12_2 f189_12_3 f189_12_9 H locs ls w1 r2 r3 t4 r6 t7 r12 t13 r15 t16 r18 t19 r21 t22 r24 t25 r27 t28 r30 t31 r33 t34 r36 hm189 hw hT hF c5 c8 c9 c10 c11 c14 c17 c20 c23 c26 c29 c32 c35 c37 hl; omega
    | succ n189 ih189 =>
      intro v189_1 v189_2 f189_0_10 f189_0_20 f189_0_7 f189_0_8 f189_0_9 f189_12_0 f189_12_1 f189_12_2 f189_12_3 f189_12_9 H locs ls w1 r2 r3 t4 r6 t7 r12 t13 r15 t16 r18 t19 r21 t22 r24 t25 r27 t28 r30 t31 r33 t34 r36 hm189 hw hT hF c5 c8 c9 c10 c11 c14 c17 c20 c23 c26 c29 c32 c35 c37 hl
      refine lv_iload_n hx hb dX12_town_189 rfl (lv_at hl 2 rfl) ?_
      refine lv_iconst (v := 3) hx hb dX12_town_190 (by decide) ?_
      refine lv_aload_n hx hb dX12_town_191 rfl (lv_at hl 0 rfl) ?_
      refine tk_geti hC hK hw hT hinX12 kM_at0 (by decide) rfl 10 (by decide) (List.mem_of_getElem? (i := 5) rfl) rfl rfl dX12_town_192 (fun x38 c39 rx38 tx38 => ?_)
      refine wk_top f189_0_10 (c39.symm.trans c8) ?_
      refine lv_imul hx hb dX12_town_195 ?_
      refine lv_topi (fun x40 ex40 => ?_)
      have ex40 : x40.toInt = (3 : Int) * f189_0_10.toInt := by rw [ex40]; exact wk_mul (show (-2147483648) ≤ (3 : Int) * f189_0_10.toInt by omega) (show (3 : Int) * f189_0_10.toInt ≤ 2147483647 by omega)
      refine lv_icmp_ge (tgt := 221) hx hb dX12_town_196 (by decide) (fun c41 => ?_) (fun c41 => ?_)
      · have c41 : x40.toInt ≤ v189_2.toInt := wk_le.mp c41
        refine lv_aload_n hx hb dX12_town_221 rfl (lv_at hl 0 rfl) ?_
        refine tk_geti hC hK hw hT hinX12 kM_at0 (by decide) rfl 8 (by decide) (List.mem_of_getElem? (i := 3) rfl) rfl rfl dX12_town_222 (fun x42 c43 rx42 tx42 => ?_)
        refine wk_top f189_0_8 (c43.symm.trans c20) ?_
        exact tk_iret hC hr hlocks hK ⟨hT, hF, (Or.inr ⟨(show 0 ≤ f189_0_8.toInt by omega), (show f189_0_8.toInt ≤ 12 by omega), ⟨0, c5, (by decide), (by decide)⟩, ⟨0, c9, (by decide), (by decide)⟩, ⟨6, c10, (by decide), (by decide)⟩, ⟨0, c11, (by decide), (by decide)⟩, ⟨f189_0_20, c14, (show 0 ≤ f189_0_20.toInt by omega), (show f189_0_20.toInt ≤ 32 by omega)⟩⟩)⟩ hw dX12_town_225
      · have c41 : v189_2.toInt < x40.toInt := wk_leF c41
        refine lv_aload_n hx hb dX12_town_199 rfl (lv_at hl 0 rfl) ?_
        refine tk_getA hC hK hw hT hinX12 kM_at0 (by decide) rfl 26 (by decide) (List.mem_of_getElem? (i := 7) rfl) rfl rfl dX12_town_200 ?_
        refine lv_sipush (v := 156) hx hb dX12_town_203 (by decide) ?_
        refine lv_iload_n hx hb dX12_town_206 rfl (lv_at hl 2 rfl) ?_
        refine lv_iadd hx hb dX12_town_207 ?_
        refine lv_topi (fun x44 ex44 => ?_)
        have ex44 : x44.toInt = (156 : Int) + v189_2.toInt := by rw [ex44]; exact wk_add (show (-2147483648) ≤ (156 : Int) + v189_2.toInt by omega) (show (156 : Int) + v189_2.toInt ≤ 2147483647 by omega)
        refine lv_aload_n hx hb dX12_town_208 rfl (lv_at hl 0 rfl) ?_
        refine tk_getA hC hK hw hT hinX12 kM_at0 (by decide) rfl 13 (by decide) (List.mem_of_getElem? (i := 10) rfl) rfl rfl dX12_town_209 ?_
        refine lv_iload_n hx hb dX12_town_212 rfl (lv_at hl 2 rfl) ?_
        refine tk_iald hC hK hw hT kM_at8 rfl rfl (show 0 ≤ v189_2.toInt by omega) (show v189_2.toInt < 12 by omega) dX12_town_213 (fun x45 c46 rx45 tx45 => ?_)
        refine tk_iastR hC hK hw hT kM_at12 (by decide) rfl (show 0 ≤ x44.toInt by omega) (show x44.toInt < 296 by omega) (tk_rgS rfl 156 1 12 (-2147483648) 2147483647 (by decide +kernel) ⟨(v189_2.toInt - 0).toNat, by omega, show x44.toInt.toNat = 156 + 1 * (v189_2.toInt - 0).toNat by omega⟩ (wk_i32 x45).1 (wk_i32 x45).2) dX12_town_214 (fun H locs w47 hw hT k49 c48 => ?_)
        have hF := hF.put kM_at12 (inE_of (a := 156) (b := 167) (by decide) (show 156 ≤ x44.toInt.toNat by omega) (show x44.toInt.toNat ≤ 167 by omega)) k49
        have c50 := k49.gi (Or.inl (tk_ne kM_at0 kM_at12 (by decide))) c5
        have c51 := k49.gi (Or.inl (tk_ne kM_at0 kM_at12 (by decide))) c8
        have c52 := k49.gi (Or.inl (tk_ne kM_at0 kM_at12 (by decide))) c9
        have c53 := k49.gi (Or.inl (tk_ne kM_at0 kM_at12 (by decide))) c10
        have c54 := k49.gi (Or.inl (tk_ne kM_at0 kM_at12 (by decide))) c11
        have c55 := k49.gi (Or.inl (tk_ne kM_at0 kM_at12 (by decide))) c14
        have c56 := k49.gi (Or.inl (tk_ne kM_at0 kM_at12 (by decide))) c17
        have c57 := k49.gi (Or.inl (tk_ne kM_at0 kM_at12 (by decide))) c20
        have c58 := k49.gi (Or.inl (tk_ne kM_at0 kM_at12 (by decide))) c23
        have c59 := k49.gi (Or.inr (show 0 ≠ x44.toInt.toNat by omega)) c26
        have c60 := k49.gi (Or.inr (show 1 ≠ x44.toInt.toNat by omega)) c29
        have c61 := k49.gi (Or.inr (show 2 ≠ x44.toInt.toNat by omega)) c32
        have c62 := k49.gi (Or.inr (show 3 ≠ x44.toInt.toNat by omega)) c35
        have c63 := k49.gi (Or.inr (show 9 ≠ x44.toInt.toNat by omega)) c37
        obtain ⟨x64, ex64⟩ : ∃ y : Int32, y = v189_2 + Int32.ofInt 1 := ⟨_, rfl⟩
        refine lv_iinc (v := x64) (lv' := [(2, .int x64), (0, .ref (ad 0)), (1, .int v189_1)]) hx hb dX12_town_215 hl (k := 2) rfl ex64.symm (by decide) rfl (fun ls hl => ?_)
        have ex64 : x64.toInt = v189_2.toInt + 1 := by rw [ex64]; exact wk_add (y := 1) (show -2147483648 ≤ v189_2.toInt + 1 by omega) (show v189_2.toInt + 1 ≤ 2147483647 by omega)
        refine lv_goto (tgt := 189) hx hb dX12_town_218 (by decide) ?_
        exact ih189 v189_1 x64 f189_0_10 f189_0_20 f189_0_7 f189_0_8 f189_0_9 f189_12_0 f189_12_1 f189_12_2 f189_12_3 f189_12_9 H locs ls w47 (show 0 ≤ v189_1.toInt by omega) (show 0 ≤ x64.toInt by omega) (show x64.toInt ≤ 12 by omega) (show 0 ≤ f189_0_10.toInt by omega) (show f189_0_10.toInt ≤ 4 by omega) (show 0 ≤ f189_0_20.toInt by omega) (show f189_0_20.toInt ≤ 32 by omega) (show 0 ≤ f189_0_7.toInt by omega) (show f189_0_7.toInt ≤ 10 by omega) (show 0 ≤ f189_0_8.toInt by omega) (show f189_0_8.toInt ≤ 12 by omega) (show 0 ≤ f189_0_9.toInt by omega) (show f189_0_9.toInt ≤ 8 by omega) (show 0 ≤ f189_12_0.toInt by omega) (show f189_12_0.toInt ≤ 10 by omega) (show 0 ≤ f189_12_1.toInt by omega) (show f189_12_1.toInt ≤ 12 by omega) (show 0 ≤ f189_12_2.toInt by omega) (show f189_12_2.toInt ≤ 8 by omega) (show 0 ≤ f189_12_3.toInt by omega) (show f189_12_3.toInt ≤ 4 by omega) (show 0 ≤ f189_12_9.toInt by omega) (show (12 - x64.toInt).toNat < n189 by omega) hw hT hF c50 c51 c52 c53 c54 c55 c56 c57 c58 c59 c60 c61 c62 c63 (lv_sub hl [1, 2, 0] rfl)
  have L155 : ∀ (n155 : Nat) (v155_1 : Int32) (v155_2 : Int32) (f155_0_10 : Int32) (f155_0_20 : Int32) (f155_0_7 : Int32) (f155_0_8 : Int32) (f155_0_9 : Int32) (f155_12_0 : Int32) (f155_12_1 : Int32) (f155_12_2 : Int32) (f155_12_3 : Int32) (f155_12_9 : Int32) (H : Heap) (locs : List Loc) (ls : Array Slot) (w65 : va_W), 0 ≤ v155_1.toInt → 0 ≤ v155_2.toInt → v155_2.toInt ≤ 16 → 0 ≤ f155_0_10.toInt → f155_0_10.toInt ≤ 4 → 0 ≤ f155_0_20.toInt → f155_0_20.toInt ≤ 32 → 0 ≤ f155_0_7.toInt → f155_0_7.toInt ≤ 10 → 0 ≤ f155_0_8.toInt → f155_0_8.toInt ≤ 12 → 0 ≤ f155_0_9.toInt → f155_0_9.toInt ≤ 8 → 0 ≤ f155_12_0.toInt → f155_12_0.toInt ≤ 10 → 0 ≤ f155_12_1.toInt → f155_12_1.toInt ≤ 12 → 0 ≤ f155_12_2.toInt → f155_12_2.toInt ≤ 8 → 0 ≤ f155_12_3.toInt → f155_12_3.toInt ≤ 4 → 0 ≤ f155_12_9.toInt → (16 - v155_2.toInt).toNat < n155 → Wd dC dI A s.heap H locs w65 → TW ksM ad cy B qr 12 w65 → FE ksM [(12, 1, 1), (12, 7, 7), (12, 8, 8), (12, 9, 9), (12, 10, 10), (12, 14, 14), (12, 15, 15), (12, 16, 16), (12, 17, 17), (12, 18, 18), (12, 20, 20), (62, 0, 7), (65, 0, 120), (66, 0, 16), (67, 0, 12), (71, 0, 0), (71, 0, 295), (71, 1, 1), (71, 2, 2), (71, 3, 3), (71, 9, 9), (71, 10, 129), (71, 140, 155), (71, 156, 167)] w0 w65 → gi w65 0 1 = 0 → gi w65 0 10 = f155_0_10 → gi w65 0 15 = 0 → gi w65 0 17 = 6 → gi w65 0 18 = 0 → gi w65 0 20 = f155_0_20 → gi w65 0 7 = f155_0_7 → gi w65 0 8 = f155_0_8 → gi w65 0 9 = f155_0_9 → gi w65 12 0 = f155_12_0 → gi w65 12 1 = f155_12_1 → gi w65 12 2 = f155_12_2 → gi w65 12 3 = f155_12_3 → gi w65 12 9 = f155_12_9 → lv_has ls 3 [(0, .ref (ad 0)), (1, .int v155_1), (2, .int v155_2)] → W p l e ({ frames := 7, cells := 0, slots := 0, locals := 149 }) s m (List.toArray [.ref (ad 0)]) below meth c H locs 0 0 (MQ below (va_Qi (P_X12_town_1 ad cy B qr s1  w0) (fun u : va_W => wpost dC dI cy A u) A) (List.toArray [.ref (ad 0)]) s 0 0 A) (F0 m 155 ls []) := by
    intro n155
    induction n155 with
    | zero => intro v155_1 v155_2 f155_0_10 f155_0_20 f155_0_7 f155_0_8 f155_0_9 f155_12_0 f155_12_1 f155_12_2 f155_12_3 f155_12_9 H locs ls w65 r66 r67 t68 r70 t71 r76 t77 r79 t80 r82 t83 r85 t86 r88 t89 r91 t92 r94 t95 r97 t98 r100 hm155 hw hT hF c69 c72 c73 c74 c75 c78 c81 c84 c87 c90 c93 c96 c99 c101 hl; omega
    | succ n155 ih155 =>
      intro v155_1 v155_2 f155_0_10 f155_0_20 f155_0_7 f155_0_8 f155_0_9 f155_12_0 f155_12_1 f155_12_2 f155_12_3 f155_12_9 H locs ls w65 r66 r67 t68 r70 t71 r76 t77 r79 t80 r82 t83 r85 t86 r88 t89 r91 t92 r94 t95 r97 t98 r100 hm155 hw hT hF c69 c72 c73 c74 c75 c78 c81 c84 c87 c90 c93 c96 c99 c101 hl
      refine lv_iload_n hx hb dX12_town_155 rfl (lv_at hl 2 rfl) ?_
      refine lv_iconst (v := 2) hx hb dX12_town_156 (by decide) ?_
      refine lv_aload_n hx hb dX12_town_157 rfl (lv_at hl 0 rfl) ?_
      refine tk_geti hC hK hw hT hinX12 kM_at0 (by decide) rfl 9 (by decide) (List.mem_of_getElem? (i := 4) rfl) rfl rfl dX12_town_158 (fun x102 c103 rx102 tx102 => ?_)
      refine wk_top f155_0_9 (c103.symm.trans c87) ?_
      refine lv_imul hx hb dX12_town_161 ?_
      refine lv_topi (fun x104 ex104 => ?_)
      have ex104 : x104.toInt = (2 : Int) * f155_0_9.toInt := by rw [ex104]; exact wk_mul (show (-2147483648) ≤ (2 : Int) * f155_0_9.toInt by omega) (show (2 : Int) * f155_0_9.toInt ≤ 2147483647 by omega)
      refine lv_icmp_ge (tgt := 187) hx hb dX12_town_162 (by decide) (fun c105 => ?_) (fun c105 => ?_)
      · have c105 : x104.toInt ≤ v155_2.toInt := wk_le.mp c105
        refine lv_iconst (v := 0) hx hb dX12_town_187 (by decide) ?_
        refine lv_istore_n (lv' := [(2, .int 0), (0, .ref (ad 0)), (1, .int v155_1)]) hx hb dX12_town_188 rfl hl (by decide) rfl (fun ls hl => ?_)
        exact L189 ((12 - (0 : Int)).toNat + 1) v155_1 0 f155_0_10 f155_0_20 f155_0_7 f155_0_8 f155_0_9 f155_12_0 f155_12_1 f155_12_2 f155_12_3 f155_12_9 H locs ls w65 (show 0 ≤ v155_1.toInt by omega) (by decide) (by decide) (show 0 ≤ f155_0_10.toInt by omega) (show f155_0_10.toInt ≤ 4 by omega) (show 0 ≤ f155_0_20.toInt by omega) (show f155_0_20.toInt ≤ 32 by omega) (show 0 ≤ f155_0_7.toInt by omega) (show f155_0_7.toInt ≤ 10 by omega) (show 0 ≤ f155_0_8.toInt by omega) (show f155_0_8.toInt ≤ 12 by omega) (show 0 ≤ f155_0_9.toInt by omega) (show f155_0_9.toInt ≤ 8 by omega) (show 0 ≤ f155_12_0.toInt by omega) (show f155_12_0.toInt ≤ 10 by omega) (show 0 ≤ f155_12_1.toInt by omega) (show f155_12_1.toInt ≤ 12 by omega) (show 0 ≤ f155_12_2.toInt by omega) (show f155_12_2.toInt ≤ 8 by omega) (show 0 ≤ f155_12_3.toInt by omega) (show f155_12_3.toInt ≤ 4 by omega) (show 0 ≤ f155_12_9.toInt by omega) (Nat.lt_succ_self _) hw hT hF c69 c72 c73 c74 c75 c78 c81 c84 c87 c90 c93 c96 c99 c101 (lv_sub hl [1, 2, 0] rfl)
      · have c105 : v155_2.toInt < x104.toInt := wk_leF c105
        refine lv_aload_n hx hb dX12_town_165 rfl (lv_at hl 0 rfl) ?_
        refine tk_getA hC hK hw hT hinX12 kM_at0 (by decide) rfl 26 (by decide) (List.mem_of_getElem? (i := 7) rfl) rfl rfl dX12_town_166 ?_
        refine lv_sipush (v := 140) hx hb dX12_town_169 (by decide) ?_
        refine lv_iload_n hx hb dX12_town_172 rfl (lv_at hl 2 rfl) ?_
        refine lv_iadd hx hb dX12_town_173 ?_
        refine lv_topi (fun x106 ex106 => ?_)
        have ex106 : x106.toInt = (140 : Int) + v155_2.toInt := by rw [ex106]; exact wk_add (show (-2147483648) ≤ (140 : Int) + v155_2.toInt by omega) (show (140 : Int) + v155_2.toInt ≤ 2147483647 by omega)
        refine lv_aload_n hx hb dX12_town_174 rfl (lv_at hl 0 rfl) ?_
        refine tk_getA hC hK hw hT hinX12 kM_at0 (by decide) rfl 12 (by decide) (List.mem_of_getElem? (i := 9) rfl) rfl rfl dX12_town_175 ?_
        refine lv_iload_n hx hb dX12_town_178 rfl (lv_at hl 2 rfl) ?_
        refine tk_iald hC hK hw hT kM_at7 rfl rfl (show 0 ≤ v155_2.toInt by omega) (show v155_2.toInt < 16 by omega) dX12_town_179 (fun x107 c108 rx107 tx107 => ?_)
        refine tk_iastR hC hK hw hT kM_at12 (by decide) rfl (show 0 ≤ x106.toInt by omega) (show x106.toInt < 296 by omega) (tk_rgS rfl 140 1 16 (-2147483648) 2147483647 (by decide +kernel) ⟨(v155_2.toInt - 0).toNat, by omega, show x106.toInt.toNat = 140 + 1 * (v155_2.toInt - 0).toNat by omega⟩ (wk_i32 x107).1 (wk_i32 x107).2) dX12_town_180 (fun H locs w109 hw hT k111 c110 => ?_)
        have hF := hF.put kM_at12 (inE_of (a := 140) (b := 155) (by decide) (show 140 ≤ x106.toInt.toNat by omega) (show x106.toInt.toNat ≤ 155 by omega)) k111
        have c112 := k111.gi (Or.inl (tk_ne kM_at0 kM_at12 (by decide))) c69
        have c113 := k111.gi (Or.inl (tk_ne kM_at0 kM_at12 (by decide))) c72
        have c114 := k111.gi (Or.inl (tk_ne kM_at0 kM_at12 (by decide))) c73
        have c115 := k111.gi (Or.inl (tk_ne kM_at0 kM_at12 (by decide))) c74
        have c116 := k111.gi (Or.inl (tk_ne kM_at0 kM_at12 (by decide))) c75
        have c117 := k111.gi (Or.inl (tk_ne kM_at0 kM_at12 (by decide))) c78
        have c118 := k111.gi (Or.inl (tk_ne kM_at0 kM_at12 (by decide))) c81
        have c119 := k111.gi (Or.inl (tk_ne kM_at0 kM_at12 (by decide))) c84
        have c120 := k111.gi (Or.inl (tk_ne kM_at0 kM_at12 (by decide))) c87
        have c121 := k111.gi (Or.inr (show 0 ≠ x106.toInt.toNat by omega)) c90
        have c122 := k111.gi (Or.inr (show 1 ≠ x106.toInt.toNat by omega)) c93
        have c123 := k111.gi (Or.inr (show 2 ≠ x106.toInt.toNat by omega)) c96
        have c124 := k111.gi (Or.inr (show 3 ≠ x106.toInt.toNat by omega)) c99
        have c125 := k111.gi (Or.inr (show 9 ≠ x106.toInt.toNat by omega)) c101
        obtain ⟨x126, ex126⟩ : ∃ y : Int32, y = v155_2 + Int32.ofInt 1 := ⟨_, rfl⟩
        refine lv_iinc (v := x126) (lv' := [(2, .int x126), (0, .ref (ad 0)), (1, .int v155_1)]) hx hb dX12_town_181 hl (k := 2) rfl ex126.symm (by decide) rfl (fun ls hl => ?_)
        have ex126 : x126.toInt = v155_2.toInt + 1 := by rw [ex126]; exact wk_add (y := 1) (show -2147483648 ≤ v155_2.toInt + 1 by omega) (show v155_2.toInt + 1 ≤ 2147483647 by omega)
        refine lv_goto (tgt := 155) hx hb dX12_town_184 (by decide) ?_
        exact ih155 v155_1 x126 f155_0_10 f155_0_20 f155_0_7 f155_0_8 f155_0_9 f155_12_0 f155_12_1 f155_12_2 f155_12_3 f155_12_9 H locs ls w109 (show 0 ≤ v155_1.toInt by omega) (show 0 ≤ x126.toInt by omega) (show x126.toInt ≤ 16 by omega) (show 0 ≤ f155_0_10.toInt by omega) (show f155_0_10.toInt ≤ 4 by omega) (show 0 ≤ f155_0_20.toInt by omega) (show f155_0_20.toInt ≤ 32 by omega) (show 0 ≤ f155_0_7.toInt by omega) (show f155_0_7.toInt ≤ 10 by omega) (show 0 ≤ f155_0_8.toInt by omega) (show f155_0_8.toInt ≤ 12 by omega) (show 0 ≤ f155_0_9.toInt by omega) (show f155_0_9.toInt ≤ 8 by omega) (show 0 ≤ f155_12_0.toInt by omega) (show f155_12_0.toInt ≤ 10 by omega) (show 0 ≤ f155_12_1.toInt by omega) (show f155_12_1.toInt ≤ 12 by omega) (show 0 ≤ f155_12_2.toInt by omega) (show f155_12_2.toInt ≤ 8 by omega) (show 0 ≤ f155_12_3.toInt by omega) (show f155_12_3.toInt ≤ 4 by omega) (show 0 ≤ f155_12_9.toInt by omega) (show (16 - x126.toInt).toNat < n155 by omega) hw hT hF c112 c113 c114 c115 c116 c117 c118 c119 c120 c121 c122 c123 c124 c125 (lv_sub hl [1, 2, 0] rfl)
  have L121 : ∀ (n121 : Nat) (v121_1 : Int32) (v121_2 : Int32) (f121_0_10 : Int32) (f121_0_20 : Int32) (f121_0_7 : Int32) (f121_0_8 : Int32) (f121_0_9 : Int32) (f121_12_0 : Int32) (f121_12_1 : Int32) (f121_12_2 : Int32) (f121_12_3 : Int32) (f121_12_9 : Int32) (H : Heap) (locs : List Loc) (ls : Array Slot) (w127 : va_W), 0 ≤ v121_1.toInt → 0 ≤ v121_2.toInt → v121_2.toInt ≤ 120 → 0 ≤ f121_0_10.toInt → f121_0_10.toInt ≤ 4 → 0 ≤ f121_0_20.toInt → f121_0_20.toInt ≤ 32 → 0 ≤ f121_0_7.toInt → f121_0_7.toInt ≤ 10 → 0 ≤ f121_0_8.toInt → f121_0_8.toInt ≤ 12 → 0 ≤ f121_0_9.toInt → f121_0_9.toInt ≤ 8 → 0 ≤ f121_12_0.toInt → f121_12_0.toInt ≤ 10 → 0 ≤ f121_12_1.toInt → f121_12_1.toInt ≤ 12 → 0 ≤ f121_12_2.toInt → f121_12_2.toInt ≤ 8 → 0 ≤ f121_12_3.toInt → f121_12_3.toInt ≤ 4 → 0 ≤ f121_12_9.toInt → (120 - v121_2.toInt).toNat < n121 → Wd dC dI A s.heap H locs w127 → TW ksM ad cy B qr 12 w127 → FE ksM [(12, 1, 1), (12, 7, 7), (12, 8, 8), (12, 9, 9), (12, 10, 10), (12, 14, 14), (12, 15, 15), (12, 16, 16), (12, 17, 17), (12, 18, 18), (12, 20, 20), (62, 0, 7), (65, 0, 120), (66, 0, 16), (67, 0, 12), (71, 0, 0), (71, 0, 295), (71, 1, 1), (71, 2, 2), (71, 3, 3), (71, 9, 9), (71, 10, 129), (71, 140, 155), (71, 156, 167)] w0 w127 → gi w127 0 1 = 0 → gi w127 0 10 = f121_0_10 → gi w127 0 15 = 0 → gi w127 0 17 = 6 → gi w127 0 18 = 0 → gi w127 0 20 = f121_0_20 → gi w127 0 7 = f121_0_7 → gi w127 0 8 = f121_0_8 → gi w127 0 9 = f121_0_9 → gi w127 12 0 = f121_12_0 → gi w127 12 1 = f121_12_1 → gi w127 12 2 = f121_12_2 → gi w127 12 3 = f121_12_3 → gi w127 12 9 = f121_12_9 → lv_has ls 3 [(0, .ref (ad 0)), (1, .int v121_1), (2, .int v121_2)] → W p l e ({ frames := 7, cells := 0, slots := 0, locals := 149 }) s m (List.toArray [.ref (ad 0)]) below meth c H locs 0 0 (MQ below (va_Qi (P_X12_town_1 ad cy B qr s1  w0) (fun u : va_W => wpost dC dI cy A u) A) (List.toArray [.ref (ad 0)]) s 0 0 A) (F0 m 121 ls []) := by
    intro n121
    induction n121 with
    | zero => intro v121_1 v121_2 f121_0_10 f121_0_20 f121_0_7 f121_0_8 f121_0_9 f121_12_0 f121_12_1 f121_12_2 f121_12_3 f121_12_9 H locs ls w127 r128 r129 t130 r132 t133 r138 t139 r141 t142 r144 t145 r147 t148 r150 t151 r153 t154 r156 t157 r159 t160 r162 hm121 hw hT hF c131 c134 c135 c136 c137 c140 c143 c146 c149 c152 c155 c158 c161 c163 hl; omega
    | succ n121 ih121 =>
      intro v121_1 v121_2 f121_0_10 f121_0_20 f121_0_7 f121_0_8 f121_0_9 f121_12_0 f121_12_1 f121_12_2 f121_12_3 f121_12_9 H locs ls w127 r128 r129 t130 r132 t133 r138 t139 r141 t142 r144 t145 r147 t148 r150 t151 r153 t154 r156 t157 r159 t160 r162 hm121 hw hT hF c131 c134 c135 c136 c137 c140 c143 c146 c149 c152 c155 c158 c161 c163 hl
      refine lv_iload_n hx hb dX12_town_121 rfl (lv_at hl 2 rfl) ?_
      refine lv_bipush (v := 10) hx hb dX12_town_122 (by decide) ?_
      refine lv_aload_n hx hb dX12_town_124 rfl (lv_at hl 0 rfl) ?_
      refine tk_geti hC hK hw hT hinX12 kM_at0 (by decide) rfl 8 (by decide) (List.mem_of_getElem? (i := 3) rfl) rfl rfl dX12_town_125 (fun x164 c165 rx164 tx164 => ?_)
      refine wk_top f121_0_8 (c165.symm.trans c146) ?_
      refine lv_imul hx hb dX12_town_128 ?_
      refine lv_topi (fun x166 ex166 => ?_)
      have ex166 : x166.toInt = (10 : Int) * f121_0_8.toInt := by rw [ex166]; exact wk_mul (show (-2147483648) ≤ (10 : Int) * f121_0_8.toInt by omega) (show (10 : Int) * f121_0_8.toInt ≤ 2147483647 by omega)
      refine lv_icmp_ge (tgt := 153) hx hb dX12_town_129 (by decide) (fun c167 => ?_) (fun c167 => ?_)
      · have c167 : x166.toInt ≤ v121_2.toInt := wk_le.mp c167
        refine lv_iconst (v := 0) hx hb dX12_town_153 (by decide) ?_
        refine lv_istore_n (lv' := [(2, .int 0), (0, .ref (ad 0)), (1, .int v121_1)]) hx hb dX12_town_154 rfl hl (by decide) rfl (fun ls hl => ?_)
        exact L155 ((16 - (0 : Int)).toNat + 1) v121_1 0 f121_0_10 f121_0_20 f121_0_7 f121_0_8 f121_0_9 f121_12_0 f121_12_1 f121_12_2 f121_12_3 f121_12_9 H locs ls w127 (show 0 ≤ v121_1.toInt by omega) (by decide) (by decide) (show 0 ≤ f121_0_10.toInt by omega) (show f121_0_10.toInt ≤ 4 by omega) (show 0 ≤ f121_0_20.toInt by omega) (show f121_0_20.toInt ≤ 32 by omega) (show 0 ≤ f121_0_7.toInt by omega) (show f121_0_7.toInt ≤ 10 by omega) (show 0 ≤ f121_0_8.toInt by omega) (show f121_0_8.toInt ≤ 12 by omega) (show 0 ≤ f121_0_9.toInt by omega) (show f121_0_9.toInt ≤ 8 by omega) (show 0 ≤ f121_12_0.toInt by omega) (show f121_12_0.toInt ≤ 10 by omega) (show 0 ≤ f121_12_1.toInt by omega) (show f121_12_1.toInt ≤ 12 by omega) (show 0 ≤ f121_12_2.toInt by omega) (show f121_12_2.toInt ≤ 8 by omega) (show 0 ≤ f121_12_3.toInt by omega) (show f121_12_3.toInt ≤ 4 by omega) (show 0 ≤ f121_12_9.toInt by omega) (Nat.lt_succ_self _) hw hT hF c131 c134 c135 c136 c137 c140 c143 c146 c149 c152 c155 c158 c161 c163 (lv_sub hl [1, 2, 0] rfl)
      · have c167 : v121_2.toInt < x166.toInt := wk_leF c167
        refine lv_aload_n hx hb dX12_town_132 rfl (lv_at hl 0 rfl) ?_
        refine tk_getA hC hK hw hT hinX12 kM_at0 (by decide) rfl 26 (by decide) (List.mem_of_getElem? (i := 7) rfl) rfl rfl dX12_town_133 ?_
        refine lv_bipush (v := 10) hx hb dX12_town_136 (by decide) ?_
        refine lv_iload_n hx hb dX12_town_138 rfl (lv_at hl 2 rfl) ?_
        refine lv_iadd hx hb dX12_town_139 ?_
        refine lv_topi (fun x168 ex168 => ?_)
        have ex168 : x168.toInt = (10 : Int) + v121_2.toInt := by rw [ex168]; exact wk_add (show (-2147483648) ≤ (10 : Int) + v121_2.toInt by omega) (show (10 : Int) + v121_2.toInt ≤ 2147483647 by omega)
        refine lv_aload_n hx hb dX12_town_140 rfl (lv_at hl 0 rfl) ?_
        refine tk_getA hC hK hw hT hinX12 kM_at0 (by decide) rfl 11 (by decide) (List.mem_of_getElem? (i := 8) rfl) rfl rfl dX12_town_141 ?_
        refine lv_iload_n hx hb dX12_town_144 rfl (lv_at hl 2 rfl) ?_
        refine tk_iald hC hK hw hT kM_at6 rfl rfl (show 0 ≤ v121_2.toInt by omega) (show v121_2.toInt < 120 by omega) dX12_town_145 (fun x169 c170 rx169 tx169 => ?_)
        refine tk_iastR hC hK hw hT kM_at12 (by decide) rfl (show 0 ≤ x168.toInt by omega) (show x168.toInt < 296 by omega) (tk_rgS rfl 10 1 120 0 9 (by decide +kernel) ⟨(v121_2.toInt - 0).toNat, by omega, show x168.toInt.toNat = 10 + 1 * (v121_2.toInt - 0).toNat by omega⟩ (show 0 ≤ x169.toInt by omega) (show x169.toInt ≤ 9 by omega)) dX12_town_146 (fun H locs w171 hw hT k173 c172 => ?_)
        have hF := hF.put kM_at12 (inE_of (a := 10) (b := 129) (by decide) (show 10 ≤ x168.toInt.toNat by omega) (show x168.toInt.toNat ≤ 129 by omega)) k173
        have c174 := k173.gi (Or.inl (tk_ne kM_at0 kM_at12 (by decide))) c131
        have c175 := k173.gi (Or.inl (tk_ne kM_at0 kM_at12 (by decide))) c134
        have c176 := k173.gi (Or.inl (tk_ne kM_at0 kM_at12 (by decide))) c135
        have c177 := k173.gi (Or.inl (tk_ne kM_at0 kM_at12 (by decide))) c136
        have c178 := k173.gi (Or.inl (tk_ne kM_at0 kM_at12 (by decide))) c137
        have c179 := k173.gi (Or.inl (tk_ne kM_at0 kM_at12 (by decide))) c140
        have c180 := k173.gi (Or.inl (tk_ne kM_at0 kM_at12 (by decide))) c143
        have c181 := k173.gi (Or.inl (tk_ne kM_at0 kM_at12 (by decide))) c146
        have c182 := k173.gi (Or.inl (tk_ne kM_at0 kM_at12 (by decide))) c149
        have c183 := k173.gi (Or.inr (show 0 ≠ x168.toInt.toNat by omega)) c152
        have c184 := k173.gi (Or.inr (show 1 ≠ x168.toInt.toNat by omega)) c155
        have c185 := k173.gi (Or.inr (show 2 ≠ x168.toInt.toNat by omega)) c158
        have c186 := k173.gi (Or.inr (show 3 ≠ x168.toInt.toNat by omega)) c161
        have c187 := k173.gi (Or.inr (show 9 ≠ x168.toInt.toNat by omega)) c163
        obtain ⟨x188, ex188⟩ : ∃ y : Int32, y = v121_2 + Int32.ofInt 1 := ⟨_, rfl⟩
        refine lv_iinc (v := x188) (lv' := [(2, .int x188), (0, .ref (ad 0)), (1, .int v121_1)]) hx hb dX12_town_147 hl (k := 2) rfl ex188.symm (by decide) rfl (fun ls hl => ?_)
        have ex188 : x188.toInt = v121_2.toInt + 1 := by rw [ex188]; exact wk_add (y := 1) (show -2147483648 ≤ v121_2.toInt + 1 by omega) (show v121_2.toInt + 1 ≤ 2147483647 by omega)
        refine lv_goto (tgt := 121) hx hb dX12_town_150 (by decide) ?_
        exact ih121 v121_1 x188 f121_0_10 f121_0_20 f121_0_7 f121_0_8 f121_0_9 f121_12_0 f121_12_1 f121_12_2 f121_12_3 f121_12_9 H locs ls w171 (show 0 ≤ v121_1.toInt by omega) (show 0 ≤ x188.toInt by omega) (show x188.toInt ≤ 120 by omega) (show 0 ≤ f121_0_10.toInt by omega) (show f121_0_10.toInt ≤ 4 by omega) (show 0 ≤ f121_0_20.toInt by omega) (show f121_0_20.toInt ≤ 32 by omega) (show 0 ≤ f121_0_7.toInt by omega) (show f121_0_7.toInt ≤ 10 by omega) (show 0 ≤ f121_0_8.toInt by omega) (show f121_0_8.toInt ≤ 12 by omega) (show 0 ≤ f121_0_9.toInt by omega) (show f121_0_9.toInt ≤ 8 by omega) (show 0 ≤ f121_12_0.toInt by omega) (show f121_12_0.toInt ≤ 10 by omega) (show 0 ≤ f121_12_1.toInt by omega) (show f121_12_1.toInt ≤ 12 by omega) (show 0 ≤ f121_12_2.toInt by omega) (show f121_12_2.toInt ≤ 8 by omega) (show 0 ≤ f121_12_3.toInt by omega) (show f121_12_3.toInt ≤ 4 by omega) (show 0 ≤ f121_12_9.toInt by omega) (show (120 - x188.toInt).toNat < n121 by omega) hw hT hF c174 c175 c176 c177 c178 c179 c180 c181 c182 c183 c184 c185 c186 c187 (lv_sub hl [1, 2, 0] rfl)
  have L51 : ∀ (n51 : Nat) (v51_1 : Int32) (v51_2 : Int32) (f51_0_20 : Int32) (H : Heap) (locs : List Loc) (ls : Array Slot) (w189 : va_W), 0 ≤ v51_1.toInt → 0 ≤ v51_2.toInt → v51_2.toInt ≤ 296 → 0 ≤ f51_0_20.toInt → f51_0_20.toInt ≤ 32 → (296 - v51_2.toInt).toNat < n51 → Wd dC dI A s.heap H locs w189 → TW ksM ad cy B qr 12 w189 → FE ksM [(12, 1, 1), (12, 7, 7), (12, 8, 8), (12, 9, 9), (12, 10, 10), (12, 14, 14), (12, 15, 15), (12, 16, 16), (12, 17, 17), (12, 18, 18), (12, 20, 20), (62, 0, 7), (65, 0, 120), (66, 0, 16), (67, 0, 12), (71, 0, 0), (71, 0, 295), (71, 1, 1), (71, 2, 2), (71, 3, 3), (71, 9, 9), (71, 10, 129), (71, 140, 155), (71, 156, 167)] w0 w189 → gi w189 0 1 = 0 → gi w189 0 15 = 0 → gi w189 0 17 = 6 → gi w189 0 18 = 0 → gi w189 0 20 = f51_0_20 → lv_has ls 3 [(0, .ref (ad 0)), (1, .int v51_1), (2, .int v51_2)] → W p l e ({ frames := 7, cells := 0, slots := 0, locals := 149 }) s m (List.toArray [.ref (ad 0)]) below meth c H locs 0 0 (MQ below (va_Qi (P_X12_town_1 ad cy B qr s1  w0) (fun u : va_W => wpost dC dI cy A u) A) (List.toArray [.ref (ad 0)]) s 0 0 A) (F0 m 51 ls []) := by
    intro n51
    induction n51 with
    | zero => intro v51_1 v51_2 f51_0_20 H locs ls w189 r190 r191 t192 r197 t198 hm51 hw hT hF c193 c194 c195 c196 c199 hl; omega
    | succ n51 ih51 =>
      intro v51_1 v51_2 f51_0_20 H locs ls w189 r190 r191 t192 r197 t198 hm51 hw hT hF c193 c194 c195 c196 c199 hl
      refine lv_iload_n hx hb dX12_town_51 rfl (lv_at hl 2 rfl) ?_
      refine lv_sipush (v := 296) hx hb dX12_town_52 (by decide) ?_
      refine lv_icmp_ge (tgt := 71) hx hb dX12_town_55 (by decide) (fun c200 => ?_) (fun c200 => ?_)
      · have c200 : (296 : Int) ≤ v51_2.toInt := wk_le.mp c200
        refine lv_aload_n hx hb dX12_town_71 rfl (lv_at hl 0 rfl) ?_
        refine tk_getA hC hK hw hT hinX12 kM_at0 (by decide) rfl 26 (by decide) (List.mem_of_getElem? (i := 7) rfl) rfl rfl dX12_town_72 ?_
        refine lv_iconst (v := 0) hx hb dX12_town_75 (by decide) ?_
        refine lv_aload_n hx hb dX12_town_76 rfl (lv_at hl 0 rfl) ?_
        refine tk_geti hC hK hw hT hinX12 kM_at0 (by decide) rfl 7 (by decide) (List.mem_of_getElem? (i := 2) rfl) rfl rfl dX12_town_77 (fun x201 c202 rx201 tx201 => ?_)
        refine tk_iastR hC hK hw hT kM_at12 (by decide) rfl (by decide) (by decide) (tk_rgS rfl 0 1 1 0 10 (by decide +kernel) ⟨0, by decide, by decide⟩ (show 0 ≤ x201.toInt by omega) (show x201.toInt ≤ 10 by omega)) dX12_town_80 (fun H locs w203 hw hT k205 c204 => ?_)
        have hF := hF.put kM_at12 (inE_of (a := 0) (b := 0) (by decide) (by decide) (by decide)) k205
        have c206 := k205.gi (Or.inl (tk_ne kM_at0 kM_at12 (by decide))) c193
        have c207 := k205.gi (Or.inl (tk_ne kM_at0 kM_at12 (by decide))) c194
        have c208 := k205.gi (Or.inl (tk_ne kM_at0 kM_at12 (by decide))) c195
        have c209 := k205.gi (Or.inl (tk_ne kM_at0 kM_at12 (by decide))) c196
        have c210 := k205.gi (Or.inl (tk_ne kM_at0 kM_at12 (by decide))) c199
        have c211 := k205.gi (Or.inl (tk_ne kM_at0 kM_at12 (by decide))) c202
        have c204 : gi w203 12 0 = x201 := c204
        refine lv_aload_n hx hb dX12_town_81 rfl (lv_at hl 0 rfl) ?_
        refine tk_getA hC hK hw hT hinX12 kM_at0 (by decide) rfl 26 (by decide) (List.mem_of_getElem? (i := 7) rfl) rfl rfl dX12_town_82 ?_
        refine lv_iconst (v := 1) hx hb dX12_town_85 (by decide) ?_
        refine lv_aload_n hx hb dX12_town_86 rfl (lv_at hl 0 rfl) ?_
        refine tk_geti hC hK hw hT hinX12 kM_at0 (by decide) rfl 8 (by decide) (List.mem_of_getElem? (i := 3) rfl) rfl rfl dX12_town_87 (fun x212 c213 rx212 tx212 => ?_)
        refine tk_iastR hC hK hw hT kM_at12 (by decide) rfl (by decide) (by decide) ((tk_rg1 rfl).mpr ⟨(show 0 ≤ x212.toInt by omega), (show x212.toInt ≤ if (71 : Nat) = 71 then (12 : Int) else 12 from (show x212.toInt ≤ 12 by omega))⟩) dX12_town_90 (fun H locs w214 hw hT k216 c215 => ?_)
        have hF := hF.put kM_at12 (inE_of (a := 1) (b := 1) (by decide) (by decide) (by decide)) k216
        have c217 := k216.gi (Or.inl (tk_ne kM_at0 kM_at12 (by decide))) c206
        have c218 := k216.gi (Or.inl (tk_ne kM_at0 kM_at12 (by decide))) c207
        have c219 := k216.gi (Or.inl (tk_ne kM_at0 kM_at12 (by decide))) c208
        have c220 := k216.gi (Or.inl (tk_ne kM_at0 kM_at12 (by decide))) c209
        have c221 := k216.gi (Or.inl (tk_ne kM_at0 kM_at12 (by decide))) c210
        have c222 := k216.gi (Or.inl (tk_ne kM_at0 kM_at12 (by decide))) c211
        have c223 := k216.gi (Or.inr (by decide)) c204
        have c224 := k216.gi (Or.inl (tk_ne kM_at0 kM_at12 (by decide))) c213
        have c215 : gi w214 12 1 = x212 := c215
        refine lv_aload_n hx hb dX12_town_91 rfl (lv_at hl 0 rfl) ?_
        refine tk_getA hC hK hw hT hinX12 kM_at0 (by decide) rfl 26 (by decide) (List.mem_of_getElem? (i := 7) rfl) rfl rfl dX12_town_92 ?_
        refine lv_iconst (v := 2) hx hb dX12_town_95 (by decide) ?_
        refine lv_aload_n hx hb dX12_town_96 rfl (lv_at hl 0 rfl) ?_
        refine tk_geti hC hK hw hT hinX12 kM_at0 (by decide) rfl 9 (by decide) (List.mem_of_getElem? (i := 4) rfl) rfl rfl dX12_town_97 (fun x225 c226 rx225 tx225 => ?_)
        refine tk_iastR hC hK hw hT kM_at12 (by decide) rfl (by decide) (by decide) (tk_rgS rfl 2 1 1 0 8 (by decide +kernel) ⟨0, by decide, by decide⟩ (show 0 ≤ x225.toInt by omega) (show x225.toInt ≤ 8 by omega)) dX12_town_100 (fun H locs w227 hw hT k229 c228 => ?_)
        have hF := hF.put kM_at12 (inE_of (a := 2) (b := 2) (by decide) (by decide) (by decide)) k229
        have c230 := k229.gi (Or.inl (tk_ne kM_at0 kM_at12 (by decide))) c217
        have c231 := k229.gi (Or.inl (tk_ne kM_at0 kM_at12 (by decide))) c218
        have c232 := k229.gi (Or.inl (tk_ne kM_at0 kM_at12 (by decide))) c219
        have c233 := k229.gi (Or.inl (tk_ne kM_at0 kM_at12 (by decide))) c220
        have c234 := k229.gi (Or.inl (tk_ne kM_at0 kM_at12 (by decide))) c221
        have c235 := k229.gi (Or.inl (tk_ne kM_at0 kM_at12 (by decide))) c222
        have c236 := k229.gi (Or.inr (by decide)) c223
        have c237 := k229.gi (Or.inl (tk_ne kM_at0 kM_at12 (by decide))) c224
        have c238 := k229.gi (Or.inr (by decide)) c215
        have c239 := k229.gi (Or.inl (tk_ne kM_at0 kM_at12 (by decide))) c226
        have c228 : gi w227 12 2 = x225 := c228
        refine lv_aload_n hx hb dX12_town_101 rfl (lv_at hl 0 rfl) ?_
        refine tk_getA hC hK hw hT hinX12 kM_at0 (by decide) rfl 26 (by decide) (List.mem_of_getElem? (i := 7) rfl) rfl rfl dX12_town_102 ?_
        refine lv_iconst (v := 3) hx hb dX12_town_105 (by decide) ?_
        refine lv_aload_n hx hb dX12_town_106 rfl (lv_at hl 0 rfl) ?_
        refine tk_geti hC hK hw hT hinX12 kM_at0 (by decide) rfl 10 (by decide) (List.mem_of_getElem? (i := 5) rfl) rfl rfl dX12_town_107 (fun x240 c241 rx240 tx240 => ?_)
        refine tk_iastR hC hK hw hT kM_at12 (by decide) rfl (by decide) (by decide) (tk_rgS rfl 3 1 1 0 4 (by decide +kernel) ⟨0, by decide, by decide⟩ (show 0 ≤ x240.toInt by omega) (show x240.toInt ≤ 4 by omega)) dX12_town_110 (fun H locs w242 hw hT k244 c243 => ?_)
        have hF := hF.put kM_at12 (inE_of (a := 3) (b := 3) (by decide) (by decide) (by decide)) k244
        have c245 := k244.gi (Or.inl (tk_ne kM_at0 kM_at12 (by decide))) c230
        have c246 := k244.gi (Or.inl (tk_ne kM_at0 kM_at12 (by decide))) c231
        have c247 := k244.gi (Or.inl (tk_ne kM_at0 kM_at12 (by decide))) c232
        have c248 := k244.gi (Or.inl (tk_ne kM_at0 kM_at12 (by decide))) c233
        have c249 := k244.gi (Or.inl (tk_ne kM_at0 kM_at12 (by decide))) c234
        have c250 := k244.gi (Or.inl (tk_ne kM_at0 kM_at12 (by decide))) c235
        have c251 := k244.gi (Or.inr (by decide)) c236
        have c252 := k244.gi (Or.inl (tk_ne kM_at0 kM_at12 (by decide))) c237
        have c253 := k244.gi (Or.inr (by decide)) c238
        have c254 := k244.gi (Or.inl (tk_ne kM_at0 kM_at12 (by decide))) c239
        have c255 := k244.gi (Or.inr (by decide)) c228
        have c256 := k244.gi (Or.inl (tk_ne kM_at0 kM_at12 (by decide))) c241
        have c243 : gi w242 12 3 = x240 := c243
        refine lv_aload_n hx hb dX12_town_111 rfl (lv_at hl 0 rfl) ?_
        refine tk_getA hC hK hw hT hinX12 kM_at0 (by decide) rfl 26 (by decide) (List.mem_of_getElem? (i := 7) rfl) rfl rfl dX12_town_112 ?_
        refine lv_bipush (v := 9) hx hb dX12_town_115 (by decide) ?_
        refine lv_iload_n hx hb dX12_town_117 rfl (lv_at hl 1 rfl) ?_
        refine tk_iastR hC hK hw hT kM_at12 (by decide) rfl (by decide) (by decide) (tk_rgS rfl 9 1 1 0 2147483647 (by decide +kernel) ⟨0, by decide, by decide⟩ (show 0 ≤ v51_1.toInt by omega) (wk_i32 v51_1).2) dX12_town_118 (fun H locs w257 hw hT k259 c258 => ?_)
        have hF := hF.put kM_at12 (inE_of (a := 9) (b := 9) (by decide) (by decide) (by decide)) k259
        have c260 := k259.gi (Or.inl (tk_ne kM_at0 kM_at12 (by decide))) c245
        have c261 := k259.gi (Or.inl (tk_ne kM_at0 kM_at12 (by decide))) c246
        have c262 := k259.gi (Or.inl (tk_ne kM_at0 kM_at12 (by decide))) c247
        have c263 := k259.gi (Or.inl (tk_ne kM_at0 kM_at12 (by decide))) c248
        have c264 := k259.gi (Or.inl (tk_ne kM_at0 kM_at12 (by decide))) c249
        have c265 := k259.gi (Or.inl (tk_ne kM_at0 kM_at12 (by decide))) c250
        have c266 := k259.gi (Or.inr (by decide)) c251
        have c267 := k259.gi (Or.inl (tk_ne kM_at0 kM_at12 (by decide))) c252
        have c268 := k259.gi (Or.inr (by decide)) c253
        have c269 := k259.gi (Or.inl (tk_ne kM_at0 kM_at12 (by decide))) c254
        have c270 := k259.gi (Or.inr (by decide)) c255
        have c271 := k259.gi (Or.inl (tk_ne kM_at0 kM_at12 (by decide))) c256
        have c272 := k259.gi (Or.inr (by decide)) c243
        have c258 : gi w257 12 9 = v51_1 := c258
        refine lv_iconst (v := 0) hx hb dX12_town_119 (by decide) ?_
        refine lv_istore_n (lv' := [(2, .int 0), (0, .ref (ad 0)), (1, .int v51_1)]) hx hb dX12_town_120 rfl hl (by decide) rfl (fun ls hl => ?_)
        exact L121 ((120 - (0 : Int)).toNat + 1) v51_1 0 x240 f51_0_20 x201 x212 x225 x201 x212 x225 x240 v51_1 H locs ls w257 (show 0 ≤ v51_1.toInt by omega) (by decide) (by decide) (show 0 ≤ x240.toInt by omega) (show x240.toInt ≤ 4 by omega) (show 0 ≤ f51_0_20.toInt by omega) (show f51_0_20.toInt ≤ 32 by omega) (show 0 ≤ x201.toInt by omega) (show x201.toInt ≤ 10 by omega) (show 0 ≤ x212.toInt by omega) (show x212.toInt ≤ 12 by omega) (show 0 ≤ x225.toInt by omega) (show x225.toInt ≤ 8 by omega) (show 0 ≤ x201.toInt by omega) (show x201.toInt ≤ 10 by omega) (show 0 ≤ x212.toInt by omega) (show x212.toInt ≤ 12 by omega) (show 0 ≤ x225.toInt by omega) (show x225.toInt ≤ 8 by omega) (show 0 ≤ x240.toInt by omega) (show x240.toInt ≤ 4 by omega) (show 0 ≤ v51_1.toInt by omega) (Nat.lt_succ_self _) hw hT hF c260 c271 c261 c262 c263 c264 c265 c267 c269 c266 c268 c270 c272 c258 (lv_sub hl [1, 2, 0] rfl)
      · have c200 : v51_2.toInt < (296 : Int) := wk_leF c200
        refine lv_aload_n hx hb dX12_town_58 rfl (lv_at hl 0 rfl) ?_
        refine tk_getA hC hK hw hT hinX12 kM_at0 (by decide) rfl 26 (by decide) (List.mem_of_getElem? (i := 7) rfl) rfl rfl dX12_town_59 ?_
        refine lv_iload_n hx hb dX12_town_62 rfl (lv_at hl 2 rfl) ?_
        refine lv_iconst (v := 0) hx hb dX12_town_63 (by decide) ?_
        refine tk_iastR hC hK hw hT kM_at12 (by decide) rfl (show 0 ≤ v51_2.toInt by omega) (show v51_2.toInt < 296 by omega) (tk_rg0 rfl (show 0 ≤ B by omega) (by decide)) dX12_town_64 (fun H locs w273 hw hT k275 c274 => ?_)
        have hF := hF.put kM_at12 (inE_of (a := 0) (b := 295) (by decide) (show 0 ≤ v51_2.toInt.toNat by omega) (show v51_2.toInt.toNat ≤ 295 by omega)) k275
        have c276 := k275.gi (Or.inl (tk_ne kM_at0 kM_at12 (by decide))) c193
        have c277 := k275.gi (Or.inl (tk_ne kM_at0 kM_at12 (by decide))) c194
        have c278 := k275.gi (Or.inl (tk_ne kM_at0 kM_at12 (by decide))) c195
        have c279 := k275.gi (Or.inl (tk_ne kM_at0 kM_at12 (by decide))) c196
        have c280 := k275.gi (Or.inl (tk_ne kM_at0 kM_at12 (by decide))) c199
        obtain ⟨x281, ex281⟩ : ∃ y : Int32, y = v51_2 + Int32.ofInt 1 := ⟨_, rfl⟩
        refine lv_iinc (v := x281) (lv' := [(2, .int x281), (0, .ref (ad 0)), (1, .int v51_1)]) hx hb dX12_town_65 hl (k := 2) rfl ex281.symm (by decide) rfl (fun ls hl => ?_)
        have ex281 : x281.toInt = v51_2.toInt + 1 := by rw [ex281]; exact wk_add (y := 1) (show -2147483648 ≤ v51_2.toInt + 1 by omega) (show v51_2.toInt + 1 ≤ 2147483647 by omega)
        refine lv_goto (tgt := 51) hx hb dX12_town_68 (by decide) ?_
        exact ih51 v51_1 x281 f51_0_20 H locs ls w273 (show 0 ≤ v51_1.toInt by omega) (show 0 ≤ x281.toInt by omega) (show x281.toInt ≤ 296 by omega) (show 0 ≤ f51_0_20.toInt by omega) (show f51_0_20.toInt ≤ 32 by omega) (show (296 - x281.toInt).toNat < n51 by omega) hw hT hF c276 c277 c278 c279 c280 (lv_sub hl [1, 2, 0] rfl)
  refine lv_aload_n hx hb dX12_town_0 rfl (lv_at hl 0 rfl) ?_
  refine lv_bipush (v := 6) hx hb dX12_town_1 (by decide) ?_
  refine tk_puti hC hK hw hT hinX12 tyX12_ok nmX12 kM_at0 (by decide) rfl rfl 17 (by decide) (List.mem_of_getElem? (i := 1) rfl) rfl rfl rfl rfl (by decide) (by decide) dX12_town_3 (fun H locs w282 hw hT k284 c283 => ?_)
  have hF := hF.put kM_at0 (k := 17) (by decide) k284
  refine lv_aload_n hx hb dX12_town_6 rfl (lv_at hl 0 rfl) ?_
  refine lv_iconst (v := 0) hx hb dX12_town_7 (by decide) ?_
  refine tk_puti hC hK hw hT hinX12 tyX12_ok nmX12 kM_at0 (by decide) rfl rfl 7 (by decide) (List.mem_of_getElem? (i := 2) rfl) rfl rfl rfl rfl (by decide) (by decide) dX12_town_8 (fun H locs w285 hw hT k287 c286 => ?_)
  have hF := hF.put kM_at0 (k := 7) (by decide) k287
  have c288 := k287.gi (Or.inr (by decide)) c283
  refine lv_aload_n hx hb dX12_town_11 rfl (lv_at hl 0 rfl) ?_
  refine lv_iconst (v := 0) hx hb dX12_town_12 (by decide) ?_
  refine tk_puti hC hK hw hT hinX12 tyX12_ok nmX12 kM_at0 (by decide) rfl rfl 8 (by decide) (List.mem_of_getElem? (i := 3) rfl) rfl rfl rfl rfl (by decide) (by decide) dX12_town_13 (fun H locs w289 hw hT k291 c290 => ?_)
  have hF := hF.put kM_at0 (k := 8) (by decide) k291
  have c292 := k291.gi (Or.inr (by decide)) c288
  have c293 := k291.gi (Or.inr (by decide)) c286
  refine lv_aload_n hx hb dX12_town_16 rfl (lv_at hl 0 rfl) ?_
  refine lv_iconst (v := 0) hx hb dX12_town_17 (by decide) ?_
  refine tk_puti hC hK hw hT hinX12 tyX12_ok nmX12 kM_at0 (by decide) rfl rfl 9 (by decide) (List.mem_of_getElem? (i := 4) rfl) rfl rfl rfl rfl (by decide) (by decide) dX12_town_18 (fun H locs w294 hw hT k296 c295 => ?_)
  have hF := hF.put kM_at0 (k := 9) (by decide) k296
  have c297 := k296.gi (Or.inr (by decide)) c292
  have c298 := k296.gi (Or.inr (by decide)) c293
  have c299 := k296.gi (Or.inr (by decide)) c290
  refine lv_aload_n hx hb dX12_town_21 rfl (lv_at hl 0 rfl) ?_
  refine lv_iconst (v := 0) hx hb dX12_town_22 (by decide) ?_
  refine tk_puti hC hK hw hT hinX12 tyX12_ok nmX12 kM_at0 (by decide) rfl rfl 10 (by decide) (List.mem_of_getElem? (i := 5) rfl) rfl rfl rfl rfl (by decide) (by decide) dX12_town_23 (fun H locs w300 hw hT k302 c301 => ?_)
  have hF := hF.put kM_at0 (k := 10) (by decide) k302
  have c303 := k302.gi (Or.inr (by decide)) c297
  have c304 := k302.gi (Or.inr (by decide)) c298
  have c305 := k302.gi (Or.inr (by decide)) c299
  have c306 := k302.gi (Or.inr (by decide)) c295
  refine lv_aload_n hx hb dX12_town_26 rfl (lv_at hl 0 rfl) ?_
  obtain ⟨x307, c308, rx307, tx307⟩ := hT.rdi (lo := 0) (hi := 32) (k := 20) kM_at0 (by decide) rfl
  refine tk_Vi hC hK hw hT hA hE hSR kM_at0 (by decide) rfl (k_X12_readsAll_1 l adK adV dC dI cy ad B (by omega) (by omega) qr s1    w300 H.size hT c303 x307 c308 (show 0 ≤ x307.toInt by omega) (show x307.toInt ≤ 32 by omega)) (cwV 0 hC.2.2.2.2 gX12_town_X12_readsAll rfl rfl rfl (by decide +kernel) ⟨Nat.le_of_ble_eq_true rfl, Nat.le_of_ble_eq_true rfl⟩) rfl hl.1 rfl (Nat.le_of_ble_eq_true rfl) dX12_town_27 (fun r309 w311 H locs hp310 hw => ?_)
  obtain ⟨hT, k312, hg333⟩ := hp310
  have hF := hF.tr k312 (by decide)
  have c334 := k312.gi kM_at0 (by decide) c303
  rcases hg333 with ⟨rfl, ⟨x313, c314, rx313, tx313⟩, ⟨x315, c316, rx315, tx315⟩, ⟨x317, c318, rx317, tx317⟩, ⟨x319, c320, rx319, tx319⟩, ⟨x321, c322, rx321, tx321⟩⟩ | ⟨rfl, ⟨x323, c324, rx323, tx323⟩, ⟨x325, c326, rx325, tx325⟩, ⟨x327, c328, rx327, tx327⟩, ⟨x329, c330, rx329, tx329⟩, ⟨x331, c332, rx331, tx331⟩⟩
  · have ex317 : x317.toInt = (6 : Int) := by rw [show x317 = 6 from c318.symm.trans c334]; decide
    refine lv_if_ne (tgt := 41) hx hb dX12_town_30 (by decide) (fun c => absurd (by decide) c) (fun _ => ?_)
    refine lv_bipush (v := (-2)) hx hb dX12_town_33 (by decide) ?_
    refine lv_aload_n hx hb dX12_town_35 rfl (lv_at hl 0 rfl) ?_
    refine tk_geti hC hK hw hT hinX12 kM_at0 (by decide) rfl 15 (by decide) (List.mem_of_getElem? (i := 6) rfl) rfl rfl dX12_town_36 (fun x335 c336 rx335 tx335 => ?_)
    refine wk_top x315 (c336.symm.trans c316) ?_
    refine lv_isub hx hb dX12_town_39 ?_
    refine lv_topi (fun x337 ex337 => ?_)
    have ex337 : x337.toInt = (-2 : Int) - x315.toInt := by rw [ex337]; exact wk_sub (show (-2147483648) ≤ (-2 : Int) - x315.toInt by omega) (show (-2 : Int) - x315.toInt ≤ 2147483647 by omega)
    exact tk_iret hC hr hlocks hK ⟨hT, hF, (Or.inl ⟨(show (-3207) ≤ x337.toInt by omega), (show x337.toInt ≤ (-3) by omega), ⟨x313, c314, (show 0 ≤ x313.toInt by omega), (show x313.toInt ≤ 0 by omega)⟩, ⟨x315, c316, (show 1 ≤ x315.toInt by omega), (show x315.toInt ≤ 3205 by omega)⟩, ⟨6, c334, (by decide), (by decide)⟩, ⟨x319, c320, (show 0 ≤ x319.toInt by omega), (show x319.toInt ≤ 0 by omega)⟩, ⟨x321, c322, (show 0 ≤ x321.toInt by omega), (show x321.toInt ≤ 32 by omega)⟩⟩)⟩ hw dX12_town_40
  · have ex327 : x327.toInt = (6 : Int) := by rw [show x327 = 6 from c328.symm.trans c334]; decide
    refine lv_if_ne (tgt := 41) hx hb dX12_town_30 (by decide) (fun _ => ?_) (fun c => absurd c (by decide))
    refine lv_aload_n hx hb dX12_town_41 rfl (lv_at hl 0 rfl) ?_
    refine tk_getA hC hK hw hT hinX12 kM_at0 (by decide) rfl 26 (by decide) (List.mem_of_getElem? (i := 7) rfl) rfl rfl dX12_town_42 ?_
    refine lv_bipush (v := 9) hx hb dX12_town_45 (by decide) ?_
    refine tk_ialdR hC hK hw hT kM_at12 rfl (by decide) (by decide) dX12_town_47 (fun x338 c339 Ex338 => ?_)
    have bx338 := tk_rgI rfl 9 1 1 0 2147483647 (by decide +kernel) ⟨0, by decide, by decide⟩ Ex338
    have c339 : gi w311 12 9 = x338 := c339
    refine lv_istore_n (lv' := [(1, .int x338), (0, .ref (ad 0))]) hx hb dX12_town_48 rfl hl (by decide) rfl (fun ls hl => ?_)
    refine lv_iconst (v := 0) hx hb dX12_town_49 (by decide) ?_
    refine lv_istore_n (lv' := [(2, .int 0), (1, .int x338), (0, .ref (ad 0))]) hx hb dX12_town_50 rfl hl (by decide) rfl (fun ls hl => ?_)
    obtain rfl : x323 = 0 := wk_eq.mpr (show x323.toInt = 0 by omega)
    obtain rfl : x325 = 0 := wk_eq.mpr (show x325.toInt = 0 by omega)
    obtain rfl : x329 = 0 := wk_eq.mpr (show x329.toInt = 0 by omega)
    exact L51 ((296 - (0 : Int)).toNat + 1) x338 0 x331 H locs ls w311 (show 0 ≤ x338.toInt by omega) (by decide) (by decide) (show 0 ≤ x331.toInt by omega) (show x331.toInt ≤ 32 by omega) (Nat.lt_succ_self _) hw hT hF c324 c326 c334 c330 c332 (lv_sub hl [2, 1, 0] rfl)
abbrev P_X12_isWord_5 (ad : Nat → Nat) (cy : Nat → ClassId) (B : Int) (qr : Nat) (s1 : Int)  (w0 : va_W) : Int32 → va_W → Prop := fun r u => TW ksM ad cy B qr 12 u ∧ FE ksM [(12, 14, 14)] w0 u ∧ ((r = 0 ∧ (∃ y : Int32, gi u 0 1 = y ∧ 0 ≤ y.toInt ∧ y.toInt ≤ 400) ∧ (((gi u 0 14).toInt = (gi w0 0 14).toInt ∨ (gi w0 1 ((gi w0 0 14).toInt).toNat).toInt = 32))) ∨ (r = 1 ∧ (∃ y : Int32, gi u 0 1 = y ∧ 0 ≤ y.toInt ∧ y.toInt ≤ 400) ∧ (((gi u 0 14).toInt = (gi w0 0 14).toInt ∨ (gi w0 1 ((gi w0 0 14).toInt).toNat).toInt = 32))))
set_option maxHeartbeats 4000000 in
set_option maxRecDepth 100000 in
theorem k_X12_isWord_5 (l : Launch) (adK adV : Nat → Nat) (dC : Nat → ClassId) (dI : Nat → Nat → Nat) (cy : Nat → ClassId) (ad : Nat → Nat) (B : Int) (hB0 : 100000 ≤ B) (hB1 : B ≤ 1073741824) (qr : Nat) (s1 : Int)   (w0 : va_W) (sz : Nat) (hT : TW ksM ad cy B qr 12 w0) (f0_ : Int32) (cf0_ : gi w0 0 14 = f0_) (rf0_ : 0 ≤ f0_.toInt) (tf0_ : f0_.toInt ≤ 400) : Met l yX12_isWord wsX12_isWord ({ frames := 2, cells := 0, slots := 0, locals := 33 }) (va_Pc [.ref (ad 0), .long 2002872692] (wpreS adK adV dC dI cy sz w0)) (va_Qi (P_X12_isWord_5 ad cy B qr s1  w0) (fun u : va_W => wpost dC dI cy (va_A w0 sz) u) (va_A w0 sz)) 0 0 (va_A w0 sz) := by
  refine Met.ofW (cc := cX12_isWord) (maxL := 6) (ret := (some .boolean)) (by decide) rfl ?_
  intro p e s m args below meth c s₁ Bk hml hv
  obtain ⟨rfl, ⟨hsz, hP, hK, hD0⟩, hE, hSR⟩ := hv
  have hx := Bk.exec
  have hb := Bk.bytes
  have hr := Bk.returns
  have hlocks := Bk.notSynchronized
  have hC : CallFix p m c cX12_isWord 6 s _ wsX12_isWord RX12 := ⟨hx, hb, hml, findClass_of_methodNamed Bk.named, atoms_spec (ws := wsX12_isWord) Bk.pre⟩
  subst hsz
  have hD := hD0.self (sz := s.heap.size)
  generalize hAe : va_A w0 s.heap.size = A at hD hE ⊢
  have hA : ∀ q : Nat, s.heap.size ≤ q → A q := fun q h => by rw [← hAe]; exact Or.inr h
  have hw : Wd dC dI A s.heap s.heap [] w0 := ⟨hP, hD, va_S.rf⟩
  have hF : FE ksM [(12, 14, 14)] w0 w0 := FE.rf
  have hl := lv_entry ([.ref (ad 0), .long 2002872692]) (n := 6) (Nat.le_of_ble_eq_true rfl)
  rw [lg_entry_eq]
  generalize (lg_sl ([.ref (ad 0), .long 2002872692]) ++ List.replicate (6 - (lg_sl ([.ref (ad 0), .long 2002872692])).length) Slot.unset).toArray = ls at hl ⊢
  have hl : lv_has ls 6 [(0, .ref (ad 0)), (1, .long 2002872692)] := hl
  generalize hloc : ([] : List Loc) = locs at hw ⊢
  have hinX12 : ∀ w ∈ u_ws RX12 TX12 42, w ∈ wsX12_isWord := fun _ h => List.mem_cons_of_mem _ (List.mem_append_right _ (h))
  have J78 : ∀ (v78_3 : Int64) (v78_5 : Int32) (f78_0_1 : Int32) (f78_0_14 : Int32) (H : Heap) (locs : List Loc) (ls : Array Slot) (w1 : va_W), 0 ≤ v78_5.toInt → v78_5.toInt ≤ 400 → 0 ≤ f78_0_1.toInt → f78_0_1.toInt ≤ 400 → 0 ≤ f78_0_14.toInt → f78_0_14.toInt ≤ 400 → ((f78_0_14.toInt = f0_.toInt ∨ (gi w0 1 (f0_.toInt).toNat).toInt = 32)) → Wd dC dI A s.heap H locs w1 → TW ksM ad cy B qr 12 w1 → FE ksM [(12, 14, 14)] w0 w1 → gi w1 0 1 = f78_0_1 → gi w1 0 14 = f78_0_14 → lv_has ls 6 [(0, .ref (ad 0)), (1, .long 2002872692), (3, .long v78_3), (5, .int v78_5)] → W p l e ({ frames := 2, cells := 0, slots := 0, locals := 33 }) s m (List.toArray [.ref (ad 0), .long 2002872692]) below meth c H locs 0 0 (MQ below (va_Qi (P_X12_isWord_5 ad cy B qr s1  w0) (fun u : va_W => wpost dC dI cy A u) A) (List.toArray [.ref (ad 0), .long 2002872692]) s 0 0 A) (F0 m 78 ls []) := by
    intro v78_3 v78_5 f78_0_1 f78_0_14 H locs ls w1 r2 t3 r4 t5 r7 t8 hcr78_0 hw hT hF c6 c9 hl
    refine lv_iconst (v := 0) hx hb dX12_isWord_78 (by decide) ?_
    exact tk_zret hC hr rfl hlocks hK ⟨hT, hF, (Or.inl ⟨rfl, ⟨f78_0_1, c6, (show 0 ≤ f78_0_1.toInt by omega), (show f78_0_1.toInt ≤ 400 by omega)⟩, (by simp only [cf0_, c9]; omega)⟩)⟩ hw dX12_isWord_79
  have L10 : ∀ (n10 : Nat) (v10_3 : Int64) (v10_5 : Int32) (f10_0_1 : Int32) (f10_0_14 : Int32) (H : Heap) (locs : List Loc) (ls : Array Slot) (w10 : va_W), 0 ≤ v10_5.toInt → v10_5.toInt ≤ 400 → 0 ≤ f10_0_1.toInt → f10_0_1.toInt ≤ 400 → 0 ≤ f10_0_14.toInt → f10_0_14.toInt ≤ 400 → ((f10_0_14.toInt = f0_.toInt ∨ (gi w0 1 (f0_.toInt).toNat).toInt = 32)) → (400 - v10_5.toInt).toNat < n10 → Wd dC dI A s.heap H locs w10 → TW ksM ad cy B qr 12 w10 → FE ksM [(12, 14, 14)] w0 w10 → gi w10 0 1 = f10_0_1 → gi w10 0 14 = f10_0_14 → lv_has ls 6 [(0, .ref (ad 0)), (1, .long 2002872692), (3, .long v10_3), (5, .int v10_5)] → W p l e ({ frames := 2, cells := 0, slots := 0, locals := 33 }) s m (List.toArray [.ref (ad 0), .long 2002872692]) below meth c H locs 0 0 (MQ below (va_Qi (P_X12_isWord_5 ad cy B qr s1  w0) (fun u : va_W => wpost dC dI cy A u) A) (List.toArray [.ref (ad 0), .long 2002872692]) s 0 0 A) (F0 m 10 ls []) := by
    intro n10
    induction n10 with
    | zero => intro v10_3 v10_5 f10_0_1 f10_0_14 H locs ls w10 r11 t12 r13 t14 r16 t17 hcr10_0 hm10 hw hT hF c15 c18 hl; omega
    | succ n10 ih10 =>
      intro v10_3 v10_5 f10_0_1 f10_0_14 H locs ls w10 r11 t12 r13 t14 r16 t17 hcr10_0 hm10 hw hT hF c15 c18 hl
      have J50 : ∀ (v50_3 : Int64) (H : Heap) (locs : List Loc) (ls : Array Slot) (w19 : va_W), 0 ≤ v10_5.toInt → v10_5.toInt ≤ 399 → 1 ≤ f10_0_1.toInt → f10_0_1.toInt ≤ 400 → 0 ≤ f10_0_14.toInt → f10_0_14.toInt ≤ 399 → ((f10_0_14.toInt = f0_.toInt ∨ (gi w0 1 (f0_.toInt).toNat).toInt = 32)) → Wd dC dI A s.heap H locs w19 → TW ksM ad cy B qr 12 w19 → FE ksM [(12, 14, 14)] w0 w19 → gi w19 0 1 = f10_0_1 → gi w19 0 14 = f10_0_14 → lv_has ls 6 [(0, .ref (ad 0)), (1, .long 2002872692), (3, .long v50_3), (5, .int v10_5)] → W p l e ({ frames := 2, cells := 0, slots := 0, locals := 33 }) s m (List.toArray [.ref (ad 0), .long 2002872692]) below meth c H locs 0 0 (MQ below (va_Qi (P_X12_isWord_5 ad cy B qr s1  w0) (fun u : va_W => wpost dC dI cy A u) A) (List.toArray [.ref (ad 0), .long 2002872692]) s 0 0 A) (F0 m 50 ls []) := by
        intro v50_3 H locs ls w19 r20 t21 r22 t23 r25 t26 hcr50_0 hw hT hF c24 c27 hl
        obtain ⟨x28, ex28⟩ : ∃ y : Int32, y = v10_5 + Int32.ofInt 1 := ⟨_, rfl⟩
        refine lv_iinc (v := x28) (lv' := [(5, .int x28), (0, .ref (ad 0)), (1, .long 2002872692), (3, .long v50_3)]) hx hb dX12_isWord_50 hl (k := 3) rfl ex28.symm (by decide) rfl (fun ls hl => ?_)
        have ex28 : x28.toInt = v10_5.toInt + 1 := by rw [ex28]; exact wk_add (y := 1) (show -2147483648 ≤ v10_5.toInt + 1 by omega) (show v10_5.toInt + 1 ≤ 2147483647 by omega)
        refine lv_goto (tgt := 10) hx hb dX12_isWord_53 (by decide) ?_
        exact ih10 v50_3 x28 f10_0_1 f10_0_14 H locs ls w19 (show 0 ≤ x28.toInt by omega) (show x28.toInt ≤ 400 by omega) (show 0 ≤ f10_0_1.toInt by omega) (show f10_0_1.toInt ≤ 400 by omega) (show 0 ≤ f10_0_14.toInt by omega) (show f10_0_14.toInt ≤ 400 by omega) (show (f10_0_14.toInt = f0_.toInt ∨ (gi w0 1 (f0_.toInt).toNat).toInt = 32) by first | omega | assumption | (left; omega) | (left; decide) | (right; assumption)) (show (400 - x28.toInt).toNat < n10 by omega) hw hT hF c24 c27 (lv_sub hl [1, 2, 3, 0] rfl)
      refine lv_aload_n hx hb dX12_isWord_10 rfl (lv_at hl 0 rfl) ?_
      refine lv_aload_n hx hb dX12_isWord_11 rfl (lv_at hl 0 rfl) ?_
      refine tk_geti hC hK hw hT hinX12 kM_at0 (by decide) rfl 14 (by decide) (List.mem_of_getElem? (i := 1) rfl) rfl rfl dX12_isWord_12 (fun x29 c30 rx29 tx29 => ?_)
      refine wk_top f10_0_14 (c30.symm.trans c18) ?_
      refine lv_iload hx hb dX12_isWord_15 (lv_at hl 3 rfl) ?_
      refine lv_iadd hx hb dX12_isWord_17 ?_
      refine lv_topi (fun x31 ex31 => ?_)
      have ex31 : x31.toInt = f10_0_14.toInt + v10_5.toInt := by rw [ex31]; exact wk_add (show (-2147483648) ≤ f10_0_14.toInt + v10_5.toInt by omega) (show f10_0_14.toInt + v10_5.toInt ≤ 2147483647 by omega)
      refine tk_Vi hC hK hw hT hA hE hSR kM_at0 (by decide) rfl (k_X12_isLetter_1 l adK adV dC dI cy ad B (by omega) (by omega) qr s1   x31 (show 0 ≤ x31.toInt by omega) (show x31.toInt ≤ 800 by omega) w10 H.size hT ) (cwV 1 hC.2.2.2.2 gX12_isWord_X12_isLetter rfl rfl rfl (by decide +kernel) ⟨Nat.le_of_ble_eq_true rfl, Nat.le_of_ble_eq_true rfl⟩) rfl hl.1 rfl (Nat.le_of_ble_eq_true rfl) dX12_isWord_18 (fun r32 w34 H locs hp33 hw => ?_)
      obtain ⟨rfl, hg41⟩ := hp33
      rcases hg41 with ⟨rfl, ⟨x36, c37, rx36, tx36⟩⟩ | ⟨rfl, g38, ⟨x39, c40, rx39, tx39⟩⟩
      · have ex36 : x36.toInt = f10_0_1.toInt := by rw [← c15.symm.trans c37]
        refine lv_if_eq (tgt := 56) hx hb dX12_isWord_21 (by decide) (fun _ => ?_) (fun c => absurd (by decide) c)
        refine lv_iload hx hb dX12_isWord_56 (lv_at hl 3 rfl) ?_
        refine lv_if_le (tgt := 78) hx hb dX12_isWord_58 (by decide) (fun c42 => ?_) (fun c42 => ?_)
        · have c42 : v10_5.toInt ≤ (0 : Int) := wk_le.mp c42
          exact J78 v10_3 v10_5 f10_0_1 f10_0_14 H locs ls w10 (show 0 ≤ v10_5.toInt by omega) (show v10_5.toInt ≤ 400 by omega) (show 0 ≤ f10_0_1.toInt by omega) (show f10_0_1.toInt ≤ 400 by omega) (show 0 ≤ f10_0_14.toInt by omega) (show f10_0_14.toInt ≤ 400 by omega) (show (f10_0_14.toInt = f0_.toInt ∨ (gi w0 1 (f0_.toInt).toNat).toInt = 32) by first | omega | assumption | (left; omega) | (left; decide) | (right; assumption))  hw hT hF c15 c18 (lv_sub hl [0, 1, 2, 3] rfl)
        · have c42 : (0 : Int) < v10_5.toInt := wk_leF c42
          refine lv_iload hx hb dX12_isWord_61 (lv_at hl 3 rfl) ?_
          refine lv_bipush (v := 8) hx hb dX12_isWord_63 (by decide) ?_
          refine lv_icmp_ge (tgt := 78) hx hb dX12_isWord_65 (by decide) (fun c43 => ?_) (fun c43 => ?_)
          · have c43 : (8 : Int) ≤ v10_5.toInt := wk_le.mp c43
            exact J78 v10_3 v10_5 f10_0_1 f10_0_14 H locs ls w10 (show 0 ≤ v10_5.toInt by omega) (show v10_5.toInt ≤ 400 by omega) (show 0 ≤ f10_0_1.toInt by omega) (show f10_0_1.toInt ≤ 400 by omega) (show 0 ≤ f10_0_14.toInt by omega) (show f10_0_14.toInt ≤ 400 by omega) (show (f10_0_14.toInt = f0_.toInt ∨ (gi w0 1 (f0_.toInt).toNat).toInt = 32) by first | omega | assumption | (left; omega) | (left; decide) | (right; assumption))  hw hT hF c15 c18 (lv_sub hl [0, 1, 2, 3] rfl)
          · have c43 : v10_5.toInt < (8 : Int) := wk_leF c43
            refine lv_lload_n hx hb dX12_isWord_68 rfl (lv_at hl 2 rfl) ?_
            refine lv_lload_n hx hb dX12_isWord_69 rfl (lv_at hl 1 rfl) ?_
            refine W.lcmp hx hb dX12_isWord_70 ?_
            refine lv_if_ne (tgt := 78) hx hb dX12_isWord_71 (by decide) (fun c44 => ?_) (fun c44 => ?_)
            · have c44 : ¬ v10_3.toInt = (2002872692 : Int) := wk_ceF c44
              exact J78 v10_3 v10_5 f10_0_1 f10_0_14 H locs ls w10 (show 0 ≤ v10_5.toInt by omega) (show v10_5.toInt ≤ 400 by omega) (show 0 ≤ f10_0_1.toInt by omega) (show f10_0_1.toInt ≤ 400 by omega) (show 0 ≤ f10_0_14.toInt by omega) (show f10_0_14.toInt ≤ 400 by omega) (show (f10_0_14.toInt = f0_.toInt ∨ (gi w0 1 (f0_.toInt).toNat).toInt = 32) by first | omega | assumption | (left; omega) | (left; decide) | (right; assumption))  hw hT hF c15 c18 (lv_sub hl [0, 1, 2, 3] rfl)
            · have c44 : v10_3.toInt = (2002872692 : Int) := wk_ceT c44
              refine lv_iconst (v := 1) hx hb dX12_isWord_74 (by decide) ?_
              refine lv_goto (tgt := 79) hx hb dX12_isWord_75 (by decide) ?_
              exact tk_zret hC hr rfl hlocks hK ⟨hT, hF, (Or.inr ⟨rfl, ⟨f10_0_1, c15, (show 0 ≤ f10_0_1.toInt by omega), (show f10_0_1.toInt ≤ 400 by omega)⟩, (by simp only [cf0_, c18]; omega)⟩)⟩ hw dX12_isWord_79
      · have ex39 : x39.toInt = f10_0_1.toInt := by rw [← c15.symm.trans c40]
        refine lv_if_eq (tgt := 56) hx hb dX12_isWord_21 (by decide) (fun c => absurd c (by decide)) (fun _ => ?_)
        refine lv_iload hx hb dX12_isWord_24 (lv_at hl 3 rfl) ?_
        refine lv_bipush (v := 8) hx hb dX12_isWord_26 (by decide) ?_
        refine lv_icmp_ge (tgt := 50) hx hb dX12_isWord_28 (by decide) (fun c45 => ?_) (fun c45 => ?_)
        · have c45 : (8 : Int) ≤ v10_5.toInt := wk_le.mp c45
          exact J50 v10_3 H locs ls w10 (show 0 ≤ v10_5.toInt by omega) (show v10_5.toInt ≤ 399 by omega) (show 1 ≤ f10_0_1.toInt by omega) (show f10_0_1.toInt ≤ 400 by omega) (show 0 ≤ f10_0_14.toInt by omega) (show f10_0_14.toInt ≤ 399 by omega) (show (f10_0_14.toInt = f0_.toInt ∨ (gi w0 1 (f0_.toInt).toNat).toInt = 32) by first | omega | assumption | (left; omega) | (left; decide) | (right; assumption))  hw hT hF c15 c18 (lv_sub hl [0, 1, 2, 3] rfl)
        · have c45 : v10_5.toInt < (8 : Int) := wk_leF c45
          refine lv_lload_n hx hb dX12_isWord_31 rfl (lv_at hl 2 rfl) ?_
          refine lv_bipush (v := 8) hx hb dX12_isWord_32 (by decide) ?_
          refine lv_lshl hx hb dX12_isWord_34 rfl ?_
          refine lv_topl (fun x46 ex46 => ?_)
          refine lv_aload_n hx hb dX12_isWord_35 rfl (lv_at hl 0 rfl) ?_
          refine tk_getA hC hK hw hT hinX12 kM_at0 (by decide) rfl 0 (by decide) (List.mem_of_getElem? (i := 2) rfl) rfl rfl dX12_isWord_36 ?_
          refine lv_aload_n hx hb dX12_isWord_39 rfl (lv_at hl 0 rfl) ?_
          refine tk_geti hC hK hw hT hinX12 kM_at0 (by decide) rfl 14 (by decide) (List.mem_of_getElem? (i := 1) rfl) rfl rfl dX12_isWord_40 (fun x47 c48 rx47 tx47 => ?_)
          refine wk_top f10_0_14 (c48.symm.trans c18) ?_
          refine lv_iload hx hb dX12_isWord_43 (lv_at hl 3 rfl) ?_
          refine lv_iadd hx hb dX12_isWord_45 ?_
          refine lv_topi (fun x49 ex49 => ?_)
          have ex49 : x49.toInt = f10_0_14.toInt + v10_5.toInt := by rw [ex49]; exact wk_add (show (-2147483648) ≤ f10_0_14.toInt + v10_5.toInt by omega) (show f10_0_14.toInt + v10_5.toInt ≤ 2147483647 by omega)
          refine tk_bald hC hK hw hT kM_at1 rfl rfl (show 0 ≤ x49.toInt by omega) (show x49.toInt < 400 by omega) dX12_isWord_46 (fun x50 c51 rx50 tx50 => ?_)
          have c51 : gi w10 1 (1 * f10_0_14.toInt + 1 * v10_5.toInt + 0).toNat = x50 := (congrArg (gi w10 1) (congrArg Int.toNat (show 1 * f10_0_14.toInt + 1 * v10_5.toInt + 0 = x49.toInt by omega))).trans c51
          refine lv_i2l hx hb dX12_isWord_47 rfl ?_
          refine lv_topl (fun x52 ex52 => ?_)
          have ex52 : x52.toInt = x50.toInt := by rw [ex52]; exact wk_i2l _
          have bx52 := wk_i32 x50
          refine lv_lor hx hb dX12_isWord_48 ?_
          refine lv_topl (fun x53 ex53 => ?_)
          refine lv_lstore_n (lv' := [(3, .long x53), (0, .ref (ad 0)), (1, .long 2002872692), (5, .int v10_5)]) hx hb dX12_isWord_49 rfl hl (by decide) rfl (fun ls hl => ?_)
          exact J50 x53 H locs ls w10 (show 0 ≤ v10_5.toInt by omega) (show v10_5.toInt ≤ 399 by omega) (show 1 ≤ f10_0_1.toInt by omega) (show f10_0_1.toInt ≤ 400 by omega) (show 0 ≤ f10_0_14.toInt by omega) (show f10_0_14.toInt ≤ 399 by omega) (show (f10_0_14.toInt = f0_.toInt ∨ (gi w0 1 (f0_.toInt).toNat).toInt = 32) by first | omega | assumption | (left; omega) | (left; decide) | (right; assumption) | (right; rw [c51]; omega) | (right; rw [c51]; decide))  hw hT hF c15 c18 (lv_sub hl [1, 2, 0, 3] rfl)
  refine lv_aload_n hx hb dX12_isWord_0 rfl (lv_at hl 0 rfl) ?_
  refine tk_Vi hC hK hw hT hA hE hSR kM_at0 (by decide) rfl (k_X12_see_1 l adK adV dC dI cy ad B (by omega) (by omega) qr s1    w0 s.heap.size hT f0_ cf0_ (show 0 ≤ f0_.toInt by omega) (show f0_.toInt ≤ 400 by omega)) (cwV 0 hC.2.2.2.2 gX12_isWord_X12_see rfl rfl rfl (by decide +kernel) ⟨Nat.le_of_ble_eq_true rfl, Nat.le_of_ble_eq_true rfl⟩) rfl hl.1 rfl (Nat.le_of_ble_eq_true rfl) dX12_isWord_1 (fun r54 w56 H locs hp55 hw => ?_)
  obtain ⟨hT, k57, hg74⟩ := hp55
  have hF := hF.tr k57 (by decide)
  rcases hg74 with ⟨g58, g59, ⟨x60, c61, rx60, tx60⟩, ⟨x62, c63, rx62, tx62⟩, g64, g65⟩ | ⟨rfl, ⟨x66, c67, rx66, tx66⟩, ⟨x68, c69, rx68, tx68⟩, g70⟩ | ⟨rfl, ⟨x71, c72, rx71, tx71⟩, g73⟩
  · have g64 : (gi w56 1 (x62.toInt).toNat).toInt ≠ 32 := by have q := g64; simp only [c63] at q; omega
    have g65 : (x62.toInt = f0_.toInt ∨ (gi w0 1 (f0_.toInt).toNat).toInt = 32) := by have q := g65; simp only [cf0_, c63] at q; omega
    refine lv_pop hx hb dX12_isWord_4 rfl ?_
    refine lv_lconst (v := 0) hx hb dX12_isWord_5 (by decide) ?_
    refine lv_lstore_n (lv' := [(3, .long 0), (0, .ref (ad 0)), (1, .long 2002872692)]) hx hb dX12_isWord_6 rfl hl (by decide) rfl (fun ls hl => ?_)
    refine lv_iconst (v := 0) hx hb dX12_isWord_7 (by decide) ?_
    refine lv_istore (lv' := [(5, .int 0), (3, .long 0), (0, .ref (ad 0)), (1, .long 2002872692)]) hx hb dX12_isWord_8 hl (by decide) rfl (fun ls hl => ?_)
    exact L10 ((400 - (0 : Int)).toNat + 1) 0 0 x60 x62 H locs ls w56 (by decide) (by decide) (show 0 ≤ x60.toInt by omega) (show x60.toInt ≤ 400 by omega) (show 0 ≤ x62.toInt by omega) (show x62.toInt ≤ 400 by omega) (show (x62.toInt = f0_.toInt ∨ (gi w0 1 (f0_.toInt).toNat).toInt = 32) by first | omega | assumption | (left; omega) | (left; decide) | (right; assumption)) (Nat.lt_succ_self _) hw hT hF c61 c63 (lv_sub hl [2, 3, 1, 0] rfl)
  · have g70 : (x68.toInt = f0_.toInt ∨ (gi w0 1 (f0_.toInt).toNat).toInt = 32) := by have q := g70; simp only [cf0_, c69] at q; omega
    refine lv_pop hx hb dX12_isWord_4 rfl ?_
    refine lv_lconst (v := 0) hx hb dX12_isWord_5 (by decide) ?_
    refine lv_lstore_n (lv' := [(3, .long 0), (0, .ref (ad 0)), (1, .long 2002872692)]) hx hb dX12_isWord_6 rfl hl (by decide) rfl (fun ls hl => ?_)
    refine lv_iconst (v := 0) hx hb dX12_isWord_7 (by decide) ?_
    refine lv_istore (lv' := [(5, .int 0), (3, .long 0), (0, .ref (ad 0)), (1, .long 2002872692)]) hx hb dX12_isWord_8 hl (by decide) rfl (fun ls hl => ?_)
    exact L10 ((400 - (0 : Int)).toNat + 1) 0 0 x66 x68 H locs ls w56 (by decide) (by decide) (show 0 ≤ x66.toInt by omega) (show x66.toInt ≤ 400 by omega) (show 0 ≤ x68.toInt by omega) (show x68.toInt ≤ 400 by omega) (show (x68.toInt = f0_.toInt ∨ (gi w0 1 (f0_.toInt).toNat).toInt = 32) by first | omega | assumption | (left; omega) | (left; decide) | (right; assumption)) (Nat.lt_succ_self _) hw hT hF c67 c69 (lv_sub hl [2, 3, 1, 0] rfl)
  · obtain ⟨x75, c76, rx75, tx75⟩ := hT.rdi (lo := 0) (hi := 400) (k := 14) kM_at0 (by decide) rfl
    have g73 : (x75.toInt = f0_.toInt ∨ (gi w0 1 (f0_.toInt).toNat).toInt = 32) := by have q := g73; simp only [cf0_, c76] at q; omega
    refine lv_pop hx hb dX12_isWord_4 rfl ?_
    refine lv_lconst (v := 0) hx hb dX12_isWord_5 (by decide) ?_
    refine lv_lstore_n (lv' := [(3, .long 0), (0, .ref (ad 0)), (1, .long 2002872692)]) hx hb dX12_isWord_6 rfl hl (by decide) rfl (fun ls hl => ?_)
    refine lv_iconst (v := 0) hx hb dX12_isWord_7 (by decide) ?_
    refine lv_istore (lv' := [(5, .int 0), (3, .long 0), (0, .ref (ad 0)), (1, .long 2002872692)]) hx hb dX12_isWord_8 hl (by decide) rfl (fun ls hl => ?_)
    exact L10 ((400 - (0 : Int)).toNat + 1) 0 0 x71 x75 H locs ls w56 (by decide) (by decide) (show 0 ≤ x71.toInt by omega) (show x71.toInt ≤ 400 by omega) (show 0 ≤ x75.toInt by omega) (show x75.toInt ≤ 400 by omega) (show (x75.toInt = f0_.toInt ∨ (gi w0 1 (f0_.toInt).toNat).toInt = 32) by first | omega | assumption | (left; omega) | (left; decide) | (right; assumption)) (Nat.lt_succ_self _) hw hT hF c72 c76 (lv_sub hl [2, 3, 1, 0] rfl)
abbrev P_X12_isWord_6 (ad : Nat → Nat) (cy : Nat → ClassId) (B : Int) (qr : Nat) (s1 : Int)  (w0 : va_W) : Int32 → va_W → Prop := fun r u => TW ksM ad cy B qr 12 u ∧ FE ksM [(12, 14, 14)] w0 u ∧ ((r = 0 ∧ (∃ y : Int32, gi u 0 1 = y ∧ 0 ≤ y.toInt ∧ y.toInt ≤ 400) ∧ (((gi u 0 14).toInt = (gi w0 0 14).toInt ∨ (gi w0 1 ((gi w0 0 14).toInt).toNat).toInt = 32))) ∨ (r = 1 ∧ (∃ y : Int32, gi u 0 1 = y ∧ 0 ≤ y.toInt ∧ y.toInt ≤ 400) ∧ (((gi u 0 14).toInt = (gi w0 0 14).toInt ∨ (gi w0 1 ((gi w0 0 14).toInt).toNat).toInt = 32))))
set_option maxHeartbeats 4000000 in
set_option maxRecDepth 100000 in
theorem k_X12_isWord_6 (l : Launch) (adK adV : Nat → Nat) (dC : Nat → ClassId) (dI : Nat → Nat → Nat) (cy : Nat → ClassId) (ad : Nat → Nat) (B : Int) (hB0 : 100000 ≤ B) (hB1 : B ≤ 1073741824) (qr : Nat) (s1 : Int)   (w0 : va_W) (sz : Nat) (hT : TW ksM ad cy B qr 12 w0) (f0_ : Int32) (cf0_ : gi w0 0 14 = f0_) (rf0_ : 0 ≤ f0_.toInt) (tf0_ : f0_.toInt ≤ 400) : Met l yX12_isWord wsX12_isWord ({ frames := 2, cells := 0, slots := 0, locals := 33 }) (va_Pc [.ref (ad 0), .long 26479] (wpreS adK adV dC dI cy sz w0)) (va_Qi (P_X12_isWord_6 ad cy B qr s1  w0) (fun u : va_W => wpost dC dI cy (va_A w0 sz) u) (va_A w0 sz)) 0 0 (va_A w0 sz) := by
  refine Met.ofW (cc := cX12_isWord) (maxL := 6) (ret := (some .boolean)) (by decide) rfl ?_
  intro p e s m args below meth c s₁ Bk hml hv
  obtain ⟨rfl, ⟨hsz, hP, hK, hD0⟩, hE, hSR⟩ := hv
  have hx := Bk.exec
  have hb := Bk.bytes
  have hr := Bk.returns
  have hlocks := Bk.notSynchronized
  have hC : CallFix p m c cX12_isWord 6 s _ wsX12_isWord RX12 := ⟨hx, hb, hml, findClass_of_methodNamed Bk.named, atoms_spec (ws := wsX12_isWord) Bk.pre⟩
  subst hsz
  have hD := hD0.self (sz := s.heap.size)
  generalize hAe : va_A w0 s.heap.size = A at hD hE ⊢
  have hA : ∀ q : Nat, s.heap.size ≤ q → A q := fun q h => by rw [← hAe]; exact Or.inr h
  have hw : Wd dC dI A s.heap s.heap [] w0 := ⟨hP, hD, va_S.rf⟩
  have hF : FE ksM [(12, 14, 14)] w0 w0 := FE.rf
  have hl := lv_entry ([.ref (ad 0), .long 26479]) (n := 6) (Nat.le_of_ble_eq_true rfl)
  rw [lg_entry_eq]
  generalize (lg_sl ([.ref (ad 0), .long 26479]) ++ List.replicate (6 - (lg_sl ([.ref (ad 0), .long 26479])).length) Slot.unset).toArray = ls at hl ⊢
  have hl : lv_has ls 6 [(0, .ref (ad 0)), (1, .long 26479)] := hl
  generalize hloc : ([] : List Loc) = locs at hw ⊢
  have hinX12 : ∀ w ∈ u_ws RX12 TX12 42, w ∈ wsX12_isWord := fun _ h => List.mem_cons_of_mem _ (List.mem_append_right _ (h))
  have J78 : ∀ (v78_3 : Int64) (v78_5 : Int32) (f78_0_1 : Int32) (f78_0_14 : Int32) (H : Heap) (locs : List Loc) (ls : Array Slot) (w1 : va_W), 0 ≤ v78_5.toInt → v78_5.toInt ≤ 400 → 0 ≤ f78_0_1.toInt → f78_0_1.toInt ≤ 400 → 0 ≤ f78_0_14.toInt → f78_0_14.toInt ≤ 400 → ((f78_0_14.toInt = f0_.toInt ∨ (gi w0 1 (f0_.toInt).toNat).toInt = 32)) → Wd dC dI A s.heap H locs w1 → TW ksM ad cy B qr 12 w1 → FE ksM [(12, 14, 14)] w0 w1 → gi w1 0 1 = f78_0_1 → gi w1 0 14 = f78_0_14 → lv_has ls 6 [(0, .ref (ad 0)), (1, .long 26479), (3, .long v78_3), (5, .int v78_5)] → W p l e ({ frames := 2, cells := 0, slots := 0, locals := 33 }) s m (List.toArray [.ref (ad 0), .long 26479]) below meth c H locs 0 0 (MQ below (va_Qi (P_X12_isWord_6 ad cy B qr s1  w0) (fun u : va_W => wpost dC dI cy A u) A) (List.toArray [.ref (ad 0), .long 26479]) s 0 0 A) (F0 m 78 ls []) := by
    intro v78_3 v78_5 f78_0_1 f78_0_14 H locs ls w1 r2 t3 r4 t5 r7 t8 hcr78_0 hw hT hF c6 c9 hl
    refine lv_iconst (v := 0) hx hb dX12_isWord_78 (by decide) ?_
    exact tk_zret hC hr rfl hlocks hK ⟨hT, hF, (Or.inl ⟨rfl, ⟨f78_0_1, c6, (show 0 ≤ f78_0_1.toInt by omega), (show f78_0_1.toInt ≤ 400 by omega)⟩, (by simp only [cf0_, c9]; omega)⟩)⟩ hw dX12_isWord_79
  have L10 : ∀ (n10 : Nat) (v10_3 : Int64) (v10_5 : Int32) (f10_0_1 : Int32) (f10_0_14 : Int32) (H : Heap) (locs : List Loc) (ls : Array Slot) (w10 : va_W), 0 ≤ v10_5.toInt → v10_5.toInt ≤ 400 → 0 ≤ f10_0_1.toInt → f10_0_1.toInt ≤ 400 → 0 ≤ f10_0_14.toInt → f10_0_14.toInt ≤ 400 → ((f10_0_14.toInt = f0_.toInt ∨ (gi w0 1 (f0_.toInt).toNat).toInt = 32)) → (400 - v10_5.toInt).toNat < n10 → Wd dC dI A s.heap H locs w10 → TW ksM ad cy B qr 12 w10 → FE ksM [(12, 14, 14)] w0 w10 → gi w10 0 1 = f10_0_1 → gi w10 0 14 = f10_0_14 → lv_has ls 6 [(0, .ref (ad 0)), (1, .long 26479), (3, .long v10_3), (5, .int v10_5)] → W p l e ({ frames := 2, cells := 0, slots := 0, locals := 33 }) s m (List.toArray [.ref (ad 0), .long 26479]) below meth c H locs 0 0 (MQ below (va_Qi (P_X12_isWord_6 ad cy B qr s1  w0) (fun u : va_W => wpost dC dI cy A u) A) (List.toArray [.ref (ad 0), .long 26479]) s 0 0 A) (F0 m 10 ls []) := by
    intro n10
    induction n10 with
    | zero => intro v10_3 v10_5 f10_0_1 f10_0_14 H locs ls w10 r11 t12 r13 t14 r16 t17 hcr10_0 hm10 hw hT hF c15 c18 hl; omega
    | succ n10 ih10 =>
      intro v10_3 v10_5 f10_0_1 f10_0_14 H locs ls w10 r11 t12 r13 t14 r16 t17 hcr10_0 hm10 hw hT hF c15 c18 hl
      have J50 : ∀ (v50_3 : Int64) (H : Heap) (locs : List Loc) (ls : Array Slot) (w19 : va_W), 0 ≤ v10_5.toInt → v10_5.toInt ≤ 399 → 1 ≤ f10_0_1.toInt → f10_0_1.toInt ≤ 400 → 0 ≤ f10_0_14.toInt → f10_0_14.toInt ≤ 399 → ((f10_0_14.toInt = f0_.toInt ∨ (gi w0 1 (f0_.toInt).toNat).toInt = 32)) → Wd dC dI A s.heap H locs w19 → TW ksM ad cy B qr 12 w19 → FE ksM [(12, 14, 14)] w0 w19 → gi w19 0 1 = f10_0_1 → gi w19 0 14 = f10_0_14 → lv_has ls 6 [(0, .ref (ad 0)), (1, .long 26479), (3, .long v50_3), (5, .int v10_5)] → W p l e ({ frames := 2, cells := 0, slots := 0, locals := 33 }) s m (List.toArray [.ref (ad 0), .long 26479]) below meth c H locs 0 0 (MQ below (va_Qi (P_X12_isWord_6 ad cy B qr s1  w0) (fun u : va_W => wpost dC dI cy A u) A) (List.toArray [.ref (ad 0), .long 26479]) s 0 0 A) (F0 m 50 ls []) := by
        intro v50_3 H locs ls w19 r20 t21 r22 t23 r25 t26 hcr50_0 hw hT hF c24 c27 hl
        obtain ⟨x28, ex28⟩ : ∃ y : Int32, y = v10_5 + Int32.ofInt 1 := ⟨_, rfl⟩
        refine lv_iinc (v := x28) (lv' := [(5, .int x28), (0, .ref (ad 0)), (1, .long 26479), (3, .long v50_3)]) hx hb dX12_isWord_50 hl (k := 3) rfl ex28.symm (by decide) rfl (fun ls hl => ?_)
        have ex28 : x28.toInt = v10_5.toInt + 1 := by rw [ex28]; exact wk_add (y := 1) (show -2147483648 ≤ v10_5.toInt + 1 by omega) (show v10_5.toInt + 1 ≤ 2147483647 by omega)
        refine lv_goto (tgt := 10) hx hb dX12_isWord_53 (by decide) ?_
        exact ih10 v50_3 x28 f10_0_1 f10_0_14 H locs ls w19 (show 0 ≤ x28.toInt by omega) (show x28.toInt ≤ 400 by omega) (show 0 ≤ f10_0_1.toInt by omega) (show f10_0_1.toInt ≤ 400 by omega) (show 0 ≤ f10_0_14.toInt by omega) (show f10_0_14.toInt ≤ 400 by omega) (show (f10_0_14.toInt = f0_.toInt ∨ (gi w0 1 (f0_.toInt).toNat).toInt = 32) by first | omega | assumption | (left; omega) | (left; decide) | (right; assumption)) (show (400 - x28.toInt).toNat < n10 by omega) hw hT hF c24 c27 (lv_sub hl [1, 2, 3, 0] rfl)
      refine lv_aload_n hx hb dX12_isWord_10 rfl (lv_at hl 0 rfl) ?_
      refine lv_aload_n hx hb dX12_isWord_11 rfl (lv_at hl 0 rfl) ?_
      refine tk_geti hC hK hw hT hinX12 kM_at0 (by decide) rfl 14 (by decide) (List.mem_of_getElem? (i := 1) rfl) rfl rfl dX12_isWord_12 (fun x29 c30 rx29 tx29 => ?_)
      refine wk_top f10_0_14 (c30.symm.trans c18) ?_
      refine lv_iload hx hb dX12_isWord_15 (lv_at hl 3 rfl) ?_
      refine lv_iadd hx hb dX12_isWord_17 ?_
      refine lv_topi (fun x31 ex31 => ?_)
      have ex31 : x31.toInt = f10_0_14.toInt + v10_5.toInt := by rw [ex31]; exact wk_add (show (-2147483648) ≤ f10_0_14.toInt + v10_5.toInt by omega) (show f10_0_14.toInt + v10_5.toInt ≤ 2147483647 by omega)
      refine tk_Vi hC hK hw hT hA hE hSR kM_at0 (by decide) rfl (k_X12_isLetter_1 l adK adV dC dI cy ad B (by omega) (by omega) qr s1   x31 (show 0 ≤ x31.toInt by omega) (show x31.toInt ≤ 800 by omega) w10 H.size hT ) (cwV 1 hC.2.2.2.2 gX12_isWord_X12_isLetter rfl rfl rfl (by decide +kernel) ⟨Nat.le_of_ble_eq_true rfl, Nat.le_of_ble_eq_true rfl⟩) rfl hl.1 rfl (Nat.le_of_ble_eq_true rfl) dX12_isWord_18 (fun r32 w34 H locs hp33 hw => ?_)
      obtain ⟨rfl, hg41⟩ := hp33
      rcases hg41 with ⟨rfl, ⟨x36, c37, rx36, tx36⟩⟩ | ⟨rfl, g38, ⟨x39, c40, rx39, tx39⟩⟩
      · have ex36 : x36.toInt = f10_0_1.toInt := by rw [← c15.symm.trans c37]
        refine lv_if_eq (tgt := 56) hx hb dX12_isWord_21 (by decide) (fun _ => ?_) (fun c => absurd (by decide) c)
        refine lv_iload hx hb dX12_isWord_56 (lv_at hl 3 rfl) ?_
        refine lv_if_le (tgt := 78) hx hb dX12_isWord_58 (by decide) (fun c42 => ?_) (fun c42 => ?_)
        · have c42 : v10_5.toInt ≤ (0 : Int) := wk_le.mp c42
          exact J78 v10_3 v10_5 f10_0_1 f10_0_14 H locs ls w10 (show 0 ≤ v10_5.toInt by omega) (show v10_5.toInt ≤ 400 by omega) (show 0 ≤ f10_0_1.toInt by omega) (show f10_0_1.toInt ≤ 400 by omega) (show 0 ≤ f10_0_14.toInt by omega) (show f10_0_14.toInt ≤ 400 by omega) (show (f10_0_14.toInt = f0_.toInt ∨ (gi w0 1 (f0_.toInt).toNat).toInt = 32) by first | omega | assumption | (left; omega) | (left; decide) | (right; assumption))  hw hT hF c15 c18 (lv_sub hl [0, 1, 2, 3] rfl)
        · have c42 : (0 : Int) < v10_5.toInt := wk_leF c42
          refine lv_iload hx hb dX12_isWord_61 (lv_at hl 3 rfl) ?_
          refine lv_bipush (v := 8) hx hb dX12_isWord_63 (by decide) ?_
          refine lv_icmp_ge (tgt := 78) hx hb dX12_isWord_65 (by decide) (fun c43 => ?_) (fun c43 => ?_)
          · have c43 : (8 : Int) ≤ v10_5.toInt := wk_le.mp c43
            exact J78 v10_3 v10_5 f10_0_1 f10_0_14 H locs ls w10 (show 0 ≤ v10_5.toInt by omega) (show v10_5.toInt ≤ 400 by omega) (show 0 ≤ f10_0_1.toInt by omega) (show f10_0_1.toInt ≤ 400 by omega) (show 0 ≤ f10_0_14.toInt by omega) (show f10_0_14.toInt ≤ 400 by omega) (show (f10_0_14.toInt = f0_.toInt ∨ (gi w0 1 (f0_.toInt).toNat).toInt = 32) by first | omega | assumption | (left; omega) | (left; decide) | (right; assumption))  hw hT hF c15 c18 (lv_sub hl [0, 1, 2, 3] rfl)
          · have c43 : v10_5.toInt < (8 : Int) := wk_leF c43
            refine lv_lload_n hx hb dX12_isWord_68 rfl (lv_at hl 2 rfl) ?_
            refine lv_lload_n hx hb dX12_isWord_69 rfl (lv_at hl 1 rfl) ?_
            refine W.lcmp hx hb dX12_isWord_70 ?_
            refine lv_if_ne (tgt := 78) hx hb dX12_isWord_71 (by decide) (fun c44 => ?_) (fun c44 => ?_)
            · have c44 : ¬ v10_3.toInt = (26479 : Int) := wk_ceF c44
              exact J78 v10_3 v10_5 f10_0_1 f10_0_14 H locs ls w10 (show 0 ≤ v10_5.toInt by omega) (show v10_5.toInt ≤ 400 by omega) (show 0 ≤ f10_0_1.toInt by omega) (show f10_0_1.toInt ≤ 400 by omega) (show 0 ≤ f10_0_14.toInt by omega) (show f10_0_14.toInt ≤ 400 by omega) (show (f10_0_14.toInt = f0_.toInt ∨ (gi w0 1 (f0_.toInt).toNat).toInt = 32) by first | omega | assumption | (left; omega) | (left; decide) | (right; assumption))  hw hT hF c15 c18 (lv_sub hl [0, 1, 2, 3] rfl)
            · have c44 : v10_3.toInt = (26479 : Int) := wk_ceT c44
              refine lv_iconst (v := 1) hx hb dX12_isWord_74 (by decide) ?_
              refine lv_goto (tgt := 79) hx hb dX12_isWord_75 (by decide) ?_
              exact tk_zret hC hr rfl hlocks hK ⟨hT, hF, (Or.inr ⟨rfl, ⟨f10_0_1, c15, (show 0 ≤ f10_0_1.toInt by omega), (show f10_0_1.toInt ≤ 400 by omega)⟩, (by simp only [cf0_, c18]; omega)⟩)⟩ hw dX12_isWord_79
      · have ex39 : x39.toInt = f10_0_1.toInt := by rw [← c15.symm.trans c40]
        refine lv_if_eq (tgt := 56) hx hb dX12_isWord_21 (by decide) (fun c => absurd c (by decide)) (fun _ => ?_)
        refine lv_iload hx hb dX12_isWord_24 (lv_at hl 3 rfl) ?_
        refine lv_bipush (v := 8) hx hb dX12_isWord_26 (by decide) ?_
        refine lv_icmp_ge (tgt := 50) hx hb dX12_isWord_28 (by decide) (fun c45 => ?_) (fun c45 => ?_)
        · have c45 : (8 : Int) ≤ v10_5.toInt := wk_le.mp c45
          exact J50 v10_3 H locs ls w10 (show 0 ≤ v10_5.toInt by omega) (show v10_5.toInt ≤ 399 by omega) (show 1 ≤ f10_0_1.toInt by omega) (show f10_0_1.toInt ≤ 400 by omega) (show 0 ≤ f10_0_14.toInt by omega) (show f10_0_14.toInt ≤ 399 by omega) (show (f10_0_14.toInt = f0_.toInt ∨ (gi w0 1 (f0_.toInt).toNat).toInt = 32) by first | omega | assumption | (left; omega) | (left; decide) | (right; assumption))  hw hT hF c15 c18 (lv_sub hl [0, 1, 2, 3] rfl)
        · have c45 : v10_5.toInt < (8 : Int) := wk_leF c45
          refine lv_lload_n hx hb dX12_isWord_31 rfl (lv_at hl 2 rfl) ?_
          refine lv_bipush (v := 8) hx hb dX12_isWord_32 (by decide) ?_
          refine lv_lshl hx hb dX12_isWord_34 rfl ?_
          refine lv_topl (fun x46 ex46 => ?_)
          refine lv_aload_n hx hb dX12_isWord_35 rfl (lv_at hl 0 rfl) ?_
          refine tk_getA hC hK hw hT hinX12 kM_at0 (by decide) rfl 0 (by decide) (List.mem_of_getElem? (i := 2) rfl) rfl rfl dX12_isWord_36 ?_
          refine lv_aload_n hx hb dX12_isWord_39 rfl (lv_at hl 0 rfl) ?_
          refine tk_geti hC hK hw hT hinX12 kM_at0 (by decide) rfl 14 (by decide) (List.mem_of_getElem? (i := 1) rfl) rfl rfl dX12_isWord_40 (fun x47 c48 rx47 tx47 => ?_)
          refine wk_top f10_0_14 (c48.symm.trans c18) ?_
          refine lv_iload hx hb dX12_isWord_43 (lv_at hl 3 rfl) ?_
          refine lv_iadd hx hb dX12_isWord_45 ?_
          refine lv_topi (fun x49 ex49 => ?_)
          have ex49 : x49.toInt = f10_0_14.toInt + v10_5.toInt := by rw [ex49]; exact wk_add (show (-2147483648) ≤ f10_0_14.toInt + v10_5.toInt by omega) (show f10_0_14.toInt + v10_5.toInt ≤ 2147483647 by omega)
          refine tk_bald hC hK hw hT kM_at1 rfl rfl (show 0 ≤ x49.toInt by omega) (show x49.toInt < 400 by omega) dX12_isWord_46 (fun x50 c51 rx50 tx50 => ?_)
          have c51 : gi w10 1 (1 * f10_0_14.toInt + 1 * v10_5.toInt + 0).toNat = x50 := (congrArg (gi w10 1) (congrArg Int.toNat (show 1 * f10_0_14.toInt + 1 * v10_5.toInt + 0 = x49.toInt by omega))).trans c51
          refine lv_i2l hx hb dX12_isWord_47 rfl ?_
          refine lv_topl (fun x52 ex52 => ?_)
          have ex52 : x52.toInt = x50.toInt := by rw [ex52]; exact wk_i2l _
          have bx52 := wk_i32 x50
          refine lv_lor hx hb dX12_isWord_48 ?_
          refine lv_topl (fun x53 ex53 => ?_)
          refine lv_lstore_n (lv' := [(3, .long x53), (0, .ref (ad 0)), (1, .long 26479), (5, .int v10_5)]) hx hb dX12_isWord_49 rfl hl (by decide) rfl (fun ls hl => ?_)
          exact J50 x53 H locs ls w10 (show 0 ≤ v10_5.toInt by omega) (show v10_5.toInt ≤ 399 by omega) (show 1 ≤ f10_0_1.toInt by omega) (show f10_0_1.toInt ≤ 400 by omega) (show 0 ≤ f10_0_14.toInt by omega) (show f10_0_14.toInt ≤ 399 by omega) (show (f10_0_14.toInt = f0_.toInt ∨ (gi w0 1 (f0_.toInt).toNat).toInt = 32) by first | omega | assumption | (left; omega) | (left; decide) | (right; assumption) | (right; rw [c51]; omega) | (right; rw [c51]; decide))  hw hT hF c15 c18 (lv_sub hl [1, 2, 0, 3] rfl)
  refine lv_aload_n hx hb dX12_isWord_0 rfl (lv_at hl 0 rfl) ?_
  refine tk_Vi hC hK hw hT hA hE hSR kM_at0 (by decide) rfl (k_X12_see_1 l adK adV dC dI cy ad B (by omega) (by omega) qr s1    w0 s.heap.size hT f0_ cf0_ (show 0 ≤ f0_.toInt by omega) (show f0_.toInt ≤ 400 by omega)) (cwV 0 hC.2.2.2.2 gX12_isWord_X12_see rfl rfl rfl (by decide +kernel) ⟨Nat.le_of_ble_eq_true rfl, Nat.le_of_ble_eq_true rfl⟩) rfl hl.1 rfl (Nat.le_of_ble_eq_true rfl) dX12_isWord_1 (fun r54 w56 H locs hp55 hw => ?_)
  obtain ⟨hT, k57, hg74⟩ := hp55
  have hF := hF.tr k57 (by decide)
  rcases hg74 with ⟨g58, g59, ⟨x60, c61, rx60, tx60⟩, ⟨x62, c63, rx62, tx62⟩, g64, g65⟩ | ⟨rfl, ⟨x66, c67, rx66, tx66⟩, ⟨x68, c69, rx68, tx68⟩, g70⟩ | ⟨rfl, ⟨x71, c72, rx71, tx71⟩, g73⟩
  · have g64 : (gi w56 1 (x62.toInt).toNat).toInt ≠ 32 := by have q := g64; simp only [c63] at q; omega
    have g65 : (x62.toInt = f0_.toInt ∨ (gi w0 1 (f0_.toInt).toNat).toInt = 32) := by have q := g65; simp only [cf0_, c63] at q; omega
    refine lv_pop hx hb dX12_isWord_4 rfl ?_
    refine lv_lconst (v := 0) hx hb dX12_isWord_5 (by decide) ?_
    refine lv_lstore_n (lv' := [(3, .long 0), (0, .ref (ad 0)), (1, .long 26479)]) hx hb dX12_isWord_6 rfl hl (by decide) rfl (fun ls hl => ?_)
    refine lv_iconst (v := 0) hx hb dX12_isWord_7 (by decide) ?_
    refine lv_istore (lv' := [(5, .int 0), (3, .long 0), (0, .ref (ad 0)), (1, .long 26479)]) hx hb dX12_isWord_8 hl (by decide) rfl (fun ls hl => ?_)
    exact L10 ((400 - (0 : Int)).toNat + 1) 0 0 x60 x62 H locs ls w56 (by decide) (by decide) (show 0 ≤ x60.toInt by omega) (show x60.toInt ≤ 400 by omega) (show 0 ≤ x62.toInt by omega) (show x62.toInt ≤ 400 by omega) (show (x62.toInt = f0_.toInt ∨ (gi w0 1 (f0_.toInt).toNat).toInt = 32) by first | omega | assumption | (left; omega) | (left; decide) | (right; assumption)) (Nat.lt_succ_self _) hw hT hF c61 c63 (lv_sub hl [2, 3, 1, 0] rfl)
  · have g70 : (x68.toInt = f0_.toInt ∨ (gi w0 1 (f0_.toInt).toNat).toInt = 32) := by have q := g70; simp only [cf0_, c69] at q; omega
    refine lv_pop hx hb dX12_isWord_4 rfl ?_
    refine lv_lconst (v := 0) hx hb dX12_isWord_5 (by decide) ?_
    refine lv_lstore_n (lv' := [(3, .long 0), (0, .ref (ad 0)), (1, .long 26479)]) hx hb dX12_isWord_6 rfl hl (by decide) rfl (fun ls hl => ?_)
    refine lv_iconst (v := 0) hx hb dX12_isWord_7 (by decide) ?_
    refine lv_istore (lv' := [(5, .int 0), (3, .long 0), (0, .ref (ad 0)), (1, .long 26479)]) hx hb dX12_isWord_8 hl (by decide) rfl (fun ls hl => ?_)
    exact L10 ((400 - (0 : Int)).toNat + 1) 0 0 x66 x68 H locs ls w56 (by decide) (by decide) (show 0 ≤ x66.toInt by omega) (show x66.toInt ≤ 400 by omega) (show 0 ≤ x68.toInt by omega) (show x68.toInt ≤ 400 by omega) (show (x68.toInt = f0_.toInt ∨ (gi w0 1 (f0_.toInt).toNat).toInt = 32) by first | omega | assumption | (left; omega) | (left; decide) | (right; assumption)) (Nat.lt_succ_self _) hw hT hF c67 c69 (lv_sub hl [2, 3, 1, 0] rfl)
  · obtain ⟨x75, c76, rx75, tx75⟩ := hT.rdi (lo := 0) (hi := 400) (k := 14) kM_at0 (by decide) rfl
    have g73 : (x75.toInt = f0_.toInt ∨ (gi w0 1 (f0_.toInt).toNat).toInt = 32) := by have q := g73; simp only [cf0_, c76] at q; omega
    refine lv_pop hx hb dX12_isWord_4 rfl ?_
    refine lv_lconst (v := 0) hx hb dX12_isWord_5 (by decide) ?_
    refine lv_lstore_n (lv' := [(3, .long 0), (0, .ref (ad 0)), (1, .long 26479)]) hx hb dX12_isWord_6 rfl hl (by decide) rfl (fun ls hl => ?_)
    refine lv_iconst (v := 0) hx hb dX12_isWord_7 (by decide) ?_
    refine lv_istore (lv' := [(5, .int 0), (3, .long 0), (0, .ref (ad 0)), (1, .long 26479)]) hx hb dX12_isWord_8 hl (by decide) rfl (fun ls hl => ?_)
    exact L10 ((400 - (0 : Int)).toNat + 1) 0 0 x71 x75 H locs ls w56 (by decide) (by decide) (show 0 ≤ x71.toInt by omega) (show x71.toInt ≤ 400 by omega) (show 0 ≤ x75.toInt by omega) (show x75.toInt ≤ 400 by omega) (show (x75.toInt = f0_.toInt ∨ (gi w0 1 (f0_.toInt).toNat).toInt = 32) by first | omega | assumption | (left; omega) | (left; decide) | (right; assumption)) (Nat.lt_succ_self _) hw hT hF c72 c76 (lv_sub hl [2, 3, 1, 0] rfl)
abbrev P_X12_isWord_7 (ad : Nat → Nat) (cy : Nat → ClassId) (B : Int) (qr : Nat) (s1 : Int)  (w0 : va_W) : Int32 → va_W → Prop := fun r u => TW ksM ad cy B qr 12 u ∧ FE ksM [(12, 14, 14)] w0 u ∧ ((r = 0 ∧ (∃ y : Int32, gi u 0 1 = y ∧ 0 ≤ y.toInt ∧ y.toInt ≤ 400) ∧ (((gi u 0 14).toInt = (gi w0 0 14).toInt ∨ (gi w0 1 ((gi w0 0 14).toInt).toNat).toInt = 32))) ∨ (r = 1 ∧ (∃ y : Int32, gi u 0 1 = y ∧ 0 ≤ y.toInt ∧ y.toInt ≤ 400) ∧ (((gi u 0 14).toInt = (gi w0 0 14).toInt ∨ (gi w0 1 ((gi w0 0 14).toInt).toNat).toInt = 32))))
set_option maxHeartbeats 4000000 in
set_option maxRecDepth 100000 in
theorem k_X12_isWord_7 (l : Launch) (adK adV : Nat → Nat) (dC : Nat → ClassId) (dI : Nat → Nat → Nat) (cy : Nat → ClassId) (ad : Nat → Nat) (B : Int) (hB0 : 100000 ≤ B) (hB1 : B ≤ 1073741824) (qr : Nat) (s1 : Int)   (w0 : va_W) (sz : Nat) (hT : TW ksM ad cy B qr 12 w0) (f0_ : Int32) (cf0_ : gi w0 0 14 = f0_) (rf0_ : 0 ≤ f0_.toInt) (tf0_ : f0_.toInt ≤ 400) : Met l yX12_isWord wsX12_isWord ({ frames := 2, cells := 0, slots := 0, locals := 33 }) (va_Pc [.ref (ad 0), .long 418548114533] (wpreS adK adV dC dI cy sz w0)) (va_Qi (P_X12_isWord_7 ad cy B qr s1  w0) (fun u : va_W => wpost dC dI cy (va_A w0 sz) u) (va_A w0 sz)) 0 0 (va_A w0 sz) := by
  refine Met.ofW (cc := cX12_isWord) (maxL := 6) (ret := (some .boolean)) (by decide) rfl ?_
  intro p e s m args below meth c s₁ Bk hml hv
  obtain ⟨rfl, ⟨hsz, hP, hK, hD0⟩, hE, hSR⟩ := hv
  have hx := Bk.exec
  have hb := Bk.bytes
  have hr := Bk.returns
  have hlocks := Bk.notSynchronized
  have hC : CallFix p m c cX12_isWord 6 s _ wsX12_isWord RX12 := ⟨hx, hb, hml, findClass_of_methodNamed Bk.named, atoms_spec (ws := wsX12_isWord) Bk.pre⟩
  subst hsz
  have hD := hD0.self (sz := s.heap.size)
  generalize hAe : va_A w0 s.heap.size = A at hD hE ⊢
  have hA : ∀ q : Nat, s.heap.size ≤ q → A q := fun q h => by rw [← hAe]; exact Or.inr h
  have hw : Wd dC dI A s.heap s.heap [] w0 := ⟨hP, hD, va_S.rf⟩
  have hF : FE ksM [(12, 14, 14)] w0 w0 := FE.rf
  have hl := lv_entry ([.ref (ad 0), .long 418548114533]) (n := 6) (Nat.le_of_ble_eq_true rfl)
  rw [lg_entry_eq]
  generalize (lg_sl ([.ref (ad 0), .long 418548114533]) ++ List.replicate (6 - (lg_sl ([.ref (ad 0), .long 418548114533])).length) Slot.unset).toArray = ls at hl ⊢
  have hl : lv_has ls 6 [(0, .ref (ad 0)), (1, .long 418548114533)] := hl
  generalize hloc : ([] : List Loc) = locs at hw ⊢
  have hinX12 : ∀ w ∈ u_ws RX12 TX12 42, w ∈ wsX12_isWord := fun _ h => List.mem_cons_of_mem _ (List.mem_append_right _ (h))
  have J78 : ∀ (v78_3 : Int64) (v78_5 : Int32) (f78_0_1 : Int32) (f78_0_14 : Int32) (H : Heap) (locs : List Loc) (ls : Array Slot) (w1 : va_W), 0 ≤ v78_5.toInt → v78_5.toInt ≤ 400 → 0 ≤ f78_0_1.toInt → f78_0_1.toInt ≤ 400 → 0 ≤ f78_0_14.toInt → f78_0_14.toInt ≤ 400 → ((f78_0_14.toInt = f0_.toInt ∨ (gi w0 1 (f0_.toInt).toNat).toInt = 32)) → Wd dC dI A s.heap H locs w1 → TW ksM ad cy B qr 12 w1 → FE ksM [(12, 14, 14)] w0 w1 → gi w1 0 1 = f78_0_1 → gi w1 0 14 = f78_0_14 → lv_has ls 6 [(0, .ref (ad 0)), (1, .long 418548114533), (3, .long v78_3), (5, .int v78_5)] → W p l e ({ frames := 2, cells := 0, slots := 0, locals := 33 }) s m (List.toArray [.ref (ad 0), .long 418548114533]) below meth c H locs 0 0 (MQ below (va_Qi (P_X12_isWord_7 ad cy B qr s1  w0) (fun u : va_W => wpost dC dI cy A u) A) (List.toArray [.ref (ad 0), .long 418548114533]) s 0 0 A) (F0 m 78 ls []) := by
    intro v78_3 v78_5 f78_0_1 f78_0_14 H locs ls w1 r2 t3 r4 t5 r7 t8 hcr78_0 hw hT hF c6 c9 hl
    refine lv_iconst (v := 0) hx hb dX12_isWord_78 (by decide) ?_
    exact tk_zret hC hr rfl hlocks hK ⟨hT, hF, (Or.inl ⟨rfl, ⟨f78_0_1, c6, (show 0 ≤ f78_0_1.toInt by omega), (show f78_0_1.toInt ≤ 400 by omega)⟩, (by simp only [cf0_, c9]; omega)⟩)⟩ hw dX12_isWord_79
  have L10 : ∀ (n10 : Nat) (v10_3 : Int64) (v10_5 : Int32) (f10_0_1 : Int32) (f10_0_14 : Int32) (H : Heap) (locs : List Loc) (ls : Array Slot) (w10 : va_W), 0 ≤ v10_5.toInt → v10_5.toInt ≤ 400 → 0 ≤ f10_0_1.toInt → f10_0_1.toInt ≤ 400 → 0 ≤ f10_0_14.toInt → f10_0_14.toInt ≤ 400 → ((f10_0_14.toInt = f0_.toInt ∨ (gi w0 1 (f0_.toInt).toNat).toInt = 32)) → (400 - v10_5.toInt).toNat < n10 → Wd dC dI A s.heap H locs w10 → TW ksM ad cy B qr 12 w10 → FE ksM [(12, 14, 14)] w0 w10 → gi w10 0 1 = f10_0_1 → gi w10 0 14 = f10_0_14 → lv_has ls 6 [(0, .ref (ad 0)), (1, .long 418548114533), (3, .long v10_3), (5, .int v10_5)] → W p l e ({ frames := 2, cells := 0, slots := 0, locals := 33 }) s m (List.toArray [.ref (ad 0), .long 418548114533]) below meth c H locs 0 0 (MQ below (va_Qi (P_X12_isWord_7 ad cy B qr s1  w0) (fun u : va_W => wpost dC dI cy A u) A) (List.toArray [.ref (ad 0), .long 418548114533]) s 0 0 A) (F0 m 10 ls []) := by
    intro n10
    induction n10 with
    | zero => intro v10_3 v10_5 f10_0_1 f10_0_14 H locs ls w10 r11 t12 r13 t14 r16 t17 hcr10_0 hm10 hw hT hF c15 c18 hl; omega
    | succ n10 ih10 =>
      intro v10_3 v10_5 f10_0_1 f10_0_14 H locs ls w10 r11 t12 r13 t14 r16 t17 hcr10_0 hm10 hw hT hF c15 c18 hl
      have J50 : ∀ (v50_3 : Int64) (H : Heap) (locs : List Loc) (ls : Array Slot) (w19 : va_W), 0 ≤ v10_5.toInt → v10_5.toInt ≤ 399 → 1 ≤ f10_0_1.toInt → f10_0_1.toInt ≤ 400 → 0 ≤ f10_0_14.toInt → f10_0_14.toInt ≤ 399 → ((f10_0_14.toInt = f0_.toInt ∨ (gi w0 1 (f0_.toInt).toNat).toInt = 32)) → Wd dC dI A s.heap H locs w19 → TW ksM ad cy B qr 12 w19 → FE ksM [(12, 14, 14)] w0 w19 → gi w19 0 1 = f10_0_1 → gi w19 0 14 = f10_0_14 → lv_has ls 6 [(0, .ref (ad 0)), (1, .long 418548114533), (3, .long v50_3), (5, .int v10_5)] → W p l e ({ frames := 2, cells := 0, slots := 0, locals := 33 }) s m (List.toArray [.ref (ad 0), .long 418548114533]) below meth c H locs 0 0 (MQ below (va_Qi (P_X12_isWord_7 ad cy B qr s1  w0) (fun u : va_W => wpost dC dI cy A u) A) (List.toArray [.ref (ad 0), .long 418548114533]) s 0 0 A) (F0 m 50 ls []) := by
        intro v50_3 H locs ls w19 r20 t21 r22 t23 r25 t26 hcr50_0 hw hT hF c24 c27 hl
        obtain ⟨x28, ex28⟩ : ∃ y : Int32, y = v10_5 + Int32.ofInt 1 := ⟨_, rfl⟩
        refine lv_iinc (v := x28) (lv' := [(5, .int x28), (0, .ref (ad 0)), (1, .long 418548114533), (3, .long v50_3)]) hx hb dX12_isWord_50 hl (k := 3) rfl ex28.symm (by decide) rfl (fun ls hl => ?_)
        have ex28 : x28.toInt = v10_5.toInt + 1 := by rw [ex28]; exact wk_add (y := 1) (show -2147483648 ≤ v10_5.toInt + 1 by omega) (show v10_5.toInt + 1 ≤ 2147483647 by omega)
        refine lv_goto (tgt := 10) hx hb dX12_isWord_53 (by decide) ?_
        exact ih10 v50_3 x28 f10_0_1 f10_0_14 H locs ls w19 (show 0 ≤ x28.toInt by omega) (show x28.toInt ≤ 400 by omega) (show 0 ≤ f10_0_1.toInt by omega) (show f10_0_1.toInt ≤ 400 by omega) (show 0 ≤ f10_0_14.toInt by omega) (show f10_0_14.toInt ≤ 400 by omega) (show (f10_0_14.toInt = f0_.toInt ∨ (gi w0 1 (f0_.toInt).toNat).toInt = 32) by first | omega | assumption | (left; omega) | (left; decide) | (right; assumption)) (show (400 - x28.toInt).toNat < n10 by omega) hw hT hF c24 c27 (lv_sub hl [1, 2, 3, 0] rfl)
      refine lv_aload_n hx hb dX12_isWord_10 rfl (lv_at hl 0 rfl) ?_
      refine lv_aload_n hx hb dX12_isWord_11 rfl (lv_at hl 0 rfl) ?_
      refine tk_geti hC hK hw hT hinX12 kM_at0 (by decide) rfl 14 (by decide) (List.mem_of_getElem? (i := 1) rfl) rfl rfl dX12_isWord_12 (fun x29 c30 rx29 tx29 => ?_)
      refine wk_top f10_0_14 (c30.symm.trans c18) ?_
      refine lv_iload hx hb dX12_isWord_15 (lv_at hl 3 rfl) ?_
      refine lv_iadd hx hb dX12_isWord_17 ?_
      refine lv_topi (fun x31 ex31 => ?_)
      have ex31 : x31.toInt = f10_0_14.toInt + v10_5.toInt := by rw [ex31]; exact wk_add (show (-2147483648) ≤ f10_0_14.toInt + v10_5.toInt by omega) (show f10_0_14.toInt + v10_5.toInt ≤ 2147483647 by omega)
      refine tk_Vi hC hK hw hT hA hE hSR kM_at0 (by decide) rfl (k_X12_isLetter_1 l adK adV dC dI cy ad B (by omega) (by omega) qr s1   x31 (show 0 ≤ x31.toInt by omega) (show x31.toInt ≤ 800 by omega) w10 H.size hT ) (cwV 1 hC.2.2.2.2 gX12_isWord_X12_isLetter rfl rfl rfl (by decide +kernel) ⟨Nat.le_of_ble_eq_true rfl, Nat.le_of_ble_eq_true rfl⟩) rfl hl.1 rfl (Nat.le_of_ble_eq_true rfl) dX12_isWord_18 (fun r32 w34 H locs hp33 hw => ?_)
      obtain ⟨rfl, hg41⟩ := hp33
      rcases hg41 with ⟨rfl, ⟨x36, c37, rx36, tx36⟩⟩ | ⟨rfl, g38, ⟨x39, c40, rx39, tx39⟩⟩
      · have ex36 : x36.toInt = f10_0_1.toInt := by rw [← c15.symm.trans c37]
        refine lv_if_eq (tgt := 56) hx hb dX12_isWord_21 (by decide) (fun _ => ?_) (fun c => absurd (by decide) c)
        refine lv_iload hx hb dX12_isWord_56 (lv_at hl 3 rfl) ?_
        refine lv_if_le (tgt := 78) hx hb dX12_isWord_58 (by decide) (fun c42 => ?_) (fun c42 => ?_)
        · have c42 : v10_5.toInt ≤ (0 : Int) := wk_le.mp c42
          exact J78 v10_3 v10_5 f10_0_1 f10_0_14 H locs ls w10 (show 0 ≤ v10_5.toInt by omega) (show v10_5.toInt ≤ 400 by omega) (show 0 ≤ f10_0_1.toInt by omega) (show f10_0_1.toInt ≤ 400 by omega) (show 0 ≤ f10_0_14.toInt by omega) (show f10_0_14.toInt ≤ 400 by omega) (show (f10_0_14.toInt = f0_.toInt ∨ (gi w0 1 (f0_.toInt).toNat).toInt = 32) by first | omega | assumption | (left; omega) | (left; decide) | (right; assumption))  hw hT hF c15 c18 (lv_sub hl [0, 1, 2, 3] rfl)
        · have c42 : (0 : Int) < v10_5.toInt := wk_leF c42
          refine lv_iload hx hb dX12_isWord_61 (lv_at hl 3 rfl) ?_
          refine lv_bipush (v := 8) hx hb dX12_isWord_63 (by decide) ?_
          refine lv_icmp_ge (tgt := 78) hx hb dX12_isWord_65 (by decide) (fun c43 => ?_) (fun c43 => ?_)
          · have c43 : (8 : Int) ≤ v10_5.toInt := wk_le.mp c43
            exact J78 v10_3 v10_5 f10_0_1 f10_0_14 H locs ls w10 (show 0 ≤ v10_5.toInt by omega) (show v10_5.toInt ≤ 400 by omega) (show 0 ≤ f10_0_1.toInt by omega) (show f10_0_1.toInt ≤ 400 by omega) (show 0 ≤ f10_0_14.toInt by omega) (show f10_0_14.toInt ≤ 400 by omega) (show (f10_0_14.toInt = f0_.toInt ∨ (gi w0 1 (f0_.toInt).toNat).toInt = 32) by first | omega | assumption | (left; omega) | (left; decide) | (right; assumption))  hw hT hF c15 c18 (lv_sub hl [0, 1, 2, 3] rfl)
          · have c43 : v10_5.toInt < (8 : Int) := wk_leF c43
            refine lv_lload_n hx hb dX12_isWord_68 rfl (lv_at hl 2 rfl) ?_
            refine lv_lload_n hx hb dX12_isWord_69 rfl (lv_at hl 1 rfl) ?_
            refine W.lcmp hx hb dX12_isWord_70 ?_
            refine lv_if_ne (tgt := 78) hx hb dX12_isWord_71 (by decide) (fun c44 => ?_) (fun c44 => ?_)
            · have c44 : ¬ v10_3.toInt = (418548114533 : Int) := wk_ceF c44
              exact J78 v10_3 v10_5 f10_0_1 f10_0_14 H locs ls w10 (show 0 ≤ v10_5.toInt by omega) (show v10_5.toInt ≤ 400 by omega) (show 0 ≤ f10_0_1.toInt by omega) (show f10_0_1.toInt ≤ 400 by omega) (show 0 ≤ f10_0_14.toInt by omega) (show f10_0_14.toInt ≤ 400 by omega) (show (f10_0_14.toInt = f0_.toInt ∨ (gi w0 1 (f0_.toInt).toNat).toInt = 32) by first | omega | assumption | (left; omega) | (left; decide) | (right; assumption))  hw hT hF c15 c18 (lv_sub hl [0, 1, 2, 3] rfl)
            · have c44 : v10_3.toInt = (418548114533 : Int) := wk_ceT c44
              refine lv_iconst (v := 1) hx hb dX12_isWord_74 (by decide) ?_
              refine lv_goto (tgt := 79) hx hb dX12_isWord_75 (by decide) ?_
              exact tk_zret hC hr rfl hlocks hK ⟨hT, hF, (Or.inr ⟨rfl, ⟨f10_0_1, c15, (show 0 ≤ f10_0_1.toInt by omega), (show f10_0_1.toInt ≤ 400 by omega)⟩, (by simp only [cf0_, c18]; omega)⟩)⟩ hw dX12_isWord_79
      · have ex39 : x39.toInt = f10_0_1.toInt := by rw [← c15.symm.trans c40]
        refine lv_if_eq (tgt := 56) hx hb dX12_isWord_21 (by decide) (fun c => absurd c (by decide)) (fun _ => ?_)
        refine lv_iload hx hb dX12_isWord_24 (lv_at hl 3 rfl) ?_
        refine lv_bipush (v := 8) hx hb dX12_isWord_26 (by decide) ?_
        refine lv_icmp_ge (tgt := 50) hx hb dX12_isWord_28 (by decide) (fun c45 => ?_) (fun c45 => ?_)
        · have c45 : (8 : Int) ≤ v10_5.toInt := wk_le.mp c45
          exact J50 v10_3 H locs ls w10 (show 0 ≤ v10_5.toInt by omega) (show v10_5.toInt ≤ 399 by omega) (show 1 ≤ f10_0_1.toInt by omega) (show f10_0_1.toInt ≤ 400 by omega) (show 0 ≤ f10_0_14.toInt by omega) (show f10_0_14.toInt ≤ 399 by omega) (show (f10_0_14.toInt = f0_.toInt ∨ (gi w0 1 (f0_.toInt).toNat).toInt = 32) by first | omega | assumption | (left; omega) | (left; decide) | (right; assumption))  hw hT hF c15 c18 (lv_sub hl [0, 1, 2, 3] rfl)
        · have c45 : v10_5.toInt < (8 : Int) := wk_leF c45
          refine lv_lload_n hx hb dX12_isWord_31 rfl (lv_at hl 2 rfl) ?_
          refine lv_bipush (v := 8) hx hb dX12_isWord_32 (by decide) ?_
          refine lv_lshl hx hb dX12_isWord_34 rfl ?_
          refine lv_topl (fun x46 ex46 => ?_)
          refine lv_aload_n hx hb dX12_isWord_35 rfl (lv_at hl 0 rfl) ?_
          refine tk_getA hC hK hw hT hinX12 kM_at0 (by decide) rfl 0 (by decide) (List.mem_of_getElem? (i := 2) rfl) rfl rfl dX12_isWord_36 ?_
          refine lv_aload_n hx hb dX12_isWord_39 rfl (lv_at hl 0 rfl) ?_
          refine tk_geti hC hK hw hT hinX12 kM_at0 (by decide) rfl 14 (by decide) (List.mem_of_getElem? (i := 1) rfl) rfl rfl dX12_isWord_40 (fun x47 c48 rx47 tx47 => ?_)
          refine wk_top f10_0_14 (c48.symm.trans c18) ?_
          refine lv_iload hx hb dX12_isWord_43 (lv_at hl 3 rfl) ?_
          refine lv_iadd hx hb dX12_isWord_45 ?_
          refine lv_topi (fun x49 ex49 => ?_)
          have ex49 : x49.toInt = f10_0_14.toInt + v10_5.toInt := by rw [ex49]; exact wk_add (show (-2147483648) ≤ f10_0_14.toInt + v10_5.toInt by omega) (show f10_0_14.toInt + v10_5.toInt ≤ 2147483647 by omega)
          refine tk_bald hC hK hw hT kM_at1 rfl rfl (show 0 ≤ x49.toInt by omega) (show x49.toInt < 400 by omega) dX12_isWord_46 (fun x50 c51 rx50 tx50 => ?_)
          have c51 : gi w10 1 (1 * f10_0_14.toInt + 1 * v10_5.toInt + 0).toNat = x50 := (congrArg (gi w10 1) (congrArg Int.toNat (show 1 * f10_0_14.toInt + 1 * v10_5.toInt + 0 = x49.toInt by omega))).trans c51
          refine lv_i2l hx hb dX12_isWord_47 rfl ?_
          refine lv_topl (fun x52 ex52 => ?_)
          have ex52 : x52.toInt = x50.toInt := by rw [ex52]; exact wk_i2l _
          have bx52 := wk_i32 x50
          refine lv_lor hx hb dX12_isWord_48 ?_
          refine lv_topl (fun x53 ex53 => ?_)
          refine lv_lstore_n (lv' := [(3, .long x53), (0, .ref (ad 0)), (1, .long 418548114533), (5, .int v10_5)]) hx hb dX12_isWord_49 rfl hl (by decide) rfl (fun ls hl => ?_)
          exact J50 x53 H locs ls w10 (show 0 ≤ v10_5.toInt by omega) (show v10_5.toInt ≤ 399 by omega) (show 1 ≤ f10_0_1.toInt by omega) (show f10_0_1.toInt ≤ 400 by omega) (show 0 ≤ f10_0_14.toInt by omega) (show f10_0_14.toInt ≤ 399 by omega) (show (f10_0_14.toInt = f0_.toInt ∨ (gi w0 1 (f0_.toInt).toNat).toInt = 32) by first | omega | assumption | (left; omega) | (left; decide) | (right; assumption) | (right; rw [c51]; omega) | (right; rw [c51]; decide))  hw hT hF c15 c18 (lv_sub hl [1, 2, 0, 3] rfl)
  refine lv_aload_n hx hb dX12_isWord_0 rfl (lv_at hl 0 rfl) ?_
  refine tk_Vi hC hK hw hT hA hE hSR kM_at0 (by decide) rfl (k_X12_see_1 l adK adV dC dI cy ad B (by omega) (by omega) qr s1    w0 s.heap.size hT f0_ cf0_ (show 0 ≤ f0_.toInt by omega) (show f0_.toInt ≤ 400 by omega)) (cwV 0 hC.2.2.2.2 gX12_isWord_X12_see rfl rfl rfl (by decide +kernel) ⟨Nat.le_of_ble_eq_true rfl, Nat.le_of_ble_eq_true rfl⟩) rfl hl.1 rfl (Nat.le_of_ble_eq_true rfl) dX12_isWord_1 (fun r54 w56 H locs hp55 hw => ?_)
  obtain ⟨hT, k57, hg74⟩ := hp55
  have hF := hF.tr k57 (by decide)
  rcases hg74 with ⟨g58, g59, ⟨x60, c61, rx60, tx60⟩, ⟨x62, c63, rx62, tx62⟩, g64, g65⟩ | ⟨rfl, ⟨x66, c67, rx66, tx66⟩, ⟨x68, c69, rx68, tx68⟩, g70⟩ | ⟨rfl, ⟨x71, c72, rx71, tx71⟩, g73⟩
  · have g64 : (gi w56 1 (x62.toInt).toNat).toInt ≠ 32 := by have q := g64; simp only [c63] at q; omega
    have g65 : (x62.toInt = f0_.toInt ∨ (gi w0 1 (f0_.toInt).toNat).toInt = 32) := by have q := g65; simp only [cf0_, c63] at q; omega
    refine lv_pop hx hb dX12_isWord_4 rfl ?_
    refine lv_lconst (v := 0) hx hb dX12_isWord_5 (by decide) ?_
    refine lv_lstore_n (lv' := [(3, .long 0), (0, .ref (ad 0)), (1, .long 418548114533)]) hx hb dX12_isWord_6 rfl hl (by decide) rfl (fun ls hl => ?_)
    refine lv_iconst (v := 0) hx hb dX12_isWord_7 (by decide) ?_
    refine lv_istore (lv' := [(5, .int 0), (3, .long 0), (0, .ref (ad 0)), (1, .long 418548114533)]) hx hb dX12_isWord_8 hl (by decide) rfl (fun ls hl => ?_)
    exact L10 ((400 - (0 : Int)).toNat + 1) 0 0 x60 x62 H locs ls w56 (by decide) (by decide) (show 0 ≤ x60.toInt by omega) (show x60.toInt ≤ 400 by omega) (show 0 ≤ x62.toInt by omega) (show x62.toInt ≤ 400 by omega) (show (x62.toInt = f0_.toInt ∨ (gi w0 1 (f0_.toInt).toNat).toInt = 32) by first | omega | assumption | (left; omega) | (left; decide) | (right; assumption)) (Nat.lt_succ_self _) hw hT hF c61 c63 (lv_sub hl [2, 3, 1, 0] rfl)
  · have g70 : (x68.toInt = f0_.toInt ∨ (gi w0 1 (f0_.toInt).toNat).toInt = 32) := by have q := g70; simp only [cf0_, c69] at q; omega
    refine lv_pop hx hb dX12_isWord_4 rfl ?_
    refine lv_lconst (v := 0) hx hb dX12_isWord_5 (by decide) ?_
    refine lv_lstore_n (lv' := [(3, .long 0), (0, .ref (ad 0)), (1, .long 418548114533)]) hx hb dX12_isWord_6 rfl hl (by decide) rfl (fun ls hl => ?_)
    refine lv_iconst (v := 0) hx hb dX12_isWord_7 (by decide) ?_
    refine lv_istore (lv' := [(5, .int 0), (3, .long 0), (0, .ref (ad 0)), (1, .long 418548114533)]) hx hb dX12_isWord_8 hl (by decide) rfl (fun ls hl => ?_)
    exact L10 ((400 - (0 : Int)).toNat + 1) 0 0 x66 x68 H locs ls w56 (by decide) (by decide) (show 0 ≤ x66.toInt by omega) (show x66.toInt ≤ 400 by omega) (show 0 ≤ x68.toInt by omega) (show x68.toInt ≤ 400 by omega) (show (x68.toInt = f0_.toInt ∨ (gi w0 1 (f0_.toInt).toNat).toInt = 32) by first | omega | assumption | (left; omega) | (left; decide) | (right; assumption)) (Nat.lt_succ_self _) hw hT hF c67 c69 (lv_sub hl [2, 3, 1, 0] rfl)
  · obtain ⟨x75, c76, rx75, tx75⟩ := hT.rdi (lo := 0) (hi := 400) (k := 14) kM_at0 (by decide) rfl
    have g73 : (x75.toInt = f0_.toInt ∨ (gi w0 1 (f0_.toInt).toNat).toInt = 32) := by have q := g73; simp only [cf0_, c76] at q; omega
    refine lv_pop hx hb dX12_isWord_4 rfl ?_
    refine lv_lconst (v := 0) hx hb dX12_isWord_5 (by decide) ?_
    refine lv_lstore_n (lv' := [(3, .long 0), (0, .ref (ad 0)), (1, .long 418548114533)]) hx hb dX12_isWord_6 rfl hl (by decide) rfl (fun ls hl => ?_)
    refine lv_iconst (v := 0) hx hb dX12_isWord_7 (by decide) ?_
    refine lv_istore (lv' := [(5, .int 0), (3, .long 0), (0, .ref (ad 0)), (1, .long 418548114533)]) hx hb dX12_isWord_8 hl (by decide) rfl (fun ls hl => ?_)
    exact L10 ((400 - (0 : Int)).toNat + 1) 0 0 x71 x75 H locs ls w56 (by decide) (by decide) (show 0 ≤ x71.toInt by omega) (show x71.toInt ≤ 400 by omega) (show 0 ≤ x75.toInt by omega) (show x75.toInt ≤ 400 by omega) (show (x75.toInt = f0_.toInt ∨ (gi w0 1 (f0_.toInt).toNat).toInt = 32) by first | omega | assumption | (left; omega) | (left; decide) | (right; assumption)) (Nat.lt_succ_self _) hw hT hF c72 c76 (lv_sub hl [2, 3, 1, 0] rfl)
abbrev P_X12_isWord_8 (ad : Nat → Nat) (cy : Nat → ClassId) (B : Int) (qr : Nat) (s1 : Int)  (w0 : va_W) : Int32 → va_W → Prop := fun r u => TW ksM ad cy B qr 12 u ∧ FE ksM [(12, 14, 14)] w0 u ∧ ((r = 0 ∧ (∃ y : Int32, gi u 0 1 = y ∧ 0 ≤ y.toInt ∧ y.toInt ≤ 400) ∧ (((gi u 0 14).toInt = (gi w0 0 14).toInt ∨ (gi w0 1 ((gi w0 0 14).toInt).toNat).toInt = 32))) ∨ (r = 1 ∧ (∃ y : Int32, gi u 0 1 = y ∧ 0 ≤ y.toInt ∧ y.toInt ≤ 400) ∧ (((gi u 0 14).toInt = (gi w0 0 14).toInt ∨ (gi w0 1 ((gi w0 0 14).toInt).toNat).toInt = 32))))
set_option maxHeartbeats 4000000 in
set_option maxRecDepth 100000 in
theorem k_X12_isWord_8 (l : Launch) (adK adV : Nat → Nat) (dC : Nat → ClassId) (dI : Nat → Nat → Nat) (cy : Nat → ClassId) (ad : Nat → Nat) (B : Int) (hB0 : 100000 ≤ B) (hB1 : B ≤ 1073741824) (qr : Nat) (s1 : Int)   (w0 : va_W) (sz : Nat) (hT : TW ksM ad cy B qr 12 w0) (f0_ : Int32) (cf0_ : gi w0 0 14 = f0_) (rf0_ : 0 ≤ f0_.toInt) (tf0_ : f0_.toInt ≤ 400) : Met l yX12_isWord wsX12_isWord ({ frames := 2, cells := 0, slots := 0, locals := 33 }) (va_Pc [.ref (ad 0), .long 6386539] (wpreS adK adV dC dI cy sz w0)) (va_Qi (P_X12_isWord_8 ad cy B qr s1  w0) (fun u : va_W => wpost dC dI cy (va_A w0 sz) u) (va_A w0 sz)) 0 0 (va_A w0 sz) := by
  refine Met.ofW (cc := cX12_isWord) (maxL := 6) (ret := (some .boolean)) (by decide) rfl ?_
  intro p e s m args below meth c s₁ Bk hml hv
  obtain ⟨rfl, ⟨hsz, hP, hK, hD0⟩, hE, hSR⟩ := hv
  have hx := Bk.exec
  have hb := Bk.bytes
  have hr := Bk.returns
  have hlocks := Bk.notSynchronized
  have hC : CallFix p m c cX12_isWord 6 s _ wsX12_isWord RX12 := ⟨hx, hb, hml, findClass_of_methodNamed Bk.named, atoms_spec (ws := wsX12_isWord) Bk.pre⟩
  subst hsz
  have hD := hD0.self (sz := s.heap.size)
  generalize hAe : va_A w0 s.heap.size = A at hD hE ⊢
  have hA : ∀ q : Nat, s.heap.size ≤ q → A q := fun q h => by rw [← hAe]; exact Or.inr h
  have hw : Wd dC dI A s.heap s.heap [] w0 := ⟨hP, hD, va_S.rf⟩
  have hF : FE ksM [(12, 14, 14)] w0 w0 := FE.rf
  have hl := lv_entry ([.ref (ad 0), .long 6386539]) (n := 6) (Nat.le_of_ble_eq_true rfl)
  rw [lg_entry_eq]
  generalize (lg_sl ([.ref (ad 0), .long 6386539]) ++ List.replicate (6 - (lg_sl ([.ref (ad 0), .long 6386539])).length) Slot.unset).toArray = ls at hl ⊢
  have hl : lv_has ls 6 [(0, .ref (ad 0)), (1, .long 6386539)] := hl
  generalize hloc : ([] : List Loc) = locs at hw ⊢
  have hinX12 : ∀ w ∈ u_ws RX12 TX12 42, w ∈ wsX12_isWord := fun _ h => List.mem_cons_of_mem _ (List.mem_append_right _ (h))
  have J78 : ∀ (v78_3 : Int64) (v78_5 : Int32) (f78_0_1 : Int32) (f78_0_14 : Int32) (H : Heap) (locs : List Loc) (ls : Array Slot) (w1 : va_W), 0 ≤ v78_5.toInt → v78_5.toInt ≤ 400 → 0 ≤ f78_0_1.toInt → f78_0_1.toInt ≤ 400 → 0 ≤ f78_0_14.toInt → f78_0_14.toInt ≤ 400 → ((f78_0_14.toInt = f0_.toInt ∨ (gi w0 1 (f0_.toInt).toNat).toInt = 32)) → Wd dC dI A s.heap H locs w1 → TW ksM ad cy B qr 12 w1 → FE ksM [(12, 14, 14)] w0 w1 → gi w1 0 1 = f78_0_1 → gi w1 0 14 = f78_0_14 → lv_has ls 6 [(0, .ref (ad 0)), (1, .long 6386539), (3, .long v78_3), (5, .int v78_5)] → W p l e ({ frames := 2, cells := 0, slots := 0, locals := 33 }) s m (List.toArray [.ref (ad 0), .long 6386539]) below meth c H locs 0 0 (MQ below (va_Qi (P_X12_isWord_8 ad cy B qr s1  w0) (fun u : va_W => wpost dC dI cy A u) A) (List.toArray [.ref (ad 0), .long 6386539]) s 0 0 A) (F0 m 78 ls []) := by
    intro v78_3 v78_5 f78_0_1 f78_0_14 H locs ls w1 r2 t3 r4 t5 r7 t8 hcr78_0 hw hT hF c6 c9 hl
    refine lv_iconst (v := 0) hx hb dX12_isWord_78 (by decide) ?_
    exact tk_zret hC hr rfl hlocks hK ⟨hT, hF, (Or.inl ⟨rfl, ⟨f78_0_1, c6, (show 0 ≤ f78_0_1.toInt by omega), (show f78_0_1.toInt ≤ 400 by omega)⟩, (by simp only [cf0_, c9]; omega)⟩)⟩ hw dX12_isWord_79
  have L10 : ∀ (n10 : Nat) (v10_3 : Int64) (v10_5 : Int32) (f10_0_1 : Int32) (f10_0_14 : Int32) (H : Heap) (locs : List Loc) (ls : Array Slot) (w10 : va_W), 0 ≤ v10_5.toInt → v10_5.toInt ≤ 400 → 0 ≤ f10_0_1.toInt → f10_0_1.toInt ≤ 400 → 0 ≤ f10_0_14.toInt → f10_0_14.toInt ≤ 400 → ((f10_0_14.toInt = f0_.toInt ∨ (gi w0 1 (f0_.toInt).toNat).toInt = 32)) → (400 - v10_5.toInt).toNat < n10 → Wd dC dI A s.heap H locs w10 → TW ksM ad cy B qr 12 w10 → FE ksM [(12, 14, 14)] w0 w10 → gi w10 0 1 = f10_0_1 → gi w10 0 14 = f10_0_14 → lv_has ls 6 [(0, .ref (ad 0)), (1, .long 6386539), (3, .long v10_3), (5, .int v10_5)] → W p l e ({ frames := 2, cells := 0, slots := 0, locals := 33 }) s m (List.toArray [.ref (ad 0), .long 6386539]) below meth c H locs 0 0 (MQ below (va_Qi (P_X12_isWord_8 ad cy B qr s1  w0) (fun u : va_W => wpost dC dI cy A u) A) (List.toArray [.ref (ad 0), .long 6386539]) s 0 0 A) (F0 m 10 ls []) := by
    intro n10
    induction n10 with
    | zero => intro v10_3 v10_5 f10_0_1 f10_0_14 H locs ls w10 r11 t12 r13 t14 r16 t17 hcr10_0 hm10 hw hT hF c15 c18 hl; omega
    | succ n10 ih10 =>
      intro v10_3 v10_5 f10_0_1 f10_0_14 H locs ls w10 r11 t12 r13 t14 r16 t17 hcr10_0 hm10 hw hT hF c15 c18 hl
      have J50 : ∀ (v50_3 : Int64) (H : Heap) (locs : List Loc) (ls : Array Slot) (w19 : va_W), 0 ≤ v10_5.toInt → v10_5.toInt ≤ 399 → 1 ≤ f10_0_1.toInt → f10_0_1.toInt ≤ 400 → 0 ≤ f10_0_14.toInt → f10_0_14.toInt ≤ 399 → ((f10_0_14.toInt = f0_.toInt ∨ (gi w0 1 (f0_.toInt).toNat).toInt = 32)) → Wd dC dI A s.heap H locs w19 → TW ksM ad cy B qr 12 w19 → FE ksM [(12, 14, 14)] w0 w19 → gi w19 0 1 = f10_0_1 → gi w19 0 14 = f10_0_14 → lv_has ls 6 [(0, .ref (ad 0)), (1, .long 6386539), (3, .long v50_3), (5, .int v10_5)] → W p l e ({ frames := 2, cells := 0, slots := 0, locals := 33 }) s m (List.toArray [.ref (ad 0), .long 6386539]) below meth c H locs 0 0 (MQ below (va_Qi (P_X12_isWord_8 ad cy B qr s1  w0) (fun u : va_W => wpost dC dI cy A u) A) (List.toArray [.ref (ad 0), .long 6386539]) s 0 0 A) (F0 m 50 ls []) := by
        intro v50_3 H locs ls w19 r20 t21 r22 t23 r25 t26 hcr50_0 hw hT hF c24 c27 hl
        obtain ⟨x28, ex28⟩ : ∃ y : Int32, y = v10_5 + Int32.ofInt 1 := ⟨_, rfl⟩
        refine lv_iinc (v := x28) (lv' := [(5, .int x28), (0, .ref (ad 0)), (1, .long 6386539), (3, .long v50_3)]) hx hb dX12_isWord_50 hl (k := 3) rfl ex28.symm (by decide) rfl (fun ls hl => ?_)
        have ex28 : x28.toInt = v10_5.toInt + 1 := by rw [ex28]; exact wk_add (y := 1) (show -2147483648 ≤ v10_5.toInt + 1 by omega) (show v10_5.toInt + 1 ≤ 2147483647 by omega)
        refine lv_goto (tgt := 10) hx hb dX12_isWord_53 (by decide) ?_
        exact ih10 v50_3 x28 f10_0_1 f10_0_14 H locs ls w19 (show 0 ≤ x28.toInt by omega) (show x28.toInt ≤ 400 by omega) (show 0 ≤ f10_0_1.toInt by omega) (show f10_0_1.toInt ≤ 400 by omega) (show 0 ≤ f10_0_14.toInt by omega) (show f10_0_14.toInt ≤ 400 by omega) (show (f10_0_14.toInt = f0_.toInt ∨ (gi w0 1 (f0_.toInt).toNat).toInt = 32) by first | omega | assumption | (left; omega) | (left; decide) | (right; assumption)) (show (400 - x28.toInt).toNat < n10 by omega) hw hT hF c24 c27 (lv_sub hl [1, 2, 3, 0] rfl)
      refine lv_aload_n hx hb dX12_isWord_10 rfl (lv_at hl 0 rfl) ?_
      refine lv_aload_n hx hb dX12_isWord_11 rfl (lv_at hl 0 rfl) ?_
      refine tk_geti hC hK hw hT hinX12 kM_at0 (by decide) rfl 14 (by decide) (List.mem_of_getElem? (i := 1) rfl) rfl rfl dX12_isWord_12 (fun x29 c30 rx29 tx29 => ?_)
      refine wk_top f10_0_14 (c30.symm.trans c18) ?_
      refine lv_iload hx hb dX12_isWord_15 (lv_at hl 3 rfl) ?_
      refine lv_iadd hx hb dX12_isWord_17 ?_
      refine lv_topi (fun x31 ex31 => ?_)
      have ex31 : x31.toInt = f10_0_14.toInt + v10_5.toInt := by rw [ex31]; exact wk_add (show (-2147483648) ≤ f10_0_14.toInt + v10_5.toInt by omega) (show f10_0_14.toInt + v10_5.toInt ≤ 2147483647 by omega)
      refine tk_Vi hC hK hw hT hA hE hSR kM_at0 (by decide) rfl (k_X12_isLetter_1 l adK adV dC dI cy ad B (by omega) (by omega) qr s1   x31 (show 0 ≤ x31.toInt by omega) (show x31.toInt ≤ 800 by omega) w10 H.size hT ) (cwV 1 hC.2.2.2.2 gX12_isWord_X12_isLetter rfl rfl rfl (by decide +kernel) ⟨Nat.le_of_ble_eq_true rfl, Nat.le_of_ble_eq_true rfl⟩) rfl hl.1 rfl (Nat.le_of_ble_eq_true rfl) dX12_isWord_18 (fun r32 w34 H locs hp33 hw => ?_)
      obtain ⟨rfl, hg41⟩ := hp33
      rcases hg41 with ⟨rfl, ⟨x36, c37, rx36, tx36⟩⟩ | ⟨rfl, g38, ⟨x39, c40, rx39, tx39⟩⟩
      · have ex36 : x36.toInt = f10_0_1.toInt := by rw [← c15.symm.trans c37]
        refine lv_if_eq (tgt := 56) hx hb dX12_isWord_21 (by decide) (fun _ => ?_) (fun c => absurd (by decide) c)
        refine lv_iload hx hb dX12_isWord_56 (lv_at hl 3 rfl) ?_
        refine lv_if_le (tgt := 78) hx hb dX12_isWord_58 (by decide) (fun c42 => ?_) (fun c42 => ?_)
        · have c42 : v10_5.toInt ≤ (0 : Int) := wk_le.mp c42
          exact J78 v10_3 v10_5 f10_0_1 f10_0_14 H locs ls w10 (show 0 ≤ v10_5.toInt by omega) (show v10_5.toInt ≤ 400 by omega) (show 0 ≤ f10_0_1.toInt by omega) (show f10_0_1.toInt ≤ 400 by omega) (show 0 ≤ f10_0_14.toInt by omega) (show f10_0_14.toInt ≤ 400 by omega) (show (f10_0_14.toInt = f0_.toInt ∨ (gi w0 1 (f0_.toInt).toNat).toInt = 32) by first | omega | assumption | (left; omega) | (left; decide) | (right; assumption))  hw hT hF c15 c18 (lv_sub hl [0, 1, 2, 3] rfl)
        · have c42 : (0 : Int) < v10_5.toInt := wk_leF c42
          refine lv_iload hx hb dX12_isWord_61 (lv_at hl 3 rfl) ?_
          refine lv_bipush (v := 8) hx hb dX12_isWord_63 (by decide) ?_
          refine lv_icmp_ge (tgt := 78) hx hb dX12_isWord_65 (by decide) (fun c43 => ?_) (fun c43 => ?_)
          · have c43 : (8 : Int) ≤ v10_5.toInt := wk_le.mp c43
            exact J78 v10_3 v10_5 f10_0_1 f10_0_14 H locs ls w10 (show 0 ≤ v10_5.toInt by omega) (show v10_5.toInt ≤ 400 by omega) (show 0 ≤ f10_0_1.toInt by omega) (show f10_0_1.toInt ≤ 400 by omega) (show 0 ≤ f10_0_14.toInt by omega) (show f10_0_14.toInt ≤ 400 by omega) (show (f10_0_14.toInt = f0_.toInt ∨ (gi w0 1 (f0_.toInt).toNat).toInt = 32) by first | omega | assumption | (left; omega) | (left; decide) | (right; assumption))  hw hT hF c15 c18 (lv_sub hl [0, 1, 2, 3] rfl)
          · have c43 : v10_5.toInt < (8 : Int) := wk_leF c43
            refine lv_lload_n hx hb dX12_isWord_68 rfl (lv_at hl 2 rfl) ?_
            refine lv_lload_n hx hb dX12_isWord_69 rfl (lv_at hl 1 rfl) ?_
            refine W.lcmp hx hb dX12_isWord_70 ?_
            refine lv_if_ne (tgt := 78) hx hb dX12_isWord_71 (by decide) (fun c44 => ?_) (fun c44 => ?_)
            · have c44 : ¬ v10_3.toInt = (6386539 : Int) := wk_ceF c44
              exact J78 v10_3 v10_5 f10_0_1 f10_0_14 H locs ls w10 (show 0 ≤ v10_5.toInt by omega) (show v10_5.toInt ≤ 400 by omega) (show 0 ≤ f10_0_1.toInt by omega) (show f10_0_1.toInt ≤ 400 by omega) (show 0 ≤ f10_0_14.toInt by omega) (show f10_0_14.toInt ≤ 400 by omega) (show (f10_0_14.toInt = f0_.toInt ∨ (gi w0 1 (f0_.toInt).toNat).toInt = 32) by first | omega | assumption | (left; omega) | (left; decide) | (right; assumption))  hw hT hF c15 c18 (lv_sub hl [0, 1, 2, 3] rfl)
            · have c44 : v10_3.toInt = (6386539 : Int) := wk_ceT c44
              refine lv_iconst (v := 1) hx hb dX12_isWord_74 (by decide) ?_
              refine lv_goto (tgt := 79) hx hb dX12_isWord_75 (by decide) ?_
              exact tk_zret hC hr rfl hlocks hK ⟨hT, hF, (Or.inr ⟨rfl, ⟨f10_0_1, c15, (show 0 ≤ f10_0_1.toInt by omega), (show f10_0_1.toInt ≤ 400 by omega)⟩, (by simp only [cf0_, c18]; omega)⟩)⟩ hw dX12_isWord_79
      · have ex39 : x39.toInt = f10_0_1.toInt := by rw [← c15.symm.trans c40]
        refine lv_if_eq (tgt := 56) hx hb dX12_isWord_21 (by decide) (fun c => absurd c (by decide)) (fun _ => ?_)
        refine lv_iload hx hb dX12_isWord_24 (lv_at hl 3 rfl) ?_
        refine lv_bipush (v := 8) hx hb dX12_isWord_26 (by decide) ?_
        refine lv_icmp_ge (tgt := 50) hx hb dX12_isWord_28 (by decide) (fun c45 => ?_) (fun c45 => ?_)
        · have c45 : (8 : Int) ≤ v10_5.toInt := wk_le.mp c45
          exact J50 v10_3 H locs ls w10 (show 0 ≤ v10_5.toInt by omega) (show v10_5.toInt ≤ 399 by omega) (show 1 ≤ f10_0_1.toInt by omega) (show f10_0_1.toInt ≤ 400 by omega) (show 0 ≤ f10_0_14.toInt by omega) (show f10_0_14.toInt ≤ 399 by omega) (show (f10_0_14.toInt = f0_.toInt ∨ (gi w0 1 (f0_.toInt).toNat).toInt = 32) by first | omega | assumption | (left; omega) | (left; decide) | (right; assumption))  hw hT hF c15 c18 (lv_sub hl [0, 1, 2, 3] rfl)
        · have c45 : v10_5.toInt < (8 : Int) := wk_leF c45
          refine lv_lload_n hx hb dX12_isWord_31 rfl (lv_at hl 2 rfl) ?_
          refine lv_bipush (v := 8) hx hb dX12_isWord_32 (by decide) ?_
          refine lv_lshl hx hb dX12_isWord_34 rfl ?_
          refine lv_topl (fun x46 ex46 => ?_)
          refine lv_aload_n hx hb dX12_isWord_35 rfl (lv_at hl 0 rfl) ?_
          refine tk_getA hC hK hw hT hinX12 kM_at0 (by decide) rfl 0 (by decide) (List.mem_of_getElem? (i := 2) rfl) rfl rfl dX12_isWord_36 ?_
          refine lv_aload_n hx hb dX12_isWord_39 rfl (lv_at hl 0 rfl) ?_
          refine tk_geti hC hK hw hT hinX12 kM_at0 (by decide) rfl 14 (by decide) (List.mem_of_getElem? (i := 1) rfl) rfl rfl dX12_isWord_40 (fun x47 c48 rx47 tx47 => ?_)
          refine wk_top f10_0_14 (c48.symm.trans c18) ?_
          refine lv_iload hx hb dX12_isWord_43 (lv_at hl 3 rfl) ?_
          refine lv_iadd hx hb dX12_isWord_45 ?_
          refine lv_topi (fun x49 ex49 => ?_)
          have ex49 : x49.toInt = f10_0_14.toInt + v10_5.toInt := by rw [ex49]; exact wk_add (show (-2147483648) ≤ f10_0_14.toInt + v10_5.toInt by omega) (show f10_0_14.toInt + v10_5.toInt ≤ 2147483647 by omega)
          refine tk_bald hC hK hw hT kM_at1 rfl rfl (show 0 ≤ x49.toInt by omega) (show x49.toInt < 400 by omega) dX12_isWord_46 (fun x50 c51 rx50 tx50 => ?_)
          have c51 : gi w10 1 (1 * f10_0_14.toInt + 1 * v10_5.toInt + 0).toNat = x50 := (congrArg (gi w10 1) (congrArg Int.toNat (show 1 * f10_0_14.toInt + 1 * v10_5.toInt + 0 = x49.toInt by omega))).trans c51
          refine lv_i2l hx hb dX12_isWord_47 rfl ?_
          refine lv_topl (fun x52 ex52 => ?_)
          have ex52 : x52.toInt = x50.toInt := by rw [ex52]; exact wk_i2l _
          have bx52 := wk_i32 x50
          refine lv_lor hx hb dX12_isWord_48 ?_
          refine lv_topl (fun x53 ex53 => ?_)
          refine lv_lstore_n (lv' := [(3, .long x53), (0, .ref (ad 0)), (1, .long 6386539), (5, .int v10_5)]) hx hb dX12_isWord_49 rfl hl (by decide) rfl (fun ls hl => ?_)
          exact J50 x53 H locs ls w10 (show 0 ≤ v10_5.toInt by omega) (show v10_5.toInt ≤ 399 by omega) (show 1 ≤ f10_0_1.toInt by omega) (show f10_0_1.toInt ≤ 400 by omega) (show 0 ≤ f10_0_14.toInt by omega) (show f10_0_14.toInt ≤ 399 by omega) (show (f10_0_14.toInt = f0_.toInt ∨ (gi w0 1 (f0_.toInt).toNat).toInt = 32) by first | omega | assumption | (left; omega) | (left; decide) | (right; assumption) | (right; rw [c51]; omega) | (right; rw [c51]; decide))  hw hT hF c15 c18 (lv_sub hl [1, 2, 0, 3] rfl)
  refine lv_aload_n hx hb dX12_isWord_0 rfl (lv_at hl 0 rfl) ?_
  refine tk_Vi hC hK hw hT hA hE hSR kM_at0 (by decide) rfl (k_X12_see_1 l adK adV dC dI cy ad B (by omega) (by omega) qr s1    w0 s.heap.size hT f0_ cf0_ (show 0 ≤ f0_.toInt by omega) (show f0_.toInt ≤ 400 by omega)) (cwV 0 hC.2.2.2.2 gX12_isWord_X12_see rfl rfl rfl (by decide +kernel) ⟨Nat.le_of_ble_eq_true rfl, Nat.le_of_ble_eq_true rfl⟩) rfl hl.1 rfl (Nat.le_of_ble_eq_true rfl) dX12_isWord_1 (fun r54 w56 H locs hp55 hw => ?_)
  obtain ⟨hT, k57, hg74⟩ := hp55
  have hF := hF.tr k57 (by decide)
  rcases hg74 with ⟨g58, g59, ⟨x60, c61, rx60, tx60⟩, ⟨x62, c63, rx62, tx62⟩, g64, g65⟩ | ⟨rfl, ⟨x66, c67, rx66, tx66⟩, ⟨x68, c69, rx68, tx68⟩, g70⟩ | ⟨rfl, ⟨x71, c72, rx71, tx71⟩, g73⟩
  · have g64 : (gi w56 1 (x62.toInt).toNat).toInt ≠ 32 := by have q := g64; simp only [c63] at q; omega
    have g65 : (x62.toInt = f0_.toInt ∨ (gi w0 1 (f0_.toInt).toNat).toInt = 32) := by have q := g65; simp only [cf0_, c63] at q; omega
    refine lv_pop hx hb dX12_isWord_4 rfl ?_
    refine lv_lconst (v := 0) hx hb dX12_isWord_5 (by decide) ?_
    refine lv_lstore_n (lv' := [(3, .long 0), (0, .ref (ad 0)), (1, .long 6386539)]) hx hb dX12_isWord_6 rfl hl (by decide) rfl (fun ls hl => ?_)
    refine lv_iconst (v := 0) hx hb dX12_isWord_7 (by decide) ?_
    refine lv_istore (lv' := [(5, .int 0), (3, .long 0), (0, .ref (ad 0)), (1, .long 6386539)]) hx hb dX12_isWord_8 hl (by decide) rfl (fun ls hl => ?_)
    exact L10 ((400 - (0 : Int)).toNat + 1) 0 0 x60 x62 H locs ls w56 (by decide) (by decide) (show 0 ≤ x60.toInt by omega) (show x60.toInt ≤ 400 by omega) (show 0 ≤ x62.toInt by omega) (show x62.toInt ≤ 400 by omega) (show (x62.toInt = f0_.toInt ∨ (gi w0 1 (f0_.toInt).toNat).toInt = 32) by first | omega | assumption | (left; omega) | (left; decide) | (right; assumption)) (Nat.lt_succ_self _) hw hT hF c61 c63 (lv_sub hl [2, 3, 1, 0] rfl)
  · have g70 : (x68.toInt = f0_.toInt ∨ (gi w0 1 (f0_.toInt).toNat).toInt = 32) := by have q := g70; simp only [cf0_, c69] at q; omega
    refine lv_pop hx hb dX12_isWord_4 rfl ?_
    refine lv_lconst (v := 0) hx hb dX12_isWord_5 (by decide) ?_
    refine lv_lstore_n (lv' := [(3, .long 0), (0, .ref (ad 0)), (1, .long 6386539)]) hx hb dX12_isWord_6 rfl hl (by decide) rfl (fun ls hl => ?_)
    refine lv_iconst (v := 0) hx hb dX12_isWord_7 (by decide) ?_
    refine lv_istore (lv' := [(5, .int 0), (3, .long 0), (0, .ref (ad 0)), (1, .long 6386539)]) hx hb dX12_isWord_8 hl (by decide) rfl (fun ls hl => ?_)
    exact L10 ((400 - (0 : Int)).toNat + 1) 0 0 x66 x68 H locs ls w56 (by decide) (by decide) (show 0 ≤ x66.toInt by omega) (show x66.toInt ≤ 400 by omega) (show 0 ≤ x68.toInt by omega) (show x68.toInt ≤ 400 by omega) (show (x68.toInt = f0_.toInt ∨ (gi w0 1 (f0_.toInt).toNat).toInt = 32) by first | omega | assumption | (left; omega) | (left; decide) | (right; assumption)) (Nat.lt_succ_self _) hw hT hF c67 c69 (lv_sub hl [2, 3, 1, 0] rfl)
  · obtain ⟨x75, c76, rx75, tx75⟩ := hT.rdi (lo := 0) (hi := 400) (k := 14) kM_at0 (by decide) rfl
    have g73 : (x75.toInt = f0_.toInt ∨ (gi w0 1 (f0_.toInt).toNat).toInt = 32) := by have q := g73; simp only [cf0_, c76] at q; omega
    refine lv_pop hx hb dX12_isWord_4 rfl ?_
    refine lv_lconst (v := 0) hx hb dX12_isWord_5 (by decide) ?_
    refine lv_lstore_n (lv' := [(3, .long 0), (0, .ref (ad 0)), (1, .long 6386539)]) hx hb dX12_isWord_6 rfl hl (by decide) rfl (fun ls hl => ?_)
    refine lv_iconst (v := 0) hx hb dX12_isWord_7 (by decide) ?_
    refine lv_istore (lv' := [(5, .int 0), (3, .long 0), (0, .ref (ad 0)), (1, .long 6386539)]) hx hb dX12_isWord_8 hl (by decide) rfl (fun ls hl => ?_)
    exact L10 ((400 - (0 : Int)).toNat + 1) 0 0 x71 x75 H locs ls w56 (by decide) (by decide) (show 0 ≤ x71.toInt by omega) (show x71.toInt ≤ 400 by omega) (show 0 ≤ x75.toInt by omega) (show x75.toInt ≤ 400 by omega) (show (x75.toInt = f0_.toInt ∨ (gi w0 1 (f0_.toInt).toNat).toInt = 32) by first | omega | assumption | (left; omega) | (left; decide) | (right; assumption)) (Nat.lt_succ_self _) hw hT hF c72 c76 (lv_sub hl [2, 3, 1, 0] rfl)
abbrev P_X12_doingSort_1 (ad : Nat → Nat) (cy : Nat → ClassId) (B : Int) (qr : Nat) (s1 : Int)  (w0 : va_W) : Int32 → va_W → Prop := fun r u => TW ksM ad cy B qr 12 u ∧ FE ksM [(12, 14, 14)] w0 u ∧ ((0 ≤ r.toInt ∧ r.toInt ≤ 3 ∧ (∃ y : Int32, gi u 0 1 = y ∧ 0 ≤ y.toInt ∧ y.toInt ≤ 400)) ∨ (r = (-1) ∧ (∃ y : Int32, gi u 0 1 = y ∧ 0 ≤ y.toInt ∧ y.toInt ≤ 400)))
set_option maxHeartbeats 4000000 in
set_option maxRecDepth 100000 in
theorem k_X12_doingSort_1 (l : Launch) (adK adV : Nat → Nat) (dC : Nat → ClassId) (dI : Nat → Nat → Nat) (cy : Nat → ClassId) (ad : Nat → Nat) (B : Int) (hB0 : 100000 ≤ B) (hB1 : B ≤ 1073741824) (qr : Nat) (s1 : Int)   (w0 : va_W) (sz : Nat) (hT : TW ksM ad cy B qr 12 w0)  : Met l yX12_doingSort wsX12_doingSort ({ frames := 3, cells := 0, slots := 0, locals := 58 }) (va_Pc [.ref (ad 0)] (wpreS adK adV dC dI cy sz w0)) (va_Qi (P_X12_doingSort_1 ad cy B qr s1  w0) (fun u : va_W => wpost dC dI cy (va_A w0 sz) u) (va_A w0 sz)) 0 0 (va_A w0 sz) := by
  refine Met.ofW (cc := cX12_doingSort) (maxL := 1) (ret := (some .int)) (by decide) rfl ?_
  intro p e s m args below meth c s₁ Bk hml hv
  obtain ⟨rfl, ⟨hsz, hP, hK, hD0⟩, hE, hSR⟩ := hv
  have hx := Bk.exec
  have hb := Bk.bytes
  have hr := Bk.returns
  have hlocks := Bk.notSynchronized
  have hC : CallFix p m c cX12_doingSort 1 s _ wsX12_doingSort RX12 := ⟨hx, hb, hml, findClass_of_methodNamed Bk.named, atoms_spec (ws := wsX12_doingSort) Bk.pre⟩
  subst hsz
  have hD := hD0.self (sz := s.heap.size)
  generalize hAe : va_A w0 s.heap.size = A at hD hE ⊢
  have hA : ∀ q : Nat, s.heap.size ≤ q → A q := fun q h => by rw [← hAe]; exact Or.inr h
  have hw : Wd dC dI A s.heap s.heap [] w0 := ⟨hP, hD, va_S.rf⟩
  have hF : FE ksM [(12, 14, 14)] w0 w0 := FE.rf
  have hl := lv_entry ([.ref (ad 0)]) (n := 1) (Nat.le_of_ble_eq_true rfl)
  rw [lg_entry_eq]
  generalize (lg_sl ([.ref (ad 0)]) ++ List.replicate (1 - (lg_sl ([.ref (ad 0)])).length) Slot.unset).toArray = ls at hl ⊢
  have hl : lv_has ls 1 [(0, .ref (ad 0))] := hl
  generalize hloc : ([] : List Loc) = locs at hw ⊢
  refine lv_aload_n hx hb dX12_doingSort_0 rfl (lv_at hl 0 rfl) ?_
  refine lv_ldc2 (v := 26479) hx hb hC.2.2.2.1 (hC.2.2.2.2 _ (List.mem_of_getElem? (i := 1) rfl)) dX12_doingSort_1 ?_
  obtain ⟨x1, c2, rx1, tx1⟩ := hT.rdi (lo := 0) (hi := 400) (k := 14) kM_at0 (by decide) rfl
  refine tk_Vi hC hK hw hT hA hE hSR kM_at0 (by decide) rfl (k_X12_isWord_6 l adK adV dC dI cy ad B (by omega) (by omega) qr s1    w0 s.heap.size hT x1 c2 (show 0 ≤ x1.toInt by omega) (show x1.toInt ≤ 400 by omega)) (cwV 1 hC.2.2.2.2 gX12_doingSort_X12_isWord rfl rfl rfl (by decide +kernel) ⟨Nat.le_of_ble_eq_true rfl, Nat.le_of_ble_eq_true rfl⟩) rfl hl.1 rfl (Nat.le_of_ble_eq_true rfl) dX12_doingSort_4 (fun r3 w5 H locs hp4 hw => ?_)
  obtain ⟨hT, k6, hg13⟩ := hp4
  have hF := hF.tr k6 (by decide)
  rcases hg13 with ⟨rfl, ⟨x7, c8, rx7, tx7⟩, g9⟩ | ⟨rfl, ⟨x10, c11, rx10, tx10⟩, g12⟩
  · obtain ⟨x14, c15, rx14, tx14⟩ := hT.rdi (lo := 0) (hi := 400) (k := 14) kM_at0 (by decide) rfl
    have g9 : (x14.toInt = x1.toInt ∨ (gi w0 1 (x1.toInt).toNat).toInt = 32) := by have q := g9; simp only [c2, c15] at q; omega
    refine lv_if_eq (tgt := 14) hx hb dX12_doingSort_7 (by decide) (fun _ => ?_) (fun c => absurd (by decide) c)
    refine lv_aload_n hx hb dX12_doingSort_14 rfl (lv_at hl 0 rfl) ?_
    refine lv_ldc2 (v := 418548114533) hx hb hC.2.2.2.1 (hC.2.2.2.2 _ (List.mem_of_getElem? (i := 2) rfl)) dX12_doingSort_15 ?_
    refine tk_Vi hC hK hw hT hA hE hSR kM_at0 (by decide) rfl (k_X12_isWord_7 l adK adV dC dI cy ad B (by omega) (by omega) qr s1    w5 H.size hT x14 c15 (show 0 ≤ x14.toInt by omega) (show x14.toInt ≤ 400 by omega)) (cwV 1 hC.2.2.2.2 gX12_doingSort_X12_isWord rfl rfl rfl (by decide +kernel) ⟨Nat.le_of_ble_eq_true rfl, Nat.le_of_ble_eq_true rfl⟩) rfl hl.1 rfl (Nat.le_of_ble_eq_true rfl) dX12_doingSort_18 (fun r18 w20 H locs hp19 hw => ?_)
    obtain ⟨hT, k21, hg28⟩ := hp19
    have hF := hF.tr k21 (by decide)
    have c29 := k21.gi kM_at0 (by decide) c8
    rcases hg28 with ⟨rfl, ⟨x22, c23, rx22, tx22⟩, g24⟩ | ⟨rfl, ⟨x25, c26, rx25, tx25⟩, g27⟩
    · have ex22 : x22.toInt = x7.toInt := by rw [← c29.symm.trans c23]
      obtain ⟨x30, c31, rx30, tx30⟩ := hT.rdi (lo := 0) (hi := 400) (k := 14) kM_at0 (by decide) rfl
      have g24 : (x30.toInt = x14.toInt ∨ (gi w5 1 (x14.toInt).toNat).toInt = 32) := by have q := g24; simp only [c15, c31] at q; omega
      refine lv_if_eq (tgt := 28) hx hb dX12_doingSort_21 (by decide) (fun _ => ?_) (fun c => absurd (by decide) c)
      refine lv_aload_n hx hb dX12_doingSort_28 rfl (lv_at hl 0 rfl) ?_
      refine lv_ldc2 (v := 6386539) hx hb hC.2.2.2.1 (hC.2.2.2.2 _ (List.mem_of_getElem? (i := 3) rfl)) dX12_doingSort_29 ?_
      refine tk_Vi hC hK hw hT hA hE hSR kM_at0 (by decide) rfl (k_X12_isWord_8 l adK adV dC dI cy ad B (by omega) (by omega) qr s1    w20 H.size hT x30 c31 (show 0 ≤ x30.toInt by omega) (show x30.toInt ≤ 400 by omega)) (cwV 1 hC.2.2.2.2 gX12_doingSort_X12_isWord rfl rfl rfl (by decide +kernel) ⟨Nat.le_of_ble_eq_true rfl, Nat.le_of_ble_eq_true rfl⟩) rfl hl.1 rfl (Nat.le_of_ble_eq_true rfl) dX12_doingSort_32 (fun r34 w36 H locs hp35 hw => ?_)
      obtain ⟨hT, k37, hg44⟩ := hp35
      have hF := hF.tr k37 (by decide)
      have c45 := k37.gi kM_at0 (by decide) c29
      rcases hg44 with ⟨rfl, ⟨x38, c39, rx38, tx38⟩, g40⟩ | ⟨rfl, ⟨x41, c42, rx41, tx41⟩, g43⟩
      · have ex38 : x38.toInt = x7.toInt := by rw [← c45.symm.trans c39]
        obtain ⟨x46, c47, rx46, tx46⟩ := hT.rdi (lo := 0) (hi := 400) (k := 14) kM_at0 (by decide) rfl
        have g40 : (x46.toInt = x30.toInt ∨ (gi w20 1 (x30.toInt).toNat).toInt = 32) := by have q := g40; simp only [c31, c47] at q; omega
        refine lv_if_eq (tgt := 42) hx hb dX12_doingSort_35 (by decide) (fun _ => ?_) (fun c => absurd (by decide) c)
        refine lv_aload_n hx hb dX12_doingSort_42 rfl (lv_at hl 0 rfl) ?_
        refine lv_ldc2 (v := 2002872692) hx hb hC.2.2.2.1 (hC.2.2.2.2 _ (List.mem_of_getElem? (i := 4) rfl)) dX12_doingSort_43 ?_
        refine tk_Vi hC hK hw hT hA hE hSR kM_at0 (by decide) rfl (k_X12_isWord_5 l adK adV dC dI cy ad B (by omega) (by omega) qr s1    w36 H.size hT x46 c47 (show 0 ≤ x46.toInt by omega) (show x46.toInt ≤ 400 by omega)) (cwV 1 hC.2.2.2.2 gX12_doingSort_X12_isWord rfl rfl rfl (by decide +kernel) ⟨Nat.le_of_ble_eq_true rfl, Nat.le_of_ble_eq_true rfl⟩) rfl hl.1 rfl (Nat.le_of_ble_eq_true rfl) dX12_doingSort_46 (fun r50 w52 H locs hp51 hw => ?_)
        obtain ⟨hT, k53, hg60⟩ := hp51
        have hF := hF.tr k53 (by decide)
        have c61 := k53.gi kM_at0 (by decide) c45
        rcases hg60 with ⟨rfl, ⟨x54, c55, rx54, tx54⟩, g56⟩ | ⟨rfl, ⟨x57, c58, rx57, tx57⟩, g59⟩
        · have ex54 : x54.toInt = x7.toInt := by rw [← c61.symm.trans c55]
          obtain ⟨x62, c63, rx62, tx62⟩ := hT.rdi (lo := 0) (hi := 400) (k := 14) kM_at0 (by decide) rfl
          have g56 : (x62.toInt = x46.toInt ∨ (gi w36 1 (x46.toInt).toNat).toInt = 32) := by have q := g56; simp only [c47, c63] at q; omega
          refine lv_if_eq (tgt := 56) hx hb dX12_doingSort_49 (by decide) (fun _ => ?_) (fun c => absurd (by decide) c)
          refine lv_iconst (v := (-1)) hx hb dX12_doingSort_56 (by decide) ?_
          exact tk_iret hC hr hlocks hK ⟨hT, hF, (Or.inr ⟨rfl, ⟨x7, c61, (show 0 ≤ x7.toInt by omega), (show x7.toInt ≤ 400 by omega)⟩⟩)⟩ hw dX12_doingSort_57
        · have ex57 : x57.toInt = x7.toInt := by rw [← c61.symm.trans c58]
          obtain ⟨x64, c65, rx64, tx64⟩ := hT.rdi (lo := 0) (hi := 400) (k := 14) kM_at0 (by decide) rfl
          have g59 : (x64.toInt = x46.toInt ∨ (gi w36 1 (x46.toInt).toNat).toInt = 32) := by have q := g59; simp only [c47, c65] at q; omega
          refine lv_if_eq (tgt := 56) hx hb dX12_doingSort_49 (by decide) (fun c => absurd c (by decide)) (fun _ => ?_)
          refine lv_iconst (v := 3) hx hb dX12_doingSort_52 (by decide) ?_
          refine lv_goto (tgt := 57) hx hb dX12_doingSort_53 (by decide) ?_
          exact tk_iret hC hr hlocks hK ⟨hT, hF, (Or.inl ⟨(by decide), (by decide), ⟨x7, c61, (show 0 ≤ x7.toInt by omega), (show x7.toInt ≤ 400 by omega)⟩⟩)⟩ hw dX12_doingSort_57
      · have ex41 : x41.toInt = x7.toInt := by rw [← c45.symm.trans c42]
        obtain ⟨x48, c49, rx48, tx48⟩ := hT.rdi (lo := 0) (hi := 400) (k := 14) kM_at0 (by decide) rfl
        have g43 : (x48.toInt = x30.toInt ∨ (gi w20 1 (x30.toInt).toNat).toInt = 32) := by have q := g43; simp only [c31, c49] at q; omega
        refine lv_if_eq (tgt := 42) hx hb dX12_doingSort_35 (by decide) (fun c => absurd c (by decide)) (fun _ => ?_)
        refine lv_iconst (v := 2) hx hb dX12_doingSort_38 (by decide) ?_
        refine lv_goto (tgt := 57) hx hb dX12_doingSort_39 (by decide) ?_
        exact tk_iret hC hr hlocks hK ⟨hT, hF, (Or.inl ⟨(by decide), (by decide), ⟨x7, c45, (show 0 ≤ x7.toInt by omega), (show x7.toInt ≤ 400 by omega)⟩⟩)⟩ hw dX12_doingSort_57
    · have ex25 : x25.toInt = x7.toInt := by rw [← c29.symm.trans c26]
      obtain ⟨x32, c33, rx32, tx32⟩ := hT.rdi (lo := 0) (hi := 400) (k := 14) kM_at0 (by decide) rfl
      have g27 : (x32.toInt = x14.toInt ∨ (gi w5 1 (x14.toInt).toNat).toInt = 32) := by have q := g27; simp only [c15, c33] at q; omega
      refine lv_if_eq (tgt := 28) hx hb dX12_doingSort_21 (by decide) (fun c => absurd c (by decide)) (fun _ => ?_)
      refine lv_iconst (v := 1) hx hb dX12_doingSort_24 (by decide) ?_
      refine lv_goto (tgt := 57) hx hb dX12_doingSort_25 (by decide) ?_
      exact tk_iret hC hr hlocks hK ⟨hT, hF, (Or.inl ⟨(by decide), (by decide), ⟨x7, c29, (show 0 ≤ x7.toInt by omega), (show x7.toInt ≤ 400 by omega)⟩⟩)⟩ hw dX12_doingSort_57
  · obtain ⟨x16, c17, rx16, tx16⟩ := hT.rdi (lo := 0) (hi := 400) (k := 14) kM_at0 (by decide) rfl
    have g12 : (x16.toInt = x1.toInt ∨ (gi w0 1 (x1.toInt).toNat).toInt = 32) := by have q := g12; simp only [c2, c17] at q; omega
    refine lv_if_eq (tgt := 14) hx hb dX12_doingSort_7 (by decide) (fun c => absurd c (by decide)) (fun _ => ?_)
    refine lv_iconst (v := 0) hx hb dX12_doingSort_10 (by decide) ?_
    refine lv_goto (tgt := 57) hx hb dX12_doingSort_11 (by decide) ?_
    exact tk_iret hC hr hlocks hK ⟨hT, hF, (Or.inl ⟨(by decide), (by decide), ⟨x10, c11, (show 0 ≤ x10.toInt by omega), (show x10.toInt ≤ 400 by omega)⟩⟩)⟩ hw dX12_doingSort_57
abbrev P_X12_isWord_9 (ad : Nat → Nat) (cy : Nat → ClassId) (B : Int) (qr : Nat) (s1 : Int)  (w0 : va_W) : Int32 → va_W → Prop := fun r u => TW ksM ad cy B qr 12 u ∧ FE ksM [(12, 14, 14)] w0 u ∧ ((r = 0 ∧ (∃ y : Int32, gi u 0 1 = y ∧ 0 ≤ y.toInt ∧ y.toInt ≤ 400) ∧ (((gi u 0 14).toInt = (gi w0 0 14).toInt ∨ (gi w0 1 ((gi w0 0 14).toInt).toNat).toInt = 32))) ∨ (r = 1 ∧ (∃ y : Int32, gi u 0 1 = y ∧ 0 ≤ y.toInt ∧ y.toInt ≤ 400) ∧ (((gi u 0 14).toInt = (gi w0 0 14).toInt ∨ (gi w0 1 ((gi w0 0 14).toInt).toNat).toInt = 32))))
set_option maxHeartbeats 4000000 in
set_option maxRecDepth 100000 in
theorem k_X12_isWord_9 (l : Launch) (adK adV : Nat → Nat) (dC : Nat → ClassId) (dI : Nat → Nat → Nat) (cy : Nat → ClassId) (ad : Nat → Nat) (B : Int) (hB0 : 100000 ≤ B) (hB1 : B ≤ 1073741824) (qr : Nat) (s1 : Int)   (w0 : va_W) (sz : Nat) (hT : TW ksM ad cy B qr 12 w0) (f0_ : Int32) (cf0_ : gi w0 0 14 = f0_) (rf0_ : 0 ≤ f0_.toInt) (tf0_ : f0_.toInt ≤ 400) : Met l yX12_isWord wsX12_isWord ({ frames := 2, cells := 0, slots := 0, locals := 33 }) (va_Pc [.ref (ad 0), .long 26982] (wpreS adK adV dC dI cy sz w0)) (va_Qi (P_X12_isWord_9 ad cy B qr s1  w0) (fun u : va_W => wpost dC dI cy (va_A w0 sz) u) (va_A w0 sz)) 0 0 (va_A w0 sz) := by
  refine Met.ofW (cc := cX12_isWord) (maxL := 6) (ret := (some .boolean)) (by decide) rfl ?_
  intro p e s m args below meth c s₁ Bk hml hv
  obtain ⟨rfl, ⟨hsz, hP, hK, hD0⟩, hE, hSR⟩ := hv
  have hx := Bk.exec
  have hb := Bk.bytes
  have hr := Bk.returns
  have hlocks := Bk.notSynchronized
  have hC : CallFix p m c cX12_isWord 6 s _ wsX12_isWord RX12 := ⟨hx, hb, hml, findClass_of_methodNamed Bk.named, atoms_spec (ws := wsX12_isWord) Bk.pre⟩
  subst hsz
  have hD := hD0.self (sz := s.heap.size)
  generalize hAe : va_A w0 s.heap.size = A at hD hE ⊢
  have hA : ∀ q : Nat, s.heap.size ≤ q → A q := fun q h => by rw [← hAe]; exact Or.inr h
  have hw : Wd dC dI A s.heap s.heap [] w0 := ⟨hP, hD, va_S.rf⟩
  have hF : FE ksM [(12, 14, 14)] w0 w0 := FE.rf
  have hl := lv_entry ([.ref (ad 0), .long 26982]) (n := 6) (Nat.le_of_ble_eq_true rfl)
  rw [lg_entry_eq]
  generalize (lg_sl ([.ref (ad 0), .long 26982]) ++ List.replicate (6 - (lg_sl ([.ref (ad 0), .long 26982])).length) Slot.unset).toArray = ls at hl ⊢
  have hl : lv_has ls 6 [(0, .ref (ad 0)), (1, .long 26982)] := hl
  generalize hloc : ([] : List Loc) = locs at hw ⊢
  have hinX12 : ∀ w ∈ u_ws RX12 TX12 42, w ∈ wsX12_isWord := fun _ h => List.mem_cons_of_mem _ (List.mem_append_right _ (h))
  have J78 : ∀ (v78_3 : Int64) (v78_5 : Int32) (f78_0_1 : Int32) (f78_0_14 : Int32) (H : Heap) (locs : List Loc) (ls : Array Slot) (w1 : va_W), 0 ≤ v78_5.toInt → v78_5.toInt ≤ 400 → 0 ≤ f78_0_1.toInt → f78_0_1.toInt ≤ 400 → 0 ≤ f78_0_14.toInt → f78_0_14.toInt ≤ 400 → ((f78_0_14.toInt = f0_.toInt ∨ (gi w0 1 (f0_.toInt).toNat).toInt = 32)) → Wd dC dI A s.heap H locs w1 → TW ksM ad cy B qr 12 w1 → FE ksM [(12, 14, 14)] w0 w1 → gi w1 0 1 = f78_0_1 → gi w1 0 14 = f78_0_14 → lv_has ls 6 [(0, .ref (ad 0)), (1, .long 26982), (3, .long v78_3), (5, .int v78_5)] → W p l e ({ frames := 2, cells := 0, slots := 0, locals := 33 }) s m (List.toArray [.ref (ad 0), .long 26982]) below meth c H locs 0 0 (MQ below (va_Qi (P_X12_isWord_9 ad cy B qr s1  w0) (fun u : va_W => wpost dC dI cy A u) A) (List.toArray [.ref (ad 0), .long 26982]) s 0 0 A) (F0 m 78 ls []) := by
    intro v78_3 v78_5 f78_0_1 f78_0_14 H locs ls w1 r2 t3 r4 t5 r7 t8 hcr78_0 hw hT hF c6 c9 hl
    refine lv_iconst (v := 0) hx hb dX12_isWord_78 (by decide) ?_
    exact tk_zret hC hr rfl hlocks hK ⟨hT, hF, (Or.inl ⟨rfl, ⟨f78_0_1, c6, (show 0 ≤ f78_0_1.toInt by omega), (show f78_0_1.toInt ≤ 400 by omega)⟩, (by simp only [cf0_, c9]; omega)⟩)⟩ hw dX12_isWord_79
  have L10 : ∀ (n10 : Nat) (v10_3 : Int64) (v10_5 : Int32) (f10_0_1 : Int32) (f10_0_14 : Int32) (H : Heap) (locs : List Loc) (ls : Array Slot) (w10 : va_W), 0 ≤ v10_5.toInt → v10_5.toInt ≤ 400 → 0 ≤ f10_0_1.toInt → f10_0_1.toInt ≤ 400 → 0 ≤ f10_0_14.toInt → f10_0_14.toInt ≤ 400 → ((f10_0_14.toInt = f0_.toInt ∨ (gi w0 1 (f0_.toInt).toNat).toInt = 32)) → (400 - v10_5.toInt).toNat < n10 → Wd dC dI A s.heap H locs w10 → TW ksM ad cy B qr 12 w10 → FE ksM [(12, 14, 14)] w0 w10 → gi w10 0 1 = f10_0_1 → gi w10 0 14 = f10_0_14 → lv_has ls 6 [(0, .ref (ad 0)), (1, .long 26982), (3, .long v10_3), (5, .int v10_5)] → W p l e ({ frames := 2, cells := 0, slots := 0, locals := 33 }) s m (List.toArray [.ref (ad 0), .long 26982]) below meth c H locs 0 0 (MQ below (va_Qi (P_X12_isWord_9 ad cy B qr s1  w0) (fun u : va_W => wpost dC dI cy A u) A) (List.toArray [.ref (ad 0), .long 26982]) s 0 0 A) (F0 m 10 ls []) := by
    intro n10
    induction n10 with
    | zero => intro v10_3 v10_5 f10_0_1 f10_0_14 H locs ls w10 r11 t12 r13 t14 r16 t17 hcr10_0 hm10 hw hT hF c15 c18 hl; omega
    | succ n10 ih10 =>
      intro v10_3 v10_5 f10_0_1 f10_0_14 H locs ls w10 r11 t12 r13 t14 r16 t17 hcr10_0 hm10 hw hT hF c15 c18 hl
      have J50 : ∀ (v50_3 : Int64) (H : Heap) (locs : List Loc) (ls : Array Slot) (w19 : va_W), 0 ≤ v10_5.toInt → v10_5.toInt ≤ 399 → 1 ≤ f10_0_1.toInt → f10_0_1.toInt ≤ 400 → 0 ≤ f10_0_14.toInt → f10_0_14.toInt ≤ 399 → ((f10_0_14.toInt = f0_.toInt ∨ (gi w0 1 (f0_.toInt).toNat).toInt = 32)) → Wd dC dI A s.heap H locs w19 → TW ksM ad cy B qr 12 w19 → FE ksM [(12, 14, 14)] w0 w19 → gi w19 0 1 = f10_0_1 → gi w19 0 14 = f10_0_14 → lv_has ls 6 [(0, .ref (ad 0)), (1, .long 26982), (3, .long v50_3), (5, .int v10_5)] → W p l e ({ frames := 2, cells := 0, slots := 0, locals := 33 }) s m (List.toArray [.ref (ad 0), .long 26982]) below meth c H locs 0 0 (MQ below (va_Qi (P_X12_isWord_9 ad cy B qr s1  w0) (fun u : va_W => wpost dC dI cy A u) A) (List.toArray [.ref (ad 0), .long 26982]) s 0 0 A) (F0 m 50 ls []) := by
        intro v50_3 H locs ls w19 r20 t21 r22 t23 r25 t26 hcr50_0 hw hT hF c24 c27 hl
        obtain ⟨x28, ex28⟩ : ∃ y : Int32, y = v10_5 + Int32.ofInt 1 := ⟨_, rfl⟩
        refine lv_iinc (v := x28) (lv' := [(5, .int x28), (0, .ref (ad 0)), (1, .long 26982), (3, .long v50_3)]) hx hb dX12_isWord_50 hl (k := 3) rfl ex28.symm (by decide) rfl (fun ls hl => ?_)
        have ex28 : x28.toInt = v10_5.toInt + 1 := by rw [ex28]; exact wk_add (y := 1) (show -2147483648 ≤ v10_5.toInt + 1 by omega) (show v10_5.toInt + 1 ≤ 2147483647 by omega)
        refine lv_goto (tgt := 10) hx hb dX12_isWord_53 (by decide) ?_
        exact ih10 v50_3 x28 f10_0_1 f10_0_14 H locs ls w19 (show 0 ≤ x28.toInt by omega) (show x28.toInt ≤ 400 by omega) (show 0 ≤ f10_0_1.toInt by omega) (show f10_0_1.toInt ≤ 400 by omega) (show 0 ≤ f10_0_14.toInt by omega) (show f10_0_14.toInt ≤ 400 by omega) (show (f10_0_14.toInt = f0_.toInt ∨ (gi w0 1 (f0_.toInt).toNat).toInt = 32) by first | omega | assumption | (left; omega) | (left; decide) | (right; assumption)) (show (400 - x28.toInt).toNat < n10 by omega) hw hT hF c24 c27 (lv_sub hl [1, 2, 3, 0] rfl)
      refine lv_aload_n hx hb dX12_isWord_10 rfl (lv_at hl 0 rfl) ?_
      refine lv_aload_n hx hb dX12_isWord_11 rfl (lv_at hl 0 rfl) ?_
      refine tk_geti hC hK hw hT hinX12 kM_at0 (by decide) rfl 14 (by decide) (List.mem_of_getElem? (i := 1) rfl) rfl rfl dX12_isWord_12 (fun x29 c30 rx29 tx29 => ?_)
      refine wk_top f10_0_14 (c30.symm.trans c18) ?_
      refine lv_iload hx hb dX12_isWord_15 (lv_at hl 3 rfl) ?_
      refine lv_iadd hx hb dX12_isWord_17 ?_
      refine lv_topi (fun x31 ex31 => ?_)
      have ex31 : x31.toInt = f10_0_14.toInt + v10_5.toInt := by rw [ex31]; exact wk_add (show (-2147483648) ≤ f10_0_14.toInt + v10_5.toInt by omega) (show f10_0_14.toInt + v10_5.toInt ≤ 2147483647 by omega)
      refine tk_Vi hC hK hw hT hA hE hSR kM_at0 (by decide) rfl (k_X12_isLetter_1 l adK adV dC dI cy ad B (by omega) (by omega) qr s1   x31 (show 0 ≤ x31.toInt by omega) (show x31.toInt ≤ 800 by omega) w10 H.size hT ) (cwV 1 hC.2.2.2.2 gX12_isWord_X12_isLetter rfl rfl rfl (by decide +kernel) ⟨Nat.le_of_ble_eq_true rfl, Nat.le_of_ble_eq_true rfl⟩) rfl hl.1 rfl (Nat.le_of_ble_eq_true rfl) dX12_isWord_18 (fun r32 w34 H locs hp33 hw => ?_)
      obtain ⟨rfl, hg41⟩ := hp33
      rcases hg41 with ⟨rfl, ⟨x36, c37, rx36, tx36⟩⟩ | ⟨rfl, g38, ⟨x39, c40, rx39, tx39⟩⟩
      · have ex36 : x36.toInt = f10_0_1.toInt := by rw [← c15.symm.trans c37]
        refine lv_if_eq (tgt := 56) hx hb dX12_isWord_21 (by decide) (fun _ => ?_) (fun c => absurd (by decide) c)
        refine lv_iload hx hb dX12_isWord_56 (lv_at hl 3 rfl) ?_
        refine lv_if_le (tgt := 78) hx hb dX12_isWord_58 (by decide) (fun c42 => ?_) (fun c42 => ?_)
        · have c42 : v10_5.toInt ≤ (0 : Int) := wk_le.mp c42
          exact J78 v10_3 v10_5 f10_0_1 f10_0_14 H locs ls w10 (show 0 ≤ v10_5.toInt by omega) (show v10_5.toInt ≤ 400 by omega) (show 0 ≤ f10_0_1.toInt by omega) (show f10_0_1.toInt ≤ 400 by omega) (show 0 ≤ f10_0_14.toInt by omega) (show f10_0_14.toInt ≤ 400 by omega) (show (f10_0_14.toInt = f0_.toInt ∨ (gi w0 1 (f0_.toInt).toNat).toInt = 32) by first | omega | assumption | (left; omega) | (left; decide) | (right; assumption))  hw hT hF c15 c18 (lv_sub hl [0, 1, 2, 3] rfl)
        · have c42 : (0 : Int) < v10_5.toInt := wk_leF c42
          refine lv_iload hx hb dX12_isWord_61 (lv_at hl 3 rfl) ?_
          refine lv_bipush (v := 8) hx hb dX12_isWord_63 (by decide) ?_
          refine lv_icmp_ge (tgt := 78) hx hb dX12_isWord_65 (by decide) (fun c43 => ?_) (fun c43 => ?_)
          · have c43 : (8 : Int) ≤ v10_5.toInt := wk_le.mp c43
            exact J78 v10_3 v10_5 f10_0_1 f10_0_14 H locs ls w10 (show 0 ≤ v10_5.toInt by omega) (show v10_5.toInt ≤ 400 by omega) (show 0 ≤ f10_0_1.toInt by omega) (show f10_0_1.toInt ≤ 400 by omega) (show 0 ≤ f10_0_14.toInt by omega) (show f10_0_14.toInt ≤ 400 by omega) (show (f10_0_14.toInt = f0_.toInt ∨ (gi w0 1 (f0_.toInt).toNat).toInt = 32) by first | omega | assumption | (left; omega) | (left; decide) | (right; assumption))  hw hT hF c15 c18 (lv_sub hl [0, 1, 2, 3] rfl)
          · have c43 : v10_5.toInt < (8 : Int) := wk_leF c43
            refine lv_lload_n hx hb dX12_isWord_68 rfl (lv_at hl 2 rfl) ?_
            refine lv_lload_n hx hb dX12_isWord_69 rfl (lv_at hl 1 rfl) ?_
            refine W.lcmp hx hb dX12_isWord_70 ?_
            refine lv_if_ne (tgt := 78) hx hb dX12_isWord_71 (by decide) (fun c44 => ?_) (fun c44 => ?_)
            · have c44 : ¬ v10_3.toInt = (26982 : Int) := wk_ceF c44
              exact J78 v10_3 v10_5 f10_0_1 f10_0_14 H locs ls w10 (show 0 ≤ v10_5.toInt by omega) (show v10_5.toInt ≤ 400 by omega) (show 0 ≤ f10_0_1.toInt by omega) (show f10_0_1.toInt ≤ 400 by omega) (show 0 ≤ f10_0_14.toInt by omega) (show f10_0_14.toInt ≤ 400 by omega) (show (f10_0_14.toInt = f0_.toInt ∨ (gi w0 1 (f0_.toInt).toNat).toInt = 32) by first | omega | assumption | (left; omega) | (left; decide) | (right; assumption))  hw hT hF c15 c18 (lv_sub hl [0, 1, 2, 3] rfl)
            · have c44 : v10_3.toInt = (26982 : Int) := wk_ceT c44
              refine lv_iconst (v := 1) hx hb dX12_isWord_74 (by decide) ?_
              refine lv_goto (tgt := 79) hx hb dX12_isWord_75 (by decide) ?_
              exact tk_zret hC hr rfl hlocks hK ⟨hT, hF, (Or.inr ⟨rfl, ⟨f10_0_1, c15, (show 0 ≤ f10_0_1.toInt by omega), (show f10_0_1.toInt ≤ 400 by omega)⟩, (by simp only [cf0_, c18]; omega)⟩)⟩ hw dX12_isWord_79
      · have ex39 : x39.toInt = f10_0_1.toInt := by rw [← c15.symm.trans c40]
        refine lv_if_eq (tgt := 56) hx hb dX12_isWord_21 (by decide) (fun c => absurd c (by decide)) (fun _ => ?_)
        refine lv_iload hx hb dX12_isWord_24 (lv_at hl 3 rfl) ?_
        refine lv_bipush (v := 8) hx hb dX12_isWord_26 (by decide) ?_
        refine lv_icmp_ge (tgt := 50) hx hb dX12_isWord_28 (by decide) (fun c45 => ?_) (fun c45 => ?_)
        · have c45 : (8 : Int) ≤ v10_5.toInt := wk_le.mp c45
          exact J50 v10_3 H locs ls w10 (show 0 ≤ v10_5.toInt by omega) (show v10_5.toInt ≤ 399 by omega) (show 1 ≤ f10_0_1.toInt by omega) (show f10_0_1.toInt ≤ 400 by omega) (show 0 ≤ f10_0_14.toInt by omega) (show f10_0_14.toInt ≤ 399 by omega) (show (f10_0_14.toInt = f0_.toInt ∨ (gi w0 1 (f0_.toInt).toNat).toInt = 32) by first | omega | assumption | (left; omega) | (left; decide) | (right; assumption))  hw hT hF c15 c18 (lv_sub hl [0, 1, 2, 3] rfl)
        · have c45 : v10_5.toInt < (8 : Int) := wk_leF c45
          refine lv_lload_n hx hb dX12_isWord_31 rfl (lv_at hl 2 rfl) ?_
          refine lv_bipush (v := 8) hx hb dX12_isWord_32 (by decide) ?_
          refine lv_lshl hx hb dX12_isWord_34 rfl ?_
          refine lv_topl (fun x46 ex46 => ?_)
          refine lv_aload_n hx hb dX12_isWord_35 rfl (lv_at hl 0 rfl) ?_
          refine tk_getA hC hK hw hT hinX12 kM_at0 (by decide) rfl 0 (by decide) (List.mem_of_getElem? (i := 2) rfl) rfl rfl dX12_isWord_36 ?_
          refine lv_aload_n hx hb dX12_isWord_39 rfl (lv_at hl 0 rfl) ?_
          refine tk_geti hC hK hw hT hinX12 kM_at0 (by decide) rfl 14 (by decide) (List.mem_of_getElem? (i := 1) rfl) rfl rfl dX12_isWord_40 (fun x47 c48 rx47 tx47 => ?_)
          refine wk_top f10_0_14 (c48.symm.trans c18) ?_
          refine lv_iload hx hb dX12_isWord_43 (lv_at hl 3 rfl) ?_
          refine lv_iadd hx hb dX12_isWord_45 ?_
          refine lv_topi (fun x49 ex49 => ?_)
          have ex49 : x49.toInt = f10_0_14.toInt + v10_5.toInt := by rw [ex49]; exact wk_add (show (-2147483648) ≤ f10_0_14.toInt + v10_5.toInt by omega) (show f10_0_14.toInt + v10_5.toInt ≤ 2147483647 by omega)
          refine tk_bald hC hK hw hT kM_at1 rfl rfl (show 0 ≤ x49.toInt by omega) (show x49.toInt < 400 by omega) dX12_isWord_46 (fun x50 c51 rx50 tx50 => ?_)
          have c51 : gi w10 1 (1 * f10_0_14.toInt + 1 * v10_5.toInt + 0).toNat = x50 := (congrArg (gi w10 1) (congrArg Int.toNat (show 1 * f10_0_14.toInt + 1 * v10_5.toInt + 0 = x49.toInt by omega))).trans c51
          refine lv_i2l hx hb dX12_isWord_47 rfl ?_
          refine lv_topl (fun x52 ex52 => ?_)
          have ex52 : x52.toInt = x50.toInt := by rw [ex52]; exact wk_i2l _
          have bx52 := wk_i32 x50
          refine lv_lor hx hb dX12_isWord_48 ?_
          refine lv_topl (fun x53 ex53 => ?_)
          refine lv_lstore_n (lv' := [(3, .long x53), (0, .ref (ad 0)), (1, .long 26982), (5, .int v10_5)]) hx hb dX12_isWord_49 rfl hl (by decide) rfl (fun ls hl => ?_)
          exact J50 x53 H locs ls w10 (show 0 ≤ v10_5.toInt by omega) (show v10_5.toInt ≤ 399 by omega) (show 1 ≤ f10_0_1.toInt by omega) (show f10_0_1.toInt ≤ 400 by omega) (show 0 ≤ f10_0_14.toInt by omega) (show f10_0_14.toInt ≤ 399 by omega) (show (f10_0_14.toInt = f0_.toInt ∨ (gi w0 1 (f0_.toInt).toNat).toInt = 32) by first | omega | assumption | (left; omega) | (left; decide) | (right; assumption) | (right; rw [c51]; omega) | (right; rw [c51]; decide))  hw hT hF c15 c18 (lv_sub hl [1, 2, 0, 3] rfl)
  refine lv_aload_n hx hb dX12_isWord_0 rfl (lv_at hl 0 rfl) ?_
  refine tk_Vi hC hK hw hT hA hE hSR kM_at0 (by decide) rfl (k_X12_see_1 l adK adV dC dI cy ad B (by omega) (by omega) qr s1    w0 s.heap.size hT f0_ cf0_ (show 0 ≤ f0_.toInt by omega) (show f0_.toInt ≤ 400 by omega)) (cwV 0 hC.2.2.2.2 gX12_isWord_X12_see rfl rfl rfl (by decide +kernel) ⟨Nat.le_of_ble_eq_true rfl, Nat.le_of_ble_eq_true rfl⟩) rfl hl.1 rfl (Nat.le_of_ble_eq_true rfl) dX12_isWord_1 (fun r54 w56 H locs hp55 hw => ?_)
  obtain ⟨hT, k57, hg74⟩ := hp55
  have hF := hF.tr k57 (by decide)
  rcases hg74 with ⟨g58, g59, ⟨x60, c61, rx60, tx60⟩, ⟨x62, c63, rx62, tx62⟩, g64, g65⟩ | ⟨rfl, ⟨x66, c67, rx66, tx66⟩, ⟨x68, c69, rx68, tx68⟩, g70⟩ | ⟨rfl, ⟨x71, c72, rx71, tx71⟩, g73⟩
  · have g64 : (gi w56 1 (x62.toInt).toNat).toInt ≠ 32 := by have q := g64; simp only [c63] at q; omega
    have g65 : (x62.toInt = f0_.toInt ∨ (gi w0 1 (f0_.toInt).toNat).toInt = 32) := by have q := g65; simp only [cf0_, c63] at q; omega
    refine lv_pop hx hb dX12_isWord_4 rfl ?_
    refine lv_lconst (v := 0) hx hb dX12_isWord_5 (by decide) ?_
    refine lv_lstore_n (lv' := [(3, .long 0), (0, .ref (ad 0)), (1, .long 26982)]) hx hb dX12_isWord_6 rfl hl (by decide) rfl (fun ls hl => ?_)
    refine lv_iconst (v := 0) hx hb dX12_isWord_7 (by decide) ?_
    refine lv_istore (lv' := [(5, .int 0), (3, .long 0), (0, .ref (ad 0)), (1, .long 26982)]) hx hb dX12_isWord_8 hl (by decide) rfl (fun ls hl => ?_)
    exact L10 ((400 - (0 : Int)).toNat + 1) 0 0 x60 x62 H locs ls w56 (by decide) (by decide) (show 0 ≤ x60.toInt by omega) (show x60.toInt ≤ 400 by omega) (show 0 ≤ x62.toInt by omega) (show x62.toInt ≤ 400 by omega) (show (x62.toInt = f0_.toInt ∨ (gi w0 1 (f0_.toInt).toNat).toInt = 32) by first | omega | assumption | (left; omega) | (left; decide) | (right; assumption)) (Nat.lt_succ_self _) hw hT hF c61 c63 (lv_sub hl [2, 3, 1, 0] rfl)
  · have g70 : (x68.toInt = f0_.toInt ∨ (gi w0 1 (f0_.toInt).toNat).toInt = 32) := by have q := g70; simp only [cf0_, c69] at q; omega
    refine lv_pop hx hb dX12_isWord_4 rfl ?_
    refine lv_lconst (v := 0) hx hb dX12_isWord_5 (by decide) ?_
    refine lv_lstore_n (lv' := [(3, .long 0), (0, .ref (ad 0)), (1, .long 26982)]) hx hb dX12_isWord_6 rfl hl (by decide) rfl (fun ls hl => ?_)
    refine lv_iconst (v := 0) hx hb dX12_isWord_7 (by decide) ?_
    refine lv_istore (lv' := [(5, .int 0), (3, .long 0), (0, .ref (ad 0)), (1, .long 26982)]) hx hb dX12_isWord_8 hl (by decide) rfl (fun ls hl => ?_)
    exact L10 ((400 - (0 : Int)).toNat + 1) 0 0 x66 x68 H locs ls w56 (by decide) (by decide) (show 0 ≤ x66.toInt by omega) (show x66.toInt ≤ 400 by omega) (show 0 ≤ x68.toInt by omega) (show x68.toInt ≤ 400 by omega) (show (x68.toInt = f0_.toInt ∨ (gi w0 1 (f0_.toInt).toNat).toInt = 32) by first | omega | assumption | (left; omega) | (left; decide) | (right; assumption)) (Nat.lt_succ_self _) hw hT hF c67 c69 (lv_sub hl [2, 3, 1, 0] rfl)
  · obtain ⟨x75, c76, rx75, tx75⟩ := hT.rdi (lo := 0) (hi := 400) (k := 14) kM_at0 (by decide) rfl
    have g73 : (x75.toInt = f0_.toInt ∨ (gi w0 1 (f0_.toInt).toNat).toInt = 32) := by have q := g73; simp only [cf0_, c76] at q; omega
    refine lv_pop hx hb dX12_isWord_4 rfl ?_
    refine lv_lconst (v := 0) hx hb dX12_isWord_5 (by decide) ?_
    refine lv_lstore_n (lv' := [(3, .long 0), (0, .ref (ad 0)), (1, .long 26982)]) hx hb dX12_isWord_6 rfl hl (by decide) rfl (fun ls hl => ?_)
    refine lv_iconst (v := 0) hx hb dX12_isWord_7 (by decide) ?_
    refine lv_istore (lv' := [(5, .int 0), (3, .long 0), (0, .ref (ad 0)), (1, .long 26982)]) hx hb dX12_isWord_8 hl (by decide) rfl (fun ls hl => ?_)
    exact L10 ((400 - (0 : Int)).toNat + 1) 0 0 x71 x75 H locs ls w56 (by decide) (by decide) (show 0 ≤ x71.toInt by omega) (show x71.toInt ≤ 400 by omega) (show 0 ≤ x75.toInt by omega) (show x75.toInt ≤ 400 by omega) (show (x75.toInt = f0_.toInt ∨ (gi w0 1 (f0_.toInt).toNat).toInt = 32) by first | omega | assumption | (left; omega) | (left; decide) | (right; assumption)) (Nat.lt_succ_self _) hw hT hF c72 c76 (lv_sub hl [2, 3, 1, 0] rfl)
abbrev P_X12_takesWord_1 (ad : Nat → Nat) (cy : Nat → ClassId) (B : Int) (qr : Nat) (s1 : Int)  (w0 : va_W) : Int32 → va_W → Prop := fun r u => TW ksM ad cy B qr 12 u ∧ FE ksM [(12, 14, 14)] w0 u ∧ ((r = 0 ∧ (∃ y : Int32, gi u 0 1 = y ∧ 0 ≤ y.toInt ∧ y.toInt ≤ 400)) ∨ (r = 1 ∧ (∃ y : Int32, gi u 0 1 = y ∧ 1 ≤ y.toInt ∧ y.toInt ≤ 400) ∧ (∃ y : Int32, gi u 0 14 = y ∧ 1 ≤ y.toInt ∧ y.toInt ≤ 400)) ∨ (r = 1 ∧ (∃ y : Int32, gi u 0 1 = y ∧ 0 ≤ y.toInt ∧ y.toInt ≤ 400)))
set_option maxHeartbeats 4000000 in
set_option maxRecDepth 100000 in
theorem k_X12_takesWord_1 (l : Launch) (adK adV : Nat → Nat) (dC : Nat → ClassId) (dI : Nat → Nat → Nat) (cy : Nat → ClassId) (ad : Nat → Nat) (B : Int) (hB0 : 100000 ≤ B) (hB1 : B ≤ 1073741824) (qr : Nat) (s1 : Int)   (w0 : va_W) (sz : Nat) (hT : TW ksM ad cy B qr 12 w0)  : Met l yX12_takesWord wsX12_takesWord ({ frames := 3, cells := 0, slots := 0, locals := 58 }) (va_Pc [.ref (ad 0), .long 26982] (wpreS adK adV dC dI cy sz w0)) (va_Qi (P_X12_takesWord_1 ad cy B qr s1  w0) (fun u : va_W => wpost dC dI cy (va_A w0 sz) u) (va_A w0 sz)) 0 0 (va_A w0 sz) := by
  refine Met.ofW (cc := cX12_takesWord) (maxL := 3) (ret := (some .boolean)) (by decide) rfl ?_
  intro p e s m args below meth c s₁ Bk hml hv
  obtain ⟨rfl, ⟨hsz, hP, hK, hD0⟩, hE, hSR⟩ := hv
  have hx := Bk.exec
  have hb := Bk.bytes
  have hr := Bk.returns
  have hlocks := Bk.notSynchronized
  have hC : CallFix p m c cX12_takesWord 3 s _ wsX12_takesWord RX12 := ⟨hx, hb, hml, findClass_of_methodNamed Bk.named, atoms_spec (ws := wsX12_takesWord) Bk.pre⟩
  subst hsz
  have hD := hD0.self (sz := s.heap.size)
  generalize hAe : va_A w0 s.heap.size = A at hD hE ⊢
  have hA : ∀ q : Nat, s.heap.size ≤ q → A q := fun q h => by rw [← hAe]; exact Or.inr h
  have hw : Wd dC dI A s.heap s.heap [] w0 := ⟨hP, hD, va_S.rf⟩
  have hF : FE ksM [(12, 14, 14)] w0 w0 := FE.rf
  have hl := lv_entry ([.ref (ad 0), .long 26982]) (n := 3) (Nat.le_of_ble_eq_true rfl)
  rw [lg_entry_eq]
  generalize (lg_sl ([.ref (ad 0), .long 26982]) ++ List.replicate (3 - (lg_sl ([.ref (ad 0), .long 26982])).length) Slot.unset).toArray = ls at hl ⊢
  have hl : lv_has ls 3 [(0, .ref (ad 0)), (1, .long 26982)] := hl
  generalize hloc : ([] : List Loc) = locs at hw ⊢
  refine lv_aload_n hx hb dX12_takesWord_0 rfl (lv_at hl 0 rfl) ?_
  refine lv_lload_n hx hb dX12_takesWord_1 rfl (lv_at hl 1 rfl) ?_
  obtain ⟨x1, c2, rx1, tx1⟩ := hT.rdi (lo := 0) (hi := 400) (k := 14) kM_at0 (by decide) rfl
  refine tk_Vi hC hK hw hT hA hE hSR kM_at0 (by decide) rfl (k_X12_isWord_9 l adK adV dC dI cy ad B (by omega) (by omega) qr s1    w0 s.heap.size hT x1 c2 (show 0 ≤ x1.toInt by omega) (show x1.toInt ≤ 400 by omega)) (cwV 1 hC.2.2.2.2 gX12_takesWord_X12_isWord rfl rfl rfl (by decide +kernel) ⟨Nat.le_of_ble_eq_true rfl, Nat.le_of_ble_eq_true rfl⟩) rfl hl.1 rfl (Nat.le_of_ble_eq_true rfl) dX12_takesWord_2 (fun r3 w5 H locs hp4 hw => ?_)
  obtain ⟨hT, k6, hg13⟩ := hp4
  have hF := hF.tr k6 (by decide)
  rcases hg13 with ⟨rfl, ⟨x7, c8, rx7, tx7⟩, g9⟩ | ⟨rfl, ⟨x10, c11, rx10, tx10⟩, g12⟩
  · obtain ⟨x14, c15, rx14, tx14⟩ := hT.rdi (lo := 0) (hi := 400) (k := 14) kM_at0 (by decide) rfl
    have g9 : (x14.toInt = x1.toInt ∨ (gi w0 1 (x1.toInt).toNat).toInt = 32) := by have q := g9; simp only [c2, c15] at q; omega
    refine lv_if_ne (tgt := 10) hx hb dX12_takesWord_5 (by decide) (fun c => absurd (by decide) c) (fun _ => ?_)
    refine lv_iconst (v := 0) hx hb dX12_takesWord_8 (by decide) ?_
    exact tk_zret hC hr rfl hlocks hK ⟨hT, hF, (Or.inl ⟨rfl, ⟨x7, c8, (show 0 ≤ x7.toInt by omega), (show x7.toInt ≤ 400 by omega)⟩⟩)⟩ hw dX12_takesWord_9
  · obtain ⟨x16, c17, rx16, tx16⟩ := hT.rdi (lo := 0) (hi := 400) (k := 14) kM_at0 (by decide) rfl
    have g12 : (x16.toInt = x1.toInt ∨ (gi w0 1 (x1.toInt).toNat).toInt = 32) := by have q := g12; simp only [c2, c17] at q; omega
    refine lv_if_ne (tgt := 10) hx hb dX12_takesWord_5 (by decide) (fun _ => ?_) (fun c => absurd c (by decide))
    refine lv_aload_n hx hb dX12_takesWord_10 rfl (lv_at hl 0 rfl) ?_
    refine tk_Vv hC hK hw hT hA hE hSR kM_at0 (by decide) rfl (k_X12_passWord_1 l adK adV dC dI cy ad B (by omega) (by omega) qr s1    w5 H.size hT ) (cwV 0 hC.2.2.2.2 gX12_takesWord_X12_passWord rfl rfl rfl (by decide +kernel) ⟨Nat.le_of_ble_eq_true rfl, Nat.le_of_ble_eq_true rfl⟩) rfl hl.1 rfl (Nat.le_of_ble_eq_true rfl) dX12_takesWord_11 (fun w20 H locs hp19 hw => ?_)
    obtain ⟨hT, k21, hg28⟩ := hp19
    have hF := hF.tr k21 (by decide)
    have c29 := k21.gi kM_at0 (by decide) c11
    rcases hg28 with ⟨⟨x22, c23, rx22, tx22⟩, ⟨x24, c25, rx24, tx24⟩⟩ | ⟨x26, c27, rx26, tx26⟩
    · have ex22 : x22.toInt = x10.toInt := by rw [← c29.symm.trans c23]
      refine lv_iconst (v := 1) hx hb dX12_takesWord_14 (by decide) ?_
      exact tk_zret hC hr rfl hlocks hK ⟨hT, hF, (Or.inr (Or.inl ⟨rfl, ⟨x10, c29, (show 1 ≤ x10.toInt by omega), (show x10.toInt ≤ 400 by omega)⟩, ⟨x24, c25, (show 1 ≤ x24.toInt by omega), (show x24.toInt ≤ 400 by omega)⟩⟩))⟩ hw dX12_takesWord_15
    · have ex26 : x26.toInt = x10.toInt := by rw [← c29.symm.trans c27]
      refine lv_iconst (v := 1) hx hb dX12_takesWord_14 (by decide) ?_
      exact tk_zret hC hr rfl hlocks hK ⟨hT, hF, (Or.inr (Or.inr ⟨rfl, ⟨x10, c29, (show 0 ≤ x10.toInt by omega), (show x10.toInt ≤ 400 by omega)⟩⟩))⟩ hw dX12_takesWord_15
abbrev P_X12_isInside_1 (ad : Nat → Nat) (cy : Nat → ClassId) (B : Int) (qr : Nat) (s1 : Int)  (w0 : va_W) : Int32 → va_W → Prop := fun r u => w0 = u ∧ ((r = 0) ∨ (r = 1 ∧ (∃ y : Int32, gi u 0 22 = y ∧ 1 ≤ y.toInt ∧ y.toInt ≤ 400) ∧ (1 ≤ brkN w0 ((gi w0 0 22).toInt).toNat)))
set_option maxHeartbeats 4000000 in
set_option maxRecDepth 100000 in
theorem k_X12_isInside_1 (l : Launch) (adK adV : Nat → Nat) (dC : Nat → ClassId) (dI : Nat → Nat → Nat) (cy : Nat → ClassId) (ad : Nat → Nat) (B : Int) (hB0 : 100000 ≤ B) (hB1 : B ≤ 1073741824) (qr : Nat) (s1 : Int)   (w0 : va_W) (sz : Nat) (hT : TW ksM ad cy B qr 12 w0)  : Met l yX12_isInside wsX12_isInside ({ frames := 1, cells := 0, slots := 0, locals := 12 }) (va_Pc [.ref (ad 0)] (wpreS adK adV dC dI cy sz w0)) (va_Qi (P_X12_isInside_1 ad cy B qr s1  w0) (fun u : va_W => wpost dC dI cy (va_A w0 sz) u) (va_A w0 sz)) 0 0 (va_A w0 sz) := by
  refine Met.ofW (cc := cX12_isInside) (maxL := 2) (ret := (some .boolean)) (by decide) rfl ?_
  intro p e s m args below meth c s₁ Bk hml hv
  obtain ⟨rfl, ⟨hsz, hP, hK, hD0⟩, hE, hSR⟩ := hv
  have hx := Bk.exec
  have hb := Bk.bytes
  have hr := Bk.returns
  have hlocks := Bk.notSynchronized
  have hC : CallFix p m c cX12_isInside 2 s _ wsX12_isInside RX12 := ⟨hx, hb, hml, findClass_of_methodNamed Bk.named, atoms_spec (ws := wsX12_isInside) Bk.pre⟩
  subst hsz
  have hD := hD0.self (sz := s.heap.size)
  generalize hAe : va_A w0 s.heap.size = A at hD hE ⊢
  have hA : ∀ q : Nat, s.heap.size ≤ q → A q := fun q h => by rw [← hAe]; exact Or.inr h
  have hw : Wd dC dI A s.heap s.heap [] w0 := ⟨hP, hD, va_S.rf⟩
  have hF : FE ksM ([] : List (Nat × Nat × Nat)) w0 w0 := FE.rf
  have hl := lv_entry ([.ref (ad 0)]) (n := 2) (Nat.le_of_ble_eq_true rfl)
  rw [lg_entry_eq]
  generalize (lg_sl ([.ref (ad 0)]) ++ List.replicate (2 - (lg_sl ([.ref (ad 0)])).length) Slot.unset).toArray = ls at hl ⊢
  have hl : lv_has ls 2 [(0, .ref (ad 0))] := hl
  generalize hloc : ([] : List Loc) = locs at hw ⊢
  have hinX12 : ∀ w ∈ u_ws RX12 TX12 42, w ∈ wsX12_isInside := fun _ h => List.mem_cons_of_mem _ (List.mem_append_right _ (h))
  have L2 : ∀ (n2 : Nat) (v2_1 : Int32) (H : Heap) (locs : List Loc) (ls : Array Slot), 0 ≤ v2_1.toInt → v2_1.toInt ≤ 400 → (400 - v2_1.toInt).toNat < n2 → Wd dC dI A s.heap H locs w0 → lv_has ls 2 [(0, .ref (ad 0)), (1, .int v2_1)] → W p l e ({ frames := 1, cells := 0, slots := 0, locals := 12 }) s m (List.toArray [.ref (ad 0)]) below meth c H locs 0 0 (MQ below (va_Qi (P_X12_isInside_1 ad cy B qr s1  w0) (fun u : va_W => wpost dC dI cy A u) A) (List.toArray [.ref (ad 0)]) s 0 0 A) (F0 m 2 ls []) := by
    intro n2
    induction n2 with
    | zero => intro v2_1 H locs ls r1 t2 hm2 hw hl; omega
    | succ n2 ih2 =>
      intro v2_1 H locs ls r1 t2 hm2 hw hl
      refine lv_iload_n hx hb dX12_isInside_2 rfl (lv_at hl 1 rfl) ?_
      refine lv_aload_n hx hb dX12_isInside_3 rfl (lv_at hl 0 rfl) ?_
      refine tk_geti hC hK hw hT hinX12 kM_at0 (by decide) rfl 22 (by decide) (List.mem_of_getElem? (i := 1) rfl) rfl rfl dX12_isInside_4 (fun x3 c4 rx3 tx3 => ?_)
      refine lv_icmp_ge (tgt := 29) hx hb dX12_isInside_7 (by decide) (fun c5 => ?_) (fun c5 => ?_)
      · have c5 : x3.toInt ≤ v2_1.toInt := wk_le.mp c5
        refine lv_iconst (v := 0) hx hb dX12_isInside_29 (by decide) ?_
        exact tk_zret hC hr rfl hlocks hK ⟨rfl, (Or.inl rfl)⟩ hw dX12_isInside_30
      · have c5 : v2_1.toInt < x3.toInt := wk_leF c5
        refine lv_aload_n hx hb dX12_isInside_10 rfl (lv_at hl 0 rfl) ?_
        refine tk_getA hC hK hw hT hinX12 kM_at0 (by decide) rfl 21 (by decide) (List.mem_of_getElem? (i := 2) rfl) rfl rfl dX12_isInside_11 ?_
        refine lv_iload_n hx hb dX12_isInside_14 rfl (lv_at hl 1 rfl) ?_
        refine tk_iald hC hK hw hT kM_at9 rfl rfl (show 0 ≤ v2_1.toInt by omega) (show v2_1.toInt < 400 by omega) dX12_isInside_15 (fun x6 c7 rx6 tx6 => ?_)
        have c7 : gi w0 9 (v2_1.toInt).toNat = x6 := (congrArg (gi w0 9) (congrArg Int.toNat (show v2_1.toInt = v2_1.toInt by omega))).trans c7
        refine lv_bipush (v := 91) hx hb dX12_isInside_16 (by decide) ?_
        refine lv_icmp_ne (tgt := 23) hx hb dX12_isInside_18 (by decide) (fun c8 => ?_) (fun c8 => ?_)
        · have c8 : ¬ x6.toInt = (91 : Int) := wk_eqF c8
          obtain ⟨x9, ex9⟩ : ∃ y : Int32, y = v2_1 + Int32.ofInt 1 := ⟨_, rfl⟩
          refine lv_iinc (v := x9) (lv' := [(1, .int x9), (0, .ref (ad 0))]) hx hb dX12_isInside_23 hl (k := 1) rfl ex9.symm (by decide) rfl (fun ls hl => ?_)
          have ex9 : x9.toInt = v2_1.toInt + 1 := by rw [ex9]; exact wk_add (y := 1) (show -2147483648 ≤ v2_1.toInt + 1 by omega) (show v2_1.toInt + 1 ≤ 2147483647 by omega)
          refine lv_goto (tgt := 2) hx hb dX12_isInside_26 (by decide) ?_
          exact ih2 x9 H locs ls  (show 0 ≤ x9.toInt by omega) (show x9.toInt ≤ 400 by omega) (show (400 - x9.toInt).toNat < n2 by omega) hw   (lv_sub hl [1, 0] rfl)
        · have c8 : x6.toInt = (91 : Int) := wk_eq.mp c8
          refine lv_iconst (v := 1) hx hb dX12_isInside_21 (by decide) ?_
          exact tk_zret hC hr rfl hlocks hK ⟨rfl, (Or.inr ⟨rfl, ⟨x3, c4, (show 1 ≤ x3.toInt by omega), (show x3.toInt ≤ 400 by omega)⟩, (by rw [c4]; exact brk_pos (j := (v2_1.toInt).toNat) (by rw [c7]; omega) _ (by omega))⟩)⟩ hw dX12_isInside_22
  refine lv_iconst (v := 0) hx hb dX12_isInside_0 (by decide) ?_
  refine lv_istore_n (lv' := [(1, .int 0), (0, .ref (ad 0))]) hx hb dX12_isInside_1 rfl hl (by decide) rfl (fun ls hl => ?_)
  exact L2 ((400 - (0 : Int)).toNat + 1) 0 s.heap locs ls  (by decide) (by decide) (Nat.lt_succ_self _) hw   (lv_sub hl [1, 0] rfl)
abbrev P_X12_puts_1 (ad : Nat → Nat) (cy : Nat → ClassId) (B : Int) (qr : Nat) (s1 : Int) (a1 : Int32) (a2 : Int32) (w0 : va_W) : va_W → Prop := fun u => TW ksM ad cy B qr 12 u ∧ FE ksM [(61, 0, 2400), (62, 0, 7)] w0 u ∧ (((∃ y : Int32, gi u 0 17 = y ∧ 0 ≤ y.toInt ∧ y.toInt ≤ 0) ∧ ((gi u 3 0).toInt = (gi w0 3 0).toInt + 1)))
set_option maxHeartbeats 4000000 in
set_option maxRecDepth 100000 in
theorem k_X12_puts_1 (l : Launch) (adK adV : Nat → Nat) (dC : Nat → ClassId) (dI : Nat → Nat → Nat) (cy : Nat → ClassId) (ad : Nat → Nat) (B : Int) (hB0 : 100000 ≤ B) (hB1 : B ≤ 1073741824) (qr : Nat) (s1 : Int)  (a1 : Int32) (ra1 : 0 ≤ a1.toInt) (ta1 : a1.toInt ≤ 400) (a2 : Int32) (w0 : va_W) (sz : Nat) (hT : TW ksM ad cy B qr 12 w0) (cf0_ : gi w0 0 17 = 0) (f1_ : Int32) (cf1_ : gi w0 3 0 = f1_) (rf1_ : 0 ≤ f1_.toInt) (tf1_ : f1_.toInt ≤ 400) (pr0_ : f1_.toInt ≤ 399) : Met l yX12_puts wsX12_puts ({ frames := 1, cells := 0, slots := 0, locals := 12 }) (va_Pc [.ref (ad 0), .int a1, .int a2] (wpreS adK adV dC dI cy sz w0)) (va_Qv (P_X12_puts_1 ad cy B qr s1 a1 a2 w0) (fun u : va_W => wpost dC dI cy (va_A w0 sz) u) (va_A w0 sz)) 0 0 (va_A w0 sz) := by
  refine Met.ofW (cc := cX12_puts) (maxL := 3) (ret := none) (by decide) rfl ?_
  intro p e s m args below meth c s₁ Bk hml hv
  obtain ⟨rfl, ⟨hsz, hP, hK, hD0⟩, hE, hSR⟩ := hv
  have hx := Bk.exec
  have hb := Bk.bytes
  have hr := Bk.returns
  have hlocks := Bk.notSynchronized
  have hC : CallFix p m c cX12_puts 3 s _ wsX12_puts RX12 := ⟨hx, hb, hml, findClass_of_methodNamed Bk.named, atoms_spec (ws := wsX12_puts) Bk.pre⟩
  subst hsz
  have hD := hD0.self (sz := s.heap.size)
  generalize hAe : va_A w0 s.heap.size = A at hD hE ⊢
  have hA : ∀ q : Nat, s.heap.size ≤ q → A q := fun q h => by rw [← hAe]; exact Or.inr h
  have hw : Wd dC dI A s.heap s.heap [] w0 := ⟨hP, hD, va_S.rf⟩
  have hF : FE ksM [(61, 0, 2400), (62, 0, 7)] w0 w0 := FE.rf
  have hl := lv_entry ([.ref (ad 0), .int a1, .int a2]) (n := 3) (Nat.le_of_ble_eq_true rfl)
  rw [lg_entry_eq]
  generalize (lg_sl ([.ref (ad 0), .int a1, .int a2]) ++ List.replicate (3 - (lg_sl ([.ref (ad 0), .int a1, .int a2])).length) Slot.unset).toArray = ls at hl ⊢
  have hl : lv_has ls 3 [(0, .ref (ad 0)), (1, .int a1), (2, .int a2)] := hl
  generalize hloc : ([] : List Loc) = locs at hw ⊢
  have hinX12 : ∀ w ∈ u_ws RX12 TX12 42, w ∈ wsX12_puts := fun _ h => List.mem_cons_of_mem _ (List.mem_append_right _ (h))
  refine lv_aload_n hx hb dX12_puts_0 rfl (lv_at hl 0 rfl) ?_
  refine tk_getA hC hK hw hT hinX12 kM_at0 (by decide) rfl 3 (by decide) (List.mem_of_getElem? (i := 1) rfl) rfl rfl dX12_puts_1 ?_
  refine lv_sipush (v := 400) hx hb dX12_puts_4 (by decide) ?_
  refine lv_aload_n hx hb dX12_puts_7 rfl (lv_at hl 0 rfl) ?_
  refine tk_geti hC hK hw hT hinX12 kM_at0 (by decide) rfl 17 (by decide) (List.mem_of_getElem? (i := 2) rfl) rfl rfl dX12_puts_8 (fun x1 c2 rx1 tx1 => ?_)
  refine wk_top 0 (c2.symm.trans cf0_) ?_
  refine lv_imul hx hb dX12_puts_11 ?_
  refine wk_top 0 (by decide) ?_
  refine lv_aload_n hx hb dX12_puts_12 rfl (lv_at hl 0 rfl) ?_
  refine tk_getA hC hK hw hT hinX12 kM_at0 (by decide) rfl 4 (by decide) (List.mem_of_getElem? (i := 3) rfl) rfl rfl dX12_puts_13 ?_
  refine lv_aload_n hx hb dX12_puts_16 rfl (lv_at hl 0 rfl) ?_
  refine tk_geti hC hK hw hT hinX12 kM_at0 (by decide) rfl 17 (by decide) (List.mem_of_getElem? (i := 2) rfl) rfl rfl dX12_puts_17 (fun x3 c4 rx3 tx3 => ?_)
  refine wk_top 0 (c4.symm.trans cf0_) ?_
  refine tk_iald hC hK hw hT kM_at3 rfl rfl (by decide) (by decide) dX12_puts_20 (fun x5 c6 rx5 tx5 => ?_)
  refine wk_top f1_ (c6.symm.trans cf1_) ?_
  refine lv_iadd hx hb dX12_puts_21 ?_
  refine lv_topi (fun x7 ex7 => ?_)
  have ex7 : x7.toInt = (0 : Int) + f1_.toInt := by rw [ex7]; exact wk_add (show (-2147483648) ≤ (0 : Int) + f1_.toInt by omega) (show (0 : Int) + f1_.toInt ≤ 2147483647 by omega)
  refine lv_iload_n hx hb dX12_puts_22 rfl (lv_at hl 1 rfl) ?_
  refine lv_bipush (v := 16) hx hb dX12_puts_23 (by decide) ?_
  refine lv_iload_n hx hb dX12_puts_25 rfl (lv_at hl 2 rfl) ?_
  refine lv_imul hx hb dX12_puts_26 ?_
  have nx8 := wk_i32 a2
  refine lv_topi (fun x9 ex9 => ?_)
  refine lv_iadd hx hb dX12_puts_27 ?_
  have nx10 := wk_i32 x9
  refine lv_topi (fun x11 ex11 => ?_)
  refine tk_iast hC hK hw hT kM_at2 (by decide) rfl rfl (show 0 ≤ x7.toInt by omega) (show x7.toInt < 2400 by omega) (wk_i32 x11).1 (wk_i32 x11).2 dX12_puts_28 (fun H locs w12 hw hT k14 c13 => ?_)
  have hF := hF.put kM_at2 (inE_of (a := 0) (b := 2400) (by decide) (show 0 ≤ x7.toInt.toNat by omega) (show x7.toInt.toNat ≤ 2400 by omega)) k14
  have c15 := k14.gi (Or.inl (tk_ne kM_at0 kM_at2 (by decide))) cf0_
  have c16 := k14.gi (Or.inl (tk_ne kM_at3 kM_at2 (by decide))) cf1_
  refine lv_aload_n hx hb dX12_puts_29 rfl (lv_at hl 0 rfl) ?_
  refine tk_getA hC hK hw hT hinX12 kM_at0 (by decide) rfl 4 (by decide) (List.mem_of_getElem? (i := 3) rfl) rfl rfl dX12_puts_30 ?_
  refine lv_aload_n hx hb dX12_puts_33 rfl (lv_at hl 0 rfl) ?_
  refine tk_geti hC hK hw hT hinX12 kM_at0 (by decide) rfl 17 (by decide) (List.mem_of_getElem? (i := 2) rfl) rfl rfl dX12_puts_34 (fun x17 c18 rx17 tx17 => ?_)
  refine wk_top 0 (c18.symm.trans c15) ?_
  refine lv_dup2_11 hx hb dX12_puts_37 rfl rfl ?_
  refine tk_iald hC hK hw hT kM_at3 rfl rfl (by decide) (by decide) dX12_puts_38 (fun x19 c20 rx19 tx19 => ?_)
  refine wk_top f1_ (c20.symm.trans c16) ?_
  refine lv_iconst (v := 1) hx hb dX12_puts_39 (by decide) ?_
  refine lv_iadd hx hb dX12_puts_40 ?_
  refine lv_topi (fun x21 ex21 => ?_)
  have ex21 : x21.toInt = f1_.toInt + (1 : Int) := by rw [ex21]; exact wk_add (show (-2147483648) ≤ f1_.toInt + (1 : Int) by omega) (show f1_.toInt + (1 : Int) ≤ 2147483647 by omega)
  refine tk_iast hC hK hw hT kM_at3 (by decide) rfl rfl (by decide) (by decide) (show 0 ≤ x21.toInt by omega) (show x21.toInt ≤ 400 by omega) dX12_puts_41 (fun H locs w22 hw hT k24 c23 => ?_)
  have hF := hF.put kM_at3 (inE_of (a := 0) (b := 7) (by decide) (by decide) (by decide)) k24
  have c25 := k24.gi (Or.inl (tk_ne kM_at0 kM_at3 (by decide))) c15
  have c23 : gi w22 3 0 = x21 := c23
  exact tk_vret hC hr hlocks hK ⟨hT, hF, ⟨⟨0, c25, (by decide), (by decide)⟩, (by simp only [cf1_, c23]; omega)⟩⟩ hw dX12_puts_42
abbrev P_X12_strength_1 (ad : Nat → Nat) (cy : Nat → ClassId) (B : Int) (qr : Nat) (s1 : Int) (a0 : Int32) (w0 : va_W) : Int32 → va_W → Prop := fun r u => w0 = u ∧ ((r = 0) ∨ (r = 1 ∧ 13 ≤ a0.toInt ∧ a0.toInt ≤ 13) ∨ (r = 2 ∧ 12 ≤ a0.toInt ∧ a0.toInt ≤ 12) ∨ (r = 3 ∧ 11 ≤ a0.toInt ∧ a0.toInt ≤ 11))
set_option maxHeartbeats 4000000 in
set_option maxRecDepth 100000 in
theorem k_X12_strength_1 (l : Launch) (adK adV : Nat → Nat) (dC : Nat → ClassId) (dI : Nat → Nat → Nat) (cy : Nat → ClassId) (ad : Nat → Nat) (B : Int) (hB0 : 100000 ≤ B) (hB1 : B ≤ 1073741824) (qr : Nat) (s1 : Int)  (a0 : Int32) (w0 : va_W) (sz : Nat) (hT : TW ksM ad cy B qr 12 w0)  : Met l yX12_strength wsX12_strength ({ frames := 1, cells := 0, slots := 0, locals := 12 }) (va_Pc [.int a0] (wpreS adK adV dC dI cy sz w0)) (va_Qi (P_X12_strength_1 ad cy B qr s1 a0 w0) (fun u : va_W => wpost dC dI cy (va_A w0 sz) u) (va_A w0 sz)) 0 0 (va_A w0 sz) := by
  refine Met.ofW (cc := cX12_strength) (maxL := 1) (ret := (some .int)) (by decide) rfl ?_
  intro p e s m args below meth c s₁ Bk hml hv
  obtain ⟨rfl, ⟨hsz, hP, hK, hD0⟩, hE, hSR⟩ := hv
  have hx := Bk.exec
  have hb := Bk.bytes
  have hr := Bk.returns
  have hlocks := Bk.notSynchronized
  have hC : CallFix p m c cX12_strength 1 s _ wsX12_strength RX12 := ⟨hx, hb, hml, findClass_of_methodNamed Bk.named, atoms_spec (ws := wsX12_strength) Bk.pre⟩
  subst hsz
  have hD := hD0.self (sz := s.heap.size)
  generalize hAe : va_A w0 s.heap.size = A at hD hE ⊢
  have hA : ∀ q : Nat, s.heap.size ≤ q → A q := fun q h => by rw [← hAe]; exact Or.inr h
  have hw : Wd dC dI A s.heap s.heap [] w0 := ⟨hP, hD, va_S.rf⟩
  have hF : FE ksM ([] : List (Nat × Nat × Nat)) w0 w0 := FE.rf
  have hl := lv_entry ([.int a0]) (n := 1) (Nat.le_of_ble_eq_true rfl)
  rw [lg_entry_eq]
  generalize (lg_sl ([.int a0]) ++ List.replicate (1 - (lg_sl ([.int a0])).length) Slot.unset).toArray = ls at hl ⊢
  have hl : lv_has ls 1 [(0, .int a0)] := hl
  generalize hloc : ([] : List Loc) = locs at hw ⊢
  refine lv_iload_n hx hb dX12_strength_0 rfl (lv_at hl 0 rfl) ?_
  refine lv_bipush (v := 13) hx hb dX12_strength_1 (by decide) ?_
  refine lv_icmp_ne (tgt := 10) hx hb dX12_strength_3 (by decide) (fun c1 => ?_) (fun c1 => ?_)
  · have c1 : ¬ a0.toInt = (13 : Int) := wk_eqF c1
    refine lv_iload_n hx hb dX12_strength_10 rfl (lv_at hl 0 rfl) ?_
    refine lv_bipush (v := 12) hx hb dX12_strength_11 (by decide) ?_
    refine lv_icmp_ne (tgt := 20) hx hb dX12_strength_13 (by decide) (fun c2 => ?_) (fun c2 => ?_)
    · have c2 : ¬ a0.toInt = (12 : Int) := wk_eqF c2
      refine lv_iload_n hx hb dX12_strength_20 rfl (lv_at hl 0 rfl) ?_
      refine lv_bipush (v := 11) hx hb dX12_strength_21 (by decide) ?_
      refine lv_icmp_ne (tgt := 30) hx hb dX12_strength_23 (by decide) (fun c3 => ?_) (fun c3 => ?_)
      · have c3 : ¬ a0.toInt = (11 : Int) := wk_eqF c3
        refine lv_iconst (v := 0) hx hb dX12_strength_30 (by decide) ?_
        exact tk_iret hC hr hlocks hK ⟨rfl, (Or.inl rfl)⟩ hw dX12_strength_31
      · have c3 : a0.toInt = (11 : Int) := wk_eq.mp c3
        refine lv_iconst (v := 3) hx hb dX12_strength_26 (by decide) ?_
        refine lv_goto (tgt := 31) hx hb dX12_strength_27 (by decide) ?_
        exact tk_iret hC hr hlocks hK ⟨rfl, (Or.inr (Or.inr (Or.inr ⟨rfl, (show 11 ≤ a0.toInt by omega), (show a0.toInt ≤ 11 by omega)⟩)))⟩ hw dX12_strength_31
    · have c2 : a0.toInt = (12 : Int) := wk_eq.mp c2
      refine lv_iconst (v := 2) hx hb dX12_strength_16 (by decide) ?_
      refine lv_goto (tgt := 31) hx hb dX12_strength_17 (by decide) ?_
      exact tk_iret hC hr hlocks hK ⟨rfl, (Or.inr (Or.inr (Or.inl ⟨rfl, (show 12 ≤ a0.toInt by omega), (show a0.toInt ≤ 12 by omega)⟩)))⟩ hw dX12_strength_31
  · have c1 : a0.toInt = (13 : Int) := wk_eq.mp c1
    refine lv_iconst (v := 1) hx hb dX12_strength_6 (by decide) ?_
    refine lv_goto (tgt := 31) hx hb dX12_strength_7 (by decide) ?_
    exact tk_iret hC hr hlocks hK ⟨rfl, (Or.inr (Or.inl ⟨rfl, (show 13 ≤ a0.toInt by omega), (show a0.toInt ≤ 13 by omega)⟩))⟩ hw dX12_strength_31
abbrev P_X12_settles_1 (ad : Nat → Nat) (cy : Nat → ClassId) (B : Int) (qr : Nat) (s1 : Int)  (w0 : va_W) : va_W → Prop := fun u => TW ksM ad cy B qr 12 u ∧ FE ksM [(12, 19, 19), (12, 22, 22), (61, 0, 2400), (62, 0, 7)] w0 u ∧ (((∃ y : Int32, gi u 0 17 = y ∧ 0 ≤ y.toInt ∧ y.toInt ≤ 0) ∧ (∃ y : Int32, gi u 0 19 = y ∧ (-60) ≤ y.toInt ∧ y.toInt ≤ 10) ∧ (∃ y : Int32, gi u 0 22 = y ∧ 0 ≤ y.toInt ∧ y.toInt ≤ 390) ∧ ((gi u 3 0).toInt + (gi u 0 22).toInt = (gi w0 3 0).toInt + (gi w0 0 22).toInt) ∧ ((gi u 0 22).toInt ≤ (gi w0 0 22).toInt) ∧ ((gi u 0 22).toInt + (gi w0 0 19).toInt ≤ (gi w0 0 22).toInt + (gi u 0 19).toInt) ∧ ((gi u 0 22).toInt ≤ (gi u 0 19).toInt + (gi w0 0 18).toInt) ∧ ((gi u 0 22).toInt ≤ 390) ∧ ((gi u 3 0).toInt ≤ 390) ∧ (brkN w0 ((gi u 0 22).toInt).toNat = brkN w0 ((gi w0 0 22).toInt).toNat)))
set_option maxHeartbeats 4000000 in
set_option maxRecDepth 100000 in
theorem k_X12_settles_1 (l : Launch) (adK adV : Nat → Nat) (dC : Nat → ClassId) (dI : Nat → Nat → Nat) (cy : Nat → ClassId) (ad : Nat → Nat) (B : Int) (hB0 : 100000 ≤ B) (hB1 : B ≤ 1073741824) (qr : Nat) (s1 : Int)   (w0 : va_W) (sz : Nat) (hT : TW ksM ad cy B qr 12 w0) (cf0_ : gi w0 0 17 = 0) (f1_ : Int32) (cf1_ : gi w0 0 18 = f1_) (rf1_ : 0 ≤ f1_.toInt) (tf1_ : f1_.toInt ≤ 60) (f2_ : Int32) (cf2_ : gi w0 0 19 = f2_) (rf2_ : (-100) ≤ f2_.toInt) (tf2_ : f2_.toInt ≤ 10) (f3_ : Int32) (cf3_ : gi w0 0 22 = f3_) (rf3_ : 0 ≤ f3_.toInt) (tf3_ : f3_.toInt ≤ 400) (f4_ : Int32) (cf4_ : gi w0 3 0 = f4_) (rf4_ : 0 ≤ f4_.toInt) (tf4_ : f4_.toInt ≤ 400) (pr0_ : f4_.toInt + f3_.toInt ≤ 390) (pr1_ : f3_.toInt ≤ f2_.toInt + f1_.toInt) (pr2_ : f4_.toInt ≤ 390) (pr3_ : f3_.toInt ≤ 390) : Met l yX12_settles wsX12_settles ({ frames := 2, cells := 0, slots := 0, locals := 34 }) (va_Pc [.ref (ad 0), .int 1] (wpreS adK adV dC dI cy sz w0)) (va_Qv (P_X12_settles_1 ad cy B qr s1  w0) (fun u : va_W => wpost dC dI cy (va_A w0 sz) u) (va_A w0 sz)) 0 0 (va_A w0 sz) := by
  refine Met.ofW (cc := cX12_settles) (maxL := 2) (ret := none) (by decide) rfl ?_
  intro p e s m args below meth c s₁ Bk hml hv
  obtain ⟨rfl, ⟨hsz, hP, hK, hD0⟩, hE, hSR⟩ := hv
  have hx := Bk.exec
  have hb := Bk.bytes
  have hr := Bk.returns
  have hlocks := Bk.notSynchronized
  have hC : CallFix p m c cX12_settles 2 s _ wsX12_settles RX12 := ⟨hx, hb, hml, findClass_of_methodNamed Bk.named, atoms_spec (ws := wsX12_settles) Bk.pre⟩
  subst hsz
  have hD := hD0.self (sz := s.heap.size)
  generalize hAe : va_A w0 s.heap.size = A at hD hE ⊢
  have hA : ∀ q : Nat, s.heap.size ≤ q → A q := fun q h => by rw [← hAe]; exact Or.inr h
  have hw : Wd dC dI A s.heap s.heap [] w0 := ⟨hP, hD, va_S.rf⟩
  have hF : FE ksM [(12, 19, 19), (12, 22, 22), (61, 0, 2400), (62, 0, 7)] w0 w0 := FE.rf
  have hl := lv_entry ([.ref (ad 0), .int 1]) (n := 2) (Nat.le_of_ble_eq_true rfl)
  rw [lg_entry_eq]
  generalize (lg_sl ([.ref (ad 0), .int 1]) ++ List.replicate (2 - (lg_sl ([.ref (ad 0), .int 1])).length) Slot.unset).toArray = ls at hl ⊢
  have hl : lv_has ls 2 [(0, .ref (ad 0)), (1, .int 1)] := hl
  generalize hloc : ([] : List Loc) = locs at hw ⊢
  have hinX12 : ∀ w ∈ u_ws RX12 TX12 42, w ∈ wsX12_settles := fun _ h => List.mem_cons_of_mem _ (List.mem_append_right _ (h))
  have J76 : ∀ (f76_0_19 : Int32) (f76_0_22 : Int32) (f76_3_0 : Int32) (H : Heap) (locs : List Loc) (ls : Array Slot) (w1 : va_W), 0 ≤ f1_.toInt → f1_.toInt ≤ 60 → (-60) ≤ f76_0_19.toInt → f76_0_19.toInt ≤ 10 → 0 ≤ f76_0_22.toInt → f76_0_22.toInt ≤ 390 → 0 ≤ f76_3_0.toInt → f76_3_0.toInt ≤ 390 → (f76_3_0.toInt + f76_0_22.toInt = f4_.toInt + f3_.toInt) → (f76_0_22.toInt ≤ f3_.toInt) → (f76_0_22.toInt + f2_.toInt ≤ f3_.toInt + f76_0_19.toInt) → (f76_0_22.toInt ≤ f76_0_19.toInt + f1_.toInt) → (f76_3_0.toInt ≤ 390) → (f76_0_22.toInt ≤ 390) → (-60 ≤ f76_0_19.toInt) → (brkN w0 (f76_0_22.toInt).toNat = brkN w0 (f3_.toInt).toNat) → Wd dC dI A s.heap H locs w1 → TW ksM ad cy B qr 12 w1 → FE ksM [(12, 19, 19), (12, 22, 22), (61, 0, 2400), (62, 0, 7)] w0 w1 → gi w1 0 17 = 0 → gi w1 0 18 = f1_ → gi w1 0 19 = f76_0_19 → gi w1 0 22 = f76_0_22 → gi w1 3 0 = f76_3_0 → lv_has ls 2 [(0, .ref (ad 0)), (1, .int 1)] → W p l e ({ frames := 2, cells := 0, slots := 0, locals := 34 }) s m (List.toArray [.ref (ad 0), .int 1]) below meth c H locs 0 0 (MQ below (va_Qv (P_X12_settles_1 ad cy B qr s1  w0) (fun u : va_W => wpost dC dI cy A u) A) (List.toArray [.ref (ad 0), .int 1]) s 0 0 A) (F0 m 76 ls []) := by
    intro f76_0_19 f76_0_22 f76_3_0 H locs ls w1 r3 t4 r6 t7 r9 t10 r12 t13 hcr76_0 hcr76_1 hcr76_2 hcr76_3 hcr76_4 hcr76_5 hcr76_6 hcr76_7 hw hT hF c2 c5 c8 c11 c14 hl
    exact tk_vret hC hr hlocks hK ⟨hT, hF, ⟨⟨0, c2, (by decide), (by decide)⟩, ⟨f76_0_19, c8, (show (-60) ≤ f76_0_19.toInt by omega), (show f76_0_19.toInt ≤ 10 by omega)⟩, ⟨f76_0_22, c11, (show 0 ≤ f76_0_22.toInt by omega), (show f76_0_22.toInt ≤ 390 by omega)⟩, (by simp only [cf4_, c14, cf3_, c11]; omega), (by simp only [cf3_, c11]; omega), (by simp only [cf2_, c8, cf3_, c11]; omega), (by simp only [c8, cf1_, c11]; omega), (by simp only [c11]; omega), (by simp only [c14]; omega), (by simp only [cf3_, c11]; omega)⟩⟩ hw dX12_settles_76
  have L0 : ∀ (n0 : Nat) (f0_0_19 : Int32) (f0_0_22 : Int32) (f0_3_0 : Int32) (H : Heap) (locs : List Loc) (ls : Array Slot) (w15 : va_W), 0 ≤ f1_.toInt → f1_.toInt ≤ 60 → (-60) ≤ f0_0_19.toInt → f0_0_19.toInt ≤ 10 → 0 ≤ f0_0_22.toInt → f0_0_22.toInt ≤ 390 → 0 ≤ f0_3_0.toInt → f0_3_0.toInt ≤ 390 → (f0_3_0.toInt + f0_0_22.toInt = f4_.toInt + f3_.toInt) → (f0_0_22.toInt ≤ f3_.toInt) → (f0_0_22.toInt + f2_.toInt ≤ f3_.toInt + f0_0_19.toInt) → (f0_0_22.toInt ≤ f0_0_19.toInt + f1_.toInt) → (f0_3_0.toInt ≤ 390) → (f0_0_22.toInt ≤ 390) → (-60 ≤ f0_0_19.toInt) → (brkN w0 (f0_0_22.toInt).toNat = brkN w0 (f3_.toInt).toNat) → (f0_0_22.toInt - 0).toNat < n0 → Wd dC dI A s.heap H locs w15 → TW ksM ad cy B qr 12 w15 → FE ksM [(12, 19, 19), (12, 22, 22), (61, 0, 2400), (62, 0, 7)] w0 w15 → gi w15 0 17 = 0 → gi w15 0 18 = f1_ → gi w15 0 19 = f0_0_19 → gi w15 0 22 = f0_0_22 → gi w15 3 0 = f0_3_0 → lv_has ls 2 [(0, .ref (ad 0)), (1, .int 1)] → W p l e ({ frames := 2, cells := 0, slots := 0, locals := 34 }) s m (List.toArray [.ref (ad 0), .int 1]) below meth c H locs 0 0 (MQ below (va_Qv (P_X12_settles_1 ad cy B qr s1  w0) (fun u : va_W => wpost dC dI cy A u) A) (List.toArray [.ref (ad 0), .int 1]) s 0 0 A) (F0 m 0 ls []) := by
    intro n0
    induction n0 with
    | zero => intro f0_0_19 f0_0_22 f0_3_0 H locs ls w15 r17 t18 r20 t21 r23 t24 r26 t27 hcr0_0 hcr0_1 hcr0_2 hcr0_3 hcr0_4 hcr0_5 hcr0_6 hcr0_7 hm0 hw hT hF c16 c19 c22 c25 c28 hl; omega
    | succ n0 ih0 =>
      intro f0_0_19 f0_0_22 f0_3_0 H locs ls w15 r17 t18 r20 t21 r23 t24 r26 t27 hcr0_0 hcr0_1 hcr0_2 hcr0_3 hcr0_4 hcr0_5 hcr0_6 hcr0_7 hm0 hw hT hF c16 c19 c22 c25 c28 hl
      refine lv_aload_n hx hb dX12_settles_0 rfl (lv_at hl 0 rfl) ?_
      refine tk_geti hC hK hw hT hinX12 kM_at0 (by decide) rfl 22 (by decide) (List.mem_of_getElem? (i := 1) rfl) rfl rfl dX12_settles_1 (fun x29 c30 rx29 tx29 => ?_)
      refine wk_top f0_0_22 (c30.symm.trans c25) ?_
      refine lv_if_le (tgt := 76) hx hb dX12_settles_4 (by decide) (fun c31 => ?_) (fun c31 => ?_)
      · have c31 : f0_0_22.toInt ≤ (0 : Int) := wk_le.mp c31
        exact J76 f0_0_19 f0_0_22 f0_3_0 H locs ls w15 (show 0 ≤ f1_.toInt by omega) (show f1_.toInt ≤ 60 by omega) (show (-60) ≤ f0_0_19.toInt by omega) (show f0_0_19.toInt ≤ 10 by omega) (show 0 ≤ f0_0_22.toInt by omega) (show f0_0_22.toInt ≤ 390 by omega) (show 0 ≤ f0_3_0.toInt by omega) (show f0_3_0.toInt ≤ 390 by omega) (show f0_3_0.toInt + f0_0_22.toInt = f4_.toInt + f3_.toInt by omega) (show f0_0_22.toInt ≤ f3_.toInt by omega) (show f0_0_22.toInt + f2_.toInt ≤ f3_.toInt + f0_0_19.toInt by omega) (show f0_0_22.toInt ≤ f0_0_19.toInt + f1_.toInt by omega) (show f0_3_0.toInt ≤ 390 by omega) (show f0_0_22.toInt ≤ 390 by omega) (show -60 ≤ f0_0_19.toInt by omega) (show brkN w0 (f0_0_22.toInt).toNat = brkN w0 (f3_.toInt).toNat from hcr0_7)  hw hT hF c16 c19 c22 c25 c28 (lv_sub hl [0, 1] rfl)
      · have c31 : (0 : Int) < f0_0_22.toInt := wk_leF c31
        refine lv_aload_n hx hb dX12_settles_7 rfl (lv_at hl 0 rfl) ?_
        refine tk_getA hC hK hw hT hinX12 kM_at0 (by decide) rfl 21 (by decide) (List.mem_of_getElem? (i := 2) rfl) rfl rfl dX12_settles_8 ?_
        refine lv_aload_n hx hb dX12_settles_11 rfl (lv_at hl 0 rfl) ?_
        refine tk_geti hC hK hw hT hinX12 kM_at0 (by decide) rfl 22 (by decide) (List.mem_of_getElem? (i := 1) rfl) rfl rfl dX12_settles_12 (fun x32 c33 rx32 tx32 => ?_)
        refine wk_top f0_0_22 (c33.symm.trans c25) ?_
        refine lv_iconst (v := 1) hx hb dX12_settles_15 (by decide) ?_
        refine lv_isub hx hb dX12_settles_16 ?_
        refine lv_topi (fun x34 ex34 => ?_)
        have ex34 : x34.toInt = f0_0_22.toInt - (1 : Int) := by rw [ex34]; exact wk_sub (show (-2147483648) ≤ f0_0_22.toInt - (1 : Int) by omega) (show f0_0_22.toInt - (1 : Int) ≤ 2147483647 by omega)
        refine tk_iald hC hK hw hT kM_at9 rfl rfl (show 0 ≤ x34.toInt by omega) (show x34.toInt < 400 by omega) dX12_settles_17 (fun x35 c36 rx35 tx35 => ?_)
        have c36 : gi w15 9 (1 * f0_0_22.toInt + -1).toNat = x35 := (congrArg (gi w15 9) (congrArg Int.toNat (show 1 * f0_0_22.toInt + -1 = x34.toInt by omega))).trans c36
        refine tk_Si hC hK hw hT hA hE hSR (k_X12_strength_1 l adK adV dC dI cy ad B (by omega) (by omega) qr s1   x35 w15 H.size hT ) (va_cwS 1 hC.2.2.2.2 gX12_settles_X12_strength rfl rfl rfl (by decide +kernel) ⟨Nat.le_of_ble_eq_true rfl, Nat.le_of_ble_eq_true rfl⟩) rfl hl.1 rfl (Nat.le_of_ble_eq_true rfl) dX12_settles_18 (fun r37 w39 H locs hp38 hw => ?_)
        obtain ⟨rfl, hg47⟩ := hp38
        rcases hg47 with rfl | ⟨rfl, g41, g42⟩ | ⟨rfl, g43, g44⟩ | ⟨rfl, g45, g46⟩
        · refine lv_iload_n hx hb dX12_settles_21 rfl (lv_at hl 1 rfl) ?_
          refine lv_icmp_lt (tgt := 76) hx hb dX12_settles_22 (by decide) (fun _ => ?_) (fun c => absurd (by decide) c)
          exact J76 f0_0_19 f0_0_22 f0_3_0 H locs ls w15 (show 0 ≤ f1_.toInt by omega) (show f1_.toInt ≤ 60 by omega) (show (-60) ≤ f0_0_19.toInt by omega) (show f0_0_19.toInt ≤ 10 by omega) (show 0 ≤ f0_0_22.toInt by omega) (show f0_0_22.toInt ≤ 390 by omega) (show 0 ≤ f0_3_0.toInt by omega) (show f0_3_0.toInt ≤ 390 by omega) (show f0_3_0.toInt + f0_0_22.toInt = f4_.toInt + f3_.toInt by omega) (show f0_0_22.toInt ≤ f3_.toInt by omega) (show f0_0_22.toInt + f2_.toInt ≤ f3_.toInt + f0_0_19.toInt by omega) (show f0_0_22.toInt ≤ f0_0_19.toInt + f1_.toInt by omega) (show f0_3_0.toInt ≤ 390 by omega) (show f0_0_22.toInt ≤ 390 by omega) (show -60 ≤ f0_0_19.toInt by omega) (show brkN w0 (f0_0_22.toInt).toNat = brkN w0 (f3_.toInt).toNat from hcr0_7)  hw hT hF c16 c19 c22 c25 c28 (lv_sub hl [0, 1] rfl)
        · refine lv_iload_n hx hb dX12_settles_21 rfl (lv_at hl 1 rfl) ?_
          refine lv_icmp_lt (tgt := 76) hx hb dX12_settles_22 (by decide) (fun c => absurd c (by decide)) (fun _ => ?_)
          refine lv_aload_n hx hb dX12_settles_25 rfl (lv_at hl 0 rfl) ?_
          refine lv_dup hx hb dX12_settles_26 rfl ?_
          refine tk_geti hC hK hw hT hinX12 kM_at0 (by decide) rfl 22 (by decide) (List.mem_of_getElem? (i := 1) rfl) rfl rfl dX12_settles_27 (fun x48 c49 rx48 tx48 => ?_)
          refine wk_top f0_0_22 (c49.symm.trans c25) ?_
          refine lv_iconst (v := 1) hx hb dX12_settles_30 (by decide) ?_
          refine lv_isub hx hb dX12_settles_31 ?_
          refine lv_topi (fun x50 ex50 => ?_)
          have ex50 : x50.toInt = f0_0_22.toInt - (1 : Int) := by rw [ex50]; exact wk_sub (show (-2147483648) ≤ f0_0_22.toInt - (1 : Int) by omega) (show f0_0_22.toInt - (1 : Int) ≤ 2147483647 by omega)
          refine tk_puti hC hK hw hT hinX12 tyX12_ok nmX12 kM_at0 (by decide) rfl rfl 22 (by decide) (List.mem_of_getElem? (i := 1) rfl) rfl rfl rfl rfl (show 0 ≤ x50.toInt by omega) (show x50.toInt ≤ 400 by omega) dX12_settles_32 (fun H locs w51 hw hT k53 c52 => ?_)
          have hF := hF.put kM_at0 (k := 22) (by decide) k53
          have c54 := k53.gi (Or.inr (by decide)) c16
          have c55 := k53.gi (Or.inr (by decide)) c19
          have c56 := k53.gi (Or.inr (by decide)) c22
          have c57 := k53.gi (Or.inr (by decide)) c28
          have c58 := k53.gi (Or.inl (tk_ne kM_at9 kM_at0 (by decide))) c36
          refine lv_aload_n hx hb dX12_settles_35 rfl (lv_at hl 0 rfl) ?_
          refine lv_aload_n hx hb dX12_settles_36 rfl (lv_at hl 0 rfl) ?_
          refine tk_getA hC hK hw hT hinX12 kM_at0 (by decide) rfl 21 (by decide) (List.mem_of_getElem? (i := 2) rfl) rfl rfl dX12_settles_37 ?_
          refine lv_aload_n hx hb dX12_settles_40 rfl (lv_at hl 0 rfl) ?_
          refine tk_geti hC hK hw hT hinX12 kM_at0 (by decide) rfl 22 (by decide) (List.mem_of_getElem? (i := 1) rfl) rfl rfl dX12_settles_41 (fun x59 c60 rx59 tx59 => ?_)
          refine wk_top x50 (c60.symm.trans c52) ?_
          refine tk_iald hC hK hw hT kM_at9 rfl rfl (show 0 ≤ x50.toInt by omega) (show x50.toInt < 400 by omega) dX12_settles_44 (fun x61 c62 rx61 tx61 => ?_)
          have c62 : gi w51 9 (1 * f0_0_22.toInt + -1).toNat = x61 := (congrArg (gi w51 9) (congrArg Int.toNat (show 1 * f0_0_22.toInt + -1 = x50.toInt by omega))).trans c62
          refine wk_top x35 (c62.symm.trans c58) ?_
          refine lv_iconst (v := 0) hx hb dX12_settles_45 (by decide) ?_
          obtain rfl : x35 = 13 := wk_eq.mpr (show x35.toInt = 13 by omega)
          refine tk_Vv hC hK hw hT hA hE hSR kM_at0 (by decide) rfl (k_X12_puts_1 l adK adV dC dI cy ad B (by omega) (by omega) qr s1   13 (by decide) (by decide) 0 w51 H.size hT c54 f0_3_0 c57 (show 0 ≤ f0_3_0.toInt by omega) (show f0_3_0.toInt ≤ 400 by omega) (show f0_3_0.toInt ≤ 399 by omega)) (cwV 2 hC.2.2.2.2 gX12_settles_X12_puts rfl rfl rfl (by decide +kernel) ⟨Nat.le_of_ble_eq_true rfl, Nat.le_of_ble_eq_true rfl⟩) rfl hl.1 rfl (Nat.le_of_ble_eq_true rfl) dX12_settles_46 (fun w65 H locs hp64 hw => ?_)
          obtain ⟨hT, k66, hg70⟩ := hp64
          have hF := hF.tr k66 (by decide)
          have c71 := k66.gi kM_at0 (by decide) c54
          have c72 := k66.gi kM_at0 (by decide) c55
          have c73 := k66.gi kM_at0 (by decide) c56
          have c74 := k66.gi kM_at9 rfl c58
          have c75 := k66.gi kM_at0 (by decide) c52
          obtain ⟨⟨x67, c68, rx67, tx67⟩, g69⟩ := hg70
          have ex67 : x67.toInt = (0 : Int) := by rw [show x67 = 0 from c68.symm.trans c71]; decide
          obtain ⟨x76, c77, rx76, tx76⟩ := hT.rda (lo := 0) (hi := 400) (i := 0) kM_at3 rfl rfl (by decide)
          have g69 : x76.toInt = f0_3_0.toInt + 1 := by have q := g69; simp only [c57, c77] at q; omega
          refine lv_aload_n hx hb dX12_settles_49 rfl (lv_at hl 0 rfl) ?_
          refine tk_getA hC hK hw hT hinX12 kM_at0 (by decide) rfl 21 (by decide) (List.mem_of_getElem? (i := 2) rfl) rfl rfl dX12_settles_50 ?_
          refine lv_aload_n hx hb dX12_settles_53 rfl (lv_at hl 0 rfl) ?_
          refine tk_geti hC hK hw hT hinX12 kM_at0 (by decide) rfl 22 (by decide) (List.mem_of_getElem? (i := 1) rfl) rfl rfl dX12_settles_54 (fun x78 c79 rx78 tx78 => ?_)
          refine wk_top x50 (c79.symm.trans c75) ?_
          refine tk_iald hC hK hw hT kM_at9 rfl rfl (show 0 ≤ x50.toInt by omega) (show x50.toInt < 400 by omega) dX12_settles_57 (fun x80 c81 rx80 tx80 => ?_)
          have c81 : gi w65 9 (1 * f0_0_22.toInt + -1).toNat = x80 := (congrArg (gi w65 9) (congrArg Int.toNat (show 1 * f0_0_22.toInt + -1 = x50.toInt by omega))).trans c81
          refine wk_top 13 (c81.symm.trans c74) ?_
          refine lv_bipush (v := 11) hx hb dX12_settles_58 (by decide) ?_
          refine lv_icmp_ne (tgt := 0) hx hb dX12_settles_60 (by decide) (fun _ => ?_) (fun c => absurd c (by decide))
          exact ih0 f0_0_19 x50 x76 H locs ls w65 (show 0 ≤ f1_.toInt by omega) (show f1_.toInt ≤ 60 by omega) (show (-60) ≤ f0_0_19.toInt by omega) (show f0_0_19.toInt ≤ 10 by omega) (show 0 ≤ x50.toInt by omega) (show x50.toInt ≤ 390 by omega) (show 0 ≤ x76.toInt by omega) (show x76.toInt ≤ 390 by omega) (show x76.toInt + x50.toInt = f4_.toInt + f3_.toInt by omega) (show x50.toInt ≤ f3_.toInt by omega) (show x50.toInt + f2_.toInt ≤ f3_.toInt + f0_0_19.toInt by omega) (show x50.toInt ≤ f0_0_19.toInt + f1_.toInt by omega) (show x76.toInt ≤ 390 by omega) (show x50.toInt ≤ 390 by omega) (show -60 ≤ f0_0_19.toInt by omega) (show brkN w0 (x50.toInt).toNat = brkN w0 (f3_.toInt).toNat from ((brk_step (by omega) (show f0_0_22.toInt = x50.toInt + 1 by omega) (show ¬ (gi w0 9 (x50.toInt).toNat).toInt = 91 by first | (rw [show (x50.toInt) = 1 * f0_0_22.toInt + -1 by omega, ← hF.gi kM_at9 rfl rfl, c74]; omega) | (rw [show (x50.toInt) = 1 * f0_0_22.toInt + -1 by omega, ← hF.gi kM_at9 rfl rfl, c74]; decide))).trans hcr0_7)) (show (x50.toInt - 0).toNat < n0 by omega) hw hT hF c71 c72 c73 c75 c77 (lv_sub hl [0, 1] rfl)
        · refine lv_iload_n hx hb dX12_settles_21 rfl (lv_at hl 1 rfl) ?_
          refine lv_icmp_lt (tgt := 76) hx hb dX12_settles_22 (by decide) (fun c => absurd c (by decide)) (fun _ => ?_)
          refine lv_aload_n hx hb dX12_settles_25 rfl (lv_at hl 0 rfl) ?_
          refine lv_dup hx hb dX12_settles_26 rfl ?_
          refine tk_geti hC hK hw hT hinX12 kM_at0 (by decide) rfl 22 (by decide) (List.mem_of_getElem? (i := 1) rfl) rfl rfl dX12_settles_27 (fun x82 c83 rx82 tx82 => ?_)
          refine wk_top f0_0_22 (c83.symm.trans c25) ?_
          refine lv_iconst (v := 1) hx hb dX12_settles_30 (by decide) ?_
          refine lv_isub hx hb dX12_settles_31 ?_
          refine lv_topi (fun x84 ex84 => ?_)
          have ex84 : x84.toInt = f0_0_22.toInt - (1 : Int) := by rw [ex84]; exact wk_sub (show (-2147483648) ≤ f0_0_22.toInt - (1 : Int) by omega) (show f0_0_22.toInt - (1 : Int) ≤ 2147483647 by omega)
          refine tk_puti hC hK hw hT hinX12 tyX12_ok nmX12 kM_at0 (by decide) rfl rfl 22 (by decide) (List.mem_of_getElem? (i := 1) rfl) rfl rfl rfl rfl (show 0 ≤ x84.toInt by omega) (show x84.toInt ≤ 400 by omega) dX12_settles_32 (fun H locs w85 hw hT k87 c86 => ?_)
          have hF := hF.put kM_at0 (k := 22) (by decide) k87
          have c88 := k87.gi (Or.inr (by decide)) c16
          have c89 := k87.gi (Or.inr (by decide)) c19
          have c90 := k87.gi (Or.inr (by decide)) c22
          have c91 := k87.gi (Or.inr (by decide)) c28
          have c92 := k87.gi (Or.inl (tk_ne kM_at9 kM_at0 (by decide))) c36
          refine lv_aload_n hx hb dX12_settles_35 rfl (lv_at hl 0 rfl) ?_
          refine lv_aload_n hx hb dX12_settles_36 rfl (lv_at hl 0 rfl) ?_
          refine tk_getA hC hK hw hT hinX12 kM_at0 (by decide) rfl 21 (by decide) (List.mem_of_getElem? (i := 2) rfl) rfl rfl dX12_settles_37 ?_
          refine lv_aload_n hx hb dX12_settles_40 rfl (lv_at hl 0 rfl) ?_
          refine tk_geti hC hK hw hT hinX12 kM_at0 (by decide) rfl 22 (by decide) (List.mem_of_getElem? (i := 1) rfl) rfl rfl dX12_settles_41 (fun x93 c94 rx93 tx93 => ?_)
          refine wk_top x84 (c94.symm.trans c86) ?_
          refine tk_iald hC hK hw hT kM_at9 rfl rfl (show 0 ≤ x84.toInt by omega) (show x84.toInt < 400 by omega) dX12_settles_44 (fun x95 c96 rx95 tx95 => ?_)
          have c96 : gi w85 9 (1 * f0_0_22.toInt + -1).toNat = x95 := (congrArg (gi w85 9) (congrArg Int.toNat (show 1 * f0_0_22.toInt + -1 = x84.toInt by omega))).trans c96
          refine wk_top x35 (c96.symm.trans c92) ?_
          refine lv_iconst (v := 0) hx hb dX12_settles_45 (by decide) ?_
          obtain rfl : x35 = 12 := wk_eq.mpr (show x35.toInt = 12 by omega)
          refine tk_Vv hC hK hw hT hA hE hSR kM_at0 (by decide) rfl (k_X12_puts_1 l adK adV dC dI cy ad B (by omega) (by omega) qr s1   12 (by decide) (by decide) 0 w85 H.size hT c88 f0_3_0 c91 (show 0 ≤ f0_3_0.toInt by omega) (show f0_3_0.toInt ≤ 400 by omega) (show f0_3_0.toInt ≤ 399 by omega)) (cwV 2 hC.2.2.2.2 gX12_settles_X12_puts rfl rfl rfl (by decide +kernel) ⟨Nat.le_of_ble_eq_true rfl, Nat.le_of_ble_eq_true rfl⟩) rfl hl.1 rfl (Nat.le_of_ble_eq_true rfl) dX12_settles_46 (fun w99 H locs hp98 hw => ?_)
          obtain ⟨hT, k100, hg104⟩ := hp98
          have hF := hF.tr k100 (by decide)
          have c105 := k100.gi kM_at0 (by decide) c88
          have c106 := k100.gi kM_at0 (by decide) c89
          have c107 := k100.gi kM_at0 (by decide) c90
          have c108 := k100.gi kM_at9 rfl c92
          have c109 := k100.gi kM_at0 (by decide) c86
          obtain ⟨⟨x101, c102, rx101, tx101⟩, g103⟩ := hg104
          have ex101 : x101.toInt = (0 : Int) := by rw [show x101 = 0 from c102.symm.trans c105]; decide
          obtain ⟨x110, c111, rx110, tx110⟩ := hT.rda (lo := 0) (hi := 400) (i := 0) kM_at3 rfl rfl (by decide)
          have g103 : x110.toInt = f0_3_0.toInt + 1 := by have q := g103; simp only [c91, c111] at q; omega
          refine lv_aload_n hx hb dX12_settles_49 rfl (lv_at hl 0 rfl) ?_
          refine tk_getA hC hK hw hT hinX12 kM_at0 (by decide) rfl 21 (by decide) (List.mem_of_getElem? (i := 2) rfl) rfl rfl dX12_settles_50 ?_
          refine lv_aload_n hx hb dX12_settles_53 rfl (lv_at hl 0 rfl) ?_
          refine tk_geti hC hK hw hT hinX12 kM_at0 (by decide) rfl 22 (by decide) (List.mem_of_getElem? (i := 1) rfl) rfl rfl dX12_settles_54 (fun x112 c113 rx112 tx112 => ?_)
          refine wk_top x84 (c113.symm.trans c109) ?_
          refine tk_iald hC hK hw hT kM_at9 rfl rfl (show 0 ≤ x84.toInt by omega) (show x84.toInt < 400 by omega) dX12_settles_57 (fun x114 c115 rx114 tx114 => ?_)
          have c115 : gi w99 9 (1 * f0_0_22.toInt + -1).toNat = x114 := (congrArg (gi w99 9) (congrArg Int.toNat (show 1 * f0_0_22.toInt + -1 = x84.toInt by omega))).trans c115
          refine wk_top 12 (c115.symm.trans c108) ?_
          refine lv_bipush (v := 11) hx hb dX12_settles_58 (by decide) ?_
          refine lv_icmp_ne (tgt := 0) hx hb dX12_settles_60 (by decide) (fun _ => ?_) (fun c => absurd c (by decide))
          exact ih0 f0_0_19 x84 x110 H locs ls w99 (show 0 ≤ f1_.toInt by omega) (show f1_.toInt ≤ 60 by omega) (show (-60) ≤ f0_0_19.toInt by omega) (show f0_0_19.toInt ≤ 10 by omega) (show 0 ≤ x84.toInt by omega) (show x84.toInt ≤ 390 by omega) (show 0 ≤ x110.toInt by omega) (show x110.toInt ≤ 390 by omega) (show x110.toInt + x84.toInt = f4_.toInt + f3_.toInt by omega) (show x84.toInt ≤ f3_.toInt by omega) (show x84.toInt + f2_.toInt ≤ f3_.toInt + f0_0_19.toInt by omega) (show x84.toInt ≤ f0_0_19.toInt + f1_.toInt by omega) (show x110.toInt ≤ 390 by omega) (show x84.toInt ≤ 390 by omega) (show -60 ≤ f0_0_19.toInt by omega) (show brkN w0 (x84.toInt).toNat = brkN w0 (f3_.toInt).toNat from ((brk_step (by omega) (show f0_0_22.toInt = x84.toInt + 1 by omega) (show ¬ (gi w0 9 (x84.toInt).toNat).toInt = 91 by first | (rw [show (x84.toInt) = 1 * f0_0_22.toInt + -1 by omega, ← hF.gi kM_at9 rfl rfl, c108]; omega) | (rw [show (x84.toInt) = 1 * f0_0_22.toInt + -1 by omega, ← hF.gi kM_at9 rfl rfl, c108]; decide))).trans hcr0_7)) (show (x84.toInt - 0).toNat < n0 by omega) hw hT hF c105 c106 c107 c109 c111 (lv_sub hl [0, 1] rfl)
        · refine lv_iload_n hx hb dX12_settles_21 rfl (lv_at hl 1 rfl) ?_
          refine lv_icmp_lt (tgt := 76) hx hb dX12_settles_22 (by decide) (fun c => absurd c (by decide)) (fun _ => ?_)
          refine lv_aload_n hx hb dX12_settles_25 rfl (lv_at hl 0 rfl) ?_
          refine lv_dup hx hb dX12_settles_26 rfl ?_
          refine tk_geti hC hK hw hT hinX12 kM_at0 (by decide) rfl 22 (by decide) (List.mem_of_getElem? (i := 1) rfl) rfl rfl dX12_settles_27 (fun x116 c117 rx116 tx116 => ?_)
          refine wk_top f0_0_22 (c117.symm.trans c25) ?_
          refine lv_iconst (v := 1) hx hb dX12_settles_30 (by decide) ?_
          refine lv_isub hx hb dX12_settles_31 ?_
          refine lv_topi (fun x118 ex118 => ?_)
          have ex118 : x118.toInt = f0_0_22.toInt - (1 : Int) := by rw [ex118]; exact wk_sub (show (-2147483648) ≤ f0_0_22.toInt - (1 : Int) by omega) (show f0_0_22.toInt - (1 : Int) ≤ 2147483647 by omega)
          refine tk_puti hC hK hw hT hinX12 tyX12_ok nmX12 kM_at0 (by decide) rfl rfl 22 (by decide) (List.mem_of_getElem? (i := 1) rfl) rfl rfl rfl rfl (show 0 ≤ x118.toInt by omega) (show x118.toInt ≤ 400 by omega) dX12_settles_32 (fun H locs w119 hw hT k121 c120 => ?_)
          have hF := hF.put kM_at0 (k := 22) (by decide) k121
          have c122 := k121.gi (Or.inr (by decide)) c16
          have c123 := k121.gi (Or.inr (by decide)) c19
          have c124 := k121.gi (Or.inr (by decide)) c22
          have c125 := k121.gi (Or.inr (by decide)) c28
          have c126 := k121.gi (Or.inl (tk_ne kM_at9 kM_at0 (by decide))) c36
          refine lv_aload_n hx hb dX12_settles_35 rfl (lv_at hl 0 rfl) ?_
          refine lv_aload_n hx hb dX12_settles_36 rfl (lv_at hl 0 rfl) ?_
          refine tk_getA hC hK hw hT hinX12 kM_at0 (by decide) rfl 21 (by decide) (List.mem_of_getElem? (i := 2) rfl) rfl rfl dX12_settles_37 ?_
          refine lv_aload_n hx hb dX12_settles_40 rfl (lv_at hl 0 rfl) ?_
          refine tk_geti hC hK hw hT hinX12 kM_at0 (by decide) rfl 22 (by decide) (List.mem_of_getElem? (i := 1) rfl) rfl rfl dX12_settles_41 (fun x127 c128 rx127 tx127 => ?_)
          refine wk_top x118 (c128.symm.trans c120) ?_
          refine tk_iald hC hK hw hT kM_at9 rfl rfl (show 0 ≤ x118.toInt by omega) (show x118.toInt < 400 by omega) dX12_settles_44 (fun x129 c130 rx129 tx129 => ?_)
          have c130 : gi w119 9 (1 * f0_0_22.toInt + -1).toNat = x129 := (congrArg (gi w119 9) (congrArg Int.toNat (show 1 * f0_0_22.toInt + -1 = x118.toInt by omega))).trans c130
          refine wk_top x35 (c130.symm.trans c126) ?_
          refine lv_iconst (v := 0) hx hb dX12_settles_45 (by decide) ?_
          obtain rfl : x35 = 11 := wk_eq.mpr (show x35.toInt = 11 by omega)
          refine tk_Vv hC hK hw hT hA hE hSR kM_at0 (by decide) rfl (k_X12_puts_1 l adK adV dC dI cy ad B (by omega) (by omega) qr s1   11 (by decide) (by decide) 0 w119 H.size hT c122 f0_3_0 c125 (show 0 ≤ f0_3_0.toInt by omega) (show f0_3_0.toInt ≤ 400 by omega) (show f0_3_0.toInt ≤ 399 by omega)) (cwV 2 hC.2.2.2.2 gX12_settles_X12_puts rfl rfl rfl (by decide +kernel) ⟨Nat.le_of_ble_eq_true rfl, Nat.le_of_ble_eq_true rfl⟩) rfl hl.1 rfl (Nat.le_of_ble_eq_true rfl) dX12_settles_46 (fun w133 H locs hp132 hw => ?_)
          obtain ⟨hT, k134, hg138⟩ := hp132
          have hF := hF.tr k134 (by decide)
          have c139 := k134.gi kM_at0 (by decide) c122
          have c140 := k134.gi kM_at0 (by decide) c123
          have c141 := k134.gi kM_at0 (by decide) c124
          have c142 := k134.gi kM_at9 rfl c126
          have c143 := k134.gi kM_at0 (by decide) c120
          obtain ⟨⟨x135, c136, rx135, tx135⟩, g137⟩ := hg138
          have ex135 : x135.toInt = (0 : Int) := by rw [show x135 = 0 from c136.symm.trans c139]; decide
          obtain ⟨x144, c145, rx144, tx144⟩ := hT.rda (lo := 0) (hi := 400) (i := 0) kM_at3 rfl rfl (by decide)
          have g137 : x144.toInt = f0_3_0.toInt + 1 := by have q := g137; simp only [c125, c145] at q; omega
          refine lv_aload_n hx hb dX12_settles_49 rfl (lv_at hl 0 rfl) ?_
          refine tk_getA hC hK hw hT hinX12 kM_at0 (by decide) rfl 21 (by decide) (List.mem_of_getElem? (i := 2) rfl) rfl rfl dX12_settles_50 ?_
          refine lv_aload_n hx hb dX12_settles_53 rfl (lv_at hl 0 rfl) ?_
          refine tk_geti hC hK hw hT hinX12 kM_at0 (by decide) rfl 22 (by decide) (List.mem_of_getElem? (i := 1) rfl) rfl rfl dX12_settles_54 (fun x146 c147 rx146 tx146 => ?_)
          refine wk_top x118 (c147.symm.trans c143) ?_
          refine tk_iald hC hK hw hT kM_at9 rfl rfl (show 0 ≤ x118.toInt by omega) (show x118.toInt < 400 by omega) dX12_settles_57 (fun x148 c149 rx148 tx148 => ?_)
          have c149 : gi w133 9 (1 * f0_0_22.toInt + -1).toNat = x148 := (congrArg (gi w133 9) (congrArg Int.toNat (show 1 * f0_0_22.toInt + -1 = x118.toInt by omega))).trans c149
          refine wk_top 11 (c149.symm.trans c142) ?_
          refine lv_bipush (v := 11) hx hb dX12_settles_58 (by decide) ?_
          refine lv_icmp_ne (tgt := 0) hx hb dX12_settles_60 (by decide) (fun c => absurd (by decide) c) (fun _ => ?_)
          refine lv_aload_n hx hb dX12_settles_63 rfl (lv_at hl 0 rfl) ?_
          refine lv_dup hx hb dX12_settles_64 rfl ?_
          refine tk_geti hC hK hw hT hinX12 kM_at0 (by decide) rfl 19 (by decide) (List.mem_of_getElem? (i := 3) rfl) rfl rfl dX12_settles_65 (fun x150 c151 rx150 tx150 => ?_)
          refine wk_top f0_0_19 (c151.symm.trans c141) ?_
          refine lv_iconst (v := 1) hx hb dX12_settles_68 (by decide) ?_
          refine lv_isub hx hb dX12_settles_69 ?_
          refine lv_topi (fun x152 ex152 => ?_)
          have ex152 : x152.toInt = f0_0_19.toInt - (1 : Int) := by rw [ex152]; exact wk_sub (show (-2147483648) ≤ f0_0_19.toInt - (1 : Int) by omega) (show f0_0_19.toInt - (1 : Int) ≤ 2147483647 by omega)
          refine tk_puti hC hK hw hT hinX12 tyX12_ok nmX12 kM_at0 (by decide) rfl rfl 19 (by decide) (List.mem_of_getElem? (i := 3) rfl) rfl rfl rfl rfl (show (-100) ≤ x152.toInt by omega) (show x152.toInt ≤ 10 by omega) dX12_settles_70 (fun H locs w153 hw hT k155 c154 => ?_)
          have hF := hF.put kM_at0 (k := 19) (by decide) k155
          have c156 := k155.gi (Or.inr (by decide)) c139
          have c157 := k155.gi (Or.inr (by decide)) c140
          have c158 := k155.gi (Or.inl (tk_ne kM_at9 kM_at0 (by decide))) c142
          have c159 := k155.gi (Or.inr (by decide)) c143
          have c160 := k155.gi (Or.inr (by decide)) c145
          refine lv_goto (tgt := 0) hx hb dX12_settles_73 (by decide) ?_
          exact ih0 x152 x118 x144 H locs ls w153 (show 0 ≤ f1_.toInt by omega) (show f1_.toInt ≤ 60 by omega) (show (-60) ≤ x152.toInt by omega) (show x152.toInt ≤ 10 by omega) (show 0 ≤ x118.toInt by omega) (show x118.toInt ≤ 390 by omega) (show 0 ≤ x144.toInt by omega) (show x144.toInt ≤ 390 by omega) (show x144.toInt + x118.toInt = f4_.toInt + f3_.toInt by omega) (show x118.toInt ≤ f3_.toInt by omega) (show x118.toInt + f2_.toInt ≤ f3_.toInt + x152.toInt by omega) (show x118.toInt ≤ x152.toInt + f1_.toInt by omega) (show x144.toInt ≤ 390 by omega) (show x118.toInt ≤ 390 by omega) (show -60 ≤ x152.toInt by omega) (show brkN w0 (x118.toInt).toNat = brkN w0 (f3_.toInt).toNat from ((brk_step (by omega) (show f0_0_22.toInt = x118.toInt + 1 by omega) (show ¬ (gi w0 9 (x118.toInt).toNat).toInt = 91 by first | (rw [show (x118.toInt) = 1 * f0_0_22.toInt + -1 by omega, ← hF.gi kM_at9 rfl rfl, c158]; omega) | (rw [show (x118.toInt) = 1 * f0_0_22.toInt + -1 by omega, ← hF.gi kM_at9 rfl rfl, c158]; decide))).trans hcr0_7)) (show (x118.toInt - 0).toNat < n0 by omega) hw hT hF c156 c157 c154 c159 c160 (lv_sub hl [0, 1] rfl)
  exact L0 ((f3_.toInt - 0).toNat + 1) f2_ f3_ f4_ s.heap locs ls w0 (show 0 ≤ f1_.toInt by omega) (show f1_.toInt ≤ 60 by omega) (show (-60) ≤ f2_.toInt by omega) (show f2_.toInt ≤ 10 by omega) (show 0 ≤ f3_.toInt by omega) (show f3_.toInt ≤ 390 by omega) (show 0 ≤ f4_.toInt by omega) (show f4_.toInt ≤ 390 by omega) (show f4_.toInt + f3_.toInt = f4_.toInt + f3_.toInt by omega) (show f3_.toInt ≤ f3_.toInt by omega) (show f3_.toInt + f2_.toInt ≤ f3_.toInt + f2_.toInt by omega) (show f3_.toInt ≤ f2_.toInt + f1_.toInt by omega) (show f4_.toInt ≤ 390 by omega) (show f3_.toInt ≤ 390 by omega) (show -60 ≤ f2_.toInt by omega) (show brkN w0 (f3_.toInt).toNat = brkN w0 (f3_.toInt).toNat from rfl) (Nat.lt_succ_self _) hw hT hF cf0_ cf1_ cf2_ cf3_ cf4_ (lv_sub hl [0, 1] rfl)
abbrev P_X12_settles_2 (ad : Nat → Nat) (cy : Nat → ClassId) (B : Int) (qr : Nat) (s1 : Int)  (w0 : va_W) : va_W → Prop := fun u => TW ksM ad cy B qr 12 u ∧ FE ksM [(12, 19, 19), (12, 22, 22), (61, 0, 2400), (62, 0, 7)] w0 u ∧ (((∃ y : Int32, gi u 0 17 = y ∧ 0 ≤ y.toInt ∧ y.toInt ≤ 0) ∧ (∃ y : Int32, gi u 0 19 = y ∧ (-60) ≤ y.toInt ∧ y.toInt ≤ 10) ∧ (∃ y : Int32, gi u 0 22 = y ∧ 0 ≤ y.toInt ∧ y.toInt ≤ 390) ∧ ((gi u 3 0).toInt + (gi u 0 22).toInt = (gi w0 3 0).toInt + (gi w0 0 22).toInt) ∧ ((gi u 0 22).toInt ≤ (gi w0 0 22).toInt) ∧ ((gi u 0 22).toInt + (gi w0 0 19).toInt ≤ (gi w0 0 22).toInt + (gi u 0 19).toInt) ∧ ((gi u 0 22).toInt ≤ (gi u 0 19).toInt + (gi w0 0 18).toInt) ∧ ((gi u 0 22).toInt ≤ 390) ∧ ((gi u 3 0).toInt ≤ 390) ∧ (brkN w0 ((gi u 0 22).toInt).toNat = brkN w0 ((gi w0 0 22).toInt).toNat)))
set_option maxHeartbeats 4000000 in
set_option maxRecDepth 100000 in
theorem k_X12_settles_2 (l : Launch) (adK adV : Nat → Nat) (dC : Nat → ClassId) (dI : Nat → Nat → Nat) (cy : Nat → ClassId) (ad : Nat → Nat) (B : Int) (hB0 : 100000 ≤ B) (hB1 : B ≤ 1073741824) (qr : Nat) (s1 : Int)   (w0 : va_W) (sz : Nat) (hT : TW ksM ad cy B qr 12 w0) (cf0_ : gi w0 0 17 = 0) (f1_ : Int32) (cf1_ : gi w0 0 18 = f1_) (rf1_ : 0 ≤ f1_.toInt) (tf1_ : f1_.toInt ≤ 60) (f2_ : Int32) (cf2_ : gi w0 0 19 = f2_) (rf2_ : (-100) ≤ f2_.toInt) (tf2_ : f2_.toInt ≤ 10) (f3_ : Int32) (cf3_ : gi w0 0 22 = f3_) (rf3_ : 0 ≤ f3_.toInt) (tf3_ : f3_.toInt ≤ 400) (f4_ : Int32) (cf4_ : gi w0 3 0 = f4_) (rf4_ : 0 ≤ f4_.toInt) (tf4_ : f4_.toInt ≤ 400) (pr0_ : f4_.toInt + f3_.toInt ≤ 390) (pr1_ : f3_.toInt ≤ f2_.toInt + f1_.toInt) (pr2_ : f4_.toInt ≤ 390) (pr3_ : f3_.toInt ≤ 390) : Met l yX12_settles wsX12_settles ({ frames := 2, cells := 0, slots := 0, locals := 34 }) (va_Pc [.ref (ad 0), .int 3] (wpreS adK adV dC dI cy sz w0)) (va_Qv (P_X12_settles_2 ad cy B qr s1  w0) (fun u : va_W => wpost dC dI cy (va_A w0 sz) u) (va_A w0 sz)) 0 0 (va_A w0 sz) := by
  refine Met.ofW (cc := cX12_settles) (maxL := 2) (ret := none) (by decide) rfl ?_
  intro p e s m args below meth c s₁ Bk hml hv
  obtain ⟨rfl, ⟨hsz, hP, hK, hD0⟩, hE, hSR⟩ := hv
  have hx := Bk.exec
  have hb := Bk.bytes
  have hr := Bk.returns
  have hlocks := Bk.notSynchronized
  have hC : CallFix p m c cX12_settles 2 s _ wsX12_settles RX12 := ⟨hx, hb, hml, findClass_of_methodNamed Bk.named, atoms_spec (ws := wsX12_settles) Bk.pre⟩
  subst hsz
  have hD := hD0.self (sz := s.heap.size)
  generalize hAe : va_A w0 s.heap.size = A at hD hE ⊢
  have hA : ∀ q : Nat, s.heap.size ≤ q → A q := fun q h => by rw [← hAe]; exact Or.inr h
  have hw : Wd dC dI A s.heap s.heap [] w0 := ⟨hP, hD, va_S.rf⟩
  have hF : FE ksM [(12, 19, 19), (12, 22, 22), (61, 0, 2400), (62, 0, 7)] w0 w0 := FE.rf
  have hl := lv_entry ([.ref (ad 0), .int 3]) (n := 2) (Nat.le_of_ble_eq_true rfl)
  rw [lg_entry_eq]
  generalize (lg_sl ([.ref (ad 0), .int 3]) ++ List.replicate (2 - (lg_sl ([.ref (ad 0), .int 3])).length) Slot.unset).toArray = ls at hl ⊢
  have hl : lv_has ls 2 [(0, .ref (ad 0)), (1, .int 3)] := hl
  generalize hloc : ([] : List Loc) = locs at hw ⊢
  have hinX12 : ∀ w ∈ u_ws RX12 TX12 42, w ∈ wsX12_settles := fun _ h => List.mem_cons_of_mem _ (List.mem_append_right _ (h))
  have J76 : ∀ (f76_0_19 : Int32) (f76_0_22 : Int32) (f76_3_0 : Int32) (H : Heap) (locs : List Loc) (ls : Array Slot) (w1 : va_W), 0 ≤ f1_.toInt → f1_.toInt ≤ 60 → (-60) ≤ f76_0_19.toInt → f76_0_19.toInt ≤ 10 → 0 ≤ f76_0_22.toInt → f76_0_22.toInt ≤ 390 → 0 ≤ f76_3_0.toInt → f76_3_0.toInt ≤ 390 → (f76_3_0.toInt + f76_0_22.toInt = f4_.toInt + f3_.toInt) → (f76_0_22.toInt ≤ f3_.toInt) → (f76_0_22.toInt + f2_.toInt ≤ f3_.toInt + f76_0_19.toInt) → (f76_0_22.toInt ≤ f76_0_19.toInt + f1_.toInt) → (f76_3_0.toInt ≤ 390) → (f76_0_22.toInt ≤ 390) → (-60 ≤ f76_0_19.toInt) → (brkN w0 (f76_0_22.toInt).toNat = brkN w0 (f3_.toInt).toNat) → Wd dC dI A s.heap H locs w1 → TW ksM ad cy B qr 12 w1 → FE ksM [(12, 19, 19), (12, 22, 22), (61, 0, 2400), (62, 0, 7)] w0 w1 → gi w1 0 17 = 0 → gi w1 0 18 = f1_ → gi w1 0 19 = f76_0_19 → gi w1 0 22 = f76_0_22 → gi w1 3 0 = f76_3_0 → lv_has ls 2 [(0, .ref (ad 0)), (1, .int 3)] → W p l e ({ frames := 2, cells := 0, slots := 0, locals := 34 }) s m (List.toArray [.ref (ad 0), .int 3]) below meth c H locs 0 0 (MQ below (va_Qv (P_X12_settles_2 ad cy B qr s1  w0) (fun u : va_W => wpost dC dI cy A u) A) (List.toArray [.ref (ad 0), .int 3]) s 0 0 A) (F0 m 76 ls []) := by
    intro f76_0_19 f76_0_22 f76_3_0 H locs ls w1 r3 t4 r6 t7 r9 t10 r12 t13 hcr76_0 hcr76_1 hcr76_2 hcr76_3 hcr76_4 hcr76_5 hcr76_6 hcr76_7 hw hT hF c2 c5 c8 c11 c14 hl
    exact tk_vret hC hr hlocks hK ⟨hT, hF, ⟨⟨0, c2, (by decide), (by decide)⟩, ⟨f76_0_19, c8, (show (-60) ≤ f76_0_19.toInt by omega), (show f76_0_19.toInt ≤ 10 by omega)⟩, ⟨f76_0_22, c11, (show 0 ≤ f76_0_22.toInt by omega), (show f76_0_22.toInt ≤ 390 by omega)⟩, (by simp only [cf4_, c14, cf3_, c11]; omega), (by simp only [cf3_, c11]; omega), (by simp only [cf2_, c8, cf3_, c11]; omega), (by simp only [c8, cf1_, c11]; omega), (by simp only [c11]; omega), (by simp only [c14]; omega), (by simp only [cf3_, c11]; omega)⟩⟩ hw dX12_settles_76
  have L0 : ∀ (n0 : Nat) (f0_0_19 : Int32) (f0_0_22 : Int32) (f0_3_0 : Int32) (H : Heap) (locs : List Loc) (ls : Array Slot) (w15 : va_W), 0 ≤ f1_.toInt → f1_.toInt ≤ 60 → (-60) ≤ f0_0_19.toInt → f0_0_19.toInt ≤ 10 → 0 ≤ f0_0_22.toInt → f0_0_22.toInt ≤ 390 → 0 ≤ f0_3_0.toInt → f0_3_0.toInt ≤ 390 → (f0_3_0.toInt + f0_0_22.toInt = f4_.toInt + f3_.toInt) → (f0_0_22.toInt ≤ f3_.toInt) → (f0_0_22.toInt + f2_.toInt ≤ f3_.toInt + f0_0_19.toInt) → (f0_0_22.toInt ≤ f0_0_19.toInt + f1_.toInt) → (f0_3_0.toInt ≤ 390) → (f0_0_22.toInt ≤ 390) → (-60 ≤ f0_0_19.toInt) → (brkN w0 (f0_0_22.toInt).toNat = brkN w0 (f3_.toInt).toNat) → (f0_0_19.toInt - (-60)).toNat < n0 → Wd dC dI A s.heap H locs w15 → TW ksM ad cy B qr 12 w15 → FE ksM [(12, 19, 19), (12, 22, 22), (61, 0, 2400), (62, 0, 7)] w0 w15 → gi w15 0 17 = 0 → gi w15 0 18 = f1_ → gi w15 0 19 = f0_0_19 → gi w15 0 22 = f0_0_22 → gi w15 3 0 = f0_3_0 → lv_has ls 2 [(0, .ref (ad 0)), (1, .int 3)] → W p l e ({ frames := 2, cells := 0, slots := 0, locals := 34 }) s m (List.toArray [.ref (ad 0), .int 3]) below meth c H locs 0 0 (MQ below (va_Qv (P_X12_settles_2 ad cy B qr s1  w0) (fun u : va_W => wpost dC dI cy A u) A) (List.toArray [.ref (ad 0), .int 3]) s 0 0 A) (F0 m 0 ls []) := by
    intro n0
    induction n0 with
    | zero => intro f0_0_19 f0_0_22 f0_3_0 H locs ls w15 r17 t18 r20 t21 r23 t24 r26 t27 hcr0_0 hcr0_1 hcr0_2 hcr0_3 hcr0_4 hcr0_5 hcr0_6 hcr0_7 hm0 hw hT hF c16 c19 c22 c25 c28 hl; omega
    | succ n0 ih0 =>
      intro f0_0_19 f0_0_22 f0_3_0 H locs ls w15 r17 t18 r20 t21 r23 t24 r26 t27 hcr0_0 hcr0_1 hcr0_2 hcr0_3 hcr0_4 hcr0_5 hcr0_6 hcr0_7 hm0 hw hT hF c16 c19 c22 c25 c28 hl
      refine lv_aload_n hx hb dX12_settles_0 rfl (lv_at hl 0 rfl) ?_
      refine tk_geti hC hK hw hT hinX12 kM_at0 (by decide) rfl 22 (by decide) (List.mem_of_getElem? (i := 1) rfl) rfl rfl dX12_settles_1 (fun x29 c30 rx29 tx29 => ?_)
      refine wk_top f0_0_22 (c30.symm.trans c25) ?_
      refine lv_if_le (tgt := 76) hx hb dX12_settles_4 (by decide) (fun c31 => ?_) (fun c31 => ?_)
      · have c31 : f0_0_22.toInt ≤ (0 : Int) := wk_le.mp c31
        exact J76 f0_0_19 f0_0_22 f0_3_0 H locs ls w15 (show 0 ≤ f1_.toInt by omega) (show f1_.toInt ≤ 60 by omega) (show (-60) ≤ f0_0_19.toInt by omega) (show f0_0_19.toInt ≤ 10 by omega) (show 0 ≤ f0_0_22.toInt by omega) (show f0_0_22.toInt ≤ 390 by omega) (show 0 ≤ f0_3_0.toInt by omega) (show f0_3_0.toInt ≤ 390 by omega) (show f0_3_0.toInt + f0_0_22.toInt = f4_.toInt + f3_.toInt by omega) (show f0_0_22.toInt ≤ f3_.toInt by omega) (show f0_0_22.toInt + f2_.toInt ≤ f3_.toInt + f0_0_19.toInt by omega) (show f0_0_22.toInt ≤ f0_0_19.toInt + f1_.toInt by omega) (show f0_3_0.toInt ≤ 390 by omega) (show f0_0_22.toInt ≤ 390 by omega) (show -60 ≤ f0_0_19.toInt by omega) (show brkN w0 (f0_0_22.toInt).toNat = brkN w0 (f3_.toInt).toNat from hcr0_7)  hw hT hF c16 c19 c22 c25 c28 (lv_sub hl [0, 1] rfl)
      · have c31 : (0 : Int) < f0_0_22.toInt := wk_leF c31
        refine lv_aload_n hx hb dX12_settles_7 rfl (lv_at hl 0 rfl) ?_
        refine tk_getA hC hK hw hT hinX12 kM_at0 (by decide) rfl 21 (by decide) (List.mem_of_getElem? (i := 2) rfl) rfl rfl dX12_settles_8 ?_
        refine lv_aload_n hx hb dX12_settles_11 rfl (lv_at hl 0 rfl) ?_
        refine tk_geti hC hK hw hT hinX12 kM_at0 (by decide) rfl 22 (by decide) (List.mem_of_getElem? (i := 1) rfl) rfl rfl dX12_settles_12 (fun x32 c33 rx32 tx32 => ?_)
        refine wk_top f0_0_22 (c33.symm.trans c25) ?_
        refine lv_iconst (v := 1) hx hb dX12_settles_15 (by decide) ?_
        refine lv_isub hx hb dX12_settles_16 ?_
        refine lv_topi (fun x34 ex34 => ?_)
        have ex34 : x34.toInt = f0_0_22.toInt - (1 : Int) := by rw [ex34]; exact wk_sub (show (-2147483648) ≤ f0_0_22.toInt - (1 : Int) by omega) (show f0_0_22.toInt - (1 : Int) ≤ 2147483647 by omega)
        refine tk_iald hC hK hw hT kM_at9 rfl rfl (show 0 ≤ x34.toInt by omega) (show x34.toInt < 400 by omega) dX12_settles_17 (fun x35 c36 rx35 tx35 => ?_)
        have c36 : gi w15 9 (1 * f0_0_22.toInt + -1).toNat = x35 := (congrArg (gi w15 9) (congrArg Int.toNat (show 1 * f0_0_22.toInt + -1 = x34.toInt by omega))).trans c36
        refine tk_Si hC hK hw hT hA hE hSR (k_X12_strength_1 l adK adV dC dI cy ad B (by omega) (by omega) qr s1   x35 w15 H.size hT ) (va_cwS 1 hC.2.2.2.2 gX12_settles_X12_strength rfl rfl rfl (by decide +kernel) ⟨Nat.le_of_ble_eq_true rfl, Nat.le_of_ble_eq_true rfl⟩) rfl hl.1 rfl (Nat.le_of_ble_eq_true rfl) dX12_settles_18 (fun r37 w39 H locs hp38 hw => ?_)
        obtain ⟨rfl, hg47⟩ := hp38
        rcases hg47 with rfl | ⟨rfl, g41, g42⟩ | ⟨rfl, g43, g44⟩ | ⟨rfl, g45, g46⟩
        · refine lv_iload_n hx hb dX12_settles_21 rfl (lv_at hl 1 rfl) ?_
          refine lv_icmp_lt (tgt := 76) hx hb dX12_settles_22 (by decide) (fun _ => ?_) (fun c => absurd (by decide) c)
          exact J76 f0_0_19 f0_0_22 f0_3_0 H locs ls w15 (show 0 ≤ f1_.toInt by omega) (show f1_.toInt ≤ 60 by omega) (show (-60) ≤ f0_0_19.toInt by omega) (show f0_0_19.toInt ≤ 10 by omega) (show 0 ≤ f0_0_22.toInt by omega) (show f0_0_22.toInt ≤ 390 by omega) (show 0 ≤ f0_3_0.toInt by omega) (show f0_3_0.toInt ≤ 390 by omega) (show f0_3_0.toInt + f0_0_22.toInt = f4_.toInt + f3_.toInt by omega) (show f0_0_22.toInt ≤ f3_.toInt by omega) (show f0_0_22.toInt + f2_.toInt ≤ f3_.toInt + f0_0_19.toInt by omega) (show f0_0_22.toInt ≤ f0_0_19.toInt + f1_.toInt by omega) (show f0_3_0.toInt ≤ 390 by omega) (show f0_0_22.toInt ≤ 390 by omega) (show -60 ≤ f0_0_19.toInt by omega) (show brkN w0 (f0_0_22.toInt).toNat = brkN w0 (f3_.toInt).toNat from hcr0_7)  hw hT hF c16 c19 c22 c25 c28 (lv_sub hl [0, 1] rfl)
        · refine lv_iload_n hx hb dX12_settles_21 rfl (lv_at hl 1 rfl) ?_
          refine lv_icmp_lt (tgt := 76) hx hb dX12_settles_22 (by decide) (fun _ => ?_) (fun c => absurd (by decide) c)
          exact J76 f0_0_19 f0_0_22 f0_3_0 H locs ls w15 (show 0 ≤ f1_.toInt by omega) (show f1_.toInt ≤ 60 by omega) (show (-60) ≤ f0_0_19.toInt by omega) (show f0_0_19.toInt ≤ 10 by omega) (show 0 ≤ f0_0_22.toInt by omega) (show f0_0_22.toInt ≤ 390 by omega) (show 0 ≤ f0_3_0.toInt by omega) (show f0_3_0.toInt ≤ 390 by omega) (show f0_3_0.toInt + f0_0_22.toInt = f4_.toInt + f3_.toInt by omega) (show f0_0_22.toInt ≤ f3_.toInt by omega) (show f0_0_22.toInt + f2_.toInt ≤ f3_.toInt + f0_0_19.toInt by omega) (show f0_0_22.toInt ≤ f0_0_19.toInt + f1_.toInt by omega) (show f0_3_0.toInt ≤ 390 by omega) (show f0_0_22.toInt ≤ 390 by omega) (show -60 ≤ f0_0_19.toInt by omega) (show brkN w0 (f0_0_22.toInt).toNat = brkN w0 (f3_.toInt).toNat from hcr0_7)  hw hT hF c16 c19 c22 c25 c28 (lv_sub hl [0, 1] rfl)
        · refine lv_iload_n hx hb dX12_settles_21 rfl (lv_at hl 1 rfl) ?_
          refine lv_icmp_lt (tgt := 76) hx hb dX12_settles_22 (by decide) (fun _ => ?_) (fun c => absurd (by decide) c)
          exact J76 f0_0_19 f0_0_22 f0_3_0 H locs ls w15 (show 0 ≤ f1_.toInt by omega) (show f1_.toInt ≤ 60 by omega) (show (-60) ≤ f0_0_19.toInt by omega) (show f0_0_19.toInt ≤ 10 by omega) (show 0 ≤ f0_0_22.toInt by omega) (show f0_0_22.toInt ≤ 390 by omega) (show 0 ≤ f0_3_0.toInt by omega) (show f0_3_0.toInt ≤ 390 by omega) (show f0_3_0.toInt + f0_0_22.toInt = f4_.toInt + f3_.toInt by omega) (show f0_0_22.toInt ≤ f3_.toInt by omega) (show f0_0_22.toInt + f2_.toInt ≤ f3_.toInt + f0_0_19.toInt by omega) (show f0_0_22.toInt ≤ f0_0_19.toInt + f1_.toInt by omega) (show f0_3_0.toInt ≤ 390 by omega) (show f0_0_22.toInt ≤ 390 by omega) (show -60 ≤ f0_0_19.toInt by omega) (show brkN w0 (f0_0_22.toInt).toNat = brkN w0 (f3_.toInt).toNat from hcr0_7)  hw hT hF c16 c19 c22 c25 c28 (lv_sub hl [0, 1] rfl)
        · refine lv_iload_n hx hb dX12_settles_21 rfl (lv_at hl 1 rfl) ?_
          refine lv_icmp_lt (tgt := 76) hx hb dX12_settles_22 (by decide) (fun c => absurd c (by decide)) (fun _ => ?_)
          refine lv_aload_n hx hb dX12_settles_25 rfl (lv_at hl 0 rfl) ?_
          refine lv_dup hx hb dX12_settles_26 rfl ?_
          refine tk_geti hC hK hw hT hinX12 kM_at0 (by decide) rfl 22 (by decide) (List.mem_of_getElem? (i := 1) rfl) rfl rfl dX12_settles_27 (fun x48 c49 rx48 tx48 => ?_)
          refine wk_top f0_0_22 (c49.symm.trans c25) ?_
          refine lv_iconst (v := 1) hx hb dX12_settles_30 (by decide) ?_
          refine lv_isub hx hb dX12_settles_31 ?_
          refine lv_topi (fun x50 ex50 => ?_)
          have ex50 : x50.toInt = f0_0_22.toInt - (1 : Int) := by rw [ex50]; exact wk_sub (show (-2147483648) ≤ f0_0_22.toInt - (1 : Int) by omega) (show f0_0_22.toInt - (1 : Int) ≤ 2147483647 by omega)
          refine tk_puti hC hK hw hT hinX12 tyX12_ok nmX12 kM_at0 (by decide) rfl rfl 22 (by decide) (List.mem_of_getElem? (i := 1) rfl) rfl rfl rfl rfl (show 0 ≤ x50.toInt by omega) (show x50.toInt ≤ 400 by omega) dX12_settles_32 (fun H locs w51 hw hT k53 c52 => ?_)
          have hF := hF.put kM_at0 (k := 22) (by decide) k53
          have c54 := k53.gi (Or.inr (by decide)) c16
          have c55 := k53.gi (Or.inr (by decide)) c19
          have c56 := k53.gi (Or.inr (by decide)) c22
          have c57 := k53.gi (Or.inr (by decide)) c28
          have c58 := k53.gi (Or.inl (tk_ne kM_at9 kM_at0 (by decide))) c36
          refine lv_aload_n hx hb dX12_settles_35 rfl (lv_at hl 0 rfl) ?_
          refine lv_aload_n hx hb dX12_settles_36 rfl (lv_at hl 0 rfl) ?_
          refine tk_getA hC hK hw hT hinX12 kM_at0 (by decide) rfl 21 (by decide) (List.mem_of_getElem? (i := 2) rfl) rfl rfl dX12_settles_37 ?_
          refine lv_aload_n hx hb dX12_settles_40 rfl (lv_at hl 0 rfl) ?_
          refine tk_geti hC hK hw hT hinX12 kM_at0 (by decide) rfl 22 (by decide) (List.mem_of_getElem? (i := 1) rfl) rfl rfl dX12_settles_41 (fun x59 c60 rx59 tx59 => ?_)
          refine wk_top x50 (c60.symm.trans c52) ?_
          refine tk_iald hC hK hw hT kM_at9 rfl rfl (show 0 ≤ x50.toInt by omega) (show x50.toInt < 400 by omega) dX12_settles_44 (fun x61 c62 rx61 tx61 => ?_)
          have c62 : gi w51 9 (1 * f0_0_22.toInt + -1).toNat = x61 := (congrArg (gi w51 9) (congrArg Int.toNat (show 1 * f0_0_22.toInt + -1 = x50.toInt by omega))).trans c62
          refine wk_top x35 (c62.symm.trans c58) ?_
          refine lv_iconst (v := 0) hx hb dX12_settles_45 (by decide) ?_
          obtain rfl : x35 = 11 := wk_eq.mpr (show x35.toInt = 11 by omega)
          refine tk_Vv hC hK hw hT hA hE hSR kM_at0 (by decide) rfl (k_X12_puts_1 l adK adV dC dI cy ad B (by omega) (by omega) qr s1   11 (by decide) (by decide) 0 w51 H.size hT c54 f0_3_0 c57 (show 0 ≤ f0_3_0.toInt by omega) (show f0_3_0.toInt ≤ 400 by omega) (show f0_3_0.toInt ≤ 399 by omega)) (cwV 2 hC.2.2.2.2 gX12_settles_X12_puts rfl rfl rfl (by decide +kernel) ⟨Nat.le_of_ble_eq_true rfl, Nat.le_of_ble_eq_true rfl⟩) rfl hl.1 rfl (Nat.le_of_ble_eq_true rfl) dX12_settles_46 (fun w65 H locs hp64 hw => ?_)
          obtain ⟨hT, k66, hg70⟩ := hp64
          have hF := hF.tr k66 (by decide)
          have c71 := k66.gi kM_at0 (by decide) c54
          have c72 := k66.gi kM_at0 (by decide) c55
          have c73 := k66.gi kM_at0 (by decide) c56
          have c74 := k66.gi kM_at9 rfl c58
          have c75 := k66.gi kM_at0 (by decide) c52
          obtain ⟨⟨x67, c68, rx67, tx67⟩, g69⟩ := hg70
          have ex67 : x67.toInt = (0 : Int) := by rw [show x67 = 0 from c68.symm.trans c71]; decide
          obtain ⟨x76, c77, rx76, tx76⟩ := hT.rda (lo := 0) (hi := 400) (i := 0) kM_at3 rfl rfl (by decide)
          have g69 : x76.toInt = f0_3_0.toInt + 1 := by have q := g69; simp only [c57, c77] at q; omega
          refine lv_aload_n hx hb dX12_settles_49 rfl (lv_at hl 0 rfl) ?_
          refine tk_getA hC hK hw hT hinX12 kM_at0 (by decide) rfl 21 (by decide) (List.mem_of_getElem? (i := 2) rfl) rfl rfl dX12_settles_50 ?_
          refine lv_aload_n hx hb dX12_settles_53 rfl (lv_at hl 0 rfl) ?_
          refine tk_geti hC hK hw hT hinX12 kM_at0 (by decide) rfl 22 (by decide) (List.mem_of_getElem? (i := 1) rfl) rfl rfl dX12_settles_54 (fun x78 c79 rx78 tx78 => ?_)
          refine wk_top x50 (c79.symm.trans c75) ?_
          refine tk_iald hC hK hw hT kM_at9 rfl rfl (show 0 ≤ x50.toInt by omega) (show x50.toInt < 400 by omega) dX12_settles_57 (fun x80 c81 rx80 tx80 => ?_)
          have c81 : gi w65 9 (1 * f0_0_22.toInt + -1).toNat = x80 := (congrArg (gi w65 9) (congrArg Int.toNat (show 1 * f0_0_22.toInt + -1 = x50.toInt by omega))).trans c81
          refine wk_top 11 (c81.symm.trans c74) ?_
          refine lv_bipush (v := 11) hx hb dX12_settles_58 (by decide) ?_
          refine lv_icmp_ne (tgt := 0) hx hb dX12_settles_60 (by decide) (fun c => absurd (by decide) c) (fun _ => ?_)
          refine lv_aload_n hx hb dX12_settles_63 rfl (lv_at hl 0 rfl) ?_
          refine lv_dup hx hb dX12_settles_64 rfl ?_
          refine tk_geti hC hK hw hT hinX12 kM_at0 (by decide) rfl 19 (by decide) (List.mem_of_getElem? (i := 3) rfl) rfl rfl dX12_settles_65 (fun x82 c83 rx82 tx82 => ?_)
          refine wk_top f0_0_19 (c83.symm.trans c73) ?_
          refine lv_iconst (v := 1) hx hb dX12_settles_68 (by decide) ?_
          refine lv_isub hx hb dX12_settles_69 ?_
          refine lv_topi (fun x84 ex84 => ?_)
          have ex84 : x84.toInt = f0_0_19.toInt - (1 : Int) := by rw [ex84]; exact wk_sub (show (-2147483648) ≤ f0_0_19.toInt - (1 : Int) by omega) (show f0_0_19.toInt - (1 : Int) ≤ 2147483647 by omega)
          refine tk_puti hC hK hw hT hinX12 tyX12_ok nmX12 kM_at0 (by decide) rfl rfl 19 (by decide) (List.mem_of_getElem? (i := 3) rfl) rfl rfl rfl rfl (show (-100) ≤ x84.toInt by omega) (show x84.toInt ≤ 10 by omega) dX12_settles_70 (fun H locs w85 hw hT k87 c86 => ?_)
          have hF := hF.put kM_at0 (k := 19) (by decide) k87
          have c88 := k87.gi (Or.inr (by decide)) c71
          have c89 := k87.gi (Or.inr (by decide)) c72
          have c90 := k87.gi (Or.inl (tk_ne kM_at9 kM_at0 (by decide))) c74
          have c91 := k87.gi (Or.inr (by decide)) c75
          have c92 := k87.gi (Or.inr (by decide)) c77
          refine lv_goto (tgt := 0) hx hb dX12_settles_73 (by decide) ?_
          exact ih0 x84 x50 x76 H locs ls w85 (show 0 ≤ f1_.toInt by omega) (show f1_.toInt ≤ 60 by omega) (show (-60) ≤ x84.toInt by omega) (show x84.toInt ≤ 10 by omega) (show 0 ≤ x50.toInt by omega) (show x50.toInt ≤ 390 by omega) (show 0 ≤ x76.toInt by omega) (show x76.toInt ≤ 390 by omega) (show x76.toInt + x50.toInt = f4_.toInt + f3_.toInt by omega) (show x50.toInt ≤ f3_.toInt by omega) (show x50.toInt + f2_.toInt ≤ f3_.toInt + x84.toInt by omega) (show x50.toInt ≤ x84.toInt + f1_.toInt by omega) (show x76.toInt ≤ 390 by omega) (show x50.toInt ≤ 390 by omega) (show -60 ≤ x84.toInt by omega) (show brkN w0 (x50.toInt).toNat = brkN w0 (f3_.toInt).toNat from ((brk_step (by omega) (show f0_0_22.toInt = x50.toInt + 1 by omega) (show ¬ (gi w0 9 (x50.toInt).toNat).toInt = 91 by first | (rw [show (x50.toInt) = 1 * f0_0_22.toInt + -1 by omega, ← hF.gi kM_at9 rfl rfl, c90]; omega) | (rw [show (x50.toInt) = 1 * f0_0_22.toInt + -1 by omega, ← hF.gi kM_at9 rfl rfl, c90]; decide))).trans hcr0_7)) (show (x84.toInt - (-60)).toNat < n0 by omega) hw hT hF c88 c89 c86 c91 c92 (lv_sub hl [0, 1] rfl)
  exact L0 ((f2_.toInt - (-60)).toNat + 1) f2_ f3_ f4_ s.heap locs ls w0 (show 0 ≤ f1_.toInt by omega) (show f1_.toInt ≤ 60 by omega) (show (-60) ≤ f2_.toInt by omega) (show f2_.toInt ≤ 10 by omega) (show 0 ≤ f3_.toInt by omega) (show f3_.toInt ≤ 390 by omega) (show 0 ≤ f4_.toInt by omega) (show f4_.toInt ≤ 390 by omega) (show f4_.toInt + f3_.toInt = f4_.toInt + f3_.toInt by omega) (show f3_.toInt ≤ f3_.toInt by omega) (show f3_.toInt + f2_.toInt ≤ f3_.toInt + f2_.toInt by omega) (show f3_.toInt ≤ f2_.toInt + f1_.toInt by omega) (show f4_.toInt ≤ 390 by omega) (show f3_.toInt ≤ 390 by omega) (show -60 ≤ f2_.toInt by omega) (show brkN w0 (f3_.toInt).toNat = brkN w0 (f3_.toInt).toNat from rfl) (Nat.lt_succ_self _) hw hT hF cf0_ cf1_ cf2_ cf3_ cf4_ (lv_sub hl [0, 1] rfl)
abbrev P_X12_closes_1 (ad : Nat → Nat) (cy : Nat → ClassId) (B : Int) (qr : Nat) (s1 : Int)  (w0 : va_W) : va_W → Prop := fun u => TW ksM ad cy B qr 12 u ∧ FE ksM [(12, 14, 14), (12, 19, 19), (12, 22, 22), (61, 0, 2400), (62, 0, 7)] w0 u ∧ (((∃ y : Int32, gi u 0 1 = y ∧ 0 ≤ y.toInt ∧ y.toInt ≤ 400) ∧ (∃ y : Int32, gi u 0 17 = y ∧ 0 ≤ y.toInt ∧ y.toInt ≤ 0) ∧ (∃ y : Int32, gi u 0 19 = y ∧ (-60) ≤ y.toInt ∧ y.toInt ≤ 10) ∧ (∃ y : Int32, gi u 0 22 = y ∧ 0 ≤ y.toInt ∧ y.toInt ≤ 390) ∧ ((gi u 3 0).toInt + (gi u 0 22).toInt ≤ (gi w0 3 0).toInt + (gi w0 0 22).toInt) ∧ ((gi u 0 22).toInt + (gi w0 0 19).toInt ≤ (gi w0 0 22).toInt + (gi u 0 19).toInt) ∧ ((gi u 0 22).toInt ≤ (gi u 0 19).toInt + (gi w0 0 18).toInt) ∧ ((gi u 0 22).toInt ≤ 390) ∧ ((gi u 3 0).toInt ≤ 390)))
set_option maxHeartbeats 4000000 in
set_option maxRecDepth 100000 in
theorem k_X12_closes_1 (l : Launch) (adK adV : Nat → Nat) (dC : Nat → ClassId) (dI : Nat → Nat → Nat) (cy : Nat → ClassId) (ad : Nat → Nat) (B : Int) (hB0 : 100000 ≤ B) (hB1 : B ≤ 1073741824) (qr : Nat) (s1 : Int)   (w0 : va_W) (sz : Nat) (hT : TW ksM ad cy B qr 12 w0) (cf0_ : gi w0 0 17 = 0) (f1_ : Int32) (cf1_ : gi w0 0 18 = f1_) (rf1_ : 0 ≤ f1_.toInt) (tf1_ : f1_.toInt ≤ 60) (f2_ : Int32) (cf2_ : gi w0 0 19 = f2_) (rf2_ : (-100) ≤ f2_.toInt) (tf2_ : f2_.toInt ≤ 10) (f3_ : Int32) (cf3_ : gi w0 0 22 = f3_) (rf3_ : 0 ≤ f3_.toInt) (tf3_ : f3_.toInt ≤ 400) (f4_ : Int32) (cf4_ : gi w0 3 0 = f4_) (rf4_ : 0 ≤ f4_.toInt) (tf4_ : f4_.toInt ≤ 400) (pr0_ : f4_.toInt + f3_.toInt ≤ 390) (pr1_ : f3_.toInt ≤ f2_.toInt + f1_.toInt) (pr2_ : f4_.toInt ≤ 390) (pr3_ : f3_.toInt ≤ 390) : Met l yX12_closes wsX12_closes ({ frames := 3, cells := 0, slots := 0, locals := 55 }) (va_Pc [.ref (ad 0)] (wpreS adK adV dC dI cy sz w0)) (va_Qv (P_X12_closes_1 ad cy B qr s1  w0) (fun u : va_W => wpost dC dI cy (va_A w0 sz) u) (va_A w0 sz)) 0 0 (va_A w0 sz) := by
  refine Met.ofW (cc := cX12_closes) (maxL := 1) (ret := none) (by decide) rfl ?_
  intro p e s m args below meth c s₁ Bk hml hv
  obtain ⟨rfl, ⟨hsz, hP, hK, hD0⟩, hE, hSR⟩ := hv
  have hx := Bk.exec
  have hb := Bk.bytes
  have hr := Bk.returns
  have hlocks := Bk.notSynchronized
  have hC : CallFix p m c cX12_closes 1 s _ wsX12_closes RX12 := ⟨hx, hb, hml, findClass_of_methodNamed Bk.named, atoms_spec (ws := wsX12_closes) Bk.pre⟩
  subst hsz
  have hD := hD0.self (sz := s.heap.size)
  generalize hAe : va_A w0 s.heap.size = A at hD hE ⊢
  have hA : ∀ q : Nat, s.heap.size ≤ q → A q := fun q h => by rw [← hAe]; exact Or.inr h
  have hw : Wd dC dI A s.heap s.heap [] w0 := ⟨hP, hD, va_S.rf⟩
  have hF : FE ksM [(12, 14, 14), (12, 19, 19), (12, 22, 22), (61, 0, 2400), (62, 0, 7)] w0 w0 := FE.rf
  have hl := lv_entry ([.ref (ad 0)]) (n := 1) (Nat.le_of_ble_eq_true rfl)
  rw [lg_entry_eq]
  generalize (lg_sl ([.ref (ad 0)]) ++ List.replicate (1 - (lg_sl ([.ref (ad 0)])).length) Slot.unset).toArray = ls at hl ⊢
  have hl : lv_has ls 1 [(0, .ref (ad 0))] := hl
  generalize hloc : ([] : List Loc) = locs at hw ⊢
  have hinX12 : ∀ w ∈ u_ws RX12 TX12 42, w ∈ wsX12_closes := fun _ h => List.mem_cons_of_mem _ (List.mem_append_right _ (h))
  have J64 : ∀ (f64_0_1 : Int32) (f64_0_14 : Int32) (f64_0_19 : Int32) (f64_0_22 : Int32) (f64_3_0 : Int32) (H : Heap) (locs : List Loc) (ls : Array Slot) (w1 : va_W), 0 ≤ f64_0_1.toInt → f64_0_1.toInt ≤ 400 → 0 ≤ f64_0_14.toInt → f64_0_14.toInt ≤ 400 → 0 ≤ f1_.toInt → f1_.toInt ≤ 60 → (-60) ≤ f64_0_19.toInt → f64_0_19.toInt ≤ 10 → 0 ≤ f64_0_22.toInt → f64_0_22.toInt ≤ 390 → 0 ≤ f64_3_0.toInt → f64_3_0.toInt ≤ 390 → (f64_3_0.toInt + f64_0_22.toInt ≤ f4_.toInt + f3_.toInt) → (f64_0_22.toInt + f2_.toInt ≤ f3_.toInt + f64_0_19.toInt) → (f64_0_22.toInt ≤ f64_0_19.toInt + f1_.toInt) → (f64_3_0.toInt ≤ 390) → (f64_0_22.toInt ≤ 390) → (-60 ≤ f64_0_19.toInt) → Wd dC dI A s.heap H locs w1 → TW ksM ad cy B qr 12 w1 → FE ksM [(12, 14, 14), (12, 19, 19), (12, 22, 22), (61, 0, 2400), (62, 0, 7)] w0 w1 → gi w1 0 1 = f64_0_1 → gi w1 0 14 = f64_0_14 → gi w1 0 17 = 0 → gi w1 0 18 = f1_ → gi w1 0 19 = f64_0_19 → gi w1 0 22 = f64_0_22 → gi w1 3 0 = f64_3_0 → lv_has ls 1 [(0, .ref (ad 0))] → W p l e ({ frames := 3, cells := 0, slots := 0, locals := 55 }) s m (List.toArray [.ref (ad 0)]) below meth c H locs 0 0 (MQ below (va_Qv (P_X12_closes_1 ad cy B qr s1  w0) (fun u : va_W => wpost dC dI cy A u) A) (List.toArray [.ref (ad 0)]) s 0 0 A) (F0 m 64 ls []) := by
    intro f64_0_1 f64_0_14 f64_0_19 f64_0_22 f64_3_0 H locs ls w1 r2 t3 r5 t6 r9 t10 r12 t13 r15 t16 r18 t19 hcr64_0 hcr64_1 hcr64_2 hcr64_3 hcr64_4 hcr64_5 hw hT hF c4 c7 c8 c11 c14 c17 c20 hl
    exact tk_vret hC hr hlocks hK ⟨hT, hF, ⟨⟨f64_0_1, c4, (show 0 ≤ f64_0_1.toInt by omega), (show f64_0_1.toInt ≤ 400 by omega)⟩, ⟨0, c8, (by decide), (by decide)⟩, ⟨f64_0_19, c14, (show (-60) ≤ f64_0_19.toInt by omega), (show f64_0_19.toInt ≤ 10 by omega)⟩, ⟨f64_0_22, c17, (show 0 ≤ f64_0_22.toInt by omega), (show f64_0_22.toInt ≤ 390 by omega)⟩, (by simp only [cf4_, c20, cf3_, c17]; omega), (by simp only [cf2_, c14, cf3_, c17]; omega), (by simp only [c14, cf1_, c17]; omega), (by simp only [c17]; omega), (by simp only [c20]; omega)⟩⟩ hw dX12_closes_64
  have L5 : ∀ (n5 : Nat) (f5_0_19 : Int32) (f5_0_22 : Int32) (f5_3_0 : Int32) (H : Heap) (locs : List Loc) (ls : Array Slot) (w21 : va_W), 0 ≤ f1_.toInt → f1_.toInt ≤ 60 → (-60) ≤ f5_0_19.toInt → f5_0_19.toInt ≤ 10 → 0 ≤ f5_0_22.toInt → f5_0_22.toInt ≤ 390 → 0 ≤ f5_3_0.toInt → f5_3_0.toInt ≤ 390 → (f5_3_0.toInt + f5_0_22.toInt ≤ f4_.toInt + f3_.toInt) → (f5_0_22.toInt + f2_.toInt ≤ f3_.toInt + f5_0_19.toInt) → (f5_0_22.toInt ≤ f5_0_19.toInt + f1_.toInt) → (f5_3_0.toInt ≤ 390) → (f5_0_22.toInt ≤ 390) → (-60 ≤ f5_0_19.toInt) → (f5_0_22.toInt - 0).toNat < n5 → Wd dC dI A s.heap H locs w21 → TW ksM ad cy B qr 12 w21 → FE ksM [(12, 14, 14), (12, 19, 19), (12, 22, 22), (61, 0, 2400), (62, 0, 7)] w0 w21 → gi w21 0 17 = 0 → gi w21 0 18 = f1_ → gi w21 0 19 = f5_0_19 → gi w21 0 22 = f5_0_22 → gi w21 3 0 = f5_3_0 → lv_has ls 1 [(0, .ref (ad 0))] → W p l e ({ frames := 3, cells := 0, slots := 0, locals := 55 }) s m (List.toArray [.ref (ad 0)]) below meth c H locs 0 0 (MQ below (va_Qv (P_X12_closes_1 ad cy B qr s1  w0) (fun u : va_W => wpost dC dI cy A u) A) (List.toArray [.ref (ad 0)]) s 0 0 A) (F0 m 5 ls []) := by
    intro n5
    induction n5 with
    | zero => intro f5_0_19 f5_0_22 f5_3_0 H locs ls w21 r23 t24 r26 t27 r29 t30 r32 t33 hcr5_0 hcr5_1 hcr5_2 hcr5_3 hcr5_4 hcr5_5 hm5 hw hT hF c22 c25 c28 c31 c34 hl; omega
    | succ n5 ih5 =>
      intro f5_0_19 f5_0_22 f5_3_0 H locs ls w21 r23 t24 r26 t27 r29 t30 r32 t33 hcr5_0 hcr5_1 hcr5_2 hcr5_3 hcr5_4 hcr5_5 hm5 hw hT hF c22 c25 c28 c31 c34 hl
      refine lv_aload_n hx hb dX12_closes_5 rfl (lv_at hl 0 rfl) ?_
      obtain ⟨x35, c36, rx35, tx35⟩ := hT.rdi (lo := 0) (hi := 400) (k := 14) kM_at0 (by decide) rfl
      refine tk_Vi hC hK hw hT hA hE hSR kM_at0 (by decide) rfl (k_X12_see_1 l adK adV dC dI cy ad B (by omega) (by omega) qr s1    w21 H.size hT x35 c36 (show 0 ≤ x35.toInt by omega) (show x35.toInt ≤ 400 by omega)) (cwV 0 hC.2.2.2.2 gX12_closes_X12_see rfl rfl rfl (by decide +kernel) ⟨Nat.le_of_ble_eq_true rfl, Nat.le_of_ble_eq_true rfl⟩) rfl hl.1 rfl (Nat.le_of_ble_eq_true rfl) dX12_closes_6 (fun r37 w39 H locs hp38 hw => ?_)
      obtain ⟨hT, k40, hg57⟩ := hp38
      have hF := hF.tr k40 (by decide)
      have c58 := k40.gi kM_at0 (by decide) c22
      have c59 := k40.gi kM_at0 (by decide) c25
      have c60 := k40.gi kM_at0 (by decide) c28
      have c61 := k40.gi kM_at0 (by decide) c31
      have c62 := k40.gi kM_at3 (by decide) c34
      rcases hg57 with ⟨g41, g42, ⟨x43, c44, rx43, tx43⟩, ⟨x45, c46, rx45, tx45⟩, g47, g48⟩ | ⟨rfl, ⟨x49, c50, rx49, tx49⟩, ⟨x51, c52, rx51, tx51⟩, g53⟩ | ⟨rfl, ⟨x54, c55, rx54, tx54⟩, g56⟩
      · have g47 : (gi w39 1 (x45.toInt).toNat).toInt ≠ 32 := by have q := g47; simp only [c46] at q; omega
        have g48 : (x45.toInt = x35.toInt ∨ (gi w21 1 (x35.toInt).toNat).toInt = 32) := by have q := g48; simp only [c36, c46] at q; omega
        refine lv_bipush (v := 93) hx hb dX12_closes_9 (by decide) ?_
        refine lv_icmp_ne (tgt := 64) hx hb dX12_closes_11 (by decide) (fun c65 => ?_) (fun c65 => ?_)
        · have c65 : ¬ r37.toInt = (93 : Int) := wk_eqF c65
          exact J64 x43 x45 f5_0_19 f5_0_22 f5_3_0 H locs ls w39 (show 0 ≤ x43.toInt by omega) (show x43.toInt ≤ 400 by omega) (show 0 ≤ x45.toInt by omega) (show x45.toInt ≤ 400 by omega) (show 0 ≤ f1_.toInt by omega) (show f1_.toInt ≤ 60 by omega) (show (-60) ≤ f5_0_19.toInt by omega) (show f5_0_19.toInt ≤ 10 by omega) (show 0 ≤ f5_0_22.toInt by omega) (show f5_0_22.toInt ≤ 390 by omega) (show 0 ≤ f5_3_0.toInt by omega) (show f5_3_0.toInt ≤ 390 by omega) (show f5_3_0.toInt + f5_0_22.toInt ≤ f4_.toInt + f3_.toInt by omega) (show f5_0_22.toInt + f2_.toInt ≤ f3_.toInt + f5_0_19.toInt by omega) (show f5_0_22.toInt ≤ f5_0_19.toInt + f1_.toInt by omega) (show f5_3_0.toInt ≤ 390 by omega) (show f5_0_22.toInt ≤ 390 by omega) (show -60 ≤ f5_0_19.toInt by omega)  hw hT hF c44 c46 c58 c59 c60 c61 c62 (lv_sub hl [0] rfl)
        · have c65 : r37.toInt = (93 : Int) := wk_eq.mp c65
          refine lv_aload_n hx hb dX12_closes_14 rfl (lv_at hl 0 rfl) ?_
          refine tk_Vi hC hK hw hT hA hE hSR kM_at0 (by decide) rfl (k_X12_isInside_1 l adK adV dC dI cy ad B (by omega) (by omega) qr s1    w39 H.size hT ) (cwV 0 hC.2.2.2.2 gX12_closes_X12_isInside rfl rfl rfl (by decide +kernel) ⟨Nat.le_of_ble_eq_true rfl, Nat.le_of_ble_eq_true rfl⟩) rfl hl.1 rfl (Nat.le_of_ble_eq_true rfl) dX12_closes_15 (fun r66 w68 H locs hp67 hw => ?_)
          obtain ⟨rfl, hg73⟩ := hp67
          rcases hg73 with rfl | ⟨rfl, ⟨x70, c71, rx70, tx70⟩, hq72⟩
          · refine lv_if_eq (tgt := 64) hx hb dX12_closes_18 (by decide) (fun _ => ?_) (fun c => absurd (by decide) c)
            exact J64 x43 x45 f5_0_19 f5_0_22 f5_3_0 H locs ls w39 (show 0 ≤ x43.toInt by omega) (show x43.toInt ≤ 400 by omega) (show 0 ≤ x45.toInt by omega) (show x45.toInt ≤ 400 by omega) (show 0 ≤ f1_.toInt by omega) (show f1_.toInt ≤ 60 by omega) (show (-60) ≤ f5_0_19.toInt by omega) (show f5_0_19.toInt ≤ 10 by omega) (show 0 ≤ f5_0_22.toInt by omega) (show f5_0_22.toInt ≤ 390 by omega) (show 0 ≤ f5_3_0.toInt by omega) (show f5_3_0.toInt ≤ 390 by omega) (show f5_3_0.toInt + f5_0_22.toInt ≤ f4_.toInt + f3_.toInt by omega) (show f5_0_22.toInt + f2_.toInt ≤ f3_.toInt + f5_0_19.toInt by omega) (show f5_0_22.toInt ≤ f5_0_19.toInt + f1_.toInt by omega) (show f5_3_0.toInt ≤ 390 by omega) (show f5_0_22.toInt ≤ 390 by omega) (show -60 ≤ f5_0_19.toInt by omega)  hw hT hF c44 c46 c58 c59 c60 c61 c62 (lv_sub hl [0] rfl)
          · have ex70 : x70.toInt = f5_0_22.toInt := by rw [← c61.symm.trans c71]
            refine lv_if_eq (tgt := 64) hx hb dX12_closes_18 (by decide) (fun c => absurd c (by decide)) (fun _ => ?_)
            refine lv_aload_n hx hb dX12_closes_21 rfl (lv_at hl 0 rfl) ?_
            refine lv_iconst (v := 1) hx hb dX12_closes_22 (by decide) ?_
            refine tk_Vv hC hK hw hT hA hE hSR kM_at0 (by decide) rfl (k_X12_settles_1 l adK adV dC dI cy ad B (by omega) (by omega) qr s1    w39 H.size hT c58 f1_ c59 (show 0 ≤ f1_.toInt by omega) (show f1_.toInt ≤ 60 by omega) f5_0_19 c60 (show (-100) ≤ f5_0_19.toInt by omega) (show f5_0_19.toInt ≤ 10 by omega) f5_0_22 c61 (show 0 ≤ f5_0_22.toInt by omega) (show f5_0_22.toInt ≤ 400 by omega) f5_3_0 c62 (show 0 ≤ f5_3_0.toInt by omega) (show f5_3_0.toInt ≤ 400 by omega) (show f5_3_0.toInt + f5_0_22.toInt ≤ 390 by omega) (show f5_0_22.toInt ≤ f5_0_19.toInt + f1_.toInt by omega) (show f5_3_0.toInt ≤ 390 by omega) (show f5_0_22.toInt ≤ 390 by omega)) (cwV 1 hC.2.2.2.2 gX12_closes_X12_settles rfl rfl rfl (by decide +kernel) ⟨Nat.le_of_ble_eq_true rfl, Nat.le_of_ble_eq_true rfl⟩) rfl hl.1 rfl (Nat.le_of_ble_eq_true rfl) dX12_closes_23 (fun w76 H locs hp75 hw => ?_)
            obtain ⟨hT, k77, hg91⟩ := hp75
            have hF := hF.tr k77 (by decide)
            have c92 := k77.gi kM_at0 (by decide) c58
            have c93 := k77.gi kM_at0 (by decide) c59
            have c94 := k77.gi kM_at0 (by decide) c44
            have c95 := k77.gi kM_at0 (by decide) c46
            obtain ⟨⟨x78, c79, rx78, tx78⟩, ⟨x80, c81, rx80, tx80⟩, ⟨x82, c83, rx82, tx82⟩, g84, g85, g86, g87, g88, g89, g90⟩ := hg91
            have ex78 : x78.toInt = (0 : Int) := by rw [show x78 = 0 from c79.symm.trans c92]; decide
            obtain ⟨x96, c97, rx96, tx96⟩ := hT.rda (lo := 0) (hi := 400) (i := 0) kM_at3 rfl rfl (by decide)
            have g84 : x96.toInt + x82.toInt = f5_3_0.toInt + f5_0_22.toInt := by have q := g84; simp only [c62, c97, c61, c83] at q; omega
            have g85 : x82.toInt ≤ f5_0_22.toInt := by have q := g85; simp only [c61, c83] at q; omega
            have g86 : x82.toInt + f5_0_19.toInt ≤ f5_0_22.toInt + x80.toInt := by have q := g86; simp only [c60, c81, c61, c83] at q; omega
            have g87 : x82.toInt ≤ x80.toInt + f1_.toInt := by have q := g87; simp only [c81, c59, c83] at q; omega
            have g88 : x82.toInt ≤ 390 := by have q := g88; simp only [c83] at q; omega
            have g89 : x96.toInt ≤ 390 := by have q := g89; simp only [c97] at q; omega
            have g90 : brkN w39 (x82.toInt).toNat = brkN w39 (f5_0_22.toInt).toNat := by have q := g90; simp only [c61, c83] at q; omega
            have hbl := brk_le w39 (x82.toInt).toNat
            have hbi := hq72
            rw [c61] at hbi
            have g98 : 1 ≤ x82.toInt := by omega
            refine lv_aload_n hx hb dX12_closes_26 rfl (lv_at hl 0 rfl) ?_
            refine lv_dup hx hb dX12_closes_27 rfl ?_
            refine tk_geti hC hK hw hT hinX12 kM_at0 (by decide) rfl 22 (by decide) (List.mem_of_getElem? (i := 1) rfl) rfl rfl dX12_closes_28 (fun x99 c100 rx99 tx99 => ?_)
            refine wk_top x82 (c100.symm.trans c83) ?_
            refine lv_iconst (v := 1) hx hb dX12_closes_31 (by decide) ?_
            refine lv_isub hx hb dX12_closes_32 ?_
            refine lv_topi (fun x101 ex101 => ?_)
            have ex101 : x101.toInt = x82.toInt - (1 : Int) := by rw [ex101]; exact wk_sub (show (-2147483648) ≤ x82.toInt - (1 : Int) by omega) (show x82.toInt - (1 : Int) ≤ 2147483647 by omega)
            refine tk_puti hC hK hw hT hinX12 tyX12_ok nmX12 kM_at0 (by decide) rfl rfl 22 (by decide) (List.mem_of_getElem? (i := 1) rfl) rfl rfl rfl rfl (show 0 ≤ x101.toInt by omega) (show x101.toInt ≤ 400 by omega) dX12_closes_33 (fun H locs w102 hw hT k104 c103 => ?_)
            have hF := hF.put kM_at0 (k := 22) (by decide) k104
            have c105 := k104.gi (Or.inr (by decide)) c92
            have c106 := k104.gi (Or.inr (by decide)) c93
            have c107 := k104.gi (Or.inr (by decide)) c94
            have c108 := k104.gi (Or.inr (by decide)) c95
            have c109 := k104.gi (Or.inr (by decide)) c81
            have c110 := k104.gi (Or.inr (by decide)) c97
            refine lv_aload_n hx hb dX12_closes_36 rfl (lv_at hl 0 rfl) ?_
            refine lv_dup hx hb dX12_closes_37 rfl ?_
            refine tk_geti hC hK hw hT hinX12 kM_at0 (by decide) rfl 19 (by decide) (List.mem_of_getElem? (i := 2) rfl) rfl rfl dX12_closes_38 (fun x111 c112 rx111 tx111 => ?_)
            refine wk_top x80 (c112.symm.trans c109) ?_
            refine lv_iconst (v := 1) hx hb dX12_closes_41 (by decide) ?_
            refine lv_isub hx hb dX12_closes_42 ?_
            refine lv_topi (fun x113 ex113 => ?_)
            have ex113 : x113.toInt = x80.toInt - (1 : Int) := by rw [ex113]; exact wk_sub (show (-2147483648) ≤ x80.toInt - (1 : Int) by omega) (show x80.toInt - (1 : Int) ≤ 2147483647 by omega)
            refine tk_puti hC hK hw hT hinX12 tyX12_ok nmX12 kM_at0 (by decide) rfl rfl 19 (by decide) (List.mem_of_getElem? (i := 2) rfl) rfl rfl rfl rfl (show (-100) ≤ x113.toInt by omega) (show x113.toInt ≤ 10 by omega) dX12_closes_43 (fun H locs w114 hw hT k116 c115 => ?_)
            have hF := hF.put kM_at0 (k := 19) (by decide) k116
            have c117 := k116.gi (Or.inr (by decide)) c105
            have c118 := k116.gi (Or.inr (by decide)) c106
            have c119 := k116.gi (Or.inr (by decide)) c107
            have c120 := k116.gi (Or.inr (by decide)) c108
            have c121 := k116.gi (Or.inr (by decide)) c110
            have c122 := k116.gi (Or.inr (by decide)) c103
            refine lv_aload_n hx hb dX12_closes_46 rfl (lv_at hl 0 rfl) ?_
            refine lv_dup hx hb dX12_closes_47 rfl ?_
            refine tk_geti hC hK hw hT hinX12 kM_at0 (by decide) rfl 14 (by decide) (List.mem_of_getElem? (i := 3) rfl) rfl rfl dX12_closes_48 (fun x123 c124 rx123 tx123 => ?_)
            refine wk_top x45 (c124.symm.trans c120) ?_
            refine lv_iconst (v := 1) hx hb dX12_closes_51 (by decide) ?_
            refine lv_iadd hx hb dX12_closes_52 ?_
            refine lv_topi (fun x125 ex125 => ?_)
            have ex125 : x125.toInt = x45.toInt + (1 : Int) := by rw [ex125]; exact wk_add (show (-2147483648) ≤ x45.toInt + (1 : Int) by omega) (show x45.toInt + (1 : Int) ≤ 2147483647 by omega)
            refine tk_puti hC hK hw hT hinX12 tyX12_ok nmX12 kM_at0 (by decide) rfl rfl 14 (by decide) (List.mem_of_getElem? (i := 3) rfl) rfl rfl rfl rfl (show 0 ≤ x125.toInt by omega) (show x125.toInt ≤ 400 by omega) dX12_closes_53 (fun H locs w126 hw hT k128 c127 => ?_)
            have hF := hF.put kM_at0 (k := 14) (by decide) k128
            have c129 := k128.gi (Or.inr (by decide)) c117
            have c130 := k128.gi (Or.inr (by decide)) c118
            have c131 := k128.gi (Or.inr (by decide)) c119
            have c132 := k128.gi (Or.inr (by decide)) c121
            have c133 := k128.gi (Or.inr (by decide)) c122
            have c134 := k128.gi (Or.inr (by decide)) c115
            refine lv_aload_n hx hb dX12_closes_56 rfl (lv_at hl 0 rfl) ?_
            refine lv_iconst (v := 3) hx hb dX12_closes_57 (by decide) ?_
            refine tk_Vv hC hK hw hT hA hE hSR kM_at0 (by decide) rfl (k_X12_settles_2 l adK adV dC dI cy ad B (by omega) (by omega) qr s1    w126 H.size hT c129 f1_ c130 (show 0 ≤ f1_.toInt by omega) (show f1_.toInt ≤ 60 by omega) x113 c134 (show (-100) ≤ x113.toInt by omega) (show x113.toInt ≤ 10 by omega) x101 c133 (show 0 ≤ x101.toInt by omega) (show x101.toInt ≤ 400 by omega) x96 c132 (show 0 ≤ x96.toInt by omega) (show x96.toInt ≤ 400 by omega) (show x96.toInt + x101.toInt ≤ 390 by omega) (show x101.toInt ≤ x113.toInt + f1_.toInt by omega) (show x96.toInt ≤ 390 by omega) (show x101.toInt ≤ 390 by omega)) (cwV 1 hC.2.2.2.2 gX12_closes_X12_settles rfl rfl rfl (by decide +kernel) ⟨Nat.le_of_ble_eq_true rfl, Nat.le_of_ble_eq_true rfl⟩) rfl hl.1 rfl (Nat.le_of_ble_eq_true rfl) dX12_closes_58 (fun w137 H locs hp136 hw => ?_)
            obtain ⟨hT, k138, hg152⟩ := hp136
            have hF := hF.tr k138 (by decide)
            have c153 := k138.gi kM_at0 (by decide) c129
            have c154 := k138.gi kM_at0 (by decide) c130
            have c155 := k138.gi kM_at0 (by decide) c131
            have c156 := k138.gi kM_at0 (by decide) c127
            obtain ⟨⟨x139, c140, rx139, tx139⟩, ⟨x141, c142, rx141, tx141⟩, ⟨x143, c144, rx143, tx143⟩, g145, g146, g147, g148, g149, g150, g151⟩ := hg152
            have ex139 : x139.toInt = (0 : Int) := by rw [show x139 = 0 from c140.symm.trans c153]; decide
            obtain ⟨x157, c158, rx157, tx157⟩ := hT.rda (lo := 0) (hi := 400) (i := 0) kM_at3 rfl rfl (by decide)
            have g145 : x157.toInt + x143.toInt = x96.toInt + x101.toInt := by have q := g145; simp only [c132, c158, c133, c144] at q; omega
            have g146 : x143.toInt ≤ x101.toInt := by have q := g146; simp only [c133, c144] at q; omega
            have g147 : x143.toInt + x113.toInt ≤ x101.toInt + x141.toInt := by have q := g147; simp only [c134, c142, c133, c144] at q; omega
            have g148 : x143.toInt ≤ x141.toInt + f1_.toInt := by have q := g148; simp only [c142, c130, c144] at q; omega
            have g149 : x143.toInt ≤ 390 := by have q := g149; simp only [c144] at q; omega
            have g150 : x157.toInt ≤ 390 := by have q := g150; simp only [c158] at q; omega
            have g151 : brkN w126 (x143.toInt).toNat = brkN w126 (x101.toInt).toNat := by have q := g151; simp only [c133, c144] at q; omega
            refine lv_goto (tgt := 5) hx hb dX12_closes_61 (by decide) ?_
            exact ih5 x141 x143 x157 H locs ls w137 (show 0 ≤ f1_.toInt by omega) (show f1_.toInt ≤ 60 by omega) (show (-60) ≤ x141.toInt by omega) (show x141.toInt ≤ 10 by omega) (show 0 ≤ x143.toInt by omega) (show x143.toInt ≤ 390 by omega) (show 0 ≤ x157.toInt by omega) (show x157.toInt ≤ 390 by omega) (show x157.toInt + x143.toInt ≤ f4_.toInt + f3_.toInt by omega) (show x143.toInt + f2_.toInt ≤ f3_.toInt + x141.toInt by omega) (show x143.toInt ≤ x141.toInt + f1_.toInt by omega) (show x157.toInt ≤ 390 by omega) (show x143.toInt ≤ 390 by omega) (show -60 ≤ x141.toInt by omega) (show (x143.toInt - 0).toNat < n5 by omega) hw hT hF c153 c154 c142 c144 c158 (lv_sub hl [0] rfl)
      · have g53 : (x51.toInt = x35.toInt ∨ (gi w21 1 (x35.toInt).toNat).toInt = 32) := by have q := g53; simp only [c36, c52] at q; omega
        refine lv_bipush (v := 93) hx hb dX12_closes_9 (by decide) ?_
        refine lv_icmp_ne (tgt := 64) hx hb dX12_closes_11 (by decide) (fun _ => ?_) (fun c => absurd c (by decide))
        exact J64 x49 x51 f5_0_19 f5_0_22 f5_3_0 H locs ls w39 (show 0 ≤ x49.toInt by omega) (show x49.toInt ≤ 400 by omega) (show 0 ≤ x51.toInt by omega) (show x51.toInt ≤ 400 by omega) (show 0 ≤ f1_.toInt by omega) (show f1_.toInt ≤ 60 by omega) (show (-60) ≤ f5_0_19.toInt by omega) (show f5_0_19.toInt ≤ 10 by omega) (show 0 ≤ f5_0_22.toInt by omega) (show f5_0_22.toInt ≤ 390 by omega) (show 0 ≤ f5_3_0.toInt by omega) (show f5_3_0.toInt ≤ 390 by omega) (show f5_3_0.toInt + f5_0_22.toInt ≤ f4_.toInt + f3_.toInt by omega) (show f5_0_22.toInt + f2_.toInt ≤ f3_.toInt + f5_0_19.toInt by omega) (show f5_0_22.toInt ≤ f5_0_19.toInt + f1_.toInt by omega) (show f5_3_0.toInt ≤ 390 by omega) (show f5_0_22.toInt ≤ 390 by omega) (show -60 ≤ f5_0_19.toInt by omega)  hw hT hF c50 c52 c58 c59 c60 c61 c62 (lv_sub hl [0] rfl)
      · obtain ⟨x63, c64, rx63, tx63⟩ := hT.rdi (lo := 0) (hi := 400) (k := 14) kM_at0 (by decide) rfl
        have g56 : (x63.toInt = x35.toInt ∨ (gi w21 1 (x35.toInt).toNat).toInt = 32) := by have q := g56; simp only [c36, c64] at q; omega
        refine lv_bipush (v := 93) hx hb dX12_closes_9 (by decide) ?_
        refine lv_icmp_ne (tgt := 64) hx hb dX12_closes_11 (by decide) (fun _ => ?_) (fun c => absurd c (by decide))
        exact J64 x54 x63 f5_0_19 f5_0_22 f5_3_0 H locs ls w39 (show 0 ≤ x54.toInt by omega) (show x54.toInt ≤ 400 by omega) (show 0 ≤ x63.toInt by omega) (show x63.toInt ≤ 400 by omega) (show 0 ≤ f1_.toInt by omega) (show f1_.toInt ≤ 60 by omega) (show (-60) ≤ f5_0_19.toInt by omega) (show f5_0_19.toInt ≤ 10 by omega) (show 0 ≤ f5_0_22.toInt by omega) (show f5_0_22.toInt ≤ 390 by omega) (show 0 ≤ f5_3_0.toInt by omega) (show f5_3_0.toInt ≤ 390 by omega) (show f5_3_0.toInt + f5_0_22.toInt ≤ f4_.toInt + f3_.toInt by omega) (show f5_0_22.toInt + f2_.toInt ≤ f3_.toInt + f5_0_19.toInt by omega) (show f5_0_22.toInt ≤ f5_0_19.toInt + f1_.toInt by omega) (show f5_3_0.toInt ≤ 390 by omega) (show f5_0_22.toInt ≤ 390 by omega) (show -60 ≤ f5_0_19.toInt by omega)  hw hT hF c55 c64 c58 c59 c60 c61 c62 (lv_sub hl [0] rfl)
  refine lv_aload_n hx hb dX12_closes_0 rfl (lv_at hl 0 rfl) ?_
  refine lv_iconst (v := 3) hx hb dX12_closes_1 (by decide) ?_
  refine tk_Vv hC hK hw hT hA hE hSR kM_at0 (by decide) rfl (k_X12_settles_2 l adK adV dC dI cy ad B (by omega) (by omega) qr s1    w0 s.heap.size hT cf0_ f1_ cf1_ (show 0 ≤ f1_.toInt by omega) (show f1_.toInt ≤ 60 by omega) f2_ cf2_ (show (-100) ≤ f2_.toInt by omega) (show f2_.toInt ≤ 10 by omega) f3_ cf3_ (show 0 ≤ f3_.toInt by omega) (show f3_.toInt ≤ 400 by omega) f4_ cf4_ (show 0 ≤ f4_.toInt by omega) (show f4_.toInt ≤ 400 by omega) (show f4_.toInt + f3_.toInt ≤ 390 by omega) (show f3_.toInt ≤ f2_.toInt + f1_.toInt by omega) (show f4_.toInt ≤ 390 by omega) (show f3_.toInt ≤ 390 by omega)) (cwV 1 hC.2.2.2.2 gX12_closes_X12_settles rfl rfl rfl (by decide +kernel) ⟨Nat.le_of_ble_eq_true rfl, Nat.le_of_ble_eq_true rfl⟩) rfl hl.1 rfl (Nat.le_of_ble_eq_true rfl) dX12_closes_2 (fun w161 H locs hp160 hw => ?_)
  obtain ⟨hT, k162, hg176⟩ := hp160
  have hF := hF.tr k162 (by decide)
  have c177 := k162.gi kM_at0 (by decide) cf0_
  have c178 := k162.gi kM_at0 (by decide) cf1_
  obtain ⟨⟨x163, c164, rx163, tx163⟩, ⟨x165, c166, rx165, tx165⟩, ⟨x167, c168, rx167, tx167⟩, g169, g170, g171, g172, g173, g174, g175⟩ := hg176
  have ex163 : x163.toInt = (0 : Int) := by rw [show x163 = 0 from c164.symm.trans c177]; decide
  obtain ⟨x179, c180, rx179, tx179⟩ := hT.rda (lo := 0) (hi := 400) (i := 0) kM_at3 rfl rfl (by decide)
  have g169 : x179.toInt + x167.toInt = f4_.toInt + f3_.toInt := by have q := g169; simp only [cf4_, c180, cf3_, c168] at q; omega
  have g170 : x167.toInt ≤ f3_.toInt := by have q := g170; simp only [cf3_, c168] at q; omega
  have g171 : x167.toInt + f2_.toInt ≤ f3_.toInt + x165.toInt := by have q := g171; simp only [cf2_, c166, cf3_, c168] at q; omega
  have g172 : x167.toInt ≤ x165.toInt + f1_.toInt := by have q := g172; simp only [c166, cf1_, c168] at q; omega
  have g173 : x167.toInt ≤ 390 := by have q := g173; simp only [c168] at q; omega
  have g174 : x179.toInt ≤ 390 := by have q := g174; simp only [c180] at q; omega
  have g175 : brkN w0 (x167.toInt).toNat = brkN w0 (f3_.toInt).toNat := by have q := g175; simp only [cf3_, c168] at q; omega
  exact L5 ((x167.toInt - 0).toNat + 1) x165 x167 x179 H locs ls w161 (show 0 ≤ f1_.toInt by omega) (show f1_.toInt ≤ 60 by omega) (show (-60) ≤ x165.toInt by omega) (show x165.toInt ≤ 10 by omega) (show 0 ≤ x167.toInt by omega) (show x167.toInt ≤ 390 by omega) (show 0 ≤ x179.toInt by omega) (show x179.toInt ≤ 390 by omega) (show x179.toInt + x167.toInt ≤ f4_.toInt + f3_.toInt by omega) (show x167.toInt + f2_.toInt ≤ f3_.toInt + x165.toInt by omega) (show x167.toInt ≤ x165.toInt + f1_.toInt by omega) (show x179.toInt ≤ 390 by omega) (show x167.toInt ≤ 390 by omega) (show -60 ≤ x165.toInt by omega) (Nat.lt_succ_self _) hw hT hF c177 c178 c166 c168 c180 (lv_sub hl [0] rfl)
abbrev P_X12_makes_1 (ad : Nat → Nat) (cy : Nat → ClassId) (B : Int) (qr : Nat) (s1 : Int) (a1 : Int32) (w0 : va_W) : Int32 → va_W → Prop := fun r u => TW ksM ad cy B qr 12 u ∧ FE ksM [(12, 15, 15), (12, 18, 18)] w0 u ∧ ((r = 0 ∧ (∃ y : Int32, gi u 0 15 = y ∧ 1 ≤ y.toInt ∧ y.toInt ≤ 3205) ∧ (∃ y : Int32, gi u 0 18 = y ∧ 60 ≤ y.toInt ∧ y.toInt ≤ 60)) ∨ (r = 1 ∧ (∃ y : Int32, gi u 0 18 = y ∧ 1 ≤ y.toInt ∧ y.toInt ≤ 60) ∧ ((gi u 0 18).toInt = (gi w0 0 18).toInt + 1)))
set_option maxHeartbeats 4000000 in
set_option maxRecDepth 100000 in
theorem k_X12_makes_1 (l : Launch) (adK adV : Nat → Nat) (dC : Nat → ClassId) (dI : Nat → Nat → Nat) (cy : Nat → ClassId) (ad : Nat → Nat) (B : Int) (hB0 : 100000 ≤ B) (hB1 : B ≤ 1073741824) (qr : Nat) (s1 : Int)  (a1 : Int32) (ra1 : 0 ≤ a1.toInt) (ta1 : a1.toInt ≤ 398) (w0 : va_W) (sz : Nat) (hT : TW ksM ad cy B qr 12 w0) (f0_ : Int32) (cf0_ : gi w0 0 18 = f0_) (rf0_ : 0 ≤ f0_.toInt) (tf0_ : f0_.toInt ≤ 60) : Met l yX12_makes wsX12_makes ({ frames := 2, cells := 0, slots := 0, locals := 34 }) (va_Pc [.ref (ad 0), .int a1] (wpreS adK adV dC dI cy sz w0)) (va_Qi (P_X12_makes_1 ad cy B qr s1 a1 w0) (fun u : va_W => wpost dC dI cy (va_A w0 sz) u) (va_A w0 sz)) 0 0 (va_A w0 sz) := by
  refine Met.ofW (cc := cX12_makes) (maxL := 2) (ret := (some .boolean)) (by decide) rfl ?_
  intro p e s m args below meth c s₁ Bk hml hv
  obtain ⟨rfl, ⟨hsz, hP, hK, hD0⟩, hE, hSR⟩ := hv
  have hx := Bk.exec
  have hb := Bk.bytes
  have hr := Bk.returns
  have hlocks := Bk.notSynchronized
  have hC : CallFix p m c cX12_makes 2 s _ wsX12_makes RX12 := ⟨hx, hb, hml, findClass_of_methodNamed Bk.named, atoms_spec (ws := wsX12_makes) Bk.pre⟩
  subst hsz
  have hD := hD0.self (sz := s.heap.size)
  generalize hAe : va_A w0 s.heap.size = A at hD hE ⊢
  have hA : ∀ q : Nat, s.heap.size ≤ q → A q := fun q h => by rw [← hAe]; exact Or.inr h
  have hw : Wd dC dI A s.heap s.heap [] w0 := ⟨hP, hD, va_S.rf⟩
  have hF : FE ksM [(12, 15, 15), (12, 18, 18)] w0 w0 := FE.rf
  have hl := lv_entry ([.ref (ad 0), .int a1]) (n := 2) (Nat.le_of_ble_eq_true rfl)
  rw [lg_entry_eq]
  generalize (lg_sl ([.ref (ad 0), .int a1]) ++ List.replicate (2 - (lg_sl ([.ref (ad 0), .int a1])).length) Slot.unset).toArray = ls at hl ⊢
  have hl : lv_has ls 2 [(0, .ref (ad 0)), (1, .int a1)] := hl
  generalize hloc : ([] : List Loc) = locs at hw ⊢
  have hinX12 : ∀ w ∈ u_ws RX12 TX12 42, w ∈ wsX12_makes := fun _ h => List.mem_cons_of_mem _ (List.mem_append_right _ (h))
  refine lv_aload_n hx hb dX12_makes_0 rfl (lv_at hl 0 rfl) ?_
  refine tk_geti hC hK hw hT hinX12 kM_at0 (by decide) rfl 18 (by decide) (List.mem_of_getElem? (i := 1) rfl) rfl rfl dX12_makes_1 (fun x1 c2 rx1 tx1 => ?_)
  refine wk_top f0_ (c2.symm.trans cf0_) ?_
  refine lv_bipush (v := 60) hx hb dX12_makes_4 (by decide) ?_
  refine lv_icmp_ne (tgt := 16) hx hb dX12_makes_6 (by decide) (fun c3 => ?_) (fun c3 => ?_)
  · have c3 : ¬ f0_.toInt = (60 : Int) := wk_eqF c3
    refine lv_aload_n hx hb dX12_makes_16 rfl (lv_at hl 0 rfl) ?_
    refine lv_dup hx hb dX12_makes_17 rfl ?_
    refine tk_geti hC hK hw hT hinX12 kM_at0 (by decide) rfl 18 (by decide) (List.mem_of_getElem? (i := 1) rfl) rfl rfl dX12_makes_18 (fun x4 c5 rx4 tx4 => ?_)
    refine wk_top f0_ (c5.symm.trans cf0_) ?_
    refine lv_iconst (v := 1) hx hb dX12_makes_21 (by decide) ?_
    refine lv_iadd hx hb dX12_makes_22 ?_
    refine lv_topi (fun x6 ex6 => ?_)
    have ex6 : x6.toInt = f0_.toInt + (1 : Int) := by rw [ex6]; exact wk_add (show (-2147483648) ≤ f0_.toInt + (1 : Int) by omega) (show f0_.toInt + (1 : Int) ≤ 2147483647 by omega)
    refine tk_puti hC hK hw hT hinX12 tyX12_ok nmX12 kM_at0 (by decide) rfl rfl 18 (by decide) (List.mem_of_getElem? (i := 1) rfl) rfl rfl rfl rfl (show 0 ≤ x6.toInt by omega) (show x6.toInt ≤ 60 by omega) dX12_makes_23 (fun H locs w7 hw hT k9 c8 => ?_)
    have hF := hF.put kM_at0 (k := 18) (by decide) k9
    refine lv_iconst (v := 1) hx hb dX12_makes_26 (by decide) ?_
    exact tk_zret hC hr rfl hlocks hK ⟨hT, hF, (Or.inr ⟨rfl, ⟨x6, c8, (show 1 ≤ x6.toInt by omega), (show x6.toInt ≤ 60 by omega)⟩, (by simp only [cf0_, c8]; omega)⟩)⟩ hw dX12_makes_27
  · have c3 : f0_.toInt = (60 : Int) := wk_eq.mp c3
    refine lv_aload_n hx hb dX12_makes_9 rfl (lv_at hl 0 rfl) ?_
    refine lv_iconst (v := 3) hx hb dX12_makes_10 (by decide) ?_
    refine lv_iload_n hx hb dX12_makes_11 rfl (lv_at hl 1 rfl) ?_
    refine tk_Vi hC hK hw hT hA hE hSR kM_at0 (by decide) rfl (k_X12_fails_1 l adK adV dC dI cy ad B (by omega) (by omega) qr s1   3 (by decide) (by decide) a1 (show 0 ≤ a1.toInt by omega) (show a1.toInt ≤ 400 by omega) w0 s.heap.size hT ) (cwV 2 hC.2.2.2.2 gX12_makes_X12_fails rfl rfl rfl (by decide +kernel) ⟨Nat.le_of_ble_eq_true rfl, Nat.le_of_ble_eq_true rfl⟩) rfl hl.1 rfl (Nat.le_of_ble_eq_true rfl) dX12_makes_12 (fun r10 w12 H locs hp11 hw => ?_)
    obtain ⟨hT, k13, hg16⟩ := hp11
    have hF := hF.tr k13 (by decide)
    have c17 := k13.gi kM_at0 (by decide) cf0_
    obtain ⟨rfl, ⟨x14, c15, rx14, tx14⟩⟩ := hg16
    exact tk_zret hC hr rfl hlocks hK ⟨hT, hF, (Or.inl ⟨rfl, ⟨x14, c15, (show 1 ≤ x14.toInt by omega), (show x14.toInt ≤ 3205 by omega)⟩, ⟨f0_, c17, (show 60 ≤ f0_.toInt by omega), (show f0_.toInt ≤ 60 by omega)⟩⟩)⟩ hw dX12_makes_15
abbrev P_X12_makes_2 (ad : Nat → Nat) (cy : Nat → ClassId) (B : Int) (qr : Nat) (s1 : Int) (a1 : Int32) (w0 : va_W) : Int32 → va_W → Prop := fun r u => TW ksM ad cy B qr 12 u ∧ FE ksM [(12, 15, 15), (12, 18, 18)] w0 u ∧ ((r = 0 ∧ (∃ y : Int32, gi u 0 15 = y ∧ 1 ≤ y.toInt ∧ y.toInt ≤ 3205) ∧ (∃ y : Int32, gi u 0 18 = y ∧ 60 ≤ y.toInt ∧ y.toInt ≤ 60)) ∨ (r = 1 ∧ (∃ y : Int32, gi u 0 18 = y ∧ 1 ≤ y.toInt ∧ y.toInt ≤ 60) ∧ ((gi u 0 18).toInt = (gi w0 0 18).toInt + 1)))
set_option maxHeartbeats 4000000 in
set_option maxRecDepth 100000 in
theorem k_X12_makes_2 (l : Launch) (adK adV : Nat → Nat) (dC : Nat → ClassId) (dI : Nat → Nat → Nat) (cy : Nat → ClassId) (ad : Nat → Nat) (B : Int) (hB0 : 100000 ≤ B) (hB1 : B ≤ 1073741824) (qr : Nat) (s1 : Int)  (a1 : Int32) (ra1 : 0 ≤ a1.toInt) (ta1 : a1.toInt ≤ 399) (w0 : va_W) (sz : Nat) (hT : TW ksM ad cy B qr 12 w0) (f0_ : Int32) (cf0_ : gi w0 0 18 = f0_) (rf0_ : 0 ≤ f0_.toInt) (tf0_ : f0_.toInt ≤ 60) : Met l yX12_makes wsX12_makes ({ frames := 2, cells := 0, slots := 0, locals := 34 }) (va_Pc [.ref (ad 0), .int a1] (wpreS adK adV dC dI cy sz w0)) (va_Qi (P_X12_makes_2 ad cy B qr s1 a1 w0) (fun u : va_W => wpost dC dI cy (va_A w0 sz) u) (va_A w0 sz)) 0 0 (va_A w0 sz) := by
  refine Met.ofW (cc := cX12_makes) (maxL := 2) (ret := (some .boolean)) (by decide) rfl ?_
  intro p e s m args below meth c s₁ Bk hml hv
  obtain ⟨rfl, ⟨hsz, hP, hK, hD0⟩, hE, hSR⟩ := hv
  have hx := Bk.exec
  have hb := Bk.bytes
  have hr := Bk.returns
  have hlocks := Bk.notSynchronized
  have hC : CallFix p m c cX12_makes 2 s _ wsX12_makes RX12 := ⟨hx, hb, hml, findClass_of_methodNamed Bk.named, atoms_spec (ws := wsX12_makes) Bk.pre⟩
  subst hsz
  have hD := hD0.self (sz := s.heap.size)
  generalize hAe : va_A w0 s.heap.size = A at hD hE ⊢
  have hA : ∀ q : Nat, s.heap.size ≤ q → A q := fun q h => by rw [← hAe]; exact Or.inr h
  have hw : Wd dC dI A s.heap s.heap [] w0 := ⟨hP, hD, va_S.rf⟩
  have hF : FE ksM [(12, 15, 15), (12, 18, 18)] w0 w0 := FE.rf
  have hl := lv_entry ([.ref (ad 0), .int a1]) (n := 2) (Nat.le_of_ble_eq_true rfl)
  rw [lg_entry_eq]
  generalize (lg_sl ([.ref (ad 0), .int a1]) ++ List.replicate (2 - (lg_sl ([.ref (ad 0), .int a1])).length) Slot.unset).toArray = ls at hl ⊢
  have hl : lv_has ls 2 [(0, .ref (ad 0)), (1, .int a1)] := hl
  generalize hloc : ([] : List Loc) = locs at hw ⊢
  have hinX12 : ∀ w ∈ u_ws RX12 TX12 42, w ∈ wsX12_makes := fun _ h => List.mem_cons_of_mem _ (List.mem_append_right _ (h))
  refine lv_aload_n hx hb dX12_makes_0 rfl (lv_at hl 0 rfl) ?_
  refine tk_geti hC hK hw hT hinX12 kM_at0 (by decide) rfl 18 (by decide) (List.mem_of_getElem? (i := 1) rfl) rfl rfl dX12_makes_1 (fun x1 c2 rx1 tx1 => ?_)
  refine wk_top f0_ (c2.symm.trans cf0_) ?_
  refine lv_bipush (v := 60) hx hb dX12_makes_4 (by decide) ?_
  refine lv_icmp_ne (tgt := 16) hx hb dX12_makes_6 (by decide) (fun c3 => ?_) (fun c3 => ?_)
  · have c3 : ¬ f0_.toInt = (60 : Int) := wk_eqF c3
    refine lv_aload_n hx hb dX12_makes_16 rfl (lv_at hl 0 rfl) ?_
    refine lv_dup hx hb dX12_makes_17 rfl ?_
    refine tk_geti hC hK hw hT hinX12 kM_at0 (by decide) rfl 18 (by decide) (List.mem_of_getElem? (i := 1) rfl) rfl rfl dX12_makes_18 (fun x4 c5 rx4 tx4 => ?_)
    refine wk_top f0_ (c5.symm.trans cf0_) ?_
    refine lv_iconst (v := 1) hx hb dX12_makes_21 (by decide) ?_
    refine lv_iadd hx hb dX12_makes_22 ?_
    refine lv_topi (fun x6 ex6 => ?_)
    have ex6 : x6.toInt = f0_.toInt + (1 : Int) := by rw [ex6]; exact wk_add (show (-2147483648) ≤ f0_.toInt + (1 : Int) by omega) (show f0_.toInt + (1 : Int) ≤ 2147483647 by omega)
    refine tk_puti hC hK hw hT hinX12 tyX12_ok nmX12 kM_at0 (by decide) rfl rfl 18 (by decide) (List.mem_of_getElem? (i := 1) rfl) rfl rfl rfl rfl (show 0 ≤ x6.toInt by omega) (show x6.toInt ≤ 60 by omega) dX12_makes_23 (fun H locs w7 hw hT k9 c8 => ?_)
    have hF := hF.put kM_at0 (k := 18) (by decide) k9
    refine lv_iconst (v := 1) hx hb dX12_makes_26 (by decide) ?_
    exact tk_zret hC hr rfl hlocks hK ⟨hT, hF, (Or.inr ⟨rfl, ⟨x6, c8, (show 1 ≤ x6.toInt by omega), (show x6.toInt ≤ 60 by omega)⟩, (by simp only [cf0_, c8]; omega)⟩)⟩ hw dX12_makes_27
  · have c3 : f0_.toInt = (60 : Int) := wk_eq.mp c3
    refine lv_aload_n hx hb dX12_makes_9 rfl (lv_at hl 0 rfl) ?_
    refine lv_iconst (v := 3) hx hb dX12_makes_10 (by decide) ?_
    refine lv_iload_n hx hb dX12_makes_11 rfl (lv_at hl 1 rfl) ?_
    refine tk_Vi hC hK hw hT hA hE hSR kM_at0 (by decide) rfl (k_X12_fails_1 l adK adV dC dI cy ad B (by omega) (by omega) qr s1   3 (by decide) (by decide) a1 (show 0 ≤ a1.toInt by omega) (show a1.toInt ≤ 400 by omega) w0 s.heap.size hT ) (cwV 2 hC.2.2.2.2 gX12_makes_X12_fails rfl rfl rfl (by decide +kernel) ⟨Nat.le_of_ble_eq_true rfl, Nat.le_of_ble_eq_true rfl⟩) rfl hl.1 rfl (Nat.le_of_ble_eq_true rfl) dX12_makes_12 (fun r10 w12 H locs hp11 hw => ?_)
    obtain ⟨hT, k13, hg16⟩ := hp11
    have hF := hF.tr k13 (by decide)
    have c17 := k13.gi kM_at0 (by decide) cf0_
    obtain ⟨rfl, ⟨x14, c15, rx14, tx14⟩⟩ := hg16
    exact tk_zret hC hr rfl hlocks hK ⟨hT, hF, (Or.inl ⟨rfl, ⟨x14, c15, (show 1 ≤ x14.toInt by omega), (show x14.toInt ≤ 3205 by omega)⟩, ⟨f0_, c17, (show 60 ≤ f0_.toInt by omega), (show f0_.toInt ≤ 60 by omega)⟩⟩)⟩ hw dX12_makes_15
abbrev P_X12_makes_3 (ad : Nat → Nat) (cy : Nat → ClassId) (B : Int) (qr : Nat) (s1 : Int) (a1 : Int32) (w0 : va_W) : Int32 → va_W → Prop := fun r u => TW ksM ad cy B qr 12 u ∧ FE ksM [(12, 15, 15), (12, 18, 18)] w0 u ∧ ((r = 0 ∧ (∃ y : Int32, gi u 0 15 = y ∧ 1 ≤ y.toInt ∧ y.toInt ≤ 3205) ∧ (∃ y : Int32, gi u 0 18 = y ∧ 60 ≤ y.toInt ∧ y.toInt ≤ 60)) ∨ (r = 1 ∧ (∃ y : Int32, gi u 0 18 = y ∧ 1 ≤ y.toInt ∧ y.toInt ≤ 60) ∧ ((gi u 0 18).toInt = (gi w0 0 18).toInt + 1)))
set_option maxHeartbeats 4000000 in
set_option maxRecDepth 100000 in
theorem k_X12_makes_3 (l : Launch) (adK adV : Nat → Nat) (dC : Nat → ClassId) (dI : Nat → Nat → Nat) (cy : Nat → ClassId) (ad : Nat → Nat) (B : Int) (hB0 : 100000 ≤ B) (hB1 : B ≤ 1073741824) (qr : Nat) (s1 : Int)  (a1 : Int32) (ra1 : 0 ≤ a1.toInt) (ta1 : a1.toInt ≤ 400) (w0 : va_W) (sz : Nat) (hT : TW ksM ad cy B qr 12 w0) (f0_ : Int32) (cf0_ : gi w0 0 18 = f0_) (rf0_ : 0 ≤ f0_.toInt) (tf0_ : f0_.toInt ≤ 60) : Met l yX12_makes wsX12_makes ({ frames := 2, cells := 0, slots := 0, locals := 34 }) (va_Pc [.ref (ad 0), .int a1] (wpreS adK adV dC dI cy sz w0)) (va_Qi (P_X12_makes_3 ad cy B qr s1 a1 w0) (fun u : va_W => wpost dC dI cy (va_A w0 sz) u) (va_A w0 sz)) 0 0 (va_A w0 sz) := by
  refine Met.ofW (cc := cX12_makes) (maxL := 2) (ret := (some .boolean)) (by decide) rfl ?_
  intro p e s m args below meth c s₁ Bk hml hv
  obtain ⟨rfl, ⟨hsz, hP, hK, hD0⟩, hE, hSR⟩ := hv
  have hx := Bk.exec
  have hb := Bk.bytes
  have hr := Bk.returns
  have hlocks := Bk.notSynchronized
  have hC : CallFix p m c cX12_makes 2 s _ wsX12_makes RX12 := ⟨hx, hb, hml, findClass_of_methodNamed Bk.named, atoms_spec (ws := wsX12_makes) Bk.pre⟩
  subst hsz
  have hD := hD0.self (sz := s.heap.size)
  generalize hAe : va_A w0 s.heap.size = A at hD hE ⊢
  have hA : ∀ q : Nat, s.heap.size ≤ q → A q := fun q h => by rw [← hAe]; exact Or.inr h
  have hw : Wd dC dI A s.heap s.heap [] w0 := ⟨hP, hD, va_S.rf⟩
  have hF : FE ksM [(12, 15, 15), (12, 18, 18)] w0 w0 := FE.rf
  have hl := lv_entry ([.ref (ad 0), .int a1]) (n := 2) (Nat.le_of_ble_eq_true rfl)
  rw [lg_entry_eq]
  generalize (lg_sl ([.ref (ad 0), .int a1]) ++ List.replicate (2 - (lg_sl ([.ref (ad 0), .int a1])).length) Slot.unset).toArray = ls at hl ⊢
  have hl : lv_has ls 2 [(0, .ref (ad 0)), (1, .int a1)] := hl
  generalize hloc : ([] : List Loc) = locs at hw ⊢
  have hinX12 : ∀ w ∈ u_ws RX12 TX12 42, w ∈ wsX12_makes := fun _ h => List.mem_cons_of_mem _ (List.mem_append_right _ (h))
  refine lv_aload_n hx hb dX12_makes_0 rfl (lv_at hl 0 rfl) ?_
  refine tk_geti hC hK hw hT hinX12 kM_at0 (by decide) rfl 18 (by decide) (List.mem_of_getElem? (i := 1) rfl) rfl rfl dX12_makes_1 (fun x1 c2 rx1 tx1 => ?_)
  refine wk_top f0_ (c2.symm.trans cf0_) ?_
  refine lv_bipush (v := 60) hx hb dX12_makes_4 (by decide) ?_
  refine lv_icmp_ne (tgt := 16) hx hb dX12_makes_6 (by decide) (fun c3 => ?_) (fun c3 => ?_)
  · have c3 : ¬ f0_.toInt = (60 : Int) := wk_eqF c3
    refine lv_aload_n hx hb dX12_makes_16 rfl (lv_at hl 0 rfl) ?_
    refine lv_dup hx hb dX12_makes_17 rfl ?_
    refine tk_geti hC hK hw hT hinX12 kM_at0 (by decide) rfl 18 (by decide) (List.mem_of_getElem? (i := 1) rfl) rfl rfl dX12_makes_18 (fun x4 c5 rx4 tx4 => ?_)
    refine wk_top f0_ (c5.symm.trans cf0_) ?_
    refine lv_iconst (v := 1) hx hb dX12_makes_21 (by decide) ?_
    refine lv_iadd hx hb dX12_makes_22 ?_
    refine lv_topi (fun x6 ex6 => ?_)
    have ex6 : x6.toInt = f0_.toInt + (1 : Int) := by rw [ex6]; exact wk_add (show (-2147483648) ≤ f0_.toInt + (1 : Int) by omega) (show f0_.toInt + (1 : Int) ≤ 2147483647 by omega)
    refine tk_puti hC hK hw hT hinX12 tyX12_ok nmX12 kM_at0 (by decide) rfl rfl 18 (by decide) (List.mem_of_getElem? (i := 1) rfl) rfl rfl rfl rfl (show 0 ≤ x6.toInt by omega) (show x6.toInt ≤ 60 by omega) dX12_makes_23 (fun H locs w7 hw hT k9 c8 => ?_)
    have hF := hF.put kM_at0 (k := 18) (by decide) k9
    refine lv_iconst (v := 1) hx hb dX12_makes_26 (by decide) ?_
    exact tk_zret hC hr rfl hlocks hK ⟨hT, hF, (Or.inr ⟨rfl, ⟨x6, c8, (show 1 ≤ x6.toInt by omega), (show x6.toInt ≤ 60 by omega)⟩, (by simp only [cf0_, c8]; omega)⟩)⟩ hw dX12_makes_27
  · have c3 : f0_.toInt = (60 : Int) := wk_eq.mp c3
    refine lv_aload_n hx hb dX12_makes_9 rfl (lv_at hl 0 rfl) ?_
    refine lv_iconst (v := 3) hx hb dX12_makes_10 (by decide) ?_
    refine lv_iload_n hx hb dX12_makes_11 rfl (lv_at hl 1 rfl) ?_
    refine tk_Vi hC hK hw hT hA hE hSR kM_at0 (by decide) rfl (k_X12_fails_1 l adK adV dC dI cy ad B (by omega) (by omega) qr s1   3 (by decide) (by decide) a1 (show 0 ≤ a1.toInt by omega) (show a1.toInt ≤ 400 by omega) w0 s.heap.size hT ) (cwV 2 hC.2.2.2.2 gX12_makes_X12_fails rfl rfl rfl (by decide +kernel) ⟨Nat.le_of_ble_eq_true rfl, Nat.le_of_ble_eq_true rfl⟩) rfl hl.1 rfl (Nat.le_of_ble_eq_true rfl) dX12_makes_12 (fun r10 w12 H locs hp11 hw => ?_)
    obtain ⟨hT, k13, hg16⟩ := hp11
    have hF := hF.tr k13 (by decide)
    have c17 := k13.gi kM_at0 (by decide) cf0_
    obtain ⟨rfl, ⟨x14, c15, rx14, tx14⟩⟩ := hg16
    exact tk_zret hC hr rfl hlocks hK ⟨hT, hF, (Or.inl ⟨rfl, ⟨x14, c15, (show 1 ≤ x14.toInt by omega), (show x14.toInt ≤ 3205 by omega)⟩, ⟨f0_, c17, (show 60 ≤ f0_.toInt by omega), (show f0_.toInt ≤ 60 by omega)⟩⟩)⟩ hw dX12_makes_15
abbrev P_X12_makes_4 (ad : Nat → Nat) (cy : Nat → ClassId) (B : Int) (qr : Nat) (s1 : Int) (a1 : Int32) (w0 : va_W) : Int32 → va_W → Prop := fun r u => TW ksM ad cy B qr 12 u ∧ FE ksM [(12, 15, 15), (12, 18, 18)] w0 u ∧ ((r = 0 ∧ (∃ y : Int32, gi u 0 15 = y ∧ 1 ≤ y.toInt ∧ y.toInt ≤ 3205) ∧ (∃ y : Int32, gi u 0 18 = y ∧ 60 ≤ y.toInt ∧ y.toInt ≤ 60)) ∨ (r = 1 ∧ (∃ y : Int32, gi u 0 18 = y ∧ 1 ≤ y.toInt ∧ y.toInt ≤ 60) ∧ ((gi u 0 18).toInt = (gi w0 0 18).toInt + 1)))
set_option maxHeartbeats 4000000 in
set_option maxRecDepth 100000 in
theorem k_X12_makes_4 (l : Launch) (adK adV : Nat → Nat) (dC : Nat → ClassId) (dI : Nat → Nat → Nat) (cy : Nat → ClassId) (ad : Nat → Nat) (B : Int) (hB0 : 100000 ≤ B) (hB1 : B ≤ 1073741824) (qr : Nat) (s1 : Int)  (a1 : Int32) (ra1 : 1 ≤ a1.toInt) (ta1 : a1.toInt ≤ 399) (w0 : va_W) (sz : Nat) (hT : TW ksM ad cy B qr 12 w0) (f0_ : Int32) (cf0_ : gi w0 0 18 = f0_) (rf0_ : 0 ≤ f0_.toInt) (tf0_ : f0_.toInt ≤ 60) : Met l yX12_makes wsX12_makes ({ frames := 2, cells := 0, slots := 0, locals := 34 }) (va_Pc [.ref (ad 0), .int a1] (wpreS adK adV dC dI cy sz w0)) (va_Qi (P_X12_makes_4 ad cy B qr s1 a1 w0) (fun u : va_W => wpost dC dI cy (va_A w0 sz) u) (va_A w0 sz)) 0 0 (va_A w0 sz) := by
  refine Met.ofW (cc := cX12_makes) (maxL := 2) (ret := (some .boolean)) (by decide) rfl ?_
  intro p e s m args below meth c s₁ Bk hml hv
  obtain ⟨rfl, ⟨hsz, hP, hK, hD0⟩, hE, hSR⟩ := hv
  have hx := Bk.exec
  have hb := Bk.bytes
  have hr := Bk.returns
  have hlocks := Bk.notSynchronized
  have hC : CallFix p m c cX12_makes 2 s _ wsX12_makes RX12 := ⟨hx, hb, hml, findClass_of_methodNamed Bk.named, atoms_spec (ws := wsX12_makes) Bk.pre⟩
  subst hsz
  have hD := hD0.self (sz := s.heap.size)
  generalize hAe : va_A w0 s.heap.size = A at hD hE ⊢
  have hA : ∀ q : Nat, s.heap.size ≤ q → A q := fun q h => by rw [← hAe]; exact Or.inr h
  have hw : Wd dC dI A s.heap s.heap [] w0 := ⟨hP, hD, va_S.rf⟩
  have hF : FE ksM [(12, 15, 15), (12, 18, 18)] w0 w0 := FE.rf
  have hl := lv_entry ([.ref (ad 0), .int a1]) (n := 2) (Nat.le_of_ble_eq_true rfl)
  rw [lg_entry_eq]
  generalize (lg_sl ([.ref (ad 0), .int a1]) ++ List.replicate (2 - (lg_sl ([.ref (ad 0), .int a1])).length) Slot.unset).toArray = ls at hl ⊢
  have hl : lv_has ls 2 [(0, .ref (ad 0)), (1, .int a1)] := hl
  generalize hloc : ([] : List Loc) = locs at hw ⊢
  have hinX12 : ∀ w ∈ u_ws RX12 TX12 42, w ∈ wsX12_makes := fun _ h => List.mem_cons_of_mem _ (List.mem_append_right _ (h))
  refine lv_aload_n hx hb dX12_makes_0 rfl (lv_at hl 0 rfl) ?_
  refine tk_geti hC hK hw hT hinX12 kM_at0 (by decide) rfl 18 (by decide) (List.mem_of_getElem? (i := 1) rfl) rfl rfl dX12_makes_1 (fun x1 c2 rx1 tx1 => ?_)
  refine wk_top f0_ (c2.symm.trans cf0_) ?_
  refine lv_bipush (v := 60) hx hb dX12_makes_4 (by decide) ?_
  refine lv_icmp_ne (tgt := 16) hx hb dX12_makes_6 (by decide) (fun c3 => ?_) (fun c3 => ?_)
  · have c3 : ¬ f0_.toInt = (60 : Int) := wk_eqF c3
    refine lv_aload_n hx hb dX12_makes_16 rfl (lv_at hl 0 rfl) ?_
    refine lv_dup hx hb dX12_makes_17 rfl ?_
    refine tk_geti hC hK hw hT hinX12 kM_at0 (by decide) rfl 18 (by decide) (List.mem_of_getElem? (i := 1) rfl) rfl rfl dX12_makes_18 (fun x4 c5 rx4 tx4 => ?_)
    refine wk_top f0_ (c5.symm.trans cf0_) ?_
    refine lv_iconst (v := 1) hx hb dX12_makes_21 (by decide) ?_
    refine lv_iadd hx hb dX12_makes_22 ?_
    refine lv_topi (fun x6 ex6 => ?_)
    have ex6 : x6.toInt = f0_.toInt + (1 : Int) := by rw [ex6]; exact wk_add (show (-2147483648) ≤ f0_.toInt + (1 : Int) by omega) (show f0_.toInt + (1 : Int) ≤ 2147483647 by omega)
    refine tk_puti hC hK hw hT hinX12 tyX12_ok nmX12 kM_at0 (by decide) rfl rfl 18 (by decide) (List.mem_of_getElem? (i := 1) rfl) rfl rfl rfl rfl (show 0 ≤ x6.toInt by omega) (show x6.toInt ≤ 60 by omega) dX12_makes_23 (fun H locs w7 hw hT k9 c8 => ?_)
    have hF := hF.put kM_at0 (k := 18) (by decide) k9
    refine lv_iconst (v := 1) hx hb dX12_makes_26 (by decide) ?_
    exact tk_zret hC hr rfl hlocks hK ⟨hT, hF, (Or.inr ⟨rfl, ⟨x6, c8, (show 1 ≤ x6.toInt by omega), (show x6.toInt ≤ 60 by omega)⟩, (by simp only [cf0_, c8]; omega)⟩)⟩ hw dX12_makes_27
  · have c3 : f0_.toInt = (60 : Int) := wk_eq.mp c3
    refine lv_aload_n hx hb dX12_makes_9 rfl (lv_at hl 0 rfl) ?_
    refine lv_iconst (v := 3) hx hb dX12_makes_10 (by decide) ?_
    refine lv_iload_n hx hb dX12_makes_11 rfl (lv_at hl 1 rfl) ?_
    refine tk_Vi hC hK hw hT hA hE hSR kM_at0 (by decide) rfl (k_X12_fails_1 l adK adV dC dI cy ad B (by omega) (by omega) qr s1   3 (by decide) (by decide) a1 (show 0 ≤ a1.toInt by omega) (show a1.toInt ≤ 400 by omega) w0 s.heap.size hT ) (cwV 2 hC.2.2.2.2 gX12_makes_X12_fails rfl rfl rfl (by decide +kernel) ⟨Nat.le_of_ble_eq_true rfl, Nat.le_of_ble_eq_true rfl⟩) rfl hl.1 rfl (Nat.le_of_ble_eq_true rfl) dX12_makes_12 (fun r10 w12 H locs hp11 hw => ?_)
    obtain ⟨hT, k13, hg16⟩ := hp11
    have hF := hF.tr k13 (by decide)
    have c17 := k13.gi kM_at0 (by decide) cf0_
    obtain ⟨rfl, ⟨x14, c15, rx14, tx14⟩⟩ := hg16
    exact tk_zret hC hr rfl hlocks hK ⟨hT, hF, (Or.inl ⟨rfl, ⟨x14, c15, (show 1 ≤ x14.toInt by omega), (show x14.toInt ≤ 3205 by omega)⟩, ⟨f0_, c17, (show 60 ≤ f0_.toInt by omega), (show f0_.toInt ≤ 60 by omega)⟩⟩)⟩ hw dX12_makes_15
abbrev P_X12_in_9 (ad : Nat → Nat) (cy : Nat → ClassId) (B : Int) (qr : Nat) (s1 : Int) (a0 : Int64) (w0 : va_W) : Int32 → va_W → Prop := fun r u => w0 = u ∧ ((r = 0) ∨ (r = 1 ∧ 0 ≤ a0.toInt ∧ a0.toInt ≤ 99999))
set_option maxHeartbeats 4000000 in
set_option maxRecDepth 100000 in
theorem k_X12_in_9 (l : Launch) (adK adV : Nat → Nat) (dC : Nat → ClassId) (dI : Nat → Nat → Nat) (cy : Nat → ClassId) (ad : Nat → Nat) (B : Int) (hB0 : 100000 ≤ B) (hB1 : B ≤ 1073741824) (qr : Nat) (s1 : Int)  (a0 : Int64) (ra0 : (-2147483648) ≤ a0.toInt) (ta0 : a0.toInt ≤ 2147483647) (w0 : va_W) (sz : Nat) (hT : TW ksM ad cy B qr 12 w0)  : Met l yX12_in wsX12_in ({ frames := 1, cells := 0, slots := 0, locals := 12 }) (va_Pc [.long a0, .long 0, .long 99999] (wpreS adK adV dC dI cy sz w0)) (va_Qi (P_X12_in_9 ad cy B qr s1 a0 w0) (fun u : va_W => wpost dC dI cy (va_A w0 sz) u) (va_A w0 sz)) 0 0 (va_A w0 sz) := by
  refine Met.ofW (cc := cX12_in) (maxL := 6) (ret := (some .boolean)) (by decide) rfl ?_
  intro p e s m args below meth c s₁ Bk hml hv
  obtain ⟨rfl, ⟨hsz, hP, hK, hD0⟩, hE, hSR⟩ := hv
  have hx := Bk.exec
  have hb := Bk.bytes
  have hr := Bk.returns
  have hlocks := Bk.notSynchronized
  have hC : CallFix p m c cX12_in 6 s _ wsX12_in RX12 := ⟨hx, hb, hml, findClass_of_methodNamed Bk.named, atoms_spec (ws := wsX12_in) Bk.pre⟩
  subst hsz
  have hD := hD0.self (sz := s.heap.size)
  generalize hAe : va_A w0 s.heap.size = A at hD hE ⊢
  have hA : ∀ q : Nat, s.heap.size ≤ q → A q := fun q h => by rw [← hAe]; exact Or.inr h
  have hw : Wd dC dI A s.heap s.heap [] w0 := ⟨hP, hD, va_S.rf⟩
  have hF : FE ksM ([] : List (Nat × Nat × Nat)) w0 w0 := FE.rf
  have hl := lv_entry ([.long a0, .long 0, .long 99999]) (n := 6) (Nat.le_of_ble_eq_true rfl)
  rw [lg_entry_eq]
  generalize (lg_sl ([.long a0, .long 0, .long 99999]) ++ List.replicate (6 - (lg_sl ([.long a0, .long 0, .long 99999])).length) Slot.unset).toArray = ls at hl ⊢
  have hl : lv_has ls 6 [(0, .long a0), (2, .long 0), (4, .long 99999)] := hl
  generalize hloc : ([] : List Loc) = locs at hw ⊢
  have J17 : ∀ (H : Heap) (locs : List Loc) (ls : Array Slot), (-2147483648) ≤ a0.toInt → a0.toInt ≤ 2147483647 → Wd dC dI A s.heap H locs w0 → lv_has ls 6 [(0, .long a0), (2, .long 0), (4, .long 99999)] → W p l e ({ frames := 1, cells := 0, slots := 0, locals := 12 }) s m (List.toArray [.long a0, .long 0, .long 99999]) below meth c H locs 0 0 (MQ below (va_Qi (P_X12_in_9 ad cy B qr s1 a0 w0) (fun u : va_W => wpost dC dI cy A u) A) (List.toArray [.long a0, .long 0, .long 99999]) s 0 0 A) (F0 m 17 ls []) := by
    intro H locs ls r1 t2 hw hl
    refine lv_iconst (v := 0) hx hb dX12_in_17 (by decide) ?_
    exact tk_zret hC hr rfl hlocks hK ⟨rfl, (Or.inl rfl)⟩ hw dX12_in_18
  refine lv_lload_n hx hb dX12_in_0 rfl (lv_at hl 0 rfl) ?_
  refine lv_lload_n hx hb dX12_in_1 rfl (lv_at hl 1 rfl) ?_
  refine W.lcmp hx hb dX12_in_2 ?_
  refine lv_if_lt (tgt := 17) hx hb dX12_in_3 (by decide) (fun c3 => ?_) (fun c3 => ?_)
  · have c3 : a0.toInt < (0 : Int) := wk_cltT c3
    exact J17  s.heap locs ls  (show (-2147483648) ≤ a0.toInt by omega) (show a0.toInt ≤ 2147483647 by omega)  hw   (lv_sub hl [0, 1, 2] rfl)
  · have c3 : (0 : Int) ≤ a0.toInt := wk_cltF c3
    refine lv_lload_n hx hb dX12_in_6 rfl (lv_at hl 0 rfl) ?_
    refine lv_lload hx hb dX12_in_7 (lv_at hl 2 rfl) ?_
    refine W.lcmp hx hb dX12_in_9 ?_
    refine lv_if_gt (tgt := 17) hx hb dX12_in_10 (by decide) (fun c4 => ?_) (fun c4 => ?_)
    · have c4 : (99999 : Int) < a0.toInt := wk_cgtT c4
      exact J17  s.heap locs ls  (show (-2147483648) ≤ a0.toInt by omega) (show a0.toInt ≤ 2147483647 by omega)  hw   (lv_sub hl [0, 1, 2] rfl)
    · have c4 : a0.toInt ≤ (99999 : Int) := wk_cgtF c4
      refine lv_iconst (v := 1) hx hb dX12_in_13 (by decide) ?_
      refine lv_goto (tgt := 18) hx hb dX12_in_14 (by decide) ?_
      exact tk_zret hC hr rfl hlocks hK ⟨rfl, (Or.inr ⟨rfl, (show 0 ≤ a0.toInt by omega), (show a0.toInt ≤ 99999 by omega)⟩)⟩ hw dX12_in_18
abbrev P_X12_numberHere_9 (ad : Nat → Nat) (cy : Nat → ClassId) (B : Int) (qr : Nat) (s1 : Int)  (w0 : va_W) : Int32 → va_W → Prop := fun r u => TW ksM ad cy B qr 12 u ∧ FE ksM [(12, 14, 14), (12, 15, 15), (12, 16, 16)] w0 u ∧ ((r = 0 ∧ (∃ y : Int32, gi u 0 1 = y ∧ 1 ≤ y.toInt ∧ y.toInt ≤ 400) ∧ (∃ y : Int32, gi u 0 15 = y ∧ 1 ≤ y.toInt ∧ y.toInt ≤ 3205)) ∨ (r = 0 ∧ (∃ y : Int32, gi u 0 1 = y ∧ 0 ≤ y.toInt ∧ y.toInt ≤ 400) ∧ (∃ y : Int32, gi u 0 15 = y ∧ 1 ≤ y.toInt ∧ y.toInt ≤ 3205)) ∨ (r = 1 ∧ (∃ y : Int32, gi u 0 1 = y ∧ 1 ≤ y.toInt ∧ y.toInt ≤ 400) ∧ (∃ y : Int32, gi u 0 16 = y ∧ 0 ≤ y.toInt ∧ y.toInt ≤ 99999)))
set_option maxHeartbeats 4000000 in
set_option maxRecDepth 100000 in
theorem k_X12_numberHere_9 (l : Launch) (adK adV : Nat → Nat) (dC : Nat → ClassId) (dI : Nat → Nat → Nat) (cy : Nat → ClassId) (ad : Nat → Nat) (B : Int) (hB0 : 100000 ≤ B) (hB1 : B ≤ 1073741824) (qr : Nat) (s1 : Int)   (w0 : va_W) (sz : Nat) (hT : TW ksM ad cy B qr 12 w0)  : Met l yX12_numberHere wsX12_numberHere ({ frames := 2, cells := 0, slots := 0, locals := 37 }) (va_Pc [.ref (ad 0), .int 0, .int 99999] (wpreS adK adV dC dI cy sz w0)) (va_Qi (P_X12_numberHere_9 ad cy B qr s1  w0) (fun u : va_W => wpost dC dI cy (va_A w0 sz) u) (va_A w0 sz)) 0 0 (va_A w0 sz) := by
  refine Met.ofW (cc := cX12_numberHere) (maxL := 5) (ret := (some .boolean)) (by decide) rfl ?_
  intro p e s m args below meth c s₁ Bk hml hv
  obtain ⟨rfl, ⟨hsz, hP, hK, hD0⟩, hE, hSR⟩ := hv
  have hx := Bk.exec
  have hb := Bk.bytes
  have hr := Bk.returns
  have hlocks := Bk.notSynchronized
  have hC : CallFix p m c cX12_numberHere 5 s _ wsX12_numberHere RX12 := ⟨hx, hb, hml, findClass_of_methodNamed Bk.named, atoms_spec (ws := wsX12_numberHere) Bk.pre⟩
  subst hsz
  have hD := hD0.self (sz := s.heap.size)
  generalize hAe : va_A w0 s.heap.size = A at hD hE ⊢
  have hA : ∀ q : Nat, s.heap.size ≤ q → A q := fun q h => by rw [← hAe]; exact Or.inr h
  have hw : Wd dC dI A s.heap s.heap [] w0 := ⟨hP, hD, va_S.rf⟩
  have hF : FE ksM [(12, 14, 14), (12, 15, 15), (12, 16, 16)] w0 w0 := FE.rf
  have hl := lv_entry ([.ref (ad 0), .int 0, .int 99999]) (n := 5) (Nat.le_of_ble_eq_true rfl)
  rw [lg_entry_eq]
  generalize (lg_sl ([.ref (ad 0), .int 0, .int 99999]) ++ List.replicate (5 - (lg_sl ([.ref (ad 0), .int 0, .int 99999])).length) Slot.unset).toArray = ls at hl ⊢
  have hl : lv_has ls 5 [(0, .ref (ad 0)), (1, .int 0), (2, .int 99999)] := hl
  generalize hloc : ([] : List Loc) = locs at hw ⊢
  have hinX12 : ∀ w ∈ u_ws RX12 TX12 42, w ∈ wsX12_numberHere := fun _ h => List.mem_cons_of_mem _ (List.mem_append_right _ (h))
  have J126 : ∀ (v126_3 : Int32) (v126_4 : Int32) (f126_0_1 : Int32) (f126_0_14 : Int32) (f126_0_16 : Int32) (H : Heap) (locs : List Loc) (ls : Array Slot) (w1 : va_W), 0 ≤ v126_3.toInt → v126_3.toInt ≤ 399 → 0 ≤ v126_4.toInt → v126_4.toInt ≤ 99999 → 1 ≤ f126_0_1.toInt → f126_0_1.toInt ≤ 400 → 0 ≤ f126_0_14.toInt → f126_0_14.toInt ≤ 400 → 0 ≤ f126_0_16.toInt → f126_0_16.toInt ≤ 99999 → Wd dC dI A s.heap H locs w1 → TW ksM ad cy B qr 12 w1 → FE ksM [(12, 14, 14), (12, 15, 15), (12, 16, 16)] w0 w1 → gi w1 0 1 = f126_0_1 → gi w1 0 14 = f126_0_14 → gi w1 0 16 = f126_0_16 → lv_has ls 5 [(0, .ref (ad 0)), (1, .int 0), (2, .int 99999), (3, .int v126_3), (4, .int v126_4)] → W p l e ({ frames := 2, cells := 0, slots := 0, locals := 37 }) s m (List.toArray [.ref (ad 0), .int 0, .int 99999]) below meth c H locs 0 0 (MQ below (va_Qi (P_X12_numberHere_9 ad cy B qr s1  w0) (fun u : va_W => wpost dC dI cy A u) A) (List.toArray [.ref (ad 0), .int 0, .int 99999]) s 0 0 A) (F0 m 126 ls []) := by
    intro v126_3 v126_4 f126_0_1 f126_0_14 f126_0_16 H locs ls w1 r2 t3 r4 t5 r6 t7 r9 t10 r12 t13 hw hT hF c8 c11 c14 hl
    refine lv_iconst (v := 1) hx hb dX12_numberHere_126 (by decide) ?_
    refine lv_goto (tgt := 131) hx hb dX12_numberHere_127 (by decide) ?_
    exact tk_zret hC hr rfl hlocks hK ⟨hT, hF, (Or.inr (Or.inr ⟨rfl, ⟨f126_0_1, c8, (show 1 ≤ f126_0_1.toInt by omega), (show f126_0_1.toInt ≤ 400 by omega)⟩, ⟨f126_0_16, c14, (show 0 ≤ f126_0_16.toInt by omega), (show f126_0_16.toInt ≤ 99999 by omega)⟩⟩))⟩ hw dX12_numberHere_131
  have J117 : ∀ (v117_3 : Int32) (v117_4 : Int32) (f117_0_1 : Int32) (f117_0_14 : Int32) (f117_0_16 : Int32) (H : Heap) (locs : List Loc) (ls : Array Slot) (w15 : va_W), 0 ≤ v117_3.toInt → v117_3.toInt ≤ 399 → 1 ≤ f117_0_1.toInt → f117_0_1.toInt ≤ 400 → 0 ≤ f117_0_14.toInt → f117_0_14.toInt ≤ 400 → Wd dC dI A s.heap H locs w15 → TW ksM ad cy B qr 12 w15 → FE ksM [(12, 14, 14), (12, 15, 15), (12, 16, 16)] w0 w15 → gi w15 0 1 = f117_0_1 → gi w15 0 14 = f117_0_14 → gi w15 0 16 = f117_0_16 → lv_has ls 5 [(0, .ref (ad 0)), (1, .int 0), (2, .int 99999), (3, .int v117_3), (4, .int v117_4)] → W p l e ({ frames := 2, cells := 0, slots := 0, locals := 37 }) s m (List.toArray [.ref (ad 0), .int 0, .int 99999]) below meth c H locs 0 0 (MQ below (va_Qi (P_X12_numberHere_9 ad cy B qr s1  w0) (fun u : va_W => wpost dC dI cy A u) A) (List.toArray [.ref (ad 0), .int 0, .int 99999]) s 0 0 A) (F0 m 117 ls []) := by
    intro v117_3 v117_4 f117_0_1 f117_0_14 f117_0_16 H locs ls w15 r16 t17 r18 t19 r21 t22 hw hT hF c20 c23 c24 hl
    refine lv_aload_n hx hb dX12_numberHere_117 rfl (lv_at hl 0 rfl) ?_
    refine lv_iconst (v := 1) hx hb dX12_numberHere_118 (by decide) ?_
    refine lv_iload_n hx hb dX12_numberHere_119 rfl (lv_at hl 3 rfl) ?_
    refine tk_Vi hC hK hw hT hA hE hSR kM_at0 (by decide) rfl (k_X12_fails_1 l adK adV dC dI cy ad B (by omega) (by omega) qr s1   1 (by decide) (by decide) v117_3 (show 0 ≤ v117_3.toInt by omega) (show v117_3.toInt ≤ 400 by omega) w15 H.size hT ) (cwV 2 hC.2.2.2.2 gX12_numberHere_X12_fails rfl rfl rfl (by decide +kernel) ⟨Nat.le_of_ble_eq_true rfl, Nat.le_of_ble_eq_true rfl⟩) rfl hl.1 rfl (Nat.le_of_ble_eq_true rfl) dX12_numberHere_120 (fun r25 w27 H locs hp26 hw => ?_)
    obtain ⟨hT, k28, hg31⟩ := hp26
    have hF := hF.tr k28 (by decide)
    have c32 := k28.gi kM_at0 (by decide) c20
    have c33 := k28.gi kM_at0 (by decide) c23
    have c34 := k28.gi kM_at0 (by decide) c24
    obtain ⟨rfl, ⟨x29, c30, rx29, tx29⟩⟩ := hg31
    refine lv_if_eq (tgt := 130) hx hb dX12_numberHere_123 (by decide) (fun _ => ?_) (fun c => absurd (by decide) c)
    refine lv_iconst (v := 0) hx hb dX12_numberHere_130 (by decide) ?_
    exact tk_zret hC hr rfl hlocks hK ⟨hT, hF, (Or.inl ⟨rfl, ⟨f117_0_1, c32, (show 1 ≤ f117_0_1.toInt by omega), (show f117_0_1.toInt ≤ 400 by omega)⟩, ⟨x29, c30, (show 1 ≤ x29.toInt by omega), (show x29.toInt ≤ 3205 by omega)⟩⟩)⟩ hw dX12_numberHere_131
  have L34 : ∀ (n34 : Nat) (v34_3 : Int32) (v34_4 : Int32) (f34_0_1 : Int32) (f34_0_14 : Int32) (H : Heap) (locs : List Loc) (ls : Array Slot) (w35 : va_W), 0 ≤ v34_3.toInt → v34_3.toInt ≤ 399 → 1 ≤ f34_0_1.toInt → f34_0_1.toInt ≤ 400 → 0 ≤ f34_0_14.toInt → f34_0_14.toInt ≤ 400 → (400 - f34_0_14.toInt).toNat < n34 → Wd dC dI A s.heap H locs w35 → TW ksM ad cy B qr 12 w35 → FE ksM [(12, 14, 14), (12, 15, 15), (12, 16, 16)] w0 w35 → gi w35 0 1 = f34_0_1 → gi w35 0 14 = f34_0_14 → lv_has ls 5 [(0, .ref (ad 0)), (1, .int 0), (2, .int 99999), (3, .int v34_3), (4, .int v34_4)] → W p l e ({ frames := 2, cells := 0, slots := 0, locals := 37 }) s m (List.toArray [.ref (ad 0), .int 0, .int 99999]) below meth c H locs 0 0 (MQ below (va_Qi (P_X12_numberHere_9 ad cy B qr s1  w0) (fun u : va_W => wpost dC dI cy A u) A) (List.toArray [.ref (ad 0), .int 0, .int 99999]) s 0 0 A) (F0 m 34 ls []) := by
    intro n34
    induction n34 with
    | zero => intro v34_3 v34_4 f34_0_1 f34_0_14 H locs ls w35 r36 t37 r38 t39 r41 t42 hm34 hw hT hF c40 c43 hl; omega
    | succ n34 ih34 =>
      intro v34_3 v34_4 f34_0_1 f34_0_14 H locs ls w35 r36 t37 r38 t39 r41 t42 hm34 hw hT hF c40 c43 hl
      have J75 : ∀ (v75_4 : Int32) (H : Heap) (locs : List Loc) (ls : Array Slot) (w44 : va_W), 0 ≤ v34_3.toInt → v34_3.toInt ≤ 399 → 1 ≤ f34_0_1.toInt → f34_0_1.toInt ≤ 400 → 0 ≤ f34_0_14.toInt → f34_0_14.toInt ≤ 399 → Wd dC dI A s.heap H locs w44 → TW ksM ad cy B qr 12 w44 → FE ksM [(12, 14, 14), (12, 15, 15), (12, 16, 16)] w0 w44 → gi w44 0 1 = f34_0_1 → gi w44 0 14 = f34_0_14 → lv_has ls 5 [(0, .ref (ad 0)), (1, .int 0), (2, .int 99999), (3, .int v34_3), (4, .int v75_4)] → W p l e ({ frames := 2, cells := 0, slots := 0, locals := 37 }) s m (List.toArray [.ref (ad 0), .int 0, .int 99999]) below meth c H locs 0 0 (MQ below (va_Qi (P_X12_numberHere_9 ad cy B qr s1  w0) (fun u : va_W => wpost dC dI cy A u) A) (List.toArray [.ref (ad 0), .int 0, .int 99999]) s 0 0 A) (F0 m 75 ls []) := by
        intro v75_4 H locs ls w44 r45 t46 r47 t48 r50 t51 hw hT hF c49 c52 hl
        refine lv_aload_n hx hb dX12_numberHere_75 rfl (lv_at hl 0 rfl) ?_
        refine lv_dup hx hb dX12_numberHere_76 rfl ?_
        refine tk_geti hC hK hw hT hinX12 kM_at0 (by decide) rfl 14 (by decide) (List.mem_of_getElem? (i := 1) rfl) rfl rfl dX12_numberHere_77 (fun x53 c54 rx53 tx53 => ?_)
        refine wk_top f34_0_14 (c54.symm.trans c52) ?_
        refine lv_iconst (v := 1) hx hb dX12_numberHere_80 (by decide) ?_
        refine lv_iadd hx hb dX12_numberHere_81 ?_
        refine lv_topi (fun x55 ex55 => ?_)
        have ex55 : x55.toInt = f34_0_14.toInt + (1 : Int) := by rw [ex55]; exact wk_add (show (-2147483648) ≤ f34_0_14.toInt + (1 : Int) by omega) (show f34_0_14.toInt + (1 : Int) ≤ 2147483647 by omega)
        refine tk_puti hC hK hw hT hinX12 tyX12_ok nmX12 kM_at0 (by decide) rfl rfl 14 (by decide) (List.mem_of_getElem? (i := 1) rfl) rfl rfl rfl rfl (show 0 ≤ x55.toInt by omega) (show x55.toInt ≤ 400 by omega) dX12_numberHere_82 (fun H locs w56 hw hT k58 c57 => ?_)
        have hF := hF.put kM_at0 (k := 14) (by decide) k58
        have c59 := k58.gi (Or.inr (by decide)) c49
        refine lv_goto (tgt := 34) hx hb dX12_numberHere_85 (by decide) ?_
        exact ih34 v34_3 v75_4 f34_0_1 x55 H locs ls w56 (show 0 ≤ v34_3.toInt by omega) (show v34_3.toInt ≤ 399 by omega) (show 1 ≤ f34_0_1.toInt by omega) (show f34_0_1.toInt ≤ 400 by omega) (show 0 ≤ x55.toInt by omega) (show x55.toInt ≤ 400 by omega) (show (400 - x55.toInt).toNat < n34 by omega) hw hT hF c59 c57 (lv_sub hl [0, 1, 2, 3, 4] rfl)
      refine lv_aload_n hx hb dX12_numberHere_34 rfl (lv_at hl 0 rfl) ?_
      refine lv_aload_n hx hb dX12_numberHere_35 rfl (lv_at hl 0 rfl) ?_
      refine tk_geti hC hK hw hT hinX12 kM_at0 (by decide) rfl 14 (by decide) (List.mem_of_getElem? (i := 1) rfl) rfl rfl dX12_numberHere_36 (fun x60 c61 rx60 tx60 => ?_)
      refine wk_top f34_0_14 (c61.symm.trans c43) ?_
      refine tk_Vi hC hK hw hT hA hE hSR kM_at0 (by decide) rfl (k_X12_isDigit_2 l adK adV dC dI cy ad B (by omega) (by omega) qr s1   f34_0_14 (show 0 ≤ f34_0_14.toInt by omega) (show f34_0_14.toInt ≤ 400 by omega) w35 H.size hT ) (cwV 1 hC.2.2.2.2 gX12_numberHere_X12_isDigit rfl rfl rfl (by decide +kernel) ⟨Nat.le_of_ble_eq_true rfl, Nat.le_of_ble_eq_true rfl⟩) rfl hl.1 rfl (Nat.le_of_ble_eq_true rfl) dX12_numberHere_39 (fun r62 w64 H locs hp63 hw => ?_)
      obtain ⟨rfl, hg71⟩ := hp63
      rcases hg71 with ⟨rfl, ⟨x66, c67, rx66, tx66⟩⟩ | ⟨rfl, g68, ⟨x69, c70, rx69, tx69⟩⟩
      · have ex66 : x66.toInt = f34_0_1.toInt := by rw [← c40.symm.trans c67]
        refine lv_if_eq (tgt := 88) hx hb dX12_numberHere_42 (by decide) (fun _ => ?_) (fun c => absurd (by decide) c)
        refine lv_aload_n hx hb dX12_numberHere_88 rfl (lv_at hl 0 rfl) ?_
        refine lv_iload hx hb dX12_numberHere_89 (lv_at hl 4 rfl) ?_
        refine tk_puti hC hK hw hT hinX12 tyX12_ok nmX12 kM_at0 (by decide) rfl rfl 16 (by decide) (List.mem_of_getElem? (i := 3) rfl) rfl rfl rfl rfl (wk_i32 v34_4).1 (wk_i32 v34_4).2 dX12_numberHere_91 (fun H locs w72 hw hT k74 c73 => ?_)
        have hF := hF.put kM_at0 (k := 16) (by decide) k74
        have c75 := k74.gi (Or.inr (by decide)) c40
        have c76 := k74.gi (Or.inr (by decide)) c43
        refine lv_aload_n hx hb dX12_numberHere_94 rfl (lv_at hl 0 rfl) ?_
        refine tk_geti hC hK hw hT hinX12 kM_at0 (by decide) rfl 14 (by decide) (List.mem_of_getElem? (i := 1) rfl) rfl rfl dX12_numberHere_95 (fun x77 c78 rx77 tx77 => ?_)
        refine wk_top f34_0_14 (c78.symm.trans c76) ?_
        refine lv_iload_n hx hb dX12_numberHere_98 rfl (lv_at hl 3 rfl) ?_
        refine lv_isub hx hb dX12_numberHere_99 ?_
        refine lv_topi (fun x79 ex79 => ?_)
        have ex79 : x79.toInt = f34_0_14.toInt - v34_3.toInt := by rw [ex79]; exact wk_sub (show (-2147483648) ≤ f34_0_14.toInt - v34_3.toInt by omega) (show f34_0_14.toInt - v34_3.toInt ≤ 2147483647 by omega)
        refine lv_iconst (v := 5) hx hb dX12_numberHere_100 (by decide) ?_
        refine lv_icmp_gt (tgt := 117) hx hb dX12_numberHere_101 (by decide) (fun c80 => ?_) (fun c80 => ?_)
        · have c80 : (5 : Int) < x79.toInt := wk_lt.mp c80
          exact J117 v34_3 v34_4 f34_0_1 f34_0_14 v34_4 H locs ls w72 (show 0 ≤ v34_3.toInt by omega) (show v34_3.toInt ≤ 399 by omega) (show 1 ≤ f34_0_1.toInt by omega) (show f34_0_1.toInt ≤ 400 by omega) (show 0 ≤ f34_0_14.toInt by omega) (show f34_0_14.toInt ≤ 400 by omega)  hw hT hF c75 c76 c73 (lv_sub hl [0, 1, 2, 3, 4] rfl)
        · have c80 : x79.toInt ≤ (5 : Int) := wk_ltF c80
          refine lv_iload hx hb dX12_numberHere_104 (lv_at hl 4 rfl) ?_
          refine lv_i2l hx hb dX12_numberHere_106 rfl ?_
          refine lv_topl (fun x81 ex81 => ?_)
          have ex81 : x81.toInt = v34_4.toInt := by rw [ex81]; exact wk_i2l _
          have bx81 := wk_i32 v34_4
          refine lv_iload_n hx hb dX12_numberHere_107 rfl (lv_at hl 1 rfl) ?_
          refine lv_i2l hx hb dX12_numberHere_108 rfl ?_
          refine wk_topl 0 (by decide) ?_
          refine lv_iload_n hx hb dX12_numberHere_109 rfl (lv_at hl 2 rfl) ?_
          refine lv_i2l hx hb dX12_numberHere_110 rfl ?_
          refine wk_topl 99999 (by decide) ?_
          refine tk_Si hC hK hw hT hA hE hSR (k_X12_in_9 l adK adV dC dI cy ad B (by omega) (by omega) qr s1   x81 (show (-2147483648) ≤ x81.toInt by omega) (show x81.toInt ≤ 2147483647 by omega) w72 H.size hT ) (va_cwS 3 hC.2.2.2.2 gX12_numberHere_X12_in rfl rfl rfl (by decide +kernel) ⟨Nat.le_of_ble_eq_true rfl, Nat.le_of_ble_eq_true rfl⟩) rfl hl.1 rfl (Nat.le_of_ble_eq_true rfl) dX12_numberHere_111 (fun r82 w84 H locs hp83 hw => ?_)
          obtain ⟨rfl, hg88⟩ := hp83
          rcases hg88 with rfl | ⟨rfl, g86, g87⟩
          · refine lv_if_ne (tgt := 126) hx hb dX12_numberHere_114 (by decide) (fun c => absurd (by decide) c) (fun _ => ?_)
            exact J117 v34_3 v34_4 f34_0_1 f34_0_14 v34_4 H locs ls w72 (show 0 ≤ v34_3.toInt by omega) (show v34_3.toInt ≤ 399 by omega) (show 1 ≤ f34_0_1.toInt by omega) (show f34_0_1.toInt ≤ 400 by omega) (show 0 ≤ f34_0_14.toInt by omega) (show f34_0_14.toInt ≤ 400 by omega)  hw hT hF c75 c76 c73 (lv_sub hl [0, 1, 2, 3, 4] rfl)
          · refine lv_if_ne (tgt := 126) hx hb dX12_numberHere_114 (by decide) (fun _ => ?_) (fun c => absurd c (by decide))
            exact J126 v34_3 v34_4 f34_0_1 f34_0_14 v34_4 H locs ls w72 (show 0 ≤ v34_3.toInt by omega) (show v34_3.toInt ≤ 399 by omega) (show 0 ≤ v34_4.toInt by omega) (show v34_4.toInt ≤ 99999 by omega) (show 1 ≤ f34_0_1.toInt by omega) (show f34_0_1.toInt ≤ 400 by omega) (show 0 ≤ f34_0_14.toInt by omega) (show f34_0_14.toInt ≤ 400 by omega) (show 0 ≤ v34_4.toInt by omega) (show v34_4.toInt ≤ 99999 by omega)  hw hT hF c75 c76 c73 (lv_sub hl [0, 1, 2, 3, 4] rfl)
      · have ex69 : x69.toInt = f34_0_1.toInt := by rw [← c40.symm.trans c70]
        refine lv_if_eq (tgt := 88) hx hb dX12_numberHere_42 (by decide) (fun c => absurd c (by decide)) (fun _ => ?_)
        refine lv_aload_n hx hb dX12_numberHere_45 rfl (lv_at hl 0 rfl) ?_
        refine tk_geti hC hK hw hT hinX12 kM_at0 (by decide) rfl 14 (by decide) (List.mem_of_getElem? (i := 1) rfl) rfl rfl dX12_numberHere_46 (fun x89 c90 rx89 tx89 => ?_)
        refine wk_top f34_0_14 (c90.symm.trans c43) ?_
        refine lv_iload_n hx hb dX12_numberHere_49 rfl (lv_at hl 3 rfl) ?_
        refine lv_isub hx hb dX12_numberHere_50 ?_
        refine lv_topi (fun x91 ex91 => ?_)
        have ex91 : x91.toInt = f34_0_14.toInt - v34_3.toInt := by rw [ex91]; exact wk_sub (show (-2147483648) ≤ f34_0_14.toInt - v34_3.toInt by omega) (show f34_0_14.toInt - v34_3.toInt ≤ 2147483647 by omega)
        refine lv_iconst (v := 5) hx hb dX12_numberHere_51 (by decide) ?_
        refine lv_icmp_ge (tgt := 75) hx hb dX12_numberHere_52 (by decide) (fun c92 => ?_) (fun c92 => ?_)
        · have c92 : (5 : Int) ≤ x91.toInt := wk_le.mp c92
          exact J75 v34_4 H locs ls w35 (show 0 ≤ v34_3.toInt by omega) (show v34_3.toInt ≤ 399 by omega) (show 1 ≤ f34_0_1.toInt by omega) (show f34_0_1.toInt ≤ 400 by omega) (show 0 ≤ f34_0_14.toInt by omega) (show f34_0_14.toInt ≤ 399 by omega)  hw hT hF c40 c43 (lv_sub hl [0, 1, 2, 3, 4] rfl)
        · have c92 : x91.toInt < (5 : Int) := wk_leF c92
          refine lv_bipush (v := 10) hx hb dX12_numberHere_55 (by decide) ?_
          refine lv_iload hx hb dX12_numberHere_57 (lv_at hl 4 rfl) ?_
          refine lv_imul hx hb dX12_numberHere_59 ?_
          have nx93 := wk_i32 v34_4
          refine lv_topi (fun x94 ex94 => ?_)
          refine lv_aload_n hx hb dX12_numberHere_60 rfl (lv_at hl 0 rfl) ?_
          refine tk_getA hC hK hw hT hinX12 kM_at0 (by decide) rfl 0 (by decide) (List.mem_of_getElem? (i := 2) rfl) rfl rfl dX12_numberHere_61 ?_
          refine lv_aload_n hx hb dX12_numberHere_64 rfl (lv_at hl 0 rfl) ?_
          refine tk_geti hC hK hw hT hinX12 kM_at0 (by decide) rfl 14 (by decide) (List.mem_of_getElem? (i := 1) rfl) rfl rfl dX12_numberHere_65 (fun x95 c96 rx95 tx95 => ?_)
          refine wk_top f34_0_14 (c96.symm.trans c43) ?_
          refine tk_bald hC hK hw hT kM_at1 rfl rfl (show 0 ≤ f34_0_14.toInt by omega) (show f34_0_14.toInt < 400 by omega) dX12_numberHere_68 (fun x97 c98 rx97 tx97 => ?_)
          have c98 : gi w35 1 (f34_0_14.toInt).toNat = x97 := (congrArg (gi w35 1) (congrArg Int.toNat (show f34_0_14.toInt = f34_0_14.toInt by omega))).trans c98
          refine lv_iadd hx hb dX12_numberHere_69 ?_
          have nx99 := wk_i32 x94
          refine lv_topi (fun x100 ex100 => ?_)
          refine lv_bipush (v := 48) hx hb dX12_numberHere_70 (by decide) ?_
          refine lv_isub hx hb dX12_numberHere_72 ?_
          have nx101 := wk_i32 x100
          refine lv_topi (fun x102 ex102 => ?_)
          refine lv_istore (lv' := [(4, .int x102), (0, .ref (ad 0)), (1, .int 0), (2, .int 99999), (3, .int v34_3)]) hx hb dX12_numberHere_73 hl (by decide) rfl (fun ls hl => ?_)
          exact J75 x102 H locs ls w35 (show 0 ≤ v34_3.toInt by omega) (show v34_3.toInt ≤ 399 by omega) (show 1 ≤ f34_0_1.toInt by omega) (show f34_0_1.toInt ≤ 400 by omega) (show 0 ≤ f34_0_14.toInt by omega) (show f34_0_14.toInt ≤ 399 by omega)  hw hT hF c40 c43 (lv_sub hl [1, 2, 3, 4, 0] rfl)
  refine lv_aload_n hx hb dX12_numberHere_0 rfl (lv_at hl 0 rfl) ?_
  obtain ⟨x103, c104, rx103, tx103⟩ := hT.rdi (lo := 0) (hi := 400) (k := 14) kM_at0 (by decide) rfl
  refine tk_Vi hC hK hw hT hA hE hSR kM_at0 (by decide) rfl (k_X12_see_1 l adK adV dC dI cy ad B (by omega) (by omega) qr s1    w0 s.heap.size hT x103 c104 (show 0 ≤ x103.toInt by omega) (show x103.toInt ≤ 400 by omega)) (cwV 0 hC.2.2.2.2 gX12_numberHere_X12_see rfl rfl rfl (by decide +kernel) ⟨Nat.le_of_ble_eq_true rfl, Nat.le_of_ble_eq_true rfl⟩) rfl hl.1 rfl (Nat.le_of_ble_eq_true rfl) dX12_numberHere_1 (fun r105 w107 H locs hp106 hw => ?_)
  obtain ⟨hT, k108, hg125⟩ := hp106
  have hF := hF.tr k108 (by decide)
  rcases hg125 with ⟨g109, g110, ⟨x111, c112, rx111, tx111⟩, ⟨x113, c114, rx113, tx113⟩, g115, g116⟩ | ⟨rfl, ⟨x117, c118, rx117, tx117⟩, ⟨x119, c120, rx119, tx119⟩, g121⟩ | ⟨rfl, ⟨x122, c123, rx122, tx122⟩, g124⟩
  · have g115 : (gi w107 1 (x113.toInt).toNat).toInt ≠ 32 := by have q := g115; simp only [c114] at q; omega
    have g116 : (x113.toInt = x103.toInt ∨ (gi w0 1 (x103.toInt).toNat).toInt = 32) := by have q := g116; simp only [c104, c114] at q; omega
    refine lv_pop hx hb dX12_numberHere_4 rfl ?_
    refine lv_aload_n hx hb dX12_numberHere_5 rfl (lv_at hl 0 rfl) ?_
    refine lv_aload_n hx hb dX12_numberHere_6 rfl (lv_at hl 0 rfl) ?_
    refine tk_geti hC hK hw hT hinX12 kM_at0 (by decide) rfl 14 (by decide) (List.mem_of_getElem? (i := 1) rfl) rfl rfl dX12_numberHere_7 (fun x128 c129 rx128 tx128 => ?_)
    refine wk_top x113 (c129.symm.trans c114) ?_
    refine tk_Vi hC hK hw hT hA hE hSR kM_at0 (by decide) rfl (k_X12_isDigit_1 l adK adV dC dI cy ad B (by omega) (by omega) qr s1   x113 (show 0 ≤ x113.toInt by omega) (show x113.toInt ≤ 399 by omega) w107 H.size hT ) (cwV 1 hC.2.2.2.2 gX12_numberHere_X12_isDigit rfl rfl rfl (by decide +kernel) ⟨Nat.le_of_ble_eq_true rfl, Nat.le_of_ble_eq_true rfl⟩) rfl hl.1 rfl (Nat.le_of_ble_eq_true rfl) dX12_numberHere_10 (fun r130 w132 H locs hp131 hw => ?_)
    obtain ⟨rfl, hg138⟩ := hp131
    rcases hg138 with ⟨rfl, ⟨x134, c135, rx134, tx134⟩⟩ | ⟨rfl, ⟨x136, c137, rx136, tx136⟩⟩
    · have ex134 : x134.toInt = x111.toInt := by rw [← c112.symm.trans c135]
      refine lv_if_ne (tgt := 26) hx hb dX12_numberHere_13 (by decide) (fun c => absurd (by decide) c) (fun _ => ?_)
      refine lv_aload_n hx hb dX12_numberHere_16 rfl (lv_at hl 0 rfl) ?_
      refine lv_iconst (v := 0) hx hb dX12_numberHere_17 (by decide) ?_
      refine lv_aload_n hx hb dX12_numberHere_18 rfl (lv_at hl 0 rfl) ?_
      refine tk_geti hC hK hw hT hinX12 kM_at0 (by decide) rfl 14 (by decide) (List.mem_of_getElem? (i := 1) rfl) rfl rfl dX12_numberHere_19 (fun x139 c140 rx139 tx139 => ?_)
      refine wk_top x113 (c140.symm.trans c114) ?_
      refine tk_Vi hC hK hw hT hA hE hSR kM_at0 (by decide) rfl (k_X12_fails_1 l adK adV dC dI cy ad B (by omega) (by omega) qr s1   0 (by decide) (by decide) x113 (show 0 ≤ x113.toInt by omega) (show x113.toInt ≤ 400 by omega) w107 H.size hT ) (cwV 2 hC.2.2.2.2 gX12_numberHere_X12_fails rfl rfl rfl (by decide +kernel) ⟨Nat.le_of_ble_eq_true rfl, Nat.le_of_ble_eq_true rfl⟩) rfl hl.1 rfl (Nat.le_of_ble_eq_true rfl) dX12_numberHere_22 (fun r141 w143 H locs hp142 hw => ?_)
      obtain ⟨hT, k144, hg147⟩ := hp142
      have hF := hF.tr k144 (by decide)
      have c148 := k144.gi kM_at0 (by decide) c112
      have c149 := k144.gi kM_at0 (by decide) c114
      obtain ⟨rfl, ⟨x145, c146, rx145, tx145⟩⟩ := hg147
      exact tk_zret hC hr rfl hlocks hK ⟨hT, hF, (Or.inl ⟨rfl, ⟨x111, c148, (show 1 ≤ x111.toInt by omega), (show x111.toInt ≤ 400 by omega)⟩, ⟨x145, c146, (show 1 ≤ x145.toInt by omega), (show x145.toInt ≤ 3205 by omega)⟩⟩)⟩ hw dX12_numberHere_25
    · have ex136 : x136.toInt = x111.toInt := by rw [← c112.symm.trans c137]
      refine lv_if_ne (tgt := 26) hx hb dX12_numberHere_13 (by decide) (fun _ => ?_) (fun c => absurd c (by decide))
      refine lv_aload_n hx hb dX12_numberHere_26 rfl (lv_at hl 0 rfl) ?_
      refine tk_geti hC hK hw hT hinX12 kM_at0 (by decide) rfl 14 (by decide) (List.mem_of_getElem? (i := 1) rfl) rfl rfl dX12_numberHere_27 (fun x150 c151 rx150 tx150 => ?_)
      refine wk_top x113 (c151.symm.trans c114) ?_
      refine lv_istore_n (lv' := [(3, .int x113), (0, .ref (ad 0)), (1, .int 0), (2, .int 99999)]) hx hb dX12_numberHere_30 rfl hl (by decide) rfl (fun ls hl => ?_)
      refine lv_iconst (v := 0) hx hb dX12_numberHere_31 (by decide) ?_
      refine lv_istore (lv' := [(4, .int 0), (3, .int x113), (0, .ref (ad 0)), (1, .int 0), (2, .int 99999)]) hx hb dX12_numberHere_32 hl (by decide) rfl (fun ls hl => ?_)
      exact L34 ((400 - x113.toInt).toNat + 1) x113 0 x111 x113 H locs ls w107 (show 0 ≤ x113.toInt by omega) (show x113.toInt ≤ 399 by omega) (show 1 ≤ x111.toInt by omega) (show x111.toInt ≤ 400 by omega) (show 0 ≤ x113.toInt by omega) (show x113.toInt ≤ 400 by omega) (Nat.lt_succ_self _) hw hT hF c112 c114 (lv_sub hl [2, 3, 4, 1, 0] rfl)
  · have g121 : (x119.toInt = x103.toInt ∨ (gi w0 1 (x103.toInt).toNat).toInt = 32) := by have q := g121; simp only [c104, c120] at q; omega
    refine lv_pop hx hb dX12_numberHere_4 rfl ?_
    refine lv_aload_n hx hb dX12_numberHere_5 rfl (lv_at hl 0 rfl) ?_
    refine lv_aload_n hx hb dX12_numberHere_6 rfl (lv_at hl 0 rfl) ?_
    refine tk_geti hC hK hw hT hinX12 kM_at0 (by decide) rfl 14 (by decide) (List.mem_of_getElem? (i := 1) rfl) rfl rfl dX12_numberHere_7 (fun x152 c153 rx152 tx152 => ?_)
    refine wk_top x119 (c153.symm.trans c120) ?_
    refine tk_Vi hC hK hw hT hA hE hSR kM_at0 (by decide) rfl (k_X12_isDigit_3 l adK adV dC dI cy ad B (by omega) (by omega) qr s1   x119 (show 1 ≤ x119.toInt by omega) (show x119.toInt ≤ 399 by omega) w107 H.size hT ) (cwV 1 hC.2.2.2.2 gX12_numberHere_X12_isDigit rfl rfl rfl (by decide +kernel) ⟨Nat.le_of_ble_eq_true rfl, Nat.le_of_ble_eq_true rfl⟩) rfl hl.1 rfl (Nat.le_of_ble_eq_true rfl) dX12_numberHere_10 (fun r154 w156 H locs hp155 hw => ?_)
    obtain ⟨rfl, hg162⟩ := hp155
    rcases hg162 with ⟨rfl, ⟨x158, c159, rx158, tx158⟩⟩ | ⟨rfl, ⟨x160, c161, rx160, tx160⟩⟩
    · have ex158 : x158.toInt = x117.toInt := by rw [← c118.symm.trans c159]
      refine lv_if_ne (tgt := 26) hx hb dX12_numberHere_13 (by decide) (fun c => absurd (by decide) c) (fun _ => ?_)
      refine lv_aload_n hx hb dX12_numberHere_16 rfl (lv_at hl 0 rfl) ?_
      refine lv_iconst (v := 0) hx hb dX12_numberHere_17 (by decide) ?_
      refine lv_aload_n hx hb dX12_numberHere_18 rfl (lv_at hl 0 rfl) ?_
      refine tk_geti hC hK hw hT hinX12 kM_at0 (by decide) rfl 14 (by decide) (List.mem_of_getElem? (i := 1) rfl) rfl rfl dX12_numberHere_19 (fun x163 c164 rx163 tx163 => ?_)
      refine wk_top x119 (c164.symm.trans c120) ?_
      refine tk_Vi hC hK hw hT hA hE hSR kM_at0 (by decide) rfl (k_X12_fails_1 l adK adV dC dI cy ad B (by omega) (by omega) qr s1   0 (by decide) (by decide) x119 (show 0 ≤ x119.toInt by omega) (show x119.toInt ≤ 400 by omega) w107 H.size hT ) (cwV 2 hC.2.2.2.2 gX12_numberHere_X12_fails rfl rfl rfl (by decide +kernel) ⟨Nat.le_of_ble_eq_true rfl, Nat.le_of_ble_eq_true rfl⟩) rfl hl.1 rfl (Nat.le_of_ble_eq_true rfl) dX12_numberHere_22 (fun r165 w167 H locs hp166 hw => ?_)
      obtain ⟨hT, k168, hg171⟩ := hp166
      have hF := hF.tr k168 (by decide)
      have c172 := k168.gi kM_at0 (by decide) c118
      have c173 := k168.gi kM_at0 (by decide) c120
      obtain ⟨rfl, ⟨x169, c170, rx169, tx169⟩⟩ := hg171
      exact tk_zret hC hr rfl hlocks hK ⟨hT, hF, (Or.inl ⟨rfl, ⟨x117, c172, (show 1 ≤ x117.toInt by omega), (show x117.toInt ≤ 400 by omega)⟩, ⟨x169, c170, (show 1 ≤ x169.toInt by omega), (show x169.toInt ≤ 3205 by omega)⟩⟩)⟩ hw dX12_numberHere_25
    · have ex160 : x160.toInt = x117.toInt := by rw [← c118.symm.trans c161]
      refine lv_if_ne (tgt := 26) hx hb dX12_numberHere_13 (by decide) (fun _ => ?_) (fun c => absurd c (by decide))
      refine lv_aload_n hx hb dX12_numberHere_26 rfl (lv_at hl 0 rfl) ?_
      refine tk_geti hC hK hw hT hinX12 kM_at0 (by decide) rfl 14 (by decide) (List.mem_of_getElem? (i := 1) rfl) rfl rfl dX12_numberHere_27 (fun x174 c175 rx174 tx174 => ?_)
      refine wk_top x119 (c175.symm.trans c120) ?_
      refine lv_istore_n (lv' := [(3, .int x119), (0, .ref (ad 0)), (1, .int 0), (2, .int 99999)]) hx hb dX12_numberHere_30 rfl hl (by decide) rfl (fun ls hl => ?_)
      refine lv_iconst (v := 0) hx hb dX12_numberHere_31 (by decide) ?_
      refine lv_istore (lv' := [(4, .int 0), (3, .int x119), (0, .ref (ad 0)), (1, .int 0), (2, .int 99999)]) hx hb dX12_numberHere_32 hl (by decide) rfl (fun ls hl => ?_)
      exact L34 ((400 - x119.toInt).toNat + 1) x119 0 x117 x119 H locs ls w107 (show 0 ≤ x119.toInt by omega) (show x119.toInt ≤ 399 by omega) (show 1 ≤ x117.toInt by omega) (show x117.toInt ≤ 400 by omega) (show 0 ≤ x119.toInt by omega) (show x119.toInt ≤ 400 by omega) (Nat.lt_succ_self _) hw hT hF c118 c120 (lv_sub hl [2, 3, 4, 1, 0] rfl)
  · obtain ⟨x126, c127, rx126, tx126⟩ := hT.rdi (lo := 0) (hi := 400) (k := 14) kM_at0 (by decide) rfl
    have g124 : (x126.toInt = x103.toInt ∨ (gi w0 1 (x103.toInt).toNat).toInt = 32) := by have q := g124; simp only [c104, c127] at q; omega
    refine lv_pop hx hb dX12_numberHere_4 rfl ?_
    refine lv_aload_n hx hb dX12_numberHere_5 rfl (lv_at hl 0 rfl) ?_
    refine lv_aload_n hx hb dX12_numberHere_6 rfl (lv_at hl 0 rfl) ?_
    refine tk_geti hC hK hw hT hinX12 kM_at0 (by decide) rfl 14 (by decide) (List.mem_of_getElem? (i := 1) rfl) rfl rfl dX12_numberHere_7 (fun x176 c177 rx176 tx176 => ?_)
    refine wk_top x126 (c177.symm.trans c127) ?_
    refine tk_Vi hC hK hw hT hA hE hSR kM_at0 (by decide) rfl (k_X12_isDigit_2 l adK adV dC dI cy ad B (by omega) (by omega) qr s1   x126 (show 0 ≤ x126.toInt by omega) (show x126.toInt ≤ 400 by omega) w107 H.size hT ) (cwV 1 hC.2.2.2.2 gX12_numberHere_X12_isDigit rfl rfl rfl (by decide +kernel) ⟨Nat.le_of_ble_eq_true rfl, Nat.le_of_ble_eq_true rfl⟩) rfl hl.1 rfl (Nat.le_of_ble_eq_true rfl) dX12_numberHere_10 (fun r178 w180 H locs hp179 hw => ?_)
    obtain ⟨rfl, hg187⟩ := hp179
    rcases hg187 with ⟨rfl, ⟨x182, c183, rx182, tx182⟩⟩ | ⟨rfl, g184, ⟨x185, c186, rx185, tx185⟩⟩
    · have ex182 : x182.toInt = x122.toInt := by rw [← c123.symm.trans c183]
      refine lv_if_ne (tgt := 26) hx hb dX12_numberHere_13 (by decide) (fun c => absurd (by decide) c) (fun _ => ?_)
      refine lv_aload_n hx hb dX12_numberHere_16 rfl (lv_at hl 0 rfl) ?_
      refine lv_iconst (v := 0) hx hb dX12_numberHere_17 (by decide) ?_
      refine lv_aload_n hx hb dX12_numberHere_18 rfl (lv_at hl 0 rfl) ?_
      refine tk_geti hC hK hw hT hinX12 kM_at0 (by decide) rfl 14 (by decide) (List.mem_of_getElem? (i := 1) rfl) rfl rfl dX12_numberHere_19 (fun x188 c189 rx188 tx188 => ?_)
      refine wk_top x126 (c189.symm.trans c127) ?_
      refine tk_Vi hC hK hw hT hA hE hSR kM_at0 (by decide) rfl (k_X12_fails_1 l adK adV dC dI cy ad B (by omega) (by omega) qr s1   0 (by decide) (by decide) x126 (show 0 ≤ x126.toInt by omega) (show x126.toInt ≤ 400 by omega) w107 H.size hT ) (cwV 2 hC.2.2.2.2 gX12_numberHere_X12_fails rfl rfl rfl (by decide +kernel) ⟨Nat.le_of_ble_eq_true rfl, Nat.le_of_ble_eq_true rfl⟩) rfl hl.1 rfl (Nat.le_of_ble_eq_true rfl) dX12_numberHere_22 (fun r190 w192 H locs hp191 hw => ?_)
      obtain ⟨hT, k193, hg196⟩ := hp191
      have hF := hF.tr k193 (by decide)
      have c197 := k193.gi kM_at0 (by decide) c123
      have c198 := k193.gi kM_at0 (by decide) c127
      obtain ⟨rfl, ⟨x194, c195, rx194, tx194⟩⟩ := hg196
      exact tk_zret hC hr rfl hlocks hK ⟨hT, hF, (Or.inr (Or.inl ⟨rfl, ⟨x122, c197, (show 0 ≤ x122.toInt by omega), (show x122.toInt ≤ 400 by omega)⟩, ⟨x194, c195, (show 1 ≤ x194.toInt by omega), (show x194.toInt ≤ 3205 by omega)⟩⟩))⟩ hw dX12_numberHere_25
    · have ex185 : x185.toInt = x122.toInt := by rw [← c123.symm.trans c186]
      refine lv_if_ne (tgt := 26) hx hb dX12_numberHere_13 (by decide) (fun _ => ?_) (fun c => absurd c (by decide))
      refine lv_aload_n hx hb dX12_numberHere_26 rfl (lv_at hl 0 rfl) ?_
      refine tk_geti hC hK hw hT hinX12 kM_at0 (by decide) rfl 14 (by decide) (List.mem_of_getElem? (i := 1) rfl) rfl rfl dX12_numberHere_27 (fun x199 c200 rx199 tx199 => ?_)
      refine wk_top x126 (c200.symm.trans c127) ?_
      refine lv_istore_n (lv' := [(3, .int x126), (0, .ref (ad 0)), (1, .int 0), (2, .int 99999)]) hx hb dX12_numberHere_30 rfl hl (by decide) rfl (fun ls hl => ?_)
      refine lv_iconst (v := 0) hx hb dX12_numberHere_31 (by decide) ?_
      refine lv_istore (lv' := [(4, .int 0), (3, .int x126), (0, .ref (ad 0)), (1, .int 0), (2, .int 99999)]) hx hb dX12_numberHere_32 hl (by decide) rfl (fun ls hl => ?_)
      exact L34 ((400 - x126.toInt).toNat + 1) x126 0 x122 x126 H locs ls w107 (show 0 ≤ x126.toInt by omega) (show x126.toInt ≤ 399 by omega) (show 1 ≤ x122.toInt by omega) (show x122.toInt ≤ 400 by omega) (show 0 ≤ x126.toInt by omega) (show x126.toInt ≤ 400 by omega) (Nat.lt_succ_self _) hw hT hF c123 c127 (lv_sub hl [2, 3, 4, 1, 0] rfl)
abbrev P_X12_isWord_10 (ad : Nat → Nat) (cy : Nat → ClassId) (B : Int) (qr : Nat) (s1 : Int)  (w0 : va_W) : Int32 → va_W → Prop := fun r u => TW ksM ad cy B qr 12 u ∧ FE ksM [(12, 14, 14)] w0 u ∧ ((r = 0 ∧ (∃ y : Int32, gi u 0 1 = y ∧ 0 ≤ y.toInt ∧ y.toInt ≤ 400) ∧ (((gi u 0 14).toInt = (gi w0 0 14).toInt ∨ (gi w0 1 ((gi w0 0 14).toInt).toNat).toInt = 32))) ∨ (r = 1 ∧ (∃ y : Int32, gi u 0 1 = y ∧ 0 ≤ y.toInt ∧ y.toInt ≤ 400) ∧ (((gi u 0 14).toInt = (gi w0 0 14).toInt ∨ (gi w0 1 ((gi w0 0 14).toInt).toNat).toInt = 32))))
set_option maxHeartbeats 4000000 in
set_option maxRecDepth 100000 in
theorem k_X12_isWord_10 (l : Launch) (adK adV : Nat → Nat) (dC : Nat → ClassId) (dI : Nat → Nat → Nat) (cy : Nat → ClassId) (ad : Nat → Nat) (B : Int) (hB0 : 100000 ≤ B) (hB1 : B ≤ 1073741824) (qr : Nat) (s1 : Int)   (w0 : va_W) (sz : Nat) (hT : TW ksM ad cy B qr 12 w0) (f0_ : Int32) (cf0_ : gi w0 0 14 = f0_) (rf0_ : 0 ≤ f0_.toInt) (tf0_ : f0_.toInt ≤ 400) : Met l yX12_isWord wsX12_isWord ({ frames := 2, cells := 0, slots := 0, locals := 33 }) (va_Pc [.ref (ad 0), .long 109330312357234] (wpreS adK adV dC dI cy sz w0)) (va_Qi (P_X12_isWord_10 ad cy B qr s1  w0) (fun u : va_W => wpost dC dI cy (va_A w0 sz) u) (va_A w0 sz)) 0 0 (va_A w0 sz) := by
  refine Met.ofW (cc := cX12_isWord) (maxL := 6) (ret := (some .boolean)) (by decide) rfl ?_
  intro p e s m args below meth c s₁ Bk hml hv
  obtain ⟨rfl, ⟨hsz, hP, hK, hD0⟩, hE, hSR⟩ := hv
  have hx := Bk.exec
  have hb := Bk.bytes
  have hr := Bk.returns
  have hlocks := Bk.notSynchronized
  have hC : CallFix p m c cX12_isWord 6 s _ wsX12_isWord RX12 := ⟨hx, hb, hml, findClass_of_methodNamed Bk.named, atoms_spec (ws := wsX12_isWord) Bk.pre⟩
  subst hsz
  have hD := hD0.self (sz := s.heap.size)
  generalize hAe : va_A w0 s.heap.size = A at hD hE ⊢
  have hA : ∀ q : Nat, s.heap.size ≤ q → A q := fun q h => by rw [← hAe]; exact Or.inr h
  have hw : Wd dC dI A s.heap s.heap [] w0 := ⟨hP, hD, va_S.rf⟩
  have hF : FE ksM [(12, 14, 14)] w0 w0 := FE.rf
  have hl := lv_entry ([.ref (ad 0), .long 109330312357234]) (n := 6) (Nat.le_of_ble_eq_true rfl)
  rw [lg_entry_eq]
  generalize (lg_sl ([.ref (ad 0), .long 109330312357234]) ++ List.replicate (6 - (lg_sl ([.ref (ad 0), .long 109330312357234])).length) Slot.unset).toArray = ls at hl ⊢
  have hl : lv_has ls 6 [(0, .ref (ad 0)), (1, .long 109330312357234)] := hl
  generalize hloc : ([] : List Loc) = locs at hw ⊢
  have hinX12 : ∀ w ∈ u_ws RX12 TX12 42, w ∈ wsX12_isWord := fun _ h => List.mem_cons_of_mem _ (List.mem_append_right _ (h))
  have J78 : ∀ (v78_3 : Int64) (v78_5 : Int32) (f78_0_1 : Int32) (f78_0_14 : Int32) (H : Heap) (locs : List Loc) (ls : Array Slot) (w1 : va_W), 0 ≤ v78_5.toInt → v78_5.toInt ≤ 400 → 0 ≤ f78_0_1.toInt → f78_0_1.toInt ≤ 400 → 0 ≤ f78_0_14.toInt → f78_0_14.toInt ≤ 400 → ((f78_0_14.toInt = f0_.toInt ∨ (gi w0 1 (f0_.toInt).toNat).toInt = 32)) → Wd dC dI A s.heap H locs w1 → TW ksM ad cy B qr 12 w1 → FE ksM [(12, 14, 14)] w0 w1 → gi w1 0 1 = f78_0_1 → gi w1 0 14 = f78_0_14 → lv_has ls 6 [(0, .ref (ad 0)), (1, .long 109330312357234), (3, .long v78_3), (5, .int v78_5)] → W p l e ({ frames := 2, cells := 0, slots := 0, locals := 33 }) s m (List.toArray [.ref (ad 0), .long 109330312357234]) below meth c H locs 0 0 (MQ below (va_Qi (P_X12_isWord_10 ad cy B qr s1  w0) (fun u : va_W => wpost dC dI cy A u) A) (List.toArray [.ref (ad 0), .long 109330312357234]) s 0 0 A) (F0 m 78 ls []) := by
    intro v78_3 v78_5 f78_0_1 f78_0_14 H locs ls w1 r2 t3 r4 t5 r7 t8 hcr78_0 hw hT hF c6 c9 hl
    refine lv_iconst (v := 0) hx hb dX12_isWord_78 (by decide) ?_
    exact tk_zret hC hr rfl hlocks hK ⟨hT, hF, (Or.inl ⟨rfl, ⟨f78_0_1, c6, (show 0 ≤ f78_0_1.toInt by omega), (show f78_0_1.toInt ≤ 400 by omega)⟩, (by simp only [cf0_, c9]; omega)⟩)⟩ hw dX12_isWord_79
  have L10 : ∀ (n10 : Nat) (v10_3 : Int64) (v10_5 : Int32) (f10_0_1 : Int32) (f10_0_14 : Int32) (H : Heap) (locs : List Loc) (ls : Array Slot) (w10 : va_W), 0 ≤ v10_5.toInt → v10_5.toInt ≤ 400 → 0 ≤ f10_0_1.toInt → f10_0_1.toInt ≤ 400 → 0 ≤ f10_0_14.toInt → f10_0_14.toInt ≤ 400 → ((f10_0_14.toInt = f0_.toInt ∨ (gi w0 1 (f0_.toInt).toNat).toInt = 32)) → (400 - v10_5.toInt).toNat < n10 → Wd dC dI A s.heap H locs w10 → TW ksM ad cy B qr 12 w10 → FE ksM [(12, 14, 14)] w0 w10 → gi w10 0 1 = f10_0_1 → gi w10 0 14 = f10_0_14 → lv_has ls 6 [(0, .ref (ad 0)), (1, .long 109330312357234), (3, .long v10_3), (5, .int v10_5)] → W p l e ({ frames := 2, cells := 0, slots := 0, locals := 33 }) s m (List.toArray [.ref (ad 0), .long 109330312357234]) below meth c H locs 0 0 (MQ below (va_Qi (P_X12_isWord_10 ad cy B qr s1  w0) (fun u : va_W => wpost dC dI cy A u) A) (List.toArray [.ref (ad 0), .long 109330312357234]) s 0 0 A) (F0 m 10 ls []) := by
    intro n10
    induction n10 with
    | zero => intro v10_3 v10_5 f10_0_1 f10_0_14 H locs ls w10 r11 t12 r13 t14 r16 t17 hcr10_0 hm10 hw hT hF c15 c18 hl; omega
    | succ n10 ih10 =>
      intro v10_3 v10_5 f10_0_1 f10_0_14 H locs ls w10 r11 t12 r13 t14 r16 t17 hcr10_0 hm10 hw hT hF c15 c18 hl
      have J50 : ∀ (v50_3 : Int64) (H : Heap) (locs : List Loc) (ls : Array Slot) (w19 : va_W), 0 ≤ v10_5.toInt → v10_5.toInt ≤ 399 → 1 ≤ f10_0_1.toInt → f10_0_1.toInt ≤ 400 → 0 ≤ f10_0_14.toInt → f10_0_14.toInt ≤ 399 → ((f10_0_14.toInt = f0_.toInt ∨ (gi w0 1 (f0_.toInt).toNat).toInt = 32)) → Wd dC dI A s.heap H locs w19 → TW ksM ad cy B qr 12 w19 → FE ksM [(12, 14, 14)] w0 w19 → gi w19 0 1 = f10_0_1 → gi w19 0 14 = f10_0_14 → lv_has ls 6 [(0, .ref (ad 0)), (1, .long 109330312357234), (3, .long v50_3), (5, .int v10_5)] → W p l e ({ frames := 2, cells := 0, slots := 0, locals := 33 }) s m (List.toArray [.ref (ad 0), .long 109330312357234]) below meth c H locs 0 0 (MQ below (va_Qi (P_X12_isWord_10 ad cy B qr s1  w0) (fun u : va_W => wpost dC dI cy A u) A) (List.toArray [.ref (ad 0), .long 109330312357234]) s 0 0 A) (F0 m 50 ls []) := by
        intro v50_3 H locs ls w19 r20 t21 r22 t23 r25 t26 hcr50_0 hw hT hF c24 c27 hl
        obtain ⟨x28, ex28⟩ : ∃ y : Int32, y = v10_5 + Int32.ofInt 1 := ⟨_, rfl⟩
        refine lv_iinc (v := x28) (lv' := [(5, .int x28), (0, .ref (ad 0)), (1, .long 109330312357234), (3, .long v50_3)]) hx hb dX12_isWord_50 hl (k := 3) rfl ex28.symm (by decide) rfl (fun ls hl => ?_)
        have ex28 : x28.toInt = v10_5.toInt + 1 := by rw [ex28]; exact wk_add (y := 1) (show -2147483648 ≤ v10_5.toInt + 1 by omega) (show v10_5.toInt + 1 ≤ 2147483647 by omega)
        refine lv_goto (tgt := 10) hx hb dX12_isWord_53 (by decide) ?_
        exact ih10 v50_3 x28 f10_0_1 f10_0_14 H locs ls w19 (show 0 ≤ x28.toInt by omega) (show x28.toInt ≤ 400 by omega) (show 0 ≤ f10_0_1.toInt by omega) (show f10_0_1.toInt ≤ 400 by omega) (show 0 ≤ f10_0_14.toInt by omega) (show f10_0_14.toInt ≤ 400 by omega) (show (f10_0_14.toInt = f0_.toInt ∨ (gi w0 1 (f0_.toInt).toNat).toInt = 32) by first | omega | assumption | (left; omega) | (left; decide) | (right; assumption)) (show (400 - x28.toInt).toNat < n10 by omega) hw hT hF c24 c27 (lv_sub hl [1, 2, 3, 0] rfl)
      refine lv_aload_n hx hb dX12_isWord_10 rfl (lv_at hl 0 rfl) ?_
      refine lv_aload_n hx hb dX12_isWord_11 rfl (lv_at hl 0 rfl) ?_
      refine tk_geti hC hK hw hT hinX12 kM_at0 (by decide) rfl 14 (by decide) (List.mem_of_getElem? (i := 1) rfl) rfl rfl dX12_isWord_12 (fun x29 c30 rx29 tx29 => ?_)
      refine wk_top f10_0_14 (c30.symm.trans c18) ?_
      refine lv_iload hx hb dX12_isWord_15 (lv_at hl 3 rfl) ?_
      refine lv_iadd hx hb dX12_isWord_17 ?_
      refine lv_topi (fun x31 ex31 => ?_)
      have ex31 : x31.toInt = f10_0_14.toInt + v10_5.toInt := by rw [ex31]; exact wk_add (show (-2147483648) ≤ f10_0_14.toInt + v10_5.toInt by omega) (show f10_0_14.toInt + v10_5.toInt ≤ 2147483647 by omega)
      refine tk_Vi hC hK hw hT hA hE hSR kM_at0 (by decide) rfl (k_X12_isLetter_1 l adK adV dC dI cy ad B (by omega) (by omega) qr s1   x31 (show 0 ≤ x31.toInt by omega) (show x31.toInt ≤ 800 by omega) w10 H.size hT ) (cwV 1 hC.2.2.2.2 gX12_isWord_X12_isLetter rfl rfl rfl (by decide +kernel) ⟨Nat.le_of_ble_eq_true rfl, Nat.le_of_ble_eq_true rfl⟩) rfl hl.1 rfl (Nat.le_of_ble_eq_true rfl) dX12_isWord_18 (fun r32 w34 H locs hp33 hw => ?_)
      obtain ⟨rfl, hg41⟩ := hp33
      rcases hg41 with ⟨rfl, ⟨x36, c37, rx36, tx36⟩⟩ | ⟨rfl, g38, ⟨x39, c40, rx39, tx39⟩⟩
      · have ex36 : x36.toInt = f10_0_1.toInt := by rw [← c15.symm.trans c37]
        refine lv_if_eq (tgt := 56) hx hb dX12_isWord_21 (by decide) (fun _ => ?_) (fun c => absurd (by decide) c)
        refine lv_iload hx hb dX12_isWord_56 (lv_at hl 3 rfl) ?_
        refine lv_if_le (tgt := 78) hx hb dX12_isWord_58 (by decide) (fun c42 => ?_) (fun c42 => ?_)
        · have c42 : v10_5.toInt ≤ (0 : Int) := wk_le.mp c42
          exact J78 v10_3 v10_5 f10_0_1 f10_0_14 H locs ls w10 (show 0 ≤ v10_5.toInt by omega) (show v10_5.toInt ≤ 400 by omega) (show 0 ≤ f10_0_1.toInt by omega) (show f10_0_1.toInt ≤ 400 by omega) (show 0 ≤ f10_0_14.toInt by omega) (show f10_0_14.toInt ≤ 400 by omega) (show (f10_0_14.toInt = f0_.toInt ∨ (gi w0 1 (f0_.toInt).toNat).toInt = 32) by first | omega | assumption | (left; omega) | (left; decide) | (right; assumption))  hw hT hF c15 c18 (lv_sub hl [0, 1, 2, 3] rfl)
        · have c42 : (0 : Int) < v10_5.toInt := wk_leF c42
          refine lv_iload hx hb dX12_isWord_61 (lv_at hl 3 rfl) ?_
          refine lv_bipush (v := 8) hx hb dX12_isWord_63 (by decide) ?_
          refine lv_icmp_ge (tgt := 78) hx hb dX12_isWord_65 (by decide) (fun c43 => ?_) (fun c43 => ?_)
          · have c43 : (8 : Int) ≤ v10_5.toInt := wk_le.mp c43
            exact J78 v10_3 v10_5 f10_0_1 f10_0_14 H locs ls w10 (show 0 ≤ v10_5.toInt by omega) (show v10_5.toInt ≤ 400 by omega) (show 0 ≤ f10_0_1.toInt by omega) (show f10_0_1.toInt ≤ 400 by omega) (show 0 ≤ f10_0_14.toInt by omega) (show f10_0_14.toInt ≤ 400 by omega) (show (f10_0_14.toInt = f0_.toInt ∨ (gi w0 1 (f0_.toInt).toNat).toInt = 32) by first | omega | assumption | (left; omega) | (left; decide) | (right; assumption))  hw hT hF c15 c18 (lv_sub hl [0, 1, 2, 3] rfl)
          · have c43 : v10_5.toInt < (8 : Int) := wk_leF c43
            refine lv_lload_n hx hb dX12_isWord_68 rfl (lv_at hl 2 rfl) ?_
            refine lv_lload_n hx hb dX12_isWord_69 rfl (lv_at hl 1 rfl) ?_
            refine W.lcmp hx hb dX12_isWord_70 ?_
            refine lv_if_ne (tgt := 78) hx hb dX12_isWord_71 (by decide) (fun c44 => ?_) (fun c44 => ?_)
            · have c44 : ¬ v10_3.toInt = (109330312357234 : Int) := wk_ceF c44
              exact J78 v10_3 v10_5 f10_0_1 f10_0_14 H locs ls w10 (show 0 ≤ v10_5.toInt by omega) (show v10_5.toInt ≤ 400 by omega) (show 0 ≤ f10_0_1.toInt by omega) (show f10_0_1.toInt ≤ 400 by omega) (show 0 ≤ f10_0_14.toInt by omega) (show f10_0_14.toInt ≤ 400 by omega) (show (f10_0_14.toInt = f0_.toInt ∨ (gi w0 1 (f0_.toInt).toNat).toInt = 32) by first | omega | assumption | (left; omega) | (left; decide) | (right; assumption))  hw hT hF c15 c18 (lv_sub hl [0, 1, 2, 3] rfl)
            · have c44 : v10_3.toInt = (109330312357234 : Int) := wk_ceT c44
              refine lv_iconst (v := 1) hx hb dX12_isWord_74 (by decide) ?_
              refine lv_goto (tgt := 79) hx hb dX12_isWord_75 (by decide) ?_
              exact tk_zret hC hr rfl hlocks hK ⟨hT, hF, (Or.inr ⟨rfl, ⟨f10_0_1, c15, (show 0 ≤ f10_0_1.toInt by omega), (show f10_0_1.toInt ≤ 400 by omega)⟩, (by simp only [cf0_, c18]; omega)⟩)⟩ hw dX12_isWord_79
      · have ex39 : x39.toInt = f10_0_1.toInt := by rw [← c15.symm.trans c40]
        refine lv_if_eq (tgt := 56) hx hb dX12_isWord_21 (by decide) (fun c => absurd c (by decide)) (fun _ => ?_)
        refine lv_iload hx hb dX12_isWord_24 (lv_at hl 3 rfl) ?_
        refine lv_bipush (v := 8) hx hb dX12_isWord_26 (by decide) ?_
        refine lv_icmp_ge (tgt := 50) hx hb dX12_isWord_28 (by decide) (fun c45 => ?_) (fun c45 => ?_)
        · have c45 : (8 : Int) ≤ v10_5.toInt := wk_le.mp c45
          exact J50 v10_3 H locs ls w10 (show 0 ≤ v10_5.toInt by omega) (show v10_5.toInt ≤ 399 by omega) (show 1 ≤ f10_0_1.toInt by omega) (show f10_0_1.toInt ≤ 400 by omega) (show 0 ≤ f10_0_14.toInt by omega) (show f10_0_14.toInt ≤ 399 by omega) (show (f10_0_14.toInt = f0_.toInt ∨ (gi w0 1 (f0_.toInt).toNat).toInt = 32) by first | omega | assumption | (left; omega) | (left; decide) | (right; assumption))  hw hT hF c15 c18 (lv_sub hl [0, 1, 2, 3] rfl)
        · have c45 : v10_5.toInt < (8 : Int) := wk_leF c45
          refine lv_lload_n hx hb dX12_isWord_31 rfl (lv_at hl 2 rfl) ?_
          refine lv_bipush (v := 8) hx hb dX12_isWord_32 (by decide) ?_
          refine lv_lshl hx hb dX12_isWord_34 rfl ?_
          refine lv_topl (fun x46 ex46 => ?_)
          refine lv_aload_n hx hb dX12_isWord_35 rfl (lv_at hl 0 rfl) ?_
          refine tk_getA hC hK hw hT hinX12 kM_at0 (by decide) rfl 0 (by decide) (List.mem_of_getElem? (i := 2) rfl) rfl rfl dX12_isWord_36 ?_
          refine lv_aload_n hx hb dX12_isWord_39 rfl (lv_at hl 0 rfl) ?_
          refine tk_geti hC hK hw hT hinX12 kM_at0 (by decide) rfl 14 (by decide) (List.mem_of_getElem? (i := 1) rfl) rfl rfl dX12_isWord_40 (fun x47 c48 rx47 tx47 => ?_)
          refine wk_top f10_0_14 (c48.symm.trans c18) ?_
          refine lv_iload hx hb dX12_isWord_43 (lv_at hl 3 rfl) ?_
          refine lv_iadd hx hb dX12_isWord_45 ?_
          refine lv_topi (fun x49 ex49 => ?_)
          have ex49 : x49.toInt = f10_0_14.toInt + v10_5.toInt := by rw [ex49]; exact wk_add (show (-2147483648) ≤ f10_0_14.toInt + v10_5.toInt by omega) (show f10_0_14.toInt + v10_5.toInt ≤ 2147483647 by omega)
          refine tk_bald hC hK hw hT kM_at1 rfl rfl (show 0 ≤ x49.toInt by omega) (show x49.toInt < 400 by omega) dX12_isWord_46 (fun x50 c51 rx50 tx50 => ?_)
          have c51 : gi w10 1 (1 * f10_0_14.toInt + 1 * v10_5.toInt + 0).toNat = x50 := (congrArg (gi w10 1) (congrArg Int.toNat (show 1 * f10_0_14.toInt + 1 * v10_5.toInt + 0 = x49.toInt by omega))).trans c51
          refine lv_i2l hx hb dX12_isWord_47 rfl ?_
          refine lv_topl (fun x52 ex52 => ?_)
          have ex52 : x52.toInt = x50.toInt := by rw [ex52]; exact wk_i2l _
          have bx52 := wk_i32 x50
          refine lv_lor hx hb dX12_isWord_48 ?_
          refine lv_topl (fun x53 ex53 => ?_)
          refine lv_lstore_n (lv' := [(3, .long x53), (0, .ref (ad 0)), (1, .long 109330312357234), (5, .int v10_5)]) hx hb dX12_isWord_49 rfl hl (by decide) rfl (fun ls hl => ?_)
          exact J50 x53 H locs ls w10 (show 0 ≤ v10_5.toInt by omega) (show v10_5.toInt ≤ 399 by omega) (show 1 ≤ f10_0_1.toInt by omega) (show f10_0_1.toInt ≤ 400 by omega) (show 0 ≤ f10_0_14.toInt by omega) (show f10_0_14.toInt ≤ 399 by omega) (show (f10_0_14.toInt = f0_.toInt ∨ (gi w0 1 (f0_.toInt).toNat).toInt = 32) by first | omega | assumption | (left; omega) | (left; decide) | (right; assumption) | (right; rw [c51]; omega) | (right; rw [c51]; decide))  hw hT hF c15 c18 (lv_sub hl [1, 2, 0, 3] rfl)
  refine lv_aload_n hx hb dX12_isWord_0 rfl (lv_at hl 0 rfl) ?_
  refine tk_Vi hC hK hw hT hA hE hSR kM_at0 (by decide) rfl (k_X12_see_1 l adK adV dC dI cy ad B (by omega) (by omega) qr s1    w0 s.heap.size hT f0_ cf0_ (show 0 ≤ f0_.toInt by omega) (show f0_.toInt ≤ 400 by omega)) (cwV 0 hC.2.2.2.2 gX12_isWord_X12_see rfl rfl rfl (by decide +kernel) ⟨Nat.le_of_ble_eq_true rfl, Nat.le_of_ble_eq_true rfl⟩) rfl hl.1 rfl (Nat.le_of_ble_eq_true rfl) dX12_isWord_1 (fun r54 w56 H locs hp55 hw => ?_)
  obtain ⟨hT, k57, hg74⟩ := hp55
  have hF := hF.tr k57 (by decide)
  rcases hg74 with ⟨g58, g59, ⟨x60, c61, rx60, tx60⟩, ⟨x62, c63, rx62, tx62⟩, g64, g65⟩ | ⟨rfl, ⟨x66, c67, rx66, tx66⟩, ⟨x68, c69, rx68, tx68⟩, g70⟩ | ⟨rfl, ⟨x71, c72, rx71, tx71⟩, g73⟩
  · have g64 : (gi w56 1 (x62.toInt).toNat).toInt ≠ 32 := by have q := g64; simp only [c63] at q; omega
    have g65 : (x62.toInt = f0_.toInt ∨ (gi w0 1 (f0_.toInt).toNat).toInt = 32) := by have q := g65; simp only [cf0_, c63] at q; omega
    refine lv_pop hx hb dX12_isWord_4 rfl ?_
    refine lv_lconst (v := 0) hx hb dX12_isWord_5 (by decide) ?_
    refine lv_lstore_n (lv' := [(3, .long 0), (0, .ref (ad 0)), (1, .long 109330312357234)]) hx hb dX12_isWord_6 rfl hl (by decide) rfl (fun ls hl => ?_)
    refine lv_iconst (v := 0) hx hb dX12_isWord_7 (by decide) ?_
    refine lv_istore (lv' := [(5, .int 0), (3, .long 0), (0, .ref (ad 0)), (1, .long 109330312357234)]) hx hb dX12_isWord_8 hl (by decide) rfl (fun ls hl => ?_)
    exact L10 ((400 - (0 : Int)).toNat + 1) 0 0 x60 x62 H locs ls w56 (by decide) (by decide) (show 0 ≤ x60.toInt by omega) (show x60.toInt ≤ 400 by omega) (show 0 ≤ x62.toInt by omega) (show x62.toInt ≤ 400 by omega) (show (x62.toInt = f0_.toInt ∨ (gi w0 1 (f0_.toInt).toNat).toInt = 32) by first | omega | assumption | (left; omega) | (left; decide) | (right; assumption)) (Nat.lt_succ_self _) hw hT hF c61 c63 (lv_sub hl [2, 3, 1, 0] rfl)
  · have g70 : (x68.toInt = f0_.toInt ∨ (gi w0 1 (f0_.toInt).toNat).toInt = 32) := by have q := g70; simp only [cf0_, c69] at q; omega
    refine lv_pop hx hb dX12_isWord_4 rfl ?_
    refine lv_lconst (v := 0) hx hb dX12_isWord_5 (by decide) ?_
    refine lv_lstore_n (lv' := [(3, .long 0), (0, .ref (ad 0)), (1, .long 109330312357234)]) hx hb dX12_isWord_6 rfl hl (by decide) rfl (fun ls hl => ?_)
    refine lv_iconst (v := 0) hx hb dX12_isWord_7 (by decide) ?_
    refine lv_istore (lv' := [(5, .int 0), (3, .long 0), (0, .ref (ad 0)), (1, .long 109330312357234)]) hx hb dX12_isWord_8 hl (by decide) rfl (fun ls hl => ?_)
    exact L10 ((400 - (0 : Int)).toNat + 1) 0 0 x66 x68 H locs ls w56 (by decide) (by decide) (show 0 ≤ x66.toInt by omega) (show x66.toInt ≤ 400 by omega) (show 0 ≤ x68.toInt by omega) (show x68.toInt ≤ 400 by omega) (show (x68.toInt = f0_.toInt ∨ (gi w0 1 (f0_.toInt).toNat).toInt = 32) by first | omega | assumption | (left; omega) | (left; decide) | (right; assumption)) (Nat.lt_succ_self _) hw hT hF c67 c69 (lv_sub hl [2, 3, 1, 0] rfl)
  · obtain ⟨x75, c76, rx75, tx75⟩ := hT.rdi (lo := 0) (hi := 400) (k := 14) kM_at0 (by decide) rfl
    have g73 : (x75.toInt = f0_.toInt ∨ (gi w0 1 (f0_.toInt).toNat).toInt = 32) := by have q := g73; simp only [cf0_, c76] at q; omega
    refine lv_pop hx hb dX12_isWord_4 rfl ?_
    refine lv_lconst (v := 0) hx hb dX12_isWord_5 (by decide) ?_
    refine lv_lstore_n (lv' := [(3, .long 0), (0, .ref (ad 0)), (1, .long 109330312357234)]) hx hb dX12_isWord_6 rfl hl (by decide) rfl (fun ls hl => ?_)
    refine lv_iconst (v := 0) hx hb dX12_isWord_7 (by decide) ?_
    refine lv_istore (lv' := [(5, .int 0), (3, .long 0), (0, .ref (ad 0)), (1, .long 109330312357234)]) hx hb dX12_isWord_8 hl (by decide) rfl (fun ls hl => ?_)
    exact L10 ((400 - (0 : Int)).toNat + 1) 0 0 x71 x75 H locs ls w56 (by decide) (by decide) (show 0 ≤ x71.toInt by omega) (show x71.toInt ≤ 400 by omega) (show 0 ≤ x75.toInt by omega) (show x75.toInt ≤ 400 by omega) (show (x75.toInt = f0_.toInt ∨ (gi w0 1 (f0_.toInt).toNat).toInt = 32) by first | omega | assumption | (left; omega) | (left; decide) | (right; assumption)) (Nat.lt_succ_self _) hw hT hF c72 c76 (lv_sub hl [2, 3, 1, 0] rfl)
abbrev P_X12_isWord_11 (ad : Nat → Nat) (cy : Nat → ClassId) (B : Int) (qr : Nat) (s1 : Int)  (w0 : va_W) : Int32 → va_W → Prop := fun r u => TW ksM ad cy B qr 12 u ∧ FE ksM [(12, 14, 14)] w0 u ∧ ((r = 0 ∧ (∃ y : Int32, gi u 0 1 = y ∧ 0 ≤ y.toInt ∧ y.toInt ≤ 400) ∧ (((gi u 0 14).toInt = (gi w0 0 14).toInt ∨ (gi w0 1 ((gi w0 0 14).toInt).toNat).toInt = 32))) ∨ (r = 1 ∧ (∃ y : Int32, gi u 0 1 = y ∧ 0 ≤ y.toInt ∧ y.toInt ≤ 400) ∧ (((gi u 0 14).toInt = (gi w0 0 14).toInt ∨ (gi w0 1 ((gi w0 0 14).toInt).toNat).toInt = 32))))
set_option maxHeartbeats 4000000 in
set_option maxRecDepth 100000 in
theorem k_X12_isWord_11 (l : Launch) (adK adV : Nat → Nat) (dC : Nat → ClassId) (dI : Nat → Nat → Nat) (cy : Nat → ClassId) (ad : Nat → Nat) (B : Int) (hB0 : 100000 ≤ B) (hB1 : B ≤ 1073741824) (qr : Nat) (s1 : Int)   (w0 : va_W) (sz : Nat) (hT : TW ksM ad cy B qr 12 w0) (f0_ : Int32) (cf0_ : gi w0 0 14 = f0_) (rf0_ : 0 ≤ f0_.toInt) (tf0_ : f0_.toInt ≤ 400) : Met l yX12_isWord wsX12_isWord ({ frames := 2, cells := 0, slots := 0, locals := 33 }) (va_Pc [.ref (ad 0), .long 1667329381] (wpreS adK adV dC dI cy sz w0)) (va_Qi (P_X12_isWord_11 ad cy B qr s1  w0) (fun u : va_W => wpost dC dI cy (va_A w0 sz) u) (va_A w0 sz)) 0 0 (va_A w0 sz) := by
  refine Met.ofW (cc := cX12_isWord) (maxL := 6) (ret := (some .boolean)) (by decide) rfl ?_
  intro p e s m args below meth c s₁ Bk hml hv
  obtain ⟨rfl, ⟨hsz, hP, hK, hD0⟩, hE, hSR⟩ := hv
  have hx := Bk.exec
  have hb := Bk.bytes
  have hr := Bk.returns
  have hlocks := Bk.notSynchronized
  have hC : CallFix p m c cX12_isWord 6 s _ wsX12_isWord RX12 := ⟨hx, hb, hml, findClass_of_methodNamed Bk.named, atoms_spec (ws := wsX12_isWord) Bk.pre⟩
  subst hsz
  have hD := hD0.self (sz := s.heap.size)
  generalize hAe : va_A w0 s.heap.size = A at hD hE ⊢
  have hA : ∀ q : Nat, s.heap.size ≤ q → A q := fun q h => by rw [← hAe]; exact Or.inr h
  have hw : Wd dC dI A s.heap s.heap [] w0 := ⟨hP, hD, va_S.rf⟩
  have hF : FE ksM [(12, 14, 14)] w0 w0 := FE.rf
  have hl := lv_entry ([.ref (ad 0), .long 1667329381]) (n := 6) (Nat.le_of_ble_eq_true rfl)
  rw [lg_entry_eq]
  generalize (lg_sl ([.ref (ad 0), .long 1667329381]) ++ List.replicate (6 - (lg_sl ([.ref (ad 0), .long 1667329381])).length) Slot.unset).toArray = ls at hl ⊢
  have hl : lv_has ls 6 [(0, .ref (ad 0)), (1, .long 1667329381)] := hl
  generalize hloc : ([] : List Loc) = locs at hw ⊢
  have hinX12 : ∀ w ∈ u_ws RX12 TX12 42, w ∈ wsX12_isWord := fun _ h => List.mem_cons_of_mem _ (List.mem_append_right _ (h))
  have J78 : ∀ (v78_3 : Int64) (v78_5 : Int32) (f78_0_1 : Int32) (f78_0_14 : Int32) (H : Heap) (locs : List Loc) (ls : Array Slot) (w1 : va_W), 0 ≤ v78_5.toInt → v78_5.toInt ≤ 400 → 0 ≤ f78_0_1.toInt → f78_0_1.toInt ≤ 400 → 0 ≤ f78_0_14.toInt → f78_0_14.toInt ≤ 400 → ((f78_0_14.toInt = f0_.toInt ∨ (gi w0 1 (f0_.toInt).toNat).toInt = 32)) → Wd dC dI A s.heap H locs w1 → TW ksM ad cy B qr 12 w1 → FE ksM [(12, 14, 14)] w0 w1 → gi w1 0 1 = f78_0_1 → gi w1 0 14 = f78_0_14 → lv_has ls 6 [(0, .ref (ad 0)), (1, .long 1667329381), (3, .long v78_3), (5, .int v78_5)] → W p l e ({ frames := 2, cells := 0, slots := 0, locals := 33 }) s m (List.toArray [.ref (ad 0), .long 1667329381]) below meth c H locs 0 0 (MQ below (va_Qi (P_X12_isWord_11 ad cy B qr s1  w0) (fun u : va_W => wpost dC dI cy A u) A) (List.toArray [.ref (ad 0), .long 1667329381]) s 0 0 A) (F0 m 78 ls []) := by
    intro v78_3 v78_5 f78_0_1 f78_0_14 H locs ls w1 r2 t3 r4 t5 r7 t8 hcr78_0 hw hT hF c6 c9 hl
    refine lv_iconst (v := 0) hx hb dX12_isWord_78 (by decide) ?_
    exact tk_zret hC hr rfl hlocks hK ⟨hT, hF, (Or.inl ⟨rfl, ⟨f78_0_1, c6, (show 0 ≤ f78_0_1.toInt by omega), (show f78_0_1.toInt ≤ 400 by omega)⟩, (by simp only [cf0_, c9]; omega)⟩)⟩ hw dX12_isWord_79
  have L10 : ∀ (n10 : Nat) (v10_3 : Int64) (v10_5 : Int32) (f10_0_1 : Int32) (f10_0_14 : Int32) (H : Heap) (locs : List Loc) (ls : Array Slot) (w10 : va_W), 0 ≤ v10_5.toInt → v10_5.toInt ≤ 400 → 0 ≤ f10_0_1.toInt → f10_0_1.toInt ≤ 400 → 0 ≤ f10_0_14.toInt → f10_0_14.toInt ≤ 400 → ((f10_0_14.toInt = f0_.toInt ∨ (gi w0 1 (f0_.toInt).toNat).toInt = 32)) → (400 - v10_5.toInt).toNat < n10 → Wd dC dI A s.heap H locs w10 → TW ksM ad cy B qr 12 w10 → FE ksM [(12, 14, 14)] w0 w10 → gi w10 0 1 = f10_0_1 → gi w10 0 14 = f10_0_14 → lv_has ls 6 [(0, .ref (ad 0)), (1, .long 1667329381), (3, .long v10_3), (5, .int v10_5)] → W p l e ({ frames := 2, cells := 0, slots := 0, locals := 33 }) s m (List.toArray [.ref (ad 0), .long 1667329381]) below meth c H locs 0 0 (MQ below (va_Qi (P_X12_isWord_11 ad cy B qr s1  w0) (fun u : va_W => wpost dC dI cy A u) A) (List.toArray [.ref (ad 0), .long 1667329381]) s 0 0 A) (F0 m 10 ls []) := by
    intro n10
    induction n10 with
    | zero => intro v10_3 v10_5 f10_0_1 f10_0_14 H locs ls w10 r11 t12 r13 t14 r16 t17 hcr10_0 hm10 hw hT hF c15 c18 hl; omega
    | succ n10 ih10 =>
      intro v10_3 v10_5 f10_0_1 f10_0_14 H locs ls w10 r11 t12 r13 t14 r16 t17 hcr10_0 hm10 hw hT hF c15 c18 hl
      have J50 : ∀ (v50_3 : Int64) (H : Heap) (locs : List Loc) (ls : Array Slot) (w19 : va_W), 0 ≤ v10_5.toInt → v10_5.toInt ≤ 399 → 1 ≤ f10_0_1.toInt → f10_0_1.toInt ≤ 400 → 0 ≤ f10_0_14.toInt → f10_0_14.toInt ≤ 399 → ((f10_0_14.toInt = f0_.toInt ∨ (gi w0 1 (f0_.toInt).toNat).toInt = 32)) → Wd dC dI A s.heap H locs w19 → TW ksM ad cy B qr 12 w19 → FE ksM [(12, 14, 14)] w0 w19 → gi w19 0 1 = f10_0_1 → gi w19 0 14 = f10_0_14 → lv_has ls 6 [(0, .ref (ad 0)), (1, .long 1667329381), (3, .long v50_3), (5, .int v10_5)] → W p l e ({ frames := 2, cells := 0, slots := 0, locals := 33 }) s m (List.toArray [.ref (ad 0), .long 1667329381]) below meth c H locs 0 0 (MQ below (va_Qi (P_X12_isWord_11 ad cy B qr s1  w0) (fun u : va_W => wpost dC dI cy A u) A) (List.toArray [.ref (ad 0), .long 1667329381]) s 0 0 A) (F0 m 50 ls []) := by
        intro v50_3 H locs ls w19 r20 t21 r22 t23 r25 t26 hcr50_0 hw hT hF c24 c27 hl
        obtain ⟨x28, ex28⟩ : ∃ y : Int32, y = v10_5 + Int32.ofInt 1 := ⟨_, rfl⟩
        refine lv_iinc (v := x28) (lv' := [(5, .int x28), (0, .ref (ad 0)), (1, .long 1667329381), (3, .long v50_3)]) hx hb dX12_isWord_50 hl (k := 3) rfl ex28.symm (by decide) rfl (fun ls hl => ?_)
        have ex28 : x28.toInt = v10_5.toInt + 1 := by rw [ex28]; exact wk_add (y := 1) (show -2147483648 ≤ v10_5.toInt + 1 by omega) (show v10_5.toInt + 1 ≤ 2147483647 by omega)
        refine lv_goto (tgt := 10) hx hb dX12_isWord_53 (by decide) ?_
        exact ih10 v50_3 x28 f10_0_1 f10_0_14 H locs ls w19 (show 0 ≤ x28.toInt by omega) (show x28.toInt ≤ 400 by omega) (show 0 ≤ f10_0_1.toInt by omega) (show f10_0_1.toInt ≤ 400 by omega) (show 0 ≤ f10_0_14.toInt by omega) (show f10_0_14.toInt ≤ 400 by omega) (show (f10_0_14.toInt = f0_.toInt ∨ (gi w0 1 (f0_.toInt).toNat).toInt = 32) by first | omega | assumption | (left; omega) | (left; decide) | (right; assumption)) (show (400 - x28.toInt).toNat < n10 by omega) hw hT hF c24 c27 (lv_sub hl [1, 2, 3, 0] rfl)
      refine lv_aload_n hx hb dX12_isWord_10 rfl (lv_at hl 0 rfl) ?_
      refine lv_aload_n hx hb dX12_isWord_11 rfl (lv_at hl 0 rfl) ?_
      refine tk_geti hC hK hw hT hinX12 kM_at0 (by decide) rfl 14 (by decide) (List.mem_of_getElem? (i := 1) rfl) rfl rfl dX12_isWord_12 (fun x29 c30 rx29 tx29 => ?_)
      refine wk_top f10_0_14 (c30.symm.trans c18) ?_
      refine lv_iload hx hb dX12_isWord_15 (lv_at hl 3 rfl) ?_
      refine lv_iadd hx hb dX12_isWord_17 ?_
      refine lv_topi (fun x31 ex31 => ?_)
      have ex31 : x31.toInt = f10_0_14.toInt + v10_5.toInt := by rw [ex31]; exact wk_add (show (-2147483648) ≤ f10_0_14.toInt + v10_5.toInt by omega) (show f10_0_14.toInt + v10_5.toInt ≤ 2147483647 by omega)
      refine tk_Vi hC hK hw hT hA hE hSR kM_at0 (by decide) rfl (k_X12_isLetter_1 l adK adV dC dI cy ad B (by omega) (by omega) qr s1   x31 (show 0 ≤ x31.toInt by omega) (show x31.toInt ≤ 800 by omega) w10 H.size hT ) (cwV 1 hC.2.2.2.2 gX12_isWord_X12_isLetter rfl rfl rfl (by decide +kernel) ⟨Nat.le_of_ble_eq_true rfl, Nat.le_of_ble_eq_true rfl⟩) rfl hl.1 rfl (Nat.le_of_ble_eq_true rfl) dX12_isWord_18 (fun r32 w34 H locs hp33 hw => ?_)
      obtain ⟨rfl, hg41⟩ := hp33
      rcases hg41 with ⟨rfl, ⟨x36, c37, rx36, tx36⟩⟩ | ⟨rfl, g38, ⟨x39, c40, rx39, tx39⟩⟩
      · have ex36 : x36.toInt = f10_0_1.toInt := by rw [← c15.symm.trans c37]
        refine lv_if_eq (tgt := 56) hx hb dX12_isWord_21 (by decide) (fun _ => ?_) (fun c => absurd (by decide) c)
        refine lv_iload hx hb dX12_isWord_56 (lv_at hl 3 rfl) ?_
        refine lv_if_le (tgt := 78) hx hb dX12_isWord_58 (by decide) (fun c42 => ?_) (fun c42 => ?_)
        · have c42 : v10_5.toInt ≤ (0 : Int) := wk_le.mp c42
          exact J78 v10_3 v10_5 f10_0_1 f10_0_14 H locs ls w10 (show 0 ≤ v10_5.toInt by omega) (show v10_5.toInt ≤ 400 by omega) (show 0 ≤ f10_0_1.toInt by omega) (show f10_0_1.toInt ≤ 400 by omega) (show 0 ≤ f10_0_14.toInt by omega) (show f10_0_14.toInt ≤ 400 by omega) (show (f10_0_14.toInt = f0_.toInt ∨ (gi w0 1 (f0_.toInt).toNat).toInt = 32) by first | omega | assumption | (left; omega) | (left; decide) | (right; assumption))  hw hT hF c15 c18 (lv_sub hl [0, 1, 2, 3] rfl)
        · have c42 : (0 : Int) < v10_5.toInt := wk_leF c42
          refine lv_iload hx hb dX12_isWord_61 (lv_at hl 3 rfl) ?_
          refine lv_bipush (v := 8) hx hb dX12_isWord_63 (by decide) ?_
          refine lv_icmp_ge (tgt := 78) hx hb dX12_isWord_65 (by decide) (fun c43 => ?_) (fun c43 => ?_)
          · have c43 : (8 : Int) ≤ v10_5.toInt := wk_le.mp c43
            exact J78 v10_3 v10_5 f10_0_1 f10_0_14 H locs ls w10 (show 0 ≤ v10_5.toInt by omega) (show v10_5.toInt ≤ 400 by omega) (show 0 ≤ f10_0_1.toInt by omega) (show f10_0_1.toInt ≤ 400 by omega) (show 0 ≤ f10_0_14.toInt by omega) (show f10_0_14.toInt ≤ 400 by omega) (show (f10_0_14.toInt = f0_.toInt ∨ (gi w0 1 (f0_.toInt).toNat).toInt = 32) by first | omega | assumption | (left; omega) | (left; decide) | (right; assumption))  hw hT hF c15 c18 (lv_sub hl [0, 1, 2, 3] rfl)
          · have c43 : v10_5.toInt < (8 : Int) := wk_leF c43
            refine lv_lload_n hx hb dX12_isWord_68 rfl (lv_at hl 2 rfl) ?_
            refine lv_lload_n hx hb dX12_isWord_69 rfl (lv_at hl 1 rfl) ?_
            refine W.lcmp hx hb dX12_isWord_70 ?_
            refine lv_if_ne (tgt := 78) hx hb dX12_isWord_71 (by decide) (fun c44 => ?_) (fun c44 => ?_)
            · have c44 : ¬ v10_3.toInt = (1667329381 : Int) := wk_ceF c44
              exact J78 v10_3 v10_5 f10_0_1 f10_0_14 H locs ls w10 (show 0 ≤ v10_5.toInt by omega) (show v10_5.toInt ≤ 400 by omega) (show 0 ≤ f10_0_1.toInt by omega) (show f10_0_1.toInt ≤ 400 by omega) (show 0 ≤ f10_0_14.toInt by omega) (show f10_0_14.toInt ≤ 400 by omega) (show (f10_0_14.toInt = f0_.toInt ∨ (gi w0 1 (f0_.toInt).toNat).toInt = 32) by first | omega | assumption | (left; omega) | (left; decide) | (right; assumption))  hw hT hF c15 c18 (lv_sub hl [0, 1, 2, 3] rfl)
            · have c44 : v10_3.toInt = (1667329381 : Int) := wk_ceT c44
              refine lv_iconst (v := 1) hx hb dX12_isWord_74 (by decide) ?_
              refine lv_goto (tgt := 79) hx hb dX12_isWord_75 (by decide) ?_
              exact tk_zret hC hr rfl hlocks hK ⟨hT, hF, (Or.inr ⟨rfl, ⟨f10_0_1, c15, (show 0 ≤ f10_0_1.toInt by omega), (show f10_0_1.toInt ≤ 400 by omega)⟩, (by simp only [cf0_, c18]; omega)⟩)⟩ hw dX12_isWord_79
      · have ex39 : x39.toInt = f10_0_1.toInt := by rw [← c15.symm.trans c40]
        refine lv_if_eq (tgt := 56) hx hb dX12_isWord_21 (by decide) (fun c => absurd c (by decide)) (fun _ => ?_)
        refine lv_iload hx hb dX12_isWord_24 (lv_at hl 3 rfl) ?_
        refine lv_bipush (v := 8) hx hb dX12_isWord_26 (by decide) ?_
        refine lv_icmp_ge (tgt := 50) hx hb dX12_isWord_28 (by decide) (fun c45 => ?_) (fun c45 => ?_)
        · have c45 : (8 : Int) ≤ v10_5.toInt := wk_le.mp c45
          exact J50 v10_3 H locs ls w10 (show 0 ≤ v10_5.toInt by omega) (show v10_5.toInt ≤ 399 by omega) (show 1 ≤ f10_0_1.toInt by omega) (show f10_0_1.toInt ≤ 400 by omega) (show 0 ≤ f10_0_14.toInt by omega) (show f10_0_14.toInt ≤ 399 by omega) (show (f10_0_14.toInt = f0_.toInt ∨ (gi w0 1 (f0_.toInt).toNat).toInt = 32) by first | omega | assumption | (left; omega) | (left; decide) | (right; assumption))  hw hT hF c15 c18 (lv_sub hl [0, 1, 2, 3] rfl)
        · have c45 : v10_5.toInt < (8 : Int) := wk_leF c45
          refine lv_lload_n hx hb dX12_isWord_31 rfl (lv_at hl 2 rfl) ?_
          refine lv_bipush (v := 8) hx hb dX12_isWord_32 (by decide) ?_
          refine lv_lshl hx hb dX12_isWord_34 rfl ?_
          refine lv_topl (fun x46 ex46 => ?_)
          refine lv_aload_n hx hb dX12_isWord_35 rfl (lv_at hl 0 rfl) ?_
          refine tk_getA hC hK hw hT hinX12 kM_at0 (by decide) rfl 0 (by decide) (List.mem_of_getElem? (i := 2) rfl) rfl rfl dX12_isWord_36 ?_
          refine lv_aload_n hx hb dX12_isWord_39 rfl (lv_at hl 0 rfl) ?_
          refine tk_geti hC hK hw hT hinX12 kM_at0 (by decide) rfl 14 (by decide) (List.mem_of_getElem? (i := 1) rfl) rfl rfl dX12_isWord_40 (fun x47 c48 rx47 tx47 => ?_)
          refine wk_top f10_0_14 (c48.symm.trans c18) ?_
          refine lv_iload hx hb dX12_isWord_43 (lv_at hl 3 rfl) ?_
          refine lv_iadd hx hb dX12_isWord_45 ?_
          refine lv_topi (fun x49 ex49 => ?_)
          have ex49 : x49.toInt = f10_0_14.toInt + v10_5.toInt := by rw [ex49]; exact wk_add (show (-2147483648) ≤ f10_0_14.toInt + v10_5.toInt by omega) (show f10_0_14.toInt + v10_5.toInt ≤ 2147483647 by omega)
          refine tk_bald hC hK hw hT kM_at1 rfl rfl (show 0 ≤ x49.toInt by omega) (show x49.toInt < 400 by omega) dX12_isWord_46 (fun x50 c51 rx50 tx50 => ?_)
          have c51 : gi w10 1 (1 * f10_0_14.toInt + 1 * v10_5.toInt + 0).toNat = x50 := (congrArg (gi w10 1) (congrArg Int.toNat (show 1 * f10_0_14.toInt + 1 * v10_5.toInt + 0 = x49.toInt by omega))).trans c51
          refine lv_i2l hx hb dX12_isWord_47 rfl ?_
          refine lv_topl (fun x52 ex52 => ?_)
          have ex52 : x52.toInt = x50.toInt := by rw [ex52]; exact wk_i2l _
          have bx52 := wk_i32 x50
          refine lv_lor hx hb dX12_isWord_48 ?_
          refine lv_topl (fun x53 ex53 => ?_)
          refine lv_lstore_n (lv' := [(3, .long x53), (0, .ref (ad 0)), (1, .long 1667329381), (5, .int v10_5)]) hx hb dX12_isWord_49 rfl hl (by decide) rfl (fun ls hl => ?_)
          exact J50 x53 H locs ls w10 (show 0 ≤ v10_5.toInt by omega) (show v10_5.toInt ≤ 399 by omega) (show 1 ≤ f10_0_1.toInt by omega) (show f10_0_1.toInt ≤ 400 by omega) (show 0 ≤ f10_0_14.toInt by omega) (show f10_0_14.toInt ≤ 399 by omega) (show (f10_0_14.toInt = f0_.toInt ∨ (gi w0 1 (f0_.toInt).toNat).toInt = 32) by first | omega | assumption | (left; omega) | (left; decide) | (right; assumption) | (right; rw [c51]; omega) | (right; rw [c51]; decide))  hw hT hF c15 c18 (lv_sub hl [1, 2, 0, 3] rfl)
  refine lv_aload_n hx hb dX12_isWord_0 rfl (lv_at hl 0 rfl) ?_
  refine tk_Vi hC hK hw hT hA hE hSR kM_at0 (by decide) rfl (k_X12_see_1 l adK adV dC dI cy ad B (by omega) (by omega) qr s1    w0 s.heap.size hT f0_ cf0_ (show 0 ≤ f0_.toInt by omega) (show f0_.toInt ≤ 400 by omega)) (cwV 0 hC.2.2.2.2 gX12_isWord_X12_see rfl rfl rfl (by decide +kernel) ⟨Nat.le_of_ble_eq_true rfl, Nat.le_of_ble_eq_true rfl⟩) rfl hl.1 rfl (Nat.le_of_ble_eq_true rfl) dX12_isWord_1 (fun r54 w56 H locs hp55 hw => ?_)
  obtain ⟨hT, k57, hg74⟩ := hp55
  have hF := hF.tr k57 (by decide)
  rcases hg74 with ⟨g58, g59, ⟨x60, c61, rx60, tx60⟩, ⟨x62, c63, rx62, tx62⟩, g64, g65⟩ | ⟨rfl, ⟨x66, c67, rx66, tx66⟩, ⟨x68, c69, rx68, tx68⟩, g70⟩ | ⟨rfl, ⟨x71, c72, rx71, tx71⟩, g73⟩
  · have g64 : (gi w56 1 (x62.toInt).toNat).toInt ≠ 32 := by have q := g64; simp only [c63] at q; omega
    have g65 : (x62.toInt = f0_.toInt ∨ (gi w0 1 (f0_.toInt).toNat).toInt = 32) := by have q := g65; simp only [cf0_, c63] at q; omega
    refine lv_pop hx hb dX12_isWord_4 rfl ?_
    refine lv_lconst (v := 0) hx hb dX12_isWord_5 (by decide) ?_
    refine lv_lstore_n (lv' := [(3, .long 0), (0, .ref (ad 0)), (1, .long 1667329381)]) hx hb dX12_isWord_6 rfl hl (by decide) rfl (fun ls hl => ?_)
    refine lv_iconst (v := 0) hx hb dX12_isWord_7 (by decide) ?_
    refine lv_istore (lv' := [(5, .int 0), (3, .long 0), (0, .ref (ad 0)), (1, .long 1667329381)]) hx hb dX12_isWord_8 hl (by decide) rfl (fun ls hl => ?_)
    exact L10 ((400 - (0 : Int)).toNat + 1) 0 0 x60 x62 H locs ls w56 (by decide) (by decide) (show 0 ≤ x60.toInt by omega) (show x60.toInt ≤ 400 by omega) (show 0 ≤ x62.toInt by omega) (show x62.toInt ≤ 400 by omega) (show (x62.toInt = f0_.toInt ∨ (gi w0 1 (f0_.toInt).toNat).toInt = 32) by first | omega | assumption | (left; omega) | (left; decide) | (right; assumption)) (Nat.lt_succ_self _) hw hT hF c61 c63 (lv_sub hl [2, 3, 1, 0] rfl)
  · have g70 : (x68.toInt = f0_.toInt ∨ (gi w0 1 (f0_.toInt).toNat).toInt = 32) := by have q := g70; simp only [cf0_, c69] at q; omega
    refine lv_pop hx hb dX12_isWord_4 rfl ?_
    refine lv_lconst (v := 0) hx hb dX12_isWord_5 (by decide) ?_
    refine lv_lstore_n (lv' := [(3, .long 0), (0, .ref (ad 0)), (1, .long 1667329381)]) hx hb dX12_isWord_6 rfl hl (by decide) rfl (fun ls hl => ?_)
    refine lv_iconst (v := 0) hx hb dX12_isWord_7 (by decide) ?_
    refine lv_istore (lv' := [(5, .int 0), (3, .long 0), (0, .ref (ad 0)), (1, .long 1667329381)]) hx hb dX12_isWord_8 hl (by decide) rfl (fun ls hl => ?_)
    exact L10 ((400 - (0 : Int)).toNat + 1) 0 0 x66 x68 H locs ls w56 (by decide) (by decide) (show 0 ≤ x66.toInt by omega) (show x66.toInt ≤ 400 by omega) (show 0 ≤ x68.toInt by omega) (show x68.toInt ≤ 400 by omega) (show (x68.toInt = f0_.toInt ∨ (gi w0 1 (f0_.toInt).toNat).toInt = 32) by first | omega | assumption | (left; omega) | (left; decide) | (right; assumption)) (Nat.lt_succ_self _) hw hT hF c67 c69 (lv_sub hl [2, 3, 1, 0] rfl)
  · obtain ⟨x75, c76, rx75, tx75⟩ := hT.rdi (lo := 0) (hi := 400) (k := 14) kM_at0 (by decide) rfl
    have g73 : (x75.toInt = f0_.toInt ∨ (gi w0 1 (f0_.toInt).toNat).toInt = 32) := by have q := g73; simp only [cf0_, c76] at q; omega
    refine lv_pop hx hb dX12_isWord_4 rfl ?_
    refine lv_lconst (v := 0) hx hb dX12_isWord_5 (by decide) ?_
    refine lv_lstore_n (lv' := [(3, .long 0), (0, .ref (ad 0)), (1, .long 1667329381)]) hx hb dX12_isWord_6 rfl hl (by decide) rfl (fun ls hl => ?_)
    refine lv_iconst (v := 0) hx hb dX12_isWord_7 (by decide) ?_
    refine lv_istore (lv' := [(5, .int 0), (3, .long 0), (0, .ref (ad 0)), (1, .long 1667329381)]) hx hb dX12_isWord_8 hl (by decide) rfl (fun ls hl => ?_)
    exact L10 ((400 - (0 : Int)).toNat + 1) 0 0 x71 x75 H locs ls w56 (by decide) (by decide) (show 0 ≤ x71.toInt by omega) (show x71.toInt ≤ 400 by omega) (show 0 ≤ x75.toInt by omega) (show x75.toInt ≤ 400 by omega) (show (x75.toInt = f0_.toInt ∨ (gi w0 1 (f0_.toInt).toNat).toInt = 32) by first | omega | assumption | (left; omega) | (left; decide) | (right; assumption)) (Nat.lt_succ_self _) hw hT hF c72 c76 (lv_sub hl [2, 3, 1, 0] rfl)
abbrev P_X12_isWord_12 (ad : Nat → Nat) (cy : Nat → ClassId) (B : Int) (qr : Nat) (s1 : Int)  (w0 : va_W) : Int32 → va_W → Prop := fun r u => TW ksM ad cy B qr 12 u ∧ FE ksM [(12, 14, 14)] w0 u ∧ ((r = 0 ∧ (∃ y : Int32, gi u 0 1 = y ∧ 0 ≤ y.toInt ∧ y.toInt ≤ 400) ∧ (((gi u 0 14).toInt = (gi w0 0 14).toInt ∨ (gi w0 1 ((gi w0 0 14).toInt).toNat).toInt = 32))) ∨ (r = 1 ∧ (∃ y : Int32, gi u 0 1 = y ∧ 0 ≤ y.toInt ∧ y.toInt ≤ 400) ∧ (((gi u 0 14).toInt = (gi w0 0 14).toInt ∨ (gi w0 1 ((gi w0 0 14).toInt).toNat).toInt = 32))))
set_option maxHeartbeats 4000000 in
set_option maxRecDepth 100000 in
theorem k_X12_isWord_12 (l : Launch) (adK adV : Nat → Nat) (dC : Nat → ClassId) (dI : Nat → Nat → Nat) (cy : Nat → ClassId) (ad : Nat → Nat) (B : Int) (hB0 : 100000 ≤ B) (hB1 : B ≤ 1073741824) (qr : Nat) (s1 : Int)   (w0 : va_W) (sz : Nat) (hT : TW ksM ad cy B qr 12 w0) (f0_ : Int32) (cf0_ : gi w0 0 14 = f0_) (rf0_ : 0 ≤ f0_.toInt) (tf0_ : f0_.toInt ≤ 400) : Met l yX12_isWord wsX12_isWord ({ frames := 2, cells := 0, slots := 0, locals := 33 }) (va_Pc [.ref (ad 0), .long 1684108389] (wpreS adK adV dC dI cy sz w0)) (va_Qi (P_X12_isWord_12 ad cy B qr s1  w0) (fun u : va_W => wpost dC dI cy (va_A w0 sz) u) (va_A w0 sz)) 0 0 (va_A w0 sz) := by
  refine Met.ofW (cc := cX12_isWord) (maxL := 6) (ret := (some .boolean)) (by decide) rfl ?_
  intro p e s m args below meth c s₁ Bk hml hv
  obtain ⟨rfl, ⟨hsz, hP, hK, hD0⟩, hE, hSR⟩ := hv
  have hx := Bk.exec
  have hb := Bk.bytes
  have hr := Bk.returns
  have hlocks := Bk.notSynchronized
  have hC : CallFix p m c cX12_isWord 6 s _ wsX12_isWord RX12 := ⟨hx, hb, hml, findClass_of_methodNamed Bk.named, atoms_spec (ws := wsX12_isWord) Bk.pre⟩
  subst hsz
  have hD := hD0.self (sz := s.heap.size)
  generalize hAe : va_A w0 s.heap.size = A at hD hE ⊢
  have hA : ∀ q : Nat, s.heap.size ≤ q → A q := fun q h => by rw [← hAe]; exact Or.inr h
  have hw : Wd dC dI A s.heap s.heap [] w0 := ⟨hP, hD, va_S.rf⟩
  have hF : FE ksM [(12, 14, 14)] w0 w0 := FE.rf
  have hl := lv_entry ([.ref (ad 0), .long 1684108389]) (n := 6) (Nat.le_of_ble_eq_true rfl)
  rw [lg_entry_eq]
  generalize (lg_sl ([.ref (ad 0), .long 1684108389]) ++ List.replicate (6 - (lg_sl ([.ref (ad 0), .long 1684108389])).length) Slot.unset).toArray = ls at hl ⊢
  have hl : lv_has ls 6 [(0, .ref (ad 0)), (1, .long 1684108389)] := hl
  generalize hloc : ([] : List Loc) = locs at hw ⊢
  have hinX12 : ∀ w ∈ u_ws RX12 TX12 42, w ∈ wsX12_isWord := fun _ h => List.mem_cons_of_mem _ (List.mem_append_right _ (h))
  have J78 : ∀ (v78_3 : Int64) (v78_5 : Int32) (f78_0_1 : Int32) (f78_0_14 : Int32) (H : Heap) (locs : List Loc) (ls : Array Slot) (w1 : va_W), 0 ≤ v78_5.toInt → v78_5.toInt ≤ 400 → 0 ≤ f78_0_1.toInt → f78_0_1.toInt ≤ 400 → 0 ≤ f78_0_14.toInt → f78_0_14.toInt ≤ 400 → ((f78_0_14.toInt = f0_.toInt ∨ (gi w0 1 (f0_.toInt).toNat).toInt = 32)) → Wd dC dI A s.heap H locs w1 → TW ksM ad cy B qr 12 w1 → FE ksM [(12, 14, 14)] w0 w1 → gi w1 0 1 = f78_0_1 → gi w1 0 14 = f78_0_14 → lv_has ls 6 [(0, .ref (ad 0)), (1, .long 1684108389), (3, .long v78_3), (5, .int v78_5)] → W p l e ({ frames := 2, cells := 0, slots := 0, locals := 33 }) s m (List.toArray [.ref (ad 0), .long 1684108389]) below meth c H locs 0 0 (MQ below (va_Qi (P_X12_isWord_12 ad cy B qr s1  w0) (fun u : va_W => wpost dC dI cy A u) A) (List.toArray [.ref (ad 0), .long 1684108389]) s 0 0 A) (F0 m 78 ls []) := by
    intro v78_3 v78_5 f78_0_1 f78_0_14 H locs ls w1 r2 t3 r4 t5 r7 t8 hcr78_0 hw hT hF c6 c9 hl
    refine lv_iconst (v := 0) hx hb dX12_isWord_78 (by decide) ?_
    exact tk_zret hC hr rfl hlocks hK ⟨hT, hF, (Or.inl ⟨rfl, ⟨f78_0_1, c6, (show 0 ≤ f78_0_1.toInt by omega), (show f78_0_1.toInt ≤ 400 by omega)⟩, (by simp only [cf0_, c9]; omega)⟩)⟩ hw dX12_isWord_79
  have L10 : ∀ (n10 : Nat) (v10_3 : Int64) (v10_5 : Int32) (f10_0_1 : Int32) (f10_0_14 : Int32) (H : Heap) (locs : List Loc) (ls : Array Slot) (w10 : va_W), 0 ≤ v10_5.toInt → v10_5.toInt ≤ 400 → 0 ≤ f10_0_1.toInt → f10_0_1.toInt ≤ 400 → 0 ≤ f10_0_14.toInt → f10_0_14.toInt ≤ 400 → ((f10_0_14.toInt = f0_.toInt ∨ (gi w0 1 (f0_.toInt).toNat).toInt = 32)) → (400 - v10_5.toInt).toNat < n10 → Wd dC dI A s.heap H locs w10 → TW ksM ad cy B qr 12 w10 → FE ksM [(12, 14, 14)] w0 w10 → gi w10 0 1 = f10_0_1 → gi w10 0 14 = f10_0_14 → lv_has ls 6 [(0, .ref (ad 0)), (1, .long 1684108389), (3, .long v10_3), (5, .int v10_5)] → W p l e ({ frames := 2, cells := 0, slots := 0, locals := 33 }) s m (List.toArray [.ref (ad 0), .long 1684108389]) below meth c H locs 0 0 (MQ below (va_Qi (P_X12_isWord_12 ad cy B qr s1  w0) (fun u : va_W => wpost dC dI cy A u) A) (List.toArray [.ref (ad 0), .long 1684108389]) s 0 0 A) (F0 m 10 ls []) := by
    intro n10
    induction n10 with
    | zero => intro v10_3 v10_5 f10_0_1 f10_0_14 H locs ls w10 r11 t12 r13 t14 r16 t17 hcr10_0 hm10 hw hT hF c15 c18 hl; omega
    | succ n10 ih10 =>
      intro v10_3 v10_5 f10_0_1 f10_0_14 H locs ls w10 r11 t12 r13 t14 r16 t17 hcr10_0 hm10 hw hT hF c15 c18 hl
      have J50 : ∀ (v50_3 : Int64) (H : Heap) (locs : List Loc) (ls : Array Slot) (w19 : va_W), 0 ≤ v10_5.toInt → v10_5.toInt ≤ 399 → 1 ≤ f10_0_1.toInt → f10_0_1.toInt ≤ 400 → 0 ≤ f10_0_14.toInt → f10_0_14.toInt ≤ 399 → ((f10_0_14.toInt = f0_.toInt ∨ (gi w0 1 (f0_.toInt).toNat).toInt = 32)) → Wd dC dI A s.heap H locs w19 → TW ksM ad cy B qr 12 w19 → FE ksM [(12, 14, 14)] w0 w19 → gi w19 0 1 = f10_0_1 → gi w19 0 14 = f10_0_14 → lv_has ls 6 [(0, .ref (ad 0)), (1, .long 1684108389), (3, .long v50_3), (5, .int v10_5)] → W p l e ({ frames := 2, cells := 0, slots := 0, locals := 33 }) s m (List.toArray [.ref (ad 0), .long 1684108389]) below meth c H locs 0 0 (MQ below (va_Qi (P_X12_isWord_12 ad cy B qr s1  w0) (fun u : va_W => wpost dC dI cy A u) A) (List.toArray [.ref (ad 0), .long 1684108389]) s 0 0 A) (F0 m 50 ls []) := by
        intro v50_3 H locs ls w19 r20 t21 r22 t23 r25 t26 hcr50_0 hw hT hF c24 c27 hl
        obtain ⟨x28, ex28⟩ : ∃ y : Int32, y = v10_5 + Int32.ofInt 1 := ⟨_, rfl⟩
        refine lv_iinc (v := x28) (lv' := [(5, .int x28), (0, .ref (ad 0)), (1, .long 1684108389), (3, .long v50_3)]) hx hb dX12_isWord_50 hl (k := 3) rfl ex28.symm (by decide) rfl (fun ls hl => ?_)
        have ex28 : x28.toInt = v10_5.toInt + 1 := by rw [ex28]; exact wk_add (y := 1) (show -2147483648 ≤ v10_5.toInt + 1 by omega) (show v10_5.toInt + 1 ≤ 2147483647 by omega)
        refine lv_goto (tgt := 10) hx hb dX12_isWord_53 (by decide) ?_
        exact ih10 v50_3 x28 f10_0_1 f10_0_14 H locs ls w19 (show 0 ≤ x28.toInt by omega) (show x28.toInt ≤ 400 by omega) (show 0 ≤ f10_0_1.toInt by omega) (show f10_0_1.toInt ≤ 400 by omega) (show 0 ≤ f10_0_14.toInt by omega) (show f10_0_14.toInt ≤ 400 by omega) (show (f10_0_14.toInt = f0_.toInt ∨ (gi w0 1 (f0_.toInt).toNat).toInt = 32) by first | omega | assumption | (left; omega) | (left; decide) | (right; assumption)) (show (400 - x28.toInt).toNat < n10 by omega) hw hT hF c24 c27 (lv_sub hl [1, 2, 3, 0] rfl)
      refine lv_aload_n hx hb dX12_isWord_10 rfl (lv_at hl 0 rfl) ?_
      refine lv_aload_n hx hb dX12_isWord_11 rfl (lv_at hl 0 rfl) ?_
      refine tk_geti hC hK hw hT hinX12 kM_at0 (by decide) rfl 14 (by decide) (List.mem_of_getElem? (i := 1) rfl) rfl rfl dX12_isWord_12 (fun x29 c30 rx29 tx29 => ?_)
      refine wk_top f10_0_14 (c30.symm.trans c18) ?_
      refine lv_iload hx hb dX12_isWord_15 (lv_at hl 3 rfl) ?_
      refine lv_iadd hx hb dX12_isWord_17 ?_
      refine lv_topi (fun x31 ex31 => ?_)
      have ex31 : x31.toInt = f10_0_14.toInt + v10_5.toInt := by rw [ex31]; exact wk_add (show (-2147483648) ≤ f10_0_14.toInt + v10_5.toInt by omega) (show f10_0_14.toInt + v10_5.toInt ≤ 2147483647 by omega)
      refine tk_Vi hC hK hw hT hA hE hSR kM_at0 (by decide) rfl (k_X12_isLetter_1 l adK adV dC dI cy ad B (by omega) (by omega) qr s1   x31 (show 0 ≤ x31.toInt by omega) (show x31.toInt ≤ 800 by omega) w10 H.size hT ) (cwV 1 hC.2.2.2.2 gX12_isWord_X12_isLetter rfl rfl rfl (by decide +kernel) ⟨Nat.le_of_ble_eq_true rfl, Nat.le_of_ble_eq_true rfl⟩) rfl hl.1 rfl (Nat.le_of_ble_eq_true rfl) dX12_isWord_18 (fun r32 w34 H locs hp33 hw => ?_)
      obtain ⟨rfl, hg41⟩ := hp33
      rcases hg41 with ⟨rfl, ⟨x36, c37, rx36, tx36⟩⟩ | ⟨rfl, g38, ⟨x39, c40, rx39, tx39⟩⟩
      · have ex36 : x36.toInt = f10_0_1.toInt := by rw [← c15.symm.trans c37]
        refine lv_if_eq (tgt := 56) hx hb dX12_isWord_21 (by decide) (fun _ => ?_) (fun c => absurd (by decide) c)
        refine lv_iload hx hb dX12_isWord_56 (lv_at hl 3 rfl) ?_
        refine lv_if_le (tgt := 78) hx hb dX12_isWord_58 (by decide) (fun c42 => ?_) (fun c42 => ?_)
        · have c42 : v10_5.toInt ≤ (0 : Int) := wk_le.mp c42
          exact J78 v10_3 v10_5 f10_0_1 f10_0_14 H locs ls w10 (show 0 ≤ v10_5.toInt by omega) (show v10_5.toInt ≤ 400 by omega) (show 0 ≤ f10_0_1.toInt by omega) (show f10_0_1.toInt ≤ 400 by omega) (show 0 ≤ f10_0_14.toInt by omega) (show f10_0_14.toInt ≤ 400 by omega) (show (f10_0_14.toInt = f0_.toInt ∨ (gi w0 1 (f0_.toInt).toNat).toInt = 32) by first | omega | assumption | (left; omega) | (left; decide) | (right; assumption))  hw hT hF c15 c18 (lv_sub hl [0, 1, 2, 3] rfl)
        · have c42 : (0 : Int) < v10_5.toInt := wk_leF c42
          refine lv_iload hx hb dX12_isWord_61 (lv_at hl 3 rfl) ?_
          refine lv_bipush (v := 8) hx hb dX12_isWord_63 (by decide) ?_
          refine lv_icmp_ge (tgt := 78) hx hb dX12_isWord_65 (by decide) (fun c43 => ?_) (fun c43 => ?_)
          · have c43 : (8 : Int) ≤ v10_5.toInt := wk_le.mp c43
            exact J78 v10_3 v10_5 f10_0_1 f10_0_14 H locs ls w10 (show 0 ≤ v10_5.toInt by omega) (show v10_5.toInt ≤ 400 by omega) (show 0 ≤ f10_0_1.toInt by omega) (show f10_0_1.toInt ≤ 400 by omega) (show 0 ≤ f10_0_14.toInt by omega) (show f10_0_14.toInt ≤ 400 by omega) (show (f10_0_14.toInt = f0_.toInt ∨ (gi w0 1 (f0_.toInt).toNat).toInt = 32) by first | omega | assumption | (left; omega) | (left; decide) | (right; assumption))  hw hT hF c15 c18 (lv_sub hl [0, 1, 2, 3] rfl)
          · have c43 : v10_5.toInt < (8 : Int) := wk_leF c43
            refine lv_lload_n hx hb dX12_isWord_68 rfl (lv_at hl 2 rfl) ?_
            refine lv_lload_n hx hb dX12_isWord_69 rfl (lv_at hl 1 rfl) ?_
            refine W.lcmp hx hb dX12_isWord_70 ?_
            refine lv_if_ne (tgt := 78) hx hb dX12_isWord_71 (by decide) (fun c44 => ?_) (fun c44 => ?_)
            · have c44 : ¬ v10_3.toInt = (1684108389 : Int) := wk_ceF c44
              exact J78 v10_3 v10_5 f10_0_1 f10_0_14 H locs ls w10 (show 0 ≤ v10_5.toInt by omega) (show v10_5.toInt ≤ 400 by omega) (show 0 ≤ f10_0_1.toInt by omega) (show f10_0_1.toInt ≤ 400 by omega) (show 0 ≤ f10_0_14.toInt by omega) (show f10_0_14.toInt ≤ 400 by omega) (show (f10_0_14.toInt = f0_.toInt ∨ (gi w0 1 (f0_.toInt).toNat).toInt = 32) by first | omega | assumption | (left; omega) | (left; decide) | (right; assumption))  hw hT hF c15 c18 (lv_sub hl [0, 1, 2, 3] rfl)
            · have c44 : v10_3.toInt = (1684108389 : Int) := wk_ceT c44
              refine lv_iconst (v := 1) hx hb dX12_isWord_74 (by decide) ?_
              refine lv_goto (tgt := 79) hx hb dX12_isWord_75 (by decide) ?_
              exact tk_zret hC hr rfl hlocks hK ⟨hT, hF, (Or.inr ⟨rfl, ⟨f10_0_1, c15, (show 0 ≤ f10_0_1.toInt by omega), (show f10_0_1.toInt ≤ 400 by omega)⟩, (by simp only [cf0_, c18]; omega)⟩)⟩ hw dX12_isWord_79
      · have ex39 : x39.toInt = f10_0_1.toInt := by rw [← c15.symm.trans c40]
        refine lv_if_eq (tgt := 56) hx hb dX12_isWord_21 (by decide) (fun c => absurd c (by decide)) (fun _ => ?_)
        refine lv_iload hx hb dX12_isWord_24 (lv_at hl 3 rfl) ?_
        refine lv_bipush (v := 8) hx hb dX12_isWord_26 (by decide) ?_
        refine lv_icmp_ge (tgt := 50) hx hb dX12_isWord_28 (by decide) (fun c45 => ?_) (fun c45 => ?_)
        · have c45 : (8 : Int) ≤ v10_5.toInt := wk_le.mp c45
          exact J50 v10_3 H locs ls w10 (show 0 ≤ v10_5.toInt by omega) (show v10_5.toInt ≤ 399 by omega) (show 1 ≤ f10_0_1.toInt by omega) (show f10_0_1.toInt ≤ 400 by omega) (show 0 ≤ f10_0_14.toInt by omega) (show f10_0_14.toInt ≤ 399 by omega) (show (f10_0_14.toInt = f0_.toInt ∨ (gi w0 1 (f0_.toInt).toNat).toInt = 32) by first | omega | assumption | (left; omega) | (left; decide) | (right; assumption))  hw hT hF c15 c18 (lv_sub hl [0, 1, 2, 3] rfl)
        · have c45 : v10_5.toInt < (8 : Int) := wk_leF c45
          refine lv_lload_n hx hb dX12_isWord_31 rfl (lv_at hl 2 rfl) ?_
          refine lv_bipush (v := 8) hx hb dX12_isWord_32 (by decide) ?_
          refine lv_lshl hx hb dX12_isWord_34 rfl ?_
          refine lv_topl (fun x46 ex46 => ?_)
          refine lv_aload_n hx hb dX12_isWord_35 rfl (lv_at hl 0 rfl) ?_
          refine tk_getA hC hK hw hT hinX12 kM_at0 (by decide) rfl 0 (by decide) (List.mem_of_getElem? (i := 2) rfl) rfl rfl dX12_isWord_36 ?_
          refine lv_aload_n hx hb dX12_isWord_39 rfl (lv_at hl 0 rfl) ?_
          refine tk_geti hC hK hw hT hinX12 kM_at0 (by decide) rfl 14 (by decide) (List.mem_of_getElem? (i := 1) rfl) rfl rfl dX12_isWord_40 (fun x47 c48 rx47 tx47 => ?_)
          refine wk_top f10_0_14 (c48.symm.trans c18) ?_
          refine lv_iload hx hb dX12_isWord_43 (lv_at hl 3 rfl) ?_
          refine lv_iadd hx hb dX12_isWord_45 ?_
          refine lv_topi (fun x49 ex49 => ?_)
          have ex49 : x49.toInt = f10_0_14.toInt + v10_5.toInt := by rw [ex49]; exact wk_add (show (-2147483648) ≤ f10_0_14.toInt + v10_5.toInt by omega) (show f10_0_14.toInt + v10_5.toInt ≤ 2147483647 by omega)
          refine tk_bald hC hK hw hT kM_at1 rfl rfl (show 0 ≤ x49.toInt by omega) (show x49.toInt < 400 by omega) dX12_isWord_46 (fun x50 c51 rx50 tx50 => ?_)
          have c51 : gi w10 1 (1 * f10_0_14.toInt + 1 * v10_5.toInt + 0).toNat = x50 := (congrArg (gi w10 1) (congrArg Int.toNat (show 1 * f10_0_14.toInt + 1 * v10_5.toInt + 0 = x49.toInt by omega))).trans c51
          refine lv_i2l hx hb dX12_isWord_47 rfl ?_
          refine lv_topl (fun x52 ex52 => ?_)
          have ex52 : x52.toInt = x50.toInt := by rw [ex52]; exact wk_i2l _
          have bx52 := wk_i32 x50
          refine lv_lor hx hb dX12_isWord_48 ?_
          refine lv_topl (fun x53 ex53 => ?_)
          refine lv_lstore_n (lv' := [(3, .long x53), (0, .ref (ad 0)), (1, .long 1684108389), (5, .int v10_5)]) hx hb dX12_isWord_49 rfl hl (by decide) rfl (fun ls hl => ?_)
          exact J50 x53 H locs ls w10 (show 0 ≤ v10_5.toInt by omega) (show v10_5.toInt ≤ 399 by omega) (show 1 ≤ f10_0_1.toInt by omega) (show f10_0_1.toInt ≤ 400 by omega) (show 0 ≤ f10_0_14.toInt by omega) (show f10_0_14.toInt ≤ 399 by omega) (show (f10_0_14.toInt = f0_.toInt ∨ (gi w0 1 (f0_.toInt).toNat).toInt = 32) by first | omega | assumption | (left; omega) | (left; decide) | (right; assumption) | (right; rw [c51]; omega) | (right; rw [c51]; decide))  hw hT hF c15 c18 (lv_sub hl [1, 2, 0, 3] rfl)
  refine lv_aload_n hx hb dX12_isWord_0 rfl (lv_at hl 0 rfl) ?_
  refine tk_Vi hC hK hw hT hA hE hSR kM_at0 (by decide) rfl (k_X12_see_1 l adK adV dC dI cy ad B (by omega) (by omega) qr s1    w0 s.heap.size hT f0_ cf0_ (show 0 ≤ f0_.toInt by omega) (show f0_.toInt ≤ 400 by omega)) (cwV 0 hC.2.2.2.2 gX12_isWord_X12_see rfl rfl rfl (by decide +kernel) ⟨Nat.le_of_ble_eq_true rfl, Nat.le_of_ble_eq_true rfl⟩) rfl hl.1 rfl (Nat.le_of_ble_eq_true rfl) dX12_isWord_1 (fun r54 w56 H locs hp55 hw => ?_)
  obtain ⟨hT, k57, hg74⟩ := hp55
  have hF := hF.tr k57 (by decide)
  rcases hg74 with ⟨g58, g59, ⟨x60, c61, rx60, tx60⟩, ⟨x62, c63, rx62, tx62⟩, g64, g65⟩ | ⟨rfl, ⟨x66, c67, rx66, tx66⟩, ⟨x68, c69, rx68, tx68⟩, g70⟩ | ⟨rfl, ⟨x71, c72, rx71, tx71⟩, g73⟩
  · have g64 : (gi w56 1 (x62.toInt).toNat).toInt ≠ 32 := by have q := g64; simp only [c63] at q; omega
    have g65 : (x62.toInt = f0_.toInt ∨ (gi w0 1 (f0_.toInt).toNat).toInt = 32) := by have q := g65; simp only [cf0_, c63] at q; omega
    refine lv_pop hx hb dX12_isWord_4 rfl ?_
    refine lv_lconst (v := 0) hx hb dX12_isWord_5 (by decide) ?_
    refine lv_lstore_n (lv' := [(3, .long 0), (0, .ref (ad 0)), (1, .long 1684108389)]) hx hb dX12_isWord_6 rfl hl (by decide) rfl (fun ls hl => ?_)
    refine lv_iconst (v := 0) hx hb dX12_isWord_7 (by decide) ?_
    refine lv_istore (lv' := [(5, .int 0), (3, .long 0), (0, .ref (ad 0)), (1, .long 1684108389)]) hx hb dX12_isWord_8 hl (by decide) rfl (fun ls hl => ?_)
    exact L10 ((400 - (0 : Int)).toNat + 1) 0 0 x60 x62 H locs ls w56 (by decide) (by decide) (show 0 ≤ x60.toInt by omega) (show x60.toInt ≤ 400 by omega) (show 0 ≤ x62.toInt by omega) (show x62.toInt ≤ 400 by omega) (show (x62.toInt = f0_.toInt ∨ (gi w0 1 (f0_.toInt).toNat).toInt = 32) by first | omega | assumption | (left; omega) | (left; decide) | (right; assumption)) (Nat.lt_succ_self _) hw hT hF c61 c63 (lv_sub hl [2, 3, 1, 0] rfl)
  · have g70 : (x68.toInt = f0_.toInt ∨ (gi w0 1 (f0_.toInt).toNat).toInt = 32) := by have q := g70; simp only [cf0_, c69] at q; omega
    refine lv_pop hx hb dX12_isWord_4 rfl ?_
    refine lv_lconst (v := 0) hx hb dX12_isWord_5 (by decide) ?_
    refine lv_lstore_n (lv' := [(3, .long 0), (0, .ref (ad 0)), (1, .long 1684108389)]) hx hb dX12_isWord_6 rfl hl (by decide) rfl (fun ls hl => ?_)
    refine lv_iconst (v := 0) hx hb dX12_isWord_7 (by decide) ?_
    refine lv_istore (lv' := [(5, .int 0), (3, .long 0), (0, .ref (ad 0)), (1, .long 1684108389)]) hx hb dX12_isWord_8 hl (by decide) rfl (fun ls hl => ?_)
    exact L10 ((400 - (0 : Int)).toNat + 1) 0 0 x66 x68 H locs ls w56 (by decide) (by decide) (show 0 ≤ x66.toInt by omega) (show x66.toInt ≤ 400 by omega) (show 0 ≤ x68.toInt by omega) (show x68.toInt ≤ 400 by omega) (show (x68.toInt = f0_.toInt ∨ (gi w0 1 (f0_.toInt).toNat).toInt = 32) by first | omega | assumption | (left; omega) | (left; decide) | (right; assumption)) (Nat.lt_succ_self _) hw hT hF c67 c69 (lv_sub hl [2, 3, 1, 0] rfl)
  · obtain ⟨x75, c76, rx75, tx75⟩ := hT.rdi (lo := 0) (hi := 400) (k := 14) kM_at0 (by decide) rfl
    have g73 : (x75.toInt = f0_.toInt ∨ (gi w0 1 (f0_.toInt).toNat).toInt = 32) := by have q := g73; simp only [cf0_, c76] at q; omega
    refine lv_pop hx hb dX12_isWord_4 rfl ?_
    refine lv_lconst (v := 0) hx hb dX12_isWord_5 (by decide) ?_
    refine lv_lstore_n (lv' := [(3, .long 0), (0, .ref (ad 0)), (1, .long 1684108389)]) hx hb dX12_isWord_6 rfl hl (by decide) rfl (fun ls hl => ?_)
    refine lv_iconst (v := 0) hx hb dX12_isWord_7 (by decide) ?_
    refine lv_istore (lv' := [(5, .int 0), (3, .long 0), (0, .ref (ad 0)), (1, .long 1684108389)]) hx hb dX12_isWord_8 hl (by decide) rfl (fun ls hl => ?_)
    exact L10 ((400 - (0 : Int)).toNat + 1) 0 0 x71 x75 H locs ls w56 (by decide) (by decide) (show 0 ≤ x71.toInt by omega) (show x71.toInt ≤ 400 by omega) (show 0 ≤ x75.toInt by omega) (show x75.toInt ≤ 400 by omega) (show (x75.toInt = f0_.toInt ∨ (gi w0 1 (f0_.toInt).toNat).toInt = 32) by first | omega | assumption | (left; omega) | (left; decide) | (right; assumption)) (Nat.lt_succ_self _) hw hT hF c72 c76 (lv_sub hl [2, 3, 1, 0] rfl)
abbrev P_X12_isWord_13 (ad : Nat → Nat) (cy : Nat → ClassId) (B : Int) (qr : Nat) (s1 : Int)  (w0 : va_W) : Int32 → va_W → Prop := fun r u => TW ksM ad cy B qr 12 u ∧ FE ksM [(12, 14, 14)] w0 u ∧ ((r = 0 ∧ (∃ y : Int32, gi u 0 1 = y ∧ 0 ≤ y.toInt ∧ y.toInt ≤ 400) ∧ (((gi u 0 14).toInt = (gi w0 0 14).toInt ∨ (gi w0 1 ((gi w0 0 14).toInt).toNat).toInt = 32))) ∨ (r = 1 ∧ (∃ y : Int32, gi u 0 1 = y ∧ 0 ≤ y.toInt ∧ y.toInt ≤ 400) ∧ (((gi u 0 14).toInt = (gi w0 0 14).toInt ∨ (gi w0 1 ((gi w0 0 14).toInt).toNat).toInt = 32))))
set_option maxHeartbeats 4000000 in
set_option maxRecDepth 100000 in
theorem k_X12_isWord_13 (l : Launch) (adK adV : Nat → Nat) (dC : Nat → ClassId) (dI : Nat → Nat → Nat) (cy : Nat → ClassId) (ad : Nat → Nat) (B : Int) (hB0 : 100000 ≤ B) (hB1 : B ≤ 1073741824) (qr : Nat) (s1 : Int)   (w0 : va_W) (sz : Nat) (hT : TW ksM ad cy B qr 12 w0) (f0_ : Int32) (cf0_ : gi w0 0 14 = f0_) (rf0_ : 0 ≤ f0_.toInt) (tf0_ : f0_.toInt ≤ 400) : Met l yX12_isWord wsX12_isWord ({ frames := 2, cells := 0, slots := 0, locals := 33 }) (va_Pc [.ref (ad 0), .long 1735352684] (wpreS adK adV dC dI cy sz w0)) (va_Qi (P_X12_isWord_13 ad cy B qr s1  w0) (fun u : va_W => wpost dC dI cy (va_A w0 sz) u) (va_A w0 sz)) 0 0 (va_A w0 sz) := by
  refine Met.ofW (cc := cX12_isWord) (maxL := 6) (ret := (some .boolean)) (by decide) rfl ?_
  intro p e s m args below meth c s₁ Bk hml hv
  obtain ⟨rfl, ⟨hsz, hP, hK, hD0⟩, hE, hSR⟩ := hv
  have hx := Bk.exec
  have hb := Bk.bytes
  have hr := Bk.returns
  have hlocks := Bk.notSynchronized
  have hC : CallFix p m c cX12_isWord 6 s _ wsX12_isWord RX12 := ⟨hx, hb, hml, findClass_of_methodNamed Bk.named, atoms_spec (ws := wsX12_isWord) Bk.pre⟩
  subst hsz
  have hD := hD0.self (sz := s.heap.size)
  generalize hAe : va_A w0 s.heap.size = A at hD hE ⊢
  have hA : ∀ q : Nat, s.heap.size ≤ q → A q := fun q h => by rw [← hAe]; exact Or.inr h
  have hw : Wd dC dI A s.heap s.heap [] w0 := ⟨hP, hD, va_S.rf⟩
  have hF : FE ksM [(12, 14, 14)] w0 w0 := FE.rf
  have hl := lv_entry ([.ref (ad 0), .long 1735352684]) (n := 6) (Nat.le_of_ble_eq_true rfl)
  rw [lg_entry_eq]
  generalize (lg_sl ([.ref (ad 0), .long 1735352684]) ++ List.replicate (6 - (lg_sl ([.ref (ad 0), .long 1735352684])).length) Slot.unset).toArray = ls at hl ⊢
  have hl : lv_has ls 6 [(0, .ref (ad 0)), (1, .long 1735352684)] := hl
  generalize hloc : ([] : List Loc) = locs at hw ⊢
  have hinX12 : ∀ w ∈ u_ws RX12 TX12 42, w ∈ wsX12_isWord := fun _ h => List.mem_cons_of_mem _ (List.mem_append_right _ (h))
  have J78 : ∀ (v78_3 : Int64) (v78_5 : Int32) (f78_0_1 : Int32) (f78_0_14 : Int32) (H : Heap) (locs : List Loc) (ls : Array Slot) (w1 : va_W), 0 ≤ v78_5.toInt → v78_5.toInt ≤ 400 → 0 ≤ f78_0_1.toInt → f78_0_1.toInt ≤ 400 → 0 ≤ f78_0_14.toInt → f78_0_14.toInt ≤ 400 → ((f78_0_14.toInt = f0_.toInt ∨ (gi w0 1 (f0_.toInt).toNat).toInt = 32)) → Wd dC dI A s.heap H locs w1 → TW ksM ad cy B qr 12 w1 → FE ksM [(12, 14, 14)] w0 w1 → gi w1 0 1 = f78_0_1 → gi w1 0 14 = f78_0_14 → lv_has ls 6 [(0, .ref (ad 0)), (1, .long 1735352684), (3, .long v78_3), (5, .int v78_5)] → W p l e ({ frames := 2, cells := 0, slots := 0, locals := 33 }) s m (List.toArray [.ref (ad 0), .long 1735352684]) below meth c H locs 0 0 (MQ below (va_Qi (P_X12_isWord_13 ad cy B qr s1  w0) (fun u : va_W => wpost dC dI cy A u) A) (List.toArray [.ref (ad 0), .long 1735352684]) s 0 0 A) (F0 m 78 ls []) := by
    intro v78_3 v78_5 f78_0_1 f78_0_14 H locs ls w1 r2 t3 r4 t5 r7 t8 hcr78_0 hw hT hF c6 c9 hl
    refine lv_iconst (v := 0) hx hb dX12_isWord_78 (by decide) ?_
    exact tk_zret hC hr rfl hlocks hK ⟨hT, hF, (Or.inl ⟨rfl, ⟨f78_0_1, c6, (show 0 ≤ f78_0_1.toInt by omega), (show f78_0_1.toInt ≤ 400 by omega)⟩, (by simp only [cf0_, c9]; omega)⟩)⟩ hw dX12_isWord_79
  have L10 : ∀ (n10 : Nat) (v10_3 : Int64) (v10_5 : Int32) (f10_0_1 : Int32) (f10_0_14 : Int32) (H : Heap) (locs : List Loc) (ls : Array Slot) (w10 : va_W), 0 ≤ v10_5.toInt → v10_5.toInt ≤ 400 → 0 ≤ f10_0_1.toInt → f10_0_1.toInt ≤ 400 → 0 ≤ f10_0_14.toInt → f10_0_14.toInt ≤ 400 → ((f10_0_14.toInt = f0_.toInt ∨ (gi w0 1 (f0_.toInt).toNat).toInt = 32)) → (400 - v10_5.toInt).toNat < n10 → Wd dC dI A s.heap H locs w10 → TW ksM ad cy B qr 12 w10 → FE ksM [(12, 14, 14)] w0 w10 → gi w10 0 1 = f10_0_1 → gi w10 0 14 = f10_0_14 → lv_has ls 6 [(0, .ref (ad 0)), (1, .long 1735352684), (3, .long v10_3), (5, .int v10_5)] → W p l e ({ frames := 2, cells := 0, slots := 0, locals := 33 }) s m (List.toArray [.ref (ad 0), .long 1735352684]) below meth c H locs 0 0 (MQ below (va_Qi (P_X12_isWord_13 ad cy B qr s1  w0) (fun u : va_W => wpost dC dI cy A u) A) (List.toArray [.ref (ad 0), .long 1735352684]) s 0 0 A) (F0 m 10 ls []) := by
    intro n10
    induction n10 with
    | zero => intro v10_3 v10_5 f10_0_1 f10_0_14 H locs ls w10 r11 t12 r13 t14 r16 t17 hcr10_0 hm10 hw hT hF c15 c18 hl; omega
    | succ n10 ih10 =>
      intro v10_3 v10_5 f10_0_1 f10_0_14 H locs ls w10 r11 t12 r13 t14 r16 t17 hcr10_0 hm10 hw hT hF c15 c18 hl
      have J50 : ∀ (v50_3 : Int64) (H : Heap) (locs : List Loc) (ls : Array Slot) (w19 : va_W), 0 ≤ v10_5.toInt → v10_5.toInt ≤ 399 → 1 ≤ f10_0_1.toInt → f10_0_1.toInt ≤ 400 → 0 ≤ f10_0_14.toInt → f10_0_14.toInt ≤ 399 → ((f10_0_14.toInt = f0_.toInt ∨ (gi w0 1 (f0_.toInt).toNat).toInt = 32)) → Wd dC dI A s.heap H locs w19 → TW ksM ad cy B qr 12 w19 → FE ksM [(12, 14, 14)] w0 w19 → gi w19 0 1 = f10_0_1 → gi w19 0 14 = f10_0_14 → lv_has ls 6 [(0, .ref (ad 0)), (1, .long 1735352684), (3, .long v50_3), (5, .int v10_5)] → W p l e ({ frames := 2, cells := 0, slots := 0, locals := 33 }) s m (List.toArray [.ref (ad 0), .long 1735352684]) below meth c H locs 0 0 (MQ below (va_Qi (P_X12_isWord_13 ad cy B qr s1  w0) (fun u : va_W => wpost dC dI cy A u) A) (List.toArray [.ref (ad 0), .long 1735352684]) s 0 0 A) (F0 m 50 ls []) := by
        intro v50_3 H locs ls w19 r20 t21 r22 t23 r25 t26 hcr50_0 hw hT hF c24 c27 hl
        obtain ⟨x28, ex28⟩ : ∃ y : Int32, y = v10_5 + Int32.ofInt 1 := ⟨_, rfl⟩
        refine lv_iinc (v := x28) (lv' := [(5, .int x28), (0, .ref (ad 0)), (1, .long 1735352684), (3, .long v50_3)]) hx hb dX12_isWord_50 hl (k := 3) rfl ex28.symm (by decide) rfl (fun ls hl => ?_)
        have ex28 : x28.toInt = v10_5.toInt + 1 := by rw [ex28]; exact wk_add (y := 1) (show -2147483648 ≤ v10_5.toInt + 1 by omega) (show v10_5.toInt + 1 ≤ 2147483647 by omega)
        refine lv_goto (tgt := 10) hx hb dX12_isWord_53 (by decide) ?_
        exact ih10 v50_3 x28 f10_0_1 f10_0_14 H locs ls w19 (show 0 ≤ x28.toInt by omega) (show x28.toInt ≤ 400 by omega) (show 0 ≤ f10_0_1.toInt by omega) (show f10_0_1.toInt ≤ 400 by omega) (show 0 ≤ f10_0_14.toInt by omega) (show f10_0_14.toInt ≤ 400 by omega) (show (f10_0_14.toInt = f0_.toInt ∨ (gi w0 1 (f0_.toInt).toNat).toInt = 32) by first | omega | assumption | (left; omega) | (left; decide) | (right; assumption)) (show (400 - x28.toInt).toNat < n10 by omega) hw hT hF c24 c27 (lv_sub hl [1, 2, 3, 0] rfl)
      refine lv_aload_n hx hb dX12_isWord_10 rfl (lv_at hl 0 rfl) ?_
      refine lv_aload_n hx hb dX12_isWord_11 rfl (lv_at hl 0 rfl) ?_
      refine tk_geti hC hK hw hT hinX12 kM_at0 (by decide) rfl 14 (by decide) (List.mem_of_getElem? (i := 1) rfl) rfl rfl dX12_isWord_12 (fun x29 c30 rx29 tx29 => ?_)
      refine wk_top f10_0_14 (c30.symm.trans c18) ?_
      refine lv_iload hx hb dX12_isWord_15 (lv_at hl 3 rfl) ?_
      refine lv_iadd hx hb dX12_isWord_17 ?_
      refine lv_topi (fun x31 ex31 => ?_)
      have ex31 : x31.toInt = f10_0_14.toInt + v10_5.toInt := by rw [ex31]; exact wk_add (show (-2147483648) ≤ f10_0_14.toInt + v10_5.toInt by omega) (show f10_0_14.toInt + v10_5.toInt ≤ 2147483647 by omega)
      refine tk_Vi hC hK hw hT hA hE hSR kM_at0 (by decide) rfl (k_X12_isLetter_1 l adK adV dC dI cy ad B (by omega) (by omega) qr s1   x31 (show 0 ≤ x31.toInt by omega) (show x31.toInt ≤ 800 by omega) w10 H.size hT ) (cwV 1 hC.2.2.2.2 gX12_isWord_X12_isLetter rfl rfl rfl (by decide +kernel) ⟨Nat.le_of_ble_eq_true rfl, Nat.le_of_ble_eq_true rfl⟩) rfl hl.1 rfl (Nat.le_of_ble_eq_true rfl) dX12_isWord_18 (fun r32 w34 H locs hp33 hw => ?_)
      obtain ⟨rfl, hg41⟩ := hp33
      rcases hg41 with ⟨rfl, ⟨x36, c37, rx36, tx36⟩⟩ | ⟨rfl, g38, ⟨x39, c40, rx39, tx39⟩⟩
      · have ex36 : x36.toInt = f10_0_1.toInt := by rw [← c15.symm.trans c37]
        refine lv_if_eq (tgt := 56) hx hb dX12_isWord_21 (by decide) (fun _ => ?_) (fun c => absurd (by decide) c)
        refine lv_iload hx hb dX12_isWord_56 (lv_at hl 3 rfl) ?_
        refine lv_if_le (tgt := 78) hx hb dX12_isWord_58 (by decide) (fun c42 => ?_) (fun c42 => ?_)
        · have c42 : v10_5.toInt ≤ (0 : Int) := wk_le.mp c42
          exact J78 v10_3 v10_5 f10_0_1 f10_0_14 H locs ls w10 (show 0 ≤ v10_5.toInt by omega) (show v10_5.toInt ≤ 400 by omega) (show 0 ≤ f10_0_1.toInt by omega) (show f10_0_1.toInt ≤ 400 by omega) (show 0 ≤ f10_0_14.toInt by omega) (show f10_0_14.toInt ≤ 400 by omega) (show (f10_0_14.toInt = f0_.toInt ∨ (gi w0 1 (f0_.toInt).toNat).toInt = 32) by first | omega | assumption | (left; omega) | (left; decide) | (right; assumption))  hw hT hF c15 c18 (lv_sub hl [0, 1, 2, 3] rfl)
        · have c42 : (0 : Int) < v10_5.toInt := wk_leF c42
          refine lv_iload hx hb dX12_isWord_61 (lv_at hl 3 rfl) ?_
          refine lv_bipush (v := 8) hx hb dX12_isWord_63 (by decide) ?_
          refine lv_icmp_ge (tgt := 78) hx hb dX12_isWord_65 (by decide) (fun c43 => ?_) (fun c43 => ?_)
          · have c43 : (8 : Int) ≤ v10_5.toInt := wk_le.mp c43
            exact J78 v10_3 v10_5 f10_0_1 f10_0_14 H locs ls w10 (show 0 ≤ v10_5.toInt by omega) (show v10_5.toInt ≤ 400 by omega) (show 0 ≤ f10_0_1.toInt by omega) (show f10_0_1.toInt ≤ 400 by omega) (show 0 ≤ f10_0_14.toInt by omega) (show f10_0_14.toInt ≤ 400 by omega) (show (f10_0_14.toInt = f0_.toInt ∨ (gi w0 1 (f0_.toInt).toNat).toInt = 32) by first | omega | assumption | (left; omega) | (left; decide) | (right; assumption))  hw hT hF c15 c18 (lv_sub hl [0, 1, 2, 3] rfl)
          · have c43 : v10_5.toInt < (8 : Int) := wk_leF c43
            refine lv_lload_n hx hb dX12_isWord_68 rfl (lv_at hl 2 rfl) ?_
            refine lv_lload_n hx hb dX12_isWord_69 rfl (lv_at hl 1 rfl) ?_
            refine W.lcmp hx hb dX12_isWord_70 ?_
            refine lv_if_ne (tgt := 78) hx hb dX12_isWord_71 (by decide) (fun c44 => ?_) (fun c44 => ?_)
            · have c44 : ¬ v10_3.toInt = (1735352684 : Int) := wk_ceF c44
              exact J78 v10_3 v10_5 f10_0_1 f10_0_14 H locs ls w10 (show 0 ≤ v10_5.toInt by omega) (show v10_5.toInt ≤ 400 by omega) (show 0 ≤ f10_0_1.toInt by omega) (show f10_0_1.toInt ≤ 400 by omega) (show 0 ≤ f10_0_14.toInt by omega) (show f10_0_14.toInt ≤ 400 by omega) (show (f10_0_14.toInt = f0_.toInt ∨ (gi w0 1 (f0_.toInt).toNat).toInt = 32) by first | omega | assumption | (left; omega) | (left; decide) | (right; assumption))  hw hT hF c15 c18 (lv_sub hl [0, 1, 2, 3] rfl)
            · have c44 : v10_3.toInt = (1735352684 : Int) := wk_ceT c44
              refine lv_iconst (v := 1) hx hb dX12_isWord_74 (by decide) ?_
              refine lv_goto (tgt := 79) hx hb dX12_isWord_75 (by decide) ?_
              exact tk_zret hC hr rfl hlocks hK ⟨hT, hF, (Or.inr ⟨rfl, ⟨f10_0_1, c15, (show 0 ≤ f10_0_1.toInt by omega), (show f10_0_1.toInt ≤ 400 by omega)⟩, (by simp only [cf0_, c18]; omega)⟩)⟩ hw dX12_isWord_79
      · have ex39 : x39.toInt = f10_0_1.toInt := by rw [← c15.symm.trans c40]
        refine lv_if_eq (tgt := 56) hx hb dX12_isWord_21 (by decide) (fun c => absurd c (by decide)) (fun _ => ?_)
        refine lv_iload hx hb dX12_isWord_24 (lv_at hl 3 rfl) ?_
        refine lv_bipush (v := 8) hx hb dX12_isWord_26 (by decide) ?_
        refine lv_icmp_ge (tgt := 50) hx hb dX12_isWord_28 (by decide) (fun c45 => ?_) (fun c45 => ?_)
        · have c45 : (8 : Int) ≤ v10_5.toInt := wk_le.mp c45
          exact J50 v10_3 H locs ls w10 (show 0 ≤ v10_5.toInt by omega) (show v10_5.toInt ≤ 399 by omega) (show 1 ≤ f10_0_1.toInt by omega) (show f10_0_1.toInt ≤ 400 by omega) (show 0 ≤ f10_0_14.toInt by omega) (show f10_0_14.toInt ≤ 399 by omega) (show (f10_0_14.toInt = f0_.toInt ∨ (gi w0 1 (f0_.toInt).toNat).toInt = 32) by first | omega | assumption | (left; omega) | (left; decide) | (right; assumption))  hw hT hF c15 c18 (lv_sub hl [0, 1, 2, 3] rfl)
        · have c45 : v10_5.toInt < (8 : Int) := wk_leF c45
          refine lv_lload_n hx hb dX12_isWord_31 rfl (lv_at hl 2 rfl) ?_
          refine lv_bipush (v := 8) hx hb dX12_isWord_32 (by decide) ?_
          refine lv_lshl hx hb dX12_isWord_34 rfl ?_
          refine lv_topl (fun x46 ex46 => ?_)
          refine lv_aload_n hx hb dX12_isWord_35 rfl (lv_at hl 0 rfl) ?_
          refine tk_getA hC hK hw hT hinX12 kM_at0 (by decide) rfl 0 (by decide) (List.mem_of_getElem? (i := 2) rfl) rfl rfl dX12_isWord_36 ?_
          refine lv_aload_n hx hb dX12_isWord_39 rfl (lv_at hl 0 rfl) ?_
          refine tk_geti hC hK hw hT hinX12 kM_at0 (by decide) rfl 14 (by decide) (List.mem_of_getElem? (i := 1) rfl) rfl rfl dX12_isWord_40 (fun x47 c48 rx47 tx47 => ?_)
          refine wk_top f10_0_14 (c48.symm.trans c18) ?_
          refine lv_iload hx hb dX12_isWord_43 (lv_at hl 3 rfl) ?_
          refine lv_iadd hx hb dX12_isWord_45 ?_
          refine lv_topi (fun x49 ex49 => ?_)
          have ex49 : x49.toInt = f10_0_14.toInt + v10_5.toInt := by rw [ex49]; exact wk_add (show (-2147483648) ≤ f10_0_14.toInt + v10_5.toInt by omega) (show f10_0_14.toInt + v10_5.toInt ≤ 2147483647 by omega)
          refine tk_bald hC hK hw hT kM_at1 rfl rfl (show 0 ≤ x49.toInt by omega) (show x49.toInt < 400 by omega) dX12_isWord_46 (fun x50 c51 rx50 tx50 => ?_)
          have c51 : gi w10 1 (1 * f10_0_14.toInt + 1 * v10_5.toInt + 0).toNat = x50 := (congrArg (gi w10 1) (congrArg Int.toNat (show 1 * f10_0_14.toInt + 1 * v10_5.toInt + 0 = x49.toInt by omega))).trans c51
          refine lv_i2l hx hb dX12_isWord_47 rfl ?_
          refine lv_topl (fun x52 ex52 => ?_)
          have ex52 : x52.toInt = x50.toInt := by rw [ex52]; exact wk_i2l _
          have bx52 := wk_i32 x50
          refine lv_lor hx hb dX12_isWord_48 ?_
          refine lv_topl (fun x53 ex53 => ?_)
          refine lv_lstore_n (lv' := [(3, .long x53), (0, .ref (ad 0)), (1, .long 1735352684), (5, .int v10_5)]) hx hb dX12_isWord_49 rfl hl (by decide) rfl (fun ls hl => ?_)
          exact J50 x53 H locs ls w10 (show 0 ≤ v10_5.toInt by omega) (show v10_5.toInt ≤ 399 by omega) (show 1 ≤ f10_0_1.toInt by omega) (show f10_0_1.toInt ≤ 400 by omega) (show 0 ≤ f10_0_14.toInt by omega) (show f10_0_14.toInt ≤ 399 by omega) (show (f10_0_14.toInt = f0_.toInt ∨ (gi w0 1 (f0_.toInt).toNat).toInt = 32) by first | omega | assumption | (left; omega) | (left; decide) | (right; assumption) | (right; rw [c51]; omega) | (right; rw [c51]; decide))  hw hT hF c15 c18 (lv_sub hl [1, 2, 0, 3] rfl)
  refine lv_aload_n hx hb dX12_isWord_0 rfl (lv_at hl 0 rfl) ?_
  refine tk_Vi hC hK hw hT hA hE hSR kM_at0 (by decide) rfl (k_X12_see_1 l adK adV dC dI cy ad B (by omega) (by omega) qr s1    w0 s.heap.size hT f0_ cf0_ (show 0 ≤ f0_.toInt by omega) (show f0_.toInt ≤ 400 by omega)) (cwV 0 hC.2.2.2.2 gX12_isWord_X12_see rfl rfl rfl (by decide +kernel) ⟨Nat.le_of_ble_eq_true rfl, Nat.le_of_ble_eq_true rfl⟩) rfl hl.1 rfl (Nat.le_of_ble_eq_true rfl) dX12_isWord_1 (fun r54 w56 H locs hp55 hw => ?_)
  obtain ⟨hT, k57, hg74⟩ := hp55
  have hF := hF.tr k57 (by decide)
  rcases hg74 with ⟨g58, g59, ⟨x60, c61, rx60, tx60⟩, ⟨x62, c63, rx62, tx62⟩, g64, g65⟩ | ⟨rfl, ⟨x66, c67, rx66, tx66⟩, ⟨x68, c69, rx68, tx68⟩, g70⟩ | ⟨rfl, ⟨x71, c72, rx71, tx71⟩, g73⟩
  · have g64 : (gi w56 1 (x62.toInt).toNat).toInt ≠ 32 := by have q := g64; simp only [c63] at q; omega
    have g65 : (x62.toInt = f0_.toInt ∨ (gi w0 1 (f0_.toInt).toNat).toInt = 32) := by have q := g65; simp only [cf0_, c63] at q; omega
    refine lv_pop hx hb dX12_isWord_4 rfl ?_
    refine lv_lconst (v := 0) hx hb dX12_isWord_5 (by decide) ?_
    refine lv_lstore_n (lv' := [(3, .long 0), (0, .ref (ad 0)), (1, .long 1735352684)]) hx hb dX12_isWord_6 rfl hl (by decide) rfl (fun ls hl => ?_)
    refine lv_iconst (v := 0) hx hb dX12_isWord_7 (by decide) ?_
    refine lv_istore (lv' := [(5, .int 0), (3, .long 0), (0, .ref (ad 0)), (1, .long 1735352684)]) hx hb dX12_isWord_8 hl (by decide) rfl (fun ls hl => ?_)
    exact L10 ((400 - (0 : Int)).toNat + 1) 0 0 x60 x62 H locs ls w56 (by decide) (by decide) (show 0 ≤ x60.toInt by omega) (show x60.toInt ≤ 400 by omega) (show 0 ≤ x62.toInt by omega) (show x62.toInt ≤ 400 by omega) (show (x62.toInt = f0_.toInt ∨ (gi w0 1 (f0_.toInt).toNat).toInt = 32) by first | omega | assumption | (left; omega) | (left; decide) | (right; assumption)) (Nat.lt_succ_self _) hw hT hF c61 c63 (lv_sub hl [2, 3, 1, 0] rfl)
  · have g70 : (x68.toInt = f0_.toInt ∨ (gi w0 1 (f0_.toInt).toNat).toInt = 32) := by have q := g70; simp only [cf0_, c69] at q; omega
    refine lv_pop hx hb dX12_isWord_4 rfl ?_
    refine lv_lconst (v := 0) hx hb dX12_isWord_5 (by decide) ?_
    refine lv_lstore_n (lv' := [(3, .long 0), (0, .ref (ad 0)), (1, .long 1735352684)]) hx hb dX12_isWord_6 rfl hl (by decide) rfl (fun ls hl => ?_)
    refine lv_iconst (v := 0) hx hb dX12_isWord_7 (by decide) ?_
    refine lv_istore (lv' := [(5, .int 0), (3, .long 0), (0, .ref (ad 0)), (1, .long 1735352684)]) hx hb dX12_isWord_8 hl (by decide) rfl (fun ls hl => ?_)
    exact L10 ((400 - (0 : Int)).toNat + 1) 0 0 x66 x68 H locs ls w56 (by decide) (by decide) (show 0 ≤ x66.toInt by omega) (show x66.toInt ≤ 400 by omega) (show 0 ≤ x68.toInt by omega) (show x68.toInt ≤ 400 by omega) (show (x68.toInt = f0_.toInt ∨ (gi w0 1 (f0_.toInt).toNat).toInt = 32) by first | omega | assumption | (left; omega) | (left; decide) | (right; assumption)) (Nat.lt_succ_self _) hw hT hF c67 c69 (lv_sub hl [2, 3, 1, 0] rfl)
  · obtain ⟨x75, c76, rx75, tx75⟩ := hT.rdi (lo := 0) (hi := 400) (k := 14) kM_at0 (by decide) rfl
    have g73 : (x75.toInt = f0_.toInt ∨ (gi w0 1 (f0_.toInt).toNat).toInt = 32) := by have q := g73; simp only [cf0_, c76] at q; omega
    refine lv_pop hx hb dX12_isWord_4 rfl ?_
    refine lv_lconst (v := 0) hx hb dX12_isWord_5 (by decide) ?_
    refine lv_lstore_n (lv' := [(3, .long 0), (0, .ref (ad 0)), (1, .long 1735352684)]) hx hb dX12_isWord_6 rfl hl (by decide) rfl (fun ls hl => ?_)
    refine lv_iconst (v := 0) hx hb dX12_isWord_7 (by decide) ?_
    refine lv_istore (lv' := [(5, .int 0), (3, .long 0), (0, .ref (ad 0)), (1, .long 1735352684)]) hx hb dX12_isWord_8 hl (by decide) rfl (fun ls hl => ?_)
    exact L10 ((400 - (0 : Int)).toNat + 1) 0 0 x71 x75 H locs ls w56 (by decide) (by decide) (show 0 ≤ x71.toInt by omega) (show x71.toInt ≤ 400 by omega) (show 0 ≤ x75.toInt by omega) (show x75.toInt ≤ 400 by omega) (show (x75.toInt = f0_.toInt ∨ (gi w0 1 (f0_.toInt).toNat).toInt = 32) by first | omega | assumption | (left; omega) | (left; decide) | (right; assumption)) (Nat.lt_succ_self _) hw hT hF c72 c76 (lv_sub hl [2, 3, 1, 0] rfl)
abbrev P_X12_isWord_14 (ad : Nat → Nat) (cy : Nat → ClassId) (B : Int) (qr : Nat) (s1 : Int)  (w0 : va_W) : Int32 → va_W → Prop := fun r u => TW ksM ad cy B qr 12 u ∧ FE ksM [(12, 14, 14)] w0 u ∧ ((r = 0 ∧ (∃ y : Int32, gi u 0 1 = y ∧ 0 ≤ y.toInt ∧ y.toInt ≤ 400) ∧ (((gi u 0 14).toInt = (gi w0 0 14).toInt ∨ (gi w0 1 ((gi w0 0 14).toInt).toNat).toInt = 32))) ∨ (r = 1 ∧ (∃ y : Int32, gi u 0 1 = y ∧ 0 ≤ y.toInt ∧ y.toInt ≤ 400) ∧ (((gi u 0 14).toInt = (gi w0 0 14).toInt ∨ (gi w0 1 ((gi w0 0 14).toInt).toNat).toInt = 32))))
set_option maxHeartbeats 4000000 in
set_option maxRecDepth 100000 in
theorem k_X12_isWord_14 (l : Launch) (adK adV : Nat → Nat) (dC : Nat → ClassId) (dI : Nat → Nat → Nat) (cy : Nat → ClassId) (ad : Nat → Nat) (B : Int) (hB0 : 100000 ≤ B) (hB1 : B ≤ 1073741824) (qr : Nat) (s1 : Int)   (w0 : va_W) (sz : Nat) (hT : TW ksM ad cy B qr 12 w0) (f0_ : Int32) (cf0_ : gi w0 0 14 = f0_) (rf0_ : 0 ≤ f0_.toInt) (tf0_ : f0_.toInt ≤ 400) : Met l yX12_isWord wsX12_isWord ({ frames := 2, cells := 0, slots := 0, locals := 33 }) (va_Pc [.ref (ad 0), .long 1752135026] (wpreS adK adV dC dI cy sz w0)) (va_Qi (P_X12_isWord_14 ad cy B qr s1  w0) (fun u : va_W => wpost dC dI cy (va_A w0 sz) u) (va_A w0 sz)) 0 0 (va_A w0 sz) := by
  refine Met.ofW (cc := cX12_isWord) (maxL := 6) (ret := (some .boolean)) (by decide) rfl ?_
  intro p e s m args below meth c s₁ Bk hml hv
  obtain ⟨rfl, ⟨hsz, hP, hK, hD0⟩, hE, hSR⟩ := hv
  have hx := Bk.exec
  have hb := Bk.bytes
  have hr := Bk.returns
  have hlocks := Bk.notSynchronized
  have hC : CallFix p m c cX12_isWord 6 s _ wsX12_isWord RX12 := ⟨hx, hb, hml, findClass_of_methodNamed Bk.named, atoms_spec (ws := wsX12_isWord) Bk.pre⟩
  subst hsz
  have hD := hD0.self (sz := s.heap.size)
  generalize hAe : va_A w0 s.heap.size = A at hD hE ⊢
  have hA : ∀ q : Nat, s.heap.size ≤ q → A q := fun q h => by rw [← hAe]; exact Or.inr h
  have hw : Wd dC dI A s.heap s.heap [] w0 := ⟨hP, hD, va_S.rf⟩
  have hF : FE ksM [(12, 14, 14)] w0 w0 := FE.rf
  have hl := lv_entry ([.ref (ad 0), .long 1752135026]) (n := 6) (Nat.le_of_ble_eq_true rfl)
  rw [lg_entry_eq]
  generalize (lg_sl ([.ref (ad 0), .long 1752135026]) ++ List.replicate (6 - (lg_sl ([.ref (ad 0), .long 1752135026])).length) Slot.unset).toArray = ls at hl ⊢
  have hl : lv_has ls 6 [(0, .ref (ad 0)), (1, .long 1752135026)] := hl
  generalize hloc : ([] : List Loc) = locs at hw ⊢
  have hinX12 : ∀ w ∈ u_ws RX12 TX12 42, w ∈ wsX12_isWord := fun _ h => List.mem_cons_of_mem _ (List.mem_append_right _ (h))
  have J78 : ∀ (v78_3 : Int64) (v78_5 : Int32) (f78_0_1 : Int32) (f78_0_14 : Int32) (H : Heap) (locs : List Loc) (ls : Array Slot) (w1 : va_W), 0 ≤ v78_5.toInt → v78_5.toInt ≤ 400 → 0 ≤ f78_0_1.toInt → f78_0_1.toInt ≤ 400 → 0 ≤ f78_0_14.toInt → f78_0_14.toInt ≤ 400 → ((f78_0_14.toInt = f0_.toInt ∨ (gi w0 1 (f0_.toInt).toNat).toInt = 32)) → Wd dC dI A s.heap H locs w1 → TW ksM ad cy B qr 12 w1 → FE ksM [(12, 14, 14)] w0 w1 → gi w1 0 1 = f78_0_1 → gi w1 0 14 = f78_0_14 → lv_has ls 6 [(0, .ref (ad 0)), (1, .long 1752135026), (3, .long v78_3), (5, .int v78_5)] → W p l e ({ frames := 2, cells := 0, slots := 0, locals := 33 }) s m (List.toArray [.ref (ad 0), .long 1752135026]) below meth c H locs 0 0 (MQ below (va_Qi (P_X12_isWord_14 ad cy B qr s1  w0) (fun u : va_W => wpost dC dI cy A u) A) (List.toArray [.ref (ad 0), .long 1752135026]) s 0 0 A) (F0 m 78 ls []) := by
    intro v78_3 v78_5 f78_0_1 f78_0_14 H locs ls w1 r2 t3 r4 t5 r7 t8 hcr78_0 hw hT hF c6 c9 hl
    refine lv_iconst (v := 0) hx hb dX12_isWord_78 (by decide) ?_
    exact tk_zret hC hr rfl hlocks hK ⟨hT, hF, (Or.inl ⟨rfl, ⟨f78_0_1, c6, (show 0 ≤ f78_0_1.toInt by omega), (show f78_0_1.toInt ≤ 400 by omega)⟩, (by simp only [cf0_, c9]; omega)⟩)⟩ hw dX12_isWord_79
  have L10 : ∀ (n10 : Nat) (v10_3 : Int64) (v10_5 : Int32) (f10_0_1 : Int32) (f10_0_14 : Int32) (H : Heap) (locs : List Loc) (ls : Array Slot) (w10 : va_W), 0 ≤ v10_5.toInt → v10_5.toInt ≤ 400 → 0 ≤ f10_0_1.toInt → f10_0_1.toInt ≤ 400 → 0 ≤ f10_0_14.toInt → f10_0_14.toInt ≤ 400 → ((f10_0_14.toInt = f0_.toInt ∨ (gi w0 1 (f0_.toInt).toNat).toInt = 32)) → (400 - v10_5.toInt).toNat < n10 → Wd dC dI A s.heap H locs w10 → TW ksM ad cy B qr 12 w10 → FE ksM [(12, 14, 14)] w0 w10 → gi w10 0 1 = f10_0_1 → gi w10 0 14 = f10_0_14 → lv_has ls 6 [(0, .ref (ad 0)), (1, .long 1752135026), (3, .long v10_3), (5, .int v10_5)] → W p l e ({ frames := 2, cells := 0, slots := 0, locals := 33 }) s m (List.toArray [.ref (ad 0), .long 1752135026]) below meth c H locs 0 0 (MQ below (va_Qi (P_X12_isWord_14 ad cy B qr s1  w0) (fun u : va_W => wpost dC dI cy A u) A) (List.toArray [.ref (ad 0), .long 1752135026]) s 0 0 A) (F0 m 10 ls []) := by
    intro n10
    induction n10 with
    | zero => intro v10_3 v10_5 f10_0_1 f10_0_14 H locs ls w10 r11 t12 r13 t14 r16 t17 hcr10_0 hm10 hw hT hF c15 c18 hl; omega
    | succ n10 ih10 =>
      intro v10_3 v10_5 f10_0_1 f10_0_14 H locs ls w10 r11 t12 r13 t14 r16 t17 hcr10_0 hm10 hw hT hF c15 c18 hl
      have J50 : ∀ (v50_3 : Int64) (H : Heap) (locs : List Loc) (ls : Array Slot) (w19 : va_W), 0 ≤ v10_5.toInt → v10_5.toInt ≤ 399 → 1 ≤ f10_0_1.toInt → f10_0_1.toInt ≤ 400 → 0 ≤ f10_0_14.toInt → f10_0_14.toInt ≤ 399 → ((f10_0_14.toInt = f0_.toInt ∨ (gi w0 1 (f0_.toInt).toNat).toInt = 32)) → Wd dC dI A s.heap H locs w19 → TW ksM ad cy B qr 12 w19 → FE ksM [(12, 14, 14)] w0 w19 → gi w19 0 1 = f10_0_1 → gi w19 0 14 = f10_0_14 → lv_has ls 6 [(0, .ref (ad 0)), (1, .long 1752135026), (3, .long v50_3), (5, .int v10_5)] → W p l e ({ frames := 2, cells := 0, slots := 0, locals := 33 }) s m (List.toArray [.ref (ad 0), .long 1752135026]) below meth c H locs 0 0 (MQ below (va_Qi (P_X12_isWord_14 ad cy B qr s1  w0) (fun u : va_W => wpost dC dI cy A u) A) (List.toArray [.ref (ad 0), .long 1752135026]) s 0 0 A) (F0 m 50 ls []) := by
        intro v50_3 H locs ls w19 r20 t21 r22 t23 r25 t26 hcr50_0 hw hT hF c24 c27 hl
        obtain ⟨x28, ex28⟩ : ∃ y : Int32, y = v10_5 + Int32.ofInt 1 := ⟨_, rfl⟩
        refine lv_iinc (v := x28) (lv' := [(5, .int x28), (0, .ref (ad 0)), (1, .long 1752135026), (3, .long v50_3)]) hx hb dX12_isWord_50 hl (k := 3) rfl ex28.symm (by decide) rfl (fun ls hl => ?_)
        have ex28 : x28.toInt = v10_5.toInt + 1 := by rw [ex28]; exact wk_add (y := 1) (show -2147483648 ≤ v10_5.toInt + 1 by omega) (show v10_5.toInt + 1 ≤ 2147483647 by omega)
        refine lv_goto (tgt := 10) hx hb dX12_isWord_53 (by decide) ?_
        exact ih10 v50_3 x28 f10_0_1 f10_0_14 H locs ls w19 (show 0 ≤ x28.toInt by omega) (show x28.toInt ≤ 400 by omega) (show 0 ≤ f10_0_1.toInt by omega) (show f10_0_1.toInt ≤ 400 by omega) (show 0 ≤ f10_0_14.toInt by omega) (show f10_0_14.toInt ≤ 400 by omega) (show (f10_0_14.toInt = f0_.toInt ∨ (gi w0 1 (f0_.toInt).toNat).toInt = 32) by first | omega | assumption | (left; omega) | (left; decide) | (right; assumption)) (show (400 - x28.toInt).toNat < n10 by omega) hw hT hF c24 c27 (lv_sub hl [1, 2, 3, 0] rfl)
      refine lv_aload_n hx hb dX12_isWord_10 rfl (lv_at hl 0 rfl) ?_
      refine lv_aload_n hx hb dX12_isWord_11 rfl (lv_at hl 0 rfl) ?_
      refine tk_geti hC hK hw hT hinX12 kM_at0 (by decide) rfl 14 (by decide) (List.mem_of_getElem? (i := 1) rfl) rfl rfl dX12_isWord_12 (fun x29 c30 rx29 tx29 => ?_)
      refine wk_top f10_0_14 (c30.symm.trans c18) ?_
      refine lv_iload hx hb dX12_isWord_15 (lv_at hl 3 rfl) ?_
      refine lv_iadd hx hb dX12_isWord_17 ?_
      refine lv_topi (fun x31 ex31 => ?_)
      have ex31 : x31.toInt = f10_0_14.toInt + v10_5.toInt := by rw [ex31]; exact wk_add (show (-2147483648) ≤ f10_0_14.toInt + v10_5.toInt by omega) (show f10_0_14.toInt + v10_5.toInt ≤ 2147483647 by omega)
      refine tk_Vi hC hK hw hT hA hE hSR kM_at0 (by decide) rfl (k_X12_isLetter_1 l adK adV dC dI cy ad B (by omega) (by omega) qr s1   x31 (show 0 ≤ x31.toInt by omega) (show x31.toInt ≤ 800 by omega) w10 H.size hT ) (cwV 1 hC.2.2.2.2 gX12_isWord_X12_isLetter rfl rfl rfl (by decide +kernel) ⟨Nat.le_of_ble_eq_true rfl, Nat.le_of_ble_eq_true rfl⟩) rfl hl.1 rfl (Nat.le_of_ble_eq_true rfl) dX12_isWord_18 (fun r32 w34 H locs hp33 hw => ?_)
      obtain ⟨rfl, hg41⟩ := hp33
      rcases hg41 with ⟨rfl, ⟨x36, c37, rx36, tx36⟩⟩ | ⟨rfl, g38, ⟨x39, c40, rx39, tx39⟩⟩
      · have ex36 : x36.toInt = f10_0_1.toInt := by rw [← c15.symm.trans c37]
        refine lv_if_eq (tgt := 56) hx hb dX12_isWord_21 (by decide) (fun _ => ?_) (fun c => absurd (by decide) c)
        refine lv_iload hx hb dX12_isWord_56 (lv_at hl 3 rfl) ?_
        refine lv_if_le (tgt := 78) hx hb dX12_isWord_58 (by decide) (fun c42 => ?_) (fun c42 => ?_)
        · have c42 : v10_5.toInt ≤ (0 : Int) := wk_le.mp c42
          exact J78 v10_3 v10_5 f10_0_1 f10_0_14 H locs ls w10 (show 0 ≤ v10_5.toInt by omega) (show v10_5.toInt ≤ 400 by omega) (show 0 ≤ f10_0_1.toInt by omega) (show f10_0_1.toInt ≤ 400 by omega) (show 0 ≤ f10_0_14.toInt by omega) (show f10_0_14.toInt ≤ 400 by omega) (show (f10_0_14.toInt = f0_.toInt ∨ (gi w0 1 (f0_.toInt).toNat).toInt = 32) by first | omega | assumption | (left; omega) | (left; decide) | (right; assumption))  hw hT hF c15 c18 (lv_sub hl [0, 1, 2, 3] rfl)
        · have c42 : (0 : Int) < v10_5.toInt := wk_leF c42
          refine lv_iload hx hb dX12_isWord_61 (lv_at hl 3 rfl) ?_
          refine lv_bipush (v := 8) hx hb dX12_isWord_63 (by decide) ?_
          refine lv_icmp_ge (tgt := 78) hx hb dX12_isWord_65 (by decide) (fun c43 => ?_) (fun c43 => ?_)
          · have c43 : (8 : Int) ≤ v10_5.toInt := wk_le.mp c43
            exact J78 v10_3 v10_5 f10_0_1 f10_0_14 H locs ls w10 (show 0 ≤ v10_5.toInt by omega) (show v10_5.toInt ≤ 400 by omega) (show 0 ≤ f10_0_1.toInt by omega) (show f10_0_1.toInt ≤ 400 by omega) (show 0 ≤ f10_0_14.toInt by omega) (show f10_0_14.toInt ≤ 400 by omega) (show (f10_0_14.toInt = f0_.toInt ∨ (gi w0 1 (f0_.toInt).toNat).toInt = 32) by first | omega | assumption | (left; omega) | (left; decide) | (right; assumption))  hw hT hF c15 c18 (lv_sub hl [0, 1, 2, 3] rfl)
          · have c43 : v10_5.toInt < (8 : Int) := wk_leF c43
            refine lv_lload_n hx hb dX12_isWord_68 rfl (lv_at hl 2 rfl) ?_
            refine lv_lload_n hx hb dX12_isWord_69 rfl (lv_at hl 1 rfl) ?_
            refine W.lcmp hx hb dX12_isWord_70 ?_
            refine lv_if_ne (tgt := 78) hx hb dX12_isWord_71 (by decide) (fun c44 => ?_) (fun c44 => ?_)
            · have c44 : ¬ v10_3.toInt = (1752135026 : Int) := wk_ceF c44
              exact J78 v10_3 v10_5 f10_0_1 f10_0_14 H locs ls w10 (show 0 ≤ v10_5.toInt by omega) (show v10_5.toInt ≤ 400 by omega) (show 0 ≤ f10_0_1.toInt by omega) (show f10_0_1.toInt ≤ 400 by omega) (show 0 ≤ f10_0_14.toInt by omega) (show f10_0_14.toInt ≤ 400 by omega) (show (f10_0_14.toInt = f0_.toInt ∨ (gi w0 1 (f0_.toInt).toNat).toInt = 32) by first | omega | assumption | (left; omega) | (left; decide) | (right; assumption))  hw hT hF c15 c18 (lv_sub hl [0, 1, 2, 3] rfl)
            · have c44 : v10_3.toInt = (1752135026 : Int) := wk_ceT c44
              refine lv_iconst (v := 1) hx hb dX12_isWord_74 (by decide) ?_
              refine lv_goto (tgt := 79) hx hb dX12_isWord_75 (by decide) ?_
              exact tk_zret hC hr rfl hlocks hK ⟨hT, hF, (Or.inr ⟨rfl, ⟨f10_0_1, c15, (show 0 ≤ f10_0_1.toInt by omega), (show f10_0_1.toInt ≤ 400 by omega)⟩, (by simp only [cf0_, c18]; omega)⟩)⟩ hw dX12_isWord_79
      · have ex39 : x39.toInt = f10_0_1.toInt := by rw [← c15.symm.trans c40]
        refine lv_if_eq (tgt := 56) hx hb dX12_isWord_21 (by decide) (fun c => absurd c (by decide)) (fun _ => ?_)
        refine lv_iload hx hb dX12_isWord_24 (lv_at hl 3 rfl) ?_
        refine lv_bipush (v := 8) hx hb dX12_isWord_26 (by decide) ?_
        refine lv_icmp_ge (tgt := 50) hx hb dX12_isWord_28 (by decide) (fun c45 => ?_) (fun c45 => ?_)
        · have c45 : (8 : Int) ≤ v10_5.toInt := wk_le.mp c45
          exact J50 v10_3 H locs ls w10 (show 0 ≤ v10_5.toInt by omega) (show v10_5.toInt ≤ 399 by omega) (show 1 ≤ f10_0_1.toInt by omega) (show f10_0_1.toInt ≤ 400 by omega) (show 0 ≤ f10_0_14.toInt by omega) (show f10_0_14.toInt ≤ 399 by omega) (show (f10_0_14.toInt = f0_.toInt ∨ (gi w0 1 (f0_.toInt).toNat).toInt = 32) by first | omega | assumption | (left; omega) | (left; decide) | (right; assumption))  hw hT hF c15 c18 (lv_sub hl [0, 1, 2, 3] rfl)
        · have c45 : v10_5.toInt < (8 : Int) := wk_leF c45
          refine lv_lload_n hx hb dX12_isWord_31 rfl (lv_at hl 2 rfl) ?_
          refine lv_bipush (v := 8) hx hb dX12_isWord_32 (by decide) ?_
          refine lv_lshl hx hb dX12_isWord_34 rfl ?_
          refine lv_topl (fun x46 ex46 => ?_)
          refine lv_aload_n hx hb dX12_isWord_35 rfl (lv_at hl 0 rfl) ?_
          refine tk_getA hC hK hw hT hinX12 kM_at0 (by decide) rfl 0 (by decide) (List.mem_of_getElem? (i := 2) rfl) rfl rfl dX12_isWord_36 ?_
          refine lv_aload_n hx hb dX12_isWord_39 rfl (lv_at hl 0 rfl) ?_
          refine tk_geti hC hK hw hT hinX12 kM_at0 (by decide) rfl 14 (by decide) (List.mem_of_getElem? (i := 1) rfl) rfl rfl dX12_isWord_40 (fun x47 c48 rx47 tx47 => ?_)
          refine wk_top f10_0_14 (c48.symm.trans c18) ?_
          refine lv_iload hx hb dX12_isWord_43 (lv_at hl 3 rfl) ?_
          refine lv_iadd hx hb dX12_isWord_45 ?_
          refine lv_topi (fun x49 ex49 => ?_)
          have ex49 : x49.toInt = f10_0_14.toInt + v10_5.toInt := by rw [ex49]; exact wk_add (show (-2147483648) ≤ f10_0_14.toInt + v10_5.toInt by omega) (show f10_0_14.toInt + v10_5.toInt ≤ 2147483647 by omega)
          refine tk_bald hC hK hw hT kM_at1 rfl rfl (show 0 ≤ x49.toInt by omega) (show x49.toInt < 400 by omega) dX12_isWord_46 (fun x50 c51 rx50 tx50 => ?_)
          have c51 : gi w10 1 (1 * f10_0_14.toInt + 1 * v10_5.toInt + 0).toNat = x50 := (congrArg (gi w10 1) (congrArg Int.toNat (show 1 * f10_0_14.toInt + 1 * v10_5.toInt + 0 = x49.toInt by omega))).trans c51
          refine lv_i2l hx hb dX12_isWord_47 rfl ?_
          refine lv_topl (fun x52 ex52 => ?_)
          have ex52 : x52.toInt = x50.toInt := by rw [ex52]; exact wk_i2l _
          have bx52 := wk_i32 x50
          refine lv_lor hx hb dX12_isWord_48 ?_
          refine lv_topl (fun x53 ex53 => ?_)
          refine lv_lstore_n (lv' := [(3, .long x53), (0, .ref (ad 0)), (1, .long 1752135026), (5, .int v10_5)]) hx hb dX12_isWord_49 rfl hl (by decide) rfl (fun ls hl => ?_)
          exact J50 x53 H locs ls w10 (show 0 ≤ v10_5.toInt by omega) (show v10_5.toInt ≤ 399 by omega) (show 1 ≤ f10_0_1.toInt by omega) (show f10_0_1.toInt ≤ 400 by omega) (show 0 ≤ f10_0_14.toInt by omega) (show f10_0_14.toInt ≤ 399 by omega) (show (f10_0_14.toInt = f0_.toInt ∨ (gi w0 1 (f0_.toInt).toNat).toInt = 32) by first | omega | assumption | (left; omega) | (left; decide) | (right; assumption) | (right; rw [c51]; omega) | (right; rw [c51]; decide))  hw hT hF c15 c18 (lv_sub hl [1, 2, 0, 3] rfl)
  refine lv_aload_n hx hb dX12_isWord_0 rfl (lv_at hl 0 rfl) ?_
  refine tk_Vi hC hK hw hT hA hE hSR kM_at0 (by decide) rfl (k_X12_see_1 l adK adV dC dI cy ad B (by omega) (by omega) qr s1    w0 s.heap.size hT f0_ cf0_ (show 0 ≤ f0_.toInt by omega) (show f0_.toInt ≤ 400 by omega)) (cwV 0 hC.2.2.2.2 gX12_isWord_X12_see rfl rfl rfl (by decide +kernel) ⟨Nat.le_of_ble_eq_true rfl, Nat.le_of_ble_eq_true rfl⟩) rfl hl.1 rfl (Nat.le_of_ble_eq_true rfl) dX12_isWord_1 (fun r54 w56 H locs hp55 hw => ?_)
  obtain ⟨hT, k57, hg74⟩ := hp55
  have hF := hF.tr k57 (by decide)
  rcases hg74 with ⟨g58, g59, ⟨x60, c61, rx60, tx60⟩, ⟨x62, c63, rx62, tx62⟩, g64, g65⟩ | ⟨rfl, ⟨x66, c67, rx66, tx66⟩, ⟨x68, c69, rx68, tx68⟩, g70⟩ | ⟨rfl, ⟨x71, c72, rx71, tx71⟩, g73⟩
  · have g64 : (gi w56 1 (x62.toInt).toNat).toInt ≠ 32 := by have q := g64; simp only [c63] at q; omega
    have g65 : (x62.toInt = f0_.toInt ∨ (gi w0 1 (f0_.toInt).toNat).toInt = 32) := by have q := g65; simp only [cf0_, c63] at q; omega
    refine lv_pop hx hb dX12_isWord_4 rfl ?_
    refine lv_lconst (v := 0) hx hb dX12_isWord_5 (by decide) ?_
    refine lv_lstore_n (lv' := [(3, .long 0), (0, .ref (ad 0)), (1, .long 1752135026)]) hx hb dX12_isWord_6 rfl hl (by decide) rfl (fun ls hl => ?_)
    refine lv_iconst (v := 0) hx hb dX12_isWord_7 (by decide) ?_
    refine lv_istore (lv' := [(5, .int 0), (3, .long 0), (0, .ref (ad 0)), (1, .long 1752135026)]) hx hb dX12_isWord_8 hl (by decide) rfl (fun ls hl => ?_)
    exact L10 ((400 - (0 : Int)).toNat + 1) 0 0 x60 x62 H locs ls w56 (by decide) (by decide) (show 0 ≤ x60.toInt by omega) (show x60.toInt ≤ 400 by omega) (show 0 ≤ x62.toInt by omega) (show x62.toInt ≤ 400 by omega) (show (x62.toInt = f0_.toInt ∨ (gi w0 1 (f0_.toInt).toNat).toInt = 32) by first | omega | assumption | (left; omega) | (left; decide) | (right; assumption)) (Nat.lt_succ_self _) hw hT hF c61 c63 (lv_sub hl [2, 3, 1, 0] rfl)
  · have g70 : (x68.toInt = f0_.toInt ∨ (gi w0 1 (f0_.toInt).toNat).toInt = 32) := by have q := g70; simp only [cf0_, c69] at q; omega
    refine lv_pop hx hb dX12_isWord_4 rfl ?_
    refine lv_lconst (v := 0) hx hb dX12_isWord_5 (by decide) ?_
    refine lv_lstore_n (lv' := [(3, .long 0), (0, .ref (ad 0)), (1, .long 1752135026)]) hx hb dX12_isWord_6 rfl hl (by decide) rfl (fun ls hl => ?_)
    refine lv_iconst (v := 0) hx hb dX12_isWord_7 (by decide) ?_
    refine lv_istore (lv' := [(5, .int 0), (3, .long 0), (0, .ref (ad 0)), (1, .long 1752135026)]) hx hb dX12_isWord_8 hl (by decide) rfl (fun ls hl => ?_)
    exact L10 ((400 - (0 : Int)).toNat + 1) 0 0 x66 x68 H locs ls w56 (by decide) (by decide) (show 0 ≤ x66.toInt by omega) (show x66.toInt ≤ 400 by omega) (show 0 ≤ x68.toInt by omega) (show x68.toInt ≤ 400 by omega) (show (x68.toInt = f0_.toInt ∨ (gi w0 1 (f0_.toInt).toNat).toInt = 32) by first | omega | assumption | (left; omega) | (left; decide) | (right; assumption)) (Nat.lt_succ_self _) hw hT hF c67 c69 (lv_sub hl [2, 3, 1, 0] rfl)
  · obtain ⟨x75, c76, rx75, tx75⟩ := hT.rdi (lo := 0) (hi := 400) (k := 14) kM_at0 (by decide) rfl
    have g73 : (x75.toInt = f0_.toInt ∨ (gi w0 1 (f0_.toInt).toNat).toInt = 32) := by have q := g73; simp only [cf0_, c76] at q; omega
    refine lv_pop hx hb dX12_isWord_4 rfl ?_
    refine lv_lconst (v := 0) hx hb dX12_isWord_5 (by decide) ?_
    refine lv_lstore_n (lv' := [(3, .long 0), (0, .ref (ad 0)), (1, .long 1752135026)]) hx hb dX12_isWord_6 rfl hl (by decide) rfl (fun ls hl => ?_)
    refine lv_iconst (v := 0) hx hb dX12_isWord_7 (by decide) ?_
    refine lv_istore (lv' := [(5, .int 0), (3, .long 0), (0, .ref (ad 0)), (1, .long 1752135026)]) hx hb dX12_isWord_8 hl (by decide) rfl (fun ls hl => ?_)
    exact L10 ((400 - (0 : Int)).toNat + 1) 0 0 x71 x75 H locs ls w56 (by decide) (by decide) (show 0 ≤ x71.toInt by omega) (show x71.toInt ≤ 400 by omega) (show 0 ≤ x75.toInt by omega) (show x75.toInt ≤ 400 by omega) (show (x75.toInt = f0_.toInt ∨ (gi w0 1 (f0_.toInt).toNat).toInt = 32) by first | omega | assumption | (left; omega) | (left; decide) | (right; assumption)) (Nat.lt_succ_self _) hw hT hF c72 c76 (lv_sub hl [2, 3, 1, 0] rfl)
