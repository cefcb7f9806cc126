abbrev P_X12_reaches_2 (ad : Nat → Nat) (cy : Nat → ClassId) (B : Int) (qr : Nat) (s1 : Int) (a1 : Int32) (a2 : Int32) (a3 : Int32) (a4 : Int32) (w0 : va_W) : Int32 → va_W → Prop := fun r u => TW ksM ad cy B qr 12 u ∧ FE ksM [(77, 0, 10), (78, 0, 10)] w0 u ∧ ((0 ≤ r.toInt ∧ r.toInt ≤ 100000100))
set_option maxHeartbeats 4000000 in
set_option maxRecDepth 100000 in
theorem k_X12_reaches_2 (l : Launch) (adK adV : Nat → Nat) (dC : Nat → ClassId) (dI : Nat → Nat → Nat) (cy : Nat → ClassId) (ad : Nat → Nat) (B : Int) (hB0 : 100000 ≤ B) (hB1 : B ≤ 1073741824) (qr : Nat) (s1 : Int)  (a1 : Int32) (ra1 : 0 ≤ a1.toInt) (ta1 : a1.toInt ≤ 9) (a2 : Int32) (ra2 : 0 ≤ a2.toInt) (ta2 : a2.toInt ≤ 9) (a3 : Int32) (ra3 : 0 ≤ a3.toInt) (ta3 : a3.toInt ≤ 100000100) (a4 : Int32) (ra4 : 0 ≤ a4.toInt) (ta4 : a4.toInt ≤ 100000100) (w0 : va_W) (sz : Nat) (hT : TW ksM ad cy B qr 12 w0)  : Met l yX12_reaches (wu yX12_reaches cX12_reaches 9 (some .int)) ({ frames := 5, cells := 0, slots := 0, locals := 105 }) (va_Pc [.ref (ad 0), .int a1, .int a2, .int a3, .int a4] (wpreS adK adV dC dI cy sz w0)) (va_Qi (P_X12_reaches_2 ad cy B qr s1 a1 a2 a3 a4 w0) (fun u : va_W => wpost dC dI cy (va_A w0 sz) u) (va_A w0 sz)) 0 0 (va_A w0 sz) := by
  refine Met.ofW (cc := cX12_reaches) (maxL := 9) (ret := (some .int)) (by decide) rfl ?_
  intro p e s m args below meth c s₁ Bk hml hv
  obtain ⟨rfl, ⟨hsz, hP, hK, hD0⟩, hE, hSR⟩ := hv
  have hx := Bk.exec
  have hb := Bk.bytes
  have hr := Bk.returns
  have hlocks := Bk.notSynchronized
  have hC : CallFix p m c cX12_reaches 9 s _ (wu yX12_reaches cX12_reaches 9 (some .int)) RX12 := ⟨hx, hb, hml, findClass_of_methodNamed Bk.named, atoms_spec (ws := (wu yX12_reaches cX12_reaches 9 (some .int))) Bk.pre⟩
  subst hsz
  have hD := hD0.self (sz := s.heap.size)
  generalize hAe : va_A w0 s.heap.size = A at hD hE ⊢
  have hA : ∀ q : Nat, s.heap.size ≤ q → A q := fun q h => by rw [← hAe]; exact Or.inr h
  have hw : Wd dC dI A s.heap s.heap [] w0 := ⟨hP, hD, va_S.rf⟩
  have hF : FE ksM [(77, 0, 10), (78, 0, 10)] w0 w0 := FE.rf
  have hl := lv_entry ([.ref (ad 0), .int a1, .int a2, .int a3, .int a4]) (n := 9) (Nat.le_of_ble_eq_true rfl)
  rw [lg_entry_eq]
  generalize (lg_sl ([.ref (ad 0), .int a1, .int a2, .int a3, .int a4]) ++ List.replicate (9 - (lg_sl ([.ref (ad 0), .int a1, .int a2, .int a3, .int a4])).length) Slot.unset).toArray = ls at hl ⊢
  have hl : lv_has ls 9 [(0, .ref (ad 0)), (1, .int a1), (2, .int a2), (3, .int a3), (4, .int a4)] := hl
  generalize hloc : ([] : List Loc) = locs at hw ⊢
  have hinX12 : ∀ w ∈ u_ws RX12 TX12 42, w ∈ (wu yX12_reaches cX12_reaches 9 (some .int)) := fun _ h => List.mem_cons_of_mem _ (up_71 h)
  have L44 : ∀ (n44 : Nat) (v44_5 : Int32) (H : Heap) (locs : List Loc) (ls : Array Slot) (w1 : va_W), 0 ≤ a1.toInt → a1.toInt ≤ 9 → 0 ≤ a2.toInt → a2.toInt ≤ 9 → 0 ≤ a3.toInt → a3.toInt ≤ 100000100 → 0 ≤ a4.toInt → a4.toInt ≤ 100000100 → 0 ≤ v44_5.toInt → v44_5.toInt ≤ 10 → (0 ≤ (sumG 19 10 w1)) → (10 - (sumG 19 10 w1)).toNat < n44 → Wd dC dI A s.heap H locs w1 → TW ksM ad cy B qr 12 w1 → FE ksM [(77, 0, 10), (78, 0, 10)] w0 w1 → lv_has ls 9 [(0, .ref (ad 0)), (1, .int a1), (2, .int a2), (3, .int a3), (4, .int a4), (5, .int v44_5)] → W p l e ({ frames := 5, cells := 0, slots := 0, locals := 105 }) s m (List.toArray [.ref (ad 0), .int a1, .int a2, .int a3, .int a4]) below meth c H locs 0 0 (MQ below (va_Qi (P_X12_reaches_2 ad cy B qr s1 a1 a2 a3 a4 w0) (fun u : va_W => wpost dC dI cy A u) A) (List.toArray [.ref (ad 0), .int a1, .int a2, .int a3, .int a4]) s 0 0 A) (F0 m 44 ls []) := by
    intro n44
    induction n44 with
    | zero => intro v44_5 H locs ls w1 r2 t3 r4 t5 r6 t7 r8 t9 r10 t11 hcr44_0 hm44 hw hT hF hl; omega
    | succ n44 ih44 =>
      intro v44_5 H locs ls w1 r2 t3 r4 t5 r6 t7 r8 t9 r10 t11 hcr44_0 hm44 hw hT hF hl
      have L145 : ∀ (n145 : Nat) (v145_5 : Int32) (v145_6 : Int32) (f145_12_0 : Int32) (H : Heap) (locs : List Loc) (ls : Array Slot) (w12 : va_W), 0 ≤ a1.toInt → a1.toInt ≤ 9 → 0 ≤ a2.toInt → a2.toInt ≤ 9 → 0 ≤ a3.toInt → a3.toInt ≤ 100000100 → 0 ≤ a4.toInt → a4.toInt ≤ 100000100 → 0 ≤ v145_5.toInt → v145_5.toInt ≤ 9 → 0 ≤ v145_6.toInt → v145_6.toInt ≤ 12 → 0 ≤ f145_12_0.toInt → f145_12_0.toInt ≤ 10 → ((sumG 19 10 w1) + 1 ≤ (sumG 19 10 w12)) → (12 - v145_6.toInt).toNat < n145 → Wd dC dI A s.heap H locs w12 → TW ksM ad cy B qr 12 w12 → FE ksM [(77, 0, 10), (78, 0, 10)] w0 w12 → gi w12 12 0 = f145_12_0 → lv_has ls 9 [(0, .ref (ad 0)), (1, .int a1), (2, .int a2), (3, .int a3), (4, .int a4), (5, .int v145_5), (6, .int v145_6)] → W p l e ({ frames := 5, cells := 0, slots := 0, locals := 105 }) s m (List.toArray [.ref (ad 0), .int a1, .int a2, .int a3, .int a4]) below meth c H locs 0 0 (MQ below (va_Qi (P_X12_reaches_2 ad cy B qr s1 a1 a2 a3 a4 w0) (fun u : va_W => wpost dC dI cy A u) A) (List.toArray [.ref (ad 0), .int a1, .int a2, .int a3, .int a4]) s 0 0 A) (F0 m 145 ls []) := by
        intro n145
        induction n145 with
        | zero => intro v145_5 v145_6 f145_12_0 H locs ls w12 r13 t14 r15 t16 r17 t18 r19 t20 r21 t22 r23 t24 r25 t26 hcr145_0 hm145 hw hT hF c27 hl; omega
        | succ n145 ih145 =>
          intro v145_5 v145_6 f145_12_0 H locs ls w12 r13 t14 r15 t16 r17 t18 r19 t20 r21 t22 r23 t24 r25 t26 hcr145_0 hm145 hw hT hF c27 hl
          have J259 : ∀ (f259_12_1 : Int32) (H : Heap) (locs : List Loc) (ls : Array Slot) (w28 : va_W), 0 ≤ a1.toInt → a1.toInt ≤ 9 → 0 ≤ a2.toInt → a2.toInt ≤ 9 → 0 ≤ a3.toInt → a3.toInt ≤ 100000100 → 0 ≤ a4.toInt → a4.toInt ≤ 100000100 → 0 ≤ v145_5.toInt → v145_5.toInt ≤ 9 → 0 ≤ v145_6.toInt → v145_6.toInt ≤ 11 → 0 ≤ f145_12_0.toInt → f145_12_0.toInt ≤ 10 → 1 ≤ f259_12_1.toInt → f259_12_1.toInt ≤ 12 → ((sumG 19 10 w1) + 1 ≤ (sumG 19 10 w28)) → Wd dC dI A s.heap H locs w28 → TW ksM ad cy B qr 12 w28 → FE ksM [(77, 0, 10), (78, 0, 10)] w0 w28 → gi w28 12 0 = f145_12_0 → gi w28 12 1 = f259_12_1 → lv_has ls 9 [(0, .ref (ad 0)), (1, .int a1), (2, .int a2), (3, .int a3), (4, .int a4), (5, .int v145_5), (6, .int v145_6)] → W p l e ({ frames := 5, cells := 0, slots := 0, locals := 105 }) s m (List.toArray [.ref (ad 0), .int a1, .int a2, .int a3, .int a4]) below meth c H locs 0 0 (MQ below (va_Qi (P_X12_reaches_2 ad cy B qr s1 a1 a2 a3 a4 w0) (fun u : va_W => wpost dC dI cy A u) A) (List.toArray [.ref (ad 0), .int a1, .int a2, .int a3, .int a4]) s 0 0 A) (F0 m 259 ls []) := by
            intro f259_12_1 H locs ls w28 r29 t30 r31 t32 r33 t34 r35 t36 r37 t38 r39 t40 r41 t42 r44 t45 hcr259_0 hw hT hF c43 c46 hl
            obtain ⟨x47, ex47⟩ : ∃ y : Int32, y = v145_6 + Int32.ofInt 1 := ⟨_, rfl⟩
            refine lv_iinc (v := x47) (lv' := [(6, .int x47), (0, .ref (ad 0)), (1, .int a1), (2, .int a2), (3, .int a3), (4, .int a4), (5, .int v145_5)]) hx hb dX12_reaches_259 hl (k := 6) rfl ex47.symm (by decide) rfl (fun ls hl => ?_)
            have ex47 : x47.toInt = v145_6.toInt + 1 := by rw [ex47]; exact wk_add (y := 1) (show -2147483648 ≤ v145_6.toInt + 1 by omega) (show v145_6.toInt + 1 ≤ 2147483647 by omega)
            refine lv_goto (tgt := 145) hx hb dX12_reaches_262 (by decide) ?_
            have gb48 : 0 ≤ sumG 19 10 w28 ∧ sumG 19 10 w28 ≤ 10 := hT.sum (lo := 0) (hi := 1) kM_at19 rfl (by decide) rfl
            exact ih145 v145_5 x47 f145_12_0 H locs ls w28 (show 0 ≤ a1.toInt from r29) (show a1.toInt ≤ 9 from t30) (show 0 ≤ a2.toInt from r31) (show a2.toInt ≤ 9 from t32) (show 0 ≤ a3.toInt from r33) (show a3.toInt ≤ 100000100 from t34) (show 0 ≤ a4.toInt from r35) (show a4.toInt ≤ 100000100 from t36) (show 0 ≤ v145_5.toInt from r37) (show v145_5.toInt ≤ 9 from t38) (show 0 ≤ x47.toInt by omega) (show x47.toInt ≤ 12 by omega) (show 0 ≤ f145_12_0.toInt from r41) (show f145_12_0.toInt ≤ 10 from t42) (show (sumG 19 10 w1) + 1 ≤ (sumG 19 10 w28) by omega) (show (12 - x47.toInt).toNat < n145 by omega) hw hT hF c43 (lv_sub hl [1, 2, 3, 4, 5, 6, 0] rfl)
          refine lv_iload hx hb dX12_reaches_145 (lv_at hl 6 rfl) ?_
          refine lv_aload_n hx hb dX12_reaches_147 rfl (lv_at hl 0 rfl) ?_
          refine tk_getA hC hK hw hT hinX12 kM_at0 (by decide) rfl 26 (by decide) (List.mem_cons_of_mem _ uw_7_1) rfl rfl dX12_reaches_148 ?_
          refine lv_iconst (v := 1) hx hb dX12_reaches_151 (by decide) ?_
          refine tk_ialdR hC hK hw hT kM_at12 rfl (by decide) (by decide) dX12_reaches_152 (fun x49 c50 Ex49 => ?_)
          have bx49 : 0 ≤ x49.toInt ∧ x49.toInt ≤ 12 := (tk_rg1 rfl).mp Ex49
          have c50 : gi w12 12 1 = x49 := c50
          refine lv_icmp_ge (tgt := 265) hx hb dX12_reaches_153 (by decide) (fun c51 => ?_) (fun c51 => ?_)
          · have c51 : x49.toInt ≤ v145_6.toInt := wk_le.mp c51
            refine lv_goto (tgt := 44) hx hb dX12_reaches_265 (by decide) ?_
            have gb52 : 0 ≤ sumG 19 10 w12 ∧ sumG 19 10 w12 ≤ 10 := hT.sum (lo := 0) (hi := 1) kM_at19 rfl (by decide) rfl
            exact ih44 v145_5 H locs ls w12 (show 0 ≤ a1.toInt from r13) (show a1.toInt ≤ 9 from t14) (show 0 ≤ a2.toInt from r15) (show a2.toInt ≤ 9 from t16) (show 0 ≤ a3.toInt from r17) (show a3.toInt ≤ 100000100 from t18) (show 0 ≤ a4.toInt from r19) (show a4.toInt ≤ 100000100 from t20) (show 0 ≤ v145_5.toInt from r21) (show v145_5.toInt ≤ 10 from Int.le_trans t22 (by decide)) (show 0 ≤ (sumG 19 10 w12) by omega) (show (10 - (sumG 19 10 w12)).toNat < n44 by omega) hw hT hF  (lv_sub hl [0, 1, 2, 3, 4, 5] rfl)
          · have c51 : v145_6.toInt < x49.toInt := wk_leF c51
            refine lv_aload_n hx hb dX12_reaches_156 rfl (lv_at hl 0 rfl) ?_
            refine lv_iload hx hb dX12_reaches_157 (lv_at hl 6 rfl) ?_
            refine lv_iload hx hb dX12_reaches_159 (lv_at hl 5 rfl) ?_
            refine tk_Vi hC hK hw hT hA hE hSR kM_at0 (by decide) rfl (k_X12_isAt_1 l adK adV dC dI cy ad B (by omega) (by omega) qr s1   v145_6 (show 0 ≤ v145_6.toInt from r23) (show v145_6.toInt ≤ 11 by omega) v145_5 (show 0 ≤ v145_5.toInt from r21) (show v145_5.toInt ≤ 9 from t22) w12 H.size hT ) (cwV 2 hC.2.2.2.2 uV_RX12_314 rfl rfl rfl (by decide +kernel) ⟨Nat.le_of_ble_eq_true rfl, Nat.le_of_ble_eq_true rfl⟩) rfl hl.1 rfl (Nat.le_of_ble_eq_true rfl) dX12_reaches_161 (fun r53 w55 H locs hp54 hw => ?_)
            obtain ⟨rfl, hg62⟩ := hp54
            rcases hg62 with ⟨rfl, hq57⟩ | ⟨rfl, c58, hq59⟩ | ⟨rfl, c60, hq61⟩
            · refine lv_if_ne (tgt := 170) hx hb dX12_reaches_164 (by decide) (fun c => absurd (by decide) c) (fun _ => ?_)
              refine lv_goto (tgt := 259) hx hb dX12_reaches_167 (by decide) ?_
              have gb63 : 0 ≤ sumG 19 10 w12 ∧ sumG 19 10 w12 ≤ 10 := hT.sum (lo := 0) (hi := 1) kM_at19 rfl (by decide) rfl
              exact J259 x49 H locs ls w12 (show 0 ≤ a1.toInt from r13) (show a1.toInt ≤ 9 from t14) (show 0 ≤ a2.toInt from r15) (show a2.toInt ≤ 9 from t16) (show 0 ≤ a3.toInt from r17) (show a3.toInt ≤ 100000100 from t18) (show 0 ≤ a4.toInt from r19) (show a4.toInt ≤ 100000100 from t20) (show 0 ≤ v145_5.toInt from r21) (show v145_5.toInt ≤ 9 from t22) (show 0 ≤ v145_6.toInt from r23) (show v145_6.toInt ≤ 11 by omega) (show 0 ≤ f145_12_0.toInt from r25) (show f145_12_0.toInt ≤ 10 from t26) (show 1 ≤ x49.toInt by omega) (show x49.toInt ≤ 12 by omega) (show (sumG 19 10 w1) + 1 ≤ (sumG 19 10 w12) by omega)  hw hT hF c27 c50 (lv_sub hl [0, 1, 2, 3, 4, 5, 6] rfl)
            · refine lv_if_ne (tgt := 170) hx hb dX12_reaches_164 (by decide) (fun _ => ?_) (fun c => absurd c (by decide))
              refine lv_aload_n hx hb dX12_reaches_170 rfl (lv_at hl 0 rfl) ?_
              refine lv_iload hx hb dX12_reaches_171 (lv_at hl 6 rfl) ?_
              refine lv_iload hx hb dX12_reaches_173 (lv_at hl 5 rfl) ?_
              refine lv_aload_n hx hb dX12_reaches_175 rfl (lv_at hl 0 rfl) ?_
              refine tk_getA hC hK hw hT hinX12 kM_at0 (by decide) rfl 35 (by decide) (List.mem_cons_of_mem _ uw_7_8) rfl rfl dX12_reaches_176 ?_
              refine lv_iload hx hb dX12_reaches_179 (lv_at hl 5 rfl) ?_
              refine tk_iald hC hK hw hT kM_at18 rfl rfl (show 0 ≤ v145_5.toInt from r21) (show v145_5.toInt < 10 from Int.lt_of_le_of_lt t22 (by decide)) dX12_reaches_181 (fun x64 c65 rx64 tx64 => ?_)
              refine lv_iload hx hb dX12_reaches_182 (lv_at hl 4 rfl) ?_
              refine tk_Vi hC hK hw hT hA hE hSR kM_at0 (by decide) rfl (k_X12_firstOpen_3 l adK adV dC dI cy ad B (by omega) (by omega) qr s1   v145_6 (show 0 ≤ v145_6.toInt from r23) (show v145_6.toInt ≤ 11 by omega) v145_5 (show 0 ≤ v145_5.toInt from r21) (show v145_5.toInt ≤ 9 from t22) x64 (show 0 ≤ x64.toInt from rx64) (show x64.toInt ≤ 100000100 from tx64) a4 (show 0 ≤ a4.toInt from r19) (show a4.toInt ≤ 100000100 from t20) w12 H.size hT ) (cwV 4 hC.2.2.2.2 uV_RX12_449 rfl rfl rfl (by decide +kernel) ⟨Nat.le_of_ble_eq_true rfl, Nat.le_of_ble_eq_true rfl⟩) rfl hl.1 rfl (Nat.le_of_ble_eq_true rfl) dX12_reaches_184 (fun r66 w68 H locs hp67 hw => ?_)
              obtain ⟨rfl, hg75⟩ := hp67
              rcases hg75 with ⟨g70, g71⟩ | ⟨g72, g73, c74⟩
              · refine lv_istore (lv' := [(7, .int r66), (0, .ref (ad 0)), (1, .int a1), (2, .int a2), (3, .int a3), (4, .int a4), (5, .int v145_5), (6, .int v145_6)]) hx hb dX12_reaches_187 hl (by decide) rfl (fun ls hl => ?_)
                refine lv_aload_n hx hb dX12_reaches_189 rfl (lv_at hl 1 rfl) ?_
                refine lv_iload hx hb dX12_reaches_190 (lv_at hl 7 rfl) ?_
                refine lv_iload hx hb dX12_reaches_192 (lv_at hl 6 rfl) ?_
                refine tk_Vi hC hK hw hT hA hE hSR kM_at0 (by decide) rfl (k_X12_otherOf_1 l adK adV dC dI cy ad B (by omega) (by omega) qr s1   v145_6 (show 0 ≤ v145_6.toInt from r23) (show v145_6.toInt ≤ 11 by omega) v145_5 (show 0 ≤ v145_5.toInt from r21) (show v145_5.toInt ≤ 9 from t22) w12 H.size hT ) (cwV 2 hC.2.2.2.2 uV_RX12_348 rfl rfl rfl (by decide +kernel) ⟨Nat.le_of_ble_eq_true rfl, Nat.le_of_ble_eq_true rfl⟩) rfl hl.1 rfl (Nat.le_of_ble_eq_true rfl) dX12_reaches_194 (fun r76 w78 H locs hp77 hw => ?_)
                obtain ⟨rfl, hg85⟩ := hp77
                rcases hg85 with ⟨g80, g81⟩ | ⟨g82, g83, c84⟩
                · refine lv_istore (lv' := [(8, .int r76), (7, .int r66), (0, .ref (ad 0)), (1, .int a1), (2, .int a2), (3, .int a3), (4, .int a4), (5, .int v145_5), (6, .int v145_6)]) hx hb dX12_reaches_197 hl (by decide) rfl (fun ls hl => ?_)
                  refine lv_iload hx hb dX12_reaches_199 (lv_at hl 1 rfl) ?_
                  refine lv_ldcw (v := 100000000) hx hb hC.2.2.2.1 (hC.2.2.2.2 _ (List.mem_cons_of_mem _ uw_38_2)) dX12_reaches_201 ?_
                  refine lv_icmp_ge (tgt := 259) hx hb dX12_reaches_204 (by decide) (fun c86 => ?_) (fun c86 => ?_)
                  · have c86 : (100000000 : Int) ≤ r66.toInt := wk_le.mp c86
                    have gb87 : 0 ≤ sumG 19 10 w12 ∧ sumG 19 10 w12 ≤ 10 := hT.sum (lo := 0) (hi := 1) kM_at19 rfl (by decide) rfl
                    exact J259 x49 H locs ls w12 (show 0 ≤ a1.toInt from r13) (show a1.toInt ≤ 9 from t14) (show 0 ≤ a2.toInt from r15) (show a2.toInt ≤ 9 from t16) (show 0 ≤ a3.toInt from r17) (show a3.toInt ≤ 100000100 from t18) (show 0 ≤ a4.toInt from r19) (show a4.toInt ≤ 100000100 from t20) (show 0 ≤ v145_5.toInt from r21) (show v145_5.toInt ≤ 9 from t22) (show 0 ≤ v145_6.toInt from r23) (show v145_6.toInt ≤ 11 by omega) (show 0 ≤ f145_12_0.toInt from r25) (show f145_12_0.toInt ≤ 10 from t26) (show 1 ≤ x49.toInt by omega) (show x49.toInt ≤ 12 by omega) (show (sumG 19 10 w1) + 1 ≤ (sumG 19 10 w12) by omega)  hw hT hF c27 c50 (lv_sub hl [2, 3, 4, 5, 6, 7, 8] rfl)
                  · have c86 : r66.toInt < (100000000 : Int) := wk_leF c86
                    refine lv_iload hx hb dX12_reaches_207 (lv_at hl 1 rfl) ?_
                    refine lv_aload_n hx hb dX12_reaches_209 rfl (lv_at hl 2 rfl) ?_
                    refine lv_iload hx hb dX12_reaches_210 (lv_at hl 8 rfl) ?_
                    refine lv_iconst (v := 2) hx hb dX12_reaches_212 (by decide) ?_
                    refine tk_Vi hC hK hw hT hA hE hSR kM_at0 (by decide) rfl (k_X12_streetOf_6 l adK adV dC dI cy ad B (by omega) (by omega) qr s1   v145_6 (show 0 ≤ v145_6.toInt from r23) (show v145_6.toInt ≤ 11 by omega) w12 H.size hT ) (cwV 2 hC.2.2.2.2 uV_RX12_300 rfl rfl rfl (by decide +kernel) ⟨Nat.le_of_ble_eq_true rfl, Nat.le_of_ble_eq_true rfl⟩) rfl hl.1 rfl (Nat.le_of_ble_eq_true rfl) dX12_reaches_213 (fun r88 w90 H locs hp89 hw => ?_)
                    obtain ⟨rfl, hg95⟩ := hp89
                    obtain ⟨g92, g93, c94⟩ := hg95
                    refine lv_iadd hx hb dX12_reaches_216 ?_
                    refine lv_topi (fun x96 ex96 => ?_)
                    have ex96 : x96.toInt = r66.toInt + r88.toInt := by rw [ex96]; exact wk_add (show (-2147483648) ≤ r66.toInt + r88.toInt by omega) (show r66.toInt + r88.toInt ≤ 2147483647 by omega)
                    refine lv_iload hx hb dX12_reaches_217 (lv_at hl 6 rfl) ?_
                    refine lv_icmp_gt (tgt := 259) hx hb dX12_reaches_219 (by decide) (fun c97 => ?_) (fun c97 => ?_)
                    · have c97 : a4.toInt < x96.toInt := wk_lt.mp c97
                      have gb98 : 0 ≤ sumG 19 10 w12 ∧ sumG 19 10 w12 ≤ 10 := hT.sum (lo := 0) (hi := 1) kM_at19 rfl (by decide) rfl
                      exact J259 x49 H locs ls w12 (show 0 ≤ a1.toInt from r13) (show a1.toInt ≤ 9 from t14) (show 0 ≤ a2.toInt from r15) (show a2.toInt ≤ 9 from t16) (show 0 ≤ a3.toInt from r17) (show a3.toInt ≤ 100000100 from t18) (show 0 ≤ a4.toInt from r19) (show a4.toInt ≤ 100000100 from t20) (show 0 ≤ v145_5.toInt from r21) (show v145_5.toInt ≤ 9 from t22) (show 0 ≤ v145_6.toInt from r23) (show v145_6.toInt ≤ 11 by omega) (show 0 ≤ f145_12_0.toInt from r25) (show f145_12_0.toInt ≤ 10 from t26) (show 1 ≤ x49.toInt by omega) (show x49.toInt ≤ 12 by omega) (show (sumG 19 10 w1) + 1 ≤ (sumG 19 10 w12) by omega)  hw hT hF c27 c50 (lv_sub hl [2, 3, 4, 5, 6, 7, 8] rfl)
                    · have c97 : x96.toInt ≤ a4.toInt := wk_ltF c97
                      refine lv_iload hx hb dX12_reaches_222 (lv_at hl 1 rfl) ?_
                      refine lv_aload_n hx hb dX12_reaches_224 rfl (lv_at hl 2 rfl) ?_
                      refine lv_iload hx hb dX12_reaches_225 (lv_at hl 8 rfl) ?_
                      refine lv_iconst (v := 2) hx hb dX12_reaches_227 (by decide) ?_
                      refine tk_Vi hC hK hw hT hA hE hSR kM_at0 (by decide) rfl (k_X12_streetOf_6 l adK adV dC dI cy ad B (by omega) (by omega) qr s1   v145_6 (show 0 ≤ v145_6.toInt from r23) (show v145_6.toInt ≤ 11 by omega) w12 H.size hT ) (cwV 2 hC.2.2.2.2 uV_RX12_300 rfl rfl rfl (by decide +kernel) ⟨Nat.le_of_ble_eq_true rfl, Nat.le_of_ble_eq_true rfl⟩) rfl hl.1 rfl (Nat.le_of_ble_eq_true rfl) dX12_reaches_228 (fun r99 w101 H locs hp100 hw => ?_)
                      obtain ⟨rfl, hg106⟩ := hp100
                      obtain ⟨g103, g104, c105⟩ := hg106
                      obtain rfl : r88 = r99 := c94.symm.trans c105
                      refine lv_iadd hx hb dX12_reaches_231 ?_
                      refine lv_topi (fun x107 ex107 => ?_)
                      have ex107 : x107.toInt = r66.toInt + r88.toInt := by rw [ex107]; exact wk_add (show (-2147483648) ≤ r66.toInt + r88.toInt by omega) (show r66.toInt + r88.toInt ≤ 2147483647 by omega)
                      refine lv_aload_n hx hb dX12_reaches_232 rfl (lv_at hl 2 rfl) ?_
                      refine tk_getA hC hK hw hT hinX12 kM_at0 (by decide) rfl 35 (by decide) (List.mem_cons_of_mem _ uw_7_8) rfl rfl dX12_reaches_233 ?_
                      refine lv_iload hx hb dX12_reaches_236 (lv_at hl 0 rfl) ?_
                      refine tk_iald hC hK hw hT kM_at18 rfl rfl (show 0 ≤ r76.toInt by omega) (show r76.toInt < 10 by omega) dX12_reaches_238 (fun x108 c109 rx108 tx108 => ?_)
                      refine lv_icmp_ge (tgt := 259) hx hb dX12_reaches_239 (by decide) (fun c110 => ?_) (fun c110 => ?_)
                      · have c110 : x108.toInt ≤ x107.toInt := wk_le.mp c110
                        have gb111 : 0 ≤ sumG 19 10 w12 ∧ sumG 19 10 w12 ≤ 10 := hT.sum (lo := 0) (hi := 1) kM_at19 rfl (by decide) rfl
                        exact J259 x49 H locs ls w12 (show 0 ≤ a1.toInt from r13) (show a1.toInt ≤ 9 from t14) (show 0 ≤ a2.toInt from r15) (show a2.toInt ≤ 9 from t16) (show 0 ≤ a3.toInt from r17) (show a3.toInt ≤ 100000100 from t18) (show 0 ≤ a4.toInt from r19) (show a4.toInt ≤ 100000100 from t20) (show 0 ≤ v145_5.toInt from r21) (show v145_5.toInt ≤ 9 from t22) (show 0 ≤ v145_6.toInt from r23) (show v145_6.toInt ≤ 11 by omega) (show 0 ≤ f145_12_0.toInt from r25) (show f145_12_0.toInt ≤ 10 from t26) (show 1 ≤ x49.toInt by omega) (show x49.toInt ≤ 12 by omega) (show (sumG 19 10 w1) + 1 ≤ (sumG 19 10 w12) by omega)  hw hT hF c27 c50 (lv_sub hl [2, 3, 4, 5, 6, 7, 8] rfl)
                      · have c110 : x107.toInt < x108.toInt := wk_leF c110
                        refine lv_aload_n hx hb dX12_reaches_242 rfl (lv_at hl 2 rfl) ?_
                        refine tk_getA hC hK hw hT hinX12 kM_at0 (by decide) rfl 35 (by decide) (List.mem_cons_of_mem _ uw_7_8) rfl rfl dX12_reaches_243 ?_
                        refine lv_iload hx hb dX12_reaches_246 (lv_at hl 0 rfl) ?_
                        refine lv_iload hx hb dX12_reaches_248 (lv_at hl 1 rfl) ?_
                        refine lv_aload_n hx hb dX12_reaches_250 rfl (lv_at hl 2 rfl) ?_
                        refine lv_iload hx hb dX12_reaches_251 (lv_at hl 8 rfl) ?_
                        refine lv_iconst (v := 2) hx hb dX12_reaches_253 (by decide) ?_
                        refine tk_Vi hC hK hw hT hA hE hSR kM_at0 (by decide) rfl (k_X12_streetOf_6 l adK adV dC dI cy ad B (by omega) (by omega) qr s1   v145_6 (show 0 ≤ v145_6.toInt from r23) (show v145_6.toInt ≤ 11 by omega) w12 H.size hT ) (cwV 2 hC.2.2.2.2 uV_RX12_300 rfl rfl rfl (by decide +kernel) ⟨Nat.le_of_ble_eq_true rfl, Nat.le_of_ble_eq_true rfl⟩) rfl hl.1 rfl (Nat.le_of_ble_eq_true rfl) dX12_reaches_254 (fun r112 w114 H locs hp113 hw => ?_)
                        obtain ⟨rfl, hg119⟩ := hp113
                        obtain ⟨g116, g117, c118⟩ := hg119
                        obtain rfl : r88 = r112 := c94.symm.trans c118
                        refine lv_iadd hx hb dX12_reaches_257 ?_
                        refine lv_topi (fun x120 ex120 => ?_)
                        have ex120 : x120.toInt = r66.toInt + r88.toInt := by rw [ex120]; exact wk_add (show (-2147483648) ≤ r66.toInt + r88.toInt by omega) (show r66.toInt + r88.toInt ≤ 2147483647 by omega)
                        refine tk_iast hC hK hw hT kM_at18 (by decide) rfl rfl (show 0 ≤ r76.toInt by omega) (show r76.toInt < 10 by omega) (show 0 ≤ x120.toInt by omega) (show x120.toInt ≤ 100000100 by omega) dX12_reaches_258 (fun H locs w121 hw hT k123 c122 => ?_)
                        have gs124 : sumG 19 10 w121 = sumG 19 10 w12 := sumG_ne 10 k123 (tk_ne kM_at19 kM_at18 (by decide))
                        have hF := hF.put kM_at18 (inE_of (a := 0) (b := 10) (by decide) (show 0 ≤ r76.toInt.toNat by omega) (show r76.toInt.toNat ≤ 10 by omega)) k123
                        have c125 := k123.gi (Or.inl (tk_ne kM_at12 kM_at18 (by decide))) c27
                        have c126 := k123.gi (Or.inl (tk_ne kM_at12 kM_at18 (by decide))) c50
                        have c127 := k123.gi (Or.inl (tk_ne kM_at12 kM_at18 (by decide))) c58
                        have c128 := k123.gi (Or.inl (tk_ne kM_at12 kM_at18 (by decide))) c94
                        have gb129 : 0 ≤ sumG 19 10 w121 ∧ sumG 19 10 w121 ≤ 10 := hT.sum (lo := 0) (hi := 1) kM_at19 rfl (by decide) rfl
                        exact J259 x49 H locs ls w121 (show 0 ≤ a1.toInt from r13) (show a1.toInt ≤ 9 from t14) (show 0 ≤ a2.toInt from r15) (show a2.toInt ≤ 9 from t16) (show 0 ≤ a3.toInt from r17) (show a3.toInt ≤ 100000100 from t18) (show 0 ≤ a4.toInt from r19) (show a4.toInt ≤ 100000100 from t20) (show 0 ≤ v145_5.toInt from r21) (show v145_5.toInt ≤ 9 from t22) (show 0 ≤ v145_6.toInt from r23) (show v145_6.toInt ≤ 11 by omega) (show 0 ≤ f145_12_0.toInt from r25) (show f145_12_0.toInt ≤ 10 from t26) (show 1 ≤ x49.toInt by omega) (show x49.toInt ≤ 12 by omega) (show (sumG 19 10 w1) + 1 ≤ (sumG 19 10 w121) by omega)  hw hT hF c125 c126 (lv_sub hl [2, 3, 4, 5, 6, 7, 8] rfl)
                · refine lv_istore (lv' := [(8, .int r76), (7, .int r66), (0, .ref (ad 0)), (1, .int a1), (2, .int a2), (3, .int a3), (4, .int a4), (5, .int v145_5), (6, .int v145_6)]) hx hb dX12_reaches_197 hl (by decide) rfl (fun ls hl => ?_)
                  refine lv_iload hx hb dX12_reaches_199 (lv_at hl 1 rfl) ?_
                  refine lv_ldcw (v := 100000000) hx hb hC.2.2.2.1 (hC.2.2.2.2 _ (List.mem_cons_of_mem _ uw_38_2)) dX12_reaches_201 ?_
                  refine lv_icmp_ge (tgt := 259) hx hb dX12_reaches_204 (by decide) (fun c130 => ?_) (fun c130 => ?_)
                  · have c130 : (100000000 : Int) ≤ r66.toInt := wk_le.mp c130
                    have gb131 : 0 ≤ sumG 19 10 w12 ∧ sumG 19 10 w12 ≤ 10 := hT.sum (lo := 0) (hi := 1) kM_at19 rfl (by decide) rfl
                    exact J259 x49 H locs ls w12 (show 0 ≤ a1.toInt from r13) (show a1.toInt ≤ 9 from t14) (show 0 ≤ a2.toInt from r15) (show a2.toInt ≤ 9 from t16) (show 0 ≤ a3.toInt from r17) (show a3.toInt ≤ 100000100 from t18) (show 0 ≤ a4.toInt from r19) (show a4.toInt ≤ 100000100 from t20) (show 0 ≤ v145_5.toInt from r21) (show v145_5.toInt ≤ 9 from t22) (show 0 ≤ v145_6.toInt from r23) (show v145_6.toInt ≤ 11 by omega) (show 0 ≤ f145_12_0.toInt from r25) (show f145_12_0.toInt ≤ 10 from t26) (show 1 ≤ x49.toInt by omega) (show x49.toInt ≤ 12 by omega) (show (sumG 19 10 w1) + 1 ≤ (sumG 19 10 w12) by omega)  hw hT hF c27 c50 (lv_sub hl [2, 3, 4, 5, 6, 7, 8] rfl)
                  · have c130 : r66.toInt < (100000000 : Int) := wk_leF c130
                    refine lv_iload hx hb dX12_reaches_207 (lv_at hl 1 rfl) ?_
                    refine lv_aload_n hx hb dX12_reaches_209 rfl (lv_at hl 2 rfl) ?_
                    refine lv_iload hx hb dX12_reaches_210 (lv_at hl 8 rfl) ?_
                    refine lv_iconst (v := 2) hx hb dX12_reaches_212 (by decide) ?_
                    refine tk_Vi hC hK hw hT hA hE hSR kM_at0 (by decide) rfl (k_X12_streetOf_6 l adK adV dC dI cy ad B (by omega) (by omega) qr s1   v145_6 (show 0 ≤ v145_6.toInt from r23) (show v145_6.toInt ≤ 11 by omega) w12 H.size hT ) (cwV 2 hC.2.2.2.2 uV_RX12_300 rfl rfl rfl (by decide +kernel) ⟨Nat.le_of_ble_eq_true rfl, Nat.le_of_ble_eq_true rfl⟩) rfl hl.1 rfl (Nat.le_of_ble_eq_true rfl) dX12_reaches_213 (fun r132 w134 H locs hp133 hw => ?_)
                    obtain ⟨rfl, hg139⟩ := hp133
                    obtain ⟨g136, g137, c138⟩ := hg139
                    refine lv_iadd hx hb dX12_reaches_216 ?_
                    refine lv_topi (fun x140 ex140 => ?_)
                    have ex140 : x140.toInt = r66.toInt + r132.toInt := by rw [ex140]; exact wk_add (show (-2147483648) ≤ r66.toInt + r132.toInt by omega) (show r66.toInt + r132.toInt ≤ 2147483647 by omega)
                    refine lv_iload hx hb dX12_reaches_217 (lv_at hl 6 rfl) ?_
                    refine lv_icmp_gt (tgt := 259) hx hb dX12_reaches_219 (by decide) (fun c141 => ?_) (fun c141 => ?_)
                    · have c141 : a4.toInt < x140.toInt := wk_lt.mp c141
                      have gb142 : 0 ≤ sumG 19 10 w12 ∧ sumG 19 10 w12 ≤ 10 := hT.sum (lo := 0) (hi := 1) kM_at19 rfl (by decide) rfl
                      exact J259 x49 H locs ls w12 (show 0 ≤ a1.toInt from r13) (show a1.toInt ≤ 9 from t14) (show 0 ≤ a2.toInt from r15) (show a2.toInt ≤ 9 from t16) (show 0 ≤ a3.toInt from r17) (show a3.toInt ≤ 100000100 from t18) (show 0 ≤ a4.toInt from r19) (show a4.toInt ≤ 100000100 from t20) (show 0 ≤ v145_5.toInt from r21) (show v145_5.toInt ≤ 9 from t22) (show 0 ≤ v145_6.toInt from r23) (show v145_6.toInt ≤ 11 by omega) (show 0 ≤ f145_12_0.toInt from r25) (show f145_12_0.toInt ≤ 10 from t26) (show 1 ≤ x49.toInt by omega) (show x49.toInt ≤ 12 by omega) (show (sumG 19 10 w1) + 1 ≤ (sumG 19 10 w12) by omega)  hw hT hF c27 c50 (lv_sub hl [2, 3, 4, 5, 6, 7, 8] rfl)
                    · have c141 : x140.toInt ≤ a4.toInt := wk_ltF c141
                      refine lv_iload hx hb dX12_reaches_222 (lv_at hl 1 rfl) ?_
                      refine lv_aload_n hx hb dX12_reaches_224 rfl (lv_at hl 2 rfl) ?_
                      refine lv_iload hx hb dX12_reaches_225 (lv_at hl 8 rfl) ?_
                      refine lv_iconst (v := 2) hx hb dX12_reaches_227 (by decide) ?_
                      refine tk_Vi hC hK hw hT hA hE hSR kM_at0 (by decide) rfl (k_X12_streetOf_6 l adK adV dC dI cy ad B (by omega) (by omega) qr s1   v145_6 (show 0 ≤ v145_6.toInt from r23) (show v145_6.toInt ≤ 11 by omega) w12 H.size hT ) (cwV 2 hC.2.2.2.2 uV_RX12_300 rfl rfl rfl (by decide +kernel) ⟨Nat.le_of_ble_eq_true rfl, Nat.le_of_ble_eq_true rfl⟩) rfl hl.1 rfl (Nat.le_of_ble_eq_true rfl) dX12_reaches_228 (fun r143 w145 H locs hp144 hw => ?_)
                      obtain ⟨rfl, hg150⟩ := hp144
                      obtain ⟨g147, g148, c149⟩ := hg150
                      obtain rfl : r132 = r143 := c138.symm.trans c149
                      refine lv_iadd hx hb dX12_reaches_231 ?_
                      refine lv_topi (fun x151 ex151 => ?_)
                      have ex151 : x151.toInt = r66.toInt + r132.toInt := by rw [ex151]; exact wk_add (show (-2147483648) ≤ r66.toInt + r132.toInt by omega) (show r66.toInt + r132.toInt ≤ 2147483647 by omega)
                      refine lv_aload_n hx hb dX12_reaches_232 rfl (lv_at hl 2 rfl) ?_
                      refine tk_getA hC hK hw hT hinX12 kM_at0 (by decide) rfl 35 (by decide) (List.mem_cons_of_mem _ uw_7_8) rfl rfl dX12_reaches_233 ?_
                      refine lv_iload hx hb dX12_reaches_236 (lv_at hl 0 rfl) ?_
                      refine tk_iald hC hK hw hT kM_at18 rfl rfl (show 0 ≤ r76.toInt by omega) (show r76.toInt < 10 by omega) dX12_reaches_238 (fun x152 c153 rx152 tx152 => ?_)
                      refine lv_icmp_ge (tgt := 259) hx hb dX12_reaches_239 (by decide) (fun c154 => ?_) (fun c154 => ?_)
                      · have c154 : x152.toInt ≤ x151.toInt := wk_le.mp c154
                        have gb155 : 0 ≤ sumG 19 10 w12 ∧ sumG 19 10 w12 ≤ 10 := hT.sum (lo := 0) (hi := 1) kM_at19 rfl (by decide) rfl
                        exact J259 x49 H locs ls w12 (show 0 ≤ a1.toInt from r13) (show a1.toInt ≤ 9 from t14) (show 0 ≤ a2.toInt from r15) (show a2.toInt ≤ 9 from t16) (show 0 ≤ a3.toInt from r17) (show a3.toInt ≤ 100000100 from t18) (show 0 ≤ a4.toInt from r19) (show a4.toInt ≤ 100000100 from t20) (show 0 ≤ v145_5.toInt from r21) (show v145_5.toInt ≤ 9 from t22) (show 0 ≤ v145_6.toInt from r23) (show v145_6.toInt ≤ 11 by omega) (show 0 ≤ f145_12_0.toInt from r25) (show f145_12_0.toInt ≤ 10 from t26) (show 1 ≤ x49.toInt by omega) (show x49.toInt ≤ 12 by omega) (show (sumG 19 10 w1) + 1 ≤ (sumG 19 10 w12) by omega)  hw hT hF c27 c50 (lv_sub hl [2, 3, 4, 5, 6, 7, 8] rfl)
                      · have c154 : x151.toInt < x152.toInt := wk_leF c154
                        refine lv_aload_n hx hb dX12_reaches_242 rfl (lv_at hl 2 rfl) ?_
                        refine tk_getA hC hK hw hT hinX12 kM_at0 (by decide) rfl 35 (by decide) (List.mem_cons_of_mem _ uw_7_8) rfl rfl dX12_reaches_243 ?_
                        refine lv_iload hx hb dX12_reaches_246 (lv_at hl 0 rfl) ?_
                        refine lv_iload hx hb dX12_reaches_248 (lv_at hl 1 rfl) ?_
                        refine lv_aload_n hx hb dX12_reaches_250 rfl (lv_at hl 2 rfl) ?_
                        refine lv_iload hx hb dX12_reaches_251 (lv_at hl 8 rfl) ?_
                        refine lv_iconst (v := 2) hx hb dX12_reaches_253 (by decide) ?_
                        refine tk_Vi hC hK hw hT hA hE hSR kM_at0 (by decide) rfl (k_X12_streetOf_6 l adK adV dC dI cy ad B (by omega) (by omega) qr s1   v145_6 (show 0 ≤ v145_6.toInt from r23) (show v145_6.toInt ≤ 11 by omega) w12 H.size hT ) (cwV 2 hC.2.2.2.2 uV_RX12_300 rfl rfl rfl (by decide +kernel) ⟨Nat.le_of_ble_eq_true rfl, Nat.le_of_ble_eq_true rfl⟩) rfl hl.1 rfl (Nat.le_of_ble_eq_true rfl) dX12_reaches_254 (fun r156 w158 H locs hp157 hw => ?_)
                        obtain ⟨rfl, hg163⟩ := hp157
                        obtain ⟨g160, g161, c162⟩ := hg163
                        obtain rfl : r132 = r156 := c138.symm.trans c162
                        refine lv_iadd hx hb dX12_reaches_257 ?_
                        refine lv_topi (fun x164 ex164 => ?_)
                        have ex164 : x164.toInt = r66.toInt + r132.toInt := by rw [ex164]; exact wk_add (show (-2147483648) ≤ r66.toInt + r132.toInt by omega) (show r66.toInt + r132.toInt ≤ 2147483647 by omega)
                        refine tk_iast hC hK hw hT kM_at18 (by decide) rfl rfl (show 0 ≤ r76.toInt by omega) (show r76.toInt < 10 by omega) (show 0 ≤ x164.toInt by omega) (show x164.toInt ≤ 100000100 by omega) dX12_reaches_258 (fun H locs w165 hw hT k167 c166 => ?_)
                        have gs168 : sumG 19 10 w165 = sumG 19 10 w12 := sumG_ne 10 k167 (tk_ne kM_at19 kM_at18 (by decide))
                        have hF := hF.put kM_at18 (inE_of (a := 0) (b := 10) (by decide) (show 0 ≤ r76.toInt.toNat by omega) (show r76.toInt.toNat ≤ 10 by omega)) k167
                        have c169 := k167.gi (Or.inl (tk_ne kM_at12 kM_at18 (by decide))) c27
                        have c170 := k167.gi (Or.inl (tk_ne kM_at12 kM_at18 (by decide))) c50
                        have c171 := k167.gi (Or.inl (tk_ne kM_at12 kM_at18 (by decide))) c58
                        have c172 := k167.gi (Or.inl (tk_ne kM_at12 kM_at18 (by decide))) c138
                        have gb173 : 0 ≤ sumG 19 10 w165 ∧ sumG 19 10 w165 ≤ 10 := hT.sum (lo := 0) (hi := 1) kM_at19 rfl (by decide) rfl
                        exact J259 x49 H locs ls w165 (show 0 ≤ a1.toInt from r13) (show a1.toInt ≤ 9 from t14) (show 0 ≤ a2.toInt from r15) (show a2.toInt ≤ 9 from t16) (show 0 ≤ a3.toInt from r17) (show a3.toInt ≤ 100000100 from t18) (show 0 ≤ a4.toInt from r19) (show a4.toInt ≤ 100000100 from t20) (show 0 ≤ v145_5.toInt from r21) (show v145_5.toInt ≤ 9 from t22) (show 0 ≤ v145_6.toInt from r23) (show v145_6.toInt ≤ 11 by omega) (show 0 ≤ f145_12_0.toInt from r25) (show f145_12_0.toInt ≤ 10 from t26) (show 1 ≤ x49.toInt by omega) (show x49.toInt ≤ 12 by omega) (show (sumG 19 10 w1) + 1 ≤ (sumG 19 10 w165) by omega)  hw hT hF c169 c170 (lv_sub hl [2, 3, 4, 5, 6, 7, 8] rfl)
              · refine lv_istore (lv' := [(7, .int r66), (0, .ref (ad 0)), (1, .int a1), (2, .int a2), (3, .int a3), (4, .int a4), (5, .int v145_5), (6, .int v145_6)]) hx hb dX12_reaches_187 hl (by decide) rfl (fun ls hl => ?_)
                refine lv_aload_n hx hb dX12_reaches_189 rfl (lv_at hl 1 rfl) ?_
                refine lv_iload hx hb dX12_reaches_190 (lv_at hl 7 rfl) ?_
                refine lv_iload hx hb dX12_reaches_192 (lv_at hl 6 rfl) ?_
                refine tk_Vi hC hK hw hT hA hE hSR kM_at0 (by decide) rfl (k_X12_otherOf_1 l adK adV dC dI cy ad B (by omega) (by omega) qr s1   v145_6 (show 0 ≤ v145_6.toInt from r23) (show v145_6.toInt ≤ 11 by omega) v145_5 (show 0 ≤ v145_5.toInt from r21) (show v145_5.toInt ≤ 9 from t22) w12 H.size hT ) (cwV 2 hC.2.2.2.2 uV_RX12_348 rfl rfl rfl (by decide +kernel) ⟨Nat.le_of_ble_eq_true rfl, Nat.le_of_ble_eq_true rfl⟩) rfl hl.1 rfl (Nat.le_of_ble_eq_true rfl) dX12_reaches_194 (fun r174 w176 H locs hp175 hw => ?_)
                obtain ⟨rfl, hg183⟩ := hp175
                rcases hg183 with ⟨g178, g179⟩ | ⟨g180, g181, c182⟩
                · refine lv_istore (lv' := [(8, .int r174), (7, .int r66), (0, .ref (ad 0)), (1, .int a1), (2, .int a2), (3, .int a3), (4, .int a4), (5, .int v145_5), (6, .int v145_6)]) hx hb dX12_reaches_197 hl (by decide) rfl (fun ls hl => ?_)
                  refine lv_iload hx hb dX12_reaches_199 (lv_at hl 1 rfl) ?_
                  refine lv_ldcw (v := 100000000) hx hb hC.2.2.2.1 (hC.2.2.2.2 _ (List.mem_cons_of_mem _ uw_38_2)) dX12_reaches_201 ?_
                  refine lv_icmp_ge (tgt := 259) hx hb dX12_reaches_204 (by decide) (fun c184 => ?_) (fun c184 => ?_)
                  · have c184 : (100000000 : Int) ≤ r66.toInt := wk_le.mp c184
                    have gb185 : 0 ≤ sumG 19 10 w12 ∧ sumG 19 10 w12 ≤ 10 := hT.sum (lo := 0) (hi := 1) kM_at19 rfl (by decide) rfl
                    exact J259 x49 H locs ls w12 (show 0 ≤ a1.toInt from r13) (show a1.toInt ≤ 9 from t14) (show 0 ≤ a2.toInt from r15) (show a2.toInt ≤ 9 from t16) (show 0 ≤ a3.toInt from r17) (show a3.toInt ≤ 100000100 from t18) (show 0 ≤ a4.toInt from r19) (show a4.toInt ≤ 100000100 from t20) (show 0 ≤ v145_5.toInt from r21) (show v145_5.toInt ≤ 9 from t22) (show 0 ≤ v145_6.toInt from r23) (show v145_6.toInt ≤ 11 by omega) (show 0 ≤ f145_12_0.toInt from r25) (show f145_12_0.toInt ≤ 10 from t26) (show 1 ≤ x49.toInt by omega) (show x49.toInt ≤ 12 by omega) (show (sumG 19 10 w1) + 1 ≤ (sumG 19 10 w12) by omega)  hw hT hF c27 c50 (lv_sub hl [2, 3, 4, 5, 6, 7, 8] rfl)
                  · have c184 : r66.toInt < (100000000 : Int) := wk_leF c184
                    refine lv_iload hx hb dX12_reaches_207 (lv_at hl 1 rfl) ?_
                    refine lv_aload_n hx hb dX12_reaches_209 rfl (lv_at hl 2 rfl) ?_
                    refine lv_iload hx hb dX12_reaches_210 (lv_at hl 8 rfl) ?_
                    refine lv_iconst (v := 2) hx hb dX12_reaches_212 (by decide) ?_
                    refine tk_Vi hC hK hw hT hA hE hSR kM_at0 (by decide) rfl (k_X12_streetOf_6 l adK adV dC dI cy ad B (by omega) (by omega) qr s1   v145_6 (show 0 ≤ v145_6.toInt from r23) (show v145_6.toInt ≤ 11 by omega) w12 H.size hT ) (cwV 2 hC.2.2.2.2 uV_RX12_300 rfl rfl rfl (by decide +kernel) ⟨Nat.le_of_ble_eq_true rfl, Nat.le_of_ble_eq_true rfl⟩) rfl hl.1 rfl (Nat.le_of_ble_eq_true rfl) dX12_reaches_213 (fun r186 w188 H locs hp187 hw => ?_)
                    obtain ⟨rfl, hg193⟩ := hp187
                    obtain ⟨g190, g191, c192⟩ := hg193
                    refine lv_iadd hx hb dX12_reaches_216 ?_
                    refine lv_topi (fun x194 ex194 => ?_)
                    have ex194 : x194.toInt = r66.toInt + r186.toInt := by rw [ex194]; exact wk_add (show (-2147483648) ≤ r66.toInt + r186.toInt by omega) (show r66.toInt + r186.toInt ≤ 2147483647 by omega)
                    refine lv_iload hx hb dX12_reaches_217 (lv_at hl 6 rfl) ?_
                    refine lv_icmp_gt (tgt := 259) hx hb dX12_reaches_219 (by decide) (fun c195 => ?_) (fun c195 => ?_)
                    · have c195 : a4.toInt < x194.toInt := wk_lt.mp c195
                      have gb196 : 0 ≤ sumG 19 10 w12 ∧ sumG 19 10 w12 ≤ 10 := hT.sum (lo := 0) (hi := 1) kM_at19 rfl (by decide) rfl
                      exact J259 x49 H locs ls w12 (show 0 ≤ a1.toInt from r13) (show a1.toInt ≤ 9 from t14) (show 0 ≤ a2.toInt from r15) (show a2.toInt ≤ 9 from t16) (show 0 ≤ a3.toInt from r17) (show a3.toInt ≤ 100000100 from t18) (show 0 ≤ a4.toInt from r19) (show a4.toInt ≤ 100000100 from t20) (show 0 ≤ v145_5.toInt from r21) (show v145_5.toInt ≤ 9 from t22) (show 0 ≤ v145_6.toInt from r23) (show v145_6.toInt ≤ 11 by omega) (show 0 ≤ f145_12_0.toInt from r25) (show f145_12_0.toInt ≤ 10 from t26) (show 1 ≤ x49.toInt by omega) (show x49.toInt ≤ 12 by omega) (show (sumG 19 10 w1) + 1 ≤ (sumG 19 10 w12) by omega)  hw hT hF c27 c50 (lv_sub hl [2, 3, 4, 5, 6, 7, 8] rfl)
                    · have c195 : x194.toInt ≤ a4.toInt := wk_ltF c195
                      refine lv_iload hx hb dX12_reaches_222 (lv_at hl 1 rfl) ?_
                      refine lv_aload_n hx hb dX12_reaches_224 rfl (lv_at hl 2 rfl) ?_
                      refine lv_iload hx hb dX12_reaches_225 (lv_at hl 8 rfl) ?_
                      refine lv_iconst (v := 2) hx hb dX12_reaches_227 (by decide) ?_
                      refine tk_Vi hC hK hw hT hA hE hSR kM_at0 (by decide) rfl (k_X12_streetOf_6 l adK adV dC dI cy ad B (by omega) (by omega) qr s1   v145_6 (show 0 ≤ v145_6.toInt from r23) (show v145_6.toInt ≤ 11 by omega) w12 H.size hT ) (cwV 2 hC.2.2.2.2 uV_RX12_300 rfl rfl rfl (by decide +kernel) ⟨Nat.le_of_ble_eq_true rfl, Nat.le_of_ble_eq_true rfl⟩) rfl hl.1 rfl (Nat.le_of_ble_eq_true rfl) dX12_reaches_228 (fun r197 w199 H locs hp198 hw => ?_)
                      obtain ⟨rfl, hg204⟩ := hp198
                      obtain ⟨g201, g202, c203⟩ := hg204
                      obtain rfl : r186 = r197 := c192.symm.trans c203
                      refine lv_iadd hx hb dX12_reaches_231 ?_
                      refine lv_topi (fun x205 ex205 => ?_)
                      have ex205 : x205.toInt = r66.toInt + r186.toInt := by rw [ex205]; exact wk_add (show (-2147483648) ≤ r66.toInt + r186.toInt by omega) (show r66.toInt + r186.toInt ≤ 2147483647 by omega)
                      refine lv_aload_n hx hb dX12_reaches_232 rfl (lv_at hl 2 rfl) ?_
                      refine tk_getA hC hK hw hT hinX12 kM_at0 (by decide) rfl 35 (by decide) (List.mem_cons_of_mem _ uw_7_8) rfl rfl dX12_reaches_233 ?_
                      refine lv_iload hx hb dX12_reaches_236 (lv_at hl 0 rfl) ?_
                      refine tk_iald hC hK hw hT kM_at18 rfl rfl (show 0 ≤ r174.toInt by omega) (show r174.toInt < 10 by omega) dX12_reaches_238 (fun x206 c207 rx206 tx206 => ?_)
                      refine lv_icmp_ge (tgt := 259) hx hb dX12_reaches_239 (by decide) (fun c208 => ?_) (fun c208 => ?_)
                      · have c208 : x206.toInt ≤ x205.toInt := wk_le.mp c208
                        have gb209 : 0 ≤ sumG 19 10 w12 ∧ sumG 19 10 w12 ≤ 10 := hT.sum (lo := 0) (hi := 1) kM_at19 rfl (by decide) rfl
                        exact J259 x49 H locs ls w12 (show 0 ≤ a1.toInt from r13) (show a1.toInt ≤ 9 from t14) (show 0 ≤ a2.toInt from r15) (show a2.toInt ≤ 9 from t16) (show 0 ≤ a3.toInt from r17) (show a3.toInt ≤ 100000100 from t18) (show 0 ≤ a4.toInt from r19) (show a4.toInt ≤ 100000100 from t20) (show 0 ≤ v145_5.toInt from r21) (show v145_5.toInt ≤ 9 from t22) (show 0 ≤ v145_6.toInt from r23) (show v145_6.toInt ≤ 11 by omega) (show 0 ≤ f145_12_0.toInt from r25) (show f145_12_0.toInt ≤ 10 from t26) (show 1 ≤ x49.toInt by omega) (show x49.toInt ≤ 12 by omega) (show (sumG 19 10 w1) + 1 ≤ (sumG 19 10 w12) by omega)  hw hT hF c27 c50 (lv_sub hl [2, 3, 4, 5, 6, 7, 8] rfl)
                      · have c208 : x205.toInt < x206.toInt := wk_leF c208
                        refine lv_aload_n hx hb dX12_reaches_242 rfl (lv_at hl 2 rfl) ?_
                        refine tk_getA hC hK hw hT hinX12 kM_at0 (by decide) rfl 35 (by decide) (List.mem_cons_of_mem _ uw_7_8) rfl rfl dX12_reaches_243 ?_
                        refine lv_iload hx hb dX12_reaches_246 (lv_at hl 0 rfl) ?_
                        refine lv_iload hx hb dX12_reaches_248 (lv_at hl 1 rfl) ?_
                        refine lv_aload_n hx hb dX12_reaches_250 rfl (lv_at hl 2 rfl) ?_
                        refine lv_iload hx hb dX12_reaches_251 (lv_at hl 8 rfl) ?_
                        refine lv_iconst (v := 2) hx hb dX12_reaches_253 (by decide) ?_
                        refine tk_Vi hC hK hw hT hA hE hSR kM_at0 (by decide) rfl (k_X12_streetOf_6 l adK adV dC dI cy ad B (by omega) (by omega) qr s1   v145_6 (show 0 ≤ v145_6.toInt from r23) (show v145_6.toInt ≤ 11 by omega) w12 H.size hT ) (cwV 2 hC.2.2.2.2 uV_RX12_300 rfl rfl rfl (by decide +kernel) ⟨Nat.le_of_ble_eq_true rfl, Nat.le_of_ble_eq_true rfl⟩) rfl hl.1 rfl (Nat.le_of_ble_eq_true rfl) dX12_reaches_254 (fun r210 w212 H locs hp211 hw => ?_)
                        obtain ⟨rfl, hg217⟩ := hp211
                        obtain ⟨g214, g215, c216⟩ := hg217
                        obtain rfl : r186 = r210 := c192.symm.trans c216
                        refine lv_iadd hx hb dX12_reaches_257 ?_
                        refine lv_topi (fun x218 ex218 => ?_)
                        have ex218 : x218.toInt = r66.toInt + r186.toInt := by rw [ex218]; exact wk_add (show (-2147483648) ≤ r66.toInt + r186.toInt by omega) (show r66.toInt + r186.toInt ≤ 2147483647 by omega)
                        refine tk_iast hC hK hw hT kM_at18 (by decide) rfl rfl (show 0 ≤ r174.toInt by omega) (show r174.toInt < 10 by omega) (show 0 ≤ x218.toInt by omega) (show x218.toInt ≤ 100000100 by omega) dX12_reaches_258 (fun H locs w219 hw hT k221 c220 => ?_)
                        have gs222 : sumG 19 10 w219 = sumG 19 10 w12 := sumG_ne 10 k221 (tk_ne kM_at19 kM_at18 (by decide))
                        have hF := hF.put kM_at18 (inE_of (a := 0) (b := 10) (by decide) (show 0 ≤ r174.toInt.toNat by omega) (show r174.toInt.toNat ≤ 10 by omega)) k221
                        have c223 := k221.gi (Or.inl (tk_ne kM_at12 kM_at18 (by decide))) c27
                        have c224 := k221.gi (Or.inl (tk_ne kM_at12 kM_at18 (by decide))) c50
                        have c225 := k221.gi (Or.inl (tk_ne kM_at12 kM_at18 (by decide))) c58
                        have c226 := k221.gi (Or.inl (tk_ne kM_at12 kM_at18 (by decide))) c192
                        have gb227 : 0 ≤ sumG 19 10 w219 ∧ sumG 19 10 w219 ≤ 10 := hT.sum (lo := 0) (hi := 1) kM_at19 rfl (by decide) rfl
                        exact J259 x49 H locs ls w219 (show 0 ≤ a1.toInt from r13) (show a1.toInt ≤ 9 from t14) (show 0 ≤ a2.toInt from r15) (show a2.toInt ≤ 9 from t16) (show 0 ≤ a3.toInt from r17) (show a3.toInt ≤ 100000100 from t18) (show 0 ≤ a4.toInt from r19) (show a4.toInt ≤ 100000100 from t20) (show 0 ≤ v145_5.toInt from r21) (show v145_5.toInt ≤ 9 from t22) (show 0 ≤ v145_6.toInt from r23) (show v145_6.toInt ≤ 11 by omega) (show 0 ≤ f145_12_0.toInt from r25) (show f145_12_0.toInt ≤ 10 from t26) (show 1 ≤ x49.toInt by omega) (show x49.toInt ≤ 12 by omega) (show (sumG 19 10 w1) + 1 ≤ (sumG 19 10 w219) by omega)  hw hT hF c223 c224 (lv_sub hl [2, 3, 4, 5, 6, 7, 8] rfl)
                · refine lv_istore (lv' := [(8, .int r174), (7, .int r66), (0, .ref (ad 0)), (1, .int a1), (2, .int a2), (3, .int a3), (4, .int a4), (5, .int v145_5), (6, .int v145_6)]) hx hb dX12_reaches_197 hl (by decide) rfl (fun ls hl => ?_)
                  refine lv_iload hx hb dX12_reaches_199 (lv_at hl 1 rfl) ?_
                  refine lv_ldcw (v := 100000000) hx hb hC.2.2.2.1 (hC.2.2.2.2 _ (List.mem_cons_of_mem _ uw_38_2)) dX12_reaches_201 ?_
                  refine lv_icmp_ge (tgt := 259) hx hb dX12_reaches_204 (by decide) (fun c228 => ?_) (fun c228 => ?_)
                  · have c228 : (100000000 : Int) ≤ r66.toInt := wk_le.mp c228
                    have gb229 : 0 ≤ sumG 19 10 w12 ∧ sumG 19 10 w12 ≤ 10 := hT.sum (lo := 0) (hi := 1) kM_at19 rfl (by decide) rfl
                    exact J259 x49 H locs ls w12 (show 0 ≤ a1.toInt from r13) (show a1.toInt ≤ 9 from t14) (show 0 ≤ a2.toInt from r15) (show a2.toInt ≤ 9 from t16) (show 0 ≤ a3.toInt from r17) (show a3.toInt ≤ 100000100 from t18) (show 0 ≤ a4.toInt from r19) (show a4.toInt ≤ 100000100 from t20) (show 0 ≤ v145_5.toInt from r21) (show v145_5.toInt ≤ 9 from t22) (show 0 ≤ v145_6.toInt from r23) (show v145_6.toInt ≤ 11 by omega) (show 0 ≤ f145_12_0.toInt from r25) (show f145_12_0.toInt ≤ 10 from t26) (show 1 ≤ x49.toInt by omega) (show x49.toInt ≤ 12 by omega) (show (sumG 19 10 w1) + 1 ≤ (sumG 19 10 w12) by omega)  hw hT hF c27 c50 (lv_sub hl [2, 3, 4, 5, 6, 7, 8] rfl)
                  · have c228 : r66.toInt < (100000000 : Int) := wk_leF c228
                    refine lv_iload hx hb dX12_reaches_207 (lv_at hl 1 rfl) ?_
                    refine lv_aload_n hx hb dX12_reaches_209 rfl (lv_at hl 2 rfl) ?_
                    refine lv_iload hx hb dX12_reaches_210 (lv_at hl 8 rfl) ?_
                    refine lv_iconst (v := 2) hx hb dX12_reaches_212 (by decide) ?_
                    refine tk_Vi hC hK hw hT hA hE hSR kM_at0 (by decide) rfl (k_X12_streetOf_6 l adK adV dC dI cy ad B (by omega) (by omega) qr s1   v145_6 (show 0 ≤ v145_6.toInt from r23) (show v145_6.toInt ≤ 11 by omega) w12 H.size hT ) (cwV 2 hC.2.2.2.2 uV_RX12_300 rfl rfl rfl (by decide +kernel) ⟨Nat.le_of_ble_eq_true rfl, Nat.le_of_ble_eq_true rfl⟩) rfl hl.1 rfl (Nat.le_of_ble_eq_true rfl) dX12_reaches_213 (fun r230 w232 H locs hp231 hw => ?_)
                    obtain ⟨rfl, hg237⟩ := hp231
                    obtain ⟨g234, g235, c236⟩ := hg237
                    refine lv_iadd hx hb dX12_reaches_216 ?_
                    refine lv_topi (fun x238 ex238 => ?_)
                    have ex238 : x238.toInt = r66.toInt + r230.toInt := by rw [ex238]; exact wk_add (show (-2147483648) ≤ r66.toInt + r230.toInt by omega) (show r66.toInt + r230.toInt ≤ 2147483647 by omega)
                    refine lv_iload hx hb dX12_reaches_217 (lv_at hl 6 rfl) ?_
                    refine lv_icmp_gt (tgt := 259) hx hb dX12_reaches_219 (by decide) (fun c239 => ?_) (fun c239 => ?_)
                    · have c239 : a4.toInt < x238.toInt := wk_lt.mp c239
                      have gb240 : 0 ≤ sumG 19 10 w12 ∧ sumG 19 10 w12 ≤ 10 := hT.sum (lo := 0) (hi := 1) kM_at19 rfl (by decide) rfl
                      exact J259 x49 H locs ls w12 (show 0 ≤ a1.toInt from r13) (show a1.toInt ≤ 9 from t14) (show 0 ≤ a2.toInt from r15) (show a2.toInt ≤ 9 from t16) (show 0 ≤ a3.toInt from r17) (show a3.toInt ≤ 100000100 from t18) (show 0 ≤ a4.toInt from r19) (show a4.toInt ≤ 100000100 from t20) (show 0 ≤ v145_5.toInt from r21) (show v145_5.toInt ≤ 9 from t22) (show 0 ≤ v145_6.toInt from r23) (show v145_6.toInt ≤ 11 by omega) (show 0 ≤ f145_12_0.toInt from r25) (show f145_12_0.toInt ≤ 10 from t26) (show 1 ≤ x49.toInt by omega) (show x49.toInt ≤ 12 by omega) (show (sumG 19 10 w1) + 1 ≤ (sumG 19 10 w12) by omega)  hw hT hF c27 c50 (lv_sub hl [2, 3, 4, 5, 6, 7, 8] rfl)
                    · have c239 : x238.toInt ≤ a4.toInt := wk_ltF c239
                      refine lv_iload hx hb dX12_reaches_222 (lv_at hl 1 rfl) ?_
                      refine lv_aload_n hx hb dX12_reaches_224 rfl (lv_at hl 2 rfl) ?_
                      refine lv_iload hx hb dX12_reaches_225 (lv_at hl 8 rfl) ?_
                      refine lv_iconst (v := 2) hx hb dX12_reaches_227 (by decide) ?_
                      refine tk_Vi hC hK hw hT hA hE hSR kM_at0 (by decide) rfl (k_X12_streetOf_6 l adK adV dC dI cy ad B (by omega) (by omega) qr s1   v145_6 (show 0 ≤ v145_6.toInt from r23) (show v145_6.toInt ≤ 11 by omega) w12 H.size hT ) (cwV 2 hC.2.2.2.2 uV_RX12_300 rfl rfl rfl (by decide +kernel) ⟨Nat.le_of_ble_eq_true rfl, Nat.le_of_ble_eq_true rfl⟩) rfl hl.1 rfl (Nat.le_of_ble_eq_true rfl) dX12_reaches_228 (fun r241 w243 H locs hp242 hw => ?_)
                      obtain ⟨rfl, hg248⟩ := hp242
                      obtain ⟨g245, g246, c247⟩ := hg248
                      obtain rfl : r230 = r241 := c236.symm.trans c247
                      refine lv_iadd hx hb dX12_reaches_231 ?_
                      refine lv_topi (fun x249 ex249 => ?_)
                      have ex249 : x249.toInt = r66.toInt + r230.toInt := by rw [ex249]; exact wk_add (show (-2147483648) ≤ r66.toInt + r230.toInt by omega) (show r66.toInt + r230.toInt ≤ 2147483647 by omega)
                      refine lv_aload_n hx hb dX12_reaches_232 rfl (lv_at hl 2 rfl) ?_
                      refine tk_getA hC hK hw hT hinX12 kM_at0 (by decide) rfl 35 (by decide) (List.mem_cons_of_mem _ uw_7_8) rfl rfl dX12_reaches_233 ?_
                      refine lv_iload hx hb dX12_reaches_236 (lv_at hl 0 rfl) ?_
                      refine tk_iald hC hK hw hT kM_at18 rfl rfl (show 0 ≤ r174.toInt by omega) (show r174.toInt < 10 by omega) dX12_reaches_238 (fun x250 c251 rx250 tx250 => ?_)
                      refine lv_icmp_ge (tgt := 259) hx hb dX12_reaches_239 (by decide) (fun c252 => ?_) (fun c252 => ?_)
                      · have c252 : x250.toInt ≤ x249.toInt := wk_le.mp c252
                        have gb253 : 0 ≤ sumG 19 10 w12 ∧ sumG 19 10 w12 ≤ 10 := hT.sum (lo := 0) (hi := 1) kM_at19 rfl (by decide) rfl
                        exact J259 x49 H locs ls w12 (show 0 ≤ a1.toInt from r13) (show a1.toInt ≤ 9 from t14) (show 0 ≤ a2.toInt from r15) (show a2.toInt ≤ 9 from t16) (show 0 ≤ a3.toInt from r17) (show a3.toInt ≤ 100000100 from t18) (show 0 ≤ a4.toInt from r19) (show a4.toInt ≤ 100000100 from t20) (show 0 ≤ v145_5.toInt from r21) (show v145_5.toInt ≤ 9 from t22) (show 0 ≤ v145_6.toInt from r23) (show v145_6.toInt ≤ 11 by omega) (show 0 ≤ f145_12_0.toInt from r25) (show f145_12_0.toInt ≤ 10 from t26) (show 1 ≤ x49.toInt by omega) (show x49.toInt ≤ 12 by omega) (show (sumG 19 10 w1) + 1 ≤ (sumG 19 10 w12) by omega)  hw hT hF c27 c50 (lv_sub hl [2, 3, 4, 5, 6, 7, 8] rfl)
                      · have c252 : x249.toInt < x250.toInt := wk_leF c252
                        refine lv_aload_n hx hb dX12_reaches_242 rfl (lv_at hl 2 rfl) ?_
                        refine tk_getA hC hK hw hT hinX12 kM_at0 (by decide) rfl 35 (by decide) (List.mem_cons_of_mem _ uw_7_8) rfl rfl dX12_reaches_243 ?_
                        refine lv_iload hx hb dX12_reaches_246 (lv_at hl 0 rfl) ?_
                        refine lv_iload hx hb dX12_reaches_248 (lv_at hl 1 rfl) ?_
                        refine lv_aload_n hx hb dX12_reaches_250 rfl (lv_at hl 2 rfl) ?_
                        refine lv_iload hx hb dX12_reaches_251 (lv_at hl 8 rfl) ?_
                        refine lv_iconst (v := 2) hx hb dX12_reaches_253 (by decide) ?_
                        refine tk_Vi hC hK hw hT hA hE hSR kM_at0 (by decide) rfl (k_X12_streetOf_6 l adK adV dC dI cy ad B (by omega) (by omega) qr s1   v145_6 (show 0 ≤ v145_6.toInt from r23) (show v145_6.toInt ≤ 11 by omega) w12 H.size hT ) (cwV 2 hC.2.2.2.2 uV_RX12_300 rfl rfl rfl (by decide +kernel) ⟨Nat.le_of_ble_eq_true rfl, Nat.le_of_ble_eq_true rfl⟩) rfl hl.1 rfl (Nat.le_of_ble_eq_true rfl) dX12_reaches_254 (fun r254 w256 H locs hp255 hw => ?_)
                        obtain ⟨rfl, hg261⟩ := hp255
                        obtain ⟨g258, g259, c260⟩ := hg261
                        obtain rfl : r230 = r254 := c236.symm.trans c260
                        refine lv_iadd hx hb dX12_reaches_257 ?_
                        refine lv_topi (fun x262 ex262 => ?_)
                        have ex262 : x262.toInt = r66.toInt + r230.toInt := by rw [ex262]; exact wk_add (show (-2147483648) ≤ r66.toInt + r230.toInt by omega) (show r66.toInt + r230.toInt ≤ 2147483647 by omega)
                        refine tk_iast hC hK hw hT kM_at18 (by decide) rfl rfl (show 0 ≤ r174.toInt by omega) (show r174.toInt < 10 by omega) (show 0 ≤ x262.toInt by omega) (show x262.toInt ≤ 100000100 by omega) dX12_reaches_258 (fun H locs w263 hw hT k265 c264 => ?_)
                        have gs266 : sumG 19 10 w263 = sumG 19 10 w12 := sumG_ne 10 k265 (tk_ne kM_at19 kM_at18 (by decide))
                        have hF := hF.put kM_at18 (inE_of (a := 0) (b := 10) (by decide) (show 0 ≤ r174.toInt.toNat by omega) (show r174.toInt.toNat ≤ 10 by omega)) k265
                        have c267 := k265.gi (Or.inl (tk_ne kM_at12 kM_at18 (by decide))) c27
                        have c268 := k265.gi (Or.inl (tk_ne kM_at12 kM_at18 (by decide))) c50
                        have c269 := k265.gi (Or.inl (tk_ne kM_at12 kM_at18 (by decide))) c58
                        have c270 := k265.gi (Or.inl (tk_ne kM_at12 kM_at18 (by decide))) c236
                        have gb271 : 0 ≤ sumG 19 10 w263 ∧ sumG 19 10 w263 ≤ 10 := hT.sum (lo := 0) (hi := 1) kM_at19 rfl (by decide) rfl
                        exact J259 x49 H locs ls w263 (show 0 ≤ a1.toInt from r13) (show a1.toInt ≤ 9 from t14) (show 0 ≤ a2.toInt from r15) (show a2.toInt ≤ 9 from t16) (show 0 ≤ a3.toInt from r17) (show a3.toInt ≤ 100000100 from t18) (show 0 ≤ a4.toInt from r19) (show a4.toInt ≤ 100000100 from t20) (show 0 ≤ v145_5.toInt from r21) (show v145_5.toInt ≤ 9 from t22) (show 0 ≤ v145_6.toInt from r23) (show v145_6.toInt ≤ 11 by omega) (show 0 ≤ f145_12_0.toInt from r25) (show f145_12_0.toInt ≤ 10 from t26) (show 1 ≤ x49.toInt by omega) (show x49.toInt ≤ 12 by omega) (show (sumG 19 10 w1) + 1 ≤ (sumG 19 10 w263) by omega)  hw hT hF c267 c268 (lv_sub hl [2, 3, 4, 5, 6, 7, 8] rfl)
            · refine lv_if_ne (tgt := 170) hx hb dX12_reaches_164 (by decide) (fun _ => ?_) (fun c => absurd c (by decide))
              refine lv_aload_n hx hb dX12_reaches_170 rfl (lv_at hl 0 rfl) ?_
              refine lv_iload hx hb dX12_reaches_171 (lv_at hl 6 rfl) ?_
              refine lv_iload hx hb dX12_reaches_173 (lv_at hl 5 rfl) ?_
              refine lv_aload_n hx hb dX12_reaches_175 rfl (lv_at hl 0 rfl) ?_
              refine tk_getA hC hK hw hT hinX12 kM_at0 (by decide) rfl 35 (by decide) (List.mem_cons_of_mem _ uw_7_8) rfl rfl dX12_reaches_176 ?_
              refine lv_iload hx hb dX12_reaches_179 (lv_at hl 5 rfl) ?_
              refine tk_iald hC hK hw hT kM_at18 rfl rfl (show 0 ≤ v145_5.toInt from r21) (show v145_5.toInt < 10 from Int.lt_of_le_of_lt t22 (by decide)) dX12_reaches_181 (fun x272 c273 rx272 tx272 => ?_)
              refine lv_iload hx hb dX12_reaches_182 (lv_at hl 4 rfl) ?_
              refine tk_Vi hC hK hw hT hA hE hSR kM_at0 (by decide) rfl (k_X12_firstOpen_3 l adK adV dC dI cy ad B (by omega) (by omega) qr s1   v145_6 (show 0 ≤ v145_6.toInt from r23) (show v145_6.toInt ≤ 11 by omega) v145_5 (show 0 ≤ v145_5.toInt from r21) (show v145_5.toInt ≤ 9 from t22) x272 (show 0 ≤ x272.toInt from rx272) (show x272.toInt ≤ 100000100 from tx272) a4 (show 0 ≤ a4.toInt from r19) (show a4.toInt ≤ 100000100 from t20) w12 H.size hT ) (cwV 4 hC.2.2.2.2 uV_RX12_449 rfl rfl rfl (by decide +kernel) ⟨Nat.le_of_ble_eq_true rfl, Nat.le_of_ble_eq_true rfl⟩) rfl hl.1 rfl (Nat.le_of_ble_eq_true rfl) dX12_reaches_184 (fun r274 w276 H locs hp275 hw => ?_)
              obtain ⟨rfl, hg283⟩ := hp275
              rcases hg283 with ⟨g278, g279⟩ | ⟨g280, g281, c282⟩
              · refine lv_istore (lv' := [(7, .int r274), (0, .ref (ad 0)), (1, .int a1), (2, .int a2), (3, .int a3), (4, .int a4), (5, .int v145_5), (6, .int v145_6)]) hx hb dX12_reaches_187 hl (by decide) rfl (fun ls hl => ?_)
                refine lv_aload_n hx hb dX12_reaches_189 rfl (lv_at hl 1 rfl) ?_
                refine lv_iload hx hb dX12_reaches_190 (lv_at hl 7 rfl) ?_
                refine lv_iload hx hb dX12_reaches_192 (lv_at hl 6 rfl) ?_
                refine tk_Vi hC hK hw hT hA hE hSR kM_at0 (by decide) rfl (k_X12_otherOf_1 l adK adV dC dI cy ad B (by omega) (by omega) qr s1   v145_6 (show 0 ≤ v145_6.toInt from r23) (show v145_6.toInt ≤ 11 by omega) v145_5 (show 0 ≤ v145_5.toInt from r21) (show v145_5.toInt ≤ 9 from t22) w12 H.size hT ) (cwV 2 hC.2.2.2.2 uV_RX12_348 rfl rfl rfl (by decide +kernel) ⟨Nat.le_of_ble_eq_true rfl, Nat.le_of_ble_eq_true rfl⟩) rfl hl.1 rfl (Nat.le_of_ble_eq_true rfl) dX12_reaches_194 (fun r284 w286 H locs hp285 hw => ?_)
                obtain ⟨rfl, hg293⟩ := hp285
                rcases hg293 with ⟨g288, g289⟩ | ⟨g290, g291, c292⟩
                · refine lv_istore (lv' := [(8, .int r284), (7, .int r274), (0, .ref (ad 0)), (1, .int a1), (2, .int a2), (3, .int a3), (4, .int a4), (5, .int v145_5), (6, .int v145_6)]) hx hb dX12_reaches_197 hl (by decide) rfl (fun ls hl => ?_)
                  refine lv_iload hx hb dX12_reaches_199 (lv_at hl 1 rfl) ?_
                  refine lv_ldcw (v := 100000000) hx hb hC.2.2.2.1 (hC.2.2.2.2 _ (List.mem_cons_of_mem _ uw_38_2)) dX12_reaches_201 ?_
                  refine lv_icmp_ge (tgt := 259) hx hb dX12_reaches_204 (by decide) (fun c294 => ?_) (fun c294 => ?_)
                  · have c294 : (100000000 : Int) ≤ r274.toInt := wk_le.mp c294
                    have gb295 : 0 ≤ sumG 19 10 w12 ∧ sumG 19 10 w12 ≤ 10 := hT.sum (lo := 0) (hi := 1) kM_at19 rfl (by decide) rfl
                    exact J259 x49 H locs ls w12 (show 0 ≤ a1.toInt from r13) (show a1.toInt ≤ 9 from t14) (show 0 ≤ a2.toInt from r15) (show a2.toInt ≤ 9 from t16) (show 0 ≤ a3.toInt from r17) (show a3.toInt ≤ 100000100 from t18) (show 0 ≤ a4.toInt from r19) (show a4.toInt ≤ 100000100 from t20) (show 0 ≤ v145_5.toInt from r21) (show v145_5.toInt ≤ 9 from t22) (show 0 ≤ v145_6.toInt from r23) (show v145_6.toInt ≤ 11 by omega) (show 0 ≤ f145_12_0.toInt from r25) (show f145_12_0.toInt ≤ 10 from t26) (show 1 ≤ x49.toInt by omega) (show x49.toInt ≤ 12 by omega) (show (sumG 19 10 w1) + 1 ≤ (sumG 19 10 w12) by omega)  hw hT hF c27 c50 (lv_sub hl [2, 3, 4, 5, 6, 7, 8] rfl)
                  · have c294 : r274.toInt < (100000000 : Int) := wk_leF c294
                    refine lv_iload hx hb dX12_reaches_207 (lv_at hl 1 rfl) ?_
                    refine lv_aload_n hx hb dX12_reaches_209 rfl (lv_at hl 2 rfl) ?_
                    refine lv_iload hx hb dX12_reaches_210 (lv_at hl 8 rfl) ?_
                    refine lv_iconst (v := 2) hx hb dX12_reaches_212 (by decide) ?_
                    refine tk_Vi hC hK hw hT hA hE hSR kM_at0 (by decide) rfl (k_X12_streetOf_6 l adK adV dC dI cy ad B (by omega) (by omega) qr s1   v145_6 (show 0 ≤ v145_6.toInt from r23) (show v145_6.toInt ≤ 11 by omega) w12 H.size hT ) (cwV 2 hC.2.2.2.2 uV_RX12_300 rfl rfl rfl (by decide +kernel) ⟨Nat.le_of_ble_eq_true rfl, Nat.le_of_ble_eq_true rfl⟩) rfl hl.1 rfl (Nat.le_of_ble_eq_true rfl) dX12_reaches_213 (fun r296 w298 H locs hp297 hw => ?_)
                    obtain ⟨rfl, hg303⟩ := hp297
                    obtain ⟨g300, g301, c302⟩ := hg303
                    refine lv_iadd hx hb dX12_reaches_216 ?_
                    refine lv_topi (fun x304 ex304 => ?_)
                    have ex304 : x304.toInt = r274.toInt + r296.toInt := by rw [ex304]; exact wk_add (show (-2147483648) ≤ r274.toInt + r296.toInt by omega) (show r274.toInt + r296.toInt ≤ 2147483647 by omega)
                    refine lv_iload hx hb dX12_reaches_217 (lv_at hl 6 rfl) ?_
                    refine lv_icmp_gt (tgt := 259) hx hb dX12_reaches_219 (by decide) (fun c305 => ?_) (fun c305 => ?_)
                    · have c305 : a4.toInt < x304.toInt := wk_lt.mp c305
                      have gb306 : 0 ≤ sumG 19 10 w12 ∧ sumG 19 10 w12 ≤ 10 := hT.sum (lo := 0) (hi := 1) kM_at19 rfl (by decide) rfl
                      exact J259 x49 H locs ls w12 (show 0 ≤ a1.toInt from r13) (show a1.toInt ≤ 9 from t14) (show 0 ≤ a2.toInt from r15) (show a2.toInt ≤ 9 from t16) (show 0 ≤ a3.toInt from r17) (show a3.toInt ≤ 100000100 from t18) (show 0 ≤ a4.toInt from r19) (show a4.toInt ≤ 100000100 from t20) (show 0 ≤ v145_5.toInt from r21) (show v145_5.toInt ≤ 9 from t22) (show 0 ≤ v145_6.toInt from r23) (show v145_6.toInt ≤ 11 by omega) (show 0 ≤ f145_12_0.toInt from r25) (show f145_12_0.toInt ≤ 10 from t26) (show 1 ≤ x49.toInt by omega) (show x49.toInt ≤ 12 by omega) (show (sumG 19 10 w1) + 1 ≤ (sumG 19 10 w12) by omega)  hw hT hF c27 c50 (lv_sub hl [2, 3, 4, 5, 6, 7, 8] rfl)
                    · have c305 : x304.toInt ≤ a4.toInt := wk_ltF c305
                      refine lv_iload hx hb dX12_reaches_222 (lv_at hl 1 rfl) ?_
                      refine lv_aload_n hx hb dX12_reaches_224 rfl (lv_at hl 2 rfl) ?_
                      refine lv_iload hx hb dX12_reaches_225 (lv_at hl 8 rfl) ?_
                      refine lv_iconst (v := 2) hx hb dX12_reaches_227 (by decide) ?_
                      refine tk_Vi hC hK hw hT hA hE hSR kM_at0 (by decide) rfl (k_X12_streetOf_6 l adK adV dC dI cy ad B (by omega) (by omega) qr s1   v145_6 (show 0 ≤ v145_6.toInt from r23) (show v145_6.toInt ≤ 11 by omega) w12 H.size hT ) (cwV 2 hC.2.2.2.2 uV_RX12_300 rfl rfl rfl (by decide +kernel) ⟨Nat.le_of_ble_eq_true rfl, Nat.le_of_ble_eq_true rfl⟩) rfl hl.1 rfl (Nat.le_of_ble_eq_true rfl) dX12_reaches_228 (fun r307 w309 H locs hp308 hw => ?_)
                      obtain ⟨rfl, hg314⟩ := hp308
                      obtain ⟨g311, g312, c313⟩ := hg314
                      obtain rfl : r296 = r307 := c302.symm.trans c313
                      refine lv_iadd hx hb dX12_reaches_231 ?_
                      refine lv_topi (fun x315 ex315 => ?_)
                      have ex315 : x315.toInt = r274.toInt + r296.toInt := by rw [ex315]; exact wk_add (show (-2147483648) ≤ r274.toInt + r296.toInt by omega) (show r274.toInt + r296.toInt ≤ 2147483647 by omega)
                      refine lv_aload_n hx hb dX12_reaches_232 rfl (lv_at hl 2 rfl) ?_
                      refine tk_getA hC hK hw hT hinX12 kM_at0 (by decide) rfl 35 (by decide) (List.mem_cons_of_mem _ uw_7_8) rfl rfl dX12_reaches_233 ?_
                      refine lv_iload hx hb dX12_reaches_236 (lv_at hl 0 rfl) ?_
                      refine tk_iald hC hK hw hT kM_at18 rfl rfl (show 0 ≤ r284.toInt by omega) (show r284.toInt < 10 by omega) dX12_reaches_238 (fun x316 c317 rx316 tx316 => ?_)
                      refine lv_icmp_ge (tgt := 259) hx hb dX12_reaches_239 (by decide) (fun c318 => ?_) (fun c318 => ?_)
                      · have c318 : x316.toInt ≤ x315.toInt := wk_le.mp c318
                        have gb319 : 0 ≤ sumG 19 10 w12 ∧ sumG 19 10 w12 ≤ 10 := hT.sum (lo := 0) (hi := 1) kM_at19 rfl (by decide) rfl
                        exact J259 x49 H locs ls w12 (show 0 ≤ a1.toInt from r13) (show a1.toInt ≤ 9 from t14) (show 0 ≤ a2.toInt from r15) (show a2.toInt ≤ 9 from t16) (show 0 ≤ a3.toInt from r17) (show a3.toInt ≤ 100000100 from t18) (show 0 ≤ a4.toInt from r19) (show a4.toInt ≤ 100000100 from t20) (show 0 ≤ v145_5.toInt from r21) (show v145_5.toInt ≤ 9 from t22) (show 0 ≤ v145_6.toInt from r23) (show v145_6.toInt ≤ 11 by omega) (show 0 ≤ f145_12_0.toInt from r25) (show f145_12_0.toInt ≤ 10 from t26) (show 1 ≤ x49.toInt by omega) (show x49.toInt ≤ 12 by omega) (show (sumG 19 10 w1) + 1 ≤ (sumG 19 10 w12) by omega)  hw hT hF c27 c50 (lv_sub hl [2, 3, 4, 5, 6, 7, 8] rfl)
                      · have c318 : x315.toInt < x316.toInt := wk_leF c318
                        refine lv_aload_n hx hb dX12_reaches_242 rfl (lv_at hl 2 rfl) ?_
                        refine tk_getA hC hK hw hT hinX12 kM_at0 (by decide) rfl 35 (by decide) (List.mem_cons_of_mem _ uw_7_8) rfl rfl dX12_reaches_243 ?_
                        refine lv_iload hx hb dX12_reaches_246 (lv_at hl 0 rfl) ?_
                        refine lv_iload hx hb dX12_reaches_248 (lv_at hl 1 rfl) ?_
                        refine lv_aload_n hx hb dX12_reaches_250 rfl (lv_at hl 2 rfl) ?_
                        refine lv_iload hx hb dX12_reaches_251 (lv_at hl 8 rfl) ?_
                        refine lv_iconst (v := 2) hx hb dX12_reaches_253 (by decide) ?_
                        refine tk_Vi hC hK hw hT hA hE hSR kM_at0 (by decide) rfl (k_X12_streetOf_6 l adK adV dC dI cy ad B (by omega) (by omega) qr s1   v145_6 (show 0 ≤ v145_6.toInt from r23) (show v145_6.toInt ≤ 11 by omega) w12 H.size hT ) (cwV 2 hC.2.2.2.2 uV_RX12_300 rfl rfl rfl (by decide +kernel) ⟨Nat.le_of_ble_eq_true rfl, Nat.le_of_ble_eq_true rfl⟩) rfl hl.1 rfl (Nat.le_of_ble_eq_true rfl) dX12_reaches_254 (fun r320 w322 H locs hp321 hw => ?_)
                        obtain ⟨rfl, hg327⟩ := hp321
                        obtain ⟨g324, g325, c326⟩ := hg327
                        obtain rfl : r296 = r320 := c302.symm.trans c326
                        refine lv_iadd hx hb dX12_reaches_257 ?_
                        refine lv_topi (fun x328 ex328 => ?_)
                        have ex328 : x328.toInt = r274.toInt + r296.toInt := by rw [ex328]; exact wk_add (show (-2147483648) ≤ r274.toInt + r296.toInt by omega) (show r274.toInt + r296.toInt ≤ 2147483647 by omega)
                        refine tk_iast hC hK hw hT kM_at18 (by decide) rfl rfl (show 0 ≤ r284.toInt by omega) (show r284.toInt < 10 by omega) (show 0 ≤ x328.toInt by omega) (show x328.toInt ≤ 100000100 by omega) dX12_reaches_258 (fun H locs w329 hw hT k331 c330 => ?_)
                        have gs332 : sumG 19 10 w329 = sumG 19 10 w12 := sumG_ne 10 k331 (tk_ne kM_at19 kM_at18 (by decide))
                        have hF := hF.put kM_at18 (inE_of (a := 0) (b := 10) (by decide) (show 0 ≤ r284.toInt.toNat by omega) (show r284.toInt.toNat ≤ 10 by omega)) k331
                        have c333 := k331.gi (Or.inl (tk_ne kM_at12 kM_at18 (by decide))) c27
                        have c334 := k331.gi (Or.inl (tk_ne kM_at12 kM_at18 (by decide))) c50
                        have c335 := k331.gi (Or.inl (tk_ne kM_at12 kM_at18 (by decide))) c60
                        have c336 := k331.gi (Or.inl (tk_ne kM_at12 kM_at18 (by decide))) c302
                        have gb337 : 0 ≤ sumG 19 10 w329 ∧ sumG 19 10 w329 ≤ 10 := hT.sum (lo := 0) (hi := 1) kM_at19 rfl (by decide) rfl
                        exact J259 x49 H locs ls w329 (show 0 ≤ a1.toInt from r13) (show a1.toInt ≤ 9 from t14) (show 0 ≤ a2.toInt from r15) (show a2.toInt ≤ 9 from t16) (show 0 ≤ a3.toInt from r17) (show a3.toInt ≤ 100000100 from t18) (show 0 ≤ a4.toInt from r19) (show a4.toInt ≤ 100000100 from t20) (show 0 ≤ v145_5.toInt from r21) (show v145_5.toInt ≤ 9 from t22) (show 0 ≤ v145_6.toInt from r23) (show v145_6.toInt ≤ 11 by omega) (show 0 ≤ f145_12_0.toInt from r25) (show f145_12_0.toInt ≤ 10 from t26) (show 1 ≤ x49.toInt by omega) (show x49.toInt ≤ 12 by omega) (show (sumG 19 10 w1) + 1 ≤ (sumG 19 10 w329) by omega)  hw hT hF c333 c334 (lv_sub hl [2, 3, 4, 5, 6, 7, 8] rfl)
                · refine lv_istore (lv' := [(8, .int r284), (7, .int r274), (0, .ref (ad 0)), (1, .int a1), (2, .int a2), (3, .int a3), (4, .int a4), (5, .int v145_5), (6, .int v145_6)]) hx hb dX12_reaches_197 hl (by decide) rfl (fun ls hl => ?_)
                  refine lv_iload hx hb dX12_reaches_199 (lv_at hl 1 rfl) ?_
                  refine lv_ldcw (v := 100000000) hx hb hC.2.2.2.1 (hC.2.2.2.2 _ (List.mem_cons_of_mem _ uw_38_2)) dX12_reaches_201 ?_
                  refine lv_icmp_ge (tgt := 259) hx hb dX12_reaches_204 (by decide) (fun c338 => ?_) (fun c338 => ?_)
                  · have c338 : (100000000 : Int) ≤ r274.toInt := wk_le.mp c338
                    have gb339 : 0 ≤ sumG 19 10 w12 ∧ sumG 19 10 w12 ≤ 10 := hT.sum (lo := 0) (hi := 1) kM_at19 rfl (by decide) rfl
                    exact J259 x49 H locs ls w12 (show 0 ≤ a1.toInt from r13) (show a1.toInt ≤ 9 from t14) (show 0 ≤ a2.toInt from r15) (show a2.toInt ≤ 9 from t16) (show 0 ≤ a3.toInt from r17) (show a3.toInt ≤ 100000100 from t18) (show 0 ≤ a4.toInt from r19) (show a4.toInt ≤ 100000100 from t20) (show 0 ≤ v145_5.toInt from r21) (show v145_5.toInt ≤ 9 from t22) (show 0 ≤ v145_6.toInt from r23) (show v145_6.toInt ≤ 11 by omega) (show 0 ≤ f145_12_0.toInt from r25) (show f145_12_0.toInt ≤ 10 from t26) (show 1 ≤ x49.toInt by omega) (show x49.toInt ≤ 12 by omega) (show (sumG 19 10 w1) + 1 ≤ (sumG 19 10 w12) by omega)  hw hT hF c27 c50 (lv_sub hl [2, 3, 4, 5, 6, 7, 8] rfl)
                  · have c338 : r274.toInt < (100000000 : Int) := wk_leF c338
                    refine lv_iload hx hb dX12_reaches_207 (lv_at hl 1 rfl) ?_
                    refine lv_aload_n hx hb dX12_reaches_209 rfl (lv_at hl 2 rfl) ?_
                    refine lv_iload hx hb dX12_reaches_210 (lv_at hl 8 rfl) ?_
                    refine lv_iconst (v := 2) hx hb dX12_reaches_212 (by decide) ?_
                    refine tk_Vi hC hK hw hT hA hE hSR kM_at0 (by decide) rfl (k_X12_streetOf_6 l adK adV dC dI cy ad B (by omega) (by omega) qr s1   v145_6 (show 0 ≤ v145_6.toInt from r23) (show v145_6.toInt ≤ 11 by omega) w12 H.size hT ) (cwV 2 hC.2.2.2.2 uV_RX12_300 rfl rfl rfl (by decide +kernel) ⟨Nat.le_of_ble_eq_true rfl, Nat.le_of_ble_eq_true rfl⟩) rfl hl.1 rfl (Nat.le_of_ble_eq_true rfl) dX12_reaches_213 (fun r340 w342 H locs hp341 hw => ?_)
                    obtain ⟨rfl, hg347⟩ := hp341
                    obtain ⟨g344, g345, c346⟩ := hg347
                    refine lv_iadd hx hb dX12_reaches_216 ?_
                    refine lv_topi (fun x348 ex348 => ?_)
                    have ex348 : x348.toInt = r274.toInt + r340.toInt := by rw [ex348]; exact wk_add (show (-2147483648) ≤ r274.toInt + r340.toInt by omega) (show r274.toInt + r340.toInt ≤ 2147483647 by omega)
                    refine lv_iload hx hb dX12_reaches_217 (lv_at hl 6 rfl) ?_
                    refine lv_icmp_gt (tgt := 259) hx hb dX12_reaches_219 (by decide) (fun c349 => ?_) (fun c349 => ?_)
                    · have c349 : a4.toInt < x348.toInt := wk_lt.mp c349
                      have gb350 : 0 ≤ sumG 19 10 w12 ∧ sumG 19 10 w12 ≤ 10 := hT.sum (lo := 0) (hi := 1) kM_at19 rfl (by decide) rfl
                      exact J259 x49 H locs ls w12 (show 0 ≤ a1.toInt from r13) (show a1.toInt ≤ 9 from t14) (show 0 ≤ a2.toInt from r15) (show a2.toInt ≤ 9 from t16) (show 0 ≤ a3.toInt from r17) (show a3.toInt ≤ 100000100 from t18) (show 0 ≤ a4.toInt from r19) (show a4.toInt ≤ 100000100 from t20) (show 0 ≤ v145_5.toInt from r21) (show v145_5.toInt ≤ 9 from t22) (show 0 ≤ v145_6.toInt from r23) (show v145_6.toInt ≤ 11 by omega) (show 0 ≤ f145_12_0.toInt from r25) (show f145_12_0.toInt ≤ 10 from t26) (show 1 ≤ x49.toInt by omega) (show x49.toInt ≤ 12 by omega) (show (sumG 19 10 w1) + 1 ≤ (sumG 19 10 w12) by omega)  hw hT hF c27 c50 (lv_sub hl [2, 3, 4, 5, 6, 7, 8] rfl)
                    · have c349 : x348.toInt ≤ a4.toInt := wk_ltF c349
                      refine lv_iload hx hb dX12_reaches_222 (lv_at hl 1 rfl) ?_
                      refine lv_aload_n hx hb dX12_reaches_224 rfl (lv_at hl 2 rfl) ?_
                      refine lv_iload hx hb dX12_reaches_225 (lv_at hl 8 rfl) ?_
                      refine lv_iconst (v := 2) hx hb dX12_reaches_227 (by decide) ?_
                      refine tk_Vi hC hK hw hT hA hE hSR kM_at0 (by decide) rfl (k_X12_streetOf_6 l adK adV dC dI cy ad B (by omega) (by omega) qr s1   v145_6 (show 0 ≤ v145_6.toInt from r23) (show v145_6.toInt ≤ 11 by omega) w12 H.size hT ) (cwV 2 hC.2.2.2.2 uV_RX12_300 rfl rfl rfl (by decide +kernel) ⟨Nat.le_of_ble_eq_true rfl, Nat.le_of_ble_eq_true rfl⟩) rfl hl.1 rfl (Nat.le_of_ble_eq_true rfl) dX12_reaches_228 (fun r351 w353 H locs hp352 hw => ?_)
                      obtain ⟨rfl, hg358⟩ := hp352
                      obtain ⟨g355, g356, c357⟩ := hg358
                      obtain rfl : r340 = r351 := c346.symm.trans c357
                      refine lv_iadd hx hb dX12_reaches_231 ?_
                      refine lv_topi (fun x359 ex359 => ?_)
                      have ex359 : x359.toInt = r274.toInt + r340.toInt := by rw [ex359]; exact wk_add (show (-2147483648) ≤ r274.toInt + r340.toInt by omega) (show r274.toInt + r340.toInt ≤ 2147483647 by omega)
                      refine lv_aload_n hx hb dX12_reaches_232 rfl (lv_at hl 2 rfl) ?_
                      refine tk_getA hC hK hw hT hinX12 kM_at0 (by decide) rfl 35 (by decide) (List.mem_cons_of_mem _ uw_7_8) rfl rfl dX12_reaches_233 ?_
                      refine lv_iload hx hb dX12_reaches_236 (lv_at hl 0 rfl) ?_
                      refine tk_iald hC hK hw hT kM_at18 rfl rfl (show 0 ≤ r284.toInt by omega) (show r284.toInt < 10 by omega) dX12_reaches_238 (fun x360 c361 rx360 tx360 => ?_)
                      refine lv_icmp_ge (tgt := 259) hx hb dX12_reaches_239 (by decide) (fun c362 => ?_) (fun c362 => ?_)
                      · have c362 : x360.toInt ≤ x359.toInt := wk_le.mp c362
                        have gb363 : 0 ≤ sumG 19 10 w12 ∧ sumG 19 10 w12 ≤ 10 := hT.sum (lo := 0) (hi := 1) kM_at19 rfl (by decide) rfl
                        exact J259 x49 H locs ls w12 (show 0 ≤ a1.toInt from r13) (show a1.toInt ≤ 9 from t14) (show 0 ≤ a2.toInt from r15) (show a2.toInt ≤ 9 from t16) (show 0 ≤ a3.toInt from r17) (show a3.toInt ≤ 100000100 from t18) (show 0 ≤ a4.toInt from r19) (show a4.toInt ≤ 100000100 from t20) (show 0 ≤ v145_5.toInt from r21) (show v145_5.toInt ≤ 9 from t22) (show 0 ≤ v145_6.toInt from r23) (show v145_6.toInt ≤ 11 by omega) (show 0 ≤ f145_12_0.toInt from r25) (show f145_12_0.toInt ≤ 10 from t26) (show 1 ≤ x49.toInt by omega) (show x49.toInt ≤ 12 by omega) (show (sumG 19 10 w1) + 1 ≤ (sumG 19 10 w12) by omega)  hw hT hF c27 c50 (lv_sub hl [2, 3, 4, 5, 6, 7, 8] rfl)
                      · have c362 : x359.toInt < x360.toInt := wk_leF c362
                        refine lv_aload_n hx hb dX12_reaches_242 rfl (lv_at hl 2 rfl) ?_
                        refine tk_getA hC hK hw hT hinX12 kM_at0 (by decide) rfl 35 (by decide) (List.mem_cons_of_mem _ uw_7_8) rfl rfl dX12_reaches_243 ?_
                        refine lv_iload hx hb dX12_reaches_246 (lv_at hl 0 rfl) ?_
                        refine lv_iload hx hb dX12_reaches_248 (lv_at hl 1 rfl) ?_
                        refine lv_aload_n hx hb dX12_reaches_250 rfl (lv_at hl 2 rfl) ?_
                        refine lv_iload hx hb dX12_reaches_251 (lv_at hl 8 rfl) ?_
                        refine lv_iconst (v := 2) hx hb dX12_reaches_253 (by decide) ?_
                        refine tk_Vi hC hK hw hT hA hE hSR kM_at0 (by decide) rfl (k_X12_streetOf_6 l adK adV dC dI cy ad B (by omega) (by omega) qr s1   v145_6 (show 0 ≤ v145_6.toInt from r23) (show v145_6.toInt ≤ 11 by omega) w12 H.size hT ) (cwV 2 hC.2.2.2.2 uV_RX12_300 rfl rfl rfl (by decide +kernel) ⟨Nat.le_of_ble_eq_true rfl, Nat.le_of_ble_eq_true rfl⟩) rfl hl.1 rfl (Nat.le_of_ble_eq_true rfl) dX12_reaches_254 (fun r364 w366 H locs hp365 hw => ?_)
                        obtain ⟨rfl, hg371⟩ := hp365
                        obtain ⟨g368, g369, c370⟩ := hg371
                        obtain rfl : r340 = r364 := c346.symm.trans c370
                        refine lv_iadd hx hb dX12_reaches_257 ?_
                        refine lv_topi (fun x372 ex372 => ?_)
                        have ex372 : x372.toInt = r274.toInt + r340.toInt := by rw [ex372]; exact wk_add (show (-2147483648) ≤ r274.toInt + r340.toInt by omega) (show r274.toInt + r340.toInt ≤ 2147483647 by omega)
                        refine tk_iast hC hK hw hT kM_at18 (by decide) rfl rfl (show 0 ≤ r284.toInt by omega) (show r284.toInt < 10 by omega) (show 0 ≤ x372.toInt by omega) (show x372.toInt ≤ 100000100 by omega) dX12_reaches_258 (fun H locs w373 hw hT k375 c374 => ?_)
                        have gs376 : sumG 19 10 w373 = sumG 19 10 w12 := sumG_ne 10 k375 (tk_ne kM_at19 kM_at18 (by decide))
                        have hF := hF.put kM_at18 (inE_of (a := 0) (b := 10) (by decide) (show 0 ≤ r284.toInt.toNat by omega) (show r284.toInt.toNat ≤ 10 by omega)) k375
                        have c377 := k375.gi (Or.inl (tk_ne kM_at12 kM_at18 (by decide))) c27
                        have c378 := k375.gi (Or.inl (tk_ne kM_at12 kM_at18 (by decide))) c50
                        have c379 := k375.gi (Or.inl (tk_ne kM_at12 kM_at18 (by decide))) c60
                        have c380 := k375.gi (Or.inl (tk_ne kM_at12 kM_at18 (by decide))) c292
                        have c381 := k375.gi (Or.inl (tk_ne kM_at12 kM_at18 (by decide))) c346
                        have gb382 : 0 ≤ sumG 19 10 w373 ∧ sumG 19 10 w373 ≤ 10 := hT.sum (lo := 0) (hi := 1) kM_at19 rfl (by decide) rfl
                        exact J259 x49 H locs ls w373 (show 0 ≤ a1.toInt from r13) (show a1.toInt ≤ 9 from t14) (show 0 ≤ a2.toInt from r15) (show a2.toInt ≤ 9 from t16) (show 0 ≤ a3.toInt from r17) (show a3.toInt ≤ 100000100 from t18) (show 0 ≤ a4.toInt from r19) (show a4.toInt ≤ 100000100 from t20) (show 0 ≤ v145_5.toInt from r21) (show v145_5.toInt ≤ 9 from t22) (show 0 ≤ v145_6.toInt from r23) (show v145_6.toInt ≤ 11 by omega) (show 0 ≤ f145_12_0.toInt from r25) (show f145_12_0.toInt ≤ 10 from t26) (show 1 ≤ x49.toInt by omega) (show x49.toInt ≤ 12 by omega) (show (sumG 19 10 w1) + 1 ≤ (sumG 19 10 w373) by omega)  hw hT hF c377 c378 (lv_sub hl [2, 3, 4, 5, 6, 7, 8] rfl)
              · refine lv_istore (lv' := [(7, .int r274), (0, .ref (ad 0)), (1, .int a1), (2, .int a2), (3, .int a3), (4, .int a4), (5, .int v145_5), (6, .int v145_6)]) hx hb dX12_reaches_187 hl (by decide) rfl (fun ls hl => ?_)
                refine lv_aload_n hx hb dX12_reaches_189 rfl (lv_at hl 1 rfl) ?_
                refine lv_iload hx hb dX12_reaches_190 (lv_at hl 7 rfl) ?_
                refine lv_iload hx hb dX12_reaches_192 (lv_at hl 6 rfl) ?_
                refine tk_Vi hC hK hw hT hA hE hSR kM_at0 (by decide) rfl (k_X12_otherOf_1 l adK adV dC dI cy ad B (by omega) (by omega) qr s1   v145_6 (show 0 ≤ v145_6.toInt from r23) (show v145_6.toInt ≤ 11 by omega) v145_5 (show 0 ≤ v145_5.toInt from r21) (show v145_5.toInt ≤ 9 from t22) w12 H.size hT ) (cwV 2 hC.2.2.2.2 uV_RX12_348 rfl rfl rfl (by decide +kernel) ⟨Nat.le_of_ble_eq_true rfl, Nat.le_of_ble_eq_true rfl⟩) rfl hl.1 rfl (Nat.le_of_ble_eq_true rfl) dX12_reaches_194 (fun r383 w385 H locs hp384 hw => ?_)
                obtain ⟨rfl, hg392⟩ := hp384
                rcases hg392 with ⟨g387, g388⟩ | ⟨g389, g390, c391⟩
                · refine lv_istore (lv' := [(8, .int r383), (7, .int r274), (0, .ref (ad 0)), (1, .int a1), (2, .int a2), (3, .int a3), (4, .int a4), (5, .int v145_5), (6, .int v145_6)]) hx hb dX12_reaches_197 hl (by decide) rfl (fun ls hl => ?_)
                  refine lv_iload hx hb dX12_reaches_199 (lv_at hl 1 rfl) ?_
                  refine lv_ldcw (v := 100000000) hx hb hC.2.2.2.1 (hC.2.2.2.2 _ (List.mem_cons_of_mem _ uw_38_2)) dX12_reaches_201 ?_
                  refine lv_icmp_ge (tgt := 259) hx hb dX12_reaches_204 (by decide) (fun c393 => ?_) (fun c393 => ?_)
                  · have c393 : (100000000 : Int) ≤ r274.toInt := wk_le.mp c393
                    have gb394 : 0 ≤ sumG 19 10 w12 ∧ sumG 19 10 w12 ≤ 10 := hT.sum (lo := 0) (hi := 1) kM_at19 rfl (by decide) rfl
                    exact J259 x49 H locs ls w12 (show 0 ≤ a1.toInt from r13) (show a1.toInt ≤ 9 from t14) (show 0 ≤ a2.toInt from r15) (show a2.toInt ≤ 9 from t16) (show 0 ≤ a3.toInt from r17) (show a3.toInt ≤ 100000100 from t18) (show 0 ≤ a4.toInt from r19) (show a4.toInt ≤ 100000100 from t20) (show 0 ≤ v145_5.toInt from r21) (show v145_5.toInt ≤ 9 from t22) (show 0 ≤ v145_6.toInt from r23) (show v145_6.toInt ≤ 11 by omega) (show 0 ≤ f145_12_0.toInt from r25) (show f145_12_0.toInt ≤ 10 from t26) (show 1 ≤ x49.toInt by omega) (show x49.toInt ≤ 12 by omega) (show (sumG 19 10 w1) + 1 ≤ (sumG 19 10 w12) by omega)  hw hT hF c27 c50 (lv_sub hl [2, 3, 4, 5, 6, 7, 8] rfl)
                  · have c393 : r274.toInt < (100000000 : Int) := wk_leF c393
                    refine lv_iload hx hb dX12_reaches_207 (lv_at hl 1 rfl) ?_
                    refine lv_aload_n hx hb dX12_reaches_209 rfl (lv_at hl 2 rfl) ?_
                    refine lv_iload hx hb dX12_reaches_210 (lv_at hl 8 rfl) ?_
                    refine lv_iconst (v := 2) hx hb dX12_reaches_212 (by decide) ?_
                    refine tk_Vi hC hK hw hT hA hE hSR kM_at0 (by decide) rfl (k_X12_streetOf_6 l adK adV dC dI cy ad B (by omega) (by omega) qr s1   v145_6 (show 0 ≤ v145_6.toInt from r23) (show v145_6.toInt ≤ 11 by omega) w12 H.size hT ) (cwV 2 hC.2.2.2.2 uV_RX12_300 rfl rfl rfl (by decide +kernel) ⟨Nat.le_of_ble_eq_true rfl, Nat.le_of_ble_eq_true rfl⟩) rfl hl.1 rfl (Nat.le_of_ble_eq_true rfl) dX12_reaches_213 (fun r395 w397 H locs hp396 hw => ?_)
                    obtain ⟨rfl, hg402⟩ := hp396
                    obtain ⟨g399, g400, c401⟩ := hg402
                    refine lv_iadd hx hb dX12_reaches_216 ?_
                    refine lv_topi (fun x403 ex403 => ?_)
                    have ex403 : x403.toInt = r274.toInt + r395.toInt := by rw [ex403]; exact wk_add (show (-2147483648) ≤ r274.toInt + r395.toInt by omega) (show r274.toInt + r395.toInt ≤ 2147483647 by omega)
                    refine lv_iload hx hb dX12_reaches_217 (lv_at hl 6 rfl) ?_
                    refine lv_icmp_gt (tgt := 259) hx hb dX12_reaches_219 (by decide) (fun c404 => ?_) (fun c404 => ?_)
                    · have c404 : a4.toInt < x403.toInt := wk_lt.mp c404
                      have gb405 : 0 ≤ sumG 19 10 w12 ∧ sumG 19 10 w12 ≤ 10 := hT.sum (lo := 0) (hi := 1) kM_at19 rfl (by decide) rfl
                      exact J259 x49 H locs ls w12 (show 0 ≤ a1.toInt from r13) (show a1.toInt ≤ 9 from t14) (show 0 ≤ a2.toInt from r15) (show a2.toInt ≤ 9 from t16) (show 0 ≤ a3.toInt from r17) (show a3.toInt ≤ 100000100 from t18) (show 0 ≤ a4.toInt from r19) (show a4.toInt ≤ 100000100 from t20) (show 0 ≤ v145_5.toInt from r21) (show v145_5.toInt ≤ 9 from t22) (show 0 ≤ v145_6.toInt from r23) (show v145_6.toInt ≤ 11 by omega) (show 0 ≤ f145_12_0.toInt from r25) (show f145_12_0.toInt ≤ 10 from t26) (show 1 ≤ x49.toInt by omega) (show x49.toInt ≤ 12 by omega) (show (sumG 19 10 w1) + 1 ≤ (sumG 19 10 w12) by omega)  hw hT hF c27 c50 (lv_sub hl [2, 3, 4, 5, 6, 7, 8] rfl)
                    · have c404 : x403.toInt ≤ a4.toInt := wk_ltF c404
                      refine lv_iload hx hb dX12_reaches_222 (lv_at hl 1 rfl) ?_
                      refine lv_aload_n hx hb dX12_reaches_224 rfl (lv_at hl 2 rfl) ?_
                      refine lv_iload hx hb dX12_reaches_225 (lv_at hl 8 rfl) ?_
                      refine lv_iconst (v := 2) hx hb dX12_reaches_227 (by decide) ?_
                      refine tk_Vi hC hK hw hT hA hE hSR kM_at0 (by decide) rfl (k_X12_streetOf_6 l adK adV dC dI cy ad B (by omega) (by omega) qr s1   v145_6 (show 0 ≤ v145_6.toInt from r23) (show v145_6.toInt ≤ 11 by omega) w12 H.size hT ) (cwV 2 hC.2.2.2.2 uV_RX12_300 rfl rfl rfl (by decide +kernel) ⟨Nat.le_of_ble_eq_true rfl, Nat.le_of_ble_eq_true rfl⟩) rfl hl.1 rfl (Nat.le_of_ble_eq_true rfl) dX12_reaches_228 (fun r406 w408 H locs hp407 hw => ?_)
                      obtain ⟨rfl, hg413⟩ := hp407
                      obtain ⟨g410, g411, c412⟩ := hg413
                      obtain rfl : r395 = r406 := c401.symm.trans c412
                      refine lv_iadd hx hb dX12_reaches_231 ?_
                      refine lv_topi (fun x414 ex414 => ?_)
                      have ex414 : x414.toInt = r274.toInt + r395.toInt := by rw [ex414]; exact wk_add (show (-2147483648) ≤ r274.toInt + r395.toInt by omega) (show r274.toInt + r395.toInt ≤ 2147483647 by omega)
                      refine lv_aload_n hx hb dX12_reaches_232 rfl (lv_at hl 2 rfl) ?_
                      refine tk_getA hC hK hw hT hinX12 kM_at0 (by decide) rfl 35 (by decide) (List.mem_cons_of_mem _ uw_7_8) rfl rfl dX12_reaches_233 ?_
                      refine lv_iload hx hb dX12_reaches_236 (lv_at hl 0 rfl) ?_
                      refine tk_iald hC hK hw hT kM_at18 rfl rfl (show 0 ≤ r383.toInt by omega) (show r383.toInt < 10 by omega) dX12_reaches_238 (fun x415 c416 rx415 tx415 => ?_)
                      refine lv_icmp_ge (tgt := 259) hx hb dX12_reaches_239 (by decide) (fun c417 => ?_) (fun c417 => ?_)
                      · have c417 : x415.toInt ≤ x414.toInt := wk_le.mp c417
                        have gb418 : 0 ≤ sumG 19 10 w12 ∧ sumG 19 10 w12 ≤ 10 := hT.sum (lo := 0) (hi := 1) kM_at19 rfl (by decide) rfl
                        exact J259 x49 H locs ls w12 (show 0 ≤ a1.toInt from r13) (show a1.toInt ≤ 9 from t14) (show 0 ≤ a2.toInt from r15) (show a2.toInt ≤ 9 from t16) (show 0 ≤ a3.toInt from r17) (show a3.toInt ≤ 100000100 from t18) (show 0 ≤ a4.toInt from r19) (show a4.toInt ≤ 100000100 from t20) (show 0 ≤ v145_5.toInt from r21) (show v145_5.toInt ≤ 9 from t22) (show 0 ≤ v145_6.toInt from r23) (show v145_6.toInt ≤ 11 by omega) (show 0 ≤ f145_12_0.toInt from r25) (show f145_12_0.toInt ≤ 10 from t26) (show 1 ≤ x49.toInt by omega) (show x49.toInt ≤ 12 by omega) (show (sumG 19 10 w1) + 1 ≤ (sumG 19 10 w12) by omega)  hw hT hF c27 c50 (lv_sub hl [2, 3, 4, 5, 6, 7, 8] rfl)
                      · have c417 : x414.toInt < x415.toInt := wk_leF c417
                        refine lv_aload_n hx hb dX12_reaches_242 rfl (lv_at hl 2 rfl) ?_
                        refine tk_getA hC hK hw hT hinX12 kM_at0 (by decide) rfl 35 (by decide) (List.mem_cons_of_mem _ uw_7_8) rfl rfl dX12_reaches_243 ?_
                        refine lv_iload hx hb dX12_reaches_246 (lv_at hl 0 rfl) ?_
                        refine lv_iload hx hb dX12_reaches_248 (lv_at hl 1 rfl) ?_
                        refine lv_aload_n hx hb dX12_reaches_250 rfl (lv_at hl 2 rfl) ?_
                        refine lv_iload hx hb dX12_reaches_251 (lv_at hl 8 rfl) ?_
                        refine lv_iconst (v := 2) hx hb dX12_reaches_253 (by decide) ?_
                        refine tk_Vi hC hK hw hT hA hE hSR kM_at0 (by decide) rfl (k_X12_streetOf_6 l adK adV dC dI cy ad B (by omega) (by omega) qr s1   v145_6 (show 0 ≤ v145_6.toInt from r23) (show v145_6.toInt ≤ 11 by omega) w12 H.size hT ) (cwV 2 hC.2.2.2.2 uV_RX12_300 rfl rfl rfl (by decide +kernel) ⟨Nat.le_of_ble_eq_true rfl, Nat.le_of_ble_eq_true rfl⟩) rfl hl.1 rfl (Nat.le_of_ble_eq_true rfl) dX12_reaches_254 (fun r419 w421 H locs hp420 hw => ?_)
                        obtain ⟨rfl, hg426⟩ := hp420
                        obtain ⟨g423, g424, c425⟩ := hg426
                        obtain rfl : r395 = r419 := c401.symm.trans c425
                        refine lv_iadd hx hb dX12_reaches_257 ?_
                        refine lv_topi (fun x427 ex427 => ?_)
                        have ex427 : x427.toInt = r274.toInt + r395.toInt := by rw [ex427]; exact wk_add (show (-2147483648) ≤ r274.toInt + r395.toInt by omega) (show r274.toInt + r395.toInt ≤ 2147483647 by omega)
                        refine tk_iast hC hK hw hT kM_at18 (by decide) rfl rfl (show 0 ≤ r383.toInt by omega) (show r383.toInt < 10 by omega) (show 0 ≤ x427.toInt by omega) (show x427.toInt ≤ 100000100 by omega) dX12_reaches_258 (fun H locs w428 hw hT k430 c429 => ?_)
                        have gs431 : sumG 19 10 w428 = sumG 19 10 w12 := sumG_ne 10 k430 (tk_ne kM_at19 kM_at18 (by decide))
                        have hF := hF.put kM_at18 (inE_of (a := 0) (b := 10) (by decide) (show 0 ≤ r383.toInt.toNat by omega) (show r383.toInt.toNat ≤ 10 by omega)) k430
                        have c432 := k430.gi (Or.inl (tk_ne kM_at12 kM_at18 (by decide))) c27
                        have c433 := k430.gi (Or.inl (tk_ne kM_at12 kM_at18 (by decide))) c50
                        have c434 := k430.gi (Or.inl (tk_ne kM_at12 kM_at18 (by decide))) c60
                        have c435 := k430.gi (Or.inl (tk_ne kM_at12 kM_at18 (by decide))) c282
                        have c436 := k430.gi (Or.inl (tk_ne kM_at12 kM_at18 (by decide))) c401
                        have gb437 : 0 ≤ sumG 19 10 w428 ∧ sumG 19 10 w428 ≤ 10 := hT.sum (lo := 0) (hi := 1) kM_at19 rfl (by decide) rfl
                        exact J259 x49 H locs ls w428 (show 0 ≤ a1.toInt from r13) (show a1.toInt ≤ 9 from t14) (show 0 ≤ a2.toInt from r15) (show a2.toInt ≤ 9 from t16) (show 0 ≤ a3.toInt from r17) (show a3.toInt ≤ 100000100 from t18) (show 0 ≤ a4.toInt from r19) (show a4.toInt ≤ 100000100 from t20) (show 0 ≤ v145_5.toInt from r21) (show v145_5.toInt ≤ 9 from t22) (show 0 ≤ v145_6.toInt from r23) (show v145_6.toInt ≤ 11 by omega) (show 0 ≤ f145_12_0.toInt from r25) (show f145_12_0.toInt ≤ 10 from t26) (show 1 ≤ x49.toInt by omega) (show x49.toInt ≤ 12 by omega) (show (sumG 19 10 w1) + 1 ≤ (sumG 19 10 w428) by omega)  hw hT hF c432 c433 (lv_sub hl [2, 3, 4, 5, 6, 7, 8] rfl)
                · refine lv_istore (lv' := [(8, .int r383), (7, .int r274), (0, .ref (ad 0)), (1, .int a1), (2, .int a2), (3, .int a3), (4, .int a4), (5, .int v145_5), (6, .int v145_6)]) hx hb dX12_reaches_197 hl (by decide) rfl (fun ls hl => ?_)
                  refine lv_iload hx hb dX12_reaches_199 (lv_at hl 1 rfl) ?_
                  refine lv_ldcw (v := 100000000) hx hb hC.2.2.2.1 (hC.2.2.2.2 _ (List.mem_cons_of_mem _ uw_38_2)) dX12_reaches_201 ?_
                  refine lv_icmp_ge (tgt := 259) hx hb dX12_reaches_204 (by decide) (fun c438 => ?_) (fun c438 => ?_)
                  · have c438 : (100000000 : Int) ≤ r274.toInt := wk_le.mp c438
                    have gb439 : 0 ≤ sumG 19 10 w12 ∧ sumG 19 10 w12 ≤ 10 := hT.sum (lo := 0) (hi := 1) kM_at19 rfl (by decide) rfl
                    exact J259 x49 H locs ls w12 (show 0 ≤ a1.toInt from r13) (show a1.toInt ≤ 9 from t14) (show 0 ≤ a2.toInt from r15) (show a2.toInt ≤ 9 from t16) (show 0 ≤ a3.toInt from r17) (show a3.toInt ≤ 100000100 from t18) (show 0 ≤ a4.toInt from r19) (show a4.toInt ≤ 100000100 from t20) (show 0 ≤ v145_5.toInt from r21) (show v145_5.toInt ≤ 9 from t22) (show 0 ≤ v145_6.toInt from r23) (show v145_6.toInt ≤ 11 by omega) (show 0 ≤ f145_12_0.toInt from r25) (show f145_12_0.toInt ≤ 10 from t26) (show 1 ≤ x49.toInt by omega) (show x49.toInt ≤ 12 by omega) (show (sumG 19 10 w1) + 1 ≤ (sumG 19 10 w12) by omega)  hw hT hF c27 c50 (lv_sub hl [2, 3, 4, 5, 6, 7, 8] rfl)
                  · have c438 : r274.toInt < (100000000 : Int) := wk_leF c438
                    refine lv_iload hx hb dX12_reaches_207 (lv_at hl 1 rfl) ?_
                    refine lv_aload_n hx hb dX12_reaches_209 rfl (lv_at hl 2 rfl) ?_
                    refine lv_iload hx hb dX12_reaches_210 (lv_at hl 8 rfl) ?_
                    refine lv_iconst (v := 2) hx hb dX12_reaches_212 (by decide) ?_
                    refine tk_Vi hC hK hw hT hA hE hSR kM_at0 (by decide) rfl (k_X12_streetOf_6 l adK adV dC dI cy ad B (by omega) (by omega) qr s1   v145_6 (show 0 ≤ v145_6.toInt from r23) (show v145_6.toInt ≤ 11 by omega) w12 H.size hT ) (cwV 2 hC.2.2.2.2 uV_RX12_300 rfl rfl rfl (by decide +kernel) ⟨Nat.le_of_ble_eq_true rfl, Nat.le_of_ble_eq_true rfl⟩) rfl hl.1 rfl (Nat.le_of_ble_eq_true rfl) dX12_reaches_213 (fun r440 w442 H locs hp441 hw => ?_)
                    obtain ⟨rfl, hg447⟩ := hp441
                    obtain ⟨g444, g445, c446⟩ := hg447
                    refine lv_iadd hx hb dX12_reaches_216 ?_
                    refine lv_topi (fun x448 ex448 => ?_)
                    have ex448 : x448.toInt = r274.toInt + r440.toInt := by rw [ex448]; exact wk_add (show (-2147483648) ≤ r274.toInt + r440.toInt by omega) (show r274.toInt + r440.toInt ≤ 2147483647 by omega)
                    refine lv_iload hx hb dX12_reaches_217 (lv_at hl 6 rfl) ?_
                    refine lv_icmp_gt (tgt := 259) hx hb dX12_reaches_219 (by decide) (fun c449 => ?_) (fun c449 => ?_)
                    · have c449 : a4.toInt < x448.toInt := wk_lt.mp c449
                      have gb450 : 0 ≤ sumG 19 10 w12 ∧ sumG 19 10 w12 ≤ 10 := hT.sum (lo := 0) (hi := 1) kM_at19 rfl (by decide) rfl
                      exact J259 x49 H locs ls w12 (show 0 ≤ a1.toInt from r13) (show a1.toInt ≤ 9 from t14) (show 0 ≤ a2.toInt from r15) (show a2.toInt ≤ 9 from t16) (show 0 ≤ a3.toInt from r17) (show a3.toInt ≤ 100000100 from t18) (show 0 ≤ a4.toInt from r19) (show a4.toInt ≤ 100000100 from t20) (show 0 ≤ v145_5.toInt from r21) (show v145_5.toInt ≤ 9 from t22) (show 0 ≤ v145_6.toInt from r23) (show v145_6.toInt ≤ 11 by omega) (show 0 ≤ f145_12_0.toInt from r25) (show f145_12_0.toInt ≤ 10 from t26) (show 1 ≤ x49.toInt by omega) (show x49.toInt ≤ 12 by omega) (show (sumG 19 10 w1) + 1 ≤ (sumG 19 10 w12) by omega)  hw hT hF c27 c50 (lv_sub hl [2, 3, 4, 5, 6, 7, 8] rfl)
                    · have c449 : x448.toInt ≤ a4.toInt := wk_ltF c449
                      refine lv_iload hx hb dX12_reaches_222 (lv_at hl 1 rfl) ?_
                      refine lv_aload_n hx hb dX12_reaches_224 rfl (lv_at hl 2 rfl) ?_
                      refine lv_iload hx hb dX12_reaches_225 (lv_at hl 8 rfl) ?_
                      refine lv_iconst (v := 2) hx hb dX12_reaches_227 (by decide) ?_
                      refine tk_Vi hC hK hw hT hA hE hSR kM_at0 (by decide) rfl (k_X12_streetOf_6 l adK adV dC dI cy ad B (by omega) (by omega) qr s1   v145_6 (show 0 ≤ v145_6.toInt from r23) (show v145_6.toInt ≤ 11 by omega) w12 H.size hT ) (cwV 2 hC.2.2.2.2 uV_RX12_300 rfl rfl rfl (by decide +kernel) ⟨Nat.le_of_ble_eq_true rfl, Nat.le_of_ble_eq_true rfl⟩) rfl hl.1 rfl (Nat.le_of_ble_eq_true rfl) dX12_reaches_228 (fun r451 w453 H locs hp452 hw => ?_)
                      obtain ⟨rfl, hg458⟩ := hp452
                      obtain ⟨g455, g456, c457⟩ := hg458
                      obtain rfl : r440 = r451 := c446.symm.trans c457
                      refine lv_iadd hx hb dX12_reaches_231 ?_
                      refine lv_topi (fun x459 ex459 => ?_)
                      have ex459 : x459.toInt = r274.toInt + r440.toInt := by rw [ex459]; exact wk_add (show (-2147483648) ≤ r274.toInt + r440.toInt by omega) (show r274.toInt + r440.toInt ≤ 2147483647 by omega)
                      refine lv_aload_n hx hb dX12_reaches_232 rfl (lv_at hl 2 rfl) ?_
                      refine tk_getA hC hK hw hT hinX12 kM_at0 (by decide) rfl 35 (by decide) (List.mem_cons_of_mem _ uw_7_8) rfl rfl dX12_reaches_233 ?_
                      refine lv_iload hx hb dX12_reaches_236 (lv_at hl 0 rfl) ?_
                      refine tk_iald hC hK hw hT kM_at18 rfl rfl (show 0 ≤ r383.toInt by omega) (show r383.toInt < 10 by omega) dX12_reaches_238 (fun x460 c461 rx460 tx460 => ?_)
                      refine lv_icmp_ge (tgt := 259) hx hb dX12_reaches_239 (by decide) (fun c462 => ?_) (fun c462 => ?_)
                      · have c462 : x460.toInt ≤ x459.toInt := wk_le.mp c462
                        have gb463 : 0 ≤ sumG 19 10 w12 ∧ sumG 19 10 w12 ≤ 10 := hT.sum (lo := 0) (hi := 1) kM_at19 rfl (by decide) rfl
                        exact J259 x49 H locs ls w12 (show 0 ≤ a1.toInt from r13) (show a1.toInt ≤ 9 from t14) (show 0 ≤ a2.toInt from r15) (show a2.toInt ≤ 9 from t16) (show 0 ≤ a3.toInt from r17) (show a3.toInt ≤ 100000100 from t18) (show 0 ≤ a4.toInt from r19) (show a4.toInt ≤ 100000100 from t20) (show 0 ≤ v145_5.toInt from r21) (show v145_5.toInt ≤ 9 from t22) (show 0 ≤ v145_6.toInt from r23) (show v145_6.toInt ≤ 11 by omega) (show 0 ≤ f145_12_0.toInt from r25) (show f145_12_0.toInt ≤ 10 from t26) (show 1 ≤ x49.toInt by omega) (show x49.toInt ≤ 12 by omega) (show (sumG 19 10 w1) + 1 ≤ (sumG 19 10 w12) by omega)  hw hT hF c27 c50 (lv_sub hl [2, 3, 4, 5, 6, 7, 8] rfl)
                      · have c462 : x459.toInt < x460.toInt := wk_leF c462
                        refine lv_aload_n hx hb dX12_reaches_242 rfl (lv_at hl 2 rfl) ?_
                        refine tk_getA hC hK hw hT hinX12 kM_at0 (by decide) rfl 35 (by decide) (List.mem_cons_of_mem _ uw_7_8) rfl rfl dX12_reaches_243 ?_
                        refine lv_iload hx hb dX12_reaches_246 (lv_at hl 0 rfl) ?_
                        refine lv_iload hx hb dX12_reaches_248 (lv_at hl 1 rfl) ?_
                        refine lv_aload_n hx hb dX12_reaches_250 rfl (lv_at hl 2 rfl) ?_
                        refine lv_iload hx hb dX12_reaches_251 (lv_at hl 8 rfl) ?_
                        refine lv_iconst (v := 2) hx hb dX12_reaches_253 (by decide) ?_
                        refine tk_Vi hC hK hw hT hA hE hSR kM_at0 (by decide) rfl (k_X12_streetOf_6 l adK adV dC dI cy ad B (by omega) (by omega) qr s1   v145_6 (show 0 ≤ v145_6.toInt from r23) (show v145_6.toInt ≤ 11 by omega) w12 H.size hT ) (cwV 2 hC.2.2.2.2 uV_RX12_300 rfl rfl rfl (by decide +kernel) ⟨Nat.le_of_ble_eq_true rfl, Nat.le_of_ble_eq_true rfl⟩) rfl hl.1 rfl (Nat.le_of_ble_eq_true rfl) dX12_reaches_254 (fun r464 w466 H locs hp465 hw => ?_)
                        obtain ⟨rfl, hg471⟩ := hp465
                        obtain ⟨g468, g469, c470⟩ := hg471
                        obtain rfl : r440 = r464 := c446.symm.trans c470
                        refine lv_iadd hx hb dX12_reaches_257 ?_
                        refine lv_topi (fun x472 ex472 => ?_)
                        have ex472 : x472.toInt = r274.toInt + r440.toInt := by rw [ex472]; exact wk_add (show (-2147483648) ≤ r274.toInt + r440.toInt by omega) (show r274.toInt + r440.toInt ≤ 2147483647 by omega)
                        refine tk_iast hC hK hw hT kM_at18 (by decide) rfl rfl (show 0 ≤ r383.toInt by omega) (show r383.toInt < 10 by omega) (show 0 ≤ x472.toInt by omega) (show x472.toInt ≤ 100000100 by omega) dX12_reaches_258 (fun H locs w473 hw hT k475 c474 => ?_)
                        have gs476 : sumG 19 10 w473 = sumG 19 10 w12 := sumG_ne 10 k475 (tk_ne kM_at19 kM_at18 (by decide))
                        have hF := hF.put kM_at18 (inE_of (a := 0) (b := 10) (by decide) (show 0 ≤ r383.toInt.toNat by omega) (show r383.toInt.toNat ≤ 10 by omega)) k475
                        have c477 := k475.gi (Or.inl (tk_ne kM_at12 kM_at18 (by decide))) c27
                        have c478 := k475.gi (Or.inl (tk_ne kM_at12 kM_at18 (by decide))) c50
                        have c479 := k475.gi (Or.inl (tk_ne kM_at12 kM_at18 (by decide))) c60
                        have c480 := k475.gi (Or.inl (tk_ne kM_at12 kM_at18 (by decide))) c282
                        have c481 := k475.gi (Or.inl (tk_ne kM_at12 kM_at18 (by decide))) c446
                        have gb482 : 0 ≤ sumG 19 10 w473 ∧ sumG 19 10 w473 ≤ 10 := hT.sum (lo := 0) (hi := 1) kM_at19 rfl (by decide) rfl
                        exact J259 x49 H locs ls w473 (show 0 ≤ a1.toInt from r13) (show a1.toInt ≤ 9 from t14) (show 0 ≤ a2.toInt from r15) (show a2.toInt ≤ 9 from t16) (show 0 ≤ a3.toInt from r17) (show a3.toInt ≤ 100000100 from t18) (show 0 ≤ a4.toInt from r19) (show a4.toInt ≤ 100000100 from t20) (show 0 ≤ v145_5.toInt from r21) (show v145_5.toInt ≤ 9 from t22) (show 0 ≤ v145_6.toInt from r23) (show v145_6.toInt ≤ 11 by omega) (show 0 ≤ f145_12_0.toInt from r25) (show f145_12_0.toInt ≤ 10 from t26) (show 1 ≤ x49.toInt by omega) (show x49.toInt ≤ 12 by omega) (show (sumG 19 10 w1) + 1 ≤ (sumG 19 10 w473) by omega)  hw hT hF c477 c478 (lv_sub hl [2, 3, 4, 5, 6, 7, 8] rfl)
      have L59 : ∀ (n59 : Nat) (v59_5 : Int32) (v59_6 : Int32) (H : Heap) (locs : List Loc) (ls : Array Slot) (w483 : va_W), 0 ≤ a1.toInt → a1.toInt ≤ 9 → 0 ≤ a2.toInt → a2.toInt ≤ 9 → 0 ≤ a3.toInt → a3.toInt ≤ 100000100 → 0 ≤ a4.toInt → a4.toInt ≤ 100000100 → (-1) ≤ v59_5.toInt → v59_5.toInt ≤ 9 → 0 ≤ v59_6.toInt → v59_6.toInt ≤ 10 → ((sumG 19 10 w483) ≤ (sumG 19 10 w1)) → ((sumG 19 10 w1) ≤ (sumG 19 10 w483)) → ((v59_5.toInt = -1 ∨ (gi w483 19 (v59_5.toInt).toNat).toInt = 0)) → (10 - v59_6.toInt).toNat < n59 → Wd dC dI A s.heap H locs w483 → TW ksM ad cy B qr 12 w483 → FE ksM [(77, 0, 10), (78, 0, 10)] w0 w483 → gi w483 19 (a2.toInt).toNat = 0 → lv_has ls 9 [(0, .ref (ad 0)), (1, .int a1), (2, .int a2), (3, .int a3), (4, .int a4), (5, .int v59_5), (6, .int v59_6)] → W p l e ({ frames := 5, cells := 0, slots := 0, locals := 105 }) s m (List.toArray [.ref (ad 0), .int a1, .int a2, .int a3, .int a4]) below meth c H locs 0 0 (MQ below (va_Qi (P_X12_reaches_2 ad cy B qr s1 a1 a2 a3 a4 w0) (fun u : va_W => wpost dC dI cy A u) A) (List.toArray [.ref (ad 0), .int a1, .int a2, .int a3, .int a4]) s 0 0 A) (F0 m 59 ls []) := by
        intro n59
        induction n59 with
        | zero => intro v59_5 v59_6 H locs ls w483 r484 t485 r486 t487 r488 t489 r490 t491 r492 t493 r494 t495 hcr59_0 hcr59_1 hcr59_2 hm59 hw hT hF c496 hl; omega
        | succ n59 ih59 =>
          intro v59_5 v59_6 H locs ls w483 r484 t485 r486 t487 r488 t489 r490 t491 r492 t493 r494 t495 hcr59_0 hcr59_1 hcr59_2 hm59 hw hT hF c496 hl
          have J119 : ∀ (v119_5 : Int32) (f119_12_0 : Int32) (f119_19__v59_6_toInt_toNat : Int32) (H : Heap) (locs : List Loc) (ls : Array Slot) (w497 : va_W), 0 ≤ a1.toInt → a1.toInt ≤ 9 → 0 ≤ a2.toInt → a2.toInt ≤ 9 → 0 ≤ a3.toInt → a3.toInt ≤ 100000100 → 0 ≤ a4.toInt → a4.toInt ≤ 100000100 → (-1) ≤ v119_5.toInt → v119_5.toInt ≤ 9 → 0 ≤ v59_6.toInt → v59_6.toInt ≤ 9 → 1 ≤ f119_12_0.toInt → f119_12_0.toInt ≤ 10 → 0 ≤ f119_19__v59_6_toInt_toNat.toInt → f119_19__v59_6_toInt_toNat.toInt ≤ 1 → ((sumG 19 10 w497) ≤ (sumG 19 10 w1)) → ((sumG 19 10 w1) ≤ (sumG 19 10 w497)) → ((v119_5.toInt = -1 ∨ (gi w497 19 (v119_5.toInt).toNat).toInt = 0)) → Wd dC dI A s.heap H locs w497 → TW ksM ad cy B qr 12 w497 → FE ksM [(77, 0, 10), (78, 0, 10)] w0 w497 → gi w497 12 0 = f119_12_0 → gi w497 19 (a2.toInt).toNat = 0 → gi w497 19 (v59_6.toInt).toNat = f119_19__v59_6_toInt_toNat → lv_has ls 9 [(0, .ref (ad 0)), (1, .int a1), (2, .int a2), (3, .int a3), (4, .int a4), (5, .int v119_5), (6, .int v59_6)] → W p l e ({ frames := 5, cells := 0, slots := 0, locals := 105 }) s m (List.toArray [.ref (ad 0), .int a1, .int a2, .int a3, .int a4]) below meth c H locs 0 0 (MQ below (va_Qi (P_X12_reaches_2 ad cy B qr s1 a1 a2 a3 a4 w0) (fun u : va_W => wpost dC dI cy A u) A) (List.toArray [.ref (ad 0), .int a1, .int a2, .int a3, .int a4]) s 0 0 A) (F0 m 119 ls []) := by
            intro v119_5 f119_12_0 f119_19__v59_6_toInt_toNat H locs ls w497 r498 t499 r500 t501 r502 t503 r504 t505 r506 t507 r508 t509 r510 t511 r514 t515 hcr119_0 hcr119_1 hcr119_2 hw hT hF c512 c513 c516 hl
            obtain ⟨x517, ex517⟩ : ∃ y : Int32, y = v59_6 + Int32.ofInt 1 := ⟨_, rfl⟩
            refine lv_iinc (v := x517) (lv' := [(6, .int x517), (0, .ref (ad 0)), (1, .int a1), (2, .int a2), (3, .int a3), (4, .int a4), (5, .int v119_5)]) hx hb dX12_reaches_119 hl (k := 6) rfl ex517.symm (by decide) rfl (fun ls hl => ?_)
            have ex517 : x517.toInt = v59_6.toInt + 1 := by rw [ex517]; exact wk_add (y := 1) (show -2147483648 ≤ v59_6.toInt + 1 by omega) (show v59_6.toInt + 1 ≤ 2147483647 by omega)
            refine lv_goto (tgt := 59) hx hb dX12_reaches_122 (by decide) ?_
            have gb518 : 0 ≤ sumG 19 10 w497 ∧ sumG 19 10 w497 ≤ 10 := hT.sum (lo := 0) (hi := 1) kM_at19 rfl (by decide) rfl
            exact ih59 v119_5 x517 H locs ls w497 (show 0 ≤ a1.toInt from r498) (show a1.toInt ≤ 9 from t499) (show 0 ≤ a2.toInt from r500) (show a2.toInt ≤ 9 from t501) (show 0 ≤ a3.toInt from r502) (show a3.toInt ≤ 100000100 from t503) (show 0 ≤ a4.toInt from r504) (show a4.toInt ≤ 100000100 from t505) (show (-1) ≤ v119_5.toInt from r506) (show v119_5.toInt ≤ 9 from t507) (show 0 ≤ x517.toInt by omega) (show x517.toInt ≤ 10 by omega) (show (sumG 19 10 w497) ≤ (sumG 19 10 w1) by omega) (show (sumG 19 10 w1) ≤ (sumG 19 10 w497) by omega) (show (v119_5.toInt = -1 ∨ (gi w497 19 (v119_5.toInt).toNat).toInt = 0) by first | omega | assumption | (left; omega) | (left; decide) | (right; assumption) | (right; rw [c513]; omega) | (right; rw [c513]; decide) | (right; rw [c516]; omega) | (right; rw [c516]; decide) | (right; rcases hcr59_2 with hx1 | hx1 <;> first | exact hx1 | (rw [← hx1]; exact (congrArg Int32.toInt ((hF.gi kM_at19 rfl rfl).symm.trans c513)).trans (by omega))) | (right; rcases hcr59_2 with hx1 | hx1 <;> first | exact hx1 | (rw [← hx1]; exact (congrArg Int32.toInt ((hF.gi kM_at19 rfl rfl).symm.trans c516)).trans (by omega)))) (show (10 - x517.toInt).toNat < n59 by omega) hw hT hF c513 (lv_sub hl [1, 2, 3, 4, 5, 6, 0] rfl)
          have J115 : ∀ (f115_12_0 : Int32) (H : Heap) (locs : List Loc) (ls : Array Slot) (w519 : va_W), 0 ≤ a1.toInt → a1.toInt ≤ 9 → 0 ≤ a2.toInt → a2.toInt ≤ 9 → 0 ≤ a3.toInt → a3.toInt ≤ 100000100 → 0 ≤ a4.toInt → a4.toInt ≤ 100000100 → (-1) ≤ v59_5.toInt → v59_5.toInt ≤ 9 → 0 ≤ v59_6.toInt → v59_6.toInt ≤ 9 → 1 ≤ f115_12_0.toInt → f115_12_0.toInt ≤ 10 → ((sumG 19 10 w519) ≤ (sumG 19 10 w1)) → ((sumG 19 10 w1) ≤ (sumG 19 10 w519)) → ((v59_5.toInt = -1 ∨ (gi w519 19 (v59_5.toInt).toNat).toInt = 0)) → Wd dC dI A s.heap H locs w519 → TW ksM ad cy B qr 12 w519 → FE ksM [(77, 0, 10), (78, 0, 10)] w0 w519 → gi w519 12 0 = f115_12_0 → gi w519 19 (a2.toInt).toNat = 0 → gi w519 19 (v59_6.toInt).toNat = 0 → lv_has ls 9 [(0, .ref (ad 0)), (1, .int a1), (2, .int a2), (3, .int a3), (4, .int a4), (5, .int v59_5), (6, .int v59_6)] → W p l e ({ frames := 5, cells := 0, slots := 0, locals := 105 }) s m (List.toArray [.ref (ad 0), .int a1, .int a2, .int a3, .int a4]) below meth c H locs 0 0 (MQ below (va_Qi (P_X12_reaches_2 ad cy B qr s1 a1 a2 a3 a4 w0) (fun u : va_W => wpost dC dI cy A u) A) (List.toArray [.ref (ad 0), .int a1, .int a2, .int a3, .int a4]) s 0 0 A) (F0 m 115 ls []) := by
            intro f115_12_0 H locs ls w519 r520 t521 r522 t523 r524 t525 r526 t527 r528 t529 r530 t531 r532 t533 hcr115_0 hcr115_1 hcr115_2 hw hT hF c534 c535 c536 hl
            refine lv_iload hx hb dX12_reaches_115 (lv_at hl 6 rfl) ?_
            refine lv_istore (lv' := [(5, .int v59_6), (0, .ref (ad 0)), (1, .int a1), (2, .int a2), (3, .int a3), (4, .int a4), (6, .int v59_6)]) hx hb dX12_reaches_117 hl (by decide) rfl (fun ls hl => ?_)
            have gb537 : 0 ≤ sumG 19 10 w519 ∧ sumG 19 10 w519 ≤ 10 := hT.sum (lo := 0) (hi := 1) kM_at19 rfl (by decide) rfl
            exact J119 v59_6 f115_12_0 0 H locs ls w519 (show 0 ≤ a1.toInt from r520) (show a1.toInt ≤ 9 from t521) (show 0 ≤ a2.toInt from r522) (show a2.toInt ≤ 9 from t523) (show 0 ≤ a3.toInt from r524) (show a3.toInt ≤ 100000100 from t525) (show 0 ≤ a4.toInt from r526) (show a4.toInt ≤ 100000100 from t527) (show (-1) ≤ v59_6.toInt from Int.le_trans (by decide) r530) (show v59_6.toInt ≤ 9 from t531) (show 0 ≤ v59_6.toInt from r530) (show v59_6.toInt ≤ 9 from t531) (show 1 ≤ f115_12_0.toInt from r532) (show f115_12_0.toInt ≤ 10 from t533) (by decide) (by decide) (show (sumG 19 10 w519) ≤ (sumG 19 10 w1) by omega) (show (sumG 19 10 w1) ≤ (sumG 19 10 w519) by omega) (show (v59_6.toInt = -1 ∨ (gi w519 19 (v59_6.toInt).toNat).toInt = 0) by first | omega | assumption | (left; omega) | (left; decide) | (right; assumption) | (right; rw [c535]; omega) | (right; rw [c535]; decide) | (right; rw [c536]; omega) | (right; rw [c536]; decide))  hw hT hF c534 c535 c536 (lv_sub hl [1, 2, 3, 4, 5, 0, 6] rfl)
          refine lv_iload hx hb dX12_reaches_59 (lv_at hl 6 rfl) ?_
          refine lv_aload_n hx hb dX12_reaches_61 rfl (lv_at hl 0 rfl) ?_
          refine tk_getA hC hK hw hT hinX12 kM_at0 (by decide) rfl 26 (by decide) (List.mem_cons_of_mem _ uw_7_1) rfl rfl dX12_reaches_62 ?_
          refine lv_iconst (v := 0) hx hb dX12_reaches_65 (by decide) ?_
          refine tk_ialdR hC hK hw hT kM_at12 rfl (by decide) (by decide) dX12_reaches_66 (fun x538 c539 Ex538 => ?_)
          have bx538 := tk_rgI rfl 0 1 1 0 10 (by decide +kernel) ⟨0, by decide, by decide⟩ Ex538
          have c539 : gi w483 12 0 = x538 := c539
          refine lv_icmp_ge (tgt := 125) hx hb dX12_reaches_67 (by decide) (fun c540 => ?_) (fun c540 => ?_)
          · have c540 : x538.toInt ≤ v59_6.toInt := wk_le.mp c540
            refine lv_iload hx hb dX12_reaches_125 (lv_at hl 5 rfl) ?_
            refine lv_if_ge (tgt := 134) hx hb dX12_reaches_127 (by decide) (fun c541 => ?_) (fun c541 => ?_)
            · have c541 : (0 : Int) ≤ v59_5.toInt := wk_le.mp c541
              refine lv_aload_n hx hb dX12_reaches_134 rfl (lv_at hl 0 rfl) ?_
              refine tk_getA hC hK hw hT hinX12 kM_at0 (by decide) rfl 36 (by decide) (List.mem_cons_of_mem _ uw_7_9) rfl rfl dX12_reaches_135 ?_
              refine lv_iload hx hb dX12_reaches_138 (lv_at hl 5 rfl) ?_
              refine lv_iconst (v := 1) hx hb dX12_reaches_140 (by decide) ?_
              refine tk_zast hC hK hw hT kM_at19 (by decide) rfl rfl (show 0 ≤ v59_5.toInt from c541) (show v59_5.toInt < 10 from Int.lt_of_le_of_lt t493 (by decide)) (by decide) (by decide) dX12_reaches_141 (fun H locs w542 hw hT k544 c543 => ?_)
              have gs545 : sumG 19 10 w542 = sumG 19 10 w483 - (gi w483 19 (v59_5.toInt.toNat)).toInt + (gi w542 19 (v59_5.toInt.toNat)).toInt := sumG_up (i := v59_5.toInt.toNat) k544 10 (show v59_5.toInt.toNat < 10 by omega)
              rw [show gi w542 19 (v59_5.toInt.toNat) = 1 from c543] at gs545
              rw [show (1 : Int32).toInt = 1 by decide] at gs545
              have hF := hF.put kM_at19 (inE_of (a := 0) (b := 10) (by decide) (show 0 ≤ v59_5.toInt.toNat by omega) (show v59_5.toInt.toNat ≤ 10 by omega)) k544
              have c546 := k544.gi (Or.inl (tk_ne kM_at12 kM_at19 (by decide))) c539
              refine lv_iconst (v := 0) hx hb dX12_reaches_142 (by decide) ?_
              refine lv_istore (lv' := [(6, .int 0), (0, .ref (ad 0)), (1, .int a1), (2, .int a2), (3, .int a3), (4, .int a4), (5, .int v59_5)]) hx hb dX12_reaches_143 hl (by decide) rfl (fun ls hl => ?_)
              have gb547 : 0 ≤ sumG 19 10 w542 ∧ sumG 19 10 w542 ≤ 10 := hT.sum (lo := 0) (hi := 1) kM_at19 rfl (by decide) rfl
              exact L145 ((12 - (0 : Int)).toNat + 1) v59_5 0 x538 H locs ls w542 (show 0 ≤ a1.toInt from r484) (show a1.toInt ≤ 9 from t485) (show 0 ≤ a2.toInt from r486) (show a2.toInt ≤ 9 from t487) (show 0 ≤ a3.toInt from r488) (show a3.toInt ≤ 100000100 from t489) (show 0 ≤ a4.toInt from r490) (show a4.toInt ≤ 100000100 from t491) (show 0 ≤ v59_5.toInt from c541) (show v59_5.toInt ≤ 9 from t493) (by decide) (by decide) (show 0 ≤ x538.toInt by omega) (show x538.toInt ≤ 10 by omega) (show (sumG 19 10 w1) + 1 ≤ (sumG 19 10 w542) by omega) (Nat.lt_succ_self _) hw hT hF c546 (lv_sub hl [1, 2, 3, 4, 5, 6, 0] rfl)
            · have c541 : v59_5.toInt < (0 : Int) := wk_leF c541
              refine lv_ldcw (v := 100000000) hx hb hC.2.2.2.1 (hC.2.2.2.2 _ (List.mem_cons_of_mem _ uw_38_2)) dX12_reaches_130 ?_
              exact tk_iret hC hr hlocks hK ⟨hT, hF, ⟨(by decide), (by decide)⟩⟩ hw dX12_reaches_133
          · have c540 : v59_6.toInt < x538.toInt := wk_leF c540
            refine lv_aload_n hx hb dX12_reaches_70 rfl (lv_at hl 0 rfl) ?_
            refine tk_getA hC hK hw hT hinX12 kM_at0 (by decide) rfl 36 (by decide) (List.mem_cons_of_mem _ uw_7_9) rfl rfl dX12_reaches_71 ?_
            refine lv_iload hx hb dX12_reaches_74 (lv_at hl 6 rfl) ?_
            refine tk_zald hC hK hw hT kM_at19 rfl rfl (show 0 ≤ v59_6.toInt from r494) (show v59_6.toInt < 10 by omega) dX12_reaches_76 (fun x548 c549 rx548 tx548 => ?_)
            have c549 : gi w483 19 (v59_6.toInt).toNat = x548 := (congrArg (gi w483 19) (congrArg Int.toNat (show v59_6.toInt = v59_6.toInt by omega))).trans c549
            refine lv_if_ne (tgt := 119) hx hb dX12_reaches_77 (by decide) (fun c550 => ?_) (fun c550 => ?_)
            · have c550 : ¬ x548.toInt = (0 : Int) := wk_eqF c550
              have gb551 : 0 ≤ sumG 19 10 w483 ∧ sumG 19 10 w483 ≤ 10 := hT.sum (lo := 0) (hi := 1) kM_at19 rfl (by decide) rfl
              exact J119 v59_5 x538 x548 H locs ls w483 (show 0 ≤ a1.toInt from r484) (show a1.toInt ≤ 9 from t485) (show 0 ≤ a2.toInt from r486) (show a2.toInt ≤ 9 from t487) (show 0 ≤ a3.toInt from r488) (show a3.toInt ≤ 100000100 from t489) (show 0 ≤ a4.toInt from r490) (show a4.toInt ≤ 100000100 from t491) (show (-1) ≤ v59_5.toInt from r492) (show v59_5.toInt ≤ 9 from t493) (show 0 ≤ v59_6.toInt from r494) (show v59_6.toInt ≤ 9 by omega) (show 1 ≤ x538.toInt by omega) (show x538.toInt ≤ 10 by omega) (show 0 ≤ x548.toInt from rx548) (show x548.toInt ≤ 1 from tx548) (show (sumG 19 10 w483) ≤ (sumG 19 10 w1) by omega) (show (sumG 19 10 w1) ≤ (sumG 19 10 w483) by omega) (show (v59_5.toInt = -1 ∨ (gi w483 19 (v59_5.toInt).toNat).toInt = 0) by first | omega | assumption | (left; omega) | (left; decide) | (right; assumption) | (right; rw [c496]; omega) | (right; rw [c496]; decide) | (right; rw [c549]; omega) | (right; rw [c549]; decide))  hw hT hF c539 c496 c549 (lv_sub hl [0, 1, 2, 3, 4, 5, 6] rfl)
            · have c550 : x548.toInt = (0 : Int) := wk_eq.mp c550
              refine lv_aload_n hx hb dX12_reaches_80 rfl (lv_at hl 0 rfl) ?_
              refine tk_getA hC hK hw hT hinX12 kM_at0 (by decide) rfl 35 (by decide) (List.mem_cons_of_mem _ uw_7_8) rfl rfl dX12_reaches_81 ?_
              refine lv_iload hx hb dX12_reaches_84 (lv_at hl 6 rfl) ?_
              refine tk_iald hC hK hw hT kM_at18 rfl rfl (show 0 ≤ v59_6.toInt from r494) (show v59_6.toInt < 10 by omega) dX12_reaches_86 (fun x552 c553 rx552 tx552 => ?_)
              refine lv_ldcw (v := 100000000) hx hb hC.2.2.2.1 (hC.2.2.2.2 _ (List.mem_cons_of_mem _ uw_38_2)) dX12_reaches_87 ?_
              refine lv_icmp_ge (tgt := 119) hx hb dX12_reaches_90 (by decide) (fun c554 => ?_) (fun c554 => ?_)
              · have c554 : (100000000 : Int) ≤ x552.toInt := wk_le.mp c554
                have gb555 : 0 ≤ sumG 19 10 w483 ∧ sumG 19 10 w483 ≤ 10 := hT.sum (lo := 0) (hi := 1) kM_at19 rfl (by decide) rfl
                exact J119 v59_5 x538 x548 H locs ls w483 (show 0 ≤ a1.toInt from r484) (show a1.toInt ≤ 9 from t485) (show 0 ≤ a2.toInt from r486) (show a2.toInt ≤ 9 from t487) (show 0 ≤ a3.toInt from r488) (show a3.toInt ≤ 100000100 from t489) (show 0 ≤ a4.toInt from r490) (show a4.toInt ≤ 100000100 from t491) (show (-1) ≤ v59_5.toInt from r492) (show v59_5.toInt ≤ 9 from t493) (show 0 ≤ v59_6.toInt from r494) (show v59_6.toInt ≤ 9 by omega) (show 1 ≤ x538.toInt by omega) (show x538.toInt ≤ 10 by omega) (show 0 ≤ x548.toInt from rx548) (show x548.toInt ≤ 1 from tx548) (show (sumG 19 10 w483) ≤ (sumG 19 10 w1) by omega) (show (sumG 19 10 w1) ≤ (sumG 19 10 w483) by omega) (show (v59_5.toInt = -1 ∨ (gi w483 19 (v59_5.toInt).toNat).toInt = 0) by first | omega | assumption | (left; omega) | (left; decide) | (right; assumption) | (right; rw [c496]; omega) | (right; rw [c496]; decide) | (right; rw [c549]; omega) | (right; rw [c549]; decide))  hw hT hF c539 c496 c549 (lv_sub hl [0, 1, 2, 3, 4, 5, 6] rfl)
              · have c554 : x552.toInt < (100000000 : Int) := wk_leF c554
                refine lv_iload hx hb dX12_reaches_93 (lv_at hl 5 rfl) ?_
                refine lv_if_lt (tgt := 115) hx hb dX12_reaches_95 (by decide) (fun c556 => ?_) (fun c556 => ?_)
                · have c556 : v59_5.toInt < (0 : Int) := wk_lt.mp c556
                  have gb557 : 0 ≤ sumG 19 10 w483 ∧ sumG 19 10 w483 ≤ 10 := hT.sum (lo := 0) (hi := 1) kM_at19 rfl (by decide) rfl
                  obtain rfl : x548 = 0 := wk_eq.mpr (show x548.toInt = 0 by omega)
                  exact J115 x538 H locs ls w483 (show 0 ≤ a1.toInt from r484) (show a1.toInt ≤ 9 from t485) (show 0 ≤ a2.toInt from r486) (show a2.toInt ≤ 9 from t487) (show 0 ≤ a3.toInt from r488) (show a3.toInt ≤ 100000100 from t489) (show 0 ≤ a4.toInt from r490) (show a4.toInt ≤ 100000100 from t491) (show (-1) ≤ v59_5.toInt from r492) (show v59_5.toInt ≤ 9 from t493) (show 0 ≤ v59_6.toInt from r494) (show v59_6.toInt ≤ 9 by omega) (show 1 ≤ x538.toInt by omega) (show x538.toInt ≤ 10 by omega) (show (sumG 19 10 w483) ≤ (sumG 19 10 w1) by omega) (show (sumG 19 10 w1) ≤ (sumG 19 10 w483) by omega) (show (v59_5.toInt = -1 ∨ (gi w483 19 (v59_5.toInt).toNat).toInt = 0) by first | omega | assumption | (left; omega) | (left; decide) | (right; assumption) | (right; rw [c496]; omega) | (right; rw [c496]; decide) | (right; rw [c549]; omega) | (right; rw [c549]; decide))  hw hT hF c539 c496 c549 (lv_sub hl [0, 1, 2, 3, 4, 5, 6] rfl)
                · have c556 : (0 : Int) ≤ v59_5.toInt := wk_ltF c556
                  refine lv_aload_n hx hb dX12_reaches_98 rfl (lv_at hl 0 rfl) ?_
                  refine tk_getA hC hK hw hT hinX12 kM_at0 (by decide) rfl 35 (by decide) (List.mem_cons_of_mem _ uw_7_8) rfl rfl dX12_reaches_99 ?_
                  refine lv_iload hx hb dX12_reaches_102 (lv_at hl 6 rfl) ?_
                  refine tk_iald hC hK hw hT kM_at18 rfl rfl (show 0 ≤ v59_6.toInt from r494) (show v59_6.toInt < 10 by omega) dX12_reaches_104 (fun x558 c559 rx558 tx558 => ?_)
                  refine lv_aload_n hx hb dX12_reaches_105 rfl (lv_at hl 0 rfl) ?_
                  refine tk_getA hC hK hw hT hinX12 kM_at0 (by decide) rfl 35 (by decide) (List.mem_cons_of_mem _ uw_7_8) rfl rfl dX12_reaches_106 ?_
                  refine lv_iload hx hb dX12_reaches_109 (lv_at hl 5 rfl) ?_
                  refine tk_iald hC hK hw hT kM_at18 rfl rfl (show 0 ≤ v59_5.toInt from c556) (show v59_5.toInt < 10 from Int.lt_of_le_of_lt t493 (by decide)) dX12_reaches_111 (fun x560 c561 rx560 tx560 => ?_)
                  refine lv_icmp_ge (tgt := 119) hx hb dX12_reaches_112 (by decide) (fun c562 => ?_) (fun c562 => ?_)
                  · have c562 : x560.toInt ≤ x558.toInt := wk_le.mp c562
                    have gb563 : 0 ≤ sumG 19 10 w483 ∧ sumG 19 10 w483 ≤ 10 := hT.sum (lo := 0) (hi := 1) kM_at19 rfl (by decide) rfl
                    exact J119 v59_5 x538 x548 H locs ls w483 (show 0 ≤ a1.toInt from r484) (show a1.toInt ≤ 9 from t485) (show 0 ≤ a2.toInt from r486) (show a2.toInt ≤ 9 from t487) (show 0 ≤ a3.toInt from r488) (show a3.toInt ≤ 100000100 from t489) (show 0 ≤ a4.toInt from r490) (show a4.toInt ≤ 100000100 from t491) (show (-1) ≤ v59_5.toInt from r492) (show v59_5.toInt ≤ 9 from t493) (show 0 ≤ v59_6.toInt from r494) (show v59_6.toInt ≤ 9 by omega) (show 1 ≤ x538.toInt by omega) (show x538.toInt ≤ 10 by omega) (show 0 ≤ x548.toInt from rx548) (show x548.toInt ≤ 1 from tx548) (show (sumG 19 10 w483) ≤ (sumG 19 10 w1) by omega) (show (sumG 19 10 w1) ≤ (sumG 19 10 w483) by omega) (show (v59_5.toInt = -1 ∨ (gi w483 19 (v59_5.toInt).toNat).toInt = 0) by first | omega | assumption | (left; omega) | (left; decide) | (right; assumption) | (right; rw [c496]; omega) | (right; rw [c496]; decide) | (right; rw [c549]; omega) | (right; rw [c549]; decide))  hw hT hF c539 c496 c549 (lv_sub hl [0, 1, 2, 3, 4, 5, 6] rfl)
                  · have c562 : x558.toInt < x560.toInt := wk_leF c562
                    have gb564 : 0 ≤ sumG 19 10 w483 ∧ sumG 19 10 w483 ≤ 10 := hT.sum (lo := 0) (hi := 1) kM_at19 rfl (by decide) rfl
                    obtain rfl : x548 = 0 := wk_eq.mpr (show x548.toInt = 0 by omega)
                    exact J115 x538 H locs ls w483 (show 0 ≤ a1.toInt from r484) (show a1.toInt ≤ 9 from t485) (show 0 ≤ a2.toInt from r486) (show a2.toInt ≤ 9 from t487) (show 0 ≤ a3.toInt from r488) (show a3.toInt ≤ 100000100 from t489) (show 0 ≤ a4.toInt from r490) (show a4.toInt ≤ 100000100 from t491) (show (-1) ≤ v59_5.toInt from r492) (show v59_5.toInt ≤ 9 from t493) (show 0 ≤ v59_6.toInt from r494) (show v59_6.toInt ≤ 9 by omega) (show 1 ≤ x538.toInt by omega) (show x538.toInt ≤ 10 by omega) (show (sumG 19 10 w483) ≤ (sumG 19 10 w1) by omega) (show (sumG 19 10 w1) ≤ (sumG 19 10 w483) by omega) (show (v59_5.toInt = -1 ∨ (gi w483 19 (v59_5.toInt).toNat).toInt = 0) by first | omega | assumption | (left; omega) | (left; decide) | (right; assumption) | (right; rw [c496]; omega) | (right; rw [c496]; decide) | (right; rw [c549]; omega) | (right; rw [c549]; decide))  hw hT hF c539 c496 c549 (lv_sub hl [0, 1, 2, 3, 4, 5, 6] rfl)
      refine lv_aload_n hx hb dX12_reaches_44 rfl (lv_at hl 0 rfl) ?_
      refine tk_getA hC hK hw hT hinX12 kM_at0 (by decide) rfl 36 (by decide) (List.mem_cons_of_mem _ uw_7_9) rfl rfl dX12_reaches_45 ?_
      refine lv_iload_n hx hb dX12_reaches_48 rfl (lv_at hl 2 rfl) ?_
      refine tk_zald hC hK hw hT kM_at19 rfl rfl (show 0 ≤ a2.toInt from r4) (show a2.toInt < 10 from Int.lt_of_le_of_lt t5 (by decide)) dX12_reaches_49 (fun x565 c566 rx565 tx565 => ?_)
      have c566 : gi w1 19 (a2.toInt).toNat = x565 := (congrArg (gi w1 19) (congrArg Int.toNat (show a2.toInt = a2.toInt by omega))).trans c566
      refine lv_if_ne (tgt := 268) hx hb dX12_reaches_50 (by decide) (fun c567 => ?_) (fun c567 => ?_)
      · have c567 : ¬ x565.toInt = (0 : Int) := wk_eqF c567
        refine lv_aload_n hx hb dX12_reaches_268 rfl (lv_at hl 0 rfl) ?_
        refine tk_getA hC hK hw hT hinX12 kM_at0 (by decide) rfl 35 (by decide) (List.mem_cons_of_mem _ uw_7_8) rfl rfl dX12_reaches_269 ?_
        refine lv_iload_n hx hb dX12_reaches_272 rfl (lv_at hl 2 rfl) ?_
        refine tk_iald hC hK hw hT kM_at18 rfl rfl (show 0 ≤ a2.toInt from r4) (show a2.toInt < 10 from Int.lt_of_le_of_lt t5 (by decide)) dX12_reaches_273 (fun x568 c569 rx568 tx568 => ?_)
        exact tk_iret hC hr hlocks hK ⟨hT, hF, ⟨(show 0 ≤ x568.toInt from rx568), (show x568.toInt ≤ 100000100 from tx568)⟩⟩ hw dX12_reaches_274
      · have c567 : x565.toInt = (0 : Int) := wk_eq.mp c567
        refine lv_iconst (v := (-1)) hx hb dX12_reaches_53 (by decide) ?_
        refine lv_istore (lv' := [(5, .int (-1)), (0, .ref (ad 0)), (1, .int a1), (2, .int a2), (3, .int a3), (4, .int a4)]) hx hb dX12_reaches_54 hl (by decide) rfl (fun ls hl => ?_)
        refine lv_iconst (v := 0) hx hb dX12_reaches_56 (by decide) ?_
        refine lv_istore (lv' := [(6, .int 0), (5, .int (-1)), (0, .ref (ad 0)), (1, .int a1), (2, .int a2), (3, .int a3), (4, .int a4)]) hx hb dX12_reaches_57 hl (by decide) rfl (fun ls hl => ?_)
        have gb570 : 0 ≤ sumG 19 10 w1 ∧ sumG 19 10 w1 ≤ 10 := hT.sum (lo := 0) (hi := 1) kM_at19 rfl (by decide) rfl
        obtain rfl : x565 = 0 := wk_eq.mpr (show x565.toInt = 0 by omega)
        exact L59 ((10 - (0 : Int)).toNat + 1) (-1) 0 H locs ls w1 (show 0 ≤ a1.toInt from r2) (show a1.toInt ≤ 9 from t3) (show 0 ≤ a2.toInt from r4) (show a2.toInt ≤ 9 from t5) (show 0 ≤ a3.toInt from r6) (show a3.toInt ≤ 100000100 from t7) (show 0 ≤ a4.toInt from r8) (show a4.toInt ≤ 100000100 from t9) (by decide) (by decide) (by decide) (by decide) (show (sumG 19 10 w1) ≤ (sumG 19 10 w1) by omega) (show (sumG 19 10 w1) ≤ (sumG 19 10 w1) by omega) (show ((-1 : Int) = -1 ∨ (gi w1 19 ((-1 : Int)).toNat).toInt = 0) by first | omega | assumption | (left; omega) | (left; decide) | (right; assumption) | (right; rw [c566]; omega) | (right; rw [c566]; decide)) (Nat.lt_succ_self _) hw hT hF c566 (lv_sub hl [2, 3, 4, 5, 6, 1, 0] rfl)
  have L3 : ∀ (n3 : Nat) (v3_5 : Int32) (H : Heap) (locs : List Loc) (ls : Array Slot) (w571 : va_W), 0 ≤ a1.toInt → a1.toInt ≤ 9 → 0 ≤ a2.toInt → a2.toInt ≤ 9 → 0 ≤ a3.toInt → a3.toInt ≤ 100000100 → 0 ≤ a4.toInt → a4.toInt ≤ 100000100 → 0 ≤ v3_5.toInt → v3_5.toInt ≤ 10 → (10 - v3_5.toInt).toNat < n3 → Wd dC dI A s.heap H locs w571 → TW ksM ad cy B qr 12 w571 → FE ksM [(77, 0, 10), (78, 0, 10)] w0 w571 → lv_has ls 9 [(0, .ref (ad 0)), (1, .int a1), (2, .int a2), (3, .int a3), (4, .int a4), (5, .int v3_5)] → W p l e ({ frames := 5, cells := 0, slots := 0, locals := 105 }) s m (List.toArray [.ref (ad 0), .int a1, .int a2, .int a3, .int a4]) below meth c H locs 0 0 (MQ below (va_Qi (P_X12_reaches_2 ad cy B qr s1 a1 a2 a3 a4 w0) (fun u : va_W => wpost dC dI cy A u) A) (List.toArray [.ref (ad 0), .int a1, .int a2, .int a3, .int a4]) s 0 0 A) (F0 m 3 ls []) := by
    intro n3
    induction n3 with
    | zero => intro v3_5 H locs ls w571 r572 t573 r574 t575 r576 t577 r578 t579 r580 t581 hm3 hw hT hF hl; omega
    | succ n3 ih3 =>
      intro v3_5 H locs ls w571 r572 t573 r574 t575 r576 t577 r578 t579 r580 t581 hm3 hw hT hF hl
      refine lv_iload hx hb dX12_reaches_3 (lv_at hl 5 rfl) ?_
      refine lv_bipush (v := 10) hx hb dX12_reaches_5 (by decide) ?_
      refine lv_icmp_ge (tgt := 44) hx hb dX12_reaches_7 (by decide) (fun c582 => ?_) (fun c582 => ?_)
      · have c582 : (10 : Int) ≤ v3_5.toInt := wk_le.mp c582
        have gb583 : 0 ≤ sumG 19 10 w571 ∧ sumG 19 10 w571 ≤ 10 := hT.sum (lo := 0) (hi := 1) kM_at19 rfl (by decide) rfl
        exact L44 ((10 - (sumG 19 10 w571)).toNat + 1) v3_5 H locs ls w571 (show 0 ≤ a1.toInt from r572) (show a1.toInt ≤ 9 from t573) (show 0 ≤ a2.toInt from r574) (show a2.toInt ≤ 9 from t575) (show 0 ≤ a3.toInt from r576) (show a3.toInt ≤ 100000100 from t577) (show 0 ≤ a4.toInt from r578) (show a4.toInt ≤ 100000100 from t579) (show 0 ≤ v3_5.toInt from r580) (show v3_5.toInt ≤ 10 from t581) (show 0 ≤ (sumG 19 10 w571) by omega) (Nat.lt_succ_self _) hw hT hF  (lv_sub hl [0, 1, 2, 3, 4, 5] rfl)
      · have c582 : v3_5.toInt < (10 : Int) := wk_leF c582
        refine lv_aload_n hx hb dX12_reaches_10 rfl (lv_at hl 0 rfl) ?_
        refine tk_getA hC hK hw hT hinX12 kM_at0 (by decide) rfl 35 (by decide) (List.mem_cons_of_mem _ uw_7_8) rfl rfl dX12_reaches_11 ?_
        refine lv_iload hx hb dX12_reaches_14 (lv_at hl 5 rfl) ?_
        refine lv_iload hx hb dX12_reaches_16 (lv_at hl 5 rfl) ?_
        refine lv_iload_n hx hb dX12_reaches_18 rfl (lv_at hl 1 rfl) ?_
        refine lv_icmp_ne (tgt := 26) hx hb dX12_reaches_19 (by decide) (fun c584 => ?_) (fun c584 => ?_)
        · have c584 : ¬ v3_5.toInt = a1.toInt := wk_eqF c584
          refine lv_ldcw (v := 100000000) hx hb hC.2.2.2.1 (hC.2.2.2.2 _ (List.mem_cons_of_mem _ uw_38_2)) dX12_reaches_26 ?_
          refine tk_iast hC hK hw hT kM_at18 (by decide) rfl rfl (show 0 ≤ v3_5.toInt from r580) (show v3_5.toInt < 10 from c582) (by decide) (by decide) dX12_reaches_29 (fun H locs w585 hw hT k587 c586 => ?_)
          have gs588 : sumG 19 10 w585 = sumG 19 10 w571 := sumG_ne 10 k587 (tk_ne kM_at19 kM_at18 (by decide))
          have hF := hF.put kM_at18 (inE_of (a := 0) (b := 10) (by decide) (show 0 ≤ v3_5.toInt.toNat by omega) (show v3_5.toInt.toNat ≤ 10 by omega)) k587
          refine lv_aload_n hx hb dX12_reaches_30 rfl (lv_at hl 0 rfl) ?_
          refine tk_getA hC hK hw hT hinX12 kM_at0 (by decide) rfl 36 (by decide) (List.mem_cons_of_mem _ uw_7_9) rfl rfl dX12_reaches_31 ?_
          refine lv_iload hx hb dX12_reaches_34 (lv_at hl 5 rfl) ?_
          refine lv_iconst (v := 0) hx hb dX12_reaches_36 (by decide) ?_
          refine tk_zast hC hK hw hT kM_at19 (by decide) rfl rfl (show 0 ≤ v3_5.toInt from r580) (show v3_5.toInt < 10 from c582) (by decide) (by decide) dX12_reaches_37 (fun H locs w589 hw hT k591 c590 => ?_)
          have gs592 : sumG 19 10 w589 = sumG 19 10 w585 - (gi w585 19 (v3_5.toInt.toNat)).toInt + (gi w589 19 (v3_5.toInt.toNat)).toInt := sumG_up (i := v3_5.toInt.toNat) k591 10 (show v3_5.toInt.toNat < 10 by omega)
          rw [show gi w589 19 (v3_5.toInt.toNat) = 0 from c590] at gs592
          rw [show (0 : Int32).toInt = 0 by decide] at gs592
          have hF := hF.put kM_at19 (inE_of (a := 0) (b := 10) (by decide) (show 0 ≤ v3_5.toInt.toNat by omega) (show v3_5.toInt.toNat ≤ 10 by omega)) k591
          obtain ⟨x593, ex593⟩ : ∃ y : Int32, y = v3_5 + Int32.ofInt 1 := ⟨_, rfl⟩
          refine lv_iinc (v := x593) (lv' := [(5, .int x593), (0, .ref (ad 0)), (1, .int a1), (2, .int a2), (3, .int a3), (4, .int a4)]) hx hb dX12_reaches_38 hl (k := 5) rfl ex593.symm (by decide) rfl (fun ls hl => ?_)
          have ex593 : x593.toInt = v3_5.toInt + 1 := by rw [ex593]; exact wk_add (y := 1) (show -2147483648 ≤ v3_5.toInt + 1 by omega) (show v3_5.toInt + 1 ≤ 2147483647 by omega)
          refine lv_goto (tgt := 3) hx hb dX12_reaches_41 (by decide) ?_
          exact ih3 x593 H locs ls w589 (show 0 ≤ a1.toInt from r572) (show a1.toInt ≤ 9 from t573) (show 0 ≤ a2.toInt from r574) (show a2.toInt ≤ 9 from t575) (show 0 ≤ a3.toInt from r576) (show a3.toInt ≤ 100000100 from t577) (show 0 ≤ a4.toInt from r578) (show a4.toInt ≤ 100000100 from t579) (show 0 ≤ x593.toInt by omega) (show x593.toInt ≤ 10 by omega) (show (10 - x593.toInt).toNat < n3 by omega) hw hT hF  (lv_sub hl [1, 2, 3, 4, 5, 0] rfl)
        · have c584 : v3_5.toInt = a1.toInt := wk_eq.mp c584
          refine lv_iload_n hx hb dX12_reaches_22 rfl (lv_at hl 3 rfl) ?_
          refine lv_goto (tgt := 29) hx hb dX12_reaches_23 (by decide) ?_
          refine tk_iast hC hK hw hT kM_at18 (by decide) rfl rfl (show 0 ≤ v3_5.toInt from r580) (show v3_5.toInt < 10 from c582) (show 0 ≤ a3.toInt from r576) (show a3.toInt ≤ 100000100 from t577) dX12_reaches_29 (fun H locs w594 hw hT k596 c595 => ?_)
          have gs597 : sumG 19 10 w594 = sumG 19 10 w571 := sumG_ne 10 k596 (tk_ne kM_at19 kM_at18 (by decide))
          have hF := hF.put kM_at18 (inE_of (a := 0) (b := 10) (by decide) (show 0 ≤ v3_5.toInt.toNat by omega) (show v3_5.toInt.toNat ≤ 10 by omega)) k596
          refine lv_aload_n hx hb dX12_reaches_30 rfl (lv_at hl 0 rfl) ?_
          refine tk_getA hC hK hw hT hinX12 kM_at0 (by decide) rfl 36 (by decide) (List.mem_cons_of_mem _ uw_7_9) rfl rfl dX12_reaches_31 ?_
          refine lv_iload hx hb dX12_reaches_34 (lv_at hl 5 rfl) ?_
          refine lv_iconst (v := 0) hx hb dX12_reaches_36 (by decide) ?_
          refine tk_zast hC hK hw hT kM_at19 (by decide) rfl rfl (show 0 ≤ v3_5.toInt from r580) (show v3_5.toInt < 10 from c582) (by decide) (by decide) dX12_reaches_37 (fun H locs w598 hw hT k600 c599 => ?_)
          have gs601 : sumG 19 10 w598 = sumG 19 10 w594 - (gi w594 19 (v3_5.toInt.toNat)).toInt + (gi w598 19 (v3_5.toInt.toNat)).toInt := sumG_up (i := v3_5.toInt.toNat) k600 10 (show v3_5.toInt.toNat < 10 by omega)
          rw [show gi w598 19 (v3_5.toInt.toNat) = 0 from c599] at gs601
          rw [show (0 : Int32).toInt = 0 by decide] at gs601
          have hF := hF.put kM_at19 (inE_of (a := 0) (b := 10) (by decide) (show 0 ≤ v3_5.toInt.toNat by omega) (show v3_5.toInt.toNat ≤ 10 by omega)) k600
          obtain ⟨x602, ex602⟩ : ∃ y : Int32, y = v3_5 + Int32.ofInt 1 := ⟨_, rfl⟩
          refine lv_iinc (v := x602) (lv' := [(5, .int x602), (0, .ref (ad 0)), (1, .int a1), (2, .int a2), (3, .int a3), (4, .int a4)]) hx hb dX12_reaches_38 hl (k := 5) rfl ex602.symm (by decide) rfl (fun ls hl => ?_)
          have ex602 : x602.toInt = v3_5.toInt + 1 := by rw [ex602]; exact wk_add (y := 1) (show -2147483648 ≤ v3_5.toInt + 1 by omega) (show v3_5.toInt + 1 ≤ 2147483647 by omega)
          refine lv_goto (tgt := 3) hx hb dX12_reaches_41 (by decide) ?_
          exact ih3 x602 H locs ls w598 (show 0 ≤ a1.toInt from r572) (show a1.toInt ≤ 9 from t573) (show 0 ≤ a2.toInt from r574) (show a2.toInt ≤ 9 from t575) (show 0 ≤ a3.toInt from r576) (show a3.toInt ≤ 100000100 from t577) (show 0 ≤ a4.toInt from r578) (show a4.toInt ≤ 100000100 from t579) (show 0 ≤ x602.toInt by omega) (show x602.toInt ≤ 10 by omega) (show (10 - x602.toInt).toNat < n3 by omega) hw hT hF  (lv_sub hl [1, 2, 3, 4, 5, 0] rfl)
  refine lv_iconst (v := 0) hx hb dX12_reaches_0 (by decide) ?_
  refine lv_istore (lv' := [(5, .int 0), (0, .ref (ad 0)), (1, .int a1), (2, .int a2), (3, .int a3), (4, .int a4)]) hx hb dX12_reaches_1 hl (by decide) rfl (fun ls hl => ?_)
  exact L3 ((10 - (0 : Int)).toNat + 1) 0 s.heap locs ls w0 (show 0 ≤ a1.toInt from ra1) (show a1.toInt ≤ 9 from ta1) (show 0 ≤ a2.toInt from ra2) (show a2.toInt ≤ 9 from ta2) (show 0 ≤ a3.toInt from ra3) (show a3.toInt ≤ 100000100 from ta3) (show 0 ≤ a4.toInt from ra4) (show a4.toInt ≤ 100000100 from ta4) (by decide) (by decide) (Nat.lt_succ_self _) hw hT hF  (lv_sub hl [1, 2, 3, 4, 5, 0] rfl)
abbrev P_X12_wayFrom_1 (ad : Nat → Nat) (cy : Nat → ClassId) (B : Int) (qr : Nat) (s1 : Int) (a1 : Int32) (a2 : Int32) (a3 : Int32) (a4 : Int32) (w0 : va_W) : Int32 → va_W → Prop := fun r u => TW ksM ad cy B qr 12 u ∧ FE ksM [(12, 37, 37), (77, 0, 10), (78, 0, 10)] w0 u ∧ ((0 ≤ r.toInt ∧ r.toInt ≤ 11 ∧ a1.toInt ≤ 9 ∧ (∃ y : Int32, gi u 0 37 = y ∧ 0 ≤ y.toInt ∧ y.toInt ≤ 100000100) ∧ (∃ y : Int32, gi u 12 1 = y ∧ 1 ≤ y.toInt ∧ y.toInt ≤ 12) ∧ gi u 12 (10 * r.toInt + 10).toNat = a1 ∧ gi u 12 (10 * r.toInt + 11).toNat = a1) ∨ (0 ≤ r.toInt ∧ r.toInt ≤ 11 ∧ a1.toInt ≤ 9 ∧ (∃ y : Int32, gi u 0 37 = y ∧ 0 ≤ y.toInt ∧ y.toInt ≤ 100000100) ∧ (∃ y : Int32, gi u 12 1 = y ∧ 1 ≤ y.toInt ∧ y.toInt ≤ 12) ∧ gi u 12 (10 * r.toInt + 10).toNat = a1) ∨ (0 ≤ r.toInt ∧ r.toInt ≤ 11 ∧ a1.toInt ≤ 9 ∧ (∃ y : Int32, gi u 0 37 = y ∧ 0 ≤ y.toInt ∧ y.toInt ≤ 100000100) ∧ (∃ y : Int32, gi u 12 1 = y ∧ 1 ≤ y.toInt ∧ y.toInt ≤ 12) ∧ gi u 12 (10 * r.toInt + 11).toNat = a1) ∨ (r = (-1)))
set_option maxHeartbeats 4000000 in
set_option maxRecDepth 100000 in
theorem k_X12_wayFrom_1 (l : Launch) (adK adV : Nat → Nat) (dC : Nat → ClassId) (dI : Nat → Nat → Nat) (cy : Nat → ClassId) (ad : Nat → Nat) (B : Int) (hB0 : 100000 ≤ B) (hB1 : B ≤ 1073741824) (qr : Nat) (s1 : Int)  (a1 : Int32) (ra1 : 0 ≤ a1.toInt) (ta1 : a1.toInt ≤ 12) (a2 : Int32) (ra2 : 0 ≤ a2.toInt) (ta2 : a2.toInt ≤ 9) (a3 : Int32) (ra3 : 0 ≤ a3.toInt) (ta3 : a3.toInt ≤ 100000208) (a4 : Int32) (ra4 : 0 ≤ a4.toInt) (ta4 : a4.toInt ≤ 100000100) (w0 : va_W) (sz : Nat) (hT : TW ksM ad cy B qr 12 w0)  : Met l yX12_wayFrom (wu yX12_wayFrom cX12_wayFrom 6 (some .int)) ({ frames := 6, cells := 0, slots := 0, locals := 133 }) (va_Pc [.ref (ad 0), .int a1, .int a2, .int a3, .int a4] (wpreS adK adV dC dI cy sz w0)) (va_Qi (P_X12_wayFrom_1 ad cy B qr s1 a1 a2 a3 a4 w0) (fun u : va_W => wpost dC dI cy (va_A w0 sz) u) (va_A w0 sz)) 0 0 (va_A w0 sz) := by
  refine Met.ofW (cc := cX12_wayFrom) (maxL := 6) (ret := (some .int)) (by decide) rfl ?_
  intro p e s m args below meth c s₁ Bk hml hv
  obtain ⟨rfl, ⟨hsz, hP, hK, hD0⟩, hE, hSR⟩ := hv
  have hx := Bk.exec
  have hb := Bk.bytes
  have hr := Bk.returns
  have hlocks := Bk.notSynchronized
  have hC : CallFix p m c cX12_wayFrom 6 s _ (wu yX12_wayFrom cX12_wayFrom 6 (some .int)) RX12 := ⟨hx, hb, hml, findClass_of_methodNamed Bk.named, atoms_spec (ws := (wu yX12_wayFrom cX12_wayFrom 6 (some .int))) Bk.pre⟩
  subst hsz
  have hD := hD0.self (sz := s.heap.size)
  generalize hAe : va_A w0 s.heap.size = A at hD hE ⊢
  have hA : ∀ q : Nat, s.heap.size ≤ q → A q := fun q h => by rw [← hAe]; exact Or.inr h
  have hw : Wd dC dI A s.heap s.heap [] w0 := ⟨hP, hD, va_S.rf⟩
  have hF : FE ksM [(12, 37, 37), (77, 0, 10), (78, 0, 10)] w0 w0 := FE.rf
  have hl := lv_entry ([.ref (ad 0), .int a1, .int a2, .int a3, .int a4]) (n := 6) (Nat.le_of_ble_eq_true rfl)
  rw [lg_entry_eq]
  generalize (lg_sl ([.ref (ad 0), .int a1, .int a2, .int a3, .int a4]) ++ List.replicate (6 - (lg_sl ([.ref (ad 0), .int a1, .int a2, .int a3, .int a4])).length) Slot.unset).toArray = ls at hl ⊢
  have hl : lv_has ls 6 [(0, .ref (ad 0)), (1, .int a1), (2, .int a2), (3, .int a3), (4, .int a4)] := hl
  generalize hloc : ([] : List Loc) = locs at hw ⊢
  have hinX12 : ∀ w ∈ u_ws RX12 TX12 42, w ∈ (wu yX12_wayFrom cX12_wayFrom 6 (some .int)) := fun _ h => List.mem_cons_of_mem _ (up_71 h)
  have L3 : ∀ (n3 : Nat) (v3_5 : Int32) (H : Heap) (locs : List Loc) (ls : Array Slot) (w1 : va_W), 0 ≤ a1.toInt → a1.toInt ≤ 12 → 0 ≤ a2.toInt → a2.toInt ≤ 9 → 0 ≤ a3.toInt → a3.toInt ≤ 100000208 → 0 ≤ a4.toInt → a4.toInt ≤ 100000100 → 0 ≤ v3_5.toInt → v3_5.toInt ≤ 12 → (12 - v3_5.toInt).toNat < n3 → Wd dC dI A s.heap H locs w1 → TW ksM ad cy B qr 12 w1 → FE ksM [(12, 37, 37), (77, 0, 10), (78, 0, 10)] w0 w1 → lv_has ls 6 [(0, .ref (ad 0)), (1, .int a1), (2, .int a2), (3, .int a3), (4, .int a4), (5, .int v3_5)] → W p l e ({ frames := 6, cells := 0, slots := 0, locals := 133 }) s m (List.toArray [.ref (ad 0), .int a1, .int a2, .int a3, .int a4]) below meth c H locs 0 0 (MQ below (va_Qi (P_X12_wayFrom_1 ad cy B qr s1 a1 a2 a3 a4 w0) (fun u : va_W => wpost dC dI cy A u) A) (List.toArray [.ref (ad 0), .int a1, .int a2, .int a3, .int a4]) s 0 0 A) (F0 m 3 ls []) := by
    intro n3
    induction n3 with
    | zero => intro v3_5 H locs ls w1 r2 t3 r4 t5 r6 t7 r8 t9 r10 t11 hm3 hw hT hF hl; omega
    | succ n3 ih3 =>
      intro v3_5 H locs ls w1 r2 t3 r4 t5 r6 t7 r8 t9 r10 t11 hm3 hw hT hF hl
      have J105 : ∀ (f105_12_1 : Int32) (H : Heap) (locs : List Loc) (ls : Array Slot) (w12 : va_W), 0 ≤ a1.toInt → a1.toInt ≤ 12 → 0 ≤ a2.toInt → a2.toInt ≤ 9 → 0 ≤ a3.toInt → a3.toInt ≤ 100000208 → 0 ≤ a4.toInt → a4.toInt ≤ 100000100 → 0 ≤ v3_5.toInt → v3_5.toInt ≤ 11 → 1 ≤ f105_12_1.toInt → f105_12_1.toInt ≤ 12 → Wd dC dI A s.heap H locs w12 → TW ksM ad cy B qr 12 w12 → FE ksM [(12, 37, 37), (77, 0, 10), (78, 0, 10)] w0 w12 → gi w12 12 1 = f105_12_1 → lv_has ls 6 [(0, .ref (ad 0)), (1, .int a1), (2, .int a2), (3, .int a3), (4, .int a4), (5, .int v3_5)] → W p l e ({ frames := 6, cells := 0, slots := 0, locals := 133 }) s m (List.toArray [.ref (ad 0), .int a1, .int a2, .int a3, .int a4]) below meth c H locs 0 0 (MQ below (va_Qi (P_X12_wayFrom_1 ad cy B qr s1 a1 a2 a3 a4 w0) (fun u : va_W => wpost dC dI cy A u) A) (List.toArray [.ref (ad 0), .int a1, .int a2, .int a3, .int a4]) s 0 0 A) (F0 m 105 ls []) := by
        intro f105_12_1 H locs ls w12 r13 t14 r15 t16 r17 t18 r19 t20 r21 t22 r23 t24 hw hT hF c25 hl
        obtain ⟨x26, ex26⟩ : ∃ y : Int32, y = v3_5 + Int32.ofInt 1 := ⟨_, rfl⟩
        refine lv_iinc (v := x26) (lv' := [(5, .int x26), (0, .ref (ad 0)), (1, .int a1), (2, .int a2), (3, .int a3), (4, .int a4)]) hx hb dX12_wayFrom_105 hl (k := 5) rfl ex26.symm (by decide) rfl (fun ls hl => ?_)
        have ex26 : x26.toInt = v3_5.toInt + 1 := by rw [ex26]; exact wk_add (y := 1) (show -2147483648 ≤ v3_5.toInt + 1 by omega) (show v3_5.toInt + 1 ≤ 2147483647 by omega)
        refine lv_goto (tgt := 3) hx hb dX12_wayFrom_108 (by decide) ?_
        exact ih3 x26 H locs ls w12 (show 0 ≤ a1.toInt from r13) (show a1.toInt ≤ 12 from t14) (show 0 ≤ a2.toInt from r15) (show a2.toInt ≤ 9 from t16) (show 0 ≤ a3.toInt from r17) (show a3.toInt ≤ 100000208 from t18) (show 0 ≤ a4.toInt from r19) (show a4.toInt ≤ 100000100 from t20) (show 0 ≤ x26.toInt by omega) (show x26.toInt ≤ 12 by omega) (show (12 - x26.toInt).toNat < n3 by omega) hw hT hF  (lv_sub hl [1, 2, 3, 4, 5, 0] rfl)
      refine lv_iload hx hb dX12_wayFrom_3 (lv_at hl 5 rfl) ?_
      refine lv_aload_n hx hb dX12_wayFrom_5 rfl (lv_at hl 0 rfl) ?_
      refine tk_getA hC hK hw hT hinX12 kM_at0 (by decide) rfl 26 (by decide) (List.mem_cons_of_mem _ uw_7_1) rfl rfl dX12_wayFrom_6 ?_
      refine lv_iconst (v := 1) hx hb dX12_wayFrom_9 (by decide) ?_
      refine tk_ialdR hC hK hw hT kM_at12 rfl (by decide) (by decide) dX12_wayFrom_10 (fun x27 c28 Ex27 => ?_)
      have bx27 : 0 ≤ x27.toInt ∧ x27.toInt ≤ 12 := (tk_rg1 rfl).mp Ex27
      have c28 : gi w1 12 1 = x27 := c28
      refine lv_icmp_ge (tgt := 111) hx hb dX12_wayFrom_11 (by decide) (fun c29 => ?_) (fun c29 => ?_)
      · have c29 : x27.toInt ≤ v3_5.toInt := wk_le.mp c29
        refine lv_iconst (v := (-1)) hx hb dX12_wayFrom_111 (by decide) ?_
        exact tk_iret hC hr hlocks hK ⟨hT, hF, (Or.inr (Or.inr (Or.inr rfl)))⟩ hw dX12_wayFrom_112
      · have c29 : v3_5.toInt < x27.toInt := wk_leF c29
        refine lv_aload_n hx hb dX12_wayFrom_14 rfl (lv_at hl 0 rfl) ?_
        refine lv_iload hx hb dX12_wayFrom_15 (lv_at hl 5 rfl) ?_
        refine lv_iload_n hx hb dX12_wayFrom_17 rfl (lv_at hl 1 rfl) ?_
        refine tk_Vi hC hK hw hT hA hE hSR kM_at0 (by decide) rfl (k_X12_isAt_2 l adK adV dC dI cy ad B (by omega) (by omega) qr s1   v3_5 (show 0 ≤ v3_5.toInt from r10) (show v3_5.toInt ≤ 11 by omega) a1 (show 0 ≤ a1.toInt from r2) (show a1.toInt ≤ 12 from t3) w1 H.size hT ) (cwV 2 hC.2.2.2.2 uV_RX12_314 rfl rfl rfl (by decide +kernel) ⟨Nat.le_of_ble_eq_true rfl, Nat.le_of_ble_eq_true rfl⟩) rfl hl.1 rfl (Nat.le_of_ble_eq_true rfl) dX12_wayFrom_18 (fun r30 w32 H locs hp31 hw => ?_)
        obtain ⟨rfl, hg41⟩ := hp31
        rcases hg41 with ⟨rfl, hq34⟩ | ⟨rfl, g35, c36, hq37⟩ | ⟨rfl, g38, c39, hq40⟩
        · refine lv_if_ne (tgt := 27) hx hb dX12_wayFrom_21 (by decide) (fun c => absurd (by decide) c) (fun _ => ?_)
          refine lv_goto (tgt := 105) hx hb dX12_wayFrom_24 (by decide) ?_
          exact J105 x27 H locs ls w1 (show 0 ≤ a1.toInt from r2) (show a1.toInt ≤ 12 from t3) (show 0 ≤ a2.toInt from r4) (show a2.toInt ≤ 9 from t5) (show 0 ≤ a3.toInt from r6) (show a3.toInt ≤ 100000208 from t7) (show 0 ≤ a4.toInt from r8) (show a4.toInt ≤ 100000100 from t9) (show 0 ≤ v3_5.toInt from r10) (show v3_5.toInt ≤ 11 by omega) (show 1 ≤ x27.toInt by omega) (show x27.toInt ≤ 12 by omega)  hw hT hF c28 (lv_sub hl [0, 1, 2, 3, 4, 5] rfl)
        · refine lv_if_ne (tgt := 27) hx hb dX12_wayFrom_21 (by decide) (fun _ => ?_) (fun c => absurd c (by decide))
          refine lv_aload_n hx hb dX12_wayFrom_27 rfl (lv_at hl 0 rfl) ?_
          refine lv_aload_n hx hb dX12_wayFrom_28 rfl (lv_at hl 0 rfl) ?_
          refine lv_iload hx hb dX12_wayFrom_29 (lv_at hl 5 rfl) ?_
          refine lv_iload_n hx hb dX12_wayFrom_31 rfl (lv_at hl 1 rfl) ?_
          refine lv_iload_n hx hb dX12_wayFrom_32 rfl (lv_at hl 3 rfl) ?_
          refine lv_iload hx hb dX12_wayFrom_33 (lv_at hl 4 rfl) ?_
          refine tk_Vi hC hK hw hT hA hE hSR kM_at0 (by decide) rfl (k_X12_firstOpen_2 l adK adV dC dI cy ad B (by omega) (by omega) qr s1   v3_5 (show 0 ≤ v3_5.toInt from r10) (show v3_5.toInt ≤ 11 by omega) a1 (show 0 ≤ a1.toInt from r2) (show a1.toInt ≤ 9 by omega) a3 (show 0 ≤ a3.toInt from r6) (show a3.toInt ≤ 100000208 from t7) a4 (show 0 ≤ a4.toInt from r8) (show a4.toInt ≤ 100000100 from t9) w1 H.size hT ) (cwV 4 hC.2.2.2.2 uV_RX12_449 rfl rfl rfl (by decide +kernel) ⟨Nat.le_of_ble_eq_true rfl, Nat.le_of_ble_eq_true rfl⟩) rfl hl.1 rfl (Nat.le_of_ble_eq_true rfl) dX12_wayFrom_35 (fun r42 w44 H locs hp43 hw => ?_)
          obtain ⟨rfl, hg51⟩ := hp43
          rcases hg51 with ⟨g46, g47⟩ | ⟨g48, g49, c50⟩
          · refine tk_puti hC hK hw hT hinX12 tyX12_ok nmX12 kM_at0 (by decide) rfl rfl 37 (by decide) (List.mem_cons_of_mem _ uw_52_21) rfl rfl rfl rfl (show 0 ≤ r42.toInt by omega) (show r42.toInt ≤ 100000200 by omega) dX12_wayFrom_38 (fun H locs w52 hw hT k54 c53 => ?_)
            have hF := hF.put kM_at0 (k := 37) (by decide) k54
            have c55 := k54.gi (Or.inr (by decide)) c28
            have c56 := k54.gi (Or.inl (tk_ne kM_at12 kM_at0 (by decide))) c36
            refine lv_aload_n hx hb dX12_wayFrom_41 rfl (lv_at hl 0 rfl) ?_
            refine tk_geti hC hK hw hT hinX12 kM_at0 (by decide) rfl 37 (by decide) (List.mem_cons_of_mem _ uw_52_21) rfl rfl dX12_wayFrom_42 (fun x57 c58 rx57 tx57 => ?_)
            refine wk_top r42 (c58.symm.trans c53) ?_
            refine lv_ldcw (v := 100000000) hx hb hC.2.2.2.1 (hC.2.2.2.2 _ (List.mem_cons_of_mem _ uw_38_2)) dX12_wayFrom_45 ?_
            refine lv_icmp_eq (tgt := 105) hx hb dX12_wayFrom_48 (by decide) (fun c59 => ?_) (fun c59 => ?_)
            · have c59 : r42.toInt = (100000000 : Int) := wk_eq.mp c59
              exact J105 x27 H locs ls w52 (show 0 ≤ a1.toInt from r2) (show a1.toInt ≤ 12 from t3) (show 0 ≤ a2.toInt from r4) (show a2.toInt ≤ 9 from t5) (show 0 ≤ a3.toInt from r6) (show a3.toInt ≤ 100000208 from t7) (show 0 ≤ a4.toInt from r8) (show a4.toInt ≤ 100000100 from t9) (show 0 ≤ v3_5.toInt from r10) (show v3_5.toInt ≤ 11 by omega) (show 1 ≤ x27.toInt by omega) (show x27.toInt ≤ 12 by omega)  hw hT hF c55 (lv_sub hl [0, 1, 2, 3, 4, 5] rfl)
            · have c59 : ¬ r42.toInt = (100000000 : Int) := wk_eqF c59
              refine lv_aload_n hx hb dX12_wayFrom_51 rfl (lv_at hl 0 rfl) ?_
              refine tk_geti hC hK hw hT hinX12 kM_at0 (by decide) rfl 37 (by decide) (List.mem_cons_of_mem _ uw_52_21) rfl rfl dX12_wayFrom_52 (fun x60 c61 rx60 tx60 => ?_)
              refine wk_top r42 (c61.symm.trans c53) ?_
              refine lv_aload_n hx hb dX12_wayFrom_55 rfl (lv_at hl 0 rfl) ?_
              refine lv_iload hx hb dX12_wayFrom_56 (lv_at hl 5 rfl) ?_
              refine lv_iconst (v := 2) hx hb dX12_wayFrom_58 (by decide) ?_
              refine tk_Vi hC hK hw hT hA hE hSR kM_at0 (by decide) rfl (k_X12_streetOf_6 l adK adV dC dI cy ad B (by omega) (by omega) qr s1   v3_5 (show 0 ≤ v3_5.toInt from r10) (show v3_5.toInt ≤ 11 by omega) w52 H.size hT ) (cwV 2 hC.2.2.2.2 uV_RX12_300 rfl rfl rfl (by decide +kernel) ⟨Nat.le_of_ble_eq_true rfl, Nat.le_of_ble_eq_true rfl⟩) rfl hl.1 rfl (Nat.le_of_ble_eq_true rfl) dX12_wayFrom_59 (fun r62 w64 H locs hp63 hw => ?_)
              obtain ⟨rfl, hg69⟩ := hp63
              obtain ⟨g66, g67, c68⟩ := hg69
              refine lv_iadd hx hb dX12_wayFrom_62 ?_
              refine lv_topi (fun x70 ex70 => ?_)
              have ex70 : x70.toInt = r42.toInt + r62.toInt := by rw [ex70]; exact wk_add (show (-2147483648) ≤ r42.toInt + r62.toInt by omega) (show r42.toInt + r62.toInt ≤ 2147483647 by omega)
              refine lv_iload hx hb dX12_wayFrom_63 (lv_at hl 4 rfl) ?_
              refine lv_icmp_le (tgt := 71) hx hb dX12_wayFrom_65 (by decide) (fun c71 => ?_) (fun c71 => ?_)
              · have c71 : x70.toInt ≤ a4.toInt := wk_le.mp c71
                refine lv_aload_n hx hb dX12_wayFrom_71 rfl (lv_at hl 0 rfl) ?_
                refine lv_aload_n hx hb dX12_wayFrom_72 rfl (lv_at hl 0 rfl) ?_
                refine lv_iload hx hb dX12_wayFrom_73 (lv_at hl 5 rfl) ?_
                refine lv_iload_n hx hb dX12_wayFrom_75 rfl (lv_at hl 1 rfl) ?_
                refine tk_Vi hC hK hw hT hA hE hSR kM_at0 (by decide) rfl (k_X12_otherOf_1 l adK adV dC dI cy ad B (by omega) (by omega) qr s1   v3_5 (show 0 ≤ v3_5.toInt from r10) (show v3_5.toInt ≤ 11 by omega) a1 (show 0 ≤ a1.toInt from r2) (show a1.toInt ≤ 9 by omega) w52 H.size hT ) (cwV 2 hC.2.2.2.2 uV_RX12_348 rfl rfl rfl (by decide +kernel) ⟨Nat.le_of_ble_eq_true rfl, Nat.le_of_ble_eq_true rfl⟩) rfl hl.1 rfl (Nat.le_of_ble_eq_true rfl) dX12_wayFrom_76 (fun r72 w74 H locs hp73 hw => ?_)
                obtain ⟨rfl, hg81⟩ := hp73
                rcases hg81 with ⟨g76, g77⟩ | ⟨g78, g79, c80⟩
                · refine lv_iload_n hx hb dX12_wayFrom_79 rfl (lv_at hl 2 rfl) ?_
                  refine lv_aload_n hx hb dX12_wayFrom_80 rfl (lv_at hl 0 rfl) ?_
                  refine tk_geti hC hK hw hT hinX12 kM_at0 (by decide) rfl 37 (by decide) (List.mem_cons_of_mem _ uw_52_21) rfl rfl dX12_wayFrom_81 (fun x82 c83 rx82 tx82 => ?_)
                  refine wk_top r42 (c83.symm.trans c53) ?_
                  refine lv_aload_n hx hb dX12_wayFrom_84 rfl (lv_at hl 0 rfl) ?_
                  refine lv_iload hx hb dX12_wayFrom_85 (lv_at hl 5 rfl) ?_
                  refine lv_iconst (v := 2) hx hb dX12_wayFrom_87 (by decide) ?_
                  refine tk_Vi hC hK hw hT hA hE hSR kM_at0 (by decide) rfl (k_X12_streetOf_6 l adK adV dC dI cy ad B (by omega) (by omega) qr s1   v3_5 (show 0 ≤ v3_5.toInt from r10) (show v3_5.toInt ≤ 11 by omega) w52 H.size hT ) (cwV 2 hC.2.2.2.2 uV_RX12_300 rfl rfl rfl (by decide +kernel) ⟨Nat.le_of_ble_eq_true rfl, Nat.le_of_ble_eq_true rfl⟩) rfl hl.1 rfl (Nat.le_of_ble_eq_true rfl) dX12_wayFrom_88 (fun r84 w86 H locs hp85 hw => ?_)
                  obtain ⟨rfl, hg91⟩ := hp85
                  obtain ⟨g88, g89, c90⟩ := hg91
                  obtain rfl : r62 = r84 := c68.symm.trans c90
                  refine lv_iadd hx hb dX12_wayFrom_91 ?_
                  refine lv_topi (fun x92 ex92 => ?_)
                  have ex92 : x92.toInt = r42.toInt + r62.toInt := by rw [ex92]; exact wk_add (show (-2147483648) ≤ r42.toInt + r62.toInt by omega) (show r42.toInt + r62.toInt ≤ 2147483647 by omega)
                  refine lv_iload hx hb dX12_wayFrom_92 (lv_at hl 4 rfl) ?_
                  refine tk_Vi hC hK hw hT hA hE hSR kM_at0 (by decide) rfl (k_X12_reaches_2 l adK adV dC dI cy ad B (by omega) (by omega) qr s1   r72 (show 0 ≤ r72.toInt by omega) (show r72.toInt ≤ 9 by omega) a2 (show 0 ≤ a2.toInt from r4) (show a2.toInt ≤ 9 from t5) x92 (show 0 ≤ x92.toInt by omega) (show x92.toInt ≤ 100000100 by omega) a4 (show 0 ≤ a4.toInt from r8) (show a4.toInt ≤ 100000100 from t9) w52 H.size hT ) (cwV 4 hC.2.2.2.2 uV_RX12_456 rfl rfl rfl (by decide +kernel) ⟨Nat.le_of_ble_eq_true rfl, Nat.le_of_ble_eq_true rfl⟩) rfl hl.1 rfl (Nat.le_of_ble_eq_true rfl) dX12_wayFrom_94 (fun r93 w95 H locs hp94 hw => ?_)
                  obtain ⟨hT, k96, hg99⟩ := hp94
                  have hF := hF.tr k96 (by decide)
                  have c100 := k96.gi kM_at12 (by decide) c55
                  have c101 := k96.gi kM_at12 rfl c56
                  have c102 := k96.gi kM_at0 (by decide) c53
                  have c103 := k96.gi kM_at12 rfl c68
                  obtain ⟨g97, g98⟩ := hg99
                  refine lv_iload hx hb dX12_wayFrom_97 (lv_at hl 4 rfl) ?_
                  refine lv_icmp_ne (tgt := 105) hx hb dX12_wayFrom_99 (by decide) (fun c104 => ?_) (fun c104 => ?_)
                  · have c104 : ¬ r93.toInt = a4.toInt := wk_eqF c104
                    exact J105 x27 H locs ls w95 (show 0 ≤ a1.toInt from r2) (show a1.toInt ≤ 12 from t3) (show 0 ≤ a2.toInt from r4) (show a2.toInt ≤ 9 from t5) (show 0 ≤ a3.toInt from r6) (show a3.toInt ≤ 100000208 from t7) (show 0 ≤ a4.toInt from r8) (show a4.toInt ≤ 100000100 from t9) (show 0 ≤ v3_5.toInt from r10) (show v3_5.toInt ≤ 11 by omega) (show 1 ≤ x27.toInt by omega) (show x27.toInt ≤ 12 by omega)  hw hT hF c100 (lv_sub hl [0, 1, 2, 3, 4, 5] rfl)
                  · have c104 : r93.toInt = a4.toInt := wk_eq.mp c104
                    refine lv_iload hx hb dX12_wayFrom_102 (lv_at hl 5 rfl) ?_
                    exact tk_iret hC hr hlocks hK ⟨hT, hF, (Or.inr (Or.inl ⟨(show 0 ≤ v3_5.toInt from r10), (show v3_5.toInt ≤ 11 by omega), (show a1.toInt ≤ 9 by omega), ⟨r42, c102, (show 0 ≤ r42.toInt by omega), (show r42.toInt ≤ 100000100 by omega)⟩, ⟨x27, c100, (show 1 ≤ x27.toInt by omega), (show x27.toInt ≤ 12 by omega)⟩, c101⟩))⟩ hw dX12_wayFrom_104
                · refine lv_iload_n hx hb dX12_wayFrom_79 rfl (lv_at hl 2 rfl) ?_
                  refine lv_aload_n hx hb dX12_wayFrom_80 rfl (lv_at hl 0 rfl) ?_
                  refine tk_geti hC hK hw hT hinX12 kM_at0 (by decide) rfl 37 (by decide) (List.mem_cons_of_mem _ uw_52_21) rfl rfl dX12_wayFrom_81 (fun x105 c106 rx105 tx105 => ?_)
                  refine wk_top r42 (c106.symm.trans c53) ?_
                  refine lv_aload_n hx hb dX12_wayFrom_84 rfl (lv_at hl 0 rfl) ?_
                  refine lv_iload hx hb dX12_wayFrom_85 (lv_at hl 5 rfl) ?_
                  refine lv_iconst (v := 2) hx hb dX12_wayFrom_87 (by decide) ?_
                  refine tk_Vi hC hK hw hT hA hE hSR kM_at0 (by decide) rfl (k_X12_streetOf_6 l adK adV dC dI cy ad B (by omega) (by omega) qr s1   v3_5 (show 0 ≤ v3_5.toInt from r10) (show v3_5.toInt ≤ 11 by omega) w52 H.size hT ) (cwV 2 hC.2.2.2.2 uV_RX12_300 rfl rfl rfl (by decide +kernel) ⟨Nat.le_of_ble_eq_true rfl, Nat.le_of_ble_eq_true rfl⟩) rfl hl.1 rfl (Nat.le_of_ble_eq_true rfl) dX12_wayFrom_88 (fun r107 w109 H locs hp108 hw => ?_)
                  obtain ⟨rfl, hg114⟩ := hp108
                  obtain ⟨g111, g112, c113⟩ := hg114
                  obtain rfl : r62 = r107 := c68.symm.trans c113
                  refine lv_iadd hx hb dX12_wayFrom_91 ?_
                  refine lv_topi (fun x115 ex115 => ?_)
                  have ex115 : x115.toInt = r42.toInt + r62.toInt := by rw [ex115]; exact wk_add (show (-2147483648) ≤ r42.toInt + r62.toInt by omega) (show r42.toInt + r62.toInt ≤ 2147483647 by omega)
                  refine lv_iload hx hb dX12_wayFrom_92 (lv_at hl 4 rfl) ?_
                  refine tk_Vi hC hK hw hT hA hE hSR kM_at0 (by decide) rfl (k_X12_reaches_2 l adK adV dC dI cy ad B (by omega) (by omega) qr s1   r72 (show 0 ≤ r72.toInt by omega) (show r72.toInt ≤ 9 by omega) a2 (show 0 ≤ a2.toInt from r4) (show a2.toInt ≤ 9 from t5) x115 (show 0 ≤ x115.toInt by omega) (show x115.toInt ≤ 100000100 by omega) a4 (show 0 ≤ a4.toInt from r8) (show a4.toInt ≤ 100000100 from t9) w52 H.size hT ) (cwV 4 hC.2.2.2.2 uV_RX12_456 rfl rfl rfl (by decide +kernel) ⟨Nat.le_of_ble_eq_true rfl, Nat.le_of_ble_eq_true rfl⟩) rfl hl.1 rfl (Nat.le_of_ble_eq_true rfl) dX12_wayFrom_94 (fun r116 w118 H locs hp117 hw => ?_)
                  obtain ⟨hT, k119, hg122⟩ := hp117
                  have hF := hF.tr k119 (by decide)
                  have c123 := k119.gi kM_at12 (by decide) c55
                  have c124 := k119.gi kM_at12 rfl c56
                  have c125 := k119.gi kM_at0 (by decide) c53
                  have c126 := k119.gi kM_at12 rfl c68
                  obtain ⟨g120, g121⟩ := hg122
                  refine lv_iload hx hb dX12_wayFrom_97 (lv_at hl 4 rfl) ?_
                  refine lv_icmp_ne (tgt := 105) hx hb dX12_wayFrom_99 (by decide) (fun c127 => ?_) (fun c127 => ?_)
                  · have c127 : ¬ r116.toInt = a4.toInt := wk_eqF c127
                    exact J105 x27 H locs ls w118 (show 0 ≤ a1.toInt from r2) (show a1.toInt ≤ 12 from t3) (show 0 ≤ a2.toInt from r4) (show a2.toInt ≤ 9 from t5) (show 0 ≤ a3.toInt from r6) (show a3.toInt ≤ 100000208 from t7) (show 0 ≤ a4.toInt from r8) (show a4.toInt ≤ 100000100 from t9) (show 0 ≤ v3_5.toInt from r10) (show v3_5.toInt ≤ 11 by omega) (show 1 ≤ x27.toInt by omega) (show x27.toInt ≤ 12 by omega)  hw hT hF c123 (lv_sub hl [0, 1, 2, 3, 4, 5] rfl)
                  · have c127 : r116.toInt = a4.toInt := wk_eq.mp c127
                    refine lv_iload hx hb dX12_wayFrom_102 (lv_at hl 5 rfl) ?_
                    exact tk_iret hC hr hlocks hK ⟨hT, hF, (Or.inr (Or.inl ⟨(show 0 ≤ v3_5.toInt from r10), (show v3_5.toInt ≤ 11 by omega), (show a1.toInt ≤ 9 by omega), ⟨r42, c125, (show 0 ≤ r42.toInt by omega), (show r42.toInt ≤ 100000100 by omega)⟩, ⟨x27, c123, (show 1 ≤ x27.toInt by omega), (show x27.toInt ≤ 12 by omega)⟩, c124⟩))⟩ hw dX12_wayFrom_104
              · have c71 : a4.toInt < x70.toInt := wk_leF c71
                refine lv_goto (tgt := 105) hx hb dX12_wayFrom_68 (by decide) ?_
                exact J105 x27 H locs ls w52 (show 0 ≤ a1.toInt from r2) (show a1.toInt ≤ 12 from t3) (show 0 ≤ a2.toInt from r4) (show a2.toInt ≤ 9 from t5) (show 0 ≤ a3.toInt from r6) (show a3.toInt ≤ 100000208 from t7) (show 0 ≤ a4.toInt from r8) (show a4.toInt ≤ 100000100 from t9) (show 0 ≤ v3_5.toInt from r10) (show v3_5.toInt ≤ 11 by omega) (show 1 ≤ x27.toInt by omega) (show x27.toInt ≤ 12 by omega)  hw hT hF c55 (lv_sub hl [0, 1, 2, 3, 4, 5] rfl)
          · refine tk_puti hC hK hw hT hinX12 tyX12_ok nmX12 kM_at0 (by decide) rfl rfl 37 (by decide) (List.mem_cons_of_mem _ uw_52_21) rfl rfl rfl rfl (show 0 ≤ r42.toInt by omega) (show r42.toInt ≤ 100000200 by omega) dX12_wayFrom_38 (fun H locs w128 hw hT k130 c129 => ?_)
            have hF := hF.put kM_at0 (k := 37) (by decide) k130
            have c131 := k130.gi (Or.inr (by decide)) c28
            have c132 := k130.gi (Or.inl (tk_ne kM_at12 kM_at0 (by decide))) c36
            refine lv_aload_n hx hb dX12_wayFrom_41 rfl (lv_at hl 0 rfl) ?_
            refine tk_geti hC hK hw hT hinX12 kM_at0 (by decide) rfl 37 (by decide) (List.mem_cons_of_mem _ uw_52_21) rfl rfl dX12_wayFrom_42 (fun x133 c134 rx133 tx133 => ?_)
            refine wk_top r42 (c134.symm.trans c129) ?_
            refine lv_ldcw (v := 100000000) hx hb hC.2.2.2.1 (hC.2.2.2.2 _ (List.mem_cons_of_mem _ uw_38_2)) dX12_wayFrom_45 ?_
            refine lv_icmp_eq (tgt := 105) hx hb dX12_wayFrom_48 (by decide) (fun c135 => ?_) (fun c135 => ?_)
            · have c135 : r42.toInt = (100000000 : Int) := wk_eq.mp c135
              exact J105 x27 H locs ls w128 (show 0 ≤ a1.toInt from r2) (show a1.toInt ≤ 12 from t3) (show 0 ≤ a2.toInt from r4) (show a2.toInt ≤ 9 from t5) (show 0 ≤ a3.toInt from r6) (show a3.toInt ≤ 100000208 from t7) (show 0 ≤ a4.toInt from r8) (show a4.toInt ≤ 100000100 from t9) (show 0 ≤ v3_5.toInt from r10) (show v3_5.toInt ≤ 11 by omega) (show 1 ≤ x27.toInt by omega) (show x27.toInt ≤ 12 by omega)  hw hT hF c131 (lv_sub hl [0, 1, 2, 3, 4, 5] rfl)
            · have c135 : ¬ r42.toInt = (100000000 : Int) := wk_eqF c135
              refine lv_aload_n hx hb dX12_wayFrom_51 rfl (lv_at hl 0 rfl) ?_
              refine tk_geti hC hK hw hT hinX12 kM_at0 (by decide) rfl 37 (by decide) (List.mem_cons_of_mem _ uw_52_21) rfl rfl dX12_wayFrom_52 (fun x136 c137 rx136 tx136 => ?_)
              refine wk_top r42 (c137.symm.trans c129) ?_
              refine lv_aload_n hx hb dX12_wayFrom_55 rfl (lv_at hl 0 rfl) ?_
              refine lv_iload hx hb dX12_wayFrom_56 (lv_at hl 5 rfl) ?_
              refine lv_iconst (v := 2) hx hb dX12_wayFrom_58 (by decide) ?_
              refine tk_Vi hC hK hw hT hA hE hSR kM_at0 (by decide) rfl (k_X12_streetOf_6 l adK adV dC dI cy ad B (by omega) (by omega) qr s1   v3_5 (show 0 ≤ v3_5.toInt from r10) (show v3_5.toInt ≤ 11 by omega) w128 H.size hT ) (cwV 2 hC.2.2.2.2 uV_RX12_300 rfl rfl rfl (by decide +kernel) ⟨Nat.le_of_ble_eq_true rfl, Nat.le_of_ble_eq_true rfl⟩) rfl hl.1 rfl (Nat.le_of_ble_eq_true rfl) dX12_wayFrom_59 (fun r138 w140 H locs hp139 hw => ?_)
              obtain ⟨rfl, hg145⟩ := hp139
              obtain ⟨g142, g143, c144⟩ := hg145
              refine lv_iadd hx hb dX12_wayFrom_62 ?_
              refine lv_topi (fun x146 ex146 => ?_)
              have ex146 : x146.toInt = r42.toInt + r138.toInt := by rw [ex146]; exact wk_add (show (-2147483648) ≤ r42.toInt + r138.toInt by omega) (show r42.toInt + r138.toInt ≤ 2147483647 by omega)
              refine lv_iload hx hb dX12_wayFrom_63 (lv_at hl 4 rfl) ?_
              refine lv_icmp_le (tgt := 71) hx hb dX12_wayFrom_65 (by decide) (fun c147 => ?_) (fun c147 => ?_)
              · have c147 : x146.toInt ≤ a4.toInt := wk_le.mp c147
                refine lv_aload_n hx hb dX12_wayFrom_71 rfl (lv_at hl 0 rfl) ?_
                refine lv_aload_n hx hb dX12_wayFrom_72 rfl (lv_at hl 0 rfl) ?_
                refine lv_iload hx hb dX12_wayFrom_73 (lv_at hl 5 rfl) ?_
                refine lv_iload_n hx hb dX12_wayFrom_75 rfl (lv_at hl 1 rfl) ?_
                refine tk_Vi hC hK hw hT hA hE hSR kM_at0 (by decide) rfl (k_X12_otherOf_1 l adK adV dC dI cy ad B (by omega) (by omega) qr s1   v3_5 (show 0 ≤ v3_5.toInt from r10) (show v3_5.toInt ≤ 11 by omega) a1 (show 0 ≤ a1.toInt from r2) (show a1.toInt ≤ 9 by omega) w128 H.size hT ) (cwV 2 hC.2.2.2.2 uV_RX12_348 rfl rfl rfl (by decide +kernel) ⟨Nat.le_of_ble_eq_true rfl, Nat.le_of_ble_eq_true rfl⟩) rfl hl.1 rfl (Nat.le_of_ble_eq_true rfl) dX12_wayFrom_76 (fun r148 w150 H locs hp149 hw => ?_)
                obtain ⟨rfl, hg157⟩ := hp149
                rcases hg157 with ⟨g152, g153⟩ | ⟨g154, g155, c156⟩
                · refine lv_iload_n hx hb dX12_wayFrom_79 rfl (lv_at hl 2 rfl) ?_
                  refine lv_aload_n hx hb dX12_wayFrom_80 rfl (lv_at hl 0 rfl) ?_
                  refine tk_geti hC hK hw hT hinX12 kM_at0 (by decide) rfl 37 (by decide) (List.mem_cons_of_mem _ uw_52_21) rfl rfl dX12_wayFrom_81 (fun x158 c159 rx158 tx158 => ?_)
                  refine wk_top r42 (c159.symm.trans c129) ?_
                  refine lv_aload_n hx hb dX12_wayFrom_84 rfl (lv_at hl 0 rfl) ?_
                  refine lv_iload hx hb dX12_wayFrom_85 (lv_at hl 5 rfl) ?_
                  refine lv_iconst (v := 2) hx hb dX12_wayFrom_87 (by decide) ?_
                  refine tk_Vi hC hK hw hT hA hE hSR kM_at0 (by decide) rfl (k_X12_streetOf_6 l adK adV dC dI cy ad B (by omega) (by omega) qr s1   v3_5 (show 0 ≤ v3_5.toInt from r10) (show v3_5.toInt ≤ 11 by omega) w128 H.size hT ) (cwV 2 hC.2.2.2.2 uV_RX12_300 rfl rfl rfl (by decide +kernel) ⟨Nat.le_of_ble_eq_true rfl, Nat.le_of_ble_eq_true rfl⟩) rfl hl.1 rfl (Nat.le_of_ble_eq_true rfl) dX12_wayFrom_88 (fun r160 w162 H locs hp161 hw => ?_)
                  obtain ⟨rfl, hg167⟩ := hp161
                  obtain ⟨g164, g165, c166⟩ := hg167
                  obtain rfl : r138 = r160 := c144.symm.trans c166
                  refine lv_iadd hx hb dX12_wayFrom_91 ?_
                  refine lv_topi (fun x168 ex168 => ?_)
                  have ex168 : x168.toInt = r42.toInt + r138.toInt := by rw [ex168]; exact wk_add (show (-2147483648) ≤ r42.toInt + r138.toInt by omega) (show r42.toInt + r138.toInt ≤ 2147483647 by omega)
                  refine lv_iload hx hb dX12_wayFrom_92 (lv_at hl 4 rfl) ?_
                  refine tk_Vi hC hK hw hT hA hE hSR kM_at0 (by decide) rfl (k_X12_reaches_2 l adK adV dC dI cy ad B (by omega) (by omega) qr s1   r148 (show 0 ≤ r148.toInt by omega) (show r148.toInt ≤ 9 by omega) a2 (show 0 ≤ a2.toInt from r4) (show a2.toInt ≤ 9 from t5) x168 (show 0 ≤ x168.toInt by omega) (show x168.toInt ≤ 100000100 by omega) a4 (show 0 ≤ a4.toInt from r8) (show a4.toInt ≤ 100000100 from t9) w128 H.size hT ) (cwV 4 hC.2.2.2.2 uV_RX12_456 rfl rfl rfl (by decide +kernel) ⟨Nat.le_of_ble_eq_true rfl, Nat.le_of_ble_eq_true rfl⟩) rfl hl.1 rfl (Nat.le_of_ble_eq_true rfl) dX12_wayFrom_94 (fun r169 w171 H locs hp170 hw => ?_)
                  obtain ⟨hT, k172, hg175⟩ := hp170
                  have hF := hF.tr k172 (by decide)
                  have c176 := k172.gi kM_at12 (by decide) c131
                  have c177 := k172.gi kM_at12 rfl c132
                  have c178 := k172.gi kM_at0 (by decide) c129
                  have c179 := k172.gi kM_at12 rfl c144
                  obtain ⟨g173, g174⟩ := hg175
                  refine lv_iload hx hb dX12_wayFrom_97 (lv_at hl 4 rfl) ?_
                  refine lv_icmp_ne (tgt := 105) hx hb dX12_wayFrom_99 (by decide) (fun c180 => ?_) (fun c180 => ?_)
                  · have c180 : ¬ r169.toInt = a4.toInt := wk_eqF c180
                    exact J105 x27 H locs ls w171 (show 0 ≤ a1.toInt from r2) (show a1.toInt ≤ 12 from t3) (show 0 ≤ a2.toInt from r4) (show a2.toInt ≤ 9 from t5) (show 0 ≤ a3.toInt from r6) (show a3.toInt ≤ 100000208 from t7) (show 0 ≤ a4.toInt from r8) (show a4.toInt ≤ 100000100 from t9) (show 0 ≤ v3_5.toInt from r10) (show v3_5.toInt ≤ 11 by omega) (show 1 ≤ x27.toInt by omega) (show x27.toInt ≤ 12 by omega)  hw hT hF c176 (lv_sub hl [0, 1, 2, 3, 4, 5] rfl)
                  · have c180 : r169.toInt = a4.toInt := wk_eq.mp c180
                    refine lv_iload hx hb dX12_wayFrom_102 (lv_at hl 5 rfl) ?_
                    exact tk_iret hC hr hlocks hK ⟨hT, hF, (Or.inr (Or.inl ⟨(show 0 ≤ v3_5.toInt from r10), (show v3_5.toInt ≤ 11 by omega), (show a1.toInt ≤ 9 by omega), ⟨r42, c178, (show 0 ≤ r42.toInt by omega), (show r42.toInt ≤ 100000100 by omega)⟩, ⟨x27, c176, (show 1 ≤ x27.toInt by omega), (show x27.toInt ≤ 12 by omega)⟩, c177⟩))⟩ hw dX12_wayFrom_104
                · refine lv_iload_n hx hb dX12_wayFrom_79 rfl (lv_at hl 2 rfl) ?_
                  refine lv_aload_n hx hb dX12_wayFrom_80 rfl (lv_at hl 0 rfl) ?_
                  refine tk_geti hC hK hw hT hinX12 kM_at0 (by decide) rfl 37 (by decide) (List.mem_cons_of_mem _ uw_52_21) rfl rfl dX12_wayFrom_81 (fun x181 c182 rx181 tx181 => ?_)
                  refine wk_top r42 (c182.symm.trans c129) ?_
                  refine lv_aload_n hx hb dX12_wayFrom_84 rfl (lv_at hl 0 rfl) ?_
                  refine lv_iload hx hb dX12_wayFrom_85 (lv_at hl 5 rfl) ?_
                  refine lv_iconst (v := 2) hx hb dX12_wayFrom_87 (by decide) ?_
                  refine tk_Vi hC hK hw hT hA hE hSR kM_at0 (by decide) rfl (k_X12_streetOf_6 l adK adV dC dI cy ad B (by omega) (by omega) qr s1   v3_5 (show 0 ≤ v3_5.toInt from r10) (show v3_5.toInt ≤ 11 by omega) w128 H.size hT ) (cwV 2 hC.2.2.2.2 uV_RX12_300 rfl rfl rfl (by decide +kernel) ⟨Nat.le_of_ble_eq_true rfl, Nat.le_of_ble_eq_true rfl⟩) rfl hl.1 rfl (Nat.le_of_ble_eq_true rfl) dX12_wayFrom_88 (fun r183 w185 H locs hp184 hw => ?_)
                  obtain ⟨rfl, hg190⟩ := hp184
                  obtain ⟨g187, g188, c189⟩ := hg190
                  obtain rfl : r138 = r183 := c144.symm.trans c189
                  refine lv_iadd hx hb dX12_wayFrom_91 ?_
                  refine lv_topi (fun x191 ex191 => ?_)
                  have ex191 : x191.toInt = r42.toInt + r138.toInt := by rw [ex191]; exact wk_add (show (-2147483648) ≤ r42.toInt + r138.toInt by omega) (show r42.toInt + r138.toInt ≤ 2147483647 by omega)
                  refine lv_iload hx hb dX12_wayFrom_92 (lv_at hl 4 rfl) ?_
                  refine tk_Vi hC hK hw hT hA hE hSR kM_at0 (by decide) rfl (k_X12_reaches_2 l adK adV dC dI cy ad B (by omega) (by omega) qr s1   r148 (show 0 ≤ r148.toInt by omega) (show r148.toInt ≤ 9 by omega) a2 (show 0 ≤ a2.toInt from r4) (show a2.toInt ≤ 9 from t5) x191 (show 0 ≤ x191.toInt by omega) (show x191.toInt ≤ 100000100 by omega) a4 (show 0 ≤ a4.toInt from r8) (show a4.toInt ≤ 100000100 from t9) w128 H.size hT ) (cwV 4 hC.2.2.2.2 uV_RX12_456 rfl rfl rfl (by decide +kernel) ⟨Nat.le_of_ble_eq_true rfl, Nat.le_of_ble_eq_true rfl⟩) rfl hl.1 rfl (Nat.le_of_ble_eq_true rfl) dX12_wayFrom_94 (fun r192 w194 H locs hp193 hw => ?_)
                  obtain ⟨hT, k195, hg198⟩ := hp193
                  have hF := hF.tr k195 (by decide)
                  have c199 := k195.gi kM_at12 (by decide) c131
                  have c200 := k195.gi kM_at12 rfl c132
                  have c201 := k195.gi kM_at0 (by decide) c129
                  have c202 := k195.gi kM_at12 rfl c144
                  obtain ⟨g196, g197⟩ := hg198
                  refine lv_iload hx hb dX12_wayFrom_97 (lv_at hl 4 rfl) ?_
                  refine lv_icmp_ne (tgt := 105) hx hb dX12_wayFrom_99 (by decide) (fun c203 => ?_) (fun c203 => ?_)
                  · have c203 : ¬ r192.toInt = a4.toInt := wk_eqF c203
                    exact J105 x27 H locs ls w194 (show 0 ≤ a1.toInt from r2) (show a1.toInt ≤ 12 from t3) (show 0 ≤ a2.toInt from r4) (show a2.toInt ≤ 9 from t5) (show 0 ≤ a3.toInt from r6) (show a3.toInt ≤ 100000208 from t7) (show 0 ≤ a4.toInt from r8) (show a4.toInt ≤ 100000100 from t9) (show 0 ≤ v3_5.toInt from r10) (show v3_5.toInt ≤ 11 by omega) (show 1 ≤ x27.toInt by omega) (show x27.toInt ≤ 12 by omega)  hw hT hF c199 (lv_sub hl [0, 1, 2, 3, 4, 5] rfl)
                  · have c203 : r192.toInt = a4.toInt := wk_eq.mp c203
                    refine lv_iload hx hb dX12_wayFrom_102 (lv_at hl 5 rfl) ?_
                    exact tk_iret hC hr hlocks hK ⟨hT, hF, (Or.inr (Or.inl ⟨(show 0 ≤ v3_5.toInt from r10), (show v3_5.toInt ≤ 11 by omega), (show a1.toInt ≤ 9 by omega), ⟨r42, c201, (show 0 ≤ r42.toInt by omega), (show r42.toInt ≤ 100000100 by omega)⟩, ⟨x27, c199, (show 1 ≤ x27.toInt by omega), (show x27.toInt ≤ 12 by omega)⟩, c200⟩))⟩ hw dX12_wayFrom_104
              · have c147 : a4.toInt < x146.toInt := wk_leF c147
                refine lv_goto (tgt := 105) hx hb dX12_wayFrom_68 (by decide) ?_
                exact J105 x27 H locs ls w128 (show 0 ≤ a1.toInt from r2) (show a1.toInt ≤ 12 from t3) (show 0 ≤ a2.toInt from r4) (show a2.toInt ≤ 9 from t5) (show 0 ≤ a3.toInt from r6) (show a3.toInt ≤ 100000208 from t7) (show 0 ≤ a4.toInt from r8) (show a4.toInt ≤ 100000100 from t9) (show 0 ≤ v3_5.toInt from r10) (show v3_5.toInt ≤ 11 by omega) (show 1 ≤ x27.toInt by omega) (show x27.toInt ≤ 12 by omega)  hw hT hF c131 (lv_sub hl [0, 1, 2, 3, 4, 5] rfl)
        · refine lv_if_ne (tgt := 27) hx hb dX12_wayFrom_21 (by decide) (fun _ => ?_) (fun c => absurd c (by decide))
          refine lv_aload_n hx hb dX12_wayFrom_27 rfl (lv_at hl 0 rfl) ?_
          refine lv_aload_n hx hb dX12_wayFrom_28 rfl (lv_at hl 0 rfl) ?_
          refine lv_iload hx hb dX12_wayFrom_29 (lv_at hl 5 rfl) ?_
          refine lv_iload_n hx hb dX12_wayFrom_31 rfl (lv_at hl 1 rfl) ?_
          refine lv_iload_n hx hb dX12_wayFrom_32 rfl (lv_at hl 3 rfl) ?_
          refine lv_iload hx hb dX12_wayFrom_33 (lv_at hl 4 rfl) ?_
          refine tk_Vi hC hK hw hT hA hE hSR kM_at0 (by decide) rfl (k_X12_firstOpen_2 l adK adV dC dI cy ad B (by omega) (by omega) qr s1   v3_5 (show 0 ≤ v3_5.toInt from r10) (show v3_5.toInt ≤ 11 by omega) a1 (show 0 ≤ a1.toInt from r2) (show a1.toInt ≤ 9 by omega) a3 (show 0 ≤ a3.toInt from r6) (show a3.toInt ≤ 100000208 from t7) a4 (show 0 ≤ a4.toInt from r8) (show a4.toInt ≤ 100000100 from t9) w1 H.size hT ) (cwV 4 hC.2.2.2.2 uV_RX12_449 rfl rfl rfl (by decide +kernel) ⟨Nat.le_of_ble_eq_true rfl, Nat.le_of_ble_eq_true rfl⟩) rfl hl.1 rfl (Nat.le_of_ble_eq_true rfl) dX12_wayFrom_35 (fun r204 w206 H locs hp205 hw => ?_)
          obtain ⟨rfl, hg213⟩ := hp205
          rcases hg213 with ⟨g208, g209⟩ | ⟨g210, g211, c212⟩
          · refine tk_puti hC hK hw hT hinX12 tyX12_ok nmX12 kM_at0 (by decide) rfl rfl 37 (by decide) (List.mem_cons_of_mem _ uw_52_21) rfl rfl rfl rfl (show 0 ≤ r204.toInt by omega) (show r204.toInt ≤ 100000200 by omega) dX12_wayFrom_38 (fun H locs w214 hw hT k216 c215 => ?_)
            have hF := hF.put kM_at0 (k := 37) (by decide) k216
            have c217 := k216.gi (Or.inr (by decide)) c28
            have c218 := k216.gi (Or.inl (tk_ne kM_at12 kM_at0 (by decide))) c39
            refine lv_aload_n hx hb dX12_wayFrom_41 rfl (lv_at hl 0 rfl) ?_
            refine tk_geti hC hK hw hT hinX12 kM_at0 (by decide) rfl 37 (by decide) (List.mem_cons_of_mem _ uw_52_21) rfl rfl dX12_wayFrom_42 (fun x219 c220 rx219 tx219 => ?_)
            refine wk_top r204 (c220.symm.trans c215) ?_
            refine lv_ldcw (v := 100000000) hx hb hC.2.2.2.1 (hC.2.2.2.2 _ (List.mem_cons_of_mem _ uw_38_2)) dX12_wayFrom_45 ?_
            refine lv_icmp_eq (tgt := 105) hx hb dX12_wayFrom_48 (by decide) (fun c221 => ?_) (fun c221 => ?_)
            · have c221 : r204.toInt = (100000000 : Int) := wk_eq.mp c221
              exact J105 x27 H locs ls w214 (show 0 ≤ a1.toInt from r2) (show a1.toInt ≤ 12 from t3) (show 0 ≤ a2.toInt from r4) (show a2.toInt ≤ 9 from t5) (show 0 ≤ a3.toInt from r6) (show a3.toInt ≤ 100000208 from t7) (show 0 ≤ a4.toInt from r8) (show a4.toInt ≤ 100000100 from t9) (show 0 ≤ v3_5.toInt from r10) (show v3_5.toInt ≤ 11 by omega) (show 1 ≤ x27.toInt by omega) (show x27.toInt ≤ 12 by omega)  hw hT hF c217 (lv_sub hl [0, 1, 2, 3, 4, 5] rfl)
            · have c221 : ¬ r204.toInt = (100000000 : Int) := wk_eqF c221
              refine lv_aload_n hx hb dX12_wayFrom_51 rfl (lv_at hl 0 rfl) ?_
              refine tk_geti hC hK hw hT hinX12 kM_at0 (by decide) rfl 37 (by decide) (List.mem_cons_of_mem _ uw_52_21) rfl rfl dX12_wayFrom_52 (fun x222 c223 rx222 tx222 => ?_)
              refine wk_top r204 (c223.symm.trans c215) ?_
              refine lv_aload_n hx hb dX12_wayFrom_55 rfl (lv_at hl 0 rfl) ?_
              refine lv_iload hx hb dX12_wayFrom_56 (lv_at hl 5 rfl) ?_
              refine lv_iconst (v := 2) hx hb dX12_wayFrom_58 (by decide) ?_
              refine tk_Vi hC hK hw hT hA hE hSR kM_at0 (by decide) rfl (k_X12_streetOf_6 l adK adV dC dI cy ad B (by omega) (by omega) qr s1   v3_5 (show 0 ≤ v3_5.toInt from r10) (show v3_5.toInt ≤ 11 by omega) w214 H.size hT ) (cwV 2 hC.2.2.2.2 uV_RX12_300 rfl rfl rfl (by decide +kernel) ⟨Nat.le_of_ble_eq_true rfl, Nat.le_of_ble_eq_true rfl⟩) rfl hl.1 rfl (Nat.le_of_ble_eq_true rfl) dX12_wayFrom_59 (fun r224 w226 H locs hp225 hw => ?_)
              obtain ⟨rfl, hg231⟩ := hp225
              obtain ⟨g228, g229, c230⟩ := hg231
              refine lv_iadd hx hb dX12_wayFrom_62 ?_
              refine lv_topi (fun x232 ex232 => ?_)
              have ex232 : x232.toInt = r204.toInt + r224.toInt := by rw [ex232]; exact wk_add (show (-2147483648) ≤ r204.toInt + r224.toInt by omega) (show r204.toInt + r224.toInt ≤ 2147483647 by omega)
              refine lv_iload hx hb dX12_wayFrom_63 (lv_at hl 4 rfl) ?_
              refine lv_icmp_le (tgt := 71) hx hb dX12_wayFrom_65 (by decide) (fun c233 => ?_) (fun c233 => ?_)
              · have c233 : x232.toInt ≤ a4.toInt := wk_le.mp c233
                refine lv_aload_n hx hb dX12_wayFrom_71 rfl (lv_at hl 0 rfl) ?_
                refine lv_aload_n hx hb dX12_wayFrom_72 rfl (lv_at hl 0 rfl) ?_
                refine lv_iload hx hb dX12_wayFrom_73 (lv_at hl 5 rfl) ?_
                refine lv_iload_n hx hb dX12_wayFrom_75 rfl (lv_at hl 1 rfl) ?_
                refine tk_Vi hC hK hw hT hA hE hSR kM_at0 (by decide) rfl (k_X12_otherOf_1 l adK adV dC dI cy ad B (by omega) (by omega) qr s1   v3_5 (show 0 ≤ v3_5.toInt from r10) (show v3_5.toInt ≤ 11 by omega) a1 (show 0 ≤ a1.toInt from r2) (show a1.toInt ≤ 9 by omega) w214 H.size hT ) (cwV 2 hC.2.2.2.2 uV_RX12_348 rfl rfl rfl (by decide +kernel) ⟨Nat.le_of_ble_eq_true rfl, Nat.le_of_ble_eq_true rfl⟩) rfl hl.1 rfl (Nat.le_of_ble_eq_true rfl) dX12_wayFrom_76 (fun r234 w236 H locs hp235 hw => ?_)
                obtain ⟨rfl, hg243⟩ := hp235
                rcases hg243 with ⟨g238, g239⟩ | ⟨g240, g241, c242⟩
                · refine lv_iload_n hx hb dX12_wayFrom_79 rfl (lv_at hl 2 rfl) ?_
                  refine lv_aload_n hx hb dX12_wayFrom_80 rfl (lv_at hl 0 rfl) ?_
                  refine tk_geti hC hK hw hT hinX12 kM_at0 (by decide) rfl 37 (by decide) (List.mem_cons_of_mem _ uw_52_21) rfl rfl dX12_wayFrom_81 (fun x244 c245 rx244 tx244 => ?_)
                  refine wk_top r204 (c245.symm.trans c215) ?_
                  refine lv_aload_n hx hb dX12_wayFrom_84 rfl (lv_at hl 0 rfl) ?_
                  refine lv_iload hx hb dX12_wayFrom_85 (lv_at hl 5 rfl) ?_
                  refine lv_iconst (v := 2) hx hb dX12_wayFrom_87 (by decide) ?_
                  refine tk_Vi hC hK hw hT hA hE hSR kM_at0 (by decide) rfl (k_X12_streetOf_6 l adK adV dC dI cy ad B (by omega) (by omega) qr s1   v3_5 (show 0 ≤ v3_5.toInt from r10) (show v3_5.toInt ≤ 11 by omega) w214 H.size hT ) (cwV 2 hC.2.2.2.2 uV_RX12_300 rfl rfl rfl (by decide +kernel) ⟨Nat.le_of_ble_eq_true rfl, Nat.le_of_ble_eq_true rfl⟩) rfl hl.1 rfl (Nat.le_of_ble_eq_true rfl) dX12_wayFrom_88 (fun r246 w248 H locs hp247 hw => ?_)
                  obtain ⟨rfl, hg253⟩ := hp247
                  obtain ⟨g250, g251, c252⟩ := hg253
                  obtain rfl : r224 = r246 := c230.symm.trans c252
                  refine lv_iadd hx hb dX12_wayFrom_91 ?_
                  refine lv_topi (fun x254 ex254 => ?_)
                  have ex254 : x254.toInt = r204.toInt + r224.toInt := by rw [ex254]; exact wk_add (show (-2147483648) ≤ r204.toInt + r224.toInt by omega) (show r204.toInt + r224.toInt ≤ 2147483647 by omega)
                  refine lv_iload hx hb dX12_wayFrom_92 (lv_at hl 4 rfl) ?_
                  refine tk_Vi hC hK hw hT hA hE hSR kM_at0 (by decide) rfl (k_X12_reaches_2 l adK adV dC dI cy ad B (by omega) (by omega) qr s1   r234 (show 0 ≤ r234.toInt by omega) (show r234.toInt ≤ 9 by omega) a2 (show 0 ≤ a2.toInt from r4) (show a2.toInt ≤ 9 from t5) x254 (show 0 ≤ x254.toInt by omega) (show x254.toInt ≤ 100000100 by omega) a4 (show 0 ≤ a4.toInt from r8) (show a4.toInt ≤ 100000100 from t9) w214 H.size hT ) (cwV 4 hC.2.2.2.2 uV_RX12_456 rfl rfl rfl (by decide +kernel) ⟨Nat.le_of_ble_eq_true rfl, Nat.le_of_ble_eq_true rfl⟩) rfl hl.1 rfl (Nat.le_of_ble_eq_true rfl) dX12_wayFrom_94 (fun r255 w257 H locs hp256 hw => ?_)
                  obtain ⟨hT, k258, hg261⟩ := hp256
                  have hF := hF.tr k258 (by decide)
                  have c262 := k258.gi kM_at12 (by decide) c217
                  have c263 := k258.gi kM_at12 rfl c218
                  have c264 := k258.gi kM_at0 (by decide) c215
                  have c265 := k258.gi kM_at12 rfl c230
                  obtain ⟨g259, g260⟩ := hg261
                  refine lv_iload hx hb dX12_wayFrom_97 (lv_at hl 4 rfl) ?_
                  refine lv_icmp_ne (tgt := 105) hx hb dX12_wayFrom_99 (by decide) (fun c266 => ?_) (fun c266 => ?_)
                  · have c266 : ¬ r255.toInt = a4.toInt := wk_eqF c266
                    exact J105 x27 H locs ls w257 (show 0 ≤ a1.toInt from r2) (show a1.toInt ≤ 12 from t3) (show 0 ≤ a2.toInt from r4) (show a2.toInt ≤ 9 from t5) (show 0 ≤ a3.toInt from r6) (show a3.toInt ≤ 100000208 from t7) (show 0 ≤ a4.toInt from r8) (show a4.toInt ≤ 100000100 from t9) (show 0 ≤ v3_5.toInt from r10) (show v3_5.toInt ≤ 11 by omega) (show 1 ≤ x27.toInt by omega) (show x27.toInt ≤ 12 by omega)  hw hT hF c262 (lv_sub hl [0, 1, 2, 3, 4, 5] rfl)
                  · have c266 : r255.toInt = a4.toInt := wk_eq.mp c266
                    refine lv_iload hx hb dX12_wayFrom_102 (lv_at hl 5 rfl) ?_
                    exact tk_iret hC hr hlocks hK ⟨hT, hF, (Or.inr (Or.inr (Or.inl ⟨(show 0 ≤ v3_5.toInt from r10), (show v3_5.toInt ≤ 11 by omega), (show a1.toInt ≤ 9 by omega), ⟨r204, c264, (show 0 ≤ r204.toInt by omega), (show r204.toInt ≤ 100000100 by omega)⟩, ⟨x27, c262, (show 1 ≤ x27.toInt by omega), (show x27.toInt ≤ 12 by omega)⟩, c263⟩)))⟩ hw dX12_wayFrom_104
                · refine lv_iload_n hx hb dX12_wayFrom_79 rfl (lv_at hl 2 rfl) ?_
                  refine lv_aload_n hx hb dX12_wayFrom_80 rfl (lv_at hl 0 rfl) ?_
                  refine tk_geti hC hK hw hT hinX12 kM_at0 (by decide) rfl 37 (by decide) (List.mem_cons_of_mem _ uw_52_21) rfl rfl dX12_wayFrom_81 (fun x267 c268 rx267 tx267 => ?_)
                  refine wk_top r204 (c268.symm.trans c215) ?_
                  refine lv_aload_n hx hb dX12_wayFrom_84 rfl (lv_at hl 0 rfl) ?_
                  refine lv_iload hx hb dX12_wayFrom_85 (lv_at hl 5 rfl) ?_
                  refine lv_iconst (v := 2) hx hb dX12_wayFrom_87 (by decide) ?_
                  refine tk_Vi hC hK hw hT hA hE hSR kM_at0 (by decide) rfl (k_X12_streetOf_6 l adK adV dC dI cy ad B (by omega) (by omega) qr s1   v3_5 (show 0 ≤ v3_5.toInt from r10) (show v3_5.toInt ≤ 11 by omega) w214 H.size hT ) (cwV 2 hC.2.2.2.2 uV_RX12_300 rfl rfl rfl (by decide +kernel) ⟨Nat.le_of_ble_eq_true rfl, Nat.le_of_ble_eq_true rfl⟩) rfl hl.1 rfl (Nat.le_of_ble_eq_true rfl) dX12_wayFrom_88 (fun r269 w271 H locs hp270 hw => ?_)
                  obtain ⟨rfl, hg276⟩ := hp270
                  obtain ⟨g273, g274, c275⟩ := hg276
                  obtain rfl : r224 = r269 := c230.symm.trans c275
                  refine lv_iadd hx hb dX12_wayFrom_91 ?_
                  refine lv_topi (fun x277 ex277 => ?_)
                  have ex277 : x277.toInt = r204.toInt + r224.toInt := by rw [ex277]; exact wk_add (show (-2147483648) ≤ r204.toInt + r224.toInt by omega) (show r204.toInt + r224.toInt ≤ 2147483647 by omega)
                  refine lv_iload hx hb dX12_wayFrom_92 (lv_at hl 4 rfl) ?_
                  refine tk_Vi hC hK hw hT hA hE hSR kM_at0 (by decide) rfl (k_X12_reaches_2 l adK adV dC dI cy ad B (by omega) (by omega) qr s1   r234 (show 0 ≤ r234.toInt by omega) (show r234.toInt ≤ 9 by omega) a2 (show 0 ≤ a2.toInt from r4) (show a2.toInt ≤ 9 from t5) x277 (show 0 ≤ x277.toInt by omega) (show x277.toInt ≤ 100000100 by omega) a4 (show 0 ≤ a4.toInt from r8) (show a4.toInt ≤ 100000100 from t9) w214 H.size hT ) (cwV 4 hC.2.2.2.2 uV_RX12_456 rfl rfl rfl (by decide +kernel) ⟨Nat.le_of_ble_eq_true rfl, Nat.le_of_ble_eq_true rfl⟩) rfl hl.1 rfl (Nat.le_of_ble_eq_true rfl) dX12_wayFrom_94 (fun r278 w280 H locs hp279 hw => ?_)
                  obtain ⟨hT, k281, hg284⟩ := hp279
                  have hF := hF.tr k281 (by decide)
                  have c285 := k281.gi kM_at12 (by decide) c217
                  have c286 := k281.gi kM_at12 rfl c218
                  have c287 := k281.gi kM_at0 (by decide) c215
                  have c288 := k281.gi kM_at12 rfl c230
                  have c289 := k281.gi kM_at12 rfl c242
                  obtain ⟨g282, g283⟩ := hg284
                  refine lv_iload hx hb dX12_wayFrom_97 (lv_at hl 4 rfl) ?_
                  refine lv_icmp_ne (tgt := 105) hx hb dX12_wayFrom_99 (by decide) (fun c290 => ?_) (fun c290 => ?_)
                  · have c290 : ¬ r278.toInt = a4.toInt := wk_eqF c290
                    exact J105 x27 H locs ls w280 (show 0 ≤ a1.toInt from r2) (show a1.toInt ≤ 12 from t3) (show 0 ≤ a2.toInt from r4) (show a2.toInt ≤ 9 from t5) (show 0 ≤ a3.toInt from r6) (show a3.toInt ≤ 100000208 from t7) (show 0 ≤ a4.toInt from r8) (show a4.toInt ≤ 100000100 from t9) (show 0 ≤ v3_5.toInt from r10) (show v3_5.toInt ≤ 11 by omega) (show 1 ≤ x27.toInt by omega) (show x27.toInt ≤ 12 by omega)  hw hT hF c285 (lv_sub hl [0, 1, 2, 3, 4, 5] rfl)
                  · have c290 : r278.toInt = a4.toInt := wk_eq.mp c290
                    refine lv_iload hx hb dX12_wayFrom_102 (lv_at hl 5 rfl) ?_
                    exact tk_iret hC hr hlocks hK ⟨hT, hF, (Or.inl ⟨(show 0 ≤ v3_5.toInt from r10), (show v3_5.toInt ≤ 11 by omega), (show a1.toInt ≤ 9 by omega), ⟨r204, c287, (show 0 ≤ r204.toInt by omega), (show r204.toInt ≤ 100000100 by omega)⟩, ⟨x27, c285, (show 1 ≤ x27.toInt by omega), (show x27.toInt ≤ 12 by omega)⟩, c289, c286⟩)⟩ hw dX12_wayFrom_104
              · have c233 : a4.toInt < x232.toInt := wk_leF c233
                refine lv_goto (tgt := 105) hx hb dX12_wayFrom_68 (by decide) ?_
                exact J105 x27 H locs ls w214 (show 0 ≤ a1.toInt from r2) (show a1.toInt ≤ 12 from t3) (show 0 ≤ a2.toInt from r4) (show a2.toInt ≤ 9 from t5) (show 0 ≤ a3.toInt from r6) (show a3.toInt ≤ 100000208 from t7) (show 0 ≤ a4.toInt from r8) (show a4.toInt ≤ 100000100 from t9) (show 0 ≤ v3_5.toInt from r10) (show v3_5.toInt ≤ 11 by omega) (show 1 ≤ x27.toInt by omega) (show x27.toInt ≤ 12 by omega)  hw hT hF c217 (lv_sub hl [0, 1, 2, 3, 4, 5] rfl)
          · refine tk_puti hC hK hw hT hinX12 tyX12_ok nmX12 kM_at0 (by decide) rfl rfl 37 (by decide) (List.mem_cons_of_mem _ uw_52_21) rfl rfl rfl rfl (show 0 ≤ r204.toInt by omega) (show r204.toInt ≤ 100000200 by omega) dX12_wayFrom_38 (fun H locs w291 hw hT k293 c292 => ?_)
            have hF := hF.put kM_at0 (k := 37) (by decide) k293
            have c294 := k293.gi (Or.inr (by decide)) c28
            have c295 := k293.gi (Or.inl (tk_ne kM_at12 kM_at0 (by decide))) c39
            have c296 := k293.gi (Or.inl (tk_ne kM_at12 kM_at0 (by decide))) c212
            refine lv_aload_n hx hb dX12_wayFrom_41 rfl (lv_at hl 0 rfl) ?_
            refine tk_geti hC hK hw hT hinX12 kM_at0 (by decide) rfl 37 (by decide) (List.mem_cons_of_mem _ uw_52_21) rfl rfl dX12_wayFrom_42 (fun x297 c298 rx297 tx297 => ?_)
            refine wk_top r204 (c298.symm.trans c292) ?_
            refine lv_ldcw (v := 100000000) hx hb hC.2.2.2.1 (hC.2.2.2.2 _ (List.mem_cons_of_mem _ uw_38_2)) dX12_wayFrom_45 ?_
            refine lv_icmp_eq (tgt := 105) hx hb dX12_wayFrom_48 (by decide) (fun c299 => ?_) (fun c299 => ?_)
            · have c299 : r204.toInt = (100000000 : Int) := wk_eq.mp c299
              exact J105 x27 H locs ls w291 (show 0 ≤ a1.toInt from r2) (show a1.toInt ≤ 12 from t3) (show 0 ≤ a2.toInt from r4) (show a2.toInt ≤ 9 from t5) (show 0 ≤ a3.toInt from r6) (show a3.toInt ≤ 100000208 from t7) (show 0 ≤ a4.toInt from r8) (show a4.toInt ≤ 100000100 from t9) (show 0 ≤ v3_5.toInt from r10) (show v3_5.toInt ≤ 11 by omega) (show 1 ≤ x27.toInt by omega) (show x27.toInt ≤ 12 by omega)  hw hT hF c294 (lv_sub hl [0, 1, 2, 3, 4, 5] rfl)
            · have c299 : ¬ r204.toInt = (100000000 : Int) := wk_eqF c299
              refine lv_aload_n hx hb dX12_wayFrom_51 rfl (lv_at hl 0 rfl) ?_
              refine tk_geti hC hK hw hT hinX12 kM_at0 (by decide) rfl 37 (by decide) (List.mem_cons_of_mem _ uw_52_21) rfl rfl dX12_wayFrom_52 (fun x300 c301 rx300 tx300 => ?_)
              refine wk_top r204 (c301.symm.trans c292) ?_
              refine lv_aload_n hx hb dX12_wayFrom_55 rfl (lv_at hl 0 rfl) ?_
              refine lv_iload hx hb dX12_wayFrom_56 (lv_at hl 5 rfl) ?_
              refine lv_iconst (v := 2) hx hb dX12_wayFrom_58 (by decide) ?_
              refine tk_Vi hC hK hw hT hA hE hSR kM_at0 (by decide) rfl (k_X12_streetOf_6 l adK adV dC dI cy ad B (by omega) (by omega) qr s1   v3_5 (show 0 ≤ v3_5.toInt from r10) (show v3_5.toInt ≤ 11 by omega) w291 H.size hT ) (cwV 2 hC.2.2.2.2 uV_RX12_300 rfl rfl rfl (by decide +kernel) ⟨Nat.le_of_ble_eq_true rfl, Nat.le_of_ble_eq_true rfl⟩) rfl hl.1 rfl (Nat.le_of_ble_eq_true rfl) dX12_wayFrom_59 (fun r302 w304 H locs hp303 hw => ?_)
              obtain ⟨rfl, hg309⟩ := hp303
              obtain ⟨g306, g307, c308⟩ := hg309
              refine lv_iadd hx hb dX12_wayFrom_62 ?_
              refine lv_topi (fun x310 ex310 => ?_)
              have ex310 : x310.toInt = r204.toInt + r302.toInt := by rw [ex310]; exact wk_add (show (-2147483648) ≤ r204.toInt + r302.toInt by omega) (show r204.toInt + r302.toInt ≤ 2147483647 by omega)
              refine lv_iload hx hb dX12_wayFrom_63 (lv_at hl 4 rfl) ?_
              refine lv_icmp_le (tgt := 71) hx hb dX12_wayFrom_65 (by decide) (fun c311 => ?_) (fun c311 => ?_)
              · have c311 : x310.toInt ≤ a4.toInt := wk_le.mp c311
                refine lv_aload_n hx hb dX12_wayFrom_71 rfl (lv_at hl 0 rfl) ?_
                refine lv_aload_n hx hb dX12_wayFrom_72 rfl (lv_at hl 0 rfl) ?_
                refine lv_iload hx hb dX12_wayFrom_73 (lv_at hl 5 rfl) ?_
                refine lv_iload_n hx hb dX12_wayFrom_75 rfl (lv_at hl 1 rfl) ?_
                refine tk_Vi hC hK hw hT hA hE hSR kM_at0 (by decide) rfl (k_X12_otherOf_1 l adK adV dC dI cy ad B (by omega) (by omega) qr s1   v3_5 (show 0 ≤ v3_5.toInt from r10) (show v3_5.toInt ≤ 11 by omega) a1 (show 0 ≤ a1.toInt from r2) (show a1.toInt ≤ 9 by omega) w291 H.size hT ) (cwV 2 hC.2.2.2.2 uV_RX12_348 rfl rfl rfl (by decide +kernel) ⟨Nat.le_of_ble_eq_true rfl, Nat.le_of_ble_eq_true rfl⟩) rfl hl.1 rfl (Nat.le_of_ble_eq_true rfl) dX12_wayFrom_76 (fun r312 w314 H locs hp313 hw => ?_)
                obtain ⟨rfl, hg321⟩ := hp313
                rcases hg321 with ⟨g316, g317⟩ | ⟨g318, g319, c320⟩
                · refine lv_iload_n hx hb dX12_wayFrom_79 rfl (lv_at hl 2 rfl) ?_
                  refine lv_aload_n hx hb dX12_wayFrom_80 rfl (lv_at hl 0 rfl) ?_
                  refine tk_geti hC hK hw hT hinX12 kM_at0 (by decide) rfl 37 (by decide) (List.mem_cons_of_mem _ uw_52_21) rfl rfl dX12_wayFrom_81 (fun x322 c323 rx322 tx322 => ?_)
                  refine wk_top r204 (c323.symm.trans c292) ?_
                  refine lv_aload_n hx hb dX12_wayFrom_84 rfl (lv_at hl 0 rfl) ?_
                  refine lv_iload hx hb dX12_wayFrom_85 (lv_at hl 5 rfl) ?_
                  refine lv_iconst (v := 2) hx hb dX12_wayFrom_87 (by decide) ?_
                  refine tk_Vi hC hK hw hT hA hE hSR kM_at0 (by decide) rfl (k_X12_streetOf_6 l adK adV dC dI cy ad B (by omega) (by omega) qr s1   v3_5 (show 0 ≤ v3_5.toInt from r10) (show v3_5.toInt ≤ 11 by omega) w291 H.size hT ) (cwV 2 hC.2.2.2.2 uV_RX12_300 rfl rfl rfl (by decide +kernel) ⟨Nat.le_of_ble_eq_true rfl, Nat.le_of_ble_eq_true rfl⟩) rfl hl.1 rfl (Nat.le_of_ble_eq_true rfl) dX12_wayFrom_88 (fun r324 w326 H locs hp325 hw => ?_)
                  obtain ⟨rfl, hg331⟩ := hp325
                  obtain ⟨g328, g329, c330⟩ := hg331
                  obtain rfl : r302 = r324 := c308.symm.trans c330
                  refine lv_iadd hx hb dX12_wayFrom_91 ?_
                  refine lv_topi (fun x332 ex332 => ?_)
                  have ex332 : x332.toInt = r204.toInt + r302.toInt := by rw [ex332]; exact wk_add (show (-2147483648) ≤ r204.toInt + r302.toInt by omega) (show r204.toInt + r302.toInt ≤ 2147483647 by omega)
                  refine lv_iload hx hb dX12_wayFrom_92 (lv_at hl 4 rfl) ?_
                  refine tk_Vi hC hK hw hT hA hE hSR kM_at0 (by decide) rfl (k_X12_reaches_2 l adK adV dC dI cy ad B (by omega) (by omega) qr s1   r312 (show 0 ≤ r312.toInt by omega) (show r312.toInt ≤ 9 by omega) a2 (show 0 ≤ a2.toInt from r4) (show a2.toInt ≤ 9 from t5) x332 (show 0 ≤ x332.toInt by omega) (show x332.toInt ≤ 100000100 by omega) a4 (show 0 ≤ a4.toInt from r8) (show a4.toInt ≤ 100000100 from t9) w291 H.size hT ) (cwV 4 hC.2.2.2.2 uV_RX12_456 rfl rfl rfl (by decide +kernel) ⟨Nat.le_of_ble_eq_true rfl, Nat.le_of_ble_eq_true rfl⟩) rfl hl.1 rfl (Nat.le_of_ble_eq_true rfl) dX12_wayFrom_94 (fun r333 w335 H locs hp334 hw => ?_)
                  obtain ⟨hT, k336, hg339⟩ := hp334
                  have hF := hF.tr k336 (by decide)
                  have c340 := k336.gi kM_at12 (by decide) c294
                  have c341 := k336.gi kM_at12 rfl c295
                  have c342 := k336.gi kM_at12 rfl c296
                  have c343 := k336.gi kM_at0 (by decide) c292
                  have c344 := k336.gi kM_at12 rfl c308
                  obtain ⟨g337, g338⟩ := hg339
                  refine lv_iload hx hb dX12_wayFrom_97 (lv_at hl 4 rfl) ?_
                  refine lv_icmp_ne (tgt := 105) hx hb dX12_wayFrom_99 (by decide) (fun c345 => ?_) (fun c345 => ?_)
                  · have c345 : ¬ r333.toInt = a4.toInt := wk_eqF c345
                    exact J105 x27 H locs ls w335 (show 0 ≤ a1.toInt from r2) (show a1.toInt ≤ 12 from t3) (show 0 ≤ a2.toInt from r4) (show a2.toInt ≤ 9 from t5) (show 0 ≤ a3.toInt from r6) (show a3.toInt ≤ 100000208 from t7) (show 0 ≤ a4.toInt from r8) (show a4.toInt ≤ 100000100 from t9) (show 0 ≤ v3_5.toInt from r10) (show v3_5.toInt ≤ 11 by omega) (show 1 ≤ x27.toInt by omega) (show x27.toInt ≤ 12 by omega)  hw hT hF c340 (lv_sub hl [0, 1, 2, 3, 4, 5] rfl)
                  · have c345 : r333.toInt = a4.toInt := wk_eq.mp c345
                    refine lv_iload hx hb dX12_wayFrom_102 (lv_at hl 5 rfl) ?_
                    exact tk_iret hC hr hlocks hK ⟨hT, hF, (Or.inl ⟨(show 0 ≤ v3_5.toInt from r10), (show v3_5.toInt ≤ 11 by omega), (show a1.toInt ≤ 9 by omega), ⟨r204, c343, (show 0 ≤ r204.toInt by omega), (show r204.toInt ≤ 100000100 by omega)⟩, ⟨x27, c340, (show 1 ≤ x27.toInt by omega), (show x27.toInt ≤ 12 by omega)⟩, c342, c341⟩)⟩ hw dX12_wayFrom_104
                · refine lv_iload_n hx hb dX12_wayFrom_79 rfl (lv_at hl 2 rfl) ?_
                  refine lv_aload_n hx hb dX12_wayFrom_80 rfl (lv_at hl 0 rfl) ?_
                  refine tk_geti hC hK hw hT hinX12 kM_at0 (by decide) rfl 37 (by decide) (List.mem_cons_of_mem _ uw_52_21) rfl rfl dX12_wayFrom_81 (fun x346 c347 rx346 tx346 => ?_)
                  refine wk_top r204 (c347.symm.trans c292) ?_
                  refine lv_aload_n hx hb dX12_wayFrom_84 rfl (lv_at hl 0 rfl) ?_
                  refine lv_iload hx hb dX12_wayFrom_85 (lv_at hl 5 rfl) ?_
                  refine lv_iconst (v := 2) hx hb dX12_wayFrom_87 (by decide) ?_
                  refine tk_Vi hC hK hw hT hA hE hSR kM_at0 (by decide) rfl (k_X12_streetOf_6 l adK adV dC dI cy ad B (by omega) (by omega) qr s1   v3_5 (show 0 ≤ v3_5.toInt from r10) (show v3_5.toInt ≤ 11 by omega) w291 H.size hT ) (cwV 2 hC.2.2.2.2 uV_RX12_300 rfl rfl rfl (by decide +kernel) ⟨Nat.le_of_ble_eq_true rfl, Nat.le_of_ble_eq_true rfl⟩) rfl hl.1 rfl (Nat.le_of_ble_eq_true rfl) dX12_wayFrom_88 (fun r348 w350 H locs hp349 hw => ?_)
                  obtain ⟨rfl, hg355⟩ := hp349
                  obtain ⟨g352, g353, c354⟩ := hg355
                  obtain rfl : r302 = r348 := c308.symm.trans c354
                  refine lv_iadd hx hb dX12_wayFrom_91 ?_
                  refine lv_topi (fun x356 ex356 => ?_)
                  have ex356 : x356.toInt = r204.toInt + r302.toInt := by rw [ex356]; exact wk_add (show (-2147483648) ≤ r204.toInt + r302.toInt by omega) (show r204.toInt + r302.toInt ≤ 2147483647 by omega)
                  refine lv_iload hx hb dX12_wayFrom_92 (lv_at hl 4 rfl) ?_
                  refine tk_Vi hC hK hw hT hA hE hSR kM_at0 (by decide) rfl (k_X12_reaches_2 l adK adV dC dI cy ad B (by omega) (by omega) qr s1   r312 (show 0 ≤ r312.toInt by omega) (show r312.toInt ≤ 9 by omega) a2 (show 0 ≤ a2.toInt from r4) (show a2.toInt ≤ 9 from t5) x356 (show 0 ≤ x356.toInt by omega) (show x356.toInt ≤ 100000100 by omega) a4 (show 0 ≤ a4.toInt from r8) (show a4.toInt ≤ 100000100 from t9) w291 H.size hT ) (cwV 4 hC.2.2.2.2 uV_RX12_456 rfl rfl rfl (by decide +kernel) ⟨Nat.le_of_ble_eq_true rfl, Nat.le_of_ble_eq_true rfl⟩) rfl hl.1 rfl (Nat.le_of_ble_eq_true rfl) dX12_wayFrom_94 (fun r357 w359 H locs hp358 hw => ?_)
                  obtain ⟨hT, k360, hg363⟩ := hp358
                  have hF := hF.tr k360 (by decide)
                  have c364 := k360.gi kM_at12 (by decide) c294
                  have c365 := k360.gi kM_at12 rfl c295
                  have c366 := k360.gi kM_at12 rfl c296
                  have c367 := k360.gi kM_at0 (by decide) c292
                  have c368 := k360.gi kM_at12 rfl c308
                  obtain ⟨g361, g362⟩ := hg363
                  refine lv_iload hx hb dX12_wayFrom_97 (lv_at hl 4 rfl) ?_
                  refine lv_icmp_ne (tgt := 105) hx hb dX12_wayFrom_99 (by decide) (fun c369 => ?_) (fun c369 => ?_)
                  · have c369 : ¬ r357.toInt = a4.toInt := wk_eqF c369
                    exact J105 x27 H locs ls w359 (show 0 ≤ a1.toInt from r2) (show a1.toInt ≤ 12 from t3) (show 0 ≤ a2.toInt from r4) (show a2.toInt ≤ 9 from t5) (show 0 ≤ a3.toInt from r6) (show a3.toInt ≤ 100000208 from t7) (show 0 ≤ a4.toInt from r8) (show a4.toInt ≤ 100000100 from t9) (show 0 ≤ v3_5.toInt from r10) (show v3_5.toInt ≤ 11 by omega) (show 1 ≤ x27.toInt by omega) (show x27.toInt ≤ 12 by omega)  hw hT hF c364 (lv_sub hl [0, 1, 2, 3, 4, 5] rfl)
                  · have c369 : r357.toInt = a4.toInt := wk_eq.mp c369
                    refine lv_iload hx hb dX12_wayFrom_102 (lv_at hl 5 rfl) ?_
                    exact tk_iret hC hr hlocks hK ⟨hT, hF, (Or.inl ⟨(show 0 ≤ v3_5.toInt from r10), (show v3_5.toInt ≤ 11 by omega), (show a1.toInt ≤ 9 by omega), ⟨r204, c367, (show 0 ≤ r204.toInt by omega), (show r204.toInt ≤ 100000100 by omega)⟩, ⟨x27, c364, (show 1 ≤ x27.toInt by omega), (show x27.toInt ≤ 12 by omega)⟩, c366, c365⟩)⟩ hw dX12_wayFrom_104
              · have c311 : a4.toInt < x310.toInt := wk_leF c311
                refine lv_goto (tgt := 105) hx hb dX12_wayFrom_68 (by decide) ?_
                exact J105 x27 H locs ls w291 (show 0 ≤ a1.toInt from r2) (show a1.toInt ≤ 12 from t3) (show 0 ≤ a2.toInt from r4) (show a2.toInt ≤ 9 from t5) (show 0 ≤ a3.toInt from r6) (show a3.toInt ≤ 100000208 from t7) (show 0 ≤ a4.toInt from r8) (show a4.toInt ≤ 100000100 from t9) (show 0 ≤ v3_5.toInt from r10) (show v3_5.toInt ≤ 11 by omega) (show 1 ≤ x27.toInt by omega) (show x27.toInt ≤ 12 by omega)  hw hT hF c294 (lv_sub hl [0, 1, 2, 3, 4, 5] rfl)
  refine lv_iconst (v := 0) hx hb dX12_wayFrom_0 (by decide) ?_
  refine lv_istore (lv' := [(5, .int 0), (0, .ref (ad 0)), (1, .int a1), (2, .int a2), (3, .int a3), (4, .int a4)]) hx hb dX12_wayFrom_1 hl (by decide) rfl (fun ls hl => ?_)
  exact L3 ((12 - (0 : Int)).toNat + 1) 0 s.heap locs ls w0 (show 0 ≤ a1.toInt from ra1) (show a1.toInt ≤ 12 from ta1) (show 0 ≤ a2.toInt from ra2) (show a2.toInt ≤ 9 from ta2) (show 0 ≤ a3.toInt from ra3) (show a3.toInt ≤ 100000208 from ta3) (show 0 ≤ a4.toInt from ra4) (show a4.toInt ≤ 100000100 from ta4) (by decide) (by decide) (Nat.lt_succ_self _) hw hT hF  (lv_sub hl [1, 2, 3, 4, 5, 0] rfl)
abbrev P_X12_way_1 (ad : Nat → Nat) (cy : Nat → ClassId) (B : Int) (qr : Nat) (s1 : Int) (a1 : Int32) (a2 : Int32) (a3 : Int32) (a4 : Int32) (w0 : va_W) : Int32 → va_W → Prop := fun r u => TW ksM ad cy B qr 12 u ∧ FE ksM [(12, 37, 37), (77, 0, 10), (78, 0, 10)] w0 u ∧ ((r = (-2) ∧ 0 ≤ a1.toInt ∧ a1.toInt ≤ 9 ∧ 0 ≤ a2.toInt ∧ a2.toInt ≤ 9 ∧ 0 ≤ a3.toInt ∧ a3.toInt ≤ 99999 ∧ 0 ≤ a4.toInt ∧ (∃ y : Int32, gi u 12 0 = y ∧ 1 ≤ y.toInt ∧ y.toInt ≤ 10)) ∨ (0 ≤ r.toInt ∧ r.toInt ≤ 11 ∧ 0 ≤ a1.toInt ∧ a1.toInt ≤ 9 ∧ 0 ≤ a2.toInt ∧ a2.toInt ≤ 9 ∧ 0 ≤ a3.toInt ∧ a3.toInt ≤ 99999 ∧ 0 ≤ a4.toInt ∧ (∃ y : Int32, gi u 0 37 = y ∧ 0 ≤ y.toInt ∧ y.toInt ≤ 100000100) ∧ (∃ y : Int32, gi u 12 0 = y ∧ 1 ≤ y.toInt ∧ y.toInt ≤ 10) ∧ (∃ y : Int32, gi u 12 1 = y ∧ 1 ≤ y.toInt ∧ y.toInt ≤ 12)) ∨ (r = (-1)))
set_option maxHeartbeats 4000000 in
set_option maxRecDepth 100000 in
theorem k_X12_way_1 (l : Launch) (adK adV : Nat → Nat) (dC : Nat → ClassId) (dI : Nat → Nat → Nat) (cy : Nat → ClassId) (ad : Nat → Nat) (B : Int) (hB0 : 100000 ≤ B) (hB1 : B ≤ 1073741824) (qr : Nat) (s1 : Int)  (a1 : Int32) (a2 : Int32) (a3 : Int32) (a4 : Int32) (w0 : va_W) (sz : Nat) (hT : TW ksM ad cy B qr 12 w0)  : Met l yX12_way (wu yX12_way cX12_way 10 (some .int)) ({ frames := 7, cells := 0, slots := 0, locals := 158 }) (va_Pc [.ref (ad 0), .int a1, .int a2, .int a3, .int a4] (wpreS adK adV dC dI cy sz w0)) (va_Qi (P_X12_way_1 ad cy B qr s1 a1 a2 a3 a4 w0) (fun u : va_W => wpost dC dI cy (va_A w0 sz) u) (va_A w0 sz)) 0 0 (va_A w0 sz) := by
  refine Met.ofW (cc := cX12_way) (maxL := 10) (ret := (some .int)) (by decide) rfl ?_
  intro p e s m args below meth c s₁ Bk hml hv
  obtain ⟨rfl, ⟨hsz, hP, hK, hD0⟩, hE, hSR⟩ := hv
  have hx := Bk.exec
  have hb := Bk.bytes
  have hr := Bk.returns
  have hlocks := Bk.notSynchronized
  have hC : CallFix p m c cX12_way 10 s _ (wu yX12_way cX12_way 10 (some .int)) RX12 := ⟨hx, hb, hml, findClass_of_methodNamed Bk.named, atoms_spec (ws := (wu yX12_way cX12_way 10 (some .int))) Bk.pre⟩
  subst hsz
  have hD := hD0.self (sz := s.heap.size)
  generalize hAe : va_A w0 s.heap.size = A at hD hE ⊢
  have hA : ∀ q : Nat, s.heap.size ≤ q → A q := fun q h => by rw [← hAe]; exact Or.inr h
  have hw : Wd dC dI A s.heap s.heap [] w0 := ⟨hP, hD, va_S.rf⟩
  have hF : FE ksM [(12, 37, 37), (77, 0, 10), (78, 0, 10)] w0 w0 := FE.rf
  have hl := lv_entry ([.ref (ad 0), .int a1, .int a2, .int a3, .int a4]) (n := 10) (Nat.le_of_ble_eq_true rfl)
  rw [lg_entry_eq]
  generalize (lg_sl ([.ref (ad 0), .int a1, .int a2, .int a3, .int a4]) ++ List.replicate (10 - (lg_sl ([.ref (ad 0), .int a1, .int a2, .int a3, .int a4])).length) Slot.unset).toArray = ls at hl ⊢
  have hl : lv_has ls 10 [(0, .ref (ad 0)), (1, .int a1), (2, .int a2), (3, .int a3), (4, .int a4)] := hl
  generalize hloc : ([] : List Loc) = locs at hw ⊢
  have hinX12 : ∀ w ∈ u_ws RX12 TX12 42, w ∈ (wu yX12_way cX12_way 10 (some .int)) := fun _ h => List.mem_cons_of_mem _ (up_71 h)
  have ba4 := wk_i32 a4
  have J15 : ∀ (H : Heap) (locs : List Loc) (ls : Array Slot) (w1 : va_W), Wd dC dI A s.heap H locs w1 → TW ksM ad cy B qr 12 w1 → FE ksM [(12, 37, 37), (77, 0, 10), (78, 0, 10)] w0 w1 → lv_has ls 10 [(0, .ref (ad 0)), (1, .int a1), (2, .int a2), (3, .int a3), (4, .int a4)] → W p l e ({ frames := 7, cells := 0, slots := 0, locals := 158 }) s m (List.toArray [.ref (ad 0), .int a1, .int a2, .int a3, .int a4]) below meth c H locs 0 0 (MQ below (va_Qi (P_X12_way_1 ad cy B qr s1 a1 a2 a3 a4 w0) (fun u : va_W => wpost dC dI cy A u) A) (List.toArray [.ref (ad 0), .int a1, .int a2, .int a3, .int a4]) s 0 0 A) (F0 m 15 ls []) := by
    intro H locs ls w1 hw hT hF hl
    refine lv_iconst (v := (-1)) hx hb dX12_way_15 (by decide) ?_
    exact tk_iret hC hr hlocks hK ⟨hT, hF, (Or.inr (Or.inr rfl))⟩ hw dX12_way_16
  have L51 : ∀ (n51 : Nat) (v51_5 : Int32) (v51_6 : Int32) (v51_7 : Int32) (v51_8 : Int32) (f51_12_0 : Int32) (H : Heap) (locs : List Loc) (ls : Array Slot) (w2 : va_W), 0 ≤ a1.toInt → a1.toInt ≤ 9 → 0 ≤ a2.toInt → a2.toInt ≤ 9 → 0 ≤ a3.toInt → a3.toInt ≤ 99999 → 0 ≤ a4.toInt → 0 ≤ v51_5.toInt → v51_5.toInt ≤ 100000100 → 0 ≤ v51_6.toInt → v51_6.toInt ≤ 12 → 0 ≤ v51_7.toInt → v51_7.toInt ≤ 100000208 → 0 ≤ v51_8.toInt → 1 ≤ f51_12_0.toInt → f51_12_0.toInt ≤ 10 → v51_8.toInt ≤ a4.toInt + 0 → (2147483647 - v51_8.toInt).toNat < n51 → Wd dC dI A s.heap H locs w2 → TW ksM ad cy B qr 12 w2 → FE ksM [(12, 37, 37), (77, 0, 10), (78, 0, 10)] w0 w2 → gi w2 12 0 = f51_12_0 → lv_has ls 10 [(0, .ref (ad 0)), (1, .int a1), (2, .int a2), (3, .int a3), (4, .int a4), (5, .int v51_5), (6, .int v51_6), (7, .int v51_7), (8, .int v51_8)] → W p l e ({ frames := 7, cells := 0, slots := 0, locals := 158 }) s m (List.toArray [.ref (ad 0), .int a1, .int a2, .int a3, .int a4]) below meth c H locs 0 0 (MQ below (va_Qi (P_X12_way_1 ad cy B qr s1 a1 a2 a3 a4 w0) (fun u : va_W => wpost dC dI cy A u) A) (List.toArray [.ref (ad 0), .int a1, .int a2, .int a3, .int a4]) s 0 0 A) (F0 m 51 ls []) := by
    intro n51
    induction n51 with
    | zero => intro v51_5 v51_6 v51_7 v51_8 f51_12_0 H locs ls w2 r3 t4 r5 t6 r7 t8 r9 r10 t11 r12 t13 r14 t15 r16 r17 t18 i20 hm51 hw hT hF c19 hl; omega
    | succ n51 ih51 =>
      intro v51_5 v51_6 v51_7 v51_8 f51_12_0 H locs ls w2 r3 t4 r5 t6 r7 t8 r9 r10 t11 r12 t13 r14 t15 r16 r17 t18 i20 hm51 hw hT hF c19 hl
      refine lv_iload hx hb dX12_way_51 (lv_at hl 6 rfl) ?_
      refine lv_iload_n hx hb dX12_way_53 rfl (lv_at hl 2 rfl) ?_
      refine lv_icmp_eq (tgt := 110) hx hb dX12_way_54 (by decide) (fun c21 => ?_) (fun c21 => ?_)
      · have c21 : v51_6.toInt = a2.toInt := wk_eq.mp c21
        refine lv_bipush (v := (-2)) hx hb dX12_way_110 (by decide) ?_
        exact tk_iret hC hr hlocks hK ⟨hT, hF, (Or.inl ⟨rfl, (show 0 ≤ a1.toInt from r3), (show a1.toInt ≤ 9 from t4), (show 0 ≤ a2.toInt from r5), (show a2.toInt ≤ 9 from t6), (show 0 ≤ a3.toInt from r7), (show a3.toInt ≤ 99999 from t8), (show 0 ≤ a4.toInt from r9), ⟨f51_12_0, c19, (show 1 ≤ f51_12_0.toInt from r17), (show f51_12_0.toInt ≤ 10 from t18)⟩⟩)⟩ hw dX12_way_112
      · have c21 : ¬ v51_6.toInt = a2.toInt := wk_eqF c21
        refine lv_aload_n hx hb dX12_way_57 rfl (lv_at hl 0 rfl) ?_
        refine lv_iload hx hb dX12_way_58 (lv_at hl 6 rfl) ?_
        refine lv_iload_n hx hb dX12_way_60 rfl (lv_at hl 2 rfl) ?_
        refine lv_iload hx hb dX12_way_61 (lv_at hl 7 rfl) ?_
        refine lv_iload hx hb dX12_way_63 (lv_at hl 5 rfl) ?_
        refine tk_Vi hC hK hw hT hA hE hSR kM_at0 (by decide) rfl (k_X12_wayFrom_1 l adK adV dC dI cy ad B (by omega) (by omega) qr s1   v51_6 (show 0 ≤ v51_6.toInt from r12) (show v51_6.toInt ≤ 12 from t13) a2 (show 0 ≤ a2.toInt from r5) (show a2.toInt ≤ 9 from t6) v51_7 (show 0 ≤ v51_7.toInt from r14) (show v51_7.toInt ≤ 100000208 from t15) v51_5 (show 0 ≤ v51_5.toInt from r10) (show v51_5.toInt ≤ 100000100 from t11) w2 H.size hT ) (cwV 4 hC.2.2.2.2 uV_RX12_462 rfl rfl rfl (by decide +kernel) ⟨Nat.le_of_ble_eq_true rfl, Nat.le_of_ble_eq_true rfl⟩) rfl hl.1 rfl (Nat.le_of_ble_eq_true rfl) dX12_way_65 (fun r22 w24 H locs hp23 hw => ?_)
        obtain ⟨hT, k25, hg51⟩ := hp23
        have hF := hF.tr k25 (by decide)
        have c52 := k25.gi kM_at12 (by decide) c19
        rcases hg51 with ⟨g26, g27, g28, ⟨x29, c30, rx29, tx29⟩, ⟨x31, c32, rx31, tx31⟩, c33, c34⟩ | ⟨g35, g36, g37, ⟨x38, c39, rx38, tx38⟩, ⟨x40, c41, rx40, tx40⟩, c42⟩ | ⟨g43, g44, g45, ⟨x46, c47, rx46, tx46⟩, ⟨x48, c49, rx48, tx48⟩, c50⟩ | rfl
        · refine lv_istore (lv' := [(9, .int r22), (0, .ref (ad 0)), (1, .int a1), (2, .int a2), (3, .int a3), (4, .int a4), (5, .int v51_5), (6, .int v51_6), (7, .int v51_7), (8, .int v51_8)]) hx hb dX12_way_68 hl (by decide) rfl (fun ls hl => ?_)
          refine lv_iload hx hb dX12_way_70 (lv_at hl 9 rfl) ?_
          refine lv_iload hx hb dX12_way_72 (lv_at hl 5 rfl) ?_
          refine lv_icmp_ne (tgt := 80) hx hb dX12_way_74 (by decide) (fun c53 => ?_) (fun c53 => ?_)
          · have c53 : ¬ v51_8.toInt = a4.toInt := wk_eqF c53
            refine lv_aload_n hx hb dX12_way_80 rfl (lv_at hl 1 rfl) ?_
            refine tk_geti hC hK hw hT hinX12 kM_at0 (by decide) rfl 37 (by decide) (List.mem_cons_of_mem _ uw_52_21) rfl rfl dX12_way_81 (fun x54 c55 rx54 tx54 => ?_)
            refine wk_top x29 (c55.symm.trans c30) ?_
            refine lv_aload_n hx hb dX12_way_84 rfl (lv_at hl 1 rfl) ?_
            refine lv_iload hx hb dX12_way_85 (lv_at hl 0 rfl) ?_
            refine lv_iconst (v := 2) hx hb dX12_way_87 (by decide) ?_
            refine tk_Vi hC hK hw hT hA hE hSR kM_at0 (by decide) rfl (k_X12_streetOf_6 l adK adV dC dI cy ad B (by omega) (by omega) qr s1   r22 (show 0 ≤ r22.toInt by omega) (show r22.toInt ≤ 11 by omega) w24 H.size hT ) (cwV 2 hC.2.2.2.2 uV_RX12_300 rfl rfl rfl (by decide +kernel) ⟨Nat.le_of_ble_eq_true rfl, Nat.le_of_ble_eq_true rfl⟩) rfl hl.1 rfl (Nat.le_of_ble_eq_true rfl) dX12_way_88 (fun r56 w58 H locs hp57 hw => ?_)
            obtain ⟨rfl, hg63⟩ := hp57
            obtain ⟨g60, g61, c62⟩ := hg63
            refine lv_iadd hx hb dX12_way_91 ?_
            refine lv_topi (fun x64 ex64 => ?_)
            have ex64 : x64.toInt = x29.toInt + r56.toInt := by rw [ex64]; exact wk_add (show (-2147483648) ≤ x29.toInt + r56.toInt by omega) (show x29.toInt + r56.toInt ≤ 2147483647 by omega)
            refine lv_istore (lv' := [(7, .int x64), (9, .int r22), (0, .ref (ad 0)), (1, .int a1), (2, .int a2), (3, .int a3), (4, .int a4), (5, .int v51_5), (6, .int v51_6), (8, .int v51_8)]) hx hb dX12_way_92 hl (by decide) rfl (fun ls hl => ?_)
            refine lv_aload_n hx hb dX12_way_94 rfl (lv_at hl 2 rfl) ?_
            refine lv_iload hx hb dX12_way_95 (lv_at hl 1 rfl) ?_
            refine lv_iload hx hb dX12_way_97 (lv_at hl 8 rfl) ?_
            refine tk_Vi hC hK hw hT hA hE hSR kM_at0 (by decide) rfl (k_X12_otherOf_1 l adK adV dC dI cy ad B (by omega) (by omega) qr s1   r22 (show 0 ≤ r22.toInt by omega) (show r22.toInt ≤ 11 by omega) v51_6 (show 0 ≤ v51_6.toInt from r12) (show v51_6.toInt ≤ 9 by omega) w24 H.size hT ) (cwV 2 hC.2.2.2.2 uV_RX12_348 rfl rfl rfl (by decide +kernel) ⟨Nat.le_of_ble_eq_true rfl, Nat.le_of_ble_eq_true rfl⟩) rfl hl.1 rfl (Nat.le_of_ble_eq_true rfl) dX12_way_99 (fun r65 w67 H locs hp66 hw => ?_)
            obtain ⟨rfl, hg74⟩ := hp66
            rcases hg74 with ⟨g69, g70⟩ | ⟨g71, g72, c73⟩
            · refine lv_istore (lv' := [(6, .int r65), (7, .int x64), (9, .int r22), (0, .ref (ad 0)), (1, .int a1), (2, .int a2), (3, .int a3), (4, .int a4), (5, .int v51_5), (8, .int v51_8)]) hx hb dX12_way_102 hl (by decide) rfl (fun ls hl => ?_)
              obtain ⟨x75, ex75⟩ : ∃ y : Int32, y = v51_8 + Int32.ofInt 1 := ⟨_, rfl⟩
              refine lv_iinc (v := x75) (lv' := [(8, .int x75), (6, .int r65), (7, .int x64), (9, .int r22), (0, .ref (ad 0)), (1, .int a1), (2, .int a2), (3, .int a3), (4, .int a4), (5, .int v51_5)]) hx hb dX12_way_104 hl (k := 9) rfl ex75.symm (by decide) rfl (fun ls hl => ?_)
              have ex75 : x75.toInt = v51_8.toInt + 1 := by rw [ex75]; exact wk_add (y := 1) (show -2147483648 ≤ v51_8.toInt + 1 by omega) (show v51_8.toInt + 1 ≤ 2147483647 by omega)
              refine lv_goto (tgt := 51) hx hb dX12_way_107 (by decide) ?_
              exact ih51 v51_5 r65 x64 x75 f51_12_0 H locs ls w24 (show 0 ≤ a1.toInt from r3) (show a1.toInt ≤ 9 from t4) (show 0 ≤ a2.toInt from r5) (show a2.toInt ≤ 9 from t6) (show 0 ≤ a3.toInt from r7) (show a3.toInt ≤ 99999 from t8) (show 0 ≤ a4.toInt from r9) (show 0 ≤ v51_5.toInt from r10) (show v51_5.toInt ≤ 100000100 from t11) (show 0 ≤ r65.toInt by omega) (show r65.toInt ≤ 12 by omega) (show 0 ≤ x64.toInt by omega) (show x64.toInt ≤ 100000208 by omega) (show 0 ≤ x75.toInt by omega) (show 1 ≤ f51_12_0.toInt from r17) (show f51_12_0.toInt ≤ 10 from t18) (show x75.toInt ≤ a4.toInt + 0 by omega) (show (2147483647 - x75.toInt).toNat < n51 by omega) hw hT hF c52 (lv_sub hl [4, 5, 6, 7, 8, 9, 1, 2, 0] rfl)
            · refine lv_istore (lv' := [(6, .int r65), (7, .int x64), (9, .int r22), (0, .ref (ad 0)), (1, .int a1), (2, .int a2), (3, .int a3), (4, .int a4), (5, .int v51_5), (8, .int v51_8)]) hx hb dX12_way_102 hl (by decide) rfl (fun ls hl => ?_)
              obtain ⟨x76, ex76⟩ : ∃ y : Int32, y = v51_8 + Int32.ofInt 1 := ⟨_, rfl⟩
              refine lv_iinc (v := x76) (lv' := [(8, .int x76), (6, .int r65), (7, .int x64), (9, .int r22), (0, .ref (ad 0)), (1, .int a1), (2, .int a2), (3, .int a3), (4, .int a4), (5, .int v51_5)]) hx hb dX12_way_104 hl (k := 9) rfl ex76.symm (by decide) rfl (fun ls hl => ?_)
              have ex76 : x76.toInt = v51_8.toInt + 1 := by rw [ex76]; exact wk_add (y := 1) (show -2147483648 ≤ v51_8.toInt + 1 by omega) (show v51_8.toInt + 1 ≤ 2147483647 by omega)
              refine lv_goto (tgt := 51) hx hb dX12_way_107 (by decide) ?_
              exact ih51 v51_5 r65 x64 x76 f51_12_0 H locs ls w24 (show 0 ≤ a1.toInt from r3) (show a1.toInt ≤ 9 from t4) (show 0 ≤ a2.toInt from r5) (show a2.toInt ≤ 9 from t6) (show 0 ≤ a3.toInt from r7) (show a3.toInt ≤ 99999 from t8) (show 0 ≤ a4.toInt from r9) (show 0 ≤ v51_5.toInt from r10) (show v51_5.toInt ≤ 100000100 from t11) (show 0 ≤ r65.toInt by omega) (show r65.toInt ≤ 12 by omega) (show 0 ≤ x64.toInt by omega) (show x64.toInt ≤ 100000208 by omega) (show 0 ≤ x76.toInt by omega) (show 1 ≤ f51_12_0.toInt from r17) (show f51_12_0.toInt ≤ 10 from t18) (show x76.toInt ≤ a4.toInt + 0 by omega) (show (2147483647 - x76.toInt).toNat < n51 by omega) hw hT hF c52 (lv_sub hl [4, 5, 6, 7, 8, 9, 1, 2, 0] rfl)
          · have c53 : v51_8.toInt = a4.toInt := wk_eq.mp c53
            refine lv_iload hx hb dX12_way_77 (lv_at hl 0 rfl) ?_
            exact tk_iret hC hr hlocks hK ⟨hT, hF, (Or.inr (Or.inl ⟨(show 0 ≤ r22.toInt by omega), (show r22.toInt ≤ 11 by omega), (show 0 ≤ a1.toInt from r3), (show a1.toInt ≤ 9 from t4), (show 0 ≤ a2.toInt from r5), (show a2.toInt ≤ 9 from t6), (show 0 ≤ a3.toInt from r7), (show a3.toInt ≤ 99999 from t8), (show 0 ≤ a4.toInt from r9), ⟨x29, c30, (show 0 ≤ x29.toInt by omega), (show x29.toInt ≤ 100000100 by omega)⟩, ⟨f51_12_0, c52, (show 1 ≤ f51_12_0.toInt from r17), (show f51_12_0.toInt ≤ 10 from t18)⟩, ⟨x31, c32, (show 1 ≤ x31.toInt by omega), (show x31.toInt ≤ 12 by omega)⟩⟩))⟩ hw dX12_way_79
        · refine lv_istore (lv' := [(9, .int r22), (0, .ref (ad 0)), (1, .int a1), (2, .int a2), (3, .int a3), (4, .int a4), (5, .int v51_5), (6, .int v51_6), (7, .int v51_7), (8, .int v51_8)]) hx hb dX12_way_68 hl (by decide) rfl (fun ls hl => ?_)
          refine lv_iload hx hb dX12_way_70 (lv_at hl 9 rfl) ?_
          refine lv_iload hx hb dX12_way_72 (lv_at hl 5 rfl) ?_
          refine lv_icmp_ne (tgt := 80) hx hb dX12_way_74 (by decide) (fun c77 => ?_) (fun c77 => ?_)
          · have c77 : ¬ v51_8.toInt = a4.toInt := wk_eqF c77
            refine lv_aload_n hx hb dX12_way_80 rfl (lv_at hl 1 rfl) ?_
            refine tk_geti hC hK hw hT hinX12 kM_at0 (by decide) rfl 37 (by decide) (List.mem_cons_of_mem _ uw_52_21) rfl rfl dX12_way_81 (fun x78 c79 rx78 tx78 => ?_)
            refine wk_top x38 (c79.symm.trans c39) ?_
            refine lv_aload_n hx hb dX12_way_84 rfl (lv_at hl 1 rfl) ?_
            refine lv_iload hx hb dX12_way_85 (lv_at hl 0 rfl) ?_
            refine lv_iconst (v := 2) hx hb dX12_way_87 (by decide) ?_
            refine tk_Vi hC hK hw hT hA hE hSR kM_at0 (by decide) rfl (k_X12_streetOf_6 l adK adV dC dI cy ad B (by omega) (by omega) qr s1   r22 (show 0 ≤ r22.toInt by omega) (show r22.toInt ≤ 11 by omega) w24 H.size hT ) (cwV 2 hC.2.2.2.2 uV_RX12_300 rfl rfl rfl (by decide +kernel) ⟨Nat.le_of_ble_eq_true rfl, Nat.le_of_ble_eq_true rfl⟩) rfl hl.1 rfl (Nat.le_of_ble_eq_true rfl) dX12_way_88 (fun r80 w82 H locs hp81 hw => ?_)
            obtain ⟨rfl, hg87⟩ := hp81
            obtain ⟨g84, g85, c86⟩ := hg87
            refine lv_iadd hx hb dX12_way_91 ?_
            refine lv_topi (fun x88 ex88 => ?_)
            have ex88 : x88.toInt = x38.toInt + r80.toInt := by rw [ex88]; exact wk_add (show (-2147483648) ≤ x38.toInt + r80.toInt by omega) (show x38.toInt + r80.toInt ≤ 2147483647 by omega)
            refine lv_istore (lv' := [(7, .int x88), (9, .int r22), (0, .ref (ad 0)), (1, .int a1), (2, .int a2), (3, .int a3), (4, .int a4), (5, .int v51_5), (6, .int v51_6), (8, .int v51_8)]) hx hb dX12_way_92 hl (by decide) rfl (fun ls hl => ?_)
            refine lv_aload_n hx hb dX12_way_94 rfl (lv_at hl 2 rfl) ?_
            refine lv_iload hx hb dX12_way_95 (lv_at hl 1 rfl) ?_
            refine lv_iload hx hb dX12_way_97 (lv_at hl 8 rfl) ?_
            refine tk_Vi hC hK hw hT hA hE hSR kM_at0 (by decide) rfl (k_X12_otherOf_1 l adK adV dC dI cy ad B (by omega) (by omega) qr s1   r22 (show 0 ≤ r22.toInt by omega) (show r22.toInt ≤ 11 by omega) v51_6 (show 0 ≤ v51_6.toInt from r12) (show v51_6.toInt ≤ 9 by omega) w24 H.size hT ) (cwV 2 hC.2.2.2.2 uV_RX12_348 rfl rfl rfl (by decide +kernel) ⟨Nat.le_of_ble_eq_true rfl, Nat.le_of_ble_eq_true rfl⟩) rfl hl.1 rfl (Nat.le_of_ble_eq_true rfl) dX12_way_99 (fun r89 w91 H locs hp90 hw => ?_)
            obtain ⟨rfl, hg98⟩ := hp90
            rcases hg98 with ⟨g93, g94⟩ | ⟨g95, g96, c97⟩
            · refine lv_istore (lv' := [(6, .int r89), (7, .int x88), (9, .int r22), (0, .ref (ad 0)), (1, .int a1), (2, .int a2), (3, .int a3), (4, .int a4), (5, .int v51_5), (8, .int v51_8)]) hx hb dX12_way_102 hl (by decide) rfl (fun ls hl => ?_)
              obtain ⟨x99, ex99⟩ : ∃ y : Int32, y = v51_8 + Int32.ofInt 1 := ⟨_, rfl⟩
              refine lv_iinc (v := x99) (lv' := [(8, .int x99), (6, .int r89), (7, .int x88), (9, .int r22), (0, .ref (ad 0)), (1, .int a1), (2, .int a2), (3, .int a3), (4, .int a4), (5, .int v51_5)]) hx hb dX12_way_104 hl (k := 9) rfl ex99.symm (by decide) rfl (fun ls hl => ?_)
              have ex99 : x99.toInt = v51_8.toInt + 1 := by rw [ex99]; exact wk_add (y := 1) (show -2147483648 ≤ v51_8.toInt + 1 by omega) (show v51_8.toInt + 1 ≤ 2147483647 by omega)
              refine lv_goto (tgt := 51) hx hb dX12_way_107 (by decide) ?_
              exact ih51 v51_5 r89 x88 x99 f51_12_0 H locs ls w24 (show 0 ≤ a1.toInt from r3) (show a1.toInt ≤ 9 from t4) (show 0 ≤ a2.toInt from r5) (show a2.toInt ≤ 9 from t6) (show 0 ≤ a3.toInt from r7) (show a3.toInt ≤ 99999 from t8) (show 0 ≤ a4.toInt from r9) (show 0 ≤ v51_5.toInt from r10) (show v51_5.toInt ≤ 100000100 from t11) (show 0 ≤ r89.toInt by omega) (show r89.toInt ≤ 12 by omega) (show 0 ≤ x88.toInt by omega) (show x88.toInt ≤ 100000208 by omega) (show 0 ≤ x99.toInt by omega) (show 1 ≤ f51_12_0.toInt from r17) (show f51_12_0.toInt ≤ 10 from t18) (show x99.toInt ≤ a4.toInt + 0 by omega) (show (2147483647 - x99.toInt).toNat < n51 by omega) hw hT hF c52 (lv_sub hl [4, 5, 6, 7, 8, 9, 1, 2, 0] rfl)
            · refine lv_istore (lv' := [(6, .int r89), (7, .int x88), (9, .int r22), (0, .ref (ad 0)), (1, .int a1), (2, .int a2), (3, .int a3), (4, .int a4), (5, .int v51_5), (8, .int v51_8)]) hx hb dX12_way_102 hl (by decide) rfl (fun ls hl => ?_)
              obtain ⟨x100, ex100⟩ : ∃ y : Int32, y = v51_8 + Int32.ofInt 1 := ⟨_, rfl⟩
              refine lv_iinc (v := x100) (lv' := [(8, .int x100), (6, .int r89), (7, .int x88), (9, .int r22), (0, .ref (ad 0)), (1, .int a1), (2, .int a2), (3, .int a3), (4, .int a4), (5, .int v51_5)]) hx hb dX12_way_104 hl (k := 9) rfl ex100.symm (by decide) rfl (fun ls hl => ?_)
              have ex100 : x100.toInt = v51_8.toInt + 1 := by rw [ex100]; exact wk_add (y := 1) (show -2147483648 ≤ v51_8.toInt + 1 by omega) (show v51_8.toInt + 1 ≤ 2147483647 by omega)
              refine lv_goto (tgt := 51) hx hb dX12_way_107 (by decide) ?_
              exact ih51 v51_5 r89 x88 x100 f51_12_0 H locs ls w24 (show 0 ≤ a1.toInt from r3) (show a1.toInt ≤ 9 from t4) (show 0 ≤ a2.toInt from r5) (show a2.toInt ≤ 9 from t6) (show 0 ≤ a3.toInt from r7) (show a3.toInt ≤ 99999 from t8) (show 0 ≤ a4.toInt from r9) (show 0 ≤ v51_5.toInt from r10) (show v51_5.toInt ≤ 100000100 from t11) (show 0 ≤ r89.toInt by omega) (show r89.toInt ≤ 12 by omega) (show 0 ≤ x88.toInt by omega) (show x88.toInt ≤ 100000208 by omega) (show 0 ≤ x100.toInt by omega) (show 1 ≤ f51_12_0.toInt from r17) (show f51_12_0.toInt ≤ 10 from t18) (show x100.toInt ≤ a4.toInt + 0 by omega) (show (2147483647 - x100.toInt).toNat < n51 by omega) hw hT hF c52 (lv_sub hl [4, 5, 6, 7, 8, 9, 1, 2, 0] rfl)
          · have c77 : v51_8.toInt = a4.toInt := wk_eq.mp c77
            refine lv_iload hx hb dX12_way_77 (lv_at hl 0 rfl) ?_
            exact tk_iret hC hr hlocks hK ⟨hT, hF, (Or.inr (Or.inl ⟨(show 0 ≤ r22.toInt by omega), (show r22.toInt ≤ 11 by omega), (show 0 ≤ a1.toInt from r3), (show a1.toInt ≤ 9 from t4), (show 0 ≤ a2.toInt from r5), (show a2.toInt ≤ 9 from t6), (show 0 ≤ a3.toInt from r7), (show a3.toInt ≤ 99999 from t8), (show 0 ≤ a4.toInt from r9), ⟨x38, c39, (show 0 ≤ x38.toInt by omega), (show x38.toInt ≤ 100000100 by omega)⟩, ⟨f51_12_0, c52, (show 1 ≤ f51_12_0.toInt from r17), (show f51_12_0.toInt ≤ 10 from t18)⟩, ⟨x40, c41, (show 1 ≤ x40.toInt by omega), (show x40.toInt ≤ 12 by omega)⟩⟩))⟩ hw dX12_way_79
        · refine lv_istore (lv' := [(9, .int r22), (0, .ref (ad 0)), (1, .int a1), (2, .int a2), (3, .int a3), (4, .int a4), (5, .int v51_5), (6, .int v51_6), (7, .int v51_7), (8, .int v51_8)]) hx hb dX12_way_68 hl (by decide) rfl (fun ls hl => ?_)
          refine lv_iload hx hb dX12_way_70 (lv_at hl 9 rfl) ?_
          refine lv_iload hx hb dX12_way_72 (lv_at hl 5 rfl) ?_
          refine lv_icmp_ne (tgt := 80) hx hb dX12_way_74 (by decide) (fun c101 => ?_) (fun c101 => ?_)
          · have c101 : ¬ v51_8.toInt = a4.toInt := wk_eqF c101
            refine lv_aload_n hx hb dX12_way_80 rfl (lv_at hl 1 rfl) ?_
            refine tk_geti hC hK hw hT hinX12 kM_at0 (by decide) rfl 37 (by decide) (List.mem_cons_of_mem _ uw_52_21) rfl rfl dX12_way_81 (fun x102 c103 rx102 tx102 => ?_)
            refine wk_top x46 (c103.symm.trans c47) ?_
            refine lv_aload_n hx hb dX12_way_84 rfl (lv_at hl 1 rfl) ?_
            refine lv_iload hx hb dX12_way_85 (lv_at hl 0 rfl) ?_
            refine lv_iconst (v := 2) hx hb dX12_way_87 (by decide) ?_
            refine tk_Vi hC hK hw hT hA hE hSR kM_at0 (by decide) rfl (k_X12_streetOf_6 l adK adV dC dI cy ad B (by omega) (by omega) qr s1   r22 (show 0 ≤ r22.toInt by omega) (show r22.toInt ≤ 11 by omega) w24 H.size hT ) (cwV 2 hC.2.2.2.2 uV_RX12_300 rfl rfl rfl (by decide +kernel) ⟨Nat.le_of_ble_eq_true rfl, Nat.le_of_ble_eq_true rfl⟩) rfl hl.1 rfl (Nat.le_of_ble_eq_true rfl) dX12_way_88 (fun r104 w106 H locs hp105 hw => ?_)
            obtain ⟨rfl, hg111⟩ := hp105
            obtain ⟨g108, g109, c110⟩ := hg111
            refine lv_iadd hx hb dX12_way_91 ?_
            refine lv_topi (fun x112 ex112 => ?_)
            have ex112 : x112.toInt = x46.toInt + r104.toInt := by rw [ex112]; exact wk_add (show (-2147483648) ≤ x46.toInt + r104.toInt by omega) (show x46.toInt + r104.toInt ≤ 2147483647 by omega)
            refine lv_istore (lv' := [(7, .int x112), (9, .int r22), (0, .ref (ad 0)), (1, .int a1), (2, .int a2), (3, .int a3), (4, .int a4), (5, .int v51_5), (6, .int v51_6), (8, .int v51_8)]) hx hb dX12_way_92 hl (by decide) rfl (fun ls hl => ?_)
            refine lv_aload_n hx hb dX12_way_94 rfl (lv_at hl 2 rfl) ?_
            refine lv_iload hx hb dX12_way_95 (lv_at hl 1 rfl) ?_
            refine lv_iload hx hb dX12_way_97 (lv_at hl 8 rfl) ?_
            refine tk_Vi hC hK hw hT hA hE hSR kM_at0 (by decide) rfl (k_X12_otherOf_1 l adK adV dC dI cy ad B (by omega) (by omega) qr s1   r22 (show 0 ≤ r22.toInt by omega) (show r22.toInt ≤ 11 by omega) v51_6 (show 0 ≤ v51_6.toInt from r12) (show v51_6.toInt ≤ 9 by omega) w24 H.size hT ) (cwV 2 hC.2.2.2.2 uV_RX12_348 rfl rfl rfl (by decide +kernel) ⟨Nat.le_of_ble_eq_true rfl, Nat.le_of_ble_eq_true rfl⟩) rfl hl.1 rfl (Nat.le_of_ble_eq_true rfl) dX12_way_99 (fun r113 w115 H locs hp114 hw => ?_)
            obtain ⟨rfl, hg122⟩ := hp114
            rcases hg122 with ⟨g117, g118⟩ | ⟨g119, g120, c121⟩
            · refine lv_istore (lv' := [(6, .int r113), (7, .int x112), (9, .int r22), (0, .ref (ad 0)), (1, .int a1), (2, .int a2), (3, .int a3), (4, .int a4), (5, .int v51_5), (8, .int v51_8)]) hx hb dX12_way_102 hl (by decide) rfl (fun ls hl => ?_)
              obtain ⟨x123, ex123⟩ : ∃ y : Int32, y = v51_8 + Int32.ofInt 1 := ⟨_, rfl⟩
              refine lv_iinc (v := x123) (lv' := [(8, .int x123), (6, .int r113), (7, .int x112), (9, .int r22), (0, .ref (ad 0)), (1, .int a1), (2, .int a2), (3, .int a3), (4, .int a4), (5, .int v51_5)]) hx hb dX12_way_104 hl (k := 9) rfl ex123.symm (by decide) rfl (fun ls hl => ?_)
              have ex123 : x123.toInt = v51_8.toInt + 1 := by rw [ex123]; exact wk_add (y := 1) (show -2147483648 ≤ v51_8.toInt + 1 by omega) (show v51_8.toInt + 1 ≤ 2147483647 by omega)
              refine lv_goto (tgt := 51) hx hb dX12_way_107 (by decide) ?_
              exact ih51 v51_5 r113 x112 x123 f51_12_0 H locs ls w24 (show 0 ≤ a1.toInt from r3) (show a1.toInt ≤ 9 from t4) (show 0 ≤ a2.toInt from r5) (show a2.toInt ≤ 9 from t6) (show 0 ≤ a3.toInt from r7) (show a3.toInt ≤ 99999 from t8) (show 0 ≤ a4.toInt from r9) (show 0 ≤ v51_5.toInt from r10) (show v51_5.toInt ≤ 100000100 from t11) (show 0 ≤ r113.toInt by omega) (show r113.toInt ≤ 12 by omega) (show 0 ≤ x112.toInt by omega) (show x112.toInt ≤ 100000208 by omega) (show 0 ≤ x123.toInt by omega) (show 1 ≤ f51_12_0.toInt from r17) (show f51_12_0.toInt ≤ 10 from t18) (show x123.toInt ≤ a4.toInt + 0 by omega) (show (2147483647 - x123.toInt).toNat < n51 by omega) hw hT hF c52 (lv_sub hl [4, 5, 6, 7, 8, 9, 1, 2, 0] rfl)
            · refine lv_istore (lv' := [(6, .int r113), (7, .int x112), (9, .int r22), (0, .ref (ad 0)), (1, .int a1), (2, .int a2), (3, .int a3), (4, .int a4), (5, .int v51_5), (8, .int v51_8)]) hx hb dX12_way_102 hl (by decide) rfl (fun ls hl => ?_)
              obtain ⟨x124, ex124⟩ : ∃ y : Int32, y = v51_8 + Int32.ofInt 1 := ⟨_, rfl⟩
              refine lv_iinc (v := x124) (lv' := [(8, .int x124), (6, .int r113), (7, .int x112), (9, .int r22), (0, .ref (ad 0)), (1, .int a1), (2, .int a2), (3, .int a3), (4, .int a4), (5, .int v51_5)]) hx hb dX12_way_104 hl (k := 9) rfl ex124.symm (by decide) rfl (fun ls hl => ?_)
              have ex124 : x124.toInt = v51_8.toInt + 1 := by rw [ex124]; exact wk_add (y := 1) (show -2147483648 ≤ v51_8.toInt + 1 by omega) (show v51_8.toInt + 1 ≤ 2147483647 by omega)
              refine lv_goto (tgt := 51) hx hb dX12_way_107 (by decide) ?_
              exact ih51 v51_5 r113 x112 x124 f51_12_0 H locs ls w24 (show 0 ≤ a1.toInt from r3) (show a1.toInt ≤ 9 from t4) (show 0 ≤ a2.toInt from r5) (show a2.toInt ≤ 9 from t6) (show 0 ≤ a3.toInt from r7) (show a3.toInt ≤ 99999 from t8) (show 0 ≤ a4.toInt from r9) (show 0 ≤ v51_5.toInt from r10) (show v51_5.toInt ≤ 100000100 from t11) (show 0 ≤ r113.toInt by omega) (show r113.toInt ≤ 12 by omega) (show 0 ≤ x112.toInt by omega) (show x112.toInt ≤ 100000208 by omega) (show 0 ≤ x124.toInt by omega) (show 1 ≤ f51_12_0.toInt from r17) (show f51_12_0.toInt ≤ 10 from t18) (show x124.toInt ≤ a4.toInt + 0 by omega) (show (2147483647 - x124.toInt).toNat < n51 by omega) hw hT hF c52 (lv_sub hl [4, 5, 6, 7, 8, 9, 1, 2, 0] rfl)
          · have c101 : v51_8.toInt = a4.toInt := wk_eq.mp c101
            refine lv_iload hx hb dX12_way_77 (lv_at hl 0 rfl) ?_
            exact tk_iret hC hr hlocks hK ⟨hT, hF, (Or.inr (Or.inl ⟨(show 0 ≤ r22.toInt by omega), (show r22.toInt ≤ 11 by omega), (show 0 ≤ a1.toInt from r3), (show a1.toInt ≤ 9 from t4), (show 0 ≤ a2.toInt from r5), (show a2.toInt ≤ 9 from t6), (show 0 ≤ a3.toInt from r7), (show a3.toInt ≤ 99999 from t8), (show 0 ≤ a4.toInt from r9), ⟨x46, c47, (show 0 ≤ x46.toInt by omega), (show x46.toInt ≤ 100000100 by omega)⟩, ⟨f51_12_0, c52, (show 1 ≤ f51_12_0.toInt from r17), (show f51_12_0.toInt ≤ 10 from t18)⟩, ⟨x48, c49, (show 1 ≤ x48.toInt by omega), (show x48.toInt ≤ 12 by omega)⟩⟩))⟩ hw dX12_way_79
        · refine lv_istore (lv' := [(9, .int (-1)), (0, .ref (ad 0)), (1, .int a1), (2, .int a2), (3, .int a3), (4, .int a4), (5, .int v51_5), (6, .int v51_6), (7, .int v51_7), (8, .int v51_8)]) hx hb dX12_way_68 hl (by decide) rfl (fun ls hl => ?_)
          refine lv_iload hx hb dX12_way_70 (lv_at hl 9 rfl) ?_
          refine lv_iload hx hb dX12_way_72 (lv_at hl 5 rfl) ?_
          refine lv_icmp_ne (tgt := 80) hx hb dX12_way_74 (by decide) (fun c125 => ?_) (fun c125 => ?_)
          · have c125 : ¬ v51_8.toInt = a4.toInt := wk_eqF c125
            refine lv_aload_n hx hb dX12_way_80 rfl (lv_at hl 1 rfl) ?_
            refine tk_geti hC hK hw hT hinX12 kM_at0 (by decide) rfl 37 (by decide) (List.mem_cons_of_mem _ uw_52_21) rfl rfl dX12_way_81 (fun x126 c127 rx126 tx126 => ?_)
            refine lv_aload_n hx hb dX12_way_84 rfl (lv_at hl 1 rfl) ?_
            refine lv_iload hx hb dX12_way_85 (lv_at hl 0 rfl) ?_
            refine lv_iconst (v := 2) hx hb dX12_way_87 (by decide) ?_
            refine tk_Vi hC hK hw hT hA hE hSR kM_at0 (by decide) rfl (k_X12_streetOf_9 l adK adV dC dI cy ad B (by omega) (by omega) qr s1    w24 H.size hT ) (cwV 2 hC.2.2.2.2 uV_RX12_300 rfl rfl rfl (by decide +kernel) ⟨Nat.le_of_ble_eq_true rfl, Nat.le_of_ble_eq_true rfl⟩) rfl hl.1 rfl (Nat.le_of_ble_eq_true rfl) dX12_way_88 (fun r128 w130 H locs hp129 hw => ?_)
            obtain ⟨rfl, hg135⟩ := hp129
            obtain ⟨g132, g133, c134⟩ := hg135
            refine lv_iadd hx hb dX12_way_91 ?_
            refine lv_topi (fun x136 ex136 => ?_)
            have ex136 : x136.toInt = x126.toInt + r128.toInt := by rw [ex136]; exact wk_add (show (-2147483648) ≤ x126.toInt + r128.toInt by omega) (show x126.toInt + r128.toInt ≤ 2147483647 by omega)
            refine lv_istore (lv' := [(7, .int x136), (9, .int (-1)), (0, .ref (ad 0)), (1, .int a1), (2, .int a2), (3, .int a3), (4, .int a4), (5, .int v51_5), (6, .int v51_6), (8, .int v51_8)]) hx hb dX12_way_92 hl (by decide) rfl (fun ls hl => ?_)
            refine lv_aload_n hx hb dX12_way_94 rfl (lv_at hl 2 rfl) ?_
            refine lv_iload hx hb dX12_way_95 (lv_at hl 1 rfl) ?_
            refine lv_iload hx hb dX12_way_97 (lv_at hl 8 rfl) ?_
            refine tk_Vi hC hK hw hT hA hE hSR kM_at0 (by decide) rfl (k_X12_otherOf_2 l adK adV dC dI cy ad B (by omega) (by omega) qr s1   v51_6 (show 0 ≤ v51_6.toInt from r12) (show v51_6.toInt ≤ 12 from t13) w24 H.size hT ) (cwV 2 hC.2.2.2.2 uV_RX12_348 rfl rfl rfl (by decide +kernel) ⟨Nat.le_of_ble_eq_true rfl, Nat.le_of_ble_eq_true rfl⟩) rfl hl.1 rfl (Nat.le_of_ble_eq_true rfl) dX12_way_99 (fun r137 w139 H locs hp138 hw => ?_)
            obtain ⟨rfl, hg143⟩ := hp138
            obtain ⟨g141, g142⟩ := hg143
            refine lv_istore (lv' := [(6, .int r137), (7, .int x136), (9, .int (-1)), (0, .ref (ad 0)), (1, .int a1), (2, .int a2), (3, .int a3), (4, .int a4), (5, .int v51_5), (8, .int v51_8)]) hx hb dX12_way_102 hl (by decide) rfl (fun ls hl => ?_)
            obtain ⟨x144, ex144⟩ : ∃ y : Int32, y = v51_8 + Int32.ofInt 1 := ⟨_, rfl⟩
            refine lv_iinc (v := x144) (lv' := [(8, .int x144), (6, .int r137), (7, .int x136), (9, .int (-1)), (0, .ref (ad 0)), (1, .int a1), (2, .int a2), (3, .int a3), (4, .int a4), (5, .int v51_5)]) hx hb dX12_way_104 hl (k := 9) rfl ex144.symm (by decide) rfl (fun ls hl => ?_)
            have ex144 : x144.toInt = v51_8.toInt + 1 := by rw [ex144]; exact wk_add (y := 1) (show -2147483648 ≤ v51_8.toInt + 1 by omega) (show v51_8.toInt + 1 ≤ 2147483647 by omega)
            refine lv_goto (tgt := 51) hx hb dX12_way_107 (by decide) ?_
            exact ih51 v51_5 r137 x136 x144 f51_12_0 H locs ls w24 (show 0 ≤ a1.toInt from r3) (show a1.toInt ≤ 9 from t4) (show 0 ≤ a2.toInt from r5) (show a2.toInt ≤ 9 from t6) (show 0 ≤ a3.toInt from r7) (show a3.toInt ≤ 99999 from t8) (show 0 ≤ a4.toInt from r9) (show 0 ≤ v51_5.toInt from r10) (show v51_5.toInt ≤ 100000100 from t11) (show 0 ≤ r137.toInt by omega) (show r137.toInt ≤ 12 by omega) (show 0 ≤ x136.toInt by omega) (show x136.toInt ≤ 100000208 by omega) (show 0 ≤ x144.toInt by omega) (show 1 ≤ f51_12_0.toInt from r17) (show f51_12_0.toInt ≤ 10 from t18) (show x144.toInt ≤ a4.toInt + 0 by omega) (show (2147483647 - x144.toInt).toNat < n51 by omega) hw hT hF c52 (lv_sub hl [4, 5, 6, 7, 8, 9, 1, 2, 0] rfl)
          · have c125 : v51_8.toInt = a4.toInt := wk_eq.mp c125
            refine lv_iload hx hb dX12_way_77 (lv_at hl 0 rfl) ?_
            exact tk_iret hC hr hlocks hK ⟨hT, hF, (Or.inr (Or.inr rfl))⟩ hw dX12_way_79
  refine lv_aload_n hx hb dX12_way_0 rfl (lv_at hl 0 rfl) ?_
  refine lv_iload_n hx hb dX12_way_1 rfl (lv_at hl 1 rfl) ?_
  refine lv_iload_n hx hb dX12_way_2 rfl (lv_at hl 2 rfl) ?_
  refine lv_iload_n hx hb dX12_way_3 rfl (lv_at hl 3 rfl) ?_
  refine tk_Vi hC hK hw hT hA hE hSR kM_at0 (by decide) rfl (k_X12_canLook_1 l adK adV dC dI cy ad B (by omega) (by omega) qr s1   a1 a2 a3 w0 s.heap.size hT ) (cwV 3 hC.2.2.2.2 uV_RX12_453 rfl rfl rfl (by decide +kernel) ⟨Nat.le_of_ble_eq_true rfl, Nat.le_of_ble_eq_true rfl⟩) rfl hl.1 rfl (Nat.le_of_ble_eq_true rfl) dX12_way_4 (fun r145 w147 H locs hp146 hw => ?_)
  obtain ⟨rfl, hg157⟩ := hp146
  rcases hg157 with rfl | ⟨rfl, g149, g150, g151, g152, g153, g154, ⟨x155, c156, rx155, tx155⟩⟩
  · refine lv_if_eq (tgt := 15) hx hb dX12_way_7 (by decide) (fun _ => ?_) (fun c => absurd (by decide) c)
    exact J15  H locs ls w0   hw hT hF  (lv_sub hl [0, 1, 2, 3, 4] rfl)
  · refine lv_if_eq (tgt := 15) hx hb dX12_way_7 (by decide) (fun c => absurd c (by decide)) (fun _ => ?_)
    refine lv_iload hx hb dX12_way_10 (lv_at hl 4 rfl) ?_
    refine lv_if_ge (tgt := 17) hx hb dX12_way_12 (by decide) (fun c158 => ?_) (fun c158 => ?_)
    · have c158 : (0 : Int) ≤ a4.toInt := wk_le.mp c158
      refine lv_aload_n hx hb dX12_way_17 rfl (lv_at hl 0 rfl) ?_
      refine lv_iload_n hx hb dX12_way_18 rfl (lv_at hl 1 rfl) ?_
      refine lv_iload_n hx hb dX12_way_19 rfl (lv_at hl 2 rfl) ?_
      refine lv_iload_n hx hb dX12_way_20 rfl (lv_at hl 3 rfl) ?_
      refine lv_iload_n hx hb dX12_way_21 rfl (lv_at hl 3 rfl) ?_
      refine lv_sipush (v := 2000) hx hb dX12_way_22 (by decide) ?_
      refine lv_iadd hx hb dX12_way_25 ?_
      refine lv_topi (fun x159 ex159 => ?_)
      have ex159 : x159.toInt = a3.toInt + (2000 : Int) := by rw [ex159]; exact wk_add (show (-2147483648) ≤ a3.toInt + (2000 : Int) by omega) (show a3.toInt + (2000 : Int) ≤ 2147483647 by omega)
      refine tk_Vi hC hK hw hT hA hE hSR kM_at0 (by decide) rfl (k_X12_reaches_1 l adK adV dC dI cy ad B (by omega) (by omega) qr s1   a1 (show 0 ≤ a1.toInt by omega) (show a1.toInt ≤ 9 by omega) a2 (show 0 ≤ a2.toInt by omega) (show a2.toInt ≤ 9 by omega) a3 (show 0 ≤ a3.toInt by omega) (show a3.toInt ≤ 99999 by omega) x159 (show 2000 ≤ x159.toInt by omega) (show x159.toInt ≤ 101999 by omega) w0 H.size hT ) (cwV 4 hC.2.2.2.2 uV_RX12_456 rfl rfl rfl (by decide +kernel) ⟨Nat.le_of_ble_eq_true rfl, Nat.le_of_ble_eq_true rfl⟩) rfl hl.1 rfl (Nat.le_of_ble_eq_true rfl) dX12_way_26 (fun r160 w162 H locs hp161 hw => ?_)
      obtain ⟨hT, k163, hg166⟩ := hp161
      have hF := hF.tr k163 (by decide)
      have c167 := k163.gi kM_at12 (by decide) c156
      obtain ⟨g164, g165⟩ := hg166
      refine lv_istore (lv' := [(5, .int r160), (0, .ref (ad 0)), (1, .int a1), (2, .int a2), (3, .int a3), (4, .int a4)]) hx hb dX12_way_29 hl (by decide) rfl (fun ls hl => ?_)
      refine lv_iload hx hb dX12_way_31 (lv_at hl 0 rfl) ?_
      refine lv_ldcw (v := 100000000) hx hb hC.2.2.2.1 (hC.2.2.2.2 _ (List.mem_cons_of_mem _ uw_38_2)) dX12_way_33 ?_
      refine lv_icmp_ne (tgt := 42) hx hb dX12_way_36 (by decide) (fun c168 => ?_) (fun c168 => ?_)
      · have c168 : ¬ r160.toInt = (100000000 : Int) := wk_eqF c168
        refine lv_iload_n hx hb dX12_way_42 rfl (lv_at hl 2 rfl) ?_
        refine lv_istore (lv' := [(6, .int a1), (5, .int r160), (0, .ref (ad 0)), (1, .int a1), (2, .int a2), (3, .int a3), (4, .int a4)]) hx hb dX12_way_43 hl (by decide) rfl (fun ls hl => ?_)
        refine lv_iload_n hx hb dX12_way_45 rfl (lv_at hl 5 rfl) ?_
        refine lv_istore (lv' := [(7, .int a3), (6, .int a1), (5, .int r160), (0, .ref (ad 0)), (1, .int a1), (2, .int a2), (3, .int a3), (4, .int a4)]) hx hb dX12_way_46 hl (by decide) rfl (fun ls hl => ?_)
        refine lv_iconst (v := 0) hx hb dX12_way_48 (by decide) ?_
        refine lv_istore (lv' := [(8, .int 0), (7, .int a3), (6, .int a1), (5, .int r160), (0, .ref (ad 0)), (1, .int a1), (2, .int a2), (3, .int a3), (4, .int a4)]) hx hb dX12_way_49 hl (by decide) rfl (fun ls hl => ?_)
        exact L51 ((2147483647 - (0 : Int)).toNat + 1) r160 a1 a3 0 x155 H locs ls w162 (show 0 ≤ a1.toInt by omega) (show a1.toInt ≤ 9 by omega) (show 0 ≤ a2.toInt by omega) (show a2.toInt ≤ 9 by omega) (show 0 ≤ a3.toInt by omega) (show a3.toInt ≤ 99999 by omega) (show 0 ≤ a4.toInt from c158) (show 0 ≤ r160.toInt by omega) (show r160.toInt ≤ 100000100 by omega) (show 0 ≤ a1.toInt by omega) (show a1.toInt ≤ 12 by omega) (show 0 ≤ a3.toInt by omega) (show a3.toInt ≤ 100000208 by omega) (by decide) (show 1 ≤ x155.toInt by omega) (show x155.toInt ≤ 10 by omega) (show (0 : Int) ≤ a4.toInt + 0 by omega) (Nat.lt_succ_self _) hw hT hF c167 (lv_sub hl [4, 5, 6, 7, 8, 3, 2, 1, 0] rfl)
      · have c168 : r160.toInt = (100000000 : Int) := wk_eq.mp c168
        refine lv_bipush (v := (-2)) hx hb dX12_way_39 (by decide) ?_
        exact tk_iret hC hr hlocks hK ⟨hT, hF, (Or.inl ⟨rfl, (show 0 ≤ a1.toInt by omega), (show a1.toInt ≤ 9 by omega), (show 0 ≤ a2.toInt by omega), (show a2.toInt ≤ 9 by omega), (show 0 ≤ a3.toInt by omega), (show a3.toInt ≤ 99999 by omega), (show 0 ≤ a4.toInt from c158), ⟨x155, c167, (show 1 ≤ x155.toInt by omega), (show x155.toInt ≤ 10 by omega)⟩⟩)⟩ hw dX12_way_41
    · have c158 : a4.toInt < (0 : Int) := wk_leF c158
      exact J15  H locs ls w0   hw hT hF  (lv_sub hl [0, 1, 2, 3, 4] rfl)
abbrev P_X12_in_15 (ad : Nat → Nat) (cy : Nat → ClassId) (B : Int) (qr : Nat) (s1 : Int) (a0 : Int64) (w0 : va_W) : Int32 → va_W → Prop := fun r u => w0 = u ∧ ((r = 0) ∨ (r = 1 ∧ 0 ≤ a0.toInt ∧ a0.toInt ≤ 2))
set_option maxHeartbeats 4000000 in
set_option maxRecDepth 100000 in
theorem k_X12_in_15 (l : Launch) (adK adV : Nat → Nat) (dC : Nat → ClassId) (dI : Nat → Nat → Nat) (cy : Nat → ClassId) (ad : Nat → Nat) (B : Int) (hB0 : 100000 ≤ B) (hB1 : B ≤ 1073741824) (qr : Nat) (s1 : Int)  (a0 : Int64) (ra0 : (-2147483648) ≤ a0.toInt) (ta0 : a0.toInt ≤ 2147483647) (w0 : va_W) (sz : Nat) (hT : TW ksM ad cy B qr 12 w0)  : Met l yX12_in (wu yX12_in cX12_in 6 (some .boolean)) ({ frames := 1, cells := 0, slots := 0, locals := 12 }) (va_Pc [.long a0, .long 0, .long 2] (wpreS adK adV dC dI cy sz w0)) (va_Qi (P_X12_in_15 ad cy B qr s1 a0 w0) (fun u : va_W => wpost dC dI cy (va_A w0 sz) u) (va_A w0 sz)) 0 0 (va_A w0 sz) := by
  refine Met.ofW (cc := cX12_in) (maxL := 6) (ret := (some .boolean)) (by decide) rfl ?_
  intro p e s m args below meth c s₁ Bk hml hv
  obtain ⟨rfl, ⟨hsz, hP, hK, hD0⟩, hE, hSR⟩ := hv
  have hx := Bk.exec
  have hb := Bk.bytes
  have hr := Bk.returns
  have hlocks := Bk.notSynchronized
  have hC : CallFix p m c cX12_in 6 s _ (wu yX12_in cX12_in 6 (some .boolean)) RX12 := ⟨hx, hb, hml, findClass_of_methodNamed Bk.named, atoms_spec (ws := (wu yX12_in cX12_in 6 (some .boolean))) Bk.pre⟩
  subst hsz
  have hD := hD0.self (sz := s.heap.size)
  generalize hAe : va_A w0 s.heap.size = A at hD hE ⊢
  have hA : ∀ q : Nat, s.heap.size ≤ q → A q := fun q h => by rw [← hAe]; exact Or.inr h
  have hw : Wd dC dI A s.heap s.heap [] w0 := ⟨hP, hD, va_S.rf⟩
  have hF : FE ksM ([] : List (Nat × Nat × Nat)) w0 w0 := FE.rf
  have hl := lv_entry ([.long a0, .long 0, .long 2]) (n := 6) (Nat.le_of_ble_eq_true rfl)
  rw [lg_entry_eq]
  generalize (lg_sl ([.long a0, .long 0, .long 2]) ++ List.replicate (6 - (lg_sl ([.long a0, .long 0, .long 2])).length) Slot.unset).toArray = ls at hl ⊢
  have hl : lv_has ls 6 [(0, .long a0), (2, .long 0), (4, .long 2)] := hl
  generalize hloc : ([] : List Loc) = locs at hw ⊢
  have J17 : ∀ (H : Heap) (locs : List Loc) (ls : Array Slot), (-2147483648) ≤ a0.toInt → a0.toInt ≤ 2147483647 → Wd dC dI A s.heap H locs w0 → lv_has ls 6 [(0, .long a0), (2, .long 0), (4, .long 2)] → W p l e ({ frames := 1, cells := 0, slots := 0, locals := 12 }) s m (List.toArray [.long a0, .long 0, .long 2]) below meth c H locs 0 0 (MQ below (va_Qi (P_X12_in_15 ad cy B qr s1 a0 w0) (fun u : va_W => wpost dC dI cy A u) A) (List.toArray [.long a0, .long 0, .long 2]) s 0 0 A) (F0 m 17 ls []) := by
    intro H locs ls r1 t2 hw hl
    refine lv_iconst (v := 0) hx hb dX12_in_17 (by decide) ?_
    exact tk_zret hC hr rfl hlocks hK ⟨rfl, (Or.inl rfl)⟩ hw dX12_in_18
  refine lv_lload_n hx hb dX12_in_0 rfl (lv_at hl 0 rfl) ?_
  refine lv_lload_n hx hb dX12_in_1 rfl (lv_at hl 1 rfl) ?_
  refine W.lcmp hx hb dX12_in_2 ?_
  refine lv_if_lt (tgt := 17) hx hb dX12_in_3 (by decide) (fun c3 => ?_) (fun c3 => ?_)
  · have c3 : a0.toInt < (0 : Int) := wk_cltT c3
    exact J17  s.heap locs ls  (show (-2147483648) ≤ a0.toInt from ra0) (show a0.toInt ≤ 2147483647 from ta0)  hw   (lv_sub hl [0, 1, 2] rfl)
  · have c3 : (0 : Int) ≤ a0.toInt := wk_cltF c3
    refine lv_lload_n hx hb dX12_in_6 rfl (lv_at hl 0 rfl) ?_
    refine lv_lload hx hb dX12_in_7 (lv_at hl 2 rfl) ?_
    refine W.lcmp hx hb dX12_in_9 ?_
    refine lv_if_gt (tgt := 17) hx hb dX12_in_10 (by decide) (fun c4 => ?_) (fun c4 => ?_)
    · have c4 : (2 : Int) < a0.toInt := wk_cgtT c4
      exact J17  s.heap locs ls  (show (-2147483648) ≤ a0.toInt from ra0) (show a0.toInt ≤ 2147483647 from ta0)  hw   (lv_sub hl [0, 1, 2] rfl)
    · have c4 : a0.toInt ≤ (2 : Int) := wk_cgtF c4
      refine lv_iconst (v := 1) hx hb dX12_in_13 (by decide) ?_
      refine lv_goto (tgt := 18) hx hb dX12_in_14 (by decide) ?_
      exact tk_zret hC hr rfl hlocks hK ⟨rfl, (Or.inr ⟨rfl, (show 0 ≤ a0.toInt from c3), (show a0.toInt ≤ 2 from c4)⟩)⟩ hw dX12_in_18
abbrev P_X12_in_16 (ad : Nat → Nat) (cy : Nat → ClassId) (B : Int) (qr : Nat) (s1 : Int) (a0 : Int64) (w0 : va_W) : Int32 → va_W → Prop := fun r u => w0 = u ∧ ((r = 0) ∨ (r = 1 ∧ 0 ≤ a0.toInt ∧ a0.toInt ≤ 400))
set_option maxHeartbeats 4000000 in
set_option maxRecDepth 100000 in
theorem k_X12_in_16 (l : Launch) (adK adV : Nat → Nat) (dC : Nat → ClassId) (dI : Nat → Nat → Nat) (cy : Nat → ClassId) (ad : Nat → Nat) (B : Int) (hB0 : 100000 ≤ B) (hB1 : B ≤ 1073741824) (qr : Nat) (s1 : Int)  (a0 : Int64) (ra0 : (-2147483648) ≤ a0.toInt) (ta0 : a0.toInt ≤ 2147483647) (w0 : va_W) (sz : Nat) (hT : TW ksM ad cy B qr 12 w0)  : Met l yX12_in (wu yX12_in cX12_in 6 (some .boolean)) ({ frames := 1, cells := 0, slots := 0, locals := 12 }) (va_Pc [.long a0, .long 0, .long 400] (wpreS adK adV dC dI cy sz w0)) (va_Qi (P_X12_in_16 ad cy B qr s1 a0 w0) (fun u : va_W => wpost dC dI cy (va_A w0 sz) u) (va_A w0 sz)) 0 0 (va_A w0 sz) := by
  refine Met.ofW (cc := cX12_in) (maxL := 6) (ret := (some .boolean)) (by decide) rfl ?_
  intro p e s m args below meth c s₁ Bk hml hv
  obtain ⟨rfl, ⟨hsz, hP, hK, hD0⟩, hE, hSR⟩ := hv
  have hx := Bk.exec
  have hb := Bk.bytes
  have hr := Bk.returns
  have hlocks := Bk.notSynchronized
  have hC : CallFix p m c cX12_in 6 s _ (wu yX12_in cX12_in 6 (some .boolean)) RX12 := ⟨hx, hb, hml, findClass_of_methodNamed Bk.named, atoms_spec (ws := (wu yX12_in cX12_in 6 (some .boolean))) Bk.pre⟩
  subst hsz
  have hD := hD0.self (sz := s.heap.size)
  generalize hAe : va_A w0 s.heap.size = A at hD hE ⊢
  have hA : ∀ q : Nat, s.heap.size ≤ q → A q := fun q h => by rw [← hAe]; exact Or.inr h
  have hw : Wd dC dI A s.heap s.heap [] w0 := ⟨hP, hD, va_S.rf⟩
  have hF : FE ksM ([] : List (Nat × Nat × Nat)) w0 w0 := FE.rf
  have hl := lv_entry ([.long a0, .long 0, .long 400]) (n := 6) (Nat.le_of_ble_eq_true rfl)
  rw [lg_entry_eq]
  generalize (lg_sl ([.long a0, .long 0, .long 400]) ++ List.replicate (6 - (lg_sl ([.long a0, .long 0, .long 400])).length) Slot.unset).toArray = ls at hl ⊢
  have hl : lv_has ls 6 [(0, .long a0), (2, .long 0), (4, .long 400)] := hl
  generalize hloc : ([] : List Loc) = locs at hw ⊢
  have J17 : ∀ (H : Heap) (locs : List Loc) (ls : Array Slot), (-2147483648) ≤ a0.toInt → a0.toInt ≤ 2147483647 → Wd dC dI A s.heap H locs w0 → lv_has ls 6 [(0, .long a0), (2, .long 0), (4, .long 400)] → W p l e ({ frames := 1, cells := 0, slots := 0, locals := 12 }) s m (List.toArray [.long a0, .long 0, .long 400]) below meth c H locs 0 0 (MQ below (va_Qi (P_X12_in_16 ad cy B qr s1 a0 w0) (fun u : va_W => wpost dC dI cy A u) A) (List.toArray [.long a0, .long 0, .long 400]) s 0 0 A) (F0 m 17 ls []) := by
    intro H locs ls r1 t2 hw hl
    refine lv_iconst (v := 0) hx hb dX12_in_17 (by decide) ?_
    exact tk_zret hC hr rfl hlocks hK ⟨rfl, (Or.inl rfl)⟩ hw dX12_in_18
  refine lv_lload_n hx hb dX12_in_0 rfl (lv_at hl 0 rfl) ?_
  refine lv_lload_n hx hb dX12_in_1 rfl (lv_at hl 1 rfl) ?_
  refine W.lcmp hx hb dX12_in_2 ?_
  refine lv_if_lt (tgt := 17) hx hb dX12_in_3 (by decide) (fun c3 => ?_) (fun c3 => ?_)
  · have c3 : a0.toInt < (0 : Int) := wk_cltT c3
    exact J17  s.heap locs ls  (show (-2147483648) ≤ a0.toInt from ra0) (show a0.toInt ≤ 2147483647 from ta0)  hw   (lv_sub hl [0, 1, 2] rfl)
  · have c3 : (0 : Int) ≤ a0.toInt := wk_cltF c3
    refine lv_lload_n hx hb dX12_in_6 rfl (lv_at hl 0 rfl) ?_
    refine lv_lload hx hb dX12_in_7 (lv_at hl 2 rfl) ?_
    refine W.lcmp hx hb dX12_in_9 ?_
    refine lv_if_gt (tgt := 17) hx hb dX12_in_10 (by decide) (fun c4 => ?_) (fun c4 => ?_)
    · have c4 : (400 : Int) < a0.toInt := wk_cgtT c4
      exact J17  s.heap locs ls  (show (-2147483648) ≤ a0.toInt from ra0) (show a0.toInt ≤ 2147483647 from ta0)  hw   (lv_sub hl [0, 1, 2] rfl)
    · have c4 : a0.toInt ≤ (400 : Int) := wk_cgtF c4
      refine lv_iconst (v := 1) hx hb dX12_in_13 (by decide) ?_
      refine lv_goto (tgt := 18) hx hb dX12_in_14 (by decide) ?_
      exact tk_zret hC hr rfl hlocks hK ⟨rfl, (Or.inr ⟨rfl, (show 0 ≤ a0.toInt from c3), (show a0.toInt ≤ 400 from c4)⟩)⟩ hw dX12_in_18
abbrev P_X12_keeps_1 (ad : Nat → Nat) (cy : Nat → ClassId) (B : Int) (qr : Nat) (s1 : Int)  (w0 : va_W) : va_W → Prop := fun u => TW ksM ad cy B qr 12 u ∧ FE ksM [(74, 0, 296)] w0 u ∧ ((gi u 15 (0) = gi w0 12 0 ∧ gi u 15 (4) = gi w0 12 4 ∧ gi u 15 (9) = gi w0 12 9 ∧ (∀ j : Nat, j < 296 → gi u 15 j = gi w0 12 j)))
set_option maxHeartbeats 4000000 in
set_option maxRecDepth 100000 in
theorem k_X12_keeps_1 (l : Launch) (adK adV : Nat → Nat) (dC : Nat → ClassId) (dI : Nat → Nat → Nat) (cy : Nat → ClassId) (ad : Nat → Nat) (B : Int) (hB0 : 100000 ≤ B) (hB1 : B ≤ 1073741824) (qr : Nat) (s1 : Int)   (w0 : va_W) (sz : Nat) (hT : TW ksM ad cy B qr 12 w0)  : Met l yX12_keeps (wu yX12_keeps cX12_keeps 2 none) ({ frames := 1, cells := 0, slots := 0, locals := 12 }) (va_Pc [.ref (ad 0)] (wpreS adK adV dC dI cy sz w0)) (va_Qv (P_X12_keeps_1 ad cy B qr s1  w0) (fun u : va_W => wpost dC dI cy (va_A w0 sz) u) (va_A w0 sz)) 0 0 (va_A w0 sz) := by
  refine Met.ofW (cc := cX12_keeps) (maxL := 2) (ret := none) (by decide) rfl ?_
  intro p e s m args below meth c s₁ Bk hml hv
  obtain ⟨rfl, ⟨hsz, hP, hK, hD0⟩, hE, hSR⟩ := hv
  have hx := Bk.exec
  have hb := Bk.bytes
  have hr := Bk.returns
  have hlocks := Bk.notSynchronized
  have hC : CallFix p m c cX12_keeps 2 s _ (wu yX12_keeps cX12_keeps 2 none) RX12 := ⟨hx, hb, hml, findClass_of_methodNamed Bk.named, atoms_spec (ws := (wu yX12_keeps cX12_keeps 2 none)) Bk.pre⟩
  subst hsz
  have hD := hD0.self (sz := s.heap.size)
  generalize hAe : va_A w0 s.heap.size = A at hD hE ⊢
  have hA : ∀ q : Nat, s.heap.size ≤ q → A q := fun q h => by rw [← hAe]; exact Or.inr h
  have hw : Wd dC dI A s.heap s.heap [] w0 := ⟨hP, hD, va_S.rf⟩
  have hF : FE ksM [(74, 0, 296)] w0 w0 := FE.rf
  have hl := lv_entry ([.ref (ad 0)]) (n := 2) (Nat.le_of_ble_eq_true rfl)
  rw [lg_entry_eq]
  generalize (lg_sl ([.ref (ad 0)]) ++ List.replicate (2 - (lg_sl ([.ref (ad 0)])).length) Slot.unset).toArray = ls at hl ⊢
  have hl : lv_has ls 2 [(0, .ref (ad 0))] := hl
  generalize hloc : ([] : List Loc) = locs at hw ⊢
  have hinX12 : ∀ w ∈ u_ws RX12 TX12 42, w ∈ (wu yX12_keeps cX12_keeps 2 none) := fun _ h => List.mem_cons_of_mem _ (up_71 h)
  have L2 : ∀ (n2 : Nat) (v2_1 : Int32) (H : Heap) (locs : List Loc) (ls : Array Slot) (w1 : va_W), 0 ≤ v2_1.toInt → v2_1.toInt ≤ 296 → (v2_1.toInt ≤ 0 ∨ gi w1 15 (0) = gi w0 12 0) → (v2_1.toInt ≤ 4 ∨ gi w1 15 (4) = gi w0 12 4) → (v2_1.toInt ≤ 9 ∨ gi w1 15 (9) = gi w0 12 9) → (∀ j : Nat, (j : Int) < v2_1.toInt → gi w1 15 j = gi w0 12 j) → (296 - v2_1.toInt).toNat < n2 → Wd dC dI A s.heap H locs w1 → TW ksM ad cy B qr 12 w1 → FE ksM [(74, 0, 296)] w0 w1 → lv_has ls 2 [(0, .ref (ad 0)), (1, .int v2_1)] → W p l e ({ frames := 1, cells := 0, slots := 0, locals := 12 }) s m (List.toArray [.ref (ad 0)]) below meth c H locs 0 0 (MQ below (va_Qv (P_X12_keeps_1 ad cy B qr s1  w0) (fun u : va_W => wpost dC dI cy A u) A) (List.toArray [.ref (ad 0)]) s 0 0 A) (F0 m 2 ls []) := by
    intro n2
    induction n2 with
    | zero => intro v2_1 H locs ls w1 r2 t3 hcp0 hcp1 hcp2 hcr2_0 hm2 hw hT hF hl; omega
    | succ n2 ih2 =>
      intro v2_1 H locs ls w1 r2 t3 hcp0 hcp1 hcp2 hcr2_0 hm2 hw hT hF hl
      refine lv_iload_n hx hb dX12_keeps_2 rfl (lv_at hl 1 rfl) ?_
      refine lv_sipush (v := 296) hx hb dX12_keeps_3 (by decide) ?_
      refine lv_icmp_ge (tgt := 27) hx hb dX12_keeps_6 (by decide) (fun c4 => ?_) (fun c4 => ?_)
      · have c4 : (296 : Int) ≤ v2_1.toInt := wk_le.mp c4
        exact tk_vret hC hr hlocks hK ⟨hT, hF, ⟨(hcp0.resolve_left (by omega)), (hcp1.resolve_left (by omega)), (hcp2.resolve_left (by omega)), (by exact fun j hj => hcr2_0 j (by omega))⟩⟩ hw dX12_keeps_27
      · have c4 : v2_1.toInt < (296 : Int) := wk_leF c4
        refine lv_aload_n hx hb dX12_keeps_9 rfl (lv_at hl 0 rfl) ?_
        refine tk_getA hC hK hw hT hinX12 kM_at0 (by decide) rfl 32 (by decide) (List.mem_cons_of_mem _ uw_7_5) rfl rfl dX12_keeps_10 ?_
        refine lv_iload_n hx hb dX12_keeps_13 rfl (lv_at hl 1 rfl) ?_
        refine lv_aload_n hx hb dX12_keeps_14 rfl (lv_at hl 0 rfl) ?_
        refine tk_getA hC hK hw hT hinX12 kM_at0 (by decide) rfl 26 (by decide) (List.mem_cons_of_mem _ uw_7_1) rfl rfl dX12_keeps_15 ?_
        refine lv_iload_n hx hb dX12_keeps_18 rfl (lv_at hl 1 rfl) ?_
        refine tk_ialdR hC hK hw hT kM_at12 rfl (show 0 ≤ v2_1.toInt from r2) (show v2_1.toInt < 296 from c4) dX12_keeps_19 (fun x5 c6 Ex5 => ?_)
        have lEx5 : gi w1 12 (v2_1.toInt).toNat = x5 := c6
        have c6 : gi w1 12 (v2_1.toInt).toNat = x5 := (congrArg (gi w1 12) (congrArg Int.toNat (show v2_1.toInt = v2_1.toInt by omega))).trans c6
        have hF0 := hF
        refine tk_iastR hC hK hw hT kM_at15 (by decide) rfl (show 0 ≤ v2_1.toInt from r2) (show v2_1.toInt < 296 from c4) (tk_rgC rfl rfl (show v2_1.toInt.toNat % 296 = v2_1.toInt.toNat % 296 by omega) Ex5) dX12_keeps_20 (fun H locs w7 hw hT k9 c8 => ?_)
        have hF := hF.put kM_at15 (inE_of (a := 0) (b := 296) (by decide) (show 0 ≤ v2_1.toInt.toNat by omega) (show v2_1.toInt.toNat ≤ 296 by omega)) k9
        have c10 := k9.gi (Or.inl (tk_ne kM_at12 kM_at15 (by decide))) c6
        obtain ⟨x11, ex11⟩ : ∃ y : Int32, y = v2_1 + Int32.ofInt 1 := ⟨_, rfl⟩
        refine lv_iinc (v := x11) (lv' := [(1, .int x11), (0, .ref (ad 0))]) hx hb dX12_keeps_21 hl (k := 1) rfl ex11.symm (by decide) rfl (fun ls hl => ?_)
        have ex11 : x11.toInt = v2_1.toInt + 1 := by rw [ex11]; exact wk_add (y := 1) (show -2147483648 ≤ v2_1.toInt + 1 by omega) (show v2_1.toInt + 1 ≤ 2147483647 by omega)
        refine lv_goto (tgt := 2) hx hb dX12_keeps_24 (by decide) ?_
        exact ih2 x11 H locs ls w7 (show 0 ≤ x11.toInt by omega) (show x11.toInt ≤ 296 by omega) (copy_at (d := 0) (by first | rfl | omega) hcp0 k9 (show v2_1.toInt = v2_1.toInt + 0 by omega) c8 lEx5 (hF0.gi kM_at12 rfl rfl) (by omega) (by omega) (by omega)) (copy_at (d := 0) (by first | rfl | omega) hcp1 k9 (show v2_1.toInt = v2_1.toInt + 0 by omega) c8 lEx5 (hF0.gi kM_at12 rfl rfl) (by omega) (by omega) (by omega)) (copy_at (d := 0) (by first | rfl | omega) hcp2 k9 (show v2_1.toInt = v2_1.toInt + 0 by omega) c8 lEx5 (hF0.gi kM_at12 rfl rfl) (by omega) (by omega) (by omega)) (show ∀ j : Nat, (j : Int) < x11.toInt → gi w7 15 j = gi w0 12 j from kp_all hcr2_0 k9 (show v2_1.toInt = v2_1.toInt by omega) c8 lEx5 (fun j => hF0.gi kM_at12 rfl rfl) (by omega) (by omega)) (show (296 - x11.toInt).toNat < n2 by omega) hw hT hF  (lv_sub hl [1, 0] rfl)
  refine lv_iconst (v := 0) hx hb dX12_keeps_0 (by decide) ?_
  refine lv_istore_n (lv' := [(1, .int 0), (0, .ref (ad 0))]) hx hb dX12_keeps_1 rfl hl (by decide) rfl (fun ls hl => ?_)
  exact L2 ((296 - (0 : Int)).toNat + 1) 0 s.heap locs ls w0 (by decide) (by decide) (show ((0 : Int) ≤ 0 ∨ gi w0 15 (0) = gi w0 12 0) from Or.inl (by omega)) (show ((0 : Int) ≤ 4 ∨ gi w0 15 (4) = gi w0 12 4) from Or.inl (by omega)) (show ((0 : Int) ≤ 9 ∨ gi w0 15 (9) = gi w0 12 9) from Or.inl (by omega)) (show ∀ j : Nat, (j : Int) < (0 : Int) → gi w0 15 j = gi w0 12 j from fun j hj => absurd hj (by omega)) (Nat.lt_succ_self _) hw hT hF  (lv_sub hl [1, 0] rfl)
abbrev P_X12_putsBack_1 (ad : Nat → Nat) (cy : Nat → ClassId) (B : Int) (qr : Nat) (s1 : Int)  (w0 : va_W) : va_W → Prop := fun u => TW ksM ad cy B qr 12 u ∧ FE ksM [(71, 0, 295)] w0 u ∧ ((gi u 12 (0) = gi w0 15 0 ∧ gi u 12 (4) = gi w0 15 4 ∧ gi u 12 (9) = gi w0 15 9 ∧ (∀ j : Nat, j < 296 → gi u 12 j = gi w0 15 j)))
set_option maxHeartbeats 4000000 in
set_option maxRecDepth 100000 in
theorem k_X12_putsBack_1 (l : Launch) (adK adV : Nat → Nat) (dC : Nat → ClassId) (dI : Nat → Nat → Nat) (cy : Nat → ClassId) (ad : Nat → Nat) (B : Int) (hB0 : 100000 ≤ B) (hB1 : B ≤ 1073741824) (qr : Nat) (s1 : Int)   (w0 : va_W) (sz : Nat) (hT : TW ksM ad cy B qr 12 w0)  : Met l yX12_putsBack (wu yX12_putsBack cX12_putsBack 2 none) ({ frames := 1, cells := 0, slots := 0, locals := 12 }) (va_Pc [.ref (ad 0)] (wpreS adK adV dC dI cy sz w0)) (va_Qv (P_X12_putsBack_1 ad cy B qr s1  w0) (fun u : va_W => wpost dC dI cy (va_A w0 sz) u) (va_A w0 sz)) 0 0 (va_A w0 sz) := by
  refine Met.ofW (cc := cX12_putsBack) (maxL := 2) (ret := none) (by decide) rfl ?_
  intro p e s m args below meth c s₁ Bk hml hv
  obtain ⟨rfl, ⟨hsz, hP, hK, hD0⟩, hE, hSR⟩ := hv
  have hx := Bk.exec
  have hb := Bk.bytes
  have hr := Bk.returns
  have hlocks := Bk.notSynchronized
  have hC : CallFix p m c cX12_putsBack 2 s _ (wu yX12_putsBack cX12_putsBack 2 none) RX12 := ⟨hx, hb, hml, findClass_of_methodNamed Bk.named, atoms_spec (ws := (wu yX12_putsBack cX12_putsBack 2 none)) Bk.pre⟩
  subst hsz
  have hD := hD0.self (sz := s.heap.size)
  generalize hAe : va_A w0 s.heap.size = A at hD hE ⊢
  have hA : ∀ q : Nat, s.heap.size ≤ q → A q := fun q h => by rw [← hAe]; exact Or.inr h
  have hw : Wd dC dI A s.heap s.heap [] w0 := ⟨hP, hD, va_S.rf⟩
  have hF : FE ksM [(71, 0, 295)] w0 w0 := FE.rf
  have hl := lv_entry ([.ref (ad 0)]) (n := 2) (Nat.le_of_ble_eq_true rfl)
  rw [lg_entry_eq]
  generalize (lg_sl ([.ref (ad 0)]) ++ List.replicate (2 - (lg_sl ([.ref (ad 0)])).length) Slot.unset).toArray = ls at hl ⊢
  have hl : lv_has ls 2 [(0, .ref (ad 0))] := hl
  generalize hloc : ([] : List Loc) = locs at hw ⊢
  have hinX12 : ∀ w ∈ u_ws RX12 TX12 42, w ∈ (wu yX12_putsBack cX12_putsBack 2 none) := fun _ h => List.mem_cons_of_mem _ (up_71 h)
  have L2 : ∀ (n2 : Nat) (v2_1 : Int32) (H : Heap) (locs : List Loc) (ls : Array Slot) (w1 : va_W), 0 ≤ v2_1.toInt → v2_1.toInt ≤ 296 → (v2_1.toInt ≤ 0 ∨ gi w1 12 (0) = gi w0 15 0) → (v2_1.toInt ≤ 4 ∨ gi w1 12 (4) = gi w0 15 4) → (v2_1.toInt ≤ 9 ∨ gi w1 12 (9) = gi w0 15 9) → (∀ j : Nat, (j : Int) < v2_1.toInt → gi w1 12 j = gi w0 15 j) → (296 - v2_1.toInt).toNat < n2 → Wd dC dI A s.heap H locs w1 → TW ksM ad cy B qr 12 w1 → FE ksM [(71, 0, 295)] w0 w1 → lv_has ls 2 [(0, .ref (ad 0)), (1, .int v2_1)] → W p l e ({ frames := 1, cells := 0, slots := 0, locals := 12 }) s m (List.toArray [.ref (ad 0)]) below meth c H locs 0 0 (MQ below (va_Qv (P_X12_putsBack_1 ad cy B qr s1  w0) (fun u : va_W => wpost dC dI cy A u) A) (List.toArray [.ref (ad 0)]) s 0 0 A) (F0 m 2 ls []) := by
    intro n2
    induction n2 with
    | zero => intro v2_1 H locs ls w1 r2 t3 hcp0 hcp1 hcp2 hcr2_0 hm2 hw hT hF hl; omega
    | succ n2 ih2 =>
      intro v2_1 H locs ls w1 r2 t3 hcp0 hcp1 hcp2 hcr2_0 hm2 hw hT hF hl
      refine lv_iload_n hx hb dX12_putsBack_2 rfl (lv_at hl 1 rfl) ?_
      refine lv_sipush (v := 296) hx hb dX12_putsBack_3 (by decide) ?_
      refine lv_icmp_ge (tgt := 27) hx hb dX12_putsBack_6 (by decide) (fun c4 => ?_) (fun c4 => ?_)
      · have c4 : (296 : Int) ≤ v2_1.toInt := wk_le.mp c4
        exact tk_vret hC hr hlocks hK ⟨hT, hF, ⟨(hcp0.resolve_left (by omega)), (hcp1.resolve_left (by omega)), (hcp2.resolve_left (by omega)), (by exact fun j hj => hcr2_0 j (by omega))⟩⟩ hw dX12_putsBack_27
      · have c4 : v2_1.toInt < (296 : Int) := wk_leF c4
        refine lv_aload_n hx hb dX12_putsBack_9 rfl (lv_at hl 0 rfl) ?_
        refine tk_getA hC hK hw hT hinX12 kM_at0 (by decide) rfl 26 (by decide) (List.mem_cons_of_mem _ uw_7_1) rfl rfl dX12_putsBack_10 ?_
        refine lv_iload_n hx hb dX12_putsBack_13 rfl (lv_at hl 1 rfl) ?_
        refine lv_aload_n hx hb dX12_putsBack_14 rfl (lv_at hl 0 rfl) ?_
        refine tk_getA hC hK hw hT hinX12 kM_at0 (by decide) rfl 32 (by decide) (List.mem_cons_of_mem _ uw_7_5) rfl rfl dX12_putsBack_15 ?_
        refine lv_iload_n hx hb dX12_putsBack_18 rfl (lv_at hl 1 rfl) ?_
        refine tk_ialdR hC hK hw hT kM_at15 rfl (show 0 ≤ v2_1.toInt from r2) (show v2_1.toInt < 296 from c4) dX12_putsBack_19 (fun x5 c6 Ex5 => ?_)
        have lEx5 : gi w1 15 (v2_1.toInt).toNat = x5 := c6
        have hF0 := hF
        refine tk_iastR hC hK hw hT kM_at12 (by decide) rfl (show 0 ≤ v2_1.toInt from r2) (show v2_1.toInt < 296 from c4) (tk_rgC rfl rfl (show v2_1.toInt.toNat % 296 = v2_1.toInt.toNat % 296 by omega) Ex5) dX12_putsBack_20 (fun H locs w7 hw hT k9 c8 => ?_)
        have hF := hF.put kM_at12 (inE_of (a := 0) (b := 295) (by decide) (show 0 ≤ v2_1.toInt.toNat by omega) (show v2_1.toInt.toNat ≤ 295 by omega)) k9
        obtain ⟨x10, ex10⟩ : ∃ y : Int32, y = v2_1 + Int32.ofInt 1 := ⟨_, rfl⟩
        refine lv_iinc (v := x10) (lv' := [(1, .int x10), (0, .ref (ad 0))]) hx hb dX12_putsBack_21 hl (k := 1) rfl ex10.symm (by decide) rfl (fun ls hl => ?_)
        have ex10 : x10.toInt = v2_1.toInt + 1 := by rw [ex10]; exact wk_add (y := 1) (show -2147483648 ≤ v2_1.toInt + 1 by omega) (show v2_1.toInt + 1 ≤ 2147483647 by omega)
        refine lv_goto (tgt := 2) hx hb dX12_putsBack_24 (by decide) ?_
        exact ih2 x10 H locs ls w7 (show 0 ≤ x10.toInt by omega) (show x10.toInt ≤ 296 by omega) (copy_at (d := 0) (by first | rfl | omega) hcp0 k9 (show v2_1.toInt = v2_1.toInt + 0 by omega) c8 lEx5 (hF0.gi kM_at15 rfl rfl) (by omega) (by omega) (by omega)) (copy_at (d := 0) (by first | rfl | omega) hcp1 k9 (show v2_1.toInt = v2_1.toInt + 0 by omega) c8 lEx5 (hF0.gi kM_at15 rfl rfl) (by omega) (by omega) (by omega)) (copy_at (d := 0) (by first | rfl | omega) hcp2 k9 (show v2_1.toInt = v2_1.toInt + 0 by omega) c8 lEx5 (hF0.gi kM_at15 rfl rfl) (by omega) (by omega) (by omega)) (show ∀ j : Nat, (j : Int) < x10.toInt → gi w7 12 j = gi w0 15 j from kp_all hcr2_0 k9 (show v2_1.toInt = v2_1.toInt by omega) c8 lEx5 (fun j => hF0.gi kM_at15 rfl rfl) (by omega) (by omega)) (show (296 - x10.toInt).toNat < n2 by omega) hw hT hF  (lv_sub hl [1, 0] rfl)
  refine lv_iconst (v := 0) hx hb dX12_putsBack_0 (by decide) ?_
  refine lv_istore_n (lv' := [(1, .int 0), (0, .ref (ad 0))]) hx hb dX12_putsBack_1 rfl hl (by decide) rfl (fun ls hl => ?_)
  exact L2 ((296 - (0 : Int)).toNat + 1) 0 s.heap locs ls w0 (by decide) (by decide) (show ((0 : Int) ≤ 0 ∨ gi w0 12 (0) = gi w0 15 0) from Or.inl (by omega)) (show ((0 : Int) ≤ 4 ∨ gi w0 12 (4) = gi w0 15 4) from Or.inl (by omega)) (show ((0 : Int) ≤ 9 ∨ gi w0 12 (9) = gi w0 15 9) from Or.inl (by omega)) (show ∀ j : Nat, (j : Int) < (0 : Int) → gi w0 12 j = gi w0 15 j from fun j hj => absurd hj (by omega)) (Nat.lt_succ_self _) hw hT hF  (lv_sub hl [1, 0] rfl)
abbrev P_X12_comes_1 (ad : Nat → Nat) (cy : Nat → ClassId) (B : Int) (qr : Nat) (s1 : Int) (a1 : Int32) (a2 : Int32) (a3 : Int32) (w0 : va_W) : Int32 → va_W → Prop := fun r u => TW ksM ad cy (B + 3600) qr 12 u ∧ FE ksM [(12, 24, 24), (12, 31, 31), (69, 0, 64), (70, 0, 10), (71, 0, 295), (71, 216, 243), (71, 220, 247), (71, 221, 248), (71, 222, 249), (71, 223, 250), (71, 224, 251), (72, 0, 12), (73, 0, 10), (74, 0, 296)] w0 u ∧ ((0 ≤ a1.toInt ∧ a1.toInt ≤ 3 ∧ 0 ≤ a2.toInt ∧ a2.toInt ≤ 400 ∧ 2 ≤ a3.toInt ∧ a3.toInt ≤ 2 ∧ (SA w0 u)) ∨ (r = (-2) ∧ 0 ≤ a1.toInt ∧ a1.toInt ≤ 3 ∧ 0 ≤ a2.toInt ∧ a2.toInt ≤ 400 ∧ 0 ≤ a3.toInt ∧ a3.toInt ≤ 0 ∧ (SA w0 u)) ∨ (0 ≤ r.toInt ∧ r.toInt ≤ 1073741824 ∧ 0 ≤ a1.toInt ∧ a1.toInt ≤ 3 ∧ 0 ≤ a2.toInt ∧ a2.toInt ≤ 400 ∧ 0 ≤ a3.toInt ∧ a3.toInt ≤ 1 ∧ (SA w0 u)) ∨ (r = (-1) ∧ (SA w0 u)))
set_option maxHeartbeats 4000000 in
set_option maxRecDepth 100000 in
theorem k_X12_comes_1 (l : Launch) (adK adV : Nat → Nat) (dC : Nat → ClassId) (dI : Nat → Nat → Nat) (cy : Nat → ClassId) (ad : Nat → Nat) (B : Int) (hB0 : 100000 ≤ B) (hB1 : B ≤ 1073738224) (qr : Nat) (s1 : Int)  (a1 : Int32) (a2 : Int32) (a3 : Int32) (w0 : va_W) (sz : Nat) (hT : TW ksM ad cy B qr 12 w0) (hRW : RW w0) : Met l yX12_comes (wu yX12_comes cX12_comes 7 (some .int)) ({ frames := 9, cells := 0, slots := 0, locals := 194 }) (va_Pc [.ref (ad 0), .int a1, .int a2, .int a3] (wpreS adK adV dC dI cy sz w0)) (va_Qi (P_X12_comes_1 ad cy B qr s1 a1 a2 a3 w0) (fun u : va_W => wpost dC dI cy (va_A w0 sz) u) (va_A w0 sz)) 0 0 (va_A w0 sz) := by
  refine Met.ofW (cc := cX12_comes) (maxL := 7) (ret := (some .int)) (by decide) rfl ?_
  intro p e s m args below meth c s₁ Bk hml hv
  obtain ⟨rfl, ⟨hsz, hP, hK, hD0⟩, hE, hSR⟩ := hv
  have hx := Bk.exec
  have hb := Bk.bytes
  have hr := Bk.returns
  have hlocks := Bk.notSynchronized
  have hC : CallFix p m c cX12_comes 7 s _ (wu yX12_comes cX12_comes 7 (some .int)) RX12 := ⟨hx, hb, hml, findClass_of_methodNamed Bk.named, atoms_spec (ws := (wu yX12_comes cX12_comes 7 (some .int))) Bk.pre⟩
  subst hsz
  have hD := hD0.self (sz := s.heap.size)
  generalize hAe : va_A w0 s.heap.size = A at hD hE ⊢
  have hA : ∀ q : Nat, s.heap.size ≤ q → A q := fun q h => by rw [← hAe]; exact Or.inr h
  have hw : Wd dC dI A s.heap s.heap [] w0 := ⟨hP, hD, va_S.rf⟩
  have hF : FE ksM [(12, 24, 24), (12, 31, 31), (69, 0, 64), (70, 0, 10), (71, 0, 295), (71, 216, 243), (71, 220, 247), (71, 221, 248), (71, 222, 249), (71, 223, 250), (71, 224, 251), (72, 0, 12), (73, 0, 10), (74, 0, 296)] w0 w0 := FE.rf
  have hSA : SA w0 w0 := fun _ _ => rfl
  have hl := lv_entry ([.ref (ad 0), .int a1, .int a2, .int a3]) (n := 7) (Nat.le_of_ble_eq_true rfl)
  rw [lg_entry_eq]
  generalize (lg_sl ([.ref (ad 0), .int a1, .int a2, .int a3]) ++ List.replicate (7 - (lg_sl ([.ref (ad 0), .int a1, .int a2, .int a3])).length) Slot.unset).toArray = ls at hl ⊢
  have hl : lv_has ls 7 [(0, .ref (ad 0)), (1, .int a1), (2, .int a2), (3, .int a3)] := hl
  generalize hloc : ([] : List Loc) = locs at hw ⊢
  have J32 : ∀ (H : Heap) (locs : List Loc) (ls : Array Slot) (w1 : va_W), Wd dC dI A s.heap H locs w1 → TW ksM ad cy B qr 12 w1 → FE ksM [(12, 24, 24), (12, 31, 31), (69, 0, 64), (70, 0, 10), (71, 0, 295), (71, 216, 243), (71, 220, 247), (71, 221, 248), (71, 222, 249), (71, 223, 250), (71, 224, 251), (72, 0, 12), (73, 0, 10), (74, 0, 296)] w0 w1 → RW w1 → SA w0 w1 → lv_has ls 7 [(0, .ref (ad 0)), (1, .int a1), (2, .int a2), (3, .int a3)] → W p l e ({ frames := 9, cells := 0, slots := 0, locals := 194 }) s m (List.toArray [.ref (ad 0), .int a1, .int a2, .int a3]) below meth c H locs 0 0 (MQ below (va_Qi (P_X12_comes_1 ad cy B qr s1 a1 a2 a3 w0) (fun u : va_W => wpost dC dI cy A u) A) (List.toArray [.ref (ad 0), .int a1, .int a2, .int a3]) s 0 0 A) (F0 m 32 ls []) := by
    intro H locs ls w1 hw hT hF hRW hSA hl
    refine lv_iconst (v := (-1)) hx hb dX12_comes_32 (by decide) ?_
    exact tk_iret hC hr hlocks hK ⟨(hT.up (show B ≤ (B + 3600) by omega)), hF, (Or.inr (Or.inr (Or.inr ⟨rfl, (by exact hSA)⟩)))⟩ hw dX12_comes_33
  have J76 : ∀ (v76_4 : Int32) (v76_5 : Int32) (f76_12_5 : Int32) (H : Heap) (locs : List Loc) (ls : Array Slot) (w2 : va_W), 0 ≤ a1.toInt → a1.toInt ≤ 3 → 0 ≤ a2.toInt → a2.toInt ≤ 400 → 0 ≤ a3.toInt → a3.toInt ≤ 2 → 0 ≤ v76_4.toInt → v76_4.toInt ≤ 400 → 1 ≤ f76_12_5.toInt → f76_12_5.toInt ≤ 4 → Wd dC dI A s.heap H locs w2 → TW ksM ad cy (B + 3600) qr 12 w2 → FE ksM [(12, 24, 24), (12, 31, 31), (69, 0, 64), (70, 0, 10), (71, 0, 295), (71, 216, 243), (71, 220, 247), (71, 221, 248), (71, 222, 249), (71, 223, 250), (71, 224, 251), (72, 0, 12), (73, 0, 10), (74, 0, 296)] w0 w2 → RW w2 → KBk w0 w2 → gi w2 12 5 = f76_12_5 → lv_has ls 7 [(0, .ref (ad 0)), (1, .int a1), (2, .int a2), (3, .int a3), (4, .int v76_4), (5, .int v76_5)] → W p l e ({ frames := 9, cells := 0, slots := 0, locals := 194 }) s m (List.toArray [.ref (ad 0), .int a1, .int a2, .int a3]) below meth c H locs 0 0 (MQ below (va_Qi (P_X12_comes_1 ad cy B qr s1 a1 a2 a3 w0) (fun u : va_W => wpost dC dI cy A u) A) (List.toArray [.ref (ad 0), .int a1, .int a2, .int a3]) s 0 0 A) (F0 m 76 ls []) := by
    intro v76_4 v76_5 f76_12_5 H locs ls w2 r3 t4 r5 t6 r7 t8 r9 t10 r11 t12 hw hT hF hRW hKB c13 hl
    refine lv_iload_n hx hb dX12_comes_76 rfl (lv_at hl 3 rfl) ?_
    refine lv_if_ne (tgt := 102) hx hb dX12_comes_77 (by decide) (fun c14 => ?_) (fun c14 => ?_)
    · have c14 : ¬ a3.toInt = (0 : Int) := wk_eqF c14
      refine lv_iload_n hx hb dX12_comes_102 rfl (lv_at hl 3 rfl) ?_
      refine lv_iconst (v := 1) hx hb dX12_comes_103 (by decide) ?_
      refine lv_icmp_ne (tgt := 112) hx hb dX12_comes_104 (by decide) (fun c15 => ?_) (fun c15 => ?_)
      · have c15 : ¬ a3.toInt = (1 : Int) := wk_eqF c15
        refine lv_aload_n hx hb dX12_comes_112 rfl (lv_at hl 0 rfl) ?_
        refine lv_iload_n hx hb dX12_comes_113 rfl (lv_at hl 1 rfl) ?_
        refine lv_bipush (v := 6) hx hb dX12_comes_114 (by decide) ?_
        refine tk_Vi hC hK hw hT hA hE hSR kM_at0 (by decide) rfl (k_X12_walkerOf_8 l adK adV dC dI cy ad (B + 3600) (by omega) (by omega) qr s1   a1 (show 0 ≤ a1.toInt from r3) (show a1.toInt ≤ 3 from t4) w2 H.size hT ) (cwV 2 hC.2.2.2.2 uV_RX12_372 rfl rfl rfl (by decide +kernel) ⟨Nat.le_of_ble_eq_true rfl, Nat.le_of_ble_eq_true rfl⟩) rfl hl.1 rfl (Nat.le_of_ble_eq_true rfl) dX12_comes_116 (fun r16 w18 H locs hp17 hw => ?_)
        obtain ⟨rfl, hg21⟩ := hp17
        have c20 := hg21
        refine lv_iload hx hb dX12_comes_119 (lv_at hl 5 rfl) ?_
        refine lv_isub hx hb dX12_comes_121 ?_
        have nx22 := wk_i32 r16
        have nx23 := wk_i32 v76_5
        refine lv_topi (fun x24 ex24 => ?_)
        refine lv_istore (lv' := [(6, .int x24), (0, .ref (ad 0)), (1, .int a1), (2, .int a2), (3, .int a3), (4, .int v76_4), (5, .int v76_5)]) hx hb dX12_comes_122 hl (by decide) rfl (fun ls hl => ?_)
        refine lv_aload_n hx hb dX12_comes_124 rfl (lv_at hl 1 rfl) ?_
        refine tk_Vv hC hK hw hT hA hE hSR kM_at0 (by decide) rfl (k_X12_putsBack_1 l adK adV dC dI cy ad (B + 3600) (by omega) (by omega) qr s1    w2 H.size hT ) (cwV 0 hC.2.2.2.2 uV_RX12_429 rfl rfl rfl (by decide +kernel) ⟨Nat.le_of_ble_eq_true rfl, Nat.le_of_ble_eq_true rfl⟩) rfl hl.1 rfl (Nat.le_of_ble_eq_true rfl) dX12_comes_125 (fun w27 H locs hp26 hw => ?_)
        obtain ⟨hT, k28, hg33⟩ := hp26
        have hKB := KB_FE k28 (fun _ => rfl) hKB
        have hRW := RW_FE k28 (fun _ => rfl) (fun _ => rfl) (fun _ => rfl) hRW
        have hF := hF.tr k28 (by decide)
        obtain ⟨c29, c30, c31, hq32⟩ := hg33
        have hSA : SA w0 w27 := fun j hj => (hq32 j hj).trans ((k28.gi kM_at15 rfl rfl).symm.trans (hKB j hj))
        refine lv_iload hx hb dX12_comes_128 (lv_at hl 0 rfl) ?_
        exact tk_iret hC hr hlocks hK ⟨hT, hF, (Or.inl ⟨(show 0 ≤ a1.toInt from r3), (show a1.toInt ≤ 3 from t4), (show 0 ≤ a2.toInt from r5), (show a2.toInt ≤ 400 from t6), (show 2 ≤ a3.toInt by omega), (show a3.toInt ≤ 2 from t8), (by exact hSA)⟩)⟩ hw dX12_comes_130
      · have c15 : a3.toInt = (1 : Int) := wk_eq.mp c15
        refine lv_iload hx hb dX12_comes_107 (lv_at hl 4 rfl) ?_
        refine lv_goto (tgt := 122) hx hb dX12_comes_109 (by decide) ?_
        refine lv_istore (lv' := [(6, .int v76_4), (0, .ref (ad 0)), (1, .int a1), (2, .int a2), (3, .int a3), (4, .int v76_4), (5, .int v76_5)]) hx hb dX12_comes_122 hl (by decide) rfl (fun ls hl => ?_)
        refine lv_aload_n hx hb dX12_comes_124 rfl (lv_at hl 1 rfl) ?_
        refine tk_Vv hC hK hw hT hA hE hSR kM_at0 (by decide) rfl (k_X12_putsBack_1 l adK adV dC dI cy ad (B + 3600) (by omega) (by omega) qr s1    w2 H.size hT ) (cwV 0 hC.2.2.2.2 uV_RX12_429 rfl rfl rfl (by decide +kernel) ⟨Nat.le_of_ble_eq_true rfl, Nat.le_of_ble_eq_true rfl⟩) rfl hl.1 rfl (Nat.le_of_ble_eq_true rfl) dX12_comes_125 (fun w36 H locs hp35 hw => ?_)
        obtain ⟨hT, k37, hg42⟩ := hp35
        have hKB := KB_FE k37 (fun _ => rfl) hKB
        have hRW := RW_FE k37 (fun _ => rfl) (fun _ => rfl) (fun _ => rfl) hRW
        have hF := hF.tr k37 (by decide)
        obtain ⟨c38, c39, c40, hq41⟩ := hg42
        have hSA : SA w0 w36 := fun j hj => (hq41 j hj).trans ((k37.gi kM_at15 rfl rfl).symm.trans (hKB j hj))
        refine lv_iload hx hb dX12_comes_128 (lv_at hl 0 rfl) ?_
        exact tk_iret hC hr hlocks hK ⟨hT, hF, (Or.inr (Or.inr (Or.inl ⟨(show 0 ≤ v76_4.toInt from r9), (show v76_4.toInt ≤ 1073741824 from Int.le_trans t10 (by decide)), (show 0 ≤ a1.toInt from r3), (show a1.toInt ≤ 3 from t4), (show 0 ≤ a2.toInt from r5), (show a2.toInt ≤ 400 from t6), (show 0 ≤ a3.toInt from r7), (show a3.toInt ≤ 1 by omega), (by exact hSA)⟩)))⟩ hw dX12_comes_130
    · have c14 : a3.toInt = (0 : Int) := wk_eq.mp c14
      refine lv_aload_n hx hb dX12_comes_80 rfl (lv_at hl 0 rfl) ?_
      refine lv_iload_n hx hb dX12_comes_81 rfl (lv_at hl 1 rfl) ?_
      refine tk_Vi hC hK hw hT hA hE hSR kM_at0 (by decide) rfl (k_X12_isThere_1 l adK adV dC dI cy ad (B + 3600) (by omega) (by omega) qr s1   a1 (show 0 ≤ a1.toInt from r3) (show a1.toInt ≤ 3 from t4) w2 H.size hT ) (cwV 1 hC.2.2.2.2 uV_RX12_416 rfl rfl rfl (by decide +kernel) ⟨Nat.le_of_ble_eq_true rfl, Nat.le_of_ble_eq_true rfl⟩) rfl hl.1 rfl (Nat.le_of_ble_eq_true rfl) dX12_comes_82 (fun r43 w45 H locs hp44 hw => ?_)
      obtain ⟨rfl, hg47⟩ := hp44
      rcases hg47 with rfl | rfl
      · refine lv_if_eq (tgt := 97) hx hb dX12_comes_85 (by decide) (fun _ => ?_) (fun c => absurd (by decide) c)
        refine lv_bipush (v := (-2)) hx hb dX12_comes_97 (by decide) ?_
        refine lv_goto (tgt := 122) hx hb dX12_comes_99 (by decide) ?_
        refine lv_istore (lv' := [(6, .int (-2)), (0, .ref (ad 0)), (1, .int a1), (2, .int a2), (3, .int a3), (4, .int v76_4), (5, .int v76_5)]) hx hb dX12_comes_122 hl (by decide) rfl (fun ls hl => ?_)
        refine lv_aload_n hx hb dX12_comes_124 rfl (lv_at hl 1 rfl) ?_
        refine tk_Vv hC hK hw hT hA hE hSR kM_at0 (by decide) rfl (k_X12_putsBack_1 l adK adV dC dI cy ad (B + 3600) (by omega) (by omega) qr s1    w2 H.size hT ) (cwV 0 hC.2.2.2.2 uV_RX12_429 rfl rfl rfl (by decide +kernel) ⟨Nat.le_of_ble_eq_true rfl, Nat.le_of_ble_eq_true rfl⟩) rfl hl.1 rfl (Nat.le_of_ble_eq_true rfl) dX12_comes_125 (fun w50 H locs hp49 hw => ?_)
        obtain ⟨hT, k51, hg56⟩ := hp49
        have hKB := KB_FE k51 (fun _ => rfl) hKB
        have hRW := RW_FE k51 (fun _ => rfl) (fun _ => rfl) (fun _ => rfl) hRW
        have hF := hF.tr k51 (by decide)
        obtain ⟨c52, c53, c54, hq55⟩ := hg56
        have hSA : SA w0 w50 := fun j hj => (hq55 j hj).trans ((k51.gi kM_at15 rfl rfl).symm.trans (hKB j hj))
        refine lv_iload hx hb dX12_comes_128 (lv_at hl 0 rfl) ?_
        exact tk_iret hC hr hlocks hK ⟨hT, hF, (Or.inr (Or.inl ⟨rfl, (show 0 ≤ a1.toInt from r3), (show a1.toInt ≤ 3 from t4), (show 0 ≤ a2.toInt from r5), (show a2.toInt ≤ 400 from t6), (show 0 ≤ a3.toInt from r7), (show a3.toInt ≤ 0 by omega), (by exact hSA)⟩))⟩ hw dX12_comes_130
      · refine lv_if_eq (tgt := 97) hx hb dX12_comes_85 (by decide) (fun c => absurd c (by decide)) (fun _ => ?_)
        refine lv_aload_n hx hb dX12_comes_88 rfl (lv_at hl 0 rfl) ?_
        refine lv_iload_n hx hb dX12_comes_89 rfl (lv_at hl 1 rfl) ?_
        refine lv_iconst (v := 4) hx hb dX12_comes_90 (by decide) ?_
        refine tk_Vi hC hK hw hT hA hE hSR kM_at0 (by decide) rfl (k_X12_walkerOf_4 l adK adV dC dI cy ad (B + 3600) (by omega) (by omega) qr s1   a1 (show 0 ≤ a1.toInt from r3) (show a1.toInt ≤ 3 from t4) w2 H.size hT ) (cwV 2 hC.2.2.2.2 uV_RX12_372 rfl rfl rfl (by decide +kernel) ⟨Nat.le_of_ble_eq_true rfl, Nat.le_of_ble_eq_true rfl⟩) rfl hl.1 rfl (Nat.le_of_ble_eq_true rfl) dX12_comes_91 (fun r57 w59 H locs hp58 hw => ?_)
        obtain ⟨rfl, hg64⟩ := hp58
        obtain ⟨g61, g62, c63⟩ := hg64
        refine lv_goto (tgt := 122) hx hb dX12_comes_94 (by decide) ?_
        refine lv_istore (lv' := [(6, .int r57), (0, .ref (ad 0)), (1, .int a1), (2, .int a2), (3, .int a3), (4, .int v76_4), (5, .int v76_5)]) hx hb dX12_comes_122 hl (by decide) rfl (fun ls hl => ?_)
        refine lv_aload_n hx hb dX12_comes_124 rfl (lv_at hl 1 rfl) ?_
        refine tk_Vv hC hK hw hT hA hE hSR kM_at0 (by decide) rfl (k_X12_putsBack_1 l adK adV dC dI cy ad (B + 3600) (by omega) (by omega) qr s1    w2 H.size hT ) (cwV 0 hC.2.2.2.2 uV_RX12_429 rfl rfl rfl (by decide +kernel) ⟨Nat.le_of_ble_eq_true rfl, Nat.le_of_ble_eq_true rfl⟩) rfl hl.1 rfl (Nat.le_of_ble_eq_true rfl) dX12_comes_125 (fun w67 H locs hp66 hw => ?_)
        obtain ⟨hT, k68, hg73⟩ := hp66
        have hKB := KB_FE k68 (fun _ => rfl) hKB
        have hRW := RW_FE k68 (fun _ => rfl) (fun _ => rfl) (fun _ => rfl) hRW
        have hF := hF.tr k68 (by decide)
        obtain ⟨c69, c70, c71, hq72⟩ := hg73
        have hSA : SA w0 w67 := fun j hj => (hq72 j hj).trans ((k68.gi kM_at15 rfl rfl).symm.trans (hKB j hj))
        refine lv_iload hx hb dX12_comes_128 (lv_at hl 0 rfl) ?_
        exact tk_iret hC hr hlocks hK ⟨hT, hF, (Or.inr (Or.inr (Or.inl ⟨(show 0 ≤ r57.toInt by omega), (show r57.toInt ≤ 1073741824 by omega), (show 0 ≤ a1.toInt from r3), (show a1.toInt ≤ 3 from t4), (show 0 ≤ a2.toInt from r5), (show a2.toInt ≤ 400 from t6), (show 0 ≤ a3.toInt from r7), (show a3.toInt ≤ 1 by omega), (by exact hSA)⟩)))⟩ hw dX12_comes_130
  have L50 : ∀ (n50 : Nat) (v50_4 : Int32) (v50_5 : Int32) (f50_12_5 : Int32) (H : Heap) (locs : List Loc) (ls : Array Slot) (w74 : va_W), 0 ≤ a1.toInt → a1.toInt ≤ 3 → 0 ≤ a2.toInt → a2.toInt ≤ 400 → 0 ≤ a3.toInt → a3.toInt ≤ 2 → 0 ≤ v50_4.toInt → v50_4.toInt ≤ 400 → 1 ≤ f50_12_5.toInt → f50_12_5.toInt ≤ 4 → (400 - v50_4.toInt).toNat < n50 → Wd dC dI A s.heap H locs w74 → TW ksM ad cy (B + 0 + 9 * v50_4.toInt) qr 12 w74 → FE ksM [(12, 24, 24), (12, 31, 31), (69, 0, 64), (70, 0, 10), (71, 0, 295), (71, 216, 243), (71, 220, 247), (71, 221, 248), (71, 222, 249), (71, 223, 250), (71, 224, 251), (72, 0, 12), (73, 0, 10), (74, 0, 296)] w0 w74 → RW w74 → KBk w0 w74 → gi w74 12 5 = f50_12_5 → lv_has ls 7 [(0, .ref (ad 0)), (1, .int a1), (2, .int a2), (3, .int a3), (4, .int v50_4), (5, .int v50_5)] → W p l e ({ frames := 9, cells := 0, slots := 0, locals := 194 }) s m (List.toArray [.ref (ad 0), .int a1, .int a2, .int a3]) below meth c H locs 0 0 (MQ below (va_Qi (P_X12_comes_1 ad cy B qr s1 a1 a2 a3 w0) (fun u : va_W => wpost dC dI cy A u) A) (List.toArray [.ref (ad 0), .int a1, .int a2, .int a3]) s 0 0 A) (F0 m 50 ls []) := by
    intro n50
    induction n50 with
    | zero => intro v50_4 v50_5 f50_12_5 H locs ls w74 r75 t76 r77 t78 r79 t80 r81 t82 r83 t84 hm50 hw hT hF hRW hKB c85 hl; omega
    | succ n50 ih50 =>
      intro v50_4 v50_5 f50_12_5 H locs ls w74 r75 t76 r77 t78 r79 t80 r81 t82 r83 t84 hm50 hw hT hF hRW hKB c85 hl
      refine lv_iload hx hb dX12_comes_50 (lv_at hl 4 rfl) ?_
      refine lv_iload_n hx hb dX12_comes_52 rfl (lv_at hl 2 rfl) ?_
      refine lv_icmp_ge (tgt := 76) hx hb dX12_comes_53 (by decide) (fun c86 => ?_) (fun c86 => ?_)
      · have c86 : a2.toInt ≤ v50_4.toInt := wk_le.mp c86
        exact J76 v50_4 v50_5 f50_12_5 H locs ls w74 (show 0 ≤ a1.toInt from r75) (show a1.toInt ≤ 3 from t76) (show 0 ≤ a2.toInt from r77) (show a2.toInt ≤ 400 from t78) (show 0 ≤ a3.toInt from r79) (show a3.toInt ≤ 2 from t80) (show 0 ≤ v50_4.toInt from r81) (show v50_4.toInt ≤ 400 from t82) (show 1 ≤ f50_12_5.toInt from r83) (show f50_12_5.toInt ≤ 4 from t84)  hw (hT.up (show (B + 0 + 9 * v50_4.toInt) ≤ (B + 3600) by omega)) hF hRW hKB c85 (lv_sub hl [0, 1, 2, 3, 4, 5] rfl)
      · have c86 : v50_4.toInt < a2.toInt := wk_leF c86
        refine lv_aload_n hx hb dX12_comes_56 rfl (lv_at hl 0 rfl) ?_
        refine lv_iload_n hx hb dX12_comes_57 rfl (lv_at hl 1 rfl) ?_
        refine tk_Vi hC hK hw hT hA hE hSR kM_at0 (by decide) rfl (k_X12_isThere_1 l adK adV dC dI cy ad (B + 0 + 9 * v50_4.toInt) (by omega) (by omega) qr s1   a1 (show 0 ≤ a1.toInt from r75) (show a1.toInt ≤ 3 from t76) w74 H.size hT ) (cwV 1 hC.2.2.2.2 uV_RX12_416 rfl rfl rfl (by decide +kernel) ⟨Nat.le_of_ble_eq_true rfl, Nat.le_of_ble_eq_true rfl⟩) rfl hl.1 rfl (Nat.le_of_ble_eq_true rfl) dX12_comes_58 (fun r87 w89 H locs hp88 hw => ?_)
        obtain ⟨rfl, hg91⟩ := hp88
        rcases hg91 with rfl | rfl
        · refine lv_if_ne (tgt := 76) hx hb dX12_comes_61 (by decide) (fun c => absurd (by decide) c) (fun _ => ?_)
          refine lv_aload_n hx hb dX12_comes_64 rfl (lv_at hl 0 rfl) ?_
          refine lv_iload_n hx hb dX12_comes_65 rfl (lv_at hl 1 rfl) ?_
          refine tk_Vi hC hK hw hT hA hE hSR kM_at0 (by decide) rfl (k_X12_steps_1 l adK adV dC dI cy ad (B + 0 + 9 * v50_4.toInt) (by omega) (by omega) qr s1   a1 (show 0 ≤ a1.toInt from r75) (show a1.toInt ≤ 3 from t76) w74 H.size hT hRW) (cwV 1 hC.2.2.2.2 uV_RX12_419 rfl rfl rfl (by decide +kernel) ⟨Nat.le_of_ble_eq_true rfl, Nat.le_of_ble_eq_true rfl⟩) rfl hl.1 rfl (Nat.le_of_ble_eq_true rfl) dX12_comes_66 (fun r92 w94 H locs hp93 hw => ?_)
          obtain ⟨hT, k95, hg96⟩ := hp93
          have hT := hT.up (B' := (B + 9 + 9 * v50_4.toInt)) (by omega)
          have hKB := KB_FE k95 (fun _ => rfl) hKB
          have hRW := RW_FE k95 (fun _ => rfl) (fun _ => rfl) (fun _ => rfl) hRW
          have hF := hF.tr k95 (by decide)
          have c97 := k95.gi kM_at12 (by decide) c85
          rcases hg96 with rfl | rfl
          · refine lv_pop hx hb dX12_comes_69 rfl ?_
            obtain ⟨x98, ex98⟩ : ∃ y : Int32, y = v50_4 + Int32.ofInt 1 := ⟨_, rfl⟩
            refine lv_iinc (v := x98) (lv' := [(4, .int x98), (0, .ref (ad 0)), (1, .int a1), (2, .int a2), (3, .int a3), (5, .int v50_5)]) hx hb dX12_comes_70 hl (k := 4) rfl ex98.symm (by decide) rfl (fun ls hl => ?_)
            have ex98 : x98.toInt = v50_4.toInt + 1 := by rw [ex98]; exact wk_add (y := 1) (show -2147483648 ≤ v50_4.toInt + 1 by omega) (show v50_4.toInt + 1 ≤ 2147483647 by omega)
            refine lv_goto (tgt := 50) hx hb dX12_comes_73 (by decide) ?_
            exact ih50 x98 v50_5 f50_12_5 H locs ls w94 (show 0 ≤ a1.toInt from r75) (show a1.toInt ≤ 3 from t76) (show 0 ≤ a2.toInt from r77) (show a2.toInt ≤ 400 from t78) (show 0 ≤ a3.toInt from r79) (show a3.toInt ≤ 2 from t80) (show 0 ≤ x98.toInt by omega) (show x98.toInt ≤ 400 by omega) (show 1 ≤ f50_12_5.toInt from r83) (show f50_12_5.toInt ≤ 4 from t84) (show (400 - x98.toInt).toNat < n50 by omega) hw (hT.up (show (B + 9 + 9 * v50_4.toInt) ≤ (B + 0 + 9 * x98.toInt) by omega)) hF hRW hKB c97 (lv_sub hl [1, 2, 3, 4, 0, 5] rfl)
          · refine lv_pop hx hb dX12_comes_69 rfl ?_
            obtain ⟨x99, ex99⟩ : ∃ y : Int32, y = v50_4 + Int32.ofInt 1 := ⟨_, rfl⟩
            refine lv_iinc (v := x99) (lv' := [(4, .int x99), (0, .ref (ad 0)), (1, .int a1), (2, .int a2), (3, .int a3), (5, .int v50_5)]) hx hb dX12_comes_70 hl (k := 4) rfl ex99.symm (by decide) rfl (fun ls hl => ?_)
            have ex99 : x99.toInt = v50_4.toInt + 1 := by rw [ex99]; exact wk_add (y := 1) (show -2147483648 ≤ v50_4.toInt + 1 by omega) (show v50_4.toInt + 1 ≤ 2147483647 by omega)
            refine lv_goto (tgt := 50) hx hb dX12_comes_73 (by decide) ?_
            exact ih50 x99 v50_5 f50_12_5 H locs ls w94 (show 0 ≤ a1.toInt from r75) (show a1.toInt ≤ 3 from t76) (show 0 ≤ a2.toInt from r77) (show a2.toInt ≤ 400 from t78) (show 0 ≤ a3.toInt from r79) (show a3.toInt ≤ 2 from t80) (show 0 ≤ x99.toInt by omega) (show x99.toInt ≤ 400 by omega) (show 1 ≤ f50_12_5.toInt from r83) (show f50_12_5.toInt ≤ 4 from t84) (show (400 - x99.toInt).toNat < n50 by omega) hw (hT.up (show (B + 9 + 9 * v50_4.toInt) ≤ (B + 0 + 9 * x99.toInt) by omega)) hF hRW hKB c97 (lv_sub hl [1, 2, 3, 4, 0, 5] rfl)
        · refine lv_if_ne (tgt := 76) hx hb dX12_comes_61 (by decide) (fun _ => ?_) (fun c => absurd c (by decide))
          exact J76 v50_4 v50_5 f50_12_5 H locs ls w74 (show 0 ≤ a1.toInt from r75) (show a1.toInt ≤ 3 from t76) (show 0 ≤ a2.toInt from r77) (show a2.toInt ≤ 400 from t78) (show 0 ≤ a3.toInt from r79) (show a3.toInt ≤ 2 from t80) (show 0 ≤ v50_4.toInt from r81) (show v50_4.toInt ≤ 400 from t82) (show 1 ≤ f50_12_5.toInt from r83) (show f50_12_5.toInt ≤ 4 from t84)  hw (hT.up (show (B + 0 + 9 * v50_4.toInt) ≤ (B + 3600) by omega)) hF hRW hKB c85 (lv_sub hl [0, 1, 2, 3, 4, 5] rfl)
  refine lv_aload_n hx hb dX12_comes_0 rfl (lv_at hl 0 rfl) ?_
  refine lv_iload_n hx hb dX12_comes_1 rfl (lv_at hl 1 rfl) ?_
  refine tk_Vi hC hK hw hT hA hE hSR kM_at0 (by decide) rfl (k_X12_isWalker_1 l adK adV dC dI cy ad B (by omega) (by omega) qr s1   a1 w0 s.heap.size hT ) (cwV 1 hC.2.2.2.2 uV_RX12_367 rfl rfl rfl (by decide +kernel) ⟨Nat.le_of_ble_eq_true rfl, Nat.le_of_ble_eq_true rfl⟩) rfl hl.1 rfl (Nat.le_of_ble_eq_true rfl) dX12_comes_2 (fun r100 w102 H locs hp101 hw => ?_)
  obtain ⟨rfl, hg108⟩ := hp101
  rcases hg108 with rfl | ⟨rfl, g104, g105, ⟨x106, c107, rx106, tx106⟩⟩
  · refine lv_if_eq (tgt := 32) hx hb dX12_comes_5 (by decide) (fun _ => ?_) (fun c => absurd (by decide) c)
    exact J32  H locs ls w0   hw hT hF hRW hSA  (lv_sub hl [0, 1, 2, 3] rfl)
  · refine lv_if_eq (tgt := 32) hx hb dX12_comes_5 (by decide) (fun c => absurd c (by decide)) (fun _ => ?_)
    refine lv_iload_n hx hb dX12_comes_8 rfl (lv_at hl 2 rfl) ?_
    refine lv_i2l hx hb dX12_comes_9 rfl ?_
    refine lv_topl (fun x109 ex109 => ?_)
    have ex109 : x109.toInt = a2.toInt := by rw [ex109]; exact wk_i2l _
    have bx109 := wk_i32 a2
    refine lv_lconst (v := 0) hx hb dX12_comes_10 (by decide) ?_
    refine lv_ldc2 (v := 400) hx hb hC.2.2.2.1 (hC.2.2.2.2 _ (List.mem_cons_of_mem _ uw_53_23)) dX12_comes_11 ?_
    refine tk_Si hC hK hw hT hA hE hSR (k_X12_in_16 l adK adV dC dI cy ad B (by omega) (by omega) qr s1   x109 (show (-2147483648) ≤ x109.toInt by omega) (show x109.toInt ≤ 2147483647 by omega) w0 H.size hT ) (va_cwS 3 hC.2.2.2.2 uS_RX12_122 rfl rfl rfl (by decide +kernel) ⟨Nat.le_of_ble_eq_true rfl, Nat.le_of_ble_eq_true rfl⟩) rfl hl.1 rfl (Nat.le_of_ble_eq_true rfl) dX12_comes_14 (fun r110 w112 H locs hp111 hw => ?_)
    obtain ⟨rfl, hg116⟩ := hp111
    rcases hg116 with rfl | ⟨rfl, g114, g115⟩
    · refine lv_if_eq (tgt := 32) hx hb dX12_comes_17 (by decide) (fun _ => ?_) (fun c => absurd (by decide) c)
      exact J32  H locs ls w0   hw hT hF hRW hSA  (lv_sub hl [0, 1, 2, 3] rfl)
    · refine lv_if_eq (tgt := 32) hx hb dX12_comes_17 (by decide) (fun c => absurd c (by decide)) (fun _ => ?_)
      refine lv_iload_n hx hb dX12_comes_20 rfl (lv_at hl 3 rfl) ?_
      refine lv_i2l hx hb dX12_comes_21 rfl ?_
      refine lv_topl (fun x117 ex117 => ?_)
      have ex117 : x117.toInt = a3.toInt := by rw [ex117]; exact wk_i2l _
      have bx117 := wk_i32 a3
      refine lv_lconst (v := 0) hx hb dX12_comes_22 (by decide) ?_
      refine lv_ldc2 (v := 2) hx hb hC.2.2.2.1 (hC.2.2.2.2 _ (List.mem_cons_of_mem _ uw_54_0)) dX12_comes_23 ?_
      refine tk_Si hC hK hw hT hA hE hSR (k_X12_in_15 l adK adV dC dI cy ad B (by omega) (by omega) qr s1   x117 (show (-2147483648) ≤ x117.toInt by omega) (show x117.toInt ≤ 2147483647 by omega) w0 H.size hT ) (va_cwS 3 hC.2.2.2.2 uS_RX12_122 rfl rfl rfl (by decide +kernel) ⟨Nat.le_of_ble_eq_true rfl, Nat.le_of_ble_eq_true rfl⟩) rfl hl.1 rfl (Nat.le_of_ble_eq_true rfl) dX12_comes_26 (fun r118 w120 H locs hp119 hw => ?_)
      obtain ⟨rfl, hg124⟩ := hp119
      rcases hg124 with rfl | ⟨rfl, g122, g123⟩
      · refine lv_if_ne (tgt := 34) hx hb dX12_comes_29 (by decide) (fun c => absurd (by decide) c) (fun _ => ?_)
        exact J32  H locs ls w0   hw hT hF hRW hSA  (lv_sub hl [0, 1, 2, 3] rfl)
      · refine lv_if_ne (tgt := 34) hx hb dX12_comes_29 (by decide) (fun _ => ?_) (fun c => absurd c (by decide))
        refine lv_aload_n hx hb dX12_comes_34 rfl (lv_at hl 0 rfl) ?_
        refine tk_Vv hC hK hw hT hA hE hSR kM_at0 (by decide) rfl (k_X12_keeps_1 l adK adV dC dI cy ad B (by omega) (by omega) qr s1    w0 H.size hT ) (cwV 0 hC.2.2.2.2 uV_RX12_426 rfl rfl rfl (by decide +kernel) ⟨Nat.le_of_ble_eq_true rfl, Nat.le_of_ble_eq_true rfl⟩) rfl hl.1 rfl (Nat.le_of_ble_eq_true rfl) dX12_comes_35 (fun w127 H locs hp126 hw => ?_)
        obtain ⟨hT, k128, hg133⟩ := hp126
        have hSA := SA_FE k128 (fun _ => rfl) hSA
        have hRW := RW_FE k128 (fun _ => rfl) (fun _ => rfl) (fun _ => rfl) hRW
        have hF := hF.tr k128 (by decide)
        have c134 := k128.gi kM_at12 (by decide) c107
        obtain ⟨c129, c130, c131, hq132⟩ := hg133
        have hKB : KBk w0 w127 := fun j hj => (hq132 j hj).trans ((k128.gi kM_at12 rfl rfl).symm.trans (hSA j hj))
        refine lv_iconst (v := 0) hx hb dX12_comes_38 (by decide) ?_
        refine lv_istore (lv' := [(4, .int 0), (0, .ref (ad 0)), (1, .int a1), (2, .int a2), (3, .int a3)]) hx hb dX12_comes_39 hl (by decide) rfl (fun ls hl => ?_)
        refine lv_aload_n hx hb dX12_comes_41 rfl (lv_at hl 1 rfl) ?_
        refine lv_iload_n hx hb dX12_comes_42 rfl (lv_at hl 2 rfl) ?_
        refine lv_bipush (v := 6) hx hb dX12_comes_43 (by decide) ?_
        refine tk_Vi hC hK hw hT hA hE hSR kM_at0 (by decide) rfl (k_X12_walkerOf_8 l adK adV dC dI cy ad B (by omega) (by omega) qr s1   a1 (show 0 ≤ a1.toInt by omega) (show a1.toInt ≤ 3 by omega) w127 H.size hT ) (cwV 2 hC.2.2.2.2 uV_RX12_372 rfl rfl rfl (by decide +kernel) ⟨Nat.le_of_ble_eq_true rfl, Nat.le_of_ble_eq_true rfl⟩) rfl hl.1 rfl (Nat.le_of_ble_eq_true rfl) dX12_comes_45 (fun r135 w137 H locs hp136 hw => ?_)
        obtain ⟨rfl, hg140⟩ := hp136
        have c139 := hg140
        refine lv_istore (lv' := [(5, .int r135), (4, .int 0), (0, .ref (ad 0)), (1, .int a1), (2, .int a2), (3, .int a3)]) hx hb dX12_comes_48 hl (by decide) rfl (fun ls hl => ?_)
        exact L50 ((400 - (0 : Int)).toNat + 1) 0 r135 x106 H locs ls w127 (show 0 ≤ a1.toInt by omega) (show a1.toInt ≤ 3 by omega) (show 0 ≤ a2.toInt by omega) (show a2.toInt ≤ 400 by omega) (show 0 ≤ a3.toInt by omega) (show a3.toInt ≤ 2 by omega) (by decide) (by decide) (show 1 ≤ x106.toInt by omega) (show x106.toInt ≤ 4 by omega) (Nat.lt_succ_self _) hw (hT.up (show B ≤ (B + 0 + 9 * (0 : Int32).toInt) by rw [show (0 : Int32).toInt = 0 by decide]; omega)) hF hRW hKB c134 (lv_sub hl [2, 3, 4, 5, 1, 0] rfl)
abbrev P_X12_asHeIs_1 (ad : Nat → Nat) (cy : Nat → ClassId) (B : Int) (qr : Nat) (s1 : Int) (a1 : Int32) (w0 : va_W) : Int32 → va_W → Prop := fun r u => w0 = u ∧ ((0 ≤ r.toInt ∧ r.toInt ≤ 18479))
set_option maxHeartbeats 4000000 in
set_option maxRecDepth 100000 in
theorem k_X12_asHeIs_1 (l : Launch) (adK adV : Nat → Nat) (dC : Nat → ClassId) (dI : Nat → Nat → Nat) (cy : Nat → ClassId) (ad : Nat → Nat) (B : Int) (hB0 : 100000 ≤ B) (hB1 : B ≤ 1073741824) (qr : Nat) (s1 : Int)  (a1 : Int32) (ra1 : 0 ≤ a1.toInt) (ta1 : a1.toInt ≤ 3) (w0 : va_W) (sz : Nat) (hT : TW ksM ad cy B qr 12 w0)  : Met l yX12_asHeIs (wu yX12_asHeIs cX12_asHeIs 2 (some .int)) ({ frames := 2, cells := 0, slots := 0, locals := 34 }) (va_Pc [.ref (ad 0), .int a1] (wpreS adK adV dC dI cy sz w0)) (va_Qi (P_X12_asHeIs_1 ad cy B qr s1 a1 w0) (fun u : va_W => wpost dC dI cy (va_A w0 sz) u) (va_A w0 sz)) 0 0 (va_A w0 sz) := by
  refine Met.ofW (cc := cX12_asHeIs) (maxL := 2) (ret := (some .int)) (by decide) rfl ?_
  intro p e s m args below meth c s₁ Bk hml hv
  obtain ⟨rfl, ⟨hsz, hP, hK, hD0⟩, hE, hSR⟩ := hv
  have hx := Bk.exec
  have hb := Bk.bytes
  have hr := Bk.returns
  have hlocks := Bk.notSynchronized
  have hC : CallFix p m c cX12_asHeIs 2 s _ (wu yX12_asHeIs cX12_asHeIs 2 (some .int)) RX12 := ⟨hx, hb, hml, findClass_of_methodNamed Bk.named, atoms_spec (ws := (wu yX12_asHeIs cX12_asHeIs 2 (some .int))) Bk.pre⟩
  subst hsz
  have hD := hD0.self (sz := s.heap.size)
  generalize hAe : va_A w0 s.heap.size = A at hD hE ⊢
  have hA : ∀ q : Nat, s.heap.size ≤ q → A q := fun q h => by rw [← hAe]; exact Or.inr h
  have hw : Wd dC dI A s.heap s.heap [] w0 := ⟨hP, hD, va_S.rf⟩
  have hF : FE ksM ([] : List (Nat × Nat × Nat)) w0 w0 := FE.rf
  have hl := lv_entry ([.ref (ad 0), .int a1]) (n := 2) (Nat.le_of_ble_eq_true rfl)
  rw [lg_entry_eq]
  generalize (lg_sl ([.ref (ad 0), .int a1]) ++ List.replicate (2 - (lg_sl ([.ref (ad 0), .int a1])).length) Slot.unset).toArray = ls at hl ⊢
  have hl : lv_has ls 2 [(0, .ref (ad 0)), (1, .int a1)] := hl
  generalize hloc : ([] : List Loc) = locs at hw ⊢
  refine lv_aload_n hx hb dX12_asHeIs_0 rfl (lv_at hl 0 rfl) ?_
  refine lv_iload_n hx hb dX12_asHeIs_1 rfl (lv_at hl 1 rfl) ?_
  refine lv_iconst (v := 0) hx hb dX12_asHeIs_2 (by decide) ?_
  refine tk_Vi hC hK hw hT hA hE hSR kM_at0 (by decide) rfl (k_X12_walkerOf_2 l adK adV dC dI cy ad B (by omega) (by omega) qr s1   a1 (show 0 ≤ a1.toInt from ra1) (show a1.toInt ≤ 3 from ta1) w0 s.heap.size hT ) (cwV 2 hC.2.2.2.2 uV_RX12_372 rfl rfl rfl (by decide +kernel) ⟨Nat.le_of_ble_eq_true rfl, Nat.le_of_ble_eq_true rfl⟩) rfl hl.1 rfl (Nat.le_of_ble_eq_true rfl) dX12_asHeIs_3 (fun r1 w3 H locs hp2 hw => ?_)
  obtain ⟨rfl, hg8⟩ := hp2
  obtain ⟨g5, g6, c7⟩ := hg8
  refine lv_sipush (v := 168) hx hb dX12_asHeIs_6 (by decide) ?_
  refine lv_imul hx hb dX12_asHeIs_9 ?_
  refine lv_topi (fun x9 ex9 => ?_)
  have ex9 : x9.toInt = r1.toInt * (168 : Int) := by rw [ex9]; exact wk_mul (show (-2147483648) ≤ r1.toInt * (168 : Int) by omega) (show r1.toInt * (168 : Int) ≤ 2147483647 by omega)
  refine lv_aload_n hx hb dX12_asHeIs_10 rfl (lv_at hl 0 rfl) ?_
  refine lv_iload_n hx hb dX12_asHeIs_11 rfl (lv_at hl 1 rfl) ?_
  refine lv_iconst (v := 4) hx hb dX12_asHeIs_12 (by decide) ?_
  refine tk_Vi hC hK hw hT hA hE hSR kM_at0 (by decide) rfl (k_X12_walkerOf_4 l adK adV dC dI cy ad B (by omega) (by omega) qr s1   a1 (show 0 ≤ a1.toInt from ra1) (show a1.toInt ≤ 3 from ta1) w0 H.size hT ) (cwV 2 hC.2.2.2.2 uV_RX12_372 rfl rfl rfl (by decide +kernel) ⟨Nat.le_of_ble_eq_true rfl, Nat.le_of_ble_eq_true rfl⟩) rfl hl.1 rfl (Nat.le_of_ble_eq_true rfl) dX12_asHeIs_13 (fun r10 w12 H locs hp11 hw => ?_)
  obtain ⟨rfl, hg17⟩ := hp11
  obtain ⟨g14, g15, c16⟩ := hg17
  refine lv_sipush (v := 168) hx hb dX12_asHeIs_16 (by decide) ?_
  refine lv_irem hx hb dX12_asHeIs_19 (by decide) ?_
  refine lv_topi (fun x18 ex18 => ?_)
  have ex18 : x18.toInt = r10.toInt % (168 : Int) := by rw [ex18]; exact wk_rem (show 0 ≤ r10.toInt by omega) (show 0 < (168 : Int) by decide)
  refine lv_iadd hx hb dX12_asHeIs_20 ?_
  refine lv_topi (fun x19 ex19 => ?_)
  have ex19 : x19.toInt = x9.toInt + x18.toInt := by rw [ex19]; exact wk_add (show (-2147483648) ≤ x9.toInt + x18.toInt by omega) (show x9.toInt + x18.toInt ≤ 2147483647 by omega)
  refine lv_bipush (v := 11) hx hb dX12_asHeIs_21 (by decide) ?_
  refine lv_imul hx hb dX12_asHeIs_23 ?_
  refine lv_topi (fun x20 ex20 => ?_)
  have ex20 : x20.toInt = x19.toInt * (11 : Int) := by rw [ex20]; exact wk_mul (show (-2147483648) ≤ x19.toInt * (11 : Int) by omega) (show x19.toInt * (11 : Int) ≤ 2147483647 by omega)
  refine lv_aload_n hx hb dX12_asHeIs_24 rfl (lv_at hl 0 rfl) ?_
  refine lv_iload_n hx hb dX12_asHeIs_25 rfl (lv_at hl 1 rfl) ?_
  refine lv_bipush (v := 7) hx hb dX12_asHeIs_26 (by decide) ?_
  refine tk_Vi hC hK hw hT hA hE hSR kM_at0 (by decide) rfl (k_X12_walkerOf_9 l adK adV dC dI cy ad B (by omega) (by omega) qr s1   a1 (show 0 ≤ a1.toInt from ra1) (show a1.toInt ≤ 3 from ta1) w0 H.size hT ) (cwV 2 hC.2.2.2.2 uV_RX12_372 rfl rfl rfl (by decide +kernel) ⟨Nat.le_of_ble_eq_true rfl, Nat.le_of_ble_eq_true rfl⟩) rfl hl.1 rfl (Nat.le_of_ble_eq_true rfl) dX12_asHeIs_28 (fun r21 w23 H locs hp22 hw => ?_)
  obtain ⟨rfl, hg28⟩ := hp22
  obtain ⟨g25, g26, c27⟩ := hg28
  refine lv_iadd hx hb dX12_asHeIs_31 ?_
  refine lv_topi (fun x29 ex29 => ?_)
  have ex29 : x29.toInt = x20.toInt + r21.toInt := by rw [ex29]; exact wk_add (show (-2147483648) ≤ x20.toInt + r21.toInt by omega) (show x20.toInt + r21.toInt ≤ 2147483647 by omega)
  refine lv_iconst (v := 1) hx hb dX12_asHeIs_32 (by decide) ?_
  refine lv_iadd hx hb dX12_asHeIs_33 ?_
  refine lv_topi (fun x30 ex30 => ?_)
  have ex30 : x30.toInt = x29.toInt + (1 : Int) := by rw [ex30]; exact wk_add (show (-2147483648) ≤ x29.toInt + (1 : Int) by omega) (show x29.toInt + (1 : Int) ≤ 2147483647 by omega)
  exact tk_iret hC hr hlocks hK ⟨rfl, ⟨(show 0 ≤ x30.toInt by omega), (show x30.toInt ≤ 18479 by omega)⟩⟩ hw dX12_asHeIs_34
abbrev P_X12_round_1 (ad : Nat → Nat) (cy : Nat → ClassId) (B : Int) (qr : Nat) (s1 : Int) (a1 : Int32) (a2 : Int32) (w0 : va_W) : Int32 → va_W → Prop := fun r u => TW ksM ad cy (B + 2709) qr 12 u ∧ FE ksM [(12, 24, 24), (12, 27, 27), (12, 30, 30), (12, 31, 31), (69, 0, 64), (70, 0, 10), (71, 0, 295), (71, 216, 243), (71, 220, 247), (71, 221, 248), (71, 222, 249), (71, 223, 250), (71, 224, 251), (72, 0, 12), (73, 0, 10), (74, 0, 296), (75, 0, 301)] w0 u ∧ (((-298) ≤ r.toInt ∧ r.toInt ≤ 300 ∧ 0 ≤ a1.toInt ∧ a1.toInt ≤ 3 ∧ 0 ≤ a2.toInt ∧ a2.toInt ≤ 1 ∧ (∃ y : Int32, gi u 0 27 = y ∧ 1 ≤ y.toInt ∧ y.toInt ≤ 1) ∧ (∃ y : Int32, gi u 0 30 = y ∧ 0 ≤ y.toInt ∧ y.toInt ≤ 0) ∧ (SA w0 u)) ∨ (r = (-1) ∧ (SA w0 u)))
set_option maxHeartbeats 4000000 in
set_option maxRecDepth 100000 in
theorem k_X12_round_1 (l : Launch) (adK adV : Nat → Nat) (dC : Nat → ClassId) (dI : Nat → Nat → Nat) (cy : Nat → ClassId) (ad : Nat → Nat) (B : Int) (hB0 : 100000 ≤ B) (hB1 : B ≤ 1073739115) (qr : Nat) (s1 : Int)  (a1 : Int32) (a2 : Int32) (w0 : va_W) (sz : Nat) (hT : TW ksM ad cy B qr 12 w0) (hRW : RW w0) : Met l yX12_round (wu yX12_round cX12_round 6 (some .int)) ({ frames := 9, cells := 0, slots := 0, locals := 194 }) (va_Pc [.ref (ad 0), .int a1, .int a2] (wpreS adK adV dC dI cy sz w0)) (va_Qi (P_X12_round_1 ad cy B qr s1 a1 a2 w0) (fun u : va_W => wpost dC dI cy (va_A w0 sz) u) (va_A w0 sz)) 0 0 (va_A w0 sz) := by
  refine Met.ofW (cc := cX12_round) (maxL := 6) (ret := (some .int)) (by decide) rfl ?_
  intro p e s m args below meth c s₁ Bk hml hv
  obtain ⟨rfl, ⟨hsz, hP, hK, hD0⟩, hE, hSR⟩ := hv
  have hx := Bk.exec
  have hb := Bk.bytes
  have hr := Bk.returns
  have hlocks := Bk.notSynchronized
  have hC : CallFix p m c cX12_round 6 s _ (wu yX12_round cX12_round 6 (some .int)) RX12 := ⟨hx, hb, hml, findClass_of_methodNamed Bk.named, atoms_spec (ws := (wu yX12_round cX12_round 6 (some .int))) Bk.pre⟩
  subst hsz
  have hD := hD0.self (sz := s.heap.size)
  generalize hAe : va_A w0 s.heap.size = A at hD hE ⊢
  have hA : ∀ q : Nat, s.heap.size ≤ q → A q := fun q h => by rw [← hAe]; exact Or.inr h
  have hw : Wd dC dI A s.heap s.heap [] w0 := ⟨hP, hD, va_S.rf⟩
  have hF : FE ksM [(12, 24, 24), (12, 27, 27), (12, 30, 30), (12, 31, 31), (69, 0, 64), (70, 0, 10), (71, 0, 295), (71, 216, 243), (71, 220, 247), (71, 221, 248), (71, 222, 249), (71, 223, 250), (71, 224, 251), (72, 0, 12), (73, 0, 10), (74, 0, 296), (75, 0, 301)] w0 w0 := FE.rf
  have hSA : SA w0 w0 := fun _ _ => rfl
  have hl := lv_entry ([.ref (ad 0), .int a1, .int a2]) (n := 6) (Nat.le_of_ble_eq_true rfl)
  rw [lg_entry_eq]
  generalize (lg_sl ([.ref (ad 0), .int a1, .int a2]) ++ List.replicate (6 - (lg_sl ([.ref (ad 0), .int a1, .int a2])).length) Slot.unset).toArray = ls at hl ⊢
  have hl : lv_has ls 6 [(0, .ref (ad 0)), (1, .int a1), (2, .int a2)] := hl
  generalize hloc : ([] : List Loc) = locs at hw ⊢
  have hinX12 : ∀ w ∈ u_ws RX12 TX12 42, w ∈ (wu yX12_round cX12_round 6 (some .int)) := fun _ h => List.mem_cons_of_mem _ (up_71 h)
  have J18 : ∀ (H : Heap) (locs : List Loc) (ls : Array Slot) (w1 : va_W), Wd dC dI A s.heap H locs w1 → TW ksM ad cy B qr 12 w1 → FE ksM [(12, 24, 24), (12, 27, 27), (12, 30, 30), (12, 31, 31), (69, 0, 64), (70, 0, 10), (71, 0, 295), (71, 216, 243), (71, 220, 247), (71, 221, 248), (71, 222, 249), (71, 223, 250), (71, 224, 251), (72, 0, 12), (73, 0, 10), (74, 0, 296), (75, 0, 301)] w0 w1 → RW w1 → SA w0 w1 → lv_has ls 6 [(0, .ref (ad 0)), (1, .int a1), (2, .int a2)] → W p l e ({ frames := 9, cells := 0, slots := 0, locals := 194 }) s m (List.toArray [.ref (ad 0), .int a1, .int a2]) below meth c H locs 0 0 (MQ below (va_Qi (P_X12_round_1 ad cy B qr s1 a1 a2 w0) (fun u : va_W => wpost dC dI cy A u) A) (List.toArray [.ref (ad 0), .int a1, .int a2]) s 0 0 A) (F0 m 18 ls []) := by
    intro H locs ls w1 hw hT hF hRW hSA hl
    refine lv_iconst (v := (-1)) hx hb dX12_round_18 (by decide) ?_
    exact tk_iret hC hr hlocks hK ⟨(hT.up (show B ≤ (B + 2709) by omega)), hF, (Or.inr ⟨rfl, (by exact hSA)⟩)⟩ hw dX12_round_19
  have J159 : ∀ (v159_3 : Int32) (v159_4 : Int32) (f159_12_5 : Int32) (f159_16_0 : Int32) (H : Heap) (locs : List Loc) (ls : Array Slot) (w2 : va_W), 0 ≤ a1.toInt → a1.toInt ≤ 3 → 0 ≤ a2.toInt → a2.toInt ≤ 1 → (-298) ≤ v159_3.toInt → v159_3.toInt ≤ 300 → 1 ≤ v159_4.toInt → v159_4.toInt ≤ 301 → 1 ≤ f159_12_5.toInt → f159_12_5.toInt ≤ 4 → 0 ≤ f159_16_0.toInt → f159_16_0.toInt ≤ 18479 → Wd dC dI A s.heap H locs w2 → TW ksM ad cy (B + 2709) qr 12 w2 → FE ksM [(12, 24, 24), (12, 27, 27), (12, 30, 30), (12, 31, 31), (69, 0, 64), (70, 0, 10), (71, 0, 295), (71, 216, 243), (71, 220, 247), (71, 221, 248), (71, 222, 249), (71, 223, 250), (71, 224, 251), (72, 0, 12), (73, 0, 10), (74, 0, 296), (75, 0, 301)] w0 w2 → RW w2 → KBk w0 w2 → gi w2 0 27 = 0 → gi w2 0 30 = 1 → gi w2 12 5 = f159_12_5 → gi w2 16 0 = f159_16_0 → lv_has ls 6 [(0, .ref (ad 0)), (1, .int a1), (2, .int a2), (3, .int v159_3), (4, .int v159_4)] → W p l e ({ frames := 9, cells := 0, slots := 0, locals := 194 }) s m (List.toArray [.ref (ad 0), .int a1, .int a2]) below meth c H locs 0 0 (MQ below (va_Qi (P_X12_round_1 ad cy B qr s1 a1 a2 w0) (fun u : va_W => wpost dC dI cy A u) A) (List.toArray [.ref (ad 0), .int a1, .int a2]) s 0 0 A) (F0 m 159 ls []) := by
    intro v159_3 v159_4 f159_12_5 f159_16_0 H locs ls w2 r3 t4 r5 t6 r7 t8 r9 t10 r13 t14 r16 t17 hw hT hF hRW hKB c11 c12 c15 c18 hl
    refine lv_aload_n hx hb dX12_round_159 rfl (lv_at hl 0 rfl) ?_
    refine lv_iconst (v := 0) hx hb dX12_round_160 (by decide) ?_
    refine tk_putz hC hK hw hT hinX12 tyX12_ok nmX12 kM_at0 (by decide) rfl rfl 30 (by decide) (List.mem_cons_of_mem _ uw_47_4) rfl rfl rfl rfl (by decide) (by decide) dX12_round_161 (fun H locs w19 hw hT k21 c20 => ?_)
    have hRW := RW_F1 k21 (by decide) (by decide) (by decide) hRW
    have hKB := KB_F1 k21 (by decide) hKB
    have hF := hF.put kM_at0 (k := 30) (by decide) k21
    have c22 := k21.gi (Or.inr (by decide)) c11
    have c23 := k21.gi (Or.inr (by decide)) c15
    have c24 := k21.gi (Or.inr (by decide)) c18
    refine lv_aload_n hx hb dX12_round_164 rfl (lv_at hl 0 rfl) ?_
    refine lv_iconst (v := 1) hx hb dX12_round_165 (by decide) ?_
    refine tk_putz hC hK hw hT hinX12 tyX12_ok nmX12 kM_at0 (by decide) rfl rfl 27 (by decide) (List.mem_cons_of_mem _ uw_7_2) rfl rfl rfl rfl (by decide) (by decide) dX12_round_166 (fun H locs w25 hw hT k27 c26 => ?_)
    have hRW := RW_F1 k27 (by decide) (by decide) (by decide) hRW
    have hKB := KB_F1 k27 (by decide) hKB
    have hF := hF.put kM_at0 (k := 27) (by decide) k27
    have c28 := k27.gi (Or.inr (by decide)) c23
    have c29 := k27.gi (Or.inr (by decide)) c24
    have c30 := k27.gi (Or.inr (by decide)) c20
    refine lv_aload_n hx hb dX12_round_169 rfl (lv_at hl 0 rfl) ?_
    refine tk_Vv hC hK hw hT hA hE hSR kM_at0 (by decide) rfl (k_X12_putsBack_1 l adK adV dC dI cy ad (B + 2709) (by omega) (by omega) qr s1    w25 H.size hT ) (cwV 0 hC.2.2.2.2 uV_RX12_429 rfl rfl rfl (by decide +kernel) ⟨Nat.le_of_ble_eq_true rfl, Nat.le_of_ble_eq_true rfl⟩) rfl hl.1 rfl (Nat.le_of_ble_eq_true rfl) dX12_round_170 (fun w33 H locs hp32 hw => ?_)
    obtain ⟨hT, k34, hg39⟩ := hp32
    have hKB := KB_FE k34 (fun _ => rfl) hKB
    have hRW := RW_FE k34 (fun _ => rfl) (fun _ => rfl) (fun _ => rfl) hRW
    have hF := hF.tr k34 (by decide)
    have c40 := k34.gi kM_at16 (by decide) c29
    have c41 := k34.gi kM_at0 (by decide) c30
    have c42 := k34.gi kM_at0 (by decide) c26
    obtain ⟨c35, c36, c37, hq38⟩ := hg39
    have hSA : SA w0 w33 := fun j hj => (hq38 j hj).trans ((k34.gi kM_at15 rfl rfl).symm.trans (hKB j hj))
    refine lv_iload_n hx hb dX12_round_173 rfl (lv_at hl 3 rfl) ?_
    exact tk_iret hC hr hlocks hK ⟨hT, hF, (Or.inl ⟨(show (-298) ≤ v159_3.toInt from r7), (show v159_3.toInt ≤ 300 from t8), (show 0 ≤ a1.toInt from r3), (show a1.toInt ≤ 3 from t4), (show 0 ≤ a2.toInt from r5), (show a2.toInt ≤ 1 from t6), ⟨1, c42, (by decide), (by decide)⟩, ⟨0, c41, (by decide), (by decide)⟩, (by exact hSA)⟩)⟩ hw dX12_round_174
  have L51 : ∀ (n51 : Nat) (v51_3 : Int32) (v51_4 : Int32) (f51_12_5 : Int32) (f51_16_0 : Int32) (H : Heap) (locs : List Loc) (ls : Array Slot) (w43 : va_W), 0 ≤ a1.toInt → a1.toInt ≤ 3 → 0 ≤ a2.toInt → a2.toInt ≤ 1 → (-298) ≤ v51_3.toInt → v51_3.toInt ≤ 300 → 1 ≤ v51_4.toInt → v51_4.toInt ≤ 301 → 1 ≤ f51_12_5.toInt → f51_12_5.toInt ≤ 4 → 0 ≤ f51_16_0.toInt → f51_16_0.toInt ≤ 18479 → (301 - v51_4.toInt).toNat < n51 → Wd dC dI A s.heap H locs w43 → TW ksM ad cy (B + 0 + 9 * v51_4.toInt) qr 12 w43 → FE ksM [(12, 24, 24), (12, 27, 27), (12, 30, 30), (12, 31, 31), (69, 0, 64), (70, 0, 10), (71, 0, 295), (71, 216, 243), (71, 220, 247), (71, 221, 248), (71, 222, 249), (71, 223, 250), (71, 224, 251), (72, 0, 12), (73, 0, 10), (74, 0, 296), (75, 0, 301)] w0 w43 → RW w43 → KBk w0 w43 → gi w43 0 27 = 0 → gi w43 0 30 = 1 → gi w43 12 5 = f51_12_5 → gi w43 16 0 = f51_16_0 → lv_has ls 6 [(0, .ref (ad 0)), (1, .int a1), (2, .int a2), (3, .int v51_3), (4, .int v51_4)] → W p l e ({ frames := 9, cells := 0, slots := 0, locals := 194 }) s m (List.toArray [.ref (ad 0), .int a1, .int a2]) below meth c H locs 0 0 (MQ below (va_Qi (P_X12_round_1 ad cy B qr s1 a1 a2 w0) (fun u : va_W => wpost dC dI cy A u) A) (List.toArray [.ref (ad 0), .int a1, .int a2]) s 0 0 A) (F0 m 51 ls []) := by
    intro n51
    induction n51 with
    | zero => intro v51_3 v51_4 f51_12_5 f51_16_0 H locs ls w43 r44 t45 r46 t47 r48 t49 r50 t51 r54 t55 r57 t58 hm51 hw hT hF hRW hKB c52 c53 c56 c59 hl; omega
    | succ n51 ih51 =>
      intro v51_3 v51_4 f51_12_5 f51_16_0 H locs ls w43 r44 t45 r46 t47 r48 t49 r50 t51 r54 t55 r57 t58 hm51 hw hT hF hRW hKB c52 c53 c56 c59 hl
      have J153 : ∀ (v153_3 : Int32) (v153_5 : Int32) (H : Heap) (locs : List Loc) (ls : Array Slot) (w60 : va_W), 0 ≤ a1.toInt → a1.toInt ≤ 3 → 0 ≤ a2.toInt → a2.toInt ≤ 1 → (-298) ≤ v153_3.toInt → v153_3.toInt ≤ 300 → 1 ≤ v51_4.toInt → v51_4.toInt ≤ 300 → 0 ≤ v153_5.toInt → v153_5.toInt ≤ 300 → 1 ≤ f51_12_5.toInt → f51_12_5.toInt ≤ 4 → 0 ≤ f51_16_0.toInt → f51_16_0.toInt ≤ 18479 → Wd dC dI A s.heap H locs w60 → TW ksM ad cy (B + 9 + 9 * v51_4.toInt) qr 12 w60 → FE ksM [(12, 24, 24), (12, 27, 27), (12, 30, 30), (12, 31, 31), (69, 0, 64), (70, 0, 10), (71, 0, 295), (71, 216, 243), (71, 220, 247), (71, 221, 248), (71, 222, 249), (71, 223, 250), (71, 224, 251), (72, 0, 12), (73, 0, 10), (74, 0, 296), (75, 0, 301)] w0 w60 → RW w60 → KBk w0 w60 → gi w60 0 27 = 0 → gi w60 0 30 = 1 → gi w60 12 5 = f51_12_5 → gi w60 16 0 = f51_16_0 → lv_has ls 6 [(0, .ref (ad 0)), (1, .int a1), (2, .int a2), (3, .int v153_3), (4, .int v51_4), (5, .int v153_5)] → W p l e ({ frames := 9, cells := 0, slots := 0, locals := 194 }) s m (List.toArray [.ref (ad 0), .int a1, .int a2]) below meth c H locs 0 0 (MQ below (va_Qi (P_X12_round_1 ad cy B qr s1 a1 a2 w0) (fun u : va_W => wpost dC dI cy A u) A) (List.toArray [.ref (ad 0), .int a1, .int a2]) s 0 0 A) (F0 m 153 ls []) := by
        intro v153_3 v153_5 H locs ls w60 r61 t62 r63 t64 r65 t66 r67 t68 r69 t70 r73 t74 r76 t77 hw hT hF hRW hKB c71 c72 c75 c78 hl
        obtain ⟨x79, ex79⟩ : ∃ y : Int32, y = v51_4 + Int32.ofInt 1 := ⟨_, rfl⟩
        refine lv_iinc (v := x79) (lv' := [(4, .int x79), (0, .ref (ad 0)), (1, .int a1), (2, .int a2), (3, .int v153_3), (5, .int v153_5)]) hx hb dX12_round_153 hl (k := 4) rfl ex79.symm (by decide) rfl (fun ls hl => ?_)
        have ex79 : x79.toInt = v51_4.toInt + 1 := by rw [ex79]; exact wk_add (y := 1) (show -2147483648 ≤ v51_4.toInt + 1 by omega) (show v51_4.toInt + 1 ≤ 2147483647 by omega)
        refine lv_goto (tgt := 51) hx hb dX12_round_156 (by decide) ?_
        exact ih51 v153_3 x79 f51_12_5 f51_16_0 H locs ls w60 (show 0 ≤ a1.toInt from r61) (show a1.toInt ≤ 3 from t62) (show 0 ≤ a2.toInt from r63) (show a2.toInt ≤ 1 from t64) (show (-298) ≤ v153_3.toInt from r65) (show v153_3.toInt ≤ 300 from t66) (show 1 ≤ x79.toInt by omega) (show x79.toInt ≤ 301 by omega) (show 1 ≤ f51_12_5.toInt from r73) (show f51_12_5.toInt ≤ 4 from t74) (show 0 ≤ f51_16_0.toInt from r76) (show f51_16_0.toInt ≤ 18479 from t77) (show (301 - x79.toInt).toNat < n51 by omega) hw (hT.up (show (B + 9 + 9 * v51_4.toInt) ≤ (B + 0 + 9 * x79.toInt) by omega)) hF hRW hKB c71 c72 c75 c78 (lv_sub hl [1, 2, 3, 4, 0] rfl)
      have L94 : ∀ (n94 : Nat) (v94_3 : Int32) (v94_5 : Int32) (H : Heap) (locs : List Loc) (ls : Array Slot) (w80 : va_W), 0 ≤ a1.toInt → a1.toInt ≤ 3 → 0 ≤ a2.toInt → a2.toInt ≤ 1 → (-298) ≤ v94_3.toInt → v94_3.toInt ≤ 300 → 1 ≤ v51_4.toInt → v51_4.toInt ≤ 300 → 0 ≤ v94_5.toInt → v94_5.toInt ≤ 300 → 1 ≤ f51_12_5.toInt → f51_12_5.toInt ≤ 4 → 0 ≤ f51_16_0.toInt → f51_16_0.toInt ≤ 18479 → (300 - v94_5.toInt).toNat < n94 → Wd dC dI A s.heap H locs w80 → TW ksM ad cy (B + 9 + 9 * v51_4.toInt) qr 12 w80 → FE ksM [(12, 24, 24), (12, 27, 27), (12, 30, 30), (12, 31, 31), (69, 0, 64), (70, 0, 10), (71, 0, 295), (71, 216, 243), (71, 220, 247), (71, 221, 248), (71, 222, 249), (71, 223, 250), (71, 224, 251), (72, 0, 12), (73, 0, 10), (74, 0, 296), (75, 0, 301)] w0 w80 → RW w80 → KBk w0 w80 → gi w80 0 27 = 0 → gi w80 0 30 = 1 → gi w80 12 5 = f51_12_5 → gi w80 16 0 = f51_16_0 → lv_has ls 6 [(0, .ref (ad 0)), (1, .int a1), (2, .int a2), (3, .int v94_3), (4, .int v51_4), (5, .int v94_5)] → W p l e ({ frames := 9, cells := 0, slots := 0, locals := 194 }) s m (List.toArray [.ref (ad 0), .int a1, .int a2]) below meth c H locs 0 0 (MQ below (va_Qi (P_X12_round_1 ad cy B qr s1 a1 a2 w0) (fun u : va_W => wpost dC dI cy A u) A) (List.toArray [.ref (ad 0), .int a1, .int a2]) s 0 0 A) (F0 m 94 ls []) := by
        intro n94
        induction n94 with
        | zero => intro v94_3 v94_5 H locs ls w80 r81 t82 r83 t84 r85 t86 r87 t88 r89 t90 r93 t94 r96 t97 hm94 hw hT hF hRW hKB c91 c92 c95 c98 hl; omega
        | succ n94 ih94 =>
          intro v94_3 v94_5 H locs ls w80 r81 t82 r83 t84 r85 t86 r87 t88 r89 t90 r93 t94 r96 t97 hm94 hw hT hF hRW hKB c91 c92 c95 c98 hl
          have J147 : ∀ (v147_3 : Int32) (H : Heap) (locs : List Loc) (ls : Array Slot) (w99 : va_W), 0 ≤ a1.toInt → a1.toInt ≤ 3 → 0 ≤ a2.toInt → a2.toInt ≤ 1 → (-298) ≤ v147_3.toInt → v147_3.toInt ≤ 300 → 1 ≤ v51_4.toInt → v51_4.toInt ≤ 300 → 0 ≤ v94_5.toInt → v94_5.toInt ≤ 299 → 1 ≤ f51_12_5.toInt → f51_12_5.toInt ≤ 4 → 0 ≤ f51_16_0.toInt → f51_16_0.toInt ≤ 18479 → Wd dC dI A s.heap H locs w99 → TW ksM ad cy (B + 9 + 9 * v51_4.toInt) qr 12 w99 → FE ksM [(12, 24, 24), (12, 27, 27), (12, 30, 30), (12, 31, 31), (69, 0, 64), (70, 0, 10), (71, 0, 295), (71, 216, 243), (71, 220, 247), (71, 221, 248), (71, 222, 249), (71, 223, 250), (71, 224, 251), (72, 0, 12), (73, 0, 10), (74, 0, 296), (75, 0, 301)] w0 w99 → RW w99 → KBk w0 w99 → gi w99 0 27 = 0 → gi w99 0 30 = 1 → gi w99 12 5 = f51_12_5 → gi w99 16 0 = f51_16_0 → lv_has ls 6 [(0, .ref (ad 0)), (1, .int a1), (2, .int a2), (3, .int v147_3), (4, .int v51_4), (5, .int v94_5)] → W p l e ({ frames := 9, cells := 0, slots := 0, locals := 194 }) s m (List.toArray [.ref (ad 0), .int a1, .int a2]) below meth c H locs 0 0 (MQ below (va_Qi (P_X12_round_1 ad cy B qr s1 a1 a2 w0) (fun u : va_W => wpost dC dI cy A u) A) (List.toArray [.ref (ad 0), .int a1, .int a2]) s 0 0 A) (F0 m 147 ls []) := by
            intro v147_3 H locs ls w99 r100 t101 r102 t103 r104 t105 r106 t107 r108 t109 r112 t113 r115 t116 hw hT hF hRW hKB c110 c111 c114 c117 hl
            obtain ⟨x118, ex118⟩ : ∃ y : Int32, y = v94_5 + Int32.ofInt 1 := ⟨_, rfl⟩
            refine lv_iinc (v := x118) (lv' := [(5, .int x118), (0, .ref (ad 0)), (1, .int a1), (2, .int a2), (3, .int v147_3), (4, .int v51_4)]) hx hb dX12_round_147 hl (k := 5) rfl ex118.symm (by decide) rfl (fun ls hl => ?_)
            have ex118 : x118.toInt = v94_5.toInt + 1 := by rw [ex118]; exact wk_add (y := 1) (show -2147483648 ≤ v94_5.toInt + 1 by omega) (show v94_5.toInt + 1 ≤ 2147483647 by omega)
            refine lv_goto (tgt := 94) hx hb dX12_round_150 (by decide) ?_
            exact ih94 v147_3 x118 H locs ls w99 (show 0 ≤ a1.toInt from r100) (show a1.toInt ≤ 3 from t101) (show 0 ≤ a2.toInt from r102) (show a2.toInt ≤ 1 from t103) (show (-298) ≤ v147_3.toInt from r104) (show v147_3.toInt ≤ 300 from t105) (show 1 ≤ v51_4.toInt from r106) (show v51_4.toInt ≤ 300 from t107) (show 0 ≤ x118.toInt by omega) (show x118.toInt ≤ 300 by omega) (show 1 ≤ f51_12_5.toInt from r112) (show f51_12_5.toInt ≤ 4 from t113) (show 0 ≤ f51_16_0.toInt from r115) (show f51_16_0.toInt ≤ 18479 from t116) (show (300 - x118.toInt).toNat < n94 by omega) hw hT hF hRW hKB c110 c111 c114 c117 (lv_sub hl [1, 2, 3, 4, 5, 0] rfl)
          refine lv_iload hx hb dX12_round_94 (lv_at hl 5 rfl) ?_
          refine lv_iload hx hb dX12_round_96 (lv_at hl 4 rfl) ?_
          refine lv_icmp_ge (tgt := 153) hx hb dX12_round_98 (by decide) (fun c119 => ?_) (fun c119 => ?_)
          · have c119 : v51_4.toInt ≤ v94_5.toInt := wk_le.mp c119
            exact J153 v94_3 v94_5 H locs ls w80 (show 0 ≤ a1.toInt from r81) (show a1.toInt ≤ 3 from t82) (show 0 ≤ a2.toInt from r83) (show a2.toInt ≤ 1 from t84) (show (-298) ≤ v94_3.toInt from r85) (show v94_3.toInt ≤ 300 from t86) (show 1 ≤ v51_4.toInt from r87) (show v51_4.toInt ≤ 300 from t88) (show 0 ≤ v94_5.toInt from r89) (show v94_5.toInt ≤ 300 from t90) (show 1 ≤ f51_12_5.toInt from r93) (show f51_12_5.toInt ≤ 4 from t94) (show 0 ≤ f51_16_0.toInt from r96) (show f51_16_0.toInt ≤ 18479 from t97)  hw hT hF hRW hKB c91 c92 c95 c98 (lv_sub hl [0, 1, 2, 3, 4, 5] rfl)
          · have c119 : v94_5.toInt < v51_4.toInt := wk_leF c119
            refine lv_iload_n hx hb dX12_round_101 rfl (lv_at hl 3 rfl) ?_
            refine lv_bipush (v := (-2)) hx hb dX12_round_102 (by decide) ?_
            refine lv_icmp_ne (tgt := 153) hx hb dX12_round_104 (by decide) (fun c120 => ?_) (fun c120 => ?_)
            · have c120 : ¬ v94_3.toInt = (-2 : Int) := wk_eqF c120
              exact J153 v94_3 v94_5 H locs ls w80 (show 0 ≤ a1.toInt from r81) (show a1.toInt ≤ 3 from t82) (show 0 ≤ a2.toInt from r83) (show a2.toInt ≤ 1 from t84) (show (-298) ≤ v94_3.toInt from r85) (show v94_3.toInt ≤ 300 from t86) (show 1 ≤ v51_4.toInt from r87) (show v51_4.toInt ≤ 300 from t88) (show 0 ≤ v94_5.toInt from r89) (show v94_5.toInt ≤ 300 from t90) (show 1 ≤ f51_12_5.toInt from r93) (show f51_12_5.toInt ≤ 4 from t94) (show 0 ≤ f51_16_0.toInt from r96) (show f51_16_0.toInt ≤ 18479 from t97)  hw hT hF hRW hKB c91 c92 c95 c98 (lv_sub hl [0, 1, 2, 3, 4, 5] rfl)
            · have c120 : v94_3.toInt = (-2 : Int) := wk_eq.mp c120
              refine lv_aload_n hx hb dX12_round_107 rfl (lv_at hl 0 rfl) ?_
              refine lv_iload_n hx hb dX12_round_108 rfl (lv_at hl 1 rfl) ?_
              refine tk_Vi hC hK hw hT hA hE hSR kM_at0 (by decide) rfl (k_X12_isThere_1 l adK adV dC dI cy ad (B + 9 + 9 * v51_4.toInt) (by omega) (by omega) qr s1   a1 (show 0 ≤ a1.toInt from r81) (show a1.toInt ≤ 3 from t82) w80 H.size hT ) (cwV 1 hC.2.2.2.2 uV_RX12_416 rfl rfl rfl (by decide +kernel) ⟨Nat.le_of_ble_eq_true rfl, Nat.le_of_ble_eq_true rfl⟩) rfl hl.1 rfl (Nat.le_of_ble_eq_true rfl) dX12_round_109 (fun r121 w123 H locs hp122 hw => ?_)
              obtain ⟨rfl, hg125⟩ := hp122
              rcases hg125 with rfl | rfl
              · refine lv_if_ne (tgt := 153) hx hb dX12_round_112 (by decide) (fun c => absurd (by decide) c) (fun _ => ?_)
                refine lv_aload_n hx hb dX12_round_115 rfl (lv_at hl 0 rfl) ?_
                refine tk_getA hC hK hw hT hinX12 kM_at0 (by decide) rfl 33 (by decide) (List.mem_cons_of_mem _ uw_7_6) rfl rfl dX12_round_116 ?_
                refine lv_iload hx hb dX12_round_119 (lv_at hl 5 rfl) ?_
                refine tk_iald hC hK hw hT kM_at16 rfl rfl (show 0 ≤ v94_5.toInt from r89) (show v94_5.toInt < 301 from Int.lt_of_le_of_lt t90 (by decide)) dX12_round_121 (fun x126 c127 rx126 tx126 => ?_)
                refine lv_aload_n hx hb dX12_round_122 rfl (lv_at hl 0 rfl) ?_
                refine tk_getA hC hK hw hT hinX12 kM_at0 (by decide) rfl 33 (by decide) (List.mem_cons_of_mem _ uw_7_6) rfl rfl dX12_round_123 ?_
                refine lv_iload hx hb dX12_round_126 (lv_at hl 4 rfl) ?_
                refine tk_iald hC hK hw hT kM_at16 rfl rfl (show 0 ≤ v51_4.toInt from Int.le_trans (by decide) r87) (show v51_4.toInt < 301 from Int.lt_of_le_of_lt t88 (by decide)) dX12_round_128 (fun x128 c129 rx128 tx128 => ?_)
                refine lv_icmp_ne (tgt := 147) hx hb dX12_round_129 (by decide) (fun c130 => ?_) (fun c130 => ?_)
                · have c130 : ¬ x126.toInt = x128.toInt := wk_eqF c130
                  exact J147 v94_3 H locs ls w80 (show 0 ≤ a1.toInt from r81) (show a1.toInt ≤ 3 from t82) (show 0 ≤ a2.toInt from r83) (show a2.toInt ≤ 1 from t84) (show (-298) ≤ v94_3.toInt from r85) (show v94_3.toInt ≤ 300 from t86) (show 1 ≤ v51_4.toInt from r87) (show v51_4.toInt ≤ 300 from t88) (show 0 ≤ v94_5.toInt from r89) (show v94_5.toInt ≤ 299 by omega) (show 1 ≤ f51_12_5.toInt from r93) (show f51_12_5.toInt ≤ 4 from t94) (show 0 ≤ f51_16_0.toInt from r96) (show f51_16_0.toInt ≤ 18479 from t97)  hw hT hF hRW hKB c91 c92 c95 c98 (lv_sub hl [0, 1, 2, 3, 4, 5] rfl)
                · have c130 : x126.toInt = x128.toInt := wk_eq.mp c130
                  refine lv_iload_n hx hb dX12_round_132 rfl (lv_at hl 2 rfl) ?_
                  refine lv_if_ne (tgt := 141) hx hb dX12_round_133 (by decide) (fun c131 => ?_) (fun c131 => ?_)
                  · have c131 : ¬ a2.toInt = (0 : Int) := wk_eqF c131
                    refine lv_iload hx hb dX12_round_141 (lv_at hl 4 rfl) ?_
                    refine lv_iload hx hb dX12_round_143 (lv_at hl 5 rfl) ?_
                    refine lv_isub hx hb dX12_round_145 ?_
                    refine lv_topi (fun x132 ex132 => ?_)
                    have ex132 : x132.toInt = v51_4.toInt - v94_5.toInt := by rw [ex132]; exact wk_sub (show (-2147483648) ≤ v51_4.toInt - v94_5.toInt by omega) (show v51_4.toInt - v94_5.toInt ≤ 2147483647 by omega)
                    refine lv_istore_n (lv' := [(3, .int x132), (0, .ref (ad 0)), (1, .int a1), (2, .int a2), (4, .int v51_4), (5, .int v94_5)]) hx hb dX12_round_146 rfl hl (by decide) rfl (fun ls hl => ?_)
                    exact J147 x132 H locs ls w80 (show 0 ≤ a1.toInt from r81) (show a1.toInt ≤ 3 from t82) (show 0 ≤ a2.toInt from r83) (show a2.toInt ≤ 1 from t84) (show (-298) ≤ x132.toInt by omega) (show x132.toInt ≤ 300 by omega) (show 1 ≤ v51_4.toInt from r87) (show v51_4.toInt ≤ 300 from t88) (show 0 ≤ v94_5.toInt from r89) (show v94_5.toInt ≤ 299 by omega) (show 1 ≤ f51_12_5.toInt from r93) (show f51_12_5.toInt ≤ 4 from t94) (show 0 ≤ f51_16_0.toInt from r96) (show f51_16_0.toInt ≤ 18479 from t97)  hw hT hF hRW hKB c91 c92 c95 c98 (lv_sub hl [1, 2, 3, 0, 4, 5] rfl)
                  · have c131 : a2.toInt = (0 : Int) := wk_eq.mp c131
                    refine lv_iload hx hb dX12_round_136 (lv_at hl 5 rfl) ?_
                    refine lv_goto (tgt := 146) hx hb dX12_round_138 (by decide) ?_
                    refine lv_istore_n (lv' := [(3, .int v94_5), (0, .ref (ad 0)), (1, .int a1), (2, .int a2), (4, .int v51_4), (5, .int v94_5)]) hx hb dX12_round_146 rfl hl (by decide) rfl (fun ls hl => ?_)
                    exact J147 v94_5 H locs ls w80 (show 0 ≤ a1.toInt from r81) (show a1.toInt ≤ 3 from t82) (show 0 ≤ a2.toInt from r83) (show a2.toInt ≤ 1 from t84) (show (-298) ≤ v94_5.toInt from Int.le_trans (by decide) r89) (show v94_5.toInt ≤ 300 from t90) (show 1 ≤ v51_4.toInt from r87) (show v51_4.toInt ≤ 300 from t88) (show 0 ≤ v94_5.toInt from r89) (show v94_5.toInt ≤ 299 by omega) (show 1 ≤ f51_12_5.toInt from r93) (show f51_12_5.toInt ≤ 4 from t94) (show 0 ≤ f51_16_0.toInt from r96) (show f51_16_0.toInt ≤ 18479 from t97)  hw hT hF hRW hKB c91 c92 c95 c98 (lv_sub hl [1, 2, 3, 0, 4, 5] rfl)
              · refine lv_if_ne (tgt := 153) hx hb dX12_round_112 (by decide) (fun _ => ?_) (fun c => absurd c (by decide))
                exact J153 v94_3 v94_5 H locs ls w80 (show 0 ≤ a1.toInt from r81) (show a1.toInt ≤ 3 from t82) (show 0 ≤ a2.toInt from r83) (show a2.toInt ≤ 1 from t84) (show (-298) ≤ v94_3.toInt from r85) (show v94_3.toInt ≤ 300 from t86) (show 1 ≤ v51_4.toInt from r87) (show v51_4.toInt ≤ 300 from t88) (show 0 ≤ v94_5.toInt from r89) (show v94_5.toInt ≤ 300 from t90) (show 1 ≤ f51_12_5.toInt from r93) (show f51_12_5.toInt ≤ 4 from t94) (show 0 ≤ f51_16_0.toInt from r96) (show f51_16_0.toInt ≤ 18479 from t97)  hw hT hF hRW hKB c91 c92 c95 c98 (lv_sub hl [0, 1, 2, 3, 4, 5] rfl)
      refine lv_iload hx hb dX12_round_51 (lv_at hl 4 rfl) ?_
      refine lv_sipush (v := 300) hx hb dX12_round_53 (by decide) ?_
      refine lv_icmp_gt (tgt := 159) hx hb dX12_round_56 (by decide) (fun c133 => ?_) (fun c133 => ?_)
      · have c133 : (300 : Int) < v51_4.toInt := wk_lt.mp c133
        exact J159 v51_3 v51_4 f51_12_5 f51_16_0 H locs ls w43 (show 0 ≤ a1.toInt from r44) (show a1.toInt ≤ 3 from t45) (show 0 ≤ a2.toInt from r46) (show a2.toInt ≤ 1 from t47) (show (-298) ≤ v51_3.toInt from r48) (show v51_3.toInt ≤ 300 from t49) (show 1 ≤ v51_4.toInt from r50) (show v51_4.toInt ≤ 301 from t51) (show 1 ≤ f51_12_5.toInt from r54) (show f51_12_5.toInt ≤ 4 from t55) (show 0 ≤ f51_16_0.toInt from r57) (show f51_16_0.toInt ≤ 18479 from t58)  hw (hT.up (show (B + 0 + 9 * v51_4.toInt) ≤ (B + 2709) by omega)) hF hRW hKB c52 c53 c56 c59 (lv_sub hl [0, 1, 2, 3, 4] rfl)
      · have c133 : v51_4.toInt ≤ (300 : Int) := wk_ltF c133
        refine lv_iload_n hx hb dX12_round_59 rfl (lv_at hl 3 rfl) ?_
        refine lv_bipush (v := (-2)) hx hb dX12_round_60 (by decide) ?_
        refine lv_icmp_ne (tgt := 159) hx hb dX12_round_62 (by decide) (fun c134 => ?_) (fun c134 => ?_)
        · have c134 : ¬ v51_3.toInt = (-2 : Int) := wk_eqF c134
          exact J159 v51_3 v51_4 f51_12_5 f51_16_0 H locs ls w43 (show 0 ≤ a1.toInt from r44) (show a1.toInt ≤ 3 from t45) (show 0 ≤ a2.toInt from r46) (show a2.toInt ≤ 1 from t47) (show (-298) ≤ v51_3.toInt from r48) (show v51_3.toInt ≤ 300 from t49) (show 1 ≤ v51_4.toInt from r50) (show v51_4.toInt ≤ 301 from t51) (show 1 ≤ f51_12_5.toInt from r54) (show f51_12_5.toInt ≤ 4 from t55) (show 0 ≤ f51_16_0.toInt from r57) (show f51_16_0.toInt ≤ 18479 from t58)  hw (hT.up (show (B + 0 + 9 * v51_4.toInt) ≤ (B + 2709) by omega)) hF hRW hKB c52 c53 c56 c59 (lv_sub hl [0, 1, 2, 3, 4] rfl)
        · have c134 : v51_3.toInt = (-2 : Int) := wk_eq.mp c134
          refine lv_aload_n hx hb dX12_round_65 rfl (lv_at hl 0 rfl) ?_
          refine lv_iload_n hx hb dX12_round_66 rfl (lv_at hl 1 rfl) ?_
          refine tk_Vi hC hK hw hT hA hE hSR kM_at0 (by decide) rfl (k_X12_isThere_1 l adK adV dC dI cy ad (B + 0 + 9 * v51_4.toInt) (by omega) (by omega) qr s1   a1 (show 0 ≤ a1.toInt from r44) (show a1.toInt ≤ 3 from t45) w43 H.size hT ) (cwV 1 hC.2.2.2.2 uV_RX12_416 rfl rfl rfl (by decide +kernel) ⟨Nat.le_of_ble_eq_true rfl, Nat.le_of_ble_eq_true rfl⟩) rfl hl.1 rfl (Nat.le_of_ble_eq_true rfl) dX12_round_67 (fun r135 w137 H locs hp136 hw => ?_)
          obtain ⟨rfl, hg139⟩ := hp136
          rcases hg139 with rfl | rfl
          · refine lv_if_ne (tgt := 159) hx hb dX12_round_70 (by decide) (fun c => absurd (by decide) c) (fun _ => ?_)
            refine lv_aload_n hx hb dX12_round_73 rfl (lv_at hl 0 rfl) ?_
            refine lv_iload_n hx hb dX12_round_74 rfl (lv_at hl 1 rfl) ?_
            refine tk_Vi hC hK hw hT hA hE hSR kM_at0 (by decide) rfl (k_X12_steps_1 l adK adV dC dI cy ad (B + 0 + 9 * v51_4.toInt) (by omega) (by omega) qr s1   a1 (show 0 ≤ a1.toInt from r44) (show a1.toInt ≤ 3 from t45) w43 H.size hT hRW) (cwV 1 hC.2.2.2.2 uV_RX12_419 rfl rfl rfl (by decide +kernel) ⟨Nat.le_of_ble_eq_true rfl, Nat.le_of_ble_eq_true rfl⟩) rfl hl.1 rfl (Nat.le_of_ble_eq_true rfl) dX12_round_75 (fun r140 w142 H locs hp141 hw => ?_)
            obtain ⟨hT, k143, hg144⟩ := hp141
            have hT := hT.up (B' := (B + 9 + 9 * v51_4.toInt)) (by omega)
            have hKB := KB_FE k143 (fun _ => rfl) hKB
            have hRW := RW_FE k143 (fun _ => rfl) (fun _ => rfl) (fun _ => rfl) hRW
            have hF := hF.tr k143 (by decide)
            have c145 := k143.gi kM_at0 (by decide) c52
            have c146 := k143.gi kM_at0 (by decide) c53
            have c147 := k143.gi kM_at12 (by decide) c56
            have c148 := k143.gi kM_at16 (by decide) c59
            rcases hg144 with rfl | rfl
            · refine lv_pop hx hb dX12_round_78 rfl ?_
              refine lv_aload_n hx hb dX12_round_79 rfl (lv_at hl 0 rfl) ?_
              refine tk_getA hC hK hw hT hinX12 kM_at0 (by decide) rfl 33 (by decide) (List.mem_cons_of_mem _ uw_7_6) rfl rfl dX12_round_80 ?_
              refine lv_iload hx hb dX12_round_83 (lv_at hl 4 rfl) ?_
              refine lv_aload_n hx hb dX12_round_85 rfl (lv_at hl 0 rfl) ?_
              refine lv_iload_n hx hb dX12_round_86 rfl (lv_at hl 1 rfl) ?_
              refine tk_Vi hC hK hw hT hA hE hSR kM_at0 (by decide) rfl (k_X12_asHeIs_1 l adK adV dC dI cy ad (B + 9 + 9 * v51_4.toInt) (by omega) (by omega) qr s1   a1 (show 0 ≤ a1.toInt from r44) (show a1.toInt ≤ 3 from t45) w142 H.size hT ) (cwV 1 hC.2.2.2.2 uV_RX12_432 rfl rfl rfl (by decide +kernel) ⟨Nat.le_of_ble_eq_true rfl, Nat.le_of_ble_eq_true rfl⟩) rfl hl.1 rfl (Nat.le_of_ble_eq_true rfl) dX12_round_87 (fun r149 w151 H locs hp150 hw => ?_)
              obtain ⟨rfl, hg155⟩ := hp150
              obtain ⟨g153, g154⟩ := hg155
              refine tk_iast hC hK hw hT kM_at16 (by decide) rfl rfl (show 0 ≤ v51_4.toInt from Int.le_trans (by decide) r50) (show v51_4.toInt < 301 from Int.lt_of_le_of_lt c133 (by decide)) (wk_i32 r149).1 (wk_i32 r149).2 dX12_round_90 (fun H locs w156 hw hT k158 c157 => ?_)
              have hRW := RW_F1 k158 (by decide) (by decide) (by decide) hRW
              have hKB := KB_F1 k158 (by decide) hKB
              have hF := hF.put kM_at16 (inE_of (a := 0) (b := 301) (by decide) (show 0 ≤ v51_4.toInt.toNat by omega) (show v51_4.toInt.toNat ≤ 301 by omega)) k158
              have c159 := k158.gi (Or.inl (tk_ne kM_at0 kM_at16 (by decide))) c145
              have c160 := k158.gi (Or.inl (tk_ne kM_at0 kM_at16 (by decide))) c146
              have c161 := k158.gi (Or.inl (tk_ne kM_at12 kM_at16 (by decide))) c147
              have c162 := k158.gi (Or.inr (show 0 ≠ v51_4.toInt.toNat by omega)) c148
              refine lv_iconst (v := 0) hx hb dX12_round_91 (by decide) ?_
              refine lv_istore (lv' := [(5, .int 0), (0, .ref (ad 0)), (1, .int a1), (2, .int a2), (3, .int v51_3), (4, .int v51_4)]) hx hb dX12_round_92 hl (by decide) rfl (fun ls hl => ?_)
              exact L94 ((300 - (0 : Int)).toNat + 1) v51_3 0 H locs ls w156 (show 0 ≤ a1.toInt from r44) (show a1.toInt ≤ 3 from t45) (show 0 ≤ a2.toInt from r46) (show a2.toInt ≤ 1 from t47) (show (-298) ≤ v51_3.toInt from r48) (show v51_3.toInt ≤ 300 from t49) (show 1 ≤ v51_4.toInt from r50) (show v51_4.toInt ≤ 300 from c133) (by decide) (by decide) (show 1 ≤ f51_12_5.toInt from r54) (show f51_12_5.toInt ≤ 4 from t55) (show 0 ≤ f51_16_0.toInt from r57) (show f51_16_0.toInt ≤ 18479 from t58) (Nat.lt_succ_self _) hw hT hF hRW hKB c159 c160 c161 c162 (lv_sub hl [1, 2, 3, 4, 5, 0] rfl)
            · refine lv_pop hx hb dX12_round_78 rfl ?_
              refine lv_aload_n hx hb dX12_round_79 rfl (lv_at hl 0 rfl) ?_
              refine tk_getA hC hK hw hT hinX12 kM_at0 (by decide) rfl 33 (by decide) (List.mem_cons_of_mem _ uw_7_6) rfl rfl dX12_round_80 ?_
              refine lv_iload hx hb dX12_round_83 (lv_at hl 4 rfl) ?_
              refine lv_aload_n hx hb dX12_round_85 rfl (lv_at hl 0 rfl) ?_
              refine lv_iload_n hx hb dX12_round_86 rfl (lv_at hl 1 rfl) ?_
              refine tk_Vi hC hK hw hT hA hE hSR kM_at0 (by decide) rfl (k_X12_asHeIs_1 l adK adV dC dI cy ad (B + 9 + 9 * v51_4.toInt) (by omega) (by omega) qr s1   a1 (show 0 ≤ a1.toInt from r44) (show a1.toInt ≤ 3 from t45) w142 H.size hT ) (cwV 1 hC.2.2.2.2 uV_RX12_432 rfl rfl rfl (by decide +kernel) ⟨Nat.le_of_ble_eq_true rfl, Nat.le_of_ble_eq_true rfl⟩) rfl hl.1 rfl (Nat.le_of_ble_eq_true rfl) dX12_round_87 (fun r163 w165 H locs hp164 hw => ?_)
              obtain ⟨rfl, hg169⟩ := hp164
              obtain ⟨g167, g168⟩ := hg169
              refine tk_iast hC hK hw hT kM_at16 (by decide) rfl rfl (show 0 ≤ v51_4.toInt from Int.le_trans (by decide) r50) (show v51_4.toInt < 301 from Int.lt_of_le_of_lt c133 (by decide)) (wk_i32 r163).1 (wk_i32 r163).2 dX12_round_90 (fun H locs w170 hw hT k172 c171 => ?_)
              have hRW := RW_F1 k172 (by decide) (by decide) (by decide) hRW
              have hKB := KB_F1 k172 (by decide) hKB
              have hF := hF.put kM_at16 (inE_of (a := 0) (b := 301) (by decide) (show 0 ≤ v51_4.toInt.toNat by omega) (show v51_4.toInt.toNat ≤ 301 by omega)) k172
              have c173 := k172.gi (Or.inl (tk_ne kM_at0 kM_at16 (by decide))) c145
              have c174 := k172.gi (Or.inl (tk_ne kM_at0 kM_at16 (by decide))) c146
              have c175 := k172.gi (Or.inl (tk_ne kM_at12 kM_at16 (by decide))) c147
              have c176 := k172.gi (Or.inr (show 0 ≠ v51_4.toInt.toNat by omega)) c148
              refine lv_iconst (v := 0) hx hb dX12_round_91 (by decide) ?_
              refine lv_istore (lv' := [(5, .int 0), (0, .ref (ad 0)), (1, .int a1), (2, .int a2), (3, .int v51_3), (4, .int v51_4)]) hx hb dX12_round_92 hl (by decide) rfl (fun ls hl => ?_)
              exact L94 ((300 - (0 : Int)).toNat + 1) v51_3 0 H locs ls w170 (show 0 ≤ a1.toInt from r44) (show a1.toInt ≤ 3 from t45) (show 0 ≤ a2.toInt from r46) (show a2.toInt ≤ 1 from t47) (show (-298) ≤ v51_3.toInt from r48) (show v51_3.toInt ≤ 300 from t49) (show 1 ≤ v51_4.toInt from r50) (show v51_4.toInt ≤ 300 from c133) (by decide) (by decide) (show 1 ≤ f51_12_5.toInt from r54) (show f51_12_5.toInt ≤ 4 from t55) (show 0 ≤ f51_16_0.toInt from r57) (show f51_16_0.toInt ≤ 18479 from t58) (Nat.lt_succ_self _) hw hT hF hRW hKB c173 c174 c175 c176 (lv_sub hl [1, 2, 3, 4, 5, 0] rfl)
          · refine lv_if_ne (tgt := 159) hx hb dX12_round_70 (by decide) (fun _ => ?_) (fun c => absurd c (by decide))
            exact J159 v51_3 v51_4 f51_12_5 f51_16_0 H locs ls w43 (show 0 ≤ a1.toInt from r44) (show a1.toInt ≤ 3 from t45) (show 0 ≤ a2.toInt from r46) (show a2.toInt ≤ 1 from t47) (show (-298) ≤ v51_3.toInt from r48) (show v51_3.toInt ≤ 300 from t49) (show 1 ≤ v51_4.toInt from r50) (show v51_4.toInt ≤ 301 from t51) (show 1 ≤ f51_12_5.toInt from r54) (show f51_12_5.toInt ≤ 4 from t55) (show 0 ≤ f51_16_0.toInt from r57) (show f51_16_0.toInt ≤ 18479 from t58)  hw (hT.up (show (B + 0 + 9 * v51_4.toInt) ≤ (B + 2709) by omega)) hF hRW hKB c52 c53 c56 c59 (lv_sub hl [0, 1, 2, 3, 4] rfl)
  refine lv_aload_n hx hb dX12_round_0 rfl (lv_at hl 0 rfl) ?_
  refine lv_iload_n hx hb dX12_round_1 rfl (lv_at hl 1 rfl) ?_
  refine tk_Vi hC hK hw hT hA hE hSR kM_at0 (by decide) rfl (k_X12_isWalker_1 l adK adV dC dI cy ad B (by omega) (by omega) qr s1   a1 w0 s.heap.size hT ) (cwV 1 hC.2.2.2.2 uV_RX12_367 rfl rfl rfl (by decide +kernel) ⟨Nat.le_of_ble_eq_true rfl, Nat.le_of_ble_eq_true rfl⟩) rfl hl.1 rfl (Nat.le_of_ble_eq_true rfl) dX12_round_2 (fun r177 w179 H locs hp178 hw => ?_)
  obtain ⟨rfl, hg185⟩ := hp178
  rcases hg185 with rfl | ⟨rfl, g181, g182, ⟨x183, c184, rx183, tx183⟩⟩
  · refine lv_if_eq (tgt := 18) hx hb dX12_round_5 (by decide) (fun _ => ?_) (fun c => absurd (by decide) c)
    exact J18  H locs ls w0   hw hT hF hRW hSA  (lv_sub hl [0, 1, 2] rfl)
  · refine lv_if_eq (tgt := 18) hx hb dX12_round_5 (by decide) (fun c => absurd c (by decide)) (fun _ => ?_)
    refine lv_iload_n hx hb dX12_round_8 rfl (lv_at hl 2 rfl) ?_
    refine lv_i2l hx hb dX12_round_9 rfl ?_
    refine lv_topl (fun x186 ex186 => ?_)
    have ex186 : x186.toInt = a2.toInt := by rw [ex186]; exact wk_i2l _
    have bx186 := wk_i32 a2
    refine lv_lconst (v := 0) hx hb dX12_round_10 (by decide) ?_
    refine lv_lconst (v := 1) hx hb dX12_round_11 (by decide) ?_
    refine tk_Si hC hK hw hT hA hE hSR (k_X12_in_12 l adK adV dC dI cy ad B (by omega) (by omega) qr s1   x186 (show (-2147483648) ≤ x186.toInt by omega) (show x186.toInt ≤ 2147483647 by omega) w0 H.size hT ) (va_cwS 3 hC.2.2.2.2 uS_RX12_122 rfl rfl rfl (by decide +kernel) ⟨Nat.le_of_ble_eq_true rfl, Nat.le_of_ble_eq_true rfl⟩) rfl hl.1 rfl (Nat.le_of_ble_eq_true rfl) dX12_round_12 (fun r187 w189 H locs hp188 hw => ?_)
    obtain ⟨rfl, hg193⟩ := hp188
    rcases hg193 with rfl | ⟨rfl, g191, g192⟩
    · refine lv_if_ne (tgt := 20) hx hb dX12_round_15 (by decide) (fun c => absurd (by decide) c) (fun _ => ?_)
      exact J18  H locs ls w0   hw hT hF hRW hSA  (lv_sub hl [0, 1, 2] rfl)
    · refine lv_if_ne (tgt := 20) hx hb dX12_round_15 (by decide) (fun _ => ?_) (fun c => absurd c (by decide))
      refine lv_aload_n hx hb dX12_round_20 rfl (lv_at hl 0 rfl) ?_
      refine tk_Vv hC hK hw hT hA hE hSR kM_at0 (by decide) rfl (k_X12_keeps_1 l adK adV dC dI cy ad B (by omega) (by omega) qr s1    w0 H.size hT ) (cwV 0 hC.2.2.2.2 uV_RX12_426 rfl rfl rfl (by decide +kernel) ⟨Nat.le_of_ble_eq_true rfl, Nat.le_of_ble_eq_true rfl⟩) rfl hl.1 rfl (Nat.le_of_ble_eq_true rfl) dX12_round_21 (fun w196 H locs hp195 hw => ?_)
      obtain ⟨hT, k197, hg202⟩ := hp195
      have hSA := SA_FE k197 (fun _ => rfl) hSA
      have hRW := RW_FE k197 (fun _ => rfl) (fun _ => rfl) (fun _ => rfl) hRW
      have hF := hF.tr k197 (by decide)
      have c203 := k197.gi kM_at12 (by decide) c184
      obtain ⟨c198, c199, c200, hq201⟩ := hg202
      have hKB : KBk w0 w196 := fun j hj => (hq201 j hj).trans ((k197.gi kM_at12 rfl rfl).symm.trans (hSA j hj))
      refine lv_aload_n hx hb dX12_round_24 rfl (lv_at hl 0 rfl) ?_
      refine lv_iconst (v := 1) hx hb dX12_round_25 (by decide) ?_
      refine tk_putz hC hK hw hT hinX12 tyX12_ok nmX12 kM_at0 (by decide) rfl rfl 30 (by decide) (List.mem_cons_of_mem _ uw_47_4) rfl rfl rfl rfl (by decide) (by decide) dX12_round_26 (fun H locs w204 hw hT k206 c205 => ?_)
      have hRW := RW_F1 k206 (by decide) (by decide) (by decide) hRW
      have hSA := SA_F1 k206 (by decide) hSA
      have hKB := KB_F1 k206 (by decide) hKB
      have hF := hF.put kM_at0 (k := 30) (by decide) k206
      have c207 := k206.gi (Or.inr (by decide)) c203
      refine lv_aload_n hx hb dX12_round_29 rfl (lv_at hl 0 rfl) ?_
      refine lv_iconst (v := 0) hx hb dX12_round_30 (by decide) ?_
      refine tk_putz hC hK hw hT hinX12 tyX12_ok nmX12 kM_at0 (by decide) rfl rfl 27 (by decide) (List.mem_cons_of_mem _ uw_7_2) rfl rfl rfl rfl (by decide) (by decide) dX12_round_31 (fun H locs w208 hw hT k210 c209 => ?_)
      have hRW := RW_F1 k210 (by decide) (by decide) (by decide) hRW
      have hSA := SA_F1 k210 (by decide) hSA
      have hKB := KB_F1 k210 (by decide) hKB
      have hF := hF.put kM_at0 (k := 27) (by decide) k210
      have c211 := k210.gi (Or.inr (by decide)) c207
      have c212 := k210.gi (Or.inr (by decide)) c205
      refine lv_bipush (v := (-2)) hx hb dX12_round_34 (by decide) ?_
      refine lv_istore_n (lv' := [(3, .int (-2)), (0, .ref (ad 0)), (1, .int a1), (2, .int a2)]) hx hb dX12_round_36 rfl hl (by decide) rfl (fun ls hl => ?_)
      refine lv_aload_n hx hb dX12_round_37 rfl (lv_at hl 1 rfl) ?_
      refine tk_getA hC hK hw hT hinX12 kM_at0 (by decide) rfl 33 (by decide) (List.mem_cons_of_mem _ uw_7_6) rfl rfl dX12_round_38 ?_
      refine lv_iconst (v := 0) hx hb dX12_round_41 (by decide) ?_
      refine lv_aload_n hx hb dX12_round_42 rfl (lv_at hl 1 rfl) ?_
      refine lv_iload_n hx hb dX12_round_43 rfl (lv_at hl 2 rfl) ?_
      refine tk_Vi hC hK hw hT hA hE hSR kM_at0 (by decide) rfl (k_X12_asHeIs_1 l adK adV dC dI cy ad B (by omega) (by omega) qr s1   a1 (show 0 ≤ a1.toInt by omega) (show a1.toInt ≤ 3 by omega) w208 H.size hT ) (cwV 1 hC.2.2.2.2 uV_RX12_432 rfl rfl rfl (by decide +kernel) ⟨Nat.le_of_ble_eq_true rfl, Nat.le_of_ble_eq_true rfl⟩) rfl hl.1 rfl (Nat.le_of_ble_eq_true rfl) dX12_round_44 (fun r213 w215 H locs hp214 hw => ?_)
      obtain ⟨rfl, hg219⟩ := hp214
      obtain ⟨g217, g218⟩ := hg219
      refine tk_iast hC hK hw hT kM_at16 (by decide) rfl rfl (by decide) (by decide) (wk_i32 r213).1 (wk_i32 r213).2 dX12_round_47 (fun H locs w220 hw hT k222 c221 => ?_)
      have hRW := RW_F1 k222 (by decide) (by decide) (by decide) hRW
      have hSA := SA_F1 k222 (by decide) hSA
      have hKB := KB_F1 k222 (by decide) hKB
      have hF := hF.put kM_at16 (inE_of (a := 0) (b := 301) (by decide) (by decide) (by decide)) k222
      have c223 := k222.gi (Or.inl (tk_ne kM_at12 kM_at16 (by decide))) c211
      have c224 := k222.gi (Or.inl (tk_ne kM_at0 kM_at16 (by decide))) c212
      have c225 := k222.gi (Or.inl (tk_ne kM_at0 kM_at16 (by decide))) c209
      have c221 : gi w220 16 0 = r213 := c221
      refine lv_iconst (v := 1) hx hb dX12_round_48 (by decide) ?_
      refine lv_istore (lv' := [(4, .int 1), (3, .int (-2)), (0, .ref (ad 0)), (1, .int a1), (2, .int a2)]) hx hb dX12_round_49 hl (by decide) rfl (fun ls hl => ?_)
      exact L51 ((301 - (1 : Int)).toNat + 1) (-2) 1 x183 r213 H locs ls w220 (show 0 ≤ a1.toInt by omega) (show a1.toInt ≤ 3 by omega) (show 0 ≤ a2.toInt by omega) (show a2.toInt ≤ 1 by omega) (by decide) (by decide) (by decide) (by decide) (show 1 ≤ x183.toInt by omega) (show x183.toInt ≤ 4 by omega) (show 0 ≤ r213.toInt by omega) (show r213.toInt ≤ 18479 by omega) (Nat.lt_succ_self _) hw (hT.up (show B ≤ (B + 0 + 9 * (1 : Int32).toInt) by rw [show (1 : Int32).toInt = 1 by decide]; omega)) hF hRW hKB c225 c224 c223 c221 (lv_sub hl [2, 3, 4, 1, 0] rfl)
abbrev P_X12_placeAt_1 (ad : Nat → Nat) (cy : Nat → ClassId) (B : Int) (qr : Nat) (s1 : Int) (a2 : Int32) (w0 : va_W) : Int32 → va_W → Prop := fun r u => w0 = u ∧ ((0 ≤ r.toInt ∧ r.toInt ≤ 18))
set_option maxHeartbeats 4000000 in
set_option maxRecDepth 100000 in
theorem k_X12_placeAt_1 (l : Launch) (adK adV : Nat → Nat) (dC : Nat → ClassId) (dI : Nat → Nat → Nat) (cy : Nat → ClassId) (ad : Nat → Nat) (B : Int) (hB0 : 100000 ≤ B) (hB1 : B ≤ 1073741824) (qr : Nat) (s1 : Int)  (a2 : Int32) (ra2 : 0 ≤ a2.toInt) (ta2 : a2.toInt ≤ 9) (w0 : va_W) (sz : Nat) (hT : TW ksM ad cy B qr 12 w0)  : Met l yX12_placeAt (wu yX12_placeAt cX12_placeAt 4 (some .int)) ({ frames := 1, cells := 0, slots := 0, locals := 12 }) (va_Pc [.ref (ad 0), .int 0, .int a2, .int 0] (wpreS adK adV dC dI cy sz w0)) (va_Qi (P_X12_placeAt_1 ad cy B qr s1 a2 w0) (fun u : va_W => wpost dC dI cy (va_A w0 sz) u) (va_A w0 sz)) 0 0 (va_A w0 sz) := by
  refine Met.ofW (cc := cX12_placeAt) (maxL := 4) (ret := (some .int)) (by decide) rfl ?_
  intro p e s m args below meth c s₁ Bk hml hv
  obtain ⟨rfl, ⟨hsz, hP, hK, hD0⟩, hE, hSR⟩ := hv
  have hx := Bk.exec
  have hb := Bk.bytes
  have hr := Bk.returns
  have hlocks := Bk.notSynchronized
  have hC : CallFix p m c cX12_placeAt 4 s _ (wu yX12_placeAt cX12_placeAt 4 (some .int)) RX12 := ⟨hx, hb, hml, findClass_of_methodNamed Bk.named, atoms_spec (ws := (wu yX12_placeAt cX12_placeAt 4 (some .int))) Bk.pre⟩
  subst hsz
  have hD := hD0.self (sz := s.heap.size)
  generalize hAe : va_A w0 s.heap.size = A at hD hE ⊢
  have hA : ∀ q : Nat, s.heap.size ≤ q → A q := fun q h => by rw [← hAe]; exact Or.inr h
  have hw : Wd dC dI A s.heap s.heap [] w0 := ⟨hP, hD, va_S.rf⟩
  have hF : FE ksM ([] : List (Nat × Nat × Nat)) w0 w0 := FE.rf
  have hl := lv_entry ([.ref (ad 0), .int 0, .int a2, .int 0]) (n := 4) (Nat.le_of_ble_eq_true rfl)
  rw [lg_entry_eq]
  generalize (lg_sl ([.ref (ad 0), .int 0, .int a2, .int 0]) ++ List.replicate (4 - (lg_sl ([.ref (ad 0), .int 0, .int a2, .int 0])).length) Slot.unset).toArray = ls at hl ⊢
  have hl : lv_has ls 4 [(0, .ref (ad 0)), (1, .int 0), (2, .int a2), (3, .int 0)] := hl
  generalize hloc : ([] : List Loc) = locs at hw ⊢
  refine lv_iload_n hx hb dX12_placeAt_0 rfl (lv_at hl 1 rfl) ?_
  refine lv_bipush (v := 10) hx hb dX12_placeAt_1 (by decide) ?_
  refine lv_imul hx hb dX12_placeAt_3 ?_
  refine wk_top 0 (by decide) ?_
  refine lv_iload_n hx hb dX12_placeAt_4 rfl (lv_at hl 2 rfl) ?_
  refine lv_iadd hx hb dX12_placeAt_5 ?_
  refine lv_topi (fun x1 ex1 => ?_)
  have ex1 : x1.toInt = (0 : Int) + a2.toInt := by rw [ex1]; exact wk_add (show (-2147483648) ≤ (0 : Int) + a2.toInt by omega) (show (0 : Int) + a2.toInt ≤ 2147483647 by omega)
  refine lv_iconst (v := 2) hx hb dX12_placeAt_6 (by decide) ?_
  refine lv_imul hx hb dX12_placeAt_7 ?_
  refine lv_topi (fun x2 ex2 => ?_)
  have ex2 : x2.toInt = x1.toInt * (2 : Int) := by rw [ex2]; exact wk_mul (show (-2147483648) ≤ x1.toInt * (2 : Int) by omega) (show x1.toInt * (2 : Int) ≤ 2147483647 by omega)
  refine lv_iload_n hx hb dX12_placeAt_8 rfl (lv_at hl 3 rfl) ?_
  refine lv_if_eq (tgt := 16) hx hb dX12_placeAt_9 (by decide) (fun _ => ?_) (fun c => absurd (by decide) c)
  refine lv_iconst (v := 0) hx hb dX12_placeAt_16 (by decide) ?_
  refine lv_iadd hx hb dX12_placeAt_17 ?_
  refine lv_topi (fun x3 ex3 => ?_)
  have ex3 : x3.toInt = x2.toInt + (0 : Int) := by rw [ex3]; exact wk_add (show (-2147483648) ≤ x2.toInt + (0 : Int) by omega) (show x2.toInt + (0 : Int) ≤ 2147483647 by omega)
  exact tk_iret hC hr hlocks hK ⟨rfl, ⟨(show 0 ≤ x3.toInt by omega), (show x3.toInt ≤ 18 by omega)⟩⟩ hw dX12_placeAt_18
abbrev P_X12_could_1 (ad : Nat → Nat) (cy : Nat → ClassId) (B : Int) (qr : Nat) (s1 : Int) (a2 : Int32) (w0 : va_W) : va_W → Prop := fun u => TW ksM ad cy B qr 12 u ∧ FE ksM [(76, 0, 2600)] w0 u ∧ ((True))
set_option maxHeartbeats 4000000 in
set_option maxRecDepth 100000 in
theorem k_X12_could_1 (l : Launch) (adK adV : Nat → Nat) (dC : Nat → ClassId) (dI : Nat → Nat → Nat) (cy : Nat → ClassId) (ad : Nat → Nat) (B : Int) (hB0 : 100000 ≤ B) (hB1 : B ≤ 1073741824) (qr : Nat) (s1 : Int)  (a2 : Int32) (ra2 : 0 ≤ a2.toInt) (ta2 : a2.toInt ≤ 9) (w0 : va_W) (sz : Nat) (hT : TW ksM ad cy B qr 12 w0)  : Met l yX12_could (wu yX12_could cX12_could 6 none) ({ frames := 2, cells := 0, slots := 0, locals := 35 }) (va_Pc [.ref (ad 0), .int 0, .int a2, .int 0, .int 0] (wpreS adK adV dC dI cy sz w0)) (va_Qv (P_X12_could_1 ad cy B qr s1 a2 w0) (fun u : va_W => wpost dC dI cy (va_A w0 sz) u) (va_A w0 sz)) 0 0 (va_A w0 sz) := by
  refine Met.ofW (cc := cX12_could) (maxL := 6) (ret := none) (by decide) rfl ?_
  intro p e s m args below meth c s₁ Bk hml hv
  obtain ⟨rfl, ⟨hsz, hP, hK, hD0⟩, hE, hSR⟩ := hv
  have hx := Bk.exec
  have hb := Bk.bytes
  have hr := Bk.returns
  have hlocks := Bk.notSynchronized
  have hC : CallFix p m c cX12_could 6 s _ (wu yX12_could cX12_could 6 none) RX12 := ⟨hx, hb, hml, findClass_of_methodNamed Bk.named, atoms_spec (ws := (wu yX12_could cX12_could 6 none)) Bk.pre⟩
  subst hsz
  have hD := hD0.self (sz := s.heap.size)
  generalize hAe : va_A w0 s.heap.size = A at hD hE ⊢
  have hA : ∀ q : Nat, s.heap.size ≤ q → A q := fun q h => by rw [← hAe]; exact Or.inr h
  have hw : Wd dC dI A s.heap s.heap [] w0 := ⟨hP, hD, va_S.rf⟩
  have hF : FE ksM [(76, 0, 2600)] w0 w0 := FE.rf
  have hl := lv_entry ([.ref (ad 0), .int 0, .int a2, .int 0, .int 0]) (n := 6) (Nat.le_of_ble_eq_true rfl)
  rw [lg_entry_eq]
  generalize (lg_sl ([.ref (ad 0), .int 0, .int a2, .int 0, .int 0]) ++ List.replicate (6 - (lg_sl ([.ref (ad 0), .int 0, .int a2, .int 0, .int 0])).length) Slot.unset).toArray = ls at hl ⊢
  have hl : lv_has ls 6 [(0, .ref (ad 0)), (1, .int 0), (2, .int a2), (3, .int 0), (4, .int 0)] := hl
  generalize hloc : ([] : List Loc) = locs at hw ⊢
  have hinX12 : ∀ w ∈ u_ws RX12 TX12 42, w ∈ (wu yX12_could cX12_could 6 none) := fun _ h => List.mem_cons_of_mem _ (up_71 h)
  have J30 : ∀ (v30_5 : Int32) (H : Heap) (locs : List Loc) (ls : Array Slot) (w1 : va_W), 0 ≤ a2.toInt → a2.toInt ≤ 9 → 0 ≤ v30_5.toInt → v30_5.toInt ≤ 18 → Wd dC dI A s.heap H locs w1 → TW ksM ad cy B qr 12 w1 → FE ksM [(76, 0, 2600)] w0 w1 → lv_has ls 6 [(0, .ref (ad 0)), (1, .int 0), (2, .int a2), (3, .int 0), (4, .int 0), (5, .int v30_5)] → W p l e ({ frames := 2, cells := 0, slots := 0, locals := 35 }) s m (List.toArray [.ref (ad 0), .int 0, .int a2, .int 0, .int 0]) below meth c H locs 0 0 (MQ below (va_Qv (P_X12_could_1 ad cy B qr s1 a2 w0) (fun u : va_W => wpost dC dI cy A u) A) (List.toArray [.ref (ad 0), .int 0, .int a2, .int 0, .int 0]) s 0 0 A) (F0 m 30 ls []) := by
    intro v30_5 H locs ls w1 r2 t3 r4 t5 hw hT hF hl
    exact tk_vret hC hr hlocks hK ⟨hT, hF, trivial⟩ hw dX12_could_30
  refine lv_aload_n hx hb dX12_could_0 rfl (lv_at hl 0 rfl) ?_
  refine lv_iload_n hx hb dX12_could_1 rfl (lv_at hl 1 rfl) ?_
  refine lv_iload_n hx hb dX12_could_2 rfl (lv_at hl 2 rfl) ?_
  refine lv_iload_n hx hb dX12_could_3 rfl (lv_at hl 3 rfl) ?_
  refine tk_Vi hC hK hw hT hA hE hSR kM_at0 (by decide) rfl (k_X12_placeAt_1 l adK adV dC dI cy ad B (by omega) (by omega) qr s1   a2 (show 0 ≤ a2.toInt from ra2) (show a2.toInt ≤ 9 from ta2) w0 s.heap.size hT ) (cwV 3 hC.2.2.2.2 uV_RX12_435 rfl rfl rfl (by decide +kernel) ⟨Nat.le_of_ble_eq_true rfl, Nat.le_of_ble_eq_true rfl⟩) rfl hl.1 rfl (Nat.le_of_ble_eq_true rfl) dX12_could_4 (fun r6 w8 H locs hp7 hw => ?_)
  obtain ⟨rfl, hg12⟩ := hp7
  obtain ⟨g10, g11⟩ := hg12
  refine lv_istore (lv' := [(5, .int r6), (0, .ref (ad 0)), (1, .int 0), (2, .int a2), (3, .int 0), (4, .int 0)]) hx hb dX12_could_7 hl (by decide) rfl (fun ls hl => ?_)
  refine lv_iload hx hb dX12_could_9 (lv_at hl 5 rfl) ?_
  refine lv_aload_n hx hb dX12_could_11 rfl (lv_at hl 1 rfl) ?_
  refine tk_getA hC hK hw hT hinX12 kM_at0 (by decide) rfl 34 (by decide) (List.mem_cons_of_mem _ uw_7_7) rfl rfl dX12_could_12 ?_
  refine lv_iload hx hb dX12_could_15 (lv_at hl 0 rfl) ?_
  refine tk_iald hC hK hw hT kM_at17 rfl rfl (show 0 ≤ r6.toInt by omega) (show r6.toInt < 2600 by omega) dX12_could_17 (fun x13 c14 rx13 tx13 => ?_)
  refine lv_icmp_ge (tgt := 30) hx hb dX12_could_18 (by decide) (fun c15 => ?_) (fun c15 => ?_)
  · have c15 : x13.toInt ≤ (0 : Int) := wk_le.mp c15
    exact J30 r6 H locs ls w0 (show 0 ≤ a2.toInt from ra2) (show a2.toInt ≤ 9 from ta2) (show 0 ≤ r6.toInt by omega) (show r6.toInt ≤ 18 by omega)  hw hT hF  (lv_sub hl [1, 2, 3, 4, 5, 0] rfl)
  · have c15 : (0 : Int) < x13.toInt := wk_leF c15
    refine lv_aload_n hx hb dX12_could_21 rfl (lv_at hl 1 rfl) ?_
    refine tk_getA hC hK hw hT hinX12 kM_at0 (by decide) rfl 34 (by decide) (List.mem_cons_of_mem _ uw_7_7) rfl rfl dX12_could_22 ?_
    refine lv_iload hx hb dX12_could_25 (lv_at hl 0 rfl) ?_
    refine lv_iload hx hb dX12_could_27 (lv_at hl 5 rfl) ?_
    refine tk_iast hC hK hw hT kM_at17 (by decide) rfl rfl (show 0 ≤ r6.toInt by omega) (show r6.toInt < 2600 by omega) (by decide) (by decide) dX12_could_29 (fun H locs w16 hw hT k18 c17 => ?_)
    have hF := hF.put kM_at17 (inE_of (a := 0) (b := 2600) (by decide) (show 0 ≤ r6.toInt.toNat by omega) (show r6.toInt.toNat ≤ 2600 by omega)) k18
    exact J30 r6 H locs ls w16 (show 0 ≤ a2.toInt from ra2) (show a2.toInt ≤ 9 from ta2) (show 0 ≤ r6.toInt by omega) (show r6.toInt ≤ 18 by omega)  hw hT hF  (lv_sub hl [1, 2, 3, 4, 5, 0] rfl)
abbrev P_X12_placeAt_2 (ad : Nat → Nat) (cy : Nat → ClassId) (B : Int) (qr : Nat) (s1 : Int) (a2 : Int32) (w0 : va_W) : Int32 → va_W → Prop := fun r u => w0 = u ∧ ((1 ≤ r.toInt ∧ r.toInt ≤ 19))
set_option maxHeartbeats 4000000 in
set_option maxRecDepth 100000 in
theorem k_X12_placeAt_2 (l : Launch) (adK adV : Nat → Nat) (dC : Nat → ClassId) (dI : Nat → Nat → Nat) (cy : Nat → ClassId) (ad : Nat → Nat) (B : Int) (hB0 : 100000 ≤ B) (hB1 : B ≤ 1073741824) (qr : Nat) (s1 : Int)  (a2 : Int32) (ra2 : 0 ≤ a2.toInt) (ta2 : a2.toInt ≤ 9) (w0 : va_W) (sz : Nat) (hT : TW ksM ad cy B qr 12 w0)  : Met l yX12_placeAt (wu yX12_placeAt cX12_placeAt 4 (some .int)) ({ frames := 1, cells := 0, slots := 0, locals := 12 }) (va_Pc [.ref (ad 0), .int 0, .int a2, .int 1] (wpreS adK adV dC dI cy sz w0)) (va_Qi (P_X12_placeAt_2 ad cy B qr s1 a2 w0) (fun u : va_W => wpost dC dI cy (va_A w0 sz) u) (va_A w0 sz)) 0 0 (va_A w0 sz) := by
  refine Met.ofW (cc := cX12_placeAt) (maxL := 4) (ret := (some .int)) (by decide) rfl ?_
  intro p e s m args below meth c s₁ Bk hml hv
  obtain ⟨rfl, ⟨hsz, hP, hK, hD0⟩, hE, hSR⟩ := hv
  have hx := Bk.exec
  have hb := Bk.bytes
  have hr := Bk.returns
  have hlocks := Bk.notSynchronized
  have hC : CallFix p m c cX12_placeAt 4 s _ (wu yX12_placeAt cX12_placeAt 4 (some .int)) RX12 := ⟨hx, hb, hml, findClass_of_methodNamed Bk.named, atoms_spec (ws := (wu yX12_placeAt cX12_placeAt 4 (some .int))) Bk.pre⟩
  subst hsz
  have hD := hD0.self (sz := s.heap.size)
  generalize hAe : va_A w0 s.heap.size = A at hD hE ⊢
  have hA : ∀ q : Nat, s.heap.size ≤ q → A q := fun q h => by rw [← hAe]; exact Or.inr h
  have hw : Wd dC dI A s.heap s.heap [] w0 := ⟨hP, hD, va_S.rf⟩
  have hF : FE ksM ([] : List (Nat × Nat × Nat)) w0 w0 := FE.rf
  have hl := lv_entry ([.ref (ad 0), .int 0, .int a2, .int 1]) (n := 4) (Nat.le_of_ble_eq_true rfl)
  rw [lg_entry_eq]
  generalize (lg_sl ([.ref (ad 0), .int 0, .int a2, .int 1]) ++ List.replicate (4 - (lg_sl ([.ref (ad 0), .int 0, .int a2, .int 1])).length) Slot.unset).toArray = ls at hl ⊢
  have hl : lv_has ls 4 [(0, .ref (ad 0)), (1, .int 0), (2, .int a2), (3, .int 1)] := hl
  generalize hloc : ([] : List Loc) = locs at hw ⊢
  refine lv_iload_n hx hb dX12_placeAt_0 rfl (lv_at hl 1 rfl) ?_
  refine lv_bipush (v := 10) hx hb dX12_placeAt_1 (by decide) ?_
  refine lv_imul hx hb dX12_placeAt_3 ?_
  refine wk_top 0 (by decide) ?_
  refine lv_iload_n hx hb dX12_placeAt_4 rfl (lv_at hl 2 rfl) ?_
  refine lv_iadd hx hb dX12_placeAt_5 ?_
  refine lv_topi (fun x1 ex1 => ?_)
  have ex1 : x1.toInt = (0 : Int) + a2.toInt := by rw [ex1]; exact wk_add (show (-2147483648) ≤ (0 : Int) + a2.toInt by omega) (show (0 : Int) + a2.toInt ≤ 2147483647 by omega)
  refine lv_iconst (v := 2) hx hb dX12_placeAt_6 (by decide) ?_
  refine lv_imul hx hb dX12_placeAt_7 ?_
  refine lv_topi (fun x2 ex2 => ?_)
  have ex2 : x2.toInt = x1.toInt * (2 : Int) := by rw [ex2]; exact wk_mul (show (-2147483648) ≤ x1.toInt * (2 : Int) by omega) (show x1.toInt * (2 : Int) ≤ 2147483647 by omega)
  refine lv_iload_n hx hb dX12_placeAt_8 rfl (lv_at hl 3 rfl) ?_
  refine lv_if_eq (tgt := 16) hx hb dX12_placeAt_9 (by decide) (fun c => absurd c (by decide)) (fun _ => ?_)
  refine lv_iconst (v := 1) hx hb dX12_placeAt_12 (by decide) ?_
  refine lv_goto (tgt := 17) hx hb dX12_placeAt_13 (by decide) ?_
  refine lv_iadd hx hb dX12_placeAt_17 ?_
  refine lv_topi (fun x3 ex3 => ?_)
  have ex3 : x3.toInt = x2.toInt + (1 : Int) := by rw [ex3]; exact wk_add (show (-2147483648) ≤ x2.toInt + (1 : Int) by omega) (show x2.toInt + (1 : Int) ≤ 2147483647 by omega)
  exact tk_iret hC hr hlocks hK ⟨rfl, ⟨(show 1 ≤ x3.toInt by omega), (show x3.toInt ≤ 19 by omega)⟩⟩ hw dX12_placeAt_18
abbrev P_X12_could_2 (ad : Nat → Nat) (cy : Nat → ClassId) (B : Int) (qr : Nat) (s1 : Int) (a2 : Int32) (w0 : va_W) : va_W → Prop := fun u => TW ksM ad cy B qr 12 u ∧ FE ksM [(76, 0, 2600)] w0 u ∧ ((True))
set_option maxHeartbeats 4000000 in
set_option maxRecDepth 100000 in
theorem k_X12_could_2 (l : Launch) (adK adV : Nat → Nat) (dC : Nat → ClassId) (dI : Nat → Nat → Nat) (cy : Nat → ClassId) (ad : Nat → Nat) (B : Int) (hB0 : 100000 ≤ B) (hB1 : B ≤ 1073741824) (qr : Nat) (s1 : Int)  (a2 : Int32) (ra2 : 0 ≤ a2.toInt) (ta2 : a2.toInt ≤ 9) (w0 : va_W) (sz : Nat) (hT : TW ksM ad cy B qr 12 w0)  : Met l yX12_could (wu yX12_could cX12_could 6 none) ({ frames := 2, cells := 0, slots := 0, locals := 35 }) (va_Pc [.ref (ad 0), .int 0, .int a2, .int 1, .int 0] (wpreS adK adV dC dI cy sz w0)) (va_Qv (P_X12_could_2 ad cy B qr s1 a2 w0) (fun u : va_W => wpost dC dI cy (va_A w0 sz) u) (va_A w0 sz)) 0 0 (va_A w0 sz) := by
  refine Met.ofW (cc := cX12_could) (maxL := 6) (ret := none) (by decide) rfl ?_
  intro p e s m args below meth c s₁ Bk hml hv
  obtain ⟨rfl, ⟨hsz, hP, hK, hD0⟩, hE, hSR⟩ := hv
  have hx := Bk.exec
  have hb := Bk.bytes
  have hr := Bk.returns
  have hlocks := Bk.notSynchronized
  have hC : CallFix p m c cX12_could 6 s _ (wu yX12_could cX12_could 6 none) RX12 := ⟨hx, hb, hml, findClass_of_methodNamed Bk.named, atoms_spec (ws := (wu yX12_could cX12_could 6 none)) Bk.pre⟩
  subst hsz
  have hD := hD0.self (sz := s.heap.size)
  generalize hAe : va_A w0 s.heap.size = A at hD hE ⊢
  have hA : ∀ q : Nat, s.heap.size ≤ q → A q := fun q h => by rw [← hAe]; exact Or.inr h
  have hw : Wd dC dI A s.heap s.heap [] w0 := ⟨hP, hD, va_S.rf⟩
  have hF : FE ksM [(76, 0, 2600)] w0 w0 := FE.rf
  have hl := lv_entry ([.ref (ad 0), .int 0, .int a2, .int 1, .int 0]) (n := 6) (Nat.le_of_ble_eq_true rfl)
  rw [lg_entry_eq]
  generalize (lg_sl ([.ref (ad 0), .int 0, .int a2, .int 1, .int 0]) ++ List.replicate (6 - (lg_sl ([.ref (ad 0), .int 0, .int a2, .int 1, .int 0])).length) Slot.unset).toArray = ls at hl ⊢
  have hl : lv_has ls 6 [(0, .ref (ad 0)), (1, .int 0), (2, .int a2), (3, .int 1), (4, .int 0)] := hl
  generalize hloc : ([] : List Loc) = locs at hw ⊢
  have hinX12 : ∀ w ∈ u_ws RX12 TX12 42, w ∈ (wu yX12_could cX12_could 6 none) := fun _ h => List.mem_cons_of_mem _ (up_71 h)
  have J30 : ∀ (v30_5 : Int32) (H : Heap) (locs : List Loc) (ls : Array Slot) (w1 : va_W), 0 ≤ a2.toInt → a2.toInt ≤ 9 → 1 ≤ v30_5.toInt → v30_5.toInt ≤ 19 → Wd dC dI A s.heap H locs w1 → TW ksM ad cy B qr 12 w1 → FE ksM [(76, 0, 2600)] w0 w1 → lv_has ls 6 [(0, .ref (ad 0)), (1, .int 0), (2, .int a2), (3, .int 1), (4, .int 0), (5, .int v30_5)] → W p l e ({ frames := 2, cells := 0, slots := 0, locals := 35 }) s m (List.toArray [.ref (ad 0), .int 0, .int a2, .int 1, .int 0]) below meth c H locs 0 0 (MQ below (va_Qv (P_X12_could_2 ad cy B qr s1 a2 w0) (fun u : va_W => wpost dC dI cy A u) A) (List.toArray [.ref (ad 0), .int 0, .int a2, .int 1, .int 0]) s 0 0 A) (F0 m 30 ls []) := by
    intro v30_5 H locs ls w1 r2 t3 r4 t5 hw hT hF hl
    exact tk_vret hC hr hlocks hK ⟨hT, hF, trivial⟩ hw dX12_could_30
  refine lv_aload_n hx hb dX12_could_0 rfl (lv_at hl 0 rfl) ?_
  refine lv_iload_n hx hb dX12_could_1 rfl (lv_at hl 1 rfl) ?_
  refine lv_iload_n hx hb dX12_could_2 rfl (lv_at hl 2 rfl) ?_
  refine lv_iload_n hx hb dX12_could_3 rfl (lv_at hl 3 rfl) ?_
  refine tk_Vi hC hK hw hT hA hE hSR kM_at0 (by decide) rfl (k_X12_placeAt_2 l adK adV dC dI cy ad B (by omega) (by omega) qr s1   a2 (show 0 ≤ a2.toInt from ra2) (show a2.toInt ≤ 9 from ta2) w0 s.heap.size hT ) (cwV 3 hC.2.2.2.2 uV_RX12_435 rfl rfl rfl (by decide +kernel) ⟨Nat.le_of_ble_eq_true rfl, Nat.le_of_ble_eq_true rfl⟩) rfl hl.1 rfl (Nat.le_of_ble_eq_true rfl) dX12_could_4 (fun r6 w8 H locs hp7 hw => ?_)
  obtain ⟨rfl, hg12⟩ := hp7
  obtain ⟨g10, g11⟩ := hg12
  refine lv_istore (lv' := [(5, .int r6), (0, .ref (ad 0)), (1, .int 0), (2, .int a2), (3, .int 1), (4, .int 0)]) hx hb dX12_could_7 hl (by decide) rfl (fun ls hl => ?_)
  refine lv_iload hx hb dX12_could_9 (lv_at hl 5 rfl) ?_
  refine lv_aload_n hx hb dX12_could_11 rfl (lv_at hl 1 rfl) ?_
  refine tk_getA hC hK hw hT hinX12 kM_at0 (by decide) rfl 34 (by decide) (List.mem_cons_of_mem _ uw_7_7) rfl rfl dX12_could_12 ?_
  refine lv_iload hx hb dX12_could_15 (lv_at hl 0 rfl) ?_
  refine tk_iald hC hK hw hT kM_at17 rfl rfl (show 0 ≤ r6.toInt by omega) (show r6.toInt < 2600 by omega) dX12_could_17 (fun x13 c14 rx13 tx13 => ?_)
  refine lv_icmp_ge (tgt := 30) hx hb dX12_could_18 (by decide) (fun c15 => ?_) (fun c15 => ?_)
  · have c15 : x13.toInt ≤ (0 : Int) := wk_le.mp c15
    exact J30 r6 H locs ls w0 (show 0 ≤ a2.toInt from ra2) (show a2.toInt ≤ 9 from ta2) (show 1 ≤ r6.toInt by omega) (show r6.toInt ≤ 19 by omega)  hw hT hF  (lv_sub hl [1, 2, 3, 4, 5, 0] rfl)
  · have c15 : (0 : Int) < x13.toInt := wk_leF c15
    refine lv_aload_n hx hb dX12_could_21 rfl (lv_at hl 1 rfl) ?_
    refine tk_getA hC hK hw hT hinX12 kM_at0 (by decide) rfl 34 (by decide) (List.mem_cons_of_mem _ uw_7_7) rfl rfl dX12_could_22 ?_
    refine lv_iload hx hb dX12_could_25 (lv_at hl 0 rfl) ?_
    refine lv_iload hx hb dX12_could_27 (lv_at hl 5 rfl) ?_
    refine tk_iast hC hK hw hT kM_at17 (by decide) rfl rfl (show 0 ≤ r6.toInt by omega) (show r6.toInt < 2600 by omega) (by decide) (by decide) dX12_could_29 (fun H locs w16 hw hT k18 c17 => ?_)
    have hF := hF.put kM_at17 (inE_of (a := 0) (b := 2600) (by decide) (show 0 ≤ r6.toInt.toNat by omega) (show r6.toInt.toNat ≤ 2600 by omega)) k18
    exact J30 r6 H locs ls w16 (show 0 ≤ a2.toInt from ra2) (show a2.toInt ≤ 9 from ta2) (show 1 ≤ r6.toInt by omega) (show r6.toInt ≤ 19 by omega)  hw hT hF  (lv_sub hl [1, 2, 3, 4, 5, 0] rfl)
abbrev P_X12_in_17 (ad : Nat → Nat) (cy : Nat → ClassId) (B : Int) (qr : Nat) (s1 : Int) (a0 : Int64) (w0 : va_W) : Int32 → va_W → Prop := fun r u => w0 = u ∧ ((r = 0) ∨ (r = 1 ∧ 0 ≤ a0.toInt ∧ a0.toInt ≤ 120))
set_option maxHeartbeats 4000000 in
set_option maxRecDepth 100000 in
theorem k_X12_in_17 (l : Launch) (adK adV : Nat → Nat) (dC : Nat → ClassId) (dI : Nat → Nat → Nat) (cy : Nat → ClassId) (ad : Nat → Nat) (B : Int) (hB0 : 100000 ≤ B) (hB1 : B ≤ 1073741824) (qr : Nat) (s1 : Int)  (a0 : Int64) (ra0 : (-2147483648) ≤ a0.toInt) (ta0 : a0.toInt ≤ 2147483647) (w0 : va_W) (sz : Nat) (hT : TW ksM ad cy B qr 12 w0)  : Met l yX12_in (wu yX12_in cX12_in 6 (some .boolean)) ({ frames := 1, cells := 0, slots := 0, locals := 12 }) (va_Pc [.long a0, .long 0, .long 120] (wpreS adK adV dC dI cy sz w0)) (va_Qi (P_X12_in_17 ad cy B qr s1 a0 w0) (fun u : va_W => wpost dC dI cy (va_A w0 sz) u) (va_A w0 sz)) 0 0 (va_A w0 sz) := by
  refine Met.ofW (cc := cX12_in) (maxL := 6) (ret := (some .boolean)) (by decide) rfl ?_
  intro p e s m args below meth c s₁ Bk hml hv
  obtain ⟨rfl, ⟨hsz, hP, hK, hD0⟩, hE, hSR⟩ := hv
  have hx := Bk.exec
  have hb := Bk.bytes
  have hr := Bk.returns
  have hlocks := Bk.notSynchronized
  have hC : CallFix p m c cX12_in 6 s _ (wu yX12_in cX12_in 6 (some .boolean)) RX12 := ⟨hx, hb, hml, findClass_of_methodNamed Bk.named, atoms_spec (ws := (wu yX12_in cX12_in 6 (some .boolean))) Bk.pre⟩
  subst hsz
  have hD := hD0.self (sz := s.heap.size)
  generalize hAe : va_A w0 s.heap.size = A at hD hE ⊢
  have hA : ∀ q : Nat, s.heap.size ≤ q → A q := fun q h => by rw [← hAe]; exact Or.inr h
  have hw : Wd dC dI A s.heap s.heap [] w0 := ⟨hP, hD, va_S.rf⟩
  have hF : FE ksM ([] : List (Nat × Nat × Nat)) w0 w0 := FE.rf
  have hl := lv_entry ([.long a0, .long 0, .long 120]) (n := 6) (Nat.le_of_ble_eq_true rfl)
  rw [lg_entry_eq]
  generalize (lg_sl ([.long a0, .long 0, .long 120]) ++ List.replicate (6 - (lg_sl ([.long a0, .long 0, .long 120])).length) Slot.unset).toArray = ls at hl ⊢
  have hl : lv_has ls 6 [(0, .long a0), (2, .long 0), (4, .long 120)] := hl
  generalize hloc : ([] : List Loc) = locs at hw ⊢
  have J17 : ∀ (H : Heap) (locs : List Loc) (ls : Array Slot), (-2147483648) ≤ a0.toInt → a0.toInt ≤ 2147483647 → Wd dC dI A s.heap H locs w0 → lv_has ls 6 [(0, .long a0), (2, .long 0), (4, .long 120)] → W p l e ({ frames := 1, cells := 0, slots := 0, locals := 12 }) s m (List.toArray [.long a0, .long 0, .long 120]) below meth c H locs 0 0 (MQ below (va_Qi (P_X12_in_17 ad cy B qr s1 a0 w0) (fun u : va_W => wpost dC dI cy A u) A) (List.toArray [.long a0, .long 0, .long 120]) s 0 0 A) (F0 m 17 ls []) := by
    intro H locs ls r1 t2 hw hl
    refine lv_iconst (v := 0) hx hb dX12_in_17 (by decide) ?_
    exact tk_zret hC hr rfl hlocks hK ⟨rfl, (Or.inl rfl)⟩ hw dX12_in_18
  refine lv_lload_n hx hb dX12_in_0 rfl (lv_at hl 0 rfl) ?_
  refine lv_lload_n hx hb dX12_in_1 rfl (lv_at hl 1 rfl) ?_
  refine W.lcmp hx hb dX12_in_2 ?_
  refine lv_if_lt (tgt := 17) hx hb dX12_in_3 (by decide) (fun c3 => ?_) (fun c3 => ?_)
  · have c3 : a0.toInt < (0 : Int) := wk_cltT c3
    exact J17  s.heap locs ls  (show (-2147483648) ≤ a0.toInt from ra0) (show a0.toInt ≤ 2147483647 from ta0)  hw   (lv_sub hl [0, 1, 2] rfl)
  · have c3 : (0 : Int) ≤ a0.toInt := wk_cltF c3
    refine lv_lload_n hx hb dX12_in_6 rfl (lv_at hl 0 rfl) ?_
    refine lv_lload hx hb dX12_in_7 (lv_at hl 2 rfl) ?_
    refine W.lcmp hx hb dX12_in_9 ?_
    refine lv_if_gt (tgt := 17) hx hb dX12_in_10 (by decide) (fun c4 => ?_) (fun c4 => ?_)
    · have c4 : (120 : Int) < a0.toInt := wk_cgtT c4
      exact J17  s.heap locs ls  (show (-2147483648) ≤ a0.toInt from ra0) (show a0.toInt ≤ 2147483647 from ta0)  hw   (lv_sub hl [0, 1, 2] rfl)
    · have c4 : a0.toInt ≤ (120 : Int) := wk_cgtF c4
      refine lv_iconst (v := 1) hx hb dX12_in_13 (by decide) ?_
      refine lv_goto (tgt := 18) hx hb dX12_in_14 (by decide) ?_
      exact tk_zret hC hr rfl hlocks hK ⟨rfl, (Or.inr ⟨rfl, (show 0 ≤ a0.toInt from c3), (show a0.toInt ≤ 120 from c4)⟩)⟩ hw dX12_in_18
abbrev P_X12_placeAt_3 (ad : Nat → Nat) (cy : Nat → ClassId) (B : Int) (qr : Nat) (s1 : Int) (a1 : Int32) (a2 : Int32) (w0 : va_W) : Int32 → va_W → Prop := fun r u => w0 = u ∧ ((0 ≤ r.toInt ∧ r.toInt ≤ 2418))
set_option maxHeartbeats 4000000 in
set_option maxRecDepth 100000 in
theorem k_X12_placeAt_3 (l : Launch) (adK adV : Nat → Nat) (dC : Nat → ClassId) (dI : Nat → Nat → Nat) (cy : Nat → ClassId) (ad : Nat → Nat) (B : Int) (hB0 : 100000 ≤ B) (hB1 : B ≤ 1073741824) (qr : Nat) (s1 : Int)  (a1 : Int32) (ra1 : 0 ≤ a1.toInt) (ta1 : a1.toInt ≤ 120) (a2 : Int32) (ra2 : 0 ≤ a2.toInt) (ta2 : a2.toInt ≤ 9) (w0 : va_W) (sz : Nat) (hT : TW ksM ad cy B qr 12 w0)  : Met l yX12_placeAt (wu yX12_placeAt cX12_placeAt 4 (some .int)) ({ frames := 1, cells := 0, slots := 0, locals := 12 }) (va_Pc [.ref (ad 0), .int a1, .int a2, .int 0] (wpreS adK adV dC dI cy sz w0)) (va_Qi (P_X12_placeAt_3 ad cy B qr s1 a1 a2 w0) (fun u : va_W => wpost dC dI cy (va_A w0 sz) u) (va_A w0 sz)) 0 0 (va_A w0 sz) := by
  refine Met.ofW (cc := cX12_placeAt) (maxL := 4) (ret := (some .int)) (by decide) rfl ?_
  intro p e s m args below meth c s₁ Bk hml hv
  obtain ⟨rfl, ⟨hsz, hP, hK, hD0⟩, hE, hSR⟩ := hv
  have hx := Bk.exec
  have hb := Bk.bytes
  have hr := Bk.returns
  have hlocks := Bk.notSynchronized
  have hC : CallFix p m c cX12_placeAt 4 s _ (wu yX12_placeAt cX12_placeAt 4 (some .int)) RX12 := ⟨hx, hb, hml, findClass_of_methodNamed Bk.named, atoms_spec (ws := (wu yX12_placeAt cX12_placeAt 4 (some .int))) Bk.pre⟩
  subst hsz
  have hD := hD0.self (sz := s.heap.size)
  generalize hAe : va_A w0 s.heap.size = A at hD hE ⊢
  have hA : ∀ q : Nat, s.heap.size ≤ q → A q := fun q h => by rw [← hAe]; exact Or.inr h
  have hw : Wd dC dI A s.heap s.heap [] w0 := ⟨hP, hD, va_S.rf⟩
  have hF : FE ksM ([] : List (Nat × Nat × Nat)) w0 w0 := FE.rf
  have hl := lv_entry ([.ref (ad 0), .int a1, .int a2, .int 0]) (n := 4) (Nat.le_of_ble_eq_true rfl)
  rw [lg_entry_eq]
  generalize (lg_sl ([.ref (ad 0), .int a1, .int a2, .int 0]) ++ List.replicate (4 - (lg_sl ([.ref (ad 0), .int a1, .int a2, .int 0])).length) Slot.unset).toArray = ls at hl ⊢
  have hl : lv_has ls 4 [(0, .ref (ad 0)), (1, .int a1), (2, .int a2), (3, .int 0)] := hl
  generalize hloc : ([] : List Loc) = locs at hw ⊢
  refine lv_iload_n hx hb dX12_placeAt_0 rfl (lv_at hl 1 rfl) ?_
  refine lv_bipush (v := 10) hx hb dX12_placeAt_1 (by decide) ?_
  refine lv_imul hx hb dX12_placeAt_3 ?_
  refine lv_topi (fun x1 ex1 => ?_)
  have ex1 : x1.toInt = a1.toInt * (10 : Int) := by rw [ex1]; exact wk_mul (show (-2147483648) ≤ a1.toInt * (10 : Int) by omega) (show a1.toInt * (10 : Int) ≤ 2147483647 by omega)
  refine lv_iload_n hx hb dX12_placeAt_4 rfl (lv_at hl 2 rfl) ?_
  refine lv_iadd hx hb dX12_placeAt_5 ?_
  refine lv_topi (fun x2 ex2 => ?_)
  have ex2 : x2.toInt = x1.toInt + a2.toInt := by rw [ex2]; exact wk_add (show (-2147483648) ≤ x1.toInt + a2.toInt by omega) (show x1.toInt + a2.toInt ≤ 2147483647 by omega)
  refine lv_iconst (v := 2) hx hb dX12_placeAt_6 (by decide) ?_
  refine lv_imul hx hb dX12_placeAt_7 ?_
  refine lv_topi (fun x3 ex3 => ?_)
  have ex3 : x3.toInt = x2.toInt * (2 : Int) := by rw [ex3]; exact wk_mul (show (-2147483648) ≤ x2.toInt * (2 : Int) by omega) (show x2.toInt * (2 : Int) ≤ 2147483647 by omega)
  refine lv_iload_n hx hb dX12_placeAt_8 rfl (lv_at hl 3 rfl) ?_
  refine lv_if_eq (tgt := 16) hx hb dX12_placeAt_9 (by decide) (fun _ => ?_) (fun c => absurd (by decide) c)
  refine lv_iconst (v := 0) hx hb dX12_placeAt_16 (by decide) ?_
  refine lv_iadd hx hb dX12_placeAt_17 ?_
  refine lv_topi (fun x4 ex4 => ?_)
  have ex4 : x4.toInt = x3.toInt + (0 : Int) := by rw [ex4]; exact wk_add (show (-2147483648) ≤ x3.toInt + (0 : Int) by omega) (show x3.toInt + (0 : Int) ≤ 2147483647 by omega)
  exact tk_iret hC hr hlocks hK ⟨rfl, ⟨(show 0 ≤ x4.toInt by omega), (show x4.toInt ≤ 2418 by omega)⟩⟩ hw dX12_placeAt_18
abbrev P_X12_could_3 (ad : Nat → Nat) (cy : Nat → ClassId) (B : Int) (qr : Nat) (s1 : Int) (a1 : Int32) (a2 : Int32) (a4 : Int32) (w0 : va_W) : va_W → Prop := fun u => TW ksM ad cy B qr 12 u ∧ FE ksM [(76, 0, 2600)] w0 u ∧ ((True))
set_option maxHeartbeats 4000000 in
set_option maxRecDepth 100000 in
theorem k_X12_could_3 (l : Launch) (adK adV : Nat → Nat) (dC : Nat → ClassId) (dI : Nat → Nat → Nat) (cy : Nat → ClassId) (ad : Nat → Nat) (B : Int) (hB0 : 100000 ≤ B) (hB1 : B ≤ 1073741824) (qr : Nat) (s1 : Int)  (a1 : Int32) (ra1 : 0 ≤ a1.toInt) (ta1 : a1.toInt ≤ 120) (a2 : Int32) (ra2 : 0 ≤ a2.toInt) (ta2 : a2.toInt ≤ 9) (a4 : Int32) (w0 : va_W) (sz : Nat) (hT : TW ksM ad cy B qr 12 w0)  : Met l yX12_could (wu yX12_could cX12_could 6 none) ({ frames := 2, cells := 0, slots := 0, locals := 35 }) (va_Pc [.ref (ad 0), .int a1, .int a2, .int 0, .int a4] (wpreS adK adV dC dI cy sz w0)) (va_Qv (P_X12_could_3 ad cy B qr s1 a1 a2 a4 w0) (fun u : va_W => wpost dC dI cy (va_A w0 sz) u) (va_A w0 sz)) 0 0 (va_A w0 sz) := by
  refine Met.ofW (cc := cX12_could) (maxL := 6) (ret := none) (by decide) rfl ?_
  intro p e s m args below meth c s₁ Bk hml hv
  obtain ⟨rfl, ⟨hsz, hP, hK, hD0⟩, hE, hSR⟩ := hv
  have hx := Bk.exec
  have hb := Bk.bytes
  have hr := Bk.returns
  have hlocks := Bk.notSynchronized
  have hC : CallFix p m c cX12_could 6 s _ (wu yX12_could cX12_could 6 none) RX12 := ⟨hx, hb, hml, findClass_of_methodNamed Bk.named, atoms_spec (ws := (wu yX12_could cX12_could 6 none)) Bk.pre⟩
  subst hsz
  have hD := hD0.self (sz := s.heap.size)
  generalize hAe : va_A w0 s.heap.size = A at hD hE ⊢
  have hA : ∀ q : Nat, s.heap.size ≤ q → A q := fun q h => by rw [← hAe]; exact Or.inr h
  have hw : Wd dC dI A s.heap s.heap [] w0 := ⟨hP, hD, va_S.rf⟩
  have hF : FE ksM [(76, 0, 2600)] w0 w0 := FE.rf
  have hl := lv_entry ([.ref (ad 0), .int a1, .int a2, .int 0, .int a4]) (n := 6) (Nat.le_of_ble_eq_true rfl)
  rw [lg_entry_eq]
  generalize (lg_sl ([.ref (ad 0), .int a1, .int a2, .int 0, .int a4]) ++ List.replicate (6 - (lg_sl ([.ref (ad 0), .int a1, .int a2, .int 0, .int a4])).length) Slot.unset).toArray = ls at hl ⊢
  have hl : lv_has ls 6 [(0, .ref (ad 0)), (1, .int a1), (2, .int a2), (3, .int 0), (4, .int a4)] := hl
  generalize hloc : ([] : List Loc) = locs at hw ⊢
  have hinX12 : ∀ w ∈ u_ws RX12 TX12 42, w ∈ (wu yX12_could cX12_could 6 none) := fun _ h => List.mem_cons_of_mem _ (up_71 h)
  have J30 : ∀ (v30_5 : Int32) (H : Heap) (locs : List Loc) (ls : Array Slot) (w1 : va_W), 0 ≤ a1.toInt → a1.toInt ≤ 120 → 0 ≤ a2.toInt → a2.toInt ≤ 9 → 0 ≤ v30_5.toInt → v30_5.toInt ≤ 2418 → Wd dC dI A s.heap H locs w1 → TW ksM ad cy B qr 12 w1 → FE ksM [(76, 0, 2600)] w0 w1 → lv_has ls 6 [(0, .ref (ad 0)), (1, .int a1), (2, .int a2), (3, .int 0), (4, .int a4), (5, .int v30_5)] → W p l e ({ frames := 2, cells := 0, slots := 0, locals := 35 }) s m (List.toArray [.ref (ad 0), .int a1, .int a2, .int 0, .int a4]) below meth c H locs 0 0 (MQ below (va_Qv (P_X12_could_3 ad cy B qr s1 a1 a2 a4 w0) (fun u : va_W => wpost dC dI cy A u) A) (List.toArray [.ref (ad 0), .int a1, .int a2, .int 0, .int a4]) s 0 0 A) (F0 m 30 ls []) := by
    intro v30_5 H locs ls w1 r2 t3 r4 t5 r6 t7 hw hT hF hl
    exact tk_vret hC hr hlocks hK ⟨hT, hF, trivial⟩ hw dX12_could_30
  refine lv_aload_n hx hb dX12_could_0 rfl (lv_at hl 0 rfl) ?_
  refine lv_iload_n hx hb dX12_could_1 rfl (lv_at hl 1 rfl) ?_
  refine lv_iload_n hx hb dX12_could_2 rfl (lv_at hl 2 rfl) ?_
  refine lv_iload_n hx hb dX12_could_3 rfl (lv_at hl 3 rfl) ?_
  refine tk_Vi hC hK hw hT hA hE hSR kM_at0 (by decide) rfl (k_X12_placeAt_3 l adK adV dC dI cy ad B (by omega) (by omega) qr s1   a1 (show 0 ≤ a1.toInt from ra1) (show a1.toInt ≤ 120 from ta1) a2 (show 0 ≤ a2.toInt from ra2) (show a2.toInt ≤ 9 from ta2) w0 s.heap.size hT ) (cwV 3 hC.2.2.2.2 uV_RX12_435 rfl rfl rfl (by decide +kernel) ⟨Nat.le_of_ble_eq_true rfl, Nat.le_of_ble_eq_true rfl⟩) rfl hl.1 rfl (Nat.le_of_ble_eq_true rfl) dX12_could_4 (fun r8 w10 H locs hp9 hw => ?_)
  obtain ⟨rfl, hg14⟩ := hp9
  obtain ⟨g12, g13⟩ := hg14
  refine lv_istore (lv' := [(5, .int r8), (0, .ref (ad 0)), (1, .int a1), (2, .int a2), (3, .int 0), (4, .int a4)]) hx hb dX12_could_7 hl (by decide) rfl (fun ls hl => ?_)
  refine lv_iload hx hb dX12_could_9 (lv_at hl 5 rfl) ?_
  refine lv_aload_n hx hb dX12_could_11 rfl (lv_at hl 1 rfl) ?_
  refine tk_getA hC hK hw hT hinX12 kM_at0 (by decide) rfl 34 (by decide) (List.mem_cons_of_mem _ uw_7_7) rfl rfl dX12_could_12 ?_
  refine lv_iload hx hb dX12_could_15 (lv_at hl 0 rfl) ?_
  refine tk_iald hC hK hw hT kM_at17 rfl rfl (show 0 ≤ r8.toInt by omega) (show r8.toInt < 2600 by omega) dX12_could_17 (fun x15 c16 rx15 tx15 => ?_)
  refine lv_icmp_ge (tgt := 30) hx hb dX12_could_18 (by decide) (fun c17 => ?_) (fun c17 => ?_)
  · have c17 : x15.toInt ≤ a4.toInt := wk_le.mp c17
    exact J30 r8 H locs ls w0 (show 0 ≤ a1.toInt from ra1) (show a1.toInt ≤ 120 from ta1) (show 0 ≤ a2.toInt from ra2) (show a2.toInt ≤ 9 from ta2) (show 0 ≤ r8.toInt by omega) (show r8.toInt ≤ 2418 by omega)  hw hT hF  (lv_sub hl [1, 2, 3, 4, 5, 0] rfl)
  · have c17 : a4.toInt < x15.toInt := wk_leF c17
    refine lv_aload_n hx hb dX12_could_21 rfl (lv_at hl 1 rfl) ?_
    refine tk_getA hC hK hw hT hinX12 kM_at0 (by decide) rfl 34 (by decide) (List.mem_cons_of_mem _ uw_7_7) rfl rfl dX12_could_22 ?_
    refine lv_iload hx hb dX12_could_25 (lv_at hl 0 rfl) ?_
    refine lv_iload hx hb dX12_could_27 (lv_at hl 5 rfl) ?_
    refine tk_iast hC hK hw hT kM_at17 (by decide) rfl rfl (show 0 ≤ r8.toInt by omega) (show r8.toInt < 2600 by omega) (wk_i32 a4).1 (wk_i32 a4).2 dX12_could_29 (fun H locs w18 hw hT k20 c19 => ?_)
    have hF := hF.put kM_at17 (inE_of (a := 0) (b := 2600) (by decide) (show 0 ≤ r8.toInt.toNat by omega) (show r8.toInt.toNat ≤ 2600 by omega)) k20
    exact J30 r8 H locs ls w18 (show 0 ≤ a1.toInt from ra1) (show a1.toInt ≤ 120 from ta1) (show 0 ≤ a2.toInt from ra2) (show a2.toInt ≤ 9 from ta2) (show 0 ≤ r8.toInt by omega) (show r8.toInt ≤ 2418 by omega)  hw hT hF  (lv_sub hl [1, 2, 3, 4, 5, 0] rfl)
abbrev P_X12_placeAt_4 (ad : Nat → Nat) (cy : Nat → ClassId) (B : Int) (qr : Nat) (s1 : Int) (a1 : Int32) (a2 : Int32) (w0 : va_W) : Int32 → va_W → Prop := fun r u => w0 = u ∧ ((20 ≤ r.toInt ∧ r.toInt ≤ 2438))
set_option maxHeartbeats 4000000 in
set_option maxRecDepth 100000 in
theorem k_X12_placeAt_4 (l : Launch) (adK adV : Nat → Nat) (dC : Nat → ClassId) (dI : Nat → Nat → Nat) (cy : Nat → ClassId) (ad : Nat → Nat) (B : Int) (hB0 : 100000 ≤ B) (hB1 : B ≤ 1073741824) (qr : Nat) (s1 : Int)  (a1 : Int32) (ra1 : 1 ≤ a1.toInt) (ta1 : a1.toInt ≤ 121) (a2 : Int32) (ra2 : 0 ≤ a2.toInt) (ta2 : a2.toInt ≤ 9) (w0 : va_W) (sz : Nat) (hT : TW ksM ad cy B qr 12 w0)  : Met l yX12_placeAt (wu yX12_placeAt cX12_placeAt 4 (some .int)) ({ frames := 1, cells := 0, slots := 0, locals := 12 }) (va_Pc [.ref (ad 0), .int a1, .int a2, .int 0] (wpreS adK adV dC dI cy sz w0)) (va_Qi (P_X12_placeAt_4 ad cy B qr s1 a1 a2 w0) (fun u : va_W => wpost dC dI cy (va_A w0 sz) u) (va_A w0 sz)) 0 0 (va_A w0 sz) := by
  refine Met.ofW (cc := cX12_placeAt) (maxL := 4) (ret := (some .int)) (by decide) rfl ?_
  intro p e s m args below meth c s₁ Bk hml hv
  obtain ⟨rfl, ⟨hsz, hP, hK, hD0⟩, hE, hSR⟩ := hv
  have hx := Bk.exec
  have hb := Bk.bytes
  have hr := Bk.returns
  have hlocks := Bk.notSynchronized
  have hC : CallFix p m c cX12_placeAt 4 s _ (wu yX12_placeAt cX12_placeAt 4 (some .int)) RX12 := ⟨hx, hb, hml, findClass_of_methodNamed Bk.named, atoms_spec (ws := (wu yX12_placeAt cX12_placeAt 4 (some .int))) Bk.pre⟩
  subst hsz
  have hD := hD0.self (sz := s.heap.size)
  generalize hAe : va_A w0 s.heap.size = A at hD hE ⊢
  have hA : ∀ q : Nat, s.heap.size ≤ q → A q := fun q h => by rw [← hAe]; exact Or.inr h
  have hw : Wd dC dI A s.heap s.heap [] w0 := ⟨hP, hD, va_S.rf⟩
  have hF : FE ksM ([] : List (Nat × Nat × Nat)) w0 w0 := FE.rf
  have hl := lv_entry ([.ref (ad 0), .int a1, .int a2, .int 0]) (n := 4) (Nat.le_of_ble_eq_true rfl)
  rw [lg_entry_eq]
  generalize (lg_sl ([.ref (ad 0), .int a1, .int a2, .int 0]) ++ List.replicate (4 - (lg_sl ([.ref (ad 0), .int a1, .int a2, .int 0])).length) Slot.unset).toArray = ls at hl ⊢
  have hl : lv_has ls 4 [(0, .ref (ad 0)), (1, .int a1), (2, .int a2), (3, .int 0)] := hl
  generalize hloc : ([] : List Loc) = locs at hw ⊢
  refine lv_iload_n hx hb dX12_placeAt_0 rfl (lv_at hl 1 rfl) ?_
  refine lv_bipush (v := 10) hx hb dX12_placeAt_1 (by decide) ?_
  refine lv_imul hx hb dX12_placeAt_3 ?_
  refine lv_topi (fun x1 ex1 => ?_)
  have ex1 : x1.toInt = a1.toInt * (10 : Int) := by rw [ex1]; exact wk_mul (show (-2147483648) ≤ a1.toInt * (10 : Int) by omega) (show a1.toInt * (10 : Int) ≤ 2147483647 by omega)
  refine lv_iload_n hx hb dX12_placeAt_4 rfl (lv_at hl 2 rfl) ?_
  refine lv_iadd hx hb dX12_placeAt_5 ?_
  refine lv_topi (fun x2 ex2 => ?_)
  have ex2 : x2.toInt = x1.toInt + a2.toInt := by rw [ex2]; exact wk_add (show (-2147483648) ≤ x1.toInt + a2.toInt by omega) (show x1.toInt + a2.toInt ≤ 2147483647 by omega)
  refine lv_iconst (v := 2) hx hb dX12_placeAt_6 (by decide) ?_
  refine lv_imul hx hb dX12_placeAt_7 ?_
  refine lv_topi (fun x3 ex3 => ?_)
  have ex3 : x3.toInt = x2.toInt * (2 : Int) := by rw [ex3]; exact wk_mul (show (-2147483648) ≤ x2.toInt * (2 : Int) by omega) (show x2.toInt * (2 : Int) ≤ 2147483647 by omega)
  refine lv_iload_n hx hb dX12_placeAt_8 rfl (lv_at hl 3 rfl) ?_
  refine lv_if_eq (tgt := 16) hx hb dX12_placeAt_9 (by decide) (fun _ => ?_) (fun c => absurd (by decide) c)
  refine lv_iconst (v := 0) hx hb dX12_placeAt_16 (by decide) ?_
  refine lv_iadd hx hb dX12_placeAt_17 ?_
  refine lv_topi (fun x4 ex4 => ?_)
  have ex4 : x4.toInt = x3.toInt + (0 : Int) := by rw [ex4]; exact wk_add (show (-2147483648) ≤ x3.toInt + (0 : Int) by omega) (show x3.toInt + (0 : Int) ≤ 2147483647 by omega)
  exact tk_iret hC hr hlocks hK ⟨rfl, ⟨(show 20 ≤ x4.toInt by omega), (show x4.toInt ≤ 2438 by omega)⟩⟩ hw dX12_placeAt_18
abbrev P_X12_could_4 (ad : Nat → Nat) (cy : Nat → ClassId) (B : Int) (qr : Nat) (s1 : Int) (a1 : Int32) (a2 : Int32) (a4 : Int32) (w0 : va_W) : va_W → Prop := fun u => TW ksM ad cy B qr 12 u ∧ FE ksM [(76, 0, 2600)] w0 u ∧ ((True))
set_option maxHeartbeats 4000000 in
set_option maxRecDepth 100000 in
theorem k_X12_could_4 (l : Launch) (adK adV : Nat → Nat) (dC : Nat → ClassId) (dI : Nat → Nat → Nat) (cy : Nat → ClassId) (ad : Nat → Nat) (B : Int) (hB0 : 100000 ≤ B) (hB1 : B ≤ 1073741824) (qr : Nat) (s1 : Int)  (a1 : Int32) (ra1 : 1 ≤ a1.toInt) (ta1 : a1.toInt ≤ 121) (a2 : Int32) (ra2 : 0 ≤ a2.toInt) (ta2 : a2.toInt ≤ 9) (a4 : Int32) (w0 : va_W) (sz : Nat) (hT : TW ksM ad cy B qr 12 w0)  : Met l yX12_could (wu yX12_could cX12_could 6 none) ({ frames := 2, cells := 0, slots := 0, locals := 35 }) (va_Pc [.ref (ad 0), .int a1, .int a2, .int 0, .int a4] (wpreS adK adV dC dI cy sz w0)) (va_Qv (P_X12_could_4 ad cy B qr s1 a1 a2 a4 w0) (fun u : va_W => wpost dC dI cy (va_A w0 sz) u) (va_A w0 sz)) 0 0 (va_A w0 sz) := by
  refine Met.ofW (cc := cX12_could) (maxL := 6) (ret := none) (by decide) rfl ?_
  intro p e s m args below meth c s₁ Bk hml hv
  obtain ⟨rfl, ⟨hsz, hP, hK, hD0⟩, hE, hSR⟩ := hv
  have hx := Bk.exec
  have hb := Bk.bytes
  have hr := Bk.returns
  have hlocks := Bk.notSynchronized
  have hC : CallFix p m c cX12_could 6 s _ (wu yX12_could cX12_could 6 none) RX12 := ⟨hx, hb, hml, findClass_of_methodNamed Bk.named, atoms_spec (ws := (wu yX12_could cX12_could 6 none)) Bk.pre⟩
  subst hsz
  have hD := hD0.self (sz := s.heap.size)
  generalize hAe : va_A w0 s.heap.size = A at hD hE ⊢
  have hA : ∀ q : Nat, s.heap.size ≤ q → A q := fun q h => by rw [← hAe]; exact Or.inr h
  have hw : Wd dC dI A s.heap s.heap [] w0 := ⟨hP, hD, va_S.rf⟩
  have hF : FE ksM [(76, 0, 2600)] w0 w0 := FE.rf
  have hl := lv_entry ([.ref (ad 0), .int a1, .int a2, .int 0, .int a4]) (n := 6) (Nat.le_of_ble_eq_true rfl)
  rw [lg_entry_eq]
  generalize (lg_sl ([.ref (ad 0), .int a1, .int a2, .int 0, .int a4]) ++ List.replicate (6 - (lg_sl ([.ref (ad 0), .int a1, .int a2, .int 0, .int a4])).length) Slot.unset).toArray = ls at hl ⊢
  have hl : lv_has ls 6 [(0, .ref (ad 0)), (1, .int a1), (2, .int a2), (3, .int 0), (4, .int a4)] := hl
  generalize hloc : ([] : List Loc) = locs at hw ⊢
  have hinX12 : ∀ w ∈ u_ws RX12 TX12 42, w ∈ (wu yX12_could cX12_could 6 none) := fun _ h => List.mem_cons_of_mem _ (up_71 h)
  have J30 : ∀ (v30_5 : Int32) (H : Heap) (locs : List Loc) (ls : Array Slot) (w1 : va_W), 1 ≤ a1.toInt → a1.toInt ≤ 121 → 0 ≤ a2.toInt → a2.toInt ≤ 9 → 20 ≤ v30_5.toInt → v30_5.toInt ≤ 2438 → Wd dC dI A s.heap H locs w1 → TW ksM ad cy B qr 12 w1 → FE ksM [(76, 0, 2600)] w0 w1 → lv_has ls 6 [(0, .ref (ad 0)), (1, .int a1), (2, .int a2), (3, .int 0), (4, .int a4), (5, .int v30_5)] → W p l e ({ frames := 2, cells := 0, slots := 0, locals := 35 }) s m (List.toArray [.ref (ad 0), .int a1, .int a2, .int 0, .int a4]) below meth c H locs 0 0 (MQ below (va_Qv (P_X12_could_4 ad cy B qr s1 a1 a2 a4 w0) (fun u : va_W => wpost dC dI cy A u) A) (List.toArray [.ref (ad 0), .int a1, .int a2, .int 0, .int a4]) s 0 0 A) (F0 m 30 ls []) := by
    intro v30_5 H locs ls w1 r2 t3 r4 t5 r6 t7 hw hT hF hl
    exact tk_vret hC hr hlocks hK ⟨hT, hF, trivial⟩ hw dX12_could_30
  refine lv_aload_n hx hb dX12_could_0 rfl (lv_at hl 0 rfl) ?_
  refine lv_iload_n hx hb dX12_could_1 rfl (lv_at hl 1 rfl) ?_
  refine lv_iload_n hx hb dX12_could_2 rfl (lv_at hl 2 rfl) ?_
  refine lv_iload_n hx hb dX12_could_3 rfl (lv_at hl 3 rfl) ?_
  refine tk_Vi hC hK hw hT hA hE hSR kM_at0 (by decide) rfl (k_X12_placeAt_4 l adK adV dC dI cy ad B (by omega) (by omega) qr s1   a1 (show 1 ≤ a1.toInt from ra1) (show a1.toInt ≤ 121 from ta1) a2 (show 0 ≤ a2.toInt from ra2) (show a2.toInt ≤ 9 from ta2) w0 s.heap.size hT ) (cwV 3 hC.2.2.2.2 uV_RX12_435 rfl rfl rfl (by decide +kernel) ⟨Nat.le_of_ble_eq_true rfl, Nat.le_of_ble_eq_true rfl⟩) rfl hl.1 rfl (Nat.le_of_ble_eq_true rfl) dX12_could_4 (fun r8 w10 H locs hp9 hw => ?_)
  obtain ⟨rfl, hg14⟩ := hp9
  obtain ⟨g12, g13⟩ := hg14
  refine lv_istore (lv' := [(5, .int r8), (0, .ref (ad 0)), (1, .int a1), (2, .int a2), (3, .int 0), (4, .int a4)]) hx hb dX12_could_7 hl (by decide) rfl (fun ls hl => ?_)
  refine lv_iload hx hb dX12_could_9 (lv_at hl 5 rfl) ?_
  refine lv_aload_n hx hb dX12_could_11 rfl (lv_at hl 1 rfl) ?_
  refine tk_getA hC hK hw hT hinX12 kM_at0 (by decide) rfl 34 (by decide) (List.mem_cons_of_mem _ uw_7_7) rfl rfl dX12_could_12 ?_
  refine lv_iload hx hb dX12_could_15 (lv_at hl 0 rfl) ?_
  refine tk_iald hC hK hw hT kM_at17 rfl rfl (show 0 ≤ r8.toInt by omega) (show r8.toInt < 2600 by omega) dX12_could_17 (fun x15 c16 rx15 tx15 => ?_)
  refine lv_icmp_ge (tgt := 30) hx hb dX12_could_18 (by decide) (fun c17 => ?_) (fun c17 => ?_)
  · have c17 : x15.toInt ≤ a4.toInt := wk_le.mp c17
    exact J30 r8 H locs ls w0 (show 1 ≤ a1.toInt from ra1) (show a1.toInt ≤ 121 from ta1) (show 0 ≤ a2.toInt from ra2) (show a2.toInt ≤ 9 from ta2) (show 20 ≤ r8.toInt by omega) (show r8.toInt ≤ 2438 by omega)  hw hT hF  (lv_sub hl [1, 2, 3, 4, 5, 0] rfl)
  · have c17 : a4.toInt < x15.toInt := wk_leF c17
    refine lv_aload_n hx hb dX12_could_21 rfl (lv_at hl 1 rfl) ?_
    refine tk_getA hC hK hw hT hinX12 kM_at0 (by decide) rfl 34 (by decide) (List.mem_cons_of_mem _ uw_7_7) rfl rfl dX12_could_22 ?_
    refine lv_iload hx hb dX12_could_25 (lv_at hl 0 rfl) ?_
    refine lv_iload hx hb dX12_could_27 (lv_at hl 5 rfl) ?_
    refine tk_iast hC hK hw hT kM_at17 (by decide) rfl rfl (show 0 ≤ r8.toInt by omega) (show r8.toInt < 2600 by omega) (wk_i32 a4).1 (wk_i32 a4).2 dX12_could_29 (fun H locs w18 hw hT k20 c19 => ?_)
    have hF := hF.put kM_at17 (inE_of (a := 0) (b := 2600) (by decide) (show 0 ≤ r8.toInt.toNat by omega) (show r8.toInt.toNat ≤ 2600 by omega)) k20
    exact J30 r8 H locs ls w18 (show 1 ≤ a1.toInt from ra1) (show a1.toInt ≤ 121 from ta1) (show 0 ≤ a2.toInt from ra2) (show a2.toInt ≤ 9 from ta2) (show 20 ≤ r8.toInt by omega) (show r8.toInt ≤ 2438 by omega)  hw hT hF  (lv_sub hl [1, 2, 3, 4, 5, 0] rfl)
abbrev P_X12_placeAt_5 (ad : Nat → Nat) (cy : Nat → ClassId) (B : Int) (qr : Nat) (s1 : Int) (a1 : Int32) (a2 : Int32) (w0 : va_W) : Int32 → va_W → Prop := fun r u => w0 = u ∧ ((21 ≤ r.toInt ∧ r.toInt ≤ 2439))
set_option maxHeartbeats 4000000 in
set_option maxRecDepth 100000 in
theorem k_X12_placeAt_5 (l : Launch) (adK adV : Nat → Nat) (dC : Nat → ClassId) (dI : Nat → Nat → Nat) (cy : Nat → ClassId) (ad : Nat → Nat) (B : Int) (hB0 : 100000 ≤ B) (hB1 : B ≤ 1073741824) (qr : Nat) (s1 : Int)  (a1 : Int32) (ra1 : 1 ≤ a1.toInt) (ta1 : a1.toInt ≤ 121) (a2 : Int32) (ra2 : 0 ≤ a2.toInt) (ta2 : a2.toInt ≤ 9) (w0 : va_W) (sz : Nat) (hT : TW ksM ad cy B qr 12 w0)  : Met l yX12_placeAt (wu yX12_placeAt cX12_placeAt 4 (some .int)) ({ frames := 1, cells := 0, slots := 0, locals := 12 }) (va_Pc [.ref (ad 0), .int a1, .int a2, .int 1] (wpreS adK adV dC dI cy sz w0)) (va_Qi (P_X12_placeAt_5 ad cy B qr s1 a1 a2 w0) (fun u : va_W => wpost dC dI cy (va_A w0 sz) u) (va_A w0 sz)) 0 0 (va_A w0 sz) := by
  refine Met.ofW (cc := cX12_placeAt) (maxL := 4) (ret := (some .int)) (by decide) rfl ?_
  intro p e s m args below meth c s₁ Bk hml hv
  obtain ⟨rfl, ⟨hsz, hP, hK, hD0⟩, hE, hSR⟩ := hv
  have hx := Bk.exec
  have hb := Bk.bytes
  have hr := Bk.returns
  have hlocks := Bk.notSynchronized
  have hC : CallFix p m c cX12_placeAt 4 s _ (wu yX12_placeAt cX12_placeAt 4 (some .int)) RX12 := ⟨hx, hb, hml, findClass_of_methodNamed Bk.named, atoms_spec (ws := (wu yX12_placeAt cX12_placeAt 4 (some .int))) Bk.pre⟩
  subst hsz
  have hD := hD0.self (sz := s.heap.size)
  generalize hAe : va_A w0 s.heap.size = A at hD hE ⊢
  have hA : ∀ q : Nat, s.heap.size ≤ q → A q := fun q h => by rw [← hAe]; exact Or.inr h
  have hw : Wd dC dI A s.heap s.heap [] w0 := ⟨hP, hD, va_S.rf⟩
  have hF : FE ksM ([] : List (Nat × Nat × Nat)) w0 w0 := FE.rf
  have hl := lv_entry ([.ref (ad 0), .int a1, .int a2, .int 1]) (n := 4) (Nat.le_of_ble_eq_true rfl)
  rw [lg_entry_eq]
  generalize (lg_sl ([.ref (ad 0), .int a1, .int a2, .int 1]) ++ List.replicate (4 - (lg_sl ([.ref (ad 0), .int a1, .int a2, .int 1])).length) Slot.unset).toArray = ls at hl ⊢
  have hl : lv_has ls 4 [(0, .ref (ad 0)), (1, .int a1), (2, .int a2), (3, .int 1)] := hl
  generalize hloc : ([] : List Loc) = locs at hw ⊢
  refine lv_iload_n hx hb dX12_placeAt_0 rfl (lv_at hl 1 rfl) ?_
  refine lv_bipush (v := 10) hx hb dX12_placeAt_1 (by decide) ?_
  refine lv_imul hx hb dX12_placeAt_3 ?_
  refine lv_topi (fun x1 ex1 => ?_)
  have ex1 : x1.toInt = a1.toInt * (10 : Int) := by rw [ex1]; exact wk_mul (show (-2147483648) ≤ a1.toInt * (10 : Int) by omega) (show a1.toInt * (10 : Int) ≤ 2147483647 by omega)
  refine lv_iload_n hx hb dX12_placeAt_4 rfl (lv_at hl 2 rfl) ?_
  refine lv_iadd hx hb dX12_placeAt_5 ?_
  refine lv_topi (fun x2 ex2 => ?_)
  have ex2 : x2.toInt = x1.toInt + a2.toInt := by rw [ex2]; exact wk_add (show (-2147483648) ≤ x1.toInt + a2.toInt by omega) (show x1.toInt + a2.toInt ≤ 2147483647 by omega)
  refine lv_iconst (v := 2) hx hb dX12_placeAt_6 (by decide) ?_
  refine lv_imul hx hb dX12_placeAt_7 ?_
  refine lv_topi (fun x3 ex3 => ?_)
  have ex3 : x3.toInt = x2.toInt * (2 : Int) := by rw [ex3]; exact wk_mul (show (-2147483648) ≤ x2.toInt * (2 : Int) by omega) (show x2.toInt * (2 : Int) ≤ 2147483647 by omega)
  refine lv_iload_n hx hb dX12_placeAt_8 rfl (lv_at hl 3 rfl) ?_
  refine lv_if_eq (tgt := 16) hx hb dX12_placeAt_9 (by decide) (fun c => absurd c (by decide)) (fun _ => ?_)
  refine lv_iconst (v := 1) hx hb dX12_placeAt_12 (by decide) ?_
  refine lv_goto (tgt := 17) hx hb dX12_placeAt_13 (by decide) ?_
  refine lv_iadd hx hb dX12_placeAt_17 ?_
  refine lv_topi (fun x4 ex4 => ?_)
  have ex4 : x4.toInt = x3.toInt + (1 : Int) := by rw [ex4]; exact wk_add (show (-2147483648) ≤ x3.toInt + (1 : Int) by omega) (show x3.toInt + (1 : Int) ≤ 2147483647 by omega)
  exact tk_iret hC hr hlocks hK ⟨rfl, ⟨(show 21 ≤ x4.toInt by omega), (show x4.toInt ≤ 2439 by omega)⟩⟩ hw dX12_placeAt_18
abbrev P_X12_could_5 (ad : Nat → Nat) (cy : Nat → ClassId) (B : Int) (qr : Nat) (s1 : Int) (a1 : Int32) (a2 : Int32) (a4 : Int32) (w0 : va_W) : va_W → Prop := fun u => TW ksM ad cy B qr 12 u ∧ FE ksM [(76, 0, 2600)] w0 u ∧ ((True))
set_option maxHeartbeats 4000000 in
set_option maxRecDepth 100000 in
theorem k_X12_could_5 (l : Launch) (adK adV : Nat → Nat) (dC : Nat → ClassId) (dI : Nat → Nat → Nat) (cy : Nat → ClassId) (ad : Nat → Nat) (B : Int) (hB0 : 100000 ≤ B) (hB1 : B ≤ 1073741824) (qr : Nat) (s1 : Int)  (a1 : Int32) (ra1 : 1 ≤ a1.toInt) (ta1 : a1.toInt ≤ 121) (a2 : Int32) (ra2 : 0 ≤ a2.toInt) (ta2 : a2.toInt ≤ 9) (a4 : Int32) (w0 : va_W) (sz : Nat) (hT : TW ksM ad cy B qr 12 w0)  : Met l yX12_could (wu yX12_could cX12_could 6 none) ({ frames := 2, cells := 0, slots := 0, locals := 35 }) (va_Pc [.ref (ad 0), .int a1, .int a2, .int 1, .int a4] (wpreS adK adV dC dI cy sz w0)) (va_Qv (P_X12_could_5 ad cy B qr s1 a1 a2 a4 w0) (fun u : va_W => wpost dC dI cy (va_A w0 sz) u) (va_A w0 sz)) 0 0 (va_A w0 sz) := by
  refine Met.ofW (cc := cX12_could) (maxL := 6) (ret := none) (by decide) rfl ?_
  intro p e s m args below meth c s₁ Bk hml hv
  obtain ⟨rfl, ⟨hsz, hP, hK, hD0⟩, hE, hSR⟩ := hv
  have hx := Bk.exec
  have hb := Bk.bytes
  have hr := Bk.returns
  have hlocks := Bk.notSynchronized
  have hC : CallFix p m c cX12_could 6 s _ (wu yX12_could cX12_could 6 none) RX12 := ⟨hx, hb, hml, findClass_of_methodNamed Bk.named, atoms_spec (ws := (wu yX12_could cX12_could 6 none)) Bk.pre⟩
  subst hsz
  have hD := hD0.self (sz := s.heap.size)
  generalize hAe : va_A w0 s.heap.size = A at hD hE ⊢
  have hA : ∀ q : Nat, s.heap.size ≤ q → A q := fun q h => by rw [← hAe]; exact Or.inr h
  have hw : Wd dC dI A s.heap s.heap [] w0 := ⟨hP, hD, va_S.rf⟩
  have hF : FE ksM [(76, 0, 2600)] w0 w0 := FE.rf
  have hl := lv_entry ([.ref (ad 0), .int a1, .int a2, .int 1, .int a4]) (n := 6) (Nat.le_of_ble_eq_true rfl)
  rw [lg_entry_eq]
  generalize (lg_sl ([.ref (ad 0), .int a1, .int a2, .int 1, .int a4]) ++ List.replicate (6 - (lg_sl ([.ref (ad 0), .int a1, .int a2, .int 1, .int a4])).length) Slot.unset).toArray = ls at hl ⊢
  have hl : lv_has ls 6 [(0, .ref (ad 0)), (1, .int a1), (2, .int a2), (3, .int 1), (4, .int a4)] := hl
  generalize hloc : ([] : List Loc) = locs at hw ⊢
  have hinX12 : ∀ w ∈ u_ws RX12 TX12 42, w ∈ (wu yX12_could cX12_could 6 none) := fun _ h => List.mem_cons_of_mem _ (up_71 h)
  have J30 : ∀ (v30_5 : Int32) (H : Heap) (locs : List Loc) (ls : Array Slot) (w1 : va_W), 1 ≤ a1.toInt → a1.toInt ≤ 121 → 0 ≤ a2.toInt → a2.toInt ≤ 9 → 21 ≤ v30_5.toInt → v30_5.toInt ≤ 2439 → Wd dC dI A s.heap H locs w1 → TW ksM ad cy B qr 12 w1 → FE ksM [(76, 0, 2600)] w0 w1 → lv_has ls 6 [(0, .ref (ad 0)), (1, .int a1), (2, .int a2), (3, .int 1), (4, .int a4), (5, .int v30_5)] → W p l e ({ frames := 2, cells := 0, slots := 0, locals := 35 }) s m (List.toArray [.ref (ad 0), .int a1, .int a2, .int 1, .int a4]) below meth c H locs 0 0 (MQ below (va_Qv (P_X12_could_5 ad cy B qr s1 a1 a2 a4 w0) (fun u : va_W => wpost dC dI cy A u) A) (List.toArray [.ref (ad 0), .int a1, .int a2, .int 1, .int a4]) s 0 0 A) (F0 m 30 ls []) := by
    intro v30_5 H locs ls w1 r2 t3 r4 t5 r6 t7 hw hT hF hl
    exact tk_vret hC hr hlocks hK ⟨hT, hF, trivial⟩ hw dX12_could_30
  refine lv_aload_n hx hb dX12_could_0 rfl (lv_at hl 0 rfl) ?_
  refine lv_iload_n hx hb dX12_could_1 rfl (lv_at hl 1 rfl) ?_
  refine lv_iload_n hx hb dX12_could_2 rfl (lv_at hl 2 rfl) ?_
  refine lv_iload_n hx hb dX12_could_3 rfl (lv_at hl 3 rfl) ?_
  refine tk_Vi hC hK hw hT hA hE hSR kM_at0 (by decide) rfl (k_X12_placeAt_5 l adK adV dC dI cy ad B (by omega) (by omega) qr s1   a1 (show 1 ≤ a1.toInt from ra1) (show a1.toInt ≤ 121 from ta1) a2 (show 0 ≤ a2.toInt from ra2) (show a2.toInt ≤ 9 from ta2) w0 s.heap.size hT ) (cwV 3 hC.2.2.2.2 uV_RX12_435 rfl rfl rfl (by decide +kernel) ⟨Nat.le_of_ble_eq_true rfl, Nat.le_of_ble_eq_true rfl⟩) rfl hl.1 rfl (Nat.le_of_ble_eq_true rfl) dX12_could_4 (fun r8 w10 H locs hp9 hw => ?_)
  obtain ⟨rfl, hg14⟩ := hp9
  obtain ⟨g12, g13⟩ := hg14
  refine lv_istore (lv' := [(5, .int r8), (0, .ref (ad 0)), (1, .int a1), (2, .int a2), (3, .int 1), (4, .int a4)]) hx hb dX12_could_7 hl (by decide) rfl (fun ls hl => ?_)
  refine lv_iload hx hb dX12_could_9 (lv_at hl 5 rfl) ?_
  refine lv_aload_n hx hb dX12_could_11 rfl (lv_at hl 1 rfl) ?_
  refine tk_getA hC hK hw hT hinX12 kM_at0 (by decide) rfl 34 (by decide) (List.mem_cons_of_mem _ uw_7_7) rfl rfl dX12_could_12 ?_
  refine lv_iload hx hb dX12_could_15 (lv_at hl 0 rfl) ?_
  refine tk_iald hC hK hw hT kM_at17 rfl rfl (show 0 ≤ r8.toInt by omega) (show r8.toInt < 2600 by omega) dX12_could_17 (fun x15 c16 rx15 tx15 => ?_)
  refine lv_icmp_ge (tgt := 30) hx hb dX12_could_18 (by decide) (fun c17 => ?_) (fun c17 => ?_)
  · have c17 : x15.toInt ≤ a4.toInt := wk_le.mp c17
    exact J30 r8 H locs ls w0 (show 1 ≤ a1.toInt from ra1) (show a1.toInt ≤ 121 from ta1) (show 0 ≤ a2.toInt from ra2) (show a2.toInt ≤ 9 from ta2) (show 21 ≤ r8.toInt by omega) (show r8.toInt ≤ 2439 by omega)  hw hT hF  (lv_sub hl [1, 2, 3, 4, 5, 0] rfl)
  · have c17 : a4.toInt < x15.toInt := wk_leF c17
    refine lv_aload_n hx hb dX12_could_21 rfl (lv_at hl 1 rfl) ?_
    refine tk_getA hC hK hw hT hinX12 kM_at0 (by decide) rfl 34 (by decide) (List.mem_cons_of_mem _ uw_7_7) rfl rfl dX12_could_22 ?_
    refine lv_iload hx hb dX12_could_25 (lv_at hl 0 rfl) ?_
    refine lv_iload hx hb dX12_could_27 (lv_at hl 5 rfl) ?_
    refine tk_iast hC hK hw hT kM_at17 (by decide) rfl rfl (show 0 ≤ r8.toInt by omega) (show r8.toInt < 2600 by omega) (wk_i32 a4).1 (wk_i32 a4).2 dX12_could_29 (fun H locs w18 hw hT k20 c19 => ?_)
    have hF := hF.put kM_at17 (inE_of (a := 0) (b := 2600) (by decide) (show 0 ≤ r8.toInt.toNat by omega) (show r8.toInt.toNat ≤ 2600 by omega)) k20
    exact J30 r8 H locs ls w18 (show 1 ≤ a1.toInt from ra1) (show a1.toInt ≤ 121 from ta1) (show 0 ≤ a2.toInt from ra2) (show a2.toInt ≤ 9 from ta2) (show 21 ≤ r8.toInt by omega) (show r8.toInt ≤ 2439 by omega)  hw hT hF  (lv_sub hl [1, 2, 3, 4, 5, 0] rfl)
abbrev P_X12_isDayFor_5 (ad : Nat → Nat) (cy : Nat → ClassId) (B : Int) (qr : Nat) (s1 : Int) (a1 : Int32) (a2 : Int32) (a3 : Int32) (w0 : va_W) : Int32 → va_W → Prop := fun r u => w0 = u ∧ ((r = 0 ∧ (¬ mDay w0 a1.toInt a2.toInt a3.toInt)) ∨ (r = 0 ∧ gi u 12 (10 * a1.toInt + 10).toNat = a2 ∧ (¬ mDay w0 a1.toInt a2.toInt a3.toInt)) ∨ (r = 1 ∧ (mDay w0 a1.toInt a2.toInt a3.toInt)) ∨ (r = 1 ∧ gi u 12 (10 * a1.toInt + 10).toNat = a2 ∧ (mDay w0 a1.toInt a2.toInt a3.toInt)))
set_option maxHeartbeats 4000000 in
set_option maxRecDepth 100000 in
theorem k_X12_isDayFor_5 (l : Launch) (adK adV : Nat → Nat) (dC : Nat → ClassId) (dI : Nat → Nat → Nat) (cy : Nat → ClassId) (ad : Nat → Nat) (B : Int) (hB0 : 100000 ≤ B) (hB1 : B ≤ 1073741824) (qr : Nat) (s1 : Int)  (a1 : Int32) (ra1 : 0 ≤ a1.toInt) (ta1 : a1.toInt ≤ 11) (a2 : Int32) (ra2 : 0 ≤ a2.toInt) (ta2 : a2.toInt ≤ 9) (a3 : Int32) (ra3 : 0 ≤ a3.toInt) (ta3 : a3.toInt ≤ 44739247) (w0 : va_W) (sz : Nat) (hT : TW ksM ad cy B qr 12 w0)  : Met l yX12_isDayFor (wu yX12_isDayFor cX12_isDayFor 4 (some .boolean)) ({ frames := 3, cells := 0, slots := 0, locals := 57 }) (va_Pc [.ref (ad 0), .int a1, .int a2, .int a3] (wpreS adK adV dC dI cy sz w0)) (va_Qi (P_X12_isDayFor_5 ad cy B qr s1 a1 a2 a3 w0) (fun u : va_W => wpost dC dI cy (va_A w0 sz) u) (va_A w0 sz)) 0 0 (va_A w0 sz) := by
  refine Met.ofW (cc := cX12_isDayFor) (maxL := 4) (ret := (some .boolean)) (by decide) rfl ?_
  intro p e s m args below meth c s₁ Bk hml hv
  obtain ⟨rfl, ⟨hsz, hP, hK, hD0⟩, hE, hSR⟩ := hv
  have hx := Bk.exec
  have hb := Bk.bytes
  have hr := Bk.returns
  have hlocks := Bk.notSynchronized
  have hC : CallFix p m c cX12_isDayFor 4 s _ (wu yX12_isDayFor cX12_isDayFor 4 (some .boolean)) RX12 := ⟨hx, hb, hml, findClass_of_methodNamed Bk.named, atoms_spec (ws := (wu yX12_isDayFor cX12_isDayFor 4 (some .boolean))) Bk.pre⟩
  subst hsz
  have hD := hD0.self (sz := s.heap.size)
  generalize hAe : va_A w0 s.heap.size = A at hD hE ⊢
  have hA : ∀ q : Nat, s.heap.size ≤ q → A q := fun q h => by rw [← hAe]; exact Or.inr h
  have hw : Wd dC dI A s.heap s.heap [] w0 := ⟨hP, hD, va_S.rf⟩
  have hF : FE ksM ([] : List (Nat × Nat × Nat)) w0 w0 := FE.rf
  have hl := lv_entry ([.ref (ad 0), .int a1, .int a2, .int a3]) (n := 4) (Nat.le_of_ble_eq_true rfl)
  rw [lg_entry_eq]
  generalize (lg_sl ([.ref (ad 0), .int a1, .int a2, .int a3]) ++ List.replicate (4 - (lg_sl ([.ref (ad 0), .int a1, .int a2, .int a3])).length) Slot.unset).toArray = ls at hl ⊢
  have hl : lv_has ls 4 [(0, .ref (ad 0)), (1, .int a1), (2, .int a2), (3, .int a3)] := hl
  generalize hloc : ([] : List Loc) = locs at hw ⊢
  refine lv_aload_n hx hb dX12_isDayFor_0 rfl (lv_at hl 0 rfl) ?_
  refine lv_aload_n hx hb dX12_isDayFor_1 rfl (lv_at hl 0 rfl) ?_
  refine lv_iload_n hx hb dX12_isDayFor_2 rfl (lv_at hl 1 rfl) ?_
  refine lv_iconst (v := 3) hx hb dX12_isDayFor_3 (by decide) ?_
  refine lv_iload_n hx hb dX12_isDayFor_4 rfl (lv_at hl 3 rfl) ?_
  refine lv_bipush (v := 7) hx hb dX12_isDayFor_5 (by decide) ?_
  refine lv_irem hx hb dX12_isDayFor_7 (by decide) ?_
  refine lv_topi (fun x1 ex1 => ?_)
  have ex1 : x1.toInt = a3.toInt % (7 : Int) := by rw [ex1]; exact wk_rem (show 0 ≤ a3.toInt from ra3) (show 0 < (7 : Int) by decide)
  refine lv_iadd hx hb dX12_isDayFor_8 ?_
  refine lv_topi (fun x2 ex2 => ?_)
  have ex2 : x2.toInt = (3 : Int) + x1.toInt := by rw [ex2]; exact wk_add (show (-2147483648) ≤ (3 : Int) + x1.toInt by omega) (show (3 : Int) + x1.toInt ≤ 2147483647 by omega)
  refine tk_Vi hC hK hw hT hA hE hSR kM_at0 (by decide) rfl (k_X12_streetOf_4 l adK adV dC dI cy ad B (by omega) (by omega) qr s1   a1 (show 0 ≤ a1.toInt from ra1) (show a1.toInt ≤ 11 from ta1) x2 (show 3 ≤ x2.toInt by omega) (show x2.toInt ≤ 9 by omega) w0 s.heap.size hT ) (cwV 2 hC.2.2.2.2 uV_RX12_300 rfl rfl rfl (by decide +kernel) ⟨Nat.le_of_ble_eq_true rfl, Nat.le_of_ble_eq_true rfl⟩) rfl hl.1 rfl (Nat.le_of_ble_eq_true rfl) dX12_isDayFor_9 (fun r3 w5 H locs hp4 hw => ?_)
  obtain ⟨rfl, hg10⟩ := hp4
  obtain ⟨g7, g8, c9⟩ := hg10
  refine lv_iload_n hx hb dX12_isDayFor_12 rfl (lv_at hl 1 rfl) ?_
  refine lv_iload_n hx hb dX12_isDayFor_13 rfl (lv_at hl 2 rfl) ?_
  refine tk_Vi hC hK hw hT hA hE hSR kM_at0 (by decide) rfl (k_X12_hasSign_1 l adK adV dC dI cy ad B (by omega) (by omega) qr s1   r3 (show 0 ≤ r3.toInt by omega) (show r3.toInt ≤ 9 by omega) a1 (show 0 ≤ a1.toInt from ra1) (show a1.toInt ≤ 11 from ta1) a2 (show 0 ≤ a2.toInt from ra2) (show a2.toInt ≤ 9 from ta2) w0 H.size hT ) (cwV 3 hC.2.2.2.2 uV_RX12_307 rfl rfl rfl (by decide +kernel) ⟨Nat.le_of_ble_eq_true rfl, Nat.le_of_ble_eq_true rfl⟩) rfl hl.1 rfl (Nat.le_of_ble_eq_true rfl) dX12_isDayFor_14 (fun r11 w13 H locs hp12 hw => ?_)
  obtain ⟨rfl, hg21⟩ := hp12
  rcases hg21 with ⟨rfl, hq15⟩ | ⟨rfl, c16, hq17⟩ | ⟨rfl, hq18⟩ | ⟨rfl, c19, hq20⟩
  · refine lv_if_ne (tgt := 22) hx hb dX12_isDayFor_17 (by decide) (fun c => absurd (by decide) c) (fun _ => ?_)
    refine lv_iconst (v := 0) hx hb dX12_isDayFor_20 (by decide) ?_
    exact tk_zret hC hr rfl hlocks hK ⟨rfl, (Or.inl ⟨rfl, (by unfold mDay; rw [show (10 * a1.toInt + (3 + a3.toInt % 7) + 10) = 10 * a1.toInt + 1 * x2.toInt + 10 by omega]; simp only [c9]; first | exact ⟨by assumption, by assumption, by assumption⟩ | (rintro ⟨q1, q2, q3⟩; first | exact absurd q1 (by assumption) | exact q2 (by assumption) | exact q3 (by assumption)))⟩)⟩ hw dX12_isDayFor_21
  · refine lv_if_ne (tgt := 22) hx hb dX12_isDayFor_17 (by decide) (fun c => absurd (by decide) c) (fun _ => ?_)
    refine lv_iconst (v := 0) hx hb dX12_isDayFor_20 (by decide) ?_
    exact tk_zret hC hr rfl hlocks hK ⟨rfl, (Or.inr (Or.inl ⟨rfl, c16, (by unfold mDay; rw [show (10 * a1.toInt + (3 + a3.toInt % 7) + 10) = 10 * a1.toInt + 1 * x2.toInt + 10 by omega]; simp only [c9, c16]; first | exact ⟨by assumption, by assumption, by assumption⟩ | (rintro ⟨q1, q2, q3⟩; first | exact absurd q1 (by assumption) | exact q2 (by assumption) | exact q3 (by assumption)))⟩))⟩ hw dX12_isDayFor_21
  · refine lv_if_ne (tgt := 22) hx hb dX12_isDayFor_17 (by decide) (fun _ => ?_) (fun c => absurd c (by decide))
    refine lv_aload_n hx hb dX12_isDayFor_22 rfl (lv_at hl 0 rfl) ?_
    refine lv_aload_n hx hb dX12_isDayFor_23 rfl (lv_at hl 0 rfl) ?_
    refine lv_iload_n hx hb dX12_isDayFor_24 rfl (lv_at hl 1 rfl) ?_
    refine lv_iconst (v := 0) hx hb dX12_isDayFor_25 (by decide) ?_
    refine tk_Vi hC hK hw hT hA hE hSR kM_at0 (by decide) rfl (k_X12_streetOf_2 l adK adV dC dI cy ad B (by omega) (by omega) qr s1   a1 (show 0 ≤ a1.toInt from ra1) (show a1.toInt ≤ 11 from ta1) w0 H.size hT ) (cwV 2 hC.2.2.2.2 uV_RX12_300 rfl rfl rfl (by decide +kernel) ⟨Nat.le_of_ble_eq_true rfl, Nat.le_of_ble_eq_true rfl⟩) rfl hl.1 rfl (Nat.le_of_ble_eq_true rfl) dX12_isDayFor_26 (fun r22 w24 H locs hp23 hw => ?_)
    obtain ⟨rfl, hg29⟩ := hp23
    obtain ⟨g26, g27, c28⟩ := hg29
    refine lv_iload_n hx hb dX12_isDayFor_29 rfl (lv_at hl 3 rfl) ?_
    refine lv_sipush (v := 360) hx hb dX12_isDayFor_30 (by decide) ?_
    refine lv_irem hx hb dX12_isDayFor_33 (by decide) ?_
    refine lv_topi (fun x30 ex30 => ?_)
    have ex30 : x30.toInt = a3.toInt % (360 : Int) := by rw [ex30]; exact wk_rem (show 0 ≤ a3.toInt from ra3) (show 0 < (360 : Int) by decide)
    refine tk_Vi hC hK hw hT hA hE hSR kM_at0 (by decide) rfl (k_X12_isClosed_1 l adK adV dC dI cy ad B (by omega) (by omega) qr s1   r22 (show 0 ≤ r22.toInt by omega) (show r22.toInt ≤ 9 by omega) x30 (show 0 ≤ x30.toInt by omega) (show x30.toInt ≤ 359 by omega) w0 H.size hT ) (cwV 2 hC.2.2.2.2 uV_RX12_311 rfl rfl rfl (by decide +kernel) ⟨Nat.le_of_ble_eq_true rfl, Nat.le_of_ble_eq_true rfl⟩) rfl hl.1 rfl (Nat.le_of_ble_eq_true rfl) dX12_isDayFor_34 (fun r31 w33 H locs hp32 hw => ?_)
    obtain ⟨rfl, hg41⟩ := hp32
    rcases hg41 with ⟨rfl, hq35⟩ | ⟨rfl, ⟨x36, c37, rx36, tx36⟩, ⟨x38, c39, rx38, tx38⟩, hq40⟩
    · refine lv_if_ne (tgt := 62) hx hb dX12_isDayFor_37 (by decide) (fun c => absurd (by decide) c) (fun _ => ?_)
      refine lv_aload_n hx hb dX12_isDayFor_40 rfl (lv_at hl 0 rfl) ?_
      refine lv_aload_n hx hb dX12_isDayFor_41 rfl (lv_at hl 0 rfl) ?_
      refine lv_iload_n hx hb dX12_isDayFor_42 rfl (lv_at hl 1 rfl) ?_
      refine lv_iconst (v := 1) hx hb dX12_isDayFor_43 (by decide) ?_
      refine tk_Vi hC hK hw hT hA hE hSR kM_at0 (by decide) rfl (k_X12_streetOf_3 l adK adV dC dI cy ad B (by omega) (by omega) qr s1   a1 (show 0 ≤ a1.toInt from ra1) (show a1.toInt ≤ 11 from ta1) w0 H.size hT ) (cwV 2 hC.2.2.2.2 uV_RX12_300 rfl rfl rfl (by decide +kernel) ⟨Nat.le_of_ble_eq_true rfl, Nat.le_of_ble_eq_true rfl⟩) rfl hl.1 rfl (Nat.le_of_ble_eq_true rfl) dX12_isDayFor_44 (fun r42 w44 H locs hp43 hw => ?_)
      obtain ⟨rfl, hg49⟩ := hp43
      obtain ⟨g46, g47, c48⟩ := hg49
      refine lv_iload_n hx hb dX12_isDayFor_47 rfl (lv_at hl 3 rfl) ?_
      refine lv_sipush (v := 360) hx hb dX12_isDayFor_48 (by decide) ?_
      refine lv_irem hx hb dX12_isDayFor_51 (by decide) ?_
      refine lv_topi (fun x50 ex50 => ?_)
      have ex50 : x50.toInt = a3.toInt % (360 : Int) := by rw [ex50]; exact wk_rem (show 0 ≤ a3.toInt from ra3) (show 0 < (360 : Int) by decide)
      refine tk_Vi hC hK hw hT hA hE hSR kM_at0 (by decide) rfl (k_X12_isClosed_1 l adK adV dC dI cy ad B (by omega) (by omega) qr s1   r42 (show 0 ≤ r42.toInt by omega) (show r42.toInt ≤ 9 by omega) x50 (show 0 ≤ x50.toInt by omega) (show x50.toInt ≤ 359 by omega) w0 H.size hT ) (cwV 2 hC.2.2.2.2 uV_RX12_311 rfl rfl rfl (by decide +kernel) ⟨Nat.le_of_ble_eq_true rfl, Nat.le_of_ble_eq_true rfl⟩) rfl hl.1 rfl (Nat.le_of_ble_eq_true rfl) dX12_isDayFor_52 (fun r51 w53 H locs hp52 hw => ?_)
      obtain ⟨rfl, hg61⟩ := hp52
      rcases hg61 with ⟨rfl, hq55⟩ | ⟨rfl, ⟨x56, c57, rx56, tx56⟩, ⟨x58, c59, rx58, tx58⟩, hq60⟩
      · refine lv_if_ne (tgt := 62) hx hb dX12_isDayFor_55 (by decide) (fun c => absurd (by decide) c) (fun _ => ?_)
        refine lv_iconst (v := 1) hx hb dX12_isDayFor_58 (by decide) ?_
        refine lv_goto (tgt := 63) hx hb dX12_isDayFor_59 (by decide) ?_
        exact tk_zret hC hr rfl hlocks hK ⟨rfl, (Or.inr (Or.inr (Or.inl ⟨rfl, (by have hq35 := hq35; rw [show x30.toInt = a3.toInt % 360 by omega] at hq35; have hq55 := hq55; rw [show x50.toInt = a3.toInt % 360 by omega] at hq55; unfold mDay; rw [show (10 * a1.toInt + (3 + a3.toInt % 7) + 10) = 10 * a1.toInt + 1 * x2.toInt + 10 by omega]; simp only [c9, c28, c48]; first | exact ⟨by assumption, by assumption, by assumption⟩ | (rintro ⟨q1, q2, q3⟩; first | exact absurd q1 (by assumption) | exact q2 (by assumption) | exact q3 (by assumption)))⟩)))⟩ hw dX12_isDayFor_63
      · refine lv_if_ne (tgt := 62) hx hb dX12_isDayFor_55 (by decide) (fun _ => ?_) (fun c => absurd c (by decide))
        refine lv_iconst (v := 0) hx hb dX12_isDayFor_62 (by decide) ?_
        exact tk_zret hC hr rfl hlocks hK ⟨rfl, (Or.inl ⟨rfl, (by have hq35 := hq35; rw [show x30.toInt = a3.toInt % 360 by omega] at hq35; have hq60 := hq60; rw [show x50.toInt = a3.toInt % 360 by omega] at hq60; unfold mDay; rw [show (10 * a1.toInt + (3 + a3.toInt % 7) + 10) = 10 * a1.toInt + 1 * x2.toInt + 10 by omega]; simp only [c9, c28, c48, c57, c59]; first | exact ⟨by assumption, by assumption, by assumption⟩ | (rintro ⟨q1, q2, q3⟩; first | exact absurd q1 (by assumption) | exact q2 (by assumption) | exact q3 (by assumption)))⟩)⟩ hw dX12_isDayFor_63
    · refine lv_if_ne (tgt := 62) hx hb dX12_isDayFor_37 (by decide) (fun _ => ?_) (fun c => absurd c (by decide))
      refine lv_iconst (v := 0) hx hb dX12_isDayFor_62 (by decide) ?_
      exact tk_zret hC hr rfl hlocks hK ⟨rfl, (Or.inl ⟨rfl, (by have hq40 := hq40; rw [show x30.toInt = a3.toInt % 360 by omega] at hq40; unfold mDay; rw [show (10 * a1.toInt + (3 + a3.toInt % 7) + 10) = 10 * a1.toInt + 1 * x2.toInt + 10 by omega]; simp only [c9, c28, c37, c39]; first | exact ⟨by assumption, by assumption, by assumption⟩ | (rintro ⟨q1, q2, q3⟩; first | exact absurd q1 (by assumption) | exact q2 (by assumption) | exact q3 (by assumption)))⟩)⟩ hw dX12_isDayFor_63
  · refine lv_if_ne (tgt := 22) hx hb dX12_isDayFor_17 (by decide) (fun _ => ?_) (fun c => absurd c (by decide))
    refine lv_aload_n hx hb dX12_isDayFor_22 rfl (lv_at hl 0 rfl) ?_
    refine lv_aload_n hx hb dX12_isDayFor_23 rfl (lv_at hl 0 rfl) ?_
    refine lv_iload_n hx hb dX12_isDayFor_24 rfl (lv_at hl 1 rfl) ?_
    refine lv_iconst (v := 0) hx hb dX12_isDayFor_25 (by decide) ?_
    refine tk_Vi hC hK hw hT hA hE hSR kM_at0 (by decide) rfl (k_X12_streetOf_2 l adK adV dC dI cy ad B (by omega) (by omega) qr s1   a1 (show 0 ≤ a1.toInt from ra1) (show a1.toInt ≤ 11 from ta1) w0 H.size hT ) (cwV 2 hC.2.2.2.2 uV_RX12_300 rfl rfl rfl (by decide +kernel) ⟨Nat.le_of_ble_eq_true rfl, Nat.le_of_ble_eq_true rfl⟩) rfl hl.1 rfl (Nat.le_of_ble_eq_true rfl) dX12_isDayFor_26 (fun r62 w64 H locs hp63 hw => ?_)
    obtain ⟨rfl, hg69⟩ := hp63
    obtain ⟨g66, g67, c68⟩ := hg69
    obtain rfl : a2 = r62 := c19.symm.trans c68
    refine lv_iload_n hx hb dX12_isDayFor_29 rfl (lv_at hl 3 rfl) ?_
    refine lv_sipush (v := 360) hx hb dX12_isDayFor_30 (by decide) ?_
    refine lv_irem hx hb dX12_isDayFor_33 (by decide) ?_
    refine lv_topi (fun x70 ex70 => ?_)
    have ex70 : x70.toInt = a3.toInt % (360 : Int) := by rw [ex70]; exact wk_rem (show 0 ≤ a3.toInt from ra3) (show 0 < (360 : Int) by decide)
    refine tk_Vi hC hK hw hT hA hE hSR kM_at0 (by decide) rfl (k_X12_isClosed_1 l adK adV dC dI cy ad B (by omega) (by omega) qr s1   a2 (show 0 ≤ a2.toInt from ra2) (show a2.toInt ≤ 9 from ta2) x70 (show 0 ≤ x70.toInt by omega) (show x70.toInt ≤ 359 by omega) w0 H.size hT ) (cwV 2 hC.2.2.2.2 uV_RX12_311 rfl rfl rfl (by decide +kernel) ⟨Nat.le_of_ble_eq_true rfl, Nat.le_of_ble_eq_true rfl⟩) rfl hl.1 rfl (Nat.le_of_ble_eq_true rfl) dX12_isDayFor_34 (fun r71 w73 H locs hp72 hw => ?_)
    obtain ⟨rfl, hg81⟩ := hp72
    rcases hg81 with ⟨rfl, hq75⟩ | ⟨rfl, ⟨x76, c77, rx76, tx76⟩, ⟨x78, c79, rx78, tx78⟩, hq80⟩
    · refine lv_if_ne (tgt := 62) hx hb dX12_isDayFor_37 (by decide) (fun c => absurd (by decide) c) (fun _ => ?_)
      refine lv_aload_n hx hb dX12_isDayFor_40 rfl (lv_at hl 0 rfl) ?_
      refine lv_aload_n hx hb dX12_isDayFor_41 rfl (lv_at hl 0 rfl) ?_
      refine lv_iload_n hx hb dX12_isDayFor_42 rfl (lv_at hl 1 rfl) ?_
      refine lv_iconst (v := 1) hx hb dX12_isDayFor_43 (by decide) ?_
      refine tk_Vi hC hK hw hT hA hE hSR kM_at0 (by decide) rfl (k_X12_streetOf_3 l adK adV dC dI cy ad B (by omega) (by omega) qr s1   a1 (show 0 ≤ a1.toInt from ra1) (show a1.toInt ≤ 11 from ta1) w0 H.size hT ) (cwV 2 hC.2.2.2.2 uV_RX12_300 rfl rfl rfl (by decide +kernel) ⟨Nat.le_of_ble_eq_true rfl, Nat.le_of_ble_eq_true rfl⟩) rfl hl.1 rfl (Nat.le_of_ble_eq_true rfl) dX12_isDayFor_44 (fun r82 w84 H locs hp83 hw => ?_)
      obtain ⟨rfl, hg89⟩ := hp83
      obtain ⟨g86, g87, c88⟩ := hg89
      refine lv_iload_n hx hb dX12_isDayFor_47 rfl (lv_at hl 3 rfl) ?_
      refine lv_sipush (v := 360) hx hb dX12_isDayFor_48 (by decide) ?_
      refine lv_irem hx hb dX12_isDayFor_51 (by decide) ?_
      refine lv_topi (fun x90 ex90 => ?_)
      have ex90 : x90.toInt = a3.toInt % (360 : Int) := by rw [ex90]; exact wk_rem (show 0 ≤ a3.toInt from ra3) (show 0 < (360 : Int) by decide)
      refine tk_Vi hC hK hw hT hA hE hSR kM_at0 (by decide) rfl (k_X12_isClosed_1 l adK adV dC dI cy ad B (by omega) (by omega) qr s1   r82 (show 0 ≤ r82.toInt by omega) (show r82.toInt ≤ 9 by omega) x90 (show 0 ≤ x90.toInt by omega) (show x90.toInt ≤ 359 by omega) w0 H.size hT ) (cwV 2 hC.2.2.2.2 uV_RX12_311 rfl rfl rfl (by decide +kernel) ⟨Nat.le_of_ble_eq_true rfl, Nat.le_of_ble_eq_true rfl⟩) rfl hl.1 rfl (Nat.le_of_ble_eq_true rfl) dX12_isDayFor_52 (fun r91 w93 H locs hp92 hw => ?_)
      obtain ⟨rfl, hg101⟩ := hp92
      rcases hg101 with ⟨rfl, hq95⟩ | ⟨rfl, ⟨x96, c97, rx96, tx96⟩, ⟨x98, c99, rx98, tx98⟩, hq100⟩
      · refine lv_if_ne (tgt := 62) hx hb dX12_isDayFor_55 (by decide) (fun c => absurd (by decide) c) (fun _ => ?_)
        refine lv_iconst (v := 1) hx hb dX12_isDayFor_58 (by decide) ?_
        refine lv_goto (tgt := 63) hx hb dX12_isDayFor_59 (by decide) ?_
        exact tk_zret hC hr rfl hlocks hK ⟨rfl, (Or.inr (Or.inr (Or.inr ⟨rfl, c19, (by have hq75 := hq75; rw [show x70.toInt = a3.toInt % 360 by omega] at hq75; have hq95 := hq95; rw [show x90.toInt = a3.toInt % 360 by omega] at hq95; unfold mDay; rw [show (10 * a1.toInt + (3 + a3.toInt % 7) + 10) = 10 * a1.toInt + 1 * x2.toInt + 10 by omega]; simp only [c9, c19, c88]; first | exact ⟨by assumption, by assumption, by assumption⟩ | (rintro ⟨q1, q2, q3⟩; first | exact absurd q1 (by assumption) | exact q2 (by assumption) | exact q3 (by assumption)))⟩)))⟩ hw dX12_isDayFor_63
      · refine lv_if_ne (tgt := 62) hx hb dX12_isDayFor_55 (by decide) (fun _ => ?_) (fun c => absurd c (by decide))
        refine lv_iconst (v := 0) hx hb dX12_isDayFor_62 (by decide) ?_
        exact tk_zret hC hr rfl hlocks hK ⟨rfl, (Or.inr (Or.inl ⟨rfl, c19, (by have hq75 := hq75; rw [show x70.toInt = a3.toInt % 360 by omega] at hq75; have hq100 := hq100; rw [show x90.toInt = a3.toInt % 360 by omega] at hq100; unfold mDay; rw [show (10 * a1.toInt + (3 + a3.toInt % 7) + 10) = 10 * a1.toInt + 1 * x2.toInt + 10 by omega]; simp only [c9, c19, c88, c97, c99]; first | exact ⟨by assumption, by assumption, by assumption⟩ | (rintro ⟨q1, q2, q3⟩; first | exact absurd q1 (by assumption) | exact q2 (by assumption) | exact q3 (by assumption)))⟩))⟩ hw dX12_isDayFor_63
    · refine lv_if_ne (tgt := 62) hx hb dX12_isDayFor_37 (by decide) (fun _ => ?_) (fun c => absurd c (by decide))
      refine lv_iconst (v := 0) hx hb dX12_isDayFor_62 (by decide) ?_
      exact tk_zret hC hr rfl hlocks hK ⟨rfl, (Or.inr (Or.inl ⟨rfl, c19, (by have hq80 := hq80; rw [show x70.toInt = a3.toInt % 360 by omega] at hq80; unfold mDay; rw [show (10 * a1.toInt + (3 + a3.toInt % 7) + 10) = 10 * a1.toInt + 1 * x2.toInt + 10 by omega]; simp only [c9, c19, c77, c79]; first | exact ⟨by assumption, by assumption, by assumption⟩ | (rintro ⟨q1, q2, q3⟩; first | exact absurd q1 (by assumption) | exact q2 (by assumption) | exact q3 (by assumption)))⟩))⟩ hw dX12_isDayFor_63
