set_option maxHeartbeats 4000000 in
set_option maxRecDepth 100000 in
theorem t_X12_count_1 (l : Launch) (dC : Nat → ClassId) (dI : Nat → Nat → Nat) (cy : Nat → ClassId) (av0 : Nat) (ad : Nat → Nat) (sz : Nat)  : Met l yX12_count wsX12_count ({ frames := 0, cells := 0, slots := 0, locals := 0 }) (va_Pc [.ref av0, .int 0] (wpre dC dI cy sz [(av0, .inr (12, [.ref (ad 0), .int 0, .int 0, .ref (ad 1), .ref (ad 2), .ref (ad 3), .ref (ad 4), .int 0, .int 0, .int 0, .int 0, .ref (ad 5), .ref (ad 6), .ref (ad 7), .int 0, .int 0, .int 0, .int 0, .int 0, .int 0, .int 0, .ref (ad 8), .int 0, .ref (ad 9), .int 0, .ref (ad 10), .ref (ad 11), .int 1, .ref (ad 12), .ref (ad 13), .int 0, .int 0, .ref (ad 14), .ref (ad 15), .ref (ad 16), .ref (ad 17), .ref (ad 18), .int 0, .ref (ad 19), .long 0, .ref (ad 20), .ref (ad 21)])), ((ad 11), .inl (cy 0, 296, .inl (fun _ => 0)))])) (va_Qi (fun (r : Int32) (_ : ((Nat → Nat) × (Nat → Nat → Int32))) => r = 0) (fun u => wpost dC dI cy (va_A [(av0, .inr (12, [.ref (ad 0), .int 0, .int 0, .ref (ad 1), .ref (ad 2), .ref (ad 3), .ref (ad 4), .int 0, .int 0, .int 0, .int 0, .ref (ad 5), .ref (ad 6), .ref (ad 7), .int 0, .int 0, .int 0, .int 0, .int 0, .int 0, .int 0, .ref (ad 8), .int 0, .ref (ad 9), .int 0, .ref (ad 10), .ref (ad 11), .int 1, .ref (ad 12), .ref (ad 13), .int 0, .int 0, .ref (ad 14), .ref (ad 15), .ref (ad 16), .ref (ad 17), .ref (ad 18), .int 0, .ref (ad 19), .long 0, .ref (ad 20), .ref (ad 21)])), ((ad 11), .inl (cy 0, 296, .inl (fun _ => 0)))] sz) [(av0, .inr (12, [.ref (ad 0), .int 0, .int 0, .ref (ad 1), .ref (ad 2), .ref (ad 3), .ref (ad 4), .int 0, .int 0, .int 0, .int 0, .ref (ad 5), .ref (ad 6), .ref (ad 7), .int 0, .int 0, .int 0, .int 0, .int 0, .int 0, .int 0, .ref (ad 8), .int 0, .ref (ad 9), .int 0, .ref (ad 10), .ref (ad 11), .int 1, .ref (ad 12), .ref (ad 13), .int 0, .int 0, .ref (ad 14), .ref (ad 15), .ref (ad 16), .ref (ad 17), .ref (ad 18), .int 0, .ref (ad 19), .long 0, .ref (ad 20), .ref (ad 21)])), ((ad 11), .inl (cy 0, 296, .inl (fun _ => 0)))]) (va_A [(av0, .inr (12, [.ref (ad 0), .int 0, .int 0, .ref (ad 1), .ref (ad 2), .ref (ad 3), .ref (ad 4), .int 0, .int 0, .int 0, .int 0, .ref (ad 5), .ref (ad 6), .ref (ad 7), .int 0, .int 0, .int 0, .int 0, .int 0, .int 0, .int 0, .ref (ad 8), .int 0, .ref (ad 9), .int 0, .ref (ad 10), .ref (ad 11), .int 1, .ref (ad 12), .ref (ad 13), .int 0, .int 0, .ref (ad 14), .ref (ad 15), .ref (ad 16), .ref (ad 17), .ref (ad 18), .int 0, .ref (ad 19), .long 0, .ref (ad 20), .ref (ad 21)])), ((ad 11), .inl (cy 0, 296, .inl (fun _ => 0)))] sz)) 0 0 (va_A [(av0, .inr (12, [.ref (ad 0), .int 0, .int 0, .ref (ad 1), .ref (ad 2), .ref (ad 3), .ref (ad 4), .int 0, .int 0, .int 0, .int 0, .ref (ad 5), .ref (ad 6), .ref (ad 7), .int 0, .int 0, .int 0, .int 0, .int 0, .int 0, .int 0, .ref (ad 8), .int 0, .ref (ad 9), .int 0, .ref (ad 10), .ref (ad 11), .int 1, .ref (ad 12), .ref (ad 13), .int 0, .int 0, .ref (ad 14), .ref (ad 15), .ref (ad 16), .ref (ad 17), .ref (ad 18), .int 0, .ref (ad 19), .long 0, .ref (ad 20), .ref (ad 21)])), ((ad 11), .inl (cy 0, 296, .inl (fun _ => 0)))] sz) := by
  refine Met.ofW (cc := cX12_count) (maxL := 2) (ret := (some .int)) (by decide) rfl ?_
  intro p e s m args below meth c s₁ B hml hv
  obtain ⟨rfl, hsz, hP, hK, hD0⟩ := hv
  have hx := B.exec
  have hb := B.bytes
  have hr := B.returns
  have hlocks := B.notSynchronized
  have hC : CallFix p m c cX12_count 2 s _ wsX12_count RX12 := ⟨hx, hb, hml, findClass_of_methodNamed B.named, atoms_spec (ws := wsX12_count) B.pre⟩
  subst hsz
  have hD := hD0.self (sz := s.heap.size)
  generalize hAe : va_A [(av0, .inr (12, [.ref (ad 0), .int 0, .int 0, .ref (ad 1), .ref (ad 2), .ref (ad 3), .ref (ad 4), .int 0, .int 0, .int 0, .int 0, .ref (ad 5), .ref (ad 6), .ref (ad 7), .int 0, .int 0, .int 0, .int 0, .int 0, .int 0, .int 0, .ref (ad 8), .int 0, .ref (ad 9), .int 0, .ref (ad 10), .ref (ad 11), .int 1, .ref (ad 12), .ref (ad 13), .int 0, .int 0, .ref (ad 14), .ref (ad 15), .ref (ad 16), .ref (ad 17), .ref (ad 18), .int 0, .ref (ad 19), .long 0, .ref (ad 20), .ref (ad 21)])), ((ad 11), .inl (cy 0, 296, .inl (fun _ => 0)))] s.heap.size = A at hD ⊢
  have hA : ∀ q : Nat, s.heap.size ≤ q → A q := fun q h => by rw [← hAe]; exact Or.inr h
  have hw : Wd dC dI A s.heap s.heap [] [(av0, .inr (12, [.ref (ad 0), .int 0, .int 0, .ref (ad 1), .ref (ad 2), .ref (ad 3), .ref (ad 4), .int 0, .int 0, .int 0, .int 0, .ref (ad 5), .ref (ad 6), .ref (ad 7), .int 0, .int 0, .int 0, .int 0, .int 0, .int 0, .int 0, .ref (ad 8), .int 0, .ref (ad 9), .int 0, .ref (ad 10), .ref (ad 11), .int 1, .ref (ad 12), .ref (ad 13), .int 0, .int 0, .ref (ad 14), .ref (ad 15), .ref (ad 16), .ref (ad 17), .ref (ad 18), .int 0, .ref (ad 19), .long 0, .ref (ad 20), .ref (ad 21)])), ((ad 11), .inl (cy 0, 296, .inl (fun _ => 0)))] := ⟨hP, hD, va_S.rf⟩
  have hl := lv_entry ([.ref av0, .int 0]) (n := 2) (Nat.le_of_ble_eq_true rfl)
  rw [lg_entry_eq]
  generalize (lg_sl ([.ref av0, .int 0]) ++ List.replicate (2 - (lg_sl ([.ref av0, .int 0])).length) Slot.unset).toArray = ls at hl ⊢
  have hl : lv_has ls 2 [(0, .ref av0), (1, .int 0)] := hl
  have hinX12 : ∀ w ∈ u_ws RX12 TX12 42, w ∈ wsX12_count := fun _ h => List.mem_cons_of_mem _ (List.mem_append_right _ (h))
  refine lv_iload_n hx hb dX12_count_0 rfl (lv_at hl 1 rfl) ?_
  refine lv_tableIn (off := 63) (tgt := 64) hx hb dX12_count_1 (by decide) (by decide) rfl (by decide) ?_
  refine lv_aload_n hx hb dX12_count_64 rfl (lv_at hl 0 rfl) ?_
  refine wk_get hC hK hw hinX12 0 rfl rfl 26 (by decide) (List.mem_of_getElem? (i := 1) rfl) rfl rfl dX12_count_65 ?_
  refine lv_iload_n hx hb dX12_count_68 rfl (lv_at hl 1 rfl) ?_
  refine wk_iald hC hK hw 1 rfl (show ¬ ((0 : Int32) < 0 ∨ 296 ≤ (0 : Int32).toNatClampNeg) by decide) dX12_count_69 ?_
  refine wk_top 0 rfl ?_
  exact wk_iret (v := 0) hC hr hlocks hK ((fun _ => 0), (fun _ _ => 0)) rfl [0, 1] rfl rfl hw dX12_count_70

set_option maxHeartbeats 4000000 in
set_option maxRecDepth 100000 in
theorem t_X12_count_2 (l : Launch) (dC : Nat → ClassId) (dI : Nat → Nat → Nat) (cy : Nat → ClassId) (av0 : Nat) (ad : Nat → Nat) (sz : Nat)  : Met l yX12_count wsX12_count ({ frames := 0, cells := 0, slots := 0, locals := 0 }) (va_Pc [.ref av0, .int 1] (wpre dC dI cy sz [(av0, .inr (12, [.ref (ad 0), .int 0, .int 0, .ref (ad 1), .ref (ad 2), .ref (ad 3), .ref (ad 4), .int 0, .int 0, .int 0, .int 0, .ref (ad 5), .ref (ad 6), .ref (ad 7), .int 0, .int 0, .int 0, .int 0, .int 0, .int 0, .int 0, .ref (ad 8), .int 0, .ref (ad 9), .int 0, .ref (ad 10), .ref (ad 11), .int 1, .ref (ad 12), .ref (ad 13), .int 0, .int 0, .ref (ad 14), .ref (ad 15), .ref (ad 16), .ref (ad 17), .ref (ad 18), .int 0, .ref (ad 19), .long 0, .ref (ad 20), .ref (ad 21)])), ((ad 11), .inl (cy 0, 296, .inl (fun _ => 0)))])) (va_Qi (fun (r : Int32) (_ : ((Nat → Nat) × (Nat → Nat → Int32))) => r = 0) (fun u => wpost dC dI cy (va_A [(av0, .inr (12, [.ref (ad 0), .int 0, .int 0, .ref (ad 1), .ref (ad 2), .ref (ad 3), .ref (ad 4), .int 0, .int 0, .int 0, .int 0, .ref (ad 5), .ref (ad 6), .ref (ad 7), .int 0, .int 0, .int 0, .int 0, .int 0, .int 0, .int 0, .ref (ad 8), .int 0, .ref (ad 9), .int 0, .ref (ad 10), .ref (ad 11), .int 1, .ref (ad 12), .ref (ad 13), .int 0, .int 0, .ref (ad 14), .ref (ad 15), .ref (ad 16), .ref (ad 17), .ref (ad 18), .int 0, .ref (ad 19), .long 0, .ref (ad 20), .ref (ad 21)])), ((ad 11), .inl (cy 0, 296, .inl (fun _ => 0)))] sz) [(av0, .inr (12, [.ref (ad 0), .int 0, .int 0, .ref (ad 1), .ref (ad 2), .ref (ad 3), .ref (ad 4), .int 0, .int 0, .int 0, .int 0, .ref (ad 5), .ref (ad 6), .ref (ad 7), .int 0, .int 0, .int 0, .int 0, .int 0, .int 0, .int 0, .ref (ad 8), .int 0, .ref (ad 9), .int 0, .ref (ad 10), .ref (ad 11), .int 1, .ref (ad 12), .ref (ad 13), .int 0, .int 0, .ref (ad 14), .ref (ad 15), .ref (ad 16), .ref (ad 17), .ref (ad 18), .int 0, .ref (ad 19), .long 0, .ref (ad 20), .ref (ad 21)])), ((ad 11), .inl (cy 0, 296, .inl (fun _ => 0)))]) (va_A [(av0, .inr (12, [.ref (ad 0), .int 0, .int 0, .ref (ad 1), .ref (ad 2), .ref (ad 3), .ref (ad 4), .int 0, .int 0, .int 0, .int 0, .ref (ad 5), .ref (ad 6), .ref (ad 7), .int 0, .int 0, .int 0, .int 0, .int 0, .int 0, .int 0, .ref (ad 8), .int 0, .ref (ad 9), .int 0, .ref (ad 10), .ref (ad 11), .int 1, .ref (ad 12), .ref (ad 13), .int 0, .int 0, .ref (ad 14), .ref (ad 15), .ref (ad 16), .ref (ad 17), .ref (ad 18), .int 0, .ref (ad 19), .long 0, .ref (ad 20), .ref (ad 21)])), ((ad 11), .inl (cy 0, 296, .inl (fun _ => 0)))] sz)) 0 0 (va_A [(av0, .inr (12, [.ref (ad 0), .int 0, .int 0, .ref (ad 1), .ref (ad 2), .ref (ad 3), .ref (ad 4), .int 0, .int 0, .int 0, .int 0, .ref (ad 5), .ref (ad 6), .ref (ad 7), .int 0, .int 0, .int 0, .int 0, .int 0, .int 0, .int 0, .ref (ad 8), .int 0, .ref (ad 9), .int 0, .ref (ad 10), .ref (ad 11), .int 1, .ref (ad 12), .ref (ad 13), .int 0, .int 0, .ref (ad 14), .ref (ad 15), .ref (ad 16), .ref (ad 17), .ref (ad 18), .int 0, .ref (ad 19), .long 0, .ref (ad 20), .ref (ad 21)])), ((ad 11), .inl (cy 0, 296, .inl (fun _ => 0)))] sz) := by
  refine Met.ofW (cc := cX12_count) (maxL := 2) (ret := (some .int)) (by decide) rfl ?_
  intro p e s m args below meth c s₁ B hml hv
  obtain ⟨rfl, hsz, hP, hK, hD0⟩ := hv
  have hx := B.exec
  have hb := B.bytes
  have hr := B.returns
  have hlocks := B.notSynchronized
  have hC : CallFix p m c cX12_count 2 s _ wsX12_count RX12 := ⟨hx, hb, hml, findClass_of_methodNamed B.named, atoms_spec (ws := wsX12_count) B.pre⟩
  subst hsz
  have hD := hD0.self (sz := s.heap.size)
  generalize hAe : va_A [(av0, .inr (12, [.ref (ad 0), .int 0, .int 0, .ref (ad 1), .ref (ad 2), .ref (ad 3), .ref (ad 4), .int 0, .int 0, .int 0, .int 0, .ref (ad 5), .ref (ad 6), .ref (ad 7), .int 0, .int 0, .int 0, .int 0, .int 0, .int 0, .int 0, .ref (ad 8), .int 0, .ref (ad 9), .int 0, .ref (ad 10), .ref (ad 11), .int 1, .ref (ad 12), .ref (ad 13), .int 0, .int 0, .ref (ad 14), .ref (ad 15), .ref (ad 16), .ref (ad 17), .ref (ad 18), .int 0, .ref (ad 19), .long 0, .ref (ad 20), .ref (ad 21)])), ((ad 11), .inl (cy 0, 296, .inl (fun _ => 0)))] s.heap.size = A at hD ⊢
  have hA : ∀ q : Nat, s.heap.size ≤ q → A q := fun q h => by rw [← hAe]; exact Or.inr h
  have hw : Wd dC dI A s.heap s.heap [] [(av0, .inr (12, [.ref (ad 0), .int 0, .int 0, .ref (ad 1), .ref (ad 2), .ref (ad 3), .ref (ad 4), .int 0, .int 0, .int 0, .int 0, .ref (ad 5), .ref (ad 6), .ref (ad 7), .int 0, .int 0, .int 0, .int 0, .int 0, .int 0, .int 0, .ref (ad 8), .int 0, .ref (ad 9), .int 0, .ref (ad 10), .ref (ad 11), .int 1, .ref (ad 12), .ref (ad 13), .int 0, .int 0, .ref (ad 14), .ref (ad 15), .ref (ad 16), .ref (ad 17), .ref (ad 18), .int 0, .ref (ad 19), .long 0, .ref (ad 20), .ref (ad 21)])), ((ad 11), .inl (cy 0, 296, .inl (fun _ => 0)))] := ⟨hP, hD, va_S.rf⟩
  have hl := lv_entry ([.ref av0, .int 1]) (n := 2) (Nat.le_of_ble_eq_true rfl)
  rw [lg_entry_eq]
  generalize (lg_sl ([.ref av0, .int 1]) ++ List.replicate (2 - (lg_sl ([.ref av0, .int 1])).length) Slot.unset).toArray = ls at hl ⊢
  have hl : lv_has ls 2 [(0, .ref av0), (1, .int 1)] := hl
  have hinX12 : ∀ w ∈ u_ws RX12 TX12 42, w ∈ wsX12_count := fun _ h => List.mem_cons_of_mem _ (List.mem_append_right _ (h))
  refine lv_iload_n hx hb dX12_count_0 rfl (lv_at hl 1 rfl) ?_
  refine lv_tableIn (off := 63) (tgt := 64) hx hb dX12_count_1 (by decide) (by decide) rfl (by decide) ?_
  refine lv_aload_n hx hb dX12_count_64 rfl (lv_at hl 0 rfl) ?_
  refine wk_get hC hK hw hinX12 0 rfl rfl 26 (by decide) (List.mem_of_getElem? (i := 1) rfl) rfl rfl dX12_count_65 ?_
  refine lv_iload_n hx hb dX12_count_68 rfl (lv_at hl 1 rfl) ?_
  refine wk_iald hC hK hw 1 rfl (show ¬ ((1 : Int32) < 0 ∨ 296 ≤ (1 : Int32).toNatClampNeg) by decide) dX12_count_69 ?_
  refine wk_top 0 rfl ?_
  exact wk_iret (v := 0) hC hr hlocks hK ((fun _ => 0), (fun _ _ => 0)) rfl [0, 1] rfl rfl hw dX12_count_70

set_option maxHeartbeats 4000000 in
set_option maxRecDepth 100000 in
theorem t_X12_count_3 (l : Launch) (dC : Nat → ClassId) (dI : Nat → Nat → Nat) (cy : Nat → ClassId) (av0 : Nat) (ad : Nat → Nat) (sz : Nat)  : Met l yX12_count wsX12_count ({ frames := 0, cells := 0, slots := 0, locals := 0 }) (va_Pc [.ref av0, .int 2] (wpre dC dI cy sz [(av0, .inr (12, [.ref (ad 0), .int 0, .int 0, .ref (ad 1), .ref (ad 2), .ref (ad 3), .ref (ad 4), .int 0, .int 0, .int 0, .int 0, .ref (ad 5), .ref (ad 6), .ref (ad 7), .int 0, .int 0, .int 0, .int 0, .int 0, .int 0, .int 0, .ref (ad 8), .int 0, .ref (ad 9), .int 0, .ref (ad 10), .ref (ad 11), .int 1, .ref (ad 12), .ref (ad 13), .int 0, .int 0, .ref (ad 14), .ref (ad 15), .ref (ad 16), .ref (ad 17), .ref (ad 18), .int 0, .ref (ad 19), .long 0, .ref (ad 20), .ref (ad 21)])), ((ad 11), .inl (cy 0, 296, .inl (fun _ => 0)))])) (va_Qi (fun (r : Int32) (_ : ((Nat → Nat) × (Nat → Nat → Int32))) => r = 0) (fun u => wpost dC dI cy (va_A [(av0, .inr (12, [.ref (ad 0), .int 0, .int 0, .ref (ad 1), .ref (ad 2), .ref (ad 3), .ref (ad 4), .int 0, .int 0, .int 0, .int 0, .ref (ad 5), .ref (ad 6), .ref (ad 7), .int 0, .int 0, .int 0, .int 0, .int 0, .int 0, .int 0, .ref (ad 8), .int 0, .ref (ad 9), .int 0, .ref (ad 10), .ref (ad 11), .int 1, .ref (ad 12), .ref (ad 13), .int 0, .int 0, .ref (ad 14), .ref (ad 15), .ref (ad 16), .ref (ad 17), .ref (ad 18), .int 0, .ref (ad 19), .long 0, .ref (ad 20), .ref (ad 21)])), ((ad 11), .inl (cy 0, 296, .inl (fun _ => 0)))] sz) [(av0, .inr (12, [.ref (ad 0), .int 0, .int 0, .ref (ad 1), .ref (ad 2), .ref (ad 3), .ref (ad 4), .int 0, .int 0, .int 0, .int 0, .ref (ad 5), .ref (ad 6), .ref (ad 7), .int 0, .int 0, .int 0, .int 0, .int 0, .int 0, .int 0, .ref (ad 8), .int 0, .ref (ad 9), .int 0, .ref (ad 10), .ref (ad 11), .int 1, .ref (ad 12), .ref (ad 13), .int 0, .int 0, .ref (ad 14), .ref (ad 15), .ref (ad 16), .ref (ad 17), .ref (ad 18), .int 0, .ref (ad 19), .long 0, .ref (ad 20), .ref (ad 21)])), ((ad 11), .inl (cy 0, 296, .inl (fun _ => 0)))]) (va_A [(av0, .inr (12, [.ref (ad 0), .int 0, .int 0, .ref (ad 1), .ref (ad 2), .ref (ad 3), .ref (ad 4), .int 0, .int 0, .int 0, .int 0, .ref (ad 5), .ref (ad 6), .ref (ad 7), .int 0, .int 0, .int 0, .int 0, .int 0, .int 0, .int 0, .ref (ad 8), .int 0, .ref (ad 9), .int 0, .ref (ad 10), .ref (ad 11), .int 1, .ref (ad 12), .ref (ad 13), .int 0, .int 0, .ref (ad 14), .ref (ad 15), .ref (ad 16), .ref (ad 17), .ref (ad 18), .int 0, .ref (ad 19), .long 0, .ref (ad 20), .ref (ad 21)])), ((ad 11), .inl (cy 0, 296, .inl (fun _ => 0)))] sz)) 0 0 (va_A [(av0, .inr (12, [.ref (ad 0), .int 0, .int 0, .ref (ad 1), .ref (ad 2), .ref (ad 3), .ref (ad 4), .int 0, .int 0, .int 0, .int 0, .ref (ad 5), .ref (ad 6), .ref (ad 7), .int 0, .int 0, .int 0, .int 0, .int 0, .int 0, .int 0, .ref (ad 8), .int 0, .ref (ad 9), .int 0, .ref (ad 10), .ref (ad 11), .int 1, .ref (ad 12), .ref (ad 13), .int 0, .int 0, .ref (ad 14), .ref (ad 15), .ref (ad 16), .ref (ad 17), .ref (ad 18), .int 0, .ref (ad 19), .long 0, .ref (ad 20), .ref (ad 21)])), ((ad 11), .inl (cy 0, 296, .inl (fun _ => 0)))] sz) := by
  refine Met.ofW (cc := cX12_count) (maxL := 2) (ret := (some .int)) (by decide) rfl ?_
  intro p e s m args below meth c s₁ B hml hv
  obtain ⟨rfl, hsz, hP, hK, hD0⟩ := hv
  have hx := B.exec
  have hb := B.bytes
  have hr := B.returns
  have hlocks := B.notSynchronized
  have hC : CallFix p m c cX12_count 2 s _ wsX12_count RX12 := ⟨hx, hb, hml, findClass_of_methodNamed B.named, atoms_spec (ws := wsX12_count) B.pre⟩
  subst hsz
  have hD := hD0.self (sz := s.heap.size)
  generalize hAe : va_A [(av0, .inr (12, [.ref (ad 0), .int 0, .int 0, .ref (ad 1), .ref (ad 2), .ref (ad 3), .ref (ad 4), .int 0, .int 0, .int 0, .int 0, .ref (ad 5), .ref (ad 6), .ref (ad 7), .int 0, .int 0, .int 0, .int 0, .int 0, .int 0, .int 0, .ref (ad 8), .int 0, .ref (ad 9), .int 0, .ref (ad 10), .ref (ad 11), .int 1, .ref (ad 12), .ref (ad 13), .int 0, .int 0, .ref (ad 14), .ref (ad 15), .ref (ad 16), .ref (ad 17), .ref (ad 18), .int 0, .ref (ad 19), .long 0, .ref (ad 20), .ref (ad 21)])), ((ad 11), .inl (cy 0, 296, .inl (fun _ => 0)))] s.heap.size = A at hD ⊢
  have hA : ∀ q : Nat, s.heap.size ≤ q → A q := fun q h => by rw [← hAe]; exact Or.inr h
  have hw : Wd dC dI A s.heap s.heap [] [(av0, .inr (12, [.ref (ad 0), .int 0, .int 0, .ref (ad 1), .ref (ad 2), .ref (ad 3), .ref (ad 4), .int 0, .int 0, .int 0, .int 0, .ref (ad 5), .ref (ad 6), .ref (ad 7), .int 0, .int 0, .int 0, .int 0, .int 0, .int 0, .int 0, .ref (ad 8), .int 0, .ref (ad 9), .int 0, .ref (ad 10), .ref (ad 11), .int 1, .ref (ad 12), .ref (ad 13), .int 0, .int 0, .ref (ad 14), .ref (ad 15), .ref (ad 16), .ref (ad 17), .ref (ad 18), .int 0, .ref (ad 19), .long 0, .ref (ad 20), .ref (ad 21)])), ((ad 11), .inl (cy 0, 296, .inl (fun _ => 0)))] := ⟨hP, hD, va_S.rf⟩
  have hl := lv_entry ([.ref av0, .int 2]) (n := 2) (Nat.le_of_ble_eq_true rfl)
  rw [lg_entry_eq]
  generalize (lg_sl ([.ref av0, .int 2]) ++ List.replicate (2 - (lg_sl ([.ref av0, .int 2])).length) Slot.unset).toArray = ls at hl ⊢
  have hl : lv_has ls 2 [(0, .ref av0), (1, .int 2)] := hl
  have hinX12 : ∀ w ∈ u_ws RX12 TX12 42, w ∈ wsX12_count := fun _ h => List.mem_cons_of_mem _ (List.mem_append_right _ (h))
  refine lv_iload_n hx hb dX12_count_0 rfl (lv_at hl 1 rfl) ?_
  refine lv_tableIn (off := 63) (tgt := 64) hx hb dX12_count_1 (by decide) (by decide) rfl (by decide) ?_
  refine lv_aload_n hx hb dX12_count_64 rfl (lv_at hl 0 rfl) ?_
  refine wk_get hC hK hw hinX12 0 rfl rfl 26 (by decide) (List.mem_of_getElem? (i := 1) rfl) rfl rfl dX12_count_65 ?_
  refine lv_iload_n hx hb dX12_count_68 rfl (lv_at hl 1 rfl) ?_
  refine wk_iald hC hK hw 1 rfl (show ¬ ((2 : Int32) < 0 ∨ 296 ≤ (2 : Int32).toNatClampNeg) by decide) dX12_count_69 ?_
  refine wk_top 0 rfl ?_
  exact wk_iret (v := 0) hC hr hlocks hK ((fun _ => 0), (fun _ _ => 0)) rfl [0, 1] rfl rfl hw dX12_count_70

set_option maxHeartbeats 4000000 in
set_option maxRecDepth 100000 in
theorem t_X12_count_4 (l : Launch) (dC : Nat → ClassId) (dI : Nat → Nat → Nat) (cy : Nat → ClassId) (av0 : Nat) (ad : Nat → Nat) (sz : Nat)  : Met l yX12_count wsX12_count ({ frames := 0, cells := 0, slots := 0, locals := 0 }) (va_Pc [.ref av0, .int 3] (wpre dC dI cy sz [(av0, .inr (12, [.ref (ad 0), .int 0, .int 0, .ref (ad 1), .ref (ad 2), .ref (ad 3), .ref (ad 4), .int 0, .int 0, .int 0, .int 0, .ref (ad 5), .ref (ad 6), .ref (ad 7), .int 0, .int 0, .int 0, .int 0, .int 0, .int 0, .int 0, .ref (ad 8), .int 0, .ref (ad 9), .int 0, .ref (ad 10), .ref (ad 11), .int 1, .ref (ad 12), .ref (ad 13), .int 0, .int 0, .ref (ad 14), .ref (ad 15), .ref (ad 16), .ref (ad 17), .ref (ad 18), .int 0, .ref (ad 19), .long 0, .ref (ad 20), .ref (ad 21)])), ((ad 11), .inl (cy 0, 296, .inl (fun _ => 0)))])) (va_Qi (fun (r : Int32) (_ : ((Nat → Nat) × (Nat → Nat → Int32))) => r = 0) (fun u => wpost dC dI cy (va_A [(av0, .inr (12, [.ref (ad 0), .int 0, .int 0, .ref (ad 1), .ref (ad 2), .ref (ad 3), .ref (ad 4), .int 0, .int 0, .int 0, .int 0, .ref (ad 5), .ref (ad 6), .ref (ad 7), .int 0, .int 0, .int 0, .int 0, .int 0, .int 0, .int 0, .ref (ad 8), .int 0, .ref (ad 9), .int 0, .ref (ad 10), .ref (ad 11), .int 1, .ref (ad 12), .ref (ad 13), .int 0, .int 0, .ref (ad 14), .ref (ad 15), .ref (ad 16), .ref (ad 17), .ref (ad 18), .int 0, .ref (ad 19), .long 0, .ref (ad 20), .ref (ad 21)])), ((ad 11), .inl (cy 0, 296, .inl (fun _ => 0)))] sz) [(av0, .inr (12, [.ref (ad 0), .int 0, .int 0, .ref (ad 1), .ref (ad 2), .ref (ad 3), .ref (ad 4), .int 0, .int 0, .int 0, .int 0, .ref (ad 5), .ref (ad 6), .ref (ad 7), .int 0, .int 0, .int 0, .int 0, .int 0, .int 0, .int 0, .ref (ad 8), .int 0, .ref (ad 9), .int 0, .ref (ad 10), .ref (ad 11), .int 1, .ref (ad 12), .ref (ad 13), .int 0, .int 0, .ref (ad 14), .ref (ad 15), .ref (ad 16), .ref (ad 17), .ref (ad 18), .int 0, .ref (ad 19), .long 0, .ref (ad 20), .ref (ad 21)])), ((ad 11), .inl (cy 0, 296, .inl (fun _ => 0)))]) (va_A [(av0, .inr (12, [.ref (ad 0), .int 0, .int 0, .ref (ad 1), .ref (ad 2), .ref (ad 3), .ref (ad 4), .int 0, .int 0, .int 0, .int 0, .ref (ad 5), .ref (ad 6), .ref (ad 7), .int 0, .int 0, .int 0, .int 0, .int 0, .int 0, .int 0, .ref (ad 8), .int 0, .ref (ad 9), .int 0, .ref (ad 10), .ref (ad 11), .int 1, .ref (ad 12), .ref (ad 13), .int 0, .int 0, .ref (ad 14), .ref (ad 15), .ref (ad 16), .ref (ad 17), .ref (ad 18), .int 0, .ref (ad 19), .long 0, .ref (ad 20), .ref (ad 21)])), ((ad 11), .inl (cy 0, 296, .inl (fun _ => 0)))] sz)) 0 0 (va_A [(av0, .inr (12, [.ref (ad 0), .int 0, .int 0, .ref (ad 1), .ref (ad 2), .ref (ad 3), .ref (ad 4), .int 0, .int 0, .int 0, .int 0, .ref (ad 5), .ref (ad 6), .ref (ad 7), .int 0, .int 0, .int 0, .int 0, .int 0, .int 0, .int 0, .ref (ad 8), .int 0, .ref (ad 9), .int 0, .ref (ad 10), .ref (ad 11), .int 1, .ref (ad 12), .ref (ad 13), .int 0, .int 0, .ref (ad 14), .ref (ad 15), .ref (ad 16), .ref (ad 17), .ref (ad 18), .int 0, .ref (ad 19), .long 0, .ref (ad 20), .ref (ad 21)])), ((ad 11), .inl (cy 0, 296, .inl (fun _ => 0)))] sz) := by
  refine Met.ofW (cc := cX12_count) (maxL := 2) (ret := (some .int)) (by decide) rfl ?_
  intro p e s m args below meth c s₁ B hml hv
  obtain ⟨rfl, hsz, hP, hK, hD0⟩ := hv
  have hx := B.exec
  have hb := B.bytes
  have hr := B.returns
  have hlocks := B.notSynchronized
  have hC : CallFix p m c cX12_count 2 s _ wsX12_count RX12 := ⟨hx, hb, hml, findClass_of_methodNamed B.named, atoms_spec (ws := wsX12_count) B.pre⟩
  subst hsz
  have hD := hD0.self (sz := s.heap.size)
  generalize hAe : va_A [(av0, .inr (12, [.ref (ad 0), .int 0, .int 0, .ref (ad 1), .ref (ad 2), .ref (ad 3), .ref (ad 4), .int 0, .int 0, .int 0, .int 0, .ref (ad 5), .ref (ad 6), .ref (ad 7), .int 0, .int 0, .int 0, .int 0, .int 0, .int 0, .int 0, .ref (ad 8), .int 0, .ref (ad 9), .int 0, .ref (ad 10), .ref (ad 11), .int 1, .ref (ad 12), .ref (ad 13), .int 0, .int 0, .ref (ad 14), .ref (ad 15), .ref (ad 16), .ref (ad 17), .ref (ad 18), .int 0, .ref (ad 19), .long 0, .ref (ad 20), .ref (ad 21)])), ((ad 11), .inl (cy 0, 296, .inl (fun _ => 0)))] s.heap.size = A at hD ⊢
  have hA : ∀ q : Nat, s.heap.size ≤ q → A q := fun q h => by rw [← hAe]; exact Or.inr h
  have hw : Wd dC dI A s.heap s.heap [] [(av0, .inr (12, [.ref (ad 0), .int 0, .int 0, .ref (ad 1), .ref (ad 2), .ref (ad 3), .ref (ad 4), .int 0, .int 0, .int 0, .int 0, .ref (ad 5), .ref (ad 6), .ref (ad 7), .int 0, .int 0, .int 0, .int 0, .int 0, .int 0, .int 0, .ref (ad 8), .int 0, .ref (ad 9), .int 0, .ref (ad 10), .ref (ad 11), .int 1, .ref (ad 12), .ref (ad 13), .int 0, .int 0, .ref (ad 14), .ref (ad 15), .ref (ad 16), .ref (ad 17), .ref (ad 18), .int 0, .ref (ad 19), .long 0, .ref (ad 20), .ref (ad 21)])), ((ad 11), .inl (cy 0, 296, .inl (fun _ => 0)))] := ⟨hP, hD, va_S.rf⟩
  have hl := lv_entry ([.ref av0, .int 3]) (n := 2) (Nat.le_of_ble_eq_true rfl)
  rw [lg_entry_eq]
  generalize (lg_sl ([.ref av0, .int 3]) ++ List.replicate (2 - (lg_sl ([.ref av0, .int 3])).length) Slot.unset).toArray = ls at hl ⊢
  have hl : lv_has ls 2 [(0, .ref av0), (1, .int 3)] := hl
  have hinX12 : ∀ w ∈ u_ws RX12 TX12 42, w ∈ wsX12_count := fun _ h => List.mem_cons_of_mem _ (List.mem_append_right _ (h))
  refine lv_iload_n hx hb dX12_count_0 rfl (lv_at hl 1 rfl) ?_
  refine lv_tableIn (off := 63) (tgt := 64) hx hb dX12_count_1 (by decide) (by decide) rfl (by decide) ?_
  refine lv_aload_n hx hb dX12_count_64 rfl (lv_at hl 0 rfl) ?_
  refine wk_get hC hK hw hinX12 0 rfl rfl 26 (by decide) (List.mem_of_getElem? (i := 1) rfl) rfl rfl dX12_count_65 ?_
  refine lv_iload_n hx hb dX12_count_68 rfl (lv_at hl 1 rfl) ?_
  refine wk_iald hC hK hw 1 rfl (show ¬ ((3 : Int32) < 0 ∨ 296 ≤ (3 : Int32).toNatClampNeg) by decide) dX12_count_69 ?_
  refine wk_top 0 rfl ?_
  exact wk_iret (v := 0) hC hr hlocks hK ((fun _ => 0), (fun _ _ => 0)) rfl [0, 1] rfl rfl hw dX12_count_70

set_option maxHeartbeats 4000000 in
set_option maxRecDepth 100000 in
theorem t_X12_count_5 (l : Launch) (dC : Nat → ClassId) (dI : Nat → Nat → Nat) (cy : Nat → ClassId) (av0 : Nat) (ad : Nat → Nat) (sz : Nat)  : Met l yX12_count wsX12_count ({ frames := 0, cells := 0, slots := 0, locals := 0 }) (va_Pc [.ref av0, .int 4] (wpre dC dI cy sz [(av0, .inr (12, [.ref (ad 0), .int 0, .int 0, .ref (ad 1), .ref (ad 2), .ref (ad 3), .ref (ad 4), .int 0, .int 0, .int 0, .int 0, .ref (ad 5), .ref (ad 6), .ref (ad 7), .int 0, .int 0, .int 0, .int 0, .int 0, .int 0, .int 0, .ref (ad 8), .int 0, .ref (ad 9), .int 0, .ref (ad 10), .ref (ad 11), .int 1, .ref (ad 12), .ref (ad 13), .int 0, .int 0, .ref (ad 14), .ref (ad 15), .ref (ad 16), .ref (ad 17), .ref (ad 18), .int 0, .ref (ad 19), .long 0, .ref (ad 20), .ref (ad 21)]))])) (va_Qi (fun (r : Int32) (_ : ((Nat → Nat) × (Nat → Nat → Int32))) => r = 0) (fun u => wpost dC dI cy (va_A [(av0, .inr (12, [.ref (ad 0), .int 0, .int 0, .ref (ad 1), .ref (ad 2), .ref (ad 3), .ref (ad 4), .int 0, .int 0, .int 0, .int 0, .ref (ad 5), .ref (ad 6), .ref (ad 7), .int 0, .int 0, .int 0, .int 0, .int 0, .int 0, .int 0, .ref (ad 8), .int 0, .ref (ad 9), .int 0, .ref (ad 10), .ref (ad 11), .int 1, .ref (ad 12), .ref (ad 13), .int 0, .int 0, .ref (ad 14), .ref (ad 15), .ref (ad 16), .ref (ad 17), .ref (ad 18), .int 0, .ref (ad 19), .long 0, .ref (ad 20), .ref (ad 21)]))] sz) [(av0, .inr (12, [.ref (ad 0), .int 0, .int 0, .ref (ad 1), .ref (ad 2), .ref (ad 3), .ref (ad 4), .int 0, .int 0, .int 0, .int 0, .ref (ad 5), .ref (ad 6), .ref (ad 7), .int 0, .int 0, .int 0, .int 0, .int 0, .int 0, .int 0, .ref (ad 8), .int 0, .ref (ad 9), .int 0, .ref (ad 10), .ref (ad 11), .int 1, .ref (ad 12), .ref (ad 13), .int 0, .int 0, .ref (ad 14), .ref (ad 15), .ref (ad 16), .ref (ad 17), .ref (ad 18), .int 0, .ref (ad 19), .long 0, .ref (ad 20), .ref (ad 21)]))]) (va_A [(av0, .inr (12, [.ref (ad 0), .int 0, .int 0, .ref (ad 1), .ref (ad 2), .ref (ad 3), .ref (ad 4), .int 0, .int 0, .int 0, .int 0, .ref (ad 5), .ref (ad 6), .ref (ad 7), .int 0, .int 0, .int 0, .int 0, .int 0, .int 0, .int 0, .ref (ad 8), .int 0, .ref (ad 9), .int 0, .ref (ad 10), .ref (ad 11), .int 1, .ref (ad 12), .ref (ad 13), .int 0, .int 0, .ref (ad 14), .ref (ad 15), .ref (ad 16), .ref (ad 17), .ref (ad 18), .int 0, .ref (ad 19), .long 0, .ref (ad 20), .ref (ad 21)]))] sz)) 0 0 (va_A [(av0, .inr (12, [.ref (ad 0), .int 0, .int 0, .ref (ad 1), .ref (ad 2), .ref (ad 3), .ref (ad 4), .int 0, .int 0, .int 0, .int 0, .ref (ad 5), .ref (ad 6), .ref (ad 7), .int 0, .int 0, .int 0, .int 0, .int 0, .int 0, .int 0, .ref (ad 8), .int 0, .ref (ad 9), .int 0, .ref (ad 10), .ref (ad 11), .int 1, .ref (ad 12), .ref (ad 13), .int 0, .int 0, .ref (ad 14), .ref (ad 15), .ref (ad 16), .ref (ad 17), .ref (ad 18), .int 0, .ref (ad 19), .long 0, .ref (ad 20), .ref (ad 21)]))] sz) := by
  refine Met.ofW (cc := cX12_count) (maxL := 2) (ret := (some .int)) (by decide) rfl ?_
  intro p e s m args below meth c s₁ B hml hv
  obtain ⟨rfl, hsz, hP, hK, hD0⟩ := hv
  have hx := B.exec
  have hb := B.bytes
  have hr := B.returns
  have hlocks := B.notSynchronized
  have hC : CallFix p m c cX12_count 2 s _ wsX12_count RX12 := ⟨hx, hb, hml, findClass_of_methodNamed B.named, atoms_spec (ws := wsX12_count) B.pre⟩
  subst hsz
  have hD := hD0.self (sz := s.heap.size)
  generalize hAe : va_A [(av0, .inr (12, [.ref (ad 0), .int 0, .int 0, .ref (ad 1), .ref (ad 2), .ref (ad 3), .ref (ad 4), .int 0, .int 0, .int 0, .int 0, .ref (ad 5), .ref (ad 6), .ref (ad 7), .int 0, .int 0, .int 0, .int 0, .int 0, .int 0, .int 0, .ref (ad 8), .int 0, .ref (ad 9), .int 0, .ref (ad 10), .ref (ad 11), .int 1, .ref (ad 12), .ref (ad 13), .int 0, .int 0, .ref (ad 14), .ref (ad 15), .ref (ad 16), .ref (ad 17), .ref (ad 18), .int 0, .ref (ad 19), .long 0, .ref (ad 20), .ref (ad 21)]))] s.heap.size = A at hD ⊢
  have hA : ∀ q : Nat, s.heap.size ≤ q → A q := fun q h => by rw [← hAe]; exact Or.inr h
  have hw : Wd dC dI A s.heap s.heap [] [(av0, .inr (12, [.ref (ad 0), .int 0, .int 0, .ref (ad 1), .ref (ad 2), .ref (ad 3), .ref (ad 4), .int 0, .int 0, .int 0, .int 0, .ref (ad 5), .ref (ad 6), .ref (ad 7), .int 0, .int 0, .int 0, .int 0, .int 0, .int 0, .int 0, .ref (ad 8), .int 0, .ref (ad 9), .int 0, .ref (ad 10), .ref (ad 11), .int 1, .ref (ad 12), .ref (ad 13), .int 0, .int 0, .ref (ad 14), .ref (ad 15), .ref (ad 16), .ref (ad 17), .ref (ad 18), .int 0, .ref (ad 19), .long 0, .ref (ad 20), .ref (ad 21)]))] := ⟨hP, hD, va_S.rf⟩
  have hl := lv_entry ([.ref av0, .int 4]) (n := 2) (Nat.le_of_ble_eq_true rfl)
  rw [lg_entry_eq]
  generalize (lg_sl ([.ref av0, .int 4]) ++ List.replicate (2 - (lg_sl ([.ref av0, .int 4])).length) Slot.unset).toArray = ls at hl ⊢
  have hl : lv_has ls 2 [(0, .ref av0), (1, .int 4)] := hl
  have hinX12 : ∀ w ∈ u_ws RX12 TX12 42, w ∈ wsX12_count := fun _ h => List.mem_cons_of_mem _ (List.mem_append_right _ (h))
  refine lv_iload_n hx hb dX12_count_0 rfl (lv_at hl 1 rfl) ?_
  refine lv_tableIn (off := 70) (tgt := 71) hx hb dX12_count_1 (by decide) (by decide) rfl (by decide) ?_
  refine lv_aload_n hx hb dX12_count_71 rfl (lv_at hl 0 rfl) ?_
  refine wk_get hC hK hw hinX12 0 rfl rfl 2 (by decide) (List.mem_of_getElem? (i := 2) rfl) rfl rfl dX12_count_72 ?_
  exact wk_iret (v := 0) hC hr hlocks hK ((fun _ => 0), (fun _ _ => 0)) rfl [0] rfl rfl hw dX12_count_75

set_option maxHeartbeats 4000000 in
set_option maxRecDepth 100000 in
theorem t_X12_count_6 (l : Launch) (dC : Nat → ClassId) (dI : Nat → Nat → Nat) (cy : Nat → ClassId) (av0 : Nat) (ad : Nat → Nat) (sz : Nat)  : Met l yX12_count wsX12_count ({ frames := 0, cells := 0, slots := 0, locals := 0 }) (va_Pc [.ref av0, .int 5] (wpre dC dI cy sz [(av0, .inr (12, [.ref (ad 0), .int 0, .int 0, .ref (ad 1), .ref (ad 2), .ref (ad 3), .ref (ad 4), .int 0, .int 0, .int 0, .int 0, .ref (ad 5), .ref (ad 6), .ref (ad 7), .int 0, .int 0, .int 0, .int 0, .int 0, .int 0, .int 0, .ref (ad 8), .int 0, .ref (ad 9), .int 0, .ref (ad 10), .ref (ad 11), .int 1, .ref (ad 12), .ref (ad 13), .int 0, .int 0, .ref (ad 14), .ref (ad 15), .ref (ad 16), .ref (ad 17), .ref (ad 18), .int 0, .ref (ad 19), .long 0, .ref (ad 20), .ref (ad 21)])), ((ad 11), .inl (cy 0, 296, .inl (fun _ => 0)))])) (va_Qi (fun (r : Int32) (_ : ((Nat → Nat) × (Nat → Nat → Int32))) => r = 0) (fun u => wpost dC dI cy (va_A [(av0, .inr (12, [.ref (ad 0), .int 0, .int 0, .ref (ad 1), .ref (ad 2), .ref (ad 3), .ref (ad 4), .int 0, .int 0, .int 0, .int 0, .ref (ad 5), .ref (ad 6), .ref (ad 7), .int 0, .int 0, .int 0, .int 0, .int 0, .int 0, .int 0, .ref (ad 8), .int 0, .ref (ad 9), .int 0, .ref (ad 10), .ref (ad 11), .int 1, .ref (ad 12), .ref (ad 13), .int 0, .int 0, .ref (ad 14), .ref (ad 15), .ref (ad 16), .ref (ad 17), .ref (ad 18), .int 0, .ref (ad 19), .long 0, .ref (ad 20), .ref (ad 21)])), ((ad 11), .inl (cy 0, 296, .inl (fun _ => 0)))] sz) [(av0, .inr (12, [.ref (ad 0), .int 0, .int 0, .ref (ad 1), .ref (ad 2), .ref (ad 3), .ref (ad 4), .int 0, .int 0, .int 0, .int 0, .ref (ad 5), .ref (ad 6), .ref (ad 7), .int 0, .int 0, .int 0, .int 0, .int 0, .int 0, .int 0, .ref (ad 8), .int 0, .ref (ad 9), .int 0, .ref (ad 10), .ref (ad 11), .int 1, .ref (ad 12), .ref (ad 13), .int 0, .int 0, .ref (ad 14), .ref (ad 15), .ref (ad 16), .ref (ad 17), .ref (ad 18), .int 0, .ref (ad 19), .long 0, .ref (ad 20), .ref (ad 21)])), ((ad 11), .inl (cy 0, 296, .inl (fun _ => 0)))]) (va_A [(av0, .inr (12, [.ref (ad 0), .int 0, .int 0, .ref (ad 1), .ref (ad 2), .ref (ad 3), .ref (ad 4), .int 0, .int 0, .int 0, .int 0, .ref (ad 5), .ref (ad 6), .ref (ad 7), .int 0, .int 0, .int 0, .int 0, .int 0, .int 0, .int 0, .ref (ad 8), .int 0, .ref (ad 9), .int 0, .ref (ad 10), .ref (ad 11), .int 1, .ref (ad 12), .ref (ad 13), .int 0, .int 0, .ref (ad 14), .ref (ad 15), .ref (ad 16), .ref (ad 17), .ref (ad 18), .int 0, .ref (ad 19), .long 0, .ref (ad 20), .ref (ad 21)])), ((ad 11), .inl (cy 0, 296, .inl (fun _ => 0)))] sz)) 0 0 (va_A [(av0, .inr (12, [.ref (ad 0), .int 0, .int 0, .ref (ad 1), .ref (ad 2), .ref (ad 3), .ref (ad 4), .int 0, .int 0, .int 0, .int 0, .ref (ad 5), .ref (ad 6), .ref (ad 7), .int 0, .int 0, .int 0, .int 0, .int 0, .int 0, .int 0, .ref (ad 8), .int 0, .ref (ad 9), .int 0, .ref (ad 10), .ref (ad 11), .int 1, .ref (ad 12), .ref (ad 13), .int 0, .int 0, .ref (ad 14), .ref (ad 15), .ref (ad 16), .ref (ad 17), .ref (ad 18), .int 0, .ref (ad 19), .long 0, .ref (ad 20), .ref (ad 21)])), ((ad 11), .inl (cy 0, 296, .inl (fun _ => 0)))] sz) := by
  refine Met.ofW (cc := cX12_count) (maxL := 2) (ret := (some .int)) (by decide) rfl ?_
  intro p e s m args below meth c s₁ B hml hv
  obtain ⟨rfl, hsz, hP, hK, hD0⟩ := hv
  have hx := B.exec
  have hb := B.bytes
  have hr := B.returns
  have hlocks := B.notSynchronized
  have hC : CallFix p m c cX12_count 2 s _ wsX12_count RX12 := ⟨hx, hb, hml, findClass_of_methodNamed B.named, atoms_spec (ws := wsX12_count) B.pre⟩
  subst hsz
  have hD := hD0.self (sz := s.heap.size)
  generalize hAe : va_A [(av0, .inr (12, [.ref (ad 0), .int 0, .int 0, .ref (ad 1), .ref (ad 2), .ref (ad 3), .ref (ad 4), .int 0, .int 0, .int 0, .int 0, .ref (ad 5), .ref (ad 6), .ref (ad 7), .int 0, .int 0, .int 0, .int 0, .int 0, .int 0, .int 0, .ref (ad 8), .int 0, .ref (ad 9), .int 0, .ref (ad 10), .ref (ad 11), .int 1, .ref (ad 12), .ref (ad 13), .int 0, .int 0, .ref (ad 14), .ref (ad 15), .ref (ad 16), .ref (ad 17), .ref (ad 18), .int 0, .ref (ad 19), .long 0, .ref (ad 20), .ref (ad 21)])), ((ad 11), .inl (cy 0, 296, .inl (fun _ => 0)))] s.heap.size = A at hD ⊢
  have hA : ∀ q : Nat, s.heap.size ≤ q → A q := fun q h => by rw [← hAe]; exact Or.inr h
  have hw : Wd dC dI A s.heap s.heap [] [(av0, .inr (12, [.ref (ad 0), .int 0, .int 0, .ref (ad 1), .ref (ad 2), .ref (ad 3), .ref (ad 4), .int 0, .int 0, .int 0, .int 0, .ref (ad 5), .ref (ad 6), .ref (ad 7), .int 0, .int 0, .int 0, .int 0, .int 0, .int 0, .int 0, .ref (ad 8), .int 0, .ref (ad 9), .int 0, .ref (ad 10), .ref (ad 11), .int 1, .ref (ad 12), .ref (ad 13), .int 0, .int 0, .ref (ad 14), .ref (ad 15), .ref (ad 16), .ref (ad 17), .ref (ad 18), .int 0, .ref (ad 19), .long 0, .ref (ad 20), .ref (ad 21)])), ((ad 11), .inl (cy 0, 296, .inl (fun _ => 0)))] := ⟨hP, hD, va_S.rf⟩
  have hl := lv_entry ([.ref av0, .int 5]) (n := 2) (Nat.le_of_ble_eq_true rfl)
  rw [lg_entry_eq]
  generalize (lg_sl ([.ref av0, .int 5]) ++ List.replicate (2 - (lg_sl ([.ref av0, .int 5])).length) Slot.unset).toArray = ls at hl ⊢
  have hl : lv_has ls 2 [(0, .ref av0), (1, .int 5)] := hl
  have hinX12 : ∀ w ∈ u_ws RX12 TX12 42, w ∈ wsX12_count := fun _ h => List.mem_cons_of_mem _ (List.mem_append_right _ (h))
  refine lv_iload_n hx hb dX12_count_0 rfl (lv_at hl 1 rfl) ?_
  refine lv_tableIn (off := 75) (tgt := 76) hx hb dX12_count_1 (by decide) (by decide) rfl (by decide) ?_
  refine lv_aload_n hx hb dX12_count_76 rfl (lv_at hl 0 rfl) ?_
  refine wk_get hC hK hw hinX12 0 rfl rfl 26 (by decide) (List.mem_of_getElem? (i := 1) rfl) rfl rfl dX12_count_77 ?_
  refine lv_iload_n hx hb dX12_count_80 rfl (lv_at hl 1 rfl) ?_
  refine lv_iconst (v := 1) hx hb dX12_count_81 (by decide) ?_
  refine lv_isub hx hb dX12_count_82 ?_
  refine wk_top 4 (by decide) ?_
  refine wk_iald hC hK hw 1 rfl (show ¬ ((4 : Int32) < 0 ∨ 296 ≤ (4 : Int32).toNatClampNeg) by decide) dX12_count_83 ?_
  refine wk_top 0 rfl ?_
  exact wk_iret (v := 0) hC hr hlocks hK ((fun _ => 0), (fun _ _ => 0)) rfl [0, 1] rfl rfl hw dX12_count_84

set_option maxHeartbeats 4000000 in
set_option maxRecDepth 100000 in
theorem t_X12_count_7 (l : Launch) (dC : Nat → ClassId) (dI : Nat → Nat → Nat) (cy : Nat → ClassId) (av0 : Nat) (ad : Nat → Nat) (sz : Nat)  : Met l yX12_count wsX12_count ({ frames := 0, cells := 0, slots := 0, locals := 0 }) (va_Pc [.ref av0, .int 6] (wpre dC dI cy sz [(av0, .inr (12, [.ref (ad 0), .int 0, .int 0, .ref (ad 1), .ref (ad 2), .ref (ad 3), .ref (ad 4), .int 0, .int 0, .int 0, .int 0, .ref (ad 5), .ref (ad 6), .ref (ad 7), .int 0, .int 0, .int 0, .int 0, .int 0, .int 0, .int 0, .ref (ad 8), .int 0, .ref (ad 9), .int 0, .ref (ad 10), .ref (ad 11), .int 1, .ref (ad 12), .ref (ad 13), .int 0, .int 0, .ref (ad 14), .ref (ad 15), .ref (ad 16), .ref (ad 17), .ref (ad 18), .int 0, .ref (ad 19), .long 0, .ref (ad 20), .ref (ad 21)])), ((ad 11), .inl (cy 0, 296, .inl (fun _ => 0)))])) (va_Qi (fun (r : Int32) (_ : ((Nat → Nat) × (Nat → Nat → Int32))) => r = 0) (fun u => wpost dC dI cy (va_A [(av0, .inr (12, [.ref (ad 0), .int 0, .int 0, .ref (ad 1), .ref (ad 2), .ref (ad 3), .ref (ad 4), .int 0, .int 0, .int 0, .int 0, .ref (ad 5), .ref (ad 6), .ref (ad 7), .int 0, .int 0, .int 0, .int 0, .int 0, .int 0, .int 0, .ref (ad 8), .int 0, .ref (ad 9), .int 0, .ref (ad 10), .ref (ad 11), .int 1, .ref (ad 12), .ref (ad 13), .int 0, .int 0, .ref (ad 14), .ref (ad 15), .ref (ad 16), .ref (ad 17), .ref (ad 18), .int 0, .ref (ad 19), .long 0, .ref (ad 20), .ref (ad 21)])), ((ad 11), .inl (cy 0, 296, .inl (fun _ => 0)))] sz) [(av0, .inr (12, [.ref (ad 0), .int 0, .int 0, .ref (ad 1), .ref (ad 2), .ref (ad 3), .ref (ad 4), .int 0, .int 0, .int 0, .int 0, .ref (ad 5), .ref (ad 6), .ref (ad 7), .int 0, .int 0, .int 0, .int 0, .int 0, .int 0, .int 0, .ref (ad 8), .int 0, .ref (ad 9), .int 0, .ref (ad 10), .ref (ad 11), .int 1, .ref (ad 12), .ref (ad 13), .int 0, .int 0, .ref (ad 14), .ref (ad 15), .ref (ad 16), .ref (ad 17), .ref (ad 18), .int 0, .ref (ad 19), .long 0, .ref (ad 20), .ref (ad 21)])), ((ad 11), .inl (cy 0, 296, .inl (fun _ => 0)))]) (va_A [(av0, .inr (12, [.ref (ad 0), .int 0, .int 0, .ref (ad 1), .ref (ad 2), .ref (ad 3), .ref (ad 4), .int 0, .int 0, .int 0, .int 0, .ref (ad 5), .ref (ad 6), .ref (ad 7), .int 0, .int 0, .int 0, .int 0, .int 0, .int 0, .int 0, .ref (ad 8), .int 0, .ref (ad 9), .int 0, .ref (ad 10), .ref (ad 11), .int 1, .ref (ad 12), .ref (ad 13), .int 0, .int 0, .ref (ad 14), .ref (ad 15), .ref (ad 16), .ref (ad 17), .ref (ad 18), .int 0, .ref (ad 19), .long 0, .ref (ad 20), .ref (ad 21)])), ((ad 11), .inl (cy 0, 296, .inl (fun _ => 0)))] sz)) 0 0 (va_A [(av0, .inr (12, [.ref (ad 0), .int 0, .int 0, .ref (ad 1), .ref (ad 2), .ref (ad 3), .ref (ad 4), .int 0, .int 0, .int 0, .int 0, .ref (ad 5), .ref (ad 6), .ref (ad 7), .int 0, .int 0, .int 0, .int 0, .int 0, .int 0, .int 0, .ref (ad 8), .int 0, .ref (ad 9), .int 0, .ref (ad 10), .ref (ad 11), .int 1, .ref (ad 12), .ref (ad 13), .int 0, .int 0, .ref (ad 14), .ref (ad 15), .ref (ad 16), .ref (ad 17), .ref (ad 18), .int 0, .ref (ad 19), .long 0, .ref (ad 20), .ref (ad 21)])), ((ad 11), .inl (cy 0, 296, .inl (fun _ => 0)))] sz) := by
  refine Met.ofW (cc := cX12_count) (maxL := 2) (ret := (some .int)) (by decide) rfl ?_
  intro p e s m args below meth c s₁ B hml hv
  obtain ⟨rfl, hsz, hP, hK, hD0⟩ := hv
  have hx := B.exec
  have hb := B.bytes
  have hr := B.returns
  have hlocks := B.notSynchronized
  have hC : CallFix p m c cX12_count 2 s _ wsX12_count RX12 := ⟨hx, hb, hml, findClass_of_methodNamed B.named, atoms_spec (ws := wsX12_count) B.pre⟩
  subst hsz
  have hD := hD0.self (sz := s.heap.size)
  generalize hAe : va_A [(av0, .inr (12, [.ref (ad 0), .int 0, .int 0, .ref (ad 1), .ref (ad 2), .ref (ad 3), .ref (ad 4), .int 0, .int 0, .int 0, .int 0, .ref (ad 5), .ref (ad 6), .ref (ad 7), .int 0, .int 0, .int 0, .int 0, .int 0, .int 0, .int 0, .ref (ad 8), .int 0, .ref (ad 9), .int 0, .ref (ad 10), .ref (ad 11), .int 1, .ref (ad 12), .ref (ad 13), .int 0, .int 0, .ref (ad 14), .ref (ad 15), .ref (ad 16), .ref (ad 17), .ref (ad 18), .int 0, .ref (ad 19), .long 0, .ref (ad 20), .ref (ad 21)])), ((ad 11), .inl (cy 0, 296, .inl (fun _ => 0)))] s.heap.size = A at hD ⊢
  have hA : ∀ q : Nat, s.heap.size ≤ q → A q := fun q h => by rw [← hAe]; exact Or.inr h
  have hw : Wd dC dI A s.heap s.heap [] [(av0, .inr (12, [.ref (ad 0), .int 0, .int 0, .ref (ad 1), .ref (ad 2), .ref (ad 3), .ref (ad 4), .int 0, .int 0, .int 0, .int 0, .ref (ad 5), .ref (ad 6), .ref (ad 7), .int 0, .int 0, .int 0, .int 0, .int 0, .int 0, .int 0, .ref (ad 8), .int 0, .ref (ad 9), .int 0, .ref (ad 10), .ref (ad 11), .int 1, .ref (ad 12), .ref (ad 13), .int 0, .int 0, .ref (ad 14), .ref (ad 15), .ref (ad 16), .ref (ad 17), .ref (ad 18), .int 0, .ref (ad 19), .long 0, .ref (ad 20), .ref (ad 21)])), ((ad 11), .inl (cy 0, 296, .inl (fun _ => 0)))] := ⟨hP, hD, va_S.rf⟩
  have hl := lv_entry ([.ref av0, .int 6]) (n := 2) (Nat.le_of_ble_eq_true rfl)
  rw [lg_entry_eq]
  generalize (lg_sl ([.ref av0, .int 6]) ++ List.replicate (2 - (lg_sl ([.ref av0, .int 6])).length) Slot.unset).toArray = ls at hl ⊢
  have hl : lv_has ls 2 [(0, .ref av0), (1, .int 6)] := hl
  have hinX12 : ∀ w ∈ u_ws RX12 TX12 42, w ∈ wsX12_count := fun _ h => List.mem_cons_of_mem _ (List.mem_append_right _ (h))
  refine lv_iload_n hx hb dX12_count_0 rfl (lv_at hl 1 rfl) ?_
  refine lv_tableIn (off := 75) (tgt := 76) hx hb dX12_count_1 (by decide) (by decide) rfl (by decide) ?_
  refine lv_aload_n hx hb dX12_count_76 rfl (lv_at hl 0 rfl) ?_
  refine wk_get hC hK hw hinX12 0 rfl rfl 26 (by decide) (List.mem_of_getElem? (i := 1) rfl) rfl rfl dX12_count_77 ?_
  refine lv_iload_n hx hb dX12_count_80 rfl (lv_at hl 1 rfl) ?_
  refine lv_iconst (v := 1) hx hb dX12_count_81 (by decide) ?_
  refine lv_isub hx hb dX12_count_82 ?_
  refine wk_top 5 (by decide) ?_
  refine wk_iald hC hK hw 1 rfl (show ¬ ((5 : Int32) < 0 ∨ 296 ≤ (5 : Int32).toNatClampNeg) by decide) dX12_count_83 ?_
  refine wk_top 0 rfl ?_
  exact wk_iret (v := 0) hC hr hlocks hK ((fun _ => 0), (fun _ _ => 0)) rfl [0, 1] rfl rfl hw dX12_count_84

set_option maxHeartbeats 4000000 in
set_option maxRecDepth 100000 in
theorem t_X12_count_8 (l : Launch) (dC : Nat → ClassId) (dI : Nat → Nat → Nat) (cy : Nat → ClassId) (av0 : Nat) (ad : Nat → Nat) (sz : Nat)  : Met l yX12_count wsX12_count ({ frames := 0, cells := 0, slots := 0, locals := 0 }) (va_Pc [.ref av0, .int 7] (wpre dC dI cy sz [(av0, .inr (12, [.ref (ad 0), .int 0, .int 0, .ref (ad 1), .ref (ad 2), .ref (ad 3), .ref (ad 4), .int 0, .int 0, .int 0, .int 0, .ref (ad 5), .ref (ad 6), .ref (ad 7), .int 0, .int 0, .int 0, .int 0, .int 0, .int 0, .int 0, .ref (ad 8), .int 0, .ref (ad 9), .int 0, .ref (ad 10), .ref (ad 11), .int 1, .ref (ad 12), .ref (ad 13), .int 0, .int 0, .ref (ad 14), .ref (ad 15), .ref (ad 16), .ref (ad 17), .ref (ad 18), .int 0, .ref (ad 19), .long 0, .ref (ad 20), .ref (ad 21)])), ((ad 11), .inl (cy 0, 296, .inl (fun _ => 0)))])) (va_Qi (fun (r : Int32) (_ : ((Nat → Nat) × (Nat → Nat → Int32))) => r = 0) (fun u => wpost dC dI cy (va_A [(av0, .inr (12, [.ref (ad 0), .int 0, .int 0, .ref (ad 1), .ref (ad 2), .ref (ad 3), .ref (ad 4), .int 0, .int 0, .int 0, .int 0, .ref (ad 5), .ref (ad 6), .ref (ad 7), .int 0, .int 0, .int 0, .int 0, .int 0, .int 0, .int 0, .ref (ad 8), .int 0, .ref (ad 9), .int 0, .ref (ad 10), .ref (ad 11), .int 1, .ref (ad 12), .ref (ad 13), .int 0, .int 0, .ref (ad 14), .ref (ad 15), .ref (ad 16), .ref (ad 17), .ref (ad 18), .int 0, .ref (ad 19), .long 0, .ref (ad 20), .ref (ad 21)])), ((ad 11), .inl (cy 0, 296, .inl (fun _ => 0)))] sz) [(av0, .inr (12, [.ref (ad 0), .int 0, .int 0, .ref (ad 1), .ref (ad 2), .ref (ad 3), .ref (ad 4), .int 0, .int 0, .int 0, .int 0, .ref (ad 5), .ref (ad 6), .ref (ad 7), .int 0, .int 0, .int 0, .int 0, .int 0, .int 0, .int 0, .ref (ad 8), .int 0, .ref (ad 9), .int 0, .ref (ad 10), .ref (ad 11), .int 1, .ref (ad 12), .ref (ad 13), .int 0, .int 0, .ref (ad 14), .ref (ad 15), .ref (ad 16), .ref (ad 17), .ref (ad 18), .int 0, .ref (ad 19), .long 0, .ref (ad 20), .ref (ad 21)])), ((ad 11), .inl (cy 0, 296, .inl (fun _ => 0)))]) (va_A [(av0, .inr (12, [.ref (ad 0), .int 0, .int 0, .ref (ad 1), .ref (ad 2), .ref (ad 3), .ref (ad 4), .int 0, .int 0, .int 0, .int 0, .ref (ad 5), .ref (ad 6), .ref (ad 7), .int 0, .int 0, .int 0, .int 0, .int 0, .int 0, .int 0, .ref (ad 8), .int 0, .ref (ad 9), .int 0, .ref (ad 10), .ref (ad 11), .int 1, .ref (ad 12), .ref (ad 13), .int 0, .int 0, .ref (ad 14), .ref (ad 15), .ref (ad 16), .ref (ad 17), .ref (ad 18), .int 0, .ref (ad 19), .long 0, .ref (ad 20), .ref (ad 21)])), ((ad 11), .inl (cy 0, 296, .inl (fun _ => 0)))] sz)) 0 0 (va_A [(av0, .inr (12, [.ref (ad 0), .int 0, .int 0, .ref (ad 1), .ref (ad 2), .ref (ad 3), .ref (ad 4), .int 0, .int 0, .int 0, .int 0, .ref (ad 5), .ref (ad 6), .ref (ad 7), .int 0, .int 0, .int 0, .int 0, .int 0, .int 0, .int 0, .ref (ad 8), .int 0, .ref (ad 9), .int 0, .ref (ad 10), .ref (ad 11), .int 1, .ref (ad 12), .ref (ad 13), .int 0, .int 0, .ref (ad 14), .ref (ad 15), .ref (ad 16), .ref (ad 17), .ref (ad 18), .int 0, .ref (ad 19), .long 0, .ref (ad 20), .ref (ad 21)])), ((ad 11), .inl (cy 0, 296, .inl (fun _ => 0)))] sz) := by
  refine Met.ofW (cc := cX12_count) (maxL := 2) (ret := (some .int)) (by decide) rfl ?_
  intro p e s m args below meth c s₁ B hml hv
  obtain ⟨rfl, hsz, hP, hK, hD0⟩ := hv
  have hx := B.exec
  have hb := B.bytes
  have hr := B.returns
  have hlocks := B.notSynchronized
  have hC : CallFix p m c cX12_count 2 s _ wsX12_count RX12 := ⟨hx, hb, hml, findClass_of_methodNamed B.named, atoms_spec (ws := wsX12_count) B.pre⟩
  subst hsz
  have hD := hD0.self (sz := s.heap.size)
  generalize hAe : va_A [(av0, .inr (12, [.ref (ad 0), .int 0, .int 0, .ref (ad 1), .ref (ad 2), .ref (ad 3), .ref (ad 4), .int 0, .int 0, .int 0, .int 0, .ref (ad 5), .ref (ad 6), .ref (ad 7), .int 0, .int 0, .int 0, .int 0, .int 0, .int 0, .int 0, .ref (ad 8), .int 0, .ref (ad 9), .int 0, .ref (ad 10), .ref (ad 11), .int 1, .ref (ad 12), .ref (ad 13), .int 0, .int 0, .ref (ad 14), .ref (ad 15), .ref (ad 16), .ref (ad 17), .ref (ad 18), .int 0, .ref (ad 19), .long 0, .ref (ad 20), .ref (ad 21)])), ((ad 11), .inl (cy 0, 296, .inl (fun _ => 0)))] s.heap.size = A at hD ⊢
  have hA : ∀ q : Nat, s.heap.size ≤ q → A q := fun q h => by rw [← hAe]; exact Or.inr h
  have hw : Wd dC dI A s.heap s.heap [] [(av0, .inr (12, [.ref (ad 0), .int 0, .int 0, .ref (ad 1), .ref (ad 2), .ref (ad 3), .ref (ad 4), .int 0, .int 0, .int 0, .int 0, .ref (ad 5), .ref (ad 6), .ref (ad 7), .int 0, .int 0, .int 0, .int 0, .int 0, .int 0, .int 0, .ref (ad 8), .int 0, .ref (ad 9), .int 0, .ref (ad 10), .ref (ad 11), .int 1, .ref (ad 12), .ref (ad 13), .int 0, .int 0, .ref (ad 14), .ref (ad 15), .ref (ad 16), .ref (ad 17), .ref (ad 18), .int 0, .ref (ad 19), .long 0, .ref (ad 20), .ref (ad 21)])), ((ad 11), .inl (cy 0, 296, .inl (fun _ => 0)))] := ⟨hP, hD, va_S.rf⟩
  have hl := lv_entry ([.ref av0, .int 7]) (n := 2) (Nat.le_of_ble_eq_true rfl)
  rw [lg_entry_eq]
  generalize (lg_sl ([.ref av0, .int 7]) ++ List.replicate (2 - (lg_sl ([.ref av0, .int 7])).length) Slot.unset).toArray = ls at hl ⊢
  have hl : lv_has ls 2 [(0, .ref av0), (1, .int 7)] := hl
  have hinX12 : ∀ w ∈ u_ws RX12 TX12 42, w ∈ wsX12_count := fun _ h => List.mem_cons_of_mem _ (List.mem_append_right _ (h))
  refine lv_iload_n hx hb dX12_count_0 rfl (lv_at hl 1 rfl) ?_
  refine lv_tableIn (off := 75) (tgt := 76) hx hb dX12_count_1 (by decide) (by decide) rfl (by decide) ?_
  refine lv_aload_n hx hb dX12_count_76 rfl (lv_at hl 0 rfl) ?_
  refine wk_get hC hK hw hinX12 0 rfl rfl 26 (by decide) (List.mem_of_getElem? (i := 1) rfl) rfl rfl dX12_count_77 ?_
  refine lv_iload_n hx hb dX12_count_80 rfl (lv_at hl 1 rfl) ?_
  refine lv_iconst (v := 1) hx hb dX12_count_81 (by decide) ?_
  refine lv_isub hx hb dX12_count_82 ?_
  refine wk_top 6 (by decide) ?_
  refine wk_iald hC hK hw 1 rfl (show ¬ ((6 : Int32) < 0 ∨ 296 ≤ (6 : Int32).toNatClampNeg) by decide) dX12_count_83 ?_
  refine wk_top 0 rfl ?_
  exact wk_iret (v := 0) hC hr hlocks hK ((fun _ => 0), (fun _ _ => 0)) rfl [0, 1] rfl rfl hw dX12_count_84

set_option maxHeartbeats 4000000 in
set_option maxRecDepth 100000 in
theorem t_X12_count_9 (l : Launch) (dC : Nat → ClassId) (dI : Nat → Nat → Nat) (cy : Nat → ClassId) (av0 : Nat) (ad : Nat → Nat) (sz : Nat)  : Met l yX12_count wsX12_count ({ frames := 0, cells := 0, slots := 0, locals := 0 }) (va_Pc [.ref av0, .int 8] (wpre dC dI cy sz [(av0, .inr (12, [.ref (ad 0), .int 0, .int 0, .ref (ad 1), .ref (ad 2), .ref (ad 3), .ref (ad 4), .int 0, .int 0, .int 0, .int 0, .ref (ad 5), .ref (ad 6), .ref (ad 7), .int 0, .int 0, .int 0, .int 0, .int 0, .int 0, .int 0, .ref (ad 8), .int 0, .ref (ad 9), .int 0, .ref (ad 10), .ref (ad 11), .int 1, .ref (ad 12), .ref (ad 13), .int 0, .int 0, .ref (ad 14), .ref (ad 15), .ref (ad 16), .ref (ad 17), .ref (ad 18), .int 0, .ref (ad 19), .long 0, .ref (ad 20), .ref (ad 21)])), ((ad 11), .inl (cy 0, 296, .inl (fun _ => 0)))])) (va_Qi (fun (r : Int32) (_ : ((Nat → Nat) × (Nat → Nat → Int32))) => r = 0) (fun u => wpost dC dI cy (va_A [(av0, .inr (12, [.ref (ad 0), .int 0, .int 0, .ref (ad 1), .ref (ad 2), .ref (ad 3), .ref (ad 4), .int 0, .int 0, .int 0, .int 0, .ref (ad 5), .ref (ad 6), .ref (ad 7), .int 0, .int 0, .int 0, .int 0, .int 0, .int 0, .int 0, .ref (ad 8), .int 0, .ref (ad 9), .int 0, .ref (ad 10), .ref (ad 11), .int 1, .ref (ad 12), .ref (ad 13), .int 0, .int 0, .ref (ad 14), .ref (ad 15), .ref (ad 16), .ref (ad 17), .ref (ad 18), .int 0, .ref (ad 19), .long 0, .ref (ad 20), .ref (ad 21)])), ((ad 11), .inl (cy 0, 296, .inl (fun _ => 0)))] sz) [(av0, .inr (12, [.ref (ad 0), .int 0, .int 0, .ref (ad 1), .ref (ad 2), .ref (ad 3), .ref (ad 4), .int 0, .int 0, .int 0, .int 0, .ref (ad 5), .ref (ad 6), .ref (ad 7), .int 0, .int 0, .int 0, .int 0, .int 0, .int 0, .int 0, .ref (ad 8), .int 0, .ref (ad 9), .int 0, .ref (ad 10), .ref (ad 11), .int 1, .ref (ad 12), .ref (ad 13), .int 0, .int 0, .ref (ad 14), .ref (ad 15), .ref (ad 16), .ref (ad 17), .ref (ad 18), .int 0, .ref (ad 19), .long 0, .ref (ad 20), .ref (ad 21)])), ((ad 11), .inl (cy 0, 296, .inl (fun _ => 0)))]) (va_A [(av0, .inr (12, [.ref (ad 0), .int 0, .int 0, .ref (ad 1), .ref (ad 2), .ref (ad 3), .ref (ad 4), .int 0, .int 0, .int 0, .int 0, .ref (ad 5), .ref (ad 6), .ref (ad 7), .int 0, .int 0, .int 0, .int 0, .int 0, .int 0, .int 0, .ref (ad 8), .int 0, .ref (ad 9), .int 0, .ref (ad 10), .ref (ad 11), .int 1, .ref (ad 12), .ref (ad 13), .int 0, .int 0, .ref (ad 14), .ref (ad 15), .ref (ad 16), .ref (ad 17), .ref (ad 18), .int 0, .ref (ad 19), .long 0, .ref (ad 20), .ref (ad 21)])), ((ad 11), .inl (cy 0, 296, .inl (fun _ => 0)))] sz)) 0 0 (va_A [(av0, .inr (12, [.ref (ad 0), .int 0, .int 0, .ref (ad 1), .ref (ad 2), .ref (ad 3), .ref (ad 4), .int 0, .int 0, .int 0, .int 0, .ref (ad 5), .ref (ad 6), .ref (ad 7), .int 0, .int 0, .int 0, .int 0, .int 0, .int 0, .int 0, .ref (ad 8), .int 0, .ref (ad 9), .int 0, .ref (ad 10), .ref (ad 11), .int 1, .ref (ad 12), .ref (ad 13), .int 0, .int 0, .ref (ad 14), .ref (ad 15), .ref (ad 16), .ref (ad 17), .ref (ad 18), .int 0, .ref (ad 19), .long 0, .ref (ad 20), .ref (ad 21)])), ((ad 11), .inl (cy 0, 296, .inl (fun _ => 0)))] sz) := by
  refine Met.ofW (cc := cX12_count) (maxL := 2) (ret := (some .int)) (by decide) rfl ?_
  intro p e s m args below meth c s₁ B hml hv
  obtain ⟨rfl, hsz, hP, hK, hD0⟩ := hv
  have hx := B.exec
  have hb := B.bytes
  have hr := B.returns
  have hlocks := B.notSynchronized
  have hC : CallFix p m c cX12_count 2 s _ wsX12_count RX12 := ⟨hx, hb, hml, findClass_of_methodNamed B.named, atoms_spec (ws := wsX12_count) B.pre⟩
  subst hsz
  have hD := hD0.self (sz := s.heap.size)
  generalize hAe : va_A [(av0, .inr (12, [.ref (ad 0), .int 0, .int 0, .ref (ad 1), .ref (ad 2), .ref (ad 3), .ref (ad 4), .int 0, .int 0, .int 0, .int 0, .ref (ad 5), .ref (ad 6), .ref (ad 7), .int 0, .int 0, .int 0, .int 0, .int 0, .int 0, .int 0, .ref (ad 8), .int 0, .ref (ad 9), .int 0, .ref (ad 10), .ref (ad 11), .int 1, .ref (ad 12), .ref (ad 13), .int 0, .int 0, .ref (ad 14), .ref (ad 15), .ref (ad 16), .ref (ad 17), .ref (ad 18), .int 0, .ref (ad 19), .long 0, .ref (ad 20), .ref (ad 21)])), ((ad 11), .inl (cy 0, 296, .inl (fun _ => 0)))] s.heap.size = A at hD ⊢
  have hA : ∀ q : Nat, s.heap.size ≤ q → A q := fun q h => by rw [← hAe]; exact Or.inr h
  have hw : Wd dC dI A s.heap s.heap [] [(av0, .inr (12, [.ref (ad 0), .int 0, .int 0, .ref (ad 1), .ref (ad 2), .ref (ad 3), .ref (ad 4), .int 0, .int 0, .int 0, .int 0, .ref (ad 5), .ref (ad 6), .ref (ad 7), .int 0, .int 0, .int 0, .int 0, .int 0, .int 0, .int 0, .ref (ad 8), .int 0, .ref (ad 9), .int 0, .ref (ad 10), .ref (ad 11), .int 1, .ref (ad 12), .ref (ad 13), .int 0, .int 0, .ref (ad 14), .ref (ad 15), .ref (ad 16), .ref (ad 17), .ref (ad 18), .int 0, .ref (ad 19), .long 0, .ref (ad 20), .ref (ad 21)])), ((ad 11), .inl (cy 0, 296, .inl (fun _ => 0)))] := ⟨hP, hD, va_S.rf⟩
  have hl := lv_entry ([.ref av0, .int 8]) (n := 2) (Nat.le_of_ble_eq_true rfl)
  rw [lg_entry_eq]
  generalize (lg_sl ([.ref av0, .int 8]) ++ List.replicate (2 - (lg_sl ([.ref av0, .int 8])).length) Slot.unset).toArray = ls at hl ⊢
  have hl : lv_has ls 2 [(0, .ref av0), (1, .int 8)] := hl
  have hinX12 : ∀ w ∈ u_ws RX12 TX12 42, w ∈ wsX12_count := fun _ h => List.mem_cons_of_mem _ (List.mem_append_right _ (h))
  refine lv_iload_n hx hb dX12_count_0 rfl (lv_at hl 1 rfl) ?_
  refine lv_tableIn (off := 75) (tgt := 76) hx hb dX12_count_1 (by decide) (by decide) rfl (by decide) ?_
  refine lv_aload_n hx hb dX12_count_76 rfl (lv_at hl 0 rfl) ?_
  refine wk_get hC hK hw hinX12 0 rfl rfl 26 (by decide) (List.mem_of_getElem? (i := 1) rfl) rfl rfl dX12_count_77 ?_
  refine lv_iload_n hx hb dX12_count_80 rfl (lv_at hl 1 rfl) ?_
  refine lv_iconst (v := 1) hx hb dX12_count_81 (by decide) ?_
  refine lv_isub hx hb dX12_count_82 ?_
  refine wk_top 7 (by decide) ?_
  refine wk_iald hC hK hw 1 rfl (show ¬ ((7 : Int32) < 0 ∨ 296 ≤ (7 : Int32).toNatClampNeg) by decide) dX12_count_83 ?_
  refine wk_top 0 rfl ?_
  exact wk_iret (v := 0) hC hr hlocks hK ((fun _ => 0), (fun _ _ => 0)) rfl [0, 1] rfl rfl hw dX12_count_84

set_option maxHeartbeats 4000000 in
set_option maxRecDepth 100000 in
theorem t_X12_count_10 (l : Launch) (dC : Nat → ClassId) (dI : Nat → Nat → Nat) (cy : Nat → ClassId) (av0 : Nat) (ad : Nat → Nat) (sz : Nat)  : Met l yX12_count wsX12_count ({ frames := 0, cells := 0, slots := 0, locals := 0 }) (va_Pc [.ref av0, .int 9] (wpre dC dI cy sz [(av0, .inr (12, [.ref (ad 0), .int 0, .int 0, .ref (ad 1), .ref (ad 2), .ref (ad 3), .ref (ad 4), .int 0, .int 0, .int 0, .int 0, .ref (ad 5), .ref (ad 6), .ref (ad 7), .int 0, .int 0, .int 0, .int 0, .int 0, .int 0, .int 0, .ref (ad 8), .int 0, .ref (ad 9), .int 0, .ref (ad 10), .ref (ad 11), .int 1, .ref (ad 12), .ref (ad 13), .int 0, .int 0, .ref (ad 14), .ref (ad 15), .ref (ad 16), .ref (ad 17), .ref (ad 18), .int 0, .ref (ad 19), .long 0, .ref (ad 20), .ref (ad 21)])), ((ad 11), .inl (cy 0, 296, .inl (fun _ => 0)))])) (va_Qi (fun (r : Int32) (_ : ((Nat → Nat) × (Nat → Nat → Int32))) => r = 0) (fun u => wpost dC dI cy (va_A [(av0, .inr (12, [.ref (ad 0), .int 0, .int 0, .ref (ad 1), .ref (ad 2), .ref (ad 3), .ref (ad 4), .int 0, .int 0, .int 0, .int 0, .ref (ad 5), .ref (ad 6), .ref (ad 7), .int 0, .int 0, .int 0, .int 0, .int 0, .int 0, .int 0, .ref (ad 8), .int 0, .ref (ad 9), .int 0, .ref (ad 10), .ref (ad 11), .int 1, .ref (ad 12), .ref (ad 13), .int 0, .int 0, .ref (ad 14), .ref (ad 15), .ref (ad 16), .ref (ad 17), .ref (ad 18), .int 0, .ref (ad 19), .long 0, .ref (ad 20), .ref (ad 21)])), ((ad 11), .inl (cy 0, 296, .inl (fun _ => 0)))] sz) [(av0, .inr (12, [.ref (ad 0), .int 0, .int 0, .ref (ad 1), .ref (ad 2), .ref (ad 3), .ref (ad 4), .int 0, .int 0, .int 0, .int 0, .ref (ad 5), .ref (ad 6), .ref (ad 7), .int 0, .int 0, .int 0, .int 0, .int 0, .int 0, .int 0, .ref (ad 8), .int 0, .ref (ad 9), .int 0, .ref (ad 10), .ref (ad 11), .int 1, .ref (ad 12), .ref (ad 13), .int 0, .int 0, .ref (ad 14), .ref (ad 15), .ref (ad 16), .ref (ad 17), .ref (ad 18), .int 0, .ref (ad 19), .long 0, .ref (ad 20), .ref (ad 21)])), ((ad 11), .inl (cy 0, 296, .inl (fun _ => 0)))]) (va_A [(av0, .inr (12, [.ref (ad 0), .int 0, .int 0, .ref (ad 1), .ref (ad 2), .ref (ad 3), .ref (ad 4), .int 0, .int 0, .int 0, .int 0, .ref (ad 5), .ref (ad 6), .ref (ad 7), .int 0, .int 0, .int 0, .int 0, .int 0, .int 0, .int 0, .ref (ad 8), .int 0, .ref (ad 9), .int 0, .ref (ad 10), .ref (ad 11), .int 1, .ref (ad 12), .ref (ad 13), .int 0, .int 0, .ref (ad 14), .ref (ad 15), .ref (ad 16), .ref (ad 17), .ref (ad 18), .int 0, .ref (ad 19), .long 0, .ref (ad 20), .ref (ad 21)])), ((ad 11), .inl (cy 0, 296, .inl (fun _ => 0)))] sz)) 0 0 (va_A [(av0, .inr (12, [.ref (ad 0), .int 0, .int 0, .ref (ad 1), .ref (ad 2), .ref (ad 3), .ref (ad 4), .int 0, .int 0, .int 0, .int 0, .ref (ad 5), .ref (ad 6), .ref (ad 7), .int 0, .int 0, .int 0, .int 0, .int 0, .int 0, .int 0, .ref (ad 8), .int 0, .ref (ad 9), .int 0, .ref (ad 10), .ref (ad 11), .int 1, .ref (ad 12), .ref (ad 13), .int 0, .int 0, .ref (ad 14), .ref (ad 15), .ref (ad 16), .ref (ad 17), .ref (ad 18), .int 0, .ref (ad 19), .long 0, .ref (ad 20), .ref (ad 21)])), ((ad 11), .inl (cy 0, 296, .inl (fun _ => 0)))] sz) := by
  refine Met.ofW (cc := cX12_count) (maxL := 2) (ret := (some .int)) (by decide) rfl ?_
  intro p e s m args below meth c s₁ B hml hv
  obtain ⟨rfl, hsz, hP, hK, hD0⟩ := hv
  have hx := B.exec
  have hb := B.bytes
  have hr := B.returns
  have hlocks := B.notSynchronized
  have hC : CallFix p m c cX12_count 2 s _ wsX12_count RX12 := ⟨hx, hb, hml, findClass_of_methodNamed B.named, atoms_spec (ws := wsX12_count) B.pre⟩
  subst hsz
  have hD := hD0.self (sz := s.heap.size)
  generalize hAe : va_A [(av0, .inr (12, [.ref (ad 0), .int 0, .int 0, .ref (ad 1), .ref (ad 2), .ref (ad 3), .ref (ad 4), .int 0, .int 0, .int 0, .int 0, .ref (ad 5), .ref (ad 6), .ref (ad 7), .int 0, .int 0, .int 0, .int 0, .int 0, .int 0, .int 0, .ref (ad 8), .int 0, .ref (ad 9), .int 0, .ref (ad 10), .ref (ad 11), .int 1, .ref (ad 12), .ref (ad 13), .int 0, .int 0, .ref (ad 14), .ref (ad 15), .ref (ad 16), .ref (ad 17), .ref (ad 18), .int 0, .ref (ad 19), .long 0, .ref (ad 20), .ref (ad 21)])), ((ad 11), .inl (cy 0, 296, .inl (fun _ => 0)))] s.heap.size = A at hD ⊢
  have hA : ∀ q : Nat, s.heap.size ≤ q → A q := fun q h => by rw [← hAe]; exact Or.inr h
  have hw : Wd dC dI A s.heap s.heap [] [(av0, .inr (12, [.ref (ad 0), .int 0, .int 0, .ref (ad 1), .ref (ad 2), .ref (ad 3), .ref (ad 4), .int 0, .int 0, .int 0, .int 0, .ref (ad 5), .ref (ad 6), .ref (ad 7), .int 0, .int 0, .int 0, .int 0, .int 0, .int 0, .int 0, .ref (ad 8), .int 0, .ref (ad 9), .int 0, .ref (ad 10), .ref (ad 11), .int 1, .ref (ad 12), .ref (ad 13), .int 0, .int 0, .ref (ad 14), .ref (ad 15), .ref (ad 16), .ref (ad 17), .ref (ad 18), .int 0, .ref (ad 19), .long 0, .ref (ad 20), .ref (ad 21)])), ((ad 11), .inl (cy 0, 296, .inl (fun _ => 0)))] := ⟨hP, hD, va_S.rf⟩
  have hl := lv_entry ([.ref av0, .int 9]) (n := 2) (Nat.le_of_ble_eq_true rfl)
  rw [lg_entry_eq]
  generalize (lg_sl ([.ref av0, .int 9]) ++ List.replicate (2 - (lg_sl ([.ref av0, .int 9])).length) Slot.unset).toArray = ls at hl ⊢
  have hl : lv_has ls 2 [(0, .ref av0), (1, .int 9)] := hl
  have hinX12 : ∀ w ∈ u_ws RX12 TX12 42, w ∈ wsX12_count := fun _ h => List.mem_cons_of_mem _ (List.mem_append_right _ (h))
  refine lv_iload_n hx hb dX12_count_0 rfl (lv_at hl 1 rfl) ?_
  refine lv_tableIn (off := 75) (tgt := 76) hx hb dX12_count_1 (by decide) (by decide) rfl (by decide) ?_
  refine lv_aload_n hx hb dX12_count_76 rfl (lv_at hl 0 rfl) ?_
  refine wk_get hC hK hw hinX12 0 rfl rfl 26 (by decide) (List.mem_of_getElem? (i := 1) rfl) rfl rfl dX12_count_77 ?_
  refine lv_iload_n hx hb dX12_count_80 rfl (lv_at hl 1 rfl) ?_
  refine lv_iconst (v := 1) hx hb dX12_count_81 (by decide) ?_
  refine lv_isub hx hb dX12_count_82 ?_
  refine wk_top 8 (by decide) ?_
  refine wk_iald hC hK hw 1 rfl (show ¬ ((8 : Int32) < 0 ∨ 296 ≤ (8 : Int32).toNatClampNeg) by decide) dX12_count_83 ?_
  refine wk_top 0 rfl ?_
  exact wk_iret (v := 0) hC hr hlocks hK ((fun _ => 0), (fun _ _ => 0)) rfl [0, 1] rfl rfl hw dX12_count_84

set_option maxHeartbeats 4000000 in
set_option maxRecDepth 100000 in
theorem t_X12_count_11 (l : Launch) (dC : Nat → ClassId) (dI : Nat → Nat → Nat) (cy : Nat → ClassId) (av0 : Nat) (ad : Nat → Nat) (sz : Nat)  : Met l yX12_count wsX12_count ({ frames := 0, cells := 0, slots := 0, locals := 0 }) (va_Pc [.ref av0, .int 10] (wpre dC dI cy sz [(av0, .inr (12, [.ref (ad 0), .int 0, .int 0, .ref (ad 1), .ref (ad 2), .ref (ad 3), .ref (ad 4), .int 0, .int 0, .int 0, .int 0, .ref (ad 5), .ref (ad 6), .ref (ad 7), .int 0, .int 0, .int 0, .int 0, .int 0, .int 0, .int 0, .ref (ad 8), .int 0, .ref (ad 9), .int 0, .ref (ad 10), .ref (ad 11), .int 1, .ref (ad 12), .ref (ad 13), .int 0, .int 0, .ref (ad 14), .ref (ad 15), .ref (ad 16), .ref (ad 17), .ref (ad 18), .int 0, .ref (ad 19), .long 0, .ref (ad 20), .ref (ad 21)])), ((ad 11), .inl (cy 0, 296, .inl (fun _ => 0)))])) (va_Qi (fun (r : Int32) (_ : ((Nat → Nat) × (Nat → Nat → Int32))) => r = 0) (fun u => wpost dC dI cy (va_A [(av0, .inr (12, [.ref (ad 0), .int 0, .int 0, .ref (ad 1), .ref (ad 2), .ref (ad 3), .ref (ad 4), .int 0, .int 0, .int 0, .int 0, .ref (ad 5), .ref (ad 6), .ref (ad 7), .int 0, .int 0, .int 0, .int 0, .int 0, .int 0, .int 0, .ref (ad 8), .int 0, .ref (ad 9), .int 0, .ref (ad 10), .ref (ad 11), .int 1, .ref (ad 12), .ref (ad 13), .int 0, .int 0, .ref (ad 14), .ref (ad 15), .ref (ad 16), .ref (ad 17), .ref (ad 18), .int 0, .ref (ad 19), .long 0, .ref (ad 20), .ref (ad 21)])), ((ad 11), .inl (cy 0, 296, .inl (fun _ => 0)))] sz) [(av0, .inr (12, [.ref (ad 0), .int 0, .int 0, .ref (ad 1), .ref (ad 2), .ref (ad 3), .ref (ad 4), .int 0, .int 0, .int 0, .int 0, .ref (ad 5), .ref (ad 6), .ref (ad 7), .int 0, .int 0, .int 0, .int 0, .int 0, .int 0, .int 0, .ref (ad 8), .int 0, .ref (ad 9), .int 0, .ref (ad 10), .ref (ad 11), .int 1, .ref (ad 12), .ref (ad 13), .int 0, .int 0, .ref (ad 14), .ref (ad 15), .ref (ad 16), .ref (ad 17), .ref (ad 18), .int 0, .ref (ad 19), .long 0, .ref (ad 20), .ref (ad 21)])), ((ad 11), .inl (cy 0, 296, .inl (fun _ => 0)))]) (va_A [(av0, .inr (12, [.ref (ad 0), .int 0, .int 0, .ref (ad 1), .ref (ad 2), .ref (ad 3), .ref (ad 4), .int 0, .int 0, .int 0, .int 0, .ref (ad 5), .ref (ad 6), .ref (ad 7), .int 0, .int 0, .int 0, .int 0, .int 0, .int 0, .int 0, .ref (ad 8), .int 0, .ref (ad 9), .int 0, .ref (ad 10), .ref (ad 11), .int 1, .ref (ad 12), .ref (ad 13), .int 0, .int 0, .ref (ad 14), .ref (ad 15), .ref (ad 16), .ref (ad 17), .ref (ad 18), .int 0, .ref (ad 19), .long 0, .ref (ad 20), .ref (ad 21)])), ((ad 11), .inl (cy 0, 296, .inl (fun _ => 0)))] sz)) 0 0 (va_A [(av0, .inr (12, [.ref (ad 0), .int 0, .int 0, .ref (ad 1), .ref (ad 2), .ref (ad 3), .ref (ad 4), .int 0, .int 0, .int 0, .int 0, .ref (ad 5), .ref (ad 6), .ref (ad 7), .int 0, .int 0, .int 0, .int 0, .int 0, .int 0, .int 0, .ref (ad 8), .int 0, .ref (ad 9), .int 0, .ref (ad 10), .ref (ad 11), .int 1, .ref (ad 12), .ref (ad 13), .int 0, .int 0, .ref (ad 14), .ref (ad 15), .ref (ad 16), .ref (ad 17), .ref (ad 18), .int 0, .ref (ad 19), .long 0, .ref (ad 20), .ref (ad 21)])), ((ad 11), .inl (cy 0, 296, .inl (fun _ => 0)))] sz) := by
  refine Met.ofW (cc := cX12_count) (maxL := 2) (ret := (some .int)) (by decide) rfl ?_
  intro p e s m args below meth c s₁ B hml hv
  obtain ⟨rfl, hsz, hP, hK, hD0⟩ := hv
  have hx := B.exec
  have hb := B.bytes
  have hr := B.returns
  have hlocks := B.notSynchronized
  have hC : CallFix p m c cX12_count 2 s _ wsX12_count RX12 := ⟨hx, hb, hml, findClass_of_methodNamed B.named, atoms_spec (ws := wsX12_count) B.pre⟩
  subst hsz
  have hD := hD0.self (sz := s.heap.size)
  generalize hAe : va_A [(av0, .inr (12, [.ref (ad 0), .int 0, .int 0, .ref (ad 1), .ref (ad 2), .ref (ad 3), .ref (ad 4), .int 0, .int 0, .int 0, .int 0, .ref (ad 5), .ref (ad 6), .ref (ad 7), .int 0, .int 0, .int 0, .int 0, .int 0, .int 0, .int 0, .ref (ad 8), .int 0, .ref (ad 9), .int 0, .ref (ad 10), .ref (ad 11), .int 1, .ref (ad 12), .ref (ad 13), .int 0, .int 0, .ref (ad 14), .ref (ad 15), .ref (ad 16), .ref (ad 17), .ref (ad 18), .int 0, .ref (ad 19), .long 0, .ref (ad 20), .ref (ad 21)])), ((ad 11), .inl (cy 0, 296, .inl (fun _ => 0)))] s.heap.size = A at hD ⊢
  have hA : ∀ q : Nat, s.heap.size ≤ q → A q := fun q h => by rw [← hAe]; exact Or.inr h
  have hw : Wd dC dI A s.heap s.heap [] [(av0, .inr (12, [.ref (ad 0), .int 0, .int 0, .ref (ad 1), .ref (ad 2), .ref (ad 3), .ref (ad 4), .int 0, .int 0, .int 0, .int 0, .ref (ad 5), .ref (ad 6), .ref (ad 7), .int 0, .int 0, .int 0, .int 0, .int 0, .int 0, .int 0, .ref (ad 8), .int 0, .ref (ad 9), .int 0, .ref (ad 10), .ref (ad 11), .int 1, .ref (ad 12), .ref (ad 13), .int 0, .int 0, .ref (ad 14), .ref (ad 15), .ref (ad 16), .ref (ad 17), .ref (ad 18), .int 0, .ref (ad 19), .long 0, .ref (ad 20), .ref (ad 21)])), ((ad 11), .inl (cy 0, 296, .inl (fun _ => 0)))] := ⟨hP, hD, va_S.rf⟩
  have hl := lv_entry ([.ref av0, .int 10]) (n := 2) (Nat.le_of_ble_eq_true rfl)
  rw [lg_entry_eq]
  generalize (lg_sl ([.ref av0, .int 10]) ++ List.replicate (2 - (lg_sl ([.ref av0, .int 10])).length) Slot.unset).toArray = ls at hl ⊢
  have hl : lv_has ls 2 [(0, .ref av0), (1, .int 10)] := hl
  have hinX12 : ∀ w ∈ u_ws RX12 TX12 42, w ∈ wsX12_count := fun _ h => List.mem_cons_of_mem _ (List.mem_append_right _ (h))
  refine lv_iload_n hx hb dX12_count_0 rfl (lv_at hl 1 rfl) ?_
  refine lv_tableIn (off := 75) (tgt := 76) hx hb dX12_count_1 (by decide) (by decide) rfl (by decide) ?_
  refine lv_aload_n hx hb dX12_count_76 rfl (lv_at hl 0 rfl) ?_
  refine wk_get hC hK hw hinX12 0 rfl rfl 26 (by decide) (List.mem_of_getElem? (i := 1) rfl) rfl rfl dX12_count_77 ?_
  refine lv_iload_n hx hb dX12_count_80 rfl (lv_at hl 1 rfl) ?_
  refine lv_iconst (v := 1) hx hb dX12_count_81 (by decide) ?_
  refine lv_isub hx hb dX12_count_82 ?_
  refine wk_top 9 (by decide) ?_
  refine wk_iald hC hK hw 1 rfl (show ¬ ((9 : Int32) < 0 ∨ 296 ≤ (9 : Int32).toNatClampNeg) by decide) dX12_count_83 ?_
  refine wk_top 0 rfl ?_
  exact wk_iret (v := 0) hC hr hlocks hK ((fun _ => 0), (fun _ _ => 0)) rfl [0, 1] rfl rfl hw dX12_count_84

set_option maxHeartbeats 4000000 in
set_option maxRecDepth 100000 in
theorem t_X12_count_12 (l : Launch) (dC : Nat → ClassId) (dI : Nat → Nat → Nat) (cy : Nat → ClassId) (av0 : Nat) (ad : Nat → Nat) (sz : Nat)  : Met l yX12_count wsX12_count ({ frames := 0, cells := 0, slots := 0, locals := 0 }) (va_Pc [.ref av0, .int 11] (wpre dC dI cy sz [(av0, .inr (12, [.ref (ad 0), .int 0, .int 0, .ref (ad 1), .ref (ad 2), .ref (ad 3), .ref (ad 4), .int 0, .int 0, .int 0, .int 0, .ref (ad 5), .ref (ad 6), .ref (ad 7), .int 0, .int 0, .int 0, .int 0, .int 0, .int 0, .int 0, .ref (ad 8), .int 0, .ref (ad 9), .int 0, .ref (ad 10), .ref (ad 11), .int 1, .ref (ad 12), .ref (ad 13), .int 0, .int 0, .ref (ad 14), .ref (ad 15), .ref (ad 16), .ref (ad 17), .ref (ad 18), .int 0, .ref (ad 19), .long 0, .ref (ad 20), .ref (ad 21)]))])) (va_Qi (fun (r : Int32) (_ : ((Nat → Nat) × (Nat → Nat → Int32))) => r = 0) (fun u => wpost dC dI cy (va_A [(av0, .inr (12, [.ref (ad 0), .int 0, .int 0, .ref (ad 1), .ref (ad 2), .ref (ad 3), .ref (ad 4), .int 0, .int 0, .int 0, .int 0, .ref (ad 5), .ref (ad 6), .ref (ad 7), .int 0, .int 0, .int 0, .int 0, .int 0, .int 0, .int 0, .ref (ad 8), .int 0, .ref (ad 9), .int 0, .ref (ad 10), .ref (ad 11), .int 1, .ref (ad 12), .ref (ad 13), .int 0, .int 0, .ref (ad 14), .ref (ad 15), .ref (ad 16), .ref (ad 17), .ref (ad 18), .int 0, .ref (ad 19), .long 0, .ref (ad 20), .ref (ad 21)]))] sz) [(av0, .inr (12, [.ref (ad 0), .int 0, .int 0, .ref (ad 1), .ref (ad 2), .ref (ad 3), .ref (ad 4), .int 0, .int 0, .int 0, .int 0, .ref (ad 5), .ref (ad 6), .ref (ad 7), .int 0, .int 0, .int 0, .int 0, .int 0, .int 0, .int 0, .ref (ad 8), .int 0, .ref (ad 9), .int 0, .ref (ad 10), .ref (ad 11), .int 1, .ref (ad 12), .ref (ad 13), .int 0, .int 0, .ref (ad 14), .ref (ad 15), .ref (ad 16), .ref (ad 17), .ref (ad 18), .int 0, .ref (ad 19), .long 0, .ref (ad 20), .ref (ad 21)]))]) (va_A [(av0, .inr (12, [.ref (ad 0), .int 0, .int 0, .ref (ad 1), .ref (ad 2), .ref (ad 3), .ref (ad 4), .int 0, .int 0, .int 0, .int 0, .ref (ad 5), .ref (ad 6), .ref (ad 7), .int 0, .int 0, .int 0, .int 0, .int 0, .int 0, .int 0, .ref (ad 8), .int 0, .ref (ad 9), .int 0, .ref (ad 10), .ref (ad 11), .int 1, .ref (ad 12), .ref (ad 13), .int 0, .int 0, .ref (ad 14), .ref (ad 15), .ref (ad 16), .ref (ad 17), .ref (ad 18), .int 0, .ref (ad 19), .long 0, .ref (ad 20), .ref (ad 21)]))] sz)) 0 0 (va_A [(av0, .inr (12, [.ref (ad 0), .int 0, .int 0, .ref (ad 1), .ref (ad 2), .ref (ad 3), .ref (ad 4), .int 0, .int 0, .int 0, .int 0, .ref (ad 5), .ref (ad 6), .ref (ad 7), .int 0, .int 0, .int 0, .int 0, .int 0, .int 0, .int 0, .ref (ad 8), .int 0, .ref (ad 9), .int 0, .ref (ad 10), .ref (ad 11), .int 1, .ref (ad 12), .ref (ad 13), .int 0, .int 0, .ref (ad 14), .ref (ad 15), .ref (ad 16), .ref (ad 17), .ref (ad 18), .int 0, .ref (ad 19), .long 0, .ref (ad 20), .ref (ad 21)]))] sz) := by
  refine Met.ofW (cc := cX12_count) (maxL := 2) (ret := (some .int)) (by decide) rfl ?_
  intro p e s m args below meth c s₁ B hml hv
  obtain ⟨rfl, hsz, hP, hK, hD0⟩ := hv
  have hx := B.exec
  have hb := B.bytes
  have hr := B.returns
  have hlocks := B.notSynchronized
  have hC : CallFix p m c cX12_count 2 s _ wsX12_count RX12 := ⟨hx, hb, hml, findClass_of_methodNamed B.named, atoms_spec (ws := wsX12_count) B.pre⟩
  subst hsz
  have hD := hD0.self (sz := s.heap.size)
  generalize hAe : va_A [(av0, .inr (12, [.ref (ad 0), .int 0, .int 0, .ref (ad 1), .ref (ad 2), .ref (ad 3), .ref (ad 4), .int 0, .int 0, .int 0, .int 0, .ref (ad 5), .ref (ad 6), .ref (ad 7), .int 0, .int 0, .int 0, .int 0, .int 0, .int 0, .int 0, .ref (ad 8), .int 0, .ref (ad 9), .int 0, .ref (ad 10), .ref (ad 11), .int 1, .ref (ad 12), .ref (ad 13), .int 0, .int 0, .ref (ad 14), .ref (ad 15), .ref (ad 16), .ref (ad 17), .ref (ad 18), .int 0, .ref (ad 19), .long 0, .ref (ad 20), .ref (ad 21)]))] s.heap.size = A at hD ⊢
  have hA : ∀ q : Nat, s.heap.size ≤ q → A q := fun q h => by rw [← hAe]; exact Or.inr h
  have hw : Wd dC dI A s.heap s.heap [] [(av0, .inr (12, [.ref (ad 0), .int 0, .int 0, .ref (ad 1), .ref (ad 2), .ref (ad 3), .ref (ad 4), .int 0, .int 0, .int 0, .int 0, .ref (ad 5), .ref (ad 6), .ref (ad 7), .int 0, .int 0, .int 0, .int 0, .int 0, .int 0, .int 0, .ref (ad 8), .int 0, .ref (ad 9), .int 0, .ref (ad 10), .ref (ad 11), .int 1, .ref (ad 12), .ref (ad 13), .int 0, .int 0, .ref (ad 14), .ref (ad 15), .ref (ad 16), .ref (ad 17), .ref (ad 18), .int 0, .ref (ad 19), .long 0, .ref (ad 20), .ref (ad 21)]))] := ⟨hP, hD, va_S.rf⟩
  have hl := lv_entry ([.ref av0, .int 11]) (n := 2) (Nat.le_of_ble_eq_true rfl)
  rw [lg_entry_eq]
  generalize (lg_sl ([.ref av0, .int 11]) ++ List.replicate (2 - (lg_sl ([.ref av0, .int 11])).length) Slot.unset).toArray = ls at hl ⊢
  have hl : lv_has ls 2 [(0, .ref av0), (1, .int 11)] := hl
  have hinX12 : ∀ w ∈ u_ws RX12 TX12 42, w ∈ wsX12_count := fun _ h => List.mem_cons_of_mem _ (List.mem_append_right _ (h))
  refine lv_iload_n hx hb dX12_count_0 rfl (lv_at hl 1 rfl) ?_
  refine lv_tableIn (off := 84) (tgt := 85) hx hb dX12_count_1 (by decide) (by decide) rfl (by decide) ?_
  refine lv_aload_n hx hb dX12_count_85 rfl (lv_at hl 0 rfl) ?_
  refine wk_get hC hK hw hinX12 0 rfl rfl 1 (by decide) (List.mem_of_getElem? (i := 3) rfl) rfl rfl dX12_count_86 ?_
  exact wk_iret (v := 0) hC hr hlocks hK ((fun _ => 0), (fun _ _ => 0)) rfl [0] rfl rfl hw dX12_count_89

set_option maxHeartbeats 4000000 in
set_option maxRecDepth 100000 in
theorem t_X12_count_13 (l : Launch) (dC : Nat → ClassId) (dI : Nat → Nat → Nat) (cy : Nat → ClassId) (av0 : Nat) (ad : Nat → Nat) (p0 : Int32) (sz : Nat) (hp : 12 ≤ p0.toInt) : Met l yX12_count wsX12_count ({ frames := 0, cells := 0, slots := 0, locals := 0 }) (va_Pc [.ref av0, .int p0] (wpre dC dI cy sz [(av0, .inr (12, [.ref (ad 0), .int 0, .int 0, .ref (ad 1), .ref (ad 2), .ref (ad 3), .ref (ad 4), .int 0, .int 0, .int 0, .int 0, .ref (ad 5), .ref (ad 6), .ref (ad 7), .int 0, .int 0, .int 0, .int 0, .int 0, .int 0, .int 0, .ref (ad 8), .int 0, .ref (ad 9), .int 0, .ref (ad 10), .ref (ad 11), .int 1, .ref (ad 12), .ref (ad 13), .int 0, .int 0, .ref (ad 14), .ref (ad 15), .ref (ad 16), .ref (ad 17), .ref (ad 18), .int 0, .ref (ad 19), .long 0, .ref (ad 20), .ref (ad 21)]))])) (va_Qi (fun (r : Int32) (_ : ((Nat → Nat) × (Nat → Nat → Int32))) => r = (-1)) (fun u => wpost dC dI cy (va_A [(av0, .inr (12, [.ref (ad 0), .int 0, .int 0, .ref (ad 1), .ref (ad 2), .ref (ad 3), .ref (ad 4), .int 0, .int 0, .int 0, .int 0, .ref (ad 5), .ref (ad 6), .ref (ad 7), .int 0, .int 0, .int 0, .int 0, .int 0, .int 0, .int 0, .ref (ad 8), .int 0, .ref (ad 9), .int 0, .ref (ad 10), .ref (ad 11), .int 1, .ref (ad 12), .ref (ad 13), .int 0, .int 0, .ref (ad 14), .ref (ad 15), .ref (ad 16), .ref (ad 17), .ref (ad 18), .int 0, .ref (ad 19), .long 0, .ref (ad 20), .ref (ad 21)]))] sz) [(av0, .inr (12, [.ref (ad 0), .int 0, .int 0, .ref (ad 1), .ref (ad 2), .ref (ad 3), .ref (ad 4), .int 0, .int 0, .int 0, .int 0, .ref (ad 5), .ref (ad 6), .ref (ad 7), .int 0, .int 0, .int 0, .int 0, .int 0, .int 0, .int 0, .ref (ad 8), .int 0, .ref (ad 9), .int 0, .ref (ad 10), .ref (ad 11), .int 1, .ref (ad 12), .ref (ad 13), .int 0, .int 0, .ref (ad 14), .ref (ad 15), .ref (ad 16), .ref (ad 17), .ref (ad 18), .int 0, .ref (ad 19), .long 0, .ref (ad 20), .ref (ad 21)]))]) (va_A [(av0, .inr (12, [.ref (ad 0), .int 0, .int 0, .ref (ad 1), .ref (ad 2), .ref (ad 3), .ref (ad 4), .int 0, .int 0, .int 0, .int 0, .ref (ad 5), .ref (ad 6), .ref (ad 7), .int 0, .int 0, .int 0, .int 0, .int 0, .int 0, .int 0, .ref (ad 8), .int 0, .ref (ad 9), .int 0, .ref (ad 10), .ref (ad 11), .int 1, .ref (ad 12), .ref (ad 13), .int 0, .int 0, .ref (ad 14), .ref (ad 15), .ref (ad 16), .ref (ad 17), .ref (ad 18), .int 0, .ref (ad 19), .long 0, .ref (ad 20), .ref (ad 21)]))] sz)) 0 0 (va_A [(av0, .inr (12, [.ref (ad 0), .int 0, .int 0, .ref (ad 1), .ref (ad 2), .ref (ad 3), .ref (ad 4), .int 0, .int 0, .int 0, .int 0, .ref (ad 5), .ref (ad 6), .ref (ad 7), .int 0, .int 0, .int 0, .int 0, .int 0, .int 0, .int 0, .ref (ad 8), .int 0, .ref (ad 9), .int 0, .ref (ad 10), .ref (ad 11), .int 1, .ref (ad 12), .ref (ad 13), .int 0, .int 0, .ref (ad 14), .ref (ad 15), .ref (ad 16), .ref (ad 17), .ref (ad 18), .int 0, .ref (ad 19), .long 0, .ref (ad 20), .ref (ad 21)]))] sz) := by
  refine Met.ofW (cc := cX12_count) (maxL := 2) (ret := (some .int)) (by decide) rfl ?_
  intro p e s m args below meth c s₁ B hml hv
  obtain ⟨rfl, hsz, hP, hK, hD0⟩ := hv
  have hx := B.exec
  have hb := B.bytes
  have hr := B.returns
  have hlocks := B.notSynchronized
  have hC : CallFix p m c cX12_count 2 s _ wsX12_count RX12 := ⟨hx, hb, hml, findClass_of_methodNamed B.named, atoms_spec (ws := wsX12_count) B.pre⟩
  subst hsz
  have hD := hD0.self (sz := s.heap.size)
  generalize hAe : va_A [(av0, .inr (12, [.ref (ad 0), .int 0, .int 0, .ref (ad 1), .ref (ad 2), .ref (ad 3), .ref (ad 4), .int 0, .int 0, .int 0, .int 0, .ref (ad 5), .ref (ad 6), .ref (ad 7), .int 0, .int 0, .int 0, .int 0, .int 0, .int 0, .int 0, .ref (ad 8), .int 0, .ref (ad 9), .int 0, .ref (ad 10), .ref (ad 11), .int 1, .ref (ad 12), .ref (ad 13), .int 0, .int 0, .ref (ad 14), .ref (ad 15), .ref (ad 16), .ref (ad 17), .ref (ad 18), .int 0, .ref (ad 19), .long 0, .ref (ad 20), .ref (ad 21)]))] s.heap.size = A at hD ⊢
  have hA : ∀ q : Nat, s.heap.size ≤ q → A q := fun q h => by rw [← hAe]; exact Or.inr h
  have hw : Wd dC dI A s.heap s.heap [] [(av0, .inr (12, [.ref (ad 0), .int 0, .int 0, .ref (ad 1), .ref (ad 2), .ref (ad 3), .ref (ad 4), .int 0, .int 0, .int 0, .int 0, .ref (ad 5), .ref (ad 6), .ref (ad 7), .int 0, .int 0, .int 0, .int 0, .int 0, .int 0, .int 0, .ref (ad 8), .int 0, .ref (ad 9), .int 0, .ref (ad 10), .ref (ad 11), .int 1, .ref (ad 12), .ref (ad 13), .int 0, .int 0, .ref (ad 14), .ref (ad 15), .ref (ad 16), .ref (ad 17), .ref (ad 18), .int 0, .ref (ad 19), .long 0, .ref (ad 20), .ref (ad 21)]))] := ⟨hP, hD, va_S.rf⟩
  have hl := lv_entry ([.ref av0, .int p0]) (n := 2) (Nat.le_of_ble_eq_true rfl)
  rw [lg_entry_eq]
  generalize (lg_sl ([.ref av0, .int p0]) ++ List.replicate (2 - (lg_sl ([.ref av0, .int p0])).length) Slot.unset).toArray = ls at hl ⊢
  have hl : lv_has ls 2 [(0, .ref av0), (1, .int p0)] := hl
  refine lv_iload_n hx hb dX12_count_0 rfl (lv_at hl 1 rfl) ?_
  refine lv_tableOut (tgt := 90) hx hb dX12_count_1 (Or.inr (show 11 < p0.toInt by omega)) (by decide) ?_
  refine lv_iconst (v := (-1)) hx hb dX12_count_90 (by decide) ?_
  exact wk_iret (v := (-1)) hC hr hlocks hK ((fun _ => 0), (fun _ _ => 0)) rfl [0] rfl rfl hw dX12_count_91

set_option maxHeartbeats 4000000 in
set_option maxRecDepth 100000 in
theorem c_X12_in_1 (l : Launch) (dC : Nat → ClassId) (dI : Nat → Nat → Nat) (cy : Nat → ClassId) (jv0 : Int64) (sz : Nat) (hjv0 : (-2147483648) ≤ jv0.toInt ∧ jv0.toInt ≤ (-1)) : Met l yX12_in wsX12_in ({ frames := 0, cells := 0, slots := 0, locals := 0 }) (va_Pc [.long jv0, .long 0, .long 3] (wpre dC dI cy sz [])) (va_Qi (fun (r : Int32) (_ : ((Nat → Nat) × (Nat → Nat → Int32))) => r = 0) (fun u => wpost dC dI cy (va_A [] sz) []) (va_A [] sz)) 0 0 (va_A [] sz) := by
  refine Met.ofW (cc := cX12_in) (maxL := 6) (ret := (some .boolean)) (by decide) rfl ?_
  intro p e s m args below meth c s₁ B hml hv
  obtain ⟨rfl, hsz, hP, hK, hD0⟩ := hv
  have hx := B.exec
  have hb := B.bytes
  have hr := B.returns
  have hlocks := B.notSynchronized
  have hC : CallFix p m c cX12_in 6 s _ wsX12_in RX12 := ⟨hx, hb, hml, findClass_of_methodNamed B.named, atoms_spec (ws := wsX12_in) B.pre⟩
  subst hsz
  have hD := hD0.self (sz := s.heap.size)
  generalize hAe : va_A [] s.heap.size = A at hD ⊢
  have hA : ∀ q : Nat, s.heap.size ≤ q → A q := fun q h => by rw [← hAe]; exact Or.inr h
  have hw : Wd dC dI A s.heap s.heap [] [] := ⟨hP, hD, va_S.rf⟩
  have hl := lv_entry ([.long jv0, .long 0, .long 3]) (n := 6) (Nat.le_of_ble_eq_true rfl)
  rw [lg_entry_eq]
  generalize (lg_sl ([.long jv0, .long 0, .long 3]) ++ List.replicate (6 - (lg_sl ([.long jv0, .long 0, .long 3])).length) Slot.unset).toArray = ls at hl ⊢
  have hl : lv_has ls 6 [(0, .long jv0), (2, .long 0), (4, .long 3)] := hl
  refine lv_lload_n hx hb dX12_in_0 rfl (lv_at hl 0 rfl) ?_
  refine lv_lload_n hx hb dX12_in_1 rfl (lv_at hl 1 rfl) ?_
  refine W.lcmp hx hb dX12_in_2 ?_
  refine lv_if_lt (tgt := 17) hx hb dX12_in_3 (by decide) (fun _ => ?_) (fun c => absurd (wk_cltI (show jv0.toInt < 0 by omega)) c)
  refine lv_iconst (v := 0) hx hb dX12_in_17 (by decide) ?_
  exact wk_zret (v := 0) hC hr rfl hlocks hK ((fun _ => 0), (fun _ _ => 0)) rfl [] rfl rfl hw dX12_in_18

set_option maxHeartbeats 4000000 in
set_option maxRecDepth 100000 in
theorem t_X12_image_0 (l : Launch) (dC : Nat → ClassId) (dI : Nat → Nat → Nat) (cy : Nat → ClassId) (av0 : Nat) (ad : Nat → Nat) (p0 : Int32) (sz : Nat) (hp : p0.toInt ≤ -1) : Met l yX12_image wsX12_image ({ frames := 1, cells := 0, slots := 0, locals := 25 }) (va_Pc [.ref av0, .int p0] (wpre dC dI cy sz [(av0, .inr (12, [.ref (ad 0), .int 0, .int 0, .ref (ad 1), .ref (ad 2), .ref (ad 3), .ref (ad 4), .int 0, .int 0, .int 0, .int 0, .ref (ad 5), .ref (ad 6), .ref (ad 7), .int 0, .int 0, .int 0, .int 0, .int 0, .int 0, .int 0, .ref (ad 8), .int 0, .ref (ad 9), .int 0, .ref (ad 10), .ref (ad 11), .int 1, .ref (ad 12), .ref (ad 13), .int 0, .int 0, .ref (ad 14), .ref (ad 15), .ref (ad 16), .ref (ad 17), .ref (ad 18), .int 0, .ref (ad 19), .long 0, .ref (ad 20), .ref (ad 21)]))])) (va_Qi (fun (r : Int32) (_ : ((Nat → Nat) × (Nat → Nat → Int32))) => r = (-1)) (fun u => wpost dC dI cy (va_A [(av0, .inr (12, [.ref (ad 0), .int 0, .int 0, .ref (ad 1), .ref (ad 2), .ref (ad 3), .ref (ad 4), .int 0, .int 0, .int 0, .int 0, .ref (ad 5), .ref (ad 6), .ref (ad 7), .int 0, .int 0, .int 0, .int 0, .int 0, .int 0, .int 0, .ref (ad 8), .int 0, .ref (ad 9), .int 0, .ref (ad 10), .ref (ad 11), .int 1, .ref (ad 12), .ref (ad 13), .int 0, .int 0, .ref (ad 14), .ref (ad 15), .ref (ad 16), .ref (ad 17), .ref (ad 18), .int 0, .ref (ad 19), .long 0, .ref (ad 20), .ref (ad 21)]))] sz) [(av0, .inr (12, [.ref (ad 0), .int 0, .int 0, .ref (ad 1), .ref (ad 2), .ref (ad 3), .ref (ad 4), .int 0, .int 0, .int 0, .int 0, .ref (ad 5), .ref (ad 6), .ref (ad 7), .int 0, .int 0, .int 0, .int 0, .int 0, .int 0, .int 0, .ref (ad 8), .int 0, .ref (ad 9), .int 0, .ref (ad 10), .ref (ad 11), .int 1, .ref (ad 12), .ref (ad 13), .int 0, .int 0, .ref (ad 14), .ref (ad 15), .ref (ad 16), .ref (ad 17), .ref (ad 18), .int 0, .ref (ad 19), .long 0, .ref (ad 20), .ref (ad 21)]))]) (va_A [(av0, .inr (12, [.ref (ad 0), .int 0, .int 0, .ref (ad 1), .ref (ad 2), .ref (ad 3), .ref (ad 4), .int 0, .int 0, .int 0, .int 0, .ref (ad 5), .ref (ad 6), .ref (ad 7), .int 0, .int 0, .int 0, .int 0, .int 0, .int 0, .int 0, .ref (ad 8), .int 0, .ref (ad 9), .int 0, .ref (ad 10), .ref (ad 11), .int 1, .ref (ad 12), .ref (ad 13), .int 0, .int 0, .ref (ad 14), .ref (ad 15), .ref (ad 16), .ref (ad 17), .ref (ad 18), .int 0, .ref (ad 19), .long 0, .ref (ad 20), .ref (ad 21)]))] sz)) 0 0 (va_A [(av0, .inr (12, [.ref (ad 0), .int 0, .int 0, .ref (ad 1), .ref (ad 2), .ref (ad 3), .ref (ad 4), .int 0, .int 0, .int 0, .int 0, .ref (ad 5), .ref (ad 6), .ref (ad 7), .int 0, .int 0, .int 0, .int 0, .int 0, .int 0, .int 0, .ref (ad 8), .int 0, .ref (ad 9), .int 0, .ref (ad 10), .ref (ad 11), .int 1, .ref (ad 12), .ref (ad 13), .int 0, .int 0, .ref (ad 14), .ref (ad 15), .ref (ad 16), .ref (ad 17), .ref (ad 18), .int 0, .ref (ad 19), .long 0, .ref (ad 20), .ref (ad 21)]))] sz) := by
  refine Met.ofW (cc := cX12_image) (maxL := 3) (ret := (some .int)) (by decide) rfl ?_
  intro p e s m args below meth c s₁ B hml hv
  obtain ⟨rfl, hsz, hP, hK, hD0⟩ := hv
  have hx := B.exec
  have hb := B.bytes
  have hr := B.returns
  have hlocks := B.notSynchronized
  have hC : CallFix p m c cX12_image 3 s _ wsX12_image RX12 := ⟨hx, hb, hml, findClass_of_methodNamed B.named, atoms_spec (ws := wsX12_image) B.pre⟩
  subst hsz
  have hD := hD0.self (sz := s.heap.size)
  generalize hAe : va_A [(av0, .inr (12, [.ref (ad 0), .int 0, .int 0, .ref (ad 1), .ref (ad 2), .ref (ad 3), .ref (ad 4), .int 0, .int 0, .int 0, .int 0, .ref (ad 5), .ref (ad 6), .ref (ad 7), .int 0, .int 0, .int 0, .int 0, .int 0, .int 0, .int 0, .ref (ad 8), .int 0, .ref (ad 9), .int 0, .ref (ad 10), .ref (ad 11), .int 1, .ref (ad 12), .ref (ad 13), .int 0, .int 0, .ref (ad 14), .ref (ad 15), .ref (ad 16), .ref (ad 17), .ref (ad 18), .int 0, .ref (ad 19), .long 0, .ref (ad 20), .ref (ad 21)]))] s.heap.size = A at hD ⊢
  have hA : ∀ q : Nat, s.heap.size ≤ q → A q := fun q h => by rw [← hAe]; exact Or.inr h
  have hw : Wd dC dI A s.heap s.heap [] [(av0, .inr (12, [.ref (ad 0), .int 0, .int 0, .ref (ad 1), .ref (ad 2), .ref (ad 3), .ref (ad 4), .int 0, .int 0, .int 0, .int 0, .ref (ad 5), .ref (ad 6), .ref (ad 7), .int 0, .int 0, .int 0, .int 0, .int 0, .int 0, .int 0, .ref (ad 8), .int 0, .ref (ad 9), .int 0, .ref (ad 10), .ref (ad 11), .int 1, .ref (ad 12), .ref (ad 13), .int 0, .int 0, .ref (ad 14), .ref (ad 15), .ref (ad 16), .ref (ad 17), .ref (ad 18), .int 0, .ref (ad 19), .long 0, .ref (ad 20), .ref (ad 21)]))] := ⟨hP, hD, va_S.rf⟩
  have hl := lv_entry ([.ref av0, .int p0]) (n := 3) (Nat.le_of_ble_eq_true rfl)
  rw [lg_entry_eq]
  generalize (lg_sl ([.ref av0, .int p0]) ++ List.replicate (3 - (lg_sl ([.ref av0, .int p0])).length) Slot.unset).toArray = ls at hl ⊢
  have hl : lv_has ls 3 [(0, .ref av0), (1, .int p0)] := hl
  refine lv_iload_n hx hb dX12_image_0 rfl (lv_at hl 1 rfl) ?_
  refine lv_i2l hx hb dX12_image_1 ?_
  refine lv_topl (fun x1 ex1 => ?_)
  have ex1 : x1.toInt = p0.toInt := by rw [ex1]; exact wk_i2l _
  refine lv_lconst (v := 0) hx hb dX12_image_2 (by decide) ?_
  refine lv_ldc2 (v := 3) hx hb hC.2.2.2.1 (hC.2.2.2.2 _ (List.mem_of_getElem? (i := 1) rfl)) dX12_image_3 ?_
  refine wk_Si hC hK hw hA [] [0] rfl rfl rfl rfl (by decide) (c_X12_in_1 l dC dI cy x1 s.heap.size (show (-2147483648) ≤ x1.toInt ∧ x1.toInt ≤ (-1) by omega)) (va_cwS 3 hC.2.2.2.2 gX12_image_X12_in rfl rfl rfl (by decide +kernel) ⟨Nat.le_of_ble_eq_true rfl, Nat.le_of_ble_eq_true rfl⟩) rfl hl.1 rfl (Nat.le_of_ble_eq_true rfl) dX12_image_6 0 0 ⟨rfl, rfl⟩ ⟨Nat.le_of_ble_eq_true rfl, Nat.le_of_ble_eq_true rfl⟩ (fun r3 u2 H locs p4 hw => ?_)
  have hw : Wd dC dI A s.heap H locs [(av0, .inr (12, [.ref (ad 0), .int 0, .int 0, .ref (ad 1), .ref (ad 2), .ref (ad 3), .ref (ad 4), .int 0, .int 0, .int 0, .int 0, .ref (ad 5), .ref (ad 6), .ref (ad 7), .int 0, .int 0, .int 0, .int 0, .int 0, .int 0, .int 0, .ref (ad 8), .int 0, .ref (ad 9), .int 0, .ref (ad 10), .ref (ad 11), .int 1, .ref (ad 12), .ref (ad 13), .int 0, .int 0, .ref (ad 14), .ref (ad 15), .ref (ad 16), .ref (ad 17), .ref (ad 18), .int 0, .ref (ad 19), .long 0, .ref (ad 20), .ref (ad 21)]))] := hw
  obtain rfl : r3 = 0 := p4
  refine lv_if_ne (tgt := 14) hx hb dX12_image_9 (by decide) (fun c => absurd c (by decide)) (fun _ => ?_)
  refine lv_iconst (v := (-1)) hx hb dX12_image_12 (by decide) ?_
  exact wk_iret (v := (-1)) hC hr hlocks hK ((fun _ => 0), (fun _ _ => 0)) rfl [0] rfl rfl hw dX12_image_13

set_option maxHeartbeats 4000000 in
set_option maxRecDepth 100000 in
theorem c_X12_in_2 (l : Launch) (dC : Nat → ClassId) (dI : Nat → Nat → Nat) (cy : Nat → ClassId)  (sz : Nat)  : Met l yX12_in wsX12_in ({ frames := 0, cells := 0, slots := 0, locals := 0 }) (va_Pc [.long 0, .long 0, .long 3] (wpre dC dI cy sz [])) (va_Qi (fun (r : Int32) (_ : ((Nat → Nat) × (Nat → Nat → Int32))) => r = 1) (fun u => wpost dC dI cy (va_A [] sz) []) (va_A [] sz)) 0 0 (va_A [] sz) := by
  refine Met.ofW (cc := cX12_in) (maxL := 6) (ret := (some .boolean)) (by decide) rfl ?_
  intro p e s m args below meth c s₁ B hml hv
  obtain ⟨rfl, hsz, hP, hK, hD0⟩ := hv
  have hx := B.exec
  have hb := B.bytes
  have hr := B.returns
  have hlocks := B.notSynchronized
  have hC : CallFix p m c cX12_in 6 s _ wsX12_in RX12 := ⟨hx, hb, hml, findClass_of_methodNamed B.named, atoms_spec (ws := wsX12_in) B.pre⟩
  subst hsz
  have hD := hD0.self (sz := s.heap.size)
  generalize hAe : va_A [] s.heap.size = A at hD ⊢
  have hA : ∀ q : Nat, s.heap.size ≤ q → A q := fun q h => by rw [← hAe]; exact Or.inr h
  have hw : Wd dC dI A s.heap s.heap [] [] := ⟨hP, hD, va_S.rf⟩
  have hl := lv_entry ([.long 0, .long 0, .long 3]) (n := 6) (Nat.le_of_ble_eq_true rfl)
  rw [lg_entry_eq]
  generalize (lg_sl ([.long 0, .long 0, .long 3]) ++ List.replicate (6 - (lg_sl ([.long 0, .long 0, .long 3])).length) Slot.unset).toArray = ls at hl ⊢
  have hl : lv_has ls 6 [(0, .long 0), (2, .long 0), (4, .long 3)] := hl
  refine lv_lload_n hx hb dX12_in_0 rfl (lv_at hl 0 rfl) ?_
  refine lv_lload_n hx hb dX12_in_1 rfl (lv_at hl 1 rfl) ?_
  refine W.lcmp hx hb dX12_in_2 ?_
  refine wk_top 0 (by decide) ?_
  refine lv_if_lt (tgt := 17) hx hb dX12_in_3 (by decide) (fun c => absurd c (by decide)) (fun _ => ?_)
  refine lv_lload_n hx hb dX12_in_6 rfl (lv_at hl 0 rfl) ?_
  refine lv_lload hx hb dX12_in_7 (lv_at hl 2 rfl) ?_
  refine W.lcmp hx hb dX12_in_9 ?_
  refine wk_top (-1) (by decide) ?_
  refine lv_if_gt (tgt := 17) hx hb dX12_in_10 (by decide) (fun c => absurd c (by decide)) (fun _ => ?_)
  refine lv_iconst (v := 1) hx hb dX12_in_13 (by decide) ?_
  refine lv_goto (tgt := 18) hx hb dX12_in_14 (by decide) ?_
  exact wk_zret (v := 1) hC hr rfl hlocks hK ((fun _ => 0), (fun _ _ => 0)) rfl [] rfl rfl hw dX12_in_18

set_option maxHeartbeats 4000000 in
set_option maxRecDepth 100000 in
theorem t_X12_image_1 (l : Launch) (dC : Nat → ClassId) (dI : Nat → Nat → Nat) (cy : Nat → ClassId) (av0 : Nat) (ad : Nat → Nat) (sz : Nat)  : Met l yX12_image wsX12_image ({ frames := 1, cells := 0, slots := 0, locals := 25 }) (va_Pc [.ref av0, .int 0] (wpre dC dI cy sz [(av0, .inr (12, [.ref (ad 0), .int 0, .int 0, .ref (ad 1), .ref (ad 2), .ref (ad 3), .ref (ad 4), .int 0, .int 0, .int 0, .int 0, .ref (ad 5), .ref (ad 6), .ref (ad 7), .int 0, .int 0, .int 0, .int 0, .int 0, .int 0, .int 0, .ref (ad 8), .int 0, .ref (ad 9), .int 0, .ref (ad 10), .ref (ad 11), .int 1, .ref (ad 12), .ref (ad 13), .int 0, .int 0, .ref (ad 14), .ref (ad 15), .ref (ad 16), .ref (ad 17), .ref (ad 18), .int 0, .ref (ad 19), .long 0, .ref (ad 20), .ref (ad 21)])), ((ad 11), .inl (cy 0, 296, .inl (fun _ => 0))), ((ad 20), .inl (cy 0, 1184, .inl (fun _ => 0))), ((ad 21), .inl (cy 2, 4, .inl (fun _ => 0)))])) (va_Qi (fun (r : Int32) (_ : ((Nat → Nat) × (Nat → Nat → Int32))) => r = 0) (fun u => wpost dC dI cy (va_A [(av0, .inr (12, [.ref (ad 0), .int 0, .int 0, .ref (ad 1), .ref (ad 2), .ref (ad 3), .ref (ad 4), .int 0, .int 0, .int 0, .int 0, .ref (ad 5), .ref (ad 6), .ref (ad 7), .int 0, .int 0, .int 0, .int 0, .int 0, .int 0, .int 0, .ref (ad 8), .int 0, .ref (ad 9), .int 0, .ref (ad 10), .ref (ad 11), .int 1, .ref (ad 12), .ref (ad 13), .int 0, .int 0, .ref (ad 14), .ref (ad 15), .ref (ad 16), .ref (ad 17), .ref (ad 18), .int 0, .ref (ad 19), .long 0, .ref (ad 20), .ref (ad 21)])), ((ad 11), .inl (cy 0, 296, .inl (fun _ => 0))), ((ad 20), .inl (cy 0, 1184, .inl (fun _ => 0))), ((ad 21), .inl (cy 2, 4, .inl (fun _ => 0)))] sz) [(av0, .inr (12, [.ref (ad 0), .int 0, .int 0, .ref (ad 1), .ref (ad 2), .ref (ad 3), .ref (ad 4), .int 0, .int 0, .int 0, .int 0, .ref (ad 5), .ref (ad 6), .ref (ad 7), .int 0, .int 0, .int 0, .int 0, .int 0, .int 0, .int 0, .ref (ad 8), .int 0, .ref (ad 9), .int 0, .ref (ad 10), .ref (ad 11), .int 1, .ref (ad 12), .ref (ad 13), .int 0, .int 0, .ref (ad 14), .ref (ad 15), .ref (ad 16), .ref (ad 17), .ref (ad 18), .int 0, .ref (ad 19), .long 0, .ref (ad 20), .ref (ad 21)])), ((ad 11), .inl (cy 0, 296, .inl (fun _ => 0))), ((ad 20), .inl (cy 0, 1184, .inl (u.2 0))), ((ad 21), .inl (cy 2, 4, .inl (u.2 1)))]) (va_A [(av0, .inr (12, [.ref (ad 0), .int 0, .int 0, .ref (ad 1), .ref (ad 2), .ref (ad 3), .ref (ad 4), .int 0, .int 0, .int 0, .int 0, .ref (ad 5), .ref (ad 6), .ref (ad 7), .int 0, .int 0, .int 0, .int 0, .int 0, .int 0, .int 0, .ref (ad 8), .int 0, .ref (ad 9), .int 0, .ref (ad 10), .ref (ad 11), .int 1, .ref (ad 12), .ref (ad 13), .int 0, .int 0, .ref (ad 14), .ref (ad 15), .ref (ad 16), .ref (ad 17), .ref (ad 18), .int 0, .ref (ad 19), .long 0, .ref (ad 20), .ref (ad 21)])), ((ad 11), .inl (cy 0, 296, .inl (fun _ => 0))), ((ad 20), .inl (cy 0, 1184, .inl (fun _ => 0))), ((ad 21), .inl (cy 2, 4, .inl (fun _ => 0)))] sz)) 0 0 (va_A [(av0, .inr (12, [.ref (ad 0), .int 0, .int 0, .ref (ad 1), .ref (ad 2), .ref (ad 3), .ref (ad 4), .int 0, .int 0, .int 0, .int 0, .ref (ad 5), .ref (ad 6), .ref (ad 7), .int 0, .int 0, .int 0, .int 0, .int 0, .int 0, .int 0, .ref (ad 8), .int 0, .ref (ad 9), .int 0, .ref (ad 10), .ref (ad 11), .int 1, .ref (ad 12), .ref (ad 13), .int 0, .int 0, .ref (ad 14), .ref (ad 15), .ref (ad 16), .ref (ad 17), .ref (ad 18), .int 0, .ref (ad 19), .long 0, .ref (ad 20), .ref (ad 21)])), ((ad 11), .inl (cy 0, 296, .inl (fun _ => 0))), ((ad 20), .inl (cy 0, 1184, .inl (fun _ => 0))), ((ad 21), .inl (cy 2, 4, .inl (fun _ => 0)))] sz) := by
  refine Met.ofW (cc := cX12_image) (maxL := 3) (ret := (some .int)) (by decide) rfl ?_
  intro p e s m args below meth c s₁ B hml hv
  obtain ⟨rfl, hsz, hP, hK, hD0⟩ := hv
  have hx := B.exec
  have hb := B.bytes
  have hr := B.returns
  have hlocks := B.notSynchronized
  have hC : CallFix p m c cX12_image 3 s _ wsX12_image RX12 := ⟨hx, hb, hml, findClass_of_methodNamed B.named, atoms_spec (ws := wsX12_image) B.pre⟩
  subst hsz
  have hD := hD0.self (sz := s.heap.size)
  generalize hAe : va_A [(av0, .inr (12, [.ref (ad 0), .int 0, .int 0, .ref (ad 1), .ref (ad 2), .ref (ad 3), .ref (ad 4), .int 0, .int 0, .int 0, .int 0, .ref (ad 5), .ref (ad 6), .ref (ad 7), .int 0, .int 0, .int 0, .int 0, .int 0, .int 0, .int 0, .ref (ad 8), .int 0, .ref (ad 9), .int 0, .ref (ad 10), .ref (ad 11), .int 1, .ref (ad 12), .ref (ad 13), .int 0, .int 0, .ref (ad 14), .ref (ad 15), .ref (ad 16), .ref (ad 17), .ref (ad 18), .int 0, .ref (ad 19), .long 0, .ref (ad 20), .ref (ad 21)])), ((ad 11), .inl (cy 0, 296, .inl (fun _ => 0))), ((ad 20), .inl (cy 0, 1184, .inl (fun _ => 0))), ((ad 21), .inl (cy 2, 4, .inl (fun _ => 0)))] s.heap.size = A at hD ⊢
  have hA : ∀ q : Nat, s.heap.size ≤ q → A q := fun q h => by rw [← hAe]; exact Or.inr h
  have hw : Wd dC dI A s.heap s.heap [] [(av0, .inr (12, [.ref (ad 0), .int 0, .int 0, .ref (ad 1), .ref (ad 2), .ref (ad 3), .ref (ad 4), .int 0, .int 0, .int 0, .int 0, .ref (ad 5), .ref (ad 6), .ref (ad 7), .int 0, .int 0, .int 0, .int 0, .int 0, .int 0, .int 0, .ref (ad 8), .int 0, .ref (ad 9), .int 0, .ref (ad 10), .ref (ad 11), .int 1, .ref (ad 12), .ref (ad 13), .int 0, .int 0, .ref (ad 14), .ref (ad 15), .ref (ad 16), .ref (ad 17), .ref (ad 18), .int 0, .ref (ad 19), .long 0, .ref (ad 20), .ref (ad 21)])), ((ad 11), .inl (cy 0, 296, .inl (fun _ => 0))), ((ad 20), .inl (cy 0, 1184, .inl (fun _ => 0))), ((ad 21), .inl (cy 2, 4, .inl (fun _ => 0)))] := ⟨hP, hD, va_S.rf⟩
  have hl := lv_entry ([.ref av0, .int 0]) (n := 3) (Nat.le_of_ble_eq_true rfl)
  rw [lg_entry_eq]
  generalize (lg_sl ([.ref av0, .int 0]) ++ List.replicate (3 - (lg_sl ([.ref av0, .int 0])).length) Slot.unset).toArray = ls at hl ⊢
  have hl : lv_has ls 3 [(0, .ref av0), (1, .int 0)] := hl
  have hinX12 : ∀ w ∈ u_ws RX12 TX12 42, w ∈ wsX12_image := fun _ h => List.mem_cons_of_mem _ (List.mem_append_right _ (h))
  refine lv_iload_n hx hb dX12_image_0 rfl (lv_at hl 1 rfl) ?_
  refine lv_i2l hx hb dX12_image_1 ?_
  refine wk_topl 0 (by decide) ?_
  refine lv_lconst (v := 0) hx hb dX12_image_2 (by decide) ?_
  refine lv_ldc2 (v := 3) hx hb hC.2.2.2.1 (hC.2.2.2.2 _ (List.mem_of_getElem? (i := 1) rfl)) dX12_image_3 ?_
  refine wk_Si hC hK hw hA [] [0, 1, 2, 3] rfl rfl rfl rfl (by decide) (c_X12_in_2 l dC dI cy  s.heap.size ) (va_cwS 3 hC.2.2.2.2 gX12_image_X12_in rfl rfl rfl (by decide +kernel) ⟨Nat.le_of_ble_eq_true rfl, Nat.le_of_ble_eq_true rfl⟩) rfl hl.1 rfl (Nat.le_of_ble_eq_true rfl) dX12_image_6 0 0 ⟨rfl, rfl⟩ ⟨Nat.le_of_ble_eq_true rfl, Nat.le_of_ble_eq_true rfl⟩ (fun r2 u1 H locs p3 hw => ?_)
  have hw : Wd dC dI A s.heap H locs [(av0, .inr (12, [.ref (ad 0), .int 0, .int 0, .ref (ad 1), .ref (ad 2), .ref (ad 3), .ref (ad 4), .int 0, .int 0, .int 0, .int 0, .ref (ad 5), .ref (ad 6), .ref (ad 7), .int 0, .int 0, .int 0, .int 0, .int 0, .int 0, .int 0, .ref (ad 8), .int 0, .ref (ad 9), .int 0, .ref (ad 10), .ref (ad 11), .int 1, .ref (ad 12), .ref (ad 13), .int 0, .int 0, .ref (ad 14), .ref (ad 15), .ref (ad 16), .ref (ad 17), .ref (ad 18), .int 0, .ref (ad 19), .long 0, .ref (ad 20), .ref (ad 21)])), ((ad 11), .inl (cy 0, 296, .inl (fun _ => 0))), ((ad 20), .inl (cy 0, 1184, .inl (fun _ => 0))), ((ad 21), .inl (cy 2, 4, .inl (fun _ => 0)))] := hw
  obtain rfl : r2 = 1 := p3
  refine lv_if_ne (tgt := 14) hx hb dX12_image_9 (by decide) (fun _ => ?_) (fun c => absurd (by decide) c)
  refine lv_aload_n hx hb dX12_image_14 rfl (lv_at hl 0 rfl) ?_
  refine wk_get hC hK hw hinX12 0 rfl rfl 41 (by decide) (List.mem_of_getElem? (i := 2) rfl) rfl rfl dX12_image_15 ?_
  refine lv_iload_n hx hb dX12_image_18 rfl (lv_at hl 1 rfl) ?_
  refine lv_iconst (v := 1) hx hb dX12_image_19 (by decide) ?_
  refine wk_zast hC hK hw 3 rfl (show ¬ ((0 : Int32) < 0 ∨ 4 ≤ (0 : Int32).toNatClampNeg) by decide) dX12_image_20 (fun H locs hw => ?_)
  obtain ⟨f4, hw⟩ : ∃ f4 : Nat → Int32, Wd dC dI A s.heap H locs [(av0, .inr (12, [.ref (ad 0), .int 0, .int 0, .ref (ad 1), .ref (ad 2), .ref (ad 3), .ref (ad 4), .int 0, .int 0, .int 0, .int 0, .ref (ad 5), .ref (ad 6), .ref (ad 7), .int 0, .int 0, .int 0, .int 0, .int 0, .int 0, .int 0, .ref (ad 8), .int 0, .ref (ad 9), .int 0, .ref (ad 10), .ref (ad 11), .int 1, .ref (ad 12), .ref (ad 13), .int 0, .int 0, .ref (ad 14), .ref (ad 15), .ref (ad 16), .ref (ad 17), .ref (ad 18), .int 0, .ref (ad 19), .long 0, .ref (ad 20), .ref (ad 21)])), ((ad 11), .inl (cy 0, 296, .inl (fun _ => 0))), ((ad 20), .inl (cy 0, 1184, .inl (fun _ => 0))), ((ad 21), .inl (cy 2, 4, .inl f4))] := ⟨_, hw⟩
  refine lv_iconst (v := 0) hx hb dX12_image_21 (by decide) ?_
  refine lv_istore_n (lv' := [(2, .int 0), (0, .ref av0), (1, .int 0)]) hx hb dX12_image_22 rfl hl (by decide) rfl (fun ls hl => ?_)
  refine lp_image hC hK 0 (by decide) (by decide) (fun f5 => [(av0, .inr (12, [.ref (ad 0), .int 0, .int 0, .ref (ad 1), .ref (ad 2), .ref (ad 3), .ref (ad 4), .int 0, .int 0, .int 0, .int 0, .ref (ad 5), .ref (ad 6), .ref (ad 7), .int 0, .int 0, .int 0, .int 0, .int 0, .int 0, .int 0, .ref (ad 8), .int 0, .ref (ad 9), .int 0, .ref (ad 10), .ref (ad 11), .int 1, .ref (ad 12), .ref (ad 13), .int 0, .int 0, .ref (ad 14), .ref (ad 15), .ref (ad 16), .ref (ad 17), .ref (ad 18), .int 0, .ref (ad 19), .long 0, .ref (ad 20), .ref (ad 21)])), ((ad 11), .inl (cy 0, 296, .inl (fun _ => 0))), ((ad 20), .inl (cy 0, 1184, .inl f5)), ((ad 21), .inl (cy 2, 4, .inl f4))]) 0 2 1 av0 (ad 20) (ad 11) _ _ (fun _ => rfl) rfl rfl (fun _ => rfl) (fun _ => rfl) (fun _ _ => rfl) 296 0 (fun _ => 0) _ _ ls (by decide) (by decide) hw hl (fun f5 H locs ls hw hl => ?_)
  have hw : Wd dC dI A s.heap H locs [(av0, .inr (12, [.ref (ad 0), .int 0, .int 0, .ref (ad 1), .ref (ad 2), .ref (ad 3), .ref (ad 4), .int 0, .int 0, .int 0, .int 0, .ref (ad 5), .ref (ad 6), .ref (ad 7), .int 0, .int 0, .int 0, .int 0, .int 0, .int 0, .int 0, .ref (ad 8), .int 0, .ref (ad 9), .int 0, .ref (ad 10), .ref (ad 11), .int 1, .ref (ad 12), .ref (ad 13), .int 0, .int 0, .ref (ad 14), .ref (ad 15), .ref (ad 16), .ref (ad 17), .ref (ad 18), .int 0, .ref (ad 19), .long 0, .ref (ad 20), .ref (ad 21)])), ((ad 11), .inl (cy 0, 296, .inl (fun _ => 0))), ((ad 20), .inl (cy 0, 1184, .inl f5)), ((ad 21), .inl (cy 2, 4, .inl f4))] := hw
  have hl : lv_has ls 3 [(2, .int 296), (0, .ref av0), (1, .int 0)] := hl
  refine lv_aload_n hx hb dX12_image_54 rfl (lv_at hl 1 rfl) ?_
  refine wk_get hC hK hw hinX12 0 rfl rfl 26 (by decide) (List.mem_of_getElem? (i := 4) rfl) rfl rfl dX12_image_55 ?_
  refine lv_iconst (v := 5) hx hb dX12_image_58 (by decide) ?_
  refine wk_iald hC hK hw 1 rfl (show ¬ ((5 : Int32) < 0 ∨ 296 ≤ (5 : Int32).toNatClampNeg) by decide) dX12_image_59 ?_
  refine wk_top 0 rfl ?_
  exact wk_iret (v := 0) hC hr hlocks hK ((fun _ => 0), (fun k => ([f5, f4] : List (Nat → Int32)).getD k (fun _ => 0))) rfl [0, 1, 2, 3] rfl rfl hw dX12_image_60

set_option maxHeartbeats 4000000 in
set_option maxRecDepth 100000 in
theorem c_X12_in_3 (l : Launch) (dC : Nat → ClassId) (dI : Nat → Nat → Nat) (cy : Nat → ClassId)  (sz : Nat)  : Met l yX12_in wsX12_in ({ frames := 0, cells := 0, slots := 0, locals := 0 }) (va_Pc [.long 1, .long 0, .long 3] (wpre dC dI cy sz [])) (va_Qi (fun (r : Int32) (_ : ((Nat → Nat) × (Nat → Nat → Int32))) => r = 1) (fun u => wpost dC dI cy (va_A [] sz) []) (va_A [] sz)) 0 0 (va_A [] sz) := by
  refine Met.ofW (cc := cX12_in) (maxL := 6) (ret := (some .boolean)) (by decide) rfl ?_
  intro p e s m args below meth c s₁ B hml hv
  obtain ⟨rfl, hsz, hP, hK, hD0⟩ := hv
  have hx := B.exec
  have hb := B.bytes
  have hr := B.returns
  have hlocks := B.notSynchronized
  have hC : CallFix p m c cX12_in 6 s _ wsX12_in RX12 := ⟨hx, hb, hml, findClass_of_methodNamed B.named, atoms_spec (ws := wsX12_in) B.pre⟩
  subst hsz
  have hD := hD0.self (sz := s.heap.size)
  generalize hAe : va_A [] s.heap.size = A at hD ⊢
  have hA : ∀ q : Nat, s.heap.size ≤ q → A q := fun q h => by rw [← hAe]; exact Or.inr h
  have hw : Wd dC dI A s.heap s.heap [] [] := ⟨hP, hD, va_S.rf⟩
  have hl := lv_entry ([.long 1, .long 0, .long 3]) (n := 6) (Nat.le_of_ble_eq_true rfl)
  rw [lg_entry_eq]
  generalize (lg_sl ([.long 1, .long 0, .long 3]) ++ List.replicate (6 - (lg_sl ([.long 1, .long 0, .long 3])).length) Slot.unset).toArray = ls at hl ⊢
  have hl : lv_has ls 6 [(0, .long 1), (2, .long 0), (4, .long 3)] := hl
  refine lv_lload_n hx hb dX12_in_0 rfl (lv_at hl 0 rfl) ?_
  refine lv_lload_n hx hb dX12_in_1 rfl (lv_at hl 1 rfl) ?_
  refine W.lcmp hx hb dX12_in_2 ?_
  refine wk_top 1 (by decide) ?_
  refine lv_if_lt (tgt := 17) hx hb dX12_in_3 (by decide) (fun c => absurd c (by decide)) (fun _ => ?_)
  refine lv_lload_n hx hb dX12_in_6 rfl (lv_at hl 0 rfl) ?_
  refine lv_lload hx hb dX12_in_7 (lv_at hl 2 rfl) ?_
  refine W.lcmp hx hb dX12_in_9 ?_
  refine wk_top (-1) (by decide) ?_
  refine lv_if_gt (tgt := 17) hx hb dX12_in_10 (by decide) (fun c => absurd c (by decide)) (fun _ => ?_)
  refine lv_iconst (v := 1) hx hb dX12_in_13 (by decide) ?_
  refine lv_goto (tgt := 18) hx hb dX12_in_14 (by decide) ?_
  exact wk_zret (v := 1) hC hr rfl hlocks hK ((fun _ => 0), (fun _ _ => 0)) rfl [] rfl rfl hw dX12_in_18

set_option maxHeartbeats 4000000 in
set_option maxRecDepth 100000 in
theorem t_X12_image_2 (l : Launch) (dC : Nat → ClassId) (dI : Nat → Nat → Nat) (cy : Nat → ClassId) (av0 : Nat) (ad : Nat → Nat) (sz : Nat)  : Met l yX12_image wsX12_image ({ frames := 1, cells := 0, slots := 0, locals := 25 }) (va_Pc [.ref av0, .int 1] (wpre dC dI cy sz [(av0, .inr (12, [.ref (ad 0), .int 0, .int 0, .ref (ad 1), .ref (ad 2), .ref (ad 3), .ref (ad 4), .int 0, .int 0, .int 0, .int 0, .ref (ad 5), .ref (ad 6), .ref (ad 7), .int 0, .int 0, .int 0, .int 0, .int 0, .int 0, .int 0, .ref (ad 8), .int 0, .ref (ad 9), .int 0, .ref (ad 10), .ref (ad 11), .int 1, .ref (ad 12), .ref (ad 13), .int 0, .int 0, .ref (ad 14), .ref (ad 15), .ref (ad 16), .ref (ad 17), .ref (ad 18), .int 0, .ref (ad 19), .long 0, .ref (ad 20), .ref (ad 21)])), ((ad 11), .inl (cy 0, 296, .inl (fun _ => 0))), ((ad 20), .inl (cy 0, 1184, .inl (fun _ => 0))), ((ad 21), .inl (cy 2, 4, .inl (fun _ => 0)))])) (va_Qi (fun (r : Int32) (_ : ((Nat → Nat) × (Nat → Nat → Int32))) => r = 0) (fun u => wpost dC dI cy (va_A [(av0, .inr (12, [.ref (ad 0), .int 0, .int 0, .ref (ad 1), .ref (ad 2), .ref (ad 3), .ref (ad 4), .int 0, .int 0, .int 0, .int 0, .ref (ad 5), .ref (ad 6), .ref (ad 7), .int 0, .int 0, .int 0, .int 0, .int 0, .int 0, .int 0, .ref (ad 8), .int 0, .ref (ad 9), .int 0, .ref (ad 10), .ref (ad 11), .int 1, .ref (ad 12), .ref (ad 13), .int 0, .int 0, .ref (ad 14), .ref (ad 15), .ref (ad 16), .ref (ad 17), .ref (ad 18), .int 0, .ref (ad 19), .long 0, .ref (ad 20), .ref (ad 21)])), ((ad 11), .inl (cy 0, 296, .inl (fun _ => 0))), ((ad 20), .inl (cy 0, 1184, .inl (fun _ => 0))), ((ad 21), .inl (cy 2, 4, .inl (fun _ => 0)))] sz) [(av0, .inr (12, [.ref (ad 0), .int 0, .int 0, .ref (ad 1), .ref (ad 2), .ref (ad 3), .ref (ad 4), .int 0, .int 0, .int 0, .int 0, .ref (ad 5), .ref (ad 6), .ref (ad 7), .int 0, .int 0, .int 0, .int 0, .int 0, .int 0, .int 0, .ref (ad 8), .int 0, .ref (ad 9), .int 0, .ref (ad 10), .ref (ad 11), .int 1, .ref (ad 12), .ref (ad 13), .int 0, .int 0, .ref (ad 14), .ref (ad 15), .ref (ad 16), .ref (ad 17), .ref (ad 18), .int 0, .ref (ad 19), .long 0, .ref (ad 20), .ref (ad 21)])), ((ad 11), .inl (cy 0, 296, .inl (fun _ => 0))), ((ad 20), .inl (cy 0, 1184, .inl (u.2 0))), ((ad 21), .inl (cy 2, 4, .inl (u.2 1)))]) (va_A [(av0, .inr (12, [.ref (ad 0), .int 0, .int 0, .ref (ad 1), .ref (ad 2), .ref (ad 3), .ref (ad 4), .int 0, .int 0, .int 0, .int 0, .ref (ad 5), .ref (ad 6), .ref (ad 7), .int 0, .int 0, .int 0, .int 0, .int 0, .int 0, .int 0, .ref (ad 8), .int 0, .ref (ad 9), .int 0, .ref (ad 10), .ref (ad 11), .int 1, .ref (ad 12), .ref (ad 13), .int 0, .int 0, .ref (ad 14), .ref (ad 15), .ref (ad 16), .ref (ad 17), .ref (ad 18), .int 0, .ref (ad 19), .long 0, .ref (ad 20), .ref (ad 21)])), ((ad 11), .inl (cy 0, 296, .inl (fun _ => 0))), ((ad 20), .inl (cy 0, 1184, .inl (fun _ => 0))), ((ad 21), .inl (cy 2, 4, .inl (fun _ => 0)))] sz)) 0 0 (va_A [(av0, .inr (12, [.ref (ad 0), .int 0, .int 0, .ref (ad 1), .ref (ad 2), .ref (ad 3), .ref (ad 4), .int 0, .int 0, .int 0, .int 0, .ref (ad 5), .ref (ad 6), .ref (ad 7), .int 0, .int 0, .int 0, .int 0, .int 0, .int 0, .int 0, .ref (ad 8), .int 0, .ref (ad 9), .int 0, .ref (ad 10), .ref (ad 11), .int 1, .ref (ad 12), .ref (ad 13), .int 0, .int 0, .ref (ad 14), .ref (ad 15), .ref (ad 16), .ref (ad 17), .ref (ad 18), .int 0, .ref (ad 19), .long 0, .ref (ad 20), .ref (ad 21)])), ((ad 11), .inl (cy 0, 296, .inl (fun _ => 0))), ((ad 20), .inl (cy 0, 1184, .inl (fun _ => 0))), ((ad 21), .inl (cy 2, 4, .inl (fun _ => 0)))] sz) := by
  refine Met.ofW (cc := cX12_image) (maxL := 3) (ret := (some .int)) (by decide) rfl ?_
  intro p e s m args below meth c s₁ B hml hv
  obtain ⟨rfl, hsz, hP, hK, hD0⟩ := hv
  have hx := B.exec
  have hb := B.bytes
  have hr := B.returns
  have hlocks := B.notSynchronized
  have hC : CallFix p m c cX12_image 3 s _ wsX12_image RX12 := ⟨hx, hb, hml, findClass_of_methodNamed B.named, atoms_spec (ws := wsX12_image) B.pre⟩
  subst hsz
  have hD := hD0.self (sz := s.heap.size)
  generalize hAe : va_A [(av0, .inr (12, [.ref (ad 0), .int 0, .int 0, .ref (ad 1), .ref (ad 2), .ref (ad 3), .ref (ad 4), .int 0, .int 0, .int 0, .int 0, .ref (ad 5), .ref (ad 6), .ref (ad 7), .int 0, .int 0, .int 0, .int 0, .int 0, .int 0, .int 0, .ref (ad 8), .int 0, .ref (ad 9), .int 0, .ref (ad 10), .ref (ad 11), .int 1, .ref (ad 12), .ref (ad 13), .int 0, .int 0, .ref (ad 14), .ref (ad 15), .ref (ad 16), .ref (ad 17), .ref (ad 18), .int 0, .ref (ad 19), .long 0, .ref (ad 20), .ref (ad 21)])), ((ad 11), .inl (cy 0, 296, .inl (fun _ => 0))), ((ad 20), .inl (cy 0, 1184, .inl (fun _ => 0))), ((ad 21), .inl (cy 2, 4, .inl (fun _ => 0)))] s.heap.size = A at hD ⊢
  have hA : ∀ q : Nat, s.heap.size ≤ q → A q := fun q h => by rw [← hAe]; exact Or.inr h
  have hw : Wd dC dI A s.heap s.heap [] [(av0, .inr (12, [.ref (ad 0), .int 0, .int 0, .ref (ad 1), .ref (ad 2), .ref (ad 3), .ref (ad 4), .int 0, .int 0, .int 0, .int 0, .ref (ad 5), .ref (ad 6), .ref (ad 7), .int 0, .int 0, .int 0, .int 0, .int 0, .int 0, .int 0, .ref (ad 8), .int 0, .ref (ad 9), .int 0, .ref (ad 10), .ref (ad 11), .int 1, .ref (ad 12), .ref (ad 13), .int 0, .int 0, .ref (ad 14), .ref (ad 15), .ref (ad 16), .ref (ad 17), .ref (ad 18), .int 0, .ref (ad 19), .long 0, .ref (ad 20), .ref (ad 21)])), ((ad 11), .inl (cy 0, 296, .inl (fun _ => 0))), ((ad 20), .inl (cy 0, 1184, .inl (fun _ => 0))), ((ad 21), .inl (cy 2, 4, .inl (fun _ => 0)))] := ⟨hP, hD, va_S.rf⟩
  have hl := lv_entry ([.ref av0, .int 1]) (n := 3) (Nat.le_of_ble_eq_true rfl)
  rw [lg_entry_eq]
  generalize (lg_sl ([.ref av0, .int 1]) ++ List.replicate (3 - (lg_sl ([.ref av0, .int 1])).length) Slot.unset).toArray = ls at hl ⊢
  have hl : lv_has ls 3 [(0, .ref av0), (1, .int 1)] := hl
  have hinX12 : ∀ w ∈ u_ws RX12 TX12 42, w ∈ wsX12_image := fun _ h => List.mem_cons_of_mem _ (List.mem_append_right _ (h))
  refine lv_iload_n hx hb dX12_image_0 rfl (lv_at hl 1 rfl) ?_
  refine lv_i2l hx hb dX12_image_1 ?_
  refine wk_topl 1 (by decide) ?_
  refine lv_lconst (v := 0) hx hb dX12_image_2 (by decide) ?_
  refine lv_ldc2 (v := 3) hx hb hC.2.2.2.1 (hC.2.2.2.2 _ (List.mem_of_getElem? (i := 1) rfl)) dX12_image_3 ?_
  refine wk_Si hC hK hw hA [] [0, 1, 2, 3] rfl rfl rfl rfl (by decide) (c_X12_in_3 l dC dI cy  s.heap.size ) (va_cwS 3 hC.2.2.2.2 gX12_image_X12_in rfl rfl rfl (by decide +kernel) ⟨Nat.le_of_ble_eq_true rfl, Nat.le_of_ble_eq_true rfl⟩) rfl hl.1 rfl (Nat.le_of_ble_eq_true rfl) dX12_image_6 0 0 ⟨rfl, rfl⟩ ⟨Nat.le_of_ble_eq_true rfl, Nat.le_of_ble_eq_true rfl⟩ (fun r2 u1 H locs p3 hw => ?_)
  have hw : Wd dC dI A s.heap H locs [(av0, .inr (12, [.ref (ad 0), .int 0, .int 0, .ref (ad 1), .ref (ad 2), .ref (ad 3), .ref (ad 4), .int 0, .int 0, .int 0, .int 0, .ref (ad 5), .ref (ad 6), .ref (ad 7), .int 0, .int 0, .int 0, .int 0, .int 0, .int 0, .int 0, .ref (ad 8), .int 0, .ref (ad 9), .int 0, .ref (ad 10), .ref (ad 11), .int 1, .ref (ad 12), .ref (ad 13), .int 0, .int 0, .ref (ad 14), .ref (ad 15), .ref (ad 16), .ref (ad 17), .ref (ad 18), .int 0, .ref (ad 19), .long 0, .ref (ad 20), .ref (ad 21)])), ((ad 11), .inl (cy 0, 296, .inl (fun _ => 0))), ((ad 20), .inl (cy 0, 1184, .inl (fun _ => 0))), ((ad 21), .inl (cy 2, 4, .inl (fun _ => 0)))] := hw
  obtain rfl : r2 = 1 := p3
  refine lv_if_ne (tgt := 14) hx hb dX12_image_9 (by decide) (fun _ => ?_) (fun c => absurd (by decide) c)
  refine lv_aload_n hx hb dX12_image_14 rfl (lv_at hl 0 rfl) ?_
  refine wk_get hC hK hw hinX12 0 rfl rfl 41 (by decide) (List.mem_of_getElem? (i := 2) rfl) rfl rfl dX12_image_15 ?_
  refine lv_iload_n hx hb dX12_image_18 rfl (lv_at hl 1 rfl) ?_
  refine lv_iconst (v := 1) hx hb dX12_image_19 (by decide) ?_
  refine wk_zast hC hK hw 3 rfl (show ¬ ((1 : Int32) < 0 ∨ 4 ≤ (1 : Int32).toNatClampNeg) by decide) dX12_image_20 (fun H locs hw => ?_)
  obtain ⟨f4, hw⟩ : ∃ f4 : Nat → Int32, Wd dC dI A s.heap H locs [(av0, .inr (12, [.ref (ad 0), .int 0, .int 0, .ref (ad 1), .ref (ad 2), .ref (ad 3), .ref (ad 4), .int 0, .int 0, .int 0, .int 0, .ref (ad 5), .ref (ad 6), .ref (ad 7), .int 0, .int 0, .int 0, .int 0, .int 0, .int 0, .int 0, .ref (ad 8), .int 0, .ref (ad 9), .int 0, .ref (ad 10), .ref (ad 11), .int 1, .ref (ad 12), .ref (ad 13), .int 0, .int 0, .ref (ad 14), .ref (ad 15), .ref (ad 16), .ref (ad 17), .ref (ad 18), .int 0, .ref (ad 19), .long 0, .ref (ad 20), .ref (ad 21)])), ((ad 11), .inl (cy 0, 296, .inl (fun _ => 0))), ((ad 20), .inl (cy 0, 1184, .inl (fun _ => 0))), ((ad 21), .inl (cy 2, 4, .inl f4))] := ⟨_, hw⟩
  refine lv_iconst (v := 0) hx hb dX12_image_21 (by decide) ?_
  refine lv_istore_n (lv' := [(2, .int 0), (0, .ref av0), (1, .int 1)]) hx hb dX12_image_22 rfl hl (by decide) rfl (fun ls hl => ?_)
  refine lp_image hC hK 1 (by decide) (by decide) (fun f5 => [(av0, .inr (12, [.ref (ad 0), .int 0, .int 0, .ref (ad 1), .ref (ad 2), .ref (ad 3), .ref (ad 4), .int 0, .int 0, .int 0, .int 0, .ref (ad 5), .ref (ad 6), .ref (ad 7), .int 0, .int 0, .int 0, .int 0, .int 0, .int 0, .int 0, .ref (ad 8), .int 0, .ref (ad 9), .int 0, .ref (ad 10), .ref (ad 11), .int 1, .ref (ad 12), .ref (ad 13), .int 0, .int 0, .ref (ad 14), .ref (ad 15), .ref (ad 16), .ref (ad 17), .ref (ad 18), .int 0, .ref (ad 19), .long 0, .ref (ad 20), .ref (ad 21)])), ((ad 11), .inl (cy 0, 296, .inl (fun _ => 0))), ((ad 20), .inl (cy 0, 1184, .inl f5)), ((ad 21), .inl (cy 2, 4, .inl f4))]) 0 2 1 av0 (ad 20) (ad 11) _ _ (fun _ => rfl) rfl rfl (fun _ => rfl) (fun _ => rfl) (fun _ _ => rfl) 296 0 (fun _ => 0) _ _ ls (by decide) (by decide) hw hl (fun f5 H locs ls hw hl => ?_)
  have hw : Wd dC dI A s.heap H locs [(av0, .inr (12, [.ref (ad 0), .int 0, .int 0, .ref (ad 1), .ref (ad 2), .ref (ad 3), .ref (ad 4), .int 0, .int 0, .int 0, .int 0, .ref (ad 5), .ref (ad 6), .ref (ad 7), .int 0, .int 0, .int 0, .int 0, .int 0, .int 0, .int 0, .ref (ad 8), .int 0, .ref (ad 9), .int 0, .ref (ad 10), .ref (ad 11), .int 1, .ref (ad 12), .ref (ad 13), .int 0, .int 0, .ref (ad 14), .ref (ad 15), .ref (ad 16), .ref (ad 17), .ref (ad 18), .int 0, .ref (ad 19), .long 0, .ref (ad 20), .ref (ad 21)])), ((ad 11), .inl (cy 0, 296, .inl (fun _ => 0))), ((ad 20), .inl (cy 0, 1184, .inl f5)), ((ad 21), .inl (cy 2, 4, .inl f4))] := hw
  have hl : lv_has ls 3 [(2, .int 296), (0, .ref av0), (1, .int 1)] := hl
  refine lv_aload_n hx hb dX12_image_54 rfl (lv_at hl 1 rfl) ?_
  refine wk_get hC hK hw hinX12 0 rfl rfl 26 (by decide) (List.mem_of_getElem? (i := 4) rfl) rfl rfl dX12_image_55 ?_
  refine lv_iconst (v := 5) hx hb dX12_image_58 (by decide) ?_
  refine wk_iald hC hK hw 1 rfl (show ¬ ((5 : Int32) < 0 ∨ 296 ≤ (5 : Int32).toNatClampNeg) by decide) dX12_image_59 ?_
  refine wk_top 0 rfl ?_
  exact wk_iret (v := 0) hC hr hlocks hK ((fun _ => 0), (fun k => ([f5, f4] : List (Nat → Int32)).getD k (fun _ => 0))) rfl [0, 1, 2, 3] rfl rfl hw dX12_image_60

set_option maxHeartbeats 4000000 in
set_option maxRecDepth 100000 in
theorem c_X12_in_4 (l : Launch) (dC : Nat → ClassId) (dI : Nat → Nat → Nat) (cy : Nat → ClassId)  (sz : Nat)  : Met l yX12_in wsX12_in ({ frames := 0, cells := 0, slots := 0, locals := 0 }) (va_Pc [.long 2, .long 0, .long 3] (wpre dC dI cy sz [])) (va_Qi (fun (r : Int32) (_ : ((Nat → Nat) × (Nat → Nat → Int32))) => r = 1) (fun u => wpost dC dI cy (va_A [] sz) []) (va_A [] sz)) 0 0 (va_A [] sz) := by
  refine Met.ofW (cc := cX12_in) (maxL := 6) (ret := (some .boolean)) (by decide) rfl ?_
  intro p e s m args below meth c s₁ B hml hv
  obtain ⟨rfl, hsz, hP, hK, hD0⟩ := hv
  have hx := B.exec
  have hb := B.bytes
  have hr := B.returns
  have hlocks := B.notSynchronized
  have hC : CallFix p m c cX12_in 6 s _ wsX12_in RX12 := ⟨hx, hb, hml, findClass_of_methodNamed B.named, atoms_spec (ws := wsX12_in) B.pre⟩
  subst hsz
  have hD := hD0.self (sz := s.heap.size)
  generalize hAe : va_A [] s.heap.size = A at hD ⊢
  have hA : ∀ q : Nat, s.heap.size ≤ q → A q := fun q h => by rw [← hAe]; exact Or.inr h
  have hw : Wd dC dI A s.heap s.heap [] [] := ⟨hP, hD, va_S.rf⟩
  have hl := lv_entry ([.long 2, .long 0, .long 3]) (n := 6) (Nat.le_of_ble_eq_true rfl)
  rw [lg_entry_eq]
  generalize (lg_sl ([.long 2, .long 0, .long 3]) ++ List.replicate (6 - (lg_sl ([.long 2, .long 0, .long 3])).length) Slot.unset).toArray = ls at hl ⊢
  have hl : lv_has ls 6 [(0, .long 2), (2, .long 0), (4, .long 3)] := hl
  refine lv_lload_n hx hb dX12_in_0 rfl (lv_at hl 0 rfl) ?_
  refine lv_lload_n hx hb dX12_in_1 rfl (lv_at hl 1 rfl) ?_
  refine W.lcmp hx hb dX12_in_2 ?_
  refine wk_top 1 (by decide) ?_
  refine lv_if_lt (tgt := 17) hx hb dX12_in_3 (by decide) (fun c => absurd c (by decide)) (fun _ => ?_)
  refine lv_lload_n hx hb dX12_in_6 rfl (lv_at hl 0 rfl) ?_
  refine lv_lload hx hb dX12_in_7 (lv_at hl 2 rfl) ?_
  refine W.lcmp hx hb dX12_in_9 ?_
  refine wk_top (-1) (by decide) ?_
  refine lv_if_gt (tgt := 17) hx hb dX12_in_10 (by decide) (fun c => absurd c (by decide)) (fun _ => ?_)
  refine lv_iconst (v := 1) hx hb dX12_in_13 (by decide) ?_
  refine lv_goto (tgt := 18) hx hb dX12_in_14 (by decide) ?_
  exact wk_zret (v := 1) hC hr rfl hlocks hK ((fun _ => 0), (fun _ _ => 0)) rfl [] rfl rfl hw dX12_in_18

set_option maxHeartbeats 4000000 in
set_option maxRecDepth 100000 in
theorem t_X12_image_3 (l : Launch) (dC : Nat → ClassId) (dI : Nat → Nat → Nat) (cy : Nat → ClassId) (av0 : Nat) (ad : Nat → Nat) (sz : Nat)  : Met l yX12_image wsX12_image ({ frames := 1, cells := 0, slots := 0, locals := 25 }) (va_Pc [.ref av0, .int 2] (wpre dC dI cy sz [(av0, .inr (12, [.ref (ad 0), .int 0, .int 0, .ref (ad 1), .ref (ad 2), .ref (ad 3), .ref (ad 4), .int 0, .int 0, .int 0, .int 0, .ref (ad 5), .ref (ad 6), .ref (ad 7), .int 0, .int 0, .int 0, .int 0, .int 0, .int 0, .int 0, .ref (ad 8), .int 0, .ref (ad 9), .int 0, .ref (ad 10), .ref (ad 11), .int 1, .ref (ad 12), .ref (ad 13), .int 0, .int 0, .ref (ad 14), .ref (ad 15), .ref (ad 16), .ref (ad 17), .ref (ad 18), .int 0, .ref (ad 19), .long 0, .ref (ad 20), .ref (ad 21)])), ((ad 11), .inl (cy 0, 296, .inl (fun _ => 0))), ((ad 20), .inl (cy 0, 1184, .inl (fun _ => 0))), ((ad 21), .inl (cy 2, 4, .inl (fun _ => 0)))])) (va_Qi (fun (r : Int32) (_ : ((Nat → Nat) × (Nat → Nat → Int32))) => r = 0) (fun u => wpost dC dI cy (va_A [(av0, .inr (12, [.ref (ad 0), .int 0, .int 0, .ref (ad 1), .ref (ad 2), .ref (ad 3), .ref (ad 4), .int 0, .int 0, .int 0, .int 0, .ref (ad 5), .ref (ad 6), .ref (ad 7), .int 0, .int 0, .int 0, .int 0, .int 0, .int 0, .int 0, .ref (ad 8), .int 0, .ref (ad 9), .int 0, .ref (ad 10), .ref (ad 11), .int 1, .ref (ad 12), .ref (ad 13), .int 0, .int 0, .ref (ad 14), .ref (ad 15), .ref (ad 16), .ref (ad 17), .ref (ad 18), .int 0, .ref (ad 19), .long 0, .ref (ad 20), .ref (ad 21)])), ((ad 11), .inl (cy 0, 296, .inl (fun _ => 0))), ((ad 20), .inl (cy 0, 1184, .inl (fun _ => 0))), ((ad 21), .inl (cy 2, 4, .inl (fun _ => 0)))] sz) [(av0, .inr (12, [.ref (ad 0), .int 0, .int 0, .ref (ad 1), .ref (ad 2), .ref (ad 3), .ref (ad 4), .int 0, .int 0, .int 0, .int 0, .ref (ad 5), .ref (ad 6), .ref (ad 7), .int 0, .int 0, .int 0, .int 0, .int 0, .int 0, .int 0, .ref (ad 8), .int 0, .ref (ad 9), .int 0, .ref (ad 10), .ref (ad 11), .int 1, .ref (ad 12), .ref (ad 13), .int 0, .int 0, .ref (ad 14), .ref (ad 15), .ref (ad 16), .ref (ad 17), .ref (ad 18), .int 0, .ref (ad 19), .long 0, .ref (ad 20), .ref (ad 21)])), ((ad 11), .inl (cy 0, 296, .inl (fun _ => 0))), ((ad 20), .inl (cy 0, 1184, .inl (u.2 0))), ((ad 21), .inl (cy 2, 4, .inl (u.2 1)))]) (va_A [(av0, .inr (12, [.ref (ad 0), .int 0, .int 0, .ref (ad 1), .ref (ad 2), .ref (ad 3), .ref (ad 4), .int 0, .int 0, .int 0, .int 0, .ref (ad 5), .ref (ad 6), .ref (ad 7), .int 0, .int 0, .int 0, .int 0, .int 0, .int 0, .int 0, .ref (ad 8), .int 0, .ref (ad 9), .int 0, .ref (ad 10), .ref (ad 11), .int 1, .ref (ad 12), .ref (ad 13), .int 0, .int 0, .ref (ad 14), .ref (ad 15), .ref (ad 16), .ref (ad 17), .ref (ad 18), .int 0, .ref (ad 19), .long 0, .ref (ad 20), .ref (ad 21)])), ((ad 11), .inl (cy 0, 296, .inl (fun _ => 0))), ((ad 20), .inl (cy 0, 1184, .inl (fun _ => 0))), ((ad 21), .inl (cy 2, 4, .inl (fun _ => 0)))] sz)) 0 0 (va_A [(av0, .inr (12, [.ref (ad 0), .int 0, .int 0, .ref (ad 1), .ref (ad 2), .ref (ad 3), .ref (ad 4), .int 0, .int 0, .int 0, .int 0, .ref (ad 5), .ref (ad 6), .ref (ad 7), .int 0, .int 0, .int 0, .int 0, .int 0, .int 0, .int 0, .ref (ad 8), .int 0, .ref (ad 9), .int 0, .ref (ad 10), .ref (ad 11), .int 1, .ref (ad 12), .ref (ad 13), .int 0, .int 0, .ref (ad 14), .ref (ad 15), .ref (ad 16), .ref (ad 17), .ref (ad 18), .int 0, .ref (ad 19), .long 0, .ref (ad 20), .ref (ad 21)])), ((ad 11), .inl (cy 0, 296, .inl (fun _ => 0))), ((ad 20), .inl (cy 0, 1184, .inl (fun _ => 0))), ((ad 21), .inl (cy 2, 4, .inl (fun _ => 0)))] sz) := by
  refine Met.ofW (cc := cX12_image) (maxL := 3) (ret := (some .int)) (by decide) rfl ?_
  intro p e s m args below meth c s₁ B hml hv
  obtain ⟨rfl, hsz, hP, hK, hD0⟩ := hv
  have hx := B.exec
  have hb := B.bytes
  have hr := B.returns
  have hlocks := B.notSynchronized
  have hC : CallFix p m c cX12_image 3 s _ wsX12_image RX12 := ⟨hx, hb, hml, findClass_of_methodNamed B.named, atoms_spec (ws := wsX12_image) B.pre⟩
  subst hsz
  have hD := hD0.self (sz := s.heap.size)
  generalize hAe : va_A [(av0, .inr (12, [.ref (ad 0), .int 0, .int 0, .ref (ad 1), .ref (ad 2), .ref (ad 3), .ref (ad 4), .int 0, .int 0, .int 0, .int 0, .ref (ad 5), .ref (ad 6), .ref (ad 7), .int 0, .int 0, .int 0, .int 0, .int 0, .int 0, .int 0, .ref (ad 8), .int 0, .ref (ad 9), .int 0, .ref (ad 10), .ref (ad 11), .int 1, .ref (ad 12), .ref (ad 13), .int 0, .int 0, .ref (ad 14), .ref (ad 15), .ref (ad 16), .ref (ad 17), .ref (ad 18), .int 0, .ref (ad 19), .long 0, .ref (ad 20), .ref (ad 21)])), ((ad 11), .inl (cy 0, 296, .inl (fun _ => 0))), ((ad 20), .inl (cy 0, 1184, .inl (fun _ => 0))), ((ad 21), .inl (cy 2, 4, .inl (fun _ => 0)))] s.heap.size = A at hD ⊢
  have hA : ∀ q : Nat, s.heap.size ≤ q → A q := fun q h => by rw [← hAe]; exact Or.inr h
  have hw : Wd dC dI A s.heap s.heap [] [(av0, .inr (12, [.ref (ad 0), .int 0, .int 0, .ref (ad 1), .ref (ad 2), .ref (ad 3), .ref (ad 4), .int 0, .int 0, .int 0, .int 0, .ref (ad 5), .ref (ad 6), .ref (ad 7), .int 0, .int 0, .int 0, .int 0, .int 0, .int 0, .int 0, .ref (ad 8), .int 0, .ref (ad 9), .int 0, .ref (ad 10), .ref (ad 11), .int 1, .ref (ad 12), .ref (ad 13), .int 0, .int 0, .ref (ad 14), .ref (ad 15), .ref (ad 16), .ref (ad 17), .ref (ad 18), .int 0, .ref (ad 19), .long 0, .ref (ad 20), .ref (ad 21)])), ((ad 11), .inl (cy 0, 296, .inl (fun _ => 0))), ((ad 20), .inl (cy 0, 1184, .inl (fun _ => 0))), ((ad 21), .inl (cy 2, 4, .inl (fun _ => 0)))] := ⟨hP, hD, va_S.rf⟩
  have hl := lv_entry ([.ref av0, .int 2]) (n := 3) (Nat.le_of_ble_eq_true rfl)
  rw [lg_entry_eq]
  generalize (lg_sl ([.ref av0, .int 2]) ++ List.replicate (3 - (lg_sl ([.ref av0, .int 2])).length) Slot.unset).toArray = ls at hl ⊢
  have hl : lv_has ls 3 [(0, .ref av0), (1, .int 2)] := hl
  have hinX12 : ∀ w ∈ u_ws RX12 TX12 42, w ∈ wsX12_image := fun _ h => List.mem_cons_of_mem _ (List.mem_append_right _ (h))
  refine lv_iload_n hx hb dX12_image_0 rfl (lv_at hl 1 rfl) ?_
  refine lv_i2l hx hb dX12_image_1 ?_
  refine wk_topl 2 (by decide) ?_
  refine lv_lconst (v := 0) hx hb dX12_image_2 (by decide) ?_
  refine lv_ldc2 (v := 3) hx hb hC.2.2.2.1 (hC.2.2.2.2 _ (List.mem_of_getElem? (i := 1) rfl)) dX12_image_3 ?_
  refine wk_Si hC hK hw hA [] [0, 1, 2, 3] rfl rfl rfl rfl (by decide) (c_X12_in_4 l dC dI cy  s.heap.size ) (va_cwS 3 hC.2.2.2.2 gX12_image_X12_in rfl rfl rfl (by decide +kernel) ⟨Nat.le_of_ble_eq_true rfl, Nat.le_of_ble_eq_true rfl⟩) rfl hl.1 rfl (Nat.le_of_ble_eq_true rfl) dX12_image_6 0 0 ⟨rfl, rfl⟩ ⟨Nat.le_of_ble_eq_true rfl, Nat.le_of_ble_eq_true rfl⟩ (fun r2 u1 H locs p3 hw => ?_)
  have hw : Wd dC dI A s.heap H locs [(av0, .inr (12, [.ref (ad 0), .int 0, .int 0, .ref (ad 1), .ref (ad 2), .ref (ad 3), .ref (ad 4), .int 0, .int 0, .int 0, .int 0, .ref (ad 5), .ref (ad 6), .ref (ad 7), .int 0, .int 0, .int 0, .int 0, .int 0, .int 0, .int 0, .ref (ad 8), .int 0, .ref (ad 9), .int 0, .ref (ad 10), .ref (ad 11), .int 1, .ref (ad 12), .ref (ad 13), .int 0, .int 0, .ref (ad 14), .ref (ad 15), .ref (ad 16), .ref (ad 17), .ref (ad 18), .int 0, .ref (ad 19), .long 0, .ref (ad 20), .ref (ad 21)])), ((ad 11), .inl (cy 0, 296, .inl (fun _ => 0))), ((ad 20), .inl (cy 0, 1184, .inl (fun _ => 0))), ((ad 21), .inl (cy 2, 4, .inl (fun _ => 0)))] := hw
  obtain rfl : r2 = 1 := p3
  refine lv_if_ne (tgt := 14) hx hb dX12_image_9 (by decide) (fun _ => ?_) (fun c => absurd (by decide) c)
  refine lv_aload_n hx hb dX12_image_14 rfl (lv_at hl 0 rfl) ?_
  refine wk_get hC hK hw hinX12 0 rfl rfl 41 (by decide) (List.mem_of_getElem? (i := 2) rfl) rfl rfl dX12_image_15 ?_
  refine lv_iload_n hx hb dX12_image_18 rfl (lv_at hl 1 rfl) ?_
  refine lv_iconst (v := 1) hx hb dX12_image_19 (by decide) ?_
  refine wk_zast hC hK hw 3 rfl (show ¬ ((2 : Int32) < 0 ∨ 4 ≤ (2 : Int32).toNatClampNeg) by decide) dX12_image_20 (fun H locs hw => ?_)
  obtain ⟨f4, hw⟩ : ∃ f4 : Nat → Int32, Wd dC dI A s.heap H locs [(av0, .inr (12, [.ref (ad 0), .int 0, .int 0, .ref (ad 1), .ref (ad 2), .ref (ad 3), .ref (ad 4), .int 0, .int 0, .int 0, .int 0, .ref (ad 5), .ref (ad 6), .ref (ad 7), .int 0, .int 0, .int 0, .int 0, .int 0, .int 0, .int 0, .ref (ad 8), .int 0, .ref (ad 9), .int 0, .ref (ad 10), .ref (ad 11), .int 1, .ref (ad 12), .ref (ad 13), .int 0, .int 0, .ref (ad 14), .ref (ad 15), .ref (ad 16), .ref (ad 17), .ref (ad 18), .int 0, .ref (ad 19), .long 0, .ref (ad 20), .ref (ad 21)])), ((ad 11), .inl (cy 0, 296, .inl (fun _ => 0))), ((ad 20), .inl (cy 0, 1184, .inl (fun _ => 0))), ((ad 21), .inl (cy 2, 4, .inl f4))] := ⟨_, hw⟩
  refine lv_iconst (v := 0) hx hb dX12_image_21 (by decide) ?_
  refine lv_istore_n (lv' := [(2, .int 0), (0, .ref av0), (1, .int 2)]) hx hb dX12_image_22 rfl hl (by decide) rfl (fun ls hl => ?_)
  refine lp_image hC hK 2 (by decide) (by decide) (fun f5 => [(av0, .inr (12, [.ref (ad 0), .int 0, .int 0, .ref (ad 1), .ref (ad 2), .ref (ad 3), .ref (ad 4), .int 0, .int 0, .int 0, .int 0, .ref (ad 5), .ref (ad 6), .ref (ad 7), .int 0, .int 0, .int 0, .int 0, .int 0, .int 0, .int 0, .ref (ad 8), .int 0, .ref (ad 9), .int 0, .ref (ad 10), .ref (ad 11), .int 1, .ref (ad 12), .ref (ad 13), .int 0, .int 0, .ref (ad 14), .ref (ad 15), .ref (ad 16), .ref (ad 17), .ref (ad 18), .int 0, .ref (ad 19), .long 0, .ref (ad 20), .ref (ad 21)])), ((ad 11), .inl (cy 0, 296, .inl (fun _ => 0))), ((ad 20), .inl (cy 0, 1184, .inl f5)), ((ad 21), .inl (cy 2, 4, .inl f4))]) 0 2 1 av0 (ad 20) (ad 11) _ _ (fun _ => rfl) rfl rfl (fun _ => rfl) (fun _ => rfl) (fun _ _ => rfl) 296 0 (fun _ => 0) _ _ ls (by decide) (by decide) hw hl (fun f5 H locs ls hw hl => ?_)
  have hw : Wd dC dI A s.heap H locs [(av0, .inr (12, [.ref (ad 0), .int 0, .int 0, .ref (ad 1), .ref (ad 2), .ref (ad 3), .ref (ad 4), .int 0, .int 0, .int 0, .int 0, .ref (ad 5), .ref (ad 6), .ref (ad 7), .int 0, .int 0, .int 0, .int 0, .int 0, .int 0, .int 0, .ref (ad 8), .int 0, .ref (ad 9), .int 0, .ref (ad 10), .ref (ad 11), .int 1, .ref (ad 12), .ref (ad 13), .int 0, .int 0, .ref (ad 14), .ref (ad 15), .ref (ad 16), .ref (ad 17), .ref (ad 18), .int 0, .ref (ad 19), .long 0, .ref (ad 20), .ref (ad 21)])), ((ad 11), .inl (cy 0, 296, .inl (fun _ => 0))), ((ad 20), .inl (cy 0, 1184, .inl f5)), ((ad 21), .inl (cy 2, 4, .inl f4))] := hw
  have hl : lv_has ls 3 [(2, .int 296), (0, .ref av0), (1, .int 2)] := hl
  refine lv_aload_n hx hb dX12_image_54 rfl (lv_at hl 1 rfl) ?_
  refine wk_get hC hK hw hinX12 0 rfl rfl 26 (by decide) (List.mem_of_getElem? (i := 4) rfl) rfl rfl dX12_image_55 ?_
  refine lv_iconst (v := 5) hx hb dX12_image_58 (by decide) ?_
  refine wk_iald hC hK hw 1 rfl (show ¬ ((5 : Int32) < 0 ∨ 296 ≤ (5 : Int32).toNatClampNeg) by decide) dX12_image_59 ?_
  refine wk_top 0 rfl ?_
  exact wk_iret (v := 0) hC hr hlocks hK ((fun _ => 0), (fun k => ([f5, f4] : List (Nat → Int32)).getD k (fun _ => 0))) rfl [0, 1, 2, 3] rfl rfl hw dX12_image_60

set_option maxHeartbeats 4000000 in
set_option maxRecDepth 100000 in
theorem c_X12_in_5 (l : Launch) (dC : Nat → ClassId) (dI : Nat → Nat → Nat) (cy : Nat → ClassId)  (sz : Nat)  : Met l yX12_in wsX12_in ({ frames := 0, cells := 0, slots := 0, locals := 0 }) (va_Pc [.long 3, .long 0, .long 3] (wpre dC dI cy sz [])) (va_Qi (fun (r : Int32) (_ : ((Nat → Nat) × (Nat → Nat → Int32))) => r = 1) (fun u => wpost dC dI cy (va_A [] sz) []) (va_A [] sz)) 0 0 (va_A [] sz) := by
  refine Met.ofW (cc := cX12_in) (maxL := 6) (ret := (some .boolean)) (by decide) rfl ?_
  intro p e s m args below meth c s₁ B hml hv
  obtain ⟨rfl, hsz, hP, hK, hD0⟩ := hv
  have hx := B.exec
  have hb := B.bytes
  have hr := B.returns
  have hlocks := B.notSynchronized
  have hC : CallFix p m c cX12_in 6 s _ wsX12_in RX12 := ⟨hx, hb, hml, findClass_of_methodNamed B.named, atoms_spec (ws := wsX12_in) B.pre⟩
  subst hsz
  have hD := hD0.self (sz := s.heap.size)
  generalize hAe : va_A [] s.heap.size = A at hD ⊢
  have hA : ∀ q : Nat, s.heap.size ≤ q → A q := fun q h => by rw [← hAe]; exact Or.inr h
  have hw : Wd dC dI A s.heap s.heap [] [] := ⟨hP, hD, va_S.rf⟩
  have hl := lv_entry ([.long 3, .long 0, .long 3]) (n := 6) (Nat.le_of_ble_eq_true rfl)
  rw [lg_entry_eq]
  generalize (lg_sl ([.long 3, .long 0, .long 3]) ++ List.replicate (6 - (lg_sl ([.long 3, .long 0, .long 3])).length) Slot.unset).toArray = ls at hl ⊢
  have hl : lv_has ls 6 [(0, .long 3), (2, .long 0), (4, .long 3)] := hl
  refine lv_lload_n hx hb dX12_in_0 rfl (lv_at hl 0 rfl) ?_
  refine lv_lload_n hx hb dX12_in_1 rfl (lv_at hl 1 rfl) ?_
  refine W.lcmp hx hb dX12_in_2 ?_
  refine wk_top 1 (by decide) ?_
  refine lv_if_lt (tgt := 17) hx hb dX12_in_3 (by decide) (fun c => absurd c (by decide)) (fun _ => ?_)
  refine lv_lload_n hx hb dX12_in_6 rfl (lv_at hl 0 rfl) ?_
  refine lv_lload hx hb dX12_in_7 (lv_at hl 2 rfl) ?_
  refine W.lcmp hx hb dX12_in_9 ?_
  refine wk_top 0 (by decide) ?_
  refine lv_if_gt (tgt := 17) hx hb dX12_in_10 (by decide) (fun c => absurd c (by decide)) (fun _ => ?_)
  refine lv_iconst (v := 1) hx hb dX12_in_13 (by decide) ?_
  refine lv_goto (tgt := 18) hx hb dX12_in_14 (by decide) ?_
  exact wk_zret (v := 1) hC hr rfl hlocks hK ((fun _ => 0), (fun _ _ => 0)) rfl [] rfl rfl hw dX12_in_18

set_option maxHeartbeats 4000000 in
set_option maxRecDepth 100000 in
theorem t_X12_image_4 (l : Launch) (dC : Nat → ClassId) (dI : Nat → Nat → Nat) (cy : Nat → ClassId) (av0 : Nat) (ad : Nat → Nat) (sz : Nat)  : Met l yX12_image wsX12_image ({ frames := 1, cells := 0, slots := 0, locals := 25 }) (va_Pc [.ref av0, .int 3] (wpre dC dI cy sz [(av0, .inr (12, [.ref (ad 0), .int 0, .int 0, .ref (ad 1), .ref (ad 2), .ref (ad 3), .ref (ad 4), .int 0, .int 0, .int 0, .int 0, .ref (ad 5), .ref (ad 6), .ref (ad 7), .int 0, .int 0, .int 0, .int 0, .int 0, .int 0, .int 0, .ref (ad 8), .int 0, .ref (ad 9), .int 0, .ref (ad 10), .ref (ad 11), .int 1, .ref (ad 12), .ref (ad 13), .int 0, .int 0, .ref (ad 14), .ref (ad 15), .ref (ad 16), .ref (ad 17), .ref (ad 18), .int 0, .ref (ad 19), .long 0, .ref (ad 20), .ref (ad 21)])), ((ad 11), .inl (cy 0, 296, .inl (fun _ => 0))), ((ad 20), .inl (cy 0, 1184, .inl (fun _ => 0))), ((ad 21), .inl (cy 2, 4, .inl (fun _ => 0)))])) (va_Qi (fun (r : Int32) (_ : ((Nat → Nat) × (Nat → Nat → Int32))) => r = 0) (fun u => wpost dC dI cy (va_A [(av0, .inr (12, [.ref (ad 0), .int 0, .int 0, .ref (ad 1), .ref (ad 2), .ref (ad 3), .ref (ad 4), .int 0, .int 0, .int 0, .int 0, .ref (ad 5), .ref (ad 6), .ref (ad 7), .int 0, .int 0, .int 0, .int 0, .int 0, .int 0, .int 0, .ref (ad 8), .int 0, .ref (ad 9), .int 0, .ref (ad 10), .ref (ad 11), .int 1, .ref (ad 12), .ref (ad 13), .int 0, .int 0, .ref (ad 14), .ref (ad 15), .ref (ad 16), .ref (ad 17), .ref (ad 18), .int 0, .ref (ad 19), .long 0, .ref (ad 20), .ref (ad 21)])), ((ad 11), .inl (cy 0, 296, .inl (fun _ => 0))), ((ad 20), .inl (cy 0, 1184, .inl (fun _ => 0))), ((ad 21), .inl (cy 2, 4, .inl (fun _ => 0)))] sz) [(av0, .inr (12, [.ref (ad 0), .int 0, .int 0, .ref (ad 1), .ref (ad 2), .ref (ad 3), .ref (ad 4), .int 0, .int 0, .int 0, .int 0, .ref (ad 5), .ref (ad 6), .ref (ad 7), .int 0, .int 0, .int 0, .int 0, .int 0, .int 0, .int 0, .ref (ad 8), .int 0, .ref (ad 9), .int 0, .ref (ad 10), .ref (ad 11), .int 1, .ref (ad 12), .ref (ad 13), .int 0, .int 0, .ref (ad 14), .ref (ad 15), .ref (ad 16), .ref (ad 17), .ref (ad 18), .int 0, .ref (ad 19), .long 0, .ref (ad 20), .ref (ad 21)])), ((ad 11), .inl (cy 0, 296, .inl (fun _ => 0))), ((ad 20), .inl (cy 0, 1184, .inl (u.2 0))), ((ad 21), .inl (cy 2, 4, .inl (u.2 1)))]) (va_A [(av0, .inr (12, [.ref (ad 0), .int 0, .int 0, .ref (ad 1), .ref (ad 2), .ref (ad 3), .ref (ad 4), .int 0, .int 0, .int 0, .int 0, .ref (ad 5), .ref (ad 6), .ref (ad 7), .int 0, .int 0, .int 0, .int 0, .int 0, .int 0, .int 0, .ref (ad 8), .int 0, .ref (ad 9), .int 0, .ref (ad 10), .ref (ad 11), .int 1, .ref (ad 12), .ref (ad 13), .int 0, .int 0, .ref (ad 14), .ref (ad 15), .ref (ad 16), .ref (ad 17), .ref (ad 18), .int 0, .ref (ad 19), .long 0, .ref (ad 20), .ref (ad 21)])), ((ad 11), .inl (cy 0, 296, .inl (fun _ => 0))), ((ad 20), .inl (cy 0, 1184, .inl (fun _ => 0))), ((ad 21), .inl (cy 2, 4, .inl (fun _ => 0)))] sz)) 0 0 (va_A [(av0, .inr (12, [.ref (ad 0), .int 0, .int 0, .ref (ad 1), .ref (ad 2), .ref (ad 3), .ref (ad 4), .int 0, .int 0, .int 0, .int 0, .ref (ad 5), .ref (ad 6), .ref (ad 7), .int 0, .int 0, .int 0, .int 0, .int 0, .int 0, .int 0, .ref (ad 8), .int 0, .ref (ad 9), .int 0, .ref (ad 10), .ref (ad 11), .int 1, .ref (ad 12), .ref (ad 13), .int 0, .int 0, .ref (ad 14), .ref (ad 15), .ref (ad 16), .ref (ad 17), .ref (ad 18), .int 0, .ref (ad 19), .long 0, .ref (ad 20), .ref (ad 21)])), ((ad 11), .inl (cy 0, 296, .inl (fun _ => 0))), ((ad 20), .inl (cy 0, 1184, .inl (fun _ => 0))), ((ad 21), .inl (cy 2, 4, .inl (fun _ => 0)))] sz) := by
  refine Met.ofW (cc := cX12_image) (maxL := 3) (ret := (some .int)) (by decide) rfl ?_
  intro p e s m args below meth c s₁ B hml hv
  obtain ⟨rfl, hsz, hP, hK, hD0⟩ := hv
  have hx := B.exec
  have hb := B.bytes
  have hr := B.returns
  have hlocks := B.notSynchronized
  have hC : CallFix p m c cX12_image 3 s _ wsX12_image RX12 := ⟨hx, hb, hml, findClass_of_methodNamed B.named, atoms_spec (ws := wsX12_image) B.pre⟩
  subst hsz
  have hD := hD0.self (sz := s.heap.size)
  generalize hAe : va_A [(av0, .inr (12, [.ref (ad 0), .int 0, .int 0, .ref (ad 1), .ref (ad 2), .ref (ad 3), .ref (ad 4), .int 0, .int 0, .int 0, .int 0, .ref (ad 5), .ref (ad 6), .ref (ad 7), .int 0, .int 0, .int 0, .int 0, .int 0, .int 0, .int 0, .ref (ad 8), .int 0, .ref (ad 9), .int 0, .ref (ad 10), .ref (ad 11), .int 1, .ref (ad 12), .ref (ad 13), .int 0, .int 0, .ref (ad 14), .ref (ad 15), .ref (ad 16), .ref (ad 17), .ref (ad 18), .int 0, .ref (ad 19), .long 0, .ref (ad 20), .ref (ad 21)])), ((ad 11), .inl (cy 0, 296, .inl (fun _ => 0))), ((ad 20), .inl (cy 0, 1184, .inl (fun _ => 0))), ((ad 21), .inl (cy 2, 4, .inl (fun _ => 0)))] s.heap.size = A at hD ⊢
  have hA : ∀ q : Nat, s.heap.size ≤ q → A q := fun q h => by rw [← hAe]; exact Or.inr h
  have hw : Wd dC dI A s.heap s.heap [] [(av0, .inr (12, [.ref (ad 0), .int 0, .int 0, .ref (ad 1), .ref (ad 2), .ref (ad 3), .ref (ad 4), .int 0, .int 0, .int 0, .int 0, .ref (ad 5), .ref (ad 6), .ref (ad 7), .int 0, .int 0, .int 0, .int 0, .int 0, .int 0, .int 0, .ref (ad 8), .int 0, .ref (ad 9), .int 0, .ref (ad 10), .ref (ad 11), .int 1, .ref (ad 12), .ref (ad 13), .int 0, .int 0, .ref (ad 14), .ref (ad 15), .ref (ad 16), .ref (ad 17), .ref (ad 18), .int 0, .ref (ad 19), .long 0, .ref (ad 20), .ref (ad 21)])), ((ad 11), .inl (cy 0, 296, .inl (fun _ => 0))), ((ad 20), .inl (cy 0, 1184, .inl (fun _ => 0))), ((ad 21), .inl (cy 2, 4, .inl (fun _ => 0)))] := ⟨hP, hD, va_S.rf⟩
  have hl := lv_entry ([.ref av0, .int 3]) (n := 3) (Nat.le_of_ble_eq_true rfl)
  rw [lg_entry_eq]
  generalize (lg_sl ([.ref av0, .int 3]) ++ List.replicate (3 - (lg_sl ([.ref av0, .int 3])).length) Slot.unset).toArray = ls at hl ⊢
  have hl : lv_has ls 3 [(0, .ref av0), (1, .int 3)] := hl
  have hinX12 : ∀ w ∈ u_ws RX12 TX12 42, w ∈ wsX12_image := fun _ h => List.mem_cons_of_mem _ (List.mem_append_right _ (h))
  refine lv_iload_n hx hb dX12_image_0 rfl (lv_at hl 1 rfl) ?_
  refine lv_i2l hx hb dX12_image_1 ?_
  refine wk_topl 3 (by decide) ?_
  refine lv_lconst (v := 0) hx hb dX12_image_2 (by decide) ?_
  refine lv_ldc2 (v := 3) hx hb hC.2.2.2.1 (hC.2.2.2.2 _ (List.mem_of_getElem? (i := 1) rfl)) dX12_image_3 ?_
  refine wk_Si hC hK hw hA [] [0, 1, 2, 3] rfl rfl rfl rfl (by decide) (c_X12_in_5 l dC dI cy  s.heap.size ) (va_cwS 3 hC.2.2.2.2 gX12_image_X12_in rfl rfl rfl (by decide +kernel) ⟨Nat.le_of_ble_eq_true rfl, Nat.le_of_ble_eq_true rfl⟩) rfl hl.1 rfl (Nat.le_of_ble_eq_true rfl) dX12_image_6 0 0 ⟨rfl, rfl⟩ ⟨Nat.le_of_ble_eq_true rfl, Nat.le_of_ble_eq_true rfl⟩ (fun r2 u1 H locs p3 hw => ?_)
  have hw : Wd dC dI A s.heap H locs [(av0, .inr (12, [.ref (ad 0), .int 0, .int 0, .ref (ad 1), .ref (ad 2), .ref (ad 3), .ref (ad 4), .int 0, .int 0, .int 0, .int 0, .ref (ad 5), .ref (ad 6), .ref (ad 7), .int 0, .int 0, .int 0, .int 0, .int 0, .int 0, .int 0, .ref (ad 8), .int 0, .ref (ad 9), .int 0, .ref (ad 10), .ref (ad 11), .int 1, .ref (ad 12), .ref (ad 13), .int 0, .int 0, .ref (ad 14), .ref (ad 15), .ref (ad 16), .ref (ad 17), .ref (ad 18), .int 0, .ref (ad 19), .long 0, .ref (ad 20), .ref (ad 21)])), ((ad 11), .inl (cy 0, 296, .inl (fun _ => 0))), ((ad 20), .inl (cy 0, 1184, .inl (fun _ => 0))), ((ad 21), .inl (cy 2, 4, .inl (fun _ => 0)))] := hw
  obtain rfl : r2 = 1 := p3
  refine lv_if_ne (tgt := 14) hx hb dX12_image_9 (by decide) (fun _ => ?_) (fun c => absurd (by decide) c)
  refine lv_aload_n hx hb dX12_image_14 rfl (lv_at hl 0 rfl) ?_
  refine wk_get hC hK hw hinX12 0 rfl rfl 41 (by decide) (List.mem_of_getElem? (i := 2) rfl) rfl rfl dX12_image_15 ?_
  refine lv_iload_n hx hb dX12_image_18 rfl (lv_at hl 1 rfl) ?_
  refine lv_iconst (v := 1) hx hb dX12_image_19 (by decide) ?_
  refine wk_zast hC hK hw 3 rfl (show ¬ ((3 : Int32) < 0 ∨ 4 ≤ (3 : Int32).toNatClampNeg) by decide) dX12_image_20 (fun H locs hw => ?_)
  obtain ⟨f4, hw⟩ : ∃ f4 : Nat → Int32, Wd dC dI A s.heap H locs [(av0, .inr (12, [.ref (ad 0), .int 0, .int 0, .ref (ad 1), .ref (ad 2), .ref (ad 3), .ref (ad 4), .int 0, .int 0, .int 0, .int 0, .ref (ad 5), .ref (ad 6), .ref (ad 7), .int 0, .int 0, .int 0, .int 0, .int 0, .int 0, .int 0, .ref (ad 8), .int 0, .ref (ad 9), .int 0, .ref (ad 10), .ref (ad 11), .int 1, .ref (ad 12), .ref (ad 13), .int 0, .int 0, .ref (ad 14), .ref (ad 15), .ref (ad 16), .ref (ad 17), .ref (ad 18), .int 0, .ref (ad 19), .long 0, .ref (ad 20), .ref (ad 21)])), ((ad 11), .inl (cy 0, 296, .inl (fun _ => 0))), ((ad 20), .inl (cy 0, 1184, .inl (fun _ => 0))), ((ad 21), .inl (cy 2, 4, .inl f4))] := ⟨_, hw⟩
  refine lv_iconst (v := 0) hx hb dX12_image_21 (by decide) ?_
  refine lv_istore_n (lv' := [(2, .int 0), (0, .ref av0), (1, .int 3)]) hx hb dX12_image_22 rfl hl (by decide) rfl (fun ls hl => ?_)
  refine lp_image hC hK 3 (by decide) (by decide) (fun f5 => [(av0, .inr (12, [.ref (ad 0), .int 0, .int 0, .ref (ad 1), .ref (ad 2), .ref (ad 3), .ref (ad 4), .int 0, .int 0, .int 0, .int 0, .ref (ad 5), .ref (ad 6), .ref (ad 7), .int 0, .int 0, .int 0, .int 0, .int 0, .int 0, .int 0, .ref (ad 8), .int 0, .ref (ad 9), .int 0, .ref (ad 10), .ref (ad 11), .int 1, .ref (ad 12), .ref (ad 13), .int 0, .int 0, .ref (ad 14), .ref (ad 15), .ref (ad 16), .ref (ad 17), .ref (ad 18), .int 0, .ref (ad 19), .long 0, .ref (ad 20), .ref (ad 21)])), ((ad 11), .inl (cy 0, 296, .inl (fun _ => 0))), ((ad 20), .inl (cy 0, 1184, .inl f5)), ((ad 21), .inl (cy 2, 4, .inl f4))]) 0 2 1 av0 (ad 20) (ad 11) _ _ (fun _ => rfl) rfl rfl (fun _ => rfl) (fun _ => rfl) (fun _ _ => rfl) 296 0 (fun _ => 0) _ _ ls (by decide) (by decide) hw hl (fun f5 H locs ls hw hl => ?_)
  have hw : Wd dC dI A s.heap H locs [(av0, .inr (12, [.ref (ad 0), .int 0, .int 0, .ref (ad 1), .ref (ad 2), .ref (ad 3), .ref (ad 4), .int 0, .int 0, .int 0, .int 0, .ref (ad 5), .ref (ad 6), .ref (ad 7), .int 0, .int 0, .int 0, .int 0, .int 0, .int 0, .int 0, .ref (ad 8), .int 0, .ref (ad 9), .int 0, .ref (ad 10), .ref (ad 11), .int 1, .ref (ad 12), .ref (ad 13), .int 0, .int 0, .ref (ad 14), .ref (ad 15), .ref (ad 16), .ref (ad 17), .ref (ad 18), .int 0, .ref (ad 19), .long 0, .ref (ad 20), .ref (ad 21)])), ((ad 11), .inl (cy 0, 296, .inl (fun _ => 0))), ((ad 20), .inl (cy 0, 1184, .inl f5)), ((ad 21), .inl (cy 2, 4, .inl f4))] := hw
  have hl : lv_has ls 3 [(2, .int 296), (0, .ref av0), (1, .int 3)] := hl
  refine lv_aload_n hx hb dX12_image_54 rfl (lv_at hl 1 rfl) ?_
  refine wk_get hC hK hw hinX12 0 rfl rfl 26 (by decide) (List.mem_of_getElem? (i := 4) rfl) rfl rfl dX12_image_55 ?_
  refine lv_iconst (v := 5) hx hb dX12_image_58 (by decide) ?_
  refine wk_iald hC hK hw 1 rfl (show ¬ ((5 : Int32) < 0 ∨ 296 ≤ (5 : Int32).toNatClampNeg) by decide) dX12_image_59 ?_
  refine wk_top 0 rfl ?_
  exact wk_iret (v := 0) hC hr hlocks hK ((fun _ => 0), (fun k => ([f5, f4] : List (Nat → Int32)).getD k (fun _ => 0))) rfl [0, 1, 2, 3] rfl rfl hw dX12_image_60

set_option maxHeartbeats 4000000 in
set_option maxRecDepth 100000 in
theorem c_X12_in_6 (l : Launch) (dC : Nat → ClassId) (dI : Nat → Nat → Nat) (cy : Nat → ClassId) (jv0 : Int64) (sz : Nat) (hjv0 : 4 ≤ jv0.toInt ∧ jv0.toInt ≤ 2147483647) : Met l yX12_in wsX12_in ({ frames := 0, cells := 0, slots := 0, locals := 0 }) (va_Pc [.long jv0, .long 0, .long 3] (wpre dC dI cy sz [])) (va_Qi (fun (r : Int32) (_ : ((Nat → Nat) × (Nat → Nat → Int32))) => r = 0) (fun u => wpost dC dI cy (va_A [] sz) []) (va_A [] sz)) 0 0 (va_A [] sz) := by
  refine Met.ofW (cc := cX12_in) (maxL := 6) (ret := (some .boolean)) (by decide) rfl ?_
  intro p e s m args below meth c s₁ B hml hv
  obtain ⟨rfl, hsz, hP, hK, hD0⟩ := hv
  have hx := B.exec
  have hb := B.bytes
  have hr := B.returns
  have hlocks := B.notSynchronized
  have hC : CallFix p m c cX12_in 6 s _ wsX12_in RX12 := ⟨hx, hb, hml, findClass_of_methodNamed B.named, atoms_spec (ws := wsX12_in) B.pre⟩
  subst hsz
  have hD := hD0.self (sz := s.heap.size)
  generalize hAe : va_A [] s.heap.size = A at hD ⊢
  have hA : ∀ q : Nat, s.heap.size ≤ q → A q := fun q h => by rw [← hAe]; exact Or.inr h
  have hw : Wd dC dI A s.heap s.heap [] [] := ⟨hP, hD, va_S.rf⟩
  have hl := lv_entry ([.long jv0, .long 0, .long 3]) (n := 6) (Nat.le_of_ble_eq_true rfl)
  rw [lg_entry_eq]
  generalize (lg_sl ([.long jv0, .long 0, .long 3]) ++ List.replicate (6 - (lg_sl ([.long jv0, .long 0, .long 3])).length) Slot.unset).toArray = ls at hl ⊢
  have hl : lv_has ls 6 [(0, .long jv0), (2, .long 0), (4, .long 3)] := hl
  refine lv_lload_n hx hb dX12_in_0 rfl (lv_at hl 0 rfl) ?_
  refine lv_lload_n hx hb dX12_in_1 rfl (lv_at hl 1 rfl) ?_
  refine W.lcmp hx hb dX12_in_2 ?_
  refine lv_if_lt (tgt := 17) hx hb dX12_in_3 (by decide) (fun c => absurd c (wk_cltN (show 0 ≤ jv0.toInt by omega))) (fun _ => ?_)
  refine lv_lload_n hx hb dX12_in_6 rfl (lv_at hl 0 rfl) ?_
  refine lv_lload hx hb dX12_in_7 (lv_at hl 2 rfl) ?_
  refine W.lcmp hx hb dX12_in_9 ?_
  refine lv_if_gt (tgt := 17) hx hb dX12_in_10 (by decide) (fun _ => ?_) (fun c => absurd (wk_cgtI (show 3 < jv0.toInt by omega)) c)
  refine lv_iconst (v := 0) hx hb dX12_in_17 (by decide) ?_
  exact wk_zret (v := 0) hC hr rfl hlocks hK ((fun _ => 0), (fun _ _ => 0)) rfl [] rfl rfl hw dX12_in_18

set_option maxHeartbeats 4000000 in
set_option maxRecDepth 100000 in
theorem t_X12_image_5 (l : Launch) (dC : Nat → ClassId) (dI : Nat → Nat → Nat) (cy : Nat → ClassId) (av0 : Nat) (ad : Nat → Nat) (p0 : Int32) (sz : Nat) (hp : 4 ≤ p0.toInt) : Met l yX12_image wsX12_image ({ frames := 1, cells := 0, slots := 0, locals := 25 }) (va_Pc [.ref av0, .int p0] (wpre dC dI cy sz [(av0, .inr (12, [.ref (ad 0), .int 0, .int 0, .ref (ad 1), .ref (ad 2), .ref (ad 3), .ref (ad 4), .int 0, .int 0, .int 0, .int 0, .ref (ad 5), .ref (ad 6), .ref (ad 7), .int 0, .int 0, .int 0, .int 0, .int 0, .int 0, .int 0, .ref (ad 8), .int 0, .ref (ad 9), .int 0, .ref (ad 10), .ref (ad 11), .int 1, .ref (ad 12), .ref (ad 13), .int 0, .int 0, .ref (ad 14), .ref (ad 15), .ref (ad 16), .ref (ad 17), .ref (ad 18), .int 0, .ref (ad 19), .long 0, .ref (ad 20), .ref (ad 21)]))])) (va_Qi (fun (r : Int32) (_ : ((Nat → Nat) × (Nat → Nat → Int32))) => r = (-1)) (fun u => wpost dC dI cy (va_A [(av0, .inr (12, [.ref (ad 0), .int 0, .int 0, .ref (ad 1), .ref (ad 2), .ref (ad 3), .ref (ad 4), .int 0, .int 0, .int 0, .int 0, .ref (ad 5), .ref (ad 6), .ref (ad 7), .int 0, .int 0, .int 0, .int 0, .int 0, .int 0, .int 0, .ref (ad 8), .int 0, .ref (ad 9), .int 0, .ref (ad 10), .ref (ad 11), .int 1, .ref (ad 12), .ref (ad 13), .int 0, .int 0, .ref (ad 14), .ref (ad 15), .ref (ad 16), .ref (ad 17), .ref (ad 18), .int 0, .ref (ad 19), .long 0, .ref (ad 20), .ref (ad 21)]))] sz) [(av0, .inr (12, [.ref (ad 0), .int 0, .int 0, .ref (ad 1), .ref (ad 2), .ref (ad 3), .ref (ad 4), .int 0, .int 0, .int 0, .int 0, .ref (ad 5), .ref (ad 6), .ref (ad 7), .int 0, .int 0, .int 0, .int 0, .int 0, .int 0, .int 0, .ref (ad 8), .int 0, .ref (ad 9), .int 0, .ref (ad 10), .ref (ad 11), .int 1, .ref (ad 12), .ref (ad 13), .int 0, .int 0, .ref (ad 14), .ref (ad 15), .ref (ad 16), .ref (ad 17), .ref (ad 18), .int 0, .ref (ad 19), .long 0, .ref (ad 20), .ref (ad 21)]))]) (va_A [(av0, .inr (12, [.ref (ad 0), .int 0, .int 0, .ref (ad 1), .ref (ad 2), .ref (ad 3), .ref (ad 4), .int 0, .int 0, .int 0, .int 0, .ref (ad 5), .ref (ad 6), .ref (ad 7), .int 0, .int 0, .int 0, .int 0, .int 0, .int 0, .int 0, .ref (ad 8), .int 0, .ref (ad 9), .int 0, .ref (ad 10), .ref (ad 11), .int 1, .ref (ad 12), .ref (ad 13), .int 0, .int 0, .ref (ad 14), .ref (ad 15), .ref (ad 16), .ref (ad 17), .ref (ad 18), .int 0, .ref (ad 19), .long 0, .ref (ad 20), .ref (ad 21)]))] sz)) 0 0 (va_A [(av0, .inr (12, [.ref (ad 0), .int 0, .int 0, .ref (ad 1), .ref (ad 2), .ref (ad 3), .ref (ad 4), .int 0, .int 0, .int 0, .int 0, .ref (ad 5), .ref (ad 6), .ref (ad 7), .int 0, .int 0, .int 0, .int 0, .int 0, .int 0, .int 0, .ref (ad 8), .int 0, .ref (ad 9), .int 0, .ref (ad 10), .ref (ad 11), .int 1, .ref (ad 12), .ref (ad 13), .int 0, .int 0, .ref (ad 14), .ref (ad 15), .ref (ad 16), .ref (ad 17), .ref (ad 18), .int 0, .ref (ad 19), .long 0, .ref (ad 20), .ref (ad 21)]))] sz) := by
  refine Met.ofW (cc := cX12_image) (maxL := 3) (ret := (some .int)) (by decide) rfl ?_
  intro p e s m args below meth c s₁ B hml hv
  obtain ⟨rfl, hsz, hP, hK, hD0⟩ := hv
  have hx := B.exec
  have hb := B.bytes
  have hr := B.returns
  have hlocks := B.notSynchronized
  have hC : CallFix p m c cX12_image 3 s _ wsX12_image RX12 := ⟨hx, hb, hml, findClass_of_methodNamed B.named, atoms_spec (ws := wsX12_image) B.pre⟩
  subst hsz
  have hD := hD0.self (sz := s.heap.size)
  generalize hAe : va_A [(av0, .inr (12, [.ref (ad 0), .int 0, .int 0, .ref (ad 1), .ref (ad 2), .ref (ad 3), .ref (ad 4), .int 0, .int 0, .int 0, .int 0, .ref (ad 5), .ref (ad 6), .ref (ad 7), .int 0, .int 0, .int 0, .int 0, .int 0, .int 0, .int 0, .ref (ad 8), .int 0, .ref (ad 9), .int 0, .ref (ad 10), .ref (ad 11), .int 1, .ref (ad 12), .ref (ad 13), .int 0, .int 0, .ref (ad 14), .ref (ad 15), .ref (ad 16), .ref (ad 17), .ref (ad 18), .int 0, .ref (ad 19), .long 0, .ref (ad 20), .ref (ad 21)]))] s.heap.size = A at hD ⊢
  have hA : ∀ q : Nat, s.heap.size ≤ q → A q := fun q h => by rw [← hAe]; exact Or.inr h
  have hw : Wd dC dI A s.heap s.heap [] [(av0, .inr (12, [.ref (ad 0), .int 0, .int 0, .ref (ad 1), .ref (ad 2), .ref (ad 3), .ref (ad 4), .int 0, .int 0, .int 0, .int 0, .ref (ad 5), .ref (ad 6), .ref (ad 7), .int 0, .int 0, .int 0, .int 0, .int 0, .int 0, .int 0, .ref (ad 8), .int 0, .ref (ad 9), .int 0, .ref (ad 10), .ref (ad 11), .int 1, .ref (ad 12), .ref (ad 13), .int 0, .int 0, .ref (ad 14), .ref (ad 15), .ref (ad 16), .ref (ad 17), .ref (ad 18), .int 0, .ref (ad 19), .long 0, .ref (ad 20), .ref (ad 21)]))] := ⟨hP, hD, va_S.rf⟩
  have hl := lv_entry ([.ref av0, .int p0]) (n := 3) (Nat.le_of_ble_eq_true rfl)
  rw [lg_entry_eq]
  generalize (lg_sl ([.ref av0, .int p0]) ++ List.replicate (3 - (lg_sl ([.ref av0, .int p0])).length) Slot.unset).toArray = ls at hl ⊢
  have hl : lv_has ls 3 [(0, .ref av0), (1, .int p0)] := hl
  refine lv_iload_n hx hb dX12_image_0 rfl (lv_at hl 1 rfl) ?_
  refine lv_i2l hx hb dX12_image_1 ?_
  refine lv_topl (fun x1 ex1 => ?_)
  have ex1 : x1.toInt = p0.toInt := by rw [ex1]; exact wk_i2l _
  refine lv_lconst (v := 0) hx hb dX12_image_2 (by decide) ?_
  refine lv_ldc2 (v := 3) hx hb hC.2.2.2.1 (hC.2.2.2.2 _ (List.mem_of_getElem? (i := 1) rfl)) dX12_image_3 ?_
  refine wk_Si hC hK hw hA [] [0] rfl rfl rfl rfl (by decide) (c_X12_in_6 l dC dI cy x1 s.heap.size (show 4 ≤ x1.toInt ∧ x1.toInt ≤ 2147483647 by omega)) (va_cwS 3 hC.2.2.2.2 gX12_image_X12_in rfl rfl rfl (by decide +kernel) ⟨Nat.le_of_ble_eq_true rfl, Nat.le_of_ble_eq_true rfl⟩) rfl hl.1 rfl (Nat.le_of_ble_eq_true rfl) dX12_image_6 0 0 ⟨rfl, rfl⟩ ⟨Nat.le_of_ble_eq_true rfl, Nat.le_of_ble_eq_true rfl⟩ (fun r3 u2 H locs p4 hw => ?_)
  have hw : Wd dC dI A s.heap H locs [(av0, .inr (12, [.ref (ad 0), .int 0, .int 0, .ref (ad 1), .ref (ad 2), .ref (ad 3), .ref (ad 4), .int 0, .int 0, .int 0, .int 0, .ref (ad 5), .ref (ad 6), .ref (ad 7), .int 0, .int 0, .int 0, .int 0, .int 0, .int 0, .int 0, .ref (ad 8), .int 0, .ref (ad 9), .int 0, .ref (ad 10), .ref (ad 11), .int 1, .ref (ad 12), .ref (ad 13), .int 0, .int 0, .ref (ad 14), .ref (ad 15), .ref (ad 16), .ref (ad 17), .ref (ad 18), .int 0, .ref (ad 19), .long 0, .ref (ad 20), .ref (ad 21)]))] := hw
  obtain rfl : r3 = 0 := p4
  refine lv_if_ne (tgt := 14) hx hb dX12_image_9 (by decide) (fun c => absurd c (by decide)) (fun _ => ?_)
  refine lv_iconst (v := (-1)) hx hb dX12_image_12 (by decide) ?_
  exact wk_iret (v := (-1)) hC hr hlocks hK ((fun _ => 0), (fun _ _ => 0)) rfl [0] rfl rfl hw dX12_image_13

set_option maxHeartbeats 4000000 in
set_option maxRecDepth 100000 in
theorem t_X12_back_0 (l : Launch) (dC : Nat → ClassId) (dI : Nat → Nat → Nat) (cy : Nat → ClassId) (av0 : Nat) (ad : Nat → Nat) (p0 : Int32) (sz : Nat) (hp : p0.toInt ≤ -1) : Met l yX12_back wsX12_back ({ frames := 1, cells := 0, slots := 0, locals := 25 }) (va_Pc [.ref av0, .int p0] (wpre dC dI cy sz [(av0, .inr (12, [.ref (ad 0), .int 0, .int 0, .ref (ad 1), .ref (ad 2), .ref (ad 3), .ref (ad 4), .int 0, .int 0, .int 0, .int 0, .ref (ad 5), .ref (ad 6), .ref (ad 7), .int 0, .int 0, .int 0, .int 0, .int 0, .int 0, .int 0, .ref (ad 8), .int 0, .ref (ad 9), .int 0, .ref (ad 10), .ref (ad 11), .int 1, .ref (ad 12), .ref (ad 13), .int 0, .int 0, .ref (ad 14), .ref (ad 15), .ref (ad 16), .ref (ad 17), .ref (ad 18), .int 0, .ref (ad 19), .long 0, .ref (ad 20), .ref (ad 21)]))])) (va_Qi (fun (r : Int32) (_ : ((Nat → Nat) × (Nat → Nat → Int32))) => r = (-1)) (fun u => wpost dC dI cy (va_A [(av0, .inr (12, [.ref (ad 0), .int 0, .int 0, .ref (ad 1), .ref (ad 2), .ref (ad 3), .ref (ad 4), .int 0, .int 0, .int 0, .int 0, .ref (ad 5), .ref (ad 6), .ref (ad 7), .int 0, .int 0, .int 0, .int 0, .int 0, .int 0, .int 0, .ref (ad 8), .int 0, .ref (ad 9), .int 0, .ref (ad 10), .ref (ad 11), .int 1, .ref (ad 12), .ref (ad 13), .int 0, .int 0, .ref (ad 14), .ref (ad 15), .ref (ad 16), .ref (ad 17), .ref (ad 18), .int 0, .ref (ad 19), .long 0, .ref (ad 20), .ref (ad 21)]))] sz) [(av0, .inr (12, [.ref (ad 0), .int 0, .int 0, .ref (ad 1), .ref (ad 2), .ref (ad 3), .ref (ad 4), .int 0, .int 0, .int 0, .int 0, .ref (ad 5), .ref (ad 6), .ref (ad 7), .int 0, .int 0, .int 0, .int 0, .int 0, .int 0, .int 0, .ref (ad 8), .int 0, .ref (ad 9), .int 0, .ref (ad 10), .ref (ad 11), .int 1, .ref (ad 12), .ref (ad 13), .int 0, .int 0, .ref (ad 14), .ref (ad 15), .ref (ad 16), .ref (ad 17), .ref (ad 18), .int 0, .ref (ad 19), .long 0, .ref (ad 20), .ref (ad 21)]))]) (va_A [(av0, .inr (12, [.ref (ad 0), .int 0, .int 0, .ref (ad 1), .ref (ad 2), .ref (ad 3), .ref (ad 4), .int 0, .int 0, .int 0, .int 0, .ref (ad 5), .ref (ad 6), .ref (ad 7), .int 0, .int 0, .int 0, .int 0, .int 0, .int 0, .int 0, .ref (ad 8), .int 0, .ref (ad 9), .int 0, .ref (ad 10), .ref (ad 11), .int 1, .ref (ad 12), .ref (ad 13), .int 0, .int 0, .ref (ad 14), .ref (ad 15), .ref (ad 16), .ref (ad 17), .ref (ad 18), .int 0, .ref (ad 19), .long 0, .ref (ad 20), .ref (ad 21)]))] sz)) 0 0 (va_A [(av0, .inr (12, [.ref (ad 0), .int 0, .int 0, .ref (ad 1), .ref (ad 2), .ref (ad 3), .ref (ad 4), .int 0, .int 0, .int 0, .int 0, .ref (ad 5), .ref (ad 6), .ref (ad 7), .int 0, .int 0, .int 0, .int 0, .int 0, .int 0, .int 0, .ref (ad 8), .int 0, .ref (ad 9), .int 0, .ref (ad 10), .ref (ad 11), .int 1, .ref (ad 12), .ref (ad 13), .int 0, .int 0, .ref (ad 14), .ref (ad 15), .ref (ad 16), .ref (ad 17), .ref (ad 18), .int 0, .ref (ad 19), .long 0, .ref (ad 20), .ref (ad 21)]))] sz) := by
  refine Met.ofW (cc := cX12_back) (maxL := 3) (ret := (some .int)) (by decide) rfl ?_
  intro p e s m args below meth c s₁ B hml hv
  obtain ⟨rfl, hsz, hP, hK, hD0⟩ := hv
  have hx := B.exec
  have hb := B.bytes
  have hr := B.returns
  have hlocks := B.notSynchronized
  have hC : CallFix p m c cX12_back 3 s _ wsX12_back RX12 := ⟨hx, hb, hml, findClass_of_methodNamed B.named, atoms_spec (ws := wsX12_back) B.pre⟩
  subst hsz
  have hD := hD0.self (sz := s.heap.size)
  generalize hAe : va_A [(av0, .inr (12, [.ref (ad 0), .int 0, .int 0, .ref (ad 1), .ref (ad 2), .ref (ad 3), .ref (ad 4), .int 0, .int 0, .int 0, .int 0, .ref (ad 5), .ref (ad 6), .ref (ad 7), .int 0, .int 0, .int 0, .int 0, .int 0, .int 0, .int 0, .ref (ad 8), .int 0, .ref (ad 9), .int 0, .ref (ad 10), .ref (ad 11), .int 1, .ref (ad 12), .ref (ad 13), .int 0, .int 0, .ref (ad 14), .ref (ad 15), .ref (ad 16), .ref (ad 17), .ref (ad 18), .int 0, .ref (ad 19), .long 0, .ref (ad 20), .ref (ad 21)]))] s.heap.size = A at hD ⊢
  have hA : ∀ q : Nat, s.heap.size ≤ q → A q := fun q h => by rw [← hAe]; exact Or.inr h
  have hw : Wd dC dI A s.heap s.heap [] [(av0, .inr (12, [.ref (ad 0), .int 0, .int 0, .ref (ad 1), .ref (ad 2), .ref (ad 3), .ref (ad 4), .int 0, .int 0, .int 0, .int 0, .ref (ad 5), .ref (ad 6), .ref (ad 7), .int 0, .int 0, .int 0, .int 0, .int 0, .int 0, .int 0, .ref (ad 8), .int 0, .ref (ad 9), .int 0, .ref (ad 10), .ref (ad 11), .int 1, .ref (ad 12), .ref (ad 13), .int 0, .int 0, .ref (ad 14), .ref (ad 15), .ref (ad 16), .ref (ad 17), .ref (ad 18), .int 0, .ref (ad 19), .long 0, .ref (ad 20), .ref (ad 21)]))] := ⟨hP, hD, va_S.rf⟩
  have hl := lv_entry ([.ref av0, .int p0]) (n := 3) (Nat.le_of_ble_eq_true rfl)
  rw [lg_entry_eq]
  generalize (lg_sl ([.ref av0, .int p0]) ++ List.replicate (3 - (lg_sl ([.ref av0, .int p0])).length) Slot.unset).toArray = ls at hl ⊢
  have hl : lv_has ls 3 [(0, .ref av0), (1, .int p0)] := hl
  refine lv_iload_n hx hb dX12_back_0 rfl (lv_at hl 1 rfl) ?_
  refine lv_i2l hx hb dX12_back_1 ?_
  refine lv_topl (fun x1 ex1 => ?_)
  have ex1 : x1.toInt = p0.toInt := by rw [ex1]; exact wk_i2l _
  refine lv_lconst (v := 0) hx hb dX12_back_2 (by decide) ?_
  refine lv_ldc2 (v := 3) hx hb hC.2.2.2.1 (hC.2.2.2.2 _ (List.mem_of_getElem? (i := 1) rfl)) dX12_back_3 ?_
  refine wk_Si hC hK hw hA [] [0] rfl rfl rfl rfl (by decide) (c_X12_in_1 l dC dI cy x1 s.heap.size (show (-2147483648) ≤ x1.toInt ∧ x1.toInt ≤ (-1) by omega)) (va_cwS 3 hC.2.2.2.2 gX12_back_X12_in rfl rfl rfl (by decide +kernel) ⟨Nat.le_of_ble_eq_true rfl, Nat.le_of_ble_eq_true rfl⟩) rfl hl.1 rfl (Nat.le_of_ble_eq_true rfl) dX12_back_6 0 0 ⟨rfl, rfl⟩ ⟨Nat.le_of_ble_eq_true rfl, Nat.le_of_ble_eq_true rfl⟩ (fun r3 u2 H locs p4 hw => ?_)
  have hw : Wd dC dI A s.heap H locs [(av0, .inr (12, [.ref (ad 0), .int 0, .int 0, .ref (ad 1), .ref (ad 2), .ref (ad 3), .ref (ad 4), .int 0, .int 0, .int 0, .int 0, .ref (ad 5), .ref (ad 6), .ref (ad 7), .int 0, .int 0, .int 0, .int 0, .int 0, .int 0, .int 0, .ref (ad 8), .int 0, .ref (ad 9), .int 0, .ref (ad 10), .ref (ad 11), .int 1, .ref (ad 12), .ref (ad 13), .int 0, .int 0, .ref (ad 14), .ref (ad 15), .ref (ad 16), .ref (ad 17), .ref (ad 18), .int 0, .ref (ad 19), .long 0, .ref (ad 20), .ref (ad 21)]))] := hw
  obtain rfl : r3 = 0 := p4
  refine lv_if_eq (tgt := 21) hx hb dX12_back_9 (by decide) (fun _ => ?_) (fun c => absurd (by decide) c)
  refine lv_iconst (v := (-1)) hx hb dX12_back_21 (by decide) ?_
  exact wk_iret (v := (-1)) hC hr hlocks hK ((fun _ => 0), (fun _ _ => 0)) rfl [0] rfl rfl hw dX12_back_22

set_option maxHeartbeats 4000000 in
set_option maxRecDepth 100000 in
theorem t_X12_back_1 (l : Launch) (dC : Nat → ClassId) (dI : Nat → Nat → Nat) (cy : Nat → ClassId) (av0 : Nat) (ad : Nat → Nat) (sz : Nat)  : Met l yX12_back wsX12_back ({ frames := 1, cells := 0, slots := 0, locals := 25 }) (va_Pc [.ref av0, .int 0] (wpre dC dI cy sz [(av0, .inr (12, [.ref (ad 0), .int 0, .int 0, .ref (ad 1), .ref (ad 2), .ref (ad 3), .ref (ad 4), .int 0, .int 0, .int 0, .int 0, .ref (ad 5), .ref (ad 6), .ref (ad 7), .int 0, .int 0, .int 0, .int 0, .int 0, .int 0, .int 0, .ref (ad 8), .int 0, .ref (ad 9), .int 0, .ref (ad 10), .ref (ad 11), .int 1, .ref (ad 12), .ref (ad 13), .int 0, .int 0, .ref (ad 14), .ref (ad 15), .ref (ad 16), .ref (ad 17), .ref (ad 18), .int 0, .ref (ad 19), .long 0, .ref (ad 20), .ref (ad 21)])), ((ad 21), .inl (cy 2, 4, .inl (fun _ => 0)))])) (va_Qi (fun (r : Int32) (_ : ((Nat → Nat) × (Nat → Nat → Int32))) => r = (-1)) (fun u => wpost dC dI cy (va_A [(av0, .inr (12, [.ref (ad 0), .int 0, .int 0, .ref (ad 1), .ref (ad 2), .ref (ad 3), .ref (ad 4), .int 0, .int 0, .int 0, .int 0, .ref (ad 5), .ref (ad 6), .ref (ad 7), .int 0, .int 0, .int 0, .int 0, .int 0, .int 0, .int 0, .ref (ad 8), .int 0, .ref (ad 9), .int 0, .ref (ad 10), .ref (ad 11), .int 1, .ref (ad 12), .ref (ad 13), .int 0, .int 0, .ref (ad 14), .ref (ad 15), .ref (ad 16), .ref (ad 17), .ref (ad 18), .int 0, .ref (ad 19), .long 0, .ref (ad 20), .ref (ad 21)])), ((ad 21), .inl (cy 2, 4, .inl (fun _ => 0)))] sz) [(av0, .inr (12, [.ref (ad 0), .int 0, .int 0, .ref (ad 1), .ref (ad 2), .ref (ad 3), .ref (ad 4), .int 0, .int 0, .int 0, .int 0, .ref (ad 5), .ref (ad 6), .ref (ad 7), .int 0, .int 0, .int 0, .int 0, .int 0, .int 0, .int 0, .ref (ad 8), .int 0, .ref (ad 9), .int 0, .ref (ad 10), .ref (ad 11), .int 1, .ref (ad 12), .ref (ad 13), .int 0, .int 0, .ref (ad 14), .ref (ad 15), .ref (ad 16), .ref (ad 17), .ref (ad 18), .int 0, .ref (ad 19), .long 0, .ref (ad 20), .ref (ad 21)])), ((ad 21), .inl (cy 2, 4, .inl (fun _ => 0)))]) (va_A [(av0, .inr (12, [.ref (ad 0), .int 0, .int 0, .ref (ad 1), .ref (ad 2), .ref (ad 3), .ref (ad 4), .int 0, .int 0, .int 0, .int 0, .ref (ad 5), .ref (ad 6), .ref (ad 7), .int 0, .int 0, .int 0, .int 0, .int 0, .int 0, .int 0, .ref (ad 8), .int 0, .ref (ad 9), .int 0, .ref (ad 10), .ref (ad 11), .int 1, .ref (ad 12), .ref (ad 13), .int 0, .int 0, .ref (ad 14), .ref (ad 15), .ref (ad 16), .ref (ad 17), .ref (ad 18), .int 0, .ref (ad 19), .long 0, .ref (ad 20), .ref (ad 21)])), ((ad 21), .inl (cy 2, 4, .inl (fun _ => 0)))] sz)) 0 0 (va_A [(av0, .inr (12, [.ref (ad 0), .int 0, .int 0, .ref (ad 1), .ref (ad 2), .ref (ad 3), .ref (ad 4), .int 0, .int 0, .int 0, .int 0, .ref (ad 5), .ref (ad 6), .ref (ad 7), .int 0, .int 0, .int 0, .int 0, .int 0, .int 0, .int 0, .ref (ad 8), .int 0, .ref (ad 9), .int 0, .ref (ad 10), .ref (ad 11), .int 1, .ref (ad 12), .ref (ad 13), .int 0, .int 0, .ref (ad 14), .ref (ad 15), .ref (ad 16), .ref (ad 17), .ref (ad 18), .int 0, .ref (ad 19), .long 0, .ref (ad 20), .ref (ad 21)])), ((ad 21), .inl (cy 2, 4, .inl (fun _ => 0)))] sz) := by
  refine Met.ofW (cc := cX12_back) (maxL := 3) (ret := (some .int)) (by decide) rfl ?_
  intro p e s m args below meth c s₁ B hml hv
  obtain ⟨rfl, hsz, hP, hK, hD0⟩ := hv
  have hx := B.exec
  have hb := B.bytes
  have hr := B.returns
  have hlocks := B.notSynchronized
  have hC : CallFix p m c cX12_back 3 s _ wsX12_back RX12 := ⟨hx, hb, hml, findClass_of_methodNamed B.named, atoms_spec (ws := wsX12_back) B.pre⟩
  subst hsz
  have hD := hD0.self (sz := s.heap.size)
  generalize hAe : va_A [(av0, .inr (12, [.ref (ad 0), .int 0, .int 0, .ref (ad 1), .ref (ad 2), .ref (ad 3), .ref (ad 4), .int 0, .int 0, .int 0, .int 0, .ref (ad 5), .ref (ad 6), .ref (ad 7), .int 0, .int 0, .int 0, .int 0, .int 0, .int 0, .int 0, .ref (ad 8), .int 0, .ref (ad 9), .int 0, .ref (ad 10), .ref (ad 11), .int 1, .ref (ad 12), .ref (ad 13), .int 0, .int 0, .ref (ad 14), .ref (ad 15), .ref (ad 16), .ref (ad 17), .ref (ad 18), .int 0, .ref (ad 19), .long 0, .ref (ad 20), .ref (ad 21)])), ((ad 21), .inl (cy 2, 4, .inl (fun _ => 0)))] s.heap.size = A at hD ⊢
  have hA : ∀ q : Nat, s.heap.size ≤ q → A q := fun q h => by rw [← hAe]; exact Or.inr h
  have hw : Wd dC dI A s.heap s.heap [] [(av0, .inr (12, [.ref (ad 0), .int 0, .int 0, .ref (ad 1), .ref (ad 2), .ref (ad 3), .ref (ad 4), .int 0, .int 0, .int 0, .int 0, .ref (ad 5), .ref (ad 6), .ref (ad 7), .int 0, .int 0, .int 0, .int 0, .int 0, .int 0, .int 0, .ref (ad 8), .int 0, .ref (ad 9), .int 0, .ref (ad 10), .ref (ad 11), .int 1, .ref (ad 12), .ref (ad 13), .int 0, .int 0, .ref (ad 14), .ref (ad 15), .ref (ad 16), .ref (ad 17), .ref (ad 18), .int 0, .ref (ad 19), .long 0, .ref (ad 20), .ref (ad 21)])), ((ad 21), .inl (cy 2, 4, .inl (fun _ => 0)))] := ⟨hP, hD, va_S.rf⟩
  have hl := lv_entry ([.ref av0, .int 0]) (n := 3) (Nat.le_of_ble_eq_true rfl)
  rw [lg_entry_eq]
  generalize (lg_sl ([.ref av0, .int 0]) ++ List.replicate (3 - (lg_sl ([.ref av0, .int 0])).length) Slot.unset).toArray = ls at hl ⊢
  have hl : lv_has ls 3 [(0, .ref av0), (1, .int 0)] := hl
  have hinX12 : ∀ w ∈ u_ws RX12 TX12 42, w ∈ wsX12_back := fun _ h => List.mem_cons_of_mem _ (List.mem_append_right _ (h))
  refine lv_iload_n hx hb dX12_back_0 rfl (lv_at hl 1 rfl) ?_
  refine lv_i2l hx hb dX12_back_1 ?_
  refine wk_topl 0 (by decide) ?_
  refine lv_lconst (v := 0) hx hb dX12_back_2 (by decide) ?_
  refine lv_ldc2 (v := 3) hx hb hC.2.2.2.1 (hC.2.2.2.2 _ (List.mem_of_getElem? (i := 1) rfl)) dX12_back_3 ?_
  refine wk_Si hC hK hw hA [] [0, 1] rfl rfl rfl rfl (by decide) (c_X12_in_2 l dC dI cy  s.heap.size ) (va_cwS 3 hC.2.2.2.2 gX12_back_X12_in rfl rfl rfl (by decide +kernel) ⟨Nat.le_of_ble_eq_true rfl, Nat.le_of_ble_eq_true rfl⟩) rfl hl.1 rfl (Nat.le_of_ble_eq_true rfl) dX12_back_6 0 0 ⟨rfl, rfl⟩ ⟨Nat.le_of_ble_eq_true rfl, Nat.le_of_ble_eq_true rfl⟩ (fun r2 u1 H locs p3 hw => ?_)
  have hw : Wd dC dI A s.heap H locs [(av0, .inr (12, [.ref (ad 0), .int 0, .int 0, .ref (ad 1), .ref (ad 2), .ref (ad 3), .ref (ad 4), .int 0, .int 0, .int 0, .int 0, .ref (ad 5), .ref (ad 6), .ref (ad 7), .int 0, .int 0, .int 0, .int 0, .int 0, .int 0, .int 0, .ref (ad 8), .int 0, .ref (ad 9), .int 0, .ref (ad 10), .ref (ad 11), .int 1, .ref (ad 12), .ref (ad 13), .int 0, .int 0, .ref (ad 14), .ref (ad 15), .ref (ad 16), .ref (ad 17), .ref (ad 18), .int 0, .ref (ad 19), .long 0, .ref (ad 20), .ref (ad 21)])), ((ad 21), .inl (cy 2, 4, .inl (fun _ => 0)))] := hw
  obtain rfl : r2 = 1 := p3
  refine lv_if_eq (tgt := 21) hx hb dX12_back_9 (by decide) (fun c => absurd c (by decide)) (fun _ => ?_)
  refine lv_aload_n hx hb dX12_back_12 rfl (lv_at hl 0 rfl) ?_
  refine wk_get hC hK hw hinX12 0 rfl rfl 41 (by decide) (List.mem_of_getElem? (i := 2) rfl) rfl rfl dX12_back_13 ?_
  refine lv_iload_n hx hb dX12_back_16 rfl (lv_at hl 1 rfl) ?_
  refine wk_zald hC hK hw 1 rfl (show ¬ ((0 : Int32) < 0 ∨ 4 ≤ (0 : Int32).toNatClampNeg) by decide) dX12_back_17 ?_
  refine wk_top 0 rfl ?_
  refine lv_if_ne (tgt := 23) hx hb dX12_back_18 (by decide) (fun c => absurd c (by decide)) (fun _ => ?_)
  refine lv_iconst (v := (-1)) hx hb dX12_back_21 (by decide) ?_
  exact wk_iret (v := (-1)) hC hr hlocks hK ((fun _ => 0), (fun _ _ => 0)) rfl [0, 1] rfl rfl hw dX12_back_22

set_option maxHeartbeats 4000000 in
set_option maxRecDepth 100000 in
theorem t_X12_back_2 (l : Launch) (dC : Nat → ClassId) (dI : Nat → Nat → Nat) (cy : Nat → ClassId) (av0 : Nat) (ad : Nat → Nat) (sz : Nat)  : Met l yX12_back wsX12_back ({ frames := 1, cells := 0, slots := 0, locals := 25 }) (va_Pc [.ref av0, .int 1] (wpre dC dI cy sz [(av0, .inr (12, [.ref (ad 0), .int 0, .int 0, .ref (ad 1), .ref (ad 2), .ref (ad 3), .ref (ad 4), .int 0, .int 0, .int 0, .int 0, .ref (ad 5), .ref (ad 6), .ref (ad 7), .int 0, .int 0, .int 0, .int 0, .int 0, .int 0, .int 0, .ref (ad 8), .int 0, .ref (ad 9), .int 0, .ref (ad 10), .ref (ad 11), .int 1, .ref (ad 12), .ref (ad 13), .int 0, .int 0, .ref (ad 14), .ref (ad 15), .ref (ad 16), .ref (ad 17), .ref (ad 18), .int 0, .ref (ad 19), .long 0, .ref (ad 20), .ref (ad 21)])), ((ad 21), .inl (cy 2, 4, .inl (fun _ => 0)))])) (va_Qi (fun (r : Int32) (_ : ((Nat → Nat) × (Nat → Nat → Int32))) => r = (-1)) (fun u => wpost dC dI cy (va_A [(av0, .inr (12, [.ref (ad 0), .int 0, .int 0, .ref (ad 1), .ref (ad 2), .ref (ad 3), .ref (ad 4), .int 0, .int 0, .int 0, .int 0, .ref (ad 5), .ref (ad 6), .ref (ad 7), .int 0, .int 0, .int 0, .int 0, .int 0, .int 0, .int 0, .ref (ad 8), .int 0, .ref (ad 9), .int 0, .ref (ad 10), .ref (ad 11), .int 1, .ref (ad 12), .ref (ad 13), .int 0, .int 0, .ref (ad 14), .ref (ad 15), .ref (ad 16), .ref (ad 17), .ref (ad 18), .int 0, .ref (ad 19), .long 0, .ref (ad 20), .ref (ad 21)])), ((ad 21), .inl (cy 2, 4, .inl (fun _ => 0)))] sz) [(av0, .inr (12, [.ref (ad 0), .int 0, .int 0, .ref (ad 1), .ref (ad 2), .ref (ad 3), .ref (ad 4), .int 0, .int 0, .int 0, .int 0, .ref (ad 5), .ref (ad 6), .ref (ad 7), .int 0, .int 0, .int 0, .int 0, .int 0, .int 0, .int 0, .ref (ad 8), .int 0, .ref (ad 9), .int 0, .ref (ad 10), .ref (ad 11), .int 1, .ref (ad 12), .ref (ad 13), .int 0, .int 0, .ref (ad 14), .ref (ad 15), .ref (ad 16), .ref (ad 17), .ref (ad 18), .int 0, .ref (ad 19), .long 0, .ref (ad 20), .ref (ad 21)])), ((ad 21), .inl (cy 2, 4, .inl (fun _ => 0)))]) (va_A [(av0, .inr (12, [.ref (ad 0), .int 0, .int 0, .ref (ad 1), .ref (ad 2), .ref (ad 3), .ref (ad 4), .int 0, .int 0, .int 0, .int 0, .ref (ad 5), .ref (ad 6), .ref (ad 7), .int 0, .int 0, .int 0, .int 0, .int 0, .int 0, .int 0, .ref (ad 8), .int 0, .ref (ad 9), .int 0, .ref (ad 10), .ref (ad 11), .int 1, .ref (ad 12), .ref (ad 13), .int 0, .int 0, .ref (ad 14), .ref (ad 15), .ref (ad 16), .ref (ad 17), .ref (ad 18), .int 0, .ref (ad 19), .long 0, .ref (ad 20), .ref (ad 21)])), ((ad 21), .inl (cy 2, 4, .inl (fun _ => 0)))] sz)) 0 0 (va_A [(av0, .inr (12, [.ref (ad 0), .int 0, .int 0, .ref (ad 1), .ref (ad 2), .ref (ad 3), .ref (ad 4), .int 0, .int 0, .int 0, .int 0, .ref (ad 5), .ref (ad 6), .ref (ad 7), .int 0, .int 0, .int 0, .int 0, .int 0, .int 0, .int 0, .ref (ad 8), .int 0, .ref (ad 9), .int 0, .ref (ad 10), .ref (ad 11), .int 1, .ref (ad 12), .ref (ad 13), .int 0, .int 0, .ref (ad 14), .ref (ad 15), .ref (ad 16), .ref (ad 17), .ref (ad 18), .int 0, .ref (ad 19), .long 0, .ref (ad 20), .ref (ad 21)])), ((ad 21), .inl (cy 2, 4, .inl (fun _ => 0)))] sz) := by
  refine Met.ofW (cc := cX12_back) (maxL := 3) (ret := (some .int)) (by decide) rfl ?_
  intro p e s m args below meth c s₁ B hml hv
  obtain ⟨rfl, hsz, hP, hK, hD0⟩ := hv
  have hx := B.exec
  have hb := B.bytes
  have hr := B.returns
  have hlocks := B.notSynchronized
  have hC : CallFix p m c cX12_back 3 s _ wsX12_back RX12 := ⟨hx, hb, hml, findClass_of_methodNamed B.named, atoms_spec (ws := wsX12_back) B.pre⟩
  subst hsz
  have hD := hD0.self (sz := s.heap.size)
  generalize hAe : va_A [(av0, .inr (12, [.ref (ad 0), .int 0, .int 0, .ref (ad 1), .ref (ad 2), .ref (ad 3), .ref (ad 4), .int 0, .int 0, .int 0, .int 0, .ref (ad 5), .ref (ad 6), .ref (ad 7), .int 0, .int 0, .int 0, .int 0, .int 0, .int 0, .int 0, .ref (ad 8), .int 0, .ref (ad 9), .int 0, .ref (ad 10), .ref (ad 11), .int 1, .ref (ad 12), .ref (ad 13), .int 0, .int 0, .ref (ad 14), .ref (ad 15), .ref (ad 16), .ref (ad 17), .ref (ad 18), .int 0, .ref (ad 19), .long 0, .ref (ad 20), .ref (ad 21)])), ((ad 21), .inl (cy 2, 4, .inl (fun _ => 0)))] s.heap.size = A at hD ⊢
  have hA : ∀ q : Nat, s.heap.size ≤ q → A q := fun q h => by rw [← hAe]; exact Or.inr h
  have hw : Wd dC dI A s.heap s.heap [] [(av0, .inr (12, [.ref (ad 0), .int 0, .int 0, .ref (ad 1), .ref (ad 2), .ref (ad 3), .ref (ad 4), .int 0, .int 0, .int 0, .int 0, .ref (ad 5), .ref (ad 6), .ref (ad 7), .int 0, .int 0, .int 0, .int 0, .int 0, .int 0, .int 0, .ref (ad 8), .int 0, .ref (ad 9), .int 0, .ref (ad 10), .ref (ad 11), .int 1, .ref (ad 12), .ref (ad 13), .int 0, .int 0, .ref (ad 14), .ref (ad 15), .ref (ad 16), .ref (ad 17), .ref (ad 18), .int 0, .ref (ad 19), .long 0, .ref (ad 20), .ref (ad 21)])), ((ad 21), .inl (cy 2, 4, .inl (fun _ => 0)))] := ⟨hP, hD, va_S.rf⟩
  have hl := lv_entry ([.ref av0, .int 1]) (n := 3) (Nat.le_of_ble_eq_true rfl)
  rw [lg_entry_eq]
  generalize (lg_sl ([.ref av0, .int 1]) ++ List.replicate (3 - (lg_sl ([.ref av0, .int 1])).length) Slot.unset).toArray = ls at hl ⊢
  have hl : lv_has ls 3 [(0, .ref av0), (1, .int 1)] := hl
  have hinX12 : ∀ w ∈ u_ws RX12 TX12 42, w ∈ wsX12_back := fun _ h => List.mem_cons_of_mem _ (List.mem_append_right _ (h))
  refine lv_iload_n hx hb dX12_back_0 rfl (lv_at hl 1 rfl) ?_
  refine lv_i2l hx hb dX12_back_1 ?_
  refine wk_topl 1 (by decide) ?_
  refine lv_lconst (v := 0) hx hb dX12_back_2 (by decide) ?_
  refine lv_ldc2 (v := 3) hx hb hC.2.2.2.1 (hC.2.2.2.2 _ (List.mem_of_getElem? (i := 1) rfl)) dX12_back_3 ?_
  refine wk_Si hC hK hw hA [] [0, 1] rfl rfl rfl rfl (by decide) (c_X12_in_3 l dC dI cy  s.heap.size ) (va_cwS 3 hC.2.2.2.2 gX12_back_X12_in rfl rfl rfl (by decide +kernel) ⟨Nat.le_of_ble_eq_true rfl, Nat.le_of_ble_eq_true rfl⟩) rfl hl.1 rfl (Nat.le_of_ble_eq_true rfl) dX12_back_6 0 0 ⟨rfl, rfl⟩ ⟨Nat.le_of_ble_eq_true rfl, Nat.le_of_ble_eq_true rfl⟩ (fun r2 u1 H locs p3 hw => ?_)
  have hw : Wd dC dI A s.heap H locs [(av0, .inr (12, [.ref (ad 0), .int 0, .int 0, .ref (ad 1), .ref (ad 2), .ref (ad 3), .ref (ad 4), .int 0, .int 0, .int 0, .int 0, .ref (ad 5), .ref (ad 6), .ref (ad 7), .int 0, .int 0, .int 0, .int 0, .int 0, .int 0, .int 0, .ref (ad 8), .int 0, .ref (ad 9), .int 0, .ref (ad 10), .ref (ad 11), .int 1, .ref (ad 12), .ref (ad 13), .int 0, .int 0, .ref (ad 14), .ref (ad 15), .ref (ad 16), .ref (ad 17), .ref (ad 18), .int 0, .ref (ad 19), .long 0, .ref (ad 20), .ref (ad 21)])), ((ad 21), .inl (cy 2, 4, .inl (fun _ => 0)))] := hw
  obtain rfl : r2 = 1 := p3
  refine lv_if_eq (tgt := 21) hx hb dX12_back_9 (by decide) (fun c => absurd c (by decide)) (fun _ => ?_)
  refine lv_aload_n hx hb dX12_back_12 rfl (lv_at hl 0 rfl) ?_
  refine wk_get hC hK hw hinX12 0 rfl rfl 41 (by decide) (List.mem_of_getElem? (i := 2) rfl) rfl rfl dX12_back_13 ?_
  refine lv_iload_n hx hb dX12_back_16 rfl (lv_at hl 1 rfl) ?_
  refine wk_zald hC hK hw 1 rfl (show ¬ ((1 : Int32) < 0 ∨ 4 ≤ (1 : Int32).toNatClampNeg) by decide) dX12_back_17 ?_
  refine wk_top 0 rfl ?_
  refine lv_if_ne (tgt := 23) hx hb dX12_back_18 (by decide) (fun c => absurd c (by decide)) (fun _ => ?_)
  refine lv_iconst (v := (-1)) hx hb dX12_back_21 (by decide) ?_
  exact wk_iret (v := (-1)) hC hr hlocks hK ((fun _ => 0), (fun _ _ => 0)) rfl [0, 1] rfl rfl hw dX12_back_22

set_option maxHeartbeats 4000000 in
set_option maxRecDepth 100000 in
theorem t_X12_back_3 (l : Launch) (dC : Nat → ClassId) (dI : Nat → Nat → Nat) (cy : Nat → ClassId) (av0 : Nat) (ad : Nat → Nat) (sz : Nat)  : Met l yX12_back wsX12_back ({ frames := 1, cells := 0, slots := 0, locals := 25 }) (va_Pc [.ref av0, .int 2] (wpre dC dI cy sz [(av0, .inr (12, [.ref (ad 0), .int 0, .int 0, .ref (ad 1), .ref (ad 2), .ref (ad 3), .ref (ad 4), .int 0, .int 0, .int 0, .int 0, .ref (ad 5), .ref (ad 6), .ref (ad 7), .int 0, .int 0, .int 0, .int 0, .int 0, .int 0, .int 0, .ref (ad 8), .int 0, .ref (ad 9), .int 0, .ref (ad 10), .ref (ad 11), .int 1, .ref (ad 12), .ref (ad 13), .int 0, .int 0, .ref (ad 14), .ref (ad 15), .ref (ad 16), .ref (ad 17), .ref (ad 18), .int 0, .ref (ad 19), .long 0, .ref (ad 20), .ref (ad 21)])), ((ad 21), .inl (cy 2, 4, .inl (fun _ => 0)))])) (va_Qi (fun (r : Int32) (_ : ((Nat → Nat) × (Nat → Nat → Int32))) => r = (-1)) (fun u => wpost dC dI cy (va_A [(av0, .inr (12, [.ref (ad 0), .int 0, .int 0, .ref (ad 1), .ref (ad 2), .ref (ad 3), .ref (ad 4), .int 0, .int 0, .int 0, .int 0, .ref (ad 5), .ref (ad 6), .ref (ad 7), .int 0, .int 0, .int 0, .int 0, .int 0, .int 0, .int 0, .ref (ad 8), .int 0, .ref (ad 9), .int 0, .ref (ad 10), .ref (ad 11), .int 1, .ref (ad 12), .ref (ad 13), .int 0, .int 0, .ref (ad 14), .ref (ad 15), .ref (ad 16), .ref (ad 17), .ref (ad 18), .int 0, .ref (ad 19), .long 0, .ref (ad 20), .ref (ad 21)])), ((ad 21), .inl (cy 2, 4, .inl (fun _ => 0)))] sz) [(av0, .inr (12, [.ref (ad 0), .int 0, .int 0, .ref (ad 1), .ref (ad 2), .ref (ad 3), .ref (ad 4), .int 0, .int 0, .int 0, .int 0, .ref (ad 5), .ref (ad 6), .ref (ad 7), .int 0, .int 0, .int 0, .int 0, .int 0, .int 0, .int 0, .ref (ad 8), .int 0, .ref (ad 9), .int 0, .ref (ad 10), .ref (ad 11), .int 1, .ref (ad 12), .ref (ad 13), .int 0, .int 0, .ref (ad 14), .ref (ad 15), .ref (ad 16), .ref (ad 17), .ref (ad 18), .int 0, .ref (ad 19), .long 0, .ref (ad 20), .ref (ad 21)])), ((ad 21), .inl (cy 2, 4, .inl (fun _ => 0)))]) (va_A [(av0, .inr (12, [.ref (ad 0), .int 0, .int 0, .ref (ad 1), .ref (ad 2), .ref (ad 3), .ref (ad 4), .int 0, .int 0, .int 0, .int 0, .ref (ad 5), .ref (ad 6), .ref (ad 7), .int 0, .int 0, .int 0, .int 0, .int 0, .int 0, .int 0, .ref (ad 8), .int 0, .ref (ad 9), .int 0, .ref (ad 10), .ref (ad 11), .int 1, .ref (ad 12), .ref (ad 13), .int 0, .int 0, .ref (ad 14), .ref (ad 15), .ref (ad 16), .ref (ad 17), .ref (ad 18), .int 0, .ref (ad 19), .long 0, .ref (ad 20), .ref (ad 21)])), ((ad 21), .inl (cy 2, 4, .inl (fun _ => 0)))] sz)) 0 0 (va_A [(av0, .inr (12, [.ref (ad 0), .int 0, .int 0, .ref (ad 1), .ref (ad 2), .ref (ad 3), .ref (ad 4), .int 0, .int 0, .int 0, .int 0, .ref (ad 5), .ref (ad 6), .ref (ad 7), .int 0, .int 0, .int 0, .int 0, .int 0, .int 0, .int 0, .ref (ad 8), .int 0, .ref (ad 9), .int 0, .ref (ad 10), .ref (ad 11), .int 1, .ref (ad 12), .ref (ad 13), .int 0, .int 0, .ref (ad 14), .ref (ad 15), .ref (ad 16), .ref (ad 17), .ref (ad 18), .int 0, .ref (ad 19), .long 0, .ref (ad 20), .ref (ad 21)])), ((ad 21), .inl (cy 2, 4, .inl (fun _ => 0)))] sz) := by
  refine Met.ofW (cc := cX12_back) (maxL := 3) (ret := (some .int)) (by decide) rfl ?_
  intro p e s m args below meth c s₁ B hml hv
  obtain ⟨rfl, hsz, hP, hK, hD0⟩ := hv
  have hx := B.exec
  have hb := B.bytes
  have hr := B.returns
  have hlocks := B.notSynchronized
  have hC : CallFix p m c cX12_back 3 s _ wsX12_back RX12 := ⟨hx, hb, hml, findClass_of_methodNamed B.named, atoms_spec (ws := wsX12_back) B.pre⟩
  subst hsz
  have hD := hD0.self (sz := s.heap.size)
  generalize hAe : va_A [(av0, .inr (12, [.ref (ad 0), .int 0, .int 0, .ref (ad 1), .ref (ad 2), .ref (ad 3), .ref (ad 4), .int 0, .int 0, .int 0, .int 0, .ref (ad 5), .ref (ad 6), .ref (ad 7), .int 0, .int 0, .int 0, .int 0, .int 0, .int 0, .int 0, .ref (ad 8), .int 0, .ref (ad 9), .int 0, .ref (ad 10), .ref (ad 11), .int 1, .ref (ad 12), .ref (ad 13), .int 0, .int 0, .ref (ad 14), .ref (ad 15), .ref (ad 16), .ref (ad 17), .ref (ad 18), .int 0, .ref (ad 19), .long 0, .ref (ad 20), .ref (ad 21)])), ((ad 21), .inl (cy 2, 4, .inl (fun _ => 0)))] s.heap.size = A at hD ⊢
  have hA : ∀ q : Nat, s.heap.size ≤ q → A q := fun q h => by rw [← hAe]; exact Or.inr h
  have hw : Wd dC dI A s.heap s.heap [] [(av0, .inr (12, [.ref (ad 0), .int 0, .int 0, .ref (ad 1), .ref (ad 2), .ref (ad 3), .ref (ad 4), .int 0, .int 0, .int 0, .int 0, .ref (ad 5), .ref (ad 6), .ref (ad 7), .int 0, .int 0, .int 0, .int 0, .int 0, .int 0, .int 0, .ref (ad 8), .int 0, .ref (ad 9), .int 0, .ref (ad 10), .ref (ad 11), .int 1, .ref (ad 12), .ref (ad 13), .int 0, .int 0, .ref (ad 14), .ref (ad 15), .ref (ad 16), .ref (ad 17), .ref (ad 18), .int 0, .ref (ad 19), .long 0, .ref (ad 20), .ref (ad 21)])), ((ad 21), .inl (cy 2, 4, .inl (fun _ => 0)))] := ⟨hP, hD, va_S.rf⟩
  have hl := lv_entry ([.ref av0, .int 2]) (n := 3) (Nat.le_of_ble_eq_true rfl)
  rw [lg_entry_eq]
  generalize (lg_sl ([.ref av0, .int 2]) ++ List.replicate (3 - (lg_sl ([.ref av0, .int 2])).length) Slot.unset).toArray = ls at hl ⊢
  have hl : lv_has ls 3 [(0, .ref av0), (1, .int 2)] := hl
  have hinX12 : ∀ w ∈ u_ws RX12 TX12 42, w ∈ wsX12_back := fun _ h => List.mem_cons_of_mem _ (List.mem_append_right _ (h))
  refine lv_iload_n hx hb dX12_back_0 rfl (lv_at hl 1 rfl) ?_
  refine lv_i2l hx hb dX12_back_1 ?_
  refine wk_topl 2 (by decide) ?_
  refine lv_lconst (v := 0) hx hb dX12_back_2 (by decide) ?_
  refine lv_ldc2 (v := 3) hx hb hC.2.2.2.1 (hC.2.2.2.2 _ (List.mem_of_getElem? (i := 1) rfl)) dX12_back_3 ?_
  refine wk_Si hC hK hw hA [] [0, 1] rfl rfl rfl rfl (by decide) (c_X12_in_4 l dC dI cy  s.heap.size ) (va_cwS 3 hC.2.2.2.2 gX12_back_X12_in rfl rfl rfl (by decide +kernel) ⟨Nat.le_of_ble_eq_true rfl, Nat.le_of_ble_eq_true rfl⟩) rfl hl.1 rfl (Nat.le_of_ble_eq_true rfl) dX12_back_6 0 0 ⟨rfl, rfl⟩ ⟨Nat.le_of_ble_eq_true rfl, Nat.le_of_ble_eq_true rfl⟩ (fun r2 u1 H locs p3 hw => ?_)
  have hw : Wd dC dI A s.heap H locs [(av0, .inr (12, [.ref (ad 0), .int 0, .int 0, .ref (ad 1), .ref (ad 2), .ref (ad 3), .ref (ad 4), .int 0, .int 0, .int 0, .int 0, .ref (ad 5), .ref (ad 6), .ref (ad 7), .int 0, .int 0, .int 0, .int 0, .int 0, .int 0, .int 0, .ref (ad 8), .int 0, .ref (ad 9), .int 0, .ref (ad 10), .ref (ad 11), .int 1, .ref (ad 12), .ref (ad 13), .int 0, .int 0, .ref (ad 14), .ref (ad 15), .ref (ad 16), .ref (ad 17), .ref (ad 18), .int 0, .ref (ad 19), .long 0, .ref (ad 20), .ref (ad 21)])), ((ad 21), .inl (cy 2, 4, .inl (fun _ => 0)))] := hw
  obtain rfl : r2 = 1 := p3
  refine lv_if_eq (tgt := 21) hx hb dX12_back_9 (by decide) (fun c => absurd c (by decide)) (fun _ => ?_)
  refine lv_aload_n hx hb dX12_back_12 rfl (lv_at hl 0 rfl) ?_
  refine wk_get hC hK hw hinX12 0 rfl rfl 41 (by decide) (List.mem_of_getElem? (i := 2) rfl) rfl rfl dX12_back_13 ?_
  refine lv_iload_n hx hb dX12_back_16 rfl (lv_at hl 1 rfl) ?_
  refine wk_zald hC hK hw 1 rfl (show ¬ ((2 : Int32) < 0 ∨ 4 ≤ (2 : Int32).toNatClampNeg) by decide) dX12_back_17 ?_
  refine wk_top 0 rfl ?_
  refine lv_if_ne (tgt := 23) hx hb dX12_back_18 (by decide) (fun c => absurd c (by decide)) (fun _ => ?_)
  refine lv_iconst (v := (-1)) hx hb dX12_back_21 (by decide) ?_
  exact wk_iret (v := (-1)) hC hr hlocks hK ((fun _ => 0), (fun _ _ => 0)) rfl [0, 1] rfl rfl hw dX12_back_22

set_option maxHeartbeats 4000000 in
set_option maxRecDepth 100000 in
theorem t_X12_back_4 (l : Launch) (dC : Nat → ClassId) (dI : Nat → Nat → Nat) (cy : Nat → ClassId) (av0 : Nat) (ad : Nat → Nat) (sz : Nat)  : Met l yX12_back wsX12_back ({ frames := 1, cells := 0, slots := 0, locals := 25 }) (va_Pc [.ref av0, .int 3] (wpre dC dI cy sz [(av0, .inr (12, [.ref (ad 0), .int 0, .int 0, .ref (ad 1), .ref (ad 2), .ref (ad 3), .ref (ad 4), .int 0, .int 0, .int 0, .int 0, .ref (ad 5), .ref (ad 6), .ref (ad 7), .int 0, .int 0, .int 0, .int 0, .int 0, .int 0, .int 0, .ref (ad 8), .int 0, .ref (ad 9), .int 0, .ref (ad 10), .ref (ad 11), .int 1, .ref (ad 12), .ref (ad 13), .int 0, .int 0, .ref (ad 14), .ref (ad 15), .ref (ad 16), .ref (ad 17), .ref (ad 18), .int 0, .ref (ad 19), .long 0, .ref (ad 20), .ref (ad 21)])), ((ad 21), .inl (cy 2, 4, .inl (fun _ => 0)))])) (va_Qi (fun (r : Int32) (_ : ((Nat → Nat) × (Nat → Nat → Int32))) => r = (-1)) (fun u => wpost dC dI cy (va_A [(av0, .inr (12, [.ref (ad 0), .int 0, .int 0, .ref (ad 1), .ref (ad 2), .ref (ad 3), .ref (ad 4), .int 0, .int 0, .int 0, .int 0, .ref (ad 5), .ref (ad 6), .ref (ad 7), .int 0, .int 0, .int 0, .int 0, .int 0, .int 0, .int 0, .ref (ad 8), .int 0, .ref (ad 9), .int 0, .ref (ad 10), .ref (ad 11), .int 1, .ref (ad 12), .ref (ad 13), .int 0, .int 0, .ref (ad 14), .ref (ad 15), .ref (ad 16), .ref (ad 17), .ref (ad 18), .int 0, .ref (ad 19), .long 0, .ref (ad 20), .ref (ad 21)])), ((ad 21), .inl (cy 2, 4, .inl (fun _ => 0)))] sz) [(av0, .inr (12, [.ref (ad 0), .int 0, .int 0, .ref (ad 1), .ref (ad 2), .ref (ad 3), .ref (ad 4), .int 0, .int 0, .int 0, .int 0, .ref (ad 5), .ref (ad 6), .ref (ad 7), .int 0, .int 0, .int 0, .int 0, .int 0, .int 0, .int 0, .ref (ad 8), .int 0, .ref (ad 9), .int 0, .ref (ad 10), .ref (ad 11), .int 1, .ref (ad 12), .ref (ad 13), .int 0, .int 0, .ref (ad 14), .ref (ad 15), .ref (ad 16), .ref (ad 17), .ref (ad 18), .int 0, .ref (ad 19), .long 0, .ref (ad 20), .ref (ad 21)])), ((ad 21), .inl (cy 2, 4, .inl (fun _ => 0)))]) (va_A [(av0, .inr (12, [.ref (ad 0), .int 0, .int 0, .ref (ad 1), .ref (ad 2), .ref (ad 3), .ref (ad 4), .int 0, .int 0, .int 0, .int 0, .ref (ad 5), .ref (ad 6), .ref (ad 7), .int 0, .int 0, .int 0, .int 0, .int 0, .int 0, .int 0, .ref (ad 8), .int 0, .ref (ad 9), .int 0, .ref (ad 10), .ref (ad 11), .int 1, .ref (ad 12), .ref (ad 13), .int 0, .int 0, .ref (ad 14), .ref (ad 15), .ref (ad 16), .ref (ad 17), .ref (ad 18), .int 0, .ref (ad 19), .long 0, .ref (ad 20), .ref (ad 21)])), ((ad 21), .inl (cy 2, 4, .inl (fun _ => 0)))] sz)) 0 0 (va_A [(av0, .inr (12, [.ref (ad 0), .int 0, .int 0, .ref (ad 1), .ref (ad 2), .ref (ad 3), .ref (ad 4), .int 0, .int 0, .int 0, .int 0, .ref (ad 5), .ref (ad 6), .ref (ad 7), .int 0, .int 0, .int 0, .int 0, .int 0, .int 0, .int 0, .ref (ad 8), .int 0, .ref (ad 9), .int 0, .ref (ad 10), .ref (ad 11), .int 1, .ref (ad 12), .ref (ad 13), .int 0, .int 0, .ref (ad 14), .ref (ad 15), .ref (ad 16), .ref (ad 17), .ref (ad 18), .int 0, .ref (ad 19), .long 0, .ref (ad 20), .ref (ad 21)])), ((ad 21), .inl (cy 2, 4, .inl (fun _ => 0)))] sz) := by
  refine Met.ofW (cc := cX12_back) (maxL := 3) (ret := (some .int)) (by decide) rfl ?_
  intro p e s m args below meth c s₁ B hml hv
  obtain ⟨rfl, hsz, hP, hK, hD0⟩ := hv
  have hx := B.exec
  have hb := B.bytes
  have hr := B.returns
  have hlocks := B.notSynchronized
  have hC : CallFix p m c cX12_back 3 s _ wsX12_back RX12 := ⟨hx, hb, hml, findClass_of_methodNamed B.named, atoms_spec (ws := wsX12_back) B.pre⟩
  subst hsz
  have hD := hD0.self (sz := s.heap.size)
  generalize hAe : va_A [(av0, .inr (12, [.ref (ad 0), .int 0, .int 0, .ref (ad 1), .ref (ad 2), .ref (ad 3), .ref (ad 4), .int 0, .int 0, .int 0, .int 0, .ref (ad 5), .ref (ad 6), .ref (ad 7), .int 0, .int 0, .int 0, .int 0, .int 0, .int 0, .int 0, .ref (ad 8), .int 0, .ref (ad 9), .int 0, .ref (ad 10), .ref (ad 11), .int 1, .ref (ad 12), .ref (ad 13), .int 0, .int 0, .ref (ad 14), .ref (ad 15), .ref (ad 16), .ref (ad 17), .ref (ad 18), .int 0, .ref (ad 19), .long 0, .ref (ad 20), .ref (ad 21)])), ((ad 21), .inl (cy 2, 4, .inl (fun _ => 0)))] s.heap.size = A at hD ⊢
  have hA : ∀ q : Nat, s.heap.size ≤ q → A q := fun q h => by rw [← hAe]; exact Or.inr h
  have hw : Wd dC dI A s.heap s.heap [] [(av0, .inr (12, [.ref (ad 0), .int 0, .int 0, .ref (ad 1), .ref (ad 2), .ref (ad 3), .ref (ad 4), .int 0, .int 0, .int 0, .int 0, .ref (ad 5), .ref (ad 6), .ref (ad 7), .int 0, .int 0, .int 0, .int 0, .int 0, .int 0, .int 0, .ref (ad 8), .int 0, .ref (ad 9), .int 0, .ref (ad 10), .ref (ad 11), .int 1, .ref (ad 12), .ref (ad 13), .int 0, .int 0, .ref (ad 14), .ref (ad 15), .ref (ad 16), .ref (ad 17), .ref (ad 18), .int 0, .ref (ad 19), .long 0, .ref (ad 20), .ref (ad 21)])), ((ad 21), .inl (cy 2, 4, .inl (fun _ => 0)))] := ⟨hP, hD, va_S.rf⟩
  have hl := lv_entry ([.ref av0, .int 3]) (n := 3) (Nat.le_of_ble_eq_true rfl)
  rw [lg_entry_eq]
  generalize (lg_sl ([.ref av0, .int 3]) ++ List.replicate (3 - (lg_sl ([.ref av0, .int 3])).length) Slot.unset).toArray = ls at hl ⊢
  have hl : lv_has ls 3 [(0, .ref av0), (1, .int 3)] := hl
  have hinX12 : ∀ w ∈ u_ws RX12 TX12 42, w ∈ wsX12_back := fun _ h => List.mem_cons_of_mem _ (List.mem_append_right _ (h))
  refine lv_iload_n hx hb dX12_back_0 rfl (lv_at hl 1 rfl) ?_
  refine lv_i2l hx hb dX12_back_1 ?_
  refine wk_topl 3 (by decide) ?_
  refine lv_lconst (v := 0) hx hb dX12_back_2 (by decide) ?_
  refine lv_ldc2 (v := 3) hx hb hC.2.2.2.1 (hC.2.2.2.2 _ (List.mem_of_getElem? (i := 1) rfl)) dX12_back_3 ?_
  refine wk_Si hC hK hw hA [] [0, 1] rfl rfl rfl rfl (by decide) (c_X12_in_5 l dC dI cy  s.heap.size ) (va_cwS 3 hC.2.2.2.2 gX12_back_X12_in rfl rfl rfl (by decide +kernel) ⟨Nat.le_of_ble_eq_true rfl, Nat.le_of_ble_eq_true rfl⟩) rfl hl.1 rfl (Nat.le_of_ble_eq_true rfl) dX12_back_6 0 0 ⟨rfl, rfl⟩ ⟨Nat.le_of_ble_eq_true rfl, Nat.le_of_ble_eq_true rfl⟩ (fun r2 u1 H locs p3 hw => ?_)
  have hw : Wd dC dI A s.heap H locs [(av0, .inr (12, [.ref (ad 0), .int 0, .int 0, .ref (ad 1), .ref (ad 2), .ref (ad 3), .ref (ad 4), .int 0, .int 0, .int 0, .int 0, .ref (ad 5), .ref (ad 6), .ref (ad 7), .int 0, .int 0, .int 0, .int 0, .int 0, .int 0, .int 0, .ref (ad 8), .int 0, .ref (ad 9), .int 0, .ref (ad 10), .ref (ad 11), .int 1, .ref (ad 12), .ref (ad 13), .int 0, .int 0, .ref (ad 14), .ref (ad 15), .ref (ad 16), .ref (ad 17), .ref (ad 18), .int 0, .ref (ad 19), .long 0, .ref (ad 20), .ref (ad 21)])), ((ad 21), .inl (cy 2, 4, .inl (fun _ => 0)))] := hw
  obtain rfl : r2 = 1 := p3
  refine lv_if_eq (tgt := 21) hx hb dX12_back_9 (by decide) (fun c => absurd c (by decide)) (fun _ => ?_)
  refine lv_aload_n hx hb dX12_back_12 rfl (lv_at hl 0 rfl) ?_
  refine wk_get hC hK hw hinX12 0 rfl rfl 41 (by decide) (List.mem_of_getElem? (i := 2) rfl) rfl rfl dX12_back_13 ?_
  refine lv_iload_n hx hb dX12_back_16 rfl (lv_at hl 1 rfl) ?_
  refine wk_zald hC hK hw 1 rfl (show ¬ ((3 : Int32) < 0 ∨ 4 ≤ (3 : Int32).toNatClampNeg) by decide) dX12_back_17 ?_
  refine wk_top 0 rfl ?_
  refine lv_if_ne (tgt := 23) hx hb dX12_back_18 (by decide) (fun c => absurd c (by decide)) (fun _ => ?_)
  refine lv_iconst (v := (-1)) hx hb dX12_back_21 (by decide) ?_
  exact wk_iret (v := (-1)) hC hr hlocks hK ((fun _ => 0), (fun _ _ => 0)) rfl [0, 1] rfl rfl hw dX12_back_22

set_option maxHeartbeats 4000000 in
set_option maxRecDepth 100000 in
theorem t_X12_back_5 (l : Launch) (dC : Nat → ClassId) (dI : Nat → Nat → Nat) (cy : Nat → ClassId) (av0 : Nat) (ad : Nat → Nat) (p0 : Int32) (sz : Nat) (hp : 4 ≤ p0.toInt) : Met l yX12_back wsX12_back ({ frames := 1, cells := 0, slots := 0, locals := 25 }) (va_Pc [.ref av0, .int p0] (wpre dC dI cy sz [(av0, .inr (12, [.ref (ad 0), .int 0, .int 0, .ref (ad 1), .ref (ad 2), .ref (ad 3), .ref (ad 4), .int 0, .int 0, .int 0, .int 0, .ref (ad 5), .ref (ad 6), .ref (ad 7), .int 0, .int 0, .int 0, .int 0, .int 0, .int 0, .int 0, .ref (ad 8), .int 0, .ref (ad 9), .int 0, .ref (ad 10), .ref (ad 11), .int 1, .ref (ad 12), .ref (ad 13), .int 0, .int 0, .ref (ad 14), .ref (ad 15), .ref (ad 16), .ref (ad 17), .ref (ad 18), .int 0, .ref (ad 19), .long 0, .ref (ad 20), .ref (ad 21)]))])) (va_Qi (fun (r : Int32) (_ : ((Nat → Nat) × (Nat → Nat → Int32))) => r = (-1)) (fun u => wpost dC dI cy (va_A [(av0, .inr (12, [.ref (ad 0), .int 0, .int 0, .ref (ad 1), .ref (ad 2), .ref (ad 3), .ref (ad 4), .int 0, .int 0, .int 0, .int 0, .ref (ad 5), .ref (ad 6), .ref (ad 7), .int 0, .int 0, .int 0, .int 0, .int 0, .int 0, .int 0, .ref (ad 8), .int 0, .ref (ad 9), .int 0, .ref (ad 10), .ref (ad 11), .int 1, .ref (ad 12), .ref (ad 13), .int 0, .int 0, .ref (ad 14), .ref (ad 15), .ref (ad 16), .ref (ad 17), .ref (ad 18), .int 0, .ref (ad 19), .long 0, .ref (ad 20), .ref (ad 21)]))] sz) [(av0, .inr (12, [.ref (ad 0), .int 0, .int 0, .ref (ad 1), .ref (ad 2), .ref (ad 3), .ref (ad 4), .int 0, .int 0, .int 0, .int 0, .ref (ad 5), .ref (ad 6), .ref (ad 7), .int 0, .int 0, .int 0, .int 0, .int 0, .int 0, .int 0, .ref (ad 8), .int 0, .ref (ad 9), .int 0, .ref (ad 10), .ref (ad 11), .int 1, .ref (ad 12), .ref (ad 13), .int 0, .int 0, .ref (ad 14), .ref (ad 15), .ref (ad 16), .ref (ad 17), .ref (ad 18), .int 0, .ref (ad 19), .long 0, .ref (ad 20), .ref (ad 21)]))]) (va_A [(av0, .inr (12, [.ref (ad 0), .int 0, .int 0, .ref (ad 1), .ref (ad 2), .ref (ad 3), .ref (ad 4), .int 0, .int 0, .int 0, .int 0, .ref (ad 5), .ref (ad 6), .ref (ad 7), .int 0, .int 0, .int 0, .int 0, .int 0, .int 0, .int 0, .ref (ad 8), .int 0, .ref (ad 9), .int 0, .ref (ad 10), .ref (ad 11), .int 1, .ref (ad 12), .ref (ad 13), .int 0, .int 0, .ref (ad 14), .ref (ad 15), .ref (ad 16), .ref (ad 17), .ref (ad 18), .int 0, .ref (ad 19), .long 0, .ref (ad 20), .ref (ad 21)]))] sz)) 0 0 (va_A [(av0, .inr (12, [.ref (ad 0), .int 0, .int 0, .ref (ad 1), .ref (ad 2), .ref (ad 3), .ref (ad 4), .int 0, .int 0, .int 0, .int 0, .ref (ad 5), .ref (ad 6), .ref (ad 7), .int 0, .int 0, .int 0, .int 0, .int 0, .int 0, .int 0, .ref (ad 8), .int 0, .ref (ad 9), .int 0, .ref (ad 10), .ref (ad 11), .int 1, .ref (ad 12), .ref (ad 13), .int 0, .int 0, .ref (ad 14), .ref (ad 15), .ref (ad 16), .ref (ad 17), .ref (ad 18), .int 0, .ref (ad 19), .long 0, .ref (ad 20), .ref (ad 21)]))] sz) := by
  refine Met.ofW (cc := cX12_back) (maxL := 3) (ret := (some .int)) (by decide) rfl ?_
  intro p e s m args below meth c s₁ B hml hv
  obtain ⟨rfl, hsz, hP, hK, hD0⟩ := hv
  have hx := B.exec
  have hb := B.bytes
  have hr := B.returns
  have hlocks := B.notSynchronized
  have hC : CallFix p m c cX12_back 3 s _ wsX12_back RX12 := ⟨hx, hb, hml, findClass_of_methodNamed B.named, atoms_spec (ws := wsX12_back) B.pre⟩
  subst hsz
  have hD := hD0.self (sz := s.heap.size)
  generalize hAe : va_A [(av0, .inr (12, [.ref (ad 0), .int 0, .int 0, .ref (ad 1), .ref (ad 2), .ref (ad 3), .ref (ad 4), .int 0, .int 0, .int 0, .int 0, .ref (ad 5), .ref (ad 6), .ref (ad 7), .int 0, .int 0, .int 0, .int 0, .int 0, .int 0, .int 0, .ref (ad 8), .int 0, .ref (ad 9), .int 0, .ref (ad 10), .ref (ad 11), .int 1, .ref (ad 12), .ref (ad 13), .int 0, .int 0, .ref (ad 14), .ref (ad 15), .ref (ad 16), .ref (ad 17), .ref (ad 18), .int 0, .ref (ad 19), .long 0, .ref (ad 20), .ref (ad 21)]))] s.heap.size = A at hD ⊢
  have hA : ∀ q : Nat, s.heap.size ≤ q → A q := fun q h => by rw [← hAe]; exact Or.inr h
  have hw : Wd dC dI A s.heap s.heap [] [(av0, .inr (12, [.ref (ad 0), .int 0, .int 0, .ref (ad 1), .ref (ad 2), .ref (ad 3), .ref (ad 4), .int 0, .int 0, .int 0, .int 0, .ref (ad 5), .ref (ad 6), .ref (ad 7), .int 0, .int 0, .int 0, .int 0, .int 0, .int 0, .int 0, .ref (ad 8), .int 0, .ref (ad 9), .int 0, .ref (ad 10), .ref (ad 11), .int 1, .ref (ad 12), .ref (ad 13), .int 0, .int 0, .ref (ad 14), .ref (ad 15), .ref (ad 16), .ref (ad 17), .ref (ad 18), .int 0, .ref (ad 19), .long 0, .ref (ad 20), .ref (ad 21)]))] := ⟨hP, hD, va_S.rf⟩
  have hl := lv_entry ([.ref av0, .int p0]) (n := 3) (Nat.le_of_ble_eq_true rfl)
  rw [lg_entry_eq]
  generalize (lg_sl ([.ref av0, .int p0]) ++ List.replicate (3 - (lg_sl ([.ref av0, .int p0])).length) Slot.unset).toArray = ls at hl ⊢
  have hl : lv_has ls 3 [(0, .ref av0), (1, .int p0)] := hl
  refine lv_iload_n hx hb dX12_back_0 rfl (lv_at hl 1 rfl) ?_
  refine lv_i2l hx hb dX12_back_1 ?_
  refine lv_topl (fun x1 ex1 => ?_)
  have ex1 : x1.toInt = p0.toInt := by rw [ex1]; exact wk_i2l _
  refine lv_lconst (v := 0) hx hb dX12_back_2 (by decide) ?_
  refine lv_ldc2 (v := 3) hx hb hC.2.2.2.1 (hC.2.2.2.2 _ (List.mem_of_getElem? (i := 1) rfl)) dX12_back_3 ?_
  refine wk_Si hC hK hw hA [] [0] rfl rfl rfl rfl (by decide) (c_X12_in_6 l dC dI cy x1 s.heap.size (show 4 ≤ x1.toInt ∧ x1.toInt ≤ 2147483647 by omega)) (va_cwS 3 hC.2.2.2.2 gX12_back_X12_in rfl rfl rfl (by decide +kernel) ⟨Nat.le_of_ble_eq_true rfl, Nat.le_of_ble_eq_true rfl⟩) rfl hl.1 rfl (Nat.le_of_ble_eq_true rfl) dX12_back_6 0 0 ⟨rfl, rfl⟩ ⟨Nat.le_of_ble_eq_true rfl, Nat.le_of_ble_eq_true rfl⟩ (fun r3 u2 H locs p4 hw => ?_)
  have hw : Wd dC dI A s.heap H locs [(av0, .inr (12, [.ref (ad 0), .int 0, .int 0, .ref (ad 1), .ref (ad 2), .ref (ad 3), .ref (ad 4), .int 0, .int 0, .int 0, .int 0, .ref (ad 5), .ref (ad 6), .ref (ad 7), .int 0, .int 0, .int 0, .int 0, .int 0, .int 0, .int 0, .ref (ad 8), .int 0, .ref (ad 9), .int 0, .ref (ad 10), .ref (ad 11), .int 1, .ref (ad 12), .ref (ad 13), .int 0, .int 0, .ref (ad 14), .ref (ad 15), .ref (ad 16), .ref (ad 17), .ref (ad 18), .int 0, .ref (ad 19), .long 0, .ref (ad 20), .ref (ad 21)]))] := hw
  obtain rfl : r3 = 0 := p4
  refine lv_if_eq (tgt := 21) hx hb dX12_back_9 (by decide) (fun _ => ?_) (fun c => absurd (by decide) c)
  refine lv_iconst (v := (-1)) hx hb dX12_back_21 (by decide) ?_
  exact wk_iret (v := (-1)) hC hr hlocks hK ((fun _ => 0), (fun _ _ => 0)) rfl [0] rfl rfl hw dX12_back_22
