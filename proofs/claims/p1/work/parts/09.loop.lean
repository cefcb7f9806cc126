set_option maxHeartbeats 4000000 in
set_option maxRecDepth 100000 in
/-- the reference's image: the loop that copies 296 numbers -/
theorem lp_image {p : Program} {l : Launch} {e : Env} {R : Room} {s : State} {m : MethodId} {args : Array Value} {below : List Frame} {meth : Method} {c : Code} {H0 : Heap} {cells slots : Nat} {Q : State → Prop} {dC : Nat → ClassId} {dI : Nat → Nat → Nat} {cy : Nat → ClassId} {A : Nat → Prop} (hC : CallFix p m c cX12_image 3 s args wsX12_image RX12) (hK : KK dC dI cy s) (k : Int32) (hk0 : 0 ≤ k.toInt) (hk3 : k.toInt ≤ 3) (wf : (Nat → Int32) → va_W) (qo qi qs a ai as : Nat) (fs : List Value) (g : Nat → Int32) (ho : ∀ f, (wf f)[qo]? = some (a, .inr (12, fs))) (hfi : fs[40]? = some (.ref ai)) (hfs : fs[26]? = some (.ref as)) (hi : ∀ f, (wf f)[qi]? = some (ai, .inl (cy 0, 1184, .inl f))) (hs : ∀ f, (wf f)[qs]? = some (as, .inl (cy 0, 296, .inl g))) (hset : ∀ f f', (wf f).set qi (ai, .inl (cy 0, 1184, .inl f')) = wf f') :
    ∀ (n : Nat) (x : Int32) (f : Nat → Int32) (H : Heap) (locs : List Loc) (ls : Array Slot), 0 ≤ x.toInt → x.toInt + n = 296 → Wd dC dI A H0 H locs (wf f) → lv_has ls 3 [(2, .int x), (0, .ref a), (1, .int k)] → (∀ (f : Nat → Int32) (H : Heap) (locs : List Loc) (ls : Array Slot), Wd dC dI A H0 H locs (wf f) → lv_has ls 3 [(2, .int 296), (0, .ref a), (1, .int k)] → W p l e R s m args below meth c H locs cells slots Q (F0 m 54 ls [])) → W p l e R s m args below meth c H locs cells slots Q (F0 m 23 ls []) := by
  have hx := hC.1
  have hb := hC.2.1
  have hinX12 : ∀ w ∈ u_ws RX12 TX12 42, w ∈ wsX12_image := fun _ h => List.mem_cons_of_mem _ (List.mem_append_right _ (h))
  intro n
  induction n with
  | zero =>
    intro x f H locs ls h0 hn hw hl kx
    obtain rfl : x = 296 := wk_eq.mpr (show x.toInt = 296 by omega)
    refine lv_iload_n hx hb dX12_image_23 rfl (lv_at hl 0 rfl) ?_
    refine lv_sipush (v := 296) hx hb dX12_image_24 (by decide) ?_
    refine lv_icmp_ge (tgt := 54) hx hb dX12_image_27 (by decide) (fun _ => ?_) (fun c => absurd (by decide) c)
    exact kx f H locs ls hw hl
  | succ n ih =>
    intro x f H locs ls h0 hn hw hl kx
    have hxn : x.toInt < 296 := by omega
    refine lv_iload_n hx hb dX12_image_23 rfl (lv_at hl 0 rfl) ?_
    refine lv_sipush (v := 296) hx hb dX12_image_24 (by decide) ?_
    refine lv_icmp_ge (tgt := 54) hx hb dX12_image_27 (by decide) (fun c => absurd (show (296 : Int) ≤ x.toInt from wk_le.mp c) (by omega)) (fun _ => ?_)
    refine lv_aload_n hx hb dX12_image_30 rfl (lv_at hl 1 rfl) ?_
    refine wk_get hC hK hw hinX12 qo (ho f) rfl 40 (by decide) (List.mem_of_getElem? (i := 3) rfl) rfl hfi dX12_image_31 ?_
    refine lv_sipush (v := 296) hx hb dX12_image_34 (by decide) ?_
    refine lv_iload_n hx hb dX12_image_37 rfl (lv_at hl 2 rfl) ?_
    refine lv_imul hx hb dX12_image_38 ?_
    refine lv_topi (fun z ez => ?_)
    have ez : z.toInt = 296 * k.toInt := by rw [ez]; exact wk_mul (show -2147483648 ≤ 296 * k.toInt by omega) (show 296 * k.toInt ≤ 2147483647 by omega)
    refine lv_iload_n hx hb dX12_image_39 rfl (lv_at hl 0 rfl) ?_
    refine lv_iadd hx hb dX12_image_40 ?_
    refine lv_topi (fun y ey => ?_)
    have ey : y.toInt = z.toInt + x.toInt := by rw [ey]; exact wk_add (by omega) (by omega)
    refine lv_aload_n hx hb dX12_image_41 rfl (lv_at hl 1 rfl) ?_
    refine wk_get hC hK hw hinX12 qo (ho f) rfl 26 (by decide) (List.mem_of_getElem? (i := 4) rfl) rfl hfs dX12_image_42 ?_
    refine lv_iload_n hx hb dX12_image_45 rfl (lv_at hl 0 rfl) ?_
    refine wk_iald hC hK hw qs (hs f) (vp_in_iff.mpr (show 0 ≤ x.toInt ∧ x.toInt < ((296 : Nat) : Int) by omega)) dX12_image_46 ?_
    refine lv_topi (fun v ev => ?_)
    refine wk_iast hC hK hw qi (hi f) (vp_in_iff.mpr (show 0 ≤ y.toInt ∧ y.toInt < ((1184 : Nat) : Int) by omega)) dX12_image_47 (fun H locs hw => ?_)
    rw [hset] at hw
    obtain ⟨x1, ex1⟩ : ∃ y : Int32, y = x + Int32.ofInt 1 := ⟨_, rfl⟩
    refine lv_iinc (v := x1) (lv' := [(2, .int x1), (0, .ref a), (1, .int k)]) hx hb dX12_image_48 hl (k := 0) rfl ex1.symm (by decide) rfl (fun ls hl => ?_)
    have ex1 : x1.toInt = x.toInt + 1 := by rw [ex1]; exact wk_add (y := 1) (show -2147483648 ≤ x.toInt + 1 by omega) (show x.toInt + 1 ≤ 2147483647 by omega)
    refine lv_goto (tgt := 23) hx hb dX12_image_51 (by decide) ?_
    exact ih x1 _ H locs ls (by omega) (by omega) hw hl kx
