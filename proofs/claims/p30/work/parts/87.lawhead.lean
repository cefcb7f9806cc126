-- ===== end of PART A; then your names; then what follows =====
/-! THE CLAIM OUT OF ONE WALK OF THE LAW'S BODY. Your part is whole_start (and what it stands on); all else here is the same for every law, but numbers. -/
def R_law : String := "MondayMapsLaw"
def lw_P (b : Addr) (xs : List Int32) (args : Array Value) (s : State) : Prop := args = #[.ref b] ∧ s.IntsAt b xs ∧ xs.length ≤ 3072 ∧ (Jvm.Cond.and given_1 narrow_1).before args s = true
def lw_Q (_ : Array Value) (s : State) (o : Outcome) (t : State) : Prop := o = .returned (some (.int 1)) ∧ Framed s o t [] 600000 7302250
def lw_Z (below : List Frame) (a : Array Value) (s : State) : State → Prop := fun t => ∃ o, t.status = .running ∧ Ended t below o ∧ lw_Q a s o t
/-- the law's own end, with 1 on the stack, nothing written that was there before, its room as the claim has it -/
theorem lw_ret {p : Program} {l : Launch} {e : Env} {s : State} {m : MethodId} {below : List Frame} {meth : Method} {c : Code} {b : Nat} (hx : p.tables.exec = Jvm.exec) (hb : c.code = code) (hr : meth.sig.returnType = ret) (hlocks : meth.locks = false) {pc : Nat} {H : Heap} {ls : Array Slot} (hdg : decode code pc = .ok (.ireturn, 1)) : W p l e room_1 s m #[Value.ref b] below meth c H [] 600000 7302250 (lw_Z below #[Value.ref b] s) (F0 m pc ls [.int 1]) := by
  intro T hT X
  obtain ⟨fs, hret, hrun, hended, hW, hframe⟩ := X.leave (v := some (.int 1)) (hlocks := hlocks) (fun h => by rw [hr] at h; cases h)
  have hmeth' : T.vm.method? m = some meth := X.method'
  refine ⟨T.setFrames fs, ?_, .returned (some (.int 1)), hrun, hended, rfl, ⟨_, rfl⟩, hW, hframe⟩
  jvm_step X.here [X.here.top, hx, hb, hdg, hmeth', hr, ret, narrow_b1]
  (try refine ⟨rfl, ?_⟩); (try refine ⟨rfl, ?_⟩)
  first | (intro acts; rw [hret _ acts rfl rfl rfl]) | rw [hret _ _ rfl rfl rfl]
  exact Steps.refl _
/-- what holds at the law's entry: the machine, the code, the tables' words (any of lw_tbl by 'hts w (by decide +kernel)'), the script of L ints xs at the cell b, what the Statement gives of the start (any of its parts by flat_of_before) -/
def lw_At (p : Program) (s : State) (m : MethodId) (meth : Method) (c : Code) (b L : Nat) (xs : Nat → Int32) : Prop :=
  p.tables.exec = Jvm.exec ∧ c.code = code ∧ meth.sig.returnType = ret ∧ c.maxLocals = 4 ∧ s.vm.findClass R_law = some m.cls ∧ (∀ w ∈ lw_tbl, w.before #[Value.ref b] s = true) ∧ va_X b L xs s s.heap ∧ b < s.heap.size ∧ meth.locks = false ∧ (Jvm.Cond.and given_1 narrow_1).before #[Value.ref b] s = true
theorem wk_subw {dC : Nat → ClassId} {dI : Nat → Nat → Nat} {A : Nat → Prop} {H0 H : Heap} {locs : List Loc} {ws ws' : va_W} (hw : Wd dC dI A H0 H locs ws) (is : List Nat) (hnd : va_nd is = true) (hs : is.map (fun i => ws[i]?) = ws'.map some) : Wd dC dI A H0 H locs ws' := ⟨hw.1.sub is (wk_fm hs), hw.2.1.sub is hnd hs, hw.2.2⟩
set_option maxHeartbeats 4000000 in
theorem law_fin {p : Program} {e : Env} {s : State} {m : MethodId} {below : List Frame} {meth : Method} {c : Code} {l : Launch} {b : Nat} {dC : Nat → ClassId} {dI : Nat → Nat → Nat} {A : Nat → Prop} (hx : p.tables.exec = Jvm.exec) (hb : c.code = code) (hr : meth.sig.returnType = ret) (hlocks : meth.locks = false) (hAe : A = fun q : Nat => s.heap.size ≤ q) {H : Heap} {locs : List Loc} {ls : Array Slot} {ws : va_W} {K n : Nat} (hw : Wd dC dI A s.heap H locs ws) (h1 : K ≤ 600000) (h2 : n ≤ 7302250) : W p l e room_1 s m #[Value.ref b] below meth c H locs K n (lw_Z below #[Value.ref b] s) (F0 m 1258 ls []) := by
  refine lv_iconst (v := 1) hx hb dL_law_1258 (by decide) ?_
  refine va_forget (fun q h => by have := hw.2.2.2.2 q h; rw [hAe] at this; exact this) ?_
  refine W.widen (k := 600000) (n := 7302250) h1 h2 ?_
  exact lw_ret hx hb hr hlocks dL_law_1259
def LI (adC adM : Nat → Nat) (cy : Nat → ClassId) (i : Int) (wc wr : va_W) : Prop := (∃ q : Nat, TW ksC adC cy (2147483648 + 9000 * i) q 12 wc) ∧ (∃ q : Nat, TW ksM adM cy (100000 + 9000 * i) q 12 wr) ∧ RW wr ∧ TR (sI wc) (sI wr) ∧ SI (sI wc) (sI wr) ∧ WI (sI wr) ∧ AIc (sI wc) ∧ LX wc wr
theorem LI_go {adC adM : Nat → Nat} {cy : Nat → ClassId} {i BC BM : Int} {q1 q2 : Nat} {uc ur : va_W} (hT : TW ksC adC cy BC q1 12 uc) (h1 : BC ≤ 2147483648 + 9000 * (i + 6)) (hM : TW ksM adM cy BM q2 12 ur) (h2 : BM ≤ 100000 + 9000 * (i + 6)) (hR : RW ur) (hX : TR (sI uc) (sI ur)) (hS : SI (sI uc) (sI ur)) (hW : WI (sI ur)) (hA : AIc (sI uc)) (hL : LX uc ur) : LI adC adM cy (i + 6) uc ur := ⟨⟨q1, hT.up h1⟩, ⟨q2, hM.up h2⟩, hR, hX, hS, hW, hA, hL⟩
theorem lx_ok {i j : Int32} {L : Nat} (h0 : 0 ≤ i.toInt) (h1 : i.toInt + 6 ≤ L) (hL : L ≤ 3072) (hj0 : 0 ≤ j.toInt) (hj : j.toInt ≤ 5) : vp_in (i + j) L := by
  have e : (i + j).toInt = i.toInt + j.toInt := wk_add (by omega) (by omega)
  unfold vp_in
  rintro (h | h)
  · have h2 : (i + j).toInt < (0 : Int32).toInt := wk_lt.mp h
    have e0 : (0 : Int32).toInt = 0 := by decide
    omega
  · have h3 : L ≤ (i + j).toInt.toNat := h
    omega
theorem z_gv {ks : List Nat} {ad : Nat → Nat} {cy : Nat → ClassId} {q κ k : Nat} (hq : ks[q]? = some κ) (h20 : ¬ κ < 20) (h1 : ¬ (ak κ).1 = 1) (h4 : (ak κ).1 < 4) : gi (zW ks ad cy) q k = 0 := by
  have he : (zW ks ad cy)[q]? = some (ad q, .inl (cy (ak κ).1, (ak κ).2, .inl (fun _ => 0))) := (zW_at hq).trans (by unfold zc; rw [if_neg h20, if_neg h1, if_pos h4])
  exact gi_a he
theorem z_go {ks : List Nat} {ad : Nat → Nat} {cy : Nat → ClassId} {q κ k : Nat} (hq : ks[q]? = some κ) (h20 : κ < 20) (hk : k < (ft κ).length) (hv : zfv ad q κ k = .int 0) : gi (zW ks ad cy) q k = 0 := by
  have he : (zW ks ad cy)[q]? = some (ad q, .inr (κ, (List.range (ft κ).length).map (zfv ad q κ))) := (zW_at hq).trans (by unfold zc; rw [if_pos h20])
  exact gi_o he (by rw [List.getElem?_map, List.getElem?_eq_getElem (by rw [List.length_range]; exact hk), List.getElem_range]; exact congrArg some hv)
theorem z_RW {adM : Nat → Nat} {cy : Nat → ClassId} : RW (zW ksM adM cy) := by
  unfold RW
  intro r c _ _ h0 h1
  rw [z_gv kM_at5 (by decide) (by decide) (by decide)] at h1
  have e0 : (0 : Int32).toInt = 0 := by decide
  omega
theorem z_TR {adC adM : Nat → Nat} {cy : Nat → ClassId} : TR (sI (zW ksC adC cy)) (sI (zW ksM adM cy)) := by
  have e0 : (0 : Int32).toInt = 0 := by decide
  have a1 : sI (zW ksC adC cy) 1 2 = 0 := (congrArg Int32.toInt (z_go kC_at1 (by decide) (by decide) rfl)).trans e0
  have a2 : sI (zW ksM adM cy) 0 1 = 0 := (congrArg Int32.toInt (z_go kM_at0 (by decide) (by decide) rfl)).trans e0
  have a3 : sI (zW ksC adC cy) 0 12 = 0 := (congrArg Int32.toInt (z_go kC_at0 (by decide) (by decide) rfl)).trans e0
  have a4 : sI (zW ksM adM cy) 0 2 = 0 := (congrArg Int32.toInt (z_go kM_at0 (by decide) (by decide) rfl)).trans e0
  exact ⟨⟨a1.trans a2.symm, by rw [a1]; exact Int.le_refl 0, fun j hj => absurd hj (by rw [a1]; omega)⟩, a3.trans a4.symm⟩
theorem z_SI {adC adM : Nat → Nat} {cy : Nat → ClassId} : SI (sI (zW ksC adC cy)) (sI (zW ksM adM cy)) := by
  have e0 : (0 : Int32).toInt = 0 := by decide
  have m12 : ∀ k : Nat, sI (zW ksM adM cy) 12 k = 0 := fun k => (congrArg Int32.toInt (z_gv kM_at12 (by decide) (by decide) (by decide))).trans e0
  have m22 : ∀ k : Nat, sI (zW ksM adM cy) 22 k = 0 := fun k => (congrArg Int32.toInt (z_gv kM_at22 (by decide) (by decide) (by decide))).trans e0
  have c144 : ∀ k : Nat, sI (zW ksC adC cy) 144 k = 0 := fun k => (congrArg Int32.toInt (z_gv kC_at144 (by decide) (by decide) (by decide))).trans e0
  have s8 : sI (zW ksC adC cy) 38 8 = 0 := (congrArg Int32.toInt (z_go kC_at38 (by decide) (by decide) rfl)).trans e0
  have s10 : sI (zW ksC adC cy) 38 10 = 0 := (congrArg Int32.toInt (z_go kC_at38 (by decide) (by decide) rfl)).trans e0
  have s11 : sI (zW ksC adC cy) 38 11 = 0 := (congrArg Int32.toInt (z_go kC_at38 (by decide) (by decide) rfl)).trans e0
  have s12 : sI (zW ksC adC cy) 38 12 = 0 := (congrArg Int32.toInt (z_go kC_at38 (by decide) (by decide) rfl)).trans e0
  have t8 : sI (zW ksC adC cy) (38 + 1) 8 = 0 := (congrArg Int32.toInt (z_go kC_at39 (by decide) (by decide) rfl)).trans e0
  have t9 : sI (zW ksC adC cy) (38 + 1) 9 = 0 := (congrArg Int32.toInt (z_go kC_at39 (by decide) (by decide) rfl)).trans e0
  have t10 : sI (zW ksC adC cy) (38 + 1) 10 = 0 := (congrArg Int32.toInt (z_go kC_at39 (by decide) (by decide) rfl)).trans e0
  have t11 : sI (zW ksC adC cy) (38 + 1) 11 = 0 := (congrArg Int32.toInt (z_go kC_at39 (by decide) (by decide) rfl)).trans e0
  refine ⟨⟨⟨?_, ?_, ?_, ?_, fun k hk => ?_⟩, ⟨⟨t8.trans (m12 0).symm, t9.trans (m12 1).symm, t10.trans (m12 2).symm, t11.trans (m12 3).symm⟩, fun i hi => ?_, fun k hk => ?_⟩, fun j hj => ?_, ⟨s8.trans (m12 4).symm, s10.trans (m12 6).symm, s11.trans (m12 7).symm, s12.trans (m12 8).symm⟩, ⟨?_, ?_, ?_, ?_⟩, fun m i hm hi => ?_, fun k hk => ?_, fun k hk => ?_, fun k hk => ?_⟩, fun i _ => (c144 i).trans (m22 i).symm, fun i _ hm => absurd (c144 i) hm⟩
  · rw [m12]; decide
  · rw [m12]; decide
  · rw [m12]; decide
  · rw [m12]; decide
  · rw [m12] at hk; omega
  · rw [m12] at hi; omega
  · rw [m12] at hk; omega
  · rw [m12] at hj; omega
  · rw [m12]; decide
  · rw [m12]; decide
  · rw [m12]; decide
  · rw [m12]; decide
  · rw [m12] at hm; omega
  · rw [m12] at hk; omega
  · rw [m12] at hk; omega
  · rw [m12] at hk; omega
theorem z_WI {adM : Nat → Nat} {cy : Nat → ClassId} : WI (sI (zW ksM adM cy)) := by
  have e0 : (0 : Int32).toInt = 0 := by decide
  have m12 : ∀ k : Nat, sI (zW ksM adM cy) 12 k = 0 := fun k => (congrArg Int32.toInt (z_gv kM_at12 (by decide) (by decide) (by decide))).trans e0
  have m22 : ∀ k : Nat, sI (zW ksM adM cy) 22 k = 0 := fun k => (congrArg Int32.toInt (z_gv kM_at22 (by decide) (by decide) (by decide))).trans e0
  refine ⟨⟨⟨⟨?_, ?_, ?_, ?_⟩, fun i hi => ?_, fun k hk => ?_, fun k hk => ?_⟩, fun k hk => ?_, fun k hk => ?_, fun k hk => ?_, fun m i hm _ => ?_, ?_, ?_, ?_, ?_⟩, fun i _ hm => absurd (m22 i) hm⟩
  · rw [m12]; decide
  · rw [m12]; decide
  · rw [m12]; decide
  · rw [m12]; decide
  · rw [m12] at hi; omega
  · rw [m12] at hk; omega
  · rw [m12] at hk; omega
  · rw [m12] at hk; omega
  · rw [m12] at hk; omega
  · rw [m12] at hk; omega
  · rw [m12] at hm; omega
  · rw [m12]; decide
  · rw [m12]; decide
  · rw [m12]; decide
  · rw [m12]; decide
theorem z_AI {adC : Nat → Nat} {cy : Nat → ClassId} : AIc (sI (zW ksC adC cy)) := by
  have e0 : (0 : Int32).toInt = 0 := by decide
  exact AIc_z (fun c _ => (congrArg Int32.toInt (z_gv kC_at148 (by decide) (by decide) (by decide))).trans e0)
theorem z_LX {adC adM : Nat → Nat} {cy : Nat → ClassId} : LX (zW ksC adC cy) (zW ksM adM cy) := by
  have e0 : (0 : Int32).toInt = 0 := by decide
  have m12 : ∀ k : Nat, sI (zW ksM adM cy) 12 k = 0 := fun k => (congrArg Int32.toInt (z_gv kM_at12 (by decide) (by decide) (by decide))).trans e0
  have m22 : ∀ k : Nat, sI (zW ksM adM cy) 22 k = 0 := fun k => (congrArg Int32.toInt (z_gv kM_at22 (by decide) (by decide) (by decide))).trans e0
  have x13 : sI (zW ksC adC cy) 38 13 = 0 := (congrArg Int32.toInt (z_go kC_at38 (by decide) (by decide) rfl)).trans e0
  have a4 : sI (zW ksM adM cy) 0 2 = 0 := (congrArg Int32.toInt (z_go kM_at0 (by decide) (by decide) rfl)).trans e0
  have h27 : gi (zW ksM adM cy) 0 27 = 1 := by
    have he : (zW ksM adM cy)[0]? = some (adM 0, .inr (12, (List.range (ft 12).length).map (zfv adM 0 12))) := (zW_at kM_at0).trans (by unfold zc; rw [if_pos (by decide)])
    exact gi_o he (by rw [List.getElem?_map, List.getElem?_eq_getElem (by rw [List.length_range]; decide), List.getElem_range]; rfl)
  refine ⟨⟨fun i hi => ?_, fun i hi _ => ?_⟩, ⟨⟨x13.trans (m12 9).symm, fun _ => m12 4⟩, fun i _ hm => absurd (m22 i) hm⟩, z_go kC_at149 (by decide) (by decide) rfl, h27, z_go kM_at0 (by decide) (by decide) rfl⟩
  · rcases (show i = 0 ∨ i = 1 ∨ i = 2 ∨ i = 3 ∨ i = 4 ∨ i = 5 by omega) with rfl | rfl | rfl | rfl | rfl | rfl
    · exact (congrArg Int32.toInt (z_gv kC_at7 (by decide) (by decide) (by decide))).trans e0
    · exact (congrArg Int32.toInt (z_gv kC_at11 (by decide) (by decide) (by decide))).trans e0
    · exact (congrArg Int32.toInt (z_gv kC_at15 (by decide) (by decide) (by decide))).trans e0
    · exact (congrArg Int32.toInt (z_gv kC_at19 (by decide) (by decide) (by decide))).trans e0
    · exact (congrArg Int32.toInt (z_gv kC_at23 (by decide) (by decide) (by decide))).trans e0
    · exact (congrArg Int32.toInt (z_gv kC_at27 (by decide) (by decide) (by decide))).trans e0
  · rw [a4] at hi; omega
theorem lx_len {L : Nat} (hL : L ≤ 3072) : (Int32.ofNat L).toInt = (L : Int) := Int32.toInt_ofNat_of_lt (by omega)
theorem lx_ok0 {i : Int32} {L : Nat} (h0 : 0 ≤ i.toInt) (h1 : i.toInt + 6 ≤ L) (hL : L ≤ 3072) : vp_in i L := by
  unfold vp_in
  rintro (h | h)
  · have h2 : i.toInt < (0 : Int32).toInt := wk_lt.mp h
    have e0 : (0 : Int32).toInt = 0 := by decide
    omega
  · have h3 : L ≤ i.toInt.toNat := h
    omega
