/-! what a world is here: cells at addresses, the classes of arrays fixed once for all -/
def tyA (cy : Nat → ClassId) : List (ClassId × FieldType) := [(cy 0, .int), (cy 1, .long), (cy 2, .boolean), (cy 3, .byte), (cy 4, .object "MondayMaps$Rule"), (cy 5, .object "MondayMaps$State"), (cy 6, .object "MondayMaps$Walker")]
def KK (dC : Nat → ClassId) (dI : Nat → Nat → Nat) (cy : Nat → ClassId) (U : State) : Prop := va_K (dC, dI) vwCl (tyA cy) U ∧ va_AO "MondayMaps$Rule" U ∧ va_AO "MondayMaps$State" U ∧ va_AO "MondayMaps$Walker" U
theorem KK.moved {dC : Nat → ClassId} {dI : Nat → Nat → Nat} {cy : Nat → ClassId} {u U : State} (hvm : u.vm.Alike U.vm) (h : KK dC dI cy u) : KK dC dI cy U := ⟨va_K.moved hvm h.1, va_AO.moved hvm h.2.1, va_AO.moved hvm h.2.2.1, va_AO.moved hvm h.2.2.2⟩
def wpre (dC : Nat → ClassId) (dI : Nat → Nat → Nat) (cy : Nat → ClassId) (sz : Nat) (ws : va_W) (U : State) : Prop := U.heap.size = sz ∧ va_P (dC, dI) vwCl ws U.heap ∧ KK dC dI cy U ∧ va_D (fun _ => True) ws
def wpost (dC : Nat → ClassId) (dI : Nat → Nat → Nat) (cy : Nat → ClassId) (A : Nat → Prop) (ws : va_W) (t : State) : Prop := va_P (dC, dI) vwCl ws t.heap ∧ KK dC dI cy t ∧ va_D A ws
/-- the world at a place of a walk -/
def Wd (dC : Nat → ClassId) (dI : Nat → Nat → Nat) (A : Nat → Prop) (H0 H : Heap) (locs : List Loc) (ws : va_W) : Prop := va_P (dC, dI) vwCl ws H ∧ va_D A ws ∧ va_S A H0 H locs
theorem wpre_blind {av : List Value} {dC : Nat → ClassId} {dI : Nat → Nat → Nat} {cy : Nat → ClassId} {sz : Nat} {ws : va_W} : FrameBlind (va_Pc av (wpre dC dI cy sz ws)) := fun a U g mk q => by
  obtain ⟨q0, q1, qP, qK, qD⟩ := q
  exact ⟨q0, q1, qP, KK.moved (u := U) (U := U.calling g mk a) (Vm.Alike.refl U.vm) qK, qD⟩
section
variable {p : Program} {l : Launch} {e : Env} {R : Room} {s : State} {m : MethodId} {args : Array Value} {below : List Frame} {meth : Method} {c : Code} {H H0 : Heap} {locs : List Loc} {cells slots : Nat} {Q : State → Prop} {cc : ByteArray} {pc nL : Nat} {ls : Array Slot} {rest : List Value} {dC : Nat → ClassId} {dI : Nat → Nat → Nat} {cy : Nat → ClassId} {A : Nat → Prop} {a : Nat} {ws : va_W} {Ts : List Cond} {own : String}
theorem wk_top {x : Int32} (y : Int32) (h : x = y) (k : W p l e R s m args below meth c H locs cells slots Q (F0 m pc ls (.int y :: rest))) : W p l e R s m args below meth c H locs cells slots Q (F0 m pc ls (.int x :: rest)) := h ▸ k
theorem wk_topl {x : Int64} (y : Int64) (h : x = y) (k : W p l e R s m args below meth c H locs cells slots Q (F0 m pc ls (.long y :: rest))) : W p l e R s m args below meth c H locs cells slots Q (F0 m pc ls (.long x :: rest)) := h ▸ k
theorem wk_get {C : String} {T : u_T} {N ci index : Nat} {fs : List Value} {v : Value} (hC : CallFix p m c cc nL s args Ts own) (hK : KK dC dI cy s) (hw : Wd dC dI A H0 H locs ws) (hin : ∀ w ∈ u_ws C T N, w ∈ Ts) (q0 : Nat) (he : ws[q0]? = some (a, .inr (ci, fs))) (hc : vwCl[ci]? = some (C, T, N)) (k : Nat) (hk : k < N) (hlink : Cond.fieldLink own index C (T k).2.1 (T k).2.2.1 ∈ Ts) (hCk : (T k).1 = C) (hv : fs[k]? = some v) (hdg : decode cc pc = .ok (.getfield index, 3))
    (kk : W p l e R s m args below meth c H locs cells slots Q (F0 m (pc + 3) ls (v :: rest))) : W p l e R s m args below meth c H locs cells slots Q (F0 m pc ls (.ref a :: rest)) :=
  va_get (ref := C) hC.1 hC.2.1 hC.2.2.2.2 hin hC.2.2.2.1 hK.1 hw.1 q0 he hc k hk (hC.2.2.2.2 _ hlink) (by rw [hCk]; exact fun _ h => h) hv hdg kk
theorem wk_put {C : String} {T : u_T} {N ci index : Nat} {fs : List Value} {v : Value} {ty : FieldType} (hC : CallFix p m c cc nL s args Ts own) (hK : KK dC dI cy s) (hw : Wd dC dI A H0 H locs ws) (hin : ∀ w ∈ u_ws C T N, w ∈ Ts) {ty0 : Nat → FieldType} (hty : ∀ k, k < N → parseFieldDescriptor (T k).2.2.1 = some (ty0 k)) (hnm : ∀ a, a < N → ∀ b, b < N → a ≠ b → (T a).2.1 ≠ (T b).2.1) (q0 : Nat) (he : ws[q0]? = some (a, .inr (ci, fs))) (hc : vwCl[ci]? = some (C, T, N)) (k : Nat) (hk : k < N) (hlink : Cond.fieldLink own index C (T k).2.1 (T k).2.2.1 ∈ Ts) (hCk : (T k).1 = C) (hfin : (T k).2.2.2 = false) (hd : ty0 k = ty) (hn : narrow ty v = v) (hfit : fits ty v = true) (hl : k < fs.length) (hdg : decode cc pc = .ok (.putfield index, 3))
    (kk : ∀ (H1 : Heap) (locs1 : List Loc), Wd dC dI A H0 H1 locs1 (ws.set q0 (a, .inr (ci, fs.set k v))) → W p l e R s m args below meth c H1 locs1 cells slots Q (F0 m (pc + 3) ls rest)) : W p l e R s m args below meth c H locs cells slots Q (F0 m pc ls (v :: .ref a :: rest)) :=
  va_put (ref := C) hC.1 hC.2.1 hC.2.2.2.2 hin ty0 hty hnm hC.2.2.2.1 hK.1 hw.1 hw.2.1 hw.2.2 q0 he hc k hk (hC.2.2.2.2 _ hlink) (by rw [hCk]; exact fun _ h => h) hfin ((hty k hk).trans (by rw [hd])) hn hfit hl hdg (fun H1 locs1 h1 h2 h3 => kk H1 locs1 ⟨h1, h2, h3⟩)
theorem wk_putF {C : String} {T : u_T} {N ci index : Nat} {fs : List Value} {v : Value} {ty : FieldType} (hC : CallFix p m c cc nL s args Ts own) (hK : KK dC dI cy s) (hw : Wd dC dI A H0 H locs ws) (hin : ∀ w ∈ u_ws C T N, w ∈ Ts) {ty0 : Nat → FieldType} (hty : ∀ k, k < N → parseFieldDescriptor (T k).2.2.1 = some (ty0 k)) (hnm : ∀ a, a < N → ∀ b, b < N → a ≠ b → (T a).2.1 ≠ (T b).2.1) (hini : meth.name = "<init>") (q0 : Nat) (he : ws[q0]? = some (a, .inr (ci, fs))) (hc : vwCl[ci]? = some (C, T, N)) (k : Nat) (hk : k < N) (hlink : Cond.fieldLink own index C (T k).2.1 (T k).2.2.1 ∈ Ts) (hCk : (T k).1 = C) (hCo : C = own) (hfin : (T k).2.2.2 = true) (hd : ty0 k = ty) (hn : narrow ty v = v) (hfit : fits ty v = true) (hl : k < fs.length) (hdg : decode cc pc = .ok (.putfield index, 3))
    (kk : ∀ (H1 : Heap) (locs1 : List Loc), Wd dC dI A H0 H1 locs1 (ws.set q0 (a, .inr (ci, fs.set k v))) → W p l e R s m args below meth c H1 locs1 cells slots Q (F0 m (pc + 3) ls rest)) : W p l e R s m args below meth c H locs cells slots Q (F0 m pc ls (v :: .ref a :: rest)) :=
  va_putF (ref := C) hC.1 hC.2.1 hC.2.2.2.2 hin ty0 hty hnm hC.2.2.2.1 hK.1 hw.1 hw.2.1 hw.2.2 q0 he hc k hk (hC.2.2.2.2 _ hlink) (by rw [hCk]; exact fun _ h => h) hfin hini (hCk.trans hCo) ((hty k hk).trans (by rw [hd])) hn hfit hl hdg (fun H1 locs1 h1 h2 h3 => kk H1 locs1 ⟨h1, h2, h3⟩)
theorem wk_new {C : String} {T : u_T} {N ci index : Nat} {fs : List Value} (hC : CallFix p m c cc nL s args Ts own) (hK : KK dC dI cy s) (hw : Wd dC dI A H0 H locs ws) (hA : ∀ q, H0.size ≤ q → A q) (hin : ∀ w ∈ u_ws C T N, w ∈ Ts) {ty0 : Nat → FieldType} (hty : ∀ k, k < N → parseFieldDescriptor (T k).2.2.1 = some (ty0 k)) (hcl : Cond.classLink own index C ∈ Ts) (hinst : Cond.instantiable C N ∈ Ts) (hini : Cond.initialized C ∈ Ts) (hc : vwCl[ci]? = some (C, T, N)) (hfs : ∀ j, j < N → defaultValue (ty0 j) = vp_V fs j) (k n : Nat) (hkn : cells + 1 = k ∧ slots + N = n) (hcells : k ≤ R.cells) (hslots : n ≤ R.slots) (hdg : decode cc pc = .ok (.new index, 3))
    (kk : ∀ (q : Nat) (H1 : Heap), Wd dC dI A H0 H1 locs (ws ++ [(q, .inr (ci, fs))]) → W p l e R s m args below meth c H1 locs k n Q (F0 m (pc + 3) ls (.ref q :: rest))) : W p l e R s m args below meth c H locs cells slots Q (F0 m pc ls rest) := by
  obtain ⟨rfl, rfl⟩ := hkn
  exact va_new hC.1 hC.2.1 hC.2.2.2.2 hin ty0 hty hC.2.2.2.1 (hC.2.2.2.2 _ hcl) (hC.2.2.2.2 _ hinst) (hC.2.2.2.2 _ hini) hK.1 hw.1 hw.2.1 hw.2.2 hA hc hfs hcells hslots hdg (fun q H1 h1 h2 h3 => kk q H1 ⟨h1, h2, h3⟩)
theorem wk_ra_inj {U : State} {a b : ClassId} {ty : FieldType} (h : va_RA U a ty) (k : va_RA U b ty) : a = b := by
  cases ty with
  | object C =>
    obtain ⟨_, _, _, _, _, h4⟩ := h
    obtain ⟨_, _, _, _, _, k4⟩ := k
    exact Option.some.inj (h4.symm.trans k4)
  | _ => exact Option.some.inj ((show U.vm.findClass _ = some a from h).symm.trans (show U.vm.findClass _ = some b from k))
theorem wk_newa {atype : ArrayType} {ty : FieldType} {n : Int32} {N' : Nat} {a0 : vp_A} (hC : CallFix p m c cc nL s args Ts own) (hK : KK dC dI cy s) (hw : Wd dC dI A H0 H locs ws) (hA : ∀ q, H0.size ≤ q → A q) (harr : Cond.arrayClass (newarray.typeOf atype) ∈ Ts) (hty : newarray.typeOf atype = ty) (t0 : Nat) {cA0 : ClassId} (ht : (tyA cy)[t0]? = some (cA0, ty)) (ha : ∀ cA : ClassId, vp_cell cA a0 = arrV cA N' (fun _ => defaultValue ty)) (hn : ¬ n < 0) (hN : n.toNatClampNeg = N') (hbytes : N' * componentBytes ty ≤ 536870912) (k n' : Nat) (hkn : cells + 1 = k ∧ slots + N' = n') (hcells : k ≤ R.cells) (hslots : n' ≤ R.slots) (hdg : decode cc pc = .ok (.newarray atype, 2))
    (kk : ∀ (q : Nat) (H1 : Heap), Wd dC dI A H0 H1 locs (ws ++ [(q, .inl (cA0, a0))]) → W p l e R s m args below meth c H1 locs k n' Q (F0 m (pc + 2) ls (.ref q :: rest))) : W p l e R s m args below meth c H locs cells slots Q (F0 m pc ls (.int n :: rest)) := by
  obtain ⟨rfl, rfl⟩ := hkn
  refine va_newa hC.1 hC.2.1 (hC.2.2.2.2 _ harr) hty hK.1 hw.1 hw.2.1 hw.2.2 hA ha hn hN hbytes hcells hslots hdg (fun q cA H1 h0 h1 h2 h3 => ?_)
  have e1 : (tyA cy ++ [(cA, ty)])[(tyA cy).length]? = some (cA, ty) := by simp
  have e2 : cA = cA0 := wk_ra_inj (h0.2 _ _ e1).2 (hK.1.2 _ _ ht).2
  subst e2
  exact kk q H1 ⟨h1, h2, h3⟩
theorem wk_newq {C : String} {index : Nat} {n : Int32} {N' : Nat} (hC : CallFix p m c cc nL s args Ts own) (hK : KK dC dI cy s) (hw : Wd dC dI A H0 H locs ws) (hA : ∀ q, H0.size ≤ q → A q) (hcl : Cond.classLink own index C ∈ Ts) (hover : va_AO C s) (t0 : Nat) {cA0 : ClassId} (ht : (tyA cy)[t0]? = some (cA0, .object C)) (hn : ¬ n < 0) (hN : n.toNatClampNeg = N') (hbytes : N' * 4 ≤ 536870912) (k n' : Nat) (hkn : cells + 1 = k ∧ slots + N' = n') (hcells : k ≤ R.cells) (hslots : n' ≤ R.slots) (hdg : decode cc pc = .ok (.anewarray index, 3))
    (kk : ∀ (q : Nat) (H1 : Heap), Wd dC dI A H0 H1 locs (ws ++ [(q, .inl (cA0, N', .inr (.inr (.inr (.inr (fun _ => none))))))]) → W p l e R s m args below meth c H1 locs k n' Q (F0 m (pc + 3) ls (.ref q :: rest))) : W p l e R s m args below meth c H locs cells slots Q (F0 m pc ls (.int n :: rest)) := by
  obtain ⟨rfl, rfl⟩ := hkn
  refine va_newq hC.1 hC.2.1 hC.2.2.2.1 (hC.2.2.2.2 _ hcl) hover hK.1 hw.1 hw.2.1 hw.2.2 hA hn hN hbytes hcells hslots hdg (fun q cA H1 h0 h1 h2 h3 => ?_)
  have e1 : (tyA cy ++ [(cA, FieldType.object C)])[(tyA cy).length]? = some (cA, FieldType.object C) := by simp
  have e2 : cA = cA0 := wk_ra_inj (h0.2 _ _ e1).2 (hK.1.2 _ _ ht).2
  subst e2
  exact kk q H1 ⟨h1, h2, h3⟩
theorem wk_iald {n : Nat} {f : Nat → Int32} {i : Int32} (hC : CallFix p m c cc nL s args Ts own) (hK : KK dC dI cy s) (hw : Wd dC dI A H0 H locs ws) (q0 : Nat) (ha : ws[q0]? = some (a, .inl (cy 0, n, .inl f))) (hin : vp_in i n) (hdg : decode cc pc = .ok (.iaload, 1))
    (kk : W p l e R s m args below meth c H locs cells slots Q (F0 m (pc + 1) ls (.int (f i.toNatClampNeg) :: rest))) : W p l e R s m args below meth c H locs cells slots Q (F0 m pc ls (.int i :: .ref a :: rest)) :=
  va_iald hC.1 hC.2.1 hK.1 hw.1 q0 0 ha rfl hin hdg kk
theorem wk_iast {n : Nat} {f : Nat → Int32} {i x : Int32} (hC : CallFix p m c cc nL s args Ts own) (hK : KK dC dI cy s) (hw : Wd dC dI A H0 H locs ws) (q0 : Nat) (ha : ws[q0]? = some (a, .inl (cy 0, n, .inl f))) (hin : vp_in i n) (hdg : decode cc pc = .ok (.iastore, 1))
    (kk : ∀ (H1 : Heap) (locs1 : List Loc), Wd dC dI A H0 H1 locs1 (ws.set q0 (a, .inl (cy 0, n, .inl (upd f i.toNatClampNeg x)))) → W p l e R s m args below meth c H1 locs1 cells slots Q (F0 m (pc + 1) ls rest)) : W p l e R s m args below meth c H locs cells slots Q (F0 m pc ls (.int x :: .int i :: .ref a :: rest)) :=
  va_iast hC.1 hC.2.1 hK.1 hw.1 hw.2.1 hw.2.2 q0 0 ha rfl hin hdg (fun H1 locs1 h1 h2 h3 => kk H1 locs1 ⟨h1, h2, h3⟩)
theorem wk_alen (t0 : Nat) {cA : ClassId} {x : vp_A} {ty : FieldType} (v : Int32) (hC : CallFix p m c cc nL s args Ts own) (hK : KK dC dI cy s) (hw : Wd dC dI A H0 H locs ws) (q0 : Nat) (ha : ws[q0]? = some (a, .inl (cA, x))) (ht : (tyA cy)[t0]? = some (cA, ty)) (hv : Int32.ofNat x.1 = v) (hdg : decode cc pc = .ok (.arraylength, 1))
    (kk : W p l e R s m args below meth c H locs cells slots Q (F0 m (pc + 1) ls (.int v :: rest))) : W p l e R s m args below meth c H locs cells slots Q (F0 m pc ls (.ref a :: rest)) :=
  va_alen hC.1 hC.2.1 hK.1 hw.1 q0 t0 ha ht hv hdg kk
theorem wk_aald (t0 : Nat) {cA : ClassId} {C : String} {n : Nat} {f : Nat → Option Nat} {i : Int32} (hC : CallFix p m c cc nL s args Ts own) (hK : KK dC dI cy s) (hw : Wd dC dI A H0 H locs ws) (q0 : Nat) (ha : ws[q0]? = some (a, .inl (cA, n, .inr (.inr (.inr (.inr f)))))) (ht : (tyA cy)[t0]? = some (cA, .object C)) (hin : vp_in i n) (hdg : decode cc pc = .ok (.aaload, 1))
    (kk : W p l e R s m args below meth c H locs cells slots Q (F0 m (pc + 1) ls (va_rf (f i.toNatClampNeg) :: rest))) : W p l e R s m args below meth c H locs cells slots Q (F0 m pc ls (.int i :: .ref a :: rest)) :=
  va_aldq hC.1 hC.2.1 hK.1 hw.1 q0 t0 ha ht hin hdg kk
theorem wk_fm {ws wc : va_W} {is : List Nat} (h : is.map (fun i => ws[i]?) = wc.map some) : is.filterMap (fun i => ws[i]?) = wc := by
  have h1 : (is.map (fun i => ws[i]?)).filterMap id = (wc.map some).filterMap id := by rw [h]
  rw [List.filterMap_map, List.filterMap_map] at h1
  simpa [Function.comp_def] using h1
theorem wk_rm {ws : va_W} {is : List Nat} (h : is.all (fun i => decide (i < ws.length)) = true) : is.map (fun i => ws[i]?) = (is.filterMap (fun i => ws[i]?)).map some := by
  induction is with
  | nil => rfl
  | cons i t ih =>
    simp only [List.all_cons, Bool.and_eq_true, decide_eq_true_eq] at h
    have e : ws[i]? = some (ws[i]'h.1) := List.getElem?_eq_getElem h.1
    rw [List.map_cons, List.filterMap_cons_some e, List.map_cons, ← ih h.2, e]
theorem wk_pc {wc : va_W} {av : List Value} (hK : KK dC dI cy s) (hP : va_P (dC, dI) vwCl wc H) (hD : va_D A wc) : ∀ U : State, U.heap = H → s.WarmedH U.vm → va_Pc av (wpre dC dI cy H.size wc) av.toArray U :=
  fun U hU hW => ⟨rfl, by rw [hU], by rw [hU]; exact hP, KK.moved hW.alike hK, hD.weaken (fun _ _ _ _ => trivial)⟩
theorem wk_Vi {y : MethodName} {bytes : ByteArray} {maxL mc ms n index : Nat} {ret : Option FieldType} {wl : List Cond} {rm : Room} {As : List Value} {S : Type} {post : Int32 → S → Prop} {w1 : S → va_W} {wc : va_W} {st0 : List Value} {C : String} {T : u_T} {N ci : Nat} {fs : List Value} {b : Nat} (hC : CallFix p m c cc nL s args Ts own) (hK : KK dC dI cy s) (hw : Wd dC dI A H0 H locs ws) (hA : ∀ q, H0.size ≤ q → A q) (isC isR : List Nat) (hisC : isC.map (fun i => ws[i]?) = wc.map some) (hisR : isR.all (fun i => decide (i < ws.length)) = true) (hn1 : va_nd isC = true) (hn2 : va_nd isR = true) (hdis : ∀ i ∈ isR, i ∉ isC) (hM : Met l y wl rm (va_Pc (.ref b :: As) (wpre dC dI cy H.size wc)) (va_Qi post (fun u => wpost dC dI cy (va_A wc H.size) (w1 u)) (va_A wc H.size)) mc ms (va_A wc H.size)) (cw : CallW R s args own C index y bytes maxL ret wl rm mc ms n) (hci : vwCl[ci]? = some (C, T, N)) (qr : Nat) (hrc : wc[qr]? = some (b, .inr (ci, fs))) (hlen : As.length = n) (hsize : ls.size = nL) (hstack : st0 = As.reverse ++ .ref b :: rest) (hW : (rest.map fun v => v.category).sum ≤ 8) (hdg : decode cc pc = .ok (.invokevirtual index, 3)) (k n' : Nat) (hkn : cells + mc = k ∧ slots + ms = n') (hf : k ≤ R.cells ∧ n' ≤ R.slots)
    (kk : ∀ (r : Int32) (u : S) (H1 : Heap) (locs1 : List Loc), post r u → Wd dC dI A H0 H1 locs1 (isR.filterMap (fun i => ws[i]?) ++ w1 u) → W p l e R s m args below meth c H1 locs1 k n' Q (F0 m (pc + 3) ls (.int r :: rest))) : W p l e R s m args below meth c H locs cells slots Q (F0 m pc ls st0) := by
  obtain ⟨rfl, rfl⟩ := hkn
  obtain ⟨hP, hD, hS⟩ := hw
  have hPc := hP.sub isC (wk_fm hisC)
  have hDc := hD.sub isC hn1 hisC
  have hFc := va_free hD hS hA isC hisC
  refine va_calli (va_runV (As := As) (rest := rest) hC hM cw ⟨wpre_blind, va_recv hK.1 hPc hci hrc, wk_pc hK hPc hDc⟩ rfl hlen hsize hstack (lv_room hW) hdg hf) hS (fun q _ h => hFc q h) hFc (fun r u t H1 locs ht hvm hw hB hz1 hk1 hS => ?_)
  obtain ⟨hP1, hK1, hD1⟩ := hB
  rw [ht] at hP1
  obtain ⟨hP', hD'⟩ := va_join hP hD isC isR hisC (wk_rm hisR) hn2 hdis hk1 hFc hP1 hD1
  exact kk r u H1 locs hw ⟨hP', hD', hS⟩
theorem wk_Vl {y : MethodName} {bytes : ByteArray} {maxL mc ms n index : Nat} {ret : Option FieldType} {wl : List Cond} {rm : Room} {As : List Value} {S : Type} {post : Int64 → S → Prop} {w1 : S → va_W} {wc : va_W} {st0 : List Value} {C : String} {T : u_T} {N ci : Nat} {fs : List Value} {b : Nat} (hC : CallFix p m c cc nL s args Ts own) (hK : KK dC dI cy s) (hw : Wd dC dI A H0 H locs ws) (hA : ∀ q, H0.size ≤ q → A q) (isC isR : List Nat) (hisC : isC.map (fun i => ws[i]?) = wc.map some) (hisR : isR.all (fun i => decide (i < ws.length)) = true) (hn1 : va_nd isC = true) (hn2 : va_nd isR = true) (hdis : ∀ i ∈ isR, i ∉ isC) (hM : Met l y wl rm (va_Pc (.ref b :: As) (wpre dC dI cy H.size wc)) (va_Ql post (fun u => wpost dC dI cy (va_A wc H.size) (w1 u)) (va_A wc H.size)) mc ms (va_A wc H.size)) (cw : CallW R s args own C index y bytes maxL ret wl rm mc ms n) (hci : vwCl[ci]? = some (C, T, N)) (qr : Nat) (hrc : wc[qr]? = some (b, .inr (ci, fs))) (hlen : As.length = n) (hsize : ls.size = nL) (hstack : st0 = As.reverse ++ .ref b :: rest) (hW : (rest.map fun v => v.category).sum ≤ 8) (hdg : decode cc pc = .ok (.invokevirtual index, 3)) (k n' : Nat) (hkn : cells + mc = k ∧ slots + ms = n') (hf : k ≤ R.cells ∧ n' ≤ R.slots)
    (kk : ∀ (r : Int64) (u : S) (H1 : Heap) (locs1 : List Loc), post r u → Wd dC dI A H0 H1 locs1 (isR.filterMap (fun i => ws[i]?) ++ w1 u) → W p l e R s m args below meth c H1 locs1 k n' Q (F0 m (pc + 3) ls (.long r :: rest))) : W p l e R s m args below meth c H locs cells slots Q (F0 m pc ls st0) := by
  obtain ⟨rfl, rfl⟩ := hkn
  obtain ⟨hP, hD, hS⟩ := hw
  have hPc := hP.sub isC (wk_fm hisC)
  have hDc := hD.sub isC hn1 hisC
  have hFc := va_free hD hS hA isC hisC
  refine va_calll (va_runV (As := As) (rest := rest) hC hM cw ⟨wpre_blind, va_recv hK.1 hPc hci hrc, wk_pc hK hPc hDc⟩ rfl hlen hsize hstack (lv_room hW) hdg hf) hS (fun q _ h => hFc q h) hFc (fun r u t H1 locs ht hvm hw hB hz1 hk1 hS => ?_)
  obtain ⟨hP1, hK1, hD1⟩ := hB
  rw [ht] at hP1
  obtain ⟨hP', hD'⟩ := va_join hP hD isC isR hisC (wk_rm hisR) hn2 hdis hk1 hFc hP1 hD1
  exact kk r u H1 locs hw ⟨hP', hD', hS⟩
theorem wk_Vv {y : MethodName} {bytes : ByteArray} {maxL mc ms n index : Nat} {ret : Option FieldType} {wl : List Cond} {rm : Room} {As : List Value} {S : Type} {post : S → Prop} {w1 : S → va_W} {wc : va_W} {st0 : List Value} {C : String} {T : u_T} {N ci : Nat} {fs : List Value} {b : Nat} (hC : CallFix p m c cc nL s args Ts own) (hK : KK dC dI cy s) (hw : Wd dC dI A H0 H locs ws) (hA : ∀ q, H0.size ≤ q → A q) (isC isR : List Nat) (hisC : isC.map (fun i => ws[i]?) = wc.map some) (hisR : isR.all (fun i => decide (i < ws.length)) = true) (hn1 : va_nd isC = true) (hn2 : va_nd isR = true) (hdis : ∀ i ∈ isR, i ∉ isC) (hM : Met l y wl rm (va_Pc (.ref b :: As) (wpre dC dI cy H.size wc)) (va_Qv post (fun u => wpost dC dI cy (va_A wc H.size) (w1 u)) (va_A wc H.size)) mc ms (va_A wc H.size)) (cw : CallW R s args own C index y bytes maxL ret wl rm mc ms n) (hci : vwCl[ci]? = some (C, T, N)) (qr : Nat) (hrc : wc[qr]? = some (b, .inr (ci, fs))) (hlen : As.length = n) (hsize : ls.size = nL) (hstack : st0 = As.reverse ++ .ref b :: rest) (hW : (rest.map fun v => v.category).sum ≤ 8) (hdg : decode cc pc = .ok (.invokevirtual index, 3)) (k n' : Nat) (hkn : cells + mc = k ∧ slots + ms = n') (hf : k ≤ R.cells ∧ n' ≤ R.slots)
    (kk : ∀ (u : S) (H1 : Heap) (locs1 : List Loc), post u → Wd dC dI A H0 H1 locs1 (isR.filterMap (fun i => ws[i]?) ++ w1 u) → W p l e R s m args below meth c H1 locs1 k n' Q (F0 m (pc + 3) ls (rest))) : W p l e R s m args below meth c H locs cells slots Q (F0 m pc ls st0) := by
  obtain ⟨rfl, rfl⟩ := hkn
  obtain ⟨hP, hD, hS⟩ := hw
  have hPc := hP.sub isC (wk_fm hisC)
  have hDc := hD.sub isC hn1 hisC
  have hFc := va_free hD hS hA isC hisC
  refine va_callv (va_runV (As := As) (rest := rest) hC hM cw ⟨wpre_blind, va_recv hK.1 hPc hci hrc, wk_pc hK hPc hDc⟩ rfl hlen hsize hstack (lv_room hW) hdg hf) hS (fun q _ h => hFc q h) hFc (fun u t H1 locs ht hvm hw hB hz1 hk1 hS => ?_)
  obtain ⟨hP1, hK1, hD1⟩ := hB
  rw [ht] at hP1
  obtain ⟨hP', hD'⟩ := va_join hP hD isC isR hisC (wk_rm hisR) hn2 hdis hk1 hFc hP1 hD1
  exact kk u H1 locs hw ⟨hP', hD', hS⟩
theorem wk_Si {y : MethodName} {bytes : ByteArray} {maxL mc ms n index : Nat} {ret : Option FieldType} {wl : List Cond} {rm : Room} {As : List Value} {S : Type} {post : Int32 → S → Prop} {w1 : S → va_W} {wc : va_W} {st0 : List Value} (hC : CallFix p m c cc nL s args Ts own) (hK : KK dC dI cy s) (hw : Wd dC dI A H0 H locs ws) (hA : ∀ q, H0.size ≤ q → A q) (isC isR : List Nat) (hisC : isC.map (fun i => ws[i]?) = wc.map some) (hisR : isR.all (fun i => decide (i < ws.length)) = true) (hn1 : va_nd isC = true) (hn2 : va_nd isR = true) (hdis : ∀ i ∈ isR, i ∉ isC) (hM : Met l y wl rm (va_Pc As (wpre dC dI cy H.size wc)) (va_Qi post (fun u => wpost dC dI cy (va_A wc H.size) (w1 u)) (va_A wc H.size)) mc ms (va_A wc H.size)) (cw : CallB R s args own index y bytes maxL ret wl rm mc ms n ∧ (Cond.static y).before args s = true) (hlen : As.length = n) (hsize : ls.size = nL) (hstack : st0 = As.reverse ++ rest) (hW : (rest.map fun v => v.category).sum ≤ 8) (hdg : decode cc pc = .ok (.invokestatic index, 3)) (k n' : Nat) (hkn : cells + mc = k ∧ slots + ms = n') (hf : k ≤ R.cells ∧ n' ≤ R.slots)
    (kk : ∀ (r : Int32) (u : S) (H1 : Heap) (locs1 : List Loc), post r u → Wd dC dI A H0 H1 locs1 (isR.filterMap (fun i => ws[i]?) ++ w1 u) → W p l e R s m args below meth c H1 locs1 k n' Q (F0 m (pc + 3) ls (.int r :: rest))) : W p l e R s m args below meth c H locs cells slots Q (F0 m pc ls st0) := by
  obtain ⟨rfl, rfl⟩ := hkn
  obtain ⟨hP, hD, hS⟩ := hw
  have hPc := hP.sub isC (wk_fm hisC)
  have hDc := hD.sub isC hn1 hisC
  have hFc := va_free hD hS hA isC hisC
  refine va_calli (va_runS (As := As) (rest := rest) hC hM cw ⟨wpre_blind, wk_pc hK hPc hDc⟩ rfl hlen hsize hstack (lv_room hW) hdg hf) hS (fun q _ h => hFc q h) hFc (fun r u t H1 locs ht hvm hw hB hz1 hk1 hS => ?_)
  obtain ⟨hP1, hK1, hD1⟩ := hB
  rw [ht] at hP1
  obtain ⟨hP', hD'⟩ := va_join hP hD isC isR hisC (wk_rm hisR) hn2 hdis hk1 hFc hP1 hD1
  exact kk r u H1 locs hw ⟨hP', hD', hS⟩
theorem wk_Sl {y : MethodName} {bytes : ByteArray} {maxL mc ms n index : Nat} {ret : Option FieldType} {wl : List Cond} {rm : Room} {As : List Value} {S : Type} {post : Int64 → S → Prop} {w1 : S → va_W} {wc : va_W} {st0 : List Value} (hC : CallFix p m c cc nL s args Ts own) (hK : KK dC dI cy s) (hw : Wd dC dI A H0 H locs ws) (hA : ∀ q, H0.size ≤ q → A q) (isC isR : List Nat) (hisC : isC.map (fun i => ws[i]?) = wc.map some) (hisR : isR.all (fun i => decide (i < ws.length)) = true) (hn1 : va_nd isC = true) (hn2 : va_nd isR = true) (hdis : ∀ i ∈ isR, i ∉ isC) (hM : Met l y wl rm (va_Pc As (wpre dC dI cy H.size wc)) (va_Ql post (fun u => wpost dC dI cy (va_A wc H.size) (w1 u)) (va_A wc H.size)) mc ms (va_A wc H.size)) (cw : CallB R s args own index y bytes maxL ret wl rm mc ms n ∧ (Cond.static y).before args s = true) (hlen : As.length = n) (hsize : ls.size = nL) (hstack : st0 = As.reverse ++ rest) (hW : (rest.map fun v => v.category).sum ≤ 8) (hdg : decode cc pc = .ok (.invokestatic index, 3)) (k n' : Nat) (hkn : cells + mc = k ∧ slots + ms = n') (hf : k ≤ R.cells ∧ n' ≤ R.slots)
    (kk : ∀ (r : Int64) (u : S) (H1 : Heap) (locs1 : List Loc), post r u → Wd dC dI A H0 H1 locs1 (isR.filterMap (fun i => ws[i]?) ++ w1 u) → W p l e R s m args below meth c H1 locs1 k n' Q (F0 m (pc + 3) ls (.long r :: rest))) : W p l e R s m args below meth c H locs cells slots Q (F0 m pc ls st0) := by
  obtain ⟨rfl, rfl⟩ := hkn
  obtain ⟨hP, hD, hS⟩ := hw
  have hPc := hP.sub isC (wk_fm hisC)
  have hDc := hD.sub isC hn1 hisC
  have hFc := va_free hD hS hA isC hisC
  refine va_calll (va_runS (As := As) (rest := rest) hC hM cw ⟨wpre_blind, wk_pc hK hPc hDc⟩ rfl hlen hsize hstack (lv_room hW) hdg hf) hS (fun q _ h => hFc q h) hFc (fun r u t H1 locs ht hvm hw hB hz1 hk1 hS => ?_)
  obtain ⟨hP1, hK1, hD1⟩ := hB
  rw [ht] at hP1
  obtain ⟨hP', hD'⟩ := va_join hP hD isC isR hisC (wk_rm hisR) hn2 hdis hk1 hFc hP1 hD1
  exact kk r u H1 locs hw ⟨hP', hD', hS⟩
theorem wk_Sv {y : MethodName} {bytes : ByteArray} {maxL mc ms n index : Nat} {ret : Option FieldType} {wl : List Cond} {rm : Room} {As : List Value} {S : Type} {post : S → Prop} {w1 : S → va_W} {wc : va_W} {st0 : List Value} (hC : CallFix p m c cc nL s args Ts own) (hK : KK dC dI cy s) (hw : Wd dC dI A H0 H locs ws) (hA : ∀ q, H0.size ≤ q → A q) (isC isR : List Nat) (hisC : isC.map (fun i => ws[i]?) = wc.map some) (hisR : isR.all (fun i => decide (i < ws.length)) = true) (hn1 : va_nd isC = true) (hn2 : va_nd isR = true) (hdis : ∀ i ∈ isR, i ∉ isC) (hM : Met l y wl rm (va_Pc As (wpre dC dI cy H.size wc)) (va_Qv post (fun u => wpost dC dI cy (va_A wc H.size) (w1 u)) (va_A wc H.size)) mc ms (va_A wc H.size)) (cw : CallB R s args own index y bytes maxL ret wl rm mc ms n ∧ (Cond.static y).before args s = true) (hlen : As.length = n) (hsize : ls.size = nL) (hstack : st0 = As.reverse ++ rest) (hW : (rest.map fun v => v.category).sum ≤ 8) (hdg : decode cc pc = .ok (.invokestatic index, 3)) (k n' : Nat) (hkn : cells + mc = k ∧ slots + ms = n') (hf : k ≤ R.cells ∧ n' ≤ R.slots)
    (kk : ∀ (u : S) (H1 : Heap) (locs1 : List Loc), post u → Wd dC dI A H0 H1 locs1 (isR.filterMap (fun i => ws[i]?) ++ w1 u) → W p l e R s m args below meth c H1 locs1 k n' Q (F0 m (pc + 3) ls (rest))) : W p l e R s m args below meth c H locs cells slots Q (F0 m pc ls st0) := by
  obtain ⟨rfl, rfl⟩ := hkn
  obtain ⟨hP, hD, hS⟩ := hw
  have hPc := hP.sub isC (wk_fm hisC)
  have hDc := hD.sub isC hn1 hisC
  have hFc := va_free hD hS hA isC hisC
  refine va_callv (va_runS (As := As) (rest := rest) hC hM cw ⟨wpre_blind, wk_pc hK hPc hDc⟩ rfl hlen hsize hstack (lv_room hW) hdg hf) hS (fun q _ h => hFc q h) hFc (fun u t H1 locs ht hvm hw hB hz1 hk1 hS => ?_)
  obtain ⟨hP1, hK1, hD1⟩ := hB
  rw [ht] at hP1
  obtain ⟨hP', hD'⟩ := va_join hP hD isC isR hisC (wk_rm hisR) hn2 hdis hk1 hFc hP1 hD1
  exact kk u H1 locs hw ⟨hP', hD', hS⟩
theorem wk_Iv {y : MethodName} {bytes : ByteArray} {maxL mc ms n index : Nat} {wl : List Cond} {rm : Room} {As : List Value} {S : Type} {post : S → Prop} {w1 : S → va_W} {wc : va_W} {st0 : List Value} {b : Nat} (hC : CallFix p m c cc nL s args Ts own) (hK : KK dC dI cy s) (hw : Wd dC dI A H0 H locs ws) (hA : ∀ q, H0.size ≤ q → A q) (isC isR : List Nat) (hisC : isC.map (fun i => ws[i]?) = wc.map some) (hisR : isR.all (fun i => decide (i < ws.length)) = true) (hn1 : va_nd isC = true) (hn2 : va_nd isR = true) (hdis : ∀ i ∈ isR, i ∉ isC) (hM : Met l y wl rm (va_Pc (.ref b :: As) (wpre dC dI cy H.size wc)) (va_Qv post (fun u => wpost dC dI cy (va_A wc H.size) (w1 u)) (va_A wc H.size)) mc ms (va_A wc H.size)) (cw : CallB R s args own index y bytes maxL none wl rm mc ms n ∧ y.name = "<init>" ∧ (Cond.instanceMethod y).before args s = true) (hlen : As.length = n) (hsize : ls.size = nL) (hstack : st0 = As.reverse ++ .ref b :: rest) (hW : (rest.map fun v => v.category).sum ≤ 8) (hdg : decode cc pc = .ok (.invokespecial index, 3)) (k n' : Nat) (hkn : cells + mc = k ∧ slots + ms = n') (hf : k ≤ R.cells ∧ n' ≤ R.slots)
    (kk : ∀ (u : S) (H1 : Heap) (locs1 : List Loc), post u → Wd dC dI A H0 H1 locs1 (isR.filterMap (fun i => ws[i]?) ++ w1 u) → W p l e R s m args below meth c H1 locs1 k n' Q (F0 m (pc + 3) ls (rest))) : W p l e R s m args below meth c H locs cells slots Q (F0 m pc ls st0) := by
  obtain ⟨rfl, rfl⟩ := hkn
  obtain ⟨hP, hD, hS⟩ := hw
  have hPc := hP.sub isC (wk_fm hisC)
  have hDc := hD.sub isC hn1 hisC
  have hFc := va_free hD hS hA isC hisC
  refine va_callv (va_runI (As := As) (rest := rest) hC hM cw ⟨wpre_blind, wk_pc hK hPc hDc⟩ rfl hlen hsize hstack (lv_room hW) hdg hf) hS (fun q _ h => hFc q h) hFc (fun u t H1 locs ht hvm hw hB hz1 hk1 hS => ?_)
  obtain ⟨hP1, hK1, hD1⟩ := hB
  rw [ht] at hP1
  obtain ⟨hP', hD'⟩ := va_join hP hD isC isR hisC (wk_rm hisR) hn2 hdis hk1 hFc hP1 hD1
  exact kk u H1 locs hw ⟨hP', hD', hS⟩
theorem wk_lt {x y : Int32} : x < y ↔ x.toInt < y.toInt := Int32.lt_iff_toInt_lt
theorem wk_le {x y : Int32} : x ≤ y ↔ x.toInt ≤ y.toInt := Int32.le_iff_toInt_le
theorem wk_eq {x y : Int32} : x = y ↔ x.toInt = y.toInt := Int32.toInt_inj.symm
theorem wk_topv {x : Value} (y : Value) (h : x = y) (k : W p l e R s m args below meth c H locs cells slots Q (F0 m pc ls (y :: rest))) : W p l e R s m args below meth c H locs cells slots Q (F0 m pc ls (x :: rest)) := h ▸ k
theorem wk_by {P : Prop} (h : P) : P := h
theorem wk_aast (t0 : Nat) {cA : ClassId} {r : vw_C} {n v ci : Nat} {vs : List Value} {f : Nat → Option Nat} {i : Int32} (hC : CallFix p m c cc nL s args Ts own) (hK : KK dC dI cy s) (hw : Wd dC dI A H0 H locs ws) (q0 qk : Nat) (ha : ws[q0]? = some (a, .inl (cA, n, .inr (.inr (.inr (.inr f)))))) (hv : ws[qk]? = some (v, .inr (ci, vs))) (hc : vwCl[ci]? = some r) (ht : (tyA cy)[t0]? = some (cA, .object r.1)) (hin : vp_in i n) (hdg : decode cc pc = .ok (.aastore, 1))
    (kk : ∀ (H1 : Heap) (locs1 : List Loc), Wd dC dI A H0 H1 locs1 (ws.set q0 (a, .inl (cA, n, .inr (.inr (.inr (.inr (va_up f i.toNatClampNeg (some v)))))))) → W p l e R s m args below meth c H1 locs1 cells slots Q (F0 m (pc + 1) ls rest)) : W p l e R s m args below meth c H locs cells slots Q (F0 m pc ls (.ref v :: .int i :: .ref a :: rest)) :=
  va_astq hC.1 hC.2.1 hK.1 hw.1 hw.2.1 hw.2.2 q0 t0 qk ci ha ht hv hc hin hdg (fun H1 locs1 h1 h2 h3 => kk H1 locs1 ⟨h1, h2, h3⟩)
theorem wk_zald {n : Nat} {f : Nat → Int32} {i : Int32} (hC : CallFix p m c cc nL s args Ts own) (hK : KK dC dI cy s) (hw : Wd dC dI A H0 H locs ws) (q0 : Nat) (ha : ws[q0]? = some (a, .inl (cy 2, n, .inl f))) (hin : vp_in i n) (hdg : decode cc pc = .ok (.baload, 1))
    (kk : W p l e R s m args below meth c H locs cells slots Q (F0 m (pc + 1) ls (.int (f i.toNatClampNeg) :: rest))) : W p l e R s m args below meth c H locs cells slots Q (F0 m pc ls (.int i :: .ref a :: rest)) :=
  va_zald hC.1 hC.2.1 hK.1 hw.1 q0 2 ha rfl hin hdg kk
theorem wk_bald {n : Nat} {f : Nat → Int32} {i : Int32} (hC : CallFix p m c cc nL s args Ts own) (hK : KK dC dI cy s) (hw : Wd dC dI A H0 H locs ws) (q0 : Nat) (ha : ws[q0]? = some (a, .inl (cy 3, n, .inl f))) (hin : vp_in i n) (hdg : decode cc pc = .ok (.baload, 1))
    (kk : W p l e R s m args below meth c H locs cells slots Q (F0 m (pc + 1) ls (.int (f i.toNatClampNeg) :: rest))) : W p l e R s m args below meth c H locs cells slots Q (F0 m pc ls (.int i :: .ref a :: rest)) :=
  va_bald hC.1 hC.2.1 hK.1 hw.1 q0 3 ha rfl hin hdg kk
theorem wk_lald {n : Nat} {f : Nat → Int64} {i : Int32} (hC : CallFix p m c cc nL s args Ts own) (hK : KK dC dI cy s) (hw : Wd dC dI A H0 H locs ws) (q0 : Nat) (ha : ws[q0]? = some (a, .inl (cy 1, n, .inr (.inl f)))) (hin : vp_in i n) (hdg : decode cc pc = .ok (.laload, 1))
    (kk : W p l e R s m args below meth c H locs cells slots Q (F0 m (pc + 1) ls (.long (f i.toNatClampNeg) :: rest))) : W p l e R s m args below meth c H locs cells slots Q (F0 m pc ls (.int i :: .ref a :: rest)) :=
  va_lald hC.1 hC.2.1 hK.1 hw.1 q0 1 ha rfl hin hdg kk
theorem wk_zast {n : Nat} {f : Nat → Int32} {i : Int32} {x : Int32} (hC : CallFix p m c cc nL s args Ts own) (hK : KK dC dI cy s) (hw : Wd dC dI A H0 H locs ws) (q0 : Nat) (ha : ws[q0]? = some (a, .inl (cy 2, n, .inl f))) (hin : vp_in i n) (hdg : decode cc pc = .ok (.bastore, 1))
    (kk : ∀ (H1 : Heap) (locs1 : List Loc), Wd dC dI A H0 H1 locs1 (ws.set q0 (a, .inl (cy 2, n, .inl (upd f i.toNatClampNeg (vp_nar .boolean x))))) → W p l e R s m args below meth c H1 locs1 cells slots Q (F0 m (pc + 1) ls rest)) : W p l e R s m args below meth c H locs cells slots Q (F0 m pc ls (.int x :: .int i :: .ref a :: rest)) :=
  va_zast hC.1 hC.2.1 hK.1 hw.1 hw.2.1 hw.2.2 q0 2 ha rfl hin hdg (fun H1 locs1 h1 h2 h3 => kk H1 locs1 ⟨h1, h2, h3⟩)
theorem wk_bast {n : Nat} {f : Nat → Int32} {i : Int32} {x : Int32} (hC : CallFix p m c cc nL s args Ts own) (hK : KK dC dI cy s) (hw : Wd dC dI A H0 H locs ws) (q0 : Nat) (ha : ws[q0]? = some (a, .inl (cy 3, n, .inl f))) (hin : vp_in i n) (hdg : decode cc pc = .ok (.bastore, 1))
    (kk : ∀ (H1 : Heap) (locs1 : List Loc), Wd dC dI A H0 H1 locs1 (ws.set q0 (a, .inl (cy 3, n, .inl (upd f i.toNatClampNeg (vp_nar .byte x))))) → W p l e R s m args below meth c H1 locs1 cells slots Q (F0 m (pc + 1) ls rest)) : W p l e R s m args below meth c H locs cells slots Q (F0 m pc ls (.int x :: .int i :: .ref a :: rest)) :=
  va_bast hC.1 hC.2.1 hK.1 hw.1 hw.2.1 hw.2.2 q0 3 ha rfl hin hdg (fun H1 locs1 h1 h2 h3 => kk H1 locs1 ⟨h1, h2, h3⟩)
theorem wk_last {n : Nat} {f : Nat → Int64} {i : Int32} {x : Int64} (hC : CallFix p m c cc nL s args Ts own) (hK : KK dC dI cy s) (hw : Wd dC dI A H0 H locs ws) (q0 : Nat) (ha : ws[q0]? = some (a, .inl (cy 1, n, .inr (.inl f)))) (hin : vp_in i n) (hdg : decode cc pc = .ok (.lastore, 1))
    (kk : ∀ (H1 : Heap) (locs1 : List Loc), Wd dC dI A H0 H1 locs1 (ws.set q0 (a, .inl (cy 1, n, .inr (.inl (vp_updL f i.toNatClampNeg x))))) → W p l e R s m args below meth c H1 locs1 cells slots Q (F0 m (pc + 1) ls rest)) : W p l e R s m args below meth c H locs cells slots Q (F0 m pc ls (.long x :: .int i :: .ref a :: rest)) :=
  va_last hC.1 hC.2.1 hK.1 hw.1 hw.2.1 hw.2.2 q0 1 ha rfl hin hdg (fun H1 locs1 h1 h2 h3 => kk H1 locs1 ⟨h1, h2, h3⟩)
theorem wk_vret {S : Type} {post : S → Prop} {w1 : S → va_W} (hC : CallFix p m c cc nL s args Ts own) (hr : meth.sig.returnType = none) (hlocks : meth.locks = false) (hK : KK dC dI cy s) (u : S) (hp : post u) (is : List Nat) (hnd : va_nd is = true) (hs : is.map (fun i => ws[i]?) = (w1 u).map some) (hw : Wd dC dI A s.heap H locs ws) (hdg : decode cc pc = .ok (.return_, 1)) : W p l e R s m args below meth c H locs cells slots (MQ below (va_Qv post (fun u => wpost dC dI cy A (w1 u)) A) args s cells slots A) (F0 m pc ls []) := by
  obtain ⟨hP, hD, hS⟩ := hw
  exact W.vret hC.1 hC.2.1 hr (fun t ht hW => ⟨⟨u, rfl, hp, by rw [ht]; exact hP.sub is (wk_fm hs), KK.moved hW.alike hK, hD.sub is hnd hs⟩, hS.F ht⟩) hS.2.2 hdg (hlocks := hlocks)
theorem wk_iret {S : Type} {post : Int32 → S → Prop} {w1 : S → va_W} {v : Int32} (hC : CallFix p m c cc nL s args Ts own) (hr : meth.sig.returnType = some .int) (hlocks : meth.locks = false) (hK : KK dC dI cy s) (u : S) (hp : post v u) (is : List Nat) (hnd : va_nd is = true) (hs : is.map (fun i => ws[i]?) = (w1 u).map some) (hw : Wd dC dI A s.heap H locs ws) (hdg : decode cc pc = .ok (.ireturn, 1)) : W p l e R s m args below meth c H locs cells slots (MQ below (va_Qi post (fun u => wpost dC dI cy A (w1 u)) A) args s cells slots A) (F0 m pc ls [.int v]) := by
  obtain ⟨hP, hD, hS⟩ := hw
  exact W.iret hC.1 hC.2.1 hr (fun t ht hW => ⟨⟨v, u, rfl, hp, by rw [ht]; exact hP.sub is (wk_fm hs), KK.moved hW.alike hK, hD.sub is hnd hs⟩, hS.F ht⟩) hS.2.2 hdg (hlocks := hlocks)
theorem wk_zret {S : Type} {post : Int32 → S → Prop} {w1 : S → va_W} {v : Int32} {ty : FieldType} (hC : CallFix p m c cc nL s args Ts own) (hr : meth.sig.returnType = some ty) (hn : narrow ty (.int v) = .int v) (hlocks : meth.locks = false) (hK : KK dC dI cy s) (u : S) (hp : post v u) (is : List Nat) (hnd : va_nd is = true) (hs : is.map (fun i => ws[i]?) = (w1 u).map some) (hw : Wd dC dI A s.heap H locs ws) (hdg : decode cc pc = .ok (.ireturn, 1)) : W p l e R s m args below meth c H locs cells slots (MQ below (va_Qi post (fun u => wpost dC dI cy A (w1 u)) A) args s cells slots A) (F0 m pc ls [.int v]) := by
  obtain ⟨hP, hD, hS⟩ := hw
  exact W.zret hC.1 hC.2.1 hr hn (fun t ht hW => ⟨⟨v, u, rfl, hp, by rw [ht]; exact hP.sub is (wk_fm hs), KK.moved hW.alike hK, hD.sub is hnd hs⟩, hS.F ht⟩) hS.2.2 hdg (hlocks := hlocks)
theorem wk_lret {S : Type} {post : Int64 → S → Prop} {w1 : S → va_W} {v : Int64} (hC : CallFix p m c cc nL s args Ts own) (hr : meth.sig.returnType = some .long) (hlocks : meth.locks = false) (hK : KK dC dI cy s) (u : S) (hp : post v u) (is : List Nat) (hnd : va_nd is = true) (hs : is.map (fun i => ws[i]?) = (w1 u).map some) (hw : Wd dC dI A s.heap H locs ws) (hdg : decode cc pc = .ok (.lreturn, 1)) : W p l e R s m args below meth c H locs cells slots (MQ below (va_Ql post (fun u => wpost dC dI cy A (w1 u)) A) args s cells slots A) (F0 m pc ls [.long v]) := by
  obtain ⟨hP, hD, hS⟩ := hw
  exact W.lret hC.1 hC.2.1 hr (fun t ht hW => ⟨⟨v, u, rfl, hp, by rw [ht]; exact hP.sub is (wk_fm hs), KK.moved hW.alike hK, hD.sub is hnd hs⟩, hS.F ht⟩) hS.2.2 hdg (hlocks := hlocks)
end
