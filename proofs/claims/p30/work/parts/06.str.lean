/-! the String constants, by their places in this list -/
def sxL : List Nat := [26, 4, 18, 2, 3, 53, 3, 2]
def sxB : List (List Int32) := [[99, 111, 114, 110, 101, 114, 115, 32, 115, 116, 114, 101, 101, 116, 32, 115, 97, 105, 110, 116, 32, 108, 105, 102, 116, 32], [46, 62, 60, 61], [103, 111, 32, 97, 115, 105, 100, 101, 32, 97, 115, 107, 32, 119, 97, 105, 116, 32], [105, 102], [110, 111, 116], [104, 111, 117, 114, 32, 100, 97, 121, 32, 100, 97, 116, 101, 32, 99, 111, 114, 110, 101, 114, 32, 103, 111, 97, 108, 32, 115, 104, 117, 116, 32, 108, 101, 102, 116, 32, 115, 116, 101, 112, 115, 32, 97, 115, 107, 101, 100, 32, 99, 97, 109, 101, 32], [97, 110, 100], [111, 114]]
def sxc (k : Nat) (x : Int32) : Int32 := (sxB.getD k []).getD x.toNatClampNeg 0
def SE (adK adV : Nat → Nat) (A : Nat → Prop) (U : State) (H : Heap) : Prop := vk_S 8 sxL sxB adK adV A U H ∧ va_Z "java/lang/String" "COMPACT_STRINGS" "Z" (.int 1) A U H ∧ va_Zq "jdk/internal/util/Preconditions" "SIOOBE_FORMATTER" "Ljava/util/function/BiFunction;" A U H
theorem SE.moved {adK adV : Nat → Nat} {A : Nat → Prop} {u U : State} {H : Heap} (hvm : u.vm.Alike U.vm) (h : SE adK adV A u H) : SE adK adV A U H := ⟨h.1.moved hvm, h.2.1.moved hvm, h.2.2.moved hvm⟩
theorem SE.kept {adK adV : Nat → Nat} {A : Nat → Prop} {U : State} {H H1 : Heap} (h : SE adK adV A U H) (hq : ∀ a : Nat, a < H.size → ¬ A a → H1[a]? = H[a]?) : SE adK adV A U H1 := ⟨h.1.kept hq, h.2.1.kept hq, h.2.2.kept hq⟩
theorem SE.narrow {adK adV : Nat → Nat} {A B : Nat → Prop} {U : State} {H : Heap} (h : SE adK adV A U H) (hAB : ∀ q, B q → A q) : SE adK adV B U H := ⟨h.1.narrow hAB, h.2.1.narrow hAB, h.2.2.narrow hAB⟩
def SR (adK : Nat → Nat) (U : State) : Prop := vk_R RX7 60 "corners street saint lift " (adK 0) U ∧ vk_R RX7 120 ".><=" (adK 1) U ∧ vk_R RX3 33 "go aside ask wait " (adK 2) U ∧ vk_R RX3 57 "if" (adK 3) U ∧ vk_R RX3 82 "not" (adK 4) U ∧ vk_R RX3 124 "hour day date corner goal shut left steps asked came " (adK 5) U ∧ vk_R RX3 72 "and" (adK 6) U ∧ vk_R RX3 77 "or" (adK 7) U
theorem SR.warm {adK : Nat → Nat} {s U : State} (hW : s.WarmedH U.vm) (h : SR adK s) : SR adK U := ⟨vk_R.warm hW h.1, vk_R.warm hW h.2.1, vk_R.warm hW h.2.2.1, vk_R.warm hW h.2.2.2.1, vk_R.warm hW h.2.2.2.2.1, vk_R.warm hW h.2.2.2.2.2.1, vk_R.warm hW h.2.2.2.2.2.2.1, vk_R.warm hW h.2.2.2.2.2.2.2⟩
theorem SR.same {adK : Nat → Nat} {u U : State} (hv : U.vm = u.vm) (h : SR adK u) : SR adK U := ⟨vk_R.same hv h.1, vk_R.same hv h.2.1, vk_R.same hv h.2.2.1, vk_R.same hv h.2.2.2.1, vk_R.same hv h.2.2.2.2.1, vk_R.same hv h.2.2.2.2.2.1, vk_R.same hv h.2.2.2.2.2.2.1, vk_R.same hv h.2.2.2.2.2.2.2⟩
def wpreS (adK adV : Nat → Nat) (dC : Nat → ClassId) (dI : Nat → Nat → Nat) (cy : Nat → ClassId) (sz : Nat) (ws : va_W) (U : State) : Prop := wpre dC dI cy sz ws U ∧ SE adK adV (va_A ws sz) U U.heap ∧ SR adK U
theorem wpreS_blind {av : List Value} {adK adV : Nat → Nat} {dC : Nat → ClassId} {dI : Nat → Nat → Nat} {cy : Nat → ClassId} {sz : Nat} {ws : va_W} : FrameBlind (va_Pc av (wpreS adK adV dC dI cy sz ws)) := fun a U g mk q => by
  obtain ⟨q0, ⟨q1, qP, qK, qD⟩, qE, qR⟩ := q
  exact ⟨q0, ⟨q1, qP, KK.moved (u := U) (U := U.calling g mk a) (Vm.Alike.refl U.vm) qK, qD⟩, SE.moved (u := U) (U := U.calling g mk a) (Vm.Alike.refl U.vm) qE, SR.same (u := U) (U := U.calling g mk a) rfl qR⟩
section
variable {p : Program} {l : Launch} {e : Env} {R : Room} {s : State} {m : MethodId} {args : Array Value} {below : List Frame} {meth : Method} {c : Code} {H : Heap} {locs : List Loc} {cells slots : Nat} {Q : State → Prop} {cc : ByteArray} {pc nL : Nat} {ls : Array Slot} {rest : List Value} {dC : Nat → ClassId} {dI : Nat → Nat → Nat} {cy : Nat → ClassId} {A : Nat → Prop} {a : Nat} {ws : va_W} {Ts : List Cond} {own : String} {adK adV : Nat → Nat}
theorem wk_pcS {wc : va_W} {av : List Value} (hK : KK dC dI cy s) (hP : va_P (dC, dI) vwCl wc H) (hD : va_D A wc) (hE : SE adK adV A s s.heap) (hR : SR adK s) (hS : va_S A s.heap H locs) (hF : ∀ q, va_A wc H.size q → A q) : ∀ U : State, U.heap = H → s.WarmedH U.vm → va_Pc av (wpreS adK adV dC dI cy H.size wc) av.toArray U :=
  fun U hU hW => ⟨rfl, (wk_pc (av := av) hK hP hD U hU hW).2, by rw [hU]; exact ((hE.moved hW.alike).kept hS.2.1).narrow hF, hR.warm hW⟩
theorem wk_ViS {y : MethodName} {bytes : ByteArray} {maxL mc ms n index : Nat} {ret : Option FieldType} {wl : List Cond} {rm : Room} {As : List Value} {S : Type} {post : Int32 → S → Prop} {w1 : S → va_W} {wc : va_W} {st0 : List Value} {C : String} {T : u_T} {N ci : Nat} {fs : List Value} {b : Nat} (hC : CallFix p m c cc nL s args Ts own) (hK : KK dC dI cy s) (hw : Wd dC dI A s.heap H locs ws) (hA : ∀ q, s.heap.size ≤ q → A q) (hE : SE adK adV A s s.heap) (hSR : SR adK s) (isC isR : List Nat) (hisC : isC.map (fun i => ws[i]?) = wc.map some) (hisR : isR.all (fun i => decide (i < ws.length)) = true) (hn1 : va_nd isC = true) (hn2 : va_nd isR = true) (hdis : ∀ i ∈ isR, i ∉ isC) (hM : Met l y wl rm (va_Pc (.ref b :: As) (wpreS adK adV dC dI cy H.size wc)) (va_Qi post (fun u => wpost dC dI cy (va_A wc H.size) (w1 u)) (va_A wc H.size)) mc ms (va_A wc H.size)) (cw : CallW R s args own C index y bytes maxL ret wl rm mc ms n) (hci : vwCl[ci]? = some (C, T, N)) (qr : Nat) (hrc : wc[qr]? = some (b, .inr (ci, fs))) (hlen : As.length = n) (hsize : ls.size = nL) (hstack : st0 = As.reverse ++ .ref b :: rest) (hW : (rest.map fun v => v.category).sum ≤ 8) (hdg : decode cc pc = .ok (.invokevirtual index, 3)) (k n' : Nat) (hkn : cells + mc = k ∧ slots + ms = n') (hf : k ≤ R.cells ∧ n' ≤ R.slots)
    (kk : ∀ (r : Int32) (u : S) (H1 : Heap) (locs1 : List Loc), post r u → Wd dC dI A s.heap H1 locs1 (isR.filterMap (fun i => ws[i]?) ++ w1 u) → W p l e R s m args below meth c H1 locs1 k n' Q (F0 m (pc + 3) ls (.int r :: rest))) : W p l e R s m args below meth c H locs cells slots Q (F0 m pc ls st0) := by
  obtain ⟨rfl, rfl⟩ := hkn
  obtain ⟨hP, hD, hS⟩ := hw
  have hPc := hP.sub isC (wk_fm hisC)
  have hDc := hD.sub isC hn1 hisC
  have hFc := va_free hD hS hA isC hisC
  refine va_calli (va_runV (As := As) (rest := rest) hC hM cw ⟨wpreS_blind, va_recv hK.1 hPc hci hrc, wk_pcS hK hPc hDc hE hSR hS hFc⟩ rfl hlen hsize hstack (lv_room hW) hdg hf) hS (fun q _ h => hFc q h) hFc (fun r u t H1 locs ht hvm hw hB hz1 hk1 hS => ?_)
  obtain ⟨hP1, hK1, hD1⟩ := hB
  rw [ht] at hP1
  obtain ⟨hP', hD'⟩ := va_join hP hD isC isR hisC (wk_rm hisR) hn2 hdis hk1 hFc hP1 hD1
  exact kk r u H1 locs hw ⟨hP', hD', hS⟩
theorem wk_VlS {y : MethodName} {bytes : ByteArray} {maxL mc ms n index : Nat} {ret : Option FieldType} {wl : List Cond} {rm : Room} {As : List Value} {S : Type} {post : Int64 → S → Prop} {w1 : S → va_W} {wc : va_W} {st0 : List Value} {C : String} {T : u_T} {N ci : Nat} {fs : List Value} {b : Nat} (hC : CallFix p m c cc nL s args Ts own) (hK : KK dC dI cy s) (hw : Wd dC dI A s.heap H locs ws) (hA : ∀ q, s.heap.size ≤ q → A q) (hE : SE adK adV A s s.heap) (hSR : SR adK s) (isC isR : List Nat) (hisC : isC.map (fun i => ws[i]?) = wc.map some) (hisR : isR.all (fun i => decide (i < ws.length)) = true) (hn1 : va_nd isC = true) (hn2 : va_nd isR = true) (hdis : ∀ i ∈ isR, i ∉ isC) (hM : Met l y wl rm (va_Pc (.ref b :: As) (wpreS adK adV dC dI cy H.size wc)) (va_Ql post (fun u => wpost dC dI cy (va_A wc H.size) (w1 u)) (va_A wc H.size)) mc ms (va_A wc H.size)) (cw : CallW R s args own C index y bytes maxL ret wl rm mc ms n) (hci : vwCl[ci]? = some (C, T, N)) (qr : Nat) (hrc : wc[qr]? = some (b, .inr (ci, fs))) (hlen : As.length = n) (hsize : ls.size = nL) (hstack : st0 = As.reverse ++ .ref b :: rest) (hW : (rest.map fun v => v.category).sum ≤ 8) (hdg : decode cc pc = .ok (.invokevirtual index, 3)) (k n' : Nat) (hkn : cells + mc = k ∧ slots + ms = n') (hf : k ≤ R.cells ∧ n' ≤ R.slots)
    (kk : ∀ (r : Int64) (u : S) (H1 : Heap) (locs1 : List Loc), post r u → Wd dC dI A s.heap H1 locs1 (isR.filterMap (fun i => ws[i]?) ++ w1 u) → W p l e R s m args below meth c H1 locs1 k n' Q (F0 m (pc + 3) ls (.long r :: rest))) : W p l e R s m args below meth c H locs cells slots Q (F0 m pc ls st0) := by
  obtain ⟨rfl, rfl⟩ := hkn
  obtain ⟨hP, hD, hS⟩ := hw
  have hPc := hP.sub isC (wk_fm hisC)
  have hDc := hD.sub isC hn1 hisC
  have hFc := va_free hD hS hA isC hisC
  refine va_calll (va_runV (As := As) (rest := rest) hC hM cw ⟨wpreS_blind, va_recv hK.1 hPc hci hrc, wk_pcS hK hPc hDc hE hSR hS hFc⟩ rfl hlen hsize hstack (lv_room hW) hdg hf) hS (fun q _ h => hFc q h) hFc (fun r u t H1 locs ht hvm hw hB hz1 hk1 hS => ?_)
  obtain ⟨hP1, hK1, hD1⟩ := hB
  rw [ht] at hP1
  obtain ⟨hP', hD'⟩ := va_join hP hD isC isR hisC (wk_rm hisR) hn2 hdis hk1 hFc hP1 hD1
  exact kk r u H1 locs hw ⟨hP', hD', hS⟩
theorem wk_VvS {y : MethodName} {bytes : ByteArray} {maxL mc ms n index : Nat} {ret : Option FieldType} {wl : List Cond} {rm : Room} {As : List Value} {S : Type} {post : S → Prop} {w1 : S → va_W} {wc : va_W} {st0 : List Value} {C : String} {T : u_T} {N ci : Nat} {fs : List Value} {b : Nat} (hC : CallFix p m c cc nL s args Ts own) (hK : KK dC dI cy s) (hw : Wd dC dI A s.heap H locs ws) (hA : ∀ q, s.heap.size ≤ q → A q) (hE : SE adK adV A s s.heap) (hSR : SR adK s) (isC isR : List Nat) (hisC : isC.map (fun i => ws[i]?) = wc.map some) (hisR : isR.all (fun i => decide (i < ws.length)) = true) (hn1 : va_nd isC = true) (hn2 : va_nd isR = true) (hdis : ∀ i ∈ isR, i ∉ isC) (hM : Met l y wl rm (va_Pc (.ref b :: As) (wpreS adK adV dC dI cy H.size wc)) (va_Qv post (fun u => wpost dC dI cy (va_A wc H.size) (w1 u)) (va_A wc H.size)) mc ms (va_A wc H.size)) (cw : CallW R s args own C index y bytes maxL ret wl rm mc ms n) (hci : vwCl[ci]? = some (C, T, N)) (qr : Nat) (hrc : wc[qr]? = some (b, .inr (ci, fs))) (hlen : As.length = n) (hsize : ls.size = nL) (hstack : st0 = As.reverse ++ .ref b :: rest) (hW : (rest.map fun v => v.category).sum ≤ 8) (hdg : decode cc pc = .ok (.invokevirtual index, 3)) (k n' : Nat) (hkn : cells + mc = k ∧ slots + ms = n') (hf : k ≤ R.cells ∧ n' ≤ R.slots)
    (kk : ∀ (u : S) (H1 : Heap) (locs1 : List Loc), post u → Wd dC dI A s.heap H1 locs1 (isR.filterMap (fun i => ws[i]?) ++ w1 u) → W p l e R s m args below meth c H1 locs1 k n' Q (F0 m (pc + 3) ls (rest))) : W p l e R s m args below meth c H locs cells slots Q (F0 m pc ls st0) := by
  obtain ⟨rfl, rfl⟩ := hkn
  obtain ⟨hP, hD, hS⟩ := hw
  have hPc := hP.sub isC (wk_fm hisC)
  have hDc := hD.sub isC hn1 hisC
  have hFc := va_free hD hS hA isC hisC
  refine va_callv (va_runV (As := As) (rest := rest) hC hM cw ⟨wpreS_blind, va_recv hK.1 hPc hci hrc, wk_pcS hK hPc hDc hE hSR hS hFc⟩ rfl hlen hsize hstack (lv_room hW) hdg hf) hS (fun q _ h => hFc q h) hFc (fun u t H1 locs ht hvm hw hB hz1 hk1 hS => ?_)
  obtain ⟨hP1, hK1, hD1⟩ := hB
  rw [ht] at hP1
  obtain ⟨hP', hD'⟩ := va_join hP hD isC isR hisC (wk_rm hisR) hn2 hdis hk1 hFc hP1 hD1
  exact kk u H1 locs hw ⟨hP', hD', hS⟩
theorem wk_SiS {y : MethodName} {bytes : ByteArray} {maxL mc ms n index : Nat} {ret : Option FieldType} {wl : List Cond} {rm : Room} {As : List Value} {S : Type} {post : Int32 → S → Prop} {w1 : S → va_W} {wc : va_W} {st0 : List Value} (hC : CallFix p m c cc nL s args Ts own) (hK : KK dC dI cy s) (hw : Wd dC dI A s.heap H locs ws) (hA : ∀ q, s.heap.size ≤ q → A q) (hE : SE adK adV A s s.heap) (hSR : SR adK s) (isC isR : List Nat) (hisC : isC.map (fun i => ws[i]?) = wc.map some) (hisR : isR.all (fun i => decide (i < ws.length)) = true) (hn1 : va_nd isC = true) (hn2 : va_nd isR = true) (hdis : ∀ i ∈ isR, i ∉ isC) (hM : Met l y wl rm (va_Pc As (wpreS adK adV dC dI cy H.size wc)) (va_Qi post (fun u => wpost dC dI cy (va_A wc H.size) (w1 u)) (va_A wc H.size)) mc ms (va_A wc H.size)) (cw : CallB R s args own index y bytes maxL ret wl rm mc ms n ∧ (Cond.static y).before args s = true) (hlen : As.length = n) (hsize : ls.size = nL) (hstack : st0 = As.reverse ++ rest) (hW : (rest.map fun v => v.category).sum ≤ 8) (hdg : decode cc pc = .ok (.invokestatic index, 3)) (k n' : Nat) (hkn : cells + mc = k ∧ slots + ms = n') (hf : k ≤ R.cells ∧ n' ≤ R.slots)
    (kk : ∀ (r : Int32) (u : S) (H1 : Heap) (locs1 : List Loc), post r u → Wd dC dI A s.heap H1 locs1 (isR.filterMap (fun i => ws[i]?) ++ w1 u) → W p l e R s m args below meth c H1 locs1 k n' Q (F0 m (pc + 3) ls (.int r :: rest))) : W p l e R s m args below meth c H locs cells slots Q (F0 m pc ls st0) := by
  obtain ⟨rfl, rfl⟩ := hkn
  obtain ⟨hP, hD, hS⟩ := hw
  have hPc := hP.sub isC (wk_fm hisC)
  have hDc := hD.sub isC hn1 hisC
  have hFc := va_free hD hS hA isC hisC
  refine va_calli (va_runS (As := As) (rest := rest) hC hM cw ⟨wpreS_blind, wk_pcS hK hPc hDc hE hSR hS hFc⟩ rfl hlen hsize hstack (lv_room hW) hdg hf) hS (fun q _ h => hFc q h) hFc (fun r u t H1 locs ht hvm hw hB hz1 hk1 hS => ?_)
  obtain ⟨hP1, hK1, hD1⟩ := hB
  rw [ht] at hP1
  obtain ⟨hP', hD'⟩ := va_join hP hD isC isR hisC (wk_rm hisR) hn2 hdis hk1 hFc hP1 hD1
  exact kk r u H1 locs hw ⟨hP', hD', hS⟩
theorem wk_SlS {y : MethodName} {bytes : ByteArray} {maxL mc ms n index : Nat} {ret : Option FieldType} {wl : List Cond} {rm : Room} {As : List Value} {S : Type} {post : Int64 → S → Prop} {w1 : S → va_W} {wc : va_W} {st0 : List Value} (hC : CallFix p m c cc nL s args Ts own) (hK : KK dC dI cy s) (hw : Wd dC dI A s.heap H locs ws) (hA : ∀ q, s.heap.size ≤ q → A q) (hE : SE adK adV A s s.heap) (hSR : SR adK s) (isC isR : List Nat) (hisC : isC.map (fun i => ws[i]?) = wc.map some) (hisR : isR.all (fun i => decide (i < ws.length)) = true) (hn1 : va_nd isC = true) (hn2 : va_nd isR = true) (hdis : ∀ i ∈ isR, i ∉ isC) (hM : Met l y wl rm (va_Pc As (wpreS adK adV dC dI cy H.size wc)) (va_Ql post (fun u => wpost dC dI cy (va_A wc H.size) (w1 u)) (va_A wc H.size)) mc ms (va_A wc H.size)) (cw : CallB R s args own index y bytes maxL ret wl rm mc ms n ∧ (Cond.static y).before args s = true) (hlen : As.length = n) (hsize : ls.size = nL) (hstack : st0 = As.reverse ++ rest) (hW : (rest.map fun v => v.category).sum ≤ 8) (hdg : decode cc pc = .ok (.invokestatic index, 3)) (k n' : Nat) (hkn : cells + mc = k ∧ slots + ms = n') (hf : k ≤ R.cells ∧ n' ≤ R.slots)
    (kk : ∀ (r : Int64) (u : S) (H1 : Heap) (locs1 : List Loc), post r u → Wd dC dI A s.heap H1 locs1 (isR.filterMap (fun i => ws[i]?) ++ w1 u) → W p l e R s m args below meth c H1 locs1 k n' Q (F0 m (pc + 3) ls (.long r :: rest))) : W p l e R s m args below meth c H locs cells slots Q (F0 m pc ls st0) := by
  obtain ⟨rfl, rfl⟩ := hkn
  obtain ⟨hP, hD, hS⟩ := hw
  have hPc := hP.sub isC (wk_fm hisC)
  have hDc := hD.sub isC hn1 hisC
  have hFc := va_free hD hS hA isC hisC
  refine va_calll (va_runS (As := As) (rest := rest) hC hM cw ⟨wpreS_blind, wk_pcS hK hPc hDc hE hSR hS hFc⟩ rfl hlen hsize hstack (lv_room hW) hdg hf) hS (fun q _ h => hFc q h) hFc (fun r u t H1 locs ht hvm hw hB hz1 hk1 hS => ?_)
  obtain ⟨hP1, hK1, hD1⟩ := hB
  rw [ht] at hP1
  obtain ⟨hP', hD'⟩ := va_join hP hD isC isR hisC (wk_rm hisR) hn2 hdis hk1 hFc hP1 hD1
  exact kk r u H1 locs hw ⟨hP', hD', hS⟩
theorem wk_SvS {y : MethodName} {bytes : ByteArray} {maxL mc ms n index : Nat} {ret : Option FieldType} {wl : List Cond} {rm : Room} {As : List Value} {S : Type} {post : S → Prop} {w1 : S → va_W} {wc : va_W} {st0 : List Value} (hC : CallFix p m c cc nL s args Ts own) (hK : KK dC dI cy s) (hw : Wd dC dI A s.heap H locs ws) (hA : ∀ q, s.heap.size ≤ q → A q) (hE : SE adK adV A s s.heap) (hSR : SR adK s) (isC isR : List Nat) (hisC : isC.map (fun i => ws[i]?) = wc.map some) (hisR : isR.all (fun i => decide (i < ws.length)) = true) (hn1 : va_nd isC = true) (hn2 : va_nd isR = true) (hdis : ∀ i ∈ isR, i ∉ isC) (hM : Met l y wl rm (va_Pc As (wpreS adK adV dC dI cy H.size wc)) (va_Qv post (fun u => wpost dC dI cy (va_A wc H.size) (w1 u)) (va_A wc H.size)) mc ms (va_A wc H.size)) (cw : CallB R s args own index y bytes maxL ret wl rm mc ms n ∧ (Cond.static y).before args s = true) (hlen : As.length = n) (hsize : ls.size = nL) (hstack : st0 = As.reverse ++ rest) (hW : (rest.map fun v => v.category).sum ≤ 8) (hdg : decode cc pc = .ok (.invokestatic index, 3)) (k n' : Nat) (hkn : cells + mc = k ∧ slots + ms = n') (hf : k ≤ R.cells ∧ n' ≤ R.slots)
    (kk : ∀ (u : S) (H1 : Heap) (locs1 : List Loc), post u → Wd dC dI A s.heap H1 locs1 (isR.filterMap (fun i => ws[i]?) ++ w1 u) → W p l e R s m args below meth c H1 locs1 k n' Q (F0 m (pc + 3) ls (rest))) : W p l e R s m args below meth c H locs cells slots Q (F0 m pc ls st0) := by
  obtain ⟨rfl, rfl⟩ := hkn
  obtain ⟨hP, hD, hS⟩ := hw
  have hPc := hP.sub isC (wk_fm hisC)
  have hDc := hD.sub isC hn1 hisC
  have hFc := va_free hD hS hA isC hisC
  refine va_callv (va_runS (As := As) (rest := rest) hC hM cw ⟨wpreS_blind, wk_pcS hK hPc hDc hE hSR hS hFc⟩ rfl hlen hsize hstack (lv_room hW) hdg hf) hS (fun q _ h => hFc q h) hFc (fun u t H1 locs ht hvm hw hB hz1 hk1 hS => ?_)
  obtain ⟨hP1, hK1, hD1⟩ := hB
  rw [ht] at hP1
  obtain ⟨hP', hD'⟩ := va_join hP hD isC isR hisC (wk_rm hisR) hn2 hdis hk1 hFc hP1 hD1
  exact kk u H1 locs hw ⟨hP', hD', hS⟩
theorem wk_IvS {y : MethodName} {bytes : ByteArray} {maxL mc ms n index : Nat} {wl : List Cond} {rm : Room} {As : List Value} {S : Type} {post : S → Prop} {w1 : S → va_W} {wc : va_W} {st0 : List Value} {b : Nat} (hC : CallFix p m c cc nL s args Ts own) (hK : KK dC dI cy s) (hw : Wd dC dI A s.heap H locs ws) (hA : ∀ q, s.heap.size ≤ q → A q) (hE : SE adK adV A s s.heap) (hSR : SR adK s) (isC isR : List Nat) (hisC : isC.map (fun i => ws[i]?) = wc.map some) (hisR : isR.all (fun i => decide (i < ws.length)) = true) (hn1 : va_nd isC = true) (hn2 : va_nd isR = true) (hdis : ∀ i ∈ isR, i ∉ isC) (hM : Met l y wl rm (va_Pc (.ref b :: As) (wpreS adK adV dC dI cy H.size wc)) (va_Qv post (fun u => wpost dC dI cy (va_A wc H.size) (w1 u)) (va_A wc H.size)) mc ms (va_A wc H.size)) (cw : CallB R s args own index y bytes maxL none wl rm mc ms n ∧ y.name = "<init>" ∧ (Cond.instanceMethod y).before args s = true) (hlen : As.length = n) (hsize : ls.size = nL) (hstack : st0 = As.reverse ++ .ref b :: rest) (hW : (rest.map fun v => v.category).sum ≤ 8) (hdg : decode cc pc = .ok (.invokespecial index, 3)) (k n' : Nat) (hkn : cells + mc = k ∧ slots + ms = n') (hf : k ≤ R.cells ∧ n' ≤ R.slots)
    (kk : ∀ (u : S) (H1 : Heap) (locs1 : List Loc), post u → Wd dC dI A s.heap H1 locs1 (isR.filterMap (fun i => ws[i]?) ++ w1 u) → W p l e R s m args below meth c H1 locs1 k n' Q (F0 m (pc + 3) ls (rest))) : W p l e R s m args below meth c H locs cells slots Q (F0 m pc ls st0) := by
  obtain ⟨rfl, rfl⟩ := hkn
  obtain ⟨hP, hD, hS⟩ := hw
  have hPc := hP.sub isC (wk_fm hisC)
  have hDc := hD.sub isC hn1 hisC
  have hFc := va_free hD hS hA isC hisC
  refine va_callv (va_runI (As := As) (rest := rest) hC hM cw ⟨wpreS_blind, wk_pcS hK hPc hDc hE hSR hS hFc⟩ rfl hlen hsize hstack (lv_room hW) hdg hf) hS (fun q _ h => hFc q h) hFc (fun u t H1 locs ht hvm hw hB hz1 hk1 hS => ?_)
  obtain ⟨hP1, hK1, hD1⟩ := hB
  rw [ht] at hP1
  obtain ⟨hP', hD'⟩ := va_join hP hD isC isR hisC (wk_rm hisR) hn2 hdis hk1 hFc hP1 hD1
  exact kk u H1 locs hw ⟨hP', hD', hS⟩
theorem wk_ViT {y : MethodName} {bytes : ByteArray} {maxL mc ms n index : Nat} {ret : Option FieldType} {wl : List Cond} {rm : Room} {As : List Value} {S : Type} {post : Int32 → S → Prop} {w1 : S → va_W} {wc : va_W} {st0 : List Value} {C : String} {b : Nat} (hC : CallFix p m c cc nL s args Ts own) (hK : KK dC dI cy s) (hw : Wd dC dI A s.heap H locs ws) (hA : ∀ q, s.heap.size ≤ q → A q) (hE : SE adK adV A s s.heap) (hSR : SR adK s) (isC isR : List Nat) (hisC : isC.map (fun i => ws[i]?) = wc.map some) (hisR : isR.all (fun i => decide (i < ws.length)) = true) (hn1 : va_nd isC = true) (hn2 : va_nd isR = true) (hdis : ∀ i ∈ isR, i ∉ isC) (hM : Met l y wl rm (va_Pc (.ref b :: As) (wpreS adK adV dC dI cy H.size wc)) (va_Qi post (fun u => wpost dC dI cy (va_A wc H.size) (w1 u)) (va_A wc H.size)) mc ms (va_A wc H.size)) (cw : CallW R s args own C index y bytes maxL ret wl rm mc ms n) (j : Nat) (hj : j < 8) (hCs : C = "java/lang/String") (hbj : b = adK j) (hlen : As.length = n) (hsize : ls.size = nL) (hstack : st0 = As.reverse ++ .ref b :: rest) (hW : (rest.map fun v => v.category).sum ≤ 8) (hdg : decode cc pc = .ok (.invokevirtual index, 3)) (k n' : Nat) (hkn : cells + mc = k ∧ slots + ms = n') (hf : k ≤ R.cells ∧ n' ≤ R.slots)
    (kk : ∀ (r : Int32) (u : S) (H1 : Heap) (locs1 : List Loc), post r u → Wd dC dI A s.heap H1 locs1 (isR.filterMap (fun i => ws[i]?) ++ w1 u) → W p l e R s m args below meth c H1 locs1 k n' Q (F0 m (pc + 3) ls (.int r :: rest))) : W p l e R s m args below meth c H locs cells slots Q (F0 m pc ls st0) := by
  obtain ⟨rfl, rfl⟩ := hkn
  obtain ⟨hP, hD, hS⟩ := hw
  have hPc := hP.sub isC (wk_fm hisC)
  have hDc := hD.sub isC hn1 hisC
  have hFc := va_free hD hS hA isC hisC
  refine va_calli (va_runV (As := As) (rest := rest) hC hM cw ⟨wpreS_blind, (by subst hCs; subst hbj; exact vk_recv hE.1 hj hS), wk_pcS hK hPc hDc hE hSR hS hFc⟩ rfl hlen hsize hstack (lv_room hW) hdg hf) hS (fun q _ h => hFc q h) hFc (fun r u t H1 locs ht hvm hw hB hz1 hk1 hS => ?_)
  obtain ⟨hP1, hK1, hD1⟩ := hB
  rw [ht] at hP1
  obtain ⟨hP', hD'⟩ := va_join hP hD isC isR hisC (wk_rm hisR) hn2 hdis hk1 hFc hP1 hD1
  exact kk r u H1 locs hw ⟨hP', hD', hS⟩
theorem wk_gf {o n d ref : String} {index q : Nat} {v : Value} (hC : CallFix p m c cc nL s args Ts own) (hw : Wd dC dI A s.heap H locs ws) (hE : va_OF o n d v q A s s.heap) (hlink : Cond.fieldLink own index ref n d ∈ Ts) (hro : ref = o) (hdg : decode cc pc = .ok (.getfield index, 3))
    (kk : W p l e R s m args below meth c H locs cells slots Q (F0 m (pc + 3) ls (v :: rest))) : W p l e R s m args below meth c H locs cells slots Q (F0 m pc ls (.ref q :: rest)) := by
  subst hro
  exact vk_getf hC.1 hC.2.1 hE hw.2.2 hC.2.2.2.1 (hC.2.2.2.2 _ hlink) (fun _ h => h) hdg kk
theorem wk_gs {C n d ref : String} {v : Value} {index : Nat} (hC : CallFix p m c cc nL s args Ts own) (hw : Wd dC dI A s.heap H locs ws) (hZ : va_Z C n d v A s s.heap) (hlink : Cond.fieldLink own index ref n d ∈ Ts) (hro : ref = C) (hdg : decode cc pc = .ok (.getstatic index, 3))
    (kk : W p l e R s m args below meth c H locs cells slots Q (F0 m (pc + 3) ls (v :: rest))) : W p l e R s m args below meth c H locs cells slots Q (F0 m pc ls rest) := by
  subst hro
  exact va_gets hC.1 hC.2.1 hZ hw.2.2 hC.2.2.2.1 (hC.2.2.2.2 _ hlink) (fun _ h => h) hdg kk
end
theorem sx_shr0 (x : Int32) : x >>> (0 : Int32) = x := by simp
theorem sx_len {k : Nat} (hk : k < 8) : (Int32.ofNat (sxL.getD k 0)).toInt = ((sxL.getD k 0 : Nat) : Int) := by
  have h : ∀ k : Nat, k < 8 → (Int32.ofNat (sxL.getD k 0)).toInt = ((sxL.getD k 0 : Nat) : Int) := by decide
  exact h k hk
theorem sx_all : ∀ k : Nat, k < 8 → ∀ j : Nat, j < 60 → ((((sxB.getD k []).getD j 0) &&& (255 : Int32)).toUInt32 % 65536).toInt32 = (sxB.getD k []).getD j 0 ∧ narrow .char (.int ((sxB.getD k []).getD j 0)) = .int ((sxB.getD k []).getD j 0) := by decide +kernel
theorem sx_small {k : Nat} (hk : k < 8) {x : Int32} (h0 : 0 ≤ x.toInt) (h1 : x.toInt < (sxL.getD k 0 : Nat)) : x.toNatClampNeg < 60 := by
  have h : ∀ k : Nat, k < 8 → sxL.getD k 0 < 60 := by decide
  have := h k hk
  show x.toInt.toNat < 60
  omega
theorem sx_byte {k : Nat} (hk : k < 8) {x : Int32} (h0 : 0 ≤ x.toInt) (h1 : x.toInt < (sxL.getD k 0 : Nat)) : ((sxc k x &&& (255 : Int32)).toUInt32 % 65536).toInt32 = sxc k x := (sx_all k hk _ (sx_small hk h0 h1)).1
theorem sx_nar {k : Nat} (hk : k < 8) {x : Int32} (h0 : 0 ≤ x.toInt) (h1 : x.toInt < (sxL.getD k 0 : Nat)) : narrow .char (.int (sxc k x)) = .int (sxc k x) := (sx_all k hk _ (sx_small hk h0 h1)).2
set_option maxHeartbeats 4000000 in
set_option maxRecDepth 100000 in
theorem s_coder (l : Launch) (adK adV : Nat → Nat) (dC : Nat → ClassId) (dI : Nat → Nat → Nat) (cy : Nat → ClassId) (k : Nat) (hk : k < 8) (sz : Nat) : Met l yJ0_coder_7d493 wsJ0_coder_7d493 ({ frames := 1, cells := 0, slots := 0, locals := 12 }) (va_Pc [.ref (adK k)] (wpreS adK adV dC dI cy sz [])) (va_Qi (fun (r : Int32) (_ : ((Nat → Nat) × (Nat → Nat → Int32))) => r = 0) (fun u => wpost dC dI cy (va_A [] sz) []) (va_A [] sz)) 0 0 (va_A [] sz) := by
  refine Met.ofW (cc := cJ0_coder_7d493) (maxL := 1) (ret := (some .byte)) (by decide) rfl ?_
  intro p e s m args below meth c s₁ B hml hv
  obtain ⟨rfl, ⟨hsz, hP, hK, hD0⟩, hE, hSR⟩ := hv
  have hx := B.exec
  have hb := B.bytes
  have hr := B.returns
  have hlocks := B.notSynchronized
  have hC : CallFix p m c cJ0_coder_7d493 1 s _ wsJ0_coder_7d493 RJ0 := ⟨hx, hb, hml, findClass_of_methodNamed B.named, atoms_spec (ws := wsJ0_coder_7d493) B.pre⟩
  subst hsz
  have hD := hD0.self (sz := s.heap.size)
  generalize hAe : va_A [] s.heap.size = A at hD hE ⊢
  have hA : ∀ q : Nat, s.heap.size ≤ q → A q := fun q h => by rw [← hAe]; exact Or.inr h
  have hw : Wd dC dI A s.heap s.heap [] [] := ⟨hP, hD, va_S.rf⟩
  have hl := lv_entry ([.ref (adK k)]) (n := 1) (Nat.le_of_ble_eq_true rfl)
  rw [lg_entry_eq]
  generalize (lg_sl ([.ref (adK k)]) ++ List.replicate (1 - (lg_sl ([.ref (adK k)])).length) Slot.unset).toArray = ls at hl ⊢
  have hl : lv_has ls 1 [(0, .ref (adK k))] := hl
  refine wk_gs hC hw hE.2.1 (List.mem_of_getElem? (i := 1) rfl) rfl dJ0_coder_7d493_0 ?_
  refine lv_if_eq (tgt := 13) hx hb dJ0_coder_7d493_3 (by decide) (fun c => absurd c (by decide)) (fun _ => ?_)
  refine lv_aload_n hx hb dJ0_coder_7d493_6 rfl (lv_at hl 0 rfl) ?_
  refine wk_gf hC hw (hE.1.1 k hk).2.1 (List.mem_of_getElem? (i := 2) rfl) rfl dJ0_coder_7d493_7 ?_
  refine lv_goto (tgt := 14) hx hb dJ0_coder_7d493_10 (by decide) ?_
  exact wk_zret (v := 0) hC hr rfl hlocks hK ((fun _ => 0), (fun _ _ => 0)) rfl [] rfl rfl hw dJ0_coder_7d493_14

set_option maxHeartbeats 4000000 in
set_option maxRecDepth 100000 in
theorem s_isLatin1 (l : Launch) (adK adV : Nat → Nat) (dC : Nat → ClassId) (dI : Nat → Nat → Nat) (cy : Nat → ClassId) (k : Nat) (hk : k < 8) (sz : Nat) : Met l yJ0_isLatin1_aae02 wsJ0_isLatin1_aae02 ({ frames := 1, cells := 0, slots := 0, locals := 12 }) (va_Pc [.ref (adK k)] (wpreS adK adV dC dI cy sz [])) (va_Qi (fun (r : Int32) (_ : ((Nat → Nat) × (Nat → Nat → Int32))) => r = 1) (fun u => wpost dC dI cy (va_A [] sz) []) (va_A [] sz)) 0 0 (va_A [] sz) := by
  refine Met.ofW (cc := cJ0_isLatin1_aae02) (maxL := 1) (ret := (some .boolean)) (by decide) rfl ?_
  intro p e s m args below meth c s₁ B hml hv
  obtain ⟨rfl, ⟨hsz, hP, hK, hD0⟩, hE, hSR⟩ := hv
  have hx := B.exec
  have hb := B.bytes
  have hr := B.returns
  have hlocks := B.notSynchronized
  have hC : CallFix p m c cJ0_isLatin1_aae02 1 s _ wsJ0_isLatin1_aae02 RJ0 := ⟨hx, hb, hml, findClass_of_methodNamed B.named, atoms_spec (ws := wsJ0_isLatin1_aae02) B.pre⟩
  subst hsz
  have hD := hD0.self (sz := s.heap.size)
  generalize hAe : va_A [] s.heap.size = A at hD hE ⊢
  have hA : ∀ q : Nat, s.heap.size ≤ q → A q := fun q h => by rw [← hAe]; exact Or.inr h
  have hw : Wd dC dI A s.heap s.heap [] [] := ⟨hP, hD, va_S.rf⟩
  have hl := lv_entry ([.ref (adK k)]) (n := 1) (Nat.le_of_ble_eq_true rfl)
  rw [lg_entry_eq]
  generalize (lg_sl ([.ref (adK k)]) ++ List.replicate (1 - (lg_sl ([.ref (adK k)])).length) Slot.unset).toArray = ls at hl ⊢
  have hl : lv_has ls 1 [(0, .ref (adK k))] := hl
  refine wk_gs hC hw hE.2.1 (List.mem_of_getElem? (i := 1) rfl) rfl dJ0_isLatin1_aae02_0 ?_
  refine lv_if_eq (tgt := 17) hx hb dJ0_isLatin1_aae02_3 (by decide) (fun c => absurd c (by decide)) (fun _ => ?_)
  refine lv_aload_n hx hb dJ0_isLatin1_aae02_6 rfl (lv_at hl 0 rfl) ?_
  refine wk_gf hC hw (hE.1.1 k hk).2.1 (List.mem_of_getElem? (i := 2) rfl) rfl dJ0_isLatin1_aae02_7 ?_
  refine lv_if_ne (tgt := 17) hx hb dJ0_isLatin1_aae02_10 (by decide) (fun c => absurd rfl c) (fun _ => ?_)
  refine lv_iconst (v := 1) hx hb dJ0_isLatin1_aae02_13 (by decide) ?_
  refine lv_goto (tgt := 18) hx hb dJ0_isLatin1_aae02_14 (by decide) ?_
  exact wk_zret (v := 1) hC hr rfl hlocks hK ((fun _ => 0), (fun _ _ => 0)) rfl [] rfl rfl hw dJ0_isLatin1_aae02_18

set_option maxHeartbeats 4000000 in
set_option maxRecDepth 100000 in
theorem s_chk3n (l : Launch) (adK adV : Nat → Nat) (dC : Nat → ClassId) (dI : Nat → Nat → Nat) (cy : Nat → ClassId) (x n : Int32) (h0 : 0 ≤ x.toInt) (h1 : x.toInt < n.toInt) (sz : Nat) : Met l yJ3_checkIndex_8e157 wsJ3_checkIndex_8e157 ({ frames := 1, cells := 0, slots := 0, locals := 12 }) (va_Pc [.int x, .int n, .null] (wpreS adK adV dC dI cy sz [])) (va_Qi (fun (_ : Int32) (_ : ((Nat → Nat) × (Nat → Nat → Int32))) => True) (fun u => wpost dC dI cy (va_A [] sz) []) (va_A [] sz)) 0 0 (va_A [] sz) := by
  refine Met.ofW (cc := cJ3_checkIndex_8e157) (maxL := 3) (ret := (some .int)) (by decide) rfl ?_
  intro p e s m args below meth c s₁ B hml hv
  obtain ⟨rfl, ⟨hsz, hP, hK, hD0⟩, hE, hSR⟩ := hv
  have hx := B.exec
  have hb := B.bytes
  have hr := B.returns
  have hlocks := B.notSynchronized
  have hC : CallFix p m c cJ3_checkIndex_8e157 3 s _ wsJ3_checkIndex_8e157 RJ3 := ⟨hx, hb, hml, findClass_of_methodNamed B.named, atoms_spec (ws := wsJ3_checkIndex_8e157) B.pre⟩
  subst hsz
  have hD := hD0.self (sz := s.heap.size)
  generalize hAe : va_A [] s.heap.size = A at hD hE ⊢
  have hA : ∀ q : Nat, s.heap.size ≤ q → A q := fun q h => by rw [← hAe]; exact Or.inr h
  have hw : Wd dC dI A s.heap s.heap [] [] := ⟨hP, hD, va_S.rf⟩
  have hl := lv_entry ([.int x, .int n, .null]) (n := 3) (Nat.le_of_ble_eq_true rfl)
  rw [lg_entry_eq]
  generalize (lg_sl ([.int x, .int n, .null]) ++ List.replicate (3 - (lg_sl ([.int x, .int n, .null])).length) Slot.unset).toArray = ls at hl ⊢
  have hl : lv_has ls 3 [(0, .int x), (1, .int n), (2, .null)] := hl
  refine lv_iload_n hx hb dJ3_checkIndex_8e157_0 rfl (lv_at hl 0 rfl) ?_
  refine lv_if_lt (tgt := 9) hx hb dJ3_checkIndex_8e157_1 (by decide) (fun c => absurd (show x.toInt < 0 from wk_lt.mp c) (by omega)) (fun _ => ?_)
  refine lv_iload_n hx hb dJ3_checkIndex_8e157_4 rfl (lv_at hl 0 rfl) ?_
  refine lv_iload_n hx hb dJ3_checkIndex_8e157_5 rfl (lv_at hl 1 rfl) ?_
  refine lv_icmp_lt (tgt := 16) hx hb dJ3_checkIndex_8e157_6 (by decide) (fun _ => ?_) (fun c => absurd (wk_lt.mpr h1) c)
  refine lv_iload_n hx hb dJ3_checkIndex_8e157_16 rfl (lv_at hl 0 rfl) ?_
  exact wk_iret (v := x) hC hr hlocks hK ((fun _ => 0), (fun _ _ => 0)) trivial [] rfl rfl hw dJ3_checkIndex_8e157_17

set_option maxHeartbeats 4000000 in
set_option maxRecDepth 100000 in
theorem s_chk3r (l : Launch) (adK adV : Nat → Nat) (dC : Nat → ClassId) (dI : Nat → Nat → Nat) (cy : Nat → ClassId) (t : Nat) (x n : Int32) (h0 : 0 ≤ x.toInt) (h1 : x.toInt < n.toInt) (sz : Nat) : Met l yJ3_checkIndex_8e157 wsJ3_checkIndex_8e157 ({ frames := 1, cells := 0, slots := 0, locals := 12 }) (va_Pc [.int x, .int n, .ref t] (wpreS adK adV dC dI cy sz [])) (va_Qi (fun (_ : Int32) (_ : ((Nat → Nat) × (Nat → Nat → Int32))) => True) (fun u => wpost dC dI cy (va_A [] sz) []) (va_A [] sz)) 0 0 (va_A [] sz) := by
  refine Met.ofW (cc := cJ3_checkIndex_8e157) (maxL := 3) (ret := (some .int)) (by decide) rfl ?_
  intro p e s m args below meth c s₁ B hml hv
  obtain ⟨rfl, ⟨hsz, hP, hK, hD0⟩, hE, hSR⟩ := hv
  have hx := B.exec
  have hb := B.bytes
  have hr := B.returns
  have hlocks := B.notSynchronized
  have hC : CallFix p m c cJ3_checkIndex_8e157 3 s _ wsJ3_checkIndex_8e157 RJ3 := ⟨hx, hb, hml, findClass_of_methodNamed B.named, atoms_spec (ws := wsJ3_checkIndex_8e157) B.pre⟩
  subst hsz
  have hD := hD0.self (sz := s.heap.size)
  generalize hAe : va_A [] s.heap.size = A at hD hE ⊢
  have hA : ∀ q : Nat, s.heap.size ≤ q → A q := fun q h => by rw [← hAe]; exact Or.inr h
  have hw : Wd dC dI A s.heap s.heap [] [] := ⟨hP, hD, va_S.rf⟩
  have hl := lv_entry ([.int x, .int n, .ref t]) (n := 3) (Nat.le_of_ble_eq_true rfl)
  rw [lg_entry_eq]
  generalize (lg_sl ([.int x, .int n, .ref t]) ++ List.replicate (3 - (lg_sl ([.int x, .int n, .ref t])).length) Slot.unset).toArray = ls at hl ⊢
  have hl : lv_has ls 3 [(0, .int x), (1, .int n), (2, .ref t)] := hl
  refine lv_iload_n hx hb dJ3_checkIndex_8e157_0 rfl (lv_at hl 0 rfl) ?_
  refine lv_if_lt (tgt := 9) hx hb dJ3_checkIndex_8e157_1 (by decide) (fun c => absurd (show x.toInt < 0 from wk_lt.mp c) (by omega)) (fun _ => ?_)
  refine lv_iload_n hx hb dJ3_checkIndex_8e157_4 rfl (lv_at hl 0 rfl) ?_
  refine lv_iload_n hx hb dJ3_checkIndex_8e157_5 rfl (lv_at hl 1 rfl) ?_
  refine lv_icmp_lt (tgt := 16) hx hb dJ3_checkIndex_8e157_6 (by decide) (fun _ => ?_) (fun c => absurd (wk_lt.mpr h1) c)
  refine lv_iload_n hx hb dJ3_checkIndex_8e157_16 rfl (lv_at hl 0 rfl) ?_
  exact wk_iret (v := x) hC hr hlocks hK ((fun _ => 0), (fun _ _ => 0)) trivial [] rfl rfl hw dJ3_checkIndex_8e157_17

set_option maxHeartbeats 4000000 in
set_option maxRecDepth 100000 in
theorem s_chk0 (l : Launch) (adK adV : Nat → Nat) (dC : Nat → ClassId) (dI : Nat → Nat → Nat) (cy : Nat → ClassId) (x n : Int32) (h0 : 0 ≤ x.toInt) (h1 : x.toInt < n.toInt) (sz : Nat) : Met l yJ0_checkIndex_df160 wsJ0_checkIndex_df160 ({ frames := 2, cells := 0, slots := 0, locals := 40 }) (va_Pc [.int x, .int n] (wpreS adK adV dC dI cy sz [])) (va_Qv (fun (_ : ((Nat → Nat) × (Nat → Nat → Int32))) => True) (fun u => wpost dC dI cy (va_A [] sz) []) (va_A [] sz)) 0 0 (va_A [] sz) := by
  refine Met.ofW (cc := cJ0_checkIndex_df160) (maxL := 2) (ret := none) (by decide) rfl ?_
  intro p e s m args below meth c s₁ B hml hv
  obtain ⟨rfl, ⟨hsz, hP, hK, hD0⟩, hE, hSR⟩ := hv
  have hx := B.exec
  have hb := B.bytes
  have hr := B.returns
  have hlocks := B.notSynchronized
  have hC : CallFix p m c cJ0_checkIndex_df160 2 s _ wsJ0_checkIndex_df160 RJ0 := ⟨hx, hb, hml, findClass_of_methodNamed B.named, atoms_spec (ws := wsJ0_checkIndex_df160) B.pre⟩
  subst hsz
  have hD := hD0.self (sz := s.heap.size)
  generalize hAe : va_A [] s.heap.size = A at hD hE ⊢
  have hA : ∀ q : Nat, s.heap.size ≤ q → A q := fun q h => by rw [← hAe]; exact Or.inr h
  have hw : Wd dC dI A s.heap s.heap [] [] := ⟨hP, hD, va_S.rf⟩
  have hl := lv_entry ([.int x, .int n]) (n := 2) (Nat.le_of_ble_eq_true rfl)
  rw [lg_entry_eq]
  generalize (lg_sl ([.int x, .int n]) ++ List.replicate (2 - (lg_sl ([.int x, .int n])).length) Slot.unset).toArray = ls at hl ⊢
  have hl : lv_has ls 2 [(0, .int x), (1, .int n)] := hl
  refine lv_iload_n hx hb dJ0_checkIndex_df160_0 rfl (lv_at hl 0 rfl) ?_
  refine lv_iload_n hx hb dJ0_checkIndex_df160_1 rfl (lv_at hl 1 rfl) ?_
  rcases hE.2.2 with hZ | ⟨t, hZ⟩
  · refine wk_gs hC hw hZ (List.mem_of_getElem? (i := 1) rfl) rfl dJ0_checkIndex_df160_2 ?_
    refine wk_SiS hC hK hw hA hE hSR [] [] rfl rfl rfl rfl (by decide) (s_chk3n l adK adV dC dI cy x n h0 h1 s.heap.size) (va_cwS 3 hC.2.2.2.2 gJ0_checkIndex_df160_J3_checkIndex_8e157 rfl rfl rfl (by decide +kernel) ⟨Nat.le_of_ble_eq_true rfl, Nat.le_of_ble_eq_true rfl⟩) rfl hl.1 rfl (Nat.le_of_ble_eq_true rfl) dJ0_checkIndex_df160_5 0 0 ⟨rfl, rfl⟩ ⟨Nat.le_of_ble_eq_true rfl, Nat.le_of_ble_eq_true rfl⟩ (fun r u H locs hp hw => ?_)
    have hw : Wd dC dI A s.heap H locs [] := hw
    refine lv_pop hx hb dJ0_checkIndex_df160_8 rfl ?_
    exact wk_vret hC hr hlocks hK ((fun _ => 0), (fun _ _ => 0)) trivial [] rfl rfl hw dJ0_checkIndex_df160_9
  · refine wk_gs hC hw hZ (List.mem_of_getElem? (i := 1) rfl) rfl dJ0_checkIndex_df160_2 ?_
    refine wk_SiS hC hK hw hA hE hSR [] [] rfl rfl rfl rfl (by decide) (s_chk3r l adK adV dC dI cy t x n h0 h1 s.heap.size) (va_cwS 3 hC.2.2.2.2 gJ0_checkIndex_df160_J3_checkIndex_8e157 rfl rfl rfl (by decide +kernel) ⟨Nat.le_of_ble_eq_true rfl, Nat.le_of_ble_eq_true rfl⟩) rfl hl.1 rfl (Nat.le_of_ble_eq_true rfl) dJ0_checkIndex_df160_5 0 0 ⟨rfl, rfl⟩ ⟨Nat.le_of_ble_eq_true rfl, Nat.le_of_ble_eq_true rfl⟩ (fun r u H locs hp hw => ?_)
    have hw : Wd dC dI A s.heap H locs [] := hw
    refine lv_pop hx hb dJ0_checkIndex_df160_8 rfl ?_
    exact wk_vret hC hr hlocks hK ((fun _ => 0), (fun _ _ => 0)) trivial [] rfl rfl hw dJ0_checkIndex_df160_9

set_option maxHeartbeats 4000000 in
set_option maxRecDepth 100000 in
theorem s_length (l : Launch) (adK adV : Nat → Nat) (dC : Nat → ClassId) (dI : Nat → Nat → Nat) (cy : Nat → ClassId) (k : Nat) (hk : k < 8) (sz : Nat) : Met l yJ0_length_8abf5 wsJ0_length_8abf5 ({ frames := 2, cells := 0, slots := 0, locals := 40 }) (va_Pc [.ref (adK k)] (wpreS adK adV dC dI cy sz [])) (va_Qi (fun (r : Int32) (_ : ((Nat → Nat) × (Nat → Nat → Int32))) => r = Int32.ofNat (sxL.getD k 0)) (fun u => wpost dC dI cy (va_A [] sz) []) (va_A [] sz)) 0 0 (va_A [] sz) := by
  refine Met.ofW (cc := cJ0_length_8abf5) (maxL := 1) (ret := (some .int)) (by decide) rfl ?_
  intro p e s m args below meth c s₁ B hml hv
  obtain ⟨rfl, ⟨hsz, hP, hK, hD0⟩, hE, hSR⟩ := hv
  have hx := B.exec
  have hb := B.bytes
  have hr := B.returns
  have hlocks := B.notSynchronized
  have hC : CallFix p m c cJ0_length_8abf5 1 s _ wsJ0_length_8abf5 RJ0 := ⟨hx, hb, hml, findClass_of_methodNamed B.named, atoms_spec (ws := wsJ0_length_8abf5) B.pre⟩
  subst hsz
  have hD := hD0.self (sz := s.heap.size)
  generalize hAe : va_A [] s.heap.size = A at hD hE ⊢
  have hA : ∀ q : Nat, s.heap.size ≤ q → A q := fun q h => by rw [← hAe]; exact Or.inr h
  have hw : Wd dC dI A s.heap s.heap [] [] := ⟨hP, hD, va_S.rf⟩
  have hl := lv_entry ([.ref (adK k)]) (n := 1) (Nat.le_of_ble_eq_true rfl)
  rw [lg_entry_eq]
  generalize (lg_sl ([.ref (adK k)]) ++ List.replicate (1 - (lg_sl ([.ref (adK k)])).length) Slot.unset).toArray = ls at hl ⊢
  have hl : lv_has ls 1 [(0, .ref (adK k))] := hl
  refine lv_aload_n hx hb dJ0_length_8abf5_0 rfl (lv_at hl 0 rfl) ?_
  refine wk_gf hC hw (hE.1.1 k hk).2.2.1 (List.mem_of_getElem? (i := 1) rfl) rfl dJ0_length_8abf5_1 ?_
  refine va_tlen hx hb (hE.1.1 k hk).2.2.2 hw.2.2 rfl dJ0_length_8abf5_4 ?_
  refine lv_aload_n hx hb dJ0_length_8abf5_5 rfl (lv_at hl 0 rfl) ?_
  refine wk_ViT hC hK hw hA hE hSR [] [] rfl rfl rfl rfl (by decide) (s_coder l adK adV dC dI cy k hk s.heap.size) (cwV 0 hC.2.2.2.2 gJ0_length_8abf5_J0_coder_7d493 rfl rfl rfl (by decide +kernel) ⟨Nat.le_of_ble_eq_true rfl, Nat.le_of_ble_eq_true rfl⟩) k hk rfl rfl rfl hl.1 rfl (Nat.le_of_ble_eq_true rfl) dJ0_length_8abf5_6 0 0 ⟨rfl, rfl⟩ ⟨Nat.le_of_ble_eq_true rfl, Nat.le_of_ble_eq_true rfl⟩ (fun r u H locs hp hw => ?_)
  have hw : Wd dC dI A s.heap H locs [] := hw
  obtain rfl : r = 0 := hp
  refine lv_ishr hx hb dJ0_length_8abf5_9 ?_
  refine lv_topi (fun z ez => ?_)
  have ez : z = Int32.ofNat (sxL.getD k 0) := ez.trans (sx_shr0 _)
  exact wk_iret (v := z) hC hr hlocks hK ((fun _ => 0), (fun _ _ => 0)) ez [] rfl rfl hw dJ0_length_8abf5_10

set_option maxHeartbeats 4000000 in
set_option maxRecDepth 100000 in
theorem s_charAt1 (l : Launch) (adK adV : Nat → Nat) (dC : Nat → ClassId) (dI : Nat → Nat → Nat) (cy : Nat → ClassId) (k : Nat) (hk : k < 8) (x : Int32) (h0 : 0 ≤ x.toInt) (h1 : x.toInt < (sxL.getD k 0 : Nat)) (sz : Nat) : Met l yJ1_charAt_3b067 wsJ1_charAt_3b067 ({ frames := 3, cells := 0, slots := 0, locals := 80 }) (va_Pc [.ref (adV k), .int x] (wpreS adK adV dC dI cy sz [])) (va_Qi (fun (r : Int32) (_ : ((Nat → Nat) × (Nat → Nat → Int32))) => r = sxc k x) (fun u => wpost dC dI cy (va_A [] sz) []) (va_A [] sz)) 0 0 (va_A [] sz) := by
  refine Met.ofW (cc := cJ1_charAt_3b067) (maxL := 2) (ret := (some .char)) (by decide) rfl ?_
  intro p e s m args below meth c s₁ B hml hv
  obtain ⟨rfl, ⟨hsz, hP, hK, hD0⟩, hE, hSR⟩ := hv
  have hx := B.exec
  have hb := B.bytes
  have hr := B.returns
  have hlocks := B.notSynchronized
  have hC : CallFix p m c cJ1_charAt_3b067 2 s _ wsJ1_charAt_3b067 RJ1 := ⟨hx, hb, hml, findClass_of_methodNamed B.named, atoms_spec (ws := wsJ1_charAt_3b067) B.pre⟩
  subst hsz
  have hD := hD0.self (sz := s.heap.size)
  generalize hAe : va_A [] s.heap.size = A at hD hE ⊢
  have hA : ∀ q : Nat, s.heap.size ≤ q → A q := fun q h => by rw [← hAe]; exact Or.inr h
  have hw : Wd dC dI A s.heap s.heap [] [] := ⟨hP, hD, va_S.rf⟩
  have hl := lv_entry ([.ref (adV k), .int x]) (n := 2) (Nat.le_of_ble_eq_true rfl)
  rw [lg_entry_eq]
  generalize (lg_sl ([.ref (adV k), .int x]) ++ List.replicate (2 - (lg_sl ([.ref (adV k), .int x])).length) Slot.unset).toArray = ls at hl ⊢
  have hl : lv_has ls 2 [(0, .ref (adV k)), (1, .int x)] := hl
  refine lv_iload_n hx hb dJ1_charAt_3b067_0 rfl (lv_at hl 1 rfl) ?_
  refine lv_aload_n hx hb dJ1_charAt_3b067_1 rfl (lv_at hl 0 rfl) ?_
  refine va_tlen hx hb (hE.1.1 k hk).2.2.2 hw.2.2 rfl dJ1_charAt_3b067_2 ?_
  have hn : x.toInt < (Int32.ofNat (sxL.getD k 0)).toInt := by rw [sx_len hk]; exact h1
  refine wk_SvS hC hK hw hA hE hSR [] [] rfl rfl rfl rfl (by decide) (s_chk0 l adK adV dC dI cy x (Int32.ofNat (sxL.getD k 0)) h0 hn s.heap.size) (va_cwS 2 hC.2.2.2.2 gJ1_charAt_3b067_J0_checkIndex_df160 rfl rfl rfl (by decide +kernel) ⟨Nat.le_of_ble_eq_true rfl, Nat.le_of_ble_eq_true rfl⟩) rfl hl.1 rfl (Nat.le_of_ble_eq_true rfl) dJ1_charAt_3b067_3 0 0 ⟨rfl, rfl⟩ ⟨Nat.le_of_ble_eq_true rfl, Nat.le_of_ble_eq_true rfl⟩ (fun u H locs hp hw => ?_)
  have hw : Wd dC dI A s.heap H locs [] := hw
  refine lv_aload_n hx hb dJ1_charAt_3b067_6 rfl (lv_at hl 0 rfl) ?_
  refine lv_iload_n hx hb dJ1_charAt_3b067_7 rfl (lv_at hl 1 rfl) ?_
  refine va_tb hx hb (hE.1.1 k hk).2.2.2 hw.2.2 (vp_in_iff.mpr ⟨h0, h1⟩) (v := .int (sxc k x)) rfl dJ1_charAt_3b067_8 ?_
  refine lv_sipush (v := 255) hx hb dJ1_charAt_3b067_9 (by decide) ?_
  refine lv_iand hx hb dJ1_charAt_3b067_12 ?_
  refine lv_topi (fun z ez => ?_)
  refine lv_i2c hx hb dJ1_charAt_3b067_13 rfl ?_
  refine lv_topi (fun y ey => ?_)
  have ey : y = sxc k x := by rw [ey, ez]; exact sx_byte hk h0 h1
  subst ey
  exact wk_zret (v := sxc k x) hC hr (sx_nar hk h0 h1) hlocks hK ((fun _ => 0), (fun _ _ => 0)) rfl [] rfl rfl hw dJ1_charAt_3b067_14

set_option maxHeartbeats 4000000 in
set_option maxRecDepth 100000 in
theorem s_charAt (l : Launch) (adK adV : Nat → Nat) (dC : Nat → ClassId) (dI : Nat → Nat → Nat) (cy : Nat → ClassId) (k : Nat) (hk : k < 8) (x : Int32) (h0 : 0 ≤ x.toInt) (h1 : x.toInt < (sxL.getD k 0 : Nat)) (sz : Nat) : Met l yJ0_charAt_5068e wsJ0_charAt_5068e ({ frames := 4, cells := 0, slots := 0, locals := 120 }) (va_Pc [.ref (adK k), .int x] (wpreS adK adV dC dI cy sz [])) (va_Qi (fun (r : Int32) (_ : ((Nat → Nat) × (Nat → Nat → Int32))) => r = sxc k x) (fun u => wpost dC dI cy (va_A [] sz) []) (va_A [] sz)) 0 0 (va_A [] sz) := by
  refine Met.ofW (cc := cJ0_charAt_5068e) (maxL := 2) (ret := (some .char)) (by decide) rfl ?_
  intro p e s m args below meth c s₁ B hml hv
  obtain ⟨rfl, ⟨hsz, hP, hK, hD0⟩, hE, hSR⟩ := hv
  have hx := B.exec
  have hb := B.bytes
  have hr := B.returns
  have hlocks := B.notSynchronized
  have hC : CallFix p m c cJ0_charAt_5068e 2 s _ wsJ0_charAt_5068e RJ0 := ⟨hx, hb, hml, findClass_of_methodNamed B.named, atoms_spec (ws := wsJ0_charAt_5068e) B.pre⟩
  subst hsz
  have hD := hD0.self (sz := s.heap.size)
  generalize hAe : va_A [] s.heap.size = A at hD hE ⊢
  have hA : ∀ q : Nat, s.heap.size ≤ q → A q := fun q h => by rw [← hAe]; exact Or.inr h
  have hw : Wd dC dI A s.heap s.heap [] [] := ⟨hP, hD, va_S.rf⟩
  have hl := lv_entry ([.ref (adK k), .int x]) (n := 2) (Nat.le_of_ble_eq_true rfl)
  rw [lg_entry_eq]
  generalize (lg_sl ([.ref (adK k), .int x]) ++ List.replicate (2 - (lg_sl ([.ref (adK k), .int x])).length) Slot.unset).toArray = ls at hl ⊢
  have hl : lv_has ls 2 [(0, .ref (adK k)), (1, .int x)] := hl
  refine lv_aload_n hx hb dJ0_charAt_5068e_0 rfl (lv_at hl 0 rfl) ?_
  refine wk_ViT hC hK hw hA hE hSR [] [] rfl rfl rfl rfl (by decide) (s_isLatin1 l adK adV dC dI cy k hk s.heap.size) (cwV 0 hC.2.2.2.2 gJ0_charAt_5068e_J0_isLatin1_aae02 rfl rfl rfl (by decide +kernel) ⟨Nat.le_of_ble_eq_true rfl, Nat.le_of_ble_eq_true rfl⟩) k hk rfl rfl rfl hl.1 rfl (Nat.le_of_ble_eq_true rfl) dJ0_charAt_5068e_1 0 0 ⟨rfl, rfl⟩ ⟨Nat.le_of_ble_eq_true rfl, Nat.le_of_ble_eq_true rfl⟩ (fun r u H locs hp hw => ?_)
  have hw : Wd dC dI A s.heap H locs [] := hw
  obtain rfl : r = 1 := hp
  refine lv_if_eq (tgt := 16) hx hb dJ0_charAt_5068e_4 (by decide) (fun c => absurd c (by decide)) (fun _ => ?_)
  refine lv_aload_n hx hb dJ0_charAt_5068e_7 rfl (lv_at hl 0 rfl) ?_
  refine wk_gf hC hw (hE.1.1 k hk).2.2.1 (List.mem_of_getElem? (i := 1) rfl) rfl dJ0_charAt_5068e_8 ?_
  refine lv_iload_n hx hb dJ0_charAt_5068e_11 rfl (lv_at hl 1 rfl) ?_
  refine wk_SiS hC hK hw hA hE hSR [] [] rfl rfl rfl rfl (by decide) (s_charAt1 l adK adV dC dI cy k hk x h0 h1 H.size) (va_cwS 2 hC.2.2.2.2 gJ0_charAt_5068e_J1_charAt_3b067 rfl rfl rfl (by decide +kernel) ⟨Nat.le_of_ble_eq_true rfl, Nat.le_of_ble_eq_true rfl⟩) rfl hl.1 rfl (Nat.le_of_ble_eq_true rfl) dJ0_charAt_5068e_12 0 0 ⟨rfl, rfl⟩ ⟨Nat.le_of_ble_eq_true rfl, Nat.le_of_ble_eq_true rfl⟩ (fun r u H locs hp hw => ?_)
  have hw : Wd dC dI A s.heap H locs [] := hw
  obtain rfl : r = sxc k x := hp
  exact wk_zret (v := sxc k x) hC hr (sx_nar hk h0 h1) hlocks hK ((fun _ => 0), (fun _ _ => 0)) rfl [] rfl rfl hw dJ0_charAt_5068e_15

