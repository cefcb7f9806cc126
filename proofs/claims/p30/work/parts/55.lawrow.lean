/-! calls of the law: the class's world stands ahead of the reference's -/
theorem lr_left {α : Type} {a b : List α} : (List.range a.length).map (fun i => (a ++ b)[i]?) = a.map some := by
  apply List.ext_getElem?
  intro i
  rw [List.getElem?_map, List.getElem?_map]
  rcases Nat.lt_or_ge i a.length with h | h
  · rw [List.getElem?_eq_getElem (by rw [List.length_range]; exact h), List.getElem_range, List.getElem?_eq_getElem h]
    show some (a ++ b)[i]? = some (some a[i])
    rw [List.getElem?_append_left h, List.getElem?_eq_getElem h]
  · rw [List.getElem?_eq_none (by rw [List.length_range]; exact h), List.getElem?_eq_none h]; rfl
theorem lr_right {α : Type} {a b : List α} : ((List.range b.length).map (fun i => a.length + i)).map (fun i => (a ++ b)[i]?) = b.map some := by
  rw [List.map_map]
  apply List.ext_getElem?
  intro i
  rw [List.getElem?_map, List.getElem?_map]
  rcases Nat.lt_or_ge i b.length with h | h
  · rw [List.getElem?_eq_getElem (by rw [List.length_range]; exact h), List.getElem_range, List.getElem?_eq_getElem h]
    show some (a ++ b)[a.length + i]? = some (some b[i])
    rw [List.getElem?_append_right (by omega), show a.length + i - a.length = i by omega, List.getElem?_eq_getElem h]
  · rw [List.getElem?_eq_none (by rw [List.length_range]; exact h), List.getElem?_eq_none h]; rfl
theorem lr_nd {n m : Nat} : va_nd ((List.range m).map (fun i => n + i)) = true := tk_nd_aux _ (List.pairwise_map.mpr (List.Pairwise.imp (fun h e => h (by omega)) (List.nodup_range (n := m))))
theorem Wd_swap {dC : Nat → ClassId} {dI : Nat → Nat → Nat} {A : Nat → Prop} {H0 H : Heap} {locs : List Loc} {a b : va_W} (h : Wd dC dI A H0 H locs (a ++ b)) : Wd dC dI A H0 H locs (b ++ a) := by
  have e : ((List.range b.length).map (fun i => a.length + i) ++ List.range a.length).map (fun i => (a ++ b)[i]?) = (b ++ a).map some := by
    rw [List.map_append, lr_right, lr_left, List.map_append]
  refine ⟨h.1.sub _ (wk_fm e), h.2.1.sub _ (tk_nd_aux _ (List.pairwise_append.mpr ⟨List.pairwise_map.mpr (List.Pairwise.imp (fun h e => h (by omega)) List.nodup_range), List.nodup_range, fun x hx y hy => ?_⟩)) e, h.2.2⟩
  obtain ⟨i, -, rfl⟩ := List.mem_map.mp hx
  have := List.mem_range.mp hy
  omega
section
variable {p : Program} {l : Launch} {e : Env} {R : Room} {s : State} {m : MethodId} {args : Array Value} {below : List Frame} {meth : Method} {c : Code} {H : Heap} {locs : List Loc} {cells slots : Nat} {Q : State → Prop} {cc : ByteArray} {pc nL : Nat} {ls : Array Slot} {rest : List Value} {dC : Nat → ClassId} {dI : Nat → Nat → Nat} {cy : Nat → ClassId} {A : Nat → Prop} {Ts : List Cond} {own : String} {adK adV : Nat → Nat} {wc wr : va_W}
/-- a call whose world is the first part -/
theorem lr_call {y : MethodName} {bytes : ByteArray} {maxL n index : Nat} {ret : Option FieldType} {wl : List Cond} {rm : Room} {As : List Value} {post : Int32 → va_W → Prop} {st0 : List Value} {C : String} {T : u_T} {N ci : Nat} {fs : List Value} {b : Nat} (hC : CallFix p m c cc nL s args Ts own) (hK : KK dC dI cy s) (hw : Wd dC dI A s.heap H locs (wc ++ wr)) (hA : ∀ q, s.heap.size ≤ q → A q) (hE : SE adK adV A s s.heap) (hSR : SR adK s) (hM : Met l y wl rm (va_Pc (.ref b :: As) (wpreS adK adV dC dI cy H.size wc)) (va_Qi post (fun u : va_W => wpost dC dI cy (va_A wc H.size) u) (va_A wc H.size)) 0 0 (va_A wc H.size)) (cw : CallW R s args own C index y bytes maxL ret wl rm 0 0 n) (hci : vwCl[ci]? = some (C, T, N)) (qr : Nat) (hrc : wc[qr]? = some (b, .inr (ci, fs))) (hlen : As.length = n) (hsize : ls.size = nL) (hstack : st0 = As.reverse ++ .ref b :: rest) (hW : (rest.map fun v => v.category).sum ≤ 8) (hdg : decode cc pc = .ok (.invokevirtual index, 3)) (hc : cells ≤ R.cells) (hs : slots ≤ R.slots)
    (kk : ∀ (r : Int32) (u : va_W) (H1 : Heap) (locs1 : List Loc), post r u → Wd dC dI A s.heap H1 locs1 (wr ++ u) → W p l e R s m args below meth c H1 locs1 cells slots Q (F0 m (pc + 3) ls (.int r :: rest))) : W p l e R s m args below meth c H locs cells slots Q (F0 m pc ls st0) := by
  refine wk_ViS hC hK hw hA hE hSR (List.range wc.length) ((List.range wr.length).map (fun i => wc.length + i)) lr_left (List.all_eq_true.mpr (fun i hi => ?_)) tk_nd lr_nd (fun i hi => ?_) hM cw hci qr hrc hlen hsize hstack hW hdg cells slots ⟨rfl, rfl⟩ ⟨hc, hs⟩ (fun r u H1 locs1 hp hw1 => kk r u H1 locs1 hp ?_)
  · obtain ⟨j, hj, rfl⟩ := List.mem_map.mp hi
    have := List.mem_range.mp hj
    rw [List.length_append]
    exact decide_eq_true (by omega)
  · obtain ⟨j, hj, rfl⟩ := List.mem_map.mp hi
    intro h
    have := List.mem_range.mp h
    omega
  · rw [wk_fm lr_right] at hw1; exact hw1
end
