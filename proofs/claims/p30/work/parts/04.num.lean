/-! ints by their values: what branches and sums tell, for omega -/
theorem wk_ltF {x y : Int32} (h : ¬ x < y) : y.toInt ≤ x.toInt := Int.not_lt.mp (fun q => h (wk_lt.mpr q))
theorem wk_leF {x y : Int32} (h : ¬ x ≤ y) : y.toInt < x.toInt := Int.not_le.mp (fun q => h (wk_le.mpr q))
theorem wk_eqF {x y : Int32} (h : ¬ x = y) : x.toInt ≠ y.toInt := fun q => h (wk_eq.mpr q)
theorem wk_i32 (x : Int32) : -2147483648 ≤ x.toInt ∧ x.toInt ≤ 2147483647 := ⟨Int32.le_toInt x, Int.le_of_lt_add_one (Int32.toInt_lt x)⟩
theorem wk_add {x y : Int32} (h1 : -2147483648 ≤ x.toInt + y.toInt) (h2 : x.toInt + y.toInt ≤ 2147483647) : (x + y).toInt = x.toInt + y.toInt := by
  rw [Int32.toInt_add]
  exact Int.bmod_eq_of_le (by omega) (by omega)
theorem wk_sub {x y : Int32} (h1 : -2147483648 ≤ x.toInt - y.toInt) (h2 : x.toInt - y.toInt ≤ 2147483647) : (x - y).toInt = x.toInt - y.toInt := by
  rw [Int32.toInt_sub]
  exact Int.bmod_eq_of_le (by omega) (by omega)
theorem wk_mul {x y : Int32} (h1 : -2147483648 ≤ x.toInt * y.toInt) (h2 : x.toInt * y.toInt ≤ 2147483647) : (x * y).toInt = x.toInt * y.toInt := by
  rw [Int32.toInt_mul]
  exact Int.bmod_eq_of_le (by omega) (by omega)
theorem wk_i2l (x : Int32) : x.toInt64.toInt = x.toInt := Int32.toInt_toInt64 x
theorem wk_ltl {x y : Int64} : x < y ↔ x.toInt < y.toInt := Int64.lt_iff_toInt_lt
theorem wk_lel {x y : Int64} : x ≤ y ↔ x.toInt ≤ y.toInt := Int64.le_iff_toInt_le
theorem wk_eql {x y : Int64} : x = y ↔ x.toInt = y.toInt := Int64.toInt_inj.symm
theorem wk_cltT {x y : Int64} (h : lg_cmp x y < 0) : x.toInt < y.toInt := wk_ltl.mp ((lg_cmp_lt x y).mp h)
theorem wk_cltF {x y : Int64} (h : ¬ lg_cmp x y < 0) : y.toInt ≤ x.toInt := Int.not_lt.mp (fun q => h ((lg_cmp_lt x y).mpr (wk_ltl.mpr q)))
theorem wk_cgtT {x y : Int64} (h : 0 < lg_cmp x y) : y.toInt < x.toInt := wk_ltl.mp ((lg_cmp_gt x y).mp h)
theorem wk_cgtF {x y : Int64} (h : ¬ 0 < lg_cmp x y) : x.toInt ≤ y.toInt := Int.not_lt.mp (fun q => h ((lg_cmp_gt x y).mpr (wk_ltl.mpr q)))
theorem wk_cltI {x y : Int64} (h : x.toInt < y.toInt) : lg_cmp x y < 0 := (lg_cmp_lt x y).mpr (wk_ltl.mpr h)
theorem wk_cltN {x y : Int64} (h : y.toInt ≤ x.toInt) : ¬ lg_cmp x y < 0 := fun q => absurd (wk_cltT q) (Int.not_lt.mpr h)
theorem wk_cgtI {x y : Int64} (h : y.toInt < x.toInt) : 0 < lg_cmp x y := (lg_cmp_gt x y).mpr (wk_ltl.mpr h)
theorem wk_cgtN {x y : Int64} (h : x.toInt ≤ y.toInt) : ¬ 0 < lg_cmp x y := fun q => absurd (wk_cgtT q) (Int.not_lt.mpr h)
section
variable {p : Program} {l : Launch} {e : Env} {R : Room} {s : State} {m : MethodId} {args : Array Value} {below : List Frame} {meth : Method} {c : Code} {H H0 : Heap} {locs : List Loc} {cells slots : Nat} {Q : State → Prop} {cc : ByteArray} {pc nL : Nat} {ls : Array Slot} {rest : List Value} {dC : Nat → ClassId} {dI : Nat → Nat → Nat} {cy : Nat → ClassId} {A : Nat → Prop} {a : Nat} {ws : va_W} {Ts : List Cond} {own : String}
theorem wk_copyi {index : Nat} {a0 n0 n1 : Nat} {f g : Nat → Int32} {sp dp n : Int32} (hC : CallFix p m c cc nL s args Ts own) (hK : KK dC dI cy s) (hw : Wd dC dI A H0 H locs ws) (hnL : ls.size = nL) (hlink : Cond.methodLink own index arraycopyName ∈ Ts) (hnat : Cond.native arraycopyName ∈ Ts) (hstat : Cond.static arraycopyName ∈ Ts) (hini : Cond.initialized "java/lang/System" ∈ Ts) (q0 q1 : Nat) (ha0 : ws[q0]? = some (a0, .inl (cy 0, n0, .inl f))) (ha1 : ws[q1]? = some (a, .inl (cy 0, n1, .inl g))) (h1 : ¬ sp < 0) (h2 : ¬ dp < 0) (h3 : ¬ n < 0) (h4 : sp.toNatClampNeg + n.toNatClampNeg ≤ n0) (h5 : dp.toNatClampNeg + n.toNatClampNeg ≤ n1) (hframes : 1 ≤ R.frames) (hlocals : (rest.map fun v => v.category).sum + (nativeFrameWords "java/lang/System" "arraycopy" 5 + 11) ≤ R.locals) (hdg : decode cc pc = .ok (.invokestatic index, 3))
    (kk : ∀ (H1 : Heap) (locs1 : List Loc), Wd dC dI A H0 H1 locs1 (ws.set q1 (a, .inl (cy 0, n1, .inl (va_cpy f g sp.toNatClampNeg dp.toNatClampNeg n.toNatClampNeg)))) → W p l e R s m args below meth c H1 locs1 cells slots Q (F0 m (pc + 3) ls rest)) : W p l e R s m args below meth c H locs cells slots Q (F0 m pc ls (.int n :: .int dp :: .ref a :: .int sp :: .ref a0 :: rest)) :=
  va_copyi hC.1 hC.2.1 (hC.2.2.1.trans hnL.symm) hC.2.2.2.1 (hC.2.2.2.2 _ hlink) (hC.2.2.2.2 _ hnat) (hC.2.2.2.2 _ hstat) (hC.2.2.2.2 _ hini) hK.1 hw.1 hw.2.1 hw.2.2 q0 q1 0 0 (ty := .int) ha0 ha1 rfl rfl rfl h1 h2 h3 h4 h5 (fun _ _ => rfl) hframes hlocals hdg (fun H1 locs1 g1 g2 g3 => kk H1 locs1 ⟨g1, g2, g3⟩)
end
