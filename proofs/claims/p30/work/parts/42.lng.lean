/-! longs in the store: places q + 1000 (the rows 'ky' of strangers) -/
abbrev mDivL := o64 (fun x y => x / y)
abbrev mRemL := o64 (fun x y => x - x / y * y)
def mL2I (a : Int) : Int := (Int64.ofInt a).toInt32.toInt
def sL (w : va_W) : SS := fun q k => if q < 1000 then (gi w q k).toInt else (gl w (q - 1000) k).toInt
theorem sL_I {w : va_W} {q k : Nat} (hl : q < 1000) : sL w q k = sI w q k := if_pos hl
theorem sL_at {w : va_W} {q k : Nat} {x : Int32} (hl : q < 1000) (h : gi w q k = x) : sL w q k = x.toInt := (sL_I hl).trans (congrArg Int32.toInt h)
theorem sL_atl {w : va_W} {q k : Nat} {x : Int64} (hl : q < 1000) (h : gl w q k = x) : sL w (q + 1000) k = x.toInt := by
  unfold sL; rw [if_neg (by omega), Nat.add_sub_cancel]; exact congrArg Int64.toInt h
set_option maxRecDepth 20000 in
theorem kC_lt {q κ : Nat} (h : ksC[q]? = some κ) : q < 1000 := Nat.lt_of_lt_of_le (tk_lt h) (by decide)
set_option maxRecDepth 20000 in
theorem kM_lt {q κ : Nat} (h : ksM[q]? = some κ) : q < 1000 := Nat.lt_of_lt_of_le (tk_lt h) (by decide)
theorem mL2I_e {x : Int64} {z : Int32} {a : Int} (h : z = x.toInt32) (ha : x.toInt = a) : mL2I a = z.toInt := by
  subst h; subst ha; unfold mL2I; rw [Int64.ofInt_toInt]
theorem wk_cgeT {x y : Int64} (h : 0 ≤ lg_cmp x y) : y.toInt ≤ x.toInt := Int.not_lt.mp (fun q => by
  have h1 := wk_lt.mp (wk_cltI q)
  have h2 := wk_le.mp h
  omega)
theorem wk_cgeF {x y : Int64} (h : ¬ 0 ≤ lg_cmp x y) : x.toInt < y.toInt := wk_cltT (wk_lt.mpr (wk_leF h))
theorem wk_cleT {x y : Int64} (h : lg_cmp x y ≤ 0) : x.toInt ≤ y.toInt := Int.not_lt.mp (fun q => by
  have h1 := wk_lt.mp (wk_cgtI q)
  have h2 := wk_le.mp h
  omega)
theorem wk_cleF {x y : Int64} (h : ¬ lg_cmp x y ≤ 0) : y.toInt < x.toInt := wk_cgtT (wk_lt.mpr (wk_leF h))
/-- what a place that was written is: no other number changes -/
theorem sL_put {w u : va_W} {q k : Nat} (h : F1 w u q k) : (∀ q' k' : Nat, ¬ (q' = q ∧ k' = k) → gi u q' k' = gi w q' k') ∧ ∀ q' k' : Nat, ¬ (q' = q ∧ k' = k) → gl u q' k' = gl w q' k' := by
  have n : ∀ {q' k' : Nat}, ¬ (q' = q ∧ k' = k) → q' ≠ q ∨ k' ≠ k := fun {q' k'} c => by
    by_cases e : q' = q
    · exact Or.inr (fun e2 => c ⟨e, e2⟩)
    · exact Or.inl e
  exact ⟨fun q' k' c => h.gi (n c) rfl, fun q' k' c => h.gl (n c) rfl⟩
theorem sL_int {w u : va_W} {q k : Nat} {v : Int32} {a : Int} (hl : q < 1000) (z1 : gl w q k = 0) (z2 : gl u q k = 0) (h : F1 w u q k) (hv : gi u q k = v) (ha : v.toInt = a) : upS (sL w) q k a = sL u := by
  subst ha
  obtain ⟨g1, g2⟩ := sL_put h
  funext q' k'
  unfold upS
  by_cases c : q' = q ∧ k' = k
  · rw [if_pos c, c.1, c.2]; exact (sL_at hl hv).symm
  · rw [if_neg c]; unfold sL
    by_cases g : q' < 1000
    · rw [if_pos g, if_pos g, g1 q' k' c]
    · rw [if_neg g, if_neg g]
      by_cases d : q' - 1000 = q ∧ k' = k
      · rw [d.1, d.2, z1, z2]
      · rw [g2 _ _ d]
theorem sL_lng {w u : va_W} {q k : Nat} {v : Int64} {a : Int} (hl : q < 1000) (z1 : gi w q k = 0) (z2 : gi u q k = 0) (h : F1 w u q k) (hv : gl u q k = v) (ha : v.toInt = a) : upS (sL w) (q + 1000) k a = sL u := by
  subst ha
  obtain ⟨g1, g2⟩ := sL_put h
  funext q' k'
  unfold upS
  by_cases c : q' = q + 1000 ∧ k' = k
  · rw [if_pos c, c.1, c.2]; exact (sL_atl hl hv).symm
  · rw [if_neg c]; unfold sL
    by_cases g : q' < 1000
    · rw [if_pos g, if_pos g]
      by_cases d : q' = q ∧ k' = k
      · rw [d.1, d.2, z1, z2]
      · rw [g1 _ _ d]
    · rw [if_neg g, if_neg g, g2 _ _ (fun d => c ⟨by omega, d.2⟩)]
theorem gl_z {w : va_W} {q k : Nat} {x : Int32} (h : gv w q k = .int x) : gl w q k = 0 := by unfold gl; rw [h]
theorem gi_z {w : va_W} {q k : Nat} {x : Int64} (h : gv w q k = .long x) : gi w q k = 0 := by unfold gi; rw [h]
section
variable {ks : List Nat} {ad : Nat → Nat} {cy : Nat → ClassId} {B B' s1 s1' lo hi : Int} {qr qr' q κ k o t : Nat} {w u x : va_W}
theorem gv_fld {T : Nat × Int × Int × Nat} (hT : TW ks ad cy B qr s1 x) (hq : ks[q]? = some κ) (hκ : κ < 20) (ht : (ft κ)[k]? = some T) : ∃ v : Value, gv x q k = v ∧ VO ks ad B qr q T v := by
  obtain ⟨fs, he, hlen, hf⟩ := hT.2.1 q κ hq hκ
  obtain ⟨v, hv, h⟩ := hf k _ ht
  exact ⟨v, by rw [gv_at he]; show (fs[k]?).getD .null = v; rw [hv]; rfl, h⟩
theorem z_fi (hT : TW ks ad cy B qr s1 x) (hq : ks[q]? = some κ) (hκ : κ < 20) (ht : (ft κ)[k]? = some (0, lo, hi, o)) : gl x q k = 0 := by
  obtain ⟨v, h1, h2⟩ := gv_fld hT hq hκ ht
  obtain ⟨y, rfl, -⟩ := (show ∃ y : Int32, v = .int y ∧ lo ≤ y.toInt ∧ y.toInt ≤ hi from h2)
  exact gl_z h1
theorem z_fl (hT : TW ks ad cy B qr s1 x) (hq : ks[q]? = some κ) (hκ : κ < 20) (ht : (ft κ)[k]? = some (t, lo, hi, o)) (h14 : t = 1 ∨ t = 4) : gi x q k = 0 := by
  obtain ⟨v, h1, h2⟩ := gv_fld hT hq hκ ht
  rcases h14 with rfl | rfl
  · obtain ⟨y, rfl, -⟩ := (show ∃ y : Int64, v = .long y ∧ lo ≤ y.toInt ∧ y.toInt ≤ hi from h2)
    exact gi_z h1
  · obtain ⟨y, rfl, -⟩ := (show ∃ y : Int64, v = .long y ∧ 0 ≤ y.toInt ∧ y.toInt ≤ B from h2)
    exact gi_z h1
theorem sL_upf {v : Int32} {a : Int} (h1 : TW ks ad cy B qr s1 w) (h2 : TW ks ad cy B' qr' s1' u) (hq : ks[q]? = some κ) (hl : q < 1000) (hκ : κ < 20) (ht : (ft κ)[k]? = some (0, lo, hi, o)) (h : F1 w u q k) (hv : gi u q k = v) (ha : v.toInt = a) : upS (sL w) q k a = sL u := sL_int hl (z_fi h1 hq hκ ht) (z_fi h2 hq hκ ht) h hv ha
theorem sL_upl {v : Int64} {a : Int} (h1 : TW ks ad cy B qr s1 w) (h2 : TW ks ad cy B' qr' s1' u) (hq : ks[q]? = some κ) (hl : q < 1000) (hκ : κ < 20) (ht : (ft κ)[k]? = some (t, lo, hi, o)) (h14 : t = 1 ∨ t = 4) (h : F1 w u q k) (hv : gl u q k = v) (ha : v.toInt = a) : upS (sL w) (q + 1000) k a = sL u := sL_lng hl (z_fl h1 hq hκ ht h14) (z_fl h2 hq hκ ht h14) h hv ha
theorem z_ai (hT : TW ks ad cy B qr s1 x) (hq : ks[q]? = some κ) (hk : (ak κ).1 = t) (ht : t = 0 ∨ t = 2 ∨ t = 3) : gl x q k = 0 := by
  obtain ⟨f, he, -⟩ := hT.2.2.1 q κ hq (by rw [hk]; exact ht)
  exact gl_z (x := f k) (by rw [gv_at he]; rfl)
theorem z_al (hT : TW ks ad cy B qr s1 x) (hq : ks[q]? = some κ) (hk : (ak κ).1 = 1) : gi x q k = 0 := by
  obtain ⟨f, he⟩ := hT.2.2.2.1 q κ hq hk
  exact gi_z (x := f k) (by rw [gv_at he]; rfl)
theorem sL_upa {v : Int32} {a : Int} (h1 : TW ks ad cy B qr s1 w) (h2 : TW ks ad cy B' qr' s1' u) (hq : ks[q]? = some κ) (hl : q < 1000) (hk : (ak κ).1 = t) (ht : t = 0 ∨ t = 2 ∨ t = 3) (h : F1 w u q k) (hv : gi u q k = v) (ha : v.toInt = a) : upS (sL w) q k a = sL u := sL_int hl (z_ai h1 hq hk ht) (z_ai h2 hq hk ht) h hv ha
theorem sL_upk {v : Int64} {a : Int} (h1 : TW ks ad cy B qr s1 w) (h2 : TW ks ad cy B' qr' s1' u) (hq : ks[q]? = some κ) (hl : q < 1000) (hk : (ak κ).1 = 1) (h : F1 w u q k) (hv : gl u q k = v) (ha : v.toInt = a) : upS (sL w) (q + 1000) k a = sL u := sL_lng hl (z_al h1 hq hk) (z_al h2 hq hk) h hv ha
/-- a reference written: no number changes -/
theorem sL_ref (h1 : TW ks ad cy B qr s1 w) (h2 : TW ks ad cy B' qr' s1' u) (h : F1 w u q k) (hq : ks[q]? = some κ) (hκ : κ < 20) (ht : (ft κ)[k]? = some (5, lo, hi, o)) : sL w = sL u := by
  have z : ∀ {B s1 : Int} {qr : Nat} {x : va_W}, TW ks ad cy B qr s1 x → gi x q k = 0 ∧ gl x q k = 0 := by
    intro B s1 qr x hT
    obtain ⟨v, g1, g2⟩ := gv_fld hT hq hκ ht
    unfold gi gl; rw [g1]
    rcases (show (qr = 0 ∧ v = .null) ∨ (v = .ref (ad qr) ∧ ks[qr]? = some 2) from g2) with ⟨-, rfl⟩ | ⟨rfl, -⟩ <;> exact ⟨rfl, rfl⟩
  obtain ⟨g1, g2⟩ := sL_put h
  funext q' k'
  unfold sL
  by_cases g : q' < 1000
  · rw [if_pos g, if_pos g]
    by_cases d : q' = q ∧ k' = k
    · rw [d.1, d.2, (z h1).1, (z h2).1]
    · rw [g1 _ _ d]
  · rw [if_neg g, if_neg g]
    by_cases d : q' - 1000 = q ∧ k' = k
    · rw [d.1, d.2, (z h1).2, (z h2).2]
    · rw [g2 _ _ d]
end
section
variable {p : Program} {l : Launch} {e : Env} {R : Room} {s : State} {m : MethodId} {args : Array Value} {below : List Frame} {meth : Method} {c : Code} {H H0 : Heap} {locs : List Loc} {cells slots : Nat} {Q : State → Prop} {cc : ByteArray} {pc nL : Nat} {ls : Array Slot} {rest : List Value} {dC : Nat → ClassId} {dI : Nat → Nat → Nat} {cy : Nat → ClassId} {A : Nat → Prop} {a : Nat} {ws : va_W} {Ts : List Cond} {own : String} {ks : List Nat} {ad : Nat → Nat} {B s1 : Int} {qr : Nat} {q κ k : Nat} {C : String} {T : u_T} {N index : Nat} {adK adV : Nat → Nat}
theorem tk_laldv {n : Nat} {i : Int32} (hC : CallFix p m c cc nL s args Ts own) (hK : KK dC dI cy s) (hw : Wd dC dI A H0 H locs ws) (hT : TW ks ad cy B qr s1 ws) (hq : ks[q]? = some κ) (hak : ak κ = (1, n)) (h0 : 0 ≤ i.toInt) (h1 : i.toInt < n) (hdg : decode cc pc = .ok (.laload, 1))
    (kk : ∀ x : Int64, gl ws q i.toNatClampNeg = x → W p l e R s m args below meth c H locs cells slots Q (F0 m (pc + 1) ls (.long x :: rest))) : W p l e R s m args below meth c H locs cells slots Q (F0 m pc ls (.int i :: .ref (ad q) :: rest)) := by
  obtain ⟨f, he⟩ := hT.2.2.2.1 q κ hq (by rw [hak])
  rw [hak] at he
  exact wk_lald hC hK hw q he (vp_in_iff.mpr ⟨h0, h1⟩) hdg (kk _ (by unfold gl; rw [gv_at he]; rfl))
theorem tk_lastv {n : Nat} {i : Int32} {v : Int64} (hC : CallFix p m c cc nL s args Ts own) (hK : KK dC dI cy s) (hw : Wd dC dI A H0 H locs ws) (hT : TW ks ad cy B qr s1 ws) (hq : ks[q]? = some κ) (hκ : 20 ≤ κ) (hak : ak κ = (1, n)) (h0 : 0 ≤ i.toInt) (h1 : i.toInt < n) (hdg : decode cc pc = .ok (.lastore, 1))
    (kk : ∀ (H1 : Heap) (locs1 : List Loc) (ws1 : va_W), Wd dC dI A H0 H1 locs1 ws1 → TW ks ad cy B qr s1 ws1 → F1 ws ws1 q i.toNatClampNeg → gl ws1 q i.toNatClampNeg = v → W p l e R s m args below meth c H1 locs1 cells slots Q (F0 m (pc + 1) ls rest)) : W p l e R s m args below meth c H locs cells slots Q (F0 m pc ls (.long v :: .int i :: .ref (ad q) :: rest)) := by
  obtain ⟨f, he⟩ := hT.2.2.2.1 q κ hq (by rw [hak])
  rw [hak] at he
  refine wk_last hC hK hw q he (vp_in_iff.mpr ⟨h0, h1⟩) hdg (fun H1 locs1 hw1 => kk H1 locs1 _ hw1 (hT.setl hq hκ hak he) ?_ ?_)
  · intro q' k' hn
    by_cases h3 : q' = q
    · subst h3
      rw [gv_here he, gv_at he]
      have h2 : k' ≠ i.toNatClampNeg := by rcases hn with h | h; exact absurd rfl h; exact h
      show Value.long (vp_updL f i.toNatClampNeg v k') = Value.long (f k')
      unfold vp_updL; rw [if_neg h2]
    · exact gv_set h3
  · unfold gl; rw [gv_here he]; show vp_updL f i.toNatClampNeg v i.toNatClampNeg = v; unfold vp_updL; rw [if_pos rfl]
end
def m_X0_ofWeekday (n : Nat) (a0 : Int) (σ : SS) : RR := mLet (a0 % 7) fun x1 => mLet (x1) fun x2 => mLet (4 + x2) fun x3 => mRet x3 σ
def b_X11_hasRuleOrNone_17 (n : Nat) (q0 : Nat) (σ : SS) : RR := mRet 0 σ
def m_X11_hasRuleOrNone (n : Nat) (q0 : Nat) (a1 : Int) (σ : SS) : RR := mIf (a1 < (-1)) (b_X11_hasRuleOrNone_17 n q0 σ) (mRd σ q0 12 fun x1 => mIf (x1 ≤ a1) (b_X11_hasRuleOrNone_17 n q0 σ) (mRet 1 σ))
def m_X8_drawBelow (n : Nat) (q0 : Nat) (a1 : Int) (σ : SS) : RR := mRd σ q0 7 fun x1 => mLet (x1) fun x2 => mLet (x2 * 1103515245) fun x3 => mLet (x3 + 12345) fun x4 => mLet (mAndL x4 2147483647) fun x5 => mLet (x5) fun x6 => mWr σ q0 7 x6 fun s7 => mIf (a1 ≤ 0) (mRet 0 s7) (mRd s7 q0 7 fun x8 => mLet (mShr x8 16) fun x9 => mLet (mRem x9 a1) fun x10 => mRet x10 s7)
def m_X9_setOutL (n : Nat) (q0 : Nat) (a1 : Int) (a2 : Int) (a3 : Int) (a4 : Int) (a5 : Int) (σ : SS) : RR := mWr σ q0 0 a1 fun s1 => mWr s1 q0 1 a2 fun s2 => mWr s2 q0 2 a3 fun s3 => mWr s3 q0 3 a4 fun s4 => mWr s4 (q0 + 1000) 4 a5 fun s5 => mWr s5 q0 5 0 fun s6 => mWr s6 q0 6 0 fun s7 => mWr s7 q0 7 (-1) fun s8 => mWr s8 (q0 + 1000) 8 (-1) fun s9 => mRet 0 s9
def m_X9_isAtGoal (n : Nat) (q0 : Nat) (σ : SS) : RR := mRd σ q0 0 fun x1 => mRd σ q0 1 fun x2 => mIf (¬ x1 = x2) (mRet 0 σ) (mRet 1 σ)
def m_X9_dayNow (n : Nat) (q0 : Nat) (σ : SS) : RR := mRd σ (q0 + 1000) 4 fun x1 => mLet (x1 / 24) fun x2 => mRet x2 σ
def m_X9_askedToday (n : Nat) (q0 : Nat) (σ : SS) : RR := mRd σ (q0 + 1000) 8 fun x1 => mCall (m_X9_dayNow n q0 σ) fun x2 s3 => mIf (¬ x1 = x2) (mRet 0 s3) (mRet 1 s3)
def m_X7_isOpen (n : Nat) (q0 : Nat) (a1 : Int) (a2 : Int) (a3 : Int) (a4 : Int) (σ : SS) : RR := mLet (a3 / 24) fun x1 => mCall (m_X7_openHours n q0 a1 a2 x1 a4 σ) fun x2 s3 => mLet (a3 % 24) fun x4 => mLet (x4) fun x5 => mLet (mShr x2 x5) fun x6 => mLet (mAnd x6 1) fun x7 => mIf (x7 = 0) (mRet 0 s3) (mRet 1 s3)
def b_X1_isOpenFor_56 (n : Nat) (q0 : Nat) (q1 : Nat) (σ : SS) : RR := mRet 0 σ
def m_X1_isOpenFor (n : Nat) (q0 : Nat) (q1 : Nat) (a2 : Int) (σ : SS) : RR := mRd σ q1 0 fun x1 => mCall (m_X7_sideOf n 39 a2 x1 σ) fun x2 s3 => mIf (x2 = (-1)) (b_X1_isOpenFor_56 n q0 q1 s3) (mRd s3 (q1 + 1000) 4 fun x4 => mRd s3 q0 9 fun x5 => mIf (¬ x5 = 0) (mCall (m_X7_isOpen n 39 a2 x2 x4 0 s3) fun x6 s7 => mIf (x6 = 0) (b_X1_isOpenFor_56 n q0 q1 s7) (mRet 1 s7)) (mCall (m_X7_isOpen n 39 a2 x2 x4 1 s3) fun x8 s9 => mIf (x8 = 0) (b_X1_isOpenFor_56 n q0 q1 s9) (mRet 1 s9)))
def b_X1_lookAround_24 (J : Nat → List Int → SS → RR) (n : Nat) (q0 : Nat) (q1 : Nat) (v2 : Int) (σ : SS) : RR := mRd σ q1 2 fun x1 => mRd σ q1 0 fun x2 => mRd σ q1 1 fun x3 => mCall (m_X0_streetBy n 145 x1 x2 x3 σ) fun x4 s5 => mWr s5 q0 5 x4 fun s6 => mRd s6 q0 5 fun x7 => mIf (x7 = (-1)) (mWr s6 q0 6 0 fun s8 => mRd s8 q1 0 fun x9 => mRd s8 q1 1 fun x10 => mCall (m_X0_hoursBy n 145 x1 x9 x10 s8) fun x11 s12 => mLet (mMax 0 x11) fun x13 => mWr s12 q0 8 x13 fun s14 => mWr s14 q0 7 (-1) fun s15 => J 110 [v2, 0] s15) (mRd s6 q0 5 fun x16 => mCall (m_X1_isOpenFor n q0 q1 x16 s6) fun x17 s18 => mIf (x17 = 0) (mWr s18 q0 6 0 fun s19 => mRd s19 q1 0 fun x20 => mRd s19 q1 1 fun x21 => mCall (m_X0_hoursBy n 145 x1 x20 x21 s19) fun x22 s23 => mLet (mMax 0 x22) fun x24 => mWr s23 q0 8 x24 fun s25 => mWr s25 q0 7 (-1) fun s26 => J 110 [v2, 0] s26) (mWr s18 q0 6 1 fun s27 => mRd s27 q1 0 fun x28 => mRd s27 q1 1 fun x29 => mCall (m_X0_hoursBy n 145 x1 x28 x29 s27) fun x30 s31 => mLet (mMax 0 x30) fun x32 => mWr s31 q0 8 x32 fun s33 => mWr s33 q0 7 (-1) fun s34 => J 110 [v2, 0] s34))
def b_X1_lookAround_153 (J : Nat → List Int → SS → RR) (n : Nat) (q0 : Nat) (q1 : Nat) (v2 : Int) (v4 : Int) (σ : SS) : RR := mLet (v4 + 1) fun x1 => J 110 [v2, x1] σ
def b_X1_lookAround_159 (J : Nat → List Int → SS → RR) (n : Nat) (q0 : Nat) (q1 : Nat) (σ : SS) : RR := mRet 0 σ
def b_X1_lookAround_110 (J : Nat → List Int → SS → RR) (n : Nat) (q0 : Nat) (q1 : Nat) (v2 : Int) (v4 : Int) (σ : SS) : RR := mIf (v2 = 0) (b_X1_lookAround_159 J n q0 q1 σ) (mRd σ q0 7 fun x1 => mIf (¬ x1 = (-1)) (b_X1_lookAround_159 J n q0 q1 σ) (mRd σ 39 9 fun x2 => mIf (x2 ≤ v4) (b_X1_lookAround_159 J n q0 q1 σ) (mCall (m_X1_isOpenFor n q0 q1 v4 σ) fun x3 s4 => mIf (x3 = 0) (b_X1_lookAround_153 J n q0 q1 v2 v4 s4) (mWr s4 q0 7 v4 fun s5 => b_X1_lookAround_153 J n q0 q1 v2 v4 s5))))
def j_X1_lookAround (q0 : Nat) (q1 : Nat) : Nat → Nat → List Int → SS → RR
  | 0, _, _, _ => none
  | n + 1, t, ls, σ => if t = 110 then b_X1_lookAround_110 (j_X1_lookAround q0 q1 n) n q0 q1 (ls.getD 0 0) (ls.getD 1 0) σ else none
theorem e_X1_lookAround_110 {q0 : Nat} {q1 : Nat} {n : Nat} {v2 : Int} {v4 : Int} {σ : SS} : j_X1_lookAround q0 q1 (n + 1) 110 [v2, v4] σ = b_X1_lookAround_110 (j_X1_lookAround q0 q1 n) n q0 q1 v2 v4 σ := rfl
def m_X1_lookAround (n : Nat) (q0 : Nat) (q1 : Nat) (a2 : Int) (σ : SS) : RR := mCall (m_X9_askedToday n q1 σ) fun x1 s2 => mIf (x1 = 0) (b_X1_lookAround_24 (j_X1_lookAround q0 q1 n) n q0 q1 a2 s2) (mRd s2 q0 9 fun x3 => mIf (¬ x3 = 0) (b_X1_lookAround_24 (j_X1_lookAround q0 q1 n) n q0 q1 a2 s2) (mCall (m_X9_dayNow n q1 s2) fun x4 s5 => mCall (m_X0_ofWeekday n x4 s5) fun x6 s7 => mRd s7 q1 0 fun x8 => mRd s7 q1 1 fun x9 => mCall (m_X0_streetBy n 145 x6 x8 x9 s7) fun x10 s11 => mWr s11 q0 5 x10 fun s12 => mRd s12 q0 5 fun x13 => mIf (x13 = (-1)) (mWr s12 q0 6 0 fun s14 => mRd s14 q1 0 fun x15 => mRd s14 q1 1 fun x16 => mCall (m_X0_hoursBy n 145 x6 x15 x16 s14) fun x17 s18 => mLet (mMax 0 x17) fun x19 => mWr s18 q0 8 x19 fun s20 => mWr s20 q0 7 (-1) fun s21 => (j_X1_lookAround q0 q1 n) 110 [a2, 0] s21) (mRd s12 q0 5 fun x22 => mCall (m_X1_isOpenFor n q0 q1 x22 s12) fun x23 s24 => mIf (x23 = 0) (mWr s24 q0 6 0 fun s25 => mRd s25 q1 0 fun x26 => mRd s25 q1 1 fun x27 => mCall (m_X0_hoursBy n 145 x6 x26 x27 s25) fun x28 s29 => mLet (mMax 0 x28) fun x30 => mWr s29 q0 8 x30 fun s31 => mWr s31 q0 7 (-1) fun s32 => (j_X1_lookAround q0 q1 n) 110 [a2, 0] s32) (mWr s24 q0 6 1 fun s33 => mRd s33 q1 0 fun x34 => mRd s33 q1 1 fun x35 => mCall (m_X0_hoursBy n 145 x6 x34 x35 s33) fun x36 s37 => mLet (mMax 0 x36) fun x38 => mWr s37 q0 8 x38 fun s39 => mWr s39 q0 7 (-1) fun s40 => (j_X1_lookAround q0 q1 n) 110 [a2, 0] s40))))
def m_X2_deedOf (n : Nat) (q0 : Nat) (a1 : Int) (σ : SS) : RR := mRd σ (q0 + 1) (a1 : Int).toNat fun x1 => mRet x1 σ
def b_X1_mayDo_65 (n : Nat) (q0 : Nat) (q1 : Nat) (σ : SS) : RR := mRet 0 σ
def m_X1_mayDo (n : Nat) (q0 : Nat) (q1 : Nat) (a2 : Int) (σ : SS) : RR := mIf (a2 = 0) (mRd σ q0 6 fun x5 => mRet x5 σ) (mIf (a2 = 1) (mRd σ q0 7 fun x4 => mIf (x4 = (-1)) (mRet 0 σ) (mRet 1 σ)) (mIf (a2 = 2) (mRd σ q0 9 fun x1 => mIf (¬ x1 = 0) (b_X1_mayDo_65 n q0 q1 σ) (mCall (m_X9_askedToday n q1 σ) fun x2 s3 => mIf (¬ x2 = 0) (b_X1_mayDo_65 n q0 q1 s3) (mRet 1 s3))) (mRet 1 σ)))
def m_X2_firstToken (n : Nat) (q0 : Nat) (a1 : Int) (σ : SS) : RR := mRd σ (q0 + 2) (a1 : Int).toNat fun x1 => mRet x1 σ
def m_X2_tokenAt (n : Nat) (q0 : Nat) (a1 : Int) (σ : SS) : RR := mRd σ (q0 + 3) (a1 : Int).toNat fun x1 => mRet x1 σ
def b_X1_push_29 (n : Nat) (q0 : Nat) (σ : SS) : RR := mRet 0 σ
def m_X1_push (n : Nat) (q0 : Nat) (a1 : Int) (σ : SS) : RR := mRd σ q0 4 fun x1 => mIf (64 ≤ x1) (b_X1_push_29 n q0 σ) (mRd σ q0 4 fun x2 => mWr σ 1150 (x2 : Int).toNat a1 fun s3 => mRd s3 q0 4 fun x4 => mLet (x4 + 1) fun x5 => mWr s3 q0 4 x5 fun s6 => b_X1_push_29 n q0 s6)
def m_X1_valueOf (n : Nat) (q0 : Nat) (q1 : Nat) (a2 : Int) (σ : SS) : RR := mIf (a2 = 0) (mRd σ (q1 + 1000) 4 fun x23 => mLet (x23 % 24) fun x24 => mRet x24 σ) (mIf (a2 = 1) (mCall (m_X9_dayNow n q1 σ) fun x20 s21 => mLet (x20 % 7) fun x22 => mRet x22 s21) (mIf (a2 = 2) (mRd σ q0 9 fun x16 => mIf (x16 = 0) (mCall (m_X9_dayNow n q1 σ) fun x17 s18 => mLet (x17 % 360) fun x19 => mRet x19 s18) (mRet 0 σ)) (mIf (a2 = 3) (mRd σ q1 0 fun x14 => mLet (x14) fun x15 => mRet x15 σ) (mIf (a2 = 4) (mRd σ q1 1 fun x12 => mLet (x12) fun x13 => mRet x13 σ) (mIf (a2 = 5) (mRd σ q0 6 fun x11 => mIf (x11 = 0) (mRet 1 σ) (mRet 0 σ)) (mIf (a2 = 6) (mRd σ q0 8 fun x9 => mLet (x9) fun x10 => mRet x10 σ) (mIf (a2 = 7) (mRd σ q0 9 fun x6 => mIf (x6 = 0) (mRd σ q1 5 fun x7 => mLet (x7) fun x8 => mRet x8 σ) (mRet 0 σ)) (mIf (a2 = 8) (mRd σ q1 6 fun x4 => mLet (x4) fun x5 => mRet x5 σ) (mRd σ q1 7 fun x1 => mIf (¬ x1 = (-1)) (mRd σ q1 7 fun x2 => mLet (x2) fun x3 => mRet x3 σ) (mRet 99 σ))))))))))
def b_X1_turn_31 (n : Nat) (q0 : Nat) (σ : SS) : RR := mRet 0 σ
def m_X1_turn (n : Nat) (q0 : Nat) (σ : SS) : RR := mRd σ q0 4 fun x1 => mIf (x1 ≤ 0) (b_X1_turn_31 n q0 σ) (mRd σ q0 4 fun x2 => mLet (x2 - 1) fun x3 => mRd σ q0 4 fun x4 => mLet (x4 - 1) fun x5 => mRd σ 1150 (x5 : Int).toNat fun x6 => mLet (mSubL 1 x6) fun x7 => mWr σ 1150 (x3 : Int).toNat x7 fun s8 => b_X1_turn_31 n q0 s8)
def m_X1_joined (n : Nat) (a0 : Int) (a1 : Int) (a2 : Int) (σ : SS) : RR := mIf (a0 = 10) (mLet (mAddL a1 a2) fun x7 => mRet x7 σ) (mIf (a0 = 11) (mLet (mSubL a1 a2) fun x6 => mRet x6 σ) (mIf (a0 = 12) (mLet (mMulL a1 a2) fun x5 => mRet x5 σ) (mIf (a0 = 13) (mIf (¬ a2 = 0) (mLet (mDivL a1 a2) fun x4 => mRet x4 σ) (mRet 0 σ)) (mIf (a0 = 14) (mIf (a2 ≤ a1) (mRet 0 σ) (mRet 1 σ)) (mIf (a0 = 15) (mIf (a2 < a1) (mRet 0 σ) (mRet 1 σ)) (mIf (a0 = 16) (mIf (¬ a1 = a2) (mRet 0 σ) (mRet 1 σ)) (mIf (a0 = 17) (mIf (a1 < a2) (mRet 0 σ) (mRet 1 σ)) (mIf (a0 = 18) (mIf (a1 ≤ a2) (mRet 0 σ) (mRet 1 σ)) (mIf (a0 = 19) (mLet (mOrL a1 a2) fun x3 => mRet x3 σ) (mIf (a0 = 20) (mLet (mAndL a1 a2) fun x2 => mRet x2 σ) (mLet (mOrL a1 a2) fun x1 => mRet x1 σ)))))))))))
def b_X1_join_53 (n : Nat) (q0 : Nat) (σ : SS) : RR := mRet 0 σ
def m_X1_join (n : Nat) (q0 : Nat) (a1 : Int) (σ : SS) : RR := mRd σ q0 4 fun x1 => mIf (x1 ≤ 1) (b_X1_join_53 n q0 σ) (mRd σ q0 4 fun x2 => mLet (x2 - 1) fun x3 => mWr σ q0 4 x3 fun s4 => mRd s4 q0 4 fun x5 => mLet (x5 - 1) fun x6 => mRd s4 q0 4 fun x7 => mLet (x7 - 1) fun x8 => mRd s4 1150 (x8 : Int).toNat fun x9 => mRd s4 q0 4 fun x10 => mRd s4 1150 (x10 : Int).toNat fun x11 => mCall (m_X1_joined n a1 x9 x11 s4) fun x12 s13 => mWr s13 1150 (x6 : Int).toNat x12 fun s14 => b_X1_join_53 n q0 s14)
def b_X1_holds_93 (J : Nat → List Int → SS → RR) (n : Nat) (q0 : Nat) (q1 : Nat) (q2 : Nat) (v3 : Int) (v4 : Int) (σ : SS) : RR := mLet (v4 + 1) fun x1 => J 12 [v3, x1] σ
def b_X1_holds_123 (J : Nat → List Int → SS → RR) (n : Nat) (q0 : Nat) (q1 : Nat) (q2 : Nat) (σ : SS) : RR := mRet 1 σ
def b_X1_holds_12 (J : Nat → List Int → SS → RR) (n : Nat) (q0 : Nat) (q1 : Nat) (q2 : Nat) (v3 : Int) (v4 : Int) (σ : SS) : RR := mLet (v3 + 1) fun x1 => mCall (m_X2_firstToken n q2 x1 σ) fun x2 s3 => mIf (x2 ≤ v4) (mRd s3 q0 4 fun x4 => mIf (x4 < 1) (b_X1_holds_123 J n q0 q1 q2 s3) (mRd s3 q0 4 fun x5 => mLet (x5 - 1) fun x6 => mRd s3 1150 (x6 : Int).toNat fun x7 => mIf (x7 = 0) (mRet 0 s3) (b_X1_holds_123 J n q0 q1 q2 s3))) (mCall (m_X2_tokenAt n q2 v4 s3) fun x8 s9 => mIf (x8 < 32) (mIf (10 ≤ x8) (mIf (¬ x8 = 19) (mCall (m_X1_join n q0 x8 s9) fun _ s10 => b_X1_holds_93 J n q0 q1 q2 v3 v4 s10) (mCall (m_X1_turn n q0 s9) fun _ s11 => b_X1_holds_93 J n q0 q1 q2 v3 v4 s11)) (mCall (m_X1_valueOf n q0 q1 x8 s9) fun x12 s13 => mCall (m_X1_push n q0 x12 s13) fun _ s14 => b_X1_holds_93 J n q0 q1 q2 v3 v4 s14)) (mLet (x8 - 32) fun x15 => mLet (x15) fun x16 => mCall (m_X1_push n q0 x16 s9) fun _ s17 => b_X1_holds_93 J n q0 q1 q2 v3 v4 s17))
def j_X1_holds (q0 : Nat) (q1 : Nat) (q2 : Nat) : Nat → Nat → List Int → SS → RR
  | 0, _, _, _ => none
  | n + 1, t, ls, σ => if t = 12 then b_X1_holds_12 (j_X1_holds q0 q1 q2 n) n q0 q1 q2 (ls.getD 0 0) (ls.getD 1 0) σ else none
theorem e_X1_holds_12 {q0 : Nat} {q1 : Nat} {q2 : Nat} {n : Nat} {v3 : Int} {v4 : Int} {σ : SS} : j_X1_holds q0 q1 q2 (n + 1) 12 [v3, v4] σ = b_X1_holds_12 (j_X1_holds q0 q1 q2 n) n q0 q1 q2 v3 v4 σ := rfl
def m_X1_holds (n : Nat) (q0 : Nat) (q1 : Nat) (q2 : Nat) (a3 : Int) (σ : SS) : RR := mWr σ q0 4 0 fun s1 => mCall (m_X2_firstToken n q2 a3 s1) fun x2 s3 => (j_X1_holds q0 q1 q2 n) 12 [a3, x2] s3
def b_X1_chooseDeed_40 (J : Nat → List Int → SS → RR) (n : Nat) (q0 : Nat) (q1 : Nat) (q2 : Nat) (v3 : Int) (σ : SS) : RR := mLet (v3 + 1) fun x1 => J 2 [x1] σ
def b_X1_chooseDeed_2 (J : Nat → List Int → SS → RR) (n : Nat) (q0 : Nat) (q1 : Nat) (q2 : Nat) (v3 : Int) (σ : SS) : RR := mRd σ q2 4 fun x1 => mIf (x1 ≤ v3) (mRet 3 σ) (mCall (m_X2_deedOf n q2 v3 σ) fun x2 s3 => mCall (m_X1_mayDo n q0 q1 x2 s3) fun x4 s5 => mIf (x4 = 0) (b_X1_chooseDeed_40 J n q0 q1 q2 v3 s5) (mCall (m_X1_holds n q0 q1 q2 v3 s5) fun x6 s7 => mIf (x6 = 0) (b_X1_chooseDeed_40 J n q0 q1 q2 v3 s7) (mRet x2 s7)))
def j_X1_chooseDeed (q0 : Nat) (q1 : Nat) (q2 : Nat) : Nat → Nat → List Int → SS → RR
  | 0, _, _, _ => none
  | n + 1, t, ls, σ => if t = 2 then b_X1_chooseDeed_2 (j_X1_chooseDeed q0 q1 q2 n) n q0 q1 q2 (ls.getD 0 0) σ else none
theorem e_X1_chooseDeed_2 {q0 : Nat} {q1 : Nat} {q2 : Nat} {n : Nat} {v3 : Int} {σ : SS} : j_X1_chooseDeed q0 q1 q2 (n + 1) 2 [v3] σ = b_X1_chooseDeed_2 (j_X1_chooseDeed q0 q1 q2 n) n q0 q1 q2 v3 σ := rfl
def m_X1_chooseDeed (n : Nat) (q0 : Nat) (q1 : Nat) (q2 : Nat) (σ : SS) : RR := (j_X1_chooseDeed q0 q1 q2 n) 2 [0] σ
def m_X1_follow (n : Nat) (q0 : Nat) (q1 : Nat) (a2 : Int) (σ : SS) : RR := mIf (¬ a2 = (-1)) (mRd σ q1 0 fun x1 => mCall (m_X7_sideOf n 39 a2 x1 σ) fun x2 s3 => mIf (¬ x2 = (-1)) (mRd s3 q1 0 fun x4 => mWr s3 q1 7 x4 fun s5 => mCall (m_X7_cornerAcross n 39 a2 x2 s5) fun x6 s7 => mWr s7 q1 0 x6 fun s8 => mRd s8 (q1 + 1000) 4 fun x9 => mRd s8 41 (a2 : Int).toNat fun x10 => mLet (x10) fun x11 => mLet (x9 + x11) fun x12 => mWr s8 (q1 + 1000) 4 x12 fun s13 => mRet 0 s13) (mRet 0 s3)) (mRet 0 σ)
def b_X1_takeStep_155 (n : Nat) (q0 : Nat) (q1 : Nat) (v3 : Int) (σ : SS) : RR := mRd σ q1 5 fun x1 => mLet (mAdd x1 1) fun x2 => mWr σ q1 5 x2 fun s3 => mRet v3 s3
def b_X1_takeStep_145 (n : Nat) (q0 : Nat) (q1 : Nat) (v3 : Int) (σ : SS) : RR := mRd σ (q1 + 1000) 4 fun x1 => mLet (x1 + 1) fun x2 => mWr σ (q1 + 1000) 4 x2 fun s3 => b_X1_takeStep_155 n q0 q1 v3 s3
def b_X1_takeStep_40 (n : Nat) (q0 : Nat) (q1 : Nat) (σ : SS) : RR := mCall (m_X1_lookAround n q0 q1 0 σ) fun _ s1 => mRd s1 q0 6 fun x2 => mIf (x2 = 0) (mIf (¬ (3 : Int) = 0) (mIf (¬ (3 : Int) = 1) (mIf (¬ (3 : Int) = 2) (b_X1_takeStep_145 n q0 q1 3 s1) (mCall (m_X9_dayNow n q1 s1) fun x3 s4 => mWr s4 (q1 + 1000) 8 x3 fun s5 => mRd s5 q1 6 fun x6 => mLet (mAdd x6 1) fun x7 => mWr s5 q1 6 x7 fun s8 => b_X1_takeStep_145 n q0 q1 3 s8)) (mRd s1 q0 7 fun x9 => mCall (m_X1_follow n q0 q1 x9 s1) fun _ s10 => b_X1_takeStep_155 n q0 q1 3 s10)) (mRd s1 q0 5 fun x11 => mCall (m_X1_follow n q0 q1 x11 s1) fun _ s12 => b_X1_takeStep_155 n q0 q1 3 s12)) (mIf (¬ (0 : Int) = 0) (mIf (¬ (0 : Int) = 1) (mIf (¬ (0 : Int) = 2) (b_X1_takeStep_145 n q0 q1 0 s1) (mCall (m_X9_dayNow n q1 s1) fun x13 s14 => mWr s14 (q1 + 1000) 8 x13 fun s15 => mRd s15 q1 6 fun x16 => mLet (mAdd x16 1) fun x17 => mWr s15 q1 6 x17 fun s18 => b_X1_takeStep_145 n q0 q1 0 s18)) (mRd s1 q0 7 fun x19 => mCall (m_X1_follow n q0 q1 x19 s1) fun _ s20 => b_X1_takeStep_155 n q0 q1 0 s20)) (mRd s1 q0 5 fun x21 => mCall (m_X1_follow n q0 q1 x21 s1) fun _ s22 => b_X1_takeStep_155 n q0 q1 0 s22))
def m_X1_takeStep (n : Nat) (q0 : Nat) (q1 : Nat) (σ : SS) : RR := mCall (m_X9_isAtGoal n q1 σ) fun x1 s2 => mIf (x1 = 0) (mRd s2 q1 3 fun x3 => mIf (x3 < 0) (b_X1_takeStep_40 n q0 q1 s2) (mRd s2 q1 3 fun x4 => mIf (6 ≤ x4) (b_X1_takeStep_40 n q0 q1 s2) (mRd s2 q1 3 fun x5 => mIx x5 fun j6 => mRd s2 (el 39 4 j6) 5 fun x7 => mIf (x7 = 0) (mCall (m_X1_lookAround n q0 q1 0 s2) fun _ s8 => mCall (m_X1_chooseDeed n q0 q1 (el 39 4 j6) s8) fun x9 s10 => mIf (¬ x9 = 0) (mIf (¬ x9 = 1) (mIf (¬ x9 = 2) (b_X1_takeStep_145 n q0 q1 x9 s10) (mCall (m_X9_dayNow n q1 s10) fun x11 s12 => mWr s12 (q1 + 1000) 8 x11 fun s13 => mRd s13 q1 6 fun x14 => mLet (mAdd x14 1) fun x15 => mWr s13 q1 6 x15 fun s16 => b_X1_takeStep_145 n q0 q1 x9 s16)) (mRd s10 q0 7 fun x17 => mCall (m_X1_follow n q0 q1 x17 s10) fun _ s18 => b_X1_takeStep_155 n q0 q1 x9 s18)) (mRd s10 q0 5 fun x19 => mCall (m_X1_follow n q0 q1 x19 s10) fun _ s20 => b_X1_takeStep_155 n q0 q1 x9 s20)) (mCall (m_X1_lookAround n q0 q1 1 s2) fun _ s21 => mCall (m_X1_chooseDeed n q0 q1 (el 39 4 j6) s21) fun x22 s23 => mIf (¬ x22 = 0) (mIf (¬ x22 = 1) (mIf (¬ x22 = 2) (b_X1_takeStep_145 n q0 q1 x22 s23) (mCall (m_X9_dayNow n q1 s23) fun x24 s25 => mWr s25 (q1 + 1000) 8 x24 fun s26 => mRd s26 q1 6 fun x27 => mLet (mAdd x27 1) fun x28 => mWr s26 q1 6 x28 fun s29 => b_X1_takeStep_145 n q0 q1 x22 s29)) (mRd s23 q0 7 fun x30 => mCall (m_X1_follow n q0 q1 x30 s23) fun _ s31 => b_X1_takeStep_155 n q0 q1 x22 s31)) (mRd s23 q0 5 fun x32 => mCall (m_X1_follow n q0 q1 x32 s23) fun _ s33 => b_X1_takeStep_155 n q0 q1 x22 s33))))) (mRet 4 s2)
def b_X1_takeSteps_2 (J : Nat → List Int → SS → RR) (n : Nat) (q0 : Nat) (q1 : Nat) (v2 : Int) (v3 : Int) (σ : SS) : RR := mIf (v2 ≤ v3) (mRet v2 σ) (mCall (m_X1_takeStep n q0 q1 σ) fun x1 s2 => mIf (¬ x1 = 4) (mLet (v3 + 1) fun x3 => J 2 [v2, x3] s2) (mRet v3 s2))
def j_X1_takeSteps (q0 : Nat) (q1 : Nat) : Nat → Nat → List Int → SS → RR
  | 0, _, _, _ => none
  | n + 1, t, ls, σ => if t = 2 then b_X1_takeSteps_2 (j_X1_takeSteps q0 q1 n) n q0 q1 (ls.getD 0 0) (ls.getD 1 0) σ else none
theorem e_X1_takeSteps_2 {q0 : Nat} {q1 : Nat} {n : Nat} {v2 : Int} {v3 : Int} {σ : SS} : j_X1_takeSteps q0 q1 (n + 1) 2 [v2, v3] σ = b_X1_takeSteps_2 (j_X1_takeSteps q0 q1 n) n q0 q1 v2 v3 σ := rfl
def m_X1_takeSteps (n : Nat) (q0 : Nat) (q1 : Nat) (a2 : Int) (σ : SS) : RR := (j_X1_takeSteps q0 q1 n) 2 [a2, 0] σ
def b_X8_tellStrangers_139 (J : Nat → List Int → SS → RR) (n : Nat) (q0 : Nat) (v1 : Int) (v2 : Int) (v3 : Int) (v4 : Int) (v5 : Int) (v6 : Int) (v8 : Int) (σ : SS) : RR := mLet (v8 + 1) fun x1 => J 20 [v1, v2, v3, v4, v5, v6, x1] σ
def b_X8_tellStrangers_20 (J : Nat → List Int → SS → RR) (n : Nat) (q0 : Nat) (v1 : Int) (v2 : Int) (v3 : Int) (v4 : Int) (v5 : Int) (v6 : Int) (v8 : Int) (σ : SS) : RR := mIf (v2 ≤ v8) (mIf (¬ v4 = 0) (mLet (mL2I v6) fun x1 => mRet x1 σ) (mRet v5 σ)) (mRd σ 39 8 fun x2 => mCall (m_X8_drawBelow n q0 x2 σ) fun x3 s4 => mRd s4 39 8 fun x5 => mCall (m_X8_drawBelow n q0 x5 s4) fun x6 s7 => mRd s7 38 8 fun x8 => mCall (m_X8_drawBelow n q0 x8 s7) fun x9 s10 => mCall (m_X8_drawBelow n q0 168 s10) fun x11 s12 => mLet (x11) fun x13 => mCall (m_X9_setOutL n 152 x3 x6 x9 v1 x13 s12) fun _ s14 => mCall (m_X1_takeSteps n 149 152 v3 s14) fun x15 s16 => mCall (m_X9_isAtGoal n 152 s16) fun x17 s18 => mIf (x17 = 0) (b_X8_tellStrangers_139 J n q0 v1 v2 v3 v4 v5 v6 v8 s18) (mLet (mAdd v5 1) fun x19 => mRd s18 1152 4 fun x20 => mLet (x11) fun x21 => mLet (x20 - x21) fun x22 => mLet (mAddL v6 x22) fun x23 => b_X8_tellStrangers_139 J n q0 v1 v2 v3 v4 x19 x23 v8 s18))
def j_X8_tellStrangers (q0 : Nat) : Nat → Nat → List Int → SS → RR
  | 0, _, _, _ => none
  | n + 1, t, ls, σ => if t = 20 then b_X8_tellStrangers_20 (j_X8_tellStrangers q0 n) n q0 (ls.getD 0 0) (ls.getD 1 0) (ls.getD 2 0) (ls.getD 3 0) (ls.getD 4 0) (ls.getD 5 0) (ls.getD 6 0) σ else none
theorem e_X8_tellStrangers_20 {q0 : Nat} {n : Nat} {v1 : Int} {v2 : Int} {v3 : Int} {v4 : Int} {v5 : Int} {v6 : Int} {v8 : Int} {σ : SS} : j_X8_tellStrangers q0 (n + 1) 20 [v1, v2, v3, v4, v5, v6, v8] σ = b_X8_tellStrangers_20 (j_X8_tellStrangers q0 n) n q0 v1 v2 v3 v4 v5 v6 v8 σ := rfl
def m_X8_tellStrangers (n : Nat) (q0 : Nat) (a1 : Int) (a2 : Int) (a3 : Int) (a4 : Int) (σ : SS) : RR := mRd σ 38 13 fun x1 => mWr σ q0 7 x1 fun s2 => (j_X8_tellStrangers q0 n) 20 [a1, a2, a3, a4, 0, 0, 0] s2
def b_X11_strangers_29 (n : Nat) (q0 : Nat) (σ : SS) : RR := mRet (-1) σ
def b_X11_strangers_54 (n : Nat) (q0 : Nat) (σ : SS) : RR := mRet (-1) σ
def m_X11_strangers (n : Nat) (q0 : Nat) (a1 : Int) (a2 : Int) (a3 : Int) (a4 : Int) (σ : SS) : RR := mCall (m_X11_hasRuleOrNone n q0 a1 σ) fun x1 s2 => mIf (x1 = 0) (b_X11_strangers_29 n q0 s2) (mRd s2 38 8 fun x3 => mIf (x3 = 0) (b_X11_strangers_29 n q0 s2) (mIf (a2 < 1) (b_X11_strangers_29 n q0 s2) (mIf (a2 ≤ 30) (mIf (a3 < 1) (b_X11_strangers_54 n q0 s2) (mIf (200 < a3) (b_X11_strangers_54 n q0 s2) (mIf (a4 < 0) (b_X11_strangers_54 n q0 s2) (mIf (a4 ≤ 1) (mCall (m_X0_refreshAll n 145 s2) fun _ s4 => mCall (m_X8_tellStrangers n 151 a1 a2 a3 a4 s4) fun x5 s6 => mRet x5 s6) (b_X11_strangers_54 n q0 s2))))) (b_X11_strangers_29 n q0 s2))))
def m_X12_walkerOf (n : Nat) (q0 : Nat) (a1 : Int) (a2 : Int) (σ : SS) : RR := mLet (9 * a1) fun x1 => mLet (216 + x1) fun x2 => mLet (x2 + a2) fun x3 => mRd σ 12 (x3 : Int).toNat fun x4 => mRet x4 σ
def b_X12_isOpen_35 (n : Nat) (q0 : Nat) (σ : SS) : RR := mRet 0 σ
def m_X12_isOpen (n : Nat) (q0 : Nat) (a1 : Int) (a2 : Int) (a3 : Int) (σ : SS) : RR := mCall (m_X12_isAt n q0 a1 a2 σ) fun x1 s2 => mIf (x1 = 0) (b_X12_isOpen_35 n q0 s2) (mLet (a3 / 24) fun x3 => mCall (m_X12_isDayFor n q0 a1 a2 x3 s2) fun x4 s5 => mIf (x4 = 0) (b_X12_isOpen_35 n q0 s5) (mCall (m_X12_isLifted n q0 a1 a3 s5) fun x6 s7 => mIf (¬ x6 = 0) (b_X12_isOpen_35 n q0 s7) (mRet 1 s7)))
def b_X12_asideOf_2 (J : Nat → List Int → SS → RR) (n : Nat) (q0 : Nat) (v1 : Int) (v2 : Int) (σ : SS) : RR := mRd σ 12 (1 : Int).toNat fun x1 => mIf (x1 ≤ v2) (mRet (-1) σ) (mCall (m_X12_walkerOf n q0 v1 0 σ) fun x2 s3 => mCall (m_X12_walkerOf n q0 v1 4 s3) fun x4 s5 => mCall (m_X12_isOpen n q0 v2 x2 x4 s5) fun x6 s7 => mIf (x6 = 0) (mLet (v2 + 1) fun x8 => J 2 [v1, x8] s7) (mRet v2 s7))
def j_X12_asideOf (q0 : Nat) : Nat → Nat → List Int → SS → RR
  | 0, _, _, _ => none
  | n + 1, t, ls, σ => if t = 2 then b_X12_asideOf_2 (j_X12_asideOf q0 n) n q0 (ls.getD 0 0) (ls.getD 1 0) σ else none
theorem e_X12_asideOf_2 {q0 : Nat} {n : Nat} {v1 : Int} {v2 : Int} {σ : SS} : j_X12_asideOf q0 (n + 1) 2 [v1, v2] σ = b_X12_asideOf_2 (j_X12_asideOf q0 n) n q0 v1 v2 σ := rfl
def m_X12_asideOf (n : Nat) (q0 : Nat) (a1 : Int) (σ : SS) : RR := (j_X12_asideOf q0 n) 2 [a1, 0] σ
def m_X12_askedToday (n : Nat) (q0 : Nat) (a1 : Int) (σ : SS) : RR := mCall (m_X12_walkerOf n q0 a1 8 σ) fun x1 s2 => mCall (m_X12_walkerOf n q0 a1 4 s2) fun x3 s4 => mLet (x3 / 24) fun x5 => mIf (¬ x1 = x5) (mRet 0 s4) (mRet 1 s4)
def b_X12_canGo_34 (n : Nat) (q0 : Nat) (σ : SS) : RR := mRet 0 σ
def m_X12_canGo (n : Nat) (q0 : Nat) (a1 : Int) (σ : SS) : RR := mRd σ q0 31 fun x1 => mIf (x1 < 0) (b_X12_canGo_34 n q0 σ) (mRd σ q0 31 fun x2 => mCall (m_X12_walkerOf n q0 a1 0 σ) fun x3 s4 => mCall (m_X12_walkerOf n q0 a1 4 s4) fun x5 s6 => mCall (m_X12_isOpen n q0 x2 x3 x5 s6) fun x7 s8 => mIf (x7 = 0) (b_X12_canGo_34 n q0 s8) (mRet 1 s8))
def b_X12_words_205 (n : Nat) (q0 : Nat) (w0 : Int) (w1 : Int) (σ : SS) : RR := mWr σ 1011 (w1 : Int).toNat w0 fun s1 => mRet 0 s1
def b_X12_words_159 (n : Nat) (q0 : Nat) (v1 : Int) (w0 : Int) (w1 : Int) (σ : SS) : RR := mWr σ 1011 (w1 : Int).toNat w0 fun s1 => mCall (m_X12_walkerOf n q0 v1 6 s1) fun x2 s3 => mLet (x2) fun x4 => mWr s3 1011 (8 : Int).toNat x4 fun s5 => mCall (m_X12_walkerOf n q0 v1 7 s5) fun x6 s7 => mIf (0 ≤ x6) (mCall (m_X12_walkerOf n q0 v1 7 s7) fun x8 s9 => mLet (x8) fun x10 => b_X12_words_205 n q0 x10 9 s9) (b_X12_words_205 n q0 99 9 s7)
def b_X12_words_134 (n : Nat) (q0 : Nat) (v1 : Int) (w0 : Int) (w1 : Int) (σ : SS) : RR := mWr σ 1011 (w1 : Int).toNat w0 fun s1 => mRd s1 q0 30 fun x2 => mIf (x2 = 0) (mCall (m_X12_walkerOf n q0 v1 5 s1) fun x3 s4 => mLet (x3) fun x5 => b_X12_words_159 n q0 v1 x5 7 s4) (b_X12_words_159 n q0 v1 0 7 s1)
def b_X12_words_104 (n : Nat) (q0 : Nat) (v1 : Int) (v3 : Int) (w0 : Int) (w1 : Int) (σ : SS) : RR := mWr σ 1011 (w1 : Int).toNat w0 fun s1 => mRd s1 14 (v3 : Int).toNat fun x2 => mIf (¬ x2 = 100000000) (mRd s1 14 (v3 : Int).toNat fun x3 => mLet (x3) fun x4 => b_X12_words_134 n q0 v1 x4 6 s1) (b_X12_words_134 n q0 v1 0 6 s1)
def b_X12_words_64 (n : Nat) (q0 : Nat) (v1 : Int) (v3 : Int) (w0 : Int) (w1 : Int) (σ : SS) : RR := mWr σ 1011 (w1 : Int).toNat w0 fun s1 => mLet (v3) fun x2 => mWr s1 1011 (3 : Int).toNat x2 fun s3 => mCall (m_X12_walkerOf n q0 v1 1 s3) fun x4 s5 => mLet (x4) fun x6 => mWr s5 1011 (4 : Int).toNat x6 fun s7 => mCall (m_X12_canGo n q0 v1 s7) fun x8 s9 => mIf (x8 = 0) (b_X12_words_104 n q0 v1 v3 1 5 s9) (b_X12_words_104 n q0 v1 v3 0 5 s9)
def m_X12_words (n : Nat) (q0 : Nat) (a1 : Int) (σ : SS) : RR := mCall (m_X12_walkerOf n q0 a1 4 σ) fun x1 s2 => mCall (m_X12_walkerOf n q0 a1 0 s2) fun x3 s4 => mLet (x1 % 24) fun x5 => mLet (x5) fun x6 => mWr s4 1011 (0 : Int).toNat x6 fun s7 => mLet (x1 / 24) fun x8 => mLet (x8 % 7) fun x9 => mLet (x9) fun x10 => mWr s7 1011 (1 : Int).toNat x10 fun s11 => mRd s11 q0 30 fun x12 => mIf (x12 = 0) (mLet (x1 / 24) fun x13 => mLet (x13 % 360) fun x14 => mLet (x14) fun x15 => b_X12_words_64 n q0 a1 x3 x15 2 s11) (b_X12_words_64 n q0 a1 x3 0 2 s11)
def b_X12_mayDo_67 (n : Nat) (q0 : Nat) (σ : SS) : RR := mRet 0 σ
def m_X12_mayDo (n : Nat) (q0 : Nat) (a1 : Int) (a2 : Int) (σ : SS) : RR := mIf (a2 = 0) (mCall (m_X12_canGo n q0 a1 σ) fun x6 s7 => mRet x6 s7) (mIf (a2 = 1) (mCall (m_X12_asideOf n q0 a1 σ) fun x4 s5 => mIf (x4 < 0) (mRet 0 s5) (mRet 1 s5)) (mIf (a2 = 2) (mRd σ q0 30 fun x1 => mIf (¬ x1 = 0) (b_X12_mayDo_67 n q0 σ) (mCall (m_X12_askedToday n q0 a1 σ) fun x2 s3 => mIf (¬ x2 = 0) (b_X12_mayDo_67 n q0 s3) (mRet 1 s3))) (mRet 1 σ)))
def m_X12_push (n : Nat) (q0 : Nat) (a1 : Int) (σ : SS) : RR := mRd σ q0 24 fun x1 => mWr σ 1010 (x1 : Int).toNat a1 fun s2 => mRd s2 q0 24 fun x3 => mLet (x3 + 1) fun x4 => mWr s2 q0 24 x4 fun s5 => mRet 0 s5
def m_X12_pop (n : Nat) (q0 : Nat) (σ : SS) : RR := mRd σ q0 24 fun x1 => mLet (x1 - 1) fun x2 => mWr σ q0 24 x2 fun s3 => mRd s3 q0 24 fun x4 => mRd s3 1010 (x4 : Int).toNat fun x5 => mRet x5 s3
def b_X12_one_85 (n : Nat) (w0 : Int) (σ : SS) : RR := mRet w0 σ
def b_X12_one_97 (n : Nat) (w0 : Int) (σ : SS) : RR := mRet w0 σ
def b_X12_one_109 (n : Nat) (w0 : Int) (σ : SS) : RR := mRet w0 σ
def b_X12_one_121 (n : Nat) (w0 : Int) (σ : SS) : RR := mRet w0 σ
def b_X12_one_133 (n : Nat) (w0 : Int) (σ : SS) : RR := mRet w0 σ
def b_X12_one_145 (n : Nat) (w0 : Int) (σ : SS) : RR := mRet w0 σ
def m_X12_one (n : Nat) (a0 : Int) (a1 : Int) (a2 : Int) (σ : SS) : RR := mIf (a0 = 2) (mLet (mAddL a1 a2) fun x7 => mRet x7 σ) (mIf (a0 = 3) (mLet (mSubL a1 a2) fun x6 => mRet x6 σ) (mIf (a0 = 4) (mLet (mMulL a1 a2) fun x5 => mRet x5 σ) (mIf (a0 = 5) (mIf (¬ a2 = 0) (mLet (mDivL a1 a2) fun x4 => b_X12_one_85 n x4 σ) (b_X12_one_85 n 0 σ)) (mIf (a0 = 6) (mIf (a2 ≤ a1) (b_X12_one_97 n 0 σ) (b_X12_one_97 n 1 σ)) (mIf (a0 = 7) (mIf (a2 < a1) (b_X12_one_109 n 0 σ) (b_X12_one_109 n 1 σ)) (mIf (a0 = 8) (mIf (¬ a1 = a2) (b_X12_one_121 n 0 σ) (b_X12_one_121 n 1 σ)) (mIf (a0 = 9) (mIf (a1 < a2) (b_X12_one_133 n 0 σ) (b_X12_one_133 n 1 σ)) (mIf (a0 = 10) (mIf (a1 ≤ a2) (b_X12_one_145 n 0 σ) (b_X12_one_145 n 1 σ)) (mIf (a0 = 11) (mLet (mOrL a1 a2) fun x3 => mRet x3 σ) (mIf (a0 = 12) (mLet (mAndL a1 a2) fun x2 => mRet x2 σ) (mLet (mOrL a1 a2) fun x1 => mRet x1 σ)))))))))))
def b_X12_reckons_129 (J : Nat → List Int → SS → RR) (n : Nat) (q0 : Nat) (v1 : Int) (v3 : Int) (v4 : Int) (σ : SS) : RR := mLet (v4 + 1) fun x1 => J 8 [v1, v3, x1] σ
def b_X12_reckons_8 (J : Nat → List Int → SS → RR) (n : Nat) (q0 : Nat) (v1 : Int) (v3 : Int) (v4 : Int) (σ : SS) : RR := mIf (v3 ≤ v4) (mCall (m_X12_pop n q0 σ) fun x1 s2 => mRet x1 s2) (mLet (400 * v1) fun x3 => mLet (x3 + v4) fun x4 => mRd σ 2 (x4 : Int).toNat fun x5 => mLet (mAnd x5 15) fun x6 => mLet (400 * v1) fun x7 => mLet (x7 + v4) fun x8 => mRd σ 2 (x8 : Int).toNat fun x9 => mLet (mShr x9 4) fun x10 => mIf (¬ x6 = 0) (mIf (¬ x6 = 1) (mIf (¬ x6 = 11) (mCall (m_X12_pop n q0 σ) fun x11 s12 => mCall (m_X12_pop n q0 s12) fun x13 s14 => mCall (m_X12_one n x6 x13 x11 s14) fun x15 s16 => mCall (m_X12_push n q0 x15 s16) fun _ s17 => b_X12_reckons_129 J n q0 v1 v3 v4 s17) (mCall (m_X12_pop n q0 σ) fun x18 s19 => mLet (mSubL 1 x18) fun x20 => mCall (m_X12_push n q0 x20 s19) fun _ s21 => b_X12_reckons_129 J n q0 v1 v3 v4 s21)) (mRd σ 1011 (x10 : Int).toNat fun x22 => mCall (m_X12_push n q0 x22 σ) fun _ s23 => b_X12_reckons_129 J n q0 v1 v3 v4 s23)) (mLet (x10) fun x24 => mCall (m_X12_push n q0 x24 σ) fun _ s25 => b_X12_reckons_129 J n q0 v1 v3 v4 s25))
def j_X12_reckons (q0 : Nat) : Nat → Nat → List Int → SS → RR
  | 0, _, _, _ => none
  | n + 1, t, ls, σ => if t = 8 then b_X12_reckons_8 (j_X12_reckons q0 n) n q0 (ls.getD 0 0) (ls.getD 1 0) (ls.getD 2 0) σ else none
theorem e_X12_reckons_8 {q0 : Nat} {n : Nat} {v1 : Int} {v3 : Int} {v4 : Int} {σ : SS} : j_X12_reckons q0 (n + 1) 8 [v1, v3, v4] σ = b_X12_reckons_8 (j_X12_reckons q0 n) n q0 v1 v3 v4 σ := rfl
def m_X12_reckons (n : Nat) (q0 : Nat) (a1 : Int) (a2 : Int) (a3 : Int) (σ : SS) : RR := mWr σ q0 24 0 fun s1 => (j_X12_reckons q0 n) 8 [a1, a3, a2] s1
def b_X12_doing_107 (J : Nat → List Int → SS → RR) (n : Nat) (q0 : Nat) (v4 : Int) (σ : SS) : RR := mRd σ 4 (v4 : Int).toNat fun x1 => mRet x1 σ
def b_X12_doing_115 (J : Nat → List Int → SS → RR) (n : Nat) (q0 : Nat) (v1 : Int) (v2 : Int) (v3 : Int) (σ : SS) : RR := mLet (v3 + 1) fun x1 => J 32 [v1, v2, x1] σ
def b_X12_doing_32 (J : Nat → List Int → SS → RR) (n : Nat) (q0 : Nat) (v1 : Int) (v2 : Int) (v3 : Int) (σ : SS) : RR := mRd σ 5 (v2 : Int).toNat fun x1 => mIf (x1 ≤ v3) (mRet 3 σ) (mLet (36 * v2) fun x2 => mLet (3 * v3) fun x3 => mLet (x2 + x3) fun x4 => mRd σ 4 (x4 : Int).toNat fun x5 => mCall (m_X12_mayDo n q0 v1 x5 σ) fun x6 s7 => mIf (x6 = 0) (b_X12_doing_115 J n q0 v1 v2 v3 s7) (mLet (x4 + 1) fun x8 => mRd s7 4 (x8 : Int).toNat fun x9 => mIf (x9 < 0) (b_X12_doing_107 J n q0 x4 s7) (mLet (x4 + 1) fun x10 => mRd s7 4 (x10 : Int).toNat fun x11 => mLet (x4 + 2) fun x12 => mRd s7 4 (x12 : Int).toNat fun x13 => mCall (m_X12_reckons n q0 v2 x11 x13 s7) fun x14 s15 => mIf (¬ x14 = 1) (b_X12_doing_115 J n q0 v1 v2 v3 s15) (b_X12_doing_107 J n q0 x4 s15))))
def j_X12_doing (q0 : Nat) : Nat → Nat → List Int → SS → RR
  | 0, _, _, _ => none
  | n + 1, t, ls, σ => if t = 32 then b_X12_doing_32 (j_X12_doing q0 n) n q0 (ls.getD 0 0) (ls.getD 1 0) (ls.getD 2 0) σ else none
theorem e_X12_doing_32 {q0 : Nat} {n : Nat} {v1 : Int} {v2 : Int} {v3 : Int} {σ : SS} : j_X12_doing q0 (n + 1) 32 [v1, v2, v3] σ = b_X12_doing_32 (j_X12_doing q0 n) n q0 v1 v2 v3 σ := rfl
def m_X12_doing (n : Nat) (q0 : Nat) (a1 : Int) (σ : SS) : RR := mCall (m_X12_walkerOf n q0 a1 3 σ) fun x1 s2 => mIf (0 ≤ x1) (mCall (m_X12_words n q0 a1 s2) fun _ s3 => (j_X12_doing q0 n) 32 [a1, x1, 0] s3) (mCall (m_X12_canGo n q0 a1 s2) fun x4 s5 => mIf (x4 = 0) (mRet 3 s5) (mRet 0 s5))
def m_X12_draw (n : Nat) (q0 : Nat) (a1 : Int) (σ : SS) : RR := mRd σ (q0 + 1000) 39 fun x1 => mLet (x1 * 1103515245) fun x2 => mLet (x2 + 12345) fun x3 => mLet (x3 % 2147483648) fun x4 => mWr σ (q0 + 1000) 39 x4 fun s5 => mRd s5 (q0 + 1000) 39 fun x6 => mLet (x6 / 65536) fun x7 => mLet (a1) fun x8 => mLet (mRemL x7 x8) fun x9 => mLet (x9) fun x10 => mRet x10 s5
def b_X12_isRule_16 (n : Nat) (q0 : Nat) (σ : SS) : RR := mRet 0 σ
def m_X12_isRule (n : Nat) (q0 : Nat) (a1 : Int) (σ : SS) : RR := mIf (a1 < 0) (b_X12_isRule_16 n q0 σ) (mRd σ q0 2 fun x1 => mIf (x1 ≤ a1) (b_X12_isRule_16 n q0 σ) (mRet 1 σ))
def m_X12_isThere (n : Nat) (q0 : Nat) (a1 : Int) (σ : SS) : RR := mCall (m_X12_walkerOf n q0 a1 0 σ) fun x1 s2 => mCall (m_X12_walkerOf n q0 a1 1 s2) fun x3 s4 => mIf (¬ x1 = x3) (mRet 0 s4) (mRet 1 s4)
def b_X12_keeps_2 (J : Nat → List Int → SS → RR) (n : Nat) (q0 : Nat) (v1 : Int) (σ : SS) : RR := mIf (296 ≤ v1) (mRet 0 σ) (mRd σ 12 (v1 : Int).toNat fun x1 => mWr σ 15 (v1 : Int).toNat x1 fun s2 => mLet (v1 + 1) fun x3 => J 2 [x3] s2)
def j_X12_keeps (q0 : Nat) : Nat → Nat → List Int → SS → RR
  | 0, _, _, _ => none
  | n + 1, t, ls, σ => if t = 2 then b_X12_keeps_2 (j_X12_keeps q0 n) n q0 (ls.getD 0 0) σ else none
theorem e_X12_keeps_2 {q0 : Nat} {n : Nat} {v1 : Int} {σ : SS} : j_X12_keeps q0 (n + 1) 2 [v1] σ = b_X12_keeps_2 (j_X12_keeps q0 n) n q0 v1 σ := rfl
def m_X12_keeps (n : Nat) (q0 : Nat) (σ : SS) : RR := (j_X12_keeps q0 n) 2 [0] σ
def b_X12_takesDay_2 (J : Nat → List Int → SS → RR) (n : Nat) (q0 : Nat) (v1 : Int) (v2 : Int) (σ : SS) : RR := mRd σ 12 (1 : Int).toNat fun x1 => mIf (x1 ≤ v2) (mRet 0 σ) (mLet (3 + v1) fun x2 => mCall (m_X12_streetOf n q0 v2 x2 σ) fun x3 s4 => mWr s4 13 (v2 : Int).toNat x3 fun s5 => mLet (v2 + 1) fun x6 => J 2 [v1, x6] s5)
def j_X12_takesDay (q0 : Nat) : Nat → Nat → List Int → SS → RR
  | 0, _, _, _ => none
  | n + 1, t, ls, σ => if t = 2 then b_X12_takesDay_2 (j_X12_takesDay q0 n) n q0 (ls.getD 0 0) (ls.getD 1 0) σ else none
theorem e_X12_takesDay_2 {q0 : Nat} {n : Nat} {v1 : Int} {v2 : Int} {σ : SS} : j_X12_takesDay q0 (n + 1) 2 [v1, v2] σ = b_X12_takesDay_2 (j_X12_takesDay q0 n) n q0 v1 v2 σ := rfl
def m_X12_takesDay (n : Nat) (q0 : Nat) (a1 : Int) (σ : SS) : RR := (j_X12_takesDay q0 n) 2 [a1, 0] σ
def b_X12_looks_44 (n : Nat) (q0 : Nat) (v1 : Int) (σ : SS) : RR := mCall (m_X12_walkerOf n q0 v1 1 σ) fun x1 s2 => mCall (m_X12_spreads n q0 x1 s2) fun _ s3 => mCall (m_X12_walkerOf n q0 v1 0 s3) fun x4 s5 => mCall (m_X12_streetFrom n q0 x4 s5) fun x6 s7 => mWr s7 q0 31 x6 fun s8 => mRet 0 s8
def b_X12_looks_34 (n : Nat) (q0 : Nat) (v1 : Int) (σ : SS) : RR := mCall (m_X12_walkerOf n q0 v1 2 σ) fun x1 s2 => mCall (m_X12_takesMap n q0 x1 s2) fun _ s3 => b_X12_looks_44 n q0 v1 s3
def m_X12_looks (n : Nat) (q0 : Nat) (a1 : Int) (σ : SS) : RR := mCall (m_X12_askedToday n q0 a1 σ) fun x1 s2 => mIf (x1 = 0) (b_X12_looks_34 n q0 a1 s2) (mRd s2 q0 30 fun x3 => mIf (¬ x3 = 0) (b_X12_looks_34 n q0 a1 s2) (mCall (m_X12_walkerOf n q0 a1 4 s2) fun x4 s5 => mLet (x4 / 24) fun x6 => mLet (x6 % 7) fun x7 => mCall (m_X12_takesDay n q0 x7 s5) fun _ s8 => b_X12_looks_44 n q0 a1 s8))
def b_X12_putsBack_2 (J : Nat → List Int → SS → RR) (n : Nat) (q0 : Nat) (v1 : Int) (σ : SS) : RR := mIf (296 ≤ v1) (mRet 0 σ) (mRd σ 15 (v1 : Int).toNat fun x1 => mWr σ 12 (v1 : Int).toNat x1 fun s2 => mLet (v1 + 1) fun x3 => J 2 [x3] s2)
def j_X12_putsBack (q0 : Nat) : Nat → Nat → List Int → SS → RR
  | 0, _, _, _ => none
  | n + 1, t, ls, σ => if t = 2 then b_X12_putsBack_2 (j_X12_putsBack q0 n) n q0 (ls.getD 0 0) σ else none
theorem e_X12_putsBack_2 {q0 : Nat} {n : Nat} {v1 : Int} {σ : SS} : j_X12_putsBack q0 (n + 1) 2 [v1] σ = b_X12_putsBack_2 (j_X12_putsBack q0 n) n q0 v1 σ := rfl
def m_X12_putsBack (n : Nat) (q0 : Nat) (σ : SS) : RR := (j_X12_putsBack q0 n) 2 [0] σ
def m_X12_setsOut (n : Nat) (q0 : Nat) (a1 : Int) (a2 : Int) (a3 : Int) (a4 : Int) (a5 : Int) (a6 : Int) (σ : SS) : RR := mLet (9 * a1) fun x1 => mLet (216 + x1) fun x2 => mWr σ 12 (x2 : Int).toNat a2 fun s3 => mLet (x2 + 1) fun x4 => mWr s3 12 (x4 : Int).toNat a3 fun s5 => mLet (x2 + 2) fun x6 => mWr s5 12 (x6 : Int).toNat a4 fun s7 => mLet (x2 + 3) fun x8 => mWr s7 12 (x8 : Int).toNat a5 fun s9 => mLet (x2 + 4) fun x10 => mWr s9 12 (x10 : Int).toNat a6 fun s11 => mLet (x2 + 5) fun x12 => mWr s11 12 (x12 : Int).toNat 0 fun s13 => mLet (x2 + 6) fun x14 => mWr s13 12 (x14 : Int).toNat 0 fun s15 => mLet (x2 + 7) fun x16 => mWr s15 12 (x16 : Int).toNat (-1) fun s17 => mLet (x2 + 8) fun x18 => mWr s17 12 (x18 : Int).toNat (-1) fun s19 => mRet 0 s19
def m_X12_takesStreet (n : Nat) (q0 : Nat) (a1 : Int) (a2 : Int) (σ : SS) : RR := mLet (9 * a1) fun x1 => mLet (216 + x1) fun x2 => mRd σ 12 (x2 : Int).toNat fun x3 => mCall (m_X12_otherOf n q0 a2 x3 σ) fun x4 s5 => mWr s5 12 (x2 : Int).toNat x4 fun s6 => mLet (x2 + 7) fun x7 => mWr s6 12 (x7 : Int).toNat x3 fun s8 => mLet (x2 + 4) fun x9 => mRd s8 12 (x9 : Int).toNat fun x10 => mCall (m_X12_streetOf n q0 a2 2 s8) fun x11 s12 => mLet (x10 + x11) fun x13 => mWr s12 12 (x9 : Int).toNat x13 fun s14 => mRet 0 s14
def b_X12_steps_125 (n : Nat) (q0 : Nat) (σ : SS) : RR := mRet 1 σ
def b_X12_steps_104 (n : Nat) (q0 : Nat) (v2 : Int) (v3 : Int) (σ : SS) : RR := mLet (v3 + 5) fun x1 => mRd σ 12 (x1 : Int).toNat fun x2 => mLet (mAdd x2 1) fun x3 => mWr σ 12 (x1 : Int).toNat x3 fun s4 => mIf (v2 = 0) (b_X12_steps_125 n q0 s4) (mIf (¬ v2 = 1) (mRet 0 s4) (b_X12_steps_125 n q0 s4))
def b_X12_steps_92 (n : Nat) (q0 : Nat) (v2 : Int) (v3 : Int) (σ : SS) : RR := mLet (v3 + 4) fun x1 => mRd σ 12 (x1 : Int).toNat fun x2 => mLet (x2 + 1) fun x3 => mWr σ 12 (x1 : Int).toNat x3 fun s4 => b_X12_steps_104 n q0 v2 v3 s4
def m_X12_steps (n : Nat) (q0 : Nat) (a1 : Int) (σ : SS) : RR := mCall (m_X12_looks n q0 a1 σ) fun _ s1 => mCall (m_X12_doing n q0 a1 s1) fun x2 s3 => mLet (9 * a1) fun x4 => mLet (216 + x4) fun x5 => mIf (¬ x2 = 0) (mIf (¬ x2 = 1) (mIf (¬ x2 = 2) (b_X12_steps_92 n q0 x2 x5 s3) (mLet (x5 + 8) fun x6 => mLet (x5 + 4) fun x7 => mRd s3 12 (x7 : Int).toNat fun x8 => mLet (x8 / 24) fun x9 => mWr s3 12 (x6 : Int).toNat x9 fun s10 => mLet (x5 + 6) fun x11 => mRd s10 12 (x11 : Int).toNat fun x12 => mLet (mAdd x12 1) fun x13 => mWr s10 12 (x11 : Int).toNat x13 fun s14 => b_X12_steps_92 n q0 x2 x5 s14)) (mCall (m_X12_asideOf n q0 a1 s3) fun x15 s16 => mCall (m_X12_takesStreet n q0 a1 x15 s16) fun _ s17 => b_X12_steps_104 n q0 x2 x5 s17)) (mRd s3 q0 31 fun x18 => mCall (m_X12_takesStreet n q0 a1 x18 s3) fun _ s19 => b_X12_steps_104 n q0 x2 x5 s19)
def b_X12_strangers_64 (J : Nat → List Int → SS → RR) (n : Nat) (q0 : Nat) (σ : SS) : RR := mRet (-1) σ
def b_X12_strangers_29 (J : Nat → List Int → SS → RR) (n : Nat) (q0 : Nat) (v1 : Int) (v2 : Int) (v3 : Int) (v4 : Int) (σ : SS) : RR := mLet (v2) fun x1 => mCall (m_X12_in n x1 1 30 σ) fun x2 s3 => mIf (x2 = 0) (b_X12_strangers_64 J n q0 s3) (mLet (v3) fun x4 => mCall (m_X12_in n x4 1 200 s3) fun x5 s6 => mIf (x5 = 0) (b_X12_strangers_64 J n q0 s6) (mLet (v4) fun x7 => mCall (m_X12_in n x7 0 1 s6) fun x8 s9 => mIf (¬ x8 = 0) (mRd s9 12 (9 : Int).toNat fun x10 => mLet (x10) fun x11 => mWr s9 (q0 + 1000) 39 x11 fun s12 => mCall (m_X12_keeps n q0 s12) fun _ s13 => J 88 [v1, v2, v3, v4, 0, 0] s13) (b_X12_strangers_64 J n q0 s9)))
def b_X12_strangers_213 (J : Nat → List Int → SS → RR) (n : Nat) (q0 : Nat) (v1 : Int) (v2 : Int) (v3 : Int) (v4 : Int) (v5 : Int) (v6 : Int) (σ : SS) : RR := mCall (m_X12_putsBack n q0 σ) fun _ s1 => mLet (v6 + 1) fun x2 => J 88 [v1, v2, v3, v4, v5, x2] s1
def b_X12_strangers_210 (J : Nat → List Int → SS → RR) (n : Nat) (q0 : Nat) (v1 : Int) (v2 : Int) (v3 : Int) (v4 : Int) (v6 : Int) (w0 : Int) (w1 : Int) (σ : SS) : RR := mLet (mAdd w1 w0) fun x1 => b_X12_strangers_213 J n q0 v1 v2 v3 v4 x1 v6 σ
def b_X12_strangers_182 (J : Nat → List Int → SS → RR) (n : Nat) (q0 : Nat) (v1 : Int) (v2 : Int) (v3 : Int) (v4 : Int) (v5 : Int) (v6 : Int) (v10 : Int) (σ : SS) : RR := mCall (m_X12_isThere n q0 0 σ) fun x1 s2 => mIf (x1 = 0) (b_X12_strangers_213 J n q0 v1 v2 v3 v4 v5 v6 s2) (mIf (¬ v4 = 0) (mCall (m_X12_walkerOf n q0 0 4 s2) fun x3 s4 => mLet (x3 - v10) fun x5 => b_X12_strangers_210 J n q0 v1 v2 v3 v4 v6 x5 v5 s4) (b_X12_strangers_210 J n q0 v1 v2 v3 v4 v6 1 v5 s2))
def b_X12_strangers_88 (J : Nat → List Int → SS → RR) (n : Nat) (q0 : Nat) (v1 : Int) (v2 : Int) (v3 : Int) (v4 : Int) (v5 : Int) (v6 : Int) (σ : SS) : RR := mIf (v2 ≤ v6) (mRet v5 σ) (mRd σ 12 (0 : Int).toNat fun x1 => mCall (m_X12_draw n q0 x1 σ) fun x2 s3 => mRd s3 12 (0 : Int).toNat fun x4 => mCall (m_X12_draw n q0 x4 s3) fun x5 s6 => mRd s6 12 (4 : Int).toNat fun x7 => mCall (m_X12_draw n q0 x7 s6) fun x8 s9 => mCall (m_X12_draw n q0 168 s9) fun x10 s11 => mCall (m_X12_setsOut n q0 0 x2 x5 x8 v1 x10 s11) fun _ s12 => J 156 [v1, v2, v3, v4, v5, v6, x10, 0] s12)
def b_X12_strangers_156 (J : Nat → List Int → SS → RR) (n : Nat) (q0 : Nat) (v1 : Int) (v2 : Int) (v3 : Int) (v4 : Int) (v5 : Int) (v6 : Int) (v10 : Int) (v11 : Int) (σ : SS) : RR := mIf (v3 ≤ v11) (b_X12_strangers_182 J n q0 v1 v2 v3 v4 v5 v6 v10 σ) (mCall (m_X12_isThere n q0 0 σ) fun x1 s2 => mIf (¬ x1 = 0) (b_X12_strangers_182 J n q0 v1 v2 v3 v4 v5 v6 v10 s2) (mCall (m_X12_steps n q0 0 s2) fun x3 s4 => mLet (v11 + 1) fun x5 => J 156 [v1, v2, v3, v4, v5, v6, v10, x5] s4))
def j_X12_strangers (q0 : Nat) : Nat → Nat → List Int → SS → RR
  | 0, _, _, _ => none
  | n + 1, t, ls, σ => if t = 88 then b_X12_strangers_88 (j_X12_strangers q0 n) n q0 (ls.getD 0 0) (ls.getD 1 0) (ls.getD 2 0) (ls.getD 3 0) (ls.getD 4 0) (ls.getD 5 0) σ else if t = 156 then b_X12_strangers_156 (j_X12_strangers q0 n) n q0 (ls.getD 0 0) (ls.getD 1 0) (ls.getD 2 0) (ls.getD 3 0) (ls.getD 4 0) (ls.getD 5 0) (ls.getD 6 0) (ls.getD 7 0) σ else none
theorem e_X12_strangers_88 {q0 : Nat} {n : Nat} {v1 : Int} {v2 : Int} {v3 : Int} {v4 : Int} {v5 : Int} {v6 : Int} {σ : SS} : j_X12_strangers q0 (n + 1) 88 [v1, v2, v3, v4, v5, v6] σ = b_X12_strangers_88 (j_X12_strangers q0 n) n q0 v1 v2 v3 v4 v5 v6 σ := rfl
theorem e_X12_strangers_156 {q0 : Nat} {n : Nat} {v1 : Int} {v2 : Int} {v3 : Int} {v4 : Int} {v5 : Int} {v6 : Int} {v10 : Int} {v11 : Int} {σ : SS} : j_X12_strangers q0 (n + 1) 156 [v1, v2, v3, v4, v5, v6, v10, v11] σ = b_X12_strangers_156 (j_X12_strangers q0 n) n q0 v1 v2 v3 v4 v5 v6 v10 v11 σ := rfl
def m_X12_strangers (n : Nat) (q0 : Nat) (a1 : Int) (a2 : Int) (a3 : Int) (a4 : Int) (σ : SS) : RR := mCall (m_X12_isTown n q0 σ) fun x1 s2 => mIf (x1 = 0) (b_X12_strangers_64 (j_X12_strangers q0 n) n q0 s2) (mRd s2 12 (4 : Int).toNat fun x3 => mIf (x3 = 0) (b_X12_strangers_64 (j_X12_strangers q0 n) n q0 s2) (mIf (a1 = (-1)) (b_X12_strangers_29 (j_X12_strangers q0 n) n q0 a1 a2 a3 a4 s2) (mCall (m_X12_isRule n q0 a1 s2) fun x4 s5 => mIf (x4 = 0) (b_X12_strangers_64 (j_X12_strangers q0 n) n q0 s5) (b_X12_strangers_29 (j_X12_strangers q0 n) n q0 a1 a2 a3 a4 s5))))
