/-! models: a method as a function over a store of whole numbers; 'Ev': what it comes to, with room enough -/
abbrev SS := Nat → Nat → Int
abbrev RR := Option (Int × SS)
def sI (w : va_W) : SS := fun q k => (gi w q k).toInt
def upS (σ : SS) (q k : Nat) (v : Int) : SS := fun q' k' => if q' = q ∧ k' = k then v else σ q' k'
def cpS (σ : SS) (q0 q n : Nat) : SS := fun q' k' => if q' = q ∧ k' < n then σ q0 k' else σ q' k'
def Ev (A : Nat → RR) (ρ : Int × SS) : Prop := ∃ N : Nat, ∀ n : Nat, N ≤ n → A n = some ρ
def TT (E A : Nat → RR) : Prop := ∀ ρ : Int × SS, Ev A ρ → Ev E ρ
def mRd (σ : SS) (q k : Nat) (K : Int → RR) : RR := K (σ q k)
def mIx (i : Int) (K : Nat → RR) : RR := K i.toNat
def mWr (σ : SS) (q k : Nat) (v : Int) (K : SS → RR) : RR := K (upS σ q k v)
def mCp (σ : SS) (q0 q n : Nat) (K : SS → RR) : RR := K (cpS σ q0 q n)
def mLet (v : Int) (K : Int → RR) : RR := K v
def mIf (c : Prop) [Decidable c] (A B : RR) : RR := if c then A else B
def mCall (A : RR) (K : Int → SS → RR) : RR := match A with
  | none => none
  | some ρ => K ρ.1 ρ.2
def mSt (σ : SS) (K : SS → RR) : RR := K σ
def mRet (r : Int) (σ : SS) : RR := some (r, σ)
def o32 (f : Int32 → Int32 → Int32) (a b : Int) : Int := (f (Int32.ofInt a) (Int32.ofInt b)).toInt
def o64 (f : Int64 → Int64 → Int64) (a b : Int) : Int := (f (Int64.ofInt a) (Int64.ofInt b)).toInt
abbrev mAdd := o32 (fun x y => x + y)
abbrev mSub := o32 (fun x y => x - y)
abbrev mMul := o32 (fun x y => x * y)
abbrev mAnd := o32 (fun x y => x &&& y)
abbrev mOr := o32 (fun x y => x ||| y)
abbrev mXor := o32 (fun x y => x ^^^ y)
abbrev mShl := o32 (fun x y => x <<< (y &&& 31))
abbrev mShr := o32 (fun x y => x >>> (y &&& 31))
abbrev mDiv := o32 (fun x y => x / y)
abbrev mRem := o32 (fun x y => x - x / y * y)
abbrev mOrL := o64 (fun x y => x ||| y)
abbrev mAndL := o64 (fun x y => x &&& y)
abbrev mAddL := o64 (fun x y => x + y)
abbrev mSubL := o64 (fun x y => x - y)
abbrev mMulL := o64 (fun x y => x * y)
def mShlL (a b : Int) : Int := (Int64.ofInt a <<< ((Int32.ofInt b).toInt64 &&& 63)).toInt
def mB (a : Int) : Int := (Int32.ofInt a).toInt8.toInt32.toInt
def mC (a : Int) : Int := ((Int32.ofInt a).toUInt32 % 65536).toInt32.toInt
def chS (k : Nat) (i : Int) : Int := (sxc k (Int32.ofInt i)).toInt
def lnS (k : Nat) : Int := ((sxL.getD k 0 : Nat) : Int)
def ioS (x : Int) : Int := if x = 46 then 0 else if x = 62 then 1 else if x = 60 then 2 else if x = 61 then 3 else -1
theorem o32_e {f : Int32 → Int32 → Int32} {x y z : Int32} {a b : Int} (h : z = f x y) (ha : x.toInt = a) (hb : y.toInt = b) : o32 f a b = z.toInt := by
  subst h; subst ha; subst hb; unfold o32; rw [Int32.ofInt_toInt, Int32.ofInt_toInt]
theorem o64_e {f : Int64 → Int64 → Int64} {x y z : Int64} {a b : Int} (h : z = f x y) (ha : x.toInt = a) (hb : y.toInt = b) : o64 f a b = z.toInt := by
  subst h; subst ha; subst hb; unfold o64; rw [Int64.ofInt_toInt, Int64.ofInt_toInt]
theorem mShlL_e {x z : Int64} {y : Int32} {a b : Int} (h : z = x <<< (y.toInt64 &&& 63)) (ha : x.toInt = a) (hb : y.toInt = b) : mShlL a b = z.toInt := by
  subst h; subst ha; subst hb; unfold mShlL; rw [Int64.ofInt_toInt, Int32.ofInt_toInt]
theorem mB_e {x z : Int32} (h : z = x.toInt8.toInt32) : mB x.toInt = z.toInt := by subst h; unfold mB; rw [Int32.ofInt_toInt]
theorem mC_e {x z : Int32} (h : z = (x.toUInt32 % 65536).toInt32) : mC x.toInt = z.toInt := by subst h; unfold mC; rw [Int32.ofInt_toInt]
theorem i2c_t : ∀ j : Nat, j < 256 → (((Int32.ofInt (j : Int)).toUInt32 % 65536).toInt32).toInt = (j : Int) := by decide +kernel
theorem i2c_id {x z : Int32} (h : z = (x.toUInt32 % 65536).toInt32) (h0 : 0 ≤ x.toInt) (h1 : x.toInt ≤ 255) : z.toInt = x.toInt := by
  subst h
  have e : x = Int32.ofInt (x.toInt.toNat : Int) := wk_nI h0
  have h2 := i2c_t x.toInt.toNat (by omega)
  rw [← e] at h2
  rw [h2]; omega
theorem chS_e {k : Nat} {x r : Int32} {a : Int} (h : r = sxc k x) (ha : x.toInt = a) : chS k a = r.toInt := by subst h; subst ha; unfold chS; rw [Int32.ofInt_toInt]
theorem sI_at {w : va_W} {q k : Nat} {x : Int32} (h : gi w q k = x) : sI w q k = x.toInt := congrArg Int32.toInt h
theorem sI_up {w u : va_W} {q k : Nat} {v : Int32} (h : F1 w u q k) (hv : gi u q k = v) : upS (sI w) q k v.toInt = sI u := by
  funext q' k'
  unfold upS
  by_cases c : q' = q ∧ k' = k
  · obtain ⟨rfl, rfl⟩ := c
    rw [if_pos ⟨rfl, rfl⟩]; exact (sI_at hv).symm
  · rw [if_neg c]
    exact (sI_at (h.gi (by by_cases e : q' = q; exact Or.inr (fun e2 => c ⟨e, e2⟩); exact Or.inl e) rfl)).symm
theorem sI_upc {w u : va_W} {q k : Nat} {v : Int32} {a : Int} (h : F1 w u q k) (hv : gi u q k = v) (ha : v.toInt = a) : upS (sI w) q k a = sI u := by
  subst ha; exact sI_up h hv
/-- a reference written: no number changes -/
theorem sI_ref {ks : List Nat} {ad : Nat → Nat} {cy : Nat → ClassId} {B B' s1 s1' lo hi : Int} {qr qr' q κ k o : Nat} {w u : va_W} (h1 : TW ks ad cy B qr s1 w) (h2 : TW ks ad cy B' qr' s1' u) (h : F1 w u q k) (hq : ks[q]? = some κ) (hκ : κ < 20) (ht : (ft κ)[k]? = some (5, lo, hi, o)) : sI w = sI u := by
  have z : ∀ {B s1 : Int} {qr : Nat} {v : va_W}, TW ks ad cy B qr s1 v → gi v q k = 0 := by
    intro B s1 qr v hT
    obtain ⟨fs, he, hlen, hf⟩ := hT.2.1 q κ hq hκ
    obtain ⟨x, hx, hv⟩ := hf k _ ht
    unfold gi; rw [gv_at he]; show (match (fs[k]?).getD .null with | .int x => x | _ => 0) = 0; rw [hx]
    rcases (show (qr = 0 ∧ x = .null) ∨ (x = .ref (ad qr) ∧ ks[qr]? = some 2) from hv) with ⟨-, rfl⟩ | ⟨rfl, -⟩ <;> rfl
  funext q' k'
  by_cases c : q' = q ∧ k' = k
  · obtain ⟨rfl, rfl⟩ := c
    unfold sI; rw [z h1, z h2]
  · exact (sI_at (h.gi (by by_cases e : q' = q; exact Or.inr (fun e2 => c ⟨e, e2⟩); exact Or.inl e) rfl)).symm
section
variable {E : Nat → RR}
theorem TT.rf : TT E E := fun _ h => h
theorem TT.rd {σ : SS} {q k : Nat} {v : Int} {K : Nat → Int → RR} (h : TT E (fun n => mRd σ q k (K n))) (e : σ q k = v) : TT E (fun n => K n v) := by subst e; exact h
theorem TT.ix {i : Int} {j : Nat} {K : Nat → Nat → RR} (h : TT E (fun n => mIx i (K n))) (e : i = (j : Int)) : TT E (fun n => K n j) := by subst e; exact h
theorem TT.wr {σ σ' : SS} {q k : Nat} {v : Int} {K : Nat → SS → RR} (h : TT E (fun n => mWr σ q k v (K n))) (e : upS σ q k v = σ') : TT E (fun n => K n σ') := by subst e; exact h
theorem TT.st {σ σ' : SS} {K : Nat → SS → RR} (h : TT E (fun n => mSt σ (K n))) (e : σ = σ') : TT E (fun n => K n σ') := by subst e; exact h
theorem TT.cp {σ σ' : SS} {q0 q k : Nat} {K : Nat → SS → RR} (h : TT E (fun n => mCp σ q0 q k (K n))) (e : cpS σ q0 q k = σ') : TT E (fun n => K n σ') := by subst e; exact h
theorem TT.lt {x v : Int} {K : Nat → Int → RR} (h : TT E (fun n => mLet x (K n))) (e : x = v) : TT E (fun n => K n v) := by subst e; exact h
theorem TT.pos {c : Prop} [Decidable c] {A B : Nat → RR} (h : TT E (fun n => mIf c (A n) (B n))) (hc : c) : TT E (fun n => A n) := by
  have e : (fun n => mIf c (A n) (B n)) = A := funext fun n => if_pos hc
  rw [e] at h; exact h
theorem TT.neg {c : Prop} [Decidable c] {A B : Nat → RR} (h : TT E (fun n => mIf c (A n) (B n))) (hc : ¬ c) : TT E (fun n => B n) := by
  have e : (fun n => mIf c (A n) (B n)) = B := funext fun n => if_neg hc
  rw [e] at h; exact h
theorem TT.call {F : Nat → RR} {K : Nat → Int → SS → RR} {r r' : Int} {σ' : SS} (h : TT E (fun n => mCall (F n) (K n))) (hF : Ev F (r, σ')) (e : r = r') : TT E (fun n => K n r' σ') := by
  subst e
  rintro ρ ⟨N, hN⟩
  obtain ⟨N', hN'⟩ := hF
  refine h ρ ⟨N + N', fun n hn => ?_⟩
  show mCall (F n) (K n) = some ρ
  rw [hN' n (by omega)]
  exact hN n (by omega)
theorem TT.suc {A B : Nat → RR} (h : TT E A) (e : ∀ n, A (n + 1) = B n) : TT E B := by
  rintro ρ ⟨N, hN⟩
  refine h ρ ⟨N + 1, fun n hn => ?_⟩
  obtain ⟨k, rfl⟩ : ∃ k, n = k + 1 := ⟨n - 1, by omega⟩
  rw [e k]; exact hN k (by omega)
theorem TT.ret {r r' : Int} {σ : SS} (h : TT E (fun _ => mRet r σ)) (e : r = r') : Ev E (r', σ) := by
  subst e; exact h _ ⟨0, fun _ _ => rfl⟩
theorem TT.eq {A B : Nat → RR} (h : TT E A) (e : A = B) : TT E B := by subst e; exact h
end
theorem Ev.det {A : Nat → RR} {ρ τ : Int × SS} (h : Ev A ρ) (g : Ev A τ) : ρ = τ := by
  obtain ⟨N, hN⟩ := h
  obtain ⟨M, hM⟩ := g
  have h1 := hN (N + M) (by omega)
  have h2 := hM (N + M) (by omega)
  rw [h1] at h2; exact Option.some.inj h2
theorem Ev.at {A : Nat → RR} {ρ : Int × SS} (h : Ev A ρ) : ∃ n, A n = some ρ := by
  obtain ⟨N, hN⟩ := h; exact ⟨N, hN N (Nat.le_refl _)⟩
section
variable {p : Program} {l : Launch} {e : Env} {R : Room} {s : State} {m : MethodId} {args : Array Value} {below : List Frame} {meth : Method} {c : Code} {H H0 : Heap} {locs : List Loc} {cells slots : Nat} {Q : State → Prop} {cc : ByteArray} {pc nL : Nat} {ls : Array Slot} {rest : List Value} {dC : Nat → ClassId} {dI : Nat → Nat → Nat} {cy : Nat → ClassId} {A : Nat → Prop} {a : Nat} {ws : va_W} {Ts : List Cond} {own : String} {ks : List Nat} {ad : Nat → Nat} {B s1 : Int} {qr : Nat} {q κ k : Nat} {C : String} {T : u_T} {N index : Nat} {adK adV : Nat → Nat}
theorem tk_copyx {n0 n1 q0 κ0 : Nat} {lo hi lo' hi' : Int} {sp dp n : Int32} (hC : CallFix p m c cc nL s args Ts own) (hK : KK dC dI cy s) (hw : Wd dC dI A H0 H locs ws) (hT : TW ks ad cy B qr s1 ws) (hnL : ls.size = nL) (hlink : Cond.methodLink own index arraycopyName ∈ Ts) (hnat : Cond.native arraycopyName ∈ Ts) (hstat : Cond.static arraycopyName ∈ Ts) (hini : Cond.initialized "java/lang/System" ∈ Ts) (hq0 : ks[q0]? = some κ0) (hq : ks[q]? = some κ) (hκ : 20 ≤ κ) (hak0 : ak κ0 = (0, n0)) (hak : ak κ = (0, n1)) (hu0 : erU κ0 = some (lo, hi)) (hu : erU κ = some (lo', hi')) (hl : lo' ≤ lo) (hh : hi ≤ hi') (hsp : sp = 0) (hdp : dp = 0) (h1 : ¬ sp < 0) (h2 : ¬ dp < 0) (h3 : ¬ n < 0) (h4 : sp.toNatClampNeg + n.toNatClampNeg ≤ n0) (h5 : dp.toNatClampNeg + n.toNatClampNeg ≤ n1) (hn1 : n1 ≤ 100000) (hframes : 1 ≤ R.frames) (hlocals : (rest.map fun v => v.category).sum + (nativeFrameWords "java/lang/System" "arraycopy" 5 + 11) ≤ R.locals) (hdg : decode cc pc = .ok (.invokestatic index, 3))
    (kk : ∀ (H1 : Heap) (locs1 : List Loc) (ws1 : va_W), Wd dC dI A H0 H1 locs1 ws1 → TW ks ad cy B qr s1 ws1 → FE ks [(κ, 0, 100000)] ws ws1 → cpS (sI ws) q0 q n.toNatClampNeg = sI ws1 → W p l e R s m args below meth c H1 locs1 cells slots Q (F0 m (pc + 3) ls rest)) : W p l e R s m args below meth c H locs cells slots Q (F0 m pc ls (.int n :: .int dp :: .ref (ad q) :: .int sp :: .ref (ad q0) :: rest)) := by
  obtain ⟨f, he0, hf⟩ := hT.2.2.1 q0 κ0 hq0 (by rw [hak0]; exact Or.inl rfl)
  obtain ⟨g, he, hg⟩ := hT.2.2.1 q κ hq (by rw [hak]; exact Or.inl rfl)
  rw [hak0] at he0 hf
  rw [hak] at he hg
  refine wk_copyi hC hK hw hnL hlink hnat hstat hini q0 q he0 he h1 h2 h3 h4 h5 hframes hlocals hdg (fun H1 locs1 hw1 => kk H1 locs1 _ hw1 (hT.setf hq hκ hak (Or.inl rfl) he ?_) ?_ ?_)
  · intro j hj
    refine (EI_u hu).mpr ?_
    unfold va_cpy
    by_cases hc : dp.toNatClampNeg ≤ j ∧ j < dp.toNatClampNeg + n.toNatClampNeg
    · rw [if_pos hc]
      have hb := (EI_u hu0).mp (hf (sp.toNatClampNeg + (j - dp.toNatClampNeg)) (by omega))
      exact ⟨Int.le_trans hl hb.1, Int.le_trans hb.2 hh⟩
    · rw [if_neg hc]; exact (EI_u hu).mp (hg j hj)
  · intro q' κ' k' hq' hE
    by_cases h : q' = q
    · subst h
      obtain rfl : κ' = κ := Option.some.inj (hq'.symm.trans hq)
      rw [gv_here he, gv_at he]
      show Value.int (va_cpy f g sp.toNatClampNeg dp.toNatClampNeg n.toNatClampNeg k') = Value.int (g k')
      unfold va_cpy
      rw [if_neg]
      rintro ⟨_, hk⟩
      rw [inE_of (a := 0) (b := 100000) (by simp [inR]) (Nat.zero_le _) (by omega)] at hE
      exact absurd hE (by decide)
    · exact gv_set h
  · subst hsp; subst hdp
    funext q' k'
    unfold cpS sI
    by_cases h : q' = q
    · subst h
      rw [show gi (ws.set q' _) q' k' = va_cpy f g (0 : Int32).toNatClampNeg (0 : Int32).toNatClampNeg n.toNatClampNeg k' from by unfold gi; rw [gv_here he]; rfl]
      unfold va_cpy
      by_cases c : k' < n.toNatClampNeg
      · rw [if_pos ⟨rfl, c⟩, if_pos ⟨Nat.zero_le _, by rw [show (0 : Int32).toNatClampNeg = 0 from rfl]; omega⟩, gi_a he0]
        rw [show (0 : Int32).toNatClampNeg = 0 from rfl, Nat.zero_add, Nat.sub_zero]
      · rw [if_neg (fun q => c q.2), if_neg (fun q => c (by have := q.2; rw [show (0 : Int32).toNatClampNeg = 0 from rfl] at this; omega)), gi_a he]
    · rw [if_neg (fun q => h q.1)]
      unfold gi; rw [gv_set h]
theorem tk_bastv {n : Nat} {i v : Int32} (hC : CallFix p m c cc nL s args Ts own) (hK : KK dC dI cy s) (hw : Wd dC dI A H0 H locs ws) (hT : TW ks ad cy B qr s1 ws) (hq : ks[q]? = some κ) (hκ : 20 ≤ κ) (hak : ak κ = (3, n)) (hu : erU κ = some (-128, 127)) (h0 : 0 ≤ i.toInt) (h1 : i.toInt < n) (hdg : decode cc pc = .ok (.bastore, 1))
    (kk : ∀ (H1 : Heap) (locs1 : List Loc) (ws1 : va_W), Wd dC dI A H0 H1 locs1 ws1 → TW ks ad cy B qr s1 ws1 → F1 ws ws1 q i.toNatClampNeg → gi ws1 q i.toNatClampNeg = v.toInt8.toInt32 → W p l e R s m args below meth c H1 locs1 cells slots Q (F0 m (pc + 1) ls rest)) : W p l e R s m args below meth c H locs cells slots Q (F0 m pc ls (.int v :: .int i :: .ref (ad q) :: rest)) := by
  obtain ⟨f, he, hf⟩ := hT.2.2.1 q κ hq (by rw [hak]; exact Or.inr (Or.inr rfl))
  rw [hak] at he hf
  refine wk_bast hC hK hw q he (vp_in_iff.mpr ⟨h0, h1⟩) hdg (fun H1 locs1 hw1 => kk H1 locs1 _ hw1 (hT.seti hq hκ hak (Or.inr (Or.inr rfl)) he hf ((EI_u hu).mpr (nar_b v))) (F1_seti he) ?_)
  unfold gi; rw [gv_here he]; show upd f i.toNatClampNeg (vp_nar .byte v) i.toNatClampNeg = v.toInt8.toInt32; unfold upd; rw [if_pos rfl]; rfl
end
theorem sxb {x y : Int32} (ey : y = x.toInt8.toInt32) (h0 : 0 ≤ x.toInt) (h1 : x.toInt ≤ 255) : (y.toInt = x.toInt ∧ x.toInt < 128) ∨ (y.toInt = x.toInt - 256 ∧ 128 ≤ x.toInt) := by
  subst ey
  rw [Int8.toInt_toInt32, Int32.toInt_toInt8, Int.bmod_def]
  split <;> omega
theorem ioS_e {x y : Int32} {r : Int} (ey : y = x.toInt8.toInt32) (h0 : 0 ≤ x.toInt) (h1 : x.toInt ≤ 255) (h : (y.toInt = 46 ∧ r = 0) ∨ (y.toInt = 62 ∧ r = 1) ∨ (y.toInt = 60 ∧ r = 2) ∨ (y.toInt = 61 ∧ r = 3) ∨ (¬ y.toInt = 46 ∧ ¬ y.toInt = 62 ∧ ¬ y.toInt = 60 ∧ ¬ y.toInt = 61 ∧ r = -1)) : ioS x.toInt = r := by
  have hb := sxb ey h0 h1
  unfold ioS
  by_cases e1 : x.toInt = 46
  · rw [if_pos e1]; omega
  · rw [if_neg e1]
    by_cases e2 : x.toInt = 62
    · rw [if_pos e2]; omega
    · rw [if_neg e2]
      by_cases e3 : x.toInt = 60
      · rw [if_pos e3]; omega
      · rw [if_neg e3]
        by_cases e4 : x.toInt = 61
        · rw [if_pos e4]; omega
        · rw [if_neg e4]; omega
set_option maxHeartbeats 4000000 in
set_option maxRecDepth 100000 in
theorem x_canEnc (l : Launch) (adK adV : Nat → Nat) (dC : Nat → ClassId) (dI : Nat → Nat → Nat) (cy : Nat → ClassId) (x : Int32) (sz : Nat) : Met l yJ1_canEncode_9a6ad wsJ1_canEncode_9a6ad ({ frames := 1, cells := 0, slots := 0, locals := 12 }) (va_Pc [.int x] (wpreS adK adV dC dI cy sz [])) (va_Qi (fun (r : Int32) (_ : ((Nat → Nat) × (Nat → Nat → Int32))) => (r = 0 ∧ ¬ (0 ≤ x.toInt ∧ x.toInt ≤ 255)) ∨ r = 1) (fun u => wpost dC dI cy (va_A [] sz) []) (va_A [] sz)) 0 0 (va_A [] sz) := by
  refine Met.ofW (cc := cJ1_canEncode_9a6ad) (maxL := 1) (ret := (some .boolean)) (by decide) rfl ?_
  intro p e s m args below meth c s₁ B hml hv
  obtain ⟨rfl, ⟨hsz, hP, hK, hD0⟩, hE, hSR⟩ := hv
  have hx := B.exec
  have hb := B.bytes
  have hr := B.returns
  have hlocks := B.notSynchronized
  have hC : CallFix p m c cJ1_canEncode_9a6ad 1 s _ wsJ1_canEncode_9a6ad RJ1 := ⟨hx, hb, hml, findClass_of_methodNamed B.named, atoms_spec (ws := wsJ1_canEncode_9a6ad) B.pre⟩
  subst hsz
  have hD := hD0.self (sz := s.heap.size)
  generalize hAe : va_A [] s.heap.size = A at hD hE ⊢
  have hA : ∀ q : Nat, s.heap.size ≤ q → A q := fun q h => by rw [← hAe]; exact Or.inr h
  have hw : Wd dC dI A s.heap s.heap [] [] := ⟨hP, hD, va_S.rf⟩
  have hl := lv_entry ([.int x]) (n := 1) (Nat.le_of_ble_eq_true rfl)
  rw [lg_entry_eq]
  generalize (lg_sl ([.int x]) ++ List.replicate (1 - (lg_sl ([.int x])).length) Slot.unset).toArray = ls at hl ⊢
  have hl : lv_has ls 1 [(0, .int x)] := hl
  refine lv_iload_n hx hb dJ1_canEncode_9a6ad_0 rfl (lv_at hl 0 rfl) ?_
  refine lv_if_lt (tgt := 15) hx hb dJ1_canEncode_9a6ad_1 (by decide) (fun c => ?_) (fun c => ?_)
  · refine lv_iconst (v := 0) hx hb dJ1_canEncode_9a6ad_15 (by decide) ?_
    exact wk_zret (v := 0) hC hr rfl hlocks hK ((fun _ => 0), (fun _ _ => 0)) (Or.inl ⟨rfl, fun q => by have h : x.toInt < 0 := wk_lt.mp c; omega⟩) [] rfl rfl hw dJ1_canEncode_9a6ad_16
  · refine lv_iload_n hx hb dJ1_canEncode_9a6ad_4 rfl (lv_at hl 0 rfl) ?_
    refine lv_sipush (v := 255) hx hb dJ1_canEncode_9a6ad_5 (by decide) ?_
    refine lv_icmp_gt (tgt := 15) hx hb dJ1_canEncode_9a6ad_8 (by decide) (fun c => ?_) (fun c => ?_)
    · refine lv_iconst (v := 0) hx hb dJ1_canEncode_9a6ad_15 (by decide) ?_
      exact wk_zret (v := 0) hC hr rfl hlocks hK ((fun _ => 0), (fun _ _ => 0)) (Or.inl ⟨rfl, fun q => by have h : 255 < x.toInt := wk_lt.mp c; omega⟩) [] rfl rfl hw dJ1_canEncode_9a6ad_16
    · refine lv_iconst (v := 1) hx hb dJ1_canEncode_9a6ad_11 (by decide) ?_
      refine lv_goto (tgt := 16) hx hb dJ1_canEncode_9a6ad_12 (by decide) ?_
      exact wk_zret (v := 1) hC hr rfl hlocks hK ((fun _ => 0), (fun _ _ => 0)) (Or.inr rfl) [] rfl rfl hw dJ1_canEncode_9a6ad_16

set_option maxHeartbeats 4000000 in
set_option maxRecDepth 100000 in
theorem x_ioc (l : Launch) (adK adV : Nat → Nat) (dC : Nat → ClassId) (dI : Nat → Nat → Nat) (cy : Nat → ClassId) (x : Int32) (sz : Nat) : Met l yJ1_indexOfChar_4cfef wsJ1_indexOfChar_4cfef ({ frames := 1, cells := 0, slots := 0, locals := 12 }) (va_Pc [.ref (adV 1), .int x, .int 0, .int 4] (wpreS adK adV dC dI cy sz [])) (va_Qi (fun (r : Int32) (_ : ((Nat → Nat) × (Nat → Nat → Int32))) => -1 ≤ r.toInt ∧ r.toInt ≤ 3 ∧ (0 ≤ x.toInt → x.toInt ≤ 255 → ioS x.toInt = r.toInt)) (fun u => wpost dC dI cy (va_A [] sz) []) (va_A [] sz)) 0 0 (va_A [] sz) := by
  refine Met.ofW (cc := cJ1_indexOfChar_4cfef) (maxL := 6) (ret := (some .int)) (by decide) rfl ?_
  intro p e s m args below meth c s₁ B hml hv
  obtain ⟨rfl, ⟨hsz, hP, hK, hD0⟩, hE, hSR⟩ := hv
  have hx := B.exec
  have hb := B.bytes
  have hr := B.returns
  have hlocks := B.notSynchronized
  have hC : CallFix p m c cJ1_indexOfChar_4cfef 6 s _ wsJ1_indexOfChar_4cfef RJ1 := ⟨hx, hb, hml, findClass_of_methodNamed B.named, atoms_spec (ws := wsJ1_indexOfChar_4cfef) B.pre⟩
  subst hsz
  have hD := hD0.self (sz := s.heap.size)
  generalize hAe : va_A [] s.heap.size = A at hD hE ⊢
  have hA : ∀ q : Nat, s.heap.size ≤ q → A q := fun q h => by rw [← hAe]; exact Or.inr h
  have hw : Wd dC dI A s.heap s.heap [] [] := ⟨hP, hD, va_S.rf⟩
  have hl := lv_entry ([.ref (adV 1), .int x, .int 0, .int 4]) (n := 6) (Nat.le_of_ble_eq_true rfl)
  rw [lg_entry_eq]
  generalize (lg_sl ([.ref (adV 1), .int x, .int 0, .int 4]) ++ List.replicate (6 - (lg_sl ([.ref (adV 1), .int x, .int 0, .int 4])).length) Slot.unset).toArray = ls at hl ⊢
  have hl : lv_has ls 6 [(0, .ref (adV 1)), (1, .int x), (2, .int 0), (3, .int 4)] := hl
  refine lv_iload_n hx hb dJ1_indexOfChar_4cfef_0 rfl (lv_at hl 1 rfl) ?_
  refine lv_i2b hx hb dJ1_indexOfChar_4cfef_1 rfl ?_
  refine lv_topi (fun y ey => ?_)
  refine lv_istore (lv' := [(4, .int y), (0, .ref (adV 1)), (1, .int x), (2, .int 0), (3, .int 4)]) hx hb dJ1_indexOfChar_4cfef_2 hl (by decide) rfl (fun ls hl => ?_)
  refine lv_iload_n hx hb dJ1_indexOfChar_4cfef_4 rfl (lv_at hl 3 rfl) ?_
  refine lv_istore (lv' := [(5, .int 0), (4, .int y), (0, .ref (adV 1)), (1, .int x), (2, .int 0), (3, .int 4)]) hx hb dJ1_indexOfChar_4cfef_5 hl (by decide) rfl (fun ls hl => ?_)
  refine lv_iload hx hb dJ1_indexOfChar_4cfef_7 (lv_at hl 0 rfl) ?_
  refine lv_iload_n hx hb dJ1_indexOfChar_4cfef_9 rfl (lv_at hl 5 rfl) ?_
  refine lv_icmp_ge (tgt := 31) hx hb dJ1_indexOfChar_4cfef_10 (by decide) (fun c => absurd c (by decide)) (fun _ => ?_)
  refine lv_aload_n hx hb dJ1_indexOfChar_4cfef_13 rfl (lv_at hl 2 rfl) ?_
  refine lv_iload hx hb dJ1_indexOfChar_4cfef_14 (lv_at hl 0 rfl) ?_
  refine va_tb hx hb (hE.1.1 1 (by decide)).2.2.2 hw.2.2 (vp_in_iff.mpr ⟨by decide, by decide⟩) (v := .int (sxc 1 0)) rfl dJ1_indexOfChar_4cfef_16 ?_
  refine lv_topi (fun z0 ez0 => ?_)
  refine lv_iload hx hb dJ1_indexOfChar_4cfef_17 (lv_at hl 1 rfl) ?_
  refine lv_icmp_ne (tgt := 25) hx hb dJ1_indexOfChar_4cfef_19 (by decide) (fun c0 => ?_) (fun c0 => ?_)
  · refine lv_iinc (v := 1) (lv' := [(5, .int 1), (4, .int y), (0, .ref (adV 1)), (1, .int x), (2, .int 0), (3, .int 4)]) hx hb dJ1_indexOfChar_4cfef_25 hl (k := 0) rfl (by decide) (by decide) rfl (fun ls hl => ?_)
    refine lv_goto (tgt := 7) hx hb dJ1_indexOfChar_4cfef_28 (by decide) ?_
    refine lv_iload hx hb dJ1_indexOfChar_4cfef_7 (lv_at hl 0 rfl) ?_
    refine lv_iload_n hx hb dJ1_indexOfChar_4cfef_9 rfl (lv_at hl 5 rfl) ?_
    refine lv_icmp_ge (tgt := 31) hx hb dJ1_indexOfChar_4cfef_10 (by decide) (fun c => absurd c (by decide)) (fun _ => ?_)
    refine lv_aload_n hx hb dJ1_indexOfChar_4cfef_13 rfl (lv_at hl 2 rfl) ?_
    refine lv_iload hx hb dJ1_indexOfChar_4cfef_14 (lv_at hl 0 rfl) ?_
    refine va_tb hx hb (hE.1.1 1 (by decide)).2.2.2 hw.2.2 (vp_in_iff.mpr ⟨by decide, by decide⟩) (v := .int (sxc 1 1)) rfl dJ1_indexOfChar_4cfef_16 ?_
    refine lv_topi (fun z1 ez1 => ?_)
    refine lv_iload hx hb dJ1_indexOfChar_4cfef_17 (lv_at hl 1 rfl) ?_
    refine lv_icmp_ne (tgt := 25) hx hb dJ1_indexOfChar_4cfef_19 (by decide) (fun c1 => ?_) (fun c1 => ?_)
    · refine lv_iinc (v := 2) (lv' := [(5, .int 2), (4, .int y), (0, .ref (adV 1)), (1, .int x), (2, .int 0), (3, .int 4)]) hx hb dJ1_indexOfChar_4cfef_25 hl (k := 0) rfl (by decide) (by decide) rfl (fun ls hl => ?_)
      refine lv_goto (tgt := 7) hx hb dJ1_indexOfChar_4cfef_28 (by decide) ?_
      refine lv_iload hx hb dJ1_indexOfChar_4cfef_7 (lv_at hl 0 rfl) ?_
      refine lv_iload_n hx hb dJ1_indexOfChar_4cfef_9 rfl (lv_at hl 5 rfl) ?_
      refine lv_icmp_ge (tgt := 31) hx hb dJ1_indexOfChar_4cfef_10 (by decide) (fun c => absurd c (by decide)) (fun _ => ?_)
      refine lv_aload_n hx hb dJ1_indexOfChar_4cfef_13 rfl (lv_at hl 2 rfl) ?_
      refine lv_iload hx hb dJ1_indexOfChar_4cfef_14 (lv_at hl 0 rfl) ?_
      refine va_tb hx hb (hE.1.1 1 (by decide)).2.2.2 hw.2.2 (vp_in_iff.mpr ⟨by decide, by decide⟩) (v := .int (sxc 1 2)) rfl dJ1_indexOfChar_4cfef_16 ?_
      refine lv_topi (fun z2 ez2 => ?_)
      refine lv_iload hx hb dJ1_indexOfChar_4cfef_17 (lv_at hl 1 rfl) ?_
      refine lv_icmp_ne (tgt := 25) hx hb dJ1_indexOfChar_4cfef_19 (by decide) (fun c2 => ?_) (fun c2 => ?_)
      · refine lv_iinc (v := 3) (lv' := [(5, .int 3), (4, .int y), (0, .ref (adV 1)), (1, .int x), (2, .int 0), (3, .int 4)]) hx hb dJ1_indexOfChar_4cfef_25 hl (k := 0) rfl (by decide) (by decide) rfl (fun ls hl => ?_)
        refine lv_goto (tgt := 7) hx hb dJ1_indexOfChar_4cfef_28 (by decide) ?_
        refine lv_iload hx hb dJ1_indexOfChar_4cfef_7 (lv_at hl 0 rfl) ?_
        refine lv_iload_n hx hb dJ1_indexOfChar_4cfef_9 rfl (lv_at hl 5 rfl) ?_
        refine lv_icmp_ge (tgt := 31) hx hb dJ1_indexOfChar_4cfef_10 (by decide) (fun c => absurd c (by decide)) (fun _ => ?_)
        refine lv_aload_n hx hb dJ1_indexOfChar_4cfef_13 rfl (lv_at hl 2 rfl) ?_
        refine lv_iload hx hb dJ1_indexOfChar_4cfef_14 (lv_at hl 0 rfl) ?_
        refine va_tb hx hb (hE.1.1 1 (by decide)).2.2.2 hw.2.2 (vp_in_iff.mpr ⟨by decide, by decide⟩) (v := .int (sxc 1 3)) rfl dJ1_indexOfChar_4cfef_16 ?_
        refine lv_topi (fun z3 ez3 => ?_)
        refine lv_iload hx hb dJ1_indexOfChar_4cfef_17 (lv_at hl 1 rfl) ?_
        refine lv_icmp_ne (tgt := 25) hx hb dJ1_indexOfChar_4cfef_19 (by decide) (fun c3 => ?_) (fun c3 => ?_)
        · refine lv_iinc (v := 4) (lv' := [(5, .int 4), (4, .int y), (0, .ref (adV 1)), (1, .int x), (2, .int 0), (3, .int 4)]) hx hb dJ1_indexOfChar_4cfef_25 hl (k := 0) rfl (by decide) (by decide) rfl (fun ls hl => ?_)
          refine lv_goto (tgt := 7) hx hb dJ1_indexOfChar_4cfef_28 (by decide) ?_
          refine lv_iload hx hb dJ1_indexOfChar_4cfef_7 (lv_at hl 0 rfl) ?_
          refine lv_iload_n hx hb dJ1_indexOfChar_4cfef_9 rfl (lv_at hl 5 rfl) ?_
          refine lv_icmp_ge (tgt := 31) hx hb dJ1_indexOfChar_4cfef_10 (by decide) (fun _ => ?_) (fun c => absurd (by decide) c)
          refine lv_iconst (v := (-1)) hx hb dJ1_indexOfChar_4cfef_31 (by decide) ?_
          exact wk_iret (v := (-1)) hC hr hlocks hK ((fun _ => 0), (fun _ _ => 0)) (⟨by decide, by decide, fun h0 h1 => by have hz0 : z0.toInt = 46 := (by rw [ez0]; decide); have hz1 : z1.toInt = 62 := (by rw [ez1]; decide); have hz2 : z2.toInt = 60 := (by rw [ez2]; decide); have hz3 : z3.toInt = 61 := (by rw [ez3]; decide); have hn0 : ¬ z0.toInt = y.toInt := wk_eqF c0; have hn1 : ¬ z1.toInt = y.toInt := wk_eqF c1; have hn2 : ¬ z2.toInt = y.toInt := wk_eqF c2; have hn3 : ¬ z3.toInt = y.toInt := wk_eqF c3; exact ioS_e ey h0 h1 (by right; right; right; right; exact ⟨by omega, by omega, by omega, by omega, by decide⟩)⟩) [] rfl rfl hw dJ1_indexOfChar_4cfef_32
        · refine lv_iload hx hb dJ1_indexOfChar_4cfef_22 (lv_at hl 0 rfl) ?_
          exact wk_iret (v := 3) hC hr hlocks hK ((fun _ => 0), (fun _ _ => 0)) (⟨by decide, by decide, fun h0 h1 => by have hz0 : z0.toInt = 46 := (by rw [ez0]; decide); have hz1 : z1.toInt = 62 := (by rw [ez1]; decide); have hz2 : z2.toInt = 60 := (by rw [ez2]; decide); have hz3 : z3.toInt = 61 := (by rw [ez3]; decide); have hn0 : ¬ z0.toInt = y.toInt := wk_eqF c0; have hn1 : ¬ z1.toInt = y.toInt := wk_eqF c1; have hn2 : ¬ z2.toInt = y.toInt := wk_eqF c2; have hn3 : z3.toInt = y.toInt := wk_eq.mp c3; exact ioS_e ey h0 h1 (by right; right; right; left; exact ⟨by omega, by decide⟩)⟩) [] rfl rfl hw dJ1_indexOfChar_4cfef_24
      · refine lv_iload hx hb dJ1_indexOfChar_4cfef_22 (lv_at hl 0 rfl) ?_
        exact wk_iret (v := 2) hC hr hlocks hK ((fun _ => 0), (fun _ _ => 0)) (⟨by decide, by decide, fun h0 h1 => by have hz0 : z0.toInt = 46 := (by rw [ez0]; decide); have hz1 : z1.toInt = 62 := (by rw [ez1]; decide); have hz2 : z2.toInt = 60 := (by rw [ez2]; decide); have hn0 : ¬ z0.toInt = y.toInt := wk_eqF c0; have hn1 : ¬ z1.toInt = y.toInt := wk_eqF c1; have hn2 : z2.toInt = y.toInt := wk_eq.mp c2; exact ioS_e ey h0 h1 (by right; right; left; exact ⟨by omega, by decide⟩)⟩) [] rfl rfl hw dJ1_indexOfChar_4cfef_24
    · refine lv_iload hx hb dJ1_indexOfChar_4cfef_22 (lv_at hl 0 rfl) ?_
      exact wk_iret (v := 1) hC hr hlocks hK ((fun _ => 0), (fun _ _ => 0)) (⟨by decide, by decide, fun h0 h1 => by have hz0 : z0.toInt = 46 := (by rw [ez0]; decide); have hz1 : z1.toInt = 62 := (by rw [ez1]; decide); have hn0 : ¬ z0.toInt = y.toInt := wk_eqF c0; have hn1 : z1.toInt = y.toInt := wk_eq.mp c1; exact ioS_e ey h0 h1 (by right; left; exact ⟨by omega, by decide⟩)⟩) [] rfl rfl hw dJ1_indexOfChar_4cfef_24
  · refine lv_iload hx hb dJ1_indexOfChar_4cfef_22 (lv_at hl 0 rfl) ?_
    exact wk_iret (v := 0) hC hr hlocks hK ((fun _ => 0), (fun _ _ => 0)) (⟨by decide, by decide, fun h0 h1 => by have hz0 : z0.toInt = 46 := (by rw [ez0]; decide); have hn0 : z0.toInt = y.toInt := wk_eq.mp c0; exact ioS_e ey h0 h1 (by left; exact ⟨by omega, by decide⟩)⟩) [] rfl rfl hw dJ1_indexOfChar_4cfef_24
set_option maxHeartbeats 4000000 in
set_option maxRecDepth 100000 in
theorem x_io1 (l : Launch) (adK adV : Nat → Nat) (dC : Nat → ClassId) (dI : Nat → Nat → Nat) (cy : Nat → ClassId) (x : Int32) (sz : Nat) : Met l yJ1_indexOf_4cfef wsJ1_indexOf_4cfef ({ frames := 2, cells := 0, slots := 0, locals := 60 }) (va_Pc [.ref (adV 1), .int x, .int 0, .int 4] (wpreS adK adV dC dI cy sz [])) (va_Qi (fun (r : Int32) (_ : ((Nat → Nat) × (Nat → Nat → Int32))) => -1 ≤ r.toInt ∧ r.toInt ≤ 3 ∧ (0 ≤ x.toInt → x.toInt ≤ 255 → ioS x.toInt = r.toInt)) (fun u => wpost dC dI cy (va_A [] sz) []) (va_A [] sz)) 0 0 (va_A [] sz) := by
  refine Met.ofW (cc := cJ1_indexOf_4cfef) (maxL := 4) (ret := (some .int)) (by decide) rfl ?_
  intro p e s m args below meth c s₁ B hml hv
  obtain ⟨rfl, ⟨hsz, hP, hK, hD0⟩, hE, hSR⟩ := hv
  have hx := B.exec
  have hb := B.bytes
  have hr := B.returns
  have hlocks := B.notSynchronized
  have hC : CallFix p m c cJ1_indexOf_4cfef 4 s _ wsJ1_indexOf_4cfef RJ1 := ⟨hx, hb, hml, findClass_of_methodNamed B.named, atoms_spec (ws := wsJ1_indexOf_4cfef) B.pre⟩
  subst hsz
  have hD := hD0.self (sz := s.heap.size)
  generalize hAe : va_A [] s.heap.size = A at hD hE ⊢
  have hA : ∀ q : Nat, s.heap.size ≤ q → A q := fun q h => by rw [← hAe]; exact Or.inr h
  have hw : Wd dC dI A s.heap s.heap [] [] := ⟨hP, hD, va_S.rf⟩
  have hl := lv_entry ([.ref (adV 1), .int x, .int 0, .int 4]) (n := 4) (Nat.le_of_ble_eq_true rfl)
  rw [lg_entry_eq]
  generalize (lg_sl ([.ref (adV 1), .int x, .int 0, .int 4]) ++ List.replicate (4 - (lg_sl ([.ref (adV 1), .int x, .int 0, .int 4])).length) Slot.unset).toArray = ls at hl ⊢
  have hl : lv_has ls 4 [(0, .ref (adV 1)), (1, .int x), (2, .int 0), (3, .int 4)] := hl
  refine lv_iload_n hx hb dJ1_indexOf_4cfef_0 rfl (lv_at hl 1 rfl) ?_
  refine wk_SiS hC hK hw hA hE hSR [] [] rfl rfl rfl rfl (by decide) (x_canEnc l adK adV dC dI cy x s.heap.size) (va_cwS 1 hC.2.2.2.2 gJ1_indexOf_4cfef_J1_canEncode_9a6ad rfl rfl rfl (by decide +kernel) ⟨Nat.le_of_ble_eq_true rfl, Nat.le_of_ble_eq_true rfl⟩) rfl hl.1 rfl (Nat.le_of_ble_eq_true rfl) dJ1_indexOf_4cfef_1 0 0 ⟨rfl, rfl⟩ ⟨Nat.le_of_ble_eq_true rfl, Nat.le_of_ble_eq_true rfl⟩ (fun r u H locs hp hw => ?_)
  have hw : Wd dC dI A s.heap H locs [] := hw
  rcases hp with ⟨rfl, hn⟩ | rfl
  · refine lv_if_ne (tgt := 9) hx hb dJ1_indexOf_4cfef_4 (by decide) (fun c => absurd rfl c) (fun _ => ?_)
    refine lv_iconst (v := (-1)) hx hb dJ1_indexOf_4cfef_7 (by decide) ?_
    exact wk_iret (v := (-1)) hC hr hlocks hK ((fun _ => 0), (fun _ _ => 0)) ⟨by decide, by decide, fun h0 h1 => absurd ⟨h0, h1⟩ hn⟩ [] rfl rfl hw dJ1_indexOf_4cfef_8
  refine lv_if_ne (tgt := 9) hx hb dJ1_indexOf_4cfef_4 (by decide) (fun _ => ?_) (fun c => absurd c (by decide))
  refine lv_iload_n hx hb dJ1_indexOf_4cfef_9 rfl (lv_at hl 2 rfl) ?_
  refine lv_iconst (v := 0) hx hb dJ1_indexOf_4cfef_10 (by decide) ?_
  refine va_mmax hx hb (hC.2.2.1.trans hl.1.symm) hC.2.2.2.1 (hC.2.2.2.2 _ (List.mem_of_getElem? (i := 1) rfl)) (hC.2.2.2.2 _ (List.mem_of_getElem? (i := 2) rfl)) (hC.2.2.2.2 _ (List.mem_of_getElem? (i := 3) rfl)) (hC.2.2.2.2 _ (List.mem_of_getElem? (i := 4) rfl)) (Nat.le_of_ble_eq_true rfl) (Nat.le_of_ble_eq_true rfl) (Nat.zero_le _) (Nat.zero_le _) dJ1_indexOf_4cfef_11 ?_
  refine wk_top 0 (by decide) ?_
  refine lv_istore_n (lv' := [(2, .int 0), (0, .ref (adV 1)), (1, .int x), (3, .int 4)]) hx hb dJ1_indexOf_4cfef_14 rfl hl (by decide) rfl (fun ls hl => ?_)
  refine lv_iload_n hx hb dJ1_indexOf_4cfef_15 rfl (lv_at hl 3 rfl) ?_
  refine lv_aload_n hx hb dJ1_indexOf_4cfef_16 rfl (lv_at hl 1 rfl) ?_
  refine va_tlen hx hb (hE.1.1 1 (by decide)).2.2.2 hw.2.2 rfl dJ1_indexOf_4cfef_17 ?_
  refine wk_top 4 (by decide) ?_
  refine va_mmin hx hb (hC.2.2.1.trans hl.1.symm) hC.2.2.2.1 (hC.2.2.2.2 _ (List.mem_of_getElem? (i := 5) rfl)) (hC.2.2.2.2 _ (List.mem_of_getElem? (i := 6) rfl)) (hC.2.2.2.2 _ (List.mem_of_getElem? (i := 3) rfl)) (hC.2.2.2.2 _ (List.mem_of_getElem? (i := 7) rfl)) (Nat.le_of_ble_eq_true rfl) (Nat.le_of_ble_eq_true rfl) (Nat.zero_le _) (Nat.zero_le _) dJ1_indexOf_4cfef_18 ?_
  refine wk_top 4 (by decide) ?_
  refine lv_istore_n (lv' := [(3, .int 4), (2, .int 0), (0, .ref (adV 1)), (1, .int x)]) hx hb dJ1_indexOf_4cfef_21 rfl hl (by decide) rfl (fun ls hl => ?_)
  refine lv_iload_n hx hb dJ1_indexOf_4cfef_22 rfl (lv_at hl 1 rfl) ?_
  refine lv_iload_n hx hb dJ1_indexOf_4cfef_23 rfl (lv_at hl 0 rfl) ?_
  refine lv_icmp_lt (tgt := 29) hx hb dJ1_indexOf_4cfef_24 (by decide) (fun _ => ?_) (fun c => absurd (by decide) c)
  refine lv_aload_n hx hb dJ1_indexOf_4cfef_29 rfl (lv_at hl 2 rfl) ?_
  refine lv_iload_n hx hb dJ1_indexOf_4cfef_30 rfl (lv_at hl 3 rfl) ?_
  refine lv_iload_n hx hb dJ1_indexOf_4cfef_31 rfl (lv_at hl 1 rfl) ?_
  refine lv_iload_n hx hb dJ1_indexOf_4cfef_32 rfl (lv_at hl 0 rfl) ?_
  refine wk_SiS hC hK hw hA hE hSR [] [] rfl rfl rfl rfl (by decide) (x_ioc l adK adV dC dI cy x H.size) (va_cwS 4 hC.2.2.2.2 gJ1_indexOf_4cfef_J1_indexOfChar_4cfef rfl rfl rfl (by decide +kernel) ⟨Nat.le_of_ble_eq_true rfl, Nat.le_of_ble_eq_true rfl⟩) rfl hl.1 rfl (Nat.le_of_ble_eq_true rfl) dJ1_indexOf_4cfef_33 0 0 ⟨rfl, rfl⟩ ⟨Nat.le_of_ble_eq_true rfl, Nat.le_of_ble_eq_true rfl⟩ (fun r u H locs hp hw => ?_)
  have hw : Wd dC dI A s.heap H locs [] := hw
  exact wk_iret (v := r) hC hr hlocks hK ((fun _ => 0), (fun _ _ => 0)) hp [] rfl rfl hw dJ1_indexOf_4cfef_36

set_option maxHeartbeats 4000000 in
set_option maxRecDepth 100000 in
theorem x_io2 (l : Launch) (adK adV : Nat → Nat) (dC : Nat → ClassId) (dI : Nat → Nat → Nat) (cy : Nat → ClassId) (x : Int32) (sz : Nat) : Met l yJ0_indexOf_7cf53 wsJ0_indexOf_7cf53 ({ frames := 3, cells := 0, slots := 0, locals := 100 }) (va_Pc [.ref (adK 1), .int x, .int 0] (wpreS adK adV dC dI cy sz [])) (va_Qi (fun (r : Int32) (_ : ((Nat → Nat) × (Nat → Nat → Int32))) => -1 ≤ r.toInt ∧ r.toInt ≤ 3 ∧ (0 ≤ x.toInt → x.toInt ≤ 255 → ioS x.toInt = r.toInt)) (fun u => wpost dC dI cy (va_A [] sz) []) (va_A [] sz)) 0 0 (va_A [] sz) := by
  refine Met.ofW (cc := cJ0_indexOf_7cf53) (maxL := 3) (ret := (some .int)) (by decide) rfl ?_
  intro p e s m args below meth c s₁ B hml hv
  obtain ⟨rfl, ⟨hsz, hP, hK, hD0⟩, hE, hSR⟩ := hv
  have hx := B.exec
  have hb := B.bytes
  have hr := B.returns
  have hlocks := B.notSynchronized
  have hC : CallFix p m c cJ0_indexOf_7cf53 3 s _ wsJ0_indexOf_7cf53 RJ0 := ⟨hx, hb, hml, findClass_of_methodNamed B.named, atoms_spec (ws := wsJ0_indexOf_7cf53) B.pre⟩
  subst hsz
  have hD := hD0.self (sz := s.heap.size)
  generalize hAe : va_A [] s.heap.size = A at hD hE ⊢
  have hA : ∀ q : Nat, s.heap.size ≤ q → A q := fun q h => by rw [← hAe]; exact Or.inr h
  have hw : Wd dC dI A s.heap s.heap [] [] := ⟨hP, hD, va_S.rf⟩
  have hl := lv_entry ([.ref (adK 1), .int x, .int 0]) (n := 3) (Nat.le_of_ble_eq_true rfl)
  rw [lg_entry_eq]
  generalize (lg_sl ([.ref (adK 1), .int x, .int 0]) ++ List.replicate (3 - (lg_sl ([.ref (adK 1), .int x, .int 0])).length) Slot.unset).toArray = ls at hl ⊢
  have hl : lv_has ls 3 [(0, .ref (adK 1)), (1, .int x), (2, .int 0)] := hl
  refine lv_aload_n hx hb dJ0_indexOf_7cf53_0 rfl (lv_at hl 0 rfl) ?_
  refine wk_ViT hC hK hw hA hE hSR [] [] rfl rfl rfl rfl (by decide) (s_isLatin1 l adK adV dC dI cy 1 (by decide) s.heap.size) (cwV 0 hC.2.2.2.2 gJ0_indexOf_7cf53_J0_isLatin1_aae02 rfl rfl rfl (by decide +kernel) ⟨Nat.le_of_ble_eq_true rfl, Nat.le_of_ble_eq_true rfl⟩) 1 (by decide) rfl rfl rfl hl.1 rfl (Nat.le_of_ble_eq_true rfl) dJ0_indexOf_7cf53_1 0 0 ⟨rfl, rfl⟩ ⟨Nat.le_of_ble_eq_true rfl, Nat.le_of_ble_eq_true rfl⟩ (fun r u H locs hp hw => ?_)
  have hw : Wd dC dI A s.heap H locs [] := hw
  obtain rfl : r = 1 := hp
  refine lv_if_eq (tgt := 23) hx hb dJ0_indexOf_7cf53_4 (by decide) (fun c => absurd c (by decide)) (fun _ => ?_)
  refine lv_aload_n hx hb dJ0_indexOf_7cf53_7 rfl (lv_at hl 0 rfl) ?_
  refine wk_gf hC hw (hE.1.1 1 (by decide)).2.2.1 (List.mem_of_getElem? (i := 1) rfl) rfl dJ0_indexOf_7cf53_8 ?_
  refine lv_iload_n hx hb dJ0_indexOf_7cf53_11 rfl (lv_at hl 1 rfl) ?_
  refine lv_iload_n hx hb dJ0_indexOf_7cf53_12 rfl (lv_at hl 2 rfl) ?_
  refine lv_aload_n hx hb dJ0_indexOf_7cf53_13 rfl (lv_at hl 0 rfl) ?_
  refine wk_ViT hC hK hw hA hE hSR [] [] rfl rfl rfl rfl (by decide) (s_length l adK adV dC dI cy 1 (by decide) H.size) (cwV 0 hC.2.2.2.2 gJ0_indexOf_7cf53_J0_length_8abf5 rfl rfl rfl (by decide +kernel) ⟨Nat.le_of_ble_eq_true rfl, Nat.le_of_ble_eq_true rfl⟩) 1 (by decide) rfl rfl rfl hl.1 rfl (Nat.le_of_ble_eq_true rfl) dJ0_indexOf_7cf53_14 0 0 ⟨rfl, rfl⟩ ⟨Nat.le_of_ble_eq_true rfl, Nat.le_of_ble_eq_true rfl⟩ (fun r u H locs hp hw => ?_)
  have hw : Wd dC dI A s.heap H locs [] := hw
  obtain rfl : r = 4 := hp
  refine wk_SiS hC hK hw hA hE hSR [] [] rfl rfl rfl rfl (by decide) (x_io1 l adK adV dC dI cy x H.size) (va_cwS 4 hC.2.2.2.2 gJ0_indexOf_7cf53_J1_indexOf_4cfef rfl rfl rfl (by decide +kernel) ⟨Nat.le_of_ble_eq_true rfl, Nat.le_of_ble_eq_true rfl⟩) rfl hl.1 rfl (Nat.le_of_ble_eq_true rfl) dJ0_indexOf_7cf53_17 0 0 ⟨rfl, rfl⟩ ⟨Nat.le_of_ble_eq_true rfl, Nat.le_of_ble_eq_true rfl⟩ (fun r u H locs hp hw => ?_)
  have hw : Wd dC dI A s.heap H locs [] := hw
  refine lv_goto (tgt := 36) hx hb dJ0_indexOf_7cf53_20 (by decide) ?_
  exact wk_iret (v := r) hC hr hlocks hK ((fun _ => 0), (fun _ _ => 0)) hp [] rfl rfl hw dJ0_indexOf_7cf53_36

set_option maxHeartbeats 4000000 in
set_option maxRecDepth 100000 in
theorem x_io (l : Launch) (adK adV : Nat → Nat) (dC : Nat → ClassId) (dI : Nat → Nat → Nat) (cy : Nat → ClassId) (x : Int32) (sz : Nat) : Met l yJ0_indexOf_0f7a4 wsJ0_indexOf_0f7a4 ({ frames := 4, cells := 0, slots := 0, locals := 140 }) (va_Pc [.ref (adK 1), .int x] (wpreS adK adV dC dI cy sz [])) (va_Qi (fun (r : Int32) (_ : ((Nat → Nat) × (Nat → Nat → Int32))) => -1 ≤ r.toInt ∧ r.toInt ≤ 3 ∧ (0 ≤ x.toInt → x.toInt ≤ 255 → ioS x.toInt = r.toInt)) (fun u => wpost dC dI cy (va_A [] sz) []) (va_A [] sz)) 0 0 (va_A [] sz) := by
  refine Met.ofW (cc := cJ0_indexOf_0f7a4) (maxL := 2) (ret := (some .int)) (by decide) rfl ?_
  intro p e s m args below meth c s₁ B hml hv
  obtain ⟨rfl, ⟨hsz, hP, hK, hD0⟩, hE, hSR⟩ := hv
  have hx := B.exec
  have hb := B.bytes
  have hr := B.returns
  have hlocks := B.notSynchronized
  have hC : CallFix p m c cJ0_indexOf_0f7a4 2 s _ wsJ0_indexOf_0f7a4 RJ0 := ⟨hx, hb, hml, findClass_of_methodNamed B.named, atoms_spec (ws := wsJ0_indexOf_0f7a4) B.pre⟩
  subst hsz
  have hD := hD0.self (sz := s.heap.size)
  generalize hAe : va_A [] s.heap.size = A at hD hE ⊢
  have hA : ∀ q : Nat, s.heap.size ≤ q → A q := fun q h => by rw [← hAe]; exact Or.inr h
  have hw : Wd dC dI A s.heap s.heap [] [] := ⟨hP, hD, va_S.rf⟩
  have hl := lv_entry ([.ref (adK 1), .int x]) (n := 2) (Nat.le_of_ble_eq_true rfl)
  rw [lg_entry_eq]
  generalize (lg_sl ([.ref (adK 1), .int x]) ++ List.replicate (2 - (lg_sl ([.ref (adK 1), .int x])).length) Slot.unset).toArray = ls at hl ⊢
  have hl : lv_has ls 2 [(0, .ref (adK 1)), (1, .int x)] := hl
  refine lv_aload_n hx hb dJ0_indexOf_0f7a4_0 rfl (lv_at hl 0 rfl) ?_
  refine lv_iload_n hx hb dJ0_indexOf_0f7a4_1 rfl (lv_at hl 1 rfl) ?_
  refine lv_iconst (v := 0) hx hb dJ0_indexOf_0f7a4_2 (by decide) ?_
  refine wk_ViT hC hK hw hA hE hSR [] [] rfl rfl rfl rfl (by decide) (x_io2 l adK adV dC dI cy x s.heap.size) (cwV 2 hC.2.2.2.2 gJ0_indexOf_0f7a4_J0_indexOf_7cf53 rfl rfl rfl (by decide +kernel) ⟨Nat.le_of_ble_eq_true rfl, Nat.le_of_ble_eq_true rfl⟩) 1 (by decide) rfl rfl rfl hl.1 rfl (Nat.le_of_ble_eq_true rfl) dJ0_indexOf_0f7a4_3 0 0 ⟨rfl, rfl⟩ ⟨Nat.le_of_ble_eq_true rfl, Nat.le_of_ble_eq_true rfl⟩ (fun r u H locs hp hw => ?_)
  have hw : Wd dC dI A s.heap H locs [] := hw
  exact wk_iret (v := r) hC hr hlocks hK ((fun _ => 0), (fun _ _ => 0)) hp [] rfl rfl hw dJ0_indexOf_0f7a4_6
/-- a long written: no number changes -/
theorem sI_long {ks : List Nat} {ad : Nat → Nat} {cy : Nat → ClassId} {B B' s1 s1' lo hi : Int} {qr qr' q κ k o t : Nat} {w u : va_W} (h1 : TW ks ad cy B qr s1 w) (h2 : TW ks ad cy B' qr' s1' u) (h : F1 w u q k) (hq : ks[q]? = some κ) (hκ : κ < 20) (ht : (ft κ)[k]? = some (t, lo, hi, o)) (h14 : t = 1 ∨ t = 4) : sI w = sI u := by
  have z : ∀ {B s1 : Int} {qr : Nat} {v : va_W}, TW ks ad cy B qr s1 v → gi v q k = 0 := by
    intro B s1 qr v hT
    obtain ⟨fs, he, hlen, hf⟩ := hT.2.1 q κ hq hκ
    obtain ⟨x, hx, hv⟩ := hf k _ ht
    unfold gi; rw [gv_at he]; show (match (fs[k]?).getD .null with | .int x => x | _ => 0) = 0; rw [hx]
    rcases h14 with rfl | rfl
    · obtain ⟨y, rfl, -⟩ := (show ∃ y : Int64, x = .long y ∧ lo ≤ y.toInt ∧ y.toInt ≤ hi from hv); rfl
    · obtain ⟨y, rfl, -⟩ := (show ∃ y : Int64, x = .long y ∧ 0 ≤ y.toInt ∧ y.toInt ≤ B from hv); rfl
  funext q' k'
  by_cases c : q' = q ∧ k' = k
  · obtain ⟨rfl, rfl⟩ := c
    unfold sI; rw [z h1, z h2]
  · exact (sI_at (h.gi (by by_cases e : q' = q; exact Or.inr (fun e2 => c ⟨e, e2⟩); exact Or.inl e) rfl)).symm
def mMax (a b : Int) : Int := if b ≤ a then a else b
def mMin (a b : Int) : Int := if a ≤ b then a else b
theorem mMax_e {a b z : Int} (h : (z = a ∧ b ≤ a) ∨ (z = b ∧ a < b)) : mMax a b = z := by
  unfold mMax; rcases h with ⟨h1, h2⟩ | ⟨h1, h2⟩
  · rw [if_pos h2, h1]
  · rw [if_neg (by omega), h1]
theorem mMin_e {a b z : Int} (h : (z = a ∧ a ≤ b) ∨ (z = b ∧ b < a)) : mMin a b = z := by
  unfold mMin; rcases h with ⟨h1, h2⟩ | ⟨h1, h2⟩
  · rw [if_pos h2, h1]
  · rw [if_neg (by omega), h1]
/-! what said held at first: said holds it (SA), kept holds it (KBk) -/
def SA (w0 w : va_W) : Prop := ∀ j : Nat, j < 296 → gi w 12 j = gi w0 12 j
def KBk (w0 w : va_W) : Prop := ∀ j : Nat, j < 296 → gi w 15 j = gi w0 12 j
theorem SA_F1 {w0 w u : va_W} {q k : Nat} (h : F1 w u q k) (hq : (12 : Nat) ≠ q) (hS : SA w0 w) : SA w0 u := fun j hj => (h.gi (Or.inl hq) rfl).trans (hS j hj)
theorem KB_F1 {w0 w u : va_W} {q k : Nat} (h : F1 w u q k) (hq : (15 : Nat) ≠ q) (hS : KBk w0 w) : KBk w0 u := fun j hj => (h.gi (Or.inl hq) rfl).trans (hS j hj)
theorem SA_FE {E : List (Nat × Nat × Nat)} {w0 w u : va_W} (h : FE ksM E w u) (hE : ∀ k : Nat, inE E 71 k = false) (hS : SA w0 w) : SA w0 u := fun j hj => (h.gi kM_at12 (hE j) rfl).trans (hS j hj)
theorem KB_FE {E : List (Nat × Nat × Nat)} {w0 w u : va_W} (h : FE ksM E w u) (hE : ∀ k : Nat, inE E 74 k = false) (hS : KBk w0 w) : KBk w0 u := fun j hj => (h.gi kM_at15 (hE j) rfl).trans (hS j hj)
theorem kp_all {w0 w w1 : va_W} {qs qd : Nat} {i k k' x : Int32} (hI : ∀ j : Nat, (j : Int) < k.toInt → gi w qd j = gi w0 qs j) (h1 : F1 w w1 qd i.toNatClampNeg) (hi : i.toInt = k.toInt) (hx : gi w1 qd i.toNatClampNeg = x) (hl : gi w qs k.toInt.toNat = x) (hs : ∀ j : Nat, gi w qs j = gi w0 qs j) (hk : 0 ≤ k.toInt) (hk' : k'.toInt = k.toInt + 1) : ∀ j : Nat, (j : Int) < k'.toInt → gi w1 qd j = gi w0 qs j := by
  intro j hj
  have ei : i.toNatClampNeg = i.toInt.toNat := rfl
  by_cases e : (j : Int) = k.toInt
  · have e1 : i.toNatClampNeg = j := by rw [ei]; omega
    have e2 : k.toInt.toNat = j := by omega
    rw [e1] at hx
    rw [e2] at hl
    rw [hx, ← hl, hs]
  · exact (h1.gi (Or.inr (by rw [ei]; omega)) rfl).trans (hI j (by omega))
