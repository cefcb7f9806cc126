/-! what the readers of RULES put out: one machine that both goₓ by -/
abbrev XC := Nat × Int × List Int × List Int × (Int × Nat) × List (Int × Nat × Bool × Nat)
def xtop (P : Int → Bool) : List Int → Bool
  | [] => false
  | tₓ :: _ => P tₓ
def isMu (tₓ : Int) : Bool := decide (tₓ = 12 ∨ tₓ = 13)
def isAd (tₓ : Int) : Bool := decide (tₓ = 10 ∨ tₓ = 11)
def isLg (tₓ : Int) : Bool := decide (tₓ = 19 ∨ tₓ = 20)
def isOrT (tₓ : Int) : Bool := decide (tₓ = 21)
def isBrT (tₓ : Int) : Bool := decide (tₓ = 91)
def muAt (fₓ : Int → Int) (nₓ qₓ : Int) : Bool := byteIs fₓ nₓ qₓ 42 || byteIs fₓ nₓ qₓ 47
def opTok (fₓ : Int → Int) (nₓ qₓ : Int) : Int := if byteIs fₓ nₓ qₓ 43 = true then 10 else if byteIs fₓ nₓ qₓ 45 = true then 11 else if byteIs fₓ nₓ qₓ 42 = true then 12 else 13
def cmpTok (fₓ : Int → Int) (nₓ qₓ : Int) : Int := if byteIs fₓ nₓ qₓ 61 = true then 16 else if byteIs fₓ nₓ qₓ 60 = true then (if byteIs fₓ nₓ (qₓ + 1) 61 = true then 15 else 14) else (if byteIs fₓ nₓ (qₓ + 1) 61 = true then 17 else 18)
def vtok (fₓ : Int → Int) (nₓ qₓ : Int) : Int := if qₓ < nₓ ∧ isDg fₓ qₓ = true then 32 + nv fₓ nₓ qₓ else idxW fₓ (wd fₓ nₓ qₓ) qₓ wVals 0
def vend (fₓ : Int → Int) (nₓ qₓ : Int) : Int := if qₓ < nₓ ∧ isDg fₓ qₓ = true then dg fₓ nₓ qₓ else wd fₓ nₓ qₓ
def okV (tₓ : Int) : Bool := decide ((0 ≤ tₓ ∧ tₓ < 10) ∨ (32 ≤ tₓ ∧ tₓ ≤ 100031))
def okK (tₓ : Int) : Prop := okV tₓ = true ∨ (10 ≤ tₓ ∧ tₓ ≤ 21)
def xval (fₓ : Int → Int) (nₓ : Int) (nx : Nat) (qₓ : Int) (W O : List Int) (cₓ : Int × Nat) (R : List (Int × Nat × Bool × Nat)) : XC :=
  if okV (vtok fₓ nₓ qₓ) = true then (nx, sk fₓ nₓ (vend fₓ nₓ qₓ), W, vtok fₓ nₓ qₓ :: O, cₓ, R) else (10, qₓ, W, O, cₓ, R)
def xstep (fₓ : Int → Int) (nₓ : Int) : XC → XC
  | (0, qₓ, W, O, _, R) => (1, sk fₓ nₓ (wd fₓ nₓ qₓ), W, O, (idxW fₓ (wd fₓ nₓ qₓ) qₓ wDeeds 0, O.length), R)
  | (1, qₓ, W, O, cₓ, R) => if isWd fₓ nₓ qₓ wIf = true then (2, sk fₓ nₓ (wd fₓ nₓ qₓ), W, O, cₓ, R) else (8, qₓ, W, O, cₓ, (cₓ.1, cₓ.2, false, O.length) :: R)
  | (2, qₓ, W, O, cₓ, R) => if isWd fₓ nₓ qₓ wNot = true then (2, sk fₓ nₓ (wd fₓ nₓ qₓ), 19 :: W, O, cₓ, R) else if byteIs fₓ nₓ qₓ 91 = true then (2, sk fₓ nₓ (qₓ + 1), 91 :: W, O, cₓ, R) else (3, qₓ, W, O, cₓ, R)
  | (3, qₓ, W, O, cₓ, R) => xval fₓ nₓ 5 qₓ W O cₓ R
  | (4, qₓ, W, O, cₓ, R) => xval fₓ nₓ 6 qₓ W O cₓ R
  | (5, qₓ, W, O, cₓ, R) => if xtop isMu W = true then (5, qₓ, W.tail, W.headD 0 :: O, cₓ, R) else if muAt fₓ nₓ qₓ = true then (3, sk fₓ nₓ (qₓ + 1), opTok fₓ nₓ qₓ :: W, O, cₓ, R) else if xtop isAd W = true then (5, qₓ, W.tail, W.headD 0 :: O, cₓ, R) else if opAt fₓ nₓ qₓ = true then (3, sk fₓ nₓ (qₓ + 1), opTok fₓ nₓ qₓ :: W, O, cₓ, R) else (4, sk fₓ nₓ (qₓ + cmpLen fₓ nₓ qₓ), cmpTok fₓ nₓ qₓ :: W, O, cₓ, R)
  | (6, qₓ, W, O, cₓ, R) => if xtop isMu W = true then (6, qₓ, W.tail, W.headD 0 :: O, cₓ, R) else if muAt fₓ nₓ qₓ = true then (4, sk fₓ nₓ (qₓ + 1), opTok fₓ nₓ qₓ :: W, O, cₓ, R) else if xtop isAd W = true then (6, qₓ, W.tail, W.headD 0 :: O, cₓ, R) else if opAt fₓ nₓ qₓ = true then (4, sk fₓ nₓ (qₓ + 1), opTok fₓ nₓ qₓ :: W, O, cₓ, R) else (7, qₓ, W.tail, W.headD 0 :: O, cₓ, R)
  | (7, qₓ, W, O, cₓ, R) => if xtop isLg W = true then (7, qₓ, W.tail, W.headD 0 :: O, cₓ, R) else if isWd fₓ nₓ qₓ wAnd = true then (2, sk fₓ nₓ (wd fₓ nₓ qₓ), 20 :: W, O, cₓ, R) else if xtop isOrT W = true then (7, qₓ, W.tail, W.headD 0 :: O, cₓ, R) else if isWd fₓ nₓ qₓ wOr = true then (2, sk fₓ nₓ (wd fₓ nₓ qₓ), 21 :: W, O, cₓ, R) else if xtop isBrT W = true then (7, sk fₓ nₓ (qₓ + 1), W.tail, O, cₓ, R) else (8, qₓ, W, O, cₓ, (cₓ.1, cₓ.2, true, O.length) :: R)
  | (8, qₓ, W, O, cₓ, R) => if byteIs fₓ nₓ qₓ 59 = true then (0, sk fₓ nₓ (qₓ + 1), W, O, cₓ, R) else (9, qₓ, W, O, cₓ, R)
  | cₓ => cₓ
def xit (fₓ : Int → Int) (nₓ : Int) : Nat → XC → XC
  | 0, cₓ => cₓ
  | jₓ + 1, cₓ => xit fₓ nₓ jₓ (xstep fₓ nₓ cₓ)
def XS (fₓ : Int → Int) (nₓ : Int) (cₓ dₓ : XC) : Prop := ∃ jₓ : Nat, xit fₓ nₓ jₓ cₓ = dₓ
section
variable {F : Int → Int} {N : Int} {aₓ bₓ dₓ : XC}
theorem XS.rf : XS F N aₓ aₓ := ⟨0, rfl⟩
theorem xit_add : ∀ (jₓ kₓ : Nat) (cₓ : XC), xit F N (jₓ + kₓ) cₓ = xit F N kₓ (xit F N jₓ cₓ)
  | 0, kₓ, cₓ => by rw [Nat.zero_add]; rfl
  | jₓ + 1, kₓ, cₓ => by rw [Nat.succ_add]; exact xit_add jₓ kₓ (xstep F N cₓ)
theorem XS.tr (h1ₓ : XS F N aₓ bₓ) (h2ₓ : XS F N bₓ dₓ) : XS F N aₓ dₓ := by
  obtain ⟨jₓ, hjₓ⟩ := h1ₓ
  obtain ⟨kₓ, hkₓ⟩ := h2ₓ
  exact ⟨jₓ + kₓ, by rw [xit_add, hjₓ, hkₓ]⟩
theorem XS_one (hₓ : xstep F N aₓ = bₓ) : XS F N aₓ bₓ := ⟨1, hₓ⟩
theorem x9_stays {qₓ : Int} {W O : List Int} {cₓ : Int × Nat} {R : List (Int × Nat × Bool × Nat)} : ∀ jₓ : Nat, xit F N jₓ (9, qₓ, W, O, cₓ, R) = (9, qₓ, W, O, cₓ, R)
  | 0 => rfl
  | jₓ + 1 => x9_stays jₓ
theorem XS_det {qₓ q'ₓ : Int} {W O W' O' : List Int} {cₓ c'ₓ : Int × Nat} {R R' : List (Int × Nat × Bool × Nat)} (h1ₓ : XS F N aₓ (9, qₓ, W, O, cₓ, R)) (h2ₓ : XS F N aₓ (9, q'ₓ, W', O', c'ₓ, R')) : O = O' ∧ R = R' := by
  obtain ⟨jₓ, hjₓ⟩ := h1ₓ
  obtain ⟨kₓ, hkₓ⟩ := h2ₓ
  have h3ₓ : xit F N (jₓ + kₓ) aₓ = (9, qₓ, W, O, cₓ, R) := by rw [xit_add, hjₓ, x9_stays]
  have h4ₓ : xit F N (jₓ + kₓ) aₓ = (9, q'ₓ, W', O', c'ₓ, R') := by rw [Nat.add_comm, xit_add, hkₓ, x9_stays]
  have h5ₓ : ((9, qₓ, W, O, cₓ, R) : XC) = (9, q'ₓ, W', O', c'ₓ, R') := h3ₓ.symm.trans h4ₓ
  exact ⟨congrArg (fun xₓ : XC => xₓ.2.2.2.1) h5ₓ, congrArg (fun xₓ : XC => xₓ.2.2.2.2.2) h5ₓ⟩
end
/-! what stands on the stack: true aₓ fact, false aₓ number -/
def tyT (tₓ : Int) (S : List Bool) : Option (List Bool) :=
  if 10 ≤ tₓ ∧ tₓ ≤ 13 then (match S with
    | false :: false :: T => some (false :: T)
    | _ => none)
  else if 14 ≤ tₓ ∧ tₓ ≤ 18 then (match S with
    | false :: false :: T => some (true :: T)
    | _ => none)
  else if tₓ = 19 then (match S with
    | true :: T => some (true :: T)
    | _ => none)
  else if tₓ = 20 ∨ tₓ = 21 then (match S with
    | true :: true :: T => some (true :: T)
    | _ => none)
  else some (false :: S)
def Ty (sₓ : Nat) : List Int → List Bool → Prop
  | [], S => sₓ = 0 ∧ S = []
  | tₓ :: O, S => (O.length + 1 = sₓ ∧ S = []) ∨ (sₓ ≤ O.length ∧ ∃ T, Ty sₓ O T ∧ tyT tₓ T = some S)
def nthO (O : List Int) (jₓ : Nat) : Int := O.getD (O.length - 1 - jₓ) 0
def CTy (fₓ : Nat → Int) (sₓ eₓ : Nat) : Prop := ∃ D : Nat → List Bool, D sₓ = [] ∧ D eₓ = [true] ∧ ∀ jₓ : Nat, sₓ ≤ jₓ → jₓ < eₓ → tyT (fₓ jₓ) (D jₓ) = some (D (jₓ + 1))
def tyW : List Int → List Bool
  | [] => []
  | tₓ :: W => if 10 ≤ tₓ ∧ tₓ ≤ 18 then false :: tyW W else if tₓ = 20 ∨ tₓ = 21 then true :: tyW W else tyW W
def lgW (W : List Int) : Prop := ∀ tₓ ∈ W, tₓ = 19 ∨ tₓ = 20 ∨ tₓ = 21 ∨ tₓ = 91
def baW (kₓ : Bool) (W : List Int) : Prop := if kₓ = true then (∃ (tₓ : Int) (V : List Int), W = tₓ :: V ∧ 14 ≤ tₓ ∧ tₓ ≤ 18 ∧ lgW V) else lgW W
def adW (kₓ : Bool) (W : List Int) : Prop := baW kₓ W ∨ ∃ (tₓ : Int) (V : List Int), W = tₓ :: V ∧ (tₓ = 10 ∨ tₓ = 11) ∧ baW kₓ V
def muW (kₓ : Bool) (W : List Int) : Prop := adW kₓ W ∨ ∃ (tₓ : Int) (V : List Int), W = tₓ :: V ∧ (tₓ = 12 ∨ tₓ = 13) ∧ adW kₓ V
def RI (O : List Int) (R : List (Int × Nat × Bool × Nat)) : Prop := (∀ tₓ ∈ O, okK tₓ) ∧ ∀ xₓ ∈ R, xₓ.2.1 ≤ xₓ.2.2.2 ∧ xₓ.2.2.2 ≤ O.length ∧ (xₓ.2.2.1 = false → xₓ.2.1 = xₓ.2.2.2) ∧ (xₓ.2.2.1 = true → xₓ.2.1 < xₓ.2.2.2 ∧ CTy (nthO O) xₓ.2.1 xₓ.2.2.2)
def XI : XC → Prop
  | (0, _, W, O, _, R) => W = [] ∧ RI O R
  | (1, _, W, O, cₓ, R) => W = [] ∧ cₓ.2 = O.length ∧ RI O R
  | (2, _, W, O, cₓ, R) => lgW W ∧ Ty cₓ.2 O (tyW W) ∧ RI O R
  | (3, _, W, O, cₓ, R) => muW false W ∧ Ty cₓ.2 O (tyW W) ∧ RI O R
  | (4, _, W, O, cₓ, R) => muW true W ∧ Ty cₓ.2 O (tyW W) ∧ RI O R
  | (5, _, W, O, cₓ, R) => muW false W ∧ Ty cₓ.2 O (false :: tyW W) ∧ RI O R
  | (6, _, W, O, cₓ, R) => muW true W ∧ Ty cₓ.2 O (false :: tyW W) ∧ RI O R
  | (7, _, W, O, cₓ, R) => lgW W ∧ Ty cₓ.2 O (true :: tyW W) ∧ RI O R
  | (8, _, W, O, _, R) => W = [] ∧ RI O R
  | (9, _, _, O, _, R) => RI O R
  | _ => True
section
variable {F : Int → Int} {N : Int} {O W V : List Int} {S T : List Bool} {sₓ eₓ tₓ : Nat} {xₓ : Int} {kₓ : Bool} {R : List (Int × Nat × Bool × Nat)} {cₓ : Int × Nat} {qₓ : Int}
theorem Ty_nil : ∀ {O : List Int} {sₓ : Nat}, O.length = sₓ → Ty sₓ O []
  | [], sₓ, hₓ => ⟨hₓ.symm, rfl⟩
  | _ :: O, sₓ, hₓ => Or.inl ⟨hₓ, rfl⟩
theorem Ty_le : ∀ {O : List Int} {sₓ : Nat} {S : List Bool}, Ty sₓ O S → sₓ ≤ O.length
  | [], sₓ, S, hₓ => by rw [hₓ.1]; exact Nat.zero_le _
  | tₓ :: O, sₓ, S, hₓ => by
    rw [List.length_cons]
    rcases hₓ with hₓ | hₓ
    · omega
    · exact Nat.le_succ_of_le hₓ.1
theorem Ty_put (hₓ : Ty sₓ O S) (htₓ : tyT xₓ S = some T) : Ty sₓ (xₓ :: O) T := Or.inr ⟨Ty_le hₓ, S, hₓ, htₓ⟩
theorem nthO_old {jₓ : Nat} (hₓ : jₓ < O.length) : nthO (xₓ :: O) jₓ = nthO O jₓ := by
  unfold nthO
  rw [List.length_cons, show O.length + 1 - 1 - jₓ = (O.length - 1 - jₓ) + 1 by omega]
  rfl
theorem nthO_new : nthO (xₓ :: O) O.length = xₓ := by
  unfold nthO
  rw [List.length_cons, show O.length + 1 - 1 - O.length = 0 by omega]
  rfl
theorem CTy_congr {fₓ gₓ : Nat → Int} (hₓ : CTy fₓ sₓ eₓ) (hgₓ : ∀ jₓ : Nat, sₓ ≤ jₓ → jₓ < eₓ → gₓ jₓ = fₓ jₓ) : CTy gₓ sₓ eₓ := by
  obtain ⟨D, h0ₓ, h1ₓ, h2ₓ⟩ := hₓ
  exact ⟨D, h0ₓ, h1ₓ, fun jₓ aₓ bₓ => by rw [hgₓ jₓ aₓ bₓ]; exact h2ₓ jₓ aₓ bₓ⟩
theorem Ty_run : ∀ {O : List Int} {sₓ : Nat} {S : List Bool}, Ty sₓ O S → ∃ D : Nat → List Bool, D sₓ = [] ∧ D O.length = S ∧ ∀ jₓ : Nat, sₓ ≤ jₓ → jₓ < O.length → tyT (nthO O jₓ) (D jₓ) = some (D (jₓ + 1))
  | [], sₓ, S, hₓ => by
    obtain ⟨rfl, rfl⟩ := hₓ
    exact ⟨fun _ => [], rfl, rfl, fun jₓ _ hₓ => absurd hₓ (Nat.not_lt_zero _)⟩
  | tₓ :: O, sₓ, S, hₓ => by
    rcases hₓ with ⟨h1ₓ, rfl⟩ | ⟨h1ₓ, T, hTₓ, htₓ⟩
    · refine ⟨fun _ => [], rfl, rfl, fun jₓ aₓ bₓ => ?_⟩
      rw [List.length_cons] at bₓ; omega
    · obtain ⟨D, d0ₓ, d1ₓ, d2ₓ⟩ := Ty_run hTₓ
      refine ⟨fun jₓ => if jₓ = O.length + 1 then S else D jₓ, ?_, ?_, fun jₓ aₓ bₓ => ?_⟩
      · show (if sₓ = O.length + 1 then S else D sₓ) = []
        rw [if_neg (by omega)]; exact d0ₓ
      · show (if (tₓ :: O).length = O.length + 1 then S else D (tₓ :: O).length) = S
        rw [if_pos (List.length_cons)]
      · rw [List.length_cons] at bₓ
        show tyT (nthO (tₓ :: O) jₓ) (if jₓ = O.length + 1 then S else D jₓ) = some (if jₓ + 1 = O.length + 1 then S else D (jₓ + 1))
        rw [if_neg (by omega)]
        by_cases cₓ : jₓ = O.length
        · subst cₓ
          rw [if_pos rfl, nthO_new, d1ₓ]; exact htₓ
        · rw [if_neg (by omega), nthO_old (by omega)]
          exact d2ₓ jₓ aₓ (by omega)
theorem nthO_mem : ∀ {O : List Int} {jₓ : Nat}, jₓ < O.length → nthO O jₓ ∈ O
  | [], jₓ, hₓ => absurd hₓ (Nat.not_lt_zero _)
  | xₓ :: O, jₓ, hₓ => by
    rw [List.length_cons] at hₓ
    by_cases cₓ : jₓ = O.length
    · subst cₓ; rw [nthO_new]; exact List.mem_cons_self
    · rw [nthO_old (by omega)]; exact List.mem_cons_of_mem _ (nthO_mem (by omega))
theorem RI_put (hxₓ : okK xₓ) (hₓ : RI O R) : RI (xₓ :: O) R := by
  refine ⟨fun tₓ htₓ => ?_, fun yₓ hyₓ => ?_⟩
  · rcases List.mem_cons.mp htₓ with rfl | htₓ
    · exact hxₓ
    · exact hₓ.1 tₓ htₓ
  obtain ⟨h1ₓ, h2ₓ, h3ₓ, h4ₓ⟩ := hₓ.2 yₓ hyₓ
  refine ⟨h1ₓ, by rw [List.length_cons]; omega, h3ₓ, fun hbₓ => ⟨(h4ₓ hbₓ).1, CTy_congr (h4ₓ hbₓ).2 (fun jₓ _ bₓ => nthO_old (by omega))⟩⟩
theorem RI_add {yₓ : Int × Nat × Bool × Nat} (hₓ : RI O R) (hyₓ : yₓ.2.1 ≤ yₓ.2.2.2 ∧ yₓ.2.2.2 ≤ O.length ∧ (yₓ.2.2.1 = false → yₓ.2.1 = yₓ.2.2.2) ∧ (yₓ.2.2.1 = true → yₓ.2.1 < yₓ.2.2.2 ∧ CTy (nthO O) yₓ.2.1 yₓ.2.2.2)) : RI O (yₓ :: R) := by
  refine ⟨hₓ.1, fun zₓ hzₓ => ?_⟩
  rcases List.mem_cons.mp hzₓ with rfl | hzₓ
  · exact hyₓ
  · exact hₓ.2 zₓ hzₓ
theorem lgW_c (hₓ : lgW (xₓ :: W)) : (xₓ = 19 ∨ xₓ = 20 ∨ xₓ = 21 ∨ xₓ = 91) ∧ lgW W := ⟨hₓ xₓ List.mem_cons_self, fun tₓ htₓ => hₓ tₓ (List.mem_cons_of_mem _ htₓ)⟩
theorem lgW_p (hxₓ : xₓ = 19 ∨ xₓ = 20 ∨ xₓ = 21 ∨ xₓ = 91) (hₓ : lgW W) : lgW (xₓ :: W) := by
  intro tₓ htₓ
  rcases List.mem_cons.mp htₓ with rfl | htₓ
  · exact hxₓ
  · exact hₓ tₓ htₓ
theorem lgW_n : lgW [] := fun tₓ htₓ => absurd htₓ List.not_mem_nil
theorem isMu_i : isMu xₓ = true ↔ (xₓ = 12 ∨ xₓ = 13) := decide_eq_true_iff
theorem isAd_i : isAd xₓ = true ↔ (xₓ = 10 ∨ xₓ = 11) := decide_eq_true_iff
theorem isLg_i : isLg xₓ = true ↔ (xₓ = 19 ∨ xₓ = 20) := decide_eq_true_iff
theorem isOrT_i : isOrT xₓ = true ↔ xₓ = 21 := decide_eq_true_iff
theorem isBrT_i : isBrT xₓ = true ↔ xₓ = 91 := decide_eq_true_iff
/-- neither * nor /, nor + nor - waits on top -/
theorem baW_mu (hₓ : baW kₓ W) : xtop isMu W = false ∧ xtop isAd W = false := by
  have gₓ : ∀ (yₓ : Int) (V : List Int), 14 ≤ yₓ → xtop isMu (yₓ :: V) = false ∧ xtop isAd (yₓ :: V) = false := by
    intro yₓ V hyₓ
    exact ⟨Bool.eq_false_iff.mpr (fun qₓ => by have := isMu_i.mp (show isMu yₓ = true from qₓ); omega), Bool.eq_false_iff.mpr (fun qₓ => by have := isAd_i.mp (show isAd yₓ = true from qₓ); omega)⟩
  cases kₓ with
  | true =>
    obtain ⟨yₓ, V, rfl, h1ₓ, h2ₓ, h3ₓ⟩ := (show ∃ (tₓ : Int) (V : List Int), W = tₓ :: V ∧ 14 ≤ tₓ ∧ tₓ ≤ 18 ∧ lgW V from hₓ)
    exact gₓ yₓ V h1ₓ
  | false =>
    have h'ₓ : lgW W := hₓ
    cases W with
    | nil => exact ⟨rfl, rfl⟩
    | cons yₓ V => exact gₓ yₓ V (by have := (lgW_c h'ₓ).1; omega)
theorem adW_mu (hₓ : adW kₓ W) : xtop isMu W = false := by
  rcases hₓ with hₓ | ⟨yₓ, V, rfl, h1ₓ, h2ₓ⟩
  · exact (baW_mu hₓ).1
  · exact Bool.eq_false_iff.mpr (fun qₓ => by have := isMu_i.mp (show isMu yₓ = true from qₓ); omega)
theorem tyW_n (hₓ : 10 ≤ xₓ ∧ xₓ ≤ 18) : tyW (xₓ :: W) = false :: tyW W := if_pos hₓ
theorem tyW_b (hₓ : xₓ = 20 ∨ xₓ = 21) : tyW (xₓ :: W) = true :: tyW W := by
  show (if 10 ≤ xₓ ∧ xₓ ≤ 18 then _ else if xₓ = 20 ∨ xₓ = 21 then _ else _) = _
  rw [if_neg (by omega), if_pos hₓ]
theorem tyW_o (hₓ : xₓ = 19 ∨ xₓ = 91) : tyW (xₓ :: W) = tyW W := by
  show (if 10 ≤ xₓ ∧ xₓ ≤ 18 then _ else if xₓ = 20 ∨ xₓ = 21 then _ else _) = _
  rw [if_neg (by omega), if_neg (by omega)]
theorem tyT_v (hₓ : okV xₓ = true) : tyT xₓ S = some (false :: S) := by
  have h'ₓ : (0 ≤ xₓ ∧ xₓ < 10) ∨ (32 ≤ xₓ ∧ xₓ ≤ 100031) := of_decide_eq_true hₓ
  unfold tyT
  rw [if_neg (by omega), if_neg (by omega), if_neg (by omega), if_neg (by omega)]
theorem tyT_a (hₓ : 10 ≤ xₓ ∧ xₓ ≤ 13) : tyT xₓ (false :: false :: S) = some (false :: S) := by unfold tyT; rw [if_pos hₓ]
theorem tyT_c (hₓ : 14 ≤ xₓ ∧ xₓ ≤ 18) : tyT xₓ (false :: false :: S) = some (true :: S) := by unfold tyT; rw [if_neg (by omega), if_pos hₓ]
theorem tyT_n : tyT 19 (true :: S) = some (true :: S) := by unfold tyT; rw [if_neg (by omega), if_neg (by omega), if_pos rfl]
theorem tyT_j (hₓ : xₓ = 20 ∨ xₓ = 21) : tyT xₓ (true :: true :: S) = some (true :: S) := by unfold tyT; rw [if_neg (by omega), if_neg (by omega), if_neg (by omega), if_pos hₓ]
theorem byteIs_i {yₓ : Int} : byteIs F N qₓ yₓ = true ↔ (qₓ < N ∧ F qₓ = yₓ) := decide_eq_true_iff
theorem muAt_i : muAt F N qₓ = true ↔ (qₓ < N ∧ (F qₓ = 42 ∨ F qₓ = 47)) := by
  unfold muAt
  rw [Bool.or_eq_true, byteIs_i, byteIs_i]
  omega
theorem opTok_i : (F qₓ = 43 ∧ qₓ < N → opTok F N qₓ = 10) ∧ (F qₓ = 45 ∧ qₓ < N → opTok F N qₓ = 11) ∧ (F qₓ = 42 ∧ qₓ < N → opTok F N qₓ = 12) ∧ (F qₓ = 47 ∧ qₓ < N → opTok F N qₓ = 13) := by
  unfold opTok
  refine ⟨fun hₓ => ?_, fun hₓ => ?_, fun hₓ => ?_, fun hₓ => ?_⟩
  · rw [if_pos (byteIs_i.mpr ⟨hₓ.2, hₓ.1⟩)]
  · rw [if_neg (fun gₓ => by have := byteIs_i.mp gₓ; omega), if_pos (byteIs_i.mpr ⟨hₓ.2, hₓ.1⟩)]
  · rw [if_neg (fun gₓ => by have := byteIs_i.mp gₓ; omega), if_neg (fun gₓ => by have := byteIs_i.mp gₓ; omega), if_pos (byteIs_i.mpr ⟨hₓ.2, hₓ.1⟩)]
  · rw [if_neg (fun gₓ => by have := byteIs_i.mp gₓ; omega), if_neg (fun gₓ => by have := byteIs_i.mp gₓ; omega), if_neg (fun gₓ => by have := byteIs_i.mp gₓ; omega)]
theorem opTok_r : 10 ≤ opTok F N qₓ ∧ opTok F N qₓ ≤ 13 := by
  unfold opTok; repeat (split; decide)
  decide
theorem opTok_mu (hₓ : muAt F N qₓ = true) : opTok F N qₓ = 12 ∨ opTok F N qₓ = 13 := by
  have h1ₓ := muAt_i.mp hₓ
  have h2ₓ := opTok_i (F := F) (N := N) (qₓ := qₓ)
  rcases h1ₓ.2 with cₓ | cₓ
  · exact Or.inl (h2ₓ.2.2.1 ⟨cₓ, h1ₓ.1⟩)
  · exact Or.inr (h2ₓ.2.2.2 ⟨cₓ, h1ₓ.1⟩)
theorem opAt_x : opAt F N qₓ = true ↔ (qₓ < N ∧ (F qₓ = 43 ∨ F qₓ = 45 ∨ F qₓ = 42 ∨ F qₓ = 47)) := by
  unfold opAt
  rw [Bool.or_eq_true, Bool.or_eq_true, Bool.or_eq_true, byteIs_i, byteIs_i, byteIs_i, byteIs_i]
  omega
theorem opTok_ad (hₓ : opAt F N qₓ = true) (hmₓ : ¬ muAt F N qₓ = true) : opTok F N qₓ = 10 ∨ opTok F N qₓ = 11 := by
  have h1ₓ := opAt_x.mp hₓ
  have h2ₓ := opTok_i (F := F) (N := N) (qₓ := qₓ)
  have h3ₓ : ¬ (qₓ < N ∧ (F qₓ = 42 ∨ F qₓ = 47)) := fun gₓ => hmₓ (muAt_i.mpr gₓ)
  by_cases cₓ : F qₓ = 43
  · exact Or.inl (h2ₓ.1 ⟨cₓ, h1ₓ.1⟩)
  · exact Or.inr (h2ₓ.2.1 ⟨by omega, h1ₓ.1⟩)
theorem cmpTok_r : 14 ≤ cmpTok F N qₓ ∧ cmpTok F N qₓ ≤ 18 := by
  unfold cmpTok
  by_cases c1ₓ : byteIs F N qₓ 61 = true
  · rw [if_pos c1ₓ]; decide
  · rw [if_neg c1ₓ]
    by_cases c2ₓ : byteIs F N qₓ 60 = true
    · rw [if_pos c2ₓ]; split <;> decide
    · rw [if_neg c2ₓ]; split <;> decide
/-- aₓ sum's steps -/
theorem XI_sum {ℓ ℓ' : Nat} {D : XC} (hWₓ : muW kₓ W) (hTₓ : Ty cₓ.2 O (false :: tyW W)) (hRₓ : RI O R) (h5ₓ : ∀ (W' O' : List Int), muW kₓ W' → Ty cₓ.2 O' (false :: tyW W') → RI O' R → XI (ℓ, qₓ, W', O', cₓ, R)) (h3ₓ : ∀ (q'ₓ : Int) (W' : List Int), muW kₓ W' → Ty cₓ.2 O (tyW W') → XI (ℓ', q'ₓ, W', O, cₓ, R)) (hDₓ : baW kₓ W → XI D) : XI (if xtop isMu W = true then (ℓ, qₓ, W.tail, W.headD 0 :: O, cₓ, R) else if muAt F N qₓ = true then (ℓ', sk F N (qₓ + 1), opTok F N qₓ :: W, O, cₓ, R) else if xtop isAd W = true then (ℓ, qₓ, W.tail, W.headD 0 :: O, cₓ, R) else if opAt F N qₓ = true then (ℓ', sk F N (qₓ + 1), opTok F N qₓ :: W, O, cₓ, R) else D) := by
  by_cases c1ₓ : xtop isMu W = true
  · rw [if_pos c1ₓ]
    rcases hWₓ with hₓ | ⟨yₓ, V, rfl, h1ₓ, h2ₓ⟩
    · rw [adW_mu hₓ] at c1ₓ; exact absurd c1ₓ (by decide)
    · rw [tyW_n (by omega)] at hTₓ
      exact h5ₓ V (yₓ :: O) (Or.inl h2ₓ) (Ty_put hTₓ (tyT_a (by omega))) (RI_put (Or.inr (show 10 ≤ yₓ ∧ yₓ ≤ 21 by omega)) hRₓ)
  · rw [if_neg c1ₓ]
    have hAₓ : adW kₓ W := by
      rcases hWₓ with hₓ | ⟨yₓ, V, rfl, h1ₓ, h2ₓ⟩
      · exact hₓ
      · exact absurd (show isMu yₓ = true from isMu_i.mpr h1ₓ) c1ₓ
    by_cases c2ₓ : muAt F N qₓ = true
    · rw [if_pos c2ₓ]
      have h6ₓ := opTok_mu c2ₓ
      exact h3ₓ _ _ (Or.inr ⟨_, W, rfl, h6ₓ, hAₓ⟩) (by rw [tyW_n (by omega)]; exact hTₓ)
    · rw [if_neg c2ₓ]
      by_cases c3ₓ : xtop isAd W = true
      · rw [if_pos c3ₓ]
        rcases hAₓ with hₓ | ⟨yₓ, V, rfl, h1ₓ, h2ₓ⟩
        · rw [(baW_mu hₓ).2] at c3ₓ; exact absurd c3ₓ (by decide)
        · rw [tyW_n (by omega)] at hTₓ
          exact h5ₓ V (yₓ :: O) (Or.inl (Or.inl h2ₓ)) (Ty_put hTₓ (tyT_a (by omega))) (RI_put (Or.inr (show 10 ≤ yₓ ∧ yₓ ≤ 21 by omega)) hRₓ)
      · rw [if_neg c3ₓ]
        have hBₓ : baW kₓ W := by
          rcases hAₓ with hₓ | ⟨yₓ, V, rfl, h1ₓ, h2ₓ⟩
          · exact hₓ
          · exact absurd (show isAd yₓ = true from isAd_i.mpr h1ₓ) c3ₓ
        by_cases c4ₓ : opAt F N qₓ = true
        · rw [if_pos c4ₓ]
          have h6ₓ := opTok_ad c4ₓ c2ₓ
          exact h3ₓ _ _ (Or.inl (Or.inr ⟨_, W, rfl, h6ₓ, hBₓ⟩)) (by rw [tyW_n (by omega)]; exact hTₓ)
        · rw [if_neg c4ₓ]; exact hDₓ hBₓ
theorem XI_val {ℓ' : Nat} (hTₓ : Ty cₓ.2 O (tyW W)) (hRₓ : RI O R) (h5ₓ : ∀ (q'ₓ : Int) (O' : List Int), Ty cₓ.2 O' (false :: tyW W) → RI O' R → XI (ℓ', q'ₓ, W, O', cₓ, R)) : XI (xval F N ℓ' qₓ W O cₓ R) := by
  unfold xval
  by_cases c1ₓ : okV (vtok F N qₓ) = true
  · rw [if_pos c1ₓ]; exact h5ₓ _ _ (Ty_put hTₓ (tyT_v c1ₓ)) (RI_put (Or.inl c1ₓ) hRₓ)
  · rw [if_neg c1ₓ]; exact trivial
theorem XI_fact (hWₓ : lgW W) (hTₓ : Ty cₓ.2 O (true :: tyW W)) (hRₓ : RI O R) : XI (xstep F N (7, qₓ, W, O, cₓ, R)) := by
  show XI (if xtop isLg W = true then (7, qₓ, W.tail, W.headD 0 :: O, cₓ, R) else if isWd F N qₓ wAnd = true then (2, sk F N (wd F N qₓ), 20 :: W, O, cₓ, R) else if xtop isOrT W = true then (7, qₓ, W.tail, W.headD 0 :: O, cₓ, R) else if isWd F N qₓ wOr = true then (2, sk F N (wd F N qₓ), 21 :: W, O, cₓ, R) else if xtop isBrT W = true then (7, sk F N (qₓ + 1), W.tail, O, cₓ, R) else (8, qₓ, W, O, cₓ, (cₓ.1, cₓ.2, true, O.length) :: R))
  by_cases c1ₓ : xtop isLg W = true
  · rw [if_pos c1ₓ]
    cases W with
    | nil => exact absurd c1ₓ (by decide)
    | cons yₓ V =>
      have h1ₓ := isLg_i.mp (show isLg yₓ = true from c1ₓ)
      have h2ₓ := (lgW_c hWₓ).2
      refine ⟨h2ₓ, ?_, RI_put (Or.inr (show 10 ≤ yₓ ∧ yₓ ≤ 21 by omega)) hRₓ⟩
      show Ty cₓ.2 (yₓ :: O) (true :: tyW V)
      rcases h1ₓ with rfl | rfl
      · rw [tyW_o (Or.inl rfl)] at hTₓ; exact Ty_put hTₓ tyT_n
      · rw [tyW_b (Or.inl rfl)] at hTₓ; exact Ty_put hTₓ (tyT_j (Or.inl rfl))
  rw [if_neg c1ₓ]
  by_cases c2ₓ : isWd F N qₓ wAnd = true
  · rw [if_pos c2ₓ]
    exact ⟨lgW_p (by omega) hWₓ, by rw [tyW_b (Or.inl rfl)]; exact hTₓ, hRₓ⟩
  rw [if_neg c2ₓ]
  by_cases c3ₓ : xtop isOrT W = true
  · rw [if_pos c3ₓ]
    cases W with
    | nil => exact absurd c3ₓ (by decide)
    | cons yₓ V =>
      have h1ₓ := isOrT_i.mp (show isOrT yₓ = true from c3ₓ)
      refine ⟨(lgW_c hWₓ).2, ?_, RI_put (Or.inr (show 10 ≤ yₓ ∧ yₓ ≤ 21 by omega)) hRₓ⟩
      show Ty cₓ.2 (yₓ :: O) (true :: tyW V)
      rw [tyW_b (Or.inr h1ₓ)] at hTₓ; exact Ty_put hTₓ (tyT_j (Or.inr h1ₓ))
  rw [if_neg c3ₓ]
  by_cases c4ₓ : isWd F N qₓ wOr = true
  · rw [if_pos c4ₓ]
    exact ⟨lgW_p (by omega) hWₓ, by rw [tyW_b (Or.inr rfl)]; exact hTₓ, hRₓ⟩
  rw [if_neg c4ₓ]
  by_cases c5ₓ : xtop isBrT W = true
  · rw [if_pos c5ₓ]
    cases W with
    | nil => exact absurd c5ₓ (by decide)
    | cons yₓ V =>
      have h1ₓ := isBrT_i.mp (show isBrT yₓ = true from c5ₓ)
      refine ⟨(lgW_c hWₓ).2, ?_, hRₓ⟩
      show Ty cₓ.2 O (true :: tyW V)
      rw [tyW_o (Or.inr h1ₓ)] at hTₓ; exact hTₓ
  rw [if_neg c5ₓ]
  cases W with
  | cons yₓ V =>
    have h1ₓ := (lgW_c hWₓ).1
    have n1ₓ : ¬ (yₓ = 19 ∨ yₓ = 20) := fun gₓ => c1ₓ (show isLg yₓ = true from isLg_i.mpr gₓ)
    have n2ₓ : ¬ yₓ = 21 := fun gₓ => c3ₓ (show isOrT yₓ = true from isOrT_i.mpr gₓ)
    have n3ₓ : ¬ yₓ = 91 := fun gₓ => c5ₓ (show isBrT yₓ = true from isBrT_i.mpr gₓ)
    omega
  | nil =>
    obtain ⟨D, d0ₓ, d1ₓ, d2ₓ⟩ := Ty_run hTₓ
    have hleₓ := Ty_le hTₓ
    have hneₓ : cₓ.2 ≠ O.length := fun gₓ => by rw [← gₓ, d0ₓ] at d1ₓ; cases d1ₓ
    exact ⟨rfl, RI_add hRₓ ⟨hleₓ, Nat.le_refl _, fun gₓ => (by cases gₓ), fun _ => ⟨by show cₓ.2 < O.length; omega, D, d0ₓ, d1ₓ, d2ₓ⟩⟩⟩
theorem XI_step : ∀ aₓ : XC, XI aₓ → XI (xstep F N aₓ)
  | (0, qₓ, W, O, cₓ, R), hₓ => ⟨hₓ.1, rfl, hₓ.2⟩
  | (1, qₓ, W, O, cₓ, R), hₓ => by
    obtain ⟨h1ₓ, h2ₓ, h3ₓ⟩ := hₓ
    show XI (if isWd F N qₓ wIf = true then (2, sk F N (wd F N qₓ), W, O, cₓ, R) else (8, qₓ, W, O, cₓ, (cₓ.1, cₓ.2, false, O.length) :: R))
    by_cases gₓ : isWd F N qₓ wIf = true
    · rw [if_pos gₓ]; subst h1ₓ; exact ⟨lgW_n, Ty_nil h2ₓ.symm, h3ₓ⟩
    · rw [if_neg gₓ]; exact ⟨h1ₓ, RI_add h3ₓ ⟨Nat.le_of_eq h2ₓ, Nat.le_refl _, fun _ => h2ₓ, fun gₓ => (by cases gₓ)⟩⟩
  | (2, qₓ, W, O, cₓ, R), hₓ => by
    obtain ⟨h1ₓ, h2ₓ, h3ₓ⟩ := hₓ
    show XI (if isWd F N qₓ wNot = true then (2, sk F N (wd F N qₓ), 19 :: W, O, cₓ, R) else if byteIs F N qₓ 91 = true then (2, sk F N (qₓ + 1), 91 :: W, O, cₓ, R) else (3, qₓ, W, O, cₓ, R))
    by_cases gₓ : isWd F N qₓ wNot = true
    · rw [if_pos gₓ]; exact ⟨lgW_p (by omega) h1ₓ, by rw [tyW_o (Or.inl rfl)]; exact h2ₓ, h3ₓ⟩
    rw [if_neg gₓ]
    by_cases gₓ : byteIs F N qₓ 91 = true
    · rw [if_pos gₓ]; exact ⟨lgW_p (by omega) h1ₓ, by rw [tyW_o (Or.inr rfl)]; exact h2ₓ, h3ₓ⟩
    · rw [if_neg gₓ]; exact ⟨Or.inl (Or.inl h1ₓ), h2ₓ, h3ₓ⟩
  | (3, qₓ, W, O, cₓ, R), hₓ => XI_val hₓ.2.1 hₓ.2.2 (fun _ _ aₓ bₓ => ⟨hₓ.1, aₓ, bₓ⟩)
  | (4, qₓ, W, O, cₓ, R), hₓ => XI_val hₓ.2.1 hₓ.2.2 (fun _ _ aₓ bₓ => ⟨hₓ.1, aₓ, bₓ⟩)
  | (5, qₓ, W, O, cₓ, R), hₓ => XI_sum (kₓ := false) (ℓ := 5) (ℓ' := 3) (D := (4, sk F N (qₓ + cmpLen F N qₓ), cmpTok F N qₓ :: W, O, cₓ, R)) hₓ.1 hₓ.2.1 hₓ.2.2 (fun _ _ aₓ bₓ dₓ => ⟨aₓ, bₓ, dₓ⟩) (fun _ _ aₓ bₓ => ⟨aₓ, bₓ, hₓ.2.2⟩) (fun hBₓ => by
    have hrₓ := cmpTok_r (F := F) (N := N) (qₓ := qₓ)
    exact ⟨Or.inl (Or.inl ⟨_, W, rfl, hrₓ.1, hrₓ.2, hBₓ⟩), by rw [tyW_n (by omega)]; exact hₓ.2.1, hₓ.2.2⟩)
  | (6, qₓ, W, O, cₓ, R), hₓ => XI_sum (kₓ := true) (ℓ := 6) (ℓ' := 4) (D := (7, qₓ, W.tail, W.headD 0 :: O, cₓ, R)) hₓ.1 hₓ.2.1 hₓ.2.2 (fun _ _ aₓ bₓ dₓ => ⟨aₓ, bₓ, dₓ⟩) (fun _ _ aₓ bₓ => ⟨aₓ, bₓ, hₓ.2.2⟩) (fun hBₓ => by
    obtain ⟨yₓ, V, rfl, h1ₓ, h2ₓ, h3ₓ⟩ := (show ∃ (tₓ : Int) (V : List Int), W = tₓ :: V ∧ 14 ≤ tₓ ∧ tₓ ≤ 18 ∧ lgW V from hBₓ)
    have hTₓ := hₓ.2.1
    rw [tyW_n (by omega)] at hTₓ
    exact ⟨h3ₓ, Ty_put hTₓ (tyT_c ⟨h1ₓ, h2ₓ⟩), RI_put (Or.inr (show 10 ≤ yₓ ∧ yₓ ≤ 21 by omega)) hₓ.2.2⟩)
  | (7, qₓ, W, O, cₓ, R), hₓ => XI_fact hₓ.1 hₓ.2.1 hₓ.2.2
  | (8, qₓ, W, O, cₓ, R), hₓ => by
    show XI (if byteIs F N qₓ 59 = true then (0, sk F N (qₓ + 1), W, O, cₓ, R) else (9, qₓ, W, O, cₓ, R))
    by_cases gₓ : byteIs F N qₓ 59 = true
    · rw [if_pos gₓ]; exact hₓ
    · rw [if_neg gₓ]; exact hₓ.2
  | (9, qₓ, W, O, cₓ, R), hₓ => hₓ
  | (nₓ + 10, qₓ, W, O, cₓ, R), _ => trivial
theorem XI_it : ∀ (jₓ : Nat) (aₓ : XC), XI aₓ → XI (xit F N jₓ aₓ)
  | 0, _, hₓ => hₓ
  | jₓ + 1, aₓ, hₓ => XI_it jₓ _ (XI_step aₓ hₓ)
theorem XS_RI {q0ₓ : Int} {c0ₓ : Int × Nat} (hₓ : XS F N (0, q0ₓ, [], [], c0ₓ, []) (9, qₓ, W, O, cₓ, R)) : RI O R := by
  obtain ⟨jₓ, hjₓ⟩ := hₓ
  have h1ₓ : XI (xit F N jₓ (0, q0ₓ, [], [], c0ₓ, [])) := XI_it jₓ _ ⟨rfl, fun tₓ htₓ => absurd htₓ List.not_mem_nil, fun xₓ hxₓ => absurd hxₓ List.not_mem_nil⟩
  rw [hjₓ] at h1ₓ; exact h1ₓ
end
