/-! the class's reader of RULES: what it puts out, by that machine -/
def Put (eₓ : Int → Int) (fₓ : Nat → Int) : List Int → Prop
  | [] => True
  | tₓ :: lₓ => fₓ lₓ.length = eₓ tₓ ∧ Put eₓ fₓ lₓ
theorem Put_congr {eₓ : Int → Int} {fₓ gₓ : Nat → Int} : ∀ {lₓ : List Int}, Put eₓ fₓ lₓ → (∀ jₓ : Nat, jₓ < lₓ.length → gₓ jₓ = fₓ jₓ) → Put eₓ gₓ lₓ
  | [], _, _ => trivial
  | tₓ :: lₓ, hₓ, hgₓ => ⟨(hgₓ lₓ.length (by rw [List.length_cons]; omega)).trans hₓ.1, Put_congr hₓ.2 (fun jₓ hjₓ => hgₓ jₓ (by rw [List.length_cons]; omega))⟩
theorem Put_nth {eₓ : Int → Int} {fₓ : Nat → Int} : ∀ {lₓ : List Int}, Put eₓ fₓ lₓ → ∀ jₓ : Nat, jₓ < lₓ.length → fₓ jₓ = eₓ (nthO lₓ jₓ)
  | [], _, jₓ, hjₓ => absurd hjₓ (Nat.not_lt_zero _)
  | tₓ :: lₓ, hₓ, jₓ, hjₓ => by
    rw [List.length_cons] at hjₓ
    by_cases cₓ : jₓ = lₓ.length
    · subst cₓ; rw [nthO_new]; exact hₓ.1
    · rw [nthO_old (by omega)]; exact Put_nth hₓ.2 jₓ (by omega)
/-- places above the tape's and the reader's -/
def Hi (σ σ' : SS) : Prop := ∀ qₓ kₓ : Nat, 5 ≤ qₓ → σ' qₓ kₓ = σ qₓ kₓ
def Cd (qr : Nat) (σ : SS) (O : List Int) : Prop := σ qr 3 = (O.length : Int) ∧ Put (fun tₓ => tₓ) (σ (qr + 3)) O ∧ σ (qr + 2) (σ qr 4).toNat = (O.length : Int)
def KRc (qr : Nat) (σ σ' : SS) : Prop := (∀ kₓ : Nat, σ' (qr + 1) kₓ = σ (qr + 1) kₓ) ∧ σ' qr 4 = σ qr 4 ∧ σ' qr 5 = σ qr 5 ∧ (∀ kₓ : Nat, kₓ ≠ (σ qr 4).toNat → σ' (qr + 2) kₓ = σ (qr + 2) kₓ) ∧ ∀ qₓ kₓ : Nat, 5 ≤ qₓ → (qₓ < qr ∨ qr + 4 ≤ qₓ) → σ' qₓ kₓ = σ qₓ kₓ
def wL (tₓ : Int) (W : List Int) : List Int := if tₓ = -1 then W else tₓ :: W
def XR (F : Int → Int) (N : Int) (qr ℓ ℓ' : Nat) (W W' : List Int) (σ σ' : SS) : Prop := KRc qr σ σ' ∧ (σ' 1 4 = 0 → σ 1 4 = 0 ∧ ∀ (O : List Int) (cₓ : Int × Nat) (R : List (Int × Nat × Bool × Nat)), Cd qr σ O → (O.length : Int) + (W.length : Int) ≤ sk F N (σ 1 1) → ∃ O' : List Int, Cd qr σ' O' ∧ (O'.length : Int) + (W'.length : Int) ≤ sk F N (σ' 1 1) ∧ XS F N (ℓ, sk F N (σ 1 1), W, O, cₓ, R) (ℓ', sk F N (σ' 1 1), W', O', cₓ, R))
section
variable {F : Int → Int} {N : Int} {qr ℓ ℓ' ℓ'' : Nat} {W W' W'' O : List Int} {σ σ' σ'' : SS} {pₓ gₓ φ rₓ tₓ xₓ : Int} {nₓ q0ₓ : Nat} {qₓ : Int} {cₓ : Int × Nat} {R : List (Int × Nat × Bool × Nat)}
theorem KRc.rf : KRc qr σ σ := ⟨fun _ => rfl, rfl, rfl, fun _ _ => rfl, fun _ _ _ _ => rfl⟩
theorem KRc.tr (hₓ : KRc qr σ σ') (gₓ : KRc qr σ' σ'') : KRc qr σ σ'' := by
  obtain ⟨h1ₓ, h2ₓ, h3ₓ, h4ₓ, h5ₓ⟩ := hₓ
  obtain ⟨g1ₓ, g2ₓ, g3ₓ, g4ₓ, g5ₓ⟩ := gₓ
  exact ⟨fun kₓ => (g1ₓ kₓ).trans (h1ₓ kₓ), g2ₓ.trans h2ₓ, g3ₓ.trans h3ₓ, fun kₓ hkₓ => (g4ₓ kₓ (by rw [h2ₓ]; exact hkₓ)).trans (h4ₓ kₓ hkₓ), fun qₓ kₓ aₓ bₓ => (g5ₓ qₓ kₓ aₓ bₓ).trans (h5ₓ qₓ kₓ aₓ bₓ)⟩
theorem KRc.hi (hqₓ : 5 ≤ qr) (hₓ : Hi σ σ') : KRc qr σ σ' := ⟨fun kₓ => hₓ _ kₓ (by omega), hₓ _ _ hqₓ, hₓ _ _ hqₓ, fun kₓ _ => hₓ _ kₓ (by omega), fun qₓ kₓ aₓ _ => hₓ qₓ kₓ aₓ⟩
theorem Cd.hi (hqₓ : 5 ≤ qr) (hₓ : Hi σ σ') (hcₓ : Cd qr σ O) : Cd qr σ' O := by
  obtain ⟨h1ₓ, h2ₓ, h3ₓ⟩ := hcₓ
  refine ⟨(hₓ _ _ hqₓ).trans h1ₓ, Put_congr h2ₓ (fun jₓ _ => hₓ _ jₓ (by omega)), ?_⟩
  rw [hₓ qr 4 hqₓ, hₓ _ _ (by omega)]; exact h3ₓ
theorem tp_hi : Hi σ (tp σ pₓ gₓ φ) := fun qₓ kₓ hₓ => tp_o (by omega)
theorem XR.rf : XR F N qr ℓ ℓ W W σ σ := ⟨KRc.rf, fun hzₓ => ⟨hzₓ, fun O cₓ R hOₓ hbₓ => ⟨O, hOₓ, hbₓ, XS.rf⟩⟩⟩
theorem XR.tr (hₓ : XR F N qr ℓ ℓ' W W' σ σ') (gₓ : XR F N qr ℓ' ℓ'' W' W'' σ' σ'') : XR F N qr ℓ ℓ'' W W'' σ σ'' := ⟨hₓ.1.tr gₓ.1, fun hzₓ => by
  obtain ⟨g1ₓ, g2ₓ⟩ := gₓ.2 hzₓ
  obtain ⟨h1ₓ, h2ₓ⟩ := hₓ.2 g1ₓ
  refine ⟨h1ₓ, fun O cₓ R hOₓ hbₓ => ?_⟩
  obtain ⟨O1, a1ₓ, a2ₓ, a3ₓ⟩ := h2ₓ O cₓ R hOₓ hbₓ
  obtain ⟨O2, b1ₓ, b2ₓ, b3ₓ⟩ := g2ₓ O1 cₓ R a1ₓ a2ₓ
  exact ⟨O2, b1ₓ, b2ₓ, a3ₓ.tr b3ₓ⟩⟩
theorem XR.off (hkₓ : KRc qr σ σ') (hₓ : σ' 1 4 ≠ 0) : XR F N qr ℓ ℓ' W W' σ σ' := ⟨hkₓ, fun hzₓ => absurd hzₓ hₓ⟩
theorem XR.mv (hqₓ : 5 ≤ qr) (hfₓ : σ 1 4 = 0) {q2ₓ g2ₓ : Int} (hbₓ : (W'.length : Int) + sk F N (σ 1 1) ≤ (W.length : Int) + sk F N q2ₓ) (hsₓ : ∀ (O : List Int) (cₓ : Int × Nat) (R : List (Int × Nat × Bool × Nat)), XS F N (ℓ, sk F N (σ 1 1), W, O, cₓ, R) (ℓ', sk F N q2ₓ, W', O, cₓ, R)) : XR F N qr ℓ ℓ' W W' σ (tp σ q2ₓ g2ₓ 0) :=
  ⟨KRc.hi hqₓ tp_hi, fun _ => ⟨hfₓ, fun O cₓ R hOₓ hlₓ => ⟨O, hOₓ.hi hqₓ tp_hi, by rw [tp_p]; omega, by rw [tp_p]; exact hsₓ O cₓ R⟩⟩⟩
/-- aₓ token put out -/
theorem cx_add (hqₓ : 5 ≤ qr) (eₓ : m_X2_addToken nₓ qr tₓ σ = some (rₓ, σ')) : KRc qr σ σ' ∧ ∀ O : List Int, Cd qr σ O → O.length < 400 → Cd qr σ' (tₓ :: O) := by
  simp only [m_X2_addToken, b_X2_addToken_43, mRd, mIf, mRet, mWr, mLet] at eₓ
  by_cases cₓ : 400 ≤ σ qr 3
  · rw [if_pos cₓ] at eₓ
    obtain ⟨-, rfl⟩ := some_el eₓ
    exact ⟨KRc.rf, fun O hOₓ hlₓ => by have := hOₓ.1; omega⟩
  · rw [if_neg cₓ] at eₓ
    obtain ⟨-, rfl⟩ := some_el eₓ
    have a1ₓ : upS σ (qr + 3) (σ qr 3).toNat tₓ qr 3 = σ qr 3 := upS_q (by omega)
    rw [a1ₓ]
    have a2ₓ : upS (upS σ (qr + 3) (σ qr 3).toNat tₓ) qr 3 (σ qr 3 + 1) qr 4 = σ qr 4 := by rw [upS_k (by decide), upS_q (by omega)]
    have a3ₓ : upS (upS σ (qr + 3) (σ qr 3).toNat tₓ) qr 3 (σ qr 3 + 1) qr 3 = σ qr 3 + 1 := upS_s
    rw [a2ₓ, a3ₓ]
    refine ⟨⟨fun kₓ => ?_, ?_, ?_, fun kₓ hkₓ => ?_, fun qₓ kₓ h1ₓ h2ₓ => ?_⟩, fun O hOₓ hlₓ => ⟨?_, ⟨?_, Put_congr hOₓ.2.1 (fun jₓ hjₓ => ?_)⟩, ?_⟩⟩
    · rw [upS_q (by omega), upS_q (by omega), upS_q (by omega)]
    · rw [upS_q (by omega)]; exact a2ₓ
    · rw [upS_q (by omega), upS_k (by decide), upS_q (by omega)]
    · rw [upS_k hkₓ, upS_q (by omega), upS_q (by omega)]
    · rw [upS_q (by omega), upS_q (by omega), upS_q (by omega)]
    · rw [upS_q (by omega), upS_s, List.length_cons, hOₓ.1]; omega
    · rw [upS_q (by omega), upS_q (by omega), hOₓ.1, Int.toNat_natCast]; exact upS_s
    · rw [upS_q (by omega), upS_q (by omega), hOₓ.1, Int.toNat_natCast]; exact upS_k (by omega)
    · rw [show upS (upS (upS σ (qr + 3) (σ qr 3).toNat tₓ) qr 3 (σ qr 3 + 1)) (qr + 2) (σ qr 4).toNat (σ qr 3 + 1) qr 4 = σ qr 4 from by rw [upS_q (by omega)]; exact a2ₓ, upS_s, List.length_cons, hOₓ.1]; omega
theorem XR.pop (hqₓ : 5 ≤ qr) (hₓ : OKC F N σ) (eₓ : m_X2_addToken nₓ qr tₓ σ = some (rₓ, σ')) (hsₓ : σ 1 4 = 0 → ∀ (O : List Int) (cₓ : Int × Nat) (R : List (Int × Nat × Bool × Nat)), XS F N (ℓ, sk F N (σ 1 1), tₓ :: W, O, cₓ, R) (ℓ', sk F N (σ 1 1), W, tₓ :: O, cₓ, R)) : XR F N qr ℓ ℓ' (tₓ :: W) W σ σ' := by
  have hmₓ := c_addToken hqₓ eₓ
  have haₓ := cx_add hqₓ eₓ
  have f4ₓ : σ' 1 4 = σ 1 4 := hmₓ 1 4 (by omega)
  have f1ₓ : σ' 1 1 = σ 1 1 := hmₓ 1 1 (by omega)
  refine ⟨haₓ.1, fun hzₓ => ⟨by rw [← f4ₓ]; exact hzₓ, fun O cₓ R hOₓ hbₓ => ?_⟩⟩
  have hubₓ : sk F N (σ 1 1) ≤ N := sk_ub hₓ.2.1.2.1
  have hNₓ := hₓ.2.1.2.2
  rw [List.length_cons] at hbₓ
  refine ⟨tₓ :: O, haₓ.2 O hOₓ (by omega), by rw [f1ₓ, List.length_cons]; omega, ?_⟩
  rw [f1ₓ]; exact hsₓ (by rw [← f4ₓ]; exact hzₓ) O cₓ R
theorem XR.wait (hqₓ : 5 ≤ qr) (hₓ : OKC F N σ) (eₓ : m_X3_addWaiting nₓ qr q0ₓ tₓ σ = some (rₓ, σ')) (hsₓ : tₓ ≠ -1 → σ 1 4 = 0 → ∀ (O : List Int) (cₓ : Int × Nat) (R : List (Int × Nat × Bool × Nat)), XS F N (ℓ, sk F N (σ 1 1), tₓ :: W, O, cₓ, R) (ℓ, sk F N (σ 1 1), W, tₓ :: O, cₓ, R)) : XR F N qr ℓ ℓ (wL tₓ W) W σ σ' := by
  simp only [m_X3_addWaiting, b_X3_addWaiting_13, mIf] at eₓ
  unfold wL
  by_cases cₓ : tₓ = -1
  · rw [if_pos cₓ] at eₓ ⊢
    obtain ⟨-, rfl⟩ := some_el eₓ
    exact XR.rf
  · rw [if_neg cₓ] at eₓ ⊢
    obtain ⟨r1ₓ, s1ₓ, e1ₓ, eₓ⟩ := mCall_el eₓ
    obtain ⟨-, rfl⟩ := some_el eₓ
    exact XR.pop hqₓ hₓ e1ₓ (hsₓ cₓ)
/-- what waits is put out behindₓ aₓ move; what was read waits now -/
theorem XR.addop (hqₓ : 5 ≤ qr) (hₓ : OKC F N σ) (hfₓ : σ 1 4 = 0) {p2ₓ g2ₓ : Int} (hpₓ : sk F N (σ 1 1) + 1 ≤ p2ₓ) (eₓ : m_X3_addWaiting nₓ qr q0ₓ tₓ (tp σ p2ₓ g2ₓ 0) = some (rₓ, σ')) (hsₓ : ∀ (O : List Int) (cₓ : Int × Nat) (R : List (Int × Nat × Bool × Nat)), XS F N (ℓ, sk F N (σ 1 1), wL tₓ W, O, cₓ, R) (ℓ', sk F N p2ₓ, xₓ :: W, if tₓ = -1 then O else tₓ :: O, cₓ, R)) : XR F N qr ℓ ℓ' (wL tₓ W) (xₓ :: W) σ σ' := by
  have hubₓ : sk F N (σ 1 1) ≤ N := sk_ub hₓ.2.1.2.1
  have hNₓ := hₓ.2.1.2.2
  have hp2ₓ : p2ₓ ≤ sk F N p2ₓ := sk_ge
  simp only [m_X3_addWaiting, b_X3_addWaiting_13, mIf] at eₓ
  by_cases cₓ : tₓ = -1
  · rw [if_pos cₓ] at eₓ
    obtain ⟨-, rfl⟩ := some_el eₓ
    refine ⟨KRc.hi hqₓ tp_hi, fun _ => ⟨hfₓ, fun O c'ₓ R hOₓ hlₓ => ⟨O, hOₓ.hi hqₓ tp_hi, ?_, ?_⟩⟩⟩
    · rw [tp_p, List.length_cons]
      unfold wL at hlₓ
      rw [if_pos cₓ] at hlₓ; omega
    · have := hsₓ O c'ₓ R
      rw [if_pos cₓ] at this
      rw [tp_p]; exact this
  · rw [if_neg cₓ] at eₓ
    obtain ⟨r1ₓ, s1ₓ, e1ₓ, eₓ⟩ := mCall_el eₓ
    obtain ⟨-, rfl⟩ := some_el eₓ
    have hmₓ := c_addToken hqₓ e1ₓ
    have haₓ := cx_add hqₓ e1ₓ
    have f4ₓ : σ' 1 4 = 0 := (hmₓ 1 4 (by omega)).trans tp_f
    have f1ₓ : σ' 1 1 = p2ₓ := (hmₓ 1 1 (by omega)).trans tp_p
    refine ⟨(KRc.hi hqₓ tp_hi).tr haₓ.1, fun _ => ⟨hfₓ, fun O c'ₓ R hOₓ hlₓ => ?_⟩⟩
    unfold wL at hlₓ
    rw [if_neg cₓ, List.length_cons] at hlₓ
    refine ⟨tₓ :: O, haₓ.2 O (hOₓ.hi hqₓ tp_hi) (by omega), by rw [f1ₓ, List.length_cons, List.length_cons]; omega, ?_⟩
    have := hsₓ O c'ₓ R
    rw [if_neg cₓ] at this
    rw [f1ₓ]; exact this
/-! the machine's steps -/
theorem x_val (hlₓ : (ℓ = 3 ∧ ℓ' = 5) ∨ (ℓ = 4 ∧ ℓ' = 6)) (hₓ : okV (vtok F N qₓ) = true) : xstep F N (ℓ, qₓ, W, O, cₓ, R) = (ℓ', sk F N (vend F N qₓ), W, vtok F N qₓ :: O, cₓ, R) := by
  rcases hlₓ with ⟨rfl, rfl⟩ | ⟨rfl, rfl⟩ <;> exact if_pos hₓ
theorem x_sum (hlₓ : (ℓ = 3 ∧ ℓ' = 5) ∨ (ℓ = 4 ∧ ℓ' = 6)) : xstep F N (ℓ', qₓ, W, O, cₓ, R) = if xtop isMu W = true then (ℓ', qₓ, W.tail, W.headD 0 :: O, cₓ, R) else if muAt F N qₓ = true then (ℓ, sk F N (qₓ + 1), opTok F N qₓ :: W, O, cₓ, R) else if xtop isAd W = true then (ℓ', qₓ, W.tail, W.headD 0 :: O, cₓ, R) else if opAt F N qₓ = true then (ℓ, sk F N (qₓ + 1), opTok F N qₓ :: W, O, cₓ, R) else (if ℓ' = 5 then (4, sk F N (qₓ + cmpLen F N qₓ), cmpTok F N qₓ :: W, O, cₓ, R) else (7, qₓ, W.tail, W.headD 0 :: O, cₓ, R)) := by
  rcases hlₓ with ⟨rfl, rfl⟩ | ⟨rfl, rfl⟩ <;> rfl
theorem mu_op (hₓ : opAt F N qₓ = false) : ¬ muAt F N qₓ = true := fun gₓ => by
  have h1ₓ := muAt_i.mp gₓ
  have h2ₓ : opAt F N qₓ = true := opAt_x.mpr ⟨h1ₓ.1, by omega⟩
  rw [hₓ] at h2ₓ; cases h2ₓ
theorem x_mupop (hlₓ : (ℓ = 3 ∧ ℓ' = 5) ∨ (ℓ = 4 ∧ ℓ' = 6)) (htₓ : tₓ = 12 ∨ tₓ = 13) : xstep F N (ℓ', qₓ, tₓ :: W, O, cₓ, R) = (ℓ', qₓ, W, tₓ :: O, cₓ, R) := by
  rw [x_sum hlₓ, if_pos (show xtop isMu (tₓ :: W) = true from isMu_i.mpr htₓ)]; rfl
theorem x_mupush (hlₓ : (ℓ = 3 ∧ ℓ' = 5) ∨ (ℓ = 4 ∧ ℓ' = 6)) (hWₓ : xtop isMu W = false) (hmₓ : muAt F N qₓ = true) : xstep F N (ℓ', qₓ, W, O, cₓ, R) = (ℓ, sk F N (qₓ + 1), opTok F N qₓ :: W, O, cₓ, R) := by
  rw [x_sum hlₓ, hWₓ, if_neg (by decide), if_pos hmₓ]
theorem x_adpop (hlₓ : (ℓ = 3 ∧ ℓ' = 5) ∨ (ℓ = 4 ∧ ℓ' = 6)) (htₓ : tₓ = 10 ∨ tₓ = 11) (hmₓ : ¬ muAt F N qₓ = true) : xstep F N (ℓ', qₓ, tₓ :: W, O, cₓ, R) = (ℓ', qₓ, W, tₓ :: O, cₓ, R) := by
  rw [x_sum hlₓ, if_neg (show ¬ xtop isMu (tₓ :: W) = true from fun gₓ => by have := isMu_i.mp (show isMu tₓ = true from gₓ); omega), if_neg hmₓ, if_pos (show xtop isAd (tₓ :: W) = true from isAd_i.mpr htₓ)]; rfl
theorem x_adpush (hlₓ : (ℓ = 3 ∧ ℓ' = 5) ∨ (ℓ = 4 ∧ ℓ' = 6)) (hWₓ : xtop isMu W = false) (hW2ₓ : xtop isAd W = false) (hmₓ : ¬ muAt F N qₓ = true) (hoₓ : opAt F N qₓ = true) : xstep F N (ℓ', qₓ, W, O, cₓ, R) = (ℓ, sk F N (qₓ + 1), opTok F N qₓ :: W, O, cₓ, R) := by
  rw [x_sum hlₓ, hWₓ, if_neg (by decide), if_neg hmₓ, hW2ₓ, if_neg (by decide), if_pos hoₓ]
theorem x_cmp (hWₓ : xtop isMu W = false) (hW2ₓ : xtop isAd W = false) (hoₓ : opAt F N qₓ = false) : xstep F N (5, qₓ, W, O, cₓ, R) = (4, sk F N (qₓ + cmpLen F N qₓ), cmpTok F N qₓ :: W, O, cₓ, R) := by
  rw [x_sum (Or.inl ⟨rfl, rfl⟩), hWₓ, if_neg (by decide), if_neg (mu_op hoₓ), hW2ₓ, if_neg (by decide), hoₓ, if_neg (by decide), if_pos rfl]
theorem cmp_top (htₓ : 14 ≤ tₓ ∧ tₓ ≤ 18) : xtop isMu (tₓ :: W) = false ∧ xtop isAd (tₓ :: W) = false := ⟨Bool.eq_false_iff.mpr (fun gₓ => by have := isMu_i.mp (show isMu tₓ = true from gₓ); omega), Bool.eq_false_iff.mpr (fun gₓ => by have := isAd_i.mp (show isAd tₓ = true from gₓ); omega)⟩
theorem x_done (htₓ : 14 ≤ tₓ ∧ tₓ ≤ 18) (hoₓ : opAt F N qₓ = false) : xstep F N (6, qₓ, tₓ :: W, O, cₓ, R) = (7, qₓ, W, tₓ :: O, cₓ, R) := by
  have hₓ := cmp_top (W := W) htₓ
  rw [x_sum (Or.inr ⟨rfl, rfl⟩), hₓ.1, if_neg (by decide), if_neg (mu_op hoₓ), hₓ.2, if_neg (by decide), hoₓ, if_neg (by decide), if_neg (by decide)]; rfl
theorem x_fact : xstep F N (7, qₓ, W, O, cₓ, R) = if xtop isLg W = true then (7, qₓ, W.tail, W.headD 0 :: O, cₓ, R) else if isWd F N qₓ wAnd = true then (2, sk F N (wd F N qₓ), 20 :: W, O, cₓ, R) else if xtop isOrT W = true then (7, qₓ, W.tail, W.headD 0 :: O, cₓ, R) else if isWd F N qₓ wOr = true then (2, sk F N (wd F N qₓ), 21 :: W, O, cₓ, R) else if xtop isBrT W = true then (7, sk F N (qₓ + 1), W.tail, O, cₓ, R) else (8, qₓ, W, O, cₓ, (cₓ.1, cₓ.2, true, O.length) :: R) := rfl
theorem x7_lg (htₓ : tₓ = 19 ∨ tₓ = 20) : xstep F N (7, qₓ, tₓ :: W, O, cₓ, R) = (7, qₓ, W, tₓ :: O, cₓ, R) := by
  rw [x_fact, if_pos (show xtop isLg (tₓ :: W) = true from isLg_i.mpr htₓ)]; rfl
theorem x7_and (hWₓ : xtop isLg W = false) (hₓ : isWd F N qₓ wAnd = true) : xstep F N (7, qₓ, W, O, cₓ, R) = (2, sk F N (wd F N qₓ), 20 :: W, O, cₓ, R) := by
  rw [x_fact, hWₓ, if_neg (by decide), if_pos hₓ]
theorem or_lg : xtop isLg (21 :: W) = false := by show isLg 21 = false; decide
theorem x7_orpop (hₓ : ¬ isWd F N qₓ wAnd = true) : xstep F N (7, qₓ, 21 :: W, O, cₓ, R) = (7, qₓ, W, 21 :: O, cₓ, R) := by
  rw [x_fact, or_lg, if_neg (by decide), if_neg hₓ, if_pos (show xtop isOrT (21 :: W) = true from isOrT_i.mpr rfl)]; rfl
theorem x7_or (hWₓ : xtop isLg W = false) (hW2ₓ : xtop isOrT W = false) (hₓ : ¬ isWd F N qₓ wAnd = true) (h2ₓ : isWd F N qₓ wOr = true) : xstep F N (7, qₓ, W, O, cₓ, R) = (2, sk F N (wd F N qₓ), 21 :: W, O, cₓ, R) := by
  rw [x_fact, hWₓ, if_neg (by decide), if_neg hₓ, hW2ₓ, if_neg (by decide), if_pos h2ₓ]
theorem x7_br (hₓ : ¬ isWd F N qₓ wAnd = true) (h2ₓ : ¬ isWd F N qₓ wOr = true) : xstep F N (7, qₓ, 91 :: W, O, cₓ, R) = (7, sk F N (qₓ + 1), W, O, cₓ, R) := by
  rw [x_fact, if_neg (show ¬ xtop isLg (91 :: W) = true by show ¬ isLg 91 = true; decide), if_neg hₓ, if_neg (show ¬ xtop isOrT (91 :: W) = true by show ¬ isOrT 91 = true; decide), if_neg h2ₓ, if_pos (show xtop isBrT (91 :: W) = true from isBrT_i.mpr rfl)]; rfl
theorem x7_end (hₓ : ¬ isWd F N qₓ wAnd = true) (h2ₓ : ¬ isWd F N qₓ wOr = true) : xstep F N (7, qₓ, [], O, cₓ, R) = (8, qₓ, [], O, cₓ, (cₓ.1, cₓ.2, true, O.length) :: R) := by
  rw [x_fact, if_neg (show ¬ xtop isLg [] = true by decide), if_neg hₓ, if_neg (show ¬ xtop isOrT [] = true by decide), if_neg h2ₓ, if_neg (show ¬ xtop isBrT [] = true by decide)]
/-- what waits outside: nothing, or an open bracket -/
def TSW (W : List Int) : Prop := W = [] ∨ ∃ V, W = 91 :: V
theorem TSW_top (hₓ : TSW W) : xtop isLg W = false ∧ xtop isOrT W = false := by
  rcases hₓ with rfl | ⟨V, rfl⟩
  · exact ⟨rfl, rfl⟩
  · exact ⟨by show isLg 91 = false; decide, by show isOrT 91 = false; decide⟩
/-! values, sums, signs -/
theorem idxW_lt {fₓ : Int → Int} {eₓ pₓ : Int} : ∀ (Ws : List (List Int)) (mₓ : Int), 0 ≤ mₓ → idxW fₓ eₓ pₓ Ws mₓ < mₓ + (Ws.length : Int)
  | [], mₓ, hₓ => by show (-1 : Int) < mₓ + ((0 : Nat) : Int); omega
  | W :: Ws, mₓ, hₓ => by
    rw [List.length_cons]
    show (if wEq fₓ pₓ W = true ∧ pₓ + W.length = eₓ then mₓ else idxW fₓ eₓ pₓ Ws (mₓ + 1)) < _
    split
    · omega
    · have := idxW_lt (fₓ := fₓ) (eₓ := eₓ) (pₓ := pₓ) Ws (mₓ + 1) (by omega); omega
theorem wval_adv (hₓ : 0 ≤ idxW F (wd F N qₓ) qₓ wVals 0) : qₓ + 1 ≤ wd F N qₓ := by
  obtain ⟨V, hVₓ, h1ₓ⟩ := List.any_eq_true.mp (idx_any.mp hₓ)
  have h2ₓ := isWd_len h1ₓ
  have h3ₓ : ∀ V ∈ wVals, 3 ≤ V.length := by decide
  have h4ₓ := h3ₓ V hVₓ
  omega
theorem cx_takeOperator (hₓ : CV F N σ) (hpₓ : 0 ≤ pₓ) (hoₓ : opAt F N (sk F N pₓ) = true) (eₓ : m_X3_takeOperator nₓ q0ₓ (tp σ pₓ gₓ φ) = some (rₓ, σ')) : rₓ = opTok F N (sk F N pₓ) := by
  unfold m_X3_takeOperator at eₓ
  obtain ⟨r1ₓ, s1ₓ, e1ₓ, eₓ⟩ := mCall_el eₓ
  obtain ⟨rfl, rfl⟩ := c_lbbm hₓ hpₓ e1ₓ
  have h9ₓ := opTok_i (F := F) (N := N) (qₓ := sk F N pₓ)
  have h8ₓ := opAt_i.mp hoₓ
  have h7ₓ : bt F N (sk F N pₓ) = F (sk F N pₓ) := if_pos h8ₓ.1
  rw [h7ₓ] at eₓ
  by_cases c1ₓ : F (sk F N pₓ) = 42
  · rw [mIf_pos c1ₓ] at eₓ
    obtain ⟨r2ₓ, s2ₓ, e2ₓ, eₓ⟩ := mCall_el eₓ
    obtain ⟨rfl, -⟩ := some_el eₓ
    exact (h9ₓ.2.2.1 ⟨c1ₓ, h8ₓ.1⟩).symm
  rw [mIf_neg c1ₓ] at eₓ
  by_cases c2ₓ : F (sk F N pₓ) = 43
  · rw [mIf_pos c2ₓ] at eₓ
    obtain ⟨r2ₓ, s2ₓ, e2ₓ, eₓ⟩ := mCall_el eₓ
    obtain ⟨rfl, -⟩ := some_el eₓ
    exact (h9ₓ.1 ⟨c2ₓ, h8ₓ.1⟩).symm
  rw [mIf_neg c2ₓ, mIf_neg (show ¬ F (sk F N pₓ) = 44 by omega)] at eₓ
  by_cases c4ₓ : F (sk F N pₓ) = 45
  · rw [mIf_pos c4ₓ] at eₓ
    obtain ⟨r2ₓ, s2ₓ, e2ₓ, eₓ⟩ := mCall_el eₓ
    obtain ⟨rfl, -⟩ := some_el eₓ
    exact (h9ₓ.2.1 ⟨c4ₓ, h8ₓ.1⟩).symm
  rw [mIf_neg c4ₓ, mIf_neg (show ¬ F (sk F N pₓ) = 46 by omega), mIf_pos (show F (sk F N pₓ) = 47 by omega)] at eₓ
  obtain ⟨r2ₓ, s2ₓ, e2ₓ, eₓ⟩ := mCall_el eₓ
  obtain ⟨rfl, -⟩ := some_el eₓ
  exact (h9ₓ.2.2.2 ⟨by omega, h8ₓ.1⟩).symm
theorem cx_readValue (hqₓ : 5 ≤ qr) (hlₓ : (ℓ = 3 ∧ ℓ' = 5) ∨ (ℓ = 4 ∧ ℓ' = 6)) (hₓ : OKC F N σ) (eₓ : m_X3_readValue nₓ qr 3 σ = some (rₓ, σ')) : XR F N qr ℓ ℓ' W W σ σ' := by
  by_cases hfₓ : σ 1 4 = 0
  · have esₓ := es_0 hfₓ
    rw [← esₓ] at eₓ
    obtain ⟨hcₓ, ⟨hp0ₓ, hp1ₓ, hNₓ⟩, hk0ₓ, hk1ₓ, hk2ₓ⟩ := id hₓ
    have hq0ₓ : 0 ≤ sk F N (σ 1 1) := Int.le_trans hp0ₓ sk_ge
    have hqNₓ : sk F N (σ 1 1) ≤ N := sk_ub hp1ₓ
    unfold m_X3_readValue at eₓ
    rw [c_isFaulty, if_pos rfl, mCall_s, mIf_pos rfl] at eₓ
    obtain ⟨r1ₓ, s1ₓ, e1ₓ, eₓ⟩ := mCall_el eₓ
    obtain ⟨rfl, rfl⟩ := c_lbbm hcₓ hp0ₓ e1ₓ
    rw [c_isDigit, mCall_s] at eₓ
    have finₓ : ∀ (tk : Int) (s2ₓ s3ₓ : SS) (r3ₓ p2ₓ φ2 : Int), s2ₓ = tp σ p2ₓ (sk F N (σ 1 1)) φ2 → m_X2_addToken nₓ qr tk s2ₓ = some (r3ₓ, s3ₓ) → b_X3_readValue_63 nₓ qr 3 s3ₓ = some (rₓ, σ') → KRc qr σ σ' ∧ (σ' 1 4 = 0 → φ2 = 0 ∧ σ' 1 1 = p2ₓ ∧ ∀ O : List Int, Cd qr σ O → O.length < 400 → Cd qr σ' (tk :: O)) := by
      intro tk s2ₓ s3ₓ r3ₓ p2ₓ φ2 hs2ₓ e3ₓ eₓ
      subst hs2ₓ
      have hsₓ := c_addToken hqₓ e3ₓ
      have haₓ := cx_add hqₓ e3ₓ
      unfold b_X3_readValue_63 at eₓ
      obtain ⟨r4ₓ, s4ₓ, e4ₓ, eₓ⟩ := mCall_el eₓ
      obtain ⟨-, rfl⟩ := some_el eₓ
      have h1ₓ : s3ₓ = tp s3ₓ p2ₓ (sk F N (σ 1 1)) φ2 := by
        have a1ₓ := hsₓ 1 1 (by omega)
        have a2ₓ := hsₓ 1 3 (by omega)
        have a3ₓ := hsₓ 1 4 (by omega)
        rw [tp_p] at a1ₓ
        rw [tp_g] at a2ₓ
        rw [tp_f] at a3ₓ
        rw [← a1ₓ, ← a2ₓ, ← a3ₓ]; exact tp_self.symm
      rw [h1ₓ] at e4ₓ
      have h3ₓ : s3ₓ 3 2 = σ 3 2 := (hsₓ 3 2 (by omega)).trans (tp_o (by decide))
      rw [c_countItem (by rw [h3ₓ]; exact hk0ₓ) (by rw [h3ₓ]; exact hk1ₓ), h3ₓ] at e4ₓ
      obtain ⟨-, rfl⟩ := some_el e4ₓ
      have hhₓ : Hi s3ₓ (tp (upS s3ₓ 3 2 (σ 3 2 + 1)) p2ₓ (sk F N (σ 1 1)) (if σ 3 2 < 60 then φ2 else blm φ2 (8 * sk F N (σ 1 1) + 3))) := fun qₓ kₓ h5ₓ => by rw [tp_o (by omega), upS_q (by omega)]
      refine ⟨(KRc.hi hqₓ tp_hi).tr (haₓ.1.tr (KRc.hi hqₓ hhₓ)), fun hzₓ => ?_⟩
      rw [tp_f] at hzₓ
      refine ⟨?_, tp_p, fun O hOₓ hlₓ => (haₓ.2 O (hOₓ.hi hqₓ tp_hi) hlₓ).hi hqₓ hhₓ⟩
      by_cases cₓ : σ 3 2 < 60
      · rw [if_pos cₓ] at hzₓ; exact hzₓ
      · rw [if_neg cₓ] at hzₓ; unfold blm at hzₓ
        by_cases c0ₓ : φ2 = 0
        · exact c0ₓ
        · rw [if_neg c0ₓ] at hzₓ; exact hzₓ
    by_cases cd : sk F N (σ 1 1) < N ∧ isDg F (sk F N (σ 1 1)) = true
    · have c2ₓ : 48 ≤ F (sk F N (σ 1 1)) ∧ F (sk F N (σ 1 1)) ≤ 57 := of_decide_eq_true cd.2
      rw [show bt F N (sk F N (σ 1 1)) = F (sk F N (σ 1 1)) from if_pos cd.1, if_pos c2ₓ, mIf_neg (show ¬ (1 : Int) = 0 by decide)] at eₓ
      obtain ⟨r2ₓ, s2ₓ, e2ₓ, eₓ⟩ := mCall_el eₓ
      rw [mLet_e] at eₓ
      obtain ⟨r3ₓ, s3ₓ, e3ₓ, eₓ⟩ := mCall_el eₓ
      rcases c_readNumber hcₓ hq0ₓ hqNₓ e2ₓ with ⟨hnₓ, -, -⟩ | ⟨-, hIₓ, hBₓ⟩
      · rw [sk_idem] at hnₓ; exact absurd cd hnₓ
      · rw [sk_idem] at hIₓ hBₓ
        rcases hBₓ with ⟨hbadₓ, -, hs2ₓ⟩ | ⟨hgoodₓ, hr2ₓ, hs2ₓ⟩
        · obtain ⟨f1ₓ, f2ₓ⟩ := finₓ _ s2ₓ s3ₓ _ _ _ hs2ₓ e3ₓ eₓ
          exact ⟨f1ₓ, fun hzₓ => by have := (f2ₓ hzₓ).1; omega⟩
        · obtain ⟨f1ₓ, f2ₓ⟩ := finₓ _ s2ₓ s3ₓ _ _ _ hs2ₓ e3ₓ eₓ
          refine ⟨f1ₓ, fun hzₓ => ⟨hfₓ, fun O cₓ R hOₓ hbₓ => ?_⟩⟩
          obtain ⟨-, f4ₓ, f5ₓ⟩ := f2ₓ hzₓ
          have hv : vtok F N (sk F N (σ 1 1)) = 32 + r2ₓ := by unfold vtok; rw [if_pos cd, hr2ₓ]
          have hveₓ : vend F N (sk F N (σ 1 1)) = dg F N (sk F N (σ 1 1)) := if_pos cd
          have hdₓ : sk F N (σ 1 1) + 1 ≤ dg F N (sk F N (σ 1 1)) := by rw [dg_go cd.1 c2ₓ]; exact dg_ge
          have hd2ₓ : dg F N (sk F N (σ 1 1)) ≤ sk F N (dg F N (sk F N (σ 1 1))) := sk_ge
          have hokₓ : okV (vtok F N (sk F N (σ 1 1))) = true := by rw [hv]; exact decide_eq_true (Or.inr ⟨by have := hgoodₓ.2.1; omega, by have := hgoodₓ.2.2; omega⟩)
          have h0ₓ := cd.1
          refine ⟨(32 + r2ₓ) :: O, f5ₓ O hOₓ (by omega), by rw [f4ₓ, List.length_cons]; omega, XS_one ?_⟩
          rw [x_val hlₓ hokₓ, f4ₓ, hv, hveₓ]
    · have c2ₓ : ¬ (48 ≤ bt F N (sk F N (σ 1 1)) ∧ bt F N (sk F N (σ 1 1)) ≤ 57) := by
        intro qₓ
        by_cases c3ₓ : sk F N (σ 1 1) < N
        · rw [show bt F N (sk F N (σ 1 1)) = F (sk F N (σ 1 1)) from if_pos c3ₓ] at qₓ; exact cd ⟨c3ₓ, decide_eq_true qₓ⟩
        · rw [show bt F N (sk F N (σ 1 1)) = -1 from if_neg c3ₓ] at qₓ; omega
      rw [if_neg c2ₓ, mIf_pos rfl] at eₓ
      obtain ⟨r2ₓ, s2ₓ, e2ₓ, eₓ⟩ := mCall_el eₓ
      obtain ⟨r3ₓ, s3ₓ, e3ₓ, eₓ⟩ := mCall_el eₓ
      rcases c_readWord hcₓ (kₓ := 5) (by decide) (by decide) wls_enc.2.2 hq0ₓ hqNₓ e2ₓ with ⟨hrₓ, hr0ₓ, hs2ₓ⟩ | ⟨-, hrₓ, hs2ₓ⟩
      · rw [sk_idem] at hrₓ hs2ₓ
        obtain ⟨f1ₓ, f2ₓ⟩ := finₓ _ s2ₓ s3ₓ _ _ _ hs2ₓ e3ₓ eₓ
        refine ⟨f1ₓ, fun hzₓ => ⟨hfₓ, fun O cₓ R hOₓ hbₓ => ?_⟩⟩
        obtain ⟨-, f4ₓ, f5ₓ⟩ := f2ₓ hzₓ
        have hr'ₓ : r2ₓ = idxW F (wd F N (sk F N (σ 1 1))) (sk F N (σ 1 1)) wVals 0 := hrₓ
        have hv : vtok F N (sk F N (σ 1 1)) = r2ₓ := by unfold vtok; rw [if_neg cd, hr'ₓ]
        have hveₓ : vend F N (sk F N (σ 1 1)) = wd F N (sk F N (σ 1 1)) := if_neg cd
        have hdₓ : sk F N (σ 1 1) + 1 ≤ wd F N (sk F N (σ 1 1)) := wval_adv (by rw [← hr'ₓ]; exact hr0ₓ)
        have hwNₓ : wd F N (sk F N (σ 1 1)) ≤ N := wd_ub hqNₓ
        have hd2ₓ : wd F N (sk F N (σ 1 1)) ≤ sk F N (wd F N (sk F N (σ 1 1))) := sk_ge
        have hltₓ : r2ₓ < 0 + ((wVals.length : Nat) : Int) := by rw [hr'ₓ]; exact idxW_lt _ _ (Int.le_refl 0)
        rw [show wVals.length = 10 from rfl] at hltₓ
        have hokₓ : okV (vtok F N (sk F N (σ 1 1))) = true := by rw [hv]; exact decide_eq_true (Or.inl ⟨hr0ₓ, by omega⟩)
        refine ⟨r2ₓ :: O, f5ₓ O hOₓ (by omega), by rw [f4ₓ, List.length_cons]; omega, XS_one ?_⟩
        rw [x_val hlₓ hokₓ, f4ₓ, hv, hveₓ]
      · rw [sk_idem] at hrₓ hs2ₓ
        obtain ⟨f1ₓ, f2ₓ⟩ := finₓ _ s2ₓ s3ₓ _ _ _ hs2ₓ e3ₓ eₓ
        exact ⟨f1ₓ, fun hzₓ => by have := (f2ₓ hzₓ).1; rw [blm_0] at this; omega⟩
  · unfold m_X3_readValue at eₓ
    rw [← tp_self (σ := σ), c_isFaulty, if_neg hfₓ, mCall_s, mIf_neg (show ¬ (1 : Int) = 0 by decide), tp_self] at eₓ
    obtain ⟨-, rfl⟩ := some_el eₓ
    exact XR.off KRc.rf hfₓ
theorem wL_top (hl1ₓ : xtop isMu W = false) (htₓ : tₓ = -1 ∨ tₓ = 10 ∨ tₓ = 11) : xtop isMu (wL tₓ W) = false := by
  unfold wL
  by_cases cₓ : tₓ = -1
  · rw [if_pos cₓ]; exact hl1ₓ
  · rw [if_neg cₓ]; exact Bool.eq_false_iff.mpr (fun gₓ => by have := isMu_i.mp (show isMu tₓ = true from gₓ); omega)
theorem cx_readSum0 (hqₓ : 5 ≤ qr) (hlₓ : (ℓ = 3 ∧ ℓ' = 5) ∨ (ℓ = 4 ∧ ℓ' = 6)) (hW1ₓ : xtop isMu W = false) (hW2ₓ : xtop isAd W = false) : ∀ (nₓ : Nat) (wt iₓ : Int) (σ : SS), OKC F N σ → (σ 1 4 = 0 → iₓ ≤ σ 1 1) → (wt = -1 ∨ wt = 10 ∨ wt = 11) → j_X3_readSum qr 3 nₓ 8 [wt, iₓ] σ = some (rₓ, σ') → XR F N qr ℓ' ℓ' (wL wt W) W σ σ' := by
  intro nₓ
  induction nₓ with
  | zero => intro wt iₓ σ hₓ hiₓ hwtₓ eₓ; exact none_el eₓ
  | succ nₓ ihₓ =>
    intro wt iₓ σ hₓ hiₓ hwtₓ eₓ
    rw [e_X3_readSum_8] at eₓ
    unfold b_X3_readSum_8 at eₓ
    have finₓ : ∀ τ : SS, OKC F N τ → XR F N qr ℓ' ℓ' (wL wt W) (wL wt W) σ τ → (τ 1 4 = 0 → opAt F N (sk F N (τ 1 1)) = false) → b_X3_readSum_82 (j_X3_readSum qr 3 nₓ) nₓ qr 3 wt τ = some (rₓ, σ') → XR F N qr ℓ' ℓ' (wL wt W) W σ σ' := by
      intro τ h0ₓ h1ₓ h2ₓ eₓ
      unfold b_X3_readSum_82 at eₓ
      obtain ⟨r1ₓ, s1ₓ, e1ₓ, eₓ⟩ := mCall_el eₓ
      obtain ⟨-, rfl⟩ := some_el eₓ
      exact h1ₓ.tr (XR.wait hqₓ h0ₓ e1ₓ (fun hwₓ hzₓ O cₓ R => XS_one (x_adpop hlₓ (by omega) (mu_op (h2ₓ hzₓ)))))
    by_cases cₓ : 400 ≤ iₓ
    · rw [mIf_pos cₓ] at eₓ
      refine finₓ σ hₓ XR.rf (fun hfₓ => ?_) eₓ
      refine Bool.eq_false_iff.mpr (fun qₓ => ?_)
      have h3ₓ := opAt_i.mp qₓ
      have h4ₓ : σ 1 1 ≤ sk F N (σ 1 1) := sk_ge
      have h5ₓ := hiₓ hfₓ
      have h6ₓ := hₓ.2.1.2.2
      omega
    · rw [mIf_neg cₓ] at eₓ
      by_cases hfₓ : σ 1 4 = 0
      · have esₓ := es_0 hfₓ
        rw [← esₓ, c_isFaulty, if_pos rfl, mCall_s, mIf_neg (fun qₓ => qₓ rfl)] at eₓ
        obtain ⟨r1ₓ, s1ₓ, e1ₓ, eₓ⟩ := mCall_el eₓ
        have hleₓ : σ 1 1 ≤ sk F N (σ 1 1) := sk_ge
        have hp0ₓ := hₓ.2.1.1
        rcases c_takeOperator hₓ.1 hₓ.2.1.1 e1ₓ with ⟨hoₓ, hrₓ, hNₓ, hs1ₓ⟩ | ⟨hoₓ, hrₓ, hs1ₓ⟩
        · have hr1ₓ := cx_takeOperator hₓ.1 hₓ.2.1.1 hoₓ e1ₓ
          subst hs1ₓ
          have h1ₓ : OKC F N (tp σ (sk F N (σ 1 1) + 1) (sk F N (σ 1 1)) 0) := hₓ.mv hfₓ (by omega) (by omega)
          have hskₓ : sk F N (σ 1 1) + 1 ≤ sk F N (sk F N (σ 1 1) + 1) := sk_ge
          rw [mIf_pos (show ¬ r1ₓ = -1 by omega)] at eₓ
          have goₓ : (r1ₓ = 12 ∨ r1ₓ = 13) → b_X3_readSum_50 (j_X3_readSum qr 3 nₓ) nₓ qr 3 wt iₓ r1ₓ (tp σ (sk F N (σ 1 1) + 1) (sk F N (σ 1 1)) 0) = some (rₓ, σ') → XR F N qr ℓ' ℓ' (wL wt W) W σ σ' := by
            intro c12ₓ eₓ
            unfold b_X3_readSum_50 b_X3_readSum_76 at eₓ
            obtain ⟨r2ₓ, s2ₓ, e2ₓ, eₓ⟩ := mCall_el eₓ
            obtain ⟨r3ₓ, s3ₓ, e3ₓ, eₓ⟩ := mCall_el eₓ
            have hmuₓ : muAt F N (sk F N (σ 1 1)) = true := by
              by_cases cm : muAt F N (sk F N (σ 1 1)) = true
              · exact cm
              · have := opTok_ad hoₓ cm; omega
            have m1ₓ : XR F N qr ℓ' ℓ (wL wt W) (r1ₓ :: wL wt W) σ (tp σ (sk F N (σ 1 1) + 1) (sk F N (σ 1 1)) 0) := XR.mv hqₓ hfₓ (by rw [List.length_cons]; omega) (fun O cₓ R => XS_one (by rw [x_mupush hlₓ (wL_top hW1ₓ hwtₓ) hmuₓ, hr1ₓ]))
            have v2ₓ := c_readValue hqₓ hlₓ h1ₓ e2ₓ (S := [])
            have m2ₓ : XR F N qr ℓ ℓ' (r1ₓ :: wL wt W) (r1ₓ :: wL wt W) (tp σ (sk F N (σ 1 1) + 1) (sk F N (σ 1 1)) 0) s2ₓ := cx_readValue hqₓ hlₓ h1ₓ e2ₓ
            have m3ₓ : XR F N qr ℓ' ℓ' (r1ₓ :: wL wt W) (wL wt W) s2ₓ s3ₓ := XR.pop hqₓ v2ₓ.1 e3ₓ (fun _ O cₓ R => XS_one (x_mupop hlₓ c12ₓ))
            have hm3ₓ := c_addToken hqₓ e3ₓ
            have h5ₓ := v2ₓ.2.2.1
            rw [tp_p] at h5ₓ
            have m4ₓ := ihₓ wt (iₓ + 1) s3ₓ (v2ₓ.1.sm hm3ₓ) (fun _ => by rw [hm3ₓ 1 1 (by omega)]; have := hiₓ hfₓ; omega) hwtₓ eₓ
            exact ((m1ₓ.tr m2ₓ).tr m3ₓ).tr m4ₓ
          by_cases c12ₓ : r1ₓ = 12
          · rw [mIf_pos c12ₓ] at eₓ; exact goₓ (Or.inl c12ₓ) eₓ
          · rw [mIf_neg c12ₓ] at eₓ
            by_cases c13ₓ : r1ₓ = 13
            · rw [mIf_neg (fun qₓ => qₓ c13ₓ)] at eₓ; exact goₓ (Or.inr c13ₓ) eₓ
            · rw [mIf_pos c13ₓ] at eₓ
              obtain ⟨r2ₓ, s2ₓ, e2ₓ, eₓ⟩ := mCall_el eₓ
              obtain ⟨r3ₓ, s3ₓ, e3ₓ, eₓ⟩ := mCall_el eₓ
              unfold b_X3_readSum_76 at eₓ
              have hmuₓ : ¬ muAt F N (sk F N (σ 1 1)) = true := fun gₓ => by have := opTok_mu gₓ; omega
              have m1ₓ : XR F N qr ℓ' ℓ (wL wt W) (r1ₓ :: W) σ s2ₓ := XR.addop hqₓ hₓ hfₓ (Int.le_refl _) e2ₓ (fun O cₓ R => by
                unfold wL
                by_cases cw : wt = -1
                · rw [if_pos cw, if_pos cw]; exact XS_one (by rw [x_adpush hlₓ hW1ₓ hW2ₓ hmuₓ hoₓ, hr1ₓ])
                · rw [if_neg cw, if_neg cw]; exact (XS_one (x_adpop hlₓ (by omega) hmuₓ)).tr (XS_one (by rw [x_adpush hlₓ hW1ₓ hW2ₓ hmuₓ hoₓ, hr1ₓ])))
              have hs2ₓ := c_addWaiting hqₓ e2ₓ
              have h2ₓ := h1ₓ.sm hs2ₓ
              have v3ₓ := c_readValue hqₓ hlₓ h2ₓ e3ₓ (S := [])
              have m2ₓ : XR F N qr ℓ ℓ' (r1ₓ :: W) (r1ₓ :: W) s2ₓ s3ₓ := cx_readValue hqₓ hlₓ h2ₓ e3ₓ
              have h5ₓ := v3ₓ.2.2.1
              rw [hs2ₓ 1 1 (by omega), tp_p] at h5ₓ
              have m4ₓ := ihₓ r1ₓ (iₓ + 1) s3ₓ v3ₓ.1 (fun _ => by have := hiₓ hfₓ; omega) (by omega) eₓ
              rw [show wL r1ₓ W = r1ₓ :: W from if_neg (by omega)] at m4ₓ
              exact (m1ₓ.tr m2ₓ).tr m4ₓ
        · subst hs1ₓ
          subst hrₓ
          rw [mIf_neg (fun qₓ => qₓ rfl)] at eₓ
          have h1ₓ : OKC F N (tp σ (sk F N (σ 1 1)) (sk F N (σ 1 1)) 0) := hₓ.mv hfₓ (by omega) (sk_ub hₓ.2.1.2.1)
          refine finₓ _ h1ₓ (XR.mv hqₓ hfₓ (by rw [sk_idem]; omega) (fun O cₓ R => by rw [sk_idem]; exact XS.rf)) (fun _ => ?_) eₓ
          rw [tp_p, sk_idem]; exact hoₓ
      · rw [← tp_self (σ := σ), c_isFaulty, if_neg hfₓ, mCall_s, mIf_pos (show ¬ (1 : Int) = 0 by decide), tp_self] at eₓ
        exact finₓ σ hₓ XR.rf (fun qₓ => absurd qₓ hfₓ) eₓ
theorem cx_readSum (hqₓ : 5 ≤ qr) (hlₓ : (ℓ = 3 ∧ ℓ' = 5) ∨ (ℓ = 4 ∧ ℓ' = 6)) (hW1ₓ : xtop isMu W = false) (hW2ₓ : xtop isAd W = false) (hₓ : OKC F N σ) (eₓ : m_X3_readSum nₓ qr 3 σ = some (rₓ, σ')) : XR F N qr ℓ ℓ' W W σ σ' := by
  unfold m_X3_readSum at eₓ
  obtain ⟨r1ₓ, s1ₓ, e1ₓ, eₓ⟩ := mCall_el eₓ
  have h1ₓ := c_readValue hqₓ hlₓ hₓ e1ₓ (S := [])
  have m1ₓ : XR F N qr ℓ ℓ' W W σ s1ₓ := cx_readValue hqₓ hlₓ hₓ e1ₓ
  have m2ₓ := cx_readSum0 hqₓ hlₓ hW1ₓ hW2ₓ nₓ (-1) 0 s1ₓ h1ₓ.1 (fun _ => h1ₓ.1.2.1.1) (Or.inl rfl) eₓ
  rw [show wL (-1) W = W from if_pos rfl] at m2ₓ
  exact m1ₓ.tr m2ₓ
theorem cx_sign98 {v1ₓ v2ₓ : Int} (eₓ : b_X3_readSign_98 nₓ q0ₓ v1ₓ v2ₓ σ = some (rₓ, σ')) : rₓ = if v1ₓ = 60 then (if v2ₓ = 0 then 14 else 15) else (if v2ₓ = 0 then 18 else 17) := by
  unfold b_X3_readSign_98 at eₓ
  by_cases cₓ : v1ₓ = 60
  · rw [mIf_neg (fun qₓ => qₓ cₓ)] at eₓ
    rw [if_pos cₓ]
    by_cases c2ₓ : v2ₓ = 0
    · rw [mIf_pos c2ₓ] at eₓ; rw [if_pos c2ₓ]; exact (some_el eₓ).1
    · rw [mIf_neg c2ₓ] at eₓ; rw [if_neg c2ₓ]; exact (some_el eₓ).1
  · rw [mIf_pos cₓ] at eₓ
    rw [if_neg cₓ]
    by_cases c2ₓ : v2ₓ = 0
    · rw [mIf_pos c2ₓ] at eₓ; rw [if_pos c2ₓ]; exact (some_el eₓ).1
    · rw [mIf_neg c2ₓ] at eₓ; rw [if_neg c2ₓ]; exact (some_el eₓ).1
theorem cmpLen_ge : 1 ≤ cmpLen F N qₓ := by unfold cmpLen; split <;> decide
theorem cx_readSign49 (hqₓ : 5 ≤ qr) (hW1ₓ : xtop isMu W = false) (hW2ₓ : xtop isAd W = false) (hₓ : OKC F N σ) (hfₓ : σ 1 4 = 0) {v1ₓ : Int} (hv : v1ₓ = F (sk F N (σ 1 1))) (hNₓ : sk F N (σ 1 1) < N) (hcₓ : v1ₓ = 60 ∨ v1ₓ = 61 ∨ v1ₓ = 62) (hoₓ : opAt F N (sk F N (σ 1 1)) = false) (eₓ : b_X3_readSign_49 nₓ 3 v1ₓ (tp σ (sk F N (σ 1 1)) (sk F N (σ 1 1)) 0) = some (rₓ, σ')) : XR F N qr 5 4 W (cmpTok F N (sk F N (σ 1 1)) :: W) σ σ' ∧ rₓ = cmpTok F N (sk F N (σ 1 1)) := by
  obtain ⟨hcvₓ, ⟨hp0ₓ, hp1ₓ, hN4ₓ⟩, hk0ₓ, hk1ₓ, hk2ₓ⟩ := id hₓ
  have hq0ₓ : 0 ≤ sk F N (σ 1 1) := Int.le_trans hp0ₓ sk_ge
  unfold b_X3_readSign_49 at eₓ
  rw [c_countItem hk0ₓ hk1ₓ, mCall_s] at eₓ
  have hcuₓ : CV F N (upS σ 3 2 (σ 3 2 + 1)) := hcvₓ.kp (qr := qr) (upS_kp hqₓ)
  rw [c_pass hcuₓ, mCall_s, if_pos hNₓ] at eₓ
  have finₓ : ∀ q2ₓ : Int, q2ₓ = sk F N (σ 1 1) + cmpLen F N (sk F N (σ 1 1)) → σ' = tp (upS σ 3 2 (σ 3 2 + 1)) q2ₓ (sk F N (σ 1 1)) (if σ 3 2 < 60 then 0 else blm 0 (8 * sk F N (σ 1 1) + 3)) → XR F N qr 5 4 W (cmpTok F N (sk F N (σ 1 1)) :: W) σ σ' := by
    intro q2ₓ h3ₓ h4ₓ
    subst h4ₓ
    have hhₓ : Hi σ (tp (upS σ 3 2 (σ 3 2 + 1)) q2ₓ (sk F N (σ 1 1)) (if σ 3 2 < 60 then 0 else blm 0 (8 * sk F N (σ 1 1) + 3))) := fun qₓ kₓ h5ₓ => by rw [tp_o (by omega), upS_q (by omega)]
    refine ⟨KRc.hi hqₓ hhₓ, fun _ => ⟨hfₓ, fun O cₓ R hOₓ hbₓ => ⟨O, hOₓ.hi hqₓ hhₓ, ?_, XS_one ?_⟩⟩⟩
    · have h5ₓ := cmpLen_ge (F := F) (N := N) (qₓ := sk F N (σ 1 1))
      have h6ₓ : q2ₓ ≤ sk F N q2ₓ := sk_ge
      rw [tp_p, List.length_cons]; omega
    · rw [tp_p, x_cmp hW1ₓ hW2ₓ hoₓ, h3ₓ]
  have b61ₓ : byteIs F N (sk F N (σ 1 1)) 61 = true ↔ v1ₓ = 61 := by rw [byteIs_i]; omega
  have b60ₓ : byteIs F N (sk F N (σ 1 1)) 60 = true ↔ v1ₓ = 60 := by rw [byteIs_i]; omega
  by_cases cₓ : v1ₓ = 61
  · rw [mIf_neg (fun qₓ => qₓ cₓ)] at eₓ
    obtain ⟨hrₓ, eₓ⟩ := some_el eₓ
    refine ⟨finₓ _ ?_ eₓ, ?_⟩
    · unfold cmpLen; rw [if_neg]; intro qₓ; rw [b61ₓ.mpr cₓ] at qₓ; cases qₓ.1
    · unfold cmpTok; rw [if_pos (b61ₓ.mpr cₓ)]; exact hrₓ
  · rw [mIf_pos cₓ, c_look hcuₓ (by omega), mCall_s] at eₓ
    by_cases c2ₓ : bt F N (sk F N (σ 1 1) + 1) = 61
    · have h2ₓ := bt_lt (by decide) c2ₓ
      have h3ₓ : byteIs F N (sk F N (σ 1 1) + 1) 61 = true := byteIs_i.mpr h2ₓ
      rw [mIf_neg (fun qₓ => qₓ c2ₓ), mIf_neg (by decide), c_pass hcuₓ, mCall_s, if_pos h2ₓ.1] at eₓ
      refine ⟨finₓ _ ?_ (c_readSign98 eₓ), ?_⟩
      · unfold cmpLen; rw [if_pos ⟨Bool.eq_false_iff.mpr (fun qₓ => cₓ (b61ₓ.mp qₓ)), h3ₓ⟩]; omega
      · rw [cx_sign98 eₓ]; unfold cmpTok
        rw [if_neg (fun qₓ => cₓ (b61ₓ.mp qₓ)), if_neg (show ¬ (1 : Int) = 0 by decide), if_neg (show ¬ (1 : Int) = 0 by decide)]
        by_cases c6ₓ : v1ₓ = 60
        · rw [if_pos c6ₓ, if_pos (b60ₓ.mpr c6ₓ), if_pos h3ₓ]
        · rw [if_neg c6ₓ, if_neg (fun qₓ => c6ₓ (b60ₓ.mp qₓ)), if_pos h3ₓ]
    · rw [mIf_pos c2ₓ, mIf_pos rfl] at eₓ
      have h3ₓ : ¬ byteIs F N (sk F N (σ 1 1) + 1) 61 = true := fun qₓ => c2ₓ ((bt_is (by decide)).mpr (byteIs_i.mp qₓ))
      refine ⟨finₓ _ ?_ (c_readSign98 eₓ), ?_⟩
      · unfold cmpLen; rw [if_neg (fun qₓ => h3ₓ qₓ.2)]
      · rw [cx_sign98 eₓ]; unfold cmpTok
        rw [if_neg (fun qₓ => cₓ (b61ₓ.mp qₓ)), if_pos rfl, if_pos rfl]
        by_cases c6ₓ : v1ₓ = 60
        · rw [if_pos c6ₓ, if_pos (b60ₓ.mpr c6ₓ), if_neg h3ₓ]
        · rw [if_neg c6ₓ, if_neg (fun qₓ => c6ₓ (b60ₓ.mp qₓ)), if_neg h3ₓ]
theorem cx_readSign (hqₓ : 5 ≤ qr) (hW1ₓ : xtop isMu W = false) (hW2ₓ : xtop isAd W = false) (hₓ : OKC F N σ) (hoₓ : σ 1 4 = 0 → opAt F N (sk F N (σ 1 1)) = false) (eₓ : m_X3_readSign nₓ 3 σ = some (rₓ, σ')) : XR F N qr 5 4 W (cmpTok F N (sk F N (σ 1 1)) :: W) σ σ' ∧ (σ' 1 4 = 0 → rₓ = cmpTok F N (sk F N (σ 1 1))) := by
  unfold m_X3_readSign at eₓ
  by_cases hfₓ : σ 1 4 = 0
  · have esₓ := es_0 hfₓ
    rw [← esₓ, c_isFaulty, if_pos rfl, mCall_s, mIf_pos rfl] at eₓ
    obtain ⟨r1ₓ, s1ₓ, e1ₓ, eₓ⟩ := mCall_el eₓ
    obtain ⟨rfl, rfl⟩ := c_lbbm hₓ.1 hₓ.2.1.1 e1ₓ
    have hleₓ : σ 1 1 ≤ sk F N (σ 1 1) := sk_ge
    have hp0ₓ := hₓ.2.1.1
    have yesₓ : (bt F N (sk F N (σ 1 1)) = 60 ∨ bt F N (sk F N (σ 1 1)) = 61 ∨ bt F N (sk F N (σ 1 1)) = 62) → b_X3_readSign_49 nₓ 3 (bt F N (sk F N (σ 1 1))) (tp σ (sk F N (σ 1 1)) (sk F N (σ 1 1)) 0) = some (rₓ, σ') → XR F N qr 5 4 W (cmpTok F N (sk F N (σ 1 1)) :: W) σ σ' ∧ (σ' 1 4 = 0 → rₓ = cmpTok F N (sk F N (σ 1 1))) := by
      intro hcₓ eₓ
      have h2ₓ : sk F N (σ 1 1) < N := by
        rcases hcₓ with hcₓ | hcₓ | hcₓ
        · exact (bt_lt (by decide) hcₓ).1
        · exact (bt_lt (by decide) hcₓ).1
        · exact (bt_lt (by decide) hcₓ).1
      have h3ₓ := cx_readSign49 hqₓ hW1ₓ hW2ₓ hₓ hfₓ (if_pos h2ₓ) h2ₓ hcₓ (hoₓ hfₓ) eₓ
      exact ⟨h3ₓ.1, fun _ => h3ₓ.2⟩
    by_cases c1ₓ : bt F N (sk F N (σ 1 1)) = 60
    · rw [mIf_pos c1ₓ] at eₓ; exact yesₓ (Or.inl c1ₓ) eₓ
    rw [mIf_neg c1ₓ] at eₓ
    by_cases c2ₓ : bt F N (sk F N (σ 1 1)) = 61
    · rw [mIf_pos c2ₓ] at eₓ; exact yesₓ (Or.inr (Or.inl c2ₓ)) eₓ
    rw [mIf_neg c2ₓ] at eₓ
    by_cases c3ₓ : bt F N (sk F N (σ 1 1)) = 62
    · rw [mIf_pos c3ₓ] at eₓ; exact yesₓ (Or.inr (Or.inr c3ₓ)) eₓ
    rw [mIf_neg c3ₓ, c_blameHere, mCall_s, blm_0] at eₓ
    obtain ⟨-, rfl⟩ := some_el eₓ
    have hneₓ : 1 + 8 * sk F N (σ 1 1) ≠ 0 := by omega
    exact ⟨XR.off (KRc.hi hqₓ tp_hi) (by rw [tp_f]; exact hneₓ), fun hzₓ => absurd hzₓ (by rw [tp_f]; exact hneₓ)⟩
  · rw [← tp_self (σ := σ), c_isFaulty, if_neg hfₓ, mCall_s, mIf_neg (show ¬ (1 : Int) = 0 by decide), tp_self] at eₓ
    obtain ⟨-, rfl⟩ := some_el eₓ
    exact ⟨XR.off KRc.rf hfₓ, fun hzₓ => absurd hzₓ hfₓ⟩
theorem cx_compare (hqₓ : 5 ≤ qr) (hWₓ : lgW W) (hₓ : OKC F N σ) (eₓ : (mCall (m_X3_readSum nₓ qr 3 σ) fun _ s1ₓ => mCall (m_X3_readSign nₓ 3 s1ₓ) fun x2ₓ s3ₓ => mCall (m_X3_readSum nₓ qr 3 s3ₓ) fun _ s4ₓ => mCall (m_X2_addToken nₓ qr x2ₓ s4ₓ) fun _ s5ₓ => mRet 0 s5ₓ) = some (rₓ, σ')) : XR F N qr 3 7 W W σ σ' := by
  obtain ⟨r1ₓ, s1ₓ, e1ₓ, eₓ⟩ := mCall_el eₓ
  obtain ⟨r2ₓ, s2ₓ, e2ₓ, eₓ⟩ := mCall_el eₓ
  obtain ⟨r3ₓ, s3ₓ, e3ₓ, eₓ⟩ := mCall_el eₓ
  obtain ⟨r4ₓ, s4ₓ, e4ₓ, eₓ⟩ := mCall_el eₓ
  obtain ⟨-, rfl⟩ := some_el eₓ
  obtain ⟨hW1ₓ, hW2ₓ⟩ := baW_mu (kₓ := false) (W := W) hWₓ
  have h1ₓ := c_readSum hqₓ (Or.inl ⟨rfl, rfl⟩) hₓ e1ₓ (S := [])
  have h2ₓ := c_readSign hqₓ h1ₓ.1.1 h1ₓ.2 e2ₓ (S := [])
  have h3ₓ := c_readSum hqₓ (Or.inr ⟨rfl, rfl⟩) h2ₓ.1 e3ₓ (S := [])
  have m1ₓ : XR F N qr 3 5 W W σ s1ₓ := cx_readSum hqₓ (Or.inl ⟨rfl, rfl⟩) hW1ₓ hW2ₓ hₓ e1ₓ
  have m2ₓ := cx_readSign hqₓ hW1ₓ hW2ₓ h1ₓ.1.1 h1ₓ.2 e2ₓ
  have hrₓ := cmpTok_r (F := F) (N := N) (qₓ := sk F N (s1ₓ 1 1))
  obtain ⟨hV1ₓ, hV2ₓ⟩ := cmp_top (W := W) hrₓ
  have m3ₓ : XR F N qr 4 6 (cmpTok F N (sk F N (s1ₓ 1 1)) :: W) (cmpTok F N (sk F N (s1ₓ 1 1)) :: W) s2ₓ s3ₓ := cx_readSum hqₓ (Or.inr ⟨rfl, rfl⟩) hV1ₓ hV2ₓ h2ₓ.1 e3ₓ
  have hmₓ := c_addToken hqₓ e4ₓ
  by_cases cₓ : s3ₓ 1 4 = 0
  · have c2ₓ := (m3ₓ.2 cₓ).1
    have hr2ₓ := m2ₓ.2 c2ₓ
    rw [hr2ₓ] at e4ₓ
    have m4ₓ : XR F N qr 6 7 (cmpTok F N (sk F N (s1ₓ 1 1)) :: W) W s3ₓ σ' := XR.pop hqₓ h3ₓ.1.1 e4ₓ (fun hzₓ O cₓ R => XS_one (x_done hrₓ (h3ₓ.2 hzₓ)))
    exact ((m1ₓ.tr m2ₓ.1).tr m3ₓ).tr m4ₓ
  · exact XR.off (((m1ₓ.1.tr m2ₓ.1.1).tr m3ₓ.1).tr (cx_add hqₓ e4ₓ).1) (by rw [hmₓ 1 4 (by omega)]; exact cₓ)
end
