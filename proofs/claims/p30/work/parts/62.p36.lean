/-! the reference's facts, brackets and tests: what they put out -/
def wS (σ : SS) : Nat → List Int
  | 0 => []
  | kₓ + 1 => (if σ 9 kₓ = 91 then 91 else σ 9 kₓ + 8) :: wS σ kₓ
def WS (σ : SS) : List Int := wS σ (σ 0 22).toNat
theorem wS_congr {σ σ' : SS} : ∀ kₓ : Nat, (∀ jₓ : Nat, jₓ < kₓ → σ' 9 jₓ = σ 9 jₓ) → wS σ' kₓ = wS σ kₓ
  | 0, _ => rfl
  | kₓ + 1, hₓ => by
    unfold wS
    rw [hₓ kₓ (by omega), wS_congr kₓ (fun jₓ hjₓ => hₓ jₓ (by omega))]
theorem wS_lg {σ : SS} : ∀ kₓ : Nat, (∀ jₓ : Nat, jₓ < kₓ → σ 9 jₓ = 11 ∨ σ 9 jₓ = 91 ∨ σ 9 jₓ = 12 ∨ σ 9 jₓ = 13) → lgW (wS σ kₓ)
  | 0, _ => lgW_n
  | kₓ + 1, hₓ => by
    unfold wS
    refine lgW_p ?_ (wS_lg kₓ (fun jₓ hjₓ => hₓ jₓ (by omega)))
    have h1ₓ := hₓ kₓ (by omega)
    by_cases cₓ : σ 9 kₓ = 91
    · rw [if_pos cₓ]; omega
    · rw [if_neg cₓ]; omega
section
variable {F : Int → Int} {N : Int} {ℓ ℓ' ℓ'' : Nat} {W W' W'' O : List Int} {σ σ' σ'' : SS} {pₓ rₓ aₓ bₓ wₓ xₓ tₓ : Int} {nₓ : Nat} {qₓ : Int} {cₓ : Int × Nat} {R : List (Int × Nat × Bool × Nat)}
theorem WS_eq (h1ₓ : σ' 0 22 = σ 0 22) (h2ₓ : ∀ kₓ : Nat, σ' 9 kₓ = σ 9 kₓ) : WS σ' = WS σ := by
  unfold WS; rw [h1ₓ]; exact wS_congr _ (fun jₓ _ => h2ₓ jₓ)
theorem WS_top (hₓ : 0 < σ 0 22) : WS σ = (if σ 9 (σ 0 22 - 1).toNat = 91 then 91 else σ 9 (σ 0 22 - 1).toNat + 8) :: wS σ (σ 0 22 - 1).toNat := by
  unfold WS
  rw [show (σ 0 22).toNat = (σ 0 22 - 1).toNat + 1 by omega]; rfl
theorem OKS.lg (hₓ : OKS σ) : lgW (WS σ) := wS_lg _ (fun jₓ hjₓ => hₓ.2.2.2.1 jₓ (by have := hₓ.1; omega))
theorem XM.st (hsₓ : ∀ (O : List Int) (cₓ : Int × Nat) (R : List (Int × Nat × Bool × Nat)), XS F N (ℓ, sk F N (σ 0 14), W, O, cₓ, R) (ℓ', sk F N (σ 0 14), W', O, cₓ, R)) : XM F N ℓ ℓ' W W' rₓ σ σ := ⟨KM.rf, fun _ O cₓ R hOₓ => ⟨O, hOₓ, hsₓ O cₓ R⟩⟩
theorem XM.go (hlₓ : L0 σ σ') (h14ₓ : σ' 0 14 = pₓ) (hsₓ : ∀ (O : List Int) (cₓ : Int × Nat) (R : List (Int × Nat × Bool × Nat)), XS F N (ℓ, sk F N (σ 0 14), W, O, cₓ, R) (ℓ', sk F N pₓ, W', O, cₓ, R)) : XM F N ℓ ℓ' W W' rₓ σ σ' := ⟨hlₓ.km, fun _ O cₓ R hOₓ => ⟨O, hOₓ.l0 hlₓ, by rw [h14ₓ]; exact hsₓ O cₓ R⟩⟩
theorem rx_opens (hfₓ : σ 0 15 = 0) (hsₓ : OKS σ) (eₓ : m_X12_opens nₓ 0 aₓ σ = some (rₓ, σ')) : L0 σ σ' ∧ (rₓ = 1 → WS σ' = (if aₓ = 91 then 91 else aₓ + 8) :: WS σ) := by
  obtain ⟨a1ₓ, a2ₓ, a3ₓ, a4ₓ, a5ₓ⟩ := id hsₓ
  unfold m_X12_opens at eₓ
  rw [mRd_e] at eₓ
  by_cases cₓ : σ 0 19 = 10
  · rw [mIf_neg (fun qₓ => qₓ cₓ), mRd_e, r_fails hfₓ, mCall_s] at eₓ
    obtain ⟨rfl, rfl⟩ := some_el eₓ
    exact ⟨L0.up (by decide), fun hₓ => absurd hₓ (by decide)⟩
  · rw [mIf_pos cₓ, mRd_e, mLet_e, mWr_e, mRd_e, upS_n (show ¬ ((0 : Nat) = 0 ∧ (22 : Nat) = 19) by decide), mWr_e, mRd_e, upS_q (show (0 : Nat) ≠ 9 by decide), upS_n (show ¬ ((0 : Nat) = 0 ∧ (22 : Nat) = 19) by decide), mLet_e, mWr_e] at eₓ
    obtain ⟨rfl, rfl⟩ := some_el eₓ
    refine ⟨((L0.up (by decide)).tr L0.up9).tr (L0.up (by decide)), fun _ => ?_⟩
    have b9ₓ : ∀ kₓ : Nat, upS (upS (upS σ 0 19 (σ 0 19 + 1)) 9 (σ 0 22).toNat aₓ) 0 22 (σ 0 22 + 1) 9 kₓ = if kₓ = (σ 0 22).toNat then aₓ else σ 9 kₓ := by
      intro kₓ
      rw [upS_q (by decide)]
      by_cases ck : kₓ = (σ 0 22).toNat
      · rw [if_pos ck, ck]; exact upS_s
      · rw [if_neg ck, upS_k ck, upS_q (by decide)]
    have b22ₓ : upS (upS (upS σ 0 19 (σ 0 19 + 1)) 9 (σ 0 22).toNat aₓ) 0 22 (σ 0 22 + 1) 0 22 = σ 0 22 + 1 := upS_s
    rw [WS_top (by rw [b22ₓ]; omega), b22ₓ, show (σ 0 22 + 1 - 1).toNat = (σ 0 22).toNat by omega, b9ₓ, if_pos rfl]
    congr 1
    exact wS_congr _ (fun jₓ hjₓ => by rw [b9ₓ, if_neg (by omega)])
theorem rx_fact0 : ∀ (nₓ : Nat) (vₓ : Int) (σ : SS), OKM F N σ → OKS σ → (vₓ = 0 → isWd F N (sk F N (σ 0 14)) wNot = false ∧ byteIs F N (sk F N (σ 0 14)) 91 = false) → j_X12_fact 0 nₓ 2 [vₓ] σ = some (rₓ, σ') → XM F N 2 7 (WS σ) (WS σ') rₓ σ σ' := by
  intro nₓ
  induction nₓ with
  | zero => intro vₓ σ hₓ hsₓ hv eₓ; exact none_el eₓ
  | succ nₓ ihₓ =>
    intro vₓ σ hₓ hsₓ hv eₓ
    rw [e_X12_fact_2] at eₓ
    unfold b_X12_fact_2 at eₓ
    have hq0ₓ : 0 ≤ sk F N (σ 0 14) := Int.le_trans hₓ.2.1.1 sk_ge
    have hqNₓ : sk F N (σ 0 14) ≤ N := sk_ub hₓ.2.1.2
    by_cases c0ₓ : vₓ = 0
    · rw [mIf_pos c0ₓ] at eₓ
      obtain ⟨v1ₓ, v2ₓ⟩ := hv c0ₓ
      obtain ⟨r1ₓ, s1ₓ, e1ₓ, eₓ⟩ := mCall_el eₓ
      obtain ⟨rfl, rfl⟩ := some_el eₓ
      obtain ⟨k1ₓ, -⟩ := r_compare hₓ e1ₓ (S := [])
      obtain ⟨x22ₓ, x9ₓ, x19ₓ⟩ := k1ₓ.s
      rw [WS_eq x22ₓ x9ₓ]
      have m0ₓ : XM F N 2 3 (WS σ) (WS σ) 1 σ σ := XM.st (fun O cₓ R => XS_one (x2_sum (by rw [v1ₓ]; decide) (by rw [v2ₓ]; decide)))
      exact m0ₓ.tr (rx_compare hsₓ.lg hₓ e1ₓ)
    · rw [mIf_neg c0ₓ] at eₓ
      obtain ⟨r1ₓ, s1ₓ, e1ₓ, eₓ⟩ := mCall_el eₓ
      obtain ⟨rfl, rfl⟩ := r_seem hₓ.1 hₓ.2.1.1 e1ₓ
      have h1ₓ : OKM F N (upS σ 0 14 (sk F N (σ 0 14))) := hₓ.mv hq0ₓ hqNₓ
      have k1ₓ : KS σ (upS σ 0 14 (sk F N (σ 0 14))) := KS.up (Or.inl rfl)
      obtain ⟨x22ₓ, x9ₓ, x19ₓ⟩ := k1ₓ.s
      have hs1ₓ := hsₓ.eq x22ₓ x9ₓ x19ₓ
      have eW1 := WS_eq x22ₓ x9ₓ
      have l1ₓ : L0 σ (upS σ 0 14 (sk F N (σ 0 14))) := L0.up (by decide)
      obtain ⟨r2ₓ, s2ₓ, e2ₓ, eₓ⟩ := mCall_el eₓ
      have hwₓ := r_isWord (W := wNot) (by unfold WD; decide) h1ₓ.1 h1ₓ.2.1.1 e2ₓ
      rw [upS_s, sk_idem, upS_upS] at hwₓ
      obtain ⟨hwₓ, rfl⟩ := hwₓ
      rcases hwₓ with ⟨hwₓ, rfl⟩ | ⟨hwₓ, rfl⟩
      · -- not
        rw [mIf_neg (show ¬ (1 : Int) = 0 by decide)] at eₓ
        obtain ⟨r3ₓ, s3ₓ, e3ₓ, eₓ⟩ := mCall_el eₓ
        obtain ⟨l3ₓ, w3ₓ⟩ := rx_opens h1ₓ.2.2.1 hs1ₓ e3ₓ
        rcases r_opens h1ₓ.2.2.1 hs1ₓ (Or.inl rfl) e3ₓ with ⟨g1ₓ, rfl, -⟩ | ⟨g1ₓ, rfl, g2ₓ, -, g4ₓ⟩
        · rw [mIf_neg (fun qₓ => qₓ rfl)] at eₓ
          obtain ⟨rfl, rfl⟩ := some_el eₓ
          exact XM.off (l1ₓ.tr l3ₓ).km
        · rw [mIf_pos (show ¬ (1 : Int) = 0 by decide)] at eₓ
          obtain ⟨r4ₓ, s4ₓ, e4ₓ, eₓ⟩ := mCall_el eₓ
          have g3ₓ := w3ₓ rfl
          rw [eW1, if_neg (show ¬ (11 : Int) = 91 by decide)] at g3ₓ
          have m3ₓ : MV F N s3ₓ := ⟨by rw [g4ₓ 0 1 (by decide) (by decide) (by decide)]; exact h1ₓ.1.1, fun jₓ j0ₓ j1ₓ => by rw [g4ₓ 1 jₓ.toNat (by decide) (by omega) (by omega)]; exact h1ₓ.1.2 jₓ j0ₓ j1ₓ⟩
          have n3ₓ : s3ₓ 0 14 = sk F N (σ 0 14) := by rw [g4ₓ 0 14 (by decide) (by decide) (by decide)]; exact upS_s
          have hs4ₓ := r_passWordm m3ₓ (by rw [n3ₓ]; exact hq0ₓ) e4ₓ
          rw [n3ₓ] at hs4ₓ
          subst hs4ₓ
          have hw0ₓ : 0 ≤ wd F N (sk F N (σ 0 14)) := Int.le_trans hq0ₓ wd_ge
          have hwNₓ : wd F N (sk F N (σ 0 14)) ≤ N := wd_ub hqNₓ
          have z22ₓ : upS s3ₓ 0 14 (wd F N (sk F N (σ 0 14))) 0 22 = s3ₓ 0 22 := upS_n (by omega)
          have z9ₓ : ∀ kₓ : Nat, upS s3ₓ 0 14 (wd F N (sk F N (σ 0 14))) 9 kₓ = s3ₓ 9 kₓ := fun kₓ => upS_q (by decide)
          have z19ₓ : upS s3ₓ 0 14 (wd F N (sk F N (σ 0 14))) 0 19 = s3ₓ 0 19 := upS_n (by omega)
          have hokₓ : OKM F N (upS s3ₓ 0 14 (wd F N (sk F N (σ 0 14)))) := by
            refine ⟨m3ₓ.up (by decide) (by omega), by rw [upS_s]; exact ⟨hw0ₓ, hwNₓ⟩, ?_, ?_, ?_⟩
            · rw [upS_n (by omega), g4ₓ 0 15 (by decide) (by decide) (by decide)]; exact h1ₓ.2.2.1
            · rw [upS_n (by omega), g4ₓ 0 18 (by decide) (by decide) (by decide)]; exact h1ₓ.2.2.2.1
            · rw [upS_n (by omega), g4ₓ 0 18 (by decide) (by decide) (by decide)]; exact h1ₓ.2.2.2.2
          have iₓ := ihₓ 1 _ hokₓ (g2ₓ.eq z22ₓ z9ₓ z19ₓ) (fun qₓ => absurd qₓ (by decide)) eₓ
          rw [WS_eq z22ₓ z9ₓ, g3ₓ] at iₓ
          have mm : XM F N 2 2 (WS σ) (19 :: WS σ) 1 σ (upS s3ₓ 0 14 (wd F N (sk F N (σ 0 14)))) := XM.go ((l1ₓ.tr l3ₓ).tr (L0.up (by decide))) upS_s (fun O cₓ R => XS_one (x2_not hwₓ))
          exact mm.tr iₓ
      · rw [mIf_pos rfl] at eₓ
        have hnwₓ : ¬ isWd F N (sk F N (σ 0 14)) wNot = true := by rw [hwₓ]; decide
        by_cases c91ₓ : bt F N (sk F N (σ 0 14)) = 91
        · -- aₓ bracket
          have hbₓ := bt_lt (by decide) c91ₓ
          rw [mIf_neg (fun qₓ => qₓ c91ₓ)] at eₓ
          obtain ⟨r3ₓ, s3ₓ, e3ₓ, eₓ⟩ := mCall_el eₓ
          obtain ⟨l3ₓ, w3ₓ⟩ := rx_opens h1ₓ.2.2.1 hs1ₓ e3ₓ
          rcases r_opens h1ₓ.2.2.1 hs1ₓ (Or.inr rfl) e3ₓ with ⟨g1ₓ, rfl, -⟩ | ⟨g1ₓ, rfl, g2ₓ, -, g4ₓ⟩
          · rw [mIf_neg (fun qₓ => qₓ rfl)] at eₓ
            obtain ⟨rfl, rfl⟩ := some_el eₓ
            exact XM.off (l1ₓ.tr l3ₓ).km
          · rw [mIf_pos (show ¬ (1 : Int) = 0 by decide), mRd_e, mLet_e, mWr_e] at eₓ
            have g3ₓ := w3ₓ rfl
            rw [eW1, if_pos rfl] at g3ₓ
            have m3ₓ : MV F N s3ₓ := ⟨by rw [g4ₓ 0 1 (by decide) (by decide) (by decide)]; exact h1ₓ.1.1, fun jₓ j0ₓ j1ₓ => by rw [g4ₓ 1 jₓ.toNat (by decide) (by omega) (by omega)]; exact h1ₓ.1.2 jₓ j0ₓ j1ₓ⟩
            have n3ₓ : s3ₓ 0 14 = sk F N (σ 0 14) := by rw [g4ₓ 0 14 (by decide) (by decide) (by decide)]; exact upS_s
            rw [n3ₓ] at eₓ
            have z22ₓ : upS s3ₓ 0 14 (sk F N (σ 0 14) + 1) 0 22 = s3ₓ 0 22 := upS_n (by omega)
            have z9ₓ : ∀ kₓ : Nat, upS s3ₓ 0 14 (sk F N (σ 0 14) + 1) 9 kₓ = s3ₓ 9 kₓ := fun kₓ => upS_q (by decide)
            have z19ₓ : upS s3ₓ 0 14 (sk F N (σ 0 14) + 1) 0 19 = s3ₓ 0 19 := upS_n (by omega)
            have hokₓ : OKM F N (upS s3ₓ 0 14 (sk F N (σ 0 14) + 1)) := by
              refine ⟨m3ₓ.up (by decide) (by omega), by rw [upS_s]; omega, ?_, ?_, ?_⟩
              · rw [upS_n (by omega), g4ₓ 0 15 (by decide) (by decide) (by decide)]; exact h1ₓ.2.2.1
              · rw [upS_n (by omega), g4ₓ 0 18 (by decide) (by decide) (by decide)]; exact h1ₓ.2.2.2.1
              · rw [upS_n (by omega), g4ₓ 0 18 (by decide) (by decide) (by decide)]; exact h1ₓ.2.2.2.2
            have iₓ := ihₓ 1 _ hokₓ (g2ₓ.eq z22ₓ z9ₓ z19ₓ) (fun qₓ => absurd qₓ (by decide)) eₓ
            rw [WS_eq z22ₓ z9ₓ, g3ₓ] at iₓ
            have mm : XM F N 2 2 (WS σ) (91 :: WS σ) 1 σ (upS s3ₓ 0 14 (sk F N (σ 0 14) + 1)) := XM.go ((l1ₓ.tr l3ₓ).tr (L0.up (by decide))) upS_s (fun O cₓ R => XS_one (x2_br hnwₓ (byteIs_t hbₓ.1 hbₓ.2)))
            exact mm.tr iₓ
        · rw [mIf_pos c91ₓ] at eₓ
          have iₓ := ihₓ 0 _ h1ₓ hs1ₓ (fun _ => by rw [upS_s, sk_idem]; exact ⟨hwₓ, byteIs_f (fun qₓ => c91ₓ ((bt_is (by decide)).mpr qₓ))⟩) eₓ
          rw [eW1] at iₓ
          exact (XM.stay hₓ).tr iₓ
theorem rx_fact (hₓ : OKM F N σ) (hsₓ : OKS σ) (eₓ : m_X12_fact nₓ 0 σ = some (rₓ, σ')) : XM F N 2 7 (WS σ) (WS σ') rₓ σ σ' := rx_fact0 nₓ 1 σ hₓ hsₓ (fun qₓ => absurd qₓ (by decide)) eₓ
/-- what binds as strong is put out -/
theorem rx_settles0 (hl1ₓ : 1 ≤ aₓ) (hl3ₓ : aₓ ≤ 3) : ∀ (nₓ : Nat) (σ : SS), OKM F N σ → OKS σ → j_X12_settles 0 nₓ 0 [aₓ] σ = some (rₓ, σ') → KM σ σ' ∧ ∀ qₓ : Int, (aₓ = 1 → ¬ isWd F N qₓ wAnd = true) → ∀ (O : List Int) (cₓ : Int × Nat) (R : List (Int × Nat × Bool × Nat)), CdM σ O → ∃ O' : List Int, CdM σ' O' ∧ XS F N (7, qₓ, WS σ, O, cₓ, R) (7, qₓ, WS σ', O', cₓ, R) := by
  intro nₓ
  induction nₓ with
  | zero => intro σ hₓ hsₓ eₓ; exact none_el eₓ
  | succ nₓ ihₓ =>
    intro σ hₓ hsₓ eₓ
    rw [e_X12_settles_0] at eₓ
    unfold b_X12_settles_0 at eₓ
    obtain ⟨a1ₓ, a2ₓ, a3ₓ, a4ₓ, a5ₓ⟩ := id hsₓ
    rw [mRd_e] at eₓ
    by_cases c0ₓ : σ 0 22 ≤ 0
    · rw [mIf_pos c0ₓ] at eₓ
      obtain ⟨-, rfl⟩ := some_el eₓ
      exact ⟨KM.rf, fun qₓ _ O cₓ R hOₓ => ⟨O, hOₓ, XS.rf⟩⟩
    rw [mIf_neg c0ₓ, mRd_e, mLet_e, mRd_e, r_strength, mCall_s] at eₓ
    by_cases cs : str (σ 9 (σ 0 22 - 1).toNat) < aₓ
    · rw [mIf_pos cs] at eₓ
      obtain ⟨-, rfl⟩ := some_el eₓ
      exact ⟨KM.rf, fun qₓ _ O cₓ R hOₓ => ⟨O, hOₓ, XS.rf⟩⟩
    rw [mIf_neg cs, mRd_e, mLet_e, mWr_e, mRd_e, mRd_e, upS_s, upS_q (show (9 : Nat) ≠ 0 by decide)] at eₓ
    obtain ⟨r1ₓ, s1ₓ, e1ₓ, eₓ⟩ := mCall_el eₓ
    have hppₓ := r_puts e1ₓ
    obtain ⟨px1, px2⟩ := rx_puts e1ₓ
    have b22ₓ : s1ₓ 0 22 = σ 0 22 - 1 := by rw [hppₓ 0 22 (by decide) (by decide)]; exact upS_s
    have b9ₓ : ∀ kₓ : Nat, s1ₓ 9 kₓ = σ 9 kₓ := fun kₓ => by rw [hppₓ 9 kₓ (by decide) (by decide), upS_q (by decide)]
    have bk : KW σ s1ₓ := fun qₓ kₓ cₓ => by rw [hppₓ qₓ kₓ (by omega) (by omega), upS_n (by omega)]
    have b19ₓ : s1ₓ 0 19 = σ 0 19 := by rw [hppₓ 0 19 (by decide) (by decide), upS_n (by omega)]
    rw [mRd_e, mRd_e, b22ₓ, b9ₓ] at eₓ
    have hkindₓ := a4ₓ (σ 0 22 - 1).toNat (by omega)
    have c91ₓ : σ 9 (σ 0 22 - 1).toNat ≠ 91 := by
      intro qₓ; rw [qₓ] at cs; unfold str at cs
      rw [if_neg (by decide), if_neg (by decide), if_neg (by decide)] at cs; omega
    have eW : WS σ = (σ 9 (σ 0 22 - 1).toNat + 8) :: WS s1ₓ := by
      rw [WS_top (by omega), if_neg c91ₓ]
      congr 1
      unfold WS; rw [b22ₓ]; exact (wS_congr _ (fun jₓ _ => b9ₓ jₓ)).symm
    have l1ₓ : L0 σ (upS σ 0 22 (σ 0 22 - 1)) := L0.up (by decide)
    have km1 : KM σ s1ₓ := l1ₓ.km.tr px1
    have one : ∀ qₓ : Int, (aₓ = 1 → ¬ isWd F N qₓ wAnd = true) → ∀ (O : List Int) (cₓ : Int × Nat) (R : List (Int × Nat × Bool × Nat)), CdM σ O → ∃ O' : List Int, CdM s1ₓ O' ∧ XS F N (7, qₓ, WS σ, O, cₓ, R) (7, qₓ, WS s1ₓ, O', cₓ, R) := by
      intro qₓ hqₓ O cₓ R hOₓ
      refine ⟨(σ 9 (σ 0 22 - 1).toNat + 8) :: O, px2 O _ (hOₓ.l0 l1ₓ) (by rw [encM_o (by omega)]; omega), XS_one ?_⟩
      rw [eW]
      by_cases c13ₓ : σ 9 (σ 0 22 - 1).toNat = 13
      · have haₓ : aₓ = 1 := by rw [c13ₓ] at cs; unfold str at cs; rw [if_pos rfl] at cs; omega
        rw [c13ₓ]; exact x7_orpop (hqₓ haₓ)
      · exact x7_lg (by omega)
    by_cases c11ₓ : σ 9 (σ 0 22 - 1).toNat = 11
    · rw [mIf_neg (fun qₓ => qₓ c11ₓ), mRd_e, mLet_e, mWr_e] at eₓ
      have t22ₓ : upS s1ₓ 0 19 (s1ₓ 0 19 - 1) 0 22 = σ 0 22 - 1 := by rw [upS_n (by omega)]; exact b22ₓ
      have t9ₓ : ∀ kₓ : Nat, upS s1ₓ 0 19 (s1ₓ 0 19 - 1) 9 kₓ = σ 9 kₓ := fun kₓ => by rw [upS_q (by decide)]; exact b9ₓ kₓ
      have t19ₓ : upS s1ₓ 0 19 (s1ₓ 0 19 - 1) 0 19 = σ 0 19 - 1 := by rw [upS_s, b19ₓ]
      have tk : KW σ (upS s1ₓ 0 19 (s1ₓ 0 19 - 1)) := fun qₓ kₓ cₓ => by rw [upS_n (by omega)]; exact bk qₓ kₓ cₓ
      have eS : SM σ = false :: SM (upS s1ₓ 0 19 (s1ₓ 0 19 - 1)) := by
        rw [SM_top (by omega), if_pos c11ₓ]
        congr 1
        unfold SM; rw [t22ₓ]; exact (opS_congr _ (fun jₓ _ => t9ₓ jₓ)).symm
      have hs1ₓ : OKS (upS s1ₓ 0 19 (s1ₓ 0 19 - 1)) := by
        unfold OKS
        rw [t22ₓ, t19ₓ]
        rw [eS, List.length_cons] at a2ₓ
        refine ⟨by omega, by omega, by omega, fun kₓ hkₓ => by rw [t9ₓ]; exact a4ₓ kₓ (by omega), fun kₓ hkₓ => by rw [t9ₓ, t9ₓ]; exact a5ₓ kₓ (by omega)⟩
      obtain ⟨i1ₓ, i2ₓ⟩ := ihₓ _ (hₓ.kw tk) hs1ₓ eₓ
      have l2ₓ : L0 s1ₓ (upS s1ₓ 0 19 (s1ₓ 0 19 - 1)) := L0.up (by decide)
      have eW2 : WS (upS s1ₓ 0 19 (s1ₓ 0 19 - 1)) = WS s1ₓ := WS_eq (by rw [t22ₓ, b22ₓ]) (fun kₓ => by rw [t9ₓ, b9ₓ])
      refine ⟨(km1.tr l2ₓ.km).tr i1ₓ, fun qₓ hqₓ O cₓ R hOₓ => ?_⟩
      obtain ⟨O1, y1ₓ, y2ₓ⟩ := one qₓ hqₓ O cₓ R hOₓ
      obtain ⟨O2, y3ₓ, y4ₓ⟩ := i2ₓ qₓ hqₓ O1 cₓ R (y1ₓ.l0 l2ₓ)
      rw [eW2] at y4ₓ
      exact ⟨O2, y3ₓ, y2ₓ.tr y4ₓ⟩
    · rw [mIf_pos c11ₓ] at eₓ
      have eS : SM σ = SM s1ₓ := by
        rw [SM_top (by omega), if_neg c11ₓ, if_neg c91ₓ]
        unfold SM; rw [b22ₓ]; exact (opS_congr _ (fun jₓ _ => b9ₓ jₓ)).symm
      have hs1ₓ : OKS s1ₓ := by
        unfold OKS
        rw [b22ₓ, b19ₓ, ← eS]
        refine ⟨by omega, a2ₓ, a3ₓ, fun kₓ hkₓ => by rw [b9ₓ]; exact a4ₓ kₓ (by omega), fun kₓ hkₓ => by rw [b9ₓ, b9ₓ]; exact a5ₓ kₓ (by omega)⟩
      obtain ⟨i1ₓ, i2ₓ⟩ := ihₓ _ (hₓ.kw bk) hs1ₓ eₓ
      refine ⟨km1.tr i1ₓ, fun qₓ hqₓ O cₓ R hOₓ => ?_⟩
      obtain ⟨O1, y1ₓ, y2ₓ⟩ := one qₓ hqₓ O cₓ R hOₓ
      obtain ⟨O2, y3ₓ, y4ₓ⟩ := i2ₓ qₓ hqₓ O1 cₓ R y1ₓ
      exact ⟨O2, y3ₓ, y2ₓ.tr y4ₓ⟩
theorem rx_settles (hl1ₓ : 1 ≤ aₓ) (hl3ₓ : aₓ ≤ 3) (hₓ : OKM F N σ) (hsₓ : OKS σ) (hqₓ : aₓ = 1 → ¬ isWd F N (sk F N (σ 0 14)) wAnd = true) (eₓ : m_X12_settles nₓ 0 aₓ σ = some (rₓ, σ')) : XM F N 7 7 (WS σ) (WS σ') 1 σ σ' := by
  obtain ⟨i1ₓ, i2ₓ⟩ := rx_settles0 hl1ₓ hl3ₓ nₓ σ hₓ hsₓ eₓ
  obtain ⟨-, l2ₓ, -⟩ := r_settles hl1ₓ hl3ₓ hₓ hsₓ eₓ
  refine ⟨i1ₓ, fun _ O cₓ R hOₓ => ?_⟩
  obtain ⟨O', y1ₓ, y2ₓ⟩ := i2ₓ _ hqₓ O cₓ R hOₓ
  exact ⟨O', y1ₓ, by rw [l2ₓ 0 14 (by omega)]; exact y2ₓ⟩
theorem rx_closes0 : ∀ (nₓ : Nat) (σ : SS), OKM F N σ → OKS σ → TN σ → j_X12_closes 0 nₓ 5 [] σ = some (rₓ, σ') → XM F N 7 7 (WS σ) (WS σ') 1 σ σ' := by
  intro nₓ
  induction nₓ with
  | zero => intro σ hₓ hsₓ htₓ eₓ; exact none_el eₓ
  | succ nₓ ihₓ =>
    intro σ hₓ hsₓ htₓ eₓ
    rw [e_X12_closes_5] at eₓ
    unfold b_X12_closes_5 b_X12_closes_64 at eₓ
    have hq0ₓ : 0 ≤ sk F N (σ 0 14) := Int.le_trans hₓ.2.1.1 sk_ge
    have hqNₓ : sk F N (σ 0 14) ≤ N := sk_ub hₓ.2.1.2
    obtain ⟨r1ₓ, s1ₓ, e1ₓ, eₓ⟩ := mCall_el eₓ
    obtain ⟨rfl, rfl⟩ := r_seem hₓ.1 hₓ.2.1.1 e1ₓ
    have h1ₓ : OKM F N (upS σ 0 14 (sk F N (σ 0 14))) := hₓ.mv hq0ₓ hqNₓ
    have k1ₓ : KS σ (upS σ 0 14 (sk F N (σ 0 14))) := KS.up (Or.inl rfl)
    obtain ⟨x22ₓ, x9ₓ, x19ₓ⟩ := k1ₓ.s
    have hs1ₓ := hsₓ.eq x22ₓ x9ₓ x19ₓ
    have eW1 := WS_eq x22ₓ x9ₓ
    have n1ₓ : upS σ 0 14 (sk F N (σ 0 14)) 0 14 = sk F N (σ 0 14) := upS_s
    have m1ₓ : XM F N 7 7 (WS σ) (WS σ) 1 σ (upS σ 0 14 (sk F N (σ 0 14))) := XM.stay hₓ
    by_cases c93ₓ : bt F N (sk F N (σ 0 14)) = 93
    · rw [mIf_neg (fun qₓ => qₓ c93ₓ)] at eₓ
      have hbₓ := bt_lt (by decide) c93ₓ
      have hnoₓ := br_no (byteIs_t hbₓ.1 hbₓ.2)
      obtain ⟨r2ₓ, s2ₓ, e2ₓ, eₓ⟩ := mCall_el eₓ
      obtain ⟨hiₓ, rfl⟩ := r_isInside e2ₓ
      rcases hiₓ with ⟨rfl, hiₓ⟩ | ⟨rfl, hiₓ⟩
      · rw [mIf_neg (show ¬ (1 : Int) = 0 by decide)] at eₓ
        obtain ⟨r3ₓ, s3ₓ, e3ₓ, eₓ⟩ := mCall_el eₓ
        obtain ⟨j1ₓ, j2ₓ, j3ₓ, j4ₓ, j5ₓ, j6ₓ⟩ := r_settles (by decide) (by decide) h1ₓ hs1ₓ e3ₓ
        have m3ₓ := rx_settles (by decide) (by decide) h1ₓ hs1ₓ (fun _ => by rw [n1ₓ, sk_idem]; exact hnoₓ.1) e3ₓ
        rw [eW1] at m3ₓ
        obtain ⟨a1ₓ, a2ₓ, a3ₓ, a4ₓ, a5ₓ⟩ := id j1ₓ
        obtain ⟨kₓ, kk1, kk2⟩ := j5ₓ hiₓ
        have hoₓ : 0 < s3ₓ 0 22 := by omega
        have htopₓ : s3ₓ 9 (s3ₓ 0 22 - 1).toNat = 91 := by
          rcases j4ₓ with j4ₓ | j4ₓ
          · omega
          · have := a4ₓ (s3ₓ 0 22 - 1).toNat (by omega)
            unfold str at j4ₓ
            rcases this with zₓ | zₓ | zₓ | zₓ
            · rw [zₓ, if_neg (by decide), if_neg (by decide), if_pos rfl] at j4ₓ; omega
            · exact zₓ
            · rw [zₓ, if_neg (by decide), if_pos rfl] at j4ₓ; omega
            · rw [zₓ, if_pos rfl] at j4ₓ; omega
        have n3ₓ : s3ₓ 0 14 = sk F N (σ 0 14) := (j2ₓ 0 14 (by omega)).trans n1ₓ
        rw [mRd_e, mLet_e, mWr_e, mRd_e, mLet_e, mWr_e, mRd_e, mLet_e, mWr_e, upS_n (show ¬ ((0 : Nat) = 0 ∧ (19 : Nat) = 22) by decide), upS_n (show ¬ ((0 : Nat) = 0 ∧ (14 : Nat) = 19) by decide), upS_n (show ¬ ((0 : Nat) = 0 ∧ (14 : Nat) = 22) by decide), n3ₓ] at eₓ
        obtain ⟨τ, hₓτ⟩ : ∃ τ, τ = upS (upS (upS s3ₓ 0 22 (s3ₓ 0 22 - 1)) 0 19 (s3ₓ 0 19 - 1)) 0 14 (sk F N (σ 0 14) + 1) := ⟨_, rfl⟩
        rw [← hₓτ] at eₓ
        have t22ₓ : τ 0 22 = s3ₓ 0 22 - 1 := by rw [hₓτ, upS_n (by omega), upS_n (by omega)]; exact upS_s
        have t19ₓ : τ 0 19 = s3ₓ 0 19 - 1 := by rw [hₓτ, upS_n (by omega)]; exact upS_s
        have t14ₓ : τ 0 14 = sk F N (σ 0 14) + 1 := by rw [hₓτ]; exact upS_s
        have t9ₓ : ∀ kₓ : Nat, τ 9 kₓ = s3ₓ 9 kₓ := fun kₓ => by rw [hₓτ, upS_n (by omega), upS_n (by omega), upS_n (by omega)]
        have tq : ∀ qₓ kₓ : Nat, ¬ (qₓ = 0 ∧ kₓ = 14) → ¬ (qₓ = 0 ∧ kₓ = 19) → ¬ (qₓ = 0 ∧ kₓ = 22) → τ qₓ kₓ = s3ₓ qₓ kₓ := fun qₓ kₓ z1ₓ z2ₓ z3ₓ => by rw [hₓτ, upS_n z1ₓ, upS_n z2ₓ, upS_n z3ₓ]
        have eT : SM s3ₓ = true :: SM τ := by
          rw [SM_top hoₓ, htopₓ, if_neg (by decide), if_pos rfl]
          congr 1
          unfold SM; rw [t22ₓ]; exact (opS_congr _ (fun jₓ _ => t9ₓ jₓ)).symm
        have eTW : WS s3ₓ = 91 :: WS τ := by
          rw [WS_top hoₓ, htopₓ, if_pos rfl]
          congr 1
          unfold WS; rw [t22ₓ]; exact (wS_congr _ (fun jₓ _ => t9ₓ jₓ)).symm
        have hsₓτ : OKS τ := by
          unfold OKS
          rw [t22ₓ, t19ₓ]
          rw [eT, List.length_cons] at a2ₓ
          exact ⟨by omega, by omega, by omega, fun kₓ hkₓ => by rw [t9ₓ]; exact a4ₓ kₓ (by omega), fun kₓ hkₓ => by rw [t9ₓ, t9ₓ]; exact a5ₓ kₓ (by omega)⟩
        have h3ₓ := h1ₓ.kw j2ₓ
        have hokₓτ : OKM F N τ := by
          obtain ⟨b1ₓ, b2ₓ, b3ₓ, b4ₓ, b5ₓ⟩ := h3ₓ
          refine ⟨⟨(tq 0 1 (by omega) (by omega) (by omega)).trans b1ₓ.1, fun jₓ z0ₓ z1ₓ => by rw [tq 1 jₓ.toNat (by omega) (by omega) (by omega)]; exact b1ₓ.2 jₓ z0ₓ z1ₓ⟩, by rw [t14ₓ]; omega, ?_, ?_, ?_⟩
          · rw [tq 0 15 (by omega) (by omega) (by omega)]; exact b3ₓ
          · rw [tq 0 18 (by omega) (by omega) (by omega)]; exact b4ₓ
          · rw [tq 0 18 (by omega) (by omega) (by omega)]; exact b5ₓ
        have lₓτ : L0 s3ₓ τ := ⟨tq 0 17 (by omega) (by omega) (by omega), fun qₓ kₓ z1ₓ z2ₓ => tq qₓ kₓ (by omega) (by omega) (by omega)⟩
        have mₓτ : XM F N 7 7 (WS s3ₓ) (WS τ) 1 s3ₓ τ := XM.go lₓτ t14ₓ (fun O cₓ R => XS_one (by rw [n3ₓ, sk_idem, eTW]; exact x7_br hnoₓ.1 hnoₓ.2))
        obtain ⟨r4ₓ, s4ₓ, e4ₓ, eₓ⟩ := mCall_el eₓ
        obtain ⟨l1ₓ, l2ₓ, l3ₓ, l4ₓ, l5ₓ, l6ₓ⟩ := r_settles (by decide) (by decide) hokₓτ hsₓτ e4ₓ
        have m4ₓ := rx_settles (by decide) (by decide) hokₓτ hsₓτ (fun zₓ => absurd zₓ (by decide)) e4ₓ
        exact (((m1ₓ.tr m3ₓ).tr mₓτ).tr m4ₓ).tr (ihₓ s4ₓ (hokₓτ.kw l2ₓ) l1ₓ (str_tn (by decide) l4ₓ) eₓ)
      · rw [mIf_pos rfl] at eₓ
        obtain ⟨rfl, rfl⟩ := some_el eₓ
        rw [eW1]; exact m1ₓ
    · rw [mIf_pos c93ₓ] at eₓ
      obtain ⟨rfl, rfl⟩ := some_el eₓ
      rw [eW1]; exact m1ₓ
theorem rx_closes (hₓ : OKM F N σ) (hsₓ : OKS σ) (eₓ : m_X12_closes nₓ 0 σ = some (rₓ, σ')) : XM F N 7 7 (WS σ) (WS σ') 1 σ σ' := by
  unfold m_X12_closes at eₓ
  obtain ⟨r1ₓ, s1ₓ, e1ₓ, eₓ⟩ := mCall_el eₓ
  obtain ⟨l1ₓ, l2ₓ, l3ₓ, l4ₓ, l5ₓ, l6ₓ⟩ := r_settles (by decide) (by decide) hₓ hsₓ e1ₓ
  exact (rx_settles (by decide) (by decide) hₓ hsₓ (fun zₓ => absurd zₓ (by decide)) e1ₓ).tr (rx_closes0 nₓ s1ₓ (hₓ.kw l2ₓ) l1ₓ (str_tn (by decide) l4ₓ) eₓ)
/-- aₓ joining word passed, what binds as strong put out, it waits -/
theorem rx_join {J : Nat → List Int → SS → RR} {vₓ : Int} (hₓ : OKM F N σ) (hsₓ : OKS σ) (htₓ : TN σ) (hqₓ : sk F N (σ 0 14) = σ 0 14) (hwₓ : (wₓ = 12 ∧ isWd F N (σ 0 14) wAnd = true) ∨ (wₓ = 13 ∧ isWd F N (σ 0 14) wOr = true)) (eₓ : b_X12_tested_76 J nₓ 0 vₓ wₓ σ = some (rₓ, σ')) : ∃ τ : SS, OKM F N τ ∧ OKS τ ∧ XM F N 7 2 (WS σ) (WS τ) 1 σ τ ∧ J 12 [vₓ] τ = some (rₓ, σ') := by
  unfold b_X12_tested_76 at eₓ
  obtain ⟨r1ₓ, s1ₓ, e1ₓ, eₓ⟩ := mCall_el eₓ
  have hs1ₓ := r_passWordm hₓ.1 hₓ.2.1.1 e1ₓ
  subst hs1ₓ
  have hw0ₓ : 0 ≤ wd F N (σ 0 14) := Int.le_trans hₓ.2.1.1 wd_ge
  have hwNₓ : wd F N (σ 0 14) ≤ N := wd_ub hₓ.2.1.2
  have k1ₓ : KS σ (upS σ 0 14 (wd F N (σ 0 14))) := KS.up (Or.inl rfl)
  obtain ⟨x22ₓ, x9ₓ, x19ₓ⟩ := k1ₓ.s
  have h1ₓ := hₓ.mv hw0ₓ hwNₓ
  have hs1ₓ := hsₓ.eq x22ₓ x9ₓ x19ₓ
  have eW1 := WS_eq x22ₓ x9ₓ
  rw [r_strength, mCall_s] at eₓ
  obtain ⟨r2ₓ, s2ₓ, e2ₓ, eₓ⟩ := mCall_el eₓ
  have hstrₓ : 1 ≤ str wₓ ∧ str wₓ ≤ 2 := by
    rcases hwₓ with ⟨rfl, -⟩ | ⟨rfl, -⟩
    · decide
    · decide
  obtain ⟨l1ₓ, l2ₓ, l3ₓ, l4ₓ, l5ₓ, l6ₓ⟩ := r_settles hstrₓ.1 (by omega) h1ₓ hs1ₓ e2ₓ
  obtain ⟨z1ₓ, z2ₓ⟩ := rx_settles0 hstrₓ.1 (by omega) nₓ _ h1ₓ hs1ₓ e2ₓ
  obtain ⟨a1ₓ, a2ₓ, a3ₓ, a4ₓ, a5ₓ⟩ := id l1ₓ
  rw [mRd_e, mWr_e, mRd_e, upS_q (show (0 : Nat) ≠ 9 by decide), mLet_e, mWr_e] at eₓ
  have b9ₓ : ∀ kₓ : Nat, upS (upS s2ₓ 9 (s2ₓ 0 22).toNat wₓ) 0 22 (s2ₓ 0 22 + 1) 9 kₓ = if kₓ = (s2ₓ 0 22).toNat then wₓ else s2ₓ 9 kₓ := by
    intro kₓ
    rw [upS_q (by decide)]
    by_cases ck : kₓ = (s2ₓ 0 22).toNat
    · rw [if_pos ck, ck]; exact upS_s
    · rw [if_neg ck, upS_k ck]
  have b22ₓ : upS (upS s2ₓ 9 (s2ₓ 0 22).toNat wₓ) 0 22 (s2ₓ 0 22 + 1) 0 22 = s2ₓ 0 22 + 1 := upS_s
  have bq : ∀ qₓ kₓ : Nat, qₓ ≠ 9 → ¬ (qₓ = 0 ∧ kₓ = 22) → upS (upS s2ₓ 9 (s2ₓ 0 22).toNat wₓ) 0 22 (s2ₓ 0 22 + 1) qₓ kₓ = s2ₓ qₓ kₓ := fun qₓ kₓ z1ₓ z2ₓ => by rw [upS_n z2ₓ, upS_q z1ₓ]
  have eS : SM (upS (upS s2ₓ 9 (s2ₓ 0 22).toNat wₓ) 0 22 (s2ₓ 0 22 + 1)) = SM s2ₓ := by
    rw [SM_top (by rw [b22ₓ]; omega), b22ₓ, show (s2ₓ 0 22 + 1 - 1).toNat = (s2ₓ 0 22).toNat by omega, b9ₓ, if_pos rfl, if_neg (by omega), if_neg (by omega)]
    exact opS_congr _ (fun jₓ hjₓ => by rw [b9ₓ, if_neg (by omega)])
  have eW : WS (upS (upS s2ₓ 9 (s2ₓ 0 22).toNat wₓ) 0 22 (s2ₓ 0 22 + 1)) = (wₓ + 8) :: WS s2ₓ := by
    rw [WS_top (by rw [b22ₓ]; omega), b22ₓ, show (s2ₓ 0 22 + 1 - 1).toNat = (s2ₓ 0 22).toNat by omega, b9ₓ, if_pos rfl, if_neg (by omega)]
    congr 1
    exact wS_congr _ (fun jₓ hjₓ => by rw [b9ₓ, if_neg (by omega)])
  have hs2ₓ : OKS (upS (upS s2ₓ 9 (s2ₓ 0 22).toNat wₓ) 0 22 (s2ₓ 0 22 + 1)) := by
    unfold OKS
    rw [b22ₓ, eS, bq 0 19 (by decide) (by decide)]
    refine ⟨by omega, a2ₓ, a3ₓ, fun kₓ hkₓ => ?_, fun kₓ hkₓ => ?_⟩
    · rw [b9ₓ]
      by_cases ck : kₓ = (s2ₓ 0 22).toNat
      · rw [if_pos ck]; omega
      · rw [if_neg ck]; exact a4ₓ kₓ (by omega)
    · rw [b9ₓ, b9ₓ]
      by_cases ck : kₓ + 1 = (s2ₓ 0 22).toNat
      · rw [if_neg (show ¬ kₓ = (s2ₓ 0 22).toNat by omega)]
        intro _
        rcases str_tn (by omega) l4ₓ with zₓ | zₓ
        · omega
        · rw [show (s2ₓ 0 22 - 1).toNat = kₓ by omega] at zₓ; exact zₓ
      · rw [if_neg ck, if_neg (by omega)]; exact a5ₓ kₓ (by omega)
  have h2ₓ := h1ₓ.kw l2ₓ
  have lF : L0 s2ₓ (upS (upS s2ₓ 9 (s2ₓ 0 22).toNat wₓ) 0 22 (s2ₓ 0 22 + 1)) := L0.up9.tr (L0.up (by decide))
  have l14ₓ : L0 σ (upS σ 0 14 (wd F N (σ 0 14))) := L0.up (by decide)
  refine ⟨_, ?_, hs2ₓ, ⟨(l14ₓ.km.tr z1ₓ).tr lF.km, fun _ O cₓ R hOₓ => ?_⟩, eₓ⟩
  · obtain ⟨c1ₓ, c2ₓ, c3ₓ, c4ₓ, c5ₓ⟩ := h2ₓ
    refine ⟨⟨(bq 0 1 (by decide) (by decide)).trans c1ₓ.1, fun jₓ z0ₓ z1ₓ => by rw [bq 1 jₓ.toNat (by decide) (by omega)]; exact c1ₓ.2 jₓ z0ₓ z1ₓ⟩, ?_, ?_, ?_, ?_⟩
    · rw [bq 0 14 (by decide) (by decide)]; exact c2ₓ
    · rw [bq 0 15 (by decide) (by decide)]; exact c3ₓ
    · rw [bq 0 18 (by decide) (by decide)]; exact c4ₓ
    · rw [bq 0 18 (by decide) (by decide)]; exact c5ₓ
  · have hnaₓ : str wₓ = 1 → ¬ isWd F N (σ 0 14) wAnd = true := by
      intro gₓ
      rcases hwₓ with ⟨rfl, -⟩ | ⟨-, g2ₓ⟩
      · exact absurd gₓ (by decide)
      · exact or_and g2ₓ
    obtain ⟨O', y1ₓ, y2ₓ⟩ := z2ₓ (σ 0 14) hnaₓ O cₓ R (hOₓ.l0 l14ₓ)
    rw [eW1] at y2ₓ
    refine ⟨O', y1ₓ.l0 lF, ?_⟩
    have hpₓ : upS (upS s2ₓ 9 (s2ₓ 0 22).toNat wₓ) 0 22 (s2ₓ 0 22 + 1) 0 14 = wd F N (σ 0 14) := by rw [bq 0 14 (by decide) (by decide), l2ₓ 0 14 (by omega)]; exact upS_s
    rw [hpₓ, hqₓ, eW]
    refine y2ₓ.tr (XS_one ?_)
    have top : ∀ P : Int → Bool, (∀ yₓ : Int, (yₓ = 19 ∨ yₓ = 20 ∨ yₓ = 21 ∨ yₓ = 91) → (yₓ = 91 ∨ str (yₓ - 8) < str wₓ) → P yₓ = false) → xtop P (WS s2ₓ) = false := by
      intro P hPₓ
      by_cases g0ₓ : 0 < s2ₓ 0 22
      · rw [WS_top g0ₓ]
        have g1ₓ := a4ₓ (s2ₓ 0 22 - 1).toNat (by omega)
        have g2ₓ : str (s2ₓ 9 (s2ₓ 0 22 - 1).toNat) < str wₓ := by
          rcases l4ₓ with l4ₓ | l4ₓ
          · omega
          · exact l4ₓ
        by_cases g3ₓ : s2ₓ 9 (s2ₓ 0 22 - 1).toNat = 91
        · rw [if_pos g3ₓ]; exact hPₓ 91 (by omega) (Or.inl rfl)
        · rw [if_neg g3ₓ]; exact hPₓ _ (by omega) (Or.inr (by rw [show s2ₓ 9 (s2ₓ 0 22 - 1).toNat + 8 - 8 = s2ₓ 9 (s2ₓ 0 22 - 1).toNat by omega]; exact g2ₓ))
      · unfold WS
        rw [show (s2ₓ 0 22).toNat = 0 by omega]; rfl
    have s11ₓ : str 11 = 3 := by decide
    have s12ₓ : str 12 = 2 := by decide
    have s13ₓ : str 13 = 1 := by decide
    have tl : xtop isLg (WS s2ₓ) = false := top isLg (fun yₓ g1ₓ g2ₓ => Bool.eq_false_iff.mpr (fun gₓ => by
      rcases isLg_i.mp gₓ with rfl | rfl
      · rcases g2ₓ with g2ₓ | g2ₓ
        · omega
        · rw [show (19 : Int) - 8 = 11 by decide, s11ₓ] at g2ₓ; omega
      · rcases g2ₓ with g2ₓ | g2ₓ
        · omega
        · rw [show (20 : Int) - 8 = 12 by decide, s12ₓ] at g2ₓ; omega))
    rcases hwₓ with ⟨rfl, g2ₓ⟩ | ⟨rfl, g2ₓ⟩
    · exact x7_and tl g2ₓ
    · have to : xtop isOrT (WS s2ₓ) = false := top isOrT (fun yₓ g1ₓ g2ₓ => Bool.eq_false_iff.mpr (fun gₓ => by
        have g4ₓ := isOrT_i.mp gₓ
        subst g4ₓ
        rcases g2ₓ with g2ₓ | g2ₓ
        · omega
        · rw [show (21 : Int) - 8 = 13 by decide, s13ₓ] at g2ₓ; omega))
      exact x7_or tl to (or_and g2ₓ) g2ₓ
theorem rx_tested0 : ∀ (nₓ : Nat) (vₓ : Int) (σ : SS), OKM F N σ → OKS σ → (vₓ = 1 ∨ (vₓ = 0 ∧ TN σ ∧ joinAt F N (sk F N (σ 0 14)) = false)) → j_X12_tested 0 nₓ 12 [vₓ] σ = some (rₓ, σ') → XM F N (if vₓ = 1 then 2 else 7) 7 (WS σ) [] rₓ σ σ' ∧ (rₓ = 1 → joinAt F N (sk F N (σ' 0 14)) = false) := by
  intro nₓ
  induction nₓ with
  | zero => intro vₓ σ hₓ hsₓ hv eₓ; exact none_el eₓ
  | succ nₓ ihₓ =>
    intro vₓ σ hₓ hsₓ hv eₓ
    rw [e_X12_tested_12] at eₓ
    unfold b_X12_tested_12 at eₓ
    rcases hv with rfl | ⟨rfl, htₓ, hjₓ⟩
    · rw [mIf_neg (show ¬ (1 : Int) = 0 by decide)] at eₓ
      rw [if_pos rfl]
      obtain ⟨r1ₓ, s1ₓ, e1ₓ, eₓ⟩ := mCall_el eₓ
      obtain ⟨-, h1ₓ⟩ := r_fact hₓ hsₓ e1ₓ
      have m1ₓ := rx_fact hₓ hsₓ e1ₓ
      rcases h1ₓ with ⟨rfl, h1ₓ, hs1ₓ, -⟩ | ⟨rfl, h1ₓ, -⟩
      · rw [mIf_pos (show ¬ (1 : Int) = 0 by decide)] at eₓ
        obtain ⟨r2ₓ, s2ₓ, e2ₓ, eₓ⟩ := mCall_el eₓ
        obtain ⟨h2ₓ, hs2ₓ, ht2ₓ, -, -, hb2ₓ⟩ := r_closes h1ₓ hs1ₓ e2ₓ
        have m2ₓ := rx_closes h1ₓ hs1ₓ e2ₓ
        have hq0ₓ : 0 ≤ sk F N (s2ₓ 0 14) := Int.le_trans h2ₓ.2.1.1 sk_ge
        have hqNₓ : sk F N (s2ₓ 0 14) ≤ N := sk_ub h2ₓ.2.1.2
        have h3ₓ : OKM F N (upS s2ₓ 0 14 (sk F N (s2ₓ 0 14))) := h2ₓ.mv hq0ₓ hqNₓ
        have k3ₓ : KS s2ₓ (upS s2ₓ 0 14 (sk F N (s2ₓ 0 14))) := KS.up (Or.inl rfl)
        obtain ⟨x22ₓ, x9ₓ, x19ₓ⟩ := k3ₓ.s
        have hs3ₓ := hs2ₓ.eq x22ₓ x9ₓ x19ₓ
        have ht3ₓ := ht2ₓ.eq x22ₓ x9ₓ
        have eW3 := WS_eq x22ₓ x9ₓ
        have n3ₓ : upS s2ₓ 0 14 (sk F N (s2ₓ 0 14)) 0 14 = sk F N (s2ₓ 0 14) := upS_s
        have m3ₓ : XM F N 2 7 (WS σ) (WS (upS s2ₓ 0 14 (sk F N (s2ₓ 0 14)))) 1 σ (upS s2ₓ 0 14 (sk F N (s2ₓ 0 14))) := by
          rw [eW3]; exact (m1ₓ.tr m2ₓ).tr (XM.stay h2ₓ)
        have isW : ∀ {wₓ : Int} {W : List Int} {r'ₓ : Int} {s'ₓ : SS}, WD wₓ W → m_X12_isWord nₓ 0 wₓ (upS s2ₓ 0 14 (sk F N (s2ₓ 0 14))) = some (r'ₓ, s'ₓ) → ((isWd F N (sk F N (s2ₓ 0 14)) W = true ∧ r'ₓ = 1) ∨ (isWd F N (sk F N (s2ₓ 0 14)) W = false ∧ r'ₓ = 0)) ∧ s'ₓ = upS s2ₓ 0 14 (sk F N (s2ₓ 0 14)) := by
          intro wₓ W r'ₓ s'ₓ hWₓ eₓ
          have hzₓ := r_isWord hWₓ h3ₓ.1 h3ₓ.2.1.1 eₓ
          rw [n3ₓ, sk_idem, upS_upS] at hzₓ
          exact hzₓ
        have join : ∀ (wₓ : Int), ((wₓ = 12 ∧ isWd F N (sk F N (s2ₓ 0 14)) wAnd = true) ∨ (wₓ = 13 ∧ isWd F N (sk F N (s2ₓ 0 14)) wOr = true)) → b_X12_tested_76 (j_X12_tested 0 nₓ) nₓ 0 1 wₓ (upS s2ₓ 0 14 (sk F N (s2ₓ 0 14))) = some (rₓ, σ') → XM F N 2 7 (WS σ) [] rₓ σ σ' ∧ (rₓ = 1 → joinAt F N (sk F N (σ' 0 14)) = false) := by
          intro wₓ hwₓ eₓ
          obtain ⟨τ, t1ₓ, t2ₓ, t3ₓ, t4ₓ⟩ := rx_join h3ₓ hs3ₓ ht3ₓ (by rw [n3ₓ, sk_idem]) (by rw [n3ₓ]; exact hwₓ) eₓ
          obtain ⟨i1ₓ, i2ₓ⟩ := ihₓ 1 τ t1ₓ t2ₓ (Or.inl rfl) t4ₓ
          rw [if_pos rfl] at i1ₓ
          exact ⟨(m3ₓ.tr t3ₓ).tr i1ₓ, i2ₓ⟩
        have more : joinAt F N (sk F N (s2ₓ 0 14)) = true → b_X12_tested_49 (j_X12_tested 0 nₓ) nₓ 0 (upS s2ₓ 0 14 (sk F N (s2ₓ 0 14))) = some (rₓ, σ') → XM F N 2 7 (WS σ) [] rₓ σ σ' ∧ (rₓ = 1 → joinAt F N (sk F N (σ' 0 14)) = false) := by
          intro hjwₓ eₓ
          unfold b_X12_tested_49 b_X12_tested_54 at eₓ
          rw [mIf_neg (show ¬ (1 : Int) = 0 by decide)] at eₓ
          obtain ⟨r3ₓ, s3ₓ, e3ₓ, eₓ⟩ := mCall_el eₓ
          obtain ⟨hw3ₓ, rfl⟩ := isW (W := wAnd) (by unfold WD; decide) e3ₓ
          rcases hw3ₓ with ⟨hw3ₓ, rfl⟩ | ⟨hw3ₓ, rfl⟩
          · rw [mIf_neg (show ¬ (1 : Int) = 0 by decide)] at eₓ; exact join 12 (Or.inl ⟨rfl, hw3ₓ⟩) eₓ
          · rw [mIf_pos rfl] at eₓ
            refine join 13 (Or.inr ⟨rfl, ?_⟩) eₓ
            rcases joinAt_i.mp hjwₓ with zₓ | zₓ
            · rw [hw3ₓ] at zₓ; cases zₓ
            · exact zₓ
        obtain ⟨r3ₓ, s3ₓ, e3ₓ, eₓ⟩ := mCall_el eₓ
        have hw3ₓ := r_isWord (W := wAnd) (by unfold WD; decide) h2ₓ.1 h2ₓ.2.1.1 e3ₓ
        obtain ⟨hw3ₓ, rfl⟩ := hw3ₓ
        rcases hw3ₓ with ⟨haₓ, rfl⟩ | ⟨haₓ, rfl⟩
        · rw [mIf_pos (show ¬ (1 : Int) = 0 by decide)] at eₓ
          exact more (joinAt_i.mpr (Or.inl haₓ)) eₓ
        · rw [mIf_neg (fun qₓ => qₓ rfl)] at eₓ
          obtain ⟨r4ₓ, s4ₓ, e4ₓ, eₓ⟩ := mCall_el eₓ
          obtain ⟨hw4ₓ, rfl⟩ := isW (W := wOr) (by unfold WD; decide) e4ₓ
          rcases hw4ₓ with ⟨hoₓ, rfl⟩ | ⟨hoₓ, rfl⟩
          · rw [mIf_neg (show ¬ (1 : Int) = 0 by decide)] at eₓ
            exact more (joinAt_i.mpr (Or.inr hoₓ)) eₓ
          · rw [mIf_pos rfl] at eₓ
            unfold b_X12_tested_54 at eₓ
            rw [mIf_pos rfl] at eₓ
            have hjfₓ : joinAt F N (sk F N (s2ₓ 0 14)) = false := by unfold joinAt; rw [haₓ, hoₓ]; rfl
            obtain ⟨i1ₓ, i2ₓ⟩ := ihₓ 0 _ h3ₓ hs3ₓ (Or.inr ⟨rfl, ht3ₓ, by rw [n3ₓ, sk_idem]; exact hjfₓ⟩) eₓ
            rw [if_neg (by decide)] at i1ₓ
            exact ⟨m3ₓ.tr i1ₓ, i2ₓ⟩
      · rw [mIf_neg (fun qₓ => qₓ rfl)] at eₓ
        obtain ⟨rfl, rfl⟩ := some_el eₓ
        exact ⟨XM.off m1ₓ.1, fun zₓ => absurd zₓ (by decide)⟩
    · rw [mIf_pos rfl] at eₓ
      rw [if_neg (show ¬ (0 : Int) = 1 by decide)]
      obtain ⟨r1ₓ, s1ₓ, e1ₓ, eₓ⟩ := mCall_el eₓ
      obtain ⟨hiₓ, hqₓ⟩ := r_isInside e1ₓ
      have hqₓ := hqₓ.symm
      subst hqₓ
      rcases hiₓ with ⟨rfl, hiₓ⟩ | ⟨rfl, hiₓ⟩
      · rw [mIf_neg (show ¬ (1 : Int) = 0 by decide)] at eₓ
        obtain ⟨r2ₓ, s2ₓ, e2ₓ, eₓ⟩ := mCall_el eₓ
        obtain ⟨rfl, rfl⟩ := r_seem hₓ.1 hₓ.2.1.1 e2ₓ
        rw [mRd_e, upS_s, r_fails ((upS_n (by omega)).trans hₓ.2.2.1), mCall_s, Int.add_zero] at eₓ
        obtain ⟨rfl, rfl⟩ := some_el eₓ
        exact ⟨XM.off ((L0.up (by decide)).tr (L0.up (by decide))).km, fun zₓ => absurd zₓ (by decide)⟩
      · rw [mIf_pos rfl] at eₓ
        obtain ⟨r2ₓ, s2ₓ, e2ₓ, eₓ⟩ := mCall_el eₓ
        obtain ⟨rfl, rfl⟩ := some_el eₓ
        obtain ⟨l1ₓ, l2ₓ, l3ₓ, l4ₓ, l5ₓ, l6ₓ⟩ := r_settles (by decide) (by decide) hₓ hsₓ e2ₓ
        have m2ₓ := rx_settles (by decide) (by decide) hₓ hsₓ (fun _ => (join_no hjₓ).1) e2ₓ
        have hTₓ := hsₓ.ts htₓ
        have hmₓ : ¬ true ∈ SM σ := fun zₓ => hiₓ ((INS_iff hsₓ.1).mpr zₓ)
        have hSₓ : SM σ = [] := by
          rcases hTₓ with hTₓ | ⟨T, hTₓ⟩
          · exact hTₓ
          · rw [hTₓ] at hmₓ; exact absurd List.mem_cons_self hmₓ
        have hS2ₓ : SM σ' = [] := (l6ₓ htₓ).trans hSₓ
        have h0ₓ : σ' 0 22 = 0 := by
          rcases l4ₓ with l4ₓ | l4ₓ
          · exact l4ₓ
          · by_cases gₓ : 0 < σ' 0 22
            · have g1ₓ := l1ₓ.2.2.2.1 (σ' 0 22 - 1).toNat (by omega)
              have g2ₓ : σ' 9 (σ' 0 22 - 1).toNat = 91 := by
                unfold str at l4ₓ
                rcases g1ₓ with zₓ | zₓ | zₓ | zₓ
                · rw [zₓ, if_neg (by decide), if_neg (by decide), if_pos rfl] at l4ₓ; omega
                · exact zₓ
                · rw [zₓ, if_neg (by decide), if_pos rfl] at l4ₓ; omega
                · rw [zₓ, if_pos rfl] at l4ₓ; omega
              rw [SM_top gₓ, g2ₓ, if_neg (by decide), if_pos rfl] at hS2ₓ
              cases hS2ₓ
            · have := l1ₓ.1; omega
        have hWₓ : WS σ' = [] := by unfold WS; rw [h0ₓ]; rfl
        rw [hWₓ] at m2ₓ
        exact ⟨m2ₓ, fun _ => by rw [l2ₓ 0 14 (by omega)]; exact hjₓ⟩
theorem rx_tested (hₓ : OKM F N σ) (eₓ : m_X12_tested nₓ 0 σ = some (rₓ, σ')) : XM F N 2 7 [] [] rₓ σ σ' ∧ (rₓ = 1 → joinAt F N (sk F N (σ' 0 14)) = false) := by
  unfold m_X12_tested at eₓ
  rw [mWr_e, mWr_e] at eₓ
  have bq : ∀ qₓ kₓ : Nat, ¬ (qₓ = 0 ∧ kₓ = 22) → ¬ (qₓ = 0 ∧ kₓ = 19) → upS (upS σ 0 22 0) 0 19 0 qₓ kₓ = σ qₓ kₓ := fun qₓ kₓ z1ₓ z2ₓ => by rw [upS_n z2ₓ, upS_n z1ₓ]
  have b22ₓ : upS (upS σ 0 22 0) 0 19 0 0 22 = 0 := by rw [upS_n (by omega)]; exact upS_s
  have b19ₓ : upS (upS σ 0 22 0) 0 19 0 0 19 = 0 := upS_s
  have kw : KW σ (upS (upS σ 0 22 0) 0 19 0) := fun qₓ kₓ cₓ => bq qₓ kₓ (by omega) (by omega)
  have eS : SM (upS (upS σ 0 22 0) 0 19 0) = [] := by unfold SM; rw [b22ₓ]; rfl
  have eW : WS (upS (upS σ 0 22 0) 0 19 0) = [] := by unfold WS; rw [b22ₓ]; rfl
  have hsₓ : OKS (upS (upS σ 0 22 0) 0 19 0) := by
    unfold OKS; rw [b22ₓ, b19ₓ, eS]
    exact ⟨by decide, rfl, by decide, fun kₓ hkₓ => absurd hkₓ (by omega), fun kₓ hkₓ => absurd hkₓ (by omega)⟩
  obtain ⟨i1ₓ, i2ₓ⟩ := rx_tested0 nₓ 1 _ (hₓ.kw kw) hsₓ (Or.inl rfl) eₓ
  rw [if_pos rfl, eW] at i1ₓ
  have m0ₓ : XM F N 2 2 [] [] 1 σ (upS (upS σ 0 22 0) 0 19 0) := XM.l0 ((L0.up (by decide)).tr (L0.up (by decide))) (bq 0 14 (by decide) (by decide))
  exact ⟨m0ₓ.tr i1ₓ, i2ₓ⟩
end
