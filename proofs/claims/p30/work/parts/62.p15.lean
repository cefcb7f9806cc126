section
variable {σ σ' τ τ' : SS} {rₓ r'ₓ xₓ yₓ : Int} {nₓ n'ₓ : Nat} {aₓ bₓ : Nat}
theorem c_hasStreet {P : Nat → Int} (hₓ : SRel 38 σ P) : m_X7_hasStreet nₓ 39 xₓ σ = some (if 0 ≤ xₓ ∧ xₓ < P 1 then 1 else 0, σ) := by
  have h9ₓ : σ 39 9 = P 1 := hₓ.2.1.1.2.1
  unfold m_X7_hasStreet b_X7_hasStreet_16
  by_cases cₓ : xₓ < 0
  · rw [mIf_pos cₓ, if_neg (by omega)]; rfl
  · rw [mIf_neg cₓ, mRd_e, h9ₓ]
    by_cases c1ₓ : P 1 ≤ xₓ
    · rw [mIf_pos c1ₓ, if_neg (by omega)]; rfl
    · rw [mIf_neg c1ₓ, if_pos (by omega)]; rfl
theorem r_isStreet : m_X12_isStreet nₓ 0 xₓ τ = some (if 0 ≤ xₓ ∧ xₓ < τ 12 1 then 1 else 0, τ) := by
  unfold m_X12_isStreet b_X12_isStreet_18
  by_cases cₓ : xₓ < 0
  · rw [mIf_pos cₓ, if_neg (by omega)]; rfl
  · rw [mIf_neg cₓ, mRd_e]
    by_cases c1ₓ : τ 12 (1 : Int).toNat ≤ xₓ
    · rw [mIf_pos c1ₓ, if_neg (fun zₓ => by have := zₓ.2; have eₓ : (1 : Int).toNat = 1 := rfl; rw [eₓ] at c1ₓ; omega)]; rfl
    · rw [mIf_neg c1ₓ, if_pos (by have eₓ : (1 : Int).toNat = 1 := rfl; rw [eₓ] at c1ₓ; omega)]; rfl
theorem f_street (hₓ : SRel 38 σ (τ 12)) (e1ₓ : m_X11_street nₓ 0 xₓ yₓ σ = some (rₓ, σ')) (e2ₓ : m_X12_street n'ₓ 0 xₓ yₓ τ = some (r'ₓ, τ')) : rₓ = r'ₓ := by
  unfold m_X11_street b_X11_street_26 at e1ₓ
  unfold m_X12_street b_X12_street_29 at e2ₓ
  rw [c_hasStreet hₓ, mCall_s] at e1ₓ
  rw [r_isStreet, mCall_s] at e2ₓ
  by_cases cₓ : 0 ≤ xₓ ∧ xₓ < τ 12 1
  · rw [if_pos cₓ, mIf_neg (by decide)] at e1ₓ e2ₓ
    rw [mLet_e, r_in, mCall_s] at e2ₓ
    by_cases c0ₓ : 0 ≤ yₓ ∧ yₓ ≤ 9
    · rw [if_pos c0ₓ, mIf_neg (by decide)] at e2ₓ
      rw [mIf_neg (by omega), mIf_pos (by omega)] at e1ₓ
      obtain ⟨iₓ, rfl⟩ : ∃ iₓ : Nat, xₓ = (iₓ : Int) := ⟨xₓ.toNat, by omega⟩
      obtain ⟨wₓ, rfl⟩ : ∃ wₓ : Nat, yₓ = (wₓ : Int) := ⟨yₓ.toNat, by omega⟩
      obtain ⟨z1ₓ, z2ₓ, z3ₓ, z4ₓ, z5ₓ, z6ₓ, z7ₓ⟩ := hₓ.2.1.2.1 iₓ cₓ.2
      unfold m_X12_streetOf at e2ₓ
      rw [mLet_e, mLet_e, mLet_e, mRd_e, mRet_e, mCall_s, show ((10 : Int) + 10 * (iₓ : Int) + (wₓ : Int)).toNat = 10 + 10 * iₓ + wₓ by omega] at e2ₓ
      obtain ⟨rfl, -⟩ := some_el e2ₓ
      by_cases c2ₓ : 2 ≤ (wₓ : Int)
      · rw [mIf_pos c2ₓ] at e1ₓ
        by_cases c3ₓ : (wₓ : Int) = 2
        · obtain rfl : wₓ = 2 := by omega
          rw [mIf_neg (fun zₓ => zₓ rfl), mRd_e, show ((iₓ : Nat) : Int).toNat = iₓ by omega] at e1ₓ
          obtain ⟨rfl, -⟩ := some_el e1ₓ
          have : σ 41 iₓ = _ := z3ₓ
          rw [this, show 12 + 10 * iₓ = 10 + 10 * iₓ + 2 by omega]
        · rw [mIf_pos c3ₓ, mLet_e] at e1ₓ
          unfold m_X7_signOn at e1ₓ
          rw [mLet_e, mLet_e, mRd_e, mRet_e, mCall_s, show (7 * (iₓ : Int) + ((wₓ : Int) - 3)).toNat = 7 * iₓ + (wₓ - 3) by omega] at e1ₓ
          obtain ⟨rfl, -⟩ := some_el e1ₓ
          have := z4ₓ (wₓ - 3) (by omega)
          rw [show 13 + 10 * iₓ + (wₓ - 3) = 10 + 10 * iₓ + wₓ by omega] at this
          exact this
      · rw [mIf_neg c2ₓ, mLet_e, mLet_e, mRd_e, show (2 * (iₓ : Int) + (wₓ : Int)).toNat = 2 * iₓ + wₓ by omega] at e1ₓ
        obtain ⟨rfl, -⟩ := some_el e1ₓ
        rcases (show wₓ = 0 ∨ wₓ = 1 by omega) with rfl | rfl
        · have : σ 40 (2 * iₓ) = _ := z1ₓ
          rw [Nat.add_zero, Nat.add_zero, this]
        · have : σ 40 (2 * iₓ + 1) = _ := z2ₓ
          rw [this, show 11 + 10 * iₓ = 10 + 10 * iₓ + 1 by omega]
    · rw [if_neg c0ₓ, mIf_pos rfl] at e2ₓ
      obtain ⟨rfl, -⟩ := some_el e2ₓ
      by_cases c1ₓ : yₓ < 0
      · rw [mIf_pos c1ₓ] at e1ₓ
        exact ((some_el e1ₓ).1).symm ▸ rfl
      · rw [mIf_neg c1ₓ, mIf_neg (by omega)] at e1ₓ
        exact ((some_el e1ₓ).1).symm ▸ rfl
  · rw [if_neg cₓ, mIf_pos rfl] at e1ₓ e2ₓ
    obtain ⟨rfl, -⟩ := some_el e1ₓ
    obtain ⟨rfl, -⟩ := some_el e2ₓ
    rfl
end
/-! what aₓ call that tells nothing of the state leaves of it -/
theorem FE.sI {ks : List Nat} {E : List (Nat × Nat × Nat)} {wₓ uₓ : va_W} {qₓ κ kₓ : Nat} (hFₓ : FE ks E wₓ uₓ) (hqₓ : ks[qₓ]? = some κ) (hEₓ : inE E κ kₓ = false) : sI uₓ qₓ kₓ = sI wₓ qₓ kₓ := congrArg Int32.toInt (hFₓ.gi hqₓ hEₓ rfl)
def stK : List Nat := [5, 7, 24, 25, 26, 27, 28, 29, 30, 31, 32, 33, 34, 35, 36, 37, 38]
theorem stK_st : ∀ dₓ : Nat, dₓ < 17 → ksC[38 + dₓ]? = stK[dₓ]? := by decide +kernel
theorem stK_im : ∀ iₓ : Nat, iₓ < 4 → ∀ dₓ : Nat, dₓ < 17 → ksC[60 + 21 * iₓ + dₓ]? = stK[dₓ]? := by decide +kernel
def stOK (E : List (Nat × Nat × Nat)) : Bool := E.all (fun eₓ => Nat.ble 42 eₓ.1 || Nat.ble eₓ.1 4 || eₓ.1 == 6 || (Nat.ble 8 eₓ.1 && Nat.ble eₓ.1 23) || (eₓ.1 == 5 && eₓ.2.1 == 9 && eₓ.2.2 == 9) || (eₓ.1 == 5 && eₓ.2.1 == 13 && eₓ.2.2 == 13))
theorem stOK_in {E : List (Nat × Nat × Nat)} {κ kₓ : Nat} (hₓ : stOK E = true) (hₓκ : (κ = 5 ∧ kₓ ≠ 9 ∧ kₓ ≠ 13) ∨ κ = 7 ∨ (24 ≤ κ ∧ κ ≤ 38) ∨ κ = 41) : inE E κ kₓ = false := by
  cases hbₓ : inE E κ kₓ with
  | false => rfl
  | true =>
    exfalso
    simp only [inE, List.any_eq_true, Bool.and_eq_true, beq_iff_eq, Nat.ble_eq] at hbₓ
    obtain ⟨eₓ, heₓ, ⟨h3ₓ, h4ₓ⟩, h5ₓ⟩ := hbₓ
    simp only [stOK, List.all_eq_true] at hₓ
    have h6ₓ := hₓ eₓ heₓ
    simp only [Bool.or_eq_true, Bool.and_eq_true, beq_iff_eq, Nat.ble_eq] at h6ₓ
    omega
def rkOK (E : List (Nat × Nat × Nat)) : Bool := E.all (fun eₓ => Nat.ble eₓ.1 70 || (Nat.ble 72 eₓ.1 && Nat.ble eₓ.1 79) || (eₓ.1 == 71 && Nat.ble 216 eₓ.2.1 && Nat.ble eₓ.2.2 251) || (eₓ.1 == 71 && eₓ.2.1 == 5 && eₓ.2.2 == 5) || (eₓ.1 == 71 && eₓ.2.1 == 9 && eₓ.2.2 == 9))
theorem rkOK_in {E : List (Nat × Nat × Nat)} {κ kₓ : Nat} (hₓ : rkOK E = true) (hₓκ : κ = 80 ∨ κ = 81 ∨ (κ = 71 ∧ (kₓ < 5 ∨ (5 < kₓ ∧ kₓ < 9) ∨ (9 < kₓ ∧ kₓ < 216) ∨ 252 ≤ kₓ))) : inE E κ kₓ = false := by
  cases hbₓ : inE E κ kₓ with
  | false => rfl
  | true =>
    exfalso
    simp only [inE, List.any_eq_true, Bool.and_eq_true, beq_iff_eq, Nat.ble_eq] at hbₓ
    obtain ⟨eₓ, heₓ, ⟨h3ₓ, h4ₓ⟩, h5ₓ⟩ := hbₓ
    simp only [rkOK, List.all_eq_true] at hₓ
    have h6ₓ := hₓ eₓ heₓ
    simp only [Bool.or_eq_true, Bool.and_eq_true, beq_iff_eq, Nat.ble_eq] at h6ₓ
    omega
theorem StE_FE {E : List (Nat × Nat × Nat)} {wₓ uₓ : va_W} {qₓ : Nat} (hFₓ : FE ksC E wₓ uₓ) (hkₓ : ∀ dₓ : Nat, dₓ < 17 → ksC[qₓ + dₓ]? = stK[dₓ]?) (hEₓ : stOK E = true) : StE qₓ qₓ (sI wₓ) (sI uₓ) := by
  have k0ₓ : ksC[qₓ]? = some 5 := hkₓ 0 (by decide)
  have k1ₓ : ksC[qₓ + 1]? = some 7 := hkₓ 1 (by decide)
  have k2ₓ : ksC[qₓ + 2]? = some 24 := hkₓ 2 (by decide)
  have k3ₓ : ksC[qₓ + 3]? = some 25 := hkₓ 3 (by decide)
  have k4ₓ : ksC[qₓ + 4]? = some 26 := hkₓ 4 (by decide)
  have k5ₓ : ksC[qₓ + 5]? = some 27 := hkₓ 5 (by decide)
  have k6ₓ : ksC[qₓ + 6]? = some 28 := hkₓ 6 (by decide)
  have k7ₓ : ksC[qₓ + 7]? = some 29 := hkₓ 7 (by decide)
  have k8ₓ : ksC[qₓ + 8]? = some 30 := hkₓ 8 (by decide)
  have k9ₓ : ksC[qₓ + 9]? = some 31 := hkₓ 9 (by decide)
  have k10ₓ : ksC[qₓ + 10]? = some 32 := hkₓ 10 (by decide)
  have k12ₓ : ksC[qₓ + 12]? = some 34 := hkₓ 12 (by decide)
  have k13ₓ : ksC[qₓ + 13]? = some 35 := hkₓ 13 (by decide)
  have k14ₓ : ksC[qₓ + 14]? = some 36 := hkₓ 14 (by decide)
  have k15ₓ : ksC[qₓ + 15]? = some 37 := hkₓ 15 (by decide)
  have k16ₓ : ksC[qₓ + 16]? = some 38 := hkₓ 16 (by decide)
  refine ⟨fun kₓ hₓ => hFₓ.sI k0ₓ (stOK_in hEₓ (by omega)), fun kₓ _ => hFₓ.sI k1ₓ (stOK_in hEₓ (by omega)), fun kₓ _ => ⟨hFₓ.sI k2ₓ (stOK_in hEₓ (by omega)), hFₓ.sI k6ₓ (stOK_in hEₓ (by omega))⟩, fun kₓ _ => ⟨hFₓ.sI k3ₓ (stOK_in hEₓ (by omega)), hFₓ.sI k5ₓ (stOK_in hEₓ (by omega)), hFₓ.sI k9ₓ (stOK_in hEₓ (by omega))⟩, fun kₓ _ => hFₓ.sI k4ₓ (stOK_in hEₓ (by omega)), fun kₓ _ => ⟨hFₓ.sI k7ₓ (stOK_in hEₓ (by omega)), hFₓ.sI k8ₓ (stOK_in hEₓ (by omega)), hFₓ.sI k16ₓ (stOK_in hEₓ (by omega))⟩, fun kₓ _ => hFₓ.sI k10ₓ (stOK_in hEₓ (by omega)), fun kₓ _ => ⟨hFₓ.sI k12ₓ (stOK_in hEₓ (by omega)), hFₓ.sI k13ₓ (stOK_in hEₓ (by omega))⟩, fun kₓ _ => ⟨hFₓ.sI k14ₓ (stOK_in hEₓ (by omega)), hFₓ.sI k15ₓ (stOK_in hEₓ (by omega))⟩⟩
theorem SI_C {E : List (Nat × Nat × Nat)} {wₓ uₓ : va_W} {τ : SS} (hₓ : SI (sI wₓ) τ) (hFₓ : FE ksC E wₓ uₓ) (hEₓ : stOK E = true) : SI (sI uₓ) τ := by
  obtain ⟨h1ₓ, h2ₓ, h3ₓ⟩ := hₓ
  have e144ₓ : ∀ iₓ : Nat, sI uₓ 144 iₓ = sI wₓ 144 iₓ := fun iₓ => hFₓ.sI kC_at144 (stOK_in hEₓ (by omega))
  refine ⟨SRel_mv h1ₓ (StE_FE hFₓ stK_st hEₓ) (fun _ _ => rfl), fun iₓ hiₓ => (e144ₓ iₓ).trans (h2ₓ iₓ hiₓ), fun iₓ hiₓ hmₓ => ?_⟩
  rw [e144ₓ iₓ] at hmₓ
  exact SRel_mv (h3ₓ iₓ hiₓ hmₓ) (StE_FE hFₓ (stK_im iₓ hiₓ) hEₓ) (fun _ _ => rfl)
theorem SI_Mk {σ τ τ' : SS} (hₓ : SI σ τ) (h1ₓ : ∀ kₓ : Nat, (kₓ < 5 ∨ (5 < kₓ ∧ kₓ < 9) ∨ (9 < kₓ ∧ kₓ < 216) ∨ (252 ≤ kₓ ∧ kₓ < 296)) → τ' 12 kₓ = τ 12 kₓ) (h2ₓ : ∀ kₓ : Nat, τ' 21 kₓ = τ 21 kₓ) (h3ₓ : ∀ kₓ : Nat, τ' 22 kₓ = τ 22 kₓ) : SI σ τ' := by
  obtain ⟨g1ₓ, g2ₓ, g3ₓ⟩ := hₓ
  exact ⟨SRel_mv g1ₓ (StE.fr (fun _ _ _ _ => rfl)) h1ₓ, fun iₓ hiₓ => (g2ₓ iₓ hiₓ).trans (h3ₓ iₓ).symm, fun iₓ hiₓ hmₓ => SRel_mv (g3ₓ iₓ hiₓ hmₓ) (StE.fr (fun _ _ _ _ => rfl)) (fun kₓ _ => h2ₓ _)⟩
theorem SI_M {E : List (Nat × Nat × Nat)} {wₓ uₓ : va_W} {σ : SS} (hₓ : SI σ (sI wₓ)) (hFₓ : FE ksM E wₓ uₓ) (hEₓ : rkOK E = true) : SI σ (sI uₓ) :=
  SI_Mk hₓ (fun kₓ hkₓ => hFₓ.sI kM_at12 (rkOK_in hEₓ (by omega))) (fun kₓ => hFₓ.sI kM_at21 (rkOK_in hEₓ (by omega))) (fun kₓ => hFₓ.sI kM_at22 (rkOK_in hEₓ (by omega)))
theorem SI_Mp {E : List (Nat × Nat × Nat)} {wₓ uₓ : va_W} {σ : SS} (hₓ : SI σ (sI wₓ)) (hFₓ : FE ksM E wₓ uₓ) (e80ₓ : ∀ kₓ : Nat, inE E 80 kₓ = false) (e81ₓ : ∀ kₓ : Nat, inE E 81 kₓ = false) (hpₓ : ∀ jₓ : Nat, jₓ < 296 → gi uₓ 12 jₓ = gi wₓ 12 jₓ) : SI σ (sI uₓ) :=
  SI_Mk hₓ (fun kₓ hkₓ => congrArg Int32.toInt (hpₓ kₓ (by omega))) (fun kₓ => hFₓ.sI kM_at21 (e80ₓ kₓ)) (fun kₓ => hFₓ.sI kM_at22 (e81ₓ kₓ))
section
variable {σ σ' τ τ' : SS} {rₓ r'ₓ xₓ yₓ zₓ : Int} {nₓ n'ₓ : Nat} {P Q : Nat → Int}
theorem SI_mk (hₓ : SI σ τ) (hIₓ : ∀ pₓ kₓ : Nat, 58 < pₓ → pₓ ≠ 148 → σ' pₓ kₓ = σ pₓ kₓ) (h1ₓ : ∀ kₓ : Nat, τ' 21 kₓ = τ 21 kₓ) (h2ₓ : ∀ kₓ : Nat, τ' 22 kₓ = τ 22 kₓ) (hSₓ : SRel 38 σ' (τ' 12)) : SI σ' τ' := by
  refine ⟨hSₓ, fun iₓ hiₓ => ?_, fun iₓ hiₓ hmₓ => ?_⟩
  · rw [hIₓ 144 iₓ (by omega) (by omega), h2ₓ iₓ]; exact hₓ.2.1 iₓ hiₓ
  · rw [hIₓ 144 iₓ (by omega) (by omega)] at hmₓ
    exact SRel_mv (hₓ.2.2 iₓ hiₓ hmₓ) (StE.fr (fun pₓ kₓ p1ₓ p2ₓ => hIₓ pₓ kₓ (by omega) (by omega))) (fun kₓ _ => h1ₓ _)
theorem SRel_T (hₓ : SRel 38 σ P) (hsₓ : ∀ pₓ kₓ : Nat, 39 ≤ pₓ → pₓ ≤ 47 → σ' pₓ kₓ = σ pₓ kₓ) (hPₓ : ∀ kₓ : Nat, (kₓ < 4 ∨ (9 < kₓ ∧ kₓ < 168)) → Q kₓ = P kₓ) : OD Q ∧ CT (38 + 1) Q σ' ∧ ∀ jₓ : Nat, (jₓ : Int) < Q 1 → σ' (38 + 9) jₓ = szN Q jₓ (Q 2).toNat := by
  obtain ⟨hOₓ, hTₓ, hZₓ, -⟩ := hₓ
  obtain ⟨o0ₓ, o1ₓ, o2ₓ, o3ₓ, o4ₓ⟩ := id hOₓ
  have heₓ : EqT P Q := ⟨⟨hPₓ 0 (by omega), hPₓ 1 (by omega), hPₓ 2 (by omega), hPₓ 3 (by omega)⟩, fun kₓ hkₓ => hPₓ _ (by omega), fun kₓ hkₓ => hPₓ _ (by omega), fun kₓ hkₓ => hPₓ _ (by omega)⟩
  have hT'ₓ : CT (38 + 1) P σ' := by
    obtain ⟨⟨t8ₓ, t9ₓ, t10ₓ, t11ₓ⟩, tS, tZ⟩ := hTₓ
    refine ⟨⟨(hsₓ _ _ (by decide) (by decide)).trans t8ₓ, (hsₓ _ _ (by decide) (by decide)).trans t9ₓ, (hsₓ _ _ (by decide) (by decide)).trans t10ₓ, (hsₓ _ _ (by decide) (by decide)).trans t11ₓ⟩, fun iₓ hiₓ => ?_, fun kₓ hkₓ => ?_⟩
    · obtain ⟨z1ₓ, z2ₓ, z3ₓ, z4ₓ, z5ₓ, z6ₓ, z7ₓ⟩ := tS iₓ hiₓ
      exact ⟨(hsₓ _ _ (by decide) (by decide)).trans z1ₓ, (hsₓ _ _ (by decide) (by decide)).trans z2ₓ, (hsₓ _ _ (by decide) (by decide)).trans z3ₓ, fun jₓ hjₓ => (hsₓ _ _ (by decide) (by decide)).trans (z4ₓ jₓ hjₓ), (hsₓ _ _ (by decide) (by decide)).trans z5ₓ, (hsₓ _ _ (by decide) (by decide)).trans z6ₓ, (hsₓ _ _ (by decide) (by decide)).trans z7ₓ⟩
    · exact ⟨(hsₓ _ _ (by decide) (by decide)).trans (tZ kₓ hkₓ).1, (hsₓ _ _ (by decide) (by decide)).trans (tZ kₓ hkₓ).2⟩
  refine ⟨OD_c heₓ hOₓ, CT_c heₓ hOₓ hT'ₓ, fun jₓ hjₓ => ?_⟩
  rw [hPₓ 1 (by omega)] at hjₓ
  rw [hsₓ (38 + 9) jₓ (by decide) (by decide), hPₓ 2 (by omega)]
  exact (hZₓ jₓ hjₓ).trans (szN_c (hPₓ _ (by omega)) (hPₓ _ (by omega)) _ (fun kₓ hkₓ => hPₓ _ (by omega))).symm
theorem SRel_maps (hₓ : SRel 38 σ P) (hsₓ : ∀ pₓ kₓ : Nat, 39 ≤ pₓ → pₓ ≤ 54 → pₓ ≠ 48 → σ' pₓ kₓ = σ pₓ kₓ) (h8ₓ : ∀ kₓ : Nat, kₓ ≠ 8 → σ' 38 kₓ = σ 38 kₓ) (hPₓ : ∀ kₓ : Nat, kₓ ≠ 4 → (kₓ < 168 ∨ 215 < kₓ) → Q kₓ = P kₓ) (q8ₓ : σ' 38 8 = Q 4) (q4ₓ : 0 ≤ Q 4 ∧ Q 4 ≤ 4) (qm : ∀ mₓ iₓ : Nat, (mₓ : Int) < Q 4 → (iₓ : Int) < P 1 → σ' 48 (12 * mₓ + iₓ) = Q (168 + 12 * mₓ + iₓ)) : SRel 38 σ' Q := by
  obtain ⟨t1ₓ, t2ₓ, t3ₓ⟩ := SRel_T (Q := Q) (σ' := σ') hₓ (fun pₓ kₓ p1ₓ p2ₓ => hsₓ pₓ kₓ p1ₓ (by omega) (by omega)) (fun kₓ hkₓ => hPₓ kₓ (by omega) (by omega))
  obtain ⟨hOₓ, hTₓ, hZₓ, ⟨c4ₓ, c6ₓ, c7ₓ, c8ₓ⟩, ⟨r4ₓ, r6ₓ, r7ₓ, r8ₓ⟩, m1ₓ, m2ₓ, m3ₓ, m4ₓ⟩ := hₓ
  have p1ₓ := hPₓ 1 (by omega) (by omega)
  have p6ₓ := hPₓ 6 (by omega) (by omega)
  have p7ₓ := hPₓ 7 (by omega) (by omega)
  have p8ₓ := hPₓ 8 (by omega) (by omega)
  refine ⟨t1ₓ, t2ₓ, t3ₓ, ⟨q8ₓ, ?_, ?_, ?_⟩, ⟨q4ₓ, ?_, ?_, ?_⟩, fun mₓ iₓ hmₓ hiₓ => qm mₓ iₓ hmₓ (by omega), fun kₓ hkₓ => ?_, fun kₓ hkₓ => ?_, fun kₓ hkₓ => ?_⟩
  · rw [h8ₓ 10 (by decide), p6ₓ]; exact c6ₓ
  · rw [h8ₓ 11 (by decide), p7ₓ]; exact c7ₓ
  · rw [h8ₓ 12 (by decide), p8ₓ]; exact c8ₓ
  · rw [p6ₓ]; exact r6ₓ
  · rw [p7ₓ]; exact r7ₓ
  · rw [p8ₓ]; exact r8ₓ
  · rw [p6ₓ] at hkₓ
    exact ⟨(hsₓ _ _ (by decide) (by decide) (by decide)).trans ((m2ₓ kₓ hkₓ).1.trans (hPₓ _ (by omega) (by omega)).symm), (hsₓ _ _ (by decide) (by decide) (by decide)).trans ((m2ₓ kₓ hkₓ).2.trans (hPₓ _ (by omega) (by omega)).symm)⟩
  · rw [p7ₓ] at hkₓ
    exact ⟨(hsₓ _ _ (by decide) (by decide) (by decide)).trans ((m3ₓ kₓ hkₓ).1.trans (hPₓ _ (by omega) (by omega)).symm), (hsₓ _ _ (by decide) (by decide) (by decide)).trans ((m3ₓ kₓ hkₓ).2.trans (hPₓ _ (by omega) (by omega)).symm)⟩
  · rw [p8ₓ] at hkₓ
    exact (hsₓ _ _ (by decide) (by decide) (by decide)).trans ((m4ₓ kₓ hkₓ).trans (hPₓ _ (by omega) (by omega)).symm)
theorem SRel_err (hₓ : SRel 38 σ P) (hsₓ : ∀ pₓ kₓ : Nat, 39 ≤ pₓ → pₓ ≤ 54 → pₓ ≠ 50 → pₓ ≠ 51 → σ' pₓ kₓ = σ pₓ kₓ) (h8ₓ : ∀ kₓ : Nat, kₓ ≠ 10 → σ' 38 kₓ = σ 38 kₓ) (hPₓ : ∀ kₓ : Nat, kₓ ≠ 6 → (kₓ < 252 ∨ 263 < kₓ) → Q kₓ = P kₓ) (q8ₓ : σ' 38 10 = Q 6) (q4ₓ : 0 ≤ Q 6 ∧ Q 6 ≤ 6) (qm : ∀ kₓ : Nat, (kₓ : Int) < Q 6 → σ' 50 kₓ = Q (252 + 2 * kₓ) ∧ σ' 51 kₓ = Q (253 + 2 * kₓ)) : SRel 38 σ' Q := by
  obtain ⟨t1ₓ, t2ₓ, t3ₓ⟩ := SRel_T (Q := Q) (σ' := σ') hₓ (fun pₓ kₓ p1ₓ p2ₓ => hsₓ pₓ kₓ p1ₓ (by omega) (by omega) (by omega)) (fun kₓ hkₓ => hPₓ kₓ (by omega) (by omega))
  obtain ⟨hOₓ, hTₓ, hZₓ, ⟨c4ₓ, c6ₓ, c7ₓ, c8ₓ⟩, ⟨r4ₓ, r6ₓ, r7ₓ, r8ₓ⟩, m1ₓ, m2ₓ, m3ₓ, m4ₓ⟩ := hₓ
  obtain ⟨o0ₓ, o1ₓ, -⟩ := hOₓ
  have p1ₓ := hPₓ 1 (by omega) (by omega)
  have p4ₓ := hPₓ 4 (by omega) (by omega)
  have p7ₓ := hPₓ 7 (by omega) (by omega)
  have p8ₓ := hPₓ 8 (by omega) (by omega)
  refine ⟨t1ₓ, t2ₓ, t3ₓ, ⟨?_, q8ₓ, ?_, ?_⟩, ⟨?_, q4ₓ, ?_, ?_⟩, fun mₓ iₓ hmₓ hiₓ => ?_, qm, fun kₓ hkₓ => ?_, fun kₓ hkₓ => ?_⟩
  · rw [h8ₓ 8 (by decide), p4ₓ]; exact c4ₓ
  · rw [h8ₓ 11 (by decide), p7ₓ]; exact c7ₓ
  · rw [h8ₓ 12 (by decide), p8ₓ]; exact c8ₓ
  · rw [p4ₓ]; exact r4ₓ
  · rw [p7ₓ]; exact r7ₓ
  · rw [p8ₓ]; exact r8ₓ
  · rw [p4ₓ] at hmₓ
    rw [p1ₓ] at hiₓ
    exact (hsₓ _ _ (by decide) (by decide) (by decide) (by decide)).trans ((m1ₓ mₓ iₓ hmₓ hiₓ).trans (hPₓ _ (by omega) (by omega)).symm)
  · rw [p7ₓ] at hkₓ
    exact ⟨(hsₓ _ _ (by decide) (by decide) (by decide) (by decide)).trans ((m3ₓ kₓ hkₓ).1.trans (hPₓ _ (by omega) (by omega)).symm), (hsₓ _ _ (by decide) (by decide) (by decide) (by decide)).trans ((m3ₓ kₓ hkₓ).2.trans (hPₓ _ (by omega) (by omega)).symm)⟩
  · rw [p8ₓ] at hkₓ
    exact (hsₓ _ _ (by decide) (by decide) (by decide) (by decide)).trans ((m4ₓ kₓ hkₓ).trans (hPₓ _ (by omega) (by omega)).symm)
theorem SRel_sig (hₓ : SRel 38 σ P) (hsₓ : ∀ pₓ kₓ : Nat, 39 ≤ pₓ → pₓ ≤ 54 → pₓ ≠ 52 → pₓ ≠ 53 → σ' pₓ kₓ = σ pₓ kₓ) (h8ₓ : ∀ kₓ : Nat, kₓ ≠ 11 → σ' 38 kₓ = σ 38 kₓ) (hPₓ : ∀ kₓ : Nat, kₓ ≠ 7 → (kₓ < 264 ∨ 287 < kₓ) → Q kₓ = P kₓ) (q8ₓ : σ' 38 11 = Q 7) (q4ₓ : 0 ≤ Q 7 ∧ Q 7 ≤ 12) (qm : ∀ kₓ : Nat, (kₓ : Int) < Q 7 → σ' 52 kₓ = Q (264 + 2 * kₓ) ∧ σ' 53 kₓ = Q (265 + 2 * kₓ)) : SRel 38 σ' Q := by
  obtain ⟨t1ₓ, t2ₓ, t3ₓ⟩ := SRel_T (Q := Q) (σ' := σ') hₓ (fun pₓ kₓ p1ₓ p2ₓ => hsₓ pₓ kₓ p1ₓ (by omega) (by omega) (by omega)) (fun kₓ hkₓ => hPₓ kₓ (by omega) (by omega))
  obtain ⟨hOₓ, hTₓ, hZₓ, ⟨c4ₓ, c6ₓ, c7ₓ, c8ₓ⟩, ⟨r4ₓ, r6ₓ, r7ₓ, r8ₓ⟩, m1ₓ, m2ₓ, m3ₓ, m4ₓ⟩ := hₓ
  obtain ⟨o0ₓ, o1ₓ, -⟩ := hOₓ
  have p1ₓ := hPₓ 1 (by omega) (by omega)
  have p4ₓ := hPₓ 4 (by omega) (by omega)
  have p6ₓ := hPₓ 6 (by omega) (by omega)
  have p8ₓ := hPₓ 8 (by omega) (by omega)
  refine ⟨t1ₓ, t2ₓ, t3ₓ, ⟨?_, ?_, q8ₓ, ?_⟩, ⟨?_, ?_, q4ₓ, ?_⟩, fun mₓ iₓ hmₓ hiₓ => ?_, fun kₓ hkₓ => ?_, qm, fun kₓ hkₓ => ?_⟩
  · rw [h8ₓ 8 (by decide), p4ₓ]; exact c4ₓ
  · rw [h8ₓ 10 (by decide), p6ₓ]; exact c6ₓ
  · rw [h8ₓ 12 (by decide), p8ₓ]; exact c8ₓ
  · rw [p4ₓ]; exact r4ₓ
  · rw [p6ₓ]; exact r6ₓ
  · rw [p8ₓ]; exact r8ₓ
  · rw [p4ₓ] at hmₓ
    rw [p1ₓ] at hiₓ
    exact (hsₓ _ _ (by decide) (by decide) (by decide) (by decide)).trans ((m1ₓ mₓ iₓ hmₓ hiₓ).trans (hPₓ _ (by omega) (by omega)).symm)
  · rw [p6ₓ] at hkₓ
    exact ⟨(hsₓ _ _ (by decide) (by decide) (by decide) (by decide)).trans ((m2ₓ kₓ hkₓ).1.trans (hPₓ _ (by omega) (by omega)).symm), (hsₓ _ _ (by decide) (by decide) (by decide) (by decide)).trans ((m2ₓ kₓ hkₓ).2.trans (hPₓ _ (by omega) (by omega)).symm)⟩
  · rw [p8ₓ] at hkₓ
    exact (hsₓ _ _ (by decide) (by decide) (by decide) (by decide)).trans ((m4ₓ kₓ hkₓ).trans (hPₓ _ (by omega) (by omega)).symm)
theorem SRel_came (hₓ : SRel 38 σ P) (hsₓ : ∀ pₓ kₓ : Nat, 39 ≤ pₓ → pₓ ≤ 53 → σ' pₓ kₓ = σ pₓ kₓ) (h8ₓ : ∀ kₓ : Nat, kₓ ≠ 12 → σ' 38 kₓ = σ 38 kₓ) (hPₓ : ∀ kₓ : Nat, kₓ ≠ 8 → (kₓ < 288 ∨ 295 < kₓ) → Q kₓ = P kₓ) (q8ₓ : σ' 38 12 = Q 8) (q4ₓ : 0 ≤ Q 8 ∧ Q 8 ≤ 8) (qm : ∀ kₓ : Nat, (kₓ : Int) < Q 8 → σ' 54 kₓ = Q (288 + kₓ)) : SRel 38 σ' Q := by
  obtain ⟨t1ₓ, t2ₓ, t3ₓ⟩ := SRel_T (Q := Q) (σ' := σ') hₓ (fun pₓ kₓ p1ₓ p2ₓ => hsₓ pₓ kₓ p1ₓ (by omega)) (fun kₓ hkₓ => hPₓ kₓ (by omega) (by omega))
  obtain ⟨hOₓ, hTₓ, hZₓ, ⟨c4ₓ, c6ₓ, c7ₓ, c8ₓ⟩, ⟨r4ₓ, r6ₓ, r7ₓ, r8ₓ⟩, m1ₓ, m2ₓ, m3ₓ, m4ₓ⟩ := hₓ
  obtain ⟨o0ₓ, o1ₓ, -⟩ := hOₓ
  have p1ₓ := hPₓ 1 (by omega) (by omega)
  have p4ₓ := hPₓ 4 (by omega) (by omega)
  have p6ₓ := hPₓ 6 (by omega) (by omega)
  have p7ₓ := hPₓ 7 (by omega) (by omega)
  refine ⟨t1ₓ, t2ₓ, t3ₓ, ⟨?_, ?_, ?_, q8ₓ⟩, ⟨?_, ?_, ?_, q4ₓ⟩, fun mₓ iₓ hmₓ hiₓ => ?_, fun kₓ hkₓ => ?_, fun kₓ hkₓ => ?_, qm⟩
  · rw [h8ₓ 8 (by decide), p4ₓ]; exact c4ₓ
  · rw [h8ₓ 10 (by decide), p6ₓ]; exact c6ₓ
  · rw [h8ₓ 11 (by decide), p7ₓ]; exact c7ₓ
  · rw [p4ₓ]; exact r4ₓ
  · rw [p6ₓ]; exact r6ₓ
  · rw [p7ₓ]; exact r7ₓ
  · rw [p4ₓ] at hmₓ
    rw [p1ₓ] at hiₓ
    exact (hsₓ _ _ (by decide) (by decide)).trans ((m1ₓ mₓ iₓ hmₓ hiₓ).trans (hPₓ _ (by omega) (by omega)).symm)
  · rw [p6ₓ] at hkₓ
    exact ⟨(hsₓ _ _ (by decide) (by decide)).trans ((m2ₓ kₓ hkₓ).1.trans (hPₓ _ (by omega) (by omega)).symm), (hsₓ _ _ (by decide) (by decide)).trans ((m2ₓ kₓ hkₓ).2.trans (hPₓ _ (by omega) (by omega)).symm)⟩
  · rw [p7ₓ] at hkₓ
    exact ⟨(hsₓ _ _ (by decide) (by decide)).trans ((m3ₓ kₓ hkₓ).1.trans (hPₓ _ (by omega) (by omega)).symm), (hsₓ _ _ (by decide) (by decide)).trans ((m3ₓ kₓ hkₓ).2.trans (hPₓ _ (by omega) (by omega)).symm)⟩
/-- the state behindₓ town() -/
theorem SI_town (hₓ : SI σ τ) (h21ₓ : ∀ kₓ : Nat, τ' 21 kₓ = τ 21 kₓ) (h22ₓ : ∀ kₓ : Nat, τ' 22 kₓ = τ 22 kₓ) (htₓ : (TWN σ' τ' ∧ ∀ qₓ kₓ : Nat, 58 < qₓ → qₓ ≠ 148 → σ' qₓ kₓ = σ qₓ kₓ) ∨ ((∀ qₓ kₓ : Nat, 38 ≤ qₓ → σ' qₓ kₓ = σ qₓ kₓ) ∧ ∀ kₓ : Nat, τ' 12 kₓ = τ 12 kₓ)) : SI σ' τ' := by
  rcases htₓ with ⟨⟨D, hOₓ, hTₓ, hZₓ, hSₓ, h8ₓ, h12ₓ, hGₓ⟩, hIₓ⟩ | ⟨hsₓ, h12ₓ⟩
  · have heₓ : EqT D (τ' 12) := hSₓ
    refine SI_mk hₓ hIₓ h21ₓ h22ₓ ⟨OD_c heₓ hOₓ, CT_c heₓ hOₓ hTₓ, fun jₓ hjₓ => ?_, ⟨?_, ?_, ?_, ?_⟩, ⟨?_, ?_, ?_, ?_⟩, fun mₓ iₓ hmₓ hiₓ => ?_, fun kₓ hkₓ => ?_, fun kₓ hkₓ => ?_, fun kₓ hkₓ => ?_⟩
    · obtain ⟨⟨a0ₓ, a1ₓ, a2ₓ, a3ₓ⟩, b1ₓ, b2ₓ, b3ₓ⟩ := id heₓ
      obtain ⟨o0ₓ, o1ₓ, o2ₓ, o3ₓ, o4ₓ⟩ := id hOₓ
      rw [a1ₓ] at hjₓ
      rw [a2ₓ]
      refine (hZₓ jₓ hjₓ).trans (szN_c (b1ₓ (10 * jₓ) (by omega)) ?_ _ (fun kₓ hkₓ => b2ₓ (2 * kₓ) (by omega))).symm
      have bₓ := b1ₓ (10 * jₓ + 1) (by omega)
      rw [show 10 + (10 * jₓ + 1) = 11 + 10 * jₓ by omega] at bₓ; exact bₓ
    · rw [h8ₓ 8 (by omega), h12ₓ 4 (by omega) (by omega)]
    · rw [h8ₓ 10 (by omega), h12ₓ 6 (by omega) (by omega)]
    · rw [h8ₓ 11 (by omega), h12ₓ 7 (by omega) (by omega)]
    · rw [h8ₓ 12 (by omega), h12ₓ 8 (by omega) (by omega)]
    · rw [h12ₓ 4 (by omega) (by omega)]; decide
    · rw [h12ₓ 6 (by omega) (by omega)]; decide
    · rw [h12ₓ 7 (by omega) (by omega)]; decide
    · rw [h12ₓ 8 (by omega) (by omega)]; decide
    · rw [h12ₓ 4 (by omega) (by omega)] at hmₓ; omega
    · rw [h12ₓ 6 (by omega) (by omega)] at hkₓ; omega
    · rw [h12ₓ 7 (by omega) (by omega)] at hkₓ; omega
    · rw [h12ₓ 8 (by omega) (by omega)] at hkₓ; omega
  · exact SI_mk hₓ (fun pₓ kₓ p1ₓ _ => hsₓ pₓ kₓ (by omega)) h21ₓ h22ₓ (SRel_mv hₓ.1 (StE.fr (fun pₓ kₓ p1ₓ p2ₓ => hsₓ pₓ kₓ (by omega))) (fun kₓ _ => h12ₓ kₓ))
theorem c_hasTown : m_X5_hasTown nₓ 38 σ = some (if 0 < σ 39 8 then 1 else 0, σ) := by
  show mIf (σ 39 8 ≤ 0) (mRet 0 σ) (mRet 1 σ) = _
  by_cases cₓ : σ 39 8 ≤ 0
  · rw [mIf_pos cₓ, if_neg (by omega)]; rfl
  · rw [mIf_neg cₓ, if_pos (by omega)]; rfl
theorem r_isTown : m_X12_isTown nₓ 0 τ = some (if 0 < τ 12 0 then 1 else 0, τ) := by
  show mIf (τ 12 0 ≤ 0) (mRet 0 τ) (mRet 1 τ) = _
  by_cases cₓ : τ 12 0 ≤ 0
  · rw [mIf_pos cₓ, if_neg (by omega)]; rfl
  · rw [mIf_neg cₓ, if_pos (by omega)]; rfl
theorem c_isWeekday : m_X11_isWeekday nₓ xₓ σ = some (if 0 ≤ xₓ ∧ xₓ < 7 then 1 else 0, σ) := by
  unfold m_X11_isWeekday b_X11_isWeekday_14
  by_cases cₓ : xₓ < 0
  · rw [mIf_pos cₓ, if_neg (by omega)]; rfl
  · rw [mIf_neg cₓ]
    by_cases c1ₓ : 7 ≤ xₓ
    · rw [mIf_pos c1ₓ, if_neg (by omega)]; rfl
    · rw [mIf_neg c1ₓ, if_pos (by omega)]; rfl
theorem c_isSign : m_X11_isSign nₓ xₓ σ = some (if 0 ≤ xₓ ∧ xₓ ≤ 3 then 1 else 0, σ) := by
  unfold m_X11_isSign b_X11_isSign_13
  by_cases cₓ : xₓ < 0
  · rw [mIf_pos cₓ, if_neg (by omega)]; rfl
  · rw [mIf_neg cₓ]
    by_cases c1ₓ : 3 < xₓ
    · rw [mIf_pos c1ₓ, if_neg (by omega)]; rfl
    · rw [mIf_neg c1ₓ, if_pos (by omega)]; rfl
theorem c_hasCorner (hₓ : SRel 38 σ P) : m_X11_hasCorner nₓ 0 xₓ σ = some (if 0 ≤ xₓ ∧ xₓ < P 0 then 1 else 0, σ) := by
  have h9ₓ : σ 39 8 = P 0 := hₓ.2.1.1.1
  unfold m_X11_hasCorner b_X11_hasCorner_22
  by_cases cₓ : xₓ < 0
  · rw [mIf_pos cₓ, if_neg (by omega)]; rfl
  · rw [mIf_neg cₓ, mRd_e, h9ₓ]
    by_cases c1ₓ : P 0 ≤ xₓ
    · rw [mIf_pos c1ₓ, if_neg (by omega)]; rfl
    · rw [mIf_neg c1ₓ, if_pos (by omega)]; rfl
theorem c_hasMap (hₓ : SRel 38 σ P) : m_X11_hasMap nₓ 0 xₓ σ = some (if 0 ≤ xₓ ∧ xₓ < P 4 then 1 else 0, σ) := by
  have h9ₓ : σ 38 8 = P 4 := hₓ.2.2.2.1.1
  unfold m_X11_hasMap b_X11_hasMap_19
  by_cases cₓ : xₓ < 0
  · rw [mIf_pos cₓ, if_neg (by omega)]; rfl
  · rw [mIf_neg cₓ, mRd_e, h9ₓ]
    by_cases c1ₓ : P 4 ≤ xₓ
    · rw [mIf_pos c1ₓ, if_neg (by omega)]; rfl
    · rw [mIf_neg c1ₓ, if_pos (by omega)]; rfl
theorem r_isCorner : m_X12_isCorner nₓ 0 xₓ τ = some (if 0 ≤ xₓ ∧ xₓ < τ 12 0 then 1 else 0, τ) := by
  show mIf (xₓ < 0) (mRet 0 τ) (mIf (τ 12 0 ≤ xₓ) (mRet 0 τ) (mRet 1 τ)) = _
  by_cases cₓ : xₓ < 0
  · rw [mIf_pos cₓ, if_neg (by omega)]; rfl
  · rw [mIf_neg cₓ]
    by_cases c1ₓ : τ 12 0 ≤ xₓ
    · rw [mIf_pos c1ₓ, if_neg (by omega)]; rfl
    · rw [mIf_neg c1ₓ, if_pos (by omega)]; rfl
theorem r_isMap : m_X12_isMap nₓ 0 xₓ τ = some (if 0 ≤ xₓ ∧ xₓ < τ 12 4 then 1 else 0, τ) := by
  show mIf (xₓ < 0) (mRet 0 τ) (mIf (τ 12 4 ≤ xₓ) (mRet 0 τ) (mRet 1 τ)) = _
  by_cases cₓ : xₓ < 0
  · rw [mIf_pos cₓ, if_neg (by omega)]; rfl
  · rw [mIf_neg cₓ]
    by_cases c1ₓ : τ 12 4 ≤ xₓ
    · rw [mIf_pos c1ₓ, if_neg (by omega)]; rfl
    · rw [mIf_neg c1ₓ, if_pos (by omega)]; rfl
theorem c_print0 {mₓ dₓ : Nat} {N : Int} : ∀ (nₓ iₓ : Nat) (σ : SS), σ 39 9 = N → j_X11_print 0 nₓ 41 [(dₓ : Int), (mₓ : Int), (iₓ : Int)] σ = some (rₓ, σ') → rₓ = (mₓ : Int) ∧ (∀ qₓ kₓ : Nat, qₓ ≠ 48 → qₓ ≠ 38 → qₓ ≠ 148 → σ' qₓ kₓ = σ qₓ kₓ) ∧ (∀ kₓ : Nat, kₓ ≠ 8 → σ' 38 kₓ = σ 38 kₓ) ∧ σ' 38 8 = σ 38 8 + 1 ∧ (∀ kₓ : Nat, kₓ < 12 * mₓ + iₓ → σ' 48 kₓ = σ 48 kₓ) ∧ ∀ jₓ : Nat, iₓ ≤ jₓ → (jₓ : Int) < N → σ' 48 (12 * mₓ + jₓ) = σ 42 (7 * jₓ + dₓ) := by
  intro nₓ
  induction nₓ with
  | zero => intro iₓ σ _ eₓ; exact none_el eₓ
  | succ nₓ ihₓ =>
    intro iₓ σ hNₓ eₓ
    rw [e_X11_print_41] at eₓ
    unfold b_X11_print_41 at eₓ
    rw [mRd_e, hNₓ] at eₓ
    by_cases cₓ : N ≤ (iₓ : Int)
    · rw [mIf_pos cₓ, mRd_e, mLet_e, mWr_e] at eₓ
      unfold m_X0_forget at eₓ
      rw [mWr_e, mRet_e, mCall_s, mRet_e] at eₓ
      obtain ⟨rfl, rfl⟩ := some_el eₓ
      refine ⟨rfl, fun qₓ kₓ h1ₓ h2ₓ h3ₓ => ?_, fun kₓ hₓ => ?_, ?_, fun kₓ hₓ => ?_, fun jₓ h1ₓ h2ₓ => absurd h2ₓ (by omega)⟩
      · rw [upS_q h3ₓ, upS_q h2ₓ]
      · rw [upS_q (by decide), upS_k hₓ]
      · rw [upS_q (by decide)]; exact upS_s
      · rw [upS_q (by decide), upS_q (by decide)]
    · rw [mIf_neg cₓ, mLet_e, mLet_e] at eₓ
      unfold m_X7_signOn at eₓ
      rw [mLet_e, mLet_e, mRd_e, mRet_e, mCall_s, mWr_e, mLet_e, show ((mₓ : Int) * 12 + (iₓ : Int)).toNat = 12 * mₓ + iₓ by omega, show (7 * (iₓ : Int) + (dₓ : Int)).toNat = 7 * iₓ + dₓ by omega, show (iₓ : Int) + 1 = ((iₓ + 1 : Nat) : Int) by omega] at eₓ
      obtain ⟨g0ₓ, g1ₓ, g2ₓ, g3ₓ, g4ₓ, g5ₓ⟩ := ihₓ (iₓ + 1) _ (by rw [upS_q (by decide)]; exact hNₓ) eₓ
      refine ⟨g0ₓ, fun qₓ kₓ h1ₓ h2ₓ h3ₓ => ?_, fun kₓ hₓ => ?_, ?_, fun kₓ hₓ => ?_, fun jₓ h1ₓ h2ₓ => ?_⟩
      · rw [g1ₓ qₓ kₓ h1ₓ h2ₓ h3ₓ, upS_q h1ₓ]
      · rw [g2ₓ kₓ hₓ, upS_q (by decide)]
      · rw [g3ₓ, upS_q (by decide)]
      · rw [g4ₓ kₓ (by omega), upS_k (by omega)]
      · by_cases cj : jₓ = iₓ
        · subst cj
          rw [g4ₓ (12 * mₓ + jₓ) (by omega)]; exact upS_s
        · rw [g5ₓ jₓ (by omega) h2ₓ, upS_q (by decide)]
theorem r_print0 {mₓ dₓ : Nat} {N : Int} (hN2ₓ : N ≤ 12) (hdₓ : dₓ < 7) : ∀ (nₓ iₓ : Nat) (τ : SS), τ 12 1 = N → τ 12 4 = (mₓ : Int) → j_X12_print 0 nₓ 34 [(dₓ : Int), (iₓ : Int)] τ = some (r'ₓ, τ') → r'ₓ = (mₓ : Int) ∧ (∀ qₓ kₓ : Nat, qₓ ≠ 12 → τ' qₓ kₓ = τ qₓ kₓ) ∧ τ' 12 4 = (mₓ : Int) + 1 ∧ (∀ kₓ : Nat, kₓ ≠ 4 → (kₓ < 168 + 12 * mₓ + iₓ ∨ 168 + 12 * mₓ + 12 ≤ kₓ) → τ' 12 kₓ = τ 12 kₓ) ∧ ∀ jₓ : Nat, iₓ ≤ jₓ → (jₓ : Int) < N → τ' 12 (168 + 12 * mₓ + jₓ) = τ 12 (13 + 10 * jₓ + dₓ) := by
  intro nₓ
  induction nₓ with
  | zero => intro iₓ τ _ _ eₓ; exact none_el eₓ
  | succ nₓ ihₓ =>
    intro iₓ τ hNₓ hmₓ eₓ
    rw [e_X12_print_34] at eₓ
    unfold b_X12_print_34 at eₓ
    rw [mRd_e, show (1 : Int).toNat = 1 from rfl, hNₓ] at eₓ
    by_cases cₓ : N ≤ (iₓ : Int)
    · rw [mIf_pos cₓ, mRd_e, show (4 : Int).toNat = 4 from rfl, hmₓ, mLet_e, mWr_e, mRd_e, upS_s, mLet_e, mRet_e] at eₓ
      obtain ⟨rfl, rfl⟩ := some_el eₓ
      exact ⟨by omega, fun qₓ kₓ hₓ => upS_q hₓ, upS_s, fun kₓ hₓ _ => upS_k hₓ, fun jₓ h1ₓ h2ₓ => absurd h2ₓ (by omega)⟩
    · rw [mIf_neg cₓ, mRd_e, show (4 : Int).toNat = 4 from rfl, hmₓ, mLet_e, mLet_e, mLet_e, mLet_e] at eₓ
      unfold m_X12_streetOf at eₓ
      rw [mLet_e, mLet_e, mLet_e, mRd_e, mRet_e, mCall_s, mWr_e, mLet_e, show ((168 : Int) + 12 * (mₓ : Int) + (iₓ : Int)).toNat = 168 + 12 * mₓ + iₓ by omega, show ((10 : Int) + 10 * (iₓ : Int) + (3 + (dₓ : Int))).toNat = 13 + 10 * iₓ + dₓ by omega, show (iₓ : Int) + 1 = ((iₓ + 1 : Nat) : Int) by omega] at eₓ
      obtain ⟨g0ₓ, g1ₓ, g2ₓ, g4ₓ, g5ₓ⟩ := ihₓ (iₓ + 1) _ (by rw [upS_k (by omega)]; exact hNₓ) (by rw [upS_k (by omega)]; exact hmₓ) eₓ
      refine ⟨g0ₓ, fun qₓ kₓ h1ₓ => ?_, g2ₓ, fun kₓ hₓ h2ₓ => ?_, fun jₓ h1ₓ h2ₓ => ?_⟩
      · rw [g1ₓ qₓ kₓ h1ₓ, upS_q h1ₓ]
      · rw [g4ₓ kₓ hₓ (by omega), upS_k (by omega)]
      · by_cases cj : jₓ = iₓ
        · subst cj
          rw [g4ₓ (168 + 12 * mₓ + jₓ) (by omega) (by omega)]; exact upS_s
        · rw [g5ₓ jₓ (by omega) h2ₓ, upS_k (by omega)]
theorem f_print (hₓ : SI σ τ) (e1ₓ : m_X11_print nₓ 0 xₓ σ = some (rₓ, σ')) (e2ₓ : m_X12_print n'ₓ 0 xₓ τ = some (r'ₓ, τ')) : rₓ = r'ₓ ∧ SI σ' τ' := by
  have hSₓ := hₓ.1
  obtain ⟨hOₓ, hTₓ, hZₓ, ⟨c4ₓ, c6ₓ, c7ₓ, c8ₓ⟩, ⟨r4ₓ, r6ₓ, r7ₓ, r8ₓ⟩, m1ₓ, m2ₓ, m3ₓ, m4ₓ⟩ := id hSₓ
  have t8ₓ : σ 39 8 = τ 12 0 := hTₓ.1.1
  have t9ₓ : σ 39 9 = τ 12 1 := hTₓ.1.2.1
  unfold m_X11_print b_X11_print_28 at e1ₓ
  unfold m_X12_print b_X12_print_29 at e2ₓ
  rw [c_isWeekday, mCall_s] at e1ₓ
  rw [r_isTown, mCall_s] at e2ₓ
  by_cases ct : 0 < τ 12 0
  · rw [if_pos ct, mIf_neg (by decide), mLet_e, r_in, mCall_s] at e2ₓ
    by_cases cw : 0 ≤ xₓ ∧ xₓ < 7
    · rw [if_pos cw, mIf_neg (by decide), c_hasTown, mCall_s, if_pos (by rw [t8ₓ]; exact ct), mIf_neg (by decide), mRd_e] at e1ₓ
      rw [if_pos (by omega), mIf_neg (by decide), mRd_e, show (4 : Int).toNat = 4 from rfl] at e2ₓ
      by_cases cm : τ 12 4 = 4
      · rw [mIf_neg (fun qₓ => qₓ cm)] at e2ₓ
        rw [mIf_neg (show ¬ σ 38 8 < 4 by rw [c4ₓ, cm]; decide)] at e1ₓ
        obtain ⟨rfl, rfl⟩ := some_el e1ₓ
        obtain ⟨rfl, rfl⟩ := some_el e2ₓ
        exact ⟨rfl, hₓ⟩
      · rw [mIf_pos cm] at e2ₓ
        rw [mIf_pos (show σ 38 8 < 4 by rw [c4ₓ]; omega), mRd_e, c4ₓ] at e1ₓ
        obtain ⟨mₓ, hmₓ⟩ : ∃ mₓ : Nat, τ 12 4 = (mₓ : Int) := ⟨(τ 12 4).toNat, by omega⟩
        obtain ⟨dₓ, rfl⟩ : ∃ dₓ : Nat, xₓ = (dₓ : Int) := ⟨xₓ.toNat, by omega⟩
        rw [hmₓ] at e1ₓ
        obtain ⟨a0ₓ, a1ₓ, a2ₓ, a3ₓ, a4ₓ, a5ₓ⟩ := c_print0 nₓ 0 σ t9ₓ e1ₓ
        obtain ⟨b0ₓ, b1ₓ, b2ₓ, b4ₓ, b5ₓ⟩ := r_print0 hOₓ.2.1.2 (by omega) n'ₓ 0 τ rfl hmₓ e2ₓ
        obtain ⟨o0ₓ, o1ₓ, -⟩ := id hOₓ
        refine ⟨a0ₓ.trans b0ₓ.symm, SI_mk hₓ (fun pₓ kₓ p1ₓ p2ₓ => a1ₓ pₓ kₓ (by omega) (by omega) p2ₓ) (fun kₓ => b1ₓ 21 kₓ (by decide)) (fun kₓ => b1ₓ 22 kₓ (by decide)) (SRel_maps hSₓ (fun pₓ kₓ p1ₓ p2ₓ p3ₓ => a1ₓ pₓ kₓ p3ₓ (by omega) (by omega)) a2ₓ (fun kₓ k1ₓ k2ₓ => b4ₓ kₓ k1ₓ (by omega)) (by rw [a3ₓ, b2ₓ, c4ₓ, hmₓ]) (by omega) (fun m'ₓ iₓ hm'ₓ hiₓ => ?_))⟩
        by_cases cm' : m'ₓ = mₓ
        · subst cm'
          rw [a5ₓ iₓ (by omega) hiₓ, b5ₓ iₓ (by omega) hiₓ]
          have zₓ := (hTₓ.2.1 iₓ hiₓ).2.2.2.1 dₓ (by omega)
          exact zₓ
        · rw [a4ₓ _ (by omega), b4ₓ _ (by omega) (by omega)]
          exact m1ₓ m'ₓ iₓ (by omega) hiₓ
    · rw [if_neg cw, mIf_pos rfl] at e1ₓ
      rw [if_neg (by omega), mIf_pos rfl] at e2ₓ
      obtain ⟨rfl, rfl⟩ := some_el e1ₓ
      obtain ⟨rfl, rfl⟩ := some_el e2ₓ
      exact ⟨rfl, hₓ⟩
  · rw [if_neg ct, mIf_pos rfl] at e2ₓ
    obtain ⟨rfl, rfl⟩ := some_el e2ₓ
    by_cases cw : 0 ≤ xₓ ∧ xₓ < 7
    · rw [if_pos cw, mIf_neg (by decide), c_hasTown, mCall_s, if_neg (by rw [t8ₓ]; exact ct), mIf_pos rfl] at e1ₓ
      obtain ⟨rfl, rfl⟩ := some_el e1ₓ
      exact ⟨rfl, hₓ⟩
    · rw [if_neg cw, mIf_pos rfl] at e1ₓ
      obtain ⟨rfl, rfl⟩ := some_el e1ₓ
      exact ⟨rfl, hₓ⟩
theorem f_misprint (hₓ : SI σ τ) (e1ₓ : m_X11_misprint nₓ 0 xₓ yₓ zₓ σ = some (rₓ, σ')) (e2ₓ : m_X12_misprint n'ₓ 0 xₓ yₓ zₓ τ = some (r'ₓ, τ')) : rₓ = r'ₓ ∧ SI σ' τ' := by
  have hSₓ := hₓ.1
  obtain ⟨hOₓ, hTₓ, hZₓ, ⟨c4ₓ, c6ₓ, c7ₓ, c8ₓ⟩, ⟨r4ₓ, r6ₓ, r7ₓ, r8ₓ⟩, m1ₓ, m2ₓ, m3ₓ, m4ₓ⟩ := id hSₓ
  obtain ⟨o0ₓ, o1ₓ, -⟩ := id hOₓ
  unfold m_X11_misprint b_X11_misprint_29 at e1ₓ
  unfold m_X12_misprint b_X12_misprint_28 at e2ₓ
  rw [c_hasMap hSₓ, mCall_s] at e1ₓ
  rw [r_isMap, mCall_s] at e2ₓ
  by_cases cm : 0 ≤ xₓ ∧ xₓ < τ 12 4
  · rw [if_pos cm, mIf_neg (by decide), c_hasStreet hSₓ, mCall_s] at e1ₓ
    rw [if_pos cm, mIf_neg (by decide), r_isStreet, mCall_s] at e2ₓ
    by_cases cs : 0 ≤ yₓ ∧ yₓ < τ 12 1
    · rw [if_pos cs, mIf_neg (by decide), c_isSign, mCall_s] at e1ₓ
      rw [if_pos cs, mIf_neg (by decide), mLet_e, r_in, mCall_s] at e2ₓ
      by_cases cz : 0 ≤ zₓ ∧ zₓ ≤ 3
      · rw [if_pos cz, mIf_pos (by decide)] at e1ₓ e2ₓ
        obtain ⟨mₓ, rfl⟩ : ∃ mₓ : Nat, xₓ = (mₓ : Int) := ⟨xₓ.toNat, by omega⟩
        obtain ⟨sₓ, rfl⟩ : ∃ sₓ : Nat, yₓ = (sₓ : Int) := ⟨yₓ.toNat, by omega⟩
        unfold m_X0_forget at e1ₓ
        rw [mLet_e, mLet_e, mRd_e, mWr_e, mWr_e, mRet_e, mCall_s, mRet_e, show ((mₓ : Int) * 12 + (sₓ : Int)).toNat = 12 * mₓ + sₓ by omega] at e1ₓ
        rw [mLet_e, mLet_e, mLet_e, mRd_e, mLet_e, mLet_e, mLet_e, mWr_e, mRet_e, show ((168 : Int) + 12 * (mₓ : Int) + (sₓ : Int)).toNat = 168 + 12 * mₓ + sₓ by omega] at e2ₓ
        obtain ⟨rfl, rfl⟩ := some_el e1ₓ
        obtain ⟨rfl, rfl⟩ := some_el e2ₓ
        refine ⟨m1ₓ mₓ sₓ cm.2 cs.2, SI_mk hₓ (fun pₓ kₓ p1ₓ p2ₓ => by rw [upS_q p2ₓ, upS_q (by omega)]) (fun kₓ => upS_q (by decide)) (fun kₓ => upS_q (by decide)) (SRel_maps hSₓ (fun pₓ kₓ p1ₓ p2ₓ p3ₓ => by rw [upS_q (by omega), upS_q p3ₓ]) (fun kₓ k1ₓ => by rw [upS_q (by decide), upS_q (by decide)]) (fun kₓ k1ₓ k2ₓ => upS_k (by omega)) ?_ ?_ (fun m'ₓ iₓ hm'ₓ hiₓ => ?_))⟩
        · rw [upS_q (by decide), upS_q (by decide), upS_k (by omega)]; exact c4ₓ
        · rw [upS_k (by omega)]; exact r4ₓ
        · rw [upS_k (by omega)] at hm'ₓ
          rw [upS_q (by decide)]
          by_cases cc : m'ₓ = mₓ ∧ iₓ = sₓ
          · obtain ⟨rfl, rfl⟩ := cc
            rw [upS_s, upS_s]
          · rw [upS_k (by omega), upS_k (by omega)]; exact m1ₓ m'ₓ iₓ hm'ₓ hiₓ
      · rw [if_neg cz, mIf_neg (fun qₓ => qₓ rfl)] at e1ₓ e2ₓ
        obtain ⟨rfl, rfl⟩ := some_el e1ₓ
        obtain ⟨rfl, rfl⟩ := some_el e2ₓ
        exact ⟨rfl, hₓ⟩
    · rw [if_neg cs, mIf_pos rfl] at e1ₓ e2ₓ
      obtain ⟨rfl, rfl⟩ := some_el e1ₓ
      obtain ⟨rfl, rfl⟩ := some_el e2ₓ
      exact ⟨rfl, hₓ⟩
  · rw [if_neg cm, mIf_pos rfl] at e1ₓ e2ₓ
    obtain ⟨rfl, rfl⟩ := some_el e1ₓ
    obtain ⟨rfl, rfl⟩ := some_el e2ₓ
    exact ⟨rfl, hₓ⟩
theorem f_shown (hₓ : SI σ τ) (e1ₓ : m_X11_shown nₓ 0 xₓ yₓ σ = some (rₓ, σ')) (e2ₓ : m_X12_shown n'ₓ 0 xₓ yₓ τ = some (r'ₓ, τ')) : rₓ = r'ₓ := by
  have hSₓ := hₓ.1
  obtain ⟨hOₓ, hTₓ, hZₓ, ⟨c4ₓ, c6ₓ, c7ₓ, c8ₓ⟩, ⟨r4ₓ, r6ₓ, r7ₓ, r8ₓ⟩, m1ₓ, m2ₓ, m3ₓ, m4ₓ⟩ := id hSₓ
  unfold m_X11_shown b_X11_shown_22 at e1ₓ
  unfold m_X12_shown b_X12_shown_34 at e2ₓ
  rw [c_hasMap hSₓ, mCall_s] at e1ₓ
  rw [r_isMap, mCall_s] at e2ₓ
  by_cases cm : 0 ≤ xₓ ∧ xₓ < τ 12 4
  · rw [if_pos cm, mIf_neg (by decide), c_hasStreet hSₓ, mCall_s] at e1ₓ
    rw [if_pos cm, mIf_neg (by decide), r_isStreet, mCall_s] at e2ₓ
    by_cases cs : 0 ≤ yₓ ∧ yₓ < τ 12 1
    · obtain ⟨mₓ, rfl⟩ : ∃ mₓ : Nat, xₓ = (mₓ : Int) := ⟨xₓ.toNat, by omega⟩
      obtain ⟨sₓ, rfl⟩ : ∃ sₓ : Nat, yₓ = (sₓ : Int) := ⟨yₓ.toNat, by omega⟩
      rw [if_pos cs, mIf_pos (by decide), mLet_e, mLet_e, mRd_e, mRet_e, show ((mₓ : Int) * 12 + (sₓ : Int)).toNat = 12 * mₓ + sₓ by omega] at e1ₓ
      rw [if_pos cs, mIf_neg (by decide), mLet_e, mLet_e, mLet_e, mRd_e, mRet_e, show ((168 : Int) + 12 * (mₓ : Int) + (sₓ : Int)).toNat = 168 + 12 * mₓ + sₓ by omega] at e2ₓ
      obtain ⟨rfl, -⟩ := some_el e1ₓ
      obtain ⟨rfl, -⟩ := some_el e2ₓ
      exact m1ₓ mₓ sₓ cm.2 cs.2
    · rw [if_neg cs, mIf_neg (fun qₓ => qₓ rfl)] at e1ₓ
      rw [if_neg cs, mIf_pos rfl] at e2ₓ
      obtain ⟨rfl, -⟩ := some_el e1ₓ
      obtain ⟨rfl, -⟩ := some_el e2ₓ
      rfl
  · rw [if_neg cm, mIf_pos rfl] at e1ₓ e2ₓ
    obtain ⟨rfl, -⟩ := some_el e1ₓ
    obtain ⟨rfl, -⟩ := some_el e2ₓ
    rfl
theorem f_errand (hₓ : SI σ τ) (e1ₓ : m_X11_errand nₓ 0 xₓ yₓ σ = some (rₓ, σ')) (e2ₓ : m_X12_errand n'ₓ 0 xₓ yₓ τ = some (r'ₓ, τ')) : rₓ = r'ₓ ∧ SI σ' τ' := by
  have hSₓ := hₓ.1
  obtain ⟨hOₓ, hTₓ, hZₓ, ⟨c4ₓ, c6ₓ, c7ₓ, c8ₓ⟩, ⟨r4ₓ, r6ₓ, r7ₓ, r8ₓ⟩, m1ₓ, m2ₓ, m3ₓ, m4ₓ⟩ := id hSₓ
  have i6ₓ : (6 : Int).toNat = 6 := rfl
  unfold m_X11_errand b_X11_errand_48 at e1ₓ
  unfold m_X12_errand b_X12_errand_48 at e2ₓ
  by_cases cx : xₓ = -1
  · rw [mIf_neg (fun qₓ => qₓ cx), mWr_e, mRet_e] at e1ₓ
    rw [mIf_neg (fun qₓ => qₓ cx), mWr_e, mRet_e, i6ₓ] at e2ₓ
    obtain ⟨rfl, rfl⟩ := some_el e1ₓ
    obtain ⟨rfl, rfl⟩ := some_el e2ₓ
    refine ⟨rfl, SI_mk hₓ (fun pₓ kₓ p1ₓ p2ₓ => upS_q (by omega)) (fun kₓ => upS_q (by decide)) (fun kₓ => upS_q (by decide)) (SRel_err hSₓ (fun pₓ kₓ p1ₓ p2ₓ p3ₓ p4ₓ => upS_q (by omega)) (fun kₓ k1ₓ => upS_k k1ₓ) (fun kₓ k1ₓ k2ₓ => upS_k k1ₓ) ?_ ?_ (fun kₓ hkₓ => ?_))⟩
    · rw [upS_s, upS_s]
    · rw [upS_s]; decide
    · rw [upS_s] at hkₓ; omega
  · rw [mIf_pos cx, c_hasCorner hSₓ, mCall_s] at e1ₓ
    rw [mIf_pos cx, r_isCorner, mCall_s] at e2ₓ
    by_cases ca : 0 ≤ xₓ ∧ xₓ < τ 12 0
    · rw [if_pos ca, mIf_neg (by decide), c_hasCorner hSₓ, mCall_s] at e1ₓ
      rw [if_pos ca, mIf_neg (by decide), r_isCorner, mCall_s] at e2ₓ
      by_cases cb : 0 ≤ yₓ ∧ yₓ < τ 12 0
      · rw [if_pos cb, mIf_neg (by decide)] at e1ₓ e2ₓ
        by_cases cc : xₓ = yₓ
        · rw [mIf_pos cc] at e1ₓ e2ₓ
          obtain ⟨rfl, rfl⟩ := some_el e1ₓ
          obtain ⟨rfl, rfl⟩ := some_el e2ₓ
          exact ⟨rfl, hₓ⟩
        · rw [mIf_neg cc, mRd_e] at e1ₓ e2ₓ
          rw [i6ₓ] at e2ₓ
          by_cases cm : τ 12 6 = 6
          · rw [mIf_neg (show ¬ σ 38 10 < 6 by rw [c6ₓ, cm]; decide)] at e1ₓ
            rw [mIf_neg (fun qₓ => qₓ cm)] at e2ₓ
            obtain ⟨rfl, rfl⟩ := some_el e1ₓ
            obtain ⟨rfl, rfl⟩ := some_el e2ₓ
            exact ⟨rfl, hₓ⟩
          · rw [mIf_pos (show σ 38 10 < 6 by rw [c6ₓ]; omega)] at e1ₓ
            rw [mIf_pos cm] at e2ₓ
            obtain ⟨mₓ, hmₓ⟩ : ∃ mₓ : Nat, τ 12 6 = (mₓ : Int) := ⟨(τ 12 6).toNat, by omega⟩
            have cM : σ 38 10 = (mₓ : Int) := c6ₓ.trans hmₓ
            have j0ₓ : ((mₓ : Nat) : Int).toNat = mₓ := by omega
            have j1ₓ : ((252 : Int) + 2 * (mₓ : Int)).toNat = 252 + 2 * mₓ := by omega
            have j2ₓ : ((252 : Int) + 2 * (mₓ : Int) + 1).toNat = 253 + 2 * mₓ := by omega
            have u1ₓ : ∀ (τ : SS) (vₓ : Int), upS τ 12 (252 + 2 * mₓ) vₓ 12 6 = τ 12 6 := fun τ vₓ => upS_k (by omega)
            have u2ₓ : ∀ (τ : SS) (vₓ : Int), upS τ 12 (253 + 2 * mₓ) vₓ 12 6 = τ 12 6 := fun τ vₓ => upS_k (by omega)
            simp only [mRd_e, mLet_e, mWr_e, mRet_e, upS_q (show (38 : Nat) ≠ 50 by decide), upS_q (show (38 : Nat) ≠ 51 by decide), upS_s, cM, j0ₓ] at e1ₓ
            simp only [mRd_e, mLet_e, mWr_e, mRet_e, i6ₓ, hmₓ, j1ₓ, j2ₓ, u1ₓ, u2ₓ, upS_s] at e2ₓ
            obtain ⟨rfl, rfl⟩ := some_el e1ₓ
            obtain ⟨rfl, rfl⟩ := some_el e2ₓ
            refine ⟨rfl, SI_mk hₓ (fun pₓ kₓ p1ₓ p2ₓ => by rw [upS_q (by omega), upS_q (by omega), upS_q (by omega)]) (fun kₓ => by rw [upS_q (by decide), upS_q (by decide), upS_q (by decide)]) (fun kₓ => by rw [upS_q (by decide), upS_q (by decide), upS_q (by decide)]) (SRel_err hSₓ (fun pₓ kₓ p1ₓ p2ₓ p3ₓ p4ₓ => by rw [upS_q (by omega), upS_q p4ₓ, upS_q p3ₓ]) (fun kₓ k1ₓ => by rw [upS_k k1ₓ, upS_q (by decide), upS_q (by decide)]) (fun kₓ k1ₓ k2ₓ => by rw [upS_k k1ₓ, upS_k (by omega), upS_k (by omega)]) ?_ ?_ (fun kₓ hkₓ => ?_))⟩
            · rw [upS_s, upS_s]
            · rw [upS_s]; omega
            · rw [upS_s] at hkₓ
              by_cases ck : kₓ = mₓ
              · subst ck
                refine ⟨?_, ?_⟩
                · rw [upS_q (by decide), upS_q (by decide), upS_s, upS_k (by omega), upS_k (by omega), upS_s]
                · rw [upS_q (by decide), upS_s, upS_k (by omega), upS_s]
              · refine ⟨?_, ?_⟩
                · rw [upS_q (by decide), upS_q (by decide), upS_k ck, upS_k (by omega), upS_k (by omega), upS_k (by omega)]; exact (m2ₓ kₓ (by omega)).1
                · rw [upS_q (by decide), upS_k ck, upS_q (by decide), upS_k (by omega), upS_k (by omega), upS_k (by omega)]; exact (m2ₓ kₓ (by omega)).2
      · rw [if_neg cb, mIf_pos rfl] at e1ₓ e2ₓ
        obtain ⟨rfl, rfl⟩ := some_el e1ₓ
        obtain ⟨rfl, rfl⟩ := some_el e2ₓ
        exact ⟨rfl, hₓ⟩
    · rw [if_neg ca, mIf_pos rfl] at e1ₓ e2ₓ
      obtain ⟨rfl, rfl⟩ := some_el e1ₓ
      obtain ⟨rfl, rfl⟩ := some_el e2ₓ
      exact ⟨rfl, hₓ⟩
theorem f_sight (hₓ : SI σ τ) (e1ₓ : m_X11_sight nₓ 0 xₓ yₓ σ = some (rₓ, σ')) (e2ₓ : m_X12_sight n'ₓ 0 xₓ yₓ τ = some (r'ₓ, τ')) : rₓ = r'ₓ ∧ SI σ' τ' := by
  have hSₓ := hₓ.1
  obtain ⟨hOₓ, hTₓ, hZₓ, ⟨c4ₓ, c6ₓ, c7ₓ, c8ₓ⟩, ⟨r4ₓ, r6ₓ, r7ₓ, r8ₓ⟩, m1ₓ, m2ₓ, m3ₓ, m4ₓ⟩ := id hSₓ
  have i6ₓ : (7 : Int).toNat = 7 := rfl
  unfold m_X11_sight b_X11_sight_48 at e1ₓ
  unfold m_X12_sight b_X12_sight_47 at e2ₓ
  by_cases cx : xₓ = -1
  · rw [mIf_neg (fun qₓ => qₓ cx), mWr_e, mRet_e] at e1ₓ
    rw [mIf_neg (fun qₓ => qₓ cx), mWr_e, mRet_e, i6ₓ] at e2ₓ
    obtain ⟨rfl, rfl⟩ := some_el e1ₓ
    obtain ⟨rfl, rfl⟩ := some_el e2ₓ
    refine ⟨rfl, SI_mk hₓ (fun pₓ kₓ p1ₓ p2ₓ => upS_q (by omega)) (fun kₓ => upS_q (by decide)) (fun kₓ => upS_q (by decide)) (SRel_sig hSₓ (fun pₓ kₓ p1ₓ p2ₓ p3ₓ p4ₓ => upS_q (by omega)) (fun kₓ k1ₓ => upS_k k1ₓ) (fun kₓ k1ₓ k2ₓ => upS_k k1ₓ) ?_ ?_ (fun kₓ hkₓ => ?_))⟩
    · rw [upS_s, upS_s]
    · rw [upS_s]; decide
    · rw [upS_s] at hkₓ; omega
  · rw [mIf_pos cx, c_hasStreet hSₓ, mCall_s] at e1ₓ
    rw [mIf_pos cx, r_isStreet, mCall_s] at e2ₓ
    by_cases ca : 0 ≤ xₓ ∧ xₓ < τ 12 1
    · rw [if_pos ca, mIf_neg (by decide), c_isSign, mCall_s] at e1ₓ
      rw [if_pos ca, mIf_neg (by decide), mLet_e, r_in, mCall_s] at e2ₓ
      by_cases cb : 0 ≤ yₓ ∧ yₓ ≤ 3
      · rw [if_pos cb, mIf_neg (by decide), mRd_e] at e1ₓ e2ₓ
        rw [i6ₓ] at e2ₓ
        by_cases cm : τ 12 7 = 12
        · rw [mIf_neg (show ¬ σ 38 11 < 12 by rw [c7ₓ, cm]; decide)] at e1ₓ
          rw [mIf_neg (fun qₓ => qₓ cm)] at e2ₓ
          obtain ⟨rfl, rfl⟩ := some_el e1ₓ
          obtain ⟨rfl, rfl⟩ := some_el e2ₓ
          exact ⟨rfl, hₓ⟩
        · rw [mIf_pos (show σ 38 11 < 12 by rw [c7ₓ]; omega)] at e1ₓ
          rw [mIf_pos cm] at e2ₓ
          obtain ⟨mₓ, hmₓ⟩ : ∃ mₓ : Nat, τ 12 7 = (mₓ : Int) := ⟨(τ 12 7).toNat, by omega⟩
          have cM : σ 38 11 = (mₓ : Int) := c7ₓ.trans hmₓ
          have j0ₓ : ((mₓ : Nat) : Int).toNat = mₓ := by omega
          have j1ₓ : ((264 : Int) + 2 * (mₓ : Int)).toNat = 264 + 2 * mₓ := by omega
          have j2ₓ : ((264 : Int) + 2 * (mₓ : Int) + 1).toNat = 265 + 2 * mₓ := by omega
          have u1ₓ : ∀ (τ : SS) (vₓ : Int), upS τ 12 (264 + 2 * mₓ) vₓ 12 7 = τ 12 7 := fun τ vₓ => upS_k (by omega)
          have u2ₓ : ∀ (τ : SS) (vₓ : Int), upS τ 12 (265 + 2 * mₓ) vₓ 12 7 = τ 12 7 := fun τ vₓ => upS_k (by omega)
          simp only [mRd_e, mLet_e, mWr_e, mRet_e, upS_q (show (38 : Nat) ≠ 52 by decide), upS_q (show (38 : Nat) ≠ 53 by decide), upS_s, cM, j0ₓ] at e1ₓ
          simp only [mRd_e, mLet_e, mWr_e, mRet_e, i6ₓ, hmₓ, j1ₓ, j2ₓ, u1ₓ, u2ₓ, upS_s] at e2ₓ
          obtain ⟨rfl, rfl⟩ := some_el e1ₓ
          obtain ⟨rfl, rfl⟩ := some_el e2ₓ
          refine ⟨rfl, SI_mk hₓ (fun pₓ kₓ p1ₓ p2ₓ => by rw [upS_q (by omega), upS_q (by omega), upS_q (by omega)]) (fun kₓ => by rw [upS_q (by decide), upS_q (by decide), upS_q (by decide)]) (fun kₓ => by rw [upS_q (by decide), upS_q (by decide), upS_q (by decide)]) (SRel_sig hSₓ (fun pₓ kₓ p1ₓ p2ₓ p3ₓ p4ₓ => by rw [upS_q (by omega), upS_q p4ₓ, upS_q p3ₓ]) (fun kₓ k1ₓ => by rw [upS_k k1ₓ, upS_q (by decide), upS_q (by decide)]) (fun kₓ k1ₓ k2ₓ => by rw [upS_k k1ₓ, upS_k (by omega), upS_k (by omega)]) ?_ ?_ (fun kₓ hkₓ => ?_))⟩
          · rw [upS_s, upS_s]
          · rw [upS_s]; omega
          · rw [upS_s] at hkₓ
            by_cases ck : kₓ = mₓ
            · subst ck
              refine ⟨?_, ?_⟩
              · rw [upS_q (by decide), upS_q (by decide), upS_s, upS_k (by omega), upS_k (by omega), upS_s]
              · rw [upS_q (by decide), upS_s, upS_k (by omega), upS_s]
            · refine ⟨?_, ?_⟩
              · rw [upS_q (by decide), upS_q (by decide), upS_k ck, upS_k (by omega), upS_k (by omega), upS_k (by omega)]; exact (m3ₓ kₓ (by omega)).1
              · rw [upS_q (by decide), upS_k ck, upS_q (by decide), upS_k (by omega), upS_k (by omega), upS_k (by omega)]; exact (m3ₓ kₓ (by omega)).2
      · rw [if_neg cb, mIf_pos rfl] at e1ₓ e2ₓ
        obtain ⟨rfl, rfl⟩ := some_el e1ₓ
        obtain ⟨rfl, rfl⟩ := some_el e2ₓ
        exact ⟨rfl, hₓ⟩
    · rw [if_neg ca, mIf_pos rfl] at e1ₓ e2ₓ
      obtain ⟨rfl, rfl⟩ := some_el e1ₓ
      obtain ⟨rfl, rfl⟩ := some_el e2ₓ
      exact ⟨rfl, hₓ⟩
theorem f_came (hₓ : SI σ τ) (e1ₓ : m_X11_came nₓ 0 xₓ σ = some (rₓ, σ')) (e2ₓ : m_X12_came n'ₓ 0 xₓ τ = some (r'ₓ, τ')) : rₓ = r'ₓ ∧ SI σ' τ' := by
  have hSₓ := hₓ.1
  obtain ⟨hOₓ, hTₓ, hZₓ, ⟨c4ₓ, c6ₓ, c7ₓ, c8ₓ⟩, ⟨r4ₓ, r6ₓ, r7ₓ, r8ₓ⟩, m1ₓ, m2ₓ, m3ₓ, m4ₓ⟩ := id hSₓ
  have i6ₓ : (8 : Int).toNat = 8 := rfl
  unfold m_X11_came b_X11_came_35 at e1ₓ
  unfold m_X12_came b_X12_came_35 at e2ₓ
  by_cases cx : xₓ = -1
  · rw [mIf_neg (fun qₓ => qₓ cx), mWr_e, mRet_e] at e1ₓ
    rw [mIf_neg (fun qₓ => qₓ cx), mWr_e, mRet_e, i6ₓ] at e2ₓ
    obtain ⟨rfl, rfl⟩ := some_el e1ₓ
    obtain ⟨rfl, rfl⟩ := some_el e2ₓ
    refine ⟨rfl, SI_mk hₓ (fun pₓ kₓ p1ₓ p2ₓ => upS_q (by omega)) (fun kₓ => upS_q (by decide)) (fun kₓ => upS_q (by decide)) (SRel_came hSₓ (fun pₓ kₓ p1ₓ p2ₓ => upS_q (by omega)) (fun kₓ k1ₓ => upS_k k1ₓ) (fun kₓ k1ₓ k2ₓ => upS_k k1ₓ) ?_ ?_ (fun kₓ hkₓ => ?_))⟩
    · rw [upS_s, upS_s]
    · rw [upS_s]; decide
    · rw [upS_s] at hkₓ; omega
  · rw [mIf_pos cx, c_hasCorner hSₓ, mCall_s] at e1ₓ
    rw [mIf_pos cx, r_isCorner, mCall_s] at e2ₓ
    by_cases ca : 0 ≤ xₓ ∧ xₓ < τ 12 0
    · rw [if_pos ca, mIf_neg (by decide), mRd_e] at e1ₓ e2ₓ
      rw [i6ₓ] at e2ₓ
      by_cases cm : τ 12 8 = 8
      · rw [mIf_neg (show ¬ σ 38 12 < 8 by rw [c8ₓ, cm]; decide)] at e1ₓ
        rw [mIf_neg (fun qₓ => qₓ cm)] at e2ₓ
        obtain ⟨rfl, rfl⟩ := some_el e1ₓ
        obtain ⟨rfl, rfl⟩ := some_el e2ₓ
        exact ⟨rfl, hₓ⟩
      · rw [mIf_pos (show σ 38 12 < 8 by rw [c8ₓ]; omega)] at e1ₓ
        rw [mIf_pos cm] at e2ₓ
        obtain ⟨mₓ, hmₓ⟩ : ∃ mₓ : Nat, τ 12 8 = (mₓ : Int) := ⟨(τ 12 8).toNat, by omega⟩
        have cM : σ 38 12 = (mₓ : Int) := c8ₓ.trans hmₓ
        have j0ₓ : ((mₓ : Nat) : Int).toNat = mₓ := by omega
        have j1ₓ : ((288 : Int) + (mₓ : Int)).toNat = 288 + mₓ := by omega
        have u1ₓ : ∀ (τ : SS) (vₓ : Int), upS τ 12 (288 + mₓ) vₓ 12 8 = τ 12 8 := fun τ vₓ => upS_k (by omega)
        simp only [mRd_e, mLet_e, mWr_e, mRet_e, upS_q (show (38 : Nat) ≠ 54 by decide), upS_s, cM, j0ₓ] at e1ₓ
        simp only [mRd_e, mLet_e, mWr_e, mRet_e, i6ₓ, hmₓ, j1ₓ, u1ₓ, upS_s] at e2ₓ
        obtain ⟨rfl, rfl⟩ := some_el e1ₓ
        obtain ⟨rfl, rfl⟩ := some_el e2ₓ
        refine ⟨rfl, SI_mk hₓ (fun pₓ kₓ p1ₓ p2ₓ => by rw [upS_q (by omega), upS_q (by omega)]) (fun kₓ => by rw [upS_q (by decide), upS_q (by decide)]) (fun kₓ => by rw [upS_q (by decide), upS_q (by decide)]) (SRel_came hSₓ (fun pₓ kₓ p1ₓ p2ₓ => by rw [upS_q (by omega), upS_q (by omega)]) (fun kₓ k1ₓ => by rw [upS_k k1ₓ, upS_q (by decide)]) (fun kₓ k1ₓ k2ₓ => by rw [upS_k k1ₓ, upS_k (by omega)]) ?_ ?_ (fun kₓ hkₓ => ?_))⟩
        · rw [upS_s, upS_s]
        · rw [upS_s]; omega
        · rw [upS_s] at hkₓ
          by_cases ck : kₓ = mₓ
          · subst ck
            rw [upS_q (by decide), upS_s, upS_k (by omega), upS_s]
          · rw [upS_q (by decide), upS_k ck, upS_k (by omega), upS_k (by omega)]; exact m4ₓ kₓ (by omega)
    · rw [if_neg ca, mIf_pos rfl] at e1ₓ e2ₓ
      obtain ⟨rfl, rfl⟩ := some_el e1ₓ
      obtain ⟨rfl, rfl⟩ := some_el e2ₓ
      exact ⟨rfl, hₓ⟩
end
