/-! the class's town: what it keeps, against what was told -/
def sb0 (fₓ : Nat → Int) : Nat → Int
  | 0 => 0
  | jₓ + 1 => mOr (sb0 fₓ jₓ) (mShl (mAnd (fₓ jₓ) 1) (jₓ : Int))
def sb1 (fₓ : Nat → Int) : Nat → Int
  | 0 => 0
  | jₓ + 1 => mOr (sb1 fₓ jₓ) (mShl (mShr (fₓ jₓ) 1) (jₓ : Int))
theorem sb0_c {fₓ gₓ : Nat → Int} : ∀ kₓ : Nat, (∀ jₓ : Nat, jₓ < kₓ → fₓ jₓ = gₓ jₓ) → sb0 fₓ kₓ = sb0 gₓ kₓ
  | 0, _ => rfl
  | kₓ + 1, hₓ => by
    show mOr (sb0 fₓ kₓ) (mShl (mAnd (fₓ kₓ) 1) (kₓ : Int)) = mOr (sb0 gₓ kₓ) (mShl (mAnd (gₓ kₓ) 1) (kₓ : Int))
    rw [sb0_c kₓ (fun jₓ hjₓ => hₓ jₓ (by omega)), hₓ kₓ (by omega)]
theorem sb1_c {fₓ gₓ : Nat → Int} : ∀ kₓ : Nat, (∀ jₓ : Nat, jₓ < kₓ → fₓ jₓ = gₓ jₓ) → sb1 fₓ kₓ = sb1 gₓ kₓ
  | 0, _ => rfl
  | kₓ + 1, hₓ => by
    show mOr (sb1 fₓ kₓ) (mShl (mShr (fₓ kₓ) 1) (kₓ : Int)) = mOr (sb1 gₓ kₓ) (mShl (mShr (gₓ kₓ) 1) (kₓ : Int))
    rw [sb1_c kₓ (fun jₓ hjₓ => hₓ jₓ (by omega)), hₓ kₓ (by omega)]
def sgA (D : Nat → Int) (iₓ : Nat) : Nat → Int := fun jₓ => D (13 + 10 * iₓ + jₓ)
def lfN (D : Nat → Int) (iₓ : Nat) : Nat → Int
  | 0 => 0
  | kₓ + 1 => if D (156 + 3 * kₓ) = (iₓ : Int) then mOr (lfN D iₓ kₓ) (mShl 1 (D (158 + 3 * kₓ)) - mShl 1 (D (157 + 3 * kₓ))) else lfN D iₓ kₓ
def lf (D : Nat → Int) (iₓ : Nat) : Int := lfN D iₓ (D 3).toNat
theorem lfN_c {D E : Nat → Int} {iₓ : Nat} : ∀ kₓ : Nat, (∀ jₓ : Nat, 156 ≤ jₓ → jₓ < 156 + 3 * kₓ → D jₓ = E jₓ) → lfN D iₓ kₓ = lfN E iₓ kₓ
  | 0, _ => rfl
  | kₓ + 1, hₓ => by
    show (if D (156 + 3 * kₓ) = (iₓ : Int) then mOr (lfN D iₓ kₓ) (mShl 1 (D (158 + 3 * kₓ)) - mShl 1 (D (157 + 3 * kₓ))) else lfN D iₓ kₓ) = (if E (156 + 3 * kₓ) = (iₓ : Int) then mOr (lfN E iₓ kₓ) (mShl 1 (E (158 + 3 * kₓ)) - mShl 1 (E (157 + 3 * kₓ))) else lfN E iₓ kₓ)
    rw [lfN_c kₓ (fun jₓ h1ₓ h2ₓ => hₓ jₓ h1ₓ (by omega)), hₓ (156 + 3 * kₓ) (by omega) (by omega), hₓ (157 + 3 * kₓ) (by omega) (by omega), hₓ (158 + 3 * kₓ) (by omega) (by omega)]
theorem lfN_0 {D : Nat → Int} {iₓ : Nat} : ∀ kₓ : Nat, (∀ jₓ : Nat, jₓ < kₓ → D (156 + 3 * jₓ) ≠ (iₓ : Int)) → lfN D iₓ kₓ = 0
  | 0, _ => rfl
  | kₓ + 1, hₓ => by
    show (if D (156 + 3 * kₓ) = (iₓ : Int) then mOr (lfN D iₓ kₓ) (mShl 1 (D (158 + 3 * kₓ)) - mShl 1 (D (157 + 3 * kₓ))) else lfN D iₓ kₓ) = 0
    rw [if_neg (hₓ kₓ (by omega)), lfN_0 kₓ (fun jₓ hjₓ => hₓ jₓ (by omega))]
def CS (q0ₓ : Nat) (D : Nat → Int) (σ : SS) (iₓ : Nat) : Prop := σ (q0ₓ + 1) (2 * iₓ) = D (10 + 10 * iₓ) ∧ σ (q0ₓ + 1) (2 * iₓ + 1) = D (11 + 10 * iₓ) ∧ σ (q0ₓ + 2) iₓ = D (12 + 10 * iₓ) ∧ (∀ jₓ : Nat, jₓ < 7 → σ (q0ₓ + 3) (7 * iₓ + jₓ) = D (13 + 10 * iₓ + jₓ)) ∧ σ (q0ₓ + 4) iₓ = lf D iₓ ∧ σ (q0ₓ + 5) (2 * iₓ) = sb0 (sgA D iₓ) 7 ∧ σ (q0ₓ + 5) (2 * iₓ + 1) = sb1 (sgA D iₓ) 7
def CT (q0ₓ : Nat) (D : Nat → Int) (σ : SS) : Prop := (σ q0ₓ 8 = D 0 ∧ σ q0ₓ 9 = D 1 ∧ σ q0ₓ 10 = D 2 ∧ σ q0ₓ 11 = D 3) ∧ (∀ iₓ : Nat, (iₓ : Int) < D 1 → CS q0ₓ D σ iₓ) ∧ ∀ kₓ : Nat, (kₓ : Int) < D 2 → σ (q0ₓ + 6) kₓ = D (140 + 2 * kₓ) ∧ σ (q0ₓ + 7) kₓ = D (141 + 2 * kₓ)
def OD (D : Nat → Int) : Prop := (0 ≤ D 0 ∧ D 0 ≤ 10) ∧ (0 ≤ D 1 ∧ D 1 ≤ 12) ∧ (0 ≤ D 2 ∧ D 2 ≤ 8) ∧ (0 ≤ D 3 ∧ D 3 ≤ 4) ∧ ∀ kₓ : Nat, (kₓ : Int) < D 3 → 0 ≤ D (156 + 3 * kₓ) ∧ D (156 + 3 * kₓ) < D 1
/-- what the class's reader of towns leaves -/
def KT (σ σ' : SS) : Prop := ∀ qₓ kₓ : Nat, (qₓ < 29 ∨ 38 ≤ qₓ) → σ' qₓ kₓ = σ qₓ kₓ
theorem KT.rf {σ : SS} : KT σ σ := fun _ _ _ => rfl
theorem KT.tr {σ σ' σ'' : SS} (hₓ : KT σ σ') (gₓ : KT σ' σ'') : KT σ σ'' := fun qₓ kₓ eₓ => (gₓ qₓ kₓ eₓ).trans (hₓ qₓ kₓ eₓ)
theorem KT.up {σ : SS} {qₓ kₓ : Nat} {vₓ : Int} (hₓ : 29 ≤ qₓ) (h2ₓ : qₓ < 38) : KT σ (upS σ qₓ kₓ vₓ) := fun _ _ _ => upS_q (by omega)
section
variable {F : Int → Int} {N pₓ gₓ φ L : Int} {σ σ' : SS} {rₓ : Int} {nₓ : Nat} {D : Nat → Int}
theorem CV.kt (hₓ : CV F N σ) (eₓ : KT σ σ') : CV F N σ' := ⟨(eₓ 1 2 (by omega)).trans hₓ.1, fun jₓ h0ₓ h1ₓ => (eₓ 2 _ (by omega)).trans (hₓ.2.1 jₓ h0ₓ h1ₓ), hₓ.2.2⟩
theorem c_num (hₓ : CV F N σ) {lo hiₓ : Int} (hpₓ : 0 ≤ pₓ) (hNₓ : pₓ ≤ N) (eₓ : m_X6_readNumber nₓ 1 lo hiₓ (tp σ pₓ gₓ 0) = some (rₓ, σ')) : (∃ p'ₓ φ : Int, φ ≠ 0 ∧ rₓ = -1 ∧ σ' = tp σ p'ₓ (sk F N pₓ) φ ∧ ∀ K, nmK F N lo hiₓ pₓ K = tH φ) ∨ (σ' = tp σ (dg F N (sk F N pₓ)) (sk F N pₓ) 0 ∧ lo ≤ rₓ ∧ rₓ ≤ hiₓ ∧ 0 ≤ rₓ ∧ 0 ≤ dg F N (sk F N pₓ) ∧ dg F N (sk F N pₓ) ≤ N ∧ ∀ K, nmK F N lo hiₓ pₓ K = K rₓ (dg F N (sk F N pₓ))) := by
  have hqₓ : 0 ≤ sk F N pₓ := Int.le_trans hpₓ sk_ge
  rcases c_readNumber hₓ hpₓ hNₓ eₓ with ⟨h1ₓ, h2ₓ, h3ₓ⟩ | ⟨h1ₓ, h2ₓ, ⟨h3ₓ, h4ₓ, h5ₓ⟩ | ⟨h3ₓ, h4ₓ, h5ₓ⟩⟩
  · exact Or.inl ⟨_, _, by omega, h2ₓ, h3ₓ, fun K => nmK_bad h1ₓ⟩
  · exact Or.inl ⟨_, _, by omega, h4ₓ, h5ₓ, fun K => nmK_off h1ₓ h3ₓ⟩
  · refine Or.inr ⟨h5ₓ, by rw [h4ₓ]; exact h3ₓ.2.1, by rw [h4ₓ]; exact h3ₓ.2.2, by rw [h4ₓ]; exact h2ₓ.1, Int.le_trans hqₓ dg_ge, dg_ub (sk_ub hNₓ), fun K => ?_⟩
    rw [h4ₓ]; exact nmK_ok h1ₓ h3ₓ
theorem bt_m (hₓ : CV F N σ) (hpₓ : 0 ≤ pₓ) : (pₓ < N ∧ bt F N pₓ = F pₓ ∧ 0 ≤ F pₓ) ∨ (¬ pₓ < N ∧ bt F N pₓ = -1) := by
  unfold bt
  by_cases cₓ : pₓ < N
  · rw [if_pos cₓ]; exact Or.inl ⟨cₓ, rfl, hₓ.2.2 pₓ hpₓ cₓ⟩
  · rw [if_neg cₓ]; exact Or.inr ⟨cₓ, rfl⟩
/-- of the street aₓ the signs up to iₓ are there -/
def SG (aₓ iₓ : Nat) (D : Nat → Int) (σ : SS) : Prop := (∀ jₓ : Nat, jₓ < iₓ → σ 32 (7 * aₓ + jₓ) = D (13 + 10 * aₓ + jₓ)) ∧ σ 34 (2 * aₓ) = sb0 (sgA D aₓ) iₓ ∧ σ 34 (2 * aₓ + 1) = sb1 (sgA D aₓ) iₓ
def NS (aₓ : Nat) (σ τ : SS) : Prop := ∀ qₓ kₓ : Nat, ¬ (qₓ = 32 ∧ 7 * aₓ ≤ kₓ ∧ kₓ < 7 * aₓ + 7) → ¬ (qₓ = 34 ∧ (kₓ = 2 * aₓ ∨ kₓ = 2 * aₓ + 1)) → τ qₓ kₓ = σ qₓ kₓ
theorem NS.kt {aₓ : Nat} (hₓ : NS aₓ σ σ') : KT σ σ' := fun qₓ kₓ eₓ => hₓ qₓ kₓ (by omega) (by omega)
theorem c_placeSign {aₓ iₓ : Nat} {sₓ : Int} (hiₓ : iₓ < 7) (hgₓ : SG aₓ iₓ D σ) : ∃ τ : SS, m_X7_placeSign nₓ 29 (aₓ : Int) (iₓ : Int) sₓ (tp σ pₓ gₓ φ) = some (0, tp τ pₓ gₓ φ) ∧ NS aₓ σ τ ∧ SG aₓ (iₓ + 1) (uD D (13 + 10 * aₓ + iₓ) sₓ) τ := by
  unfold m_X7_placeSign
  have e1ₓ : (7 * (aₓ : Int) + (iₓ : Int)).toNat = 7 * aₓ + iₓ := by omega
  have e2ₓ : (2 * (aₓ : Int)).toNat = 2 * aₓ := by omega
  have e3ₓ : (2 * (aₓ : Int) + 1).toNat = 2 * aₓ + 1 := by omega
  simp only [mLet_e, mWr_e, mRd_e, mRet_e, e1ₓ, e2ₓ, e3ₓ]
  refine ⟨upS (upS (upS σ 32 (7 * aₓ + iₓ) sₓ) 34 (2 * aₓ) (mOr (σ 34 (2 * aₓ)) (mShl (mAnd sₓ 1) (iₓ : Int)))) 34 (2 * aₓ + 1) (mOr (σ 34 (2 * aₓ + 1)) (mShl (mShr sₓ 1) (iₓ : Int))), ?_, ?_, ?_⟩
  · rw [tp_up_o (by decide), tp_up_o (by decide), tp_up_o (by decide), tp_o (by decide), tp_o (by decide), upS_q (show (34 : Nat) ≠ 32 by decide), upS_k (show 2 * aₓ + 1 ≠ 2 * aₓ by omega), upS_q (show (34 : Nat) ≠ 32 by decide)]
  · intro qₓ kₓ h1ₓ h2ₓ
    rw [upS_n (by omega), upS_n (by omega), upS_n (by omega)]
  · obtain ⟨g1ₓ, g2ₓ, g3ₓ⟩ := hgₓ
    have ea : ∀ jₓ : Nat, jₓ < iₓ → sgA (uD D (13 + 10 * aₓ + iₓ) sₓ) aₓ jₓ = sgA D aₓ jₓ := fun jₓ hjₓ => uD_n (by omega)
    have eb : sgA (uD D (13 + 10 * aₓ + iₓ) sₓ) aₓ iₓ = sₓ := uD_s
    refine ⟨fun jₓ hjₓ => ?_, ?_, ?_⟩
    · rw [upS_q (by decide), upS_q (by decide)]
      by_cases cₓ : jₓ = iₓ
      · subst cₓ; rw [upS_s, uD_s]
      · rw [upS_k (by omega), uD_n (by omega)]; exact g1ₓ jₓ (by omega)
    · rw [upS_k (by omega), upS_s]
      show _ = mOr (sb0 _ iₓ) (mShl (mAnd _ 1) (iₓ : Int))
      rw [sb0_c iₓ ea, eb, g2ₓ]
    · rw [upS_s]
      show _ = mOr (sb1 _ iₓ) (mShl (mShr _ 1) (iₓ : Int))
      rw [sb1_c iₓ ea, eb, g3ₓ]
theorem c_signs0 {aₓ : Nat} : ∀ (nₓ iₓ : Nat) (σ : SS) (D : Nat → Int) (pₓ : Int), CV F N σ → σ 29 9 = (aₓ : Int) → iₓ ≤ 7 → 0 ≤ pₓ → pₓ ≤ N → SG aₓ iₓ D σ → j_X7_readSigns 29 1 nₓ 7 [(iₓ : Int)] (tp σ pₓ gₓ 0) = some (rₓ, σ') → ∃ (τ : SS) (p'ₓ g'ₓ φ : Int), σ' = tp τ p'ₓ g'ₓ φ ∧ NS aₓ σ τ ∧ ((φ ≠ 0 ∧ ∀ K, sgK F N K (7 - iₓ) (13 + 10 * aₓ + iₓ) pₓ D = tH φ) ∨ (φ = 0 ∧ 0 ≤ p'ₓ ∧ p'ₓ ≤ N ∧ ∃ D' : Nat → Int, (∀ K, sgK F N K (7 - iₓ) (13 + 10 * aₓ + iₓ) pₓ D = K D' p'ₓ) ∧ SG aₓ 7 D' τ ∧ ∀ kₓ : Nat, (kₓ < 13 + 10 * aₓ ∨ 20 + 10 * aₓ ≤ kₓ) → D' kₓ = D kₓ)) := by
  intro nₓ
  induction nₓ with
  | zero => intro iₓ σ D pₓ _ _ _ _ _ _ eₓ; exact none_el eₓ
  | succ nₓ ihₓ =>
    intro iₓ σ D pₓ hcₓ haₓ hiₓ hpₓ hNₓ hgₓ eₓ
    rw [e_X7_readSigns_7] at eₓ
    unfold b_X7_readSigns_7 at eₓ
    by_cases c7ₓ : (7 : Int) ≤ (iₓ : Int)
    · obtain rfl : iₓ = 7 := by omega
      rw [mIf_pos c7ₓ] at eₓ
      obtain ⟨rfl, rfl⟩ := some_el eₓ
      exact ⟨σ, pₓ, gₓ, 0, rfl, fun _ _ _ _ => rfl, Or.inr ⟨rfl, hpₓ, hNₓ, D, fun K => rfl, hgₓ, fun _ _ => rfl⟩⟩
    · rw [mIf_neg c7ₓ, c_look hcₓ hpₓ, mCall_s] at eₓ
      have e7ₓ : 7 - iₓ = (7 - (iₓ + 1)) + 1 := by omega
      have bad : sgn F N pₓ < 0 → mCall (m_X6_blameHere nₓ 1 (tp σ pₓ gₓ 0)) (fun _ s9ₓ => mRet 0 s9ₓ) = some (rₓ, σ') → ∃ (τ : SS) (p'ₓ g'ₓ φ : Int), σ' = tp τ p'ₓ g'ₓ φ ∧ NS aₓ σ τ ∧ ((φ ≠ 0 ∧ ∀ K, sgK F N K (7 - iₓ) (13 + 10 * aₓ + iₓ) pₓ D = tH φ) ∨ (φ = 0 ∧ 0 ≤ p'ₓ ∧ p'ₓ ≤ N ∧ ∃ D' : Nat → Int, (∀ K, sgK F N K (7 - iₓ) (13 + 10 * aₓ + iₓ) pₓ D = K D' p'ₓ) ∧ SG aₓ 7 D' τ ∧ ∀ kₓ : Nat, (kₓ < 13 + 10 * aₓ ∨ 20 + 10 * aₓ ≤ kₓ) → D' kₓ = D kₓ)) := by
        intro hsₓ eₓ
        rw [c_blameHere, mCall_s] at eₓ
        obtain ⟨rfl, rfl⟩ := some_el eₓ
        refine ⟨σ, pₓ, gₓ, blm 0 (8 * pₓ), rfl, fun _ _ _ _ => rfl, Or.inl ⟨by unfold blm; rw [if_pos rfl]; omega, fun K => ?_⟩⟩
        rw [e7ₓ, sgK_bad (by omega)]
        unfold blm; rw [if_pos rfl]
      rcases bt_m hcₓ hpₓ with ⟨b1ₓ, b2ₓ, b3ₓ⟩ | ⟨b1ₓ, b2ₓ⟩
      · have hsₓ : sgn F N pₓ = ioS (F pₓ) := if_pos b1ₓ
        rw [b2ₓ, mIf_pos (show ¬ F pₓ = -1 by omega), mLet_e, mLet_e] at eₓ
        by_cases cs : 0 ≤ ioS (F pₓ)
        · rw [mIf_pos cs, c_pass hcₓ, mCall_s, if_pos b1ₓ, mRd_e, tp_o (by decide), haₓ] at eₓ
          obtain ⟨τ, t1ₓ, t2ₓ, t3ₓ⟩ := c_placeSign (nₓ := nₓ) (pₓ := pₓ + 1) (gₓ := gₓ) (φ := 0) (sₓ := ioS (F pₓ)) (by omega) hgₓ
          rw [t1ₓ, mCall_s, mLet_e, show (iₓ : Int) + 1 = ((iₓ + 1 : Nat) : Int) by omega] at eₓ
          obtain ⟨υ, p'ₓ, g'ₓ, φ, u1ₓ, u2ₓ, u3ₓ⟩ := ihₓ (iₓ + 1) τ _ (pₓ + 1) (hcₓ.kt t2ₓ.kt) ((t2ₓ 29 9 (by omega) (by omega)).trans haₓ) (by omega) (by omega) (by omega) t3ₓ eₓ
          refine ⟨υ, p'ₓ, g'ₓ, φ, u1ₓ, fun qₓ kₓ h1ₓ h2ₓ => (u2ₓ qₓ kₓ h1ₓ h2ₓ).trans (t2ₓ qₓ kₓ h1ₓ h2ₓ), ?_⟩
          have eK : ∀ K, sgK F N K (7 - iₓ) (13 + 10 * aₓ + iₓ) pₓ D = sgK F N K (7 - (iₓ + 1)) (13 + 10 * aₓ + (iₓ + 1)) (pₓ + 1) (uD D (13 + 10 * aₓ + iₓ) (ioS (F pₓ))) := fun K => by rw [e7ₓ, sgK_go (by omega), hsₓ]; rfl
          rcases u3ₓ with ⟨v1ₓ, v2ₓ⟩ | ⟨v1ₓ, v2ₓ, v3ₓ, D', v4ₓ, v5ₓ, v6ₓ⟩
          · exact Or.inl ⟨v1ₓ, fun K => by rw [eK]; exact v2ₓ K⟩
          · exact Or.inr ⟨v1ₓ, v2ₓ, v3ₓ, D', fun K => by rw [eK]; exact v4ₓ K, v5ₓ, fun kₓ hkₓ => (v6ₓ kₓ hkₓ).trans (uD_n (by omega))⟩
        · rw [mIf_neg cs] at eₓ
          exact bad (by omega) eₓ
      · have hsₓ : sgn F N pₓ = -1 := if_neg b1ₓ
        rw [b2ₓ, mIf_neg (fun qₓ => qₓ rfl), mIf_neg (by decide)] at eₓ
        exact bad (by omega) eₓ
end
