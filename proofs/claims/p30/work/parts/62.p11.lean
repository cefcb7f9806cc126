section
variable {F : Int → Int} {N pₓ L qₓ : Int} {σ σ' τ : SS} {rₓ : Int} {nₓ : Nat} {D D' : Nat → Int}
def CL (L : Int) (D : Nat → Int) : Prop := (L = 0 ∧ D 0 = 0) ∨ (1 ≤ L ∧ 2 ≤ D 0)
theorem r_word {wₓ : Int} {W : List Int} (hWₓ : WD wₓ W) (hₓ : MV F N σ) (hpₓ : 0 ≤ σ 0 14) (hsₓ : sk F N (σ 0 14) = σ 0 14) (eₓ : m_X12_isWord nₓ 0 wₓ σ = some (rₓ, σ')) : σ' = σ ∧ rₓ = if isWd F N (σ 0 14) W = true then 1 else 0 := by
  obtain ⟨h1ₓ, rfl⟩ := r_isWord hWₓ hₓ hpₓ eₓ
  rw [hsₓ] at h1ₓ ⊢
  refine ⟨upS_id, ?_⟩
  rcases h1ₓ with ⟨h1ₓ, h2ₓ⟩ | ⟨h1ₓ, h2ₓ⟩
  · rw [h1ₓ, h2ₓ]; rfl
  · rw [h1ₓ, h2ₓ]; rfl
def tBody (F : Int → Int) (N qₓ L : Int) (D : Nat → Int) : TCf := if tW F N qₓ = 0 then nmK F N 2 10 (wd F N qₓ) fun vₓ eₓ => tE F N L (uD D 0 vₓ) eₓ else if tW F N qₓ = 1 then tStreet F N qₓ L D else if tW F N qₓ = 2 then tSaint F N qₓ L D else tLift F N qₓ L D
theorem tCl_e {qₓ : Int} : tCl F N qₓ L D = if tW F N qₓ = -1 then tH (1 + 8 * qₓ) else if tBad (tW F N qₓ) L D then tH (1 + 8 * qₓ + 4) else tBody F N qₓ L D := rfl
/-- one clause, the word of which is one of the four, and of which there may be one more -/
theorem r_townLine (hₓ : MV F N σ) (hTₓ : CM D σ) (hOₓ : OD D) (hLₓ : CL L D) (hL0ₓ : ¬ 32 ≤ L) (hpₓ : 0 ≤ σ 0 14) (hNₓ : σ 0 14 ≤ N) (hfₓ : σ 0 15 = 0) (hqₓ : σ 0 14 = qₓ) (hsₓ : sk F N qₓ = qₓ) (hwₓ : ¬ tW F N qₓ = -1) (eₓ : m_X12_townLineHere nₓ 0 qₓ σ = some (rₓ, σ')) : KR σ σ' ∧ RO F N L rₓ σ' (tCl F N qₓ L D) := by
  subst hqₓ
  obtain ⟨⟨t7ₓ, t8ₓ, t9ₓ, t10ₓ⟩, tS, tZ, tL⟩ := id hTₓ
  obtain ⟨o0ₓ, o1ₓ, o2ₓ, o3ₓ, o4ₓ⟩ := id hOₓ
  rw [tCl_e, if_neg hwₓ]
  rw [tW_e] at hwₓ ⊢
  have bad : m_X12_fails nₓ 0 4 (σ 0 14) σ = some (rₓ, σ') → ∀ X : TCf, X = tH (1 + 8 * σ 0 14 + 4) → KR σ σ' ∧ RO F N L rₓ σ' X := fun eₓ X hXₓ => by
    rw [r_fails hfₓ] at eₓ
    obtain ⟨rfl, rfl⟩ := some_el eₓ
    exact ⟨KR.up (by omega), Or.inl ⟨rfl, by rw [upS_s]; omega, by rw [upS_s]; exact hXₓ⟩⟩
  unfold m_X12_townLineHere at eₓ
  obtain ⟨r1ₓ, s1ₓ, e1ₓ, eₓ⟩ := mCall_el eₓ
  obtain ⟨hzₓ, hrₓ⟩ := r_word wd_t0 hₓ hpₓ hsₓ e1ₓ
  subst hzₓ
  unfold tBody
  rw [tW_e]
  by_cases w0ₓ : isWd F N (s1ₓ 0 14) [99, 111, 114, 110, 101, 114, 115] = true
  · rw [if_pos w0ₓ] at hrₓ hwₓ ⊢
    rw [hrₓ, mIf_neg (by decide)] at eₓ
    obtain ⟨r2ₓ, s2ₓ, e2ₓ, eₓ⟩ := mCall_el eₓ
    obtain ⟨rfl, rfl⟩ := some_el eₓ
    rcases hLₓ with ⟨l1ₓ, l2ₓ⟩ | ⟨l1ₓ, l2ₓ⟩
    · rw [if_neg (by unfold tBad; omega), if_pos rfl]
      exact r_corners hₓ hTₓ hOₓ l2ₓ hpₓ hNₓ hfₓ rfl e2ₓ
    · rw [if_pos (by unfold tBad; omega)]
      unfold m_X12_areCornersHere at e2ₓ
      rw [mRd_e, t7ₓ, mIf_neg (by omega)] at e2ₓ
      obtain ⟨r3ₓ, s3ₓ, e3ₓ, e2ₓ⟩ := mCall_el e2ₓ
      obtain ⟨rfl, rfl⟩ := some_el e2ₓ
      exact bad e3ₓ _ rfl
  · rw [if_neg w0ₓ] at hrₓ hwₓ ⊢
    rw [hrₓ, mIf_pos rfl, mRd_e, t7ₓ] at eₓ
    rcases hLₓ with ⟨l1ₓ, l2ₓ⟩ | ⟨l1ₓ, l2ₓ⟩
    · rw [mIf_neg (by omega)] at eₓ
      obtain ⟨r2ₓ, s2ₓ, e2ₓ, eₓ⟩ := mCall_el eₓ
      obtain ⟨rfl, rfl⟩ := some_el eₓ
      refine bad e2ₓ _ (if_pos ?_)
      unfold tBad
      refine Or.inr (Or.inr (Or.inl ⟨?_, l1ₓ⟩))
      by_cases w1ₓ : isWd F N (s1ₓ 0 14) [115, 116, 114, 101, 101, 116] = true
      · rw [if_pos w1ₓ]; decide
      · rw [if_neg w1ₓ]
        by_cases w2ₓ : isWd F N (s1ₓ 0 14) [115, 97, 105, 110, 116] = true
        · rw [if_pos w2ₓ]; decide
        · rw [if_neg w2ₓ]
          by_cases w3ₓ : isWd F N (s1ₓ 0 14) [108, 105, 102, 116] = true
          · rw [if_pos w3ₓ]; decide
          · rw [if_neg w3ₓ]; decide
    · rw [mIf_pos (by omega)] at eₓ
      obtain ⟨r2ₓ, s2ₓ, e2ₓ, eₓ⟩ := mCall_el eₓ
      obtain ⟨hz2ₓ, hr2ₓ⟩ := r_word wd_t1 hₓ hpₓ hsₓ e2ₓ
      subst hz2ₓ
      by_cases w1ₓ : isWd F N (s2ₓ 0 14) [115, 116, 114, 101, 101, 116] = true
      · rw [if_pos w1ₓ] at hr2ₓ hwₓ ⊢
        rw [hr2ₓ, mIf_neg (by decide)] at eₓ
        obtain ⟨r3ₓ, s3ₓ, e3ₓ, eₓ⟩ := mCall_el eₓ
        obtain ⟨rfl, rfl⟩ := some_el eₓ
        by_cases cₓ : 12 ≤ D 1
        · rw [if_pos (by unfold tBad; omega)]
          unfold m_X12_isStreetHere at e3ₓ
          rw [mRd_e, t8ₓ, mIf_neg (by omega)] at e3ₓ
          obtain ⟨r4ₓ, s4ₓ, e4ₓ, e3ₓ⟩ := mCall_el e3ₓ
          obtain ⟨rfl, rfl⟩ := some_el e3ₓ
          exact bad e4ₓ _ rfl
        · rw [if_neg (by unfold tBad; omega), if_neg (by decide), if_pos rfl]
          exact r_street hₓ hTₓ hOₓ l2ₓ cₓ hpₓ hNₓ hfₓ rfl e3ₓ
      · rw [if_neg w1ₓ] at hr2ₓ hwₓ ⊢
        rw [hr2ₓ, mIf_pos rfl] at eₓ
        obtain ⟨r3ₓ, s3ₓ, e3ₓ, eₓ⟩ := mCall_el eₓ
        obtain ⟨hz3ₓ, hr3ₓ⟩ := r_word wd_t2 hₓ hpₓ hsₓ e3ₓ
        subst hz3ₓ
        by_cases w2ₓ : isWd F N (s3ₓ 0 14) [115, 97, 105, 110, 116] = true
        · rw [if_pos w2ₓ] at hr3ₓ hwₓ ⊢
          rw [hr3ₓ, mIf_neg (by decide)] at eₓ
          obtain ⟨r4ₓ, s4ₓ, e4ₓ, eₓ⟩ := mCall_el eₓ
          obtain ⟨rfl, rfl⟩ := some_el eₓ
          by_cases cₓ : 8 ≤ D 2
          · rw [if_pos (by unfold tBad; omega)]
            unfold m_X12_isSaintHere at e4ₓ
            rw [mRd_e, t9ₓ, mIf_neg (by omega)] at e4ₓ
            obtain ⟨r5ₓ, s5ₓ, e5ₓ, e4ₓ⟩ := mCall_el e4ₓ
            obtain ⟨rfl, rfl⟩ := some_el e4ₓ
            exact bad e5ₓ _ rfl
          · rw [if_neg (by unfold tBad; omega), if_neg (by decide), if_neg (by decide), if_pos rfl]
            exact r_saint hₓ hTₓ hOₓ l2ₓ cₓ hpₓ hNₓ hfₓ rfl e4ₓ
        · rw [if_neg w2ₓ] at hr3ₓ hwₓ ⊢
          rw [hr3ₓ, mIf_pos rfl] at eₓ
          obtain ⟨r4ₓ, s4ₓ, e4ₓ, eₓ⟩ := mCall_el eₓ
          obtain ⟨rfl, rfl⟩ := some_el eₓ
          by_cases w3ₓ : isWd F N (s3ₓ 0 14) [108, 105, 102, 116] = true
          · rw [if_pos w3ₓ]
            by_cases cₓ : 4 ≤ D 3
            · rw [if_pos (by unfold tBad; omega)]
              unfold m_X12_isLiftHere at e4ₓ
              rw [mRd_e, t10ₓ, mIf_neg (by omega)] at e4ₓ
              obtain ⟨r5ₓ, s5ₓ, e5ₓ, e4ₓ⟩ := mCall_el e4ₓ
              obtain ⟨rfl, rfl⟩ := some_el e4ₓ
              exact bad e5ₓ _ rfl
            · rw [if_neg (by unfold tBad; omega), if_neg (by decide), if_neg (by decide), if_neg (by decide)]
              exact r_lift hₓ hTₓ hOₓ l2ₓ cₓ hpₓ hNₓ hfₓ rfl e4ₓ
          · exact absurd (if_neg w3ₓ) hwₓ
theorem RO.kp {σ'' : SS} {X : TCf} (hₓ : RO F N L rₓ σ' X) (eₓ : σ'' = σ') : RO F N L rₓ σ'' X := by rw [eₓ]; exact hₓ
/-- aₓ clause of aₓ town -/
theorem r_tclause (hₓ : MV F N σ) (hTₓ : CM D σ) (hOₓ : OD D) (hLₓ : CL L D) (hL32ₓ : L ≤ 32) (h20ₓ : σ 0 20 = L) (h17ₓ : σ 0 17 = 6) (hpₓ : 0 ≤ σ 0 14) (hNₓ : σ 0 14 ≤ N) (hfₓ : σ 0 15 = 0) (eₓ : m_X12_clauseHere nₓ 0 σ = some (rₓ, σ')) : (∀ qₓ kₓ : Nat, (qₓ = 1 ∨ 9 ≤ qₓ ∨ (2 ≤ qₓ ∧ qₓ ≤ 5) ∨ (qₓ = 0 ∧ (kₓ = 1 ∨ kₓ = 2 ∨ kₓ = 17 ∨ kₓ = 18))) → σ' qₓ kₓ = σ qₓ kₓ) ∧ (rₓ = 1 → σ' 0 20 = L + 1 ∧ L < 32) ∧ RO F N L rₓ σ' (tCl F N (sk F N (σ 0 14)) L D) := by
  unfold m_X12_clauseHere at eₓ
  obtain ⟨r0ₓ, s0ₓ, e0ₓ, eₓ⟩ := mCall_el eₓ
  obtain ⟨-, rfl⟩ := r_seem hₓ hpₓ e0ₓ
  obtain ⟨sₓ, hsₓ⟩ : ∃ sₓ, sₓ = upS σ 0 14 (sk F N (σ 0 14)) := ⟨_, rfl⟩
  rw [← hsₓ] at eₓ
  have sn : ∀ qₓ kₓ : Nat, ¬ (qₓ = 0 ∧ kₓ = 14) → sₓ qₓ kₓ = σ qₓ kₓ := fun qₓ kₓ aₓ => by rw [hsₓ, upS_n aₓ]
  have s14ₓ : sₓ 0 14 = sk F N (σ 0 14) := by rw [hsₓ, upS_s]
  have hmₓ : MV F N sₓ := by rw [hsₓ]; exact hₓ.up (by decide) (by omega)
  have q0ₓ : 0 ≤ sk F N (σ 0 14) := Int.le_trans hpₓ sk_ge
  have qN : sk F N (σ 0 14) ≤ N := sk_ub hNₓ
  have qs : sk F N (sk F N (σ 0 14)) = sk F N (σ 0 14) := sk_idem
  rw [mRd_e, mRd_e, s14ₓ, sn 0 17 (by omega), h17ₓ, mIf_neg (fun zₓ => zₓ rfl)] at eₓ
  generalize sk F N (σ 0 14) = qₓ at *
  have hskₓ : sk F N (sₓ 0 14) = sₓ 0 14 := by rw [s14ₓ]; exact qs
  have s0'ₓ : 0 ≤ sₓ 0 14 := by rw [s14ₓ]; exact q0ₓ
  have sf : sₓ 0 15 = 0 := (sn 0 15 (by omega)).trans hfₓ
  have s20ₓ : sₓ 0 20 = L := (sn 0 20 (by omega)).trans h20ₓ
  have hTsₓ : CM D sₓ := ⟨⟨(sn 0 7 (by omega)).trans hTₓ.1.1, (sn 0 8 (by omega)).trans hTₓ.1.2.1, (sn 0 9 (by omega)).trans hTₓ.1.2.2.1, (sn 0 10 (by omega)).trans hTₓ.1.2.2.2⟩, fun kₓ hkₓ => (sn 6 kₓ (by omega)).trans (hTₓ.2.1 kₓ hkₓ), fun kₓ hkₓ => (sn 7 kₓ (by omega)).trans (hTₓ.2.2.1 kₓ hkₓ), fun kₓ hkₓ => (sn 8 kₓ (by omega)).trans (hTₓ.2.2.2 kₓ hkₓ)⟩
  have kn : ∀ {qₓ kₓ : Nat}, (qₓ = 1 ∨ 9 ≤ qₓ ∨ (2 ≤ qₓ ∧ qₓ ≤ 5) ∨ (qₓ = 0 ∧ (kₓ = 1 ∨ kₓ = 2 ∨ kₓ = 17 ∨ kₓ = 18))) → sₓ qₓ kₓ = σ qₓ kₓ := fun hkₓ => sn _ _ (by omega)
  have fail : ∀ aₓ : Int, 0 ≤ aₓ → m_X12_fails nₓ 0 aₓ qₓ sₓ = some (rₓ, σ') → ∀ X : TCf, X = tH (1 + 8 * qₓ + aₓ) → (∀ qₓ kₓ : Nat, (qₓ = 1 ∨ 9 ≤ qₓ ∨ (2 ≤ qₓ ∧ qₓ ≤ 5) ∨ (qₓ = 0 ∧ (kₓ = 1 ∨ kₓ = 2 ∨ kₓ = 17 ∨ kₓ = 18))) → σ' qₓ kₓ = σ qₓ kₓ) ∧ (rₓ = 1 → σ' 0 20 = L + 1 ∧ L < 32) ∧ RO F N L rₓ σ' X := fun aₓ haₓ eₓ X hXₓ => by
    rw [r_fails sf] at eₓ
    obtain ⟨rfl, rfl⟩ := some_el eₓ
    exact ⟨fun qₓ kₓ hkₓ => (upS_n (by omega)).trans (kn hkₓ), fun zₓ => absurd zₓ (by decide), Or.inl ⟨rfl, by rw [upS_s]; omega, by rw [upS_s]; exact hXₓ⟩⟩
  have main : ¬ tW F N qₓ = -1 → b_X12_clauseHere_89 nₓ 0 qₓ 1 1 sₓ = some (rₓ, σ') → (∀ qₓ kₓ : Nat, (qₓ = 1 ∨ 9 ≤ qₓ ∨ (2 ≤ qₓ ∧ qₓ ≤ 5) ∨ (qₓ = 0 ∧ (kₓ = 1 ∨ kₓ = 2 ∨ kₓ = 17 ∨ kₓ = 18))) → σ' qₓ kₓ = σ qₓ kₓ) ∧ (rₓ = 1 → σ' 0 20 = L + 1 ∧ L < 32) ∧ RO F N L rₓ σ' (tCl F N qₓ L D) := fun hwₓ eₓ => by
    unfold b_X12_clauseHere_89 b_X12_clauseHere_116 at eₓ
    rw [mIf_pos (by decide), mRd_e, s20ₓ, mIf_neg (by decide)] at eₓ
    by_cases cₓ : L = 32
    · rw [mIf_neg (fun zₓ => zₓ cₓ)] at eₓ
      obtain ⟨r2ₓ, s2ₓ, e2ₓ, eₓ⟩ := mCall_el eₓ
      obtain ⟨rfl, rfl⟩ := some_el eₓ
      exact fail 4 (by decide) e2ₓ _ (by rw [tCl_e, if_neg hwₓ, if_pos (by unfold tBad; omega)])
    · rw [mIf_pos cₓ, mRd_e, s20ₓ, mLet_e, mWr_e, mIf_neg (by decide)] at eₓ
      obtain ⟨r2ₓ, s2ₓ, e2ₓ, eₓ⟩ := mCall_el eₓ
      obtain ⟨rfl, rfl⟩ := some_el eₓ
      have un : ∀ qₓ kₓ : Nat, ¬ (qₓ = 0 ∧ kₓ = 20) → upS sₓ 0 20 (L + 1) qₓ kₓ = sₓ qₓ kₓ := fun qₓ kₓ aₓ => upS_n aₓ
      have hTuₓ : CM D (upS sₓ 0 20 (L + 1)) := ⟨⟨(un 0 7 (by omega)).trans hTsₓ.1.1, (un 0 8 (by omega)).trans hTsₓ.1.2.1, (un 0 9 (by omega)).trans hTsₓ.1.2.2.1, (un 0 10 (by omega)).trans hTsₓ.1.2.2.2⟩, fun kₓ hkₓ => (un 6 kₓ (by omega)).trans (hTsₓ.2.1 kₓ hkₓ), fun kₓ hkₓ => (un 7 kₓ (by omega)).trans (hTsₓ.2.2.1 kₓ hkₓ), fun kₓ hkₓ => (un 8 kₓ (by omega)).trans (hTsₓ.2.2.2 kₓ hkₓ)⟩
      have u14ₓ : upS sₓ 0 20 (L + 1) 0 14 = qₓ := (un 0 14 (by omega)).trans s14ₓ
      obtain ⟨g1ₓ, g2ₓ⟩ := r_townLine (hmₓ.up (by decide) (by omega)) hTuₓ hOₓ hLₓ (by omega) (by rw [u14ₓ]; exact q0ₓ) (by rw [u14ₓ]; exact qN) ((un 0 15 (by omega)).trans sf) u14ₓ qs hwₓ e2ₓ
      refine ⟨fun qₓ kₓ hkₓ => ?_, fun _ => ⟨?_, by omega⟩, g2ₓ⟩
      · rw [g1ₓ qₓ kₓ (by omega), un qₓ kₓ (by omega)]; exact kn hkₓ
      · rw [g1ₓ 0 20 (by omega)]; exact upS_s
  unfold b_X12_clauseHere_24 b_X12_clauseHere_69 at eₓ
  rw [mIf_neg (by decide)] at eₓ
  obtain ⟨r1ₓ, s1ₓ, e1ₓ, eₓ⟩ := mCall_el eₓ
  obtain ⟨hz1ₓ, hr1ₓ⟩ := r_word wd_t0 hmₓ s0'ₓ hskₓ e1ₓ
  rw [s14ₓ] at hr1ₓ
  rw [hz1ₓ] at eₓ
  have hWₓ := tW_e (F := F) (N := N) (qₓ := qₓ)
  by_cases w0ₓ : isWd F N qₓ [99, 111, 114, 110, 101, 114, 115] = true
  · rw [if_pos w0ₓ] at hr1ₓ hWₓ
    rw [hr1ₓ, mIf_pos (by decide)] at eₓ
    exact main (by omega) eₓ
  · rw [if_neg w0ₓ] at hr1ₓ hWₓ
    rw [hr1ₓ, mIf_neg (by decide)] at eₓ
    obtain ⟨r2ₓ, s2ₓ, e2ₓ, eₓ⟩ := mCall_el eₓ
    obtain ⟨hz2ₓ, hr2ₓ⟩ := r_word wd_t1 hmₓ s0'ₓ hskₓ e2ₓ
    rw [s14ₓ] at hr2ₓ
    rw [hz2ₓ] at eₓ
    by_cases w1ₓ : isWd F N qₓ [115, 116, 114, 101, 101, 116] = true
    · rw [if_pos w1ₓ] at hr2ₓ hWₓ
      rw [hr2ₓ, mIf_pos (by decide)] at eₓ
      exact main (by omega) eₓ
    · rw [if_neg w1ₓ] at hr2ₓ hWₓ
      rw [hr2ₓ, mIf_neg (by decide)] at eₓ
      obtain ⟨r3ₓ, s3ₓ, e3ₓ, eₓ⟩ := mCall_el eₓ
      obtain ⟨hz3ₓ, hr3ₓ⟩ := r_word wd_t2 hmₓ s0'ₓ hskₓ e3ₓ
      rw [s14ₓ] at hr3ₓ
      rw [hz3ₓ] at eₓ
      by_cases w2ₓ : isWd F N qₓ [115, 97, 105, 110, 116] = true
      · rw [if_pos w2ₓ] at hr3ₓ hWₓ
        rw [hr3ₓ, mIf_pos (by decide)] at eₓ
        exact main (by omega) eₓ
      · rw [if_neg w2ₓ] at hr3ₓ hWₓ
        rw [hr3ₓ, mIf_neg (by decide)] at eₓ
        obtain ⟨r4ₓ, s4ₓ, e4ₓ, eₓ⟩ := mCall_el eₓ
        obtain ⟨hz4ₓ, hr4ₓ⟩ := r_word wd_t3 hmₓ s0'ₓ hskₓ e4ₓ
        rw [s14ₓ] at hr4ₓ
        rw [hz4ₓ] at eₓ
        by_cases w3ₓ : isWd F N qₓ [108, 105, 102, 116] = true
        · rw [if_pos w3ₓ] at hr4ₓ hWₓ
          rw [hr4ₓ, mIf_neg (by decide)] at eₓ
          exact main (by omega) eₓ
        · rw [if_neg w3ₓ] at hr4ₓ hWₓ
          rw [hr4ₓ, mIf_pos rfl] at eₓ
          unfold b_X12_clauseHere_89 at eₓ
          rw [mIf_neg (by decide)] at eₓ
          obtain ⟨r5ₓ, s5ₓ, e5ₓ, eₓ⟩ := mCall_el eₓ
          obtain ⟨rfl, rfl⟩ := some_el eₓ
          exact fail 0 (by decide) e5ₓ _ (by rw [tCl_e, if_pos hWₓ, Int.add_zero])
end
