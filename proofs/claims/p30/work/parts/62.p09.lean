section
variable {F : Int → Int} {N pₓ L qₓ : Int} {σ σ' τ : SS} {rₓ : Int} {nₓ : Nat} {D D' : Nat → Int}
theorem r_lift (hₓ : MV F N σ) (hTₓ : CM D σ) (hOₓ : OD D) (h2ₓ : 2 ≤ D 0) (h4ₓ : ¬ 4 ≤ D 3) (hpₓ : 0 ≤ σ 0 14) (hNₓ : σ 0 14 ≤ N) (hfₓ : σ 0 15 = 0) (hqₓ : σ 0 14 = qₓ) (eₓ : m_X12_isLiftHere nₓ 0 qₓ σ = some (rₓ, σ')) : KR σ σ' ∧ RO F N L rₓ σ' (tLift F N qₓ L D) := by
  subst hqₓ
  obtain ⟨⟨t7ₓ, t8ₓ, t9ₓ, t10ₓ⟩, tS, tZ, tL⟩ := id hTₓ
  obtain ⟨o0ₓ, o1ₓ, o2ₓ, o3ₓ, o4ₓ⟩ := id hOₓ
  unfold m_X12_isLiftHere at eₓ
  rw [mRd_e, t10ₓ, mIf_pos (by omega)] at eₓ
  obtain ⟨r1ₓ, s1ₓ, e1ₓ, eₓ⟩ := mCall_el eₓ
  have e1ₓ := r_passWordm hₓ hpₓ e1ₓ
  subst e1ₓ
  have k1ₓ : KR σ (upS σ 0 14 (wd F N (σ 0 14))) := KR.up (by omega)
  have hwₓ : 0 ≤ wd F N (σ 0 14) := Int.le_trans hpₓ wd_ge
  have f15ₓ : upS σ 0 14 (wd F N (σ 0 14)) 0 15 = 0 := (upS_k (by decide)).trans hfₓ
  obtain ⟨aₓ, haₓ⟩ : ∃ aₓ : Nat, D 3 = (aₓ : Int) := ⟨(D 3).toNat, by omega⟩
  have hatₓ : (D 3).toNat = aₓ := by omega
  have ea : (3 * (aₓ : Int)).toNat = 3 * aₓ := by omega
  have eb : (3 * (aₓ : Int) + 1).toNat = 3 * aₓ + 1 := by omega
  have ec : (3 * (aₓ : Int) + 2).toNat = 3 * aₓ + 2 := by omega
  rw [mRd_e, upS_k (by decide), t10ₓ, haₓ, mLet_e, mRd_e, upS_k (by decide), t8ₓ, mLet_e] at eₓ
  obtain ⟨r2ₓ, s2ₓ, e2ₓ, eₓ⟩ := mCall_el eₓ
  unfold tLift
  rw [hatₓ]
  rcases r_num (hₓ.kr k1ₓ) (by rw [upS_s]; exact hwₓ) (by rw [upS_s]; exact wd_ub hNₓ) f15ₓ e2ₓ with ⟨rfl, c1ₓ, c2ₓ, c3ₓ⟩ | ⟨xₓ, d1ₓ, rfl, rfl, c1ₓ, c2ₓ, c3ₓ, c4ₓ, c5ₓ, c6ₓ⟩
  · rw [mIf_neg (fun zₓ => zₓ rfl)] at eₓ
    obtain ⟨rfl, rfl⟩ := some_el eₓ
    rw [upS_s] at c3ₓ
    exact ⟨k1ₓ.tr c2ₓ, Or.inl ⟨rfl, c1ₓ, c3ₓ _⟩⟩
  · rw [upS_s] at c6ₓ
    rw [c6ₓ]
    rw [mIf_pos (by decide), mRd_e, rN_16, mWr_e, ea] at eₓ
    obtain ⟨sₓ, hsₓ⟩ : ∃ sₓ, sₓ = upS (rN (upS σ 0 14 (wd F N (σ 0 14))) d1ₓ xₓ) 8 (3 * aₓ) xₓ := ⟨_, rfl⟩
    rw [← hsₓ] at eₓ
    have ks : KR σ sₓ := by rw [hsₓ]; exact (k1ₓ.tr KR_rN).tr (KR.up (by omega))
    have s14ₓ : sₓ 0 14 = d1ₓ := by rw [hsₓ, upS_q (by decide), rN_14]
    have sn : ∀ qₓ kₓ : Nat, ¬ (qₓ = 0 ∧ (kₓ = 14 ∨ kₓ = 16)) → ¬ (qₓ = 8 ∧ kₓ = 3 * aₓ) → sₓ qₓ kₓ = σ qₓ kₓ := fun qₓ kₓ a1ₓ a2ₓ => by rw [hsₓ, upS_n (by omega), rN_n (by omega), upS_n (by omega)]
    have sx : sₓ 8 (3 * aₓ) = xₓ := by rw [hsₓ, upS_s]
    obtain ⟨r3ₓ, s3ₓ, e3ₓ, eₓ⟩ := mCall_el eₓ
    rcases r_num (hₓ.kr ks) (by rw [s14ₓ]; exact c4ₓ) (by rw [s14ₓ]; exact c5ₓ) ((sn 0 15 (by omega) (by omega)).trans hfₓ) e3ₓ with ⟨rfl, g1ₓ, g2ₓ, g3ₓ⟩ | ⟨yₓ, d2ₓ, rfl, rfl, g1ₓ, g2ₓ, g3ₓ, g4ₓ, g5ₓ, g6ₓ⟩
    · rw [mIf_neg (fun zₓ => zₓ rfl)] at eₓ
      obtain ⟨rfl, rfl⟩ := some_el eₓ
      rw [s14ₓ] at g3ₓ
      exact ⟨ks.tr g2ₓ, Or.inl ⟨rfl, g1ₓ, g3ₓ _⟩⟩
    · rw [s14ₓ] at g6ₓ
      rw [g6ₓ]
      rw [mIf_pos (by decide), mLet_e, mRd_e, rN_16, mWr_e, eb, mRd_e, upS_q (by decide), rN_16, mLet_e] at eₓ
      obtain ⟨tₓ, htₓ⟩ : ∃ tₓ, tₓ = upS (rN sₓ d2ₓ yₓ) 8 (3 * aₓ + 1) yₓ := ⟨_, rfl⟩
      rw [← htₓ] at eₓ
      have kt : KR σ tₓ := by rw [htₓ]; exact (ks.tr KR_rN).tr (KR.up (by omega))
      have t14ₓ : tₓ 0 14 = d2ₓ := by rw [htₓ, upS_q (by decide), rN_14]
      have tn : ∀ qₓ kₓ : Nat, ¬ (qₓ = 0 ∧ (kₓ = 14 ∨ kₓ = 16)) → ¬ (qₓ = 8 ∧ (kₓ = 3 * aₓ ∨ kₓ = 3 * aₓ + 1)) → tₓ qₓ kₓ = σ qₓ kₓ := fun qₓ kₓ a1ₓ a2ₓ => by rw [htₓ, upS_n (by omega), rN_n (by omega), sn qₓ kₓ (by omega) (by omega)]
      have tx : tₓ 8 (3 * aₓ) = xₓ := by rw [htₓ, upS_k (by omega), rN_n (by omega), sx]
      have ty : tₓ 8 (3 * aₓ + 1) = yₓ := by rw [htₓ, upS_s]
      obtain ⟨r4ₓ, s4ₓ, e4ₓ, eₓ⟩ := mCall_el eₓ
      rcases r_num (hₓ.kr kt) (by rw [t14ₓ]; exact g4ₓ) (by rw [t14ₓ]; exact g5ₓ) ((tn 0 15 (by omega) (by omega)).trans hfₓ) e4ₓ with ⟨rfl, i1ₓ, i2ₓ, i3ₓ⟩ | ⟨zₓ, d3ₓ, rfl, rfl, i1ₓ, i2ₓ, i3ₓ, i4ₓ, i5ₓ, i6ₓ⟩
      · rw [mIf_neg (fun zₓ => zₓ rfl)] at eₓ
        obtain ⟨rfl, rfl⟩ := some_el eₓ
        rw [t14ₓ] at i3ₓ
        exact ⟨kt.tr i2ₓ, Or.inl ⟨rfl, i1ₓ, i3ₓ _⟩⟩
      · rw [t14ₓ] at i6ₓ
        rw [i6ₓ]
        rw [mIf_pos (by decide), mLet_e, mRd_e, rN_16, mWr_e, ec, mRd_e, upS_q (by decide), rN_n (by omega), tn 0 10 (by omega) (by omega), t10ₓ, mLet_e, mWr_e] at eₓ
        obtain ⟨rfl, rfl⟩ := some_el eₓ
        have esₓ : ∀ qₓ kₓ : Nat, ¬ (qₓ = 0 ∧ (kₓ = 10 ∨ kₓ = 14 ∨ kₓ = 16)) → ¬ (qₓ = 8 ∧ 3 * aₓ ≤ kₓ ∧ kₓ < 3 * aₓ + 3) → upS (upS (rN tₓ d3ₓ zₓ) 8 (3 * aₓ + 2) zₓ) 0 10 (D 3 + 1) qₓ kₓ = σ qₓ kₓ := fun qₓ kₓ a1ₓ a2ₓ => by rw [upS_n (by omega), upS_n (by omega), rN_n (by omega), tn qₓ kₓ (by omega) (by omega)]
        have e14ₓ : upS (upS (rN tₓ d3ₓ zₓ) 8 (3 * aₓ + 2) zₓ) 0 10 (D 3 + 1) 0 14 = d3ₓ := by rw [upS_k (by decide), upS_q (by decide), rN_14]
        have eD : ∀ kₓ : Nat, kₓ ≠ 3 → kₓ ≠ 156 + 3 * aₓ → kₓ ≠ 157 + 3 * aₓ → kₓ ≠ 158 + 3 * aₓ → uD (uD (uD (uD D (156 + 3 * aₓ) xₓ) (157 + 3 * aₓ) yₓ) (158 + 3 * aₓ) zₓ) 3 (D 3 + 1) kₓ = D kₓ := fun kₓ k1ₓ k2ₓ k3ₓ k4ₓ => by rw [uD_n k1ₓ, uD_n k4ₓ, uD_n k3ₓ, uD_n k2ₓ]
        refine ⟨((kt.tr KR_rN).tr (KR.up (by omega))).tr (KR.up (by omega)), Or.inr ⟨rfl, by rw [esₓ _ _ (by omega) (by omega)]; exact hfₓ, by rw [e14ₓ]; exact i4ₓ, by rw [e14ₓ]; exact i5ₓ, _, by rw [e14ₓ], ⟨⟨?_, ?_, ?_, ?_⟩, fun kₓ hkₓ => ?_, fun kₓ hkₓ => ?_, fun kₓ hkₓ => ?_⟩, ?_, by rw [eD _ (by omega) (by omega) (by omega) (by omega)]; exact h2ₓ⟩⟩
        · rw [esₓ _ _ (by omega) (by omega), t7ₓ, eD _ (by omega) (by omega) (by omega) (by omega)]
        · rw [esₓ _ _ (by omega) (by omega), t8ₓ, eD _ (by omega) (by omega) (by omega) (by omega)]
        · rw [esₓ _ _ (by omega) (by omega), t9ₓ, eD _ (by omega) (by omega) (by omega) (by omega)]
        · rw [upS_s, uD_s]
        · rw [eD 1 (by omega) (by omega) (by omega) (by omega)] at hkₓ
          rw [esₓ _ _ (by omega) (by omega), eD _ (by omega) (by omega) (by omega) (by omega)]; exact tS kₓ hkₓ
        · rw [eD 2 (by omega) (by omega) (by omega) (by omega)] at hkₓ
          rw [esₓ _ _ (by omega) (by omega), eD _ (by omega) (by omega) (by omega) (by omega)]; exact tZ kₓ hkₓ
        · rw [uD_s] at hkₓ
          by_cases c1ₓ : kₓ = 3 * aₓ
          · subst c1ₓ
            rw [upS_q (by decide), upS_k (by omega), rN_n (by omega), tx, uD_n (by omega), uD_n (by omega), uD_n (by omega), uD_s]
          · by_cases c2ₓ : kₓ = 3 * aₓ + 1
            · subst c2ₓ
              rw [upS_q (by decide), upS_k (by omega), rN_n (by omega), ty, uD_n (by omega), uD_n (by omega), show 156 + (3 * aₓ + 1) = 157 + 3 * aₓ by omega, uD_s]
            · by_cases c3ₓ : kₓ = 3 * aₓ + 2
              · subst c3ₓ
                rw [upS_q (by decide), upS_s, uD_n (by omega), show 156 + (3 * aₓ + 2) = 158 + 3 * aₓ by omega, uD_s]
              · rw [esₓ _ _ (by omega) (by omega), eD _ (by omega) (by omega) (by omega) (by omega)]; exact tL kₓ (by omega)
        · refine ⟨by rw [eD 0 (by omega) (by omega) (by omega) (by omega)]; exact o0ₓ, by rw [eD 1 (by omega) (by omega) (by omega) (by omega)]; exact o1ₓ, by rw [eD 2 (by omega) (by omega) (by omega) (by omega)]; exact o2ₓ, by rw [uD_s]; omega, fun kₓ hkₓ => ?_⟩
          rw [uD_s] at hkₓ
          rw [eD 1 (by omega) (by omega) (by omega) (by omega)]
          by_cases cₓ : kₓ = aₓ
          · subst cₓ
            rw [uD_n (by omega), uD_n (by omega), uD_n (by omega), uD_s]; omega
          · rw [eD _ (by omega) (by omega) (by omega) (by omega)]; exact o4ₓ kₓ (by omega)
theorem r_signHere (hₓ : MV F N σ) (hpₓ : 0 ≤ σ 0 14) : m_X12_signHere nₓ 0 σ = some (sgn F N (σ 0 14), σ) := by
  unfold m_X12_signHere b_X12_signHere_24 sgn
  rw [mRd_e, mRd_e, hₓ.1]
  by_cases cₓ : σ 0 14 < N
  · obtain ⟨h1ₓ, h2ₓ, h3ₓ⟩ := hₓ.2 _ hpₓ cₓ
    rw [mIf_neg (by omega), mRd_e, mRd_e, if_pos cₓ]
    unfold ioS
    by_cases c1ₓ : σ 1 (σ 0 14).toNat = 46
    · rw [mIf_neg (fun zₓ => zₓ c1ₓ), if_pos (by omega)]; rfl
    · rw [mIf_pos c1ₓ, if_neg (by omega)]
      by_cases c2ₓ : σ 1 (σ 0 14).toNat = 62
      · rw [mIf_neg (fun zₓ => zₓ c2ₓ), if_pos (by omega)]; rfl
      · rw [mIf_pos c2ₓ, if_neg (by omega)]
        by_cases c3ₓ : σ 1 (σ 0 14).toNat = 60
        · rw [mIf_neg (fun zₓ => zₓ c3ₓ), if_pos (by omega)]; rfl
        · rw [mIf_pos c3ₓ, if_neg (by omega)]
          by_cases c4ₓ : σ 1 (σ 0 14).toNat = 61
          · rw [mIf_neg (fun zₓ => zₓ c4ₓ), if_pos (by omega)]; rfl
          · rw [mIf_pos c4ₓ, if_neg (by omega)]; rfl
  · rw [mIf_pos (by omega), if_neg cₓ, mIf_pos (by decide), mIf_pos (by decide), mIf_pos (by decide), mIf_pos (by decide)]; rfl
theorem r_signs0 {aₓ : Nat} : ∀ (nₓ iₓ : Nat) (σ : SS) (D : Nat → Int), MV F N σ → iₓ ≤ 7 → 0 ≤ σ 0 14 → σ 0 14 ≤ N → σ 0 15 = 0 → (∀ jₓ : Nat, jₓ < iₓ → σ 6 (10 * aₓ + 3 + jₓ) = D (13 + 10 * aₓ + jₓ)) → j_X12_areSignsHere 0 nₓ 7 [10 * (aₓ : Int) + 3, (iₓ : Int)] σ = some (rₓ, σ') → KR σ σ' ∧ (∀ qₓ kₓ : Nat, ¬ (qₓ = 0 ∧ (kₓ = 14 ∨ kₓ = 15)) → ¬ (qₓ = 6 ∧ 10 * aₓ + 3 + iₓ ≤ kₓ ∧ kₓ < 10 * aₓ + 10) → σ' qₓ kₓ = σ qₓ kₓ) ∧ ((rₓ = 0 ∧ σ' 0 15 ≠ 0 ∧ ∀ K, sgK F N K (7 - iₓ) (13 + 10 * aₓ + iₓ) (σ 0 14) D = tH (σ' 0 15)) ∨ (rₓ = 1 ∧ σ' 0 15 = 0 ∧ 0 ≤ σ' 0 14 ∧ σ' 0 14 ≤ N ∧ ∃ D' : Nat → Int, (∀ K, sgK F N K (7 - iₓ) (13 + 10 * aₓ + iₓ) (σ 0 14) D = K D' (σ' 0 14)) ∧ (∀ jₓ : Nat, jₓ < 7 → σ' 6 (10 * aₓ + 3 + jₓ) = D' (13 + 10 * aₓ + jₓ)) ∧ ∀ kₓ : Nat, (kₓ < 13 + 10 * aₓ ∨ 20 + 10 * aₓ ≤ kₓ) → D' kₓ = D kₓ)) := by
  intro nₓ
  induction nₓ with
  | zero => intro iₓ σ D _ _ _ _ _ _ eₓ; exact none_el eₓ
  | succ nₓ ihₓ =>
    intro iₓ σ D hₓ hiₓ hpₓ hNₓ hfₓ hgₓ eₓ
    rw [e_X12_areSignsHere_7] at eₓ
    unfold b_X12_areSignsHere_7 at eₓ
    by_cases c7ₓ : (7 : Int) ≤ (iₓ : Int)
    · obtain rfl : iₓ = 7 := by omega
      rw [mIf_pos c7ₓ] at eₓ
      obtain ⟨rfl, rfl⟩ := some_el eₓ
      exact ⟨KR.rf, fun _ _ _ _ => rfl, Or.inr ⟨rfl, hfₓ, hpₓ, hNₓ, D, fun K => rfl, hgₓ, fun _ _ => rfl⟩⟩
    · have e7ₓ : 7 - iₓ = (7 - (iₓ + 1)) + 1 := by omega
      rw [mIf_neg c7ₓ, r_signHere hₓ hpₓ, mCall_s] at eₓ
      by_cases cs : 0 ≤ sgn F N (σ 0 14)
      · have hltₓ : σ 0 14 < N := by
          by_cases cₓ : σ 0 14 < N
          · exact cₓ
          · unfold sgn at cs; rw [if_neg cₓ] at cs; exact absurd cs (by decide)
        have ei : (10 * (aₓ : Int) + 3 + (iₓ : Int)).toNat = 10 * aₓ + 3 + iₓ := by omega
        rw [mIf_pos cs, mLet_e, mWr_e, ei, mRd_e, upS_q (by decide), mLet_e, mWr_e, mLet_e, show (iₓ : Int) + 1 = ((iₓ + 1 : Nat) : Int) by omega] at eₓ
        obtain ⟨tₓ, htₓ⟩ : ∃ tₓ, tₓ = upS (upS σ 6 (10 * aₓ + 3 + iₓ) (sgn F N (σ 0 14))) 0 14 (σ 0 14 + 1) := ⟨_, rfl⟩
        rw [← htₓ] at eₓ
        have kt : KR σ tₓ := by rw [htₓ]; exact (KR.up (by omega)).tr (KR.up (by omega))
        have tn : ∀ qₓ kₓ : Nat, ¬ (qₓ = 0 ∧ kₓ = 14) → ¬ (qₓ = 6 ∧ kₓ = 10 * aₓ + 3 + iₓ) → tₓ qₓ kₓ = σ qₓ kₓ := fun qₓ kₓ a1ₓ a2ₓ => by rw [htₓ, upS_n a1ₓ, upS_n a2ₓ]
        have t14ₓ : tₓ 0 14 = σ 0 14 + 1 := by rw [htₓ, upS_s]
        obtain ⟨j1ₓ, j2ₓ, j3ₓ⟩ := ihₓ (iₓ + 1) tₓ (uD D (13 + 10 * aₓ + iₓ) (sgn F N (σ 0 14))) (hₓ.kr kt) (by omega) (by rw [t14ₓ]; omega) (by rw [t14ₓ]; omega) ((tn 0 15 (by omega) (by omega)).trans hfₓ) (fun jₓ hjₓ => by
          by_cases cₓ : jₓ = iₓ
          · subst cₓ; rw [uD_s, htₓ, upS_q (by decide), upS_s]
          · rw [uD_n (by omega), tn _ _ (by omega) (by omega)]; exact hgₓ jₓ (by omega)) eₓ
        refine ⟨kt.tr j1ₓ, fun qₓ kₓ a1ₓ a2ₓ => (j2ₓ qₓ kₓ a1ₓ (by omega)).trans (tn qₓ kₓ (by omega) (by omega)), ?_⟩
        have eK : ∀ K, sgK F N K (7 - iₓ) (13 + 10 * aₓ + iₓ) (σ 0 14) D = sgK F N K (7 - (iₓ + 1)) (13 + 10 * aₓ + (iₓ + 1)) (tₓ 0 14) (uD D (13 + 10 * aₓ + iₓ) (sgn F N (σ 0 14))) := fun K => by rw [e7ₓ, sgK_go cs, t14ₓ]; rfl
        rcases j3ₓ with ⟨v1ₓ, v2ₓ, v3ₓ⟩ | ⟨v1ₓ, v2ₓ, v3ₓ, v4ₓ, D', v5ₓ, v6ₓ, v7ₓ⟩
        · exact Or.inl ⟨v1ₓ, v2ₓ, fun K => by rw [eK]; exact v3ₓ K⟩
        · exact Or.inr ⟨v1ₓ, v2ₓ, v3ₓ, v4ₓ, D', fun K => by rw [eK]; exact v5ₓ K, v6ₓ, fun kₓ hkₓ => (v7ₓ kₓ hkₓ).trans (uD_n (by omega))⟩
      · rw [mIf_neg cs, mRd_e, r_fails hfₓ, mCall_s] at eₓ
        obtain ⟨rfl, rfl⟩ := some_el eₓ
        refine ⟨KR.up (by omega), fun qₓ kₓ a1ₓ a2ₓ => upS_n (by omega), Or.inl ⟨rfl, by rw [upS_s]; omega, fun K => ?_⟩⟩
        rw [e7ₓ, sgK_bad cs, upS_s, Int.add_zero]
end
