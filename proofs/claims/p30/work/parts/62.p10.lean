section
variable {F : Int → Int} {N pₓ L qₓ : Int} {σ σ' τ : SS} {rₓ : Int} {nₓ : Nat} {D D' : Nat → Int}
theorem r_street (hₓ : MV F N σ) (hTₓ : CM D σ) (hOₓ : OD D) (h2ₓ : 2 ≤ D 0) (h12ₓ : ¬ 12 ≤ D 1) (hpₓ : 0 ≤ σ 0 14) (hNₓ : σ 0 14 ≤ N) (hfₓ : σ 0 15 = 0) (hqₓ : σ 0 14 = qₓ) (eₓ : m_X12_isStreetHere nₓ 0 qₓ σ = some (rₓ, σ')) : KR σ σ' ∧ RO F N L rₓ σ' (tStreet F N qₓ L D) := by
  subst hqₓ
  obtain ⟨⟨t7ₓ, t8ₓ, t9ₓ, t10ₓ⟩, tS, tZ, tL⟩ := id hTₓ
  obtain ⟨o0ₓ, o1ₓ, o2ₓ, o3ₓ, o4ₓ⟩ := id hOₓ
  unfold m_X12_isStreetHere at eₓ
  rw [mRd_e, t8ₓ, mIf_pos (by omega)] at eₓ
  obtain ⟨r1ₓ, s1ₓ, e1ₓ, eₓ⟩ := mCall_el eₓ
  have e1ₓ := r_passWordm hₓ hpₓ e1ₓ
  subst e1ₓ
  have k1ₓ : KR σ (upS σ 0 14 (wd F N (σ 0 14))) := KR.up (by omega)
  have hwₓ : 0 ≤ wd F N (σ 0 14) := Int.le_trans hpₓ wd_ge
  have f15ₓ : upS σ 0 14 (wd F N (σ 0 14)) 0 15 = 0 := (upS_k (by decide)).trans hfₓ
  obtain ⟨aₓ, haₓ⟩ : ∃ aₓ : Nat, D 1 = (aₓ : Int) := ⟨(D 1).toNat, by omega⟩
  have hatₓ : (D 1).toNat = aₓ := by omega
  have ea : (10 * (aₓ : Int)).toNat = 10 * aₓ := by omega
  have eb : (10 * (aₓ : Int) + 1).toNat = 10 * aₓ + 1 := by omega
  have ec : (10 * (aₓ : Int) + 2).toNat = 10 * aₓ + 2 := by omega
  rw [mRd_e, upS_k (by decide), t8ₓ, haₓ, mLet_e, mRd_e, upS_k (by decide), t7ₓ, mLet_e] at eₓ
  obtain ⟨r2ₓ, s2ₓ, e2ₓ, eₓ⟩ := mCall_el eₓ
  unfold tStreet
  rw [hatₓ]
  rcases r_num (hₓ.kr k1ₓ) (by rw [upS_s]; exact hwₓ) (by rw [upS_s]; exact wd_ub hNₓ) f15ₓ e2ₓ with ⟨rfl, c1ₓ, c2ₓ, c3ₓ⟩ | ⟨xₓ, d1ₓ, rfl, rfl, c1ₓ, c2ₓ, c3ₓ, c4ₓ, c5ₓ, c6ₓ⟩
  · rw [mIf_neg (fun zₓ => zₓ rfl)] at eₓ
    obtain ⟨rfl, rfl⟩ := some_el eₓ
    rw [upS_s] at c3ₓ
    exact ⟨k1ₓ.tr c2ₓ, Or.inl ⟨rfl, c1ₓ, c3ₓ _⟩⟩
  · rw [upS_s] at c6ₓ
    rw [c6ₓ]
    rw [mIf_pos (by decide), mRd_e, rN_16, mWr_e, ea] at eₓ
    obtain ⟨uₓ, huₓ⟩ : ∃ uₓ, uₓ = upS (rN (upS σ 0 14 (wd F N (σ 0 14))) d1ₓ xₓ) 6 (10 * aₓ) xₓ := ⟨_, rfl⟩
    rw [← huₓ] at eₓ
    have ku : KR σ uₓ := by rw [huₓ]; exact (k1ₓ.tr KR_rN).tr (KR.up (by omega))
    have u14ₓ : uₓ 0 14 = d1ₓ := by rw [huₓ, upS_q (by decide), rN_14]
    have un : ∀ qₓ kₓ : Nat, ¬ (qₓ = 0 ∧ (kₓ = 14 ∨ kₓ = 16)) → ¬ (qₓ = 6 ∧ kₓ = 10 * aₓ) → uₓ qₓ kₓ = σ qₓ kₓ := fun qₓ kₓ a1ₓ a2ₓ => by rw [huₓ, upS_n (by omega), rN_n (by omega), upS_n (by omega)]
    have ux : uₓ 6 (10 * aₓ) = xₓ := by rw [huₓ, upS_s]
    obtain ⟨r0ₓ, s0ₓ, e0ₓ, eₓ⟩ := mCall_el eₓ
    obtain ⟨-, rfl⟩ := r_seem (hₓ.kr ku) (by rw [u14ₓ]; exact c4ₓ) e0ₓ
    rw [u14ₓ] at eₓ
    obtain ⟨sₓ, hsₓ⟩ : ∃ sₓ, sₓ = upS uₓ 0 14 (sk F N d1ₓ) := ⟨_, rfl⟩
    rw [← hsₓ] at eₓ
    have ks : KR σ sₓ := by rw [hsₓ]; exact ku.tr (KR.up (by omega))
    have s14ₓ : sₓ 0 14 = sk F N d1ₓ := by rw [hsₓ, upS_s]
    have sn : ∀ qₓ kₓ : Nat, ¬ (qₓ = 0 ∧ (kₓ = 14 ∨ kₓ = 16)) → ¬ (qₓ = 6 ∧ kₓ = 10 * aₓ) → sₓ qₓ kₓ = σ qₓ kₓ := fun qₓ kₓ a1ₓ a2ₓ => by rw [hsₓ, upS_n (by omega), un qₓ kₓ a1ₓ a2ₓ]
    have sx : sₓ 6 (10 * aₓ) = xₓ := by rw [hsₓ, upS_q (by decide), ux]
    have k0ₓ : 0 ≤ sk F N d1ₓ := Int.le_trans c4ₓ sk_ge
    have kN : sk F N d1ₓ ≤ N := sk_ub c5ₓ
    rw [mRd_e, s14ₓ, mRd_e, sn 0 7 (by omega) (by omega), t7ₓ, mLet_e] at eₓ
    obtain ⟨r3ₓ, s3ₓ, e3ₓ, eₓ⟩ := mCall_el eₓ
    rcases r_num (hₓ.kr ks) (by rw [s14ₓ]; exact k0ₓ) (by rw [s14ₓ]; exact kN) ((sn 0 15 (by omega) (by omega)).trans hfₓ) e3ₓ with ⟨rfl, g1ₓ, g2ₓ, g3ₓ⟩ | ⟨yₓ, d2ₓ, rfl, rfl, g1ₓ, g2ₓ, g3ₓ, g4ₓ, g5ₓ, g6ₓ⟩
    · rw [mIf_neg (fun zₓ => zₓ rfl)] at eₓ
      obtain ⟨rfl, rfl⟩ := some_el eₓ
      rw [s14ₓ] at g3ₓ
      exact ⟨ks.tr g2ₓ, Or.inl ⟨rfl, g1ₓ, nmK_sk.symm.trans (g3ₓ _)⟩⟩
    · rw [s14ₓ] at g6ₓ
      rw [← nmK_sk (pₓ := d1ₓ), g6ₓ]
      rw [mIf_pos (by decide), mRd_e, rN_16, mRd_e, rN_n (by omega), sx] at eₓ
      by_cases cyx : yₓ = xₓ
      · rw [mIf_neg (fun zₓ => zₓ cyx), r_fails ((rN_n (by omega)).trans ((sn 0 15 (by omega) (by omega)).trans hfₓ)), mCall_s] at eₓ
        obtain ⟨rfl, rfl⟩ := some_el eₓ
        rw [if_pos cyx]
        refine ⟨(ks.tr KR_rN).tr (KR.up (by omega)), Or.inl ⟨rfl, by rw [upS_s]; omega, by rw [upS_s]⟩⟩
      · rw [if_neg cyx]
        rw [mIf_pos cyx, mLet_e, mRd_e, rN_16, mWr_e, eb] at eₓ
        obtain ⟨tₓ, htₓ⟩ : ∃ tₓ, tₓ = upS (rN sₓ d2ₓ yₓ) 6 (10 * aₓ + 1) yₓ := ⟨_, rfl⟩
        rw [← htₓ] at eₓ
        have kt : KR σ tₓ := by rw [htₓ]; exact (ks.tr KR_rN).tr (KR.up (by omega))
        have t14ₓ : tₓ 0 14 = d2ₓ := by rw [htₓ, upS_q (by decide), rN_14]
        have tn : ∀ qₓ kₓ : Nat, ¬ (qₓ = 0 ∧ (kₓ = 14 ∨ kₓ = 16)) → ¬ (qₓ = 6 ∧ (kₓ = 10 * aₓ ∨ kₓ = 10 * aₓ + 1)) → tₓ qₓ kₓ = σ qₓ kₓ := fun qₓ kₓ a1ₓ a2ₓ => by rw [htₓ, upS_n (by omega), rN_n (by omega), sn qₓ kₓ (by omega) (by omega)]
        have tx : tₓ 6 (10 * aₓ) = xₓ := by rw [htₓ, upS_k (by omega), rN_n (by omega), sx]
        have ty : tₓ 6 (10 * aₓ + 1) = yₓ := by rw [htₓ, upS_s]
        obtain ⟨r4ₓ, s4ₓ, e4ₓ, eₓ⟩ := mCall_el eₓ
        rcases r_num (hₓ.kr kt) (by rw [t14ₓ]; exact g4ₓ) (by rw [t14ₓ]; exact g5ₓ) ((tn 0 15 (by omega) (by omega)).trans hfₓ) e4ₓ with ⟨rfl, i1ₓ, i2ₓ, i3ₓ⟩ | ⟨zₓ, d3ₓ, rfl, rfl, i1ₓ, i2ₓ, i3ₓ, i4ₓ, i5ₓ, i6ₓ⟩
        · rw [mIf_neg (fun zₓ => zₓ rfl)] at eₓ
          obtain ⟨rfl, rfl⟩ := some_el eₓ
          rw [t14ₓ] at i3ₓ
          exact ⟨kt.tr i2ₓ, Or.inl ⟨rfl, i1ₓ, i3ₓ _⟩⟩
        · rw [t14ₓ] at i6ₓ
          rw [i6ₓ]
          rw [mIf_pos (by decide), mLet_e, mRd_e, rN_16, mWr_e, ec, mLet_e] at eₓ
          obtain ⟨wₓ, hw2ₓ⟩ : ∃ wₓ, wₓ = upS (rN tₓ d3ₓ zₓ) 6 (10 * aₓ + 2) zₓ := ⟨_, rfl⟩
          rw [← hw2ₓ] at eₓ
          have kw : KR σ wₓ := by rw [hw2ₓ]; exact (kt.tr KR_rN).tr (KR.up (by omega))
          have w14ₓ : wₓ 0 14 = d3ₓ := by rw [hw2ₓ, upS_q (by decide), rN_14]
          have wn : ∀ qₓ kₓ : Nat, ¬ (qₓ = 0 ∧ (kₓ = 14 ∨ kₓ = 16)) → ¬ (qₓ = 6 ∧ 10 * aₓ ≤ kₓ ∧ kₓ < 10 * aₓ + 3) → wₓ qₓ kₓ = σ qₓ kₓ := fun qₓ kₓ a1ₓ a2ₓ => by rw [hw2ₓ, upS_n (by omega), rN_n (by omega), tn qₓ kₓ (by omega) (by omega)]
          have wx : wₓ 6 (10 * aₓ) = xₓ := by rw [hw2ₓ, upS_k (by omega), rN_n (by omega), tx]
          have wy : wₓ 6 (10 * aₓ + 1) = yₓ := by rw [hw2ₓ, upS_k (by omega), rN_n (by omega), ty]
          have wz : wₓ 6 (10 * aₓ + 2) = zₓ := by rw [hw2ₓ, upS_s]
          obtain ⟨r5ₓ, s5ₓ, e5ₓ, eₓ⟩ := mCall_el eₓ
          unfold m_X12_areSignsHere at e5ₓ
          obtain ⟨r6ₓ, s6ₓ, e6ₓ, e5ₓ⟩ := mCall_el e5ₓ
          obtain ⟨-, rfl⟩ := r_seem (hₓ.kr kw) (by rw [w14ₓ]; exact i4ₓ) e6ₓ
          rw [w14ₓ] at e5ₓ
          have kv : KR σ (upS wₓ 0 14 (sk F N d3ₓ)) := kw.tr (KR.up (by omega))
          have m0ₓ : 0 ≤ sk F N d3ₓ := Int.le_trans i4ₓ sk_ge
          obtain ⟨j1ₓ, j2ₓ, j3ₓ⟩ := r_signs0 (aₓ := aₓ) nₓ 0 _ (uD (uD (uD D (10 + 10 * aₓ) xₓ) (11 + 10 * aₓ) yₓ) (12 + 10 * aₓ) zₓ) (hₓ.kr kv) (by decide) (by rw [upS_s]; exact m0ₓ) (by rw [upS_s]; exact sk_ub i5ₓ) ((upS_k (by decide)).trans ((wn 0 15 (by omega) (by omega)).trans hfₓ)) (fun jₓ hjₓ => absurd hjₓ (Nat.not_lt_zero _)) e5ₓ
          rw [upS_s] at j3ₓ
          rcases j3ₓ with ⟨rfl, v2ₓ, v3ₓ⟩ | ⟨rfl, v2ₓ, v3ₓ, v4ₓ, D', v5ₓ, v6ₓ, v7ₓ⟩
          · rw [mIf_neg (fun zₓ => zₓ rfl)] at eₓ
            obtain ⟨rfl, rfl⟩ := some_el eₓ
            exact ⟨kv.tr j1ₓ, Or.inl ⟨rfl, v2ₓ, v3ₓ _⟩⟩
          · have vn : ∀ qₓ kₓ : Nat, ¬ (qₓ = 0 ∧ (kₓ = 14 ∨ kₓ = 15 ∨ kₓ = 16)) → ¬ (qₓ = 6 ∧ 10 * aₓ ≤ kₓ ∧ kₓ < 10 * aₓ + 10) → s5ₓ qₓ kₓ = σ qₓ kₓ := fun qₓ kₓ a1ₓ a2ₓ => by rw [j2ₓ qₓ kₓ (by omega) (by omega), upS_n (by omega), wn qₓ kₓ (by omega) (by omega)]
            rw [mIf_pos (by decide), mRd_e, vn 0 8 (by omega) (by omega), t8ₓ, mLet_e, mWr_e] at eₓ
            obtain ⟨rfl, rfl⟩ := some_el eₓ
            have esₓ : ∀ qₓ kₓ : Nat, ¬ (qₓ = 0 ∧ (kₓ = 8 ∨ kₓ = 14 ∨ kₓ = 15 ∨ kₓ = 16)) → ¬ (qₓ = 6 ∧ 10 * aₓ ≤ kₓ ∧ kₓ < 10 * aₓ + 10) → upS s5ₓ 0 8 (D 1 + 1) qₓ kₓ = σ qₓ kₓ := fun qₓ kₓ a1ₓ a2ₓ => by rw [upS_n (by omega), vn qₓ kₓ (by omega) (by omega)]
            have e14ₓ : upS s5ₓ 0 8 (D 1 + 1) 0 14 = s5ₓ 0 14 := upS_k (by decide)
            have eD : ∀ kₓ : Nat, kₓ ≠ 1 → (kₓ < 10 + 10 * aₓ ∨ 20 + 10 * aₓ ≤ kₓ) → uD D' 1 (D 1 + 1) kₓ = D kₓ := fun kₓ k1ₓ k2ₓ => by rw [uD_n k1ₓ, v7ₓ kₓ (by omega), uD_n (by omega), uD_n (by omega), uD_n (by omega)]
            refine ⟨(kv.tr j1ₓ).tr (KR.up (by omega)), Or.inr ⟨rfl, (upS_k (by decide)).trans v2ₓ, by rw [e14ₓ]; exact v3ₓ, by rw [e14ₓ]; exact v4ₓ, _, by rw [e14ₓ]; exact v5ₓ _, ⟨⟨?_, ?_, ?_, ?_⟩, fun kₓ hkₓ => ?_, fun kₓ hkₓ => ?_, fun kₓ hkₓ => ?_⟩, ?_, by rw [eD _ (by omega) (by omega)]; exact h2ₓ⟩⟩
            · rw [esₓ _ _ (by omega) (by omega), t7ₓ, eD _ (by omega) (by omega)]
            · rw [upS_s, uD_s]
            · rw [esₓ _ _ (by omega) (by omega), t9ₓ, eD _ (by omega) (by omega)]
            · rw [esₓ _ _ (by omega) (by omega), t10ₓ, eD _ (by omega) (by omega)]
            · rw [uD_s] at hkₓ
              by_cases ck : kₓ < 10 * aₓ
              · rw [esₓ _ _ (by omega) (by omega), eD _ (by omega) (by omega)]; exact tS kₓ (by omega)
              · rw [upS_q (by decide), uD_n (by omega)]
                by_cases cj : 10 * aₓ + 3 ≤ kₓ
                · have := v6ₓ (kₓ - (10 * aₓ + 3)) (by omega)
                  rw [show 10 * aₓ + 3 + (kₓ - (10 * aₓ + 3)) = kₓ by omega, show 13 + 10 * aₓ + (kₓ - (10 * aₓ + 3)) = 10 + kₓ by omega] at this
                  exact this
                · rw [j2ₓ _ _ (by omega) (by omega), upS_q (by decide), v7ₓ _ (by omega)]
                  by_cases cz : kₓ = 10 * aₓ
                  · subst cz
                    rw [wx, uD_n (by omega), uD_n (by omega), uD_s]
                  · by_cases cy : kₓ = 10 * aₓ + 1
                    · subst cy
                      rw [wy, uD_n (by omega), show 10 + (10 * aₓ + 1) = 11 + 10 * aₓ by omega, uD_s]
                    · obtain rfl : kₓ = 10 * aₓ + 2 := by omega
                      rw [wz, show 10 + (10 * aₓ + 2) = 12 + 10 * aₓ by omega, uD_s]
            · rw [eD 2 (by omega) (by omega)] at hkₓ
              rw [esₓ _ _ (by omega) (by omega), eD _ (by omega) (by omega)]; exact tZ kₓ hkₓ
            · rw [eD 3 (by omega) (by omega)] at hkₓ
              rw [esₓ _ _ (by omega) (by omega), eD _ (by omega) (by omega)]; exact tL kₓ hkₓ
            · refine ⟨by rw [eD 0 (by omega) (by omega)]; exact o0ₓ, by rw [uD_s]; omega, by rw [eD 2 (by omega) (by omega)]; exact o2ₓ, by rw [eD 3 (by omega) (by omega)]; exact o3ₓ, fun kₓ hkₓ => ?_⟩
              rw [eD 3 (by omega) (by omega)] at hkₓ
              rw [eD (156 + 3 * kₓ) (by omega) (by omega), uD_s]
              have := o4ₓ kₓ hkₓ
              omega
end
