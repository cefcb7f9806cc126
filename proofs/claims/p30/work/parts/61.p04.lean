section
variable {F : Int → Int} {N : Int} {ℓ ℓ' ℓ'' : Nat} {S S' S'' : List Bool} {σ σ' σ'' : SS} {pₓ rₓ aₓ bₓ wₓ xₓ : Int} {nₓ : Nat}
theorem r_cmp152 (hₓσ : OKM F N σ) (eₓ : b_X12_compare_152 nₓ 0 wₓ σ = some (rₓ, σ')) : KS σ σ' ∧ RM F N 4 7 S S rₓ σ σ' := by
  unfold b_X12_compare_152 at eₓ
  obtain ⟨r1ₓ, s1ₓ, e1ₓ, eₓ⟩ := mCall_el eₓ
  obtain ⟨k1ₓ, h1ₓ, o1ₓ⟩ := r_sum (Or.inr ⟨rfl, rfl⟩) hₓσ e1ₓ (S := S)
  rcases h1ₓ with ⟨rfl, h1ₓ, st1ₓ⟩ | ⟨rfl, h1ₓ, st1ₓ⟩
  · rw [mIf_pos (show ¬ (1 : Int) = 0 by decide), mLet_e] at eₓ
    obtain ⟨r2ₓ, s2ₓ, e2ₓ, eₓ⟩ := mCall_el eₓ
    obtain ⟨rfl, rfl⟩ := some_el eₓ
    have hppₓ := r_puts e2ₓ
    refine ⟨k1ₓ.tr hppₓ.ks, Or.inl ⟨rfl, h1ₓ.p23 hppₓ, ?_⟩⟩
    rw [cfgM_p23 hppₓ]
    refine st1ₓ.tr (St_one ?_)
    unfold cfgM
    show (if opAt F N (sk F N (s1ₓ 0 14)) = true then _ else _) = _
    rw [o1ₓ rfl, if_neg (by decide)]
  · rw [mIf_neg (fun qₓ => qₓ rfl)] at eₓ
    obtain ⟨rfl, rfl⟩ := some_el eₓ
    exact ⟨k1ₓ, Or.inr ⟨rfl, h1ₓ, st1ₓ⟩⟩
theorem r_cmp105 {qₓ : Int} (hₓσ : OKM F N σ) {c0ₓ : Cfg} {τ : SS} (hkₓ : KS τ σ) (hstₓ : pstep F N c0ₓ = if 60 ≤ σ 0 18 then halt (1 + 8 * qₓ + 3) else (4, sk F N (σ 0 14), σ 0 18 + 1, σ 0 20, S)) (hqₓ : 0 ≤ qₓ) (eₓ : b_X12_compare_105 nₓ 0 aₓ qₓ bₓ σ = some (rₓ, σ')) : KS τ σ' ∧ ((rₓ = 1 ∧ OKM F N σ' ∧ St F N c0ₓ (cfgM F N 7 S σ')) ∨ (rₓ = 0 ∧ σ' 0 15 ≠ 0 ∧ St F N c0ₓ (halt (σ' 0 15)))) := by
  unfold b_X12_compare_105 at eₓ
  rw [r_makes hₓσ.2.2.1] at eₓ
  have hk0ₓ := hₓσ.2.2.2.1
  have hk1ₓ := hₓσ.2.2.2.2
  by_cases c60ₓ : σ 0 18 = 60
  · rw [if_pos c60ₓ, mCall_s, mIf_neg (fun qₓ => qₓ rfl)] at eₓ
    obtain ⟨rfl, rfl⟩ := some_el eₓ
    refine ⟨hkₓ.tr (KS.up (Or.inr (Or.inl rfl))), Or.inr ⟨rfl, by rw [upS_s]; omega, ?_⟩⟩
    rw [upS_s]
    exact St_one (by rw [hstₓ, if_pos (by omega)])
  · rw [if_neg c60ₓ, mCall_s, mIf_pos (show ¬ (1 : Int) = 0 by decide)] at eₓ
    have h2ₓ : OKM F N (upS σ 0 18 (σ 0 18 + 1)) := by
      obtain ⟨a1ₓ, a2ₓ, a3ₓ, a4ₓ, a5ₓ⟩ := hₓσ
      refine ⟨a1ₓ.up (by decide) (by omega), by rw [upS_n (by omega)]; exact a2ₓ, by rw [upS_n (by omega)]; exact a3ₓ, by rw [upS_s]; omega, by rw [upS_s]; omega⟩
    have hs2ₓ : St F N c0ₓ (cfgM F N 4 S (upS σ 0 18 (σ 0 18 + 1))) := by
      refine St_one ?_
      rw [hstₓ, if_neg (by omega)]
      unfold cfgM
      rw [upS_n (by omega), upS_s, upS_n (by omega)]
    have finₓ : ∀ wₓ : Int, b_X12_compare_152 nₓ 0 wₓ (upS σ 0 18 (σ 0 18 + 1)) = some (rₓ, σ') → KS τ σ' ∧ ((rₓ = 1 ∧ OKM F N σ' ∧ St F N c0ₓ (cfgM F N 7 S σ')) ∨ (rₓ = 0 ∧ σ' 0 15 ≠ 0 ∧ St F N c0ₓ (halt (σ' 0 15)))) := by
      intro wₓ eₓ
      obtain ⟨k3ₓ, h3ₓ⟩ := r_cmp152 h2ₓ eₓ (S := S)
      refine ⟨(hkₓ.tr (KS.up (Or.inr (Or.inr (Or.inr rfl))))).tr k3ₓ, ?_⟩
      rcases h3ₓ with ⟨g1ₓ, g2ₓ, g3ₓ⟩ | ⟨g1ₓ, g2ₓ, g3ₓ⟩
      · exact Or.inl ⟨g1ₓ, g2ₓ, hs2ₓ.tr g3ₓ⟩
      · exact Or.inr ⟨g1ₓ, g2ₓ, hs2ₓ.tr g3ₓ⟩
    by_cases c1ₓ : aₓ = 60
    · rw [mIf_neg (fun qₓ => qₓ c1ₓ)] at eₓ
      by_cases c3ₓ : bₓ = 0
      · rw [mIf_pos c3ₓ] at eₓ; exact finₓ _ eₓ
      · rw [mIf_neg c3ₓ] at eₓ; exact finₓ _ eₓ
    · rw [mIf_pos c1ₓ] at eₓ
      by_cases c2ₓ : aₓ = 61
      · rw [mIf_neg (fun qₓ => qₓ c2ₓ)] at eₓ; exact finₓ _ eₓ
      · rw [mIf_pos c2ₓ] at eₓ
        by_cases c3ₓ : bₓ = 0
        · rw [mIf_pos c3ₓ] at eₓ; exact finₓ _ eₓ
        · rw [mIf_neg c3ₓ] at eₓ; exact finₓ _ eₓ
theorem r_cmp44 (hₓ : OKM F N σ) (hoₓ : opAt F N (sk F N (σ 0 14)) = false) (hNₓ : sk F N (σ 0 14) < N) (haₓ : aₓ = F (sk F N (σ 0 14))) (hcₓ : aₓ = 60 ∨ aₓ = 61 ∨ aₓ = 62) (eₓ : b_X12_compare_44 nₓ 0 aₓ (sk F N (σ 0 14)) (upS σ 0 14 (sk F N (σ 0 14))) = some (rₓ, σ')) : KS σ σ' ∧ RM F N 5 7 S S rₓ σ σ' := by
  have hq0ₓ : 0 ≤ sk F N (σ 0 14) := Int.le_trans hₓ.2.1.1 sk_ge
  have hstₓ : pstep F N (cfgM F N 5 S σ) = (if 60 ≤ σ 0 18 then halt (1 + 8 * sk F N (σ 0 14) + 3) else (4, sk F N (sk F N (σ 0 14) + cmpLen F N (sk F N (σ 0 14))), σ 0 18 + 1, σ 0 20, S)) := by
    unfold cfgM
    show (if opAt F N (sk F N (σ 0 14)) = true then _ else if cmpAt F N (sk F N (σ 0 14)) = true then _ else _) = _
    rw [hoₓ, if_neg (by decide), if_pos (cmpAt_i.mpr ⟨hNₓ, by omega⟩)]
  have hlenₓ : cmpLen F N (sk F N (σ 0 14)) = if aₓ = 61 then 1 else if byteIs F N (sk F N (σ 0 14) + 1) 61 = true then 2 else 1 := by
    unfold cmpLen
    by_cases cₓ : aₓ = 61
    · rw [if_pos cₓ, if_neg]; intro qₓ; rw [byteIs_t hNₓ (by omega)] at qₓ; cases qₓ.1
    · rw [if_neg cₓ]
      by_cases c2ₓ : byteIs F N (sk F N (σ 0 14) + 1) 61 = true
      · rw [if_pos c2ₓ, if_pos ⟨byteIs_f (fun qₓ => cₓ (by omega)), c2ₓ⟩]
      · rw [if_neg c2ₓ, if_neg (fun qₓ => c2ₓ qₓ.2)]
  have finₓ : ∀ (q2ₓ bₓ : Int), q2ₓ = sk F N (σ 0 14) + cmpLen F N (sk F N (σ 0 14)) → 0 ≤ q2ₓ → q2ₓ ≤ N → b_X12_compare_105 nₓ 0 aₓ (sk F N (σ 0 14)) bₓ (upS σ 0 14 q2ₓ) = some (rₓ, σ') → KS σ σ' ∧ RM F N 5 7 S S rₓ σ σ' := by
    intro q2ₓ bₓ h1ₓ h2ₓ h3ₓ eₓ
    refine r_cmp105 (hₓ.mv h2ₓ h3ₓ) (c0ₓ := cfgM F N 5 S σ) (KS.up (Or.inl rfl)) ?_ hq0ₓ eₓ
    rw [hstₓ, upS_s, upS_n (by omega), upS_n (by omega), h1ₓ]
  have n90ₓ : ∀ (q2ₓ : Int), q2ₓ = sk F N (σ 0 14) + cmpLen F N (sk F N (σ 0 14)) → 0 ≤ q2ₓ → q2ₓ ≤ N → b_X12_compare_90 nₓ 0 aₓ (sk F N (σ 0 14)) 0 (upS σ 0 14 q2ₓ) = some (rₓ, σ') → KS σ σ' ∧ RM F N 5 7 S S rₓ σ σ' := by
    intro q2ₓ h1ₓ h2ₓ h3ₓ eₓ
    unfold b_X12_compare_90 at eₓ
    rw [mIf_pos rfl] at eₓ
    exact finₓ q2ₓ 0 h1ₓ h2ₓ h3ₓ eₓ
  unfold b_X12_compare_44 at eₓ
  rw [mRd_e, mLet_e, mWr_e, upS_s, upS_upS] at eₓ
  by_cases cₓ : aₓ = 61
  · rw [mIf_pos cₓ] at eₓ
    exact n90ₓ _ (by rw [hlenₓ, if_pos cₓ]) (by omega) (by omega) eₓ
  · have hv := hₓ.1.up (qₓ := 0) (kₓ := 14) (vₓ := sk F N (σ 0 14) + 1) (by decide) (by omega)
    rw [mIf_neg cₓ, mRd_e, mRd_e, upS_s, hv.1] at eₓ
    by_cases c2ₓ : sk F N (σ 0 14) + 1 < N
    · rw [mIf_neg (by omega), mRd_e, mRd_e, upS_s] at eₓ
      obtain ⟨v1ₓ, v2ₓ, v3ₓ⟩ := hv.2 (sk F N (σ 0 14) + 1) (by omega) c2ₓ
      by_cases c3ₓ : F (sk F N (σ 0 14) + 1) = 61
      · rw [mIf_neg (fun qₓ => qₓ (by omega))] at eₓ
        unfold b_X12_compare_90 at eₓ
        rw [mIf_neg (show ¬ (1 : Int) = 0 by decide), mRd_e, mLet_e, mWr_e, upS_s, upS_upS] at eₓ
        exact finₓ _ 1 (by rw [hlenₓ, if_neg cₓ, if_pos (byteIs_t c2ₓ c3ₓ)]; omega) (by omega) (by omega) eₓ
      · rw [mIf_pos (by omega)] at eₓ
        exact n90ₓ _ (by rw [hlenₓ, if_neg cₓ, if_neg (fun qₓ => c3ₓ (of_decide_eq_true qₓ).2)]) (by omega) (by omega) eₓ
    · rw [mIf_pos (by omega)] at eₓ
      exact n90ₓ _ (by rw [hlenₓ, if_neg cₓ, if_neg (fun qₓ => c2ₓ (of_decide_eq_true qₓ).1)]) (by omega) (by omega) eₓ
theorem r_compare (hₓ : OKM F N σ) (eₓ : m_X12_compare nₓ 0 σ = some (rₓ, σ')) : KS σ σ' ∧ RM F N 3 7 S S rₓ σ σ' := by
  unfold m_X12_compare at eₓ
  obtain ⟨r1ₓ, s1ₓ, e1ₓ, eₓ⟩ := mCall_el eₓ
  obtain ⟨k1ₓ, h1ₓ, o1ₓ⟩ := r_sum (Or.inl ⟨rfl, rfl⟩) hₓ e1ₓ (S := S)
  rcases h1ₓ with ⟨rfl, h1ₓ, st1ₓ⟩ | ⟨rfl, h1ₓ, st1ₓ⟩
  · rw [mIf_pos (show ¬ (1 : Int) = 0 by decide)] at eₓ
    have hoₓ := o1ₓ rfl
    have hq0ₓ : 0 ≤ sk F N (s1ₓ 0 14) := Int.le_trans h1ₓ.2.1.1 sk_ge
    obtain ⟨r2ₓ, s2ₓ, e2ₓ, eₓ⟩ := mCall_el eₓ
    obtain ⟨rfl, rfl⟩ := r_seem h1ₓ.1 h1ₓ.2.1.1 e2ₓ
    rw [mRd_e, upS_s] at eₓ
    have yesₓ : (bt F N (sk F N (s1ₓ 0 14)) = 60 ∨ bt F N (sk F N (s1ₓ 0 14)) = 61 ∨ bt F N (sk F N (s1ₓ 0 14)) = 62) → b_X12_compare_44 nₓ 0 (bt F N (sk F N (s1ₓ 0 14))) (sk F N (s1ₓ 0 14)) (upS s1ₓ 0 14 (sk F N (s1ₓ 0 14))) = some (rₓ, σ') → KS σ σ' ∧ RM F N 3 7 S S rₓ σ σ' := by
      intro hcₓ eₓ
      have h2ₓ : sk F N (s1ₓ 0 14) < N := by
        rcases hcₓ with hcₓ | hcₓ | hcₓ
        · exact (bt_lt (by decide) hcₓ).1
        · exact (bt_lt (by decide) hcₓ).1
        · exact (bt_lt (by decide) hcₓ).1
      obtain ⟨k3ₓ, h3ₓ⟩ := r_cmp44 h1ₓ hoₓ h2ₓ (if_pos h2ₓ) hcₓ eₓ (S := S)
      exact ⟨k1ₓ.tr k3ₓ, RM.tr ⟨h1ₓ, st1ₓ⟩ h3ₓ⟩
    by_cases c1ₓ : bt F N (sk F N (s1ₓ 0 14)) = 60
    · rw [mIf_pos c1ₓ] at eₓ; exact yesₓ (Or.inl c1ₓ) eₓ
    rw [mIf_neg c1ₓ] at eₓ
    by_cases c2ₓ : bt F N (sk F N (s1ₓ 0 14)) = 61
    · rw [mIf_pos c2ₓ] at eₓ; exact yesₓ (Or.inr (Or.inl c2ₓ)) eₓ
    rw [mIf_neg c2ₓ] at eₓ
    by_cases c3ₓ : bt F N (sk F N (s1ₓ 0 14)) = 62
    · rw [mIf_pos c3ₓ] at eₓ; exact yesₓ (Or.inr (Or.inr c3ₓ)) eₓ
    rw [mIf_neg c3ₓ, r_fails ((upS_n (by omega)).trans h1ₓ.2.2.1), mCall_s, Int.add_zero] at eₓ
    obtain ⟨rfl, rfl⟩ := some_el eₓ
    refine ⟨k1ₓ.tr ((KS.up (Or.inl rfl)).tr (KS.up (Or.inr (Or.inl rfl)))), RM.tr ⟨h1ₓ, st1ₓ⟩ (RM.bad (φ := 1 + 8 * sk F N (s1ₓ 0 14)) (by omega) upS_s ?_)⟩
    unfold cfgM
    show (if opAt F N (sk F N (s1ₓ 0 14)) = true then _ else if cmpAt F N (sk F N (s1ₓ 0 14)) = true then _ else _) = _
    rw [hoₓ, if_neg (by decide), if_neg (fun qₓ => by
      have h3ₓ := cmpAt_i.mp qₓ
      have h4ₓ : bt F N (sk F N (s1ₓ 0 14)) = F (sk F N (s1ₓ 0 14)) := if_pos h3ₓ.1
      rw [h4ₓ] at c1ₓ c2ₓ c3ₓ; omega)]
  · rw [mIf_neg (fun qₓ => qₓ rfl)] at eₓ
    obtain ⟨rfl, rfl⟩ := some_el eₓ
    exact ⟨k1ₓ, Or.inr ⟨rfl, h1ₓ, st1ₓ⟩⟩
/-- aₓ bracket or aₓ not that opens -/
theorem r_opens (hfₓ : σ 0 15 = 0) (hsₓ : OKS σ) (haₓ : aₓ = 11 ∨ aₓ = 91) (eₓ : m_X12_opens nₓ 0 aₓ σ = some (rₓ, σ')) : (10 ≤ (SM σ).length ∧ rₓ = 0 ∧ σ' = upS σ 0 15 (1 + 8 * σ 0 14 + 2)) ∨ ((SM σ).length < 10 ∧ rₓ = 1 ∧ OKS σ' ∧ SM σ' = (if aₓ = 11 then false else true) :: SM σ ∧ (∀ qₓ kₓ : Nat, qₓ ≠ 9 → ¬ (qₓ = 0 ∧ kₓ = 19) → ¬ (qₓ = 0 ∧ kₓ = 22) → σ' qₓ kₓ = σ qₓ kₓ)) := by
  obtain ⟨a1ₓ, a2ₓ, a3ₓ, a4ₓ, a5ₓ⟩ := id hsₓ
  unfold m_X12_opens at eₓ
  rw [mRd_e] at eₓ
  by_cases cₓ : σ 0 19 = 10
  · rw [mIf_neg (fun qₓ => qₓ cₓ), mRd_e, r_fails hfₓ, mCall_s] at eₓ
    obtain ⟨rfl, rfl⟩ := some_el eₓ
    exact Or.inl ⟨by omega, rfl, rfl⟩
  · rw [mIf_pos cₓ, mRd_e, mLet_e, mWr_e, mRd_e, upS_n (show ¬ ((0 : Nat) = 0 ∧ (22 : Nat) = 19) by decide), mWr_e, mRd_e, upS_q (show (0 : Nat) ≠ 9 by decide), upS_n (show ¬ ((0 : Nat) = 0 ∧ (22 : Nat) = 19) by decide), mLet_e, mWr_e] at eₓ
    obtain ⟨rfl, rfl⟩ := some_el eₓ
    have b9ₓ : ∀ kₓ : Nat, upS (upS (upS σ 0 19 (σ 0 19 + 1)) 9 (σ 0 22).toNat aₓ) 0 22 (σ 0 22 + 1) 9 kₓ = if kₓ = (σ 0 22).toNat then aₓ else σ 9 kₓ := by
      intro kₓ
      rw [upS_q (by decide)]
      by_cases ck : kₓ = (σ 0 22).toNat
      · rw [if_pos ck, ck]; exact upS_s
      · rw [if_neg ck, upS_k ck, upS_q (by decide)]
    have b22ₓ : upS (upS (upS σ 0 19 (σ 0 19 + 1)) 9 (σ 0 22).toNat aₓ) 0 22 (σ 0 22 + 1) 0 22 = σ 0 22 + 1 := upS_s
    have b19ₓ : upS (upS (upS σ 0 19 (σ 0 19 + 1)) 9 (σ 0 22).toNat aₓ) 0 22 (σ 0 22 + 1) 0 19 = σ 0 19 + 1 := by rw [upS_n (by omega), upS_q (by decide)]; exact upS_s
    have eS : SM (upS (upS (upS σ 0 19 (σ 0 19 + 1)) 9 (σ 0 22).toNat aₓ) 0 22 (σ 0 22 + 1)) = (if aₓ = 11 then false else true) :: SM σ := by
      rw [SM_top (by rw [b22ₓ]; omega), b22ₓ, show (σ 0 22 + 1 - 1).toNat = (σ 0 22).toNat by omega, b9ₓ, if_pos rfl]
      have ec : opS (upS (upS (upS σ 0 19 (σ 0 19 + 1)) 9 (σ 0 22).toNat aₓ) 0 22 (σ 0 22 + 1)) (σ 0 22).toNat = SM σ := opS_congr _ (fun jₓ hjₓ => by rw [b9ₓ, if_neg (by omega)])
      rw [ec]
      rcases haₓ with rfl | rfl
      · rw [if_pos rfl, if_pos rfl]
      · rw [if_neg (by decide), if_pos rfl, if_neg (by decide)]
    refine Or.inr ⟨by omega, rfl, ?_, eS, fun qₓ kₓ h1ₓ h2ₓ h3ₓ => ?_⟩
    · unfold OKS
      rw [b22ₓ, b19ₓ, eS, List.length_cons]
      refine ⟨by omega, by omega, by omega, fun kₓ hkₓ => ?_, fun kₓ hkₓ => ?_⟩
      · rw [b9ₓ]
        by_cases ck : kₓ = (σ 0 22).toNat
        · rw [if_pos ck]; omega
        · rw [if_neg ck]; exact a4ₓ kₓ (by omega)
      · rw [b9ₓ, b9ₓ]
        by_cases ck : kₓ + 1 = (σ 0 22).toNat
        · rw [if_pos ck]; intro qₓ; omega
        · rw [if_neg ck, if_neg (by omega)]; exact a5ₓ kₓ (by omega)
    · rw [upS_n h3ₓ, upS_q h1ₓ, upS_n h2ₓ]
/-- cells that aₓ fact leaves -/
theorem r_fact0 : ∀ (nₓ : Nat) (vₓ : Int) (σ : SS), OKM F N σ → OKS σ → (vₓ = 0 → isWd F N (sk F N (σ 0 14)) wNot = false ∧ byteIs F N (sk F N (σ 0 14)) 91 = false) → j_X12_fact 0 nₓ 2 [vₓ] σ = some (rₓ, σ') → KU σ σ' ∧ ((rₓ = 1 ∧ OKM F N σ' ∧ OKS σ' ∧ St F N (cfgM F N 2 (SM σ) σ) (cfgM F N 7 (SM σ') σ')) ∨ (rₓ = 0 ∧ σ' 0 15 ≠ 0 ∧ St F N (cfgM F N 2 (SM σ) σ) (halt (σ' 0 15)))) := by
  intro nₓ
  induction nₓ with
  | zero => intro vₓ σ hₓ hsₓ hv eₓ; exact none_el eₓ
  | succ nₓ ihₓ =>
    intro vₓ σ hₓ hsₓ hv eₓ
    rw [e_X12_fact_2] at eₓ
    unfold b_X12_fact_2 at eₓ
    have hq0ₓ : 0 ≤ sk F N (σ 0 14) := Int.le_trans hₓ.2.1.1 sk_ge
    have hqNₓ : sk F N (σ 0 14) ≤ N := sk_ub hₓ.2.1.2
    have s2a : pstep F N (cfgM F N 2 (SM σ) σ) = if isWd F N (sk F N (σ 0 14)) wNot = true then (if 10 ≤ (SM σ).length then halt (1 + 8 * sk F N (σ 0 14) + 2) else (2, sk F N (wd F N (sk F N (σ 0 14))), σ 0 18, σ 0 20, false :: SM σ)) else if byteIs F N (sk F N (σ 0 14)) 91 = true then (if 10 ≤ (SM σ).length then halt (1 + 8 * sk F N (σ 0 14) + 2) else (2, sk F N (sk F N (σ 0 14) + 1), σ 0 18, σ 0 20, true :: SM σ)) else (3, sk F N (σ 0 14), σ 0 18, σ 0 20, SM σ) := rfl
    by_cases c0ₓ : vₓ = 0
    · rw [mIf_pos c0ₓ] at eₓ
      obtain ⟨v1ₓ, v2ₓ⟩ := hv c0ₓ
      obtain ⟨r1ₓ, s1ₓ, e1ₓ, eₓ⟩ := mCall_el eₓ
      obtain ⟨rfl, rfl⟩ := some_el eₓ
      obtain ⟨k1ₓ, h1ₓ⟩ := r_compare hₓ e1ₓ (S := SM σ)
      have g1ₓ : St F N (cfgM F N 2 (SM σ) σ) (cfgM F N 3 (SM σ) σ) := St_one (by rw [s2a, v1ₓ, if_neg (by decide), v2ₓ, if_neg (by decide)]; rfl)
      obtain ⟨x22ₓ, x9ₓ, x19ₓ⟩ := k1ₓ.s
      refine ⟨k1ₓ.ku, ?_⟩
      rcases h1ₓ with ⟨y1ₓ, y2ₓ, y3ₓ⟩ | ⟨y1ₓ, y2ₓ, y3ₓ⟩
      · exact Or.inl ⟨y1ₓ, y2ₓ, hsₓ.eq x22ₓ x9ₓ x19ₓ, by rw [SM_eq x22ₓ x9ₓ]; exact g1ₓ.tr y3ₓ⟩
      · exact Or.inr ⟨y1ₓ, y2ₓ, g1ₓ.tr y3ₓ⟩
    · rw [mIf_neg c0ₓ] at eₓ
      obtain ⟨r1ₓ, s1ₓ, e1ₓ, eₓ⟩ := mCall_el eₓ
      obtain ⟨rfl, rfl⟩ := r_seem hₓ.1 hₓ.2.1.1 e1ₓ
      obtain ⟨h1ₓ, hc1ₓ⟩ := OKM.stay (ℓ := 2) (S := SM σ) hₓ
      have k1ₓ : KS σ (upS σ 0 14 (sk F N (σ 0 14))) := KS.up (Or.inl rfl)
      obtain ⟨x22ₓ, x9ₓ, x19ₓ⟩ := k1ₓ.s
      have hs1ₓ := hsₓ.eq x22ₓ x9ₓ x19ₓ
      have eS1 := SM_eq x22ₓ x9ₓ
      obtain ⟨r2ₓ, s2ₓ, e2ₓ, eₓ⟩ := mCall_el eₓ
      have hwₓ := r_isWord (W := wNot) (by unfold WD; decide) h1ₓ.1 h1ₓ.2.1.1 e2ₓ
      rw [upS_s, sk_idem, upS_upS] at hwₓ
      obtain ⟨hwₓ, rfl⟩ := hwₓ
      rcases hwₓ with ⟨hwₓ, rfl⟩ | ⟨hwₓ, rfl⟩
      · -- not
        rw [mIf_neg (show ¬ (1 : Int) = 0 by decide)] at eₓ
        obtain ⟨r3ₓ, s3ₓ, e3ₓ, eₓ⟩ := mCall_el eₓ
        rcases r_opens h1ₓ.2.2.1 hs1ₓ (Or.inl rfl) e3ₓ with ⟨g1ₓ, rfl, rfl⟩ | ⟨g1ₓ, rfl, g2ₓ, g3ₓ, g4ₓ⟩
        · rw [mIf_neg (fun qₓ => qₓ rfl)] at eₓ
          obtain ⟨rfl, rfl⟩ := some_el eₓ
          rw [eS1] at g1ₓ
          rw [upS_s]
          refine ⟨k1ₓ.ku.tr (KS.up (Or.inr (Or.inl rfl))).ku, Or.inr ⟨rfl, by rw [upS_s]; omega, ?_⟩⟩
          rw [upS_s]
          exact St_one (by rw [s2a, if_pos hwₓ, if_pos (by omega)])
        · rw [mIf_pos (show ¬ (1 : Int) = 0 by decide)] at eₓ
          obtain ⟨r4ₓ, s4ₓ, e4ₓ, eₓ⟩ := mCall_el eₓ
          rw [eS1, if_pos rfl] at g3ₓ
          have m3ₓ : MV F N s3ₓ := ⟨by rw [g4ₓ 0 1 (by decide) (by decide) (by decide)]; exact h1ₓ.1.1, fun jₓ j0ₓ j1ₓ => by rw [g4ₓ 1 jₓ.toNat (by decide) (by omega) (by omega)]; exact h1ₓ.1.2 jₓ j0ₓ j1ₓ⟩
          have n3ₓ : s3ₓ 0 14 = sk F N (σ 0 14) := by rw [g4ₓ 0 14 (by decide) (by decide) (by decide)]; exact upS_s
          have hs4ₓ := r_passWordm m3ₓ (by rw [n3ₓ]; exact hq0ₓ) e4ₓ
          rw [n3ₓ] at hs4ₓ
          subst hs4ₓ
          have hw0ₓ : 0 ≤ wd F N (sk F N (σ 0 14)) := Int.le_trans hq0ₓ wd_ge
          have hwNₓ : wd F N (sk F N (σ 0 14)) ≤ N := wd_ub hqNₓ
          have z22ₓ : upS s3ₓ 0 14 (wd F N (sk F N (σ 0 14))) 0 22 = s3ₓ 0 22 := upS_n (by omega)
          have z9ₓ : ∀ kₓ : Nat, upS s3ₓ 0 14 (wd F N (sk F N (σ 0 14))) 9 kₓ = s3ₓ 9 kₓ := fun kₓ => upS_q (by decide)
          have z19ₓ : upS s3ₓ 0 14 (wd F N (sk F N (σ 0 14))) 0 19 = s3ₓ 0 19 := upS_n (by omega)
          have hokₓ : OKM F N (upS s3ₓ 0 14 (wd F N (sk F N (σ 0 14)))) := by
            refine ⟨m3ₓ.up (by decide) (by omega), by rw [upS_s]; exact ⟨hw0ₓ, hwNₓ⟩, ?_, ?_, ?_⟩
            · rw [upS_n (by omega), g4ₓ 0 15 (by decide) (by decide) (by decide)]; exact h1ₓ.2.2.1
            · rw [upS_n (by omega), g4ₓ 0 18 (by decide) (by decide) (by decide)]; exact h1ₓ.2.2.2.1
            · rw [upS_n (by omega), g4ₓ 0 18 (by decide) (by decide) (by decide)]; exact h1ₓ.2.2.2.2
          have ku : KU σ (upS s3ₓ 0 14 (wd F N (sk F N (σ 0 14)))) := fun qₓ kₓ cₓ => by rw [upS_n (by omega), g4ₓ qₓ kₓ (by omega) (by omega) (by omega)]; exact k1ₓ.ku qₓ kₓ cₓ
          obtain ⟨i1ₓ, i2ₓ⟩ := ihₓ 1 _ hokₓ (g2ₓ.eq z22ₓ z9ₓ z19ₓ) (fun qₓ => absurd qₓ (by decide)) eₓ
          have stₓ : St F N (cfgM F N 2 (SM σ) σ) (cfgM F N 2 (SM (upS s3ₓ 0 14 (wd F N (sk F N (σ 0 14))))) (upS s3ₓ 0 14 (wd F N (sk F N (σ 0 14))))) := by
            refine St_one ?_
            rw [SM_eq z22ₓ z9ₓ, g3ₓ, s2a, if_pos hwₓ, if_neg (by rw [eS1] at g1ₓ; omega)]
            unfold cfgM
            rw [upS_s, upS_n (by omega), upS_n (by omega), g4ₓ 0 18 (by decide) (by decide) (by decide), g4ₓ 0 20 (by decide) (by decide) (by decide), upS_n (by omega), upS_n (by omega)]
          refine ⟨ku.tr i1ₓ, ?_⟩
          rcases i2ₓ with ⟨y1ₓ, y2ₓ, y3ₓ, y4ₓ⟩ | ⟨y1ₓ, y2ₓ, y3ₓ⟩
          · exact Or.inl ⟨y1ₓ, y2ₓ, y3ₓ, stₓ.tr y4ₓ⟩
          · exact Or.inr ⟨y1ₓ, y2ₓ, stₓ.tr y3ₓ⟩
      · rw [mIf_pos rfl] at eₓ
        by_cases c91ₓ : bt F N (sk F N (σ 0 14)) = 91
        · -- aₓ bracket
          have hbₓ := bt_lt (by decide) c91ₓ
          rw [mIf_neg (fun qₓ => qₓ c91ₓ)] at eₓ
          obtain ⟨r3ₓ, s3ₓ, e3ₓ, eₓ⟩ := mCall_el eₓ
          rcases r_opens h1ₓ.2.2.1 hs1ₓ (Or.inr rfl) e3ₓ with ⟨g1ₓ, rfl, rfl⟩ | ⟨g1ₓ, rfl, g2ₓ, g3ₓ, g4ₓ⟩
          · rw [mIf_neg (fun qₓ => qₓ rfl)] at eₓ
            obtain ⟨rfl, rfl⟩ := some_el eₓ
            rw [eS1] at g1ₓ
            rw [upS_s]
            refine ⟨k1ₓ.ku.tr (KS.up (Or.inr (Or.inl rfl))).ku, Or.inr ⟨rfl, by rw [upS_s]; omega, ?_⟩⟩
            rw [upS_s]
            exact St_one (by rw [s2a, hwₓ, if_neg (by decide), if_pos (byteIs_t hbₓ.1 hbₓ.2), if_pos (by omega)])
          · rw [mIf_pos (show ¬ (1 : Int) = 0 by decide), mRd_e, mLet_e, mWr_e] at eₓ
            rw [eS1, if_neg (by decide)] at g3ₓ
            have m3ₓ : MV F N s3ₓ := ⟨by rw [g4ₓ 0 1 (by decide) (by decide) (by decide)]; exact h1ₓ.1.1, fun jₓ j0ₓ j1ₓ => by rw [g4ₓ 1 jₓ.toNat (by decide) (by omega) (by omega)]; exact h1ₓ.1.2 jₓ j0ₓ j1ₓ⟩
            have n3ₓ : s3ₓ 0 14 = sk F N (σ 0 14) := by rw [g4ₓ 0 14 (by decide) (by decide) (by decide)]; exact upS_s
            rw [n3ₓ] at eₓ
            have z22ₓ : upS s3ₓ 0 14 (sk F N (σ 0 14) + 1) 0 22 = s3ₓ 0 22 := upS_n (by omega)
            have z9ₓ : ∀ kₓ : Nat, upS s3ₓ 0 14 (sk F N (σ 0 14) + 1) 9 kₓ = s3ₓ 9 kₓ := fun kₓ => upS_q (by decide)
            have z19ₓ : upS s3ₓ 0 14 (sk F N (σ 0 14) + 1) 0 19 = s3ₓ 0 19 := upS_n (by omega)
            have hokₓ : OKM F N (upS s3ₓ 0 14 (sk F N (σ 0 14) + 1)) := by
              refine ⟨m3ₓ.up (by decide) (by omega), by rw [upS_s]; omega, ?_, ?_, ?_⟩
              · rw [upS_n (by omega), g4ₓ 0 15 (by decide) (by decide) (by decide)]; exact h1ₓ.2.2.1
              · rw [upS_n (by omega), g4ₓ 0 18 (by decide) (by decide) (by decide)]; exact h1ₓ.2.2.2.1
              · rw [upS_n (by omega), g4ₓ 0 18 (by decide) (by decide) (by decide)]; exact h1ₓ.2.2.2.2
            have ku : KU σ (upS s3ₓ 0 14 (sk F N (σ 0 14) + 1)) := fun qₓ kₓ cₓ => by rw [upS_n (by omega), g4ₓ qₓ kₓ (by omega) (by omega) (by omega)]; exact k1ₓ.ku qₓ kₓ cₓ
            obtain ⟨i1ₓ, i2ₓ⟩ := ihₓ 1 _ hokₓ (g2ₓ.eq z22ₓ z9ₓ z19ₓ) (fun qₓ => absurd qₓ (by decide)) eₓ
            have stₓ : St F N (cfgM F N 2 (SM σ) σ) (cfgM F N 2 (SM (upS s3ₓ 0 14 (sk F N (σ 0 14) + 1))) (upS s3ₓ 0 14 (sk F N (σ 0 14) + 1))) := by
              refine St_one ?_
              rw [SM_eq z22ₓ z9ₓ, g3ₓ, s2a, hwₓ, if_neg (by decide), if_pos (byteIs_t hbₓ.1 hbₓ.2), if_neg (by rw [eS1] at g1ₓ; omega)]
              unfold cfgM
              rw [upS_s, upS_n (by omega), upS_n (by omega), g4ₓ 0 18 (by decide) (by decide) (by decide), g4ₓ 0 20 (by decide) (by decide) (by decide), upS_n (by omega), upS_n (by omega)]
            refine ⟨ku.tr i1ₓ, ?_⟩
            rcases i2ₓ with ⟨y1ₓ, y2ₓ, y3ₓ, y4ₓ⟩ | ⟨y1ₓ, y2ₓ, y3ₓ⟩
            · exact Or.inl ⟨y1ₓ, y2ₓ, y3ₓ, stₓ.tr y4ₓ⟩
            · exact Or.inr ⟨y1ₓ, y2ₓ, stₓ.tr y3ₓ⟩
        · rw [mIf_pos c91ₓ] at eₓ
          obtain ⟨i1ₓ, i2ₓ⟩ := ihₓ 0 _ h1ₓ hs1ₓ (fun _ => by rw [upS_s, sk_idem]; exact ⟨hwₓ, byteIs_f (fun qₓ => c91ₓ ((bt_is (by decide)).mpr qₓ))⟩) eₓ
          rw [eS1, hc1ₓ] at i2ₓ
          exact ⟨k1ₓ.ku.tr i1ₓ, i2ₓ⟩
theorem r_fact (hₓ : OKM F N σ) (hsₓ : OKS σ) (eₓ : m_X12_fact nₓ 0 σ = some (rₓ, σ')) : KU σ σ' ∧ ((rₓ = 1 ∧ OKM F N σ' ∧ OKS σ' ∧ St F N (cfgM F N 2 (SM σ) σ) (cfgM F N 7 (SM σ') σ')) ∨ (rₓ = 0 ∧ σ' 0 15 ≠ 0 ∧ St F N (cfgM F N 2 (SM σ) σ) (halt (σ' 0 15)))) := r_fact0 nₓ 1 σ hₓ hsₓ (fun qₓ => absurd qₓ (by decide)) eₓ
end
