/-! the class's first hourₓ at aₓ corner -/
section
variable {σ σ' : SS} {rₓ xₓ L hourₓ : Int} {D A S : Nat → Int} {nₓ q0ₓ jₓ bₓ K N to : Nat}
theorem COs_keep {sₓ : Nat} (hₓ : COs D σ sₓ) (hkₓ : ∀ qₓ kₓ : Nat, qₓ < 60 → σ' qₓ kₓ = σ qₓ kₓ) : COs D σ' sₓ := by
  obtain ⟨⟨z1ₓ, z2ₓ, z3ₓ, z4ₓ, z5ₓ, z6ₓ, z7ₓ⟩, hzₓ, hdₓ, h2ₓ, h3ₓ, h4ₓ, h5ₓ⟩ := hₓ
  exact ⟨⟨(hkₓ _ _ (by decide)).trans z1ₓ, (hkₓ _ _ (by decide)).trans z2ₓ, (hkₓ _ _ (by decide)).trans z3ₓ, fun jₓ hjₓ => (hkₓ _ _ (by decide)).trans (z4ₓ jₓ hjₓ), (hkₓ _ _ (by decide)).trans z5ₓ, (hkₓ _ _ (by decide)).trans z6ₓ, (hkₓ _ _ (by decide)).trans z7ₓ⟩, (hkₓ _ _ (by decide)).trans hzₓ, fun kₓ hk2ₓ => (hkₓ _ _ (by decide)).trans (hdₓ kₓ hk2ₓ), h2ₓ, h3ₓ, h4ₓ, h5ₓ⟩
theorem c_sdOf {yₓ : Int} : m_X7_sideOf nₓ 39 (jₓ : Int) yₓ σ = some (if σ (39 + 1) (2 * jₓ) = yₓ then 0 else if σ (39 + 1) (2 * jₓ + 1) = yₓ then 1 else -1, σ) := by
  unfold m_X7_sideOf
  rw [mLet_e, mRd_e, show (2 * (jₓ : Int)).toNat = 2 * jₓ by omega]
  by_cases cₓ : σ (39 + 1) (2 * jₓ) = yₓ
  · rw [mIf_neg (fun qₓ => qₓ cₓ), if_pos cₓ]; rfl
  · rw [mIf_pos cₓ, if_neg cₓ, mLet_e, mLet_e, mRd_e, show (2 * (jₓ : Int) + 1).toNat = 2 * jₓ + 1 by omega]
    by_cases c2ₓ : σ (39 + 1) (2 * jₓ + 1) = yₓ
    · rw [mIf_neg (fun qₓ => qₓ c2ₓ), if_pos c2ₓ]; rfl
    · rw [mIf_pos c2ₓ, if_neg c2ₓ]; rfl
theorem c_across0 : m_X7_cornerAcross nₓ 39 (jₓ : Int) ((0 : Nat) : Int) σ = some (σ (39 + 1) (2 * jₓ + 1), σ) := by
  unfold m_X7_cornerAcross
  rw [mLet_e, mLet_e, mLet_e, mRd_e, mRet_e, show (2 * (jₓ : Int) + 1 - ((0 : Nat) : Int)).toNat = 2 * jₓ + 1 by omega]
theorem c_across1 : m_X7_cornerAcross nₓ 39 (jₓ : Int) ((1 : Nat) : Int) σ = some (σ (39 + 1) (2 * jₓ), σ) := by
  unfold m_X7_cornerAcross
  rw [mLet_e, mLet_e, mLet_e, mRd_e, mRet_e, show (2 * (jₓ : Int) + 1 - ((1 : Nat) : Int)).toNat = 2 * jₓ by omega]
theorem IM_un {cₓ c2ₓ tₓ : Nat} {vₓ : Int} (hₓ : IM D A L jₓ bₓ cₓ vₓ) (hEₓ : (D (10 + 10 * jₓ) = (bₓ : Int) ∧ D (11 + 10 * jₓ) = (c2ₓ : Int)) ∨ (D (10 + 10 * jₓ) ≠ (bₓ : Int) ∧ D (11 + 10 * jₓ) = (bₓ : Int) ∧ D (10 + 10 * jₓ) = (c2ₓ : Int))) (t1ₓ : A bₓ ≤ (tₓ : Int)) (t4ₓ : opD D jₓ (sdC D jₓ (bₓ : Int)) tₓ) (t5ₓ : ∀ uₓ : Nat, A bₓ ≤ (uₓ : Int) → uₓ < tₓ → ¬ opD D jₓ (sdC D jₓ (bₓ : Int)) uₓ) : cₓ = c2ₓ ∧ vₓ = (tₓ : Int) + D (12 + 10 * jₓ) ∧ (A c2ₓ = -1 ∨ vₓ < A c2ₓ) := by
  obtain ⟨h1ₓ, ⟨uₓ, u1ₓ, u2ₓ, u3ₓ, u4ₓ, u5ₓ⟩, h2ₓ⟩ := hₓ
  have eₓ : uₓ = tₓ := by
    rcases Nat.lt_trichotomy uₓ tₓ with qₓ | qₓ | qₓ
    · exact absurd u4ₓ (t5ₓ uₓ u1ₓ qₓ)
    · exact qₓ
    · exact absurd t4ₓ (u5ₓ tₓ t1ₓ qₓ)
  have ec : cₓ = c2ₓ := by
    rcases h1ₓ with ⟨p1ₓ, p2ₓ⟩ | ⟨p1ₓ, p2ₓ, p3ₓ⟩
    · rcases hEₓ with ⟨w1ₓ, w2ₓ⟩ | ⟨w1ₓ, w2ₓ, w3ₓ⟩
      · omega
      · exact absurd p1ₓ w1ₓ
    · rcases hEₓ with ⟨w1ₓ, w2ₓ⟩ | ⟨w1ₓ, w2ₓ, w3ₓ⟩
      · exact absurd w1ₓ p1ₓ
      · omega
  subst eₓ; subst ec
  exact ⟨rfl, u2ₓ, h2ₓ⟩
theorem c_reach (hCOₓ : COs D σ jₓ) (hRₓ : StR D K jₓ) (hKₓ : K ≤ 10) (hAₓ : ∀ cₓ : Nat, cₓ < 10 → σ 156 cₓ = A cₓ ∧ σ 157 cₓ = S cₓ) (hIₓ : IO A S K L (A bₓ)) (hbₓ : bₓ < K) (hb2ₓ : A bₓ ≠ -1) (hLₓ : L ≤ 2000000) (eₓ : m_X4_reachBy nₓ q0ₓ (jₓ : Int) (bₓ : Int) L σ = some (xₓ, σ')) : ∃ A' : Nat → Int, rlxO D L bₓ jₓ A A' ∧ (∀ cₓ : Nat, cₓ < 10 → σ' 156 cₓ = A' cₓ ∧ σ' 157 cₓ = S cₓ) ∧ ∀ qₓ kₓ : Nat, qₓ ≠ 156 → σ' qₓ kₓ = σ qₓ kₓ := by
  obtain ⟨⟨z1ₓ, z2ₓ, z3ₓ, z4ₓ, z5ₓ, z6ₓ, z7ₓ⟩, hzₓ, hdₓ, h2ₓ, h3ₓ, h4ₓ, h5ₓ⟩ := id hCOₓ
  obtain ⟨r1ₓ, r2ₓ, r3ₓ, r4ₓ, r5ₓ, r6ₓ⟩ := hRₓ
  obtain ⟨i1ₓ, i2ₓ, i3ₓ⟩ := id hIₓ
  have hbrₓ : 0 ≤ A bₓ ∧ A bₓ ≤ L := (i1ₓ bₓ).resolve_left hb2ₓ
  obtain ⟨aₓ, haₓ⟩ : ∃ aₓ : Nat, A bₓ = (aₓ : Int) := ⟨(A bₓ).toNat, by omega⟩
  have stay : σ' = σ → (∀ (cₓ : Nat) (vₓ : Int), ¬ IM D A L jₓ bₓ cₓ vₓ) → ∃ A' : Nat → Int, rlxO D L bₓ jₓ A A' ∧ (∀ cₓ : Nat, cₓ < 10 → σ' 156 cₓ = A' cₓ ∧ σ' 157 cₓ = S cₓ) ∧ ∀ qₓ kₓ : Nat, qₓ ≠ 156 → σ' qₓ kₓ = σ qₓ kₓ := fun e1ₓ hNₓ => by
    rw [e1ₓ]; exact ⟨A, Or.inl ⟨rfl, hNₓ⟩, hAₓ, fun _ _ _ => rfl⟩
  unfold m_X4_reachBy at eₓ
  rw [c_sdOf, mCall_s] at eₓ
  by_cases hatₓ : D (10 + 10 * jₓ) = (bₓ : Int) ∨ D (11 + 10 * jₓ) = (bₓ : Int)
  · obtain ⟨sd, c2ₓ, hsdₓ, hxₓ, hacₓ, hscₓ, hc2ₓ, hEₓ⟩ : ∃ sd c2ₓ : Nat, sd < 2 ∧ (if σ (39 + 1) (2 * jₓ) = (bₓ : Int) then (0 : Int) else if σ (39 + 1) (2 * jₓ + 1) = (bₓ : Int) then 1 else -1) = (sd : Int) ∧ m_X7_cornerAcross nₓ 39 (jₓ : Int) (sd : Int) σ = some ((c2ₓ : Int), σ) ∧ sdC D jₓ (bₓ : Int) = sd ∧ c2ₓ < K ∧ ((D (10 + 10 * jₓ) = (bₓ : Int) ∧ D (11 + 10 * jₓ) = (c2ₓ : Int)) ∨ (D (10 + 10 * jₓ) ≠ (bₓ : Int) ∧ D (11 + 10 * jₓ) = (bₓ : Int) ∧ D (10 + 10 * jₓ) = (c2ₓ : Int))) := by
      by_cases c0ₓ : D (10 + 10 * jₓ) = (bₓ : Int)
      · refine ⟨0, (D (11 + 10 * jₓ)).toNat, by decide, ?_, ?_, ?_, by omega, Or.inl ⟨c0ₓ, by omega⟩⟩
        · rw [z1ₓ, if_pos c0ₓ]; rfl
        · rw [c_across0, z2ₓ, show (((D (11 + 10 * jₓ)).toNat : Nat) : Int) = D (11 + 10 * jₓ) by omega]
        · unfold sdC; exact if_pos c0ₓ
      · have c1ₓ : D (11 + 10 * jₓ) = (bₓ : Int) := hatₓ.resolve_left c0ₓ
        refine ⟨1, (D (10 + 10 * jₓ)).toNat, by decide, ?_, ?_, ?_, by omega, Or.inr ⟨c0ₓ, c1ₓ, by omega⟩⟩
        · rw [z1ₓ, if_neg c0ₓ, z2ₓ, if_pos c1ₓ]; rfl
        · rw [c_across1, z1ₓ, show (((D (10 + 10 * jₓ)).toNat : Nat) : Int) = D (10 + 10 * jₓ) by omega]
        · unfold sdC; exact if_neg c0ₓ
    have k2ₓ : ((c2ₓ : Nat) : Int).toNat = c2ₓ := by omega
    have kj : ((jₓ : Nat) : Int).toNat = jₓ := by omega
    have kb : ((bₓ : Nat) : Int).toNat = bₓ := by omega
    have hd41ₓ : σ 41 jₓ = D (12 + 10 * jₓ) := z3ₓ
    have ne1 : ¬ (sd : Int) = -1 := by omega
    rw [hxₓ, mIf_neg ne1, hacₓ, mCall_s, mRd_e, k2ₓ, (hAₓ c2ₓ (by omega)).2] at eₓ
    by_cases cs : S c2ₓ = 0
    · rw [mIf_pos cs, hacₓ, mCall_s, mRd_e, kj, hd41ₓ, mRd_e, kb, (hAₓ bₓ (by omega)).1, haₓ, mLet_e] at eₓ
      obtain ⟨x11ₓ, s12ₓ, dₓ, eₓ⟩ := mCall_el eₓ
      obtain ⟨hsₓ, hFₓ⟩ := c_firstOpen hCOₓ hsdₓ (by omega) dₓ
      rw [hsₓ] at eₓ
      rcases hFₓ with ⟨rfl, hnoₓ⟩ | ⟨tₓ, rfl, t1ₓ, t2ₓ, t3ₓ, t4ₓ⟩
      · rw [mIf_pos rfl] at eₓ
        unfold b_X4_reachBy_125 at eₓ
        rw [mRet_e] at eₓ
        refine stay (some_el eₓ).2 (fun cₓ vₓ hIₓ => ?_)
        obtain ⟨-, ⟨tₓ, u1ₓ, u2ₓ, u3ₓ, u4ₓ, -⟩, -⟩ := hIₓ
        rw [hscₓ] at u4ₓ
        exact hnoₓ tₓ (by omega) (by omega) u4ₓ
      · have t1'ₓ : A bₓ ≤ (tₓ : Int) := by omega
        have t3'ₓ : opD D jₓ (sdC D jₓ (bₓ : Int)) tₓ := by rw [hscₓ]; exact t3ₓ
        have t4'ₓ : ∀ uₓ : Nat, A bₓ ≤ (uₓ : Int) → uₓ < tₓ → ¬ opD D jₓ (sdC D jₓ (bₓ : Int)) uₓ := fun uₓ u1ₓ u2ₓ => by rw [hscₓ]; exact t4ₓ uₓ (by omega) u2ₓ
        have himpₓ : (A c2ₓ = -1 ∨ (tₓ : Int) + D (12 + 10 * jₓ) < A c2ₓ) → IM D A L jₓ bₓ c2ₓ ((tₓ : Int) + D (12 + 10 * jₓ)) := fun qₓ => ⟨hEₓ, ⟨tₓ, t1'ₓ, rfl, by omega, t3'ₓ, t4'ₓ⟩, qₓ⟩
        have put : (A c2ₓ = -1 ∨ (tₓ : Int) + D (12 + 10 * jₓ) < A c2ₓ) → σ' = upS σ 156 c2ₓ ((tₓ : Int) + D (12 + 10 * jₓ)) → ∃ A' : Nat → Int, rlxO D L bₓ jₓ A A' ∧ (∀ cₓ : Nat, cₓ < 10 → σ' 156 cₓ = A' cₓ ∧ σ' 157 cₓ = S cₓ) ∧ ∀ qₓ kₓ : Nat, qₓ ≠ 156 → σ' qₓ kₓ = σ qₓ kₓ := fun qₓ e1ₓ => by
          rw [e1ₓ]
          refine ⟨upA A c2ₓ ((tₓ : Int) + D (12 + 10 * jₓ)), Or.inr ⟨c2ₓ, _, himpₓ qₓ, rfl⟩, fun cₓ hcₓ => ⟨?_, ?_⟩, fun qₓ kₓ hqₓ => upS_q hqₓ⟩
          · by_cases ec : cₓ = c2ₓ
            · subst ec; rw [upS_s, upA_at]
            · rw [upS_k ec, upA_ne ec]; exact (hAₓ cₓ hcₓ).1
          · rw [upS_q (by decide)]; exact (hAₓ cₓ hcₓ).2
        have ne2 : ¬ (tₓ : Int) = -1 := by omega
        rw [mIf_neg ne2, mRd_e, k2ₓ, (hAₓ c2ₓ (by omega)).1] at eₓ
        unfold b_X4_reachBy_113 b_X4_reachBy_125 at eₓ
        by_cases cm : A c2ₓ = -1
        · rw [mIf_pos cm, mLet_e, mWr_e, mRet_e] at eₓ
          exact put (Or.inl cm) (some_el eₓ).2
        · rw [mIf_neg cm, mLet_e, mRd_e, (hAₓ c2ₓ (by omega)).1] at eₓ
          by_cases cl : A c2ₓ ≤ (tₓ : Int) + D (12 + 10 * jₓ)
          · rw [mIf_pos cl, mRet_e] at eₓ
            refine stay (some_el eₓ).2 (fun cₓ vₓ hIₓ => ?_)
            obtain ⟨-, q2ₓ, q3ₓ⟩ := IM_un hIₓ hEₓ t1'ₓ t3'ₓ t4'ₓ
            rcases q3ₓ with q3ₓ | q3ₓ
            · exact cm q3ₓ
            · omega
          · rw [mIf_neg cl, mLet_e, mWr_e, mRet_e] at eₓ
            exact put (Or.inr (by omega)) (some_el eₓ).2
    · rw [mIf_neg cs] at eₓ
      unfold b_X4_reachBy_35 at eₓ
      rw [mRet_e] at eₓ
      refine stay (some_el eₓ).2 (fun cₓ vₓ hIₓ => ?_)
      obtain ⟨h1ₓ, ⟨tₓ, u1ₓ, u2ₓ, u3ₓ, -, -⟩, hI2ₓ⟩ := hIₓ
      have ec : cₓ = c2ₓ := by
        rcases h1ₓ with ⟨p1ₓ, p2ₓ⟩ | ⟨p1ₓ, p2ₓ, p3ₓ⟩
        · rcases hEₓ with ⟨w1ₓ, w2ₓ⟩ | ⟨w1ₓ, w2ₓ, w3ₓ⟩
          · omega
          · exact absurd p1ₓ w1ₓ
        · rcases hEₓ with ⟨w1ₓ, w2ₓ⟩ | ⟨w1ₓ, w2ₓ, w3ₓ⟩
          · exact absurd w1ₓ p1ₓ
          · omega
      subst ec
      have qₓ := i2ₓ cₓ hc2ₓ cs
      rcases hI2ₓ with hI2ₓ | hI2ₓ
      · exact qₓ.1 hI2ₓ
      · omega
  · have n0ₓ : ¬ D (10 + 10 * jₓ) = (bₓ : Int) := fun qₓ => hatₓ (Or.inl qₓ)
    have n1ₓ : ¬ D (11 + 10 * jₓ) = (bₓ : Int) := fun qₓ => hatₓ (Or.inr qₓ)
    rw [z1ₓ, z2ₓ, if_neg n0ₓ, if_neg n1ₓ, mIf_pos rfl] at eₓ
    unfold b_X4_reachBy_35 at eₓ
    rw [mRet_e] at eₓ
    refine stay (some_el eₓ).2 (fun cₓ vₓ hIₓ => ?_)
    rcases hIₓ.1 with ⟨p1ₓ, -⟩ | ⟨-, p1ₓ, -⟩
    · exact n0ₓ p1ₓ
    · exact n1ₓ p1ₓ
theorem c_streets {iₓ : Int} {ρ : Int × SS} (hHₓ : hourₓ + 2000 = L) (hRaₓ : ∀ sₓ : Nat, sₓ < N → StR D K sₓ) (hKₓ : K ≤ 10) (hbₓ : bₓ < K) (hSₓ : S bₓ ≠ 0) (hLₓ : L ≤ 2000000) : ∀ (kₓ jₓ nₓ : Nat) (σ : SS) (A : Nat → Int), jₓ + kₓ = N → (∀ sₓ : Nat, sₓ < N → COs D σ sₓ) → (∀ cₓ : Nat, cₓ < 10 → σ 156 cₓ = A cₓ ∧ σ 157 cₓ = S cₓ) → IO A S K L (A bₓ) → A bₓ ≠ -1 → j_X4_firstArrival q0ₓ nₓ 65 [(N : Int), (to : Int), hourₓ, iₓ, (bₓ : Int), (jₓ : Int)] σ = some ρ → ∃ (n1ₓ : Nat) (σ1 : SS) (A1 : Nat → Int), n1ₓ < nₓ ∧ rlxA D L bₓ kₓ jₓ A A1 ∧ (∀ cₓ : Nat, cₓ < 10 → σ1 156 cₓ = A1 cₓ ∧ σ1 157 cₓ = S cₓ) ∧ (∀ qₓ kₓ : Nat, qₓ ≠ 156 → σ1 qₓ kₓ = σ qₓ kₓ) ∧ j_X4_firstArrival q0ₓ n1ₓ 15 [(N : Int), (to : Int), hourₓ, iₓ + 1] σ1 = some ρ := by
  intro kₓ
  induction kₓ with
  | zero =>
    intro jₓ nₓ σ A hjₓ hCₓ hAₓ hIₓ hb2ₓ eₓ
    cases nₓ with
    | zero => exact none_el eₓ
    | succ nₓ =>
      rw [e_X4_firstArrival_65] at eₓ
      unfold b_X4_firstArrival_65 at eₓ
      rw [mIf_pos (show (N : Int) ≤ (jₓ : Int) by omega), mLet_e] at eₓ
      exact ⟨nₓ, σ, A, Nat.lt_succ_self nₓ, rfl, hAₓ, fun _ _ _ => rfl, eₓ⟩
  | succ kₓ ihₓ =>
    intro jₓ nₓ σ A hjₓ hCₓ hAₓ hIₓ hb2ₓ eₓ
    cases nₓ with
    | zero => exact none_el eₓ
    | succ nₓ =>
      rw [e_X4_firstArrival_65] at eₓ
      unfold b_X4_firstArrival_65 at eₓ
      rw [mIf_neg (show ¬ (N : Int) ≤ (jₓ : Int) by omega), mLet_e, hHₓ] at eₓ
      obtain ⟨x1ₓ, s1ₓ, dₓ, eₓ⟩ := mCall_el eₓ
      obtain ⟨A', h1ₓ, h2ₓ, h3ₓ⟩ := c_reach (hCₓ jₓ (by omega)) (hRaₓ jₓ (by omega)) hKₓ hAₓ hIₓ hbₓ hb2ₓ hLₓ dₓ
      obtain ⟨g1ₓ, g2ₓ⟩ := IO_rx1 (hRaₓ jₓ (by omega)) hIₓ hbₓ hSₓ h1ₓ
      have eb : A' bₓ = A bₓ := g2ₓ bₓ hbₓ hSₓ
      rw [mLet_e, show (jₓ : Int) + 1 = ((jₓ + 1 : Nat) : Int) by omega] at eₓ
      obtain ⟨n1ₓ, σ1, A1, w1ₓ, w2ₓ, w3ₓ, w4ₓ, w5ₓ⟩ := ihₓ (jₓ + 1) nₓ s1ₓ A' (by omega) (fun sₓ hsₓ => COs_keep (hCₓ sₓ hsₓ) (fun qₓ kₓ hqₓ => h3ₓ qₓ kₓ (by omega))) h2ₓ (by rw [eb]; exact g1ₓ) (by rw [eb]; exact hb2ₓ) eₓ
      exact ⟨n1ₓ, σ1, A1, by omega, ⟨A', h1ₓ, w2ₓ⟩, w3ₓ, fun qₓ kₓ hqₓ => (w4ₓ qₓ kₓ hqₓ).trans (h3ₓ qₓ kₓ hqₓ), w5ₓ⟩
theorem c_eu (h8ₓ : σ 39 8 = (K : Int)) (hKₓ : K ≤ 10) (hAₓ : ∀ cₓ : Nat, cₓ < 10 → σ 156 cₓ = A cₓ ∧ σ 157 cₓ = S cₓ) : ∀ (nₓ kₓ : Nat) (bₓ : Int), kₓ ≤ K → Bst A S kₓ bₓ → j_X4_earliestUnsettled q0ₓ nₓ 4 [bₓ, (kₓ : Int)] σ = some (rₓ, σ') → σ' = σ ∧ Bst A S K rₓ := by
  intro nₓ
  induction nₓ with
  | zero => intro kₓ bₓ _ _ eₓ; exact none_el eₓ
  | succ nₓ ihₓ =>
    intro kₓ bₓ hkₓ hBₓ eₓ
    rw [e_X4_earliestUnsettled_4] at eₓ
    unfold b_X4_earliestUnsettled_4 b_X4_earliestUnsettled_54 b_X4_earliestUnsettled_56 at eₓ
    rw [mRd_e, h8ₓ] at eₓ
    by_cases cₓ : (K : Int) ≤ (kₓ : Int)
    · rw [mIf_pos cₓ, mRet_e] at eₓ
      obtain ⟨rfl, rfl⟩ := some_el eₓ
      have ek : kₓ = K := by omega
      rw [← ek]; exact ⟨rfl, hBₓ⟩
    · have hA1ₓ := (hAₓ kₓ (by omega)).1
      have hA2ₓ := (hAₓ kₓ (by omega)).2
      have ek : (kₓ : Int) + 1 = ((kₓ + 1 : Nat) : Int) := by omega
      rw [mIf_neg cₓ, mRd_e, show ((kₓ : Nat) : Int).toNat = kₓ by omega, hA2ₓ] at eₓ
      by_cases cs : S kₓ = 0
      · rw [mIf_neg (fun qₓ => qₓ cs), mRd_e, hA1ₓ] at eₓ
        by_cases ca : A kₓ = -1
        · rw [mIf_pos ca, mLet_e, ek] at eₓ
          exact ihₓ (kₓ + 1) bₓ (by omega) (Bst_skip hBₓ (fun _ => ca)) eₓ
        · rw [mIf_neg ca] at eₓ
          by_cases cb : bₓ = -1
          · rw [cb] at hBₓ
            rw [mIf_pos cb, mLet_e, ek] at eₓ
            exact ihₓ (kₓ + 1) _ (by omega) (Bst_first hBₓ cs ca) eₓ
          · obtain ⟨mₓ, rfl, hmₓ⟩ : ∃ mₓ : Nat, bₓ = (mₓ : Int) ∧ mₓ < kₓ := by
              rcases hBₓ with ⟨h0ₓ, -⟩ | ⟨mₓ, h0ₓ, h1ₓ, -⟩
              · exact absurd h0ₓ cb
              · exact ⟨mₓ, h0ₓ, h1ₓ⟩
            rw [mIf_neg cb, mRd_e, mRd_e, hA1ₓ, show ((mₓ : Nat) : Int).toNat = mₓ by omega, (hAₓ mₓ (by omega)).1] at eₓ
            by_cases cl : A mₓ ≤ A kₓ
            · rw [mIf_pos cl, mLet_e, ek] at eₓ
              exact ihₓ (kₓ + 1) _ (by omega) (Bst_keep hBₓ cl) eₓ
            · rw [mIf_neg cl, mLet_e, ek] at eₓ
              exact ihₓ (kₓ + 1) _ (by omega) (Bst_new hBₓ cs ca (by omega)) eₓ
      · rw [mIf_pos cs, mLet_e, ek] at eₓ
        exact ihₓ (kₓ + 1) bₓ (by omega) (Bst_skip hBₓ (fun qₓ => absurd qₓ cs)) eₓ
theorem c_outer (hHₓ : hourₓ + 2000 = L) (hRaₓ : ∀ sₓ : Nat, sₓ < N → StR D K sₓ) (hKₓ : K ≤ 10) (htoₓ : to < K) (hLₓ : L ≤ 2000000) : ∀ (nₓ : Nat) (σ : SS) (A S : Nat → Int) (iₓ : Nat) (m0ₓ : Int), (∀ sₓ : Nat, sₓ < N → COs D σ sₓ) → σ 39 8 = (K : Int) → (∀ cₓ : Nat, cₓ < 10 → σ 156 cₓ = A cₓ ∧ σ 157 cₓ = S cₓ) → IO A S K L m0ₓ → dnC S K = iₓ → j_X4_firstArrival q0ₓ nₓ 15 [(N : Int), (to : Int), hourₓ, (iₓ : Int)] σ = some (rₓ, σ') → (∃ kₓ : Nat, DJ D K N L to kₓ A S rₓ) ∧ ∀ qₓ kₓ : Nat, qₓ ≠ 156 → qₓ ≠ 157 → σ' qₓ kₓ = σ qₓ kₓ := by
  intro nₓ
  induction nₓ using Nat.strongRecOn with
  | ind nₓ ihₓ =>
    intro σ A S iₓ m0ₓ hCₓ h8ₓ hAₓ hIₓ hiₓ eₓ
    cases nₓ with
    | zero => exact none_el eₓ
    | succ nₓ =>
      rw [e_X4_firstArrival_15] at eₓ
      unfold b_X4_firstArrival_15 at eₓ
      rw [mRd_e, h8ₓ] at eₓ
      by_cases cₓ : (K : Int) ≤ (iₓ : Int)
      · rw [mIf_pos cₓ, mRet_e] at eₓ
        obtain ⟨rfl, rfl⟩ := some_el eₓ
        exact ⟨⟨1, -1, Or.inl ⟨rfl, fun cₓ hcₓ hsₓ => absurd hsₓ (dn_all K (by omega) cₓ hcₓ)⟩, Or.inl ⟨rfl, rfl⟩⟩, fun _ _ _ _ => rfl⟩
      · rw [mIf_neg cₓ] at eₓ
        obtain ⟨x2ₓ, s3ₓ, dₓ, eₓ⟩ := mCall_el eₓ
        unfold m_X4_earliestUnsettled at dₓ
        obtain ⟨hsₓ, hBₓ⟩ := c_eu h8ₓ hKₓ hAₓ nₓ 0 (-1) (Nat.zero_le _) Bst_0 dₓ
        rw [hsₓ] at eₓ
        by_cases cm : x2ₓ = -1
        · rw [mIf_neg (fun qₓ => qₓ cm), mRet_e] at eₓ
          obtain ⟨rfl, rfl⟩ := some_el eₓ
          exact ⟨⟨1, x2ₓ, hBₓ, Or.inl ⟨cm, rfl⟩⟩, fun _ _ _ _ => rfl⟩
        · obtain ⟨xₓ, rfl⟩ : ∃ xₓ : Nat, x2ₓ = (xₓ : Int) := by
            rcases hBₓ with ⟨h0ₓ, -⟩ | ⟨mₓ, h0ₓ, -⟩
            · exact absurd h0ₓ cm
            · exact ⟨mₓ, h0ₓ⟩
          rw [mIf_pos cm] at eₓ
          by_cases ct : (xₓ : Int) = (to : Int)
          · rw [mIf_neg (fun qₓ => qₓ ct), mRd_e, show ((to : Nat) : Int).toNat = to by omega, (hAₓ to (by omega)).1, mRet_e] at eₓ
            obtain ⟨rfl, rfl⟩ := some_el eₓ
            exact ⟨⟨1, _, hBₓ, Or.inr (Or.inl ⟨ct, rfl⟩)⟩, fun _ _ _ _ => rfl⟩
          · rw [mIf_pos ct, mWr_e, show ((xₓ : Nat) : Int).toNat = xₓ by omega] at eₓ
            obtain ⟨j1ₓ, j2ₓ, j3ₓ, j4ₓ, j5ₓ⟩ := IO_take hIₓ hBₓ
            obtain ⟨n1ₓ, σ1, A1, w1ₓ, w2ₓ, w3ₓ, w4ₓ, w5ₓ⟩ := c_streets hHₓ hRaₓ hKₓ j2ₓ j3ₓ hLₓ N 0 nₓ _ A (Nat.zero_add N) (fun sₓ hsₓ => COs_keep (hCₓ sₓ hsₓ) (fun qₓ kₓ hqₓ => upS_q (by omega))) (fun cₓ hcₓ => ⟨by rw [upS_q (by decide)]; exact (hAₓ cₓ hcₓ).1, by
              by_cases ec : cₓ = xₓ
              · subst ec; rw [upS_s, upA_at]
              · rw [upS_k ec, upA_ne ec]; exact (hAₓ cₓ hcₓ).2⟩) j1ₓ j4ₓ eₓ
            obtain ⟨g1ₓ, g2ₓ⟩ := IO_rx hRaₓ j2ₓ j3ₓ N 0 A A1 (Nat.zero_add N) j1ₓ w2ₓ
            rw [show (iₓ : Int) + 1 = ((iₓ + 1 : Nat) : Int) by omega] at w5ₓ
            obtain ⟨⟨kₓ, hkₓ⟩, hfₓ⟩ := ihₓ n1ₓ (by omega) σ1 A1 (upA S xₓ 1) (iₓ + 1) (A xₓ) (fun sₓ hsₓ => COs_keep (hCₓ sₓ hsₓ) (fun qₓ kₓ hqₓ => (w4ₓ qₓ kₓ (by omega)).trans (upS_q (by omega)))) ((w4ₓ 39 8 (by decide)).trans ((upS_q (by decide)).trans h8ₓ)) w3ₓ g1ₓ (by rw [dn_set j5ₓ K j2ₓ, hiₓ]) w5ₓ
            exact ⟨⟨kₓ + 1, _, hBₓ, Or.inr (Or.inr ⟨xₓ, rfl, by omega, A1, w2ₓ, hkₓ⟩)⟩, fun qₓ kₓ h1ₓ h2ₓ => (hfₓ qₓ kₓ h1ₓ h2ₓ).trans ((w4ₓ qₓ kₓ h1ₓ).trans (upS_q h2ₓ))⟩
theorem c_clear0 : ∀ (nₓ kₓ : Nat) (σ : SS), kₓ ≤ 10 → (∀ cₓ : Nat, cₓ < kₓ → σ 156 cₓ = -1 ∧ σ 157 cₓ = 0) → j_X4_clear q0ₓ nₓ 2 [(kₓ : Int)] σ = some (rₓ, σ') → (∀ cₓ : Nat, cₓ < 10 → σ' 156 cₓ = -1 ∧ σ' 157 cₓ = 0) ∧ ∀ qₓ kₓ : Nat, qₓ ≠ 156 → qₓ ≠ 157 → σ' qₓ kₓ = σ qₓ kₓ := by
  intro nₓ
  induction nₓ with
  | zero => intro kₓ σ _ _ eₓ; exact none_el eₓ
  | succ nₓ ihₓ =>
    intro kₓ σ hkₓ hcₓ eₓ
    rw [e_X4_clear_2] at eₓ
    unfold b_X4_clear_2 at eₓ
    by_cases cₓ : (10 : Int) ≤ (kₓ : Int)
    · rw [mIf_pos cₓ, mRet_e] at eₓ
      obtain ⟨rfl, rfl⟩ := some_el eₓ
      exact ⟨fun cₓ hₓ => hcₓ cₓ (by omega), fun _ _ _ _ => rfl⟩
    · rw [mIf_neg cₓ, mWr_e, mWr_e, mLet_e, show ((kₓ : Nat) : Int).toNat = kₓ by omega, show (kₓ : Int) + 1 = ((kₓ + 1 : Nat) : Int) by omega] at eₓ
      obtain ⟨g1ₓ, g2ₓ⟩ := ihₓ (kₓ + 1) _ (by omega) (fun cₓ hₓ => by
        by_cases ec : cₓ = kₓ
        · subst ec; rw [upS_s, upS_q (by decide), upS_s]; exact ⟨rfl, rfl⟩
        · rw [upS_k ec, upS_k ec, upS_k ec]; exact hcₓ cₓ (by omega)) eₓ
      exact ⟨g1ₓ, fun qₓ kₓ h1ₓ h2ₓ => (g2ₓ qₓ kₓ h1ₓ h2ₓ).trans ((upS_q h2ₓ).trans (upS_q h1ₓ))⟩
/-- where it begins -/
def A0 (bₓ : Nat) (hourₓ : Int) : Nat → Int := fun cₓ => if cₓ = bₓ then hourₓ else -1
theorem IO_0 (h0ₓ : 0 ≤ hourₓ) (h1ₓ : hourₓ ≤ L) : IO (A0 bₓ hourₓ) (fun _ => 0) K L hourₓ := by
  have hrₓ : ∀ cₓ : Nat, A0 bₓ hourₓ cₓ = -1 ∨ A0 bₓ hourₓ cₓ = hourₓ := fun cₓ => by
    unfold A0
    by_cases eₓ : cₓ = bₓ
    · rw [if_pos eₓ]; exact Or.inr rfl
    · rw [if_neg eₓ]; exact Or.inl rfl
  refine ⟨fun cₓ => ?_, fun cₓ _ hₓ => absurd rfl hₓ, fun cₓ _ _ haₓ => ?_⟩
  · rcases hrₓ cₓ with hₓ | hₓ
    · exact Or.inl hₓ
    · rw [hₓ]; exact Or.inr ⟨h0ₓ, h1ₓ⟩
  · rw [(hrₓ cₓ).resolve_left haₓ]; exact Int.le_refl _
theorem dn_0 : ∀ K : Nat, dnC (fun _ => 0) K = 0
  | 0 => rfl
  | K + 1 => by show dnC (fun _ => 0) K + (if (0 : Int) = 0 then 0 else 1) = 0; rw [dn_0 K, if_pos rfl]
theorem c_firstArrival (hRaₓ : ∀ sₓ : Nat, sₓ < N → StR D K sₓ) (hKₓ : K ≤ 10) (htoₓ : to < K) (hbₓ : bₓ < K) (h0ₓ : 0 ≤ hourₓ) (h1ₓ : hourₓ ≤ 99999) (hCₓ : ∀ sₓ : Nat, sₓ < N → COs D σ sₓ) (h8ₓ : σ 39 8 = (K : Int)) (eₓ : m_X4_firstArrival nₓ q0ₓ (N : Int) (bₓ : Int) (to : Int) hourₓ σ = some (rₓ, σ')) : (∃ kₓ : Nat, DJ D K N (hourₓ + 2000) to kₓ (A0 bₓ hourₓ) (fun _ => 0) rₓ) ∧ ∀ qₓ kₓ : Nat, qₓ ≠ 156 → qₓ ≠ 157 → σ' qₓ kₓ = σ qₓ kₓ := by
  unfold m_X4_firstArrival m_X4_clear at eₓ
  obtain ⟨x1ₓ, s1ₓ, dₓ, eₓ⟩ := mCall_el eₓ
  obtain ⟨g1ₓ, g2ₓ⟩ := c_clear0 nₓ 0 σ (by decide) (fun cₓ hₓ => absurd hₓ (Nat.not_lt_zero _)) dₓ
  rw [mWr_e, show ((bₓ : Nat) : Int).toNat = bₓ by omega] at eₓ
  have hAₓ : ∀ cₓ : Nat, cₓ < 10 → upS s1ₓ 156 bₓ hourₓ 156 cₓ = A0 bₓ hourₓ cₓ ∧ upS s1ₓ 156 bₓ hourₓ 157 cₓ = 0 := fun cₓ hcₓ => by
    rw [upS_q (show (157 : Nat) ≠ 156 by decide)]
    refine ⟨?_, (g1ₓ cₓ hcₓ).2⟩
    unfold A0
    by_cases ec : cₓ = bₓ
    · subst ec; rw [upS_s, if_pos rfl]
    · rw [upS_k ec, if_neg ec]; exact (g1ₓ cₓ hcₓ).1
  obtain ⟨w1ₓ, w2ₓ⟩ := c_outer rfl hRaₓ hKₓ htoₓ (by omega) nₓ _ (A0 bₓ hourₓ) (fun _ => 0) 0 hourₓ (fun sₓ hsₓ => COs_keep (hCₓ sₓ hsₓ) (fun qₓ kₓ hqₓ => (upS_q (by omega)).trans (g2ₓ qₓ kₓ (by omega) (by omega)))) ((upS_q (by decide)).trans ((g2ₓ 39 8 (by decide) (by decide)).trans h8ₓ)) hAₓ (IO_0 h0ₓ (by omega)) (dn_0 K) eₓ
  exact ⟨w1ₓ, fun qₓ kₓ h1ₓ h2ₓ => (w2ₓ qₓ kₓ h1ₓ h2ₓ).trans ((upS_q h1ₓ).trans (g2ₓ qₓ kₓ h1ₓ h2ₓ))⟩
end
