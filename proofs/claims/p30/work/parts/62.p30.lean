/-! by compared: the reference spreads the hoursₓ to aₓ goal -/
def TKM (τ : SS) (N : Nat) (e0ₓ e1ₓ : Nat → Nat) (ln : Nat → Int) : Prop := τ 12 1 = (N : Int) ∧ ∀ sₓ : Nat, sₓ < N → τ 12 (10 + 10 * sₓ) = ((e0ₓ sₓ : Nat) : Int) ∧ τ 12 (11 + 10 * sₓ) = ((e1ₓ sₓ : Nat) : Int) ∧ τ 12 (12 + 10 * sₓ) = ln sₓ
def HIs (τ : SS) (K N : Nat) (e0ₓ e1ₓ : Nat → Nat) (ln sg : Nat → Int) (gₓ : Nat) : Prop := τ 14 gₓ = 0 ∧ (∀ aₓ : Nat, aₓ < 10 → 0 ≤ τ 14 aₓ ∧ τ 14 aₓ ≤ 100000000) ∧ ∀ aₓ : Nat, aₓ < K → aₓ ≠ gₓ → τ 14 aₓ < 100000000 → ∃ sₓ bₓ : Nat, EDG N e0ₓ e1ₓ sg sₓ aₓ bₓ ∧ ln sₓ + τ 14 bₓ ≤ τ 14 aₓ
/-- the roads looked at, the last one kₓ ways -/
def EDo (τ : SS) (e0ₓ e1ₓ : Nat → Nat) (ln sg : Nat → Int) (sₓ kₓ : Nat) : Prop := (∀ tₓ : Nat, (tₓ < sₓ ∨ (tₓ = sₓ ∧ 0 < kₓ)) → tb (sg tₓ) 0 = true → τ 14 (e0ₓ tₓ) ≤ ln tₓ + τ 14 (e1ₓ tₓ)) ∧ ∀ tₓ : Nat, (tₓ < sₓ ∨ (tₓ = sₓ ∧ 1 < kₓ)) → tb (sg tₓ) 1 = true → τ 14 (e1ₓ tₓ) ≤ ln tₓ + τ 14 (e0ₓ tₓ)
section
variable {σ σ' τ τ' τ0 : SS} {rₓ r'ₓ xₓ yₓ zₓ vₓ : Int} {K N cₓ sₓ aₓ bₓ gₓ mₓ : Nat} {e0ₓ e1ₓ : Nat → Nat} {ln sg : Nat → Int} {nₓ n'ₓ : Nat} {P : Nat → Int}
theorem r_takes0 (hNₓ : τ0 12 1 = (N : Int)) : ∀ (nₓ sₓ : Nat) (τ : SS), sₓ ≤ N → (∀ qₓ kₓ : Nat, qₓ ≠ 13 → τ qₓ kₓ = τ0 qₓ kₓ) → (∀ tₓ : Nat, tₓ < sₓ → τ 13 tₓ = τ0 12 (168 + 12 * mₓ + tₓ)) → j_X12_takesMap 0 nₓ 2 [(mₓ : Int), (sₓ : Int)] τ = some (rₓ, τ') → (∀ qₓ kₓ : Nat, qₓ ≠ 13 → τ' qₓ kₓ = τ0 qₓ kₓ) ∧ ∀ tₓ : Nat, tₓ < N → τ' 13 tₓ = τ0 12 (168 + 12 * mₓ + tₓ) := by
  intro nₓ
  induction nₓ with
  | zero => intro sₓ τ _ _ _ eₓ; exact none_el eₓ
  | succ nₓ ihₓ =>
    intro sₓ τ hsₓ hFₓ hIₓ eₓ
    rw [e_X12_takesMap_2] at eₓ
    unfold b_X12_takesMap_2 at eₓ
    rw [mRd_e, show τ 12 (1 : Int).toNat = (N : Int) from (hFₓ 12 1 (by decide)).trans hNₓ] at eₓ
    by_cases kₓ : (N : Int) ≤ (sₓ : Int)
    · rw [mIf_pos kₓ, mRet_e] at eₓ
      obtain ⟨-, rfl⟩ := some_el eₓ
      exact ⟨hFₓ, fun tₓ htₓ => hIₓ tₓ (by omega)⟩
    · rw [mIf_neg kₓ, mLet_e, mLet_e, mLet_e, mRd_e, mWr_e, mLet_e, show ((168 : Int) + 12 * (mₓ : Int) + (sₓ : Int)).toNat = 168 + 12 * mₓ + sₓ by omega, show ((sₓ : Nat) : Int).toNat = sₓ by omega, show (sₓ : Int) + 1 = ((sₓ + 1 : Nat) : Int) by omega] at eₓ
      exact ihₓ (sₓ + 1) _ (by omega) (fun qₓ kₓ hqₓ => (upS_q hqₓ).trans (hFₓ qₓ kₓ hqₓ)) (fun tₓ htₓ => by
        by_cases etₓ : tₓ = sₓ
        · subst etₓ; rw [upS_s]; exact hFₓ 12 _ (by decide)
        · rw [upS_k etₓ]; exact hIₓ tₓ (by omega)) eₓ
theorem r_spr (hKₓ : K ≤ 10) (hSₓ : STR N K e0ₓ e1ₓ ln) (hTₓ : TKM τ0 N e0ₓ e1ₓ ln) (hsgₓ : ∀ sₓ : Nat, sₓ < N → τ0 13 sₓ = sg sₓ) (hgₓ : gₓ < K) : ∀ nₓ : Nat, (∀ (mo : Int) (τ : SS), (∀ qₓ kₓ : Nat, qₓ ≠ 14 → τ qₓ kₓ = τ0 qₓ kₓ) → HIs τ K N e0ₓ e1ₓ ln sg gₓ → (mo = 0 → EDo τ e0ₓ e1ₓ ln sg N 0) → j_X12_spreads 0 nₓ 34 [mo] τ = some (rₓ, τ') → (∀ qₓ kₓ : Nat, qₓ ≠ 14 → τ' qₓ kₓ = τ0 qₓ kₓ) ∧ HRS N K e0ₓ e1ₓ ln sg gₓ 100000000 (τ' 14)) ∧ (∀ (mo : Int) (sₓ : Nat) (τ : SS), sₓ ≤ N → (∀ qₓ kₓ : Nat, qₓ ≠ 14 → τ qₓ kₓ = τ0 qₓ kₓ) → HIs τ K N e0ₓ e1ₓ ln sg gₓ → (mo = 0 → EDo τ e0ₓ e1ₓ ln sg sₓ 0) → j_X12_spreads 0 nₓ 42 [mo, (sₓ : Int)] τ = some (rₓ, τ') → (∀ qₓ kₓ : Nat, qₓ ≠ 14 → τ' qₓ kₓ = τ0 qₓ kₓ) ∧ HRS N K e0ₓ e1ₓ ln sg gₓ 100000000 (τ' 14)) ∧ ∀ (mo : Int) (sₓ kₓ : Nat) (τ : SS), sₓ < N → kₓ ≤ 2 → (∀ qₓ kₓ : Nat, qₓ ≠ 14 → τ qₓ kₓ = τ0 qₓ kₓ) → HIs τ K N e0ₓ e1ₓ ln sg gₓ → (mo = 0 → EDo τ e0ₓ e1ₓ ln sg sₓ kₓ) → j_X12_spreads 0 nₓ 55 [mo, (sₓ : Int), (kₓ : Int)] τ = some (rₓ, τ') → (∀ qₓ kₓ : Nat, qₓ ≠ 14 → τ' qₓ kₓ = τ0 qₓ kₓ) ∧ HRS N K e0ₓ e1ₓ ln sg gₓ 100000000 (τ' 14) := by
  intro nₓ
  induction nₓ with
  | zero => exact ⟨fun _ _ _ _ _ eₓ => none_el eₓ, fun _ _ _ _ _ _ _ eₓ => none_el eₓ, fun _ _ _ _ _ _ _ _ _ eₓ => none_el eₓ⟩
  | succ nₓ ihₓ =>
    refine ⟨fun mo τ hFₓ hIₓ hEₓ eₓ => ?_, fun mo sₓ τ hsₓ hFₓ hIₓ hEₓ eₓ => ?_, fun mo sₓ kₓ τ hsₓ hkₓ hFₓ hIₓ hEₓ eₓ => ?_⟩
    · rw [e_X12_spreads_34] at eₓ
      unfold b_X12_spreads_34 at eₓ
      by_cases c0ₓ : mo = 0
      · rw [mIf_pos c0ₓ, mRet_e] at eₓ
        obtain ⟨-, rfl⟩ := some_el eₓ
        obtain ⟨i1ₓ, i2ₓ, i3ₓ⟩ := hIₓ
        obtain ⟨d1ₓ, d2ₓ⟩ := hEₓ c0ₓ
        refine ⟨hFₓ, i1ₓ, fun aₓ haₓ => i2ₓ aₓ (by omega), fun sₓ aₓ bₓ heₓ => ?_, i3ₓ⟩
        obtain ⟨h1ₓ, h2ₓ⟩ := heₓ
        rcases h2ₓ with ⟨q1ₓ, q2ₓ, q3ₓ⟩ | ⟨q1ₓ, q2ₓ, q3ₓ⟩
        · rw [← q2ₓ, ← q3ₓ]; exact d1ₓ sₓ (Or.inl h1ₓ) q1ₓ
        · rw [← q2ₓ, ← q3ₓ]; exact d2ₓ sₓ (Or.inl h1ₓ) q1ₓ
      · rw [mIf_neg c0ₓ] at eₓ
        exact ihₓ.2.1 0 0 τ (Nat.zero_le _) hFₓ hIₓ (fun _ => ⟨fun tₓ htₓ => absurd htₓ (by omega), fun tₓ htₓ => absurd htₓ (by omega)⟩) eₓ
    · rw [e_X12_spreads_42] at eₓ
      unfold b_X12_spreads_42 at eₓ
      rw [mRd_e, show τ 12 (1 : Int).toNat = (N : Int) from (hFₓ 12 1 (by decide)).trans hTₓ.1] at eₓ
      by_cases kₓ : (N : Int) ≤ (sₓ : Int)
      · rw [mIf_pos kₓ] at eₓ
        have esₓ : sₓ = N := by omega
        rw [esₓ] at hEₓ
        exact ihₓ.1 mo τ hFₓ hIₓ hEₓ eₓ
      · rw [mIf_neg kₓ] at eₓ
        exact ihₓ.2.2 mo sₓ 0 τ (by omega) (by decide) hFₓ hIₓ hEₓ eₓ
    · obtain ⟨q1ₓ, q2ₓ, q3ₓ, q4ₓ, q5ₓ⟩ := hSₓ sₓ hsₓ
      obtain ⟨t1ₓ, t2ₓ, t3ₓ⟩ := hTₓ.2 sₓ hsₓ
      obtain ⟨i1ₓ, i2ₓ, i3ₓ⟩ := id hIₓ
      have s12ₓ : ∀ jₓ : Nat, τ 12 jₓ = τ0 12 jₓ := fun jₓ => hFₓ 12 jₓ (by decide)
      rw [e_X12_spreads_55] at eₓ
      unfold b_X12_spreads_55 b_X12_spreads_133 at eₓ
      by_cases k2ₓ : (2 : Int) ≤ (kₓ : Int)
      · rw [mIf_pos k2ₓ, mLet_e, show (sₓ : Int) + 1 = ((sₓ + 1 : Nat) : Int) by omega] at eₓ
        have ek : kₓ = 2 := by omega
        subst ek
        exact ihₓ.2.1 mo (sₓ + 1) τ (by omega) hFₓ hIₓ (fun c0ₓ => ⟨fun tₓ htₓ hbₓ => (hEₓ c0ₓ).1 tₓ (by omega) hbₓ, fun tₓ htₓ hbₓ => (hEₓ c0ₓ).2 tₓ (by omega) hbₓ⟩) eₓ
      · have ek : (kₓ : Int) + 1 = ((kₓ + 1 : Nat) : Int) := by omega
        have core : ∀ aₓ bₓ : Nat, ((kₓ = 0 ∧ e0ₓ sₓ = aₓ ∧ e1ₓ sₓ = bₓ) ∨ (kₓ = 1 ∧ e1ₓ sₓ = aₓ ∧ e0ₓ sₓ = bₓ)) → (mRd τ 14 (((bₓ : Nat) : Int)).toNat fun x7ₓ => mCall (m_X12_streetOf nₓ 0 (sₓ : Int) 2 τ) fun x8ₓ s9ₓ => mLet (x7ₓ + x8ₓ) fun x10ₓ => mRd s9ₓ 13 ((sₓ : Nat) : Int).toNat fun x11ₓ => mCall (m_X12_isOf nₓ x11ₓ (kₓ : Int) s9ₓ) fun x12ₓ s13ₓ => mIf (x12ₓ = 0) (mLet ((kₓ : Int) + 1) fun x1ₓ => j_X12_spreads 0 nₓ 55 [mo, (sₓ : Int), x1ₓ] s13ₓ) (mRd s13ₓ 14 (((aₓ : Nat) : Int)).toNat fun x14ₓ => mIf (x10ₓ < x14ₓ) (mWr s13ₓ 14 (((aₓ : Nat) : Int)).toNat x10ₓ fun s15ₓ => mLet ((kₓ : Int) + 1) fun x1ₓ => j_X12_spreads 0 nₓ 55 [1, (sₓ : Int), x1ₓ] s15ₓ) (mLet ((kₓ : Int) + 1) fun x1ₓ => j_X12_spreads 0 nₓ 55 [mo, (sₓ : Int), x1ₓ] s13ₓ))) = some (rₓ, τ') → (∀ qₓ kₓ : Nat, qₓ ≠ 14 → τ' qₓ kₓ = τ0 qₓ kₓ) ∧ HRS N K e0ₓ e1ₓ ln sg gₓ 100000000 (τ' 14) := fun aₓ bₓ habₓ qₓ => by
          have hab2ₓ : aₓ < K ∧ bₓ < K ∧ aₓ ≠ bₓ := by omega
          rw [mRd_e, show (((bₓ : Nat) : Int)).toNat = bₓ by omega, r_so2, mCall_s, s12ₓ, t3ₓ, mLet_e, mRd_e, show ((sₓ : Nat) : Int).toNat = sₓ by omega, (hFₓ 13 sₓ (by decide)).trans (hsgₓ sₓ hsₓ), r_isOf (show kₓ < 32 by omega), mCall_s] at qₓ
          have more : ∀ mo' : Int, (mo' = 0 → mo = 0 ∧ (kₓ = 0 → tb (sg sₓ) 0 = true → τ 14 (e0ₓ sₓ) ≤ ln sₓ + τ 14 (e1ₓ sₓ)) ∧ (kₓ = 1 → tb (sg sₓ) 1 = true → τ 14 (e1ₓ sₓ) ≤ ln sₓ + τ 14 (e0ₓ sₓ))) → j_X12_spreads 0 nₓ 55 [mo', (sₓ : Int), ((kₓ + 1 : Nat) : Int)] τ = some (rₓ, τ') → (∀ qₓ kₓ : Nat, qₓ ≠ 14 → τ' qₓ kₓ = τ0 qₓ kₓ) ∧ HRS N K e0ₓ e1ₓ ln sg gₓ 100000000 (τ' 14) := fun mo' hmₓ qₓ => by
            refine ihₓ.2.2 mo' sₓ (kₓ + 1) τ hsₓ (by omega) hFₓ hIₓ (fun c0ₓ => ?_) qₓ
            obtain ⟨m1ₓ, m2ₓ, m3ₓ⟩ := hmₓ c0ₓ
            obtain ⟨d1ₓ, d2ₓ⟩ := hEₓ m1ₓ
            refine ⟨fun tₓ htₓ hbₓ => ?_, fun tₓ htₓ hbₓ => ?_⟩
            · by_cases pₓ : tₓ < sₓ ∨ (tₓ = sₓ ∧ 0 < kₓ)
              · exact d1ₓ tₓ pₓ hbₓ
              · have etₓ : tₓ = sₓ := by omega
                subst etₓ; exact m2ₓ (by omega) hbₓ
            · by_cases pₓ : tₓ < sₓ ∨ (tₓ = sₓ ∧ 1 < kₓ)
              · exact d2ₓ tₓ pₓ hbₓ
              · have etₓ : tₓ = sₓ := by omega
                subst etₓ; exact m3ₓ (by omega) hbₓ
          cases hbₓ : tb (sg sₓ) kₓ with
          | false =>
            rw [hbₓ, if_neg (by decide), mIf_pos rfl, mLet_e, ek] at qₓ
            exact more mo (fun c0ₓ => ⟨c0ₓ, (fun w1ₓ w2ₓ => by rw [w1ₓ] at hbₓ; rw [hbₓ] at w2ₓ; exact absurd w2ₓ (by decide)), (fun w1ₓ w2ₓ => by rw [w1ₓ] at hbₓ; rw [hbₓ] at w2ₓ; exact absurd w2ₓ (by decide))⟩) qₓ
          | true =>
            have heₓ : EDG N e0ₓ e1ₓ sg sₓ aₓ bₓ := by
              rcases habₓ with ⟨w1ₓ, w2ₓ, w3ₓ⟩ | ⟨w1ₓ, w2ₓ, w3ₓ⟩
              · rw [w1ₓ] at hbₓ; exact ⟨hsₓ, Or.inl ⟨hbₓ, w2ₓ, w3ₓ⟩⟩
              · rw [w1ₓ] at hbₓ; exact ⟨hsₓ, Or.inr ⟨hbₓ, w2ₓ, w3ₓ⟩⟩
            rw [hbₓ, if_pos rfl, mIf_neg (by decide), mRd_e, show (((aₓ : Nat) : Int)).toNat = aₓ by omega] at qₓ
            by_cases cl : τ 14 bₓ + ln sₓ < τ 14 aₓ
            · rw [mIf_pos cl, mWr_e, mLet_e, ek] at qₓ
              have ib := i2ₓ bₓ (by omega)
              have ia := i2ₓ aₓ (by omega)
              have hagₓ : aₓ ≠ gₓ := fun wₓ => by
                rw [wₓ, i1ₓ] at cl; omega
              refine ihₓ.2.2 1 sₓ (kₓ + 1) (upS τ 14 aₓ (τ 14 bₓ + ln sₓ)) hsₓ (by omega) (fun qₓ kₓ hqₓ => (upS_q hqₓ).trans (hFₓ qₓ kₓ hqₓ)) ⟨by rw [upS_k (fun wₓ => hagₓ wₓ.symm)]; exact i1ₓ, fun xₓ hxₓ => ?_, fun xₓ hxₓ hxgₓ hltₓ => ?_⟩ (fun c0ₓ => absurd c0ₓ (by decide)) qₓ
              · by_cases ex : xₓ = aₓ
                · subst ex; rw [upS_s]; omega
                · rw [upS_k ex]; exact i2ₓ xₓ hxₓ
              · have low : ∀ yₓ : Nat, upS τ 14 aₓ (τ 14 bₓ + ln sₓ) 14 yₓ ≤ τ 14 yₓ := fun yₓ => by
                  by_cases ey : yₓ = aₓ
                  · subst ey; rw [upS_s]; omega
                  · rw [upS_k ey]; exact Int.le_refl _
                by_cases ex : xₓ = aₓ
                · subst ex
                  refine ⟨sₓ, bₓ, heₓ, ?_⟩
                  rw [upS_s, upS_k (fun wₓ => hab2ₓ.2.2 wₓ.symm)]; omega
                · rw [upS_k ex] at hltₓ ⊢
                  obtain ⟨s'ₓ, b'ₓ, g1ₓ, g2ₓ⟩ := i3ₓ xₓ hxₓ hxgₓ hltₓ
                  have := low b'ₓ
                  exact ⟨s'ₓ, b'ₓ, g1ₓ, by omega⟩
            · rw [mIf_neg cl, mLet_e, ek] at qₓ
              refine more mo (fun c0ₓ => ⟨c0ₓ, fun w1ₓ _ => ?_, fun w1ₓ _ => ?_⟩) qₓ
              · rcases habₓ with ⟨z1ₓ, z2ₓ, z3ₓ⟩ | ⟨z1ₓ, z2ₓ, z3ₓ⟩
                · rw [z2ₓ, z3ₓ]; omega
                · exfalso; omega
              · rcases habₓ with ⟨z1ₓ, z2ₓ, z3ₓ⟩ | ⟨z1ₓ, z2ₓ, z3ₓ⟩
                · exfalso; omega
                · rw [z2ₓ, z3ₓ]; omega
        rw [mIf_neg k2ₓ] at eₓ
        rcases (show kₓ = 0 ∨ kₓ = 1 by omega) with h0ₓ | h0ₓ
        · subst h0ₓ
          rw [show m_X12_streetOf nₓ 0 (sₓ : Int) ((0 : Nat) : Int) τ = some (((e0ₓ sₓ : Nat) : Int), τ) from by rw [show ((0 : Nat) : Int) = 0 from rfl, r_so0, s12ₓ, t1ₓ], mCall_s, mLet_e, show (1 : Int) - ((0 : Nat) : Int) = 1 by decide, r_so1, mCall_s, s12ₓ, t2ₓ] at eₓ
          exact core (e0ₓ sₓ) (e1ₓ sₓ) (Or.inl ⟨rfl, rfl, rfl⟩) eₓ
        · subst h0ₓ
          rw [show m_X12_streetOf nₓ 0 (sₓ : Int) ((1 : Nat) : Int) τ = some (((e1ₓ sₓ : Nat) : Int), τ) from by rw [show ((1 : Nat) : Int) = 1 from rfl, r_so1, s12ₓ, t2ₓ], mCall_s, mLet_e, show (1 : Int) - ((1 : Nat) : Int) = 0 by decide, r_so0, mCall_s, s12ₓ, t1ₓ] at eₓ
          exact core (e1ₓ sₓ) (e0ₓ sₓ) (Or.inr ⟨rfl, rfl, rfl⟩) eₓ
theorem r_spr0 (hKₓ : K ≤ 10) (hSₓ : STR N K e0ₓ e1ₓ ln) (hTₓ : TKM τ0 N e0ₓ e1ₓ ln) (hsgₓ : ∀ sₓ : Nat, sₓ < N → τ0 13 sₓ = sg sₓ) (hgₓ : gₓ < K) : ∀ (nₓ xₓ : Nat) (τ : SS), xₓ ≤ 10 → (∀ qₓ kₓ : Nat, qₓ ≠ 14 → τ qₓ kₓ = τ0 qₓ kₓ) → (∀ kₓ : Nat, kₓ < xₓ → τ 14 kₓ = if kₓ = gₓ then 0 else 100000000) → j_X12_spreads 0 nₓ 2 [(gₓ : Int), (xₓ : Int)] τ = some (rₓ, τ') → (∀ qₓ kₓ : Nat, qₓ ≠ 14 → τ' qₓ kₓ = τ0 qₓ kₓ) ∧ HRS N K e0ₓ e1ₓ ln sg gₓ 100000000 (τ' 14) := by
  intro nₓ
  induction nₓ with
  | zero => intro xₓ τ _ _ _ eₓ; exact none_el eₓ
  | succ nₓ ihₓ =>
    intro xₓ τ hxₓ hFₓ hIₓ eₓ
    rw [e_X12_spreads_2] at eₓ
    unfold b_X12_spreads_2 b_X12_spreads_25 at eₓ
    have ex : (xₓ : Int) + 1 = ((xₓ + 1 : Nat) : Int) := by omega
    by_cases kₓ : (10 : Int) ≤ (xₓ : Int)
    · rw [mIf_pos kₓ] at eₓ
      refine (r_spr hKₓ hSₓ hTₓ hsgₓ hgₓ nₓ).1 1 τ hFₓ ⟨?_, fun aₓ haₓ => ?_, fun aₓ haₓ hagₓ hlₓ => ?_⟩ (fun c0ₓ => absurd c0ₓ (by decide)) eₓ
      · rw [hIₓ gₓ (by omega), if_pos rfl]
      · rw [hIₓ aₓ (by omega)]
        by_cases pₓ : aₓ = gₓ
        · rw [if_pos pₓ]; decide
        · rw [if_neg pₓ]; decide
      · rw [hIₓ aₓ (by omega), if_neg hagₓ] at hlₓ
        exact absurd hlₓ (by decide)
    · have goₓ : ∀ wₓ : Int, wₓ = (if xₓ = gₓ then 0 else 100000000) → j_X12_spreads 0 nₓ 2 [(gₓ : Int), ((xₓ + 1 : Nat) : Int)] (upS τ 14 xₓ wₓ) = some (rₓ, τ') → (∀ qₓ kₓ : Nat, qₓ ≠ 14 → τ' qₓ kₓ = τ0 qₓ kₓ) ∧ HRS N K e0ₓ e1ₓ ln sg gₓ 100000000 (τ' 14) := fun wₓ hwₓ qₓ => ihₓ (xₓ + 1) _ (by omega) (fun qₓ kₓ hqₓ => (upS_q hqₓ).trans (hFₓ qₓ kₓ hqₓ)) (fun kₓ hkₓ => by
        by_cases ek : kₓ = xₓ
        · subst ek; rw [upS_s]; exact hwₓ
        · rw [upS_k ek]; exact hIₓ kₓ (by omega)) qₓ
      rw [mIf_neg kₓ] at eₓ
      by_cases pₓ : (xₓ : Int) = (gₓ : Int)
      · rw [mIf_neg (fun qₓ => qₓ pₓ), mWr_e, mLet_e, show ((xₓ : Nat) : Int).toNat = xₓ by omega, ex] at eₓ
        exact goₓ 0 (by rw [if_pos (by omega)]) eₓ
      · rw [mIf_pos pₓ, mWr_e, mLet_e, show ((xₓ : Nat) : Int).toNat = xₓ by omega, ex] at eₓ
        exact goₓ 100000000 (by rw [if_neg (by omega)]) eₓ
theorem r_sf0 (hSₓ : STR N K e0ₓ e1ₓ ln) (hTₓ : TKM τ N e0ₓ e1ₓ ln) (hsgₓ : ∀ sₓ : Nat, sₓ < N → τ 13 sₓ = sg sₓ) (hlₓ : τ 14 aₓ < 100000000) : ∀ (nₓ sₓ : Nat), sₓ ≤ N → (∀ tₓ : Nat, tₓ < sₓ → ¬ PFS N e0ₓ e1ₓ ln sg 100000000 (τ 14) aₓ tₓ) → j_X12_streetFrom 0 nₓ 25 [(aₓ : Int), (sₓ : Int)] τ = some (rₓ, τ') → τ' = τ ∧ LSS (PFS N e0ₓ e1ₓ ln sg 100000000 (τ 14) aₓ) N rₓ := by
  intro nₓ
  induction nₓ with
  | zero => intro sₓ _ _ eₓ; exact none_el eₓ
  | succ nₓ ihₓ =>
    intro sₓ hsₓ hNₓ eₓ
    rw [e_X12_streetFrom_25] at eₓ
    unfold b_X12_streetFrom_25 b_X12_streetFrom_88 at eₓ
    rw [mRd_e, show τ 12 (1 : Int).toNat = (N : Int) from hTₓ.1] at eₓ
    by_cases kₓ : (N : Int) ≤ (sₓ : Int)
    · rw [mIf_pos kₓ, mRet_e] at eₓ
      obtain ⟨rfl, rfl⟩ := some_el eₓ
      exact ⟨rfl, Or.inl ⟨rfl, fun tₓ htₓ => hNₓ tₓ (by omega)⟩⟩
    · have hs2ₓ : sₓ < N := by omega
      have esₓ : (sₓ : Int) + 1 = ((sₓ + 1 : Nat) : Int) := by omega
      obtain ⟨q1ₓ, q2ₓ, q3ₓ, q4ₓ, q5ₓ⟩ := hSₓ sₓ hs2ₓ
      obtain ⟨t1ₓ, t2ₓ, t3ₓ⟩ := hTₓ.2 sₓ hs2ₓ
      have next : ¬ PFS N e0ₓ e1ₓ ln sg 100000000 (τ 14) aₓ sₓ → j_X12_streetFrom 0 nₓ 25 [(aₓ : Int), ((sₓ + 1 : Nat) : Int)] τ = some (rₓ, τ') → τ' = τ ∧ LSS (PFS N e0ₓ e1ₓ ln sg 100000000 (τ 14) aₓ) N rₓ := fun qₓ q2ₓ => ihₓ (sₓ + 1) (by omega) (fun tₓ htₓ => by
        by_cases etₓ : tₓ = sₓ
        · subst etₓ; exact qₓ
        · exact hNₓ tₓ (by omega)) q2ₓ
      rw [mIf_neg kₓ, r_isAt, mCall_s, t1ₓ, t2ₓ] at eₓ
      by_cases hatₓ : ((e0ₓ sₓ : Nat) : Int) = (aₓ : Int) ∨ ((e1ₓ sₓ : Nat) : Int) = (aₓ : Int)
      · obtain ⟨sd, bₓ, hsdₓ, hscₓ, habₓ, hoₓ⟩ : ∃ sd bₓ : Nat, sd < 2 ∧ sdC (τ 12) sₓ (aₓ : Int) = sd ∧ ((sd = 0 ∧ e0ₓ sₓ = aₓ ∧ e1ₓ sₓ = bₓ) ∨ (sd = 1 ∧ e1ₓ sₓ = aₓ ∧ e0ₓ sₓ = bₓ)) ∧ (if ((e0ₓ sₓ : Nat) : Int) = (aₓ : Int) then ((e1ₓ sₓ : Nat) : Int) else ((e0ₓ sₓ : Nat) : Int)) = (bₓ : Int) := by
          by_cases c0ₓ : e0ₓ sₓ = aₓ
          · exact ⟨0, e1ₓ sₓ, by decide, by unfold sdC; rw [t1ₓ, if_pos (by omega)], Or.inl ⟨rfl, c0ₓ, rfl⟩, by rw [if_pos (by omega)]⟩
          · exact ⟨1, e0ₓ sₓ, by decide, by unfold sdC; rw [t1ₓ, if_neg (by omega)], Or.inr ⟨rfl, by omega, rfl⟩, by rw [if_neg (by omega)]⟩
        rw [if_pos hatₓ, mIf_neg (by decide), mRd_e, show ((sₓ : Nat) : Int).toNat = sₓ by omega, hsgₓ sₓ hs2ₓ, r_hasSign, mCall_s, hscₓ] at eₓ
        cases hbₓ : tb (sg sₓ) sd with
        | false =>
          rw [hbₓ, if_neg (by decide), mIf_pos rfl, mLet_e, esₓ] at eₓ
          refine next (fun ⟨b'ₓ, b1ₓ, b2ₓ, b3ₓ⟩ => ?_) eₓ
          rcases b1ₓ.2 with ⟨w1ₓ, w2ₓ, w3ₓ⟩ | ⟨w1ₓ, w2ₓ, w3ₓ⟩
          · have e2ₓ : sd = 0 := by omega
            rw [e2ₓ, w1ₓ] at hbₓ; cases hbₓ
          · have e2ₓ : sd = 1 := by omega
            rw [e2ₓ, w1ₓ] at hbₓ; cases hbₓ
        | true =>
          have heₓ : EDG N e0ₓ e1ₓ sg sₓ aₓ bₓ := by
            rcases habₓ with ⟨w1ₓ, w2ₓ, w3ₓ⟩ | ⟨w1ₓ, w2ₓ, w3ₓ⟩
            · rw [w1ₓ] at hbₓ; exact ⟨hs2ₓ, Or.inl ⟨hbₓ, w2ₓ, w3ₓ⟩⟩
            · rw [w1ₓ] at hbₓ; exact ⟨hs2ₓ, Or.inr ⟨hbₓ, w2ₓ, w3ₓ⟩⟩
          rw [hbₓ, if_pos rfl, mIf_neg (by decide), r_so2, mCall_s, t3ₓ, r_otherOf, mCall_s, t1ₓ, t2ₓ, hoₓ, mRd_e, show (((bₓ : Nat) : Int)).toNat = bₓ by omega, mLet_e, mRd_e, show (((aₓ : Nat) : Int)).toNat = aₓ by omega] at eₓ
          by_cases c2ₓ : ln sₓ + τ 14 bₓ = τ 14 aₓ
          · rw [mIf_neg (fun qₓ => qₓ c2ₓ), mRet_e] at eₓ
            obtain ⟨rfl, rfl⟩ := some_el eₓ
            exact ⟨rfl, Or.inr ⟨sₓ, rfl, hs2ₓ, ⟨bₓ, heₓ, by omega, c2ₓ⟩, hNₓ⟩⟩
          · rw [mIf_pos c2ₓ, mLet_e, esₓ] at eₓ
            refine next (fun ⟨b'ₓ, b1ₓ, b2ₓ, b3ₓ⟩ => ?_) eₓ
            have eb : b'ₓ = bₓ := by
              rcases b1ₓ.2 with ⟨w1ₓ, w2ₓ, w3ₓ⟩ | ⟨w1ₓ, w2ₓ, w3ₓ⟩
              · omega
              · omega
            rw [eb] at b3ₓ
            exact c2ₓ b3ₓ
      · rw [if_neg hatₓ, mIf_pos rfl, mLet_e, esₓ] at eₓ
        refine next (fun ⟨b'ₓ, b1ₓ, b2ₓ, b3ₓ⟩ => ?_) eₓ
        rcases b1ₓ.2 with ⟨w1ₓ, w2ₓ, w3ₓ⟩ | ⟨w1ₓ, w2ₓ, w3ₓ⟩
        · exact hatₓ (Or.inl (by omega))
        · exact hatₓ (Or.inr (by omega))
/-- by, both sides -/
theorem f_by (hₓ : SRel 38 σ (τ 12)) (hGₓ : GD (τ 12)) (hAₓ : AId σ (τ 12 0).toNat (τ 12 1).toNat (fun sₓ => (τ 12 (10 + 10 * sₓ)).toNat) (fun sₓ => (τ 12 (11 + 10 * sₓ)).toNat) (fun sₓ => τ 12 (12 + 10 * sₓ))) (e1'ₓ : m_X11_by nₓ 0 xₓ yₓ zₓ vₓ σ = some (rₓ, σ')) (e2'ₓ : m_X12_by n'ₓ 0 xₓ yₓ zₓ vₓ τ = some (r'ₓ, τ')) : rₓ = r'ₓ := by
  have hXₓ := TKX_S hₓ hGₓ
  obtain ⟨g0ₓ, g1ₓ, -⟩ := id hGₓ.1
  obtain ⟨K, hKₓ⟩ : ∃ K : Nat, τ 12 0 = (K : Int) := ⟨(τ 12 0).toNat, by omega⟩
  obtain ⟨N, hNₓ⟩ : ∃ N : Nat, τ 12 1 = (N : Int) := ⟨(τ 12 1).toNat, by omega⟩
  have eK : (τ 12 0).toNat = K := by omega
  have eN : (τ 12 1).toNat = N := by omega
  rw [eK, eN] at hAₓ hXₓ
  have hMₓ : TKM τ N (fun sₓ => (τ 12 (10 + 10 * sₓ)).toNat) (fun sₓ => (τ 12 (11 + 10 * sₓ)).toNat) (fun sₓ => τ 12 (12 + 10 * sₓ)) := ⟨hNₓ, fun sₓ hsₓ => by
    obtain ⟨⟨a1ₓ, a2ₓ, a3ₓ, a4ₓ, a5ₓ⟩, -⟩ := hGₓ.2.1 sₓ (by omega)
    show τ 12 (10 + 10 * sₓ) = (((τ 12 (10 + 10 * sₓ)).toNat : Nat) : Int) ∧ τ 12 (11 + 10 * sₓ) = (((τ 12 (11 + 10 * sₓ)).toNat : Nat) : Int) ∧ τ 12 (12 + 10 * sₓ) = τ 12 (12 + 10 * sₓ)
    exact ⟨by omega, by omega, rfl⟩⟩
  generalize (fun sₓ => (τ 12 (10 + 10 * sₓ)).toNat) = e0ₓ at hAₓ hXₓ hMₓ
  generalize (fun sₓ => (τ 12 (11 + 10 * sₓ)).toNat) = e1ₓ at hAₓ hXₓ hMₓ
  generalize (fun sₓ => τ 12 (12 + 10 * sₓ)) = ln at hAₓ hXₓ hMₓ
  obtain ⟨k1ₓ, k2ₓ, hSₓ, hTₓ⟩ := id hXₓ
  unfold m_X11_by b_X11_by_35 at e1'ₓ
  unfold m_X12_by b_X12_by_35 at e2'ₓ
  rw [c_hasMap hₓ, mCall_s] at e1'ₓ
  rw [r_isMap, mCall_s] at e2'ₓ
  by_cases c1ₓ : 0 ≤ xₓ ∧ xₓ < τ 12 4
  · rw [if_pos c1ₓ, mIf_neg (by decide), c_hasCorner hₓ, mCall_s] at e1'ₓ
    rw [if_pos c1ₓ, mIf_neg (by decide), r_isCorner, mCall_s] at e2'ₓ
    by_cases c2ₓ : 0 ≤ yₓ ∧ yₓ < τ 12 0
    · rw [if_pos c2ₓ, mIf_neg (by decide), c_hasCorner hₓ, mCall_s] at e1'ₓ
      rw [if_pos c2ₓ, mIf_neg (by decide), r_isCorner, mCall_s] at e2'ₓ
      by_cases c3ₓ : 0 ≤ zₓ ∧ zₓ < τ 12 0
      · rw [if_pos c3ₓ, mIf_neg (by decide)] at e1'ₓ
        rw [if_pos c3ₓ, mIf_neg (by decide), mLet_e, r_in, mCall_s] at e2'ₓ
        by_cases c4ₓ : 0 ≤ vₓ ∧ vₓ ≤ 1
        · rw [mIf_neg (show ¬ vₓ < 0 by omega), mIf_pos c4ₓ.2] at e1'ₓ
          rw [if_pos c4ₓ, mIf_pos (by decide)] at e2'ₓ
          obtain ⟨mₓ, hmₓ⟩ : ∃ mₓ : Nat, xₓ = (mₓ : Int) := ⟨xₓ.toNat, by omega⟩
          obtain ⟨aₓ, haₓ⟩ : ∃ aₓ : Nat, yₓ = (aₓ : Int) := ⟨yₓ.toNat, by omega⟩
          obtain ⟨gₓ, hgₓ⟩ : ∃ gₓ : Nat, zₓ = (gₓ : Int) := ⟨zₓ.toNat, by omega⟩
          subst hmₓ; subst haₓ; subst hgₓ
          have r4ₓ := hₓ.2.2.2.2.1.1
          obtain ⟨x1ₓ, s7ₓ, d1ₓ, e1'ₓ⟩ := mCall_el e1'ₓ
          obtain ⟨-, -, hCₓ, -, hfₓ⟩ := AI_refresh hXₓ hAₓ (by omega) d1ₓ
          obtain ⟨x2ₓ, s10ₓ, d2ₓ, e2'ₓ⟩ := mCall_el e2'ₓ
          unfold m_X12_takesMap at d2ₓ
          obtain ⟨u1ₓ, u2ₓ⟩ := r_takes0 (mₓ := mₓ) hNₓ n'ₓ 0 τ (Nat.zero_le _) (fun _ _ _ => rfl) (fun tₓ htₓ => absurd htₓ (Nat.not_lt_zero _)) d2ₓ
          obtain ⟨x3ₓ, s11ₓ, d3ₓ, e2'ₓ⟩ := mCall_el e2'ₓ
          unfold m_X12_spreads at d3ₓ
          have hM10ₓ : TKM s10ₓ N e0ₓ e1ₓ ln := ⟨(u1ₓ 12 1 (by decide)).trans hMₓ.1, fun sₓ hsₓ => by
            rw [u1ₓ 12 _ (by decide), u1ₓ 12 _ (by decide), u1ₓ 12 _ (by decide)]; exact hMₓ.2 sₓ hsₓ⟩
          have hsgₓ : ∀ sₓ : Nat, sₓ < N → s10ₓ 13 sₓ = sgAt s7ₓ mₓ sₓ := fun sₓ hsₓ => by
            rw [u2ₓ sₓ hsₓ]
            unfold sgAt
            rw [if_pos (show mₓ < 4 by omega), hfₓ 48 _ (by decide) (by decide) (by decide)]
            exact (hₓ.2.2.2.2.2.1 mₓ sₓ (by omega) (by omega)).symm
          obtain ⟨v1ₓ, v2ₓ⟩ := r_spr0 (gₓ := gₓ) (sg := sgAt s7ₓ mₓ) k1ₓ hSₓ hM10ₓ hsgₓ (by omega) n'ₓ 0 s10ₓ (by decide) (fun _ _ _ => rfl) (fun kₓ hkₓ => absurd hkₓ (Nat.not_lt_zero _)) d3ₓ
          have hM11ₓ : TKM s11ₓ N e0ₓ e1ₓ ln := ⟨(v1ₓ 12 1 (by decide)).trans hM10ₓ.1, fun sₓ hsₓ => by
            rw [v1ₓ 12 _ (by decide), v1ₓ 12 _ (by decide), v1ₓ 12 _ (by decide)]; exact hM10ₓ.2 sₓ hsₓ⟩
          obtain ⟨hC1ₓ, hC2ₓ⟩ := hCₓ
          obtain ⟨p1ₓ, p2ₓ⟩ := hC1ₓ gₓ (by omega)
          have heqₓ := fun (aₓ : Nat) (haₓ : aₓ < K) => HRS_eq hSₓ p1ₓ p2ₓ v2ₓ haₓ
          have hqaₓ := heqₓ aₓ (by omega)
          have hq0ₓ : 0 ≤ MX s7ₓ mₓ aₓ gₓ := (p1ₓ.2.1 aₓ (by omega)).1
          have hmxₓ : s7ₓ 146 (100 * mₓ + 10 * aₓ + gₓ) = MX s7ₓ mₓ aₓ gₓ := rfl
          have fst := hC2ₓ aₓ gₓ (by omega) (by omega)
          have fst2 := LSS_c fst (fun sₓ _ => (PFS_eq (sₓ := sₓ) hSₓ heqₓ (fun aₓ haₓ => (p1ₓ.2.1 aₓ haₓ).1) (show aₓ < K by omega)).symm)
          have kt : (((100 * mₓ + 10 * aₓ + gₓ : Nat) : Int)).toNat = 100 * mₓ + 10 * aₓ + gₓ := by omega
          rw [mRd_e, show (((aₓ : Nat) : Int)).toNat = aₓ by omega] at e2'ₓ
          rcases hqaₓ with ⟨w1ₓ, w2ₓ⟩ | ⟨w1ₓ, w2ₓ⟩
          · have w1'ₓ : MX s7ₓ mₓ aₓ gₓ ≤ 9216 := w1ₓ
            have w2'ₓ : s11ₓ 14 aₓ = MX s7ₓ mₓ aₓ gₓ := w2ₓ
            have n1ₓ : ¬ s11ₓ 14 aₓ = 100000000 := by omega
            rw [mIf_pos n1ₓ] at e2'ₓ
            obtain ⟨x13ₓ, s14ₓ, d4ₓ, e2'ₓ⟩ := mCall_el e2'ₓ
            have hlₓ : LSS (PFS N e0ₓ e1ₓ ln (sgAt s7ₓ mₓ) 100000000 (s11ₓ 14) aₓ) N x13ₓ ∧ s14ₓ = s11ₓ := by
              unfold m_X12_streetFrom b_X12_streetFrom_21 at d4ₓ
              rw [mRd_e, show (((aₓ : Nat) : Int)).toNat = aₓ by omega] at d4ₓ
              by_cases z0ₓ : s11ₓ 14 aₓ = 0
              · rw [mIf_pos z0ₓ, mRet_e] at d4ₓ
                obtain ⟨d5ₓ, d6ₓ⟩ := some_el d4ₓ
                refine ⟨Or.inl ⟨d5ₓ, fun sₓ hsₓ ⟨bₓ, b1ₓ, b2ₓ, b3ₓ⟩ => ?_⟩, d6ₓ⟩
                have q5ₓ := EDG_K hSₓ b1ₓ
                have q6ₓ := v2ₓ.2.1 bₓ q5ₓ.2.1
                omega
              · rw [mIf_neg z0ₓ, mRd_e, mIf_pos n1ₓ] at d4ₓ
                obtain ⟨d5ₓ, d6ₓ⟩ := r_sf0 hSₓ hM11ₓ (fun sₓ hsₓ => (v1ₓ 13 sₓ (by decide)).trans (hsgₓ sₓ hsₓ)) (by omega) n'ₓ 0 (Nat.zero_le _) (fun tₓ htₓ => absurd htₓ (Nat.not_lt_zero _)) d4ₓ
                exact ⟨d6ₓ, d5ₓ⟩
            have ef : s7ₓ 147 (100 * mₓ + 10 * aₓ + gₓ) = x13ₓ := LSS_det fst2 hlₓ.1
            by_cases cv : vₓ = 0
            · rw [mIf_neg (fun qₓ => qₓ cv)] at e1'ₓ
              rw [mIf_neg (fun qₓ => qₓ cv), hlₓ.2, mRd_e, mRet_e] at e2'ₓ
              unfold m_X0_hoursBy at e1'ₓ
              rw [c_spot, mCall_s, mRd_e, kt, hmxₓ, mIf_pos (show MX s7ₓ mₓ aₓ gₓ < 1000000 by omega), mRet_e, mCall_s, mIf_pos (show ¬ MX s7ₓ mₓ aₓ gₓ = -1 by omega), mRet_e] at e1'ₓ
              rw [(some_el e1'ₓ).1, (some_el e2'ₓ).1, w2'ₓ]
            · rw [mIf_pos cv] at e1'ₓ
              rw [mIf_pos cv] at e2'ₓ
              unfold m_X0_streetBy at e1'ₓ
              rw [c_spot, mCall_s, mRd_e, kt, ef, mRet_e, mCall_s] at e1'ₓ
              rcases hlₓ.1 with ⟨y1ₓ, -⟩ | ⟨sₓ, y1ₓ, -⟩
              · rw [y1ₓ, mIf_neg (fun qₓ => qₓ rfl), mRet_e] at e1'ₓ
                rw [y1ₓ, mIf_neg (by decide), mRet_e] at e2'ₓ
                exact (some_el e1'ₓ).1.trans (some_el e2'ₓ).1.symm
              · rw [y1ₓ, mIf_pos (show ¬ (sₓ : Int) = -1 by omega), mRet_e] at e1'ₓ
                rw [y1ₓ, mIf_pos (show (0 : Int) ≤ (sₓ : Int) by omega), mRet_e] at e2'ₓ
                exact (some_el e1'ₓ).1.trans (some_el e2'ₓ).1.symm
          · have w1'ₓ : MX s7ₓ mₓ aₓ gₓ = 1000000 := w1ₓ
            have w2'ₓ : s11ₓ 14 aₓ = 100000000 := w2ₓ
            rw [mIf_neg (fun qₓ => qₓ w2'ₓ), mRet_e] at e2'ₓ
            by_cases cv : vₓ = 0
            · rw [mIf_neg (fun qₓ => qₓ cv)] at e1'ₓ
              unfold m_X0_hoursBy at e1'ₓ
              rw [c_spot, mCall_s, mRd_e, kt, hmxₓ, mIf_neg (show ¬ MX s7ₓ mₓ aₓ gₓ < 1000000 by omega), mRet_e, mCall_s, mIf_neg (fun qₓ => qₓ rfl), mRet_e] at e1'ₓ
              exact (some_el e1'ₓ).1.trans (some_el e2'ₓ).1.symm
            · rw [mIf_pos cv] at e1'ₓ
              unfold m_X0_streetBy at e1'ₓ
              rw [c_spot, mCall_s, mRd_e, kt, mRet_e, mCall_s] at e1'ₓ
              rcases fst with ⟨y1ₓ, -⟩ | ⟨sₓ, y1ₓ, y2ₓ, ⟨bₓ, b1ₓ, b2ₓ, b3ₓ⟩, -⟩
              · rw [y1ₓ, mIf_neg (fun qₓ => qₓ rfl), mRet_e] at e1'ₓ
                exact (some_el e1'ₓ).1.trans (some_el e2'ₓ).1.symm
              · exfalso
                have q5ₓ := EDG_K hSₓ b1ₓ
                have q6ₓ := p2ₓ bₓ q5ₓ.2.1 b2ₓ
                have q7ₓ : ln sₓ + MX s7ₓ mₓ bₓ gₓ = MX s7ₓ mₓ aₓ gₓ := b3ₓ
                have q8ₓ : MX s7ₓ mₓ bₓ gₓ ≤ 9216 := q6ₓ
                omega
        · rw [if_neg c4ₓ, mIf_neg (fun qₓ => qₓ rfl), mRet_e] at e2'ₓ
          by_cases c5ₓ : vₓ < 0
          · rw [mIf_pos c5ₓ, mRet_e] at e1'ₓ; exact (some_el e1'ₓ).1.trans (some_el e2'ₓ).1.symm
          · rw [mIf_neg c5ₓ, mIf_neg (show ¬ vₓ ≤ 1 by omega), mRet_e] at e1'ₓ; exact (some_el e1'ₓ).1.trans (some_el e2'ₓ).1.symm
      · rw [if_neg c3ₓ, mIf_pos rfl, mRet_e] at e1'ₓ
        rw [if_neg c3ₓ, mIf_pos rfl, mRet_e] at e2'ₓ
        exact (some_el e1'ₓ).1.trans (some_el e2'ₓ).1.symm
    · rw [if_neg c2ₓ, mIf_pos rfl, mRet_e] at e1'ₓ
      rw [if_neg c2ₓ, mIf_pos rfl, mRet_e] at e2'ₓ
      exact (some_el e1'ₓ).1.trans (some_el e2'ₓ).1.symm
  · rw [if_neg c1ₓ, mIf_pos rfl, mRet_e] at e1'ₓ
    rw [if_neg c1ₓ, mIf_pos rfl, mRet_e] at e2'ₓ
    exact (some_el e1'ₓ).1.trans (some_el e2'ₓ).1.symm
end
