/-! one step, at both sides -/
def nthR (R : List (Int × Nat × Bool × Nat)) (cₓ : Nat) : Int × Nat × Bool × Nat := R.getD (R.length - 1 - cₓ) (0, 0, false, 0)
theorem nthR_old {xₓ : Int × Nat × Bool × Nat} {R : List (Int × Nat × Bool × Nat)} {cₓ : Nat} (hₓ : cₓ < R.length) : nthR (xₓ :: R) cₓ = nthR R cₓ := by
  unfold nthR
  rw [List.length_cons, show R.length + 1 - 1 - cₓ = (R.length - 1 - cₓ) + 1 by omega]; rfl
theorem nthR_new {xₓ : Int × Nat × Bool × Nat} {R : List (Int × Nat × Bool × Nat)} : nthR (xₓ :: R) R.length = xₓ := by
  unfold nthR
  rw [List.length_cons, show R.length + 1 - 1 - R.length = 0 by omega]; rfl
theorem CRMR_n {de stₓ cl : Nat → Int} : ∀ {R : List (Int × Nat × Bool × Nat)}, CR de stₓ R → MR cl R → ∀ cₓ : Nat, cₓ < R.length → nthR R cₓ ∈ R ∧ de cₓ = (nthR R cₓ).1 ∧ stₓ cₓ = ((nthR R cₓ).2.1 : Int) ∧ stₓ (cₓ + 1) = ((nthR R cₓ).2.2.2 : Int) ∧ cl (3 * cₓ) = (nthR R cₓ).1 ∧ cl (3 * cₓ + 1) = (if (nthR R cₓ).2.2.1 = true then ((nthR R cₓ).2.1 : Int) else -1) ∧ cl (3 * cₓ + 2) = ((nthR R cₓ).2.2.2 : Int)
  | [], _, _, cₓ, hcₓ => absurd hcₓ (Nat.not_lt_zero _)
  | xₓ :: R, hₓ, gₓ, cₓ, hcₓ => by
    rw [List.length_cons] at hcₓ
    by_cases eₓ : cₓ = R.length
    · subst eₓ; rw [nthR_new]; exact ⟨List.mem_cons_self, hₓ.1, hₓ.2.1, hₓ.2.2.1, gₓ.1, gₓ.2.1, gₓ.2.2.1⟩
    · obtain ⟨q1ₓ, qₓ⟩ := CRMR_n hₓ.2.2.2 gₓ.2.2.2 cₓ (by omega)
      rw [nthR_old (by omega)]
      exact ⟨List.mem_cons_of_mem _ q1ₓ, qₓ⟩
theorem RQ.un {iₓ : Nat} {σ τ : SS} (hₓ : RQ iₓ σ τ) : ∃ (O : List Int) (R : List (Int × Nat × Bool × Nat)), R.length ≤ 12 ∧ σ (5 + 4 * iₓ) 4 = (R.length : Int) ∧ τ 5 iₓ = (R.length : Int) ∧ CODE (5 + 4 * iₓ) iₓ O σ τ ∧ ∀ cₓ : Nat, cₓ < R.length → CLZ (5 + 4 * iₓ) iₓ O σ τ cₓ (nthR R cₓ) ∧ YOK O (nthR R cₓ) ∧ (nthR R cₓ).1 < 4 ∧ ((nthR R cₓ).1 = 1 → σ (5 + 4 * iₓ) 5 ≠ 0) := by
  obtain ⟨O, R, ⟨d1ₓ, ⟨d2ₓ, d3ₓ, d4ₓ⟩, d5ₓ, d6ₓ⟩, a2ₓ, a3ₓ, a4ₓ, a5ₓ, a6ₓ, a7ₓ⟩ := hₓ
  refine ⟨O, R, a3ₓ, d1ₓ, a6ₓ, fun jₓ hjₓ => ⟨Put_nth d3ₓ jₓ hjₓ, ?_, a4ₓ.1 _ (nthO_mem hjₓ)⟩, fun cₓ hcₓ => ?_⟩
  · have := Put_nth a5ₓ jₓ hjₓ
    rw [← this]
    show τ 2 (400 * iₓ + jₓ) = τ 2 (400 * (iₓ : Int) + (jₓ : Int)).toNat
    congr 1 <;> omega
  · obtain ⟨q0ₓ, q1ₓ, q2ₓ, q3ₓ, q4ₓ, q5ₓ, q6ₓ⟩ := CRMR_n d5ₓ a7ₓ cₓ hcₓ
    have e0ₓ : (36 * (iₓ : Int) + ((3 * cₓ : Nat) : Int)).toNat = 36 * iₓ + 3 * cₓ := by omega
    have e1ₓ : (36 * (iₓ : Int) + ((3 * cₓ + 1 : Nat) : Int)).toNat = 36 * iₓ + 3 * cₓ + 1 := by omega
    have e2ₓ : (36 * (iₓ : Int) + ((3 * cₓ + 2 : Nat) : Int)).toNat = 36 * iₓ + 3 * cₓ + 2 := by omega
    have q4'ₓ : τ 4 (36 * (iₓ : Int) + ((3 * cₓ : Nat) : Int)).toNat = (nthR R cₓ).1 := q4ₓ
    have q5'ₓ : τ 4 (36 * (iₓ : Int) + ((3 * cₓ + 1 : Nat) : Int)).toNat = (if (nthR R cₓ).2.2.1 = true then ((nthR R cₓ).2.1 : Int) else -1) := q5ₓ
    have q6'ₓ : τ 4 (36 * (iₓ : Int) + ((3 * cₓ + 2 : Nat) : Int)).toNat = ((nthR R cₓ).2.2.2 : Int) := q6ₓ
    rw [e0ₓ] at q4'ₓ
    rw [e1ₓ] at q5'ₓ
    rw [e2ₓ] at q6'ₓ
    exact ⟨⟨q1ₓ, q2ₓ, q3ₓ, q4'ₓ, q5'ₓ, q6'ₓ⟩, a4ₓ.2 _ q0ₓ, (d6ₓ _ q0ₓ).2, (d6ₓ _ q0ₓ).1⟩
section
variable {D : Nat → Int} {σ σ' σ0 τ τ' τ0 : SS} {rₓ xₓ yₓ vₓ : Int} {nₓ iₓ cₓ sₓ aₓ gₓ tₓ N K M dₓ mₓ : Nat} {O : List Int} {R : List (Int × Nat × Bool × Nat)} {wv : Int → Int} {goₓ asd ask : Prop}
theorem CLZ_f {qr : Nat} {yₓ : Int × Nat × Bool × Nat} (hₓ : CLZ qr iₓ O σ τ cₓ yₓ) (hₓσ : FCt σ σ') (hₓτ : ∀ kₓ : Nat, τ' 4 kₓ = τ 4 kₓ) (hqₓ : 5 ≤ qr) (hq1ₓ : qr < 100) : CLZ qr iₓ O σ' τ' cₓ yₓ := by
  obtain ⟨h1ₓ, h2ₓ, h3ₓ, h4ₓ, h5ₓ, h6ₓ⟩ := hₓ
  exact ⟨(hₓσ _ _ (by omega) (by omega)).trans h1ₓ, (hₓσ _ _ (by omega) (by omega)).trans h2ₓ, (hₓσ _ _ (by omega) (by omega)).trans h3ₓ, (hₓτ _).trans h4ₓ, (hₓτ _).trans h5ₓ, (hₓτ _).trans h6ₓ⟩
theorem CODE_f {qr : Nat} (hₓ : CODE qr iₓ O σ τ) (hₓσ : FCt σ σ') (hₓτ : ∀ kₓ : Nat, τ' 2 kₓ = τ 2 kₓ) (hqₓ : 5 ≤ qr) (hq1ₓ : qr < 100) : CODE qr iₓ O σ' τ' := fun jₓ hjₓ => by
  obtain ⟨h1ₓ, h2ₓ, h3ₓ⟩ := hₓ jₓ hjₓ
  exact ⟨(hₓσ _ _ (by omega) (by omega)).trans h1ₓ, (hₓτ _).trans h2ₓ, h3ₓ⟩
theorem c_choose0 {qr L : Nat} (hq0ₓ : 5 ≤ qr) (hq1ₓ : qr < 100) (hLₓ : σ0 qr 4 = (L : Int)) (hKₓ : CODE qr iₓ O σ0 τ) (hYₓ : ∀ cₓ : Nat, cₓ < L → CLZ qr iₓ O σ0 τ cₓ (nthR R cₓ) ∧ YOK O (nthR R cₓ)) (hiₓ : iₓ < 6) (hclₓ : τ 5 iₓ = (L : Int)) (hPₓ : DPs τ) (h9ₓ : σ0 149 9 = 0) (hgₓ : (σ0 149 6 = 1 ∧ goₓ) ∨ (σ0 149 6 = 0 ∧ ¬ goₓ)) (haₓ : ∀ cₓ : Nat, cₓ < L → (nthR R cₓ).1 = 1 → ((σ0 149 7 = -1 ∧ ¬ asd) ∨ (σ0 149 7 ≠ -1 ∧ asd))) (hkₓ : (σ0 1152 8 = σ0 1152 4 / 24 ∧ ¬ ask) ∨ (σ0 1152 8 ≠ σ0 1152 4 / 24 ∧ ask)) (hwvₓ : ∀ kₓ : Int, 0 ≤ kₓ → kₓ < 10 → wvF (σ0 1152 4) (σ0 152 0) (σ0 152 1) (if σ0 149 6 = 0 then 1 else 0) (σ0 149 8) (σ0 152 5) (σ0 152 6) (σ0 152 7) kₓ = wv kₓ) : ∀ (nₓ cₓ : Nat) (σ : SS), cₓ ≤ L → FCt σ0 σ → j_X1_chooseDeed 149 152 qr nₓ 2 [(cₓ : Int)] σ = some (rₓ, σ') → FCt σ0 σ' ∧ CHO (fun cₓ => mayP goₓ asd ask (nthR R cₓ).1 ∧ tstP wv O (nthR R cₓ)) (fun cₓ => (nthR R cₓ).1) L cₓ rₓ := by
  intro nₓ
  induction nₓ with
  | zero => intro cₓ σ hcₓ hFₓ eₓ; exact none_el eₓ
  | succ nₓ ihₓ =>
    intro cₓ σ hcₓ hFₓ eₓ
    rw [e_X1_chooseDeed_2] at eₓ
    unfold b_X1_chooseDeed_2 b_X1_chooseDeed_40 m_X2_deedOf at eₓ
    rw [mRd_e, (hFₓ _ _ (by omega) (by omega)).trans hLₓ] at eₓ
    by_cases c1ₓ : (L : Int) ≤ (cₓ : Int)
    · rw [mIf_pos c1ₓ, mRet_e] at eₓ
      obtain ⟨rfl, rfl⟩ := some_el eₓ
      exact ⟨hFₓ, Or.inl ⟨rfl, fun xₓ aₓ bₓ => by omega⟩⟩
    · obtain ⟨y1ₓ, y2ₓ⟩ := hYₓ cₓ (by omega)
      have y3ₓ := CLZ_f (τ' := τ) y1ₓ hFₓ (fun _ => rfl) hq0ₓ hq1ₓ
      rw [mIf_neg c1ₓ, mRd_e, show ((cₓ : Int)).toNat = cₓ by omega, y3ₓ.1, mRet_e, mCall_s] at eₓ
      obtain ⟨r1ₓ, s1ₓ, e1ₓ, eₓ⟩ := mCall_el eₓ
      obtain ⟨esₓ, h1ₓ⟩ := c_mayDo (goₓ := goₓ) (asd := asd) (ask := ask) ((hFₓ _ _ (by decide) (by decide)).trans h9ₓ) (by rw [hFₓ 149 6 (by decide) (by decide)]; exact hgₓ) (fun qₓ => by rw [hFₓ 149 7 (by decide) (by decide)]; exact haₓ cₓ (by omega) qₓ) (by rw [hFₓ 1152 8 (by decide) (by decide), hFₓ 1152 4 (by decide) (by decide)]; exact hkₓ) e1ₓ
      rw [esₓ] at eₓ
      have nx : ∀ σ1 : SS, FCt σ0 σ1 → ¬ (mayP goₓ asd ask (nthR R cₓ).1 ∧ tstP wv O (nthR R cₓ)) → (mLet ((cₓ : Int) + 1) fun x1ₓ => j_X1_chooseDeed 149 152 qr nₓ 2 [x1ₓ] σ1) = some (rₓ, σ') → FCt σ0 σ' ∧ CHO (fun cₓ => mayP goₓ asd ask (nthR R cₓ).1 ∧ tstP wv O (nthR R cₓ)) (fun cₓ => (nthR R cₓ).1) L cₓ rₓ := by
        intro σ1 hF1ₓ hnₓ eₓ
        rw [mLet_e, show (cₓ : Int) + 1 = ((cₓ + 1 : Nat) : Int) by omega] at eₓ
        obtain ⟨i1ₓ, i2ₓ⟩ := ihₓ (cₓ + 1) σ1 (by omega) hF1ₓ eₓ
        exact ⟨i1ₓ, CHO_skip hnₓ i2ₓ⟩
      rcases h1ₓ with ⟨rfl, h1ₓ⟩ | ⟨rfl, h1ₓ⟩
      · rw [mIf_neg (by decide)] at eₓ
        obtain ⟨r2ₓ, s2ₓ, e2ₓ, eₓ⟩ := mCall_el eₓ
        obtain ⟨z1ₓ, z2ₓ⟩ := c_holdsT (wv := wv) hq0ₓ hq1ₓ (CODE_f (τ' := τ) hKₓ hFₓ (fun _ => rfl) hq0ₓ hq1ₓ) y3ₓ y2ₓ hiₓ (by omega) hPₓ ((hFₓ _ _ (by decide) (by decide)).trans h9ₓ) (fun kₓ k0ₓ k1ₓ => by
          rw [hFₓ 1152 4 (by decide) (by decide), hFₓ 152 0 (by decide) (by decide), hFₓ 152 1 (by decide) (by decide), hFₓ 149 6 (by decide) (by decide), hFₓ 149 8 (by decide) (by decide), hFₓ 152 5 (by decide) (by decide), hFₓ 152 6 (by decide) (by decide), hFₓ 152 7 (by decide) (by decide)]
          exact hwvₓ kₓ k0ₓ k1ₓ) e2ₓ
        rcases z2ₓ with ⟨rfl, z2ₓ⟩ | ⟨rfl, z2ₓ⟩
        · rw [mIf_neg (by decide), mRet_e] at eₓ
          obtain ⟨rfl, rfl⟩ := some_el eₓ
          exact ⟨hFₓ.tr z1ₓ, Or.inr ⟨cₓ, Nat.le_refl _, by omega, ⟨h1ₓ, z2ₓ⟩, fun zₓ aₓ bₓ => by omega, rfl⟩⟩
        · rw [mIf_pos rfl] at eₓ
          exact nx _ (hFₓ.tr z1ₓ) (fun qₓ => z2ₓ qₓ.2) eₓ
      · rw [mIf_pos rfl] at eₓ
        exact nx _ hFₓ (fun qₓ => h1ₓ qₓ.1) eₓ
theorem r_doing0 {qr L : Nat} (hKₓ : CODE qr iₓ O σ τ0) (hYₓ : ∀ cₓ : Nat, cₓ < L → CLZ qr iₓ O σ τ0 cₓ (nthR R cₓ) ∧ YOK O (nthR R cₓ)) (hclₓ : τ0 5 iₓ = (L : Int)) (hsₓ : ¬ τ0 0 27 = 0) (h30ₓ : τ0 0 30 = 0) (h1ₓ : τ0 12 1 = (N : Int)) (haₓ : τ0 12 216 = (aₓ : Int)) (htₓ : τ0 12 220 = (tₓ : Int)) (hAₓ : -1 ≤ τ0 0 31) (hv : ∀ kₓ : Nat, kₓ < 10 → τ0 1011 kₓ = wv (kₓ : Int)) : ∀ (nₓ cₓ : Nat) (τ : SS), cₓ ≤ L → FRt τ0 τ → j_X12_doing 0 nₓ 32 [0, (iₓ : Int), (cₓ : Int)] τ = some (rₓ, τ') → FRt τ0 τ' ∧ CHO (fun cₓ => mayP (GOA (τ0 12) (τ0 0 31) aₓ tₓ) (∃ uₓ : Nat, uₓ < N ∧ OPA (τ0 12) uₓ aₓ tₓ) (τ0 12 224 ≠ (tₓ : Int) / 24) (nthR R cₓ).1 ∧ tstP wv O (nthR R cₓ)) (fun cₓ => (nthR R cₓ).1) L cₓ rₓ := by
  intro nₓ
  induction nₓ with
  | zero => intro cₓ τ hcₓ hFₓ eₓ; exact none_el eₓ
  | succ nₓ ihₓ =>
    intro cₓ τ hcₓ hFₓ eₓ
    rw [e_X12_doing_32] at eₓ
    unfold b_X12_doing_32 b_X12_doing_107 b_X12_doing_115 at eₓ
    have h12ₓ : τ 12 = τ0 12 := funext fun kₓ => hFₓ 12 kₓ (by decide) (by omega)
    have h31ₓ : τ 0 31 = τ0 0 31 := hFₓ 0 31 (by decide) (by decide)
    rw [mRd_e, show ((iₓ : Int)).toNat = iₓ by omega, (hFₓ 5 iₓ (by decide) (by omega)).trans hclₓ] at eₓ
    by_cases c1ₓ : (L : Int) ≤ (cₓ : Int)
    · rw [mIf_pos c1ₓ, mRet_e] at eₓ
      obtain ⟨rfl, rfl⟩ := some_el eₓ
      exact ⟨hFₓ, Or.inl ⟨rfl, fun xₓ aₓ bₓ => by omega⟩⟩
    · obtain ⟨⟨y1ₓ, y2ₓ, y3ₓ, y4ₓ, y5ₓ, y6ₓ⟩, yo⟩ := hYₓ cₓ (by omega)
      have k0ₓ : (36 * (iₓ : Int) + 3 * (cₓ : Int)).toNat = 36 * iₓ + 3 * cₓ := by omega
      have k1ₓ : (36 * (iₓ : Int) + 3 * (cₓ : Int) + 1).toNat = 36 * iₓ + 3 * cₓ + 1 := by omega
      have k2ₓ : (36 * (iₓ : Int) + 3 * (cₓ : Int) + 2).toNat = 36 * iₓ + 3 * cₓ + 2 := by omega
      rw [mIf_neg c1ₓ, mLet_e, mLet_e, mLet_e, mRd_e, k0ₓ, (hFₓ 4 _ (by decide) (by omega)).trans y4ₓ] at eₓ
      obtain ⟨r1ₓ, s1ₓ, e1ₓ, eₓ⟩ := mCall_el eₓ
      obtain ⟨esₓ, hmₓ⟩ := r_mayDo (N := N) (aₓ := aₓ) (tₓ := tₓ) (by rw [hFₓ 0 27 (by decide) (by decide)]; exact hsₓ) (by rw [hFₓ 0 30 (by decide) (by decide)]; exact h30ₓ) (by rw [h12ₓ]; exact h1ₓ) (by rw [h12ₓ]; exact haₓ) (by rw [h12ₓ]; exact htₓ) (by rw [h31ₓ]; exact hAₓ) e1ₓ
      rw [esₓ] at eₓ
      rw [h12ₓ, h31ₓ] at hmₓ
      have nx : ∀ τ1 : SS, FRt τ0 τ1 → ¬ (mayP (GOA (τ0 12) (τ0 0 31) aₓ tₓ) (∃ uₓ : Nat, uₓ < N ∧ OPA (τ0 12) uₓ aₓ tₓ) (τ0 12 224 ≠ (tₓ : Int) / 24) (nthR R cₓ).1 ∧ tstP wv O (nthR R cₓ)) → (mLet ((cₓ : Int) + 1) fun x1ₓ => j_X12_doing 0 nₓ 32 [0, (iₓ : Int), x1ₓ] τ1) = some (rₓ, τ') → FRt τ0 τ' ∧ CHO (fun cₓ => mayP (GOA (τ0 12) (τ0 0 31) aₓ tₓ) (∃ uₓ : Nat, uₓ < N ∧ OPA (τ0 12) uₓ aₓ tₓ) (τ0 12 224 ≠ (tₓ : Int) / 24) (nthR R cₓ).1 ∧ tstP wv O (nthR R cₓ)) (fun cₓ => (nthR R cₓ).1) L cₓ rₓ := by
        intro τ1 hF1ₓ hnₓ eₓ
        rw [mLet_e, show (cₓ : Int) + 1 = ((cₓ + 1 : Nat) : Int) by omega] at eₓ
        obtain ⟨i1ₓ, i2ₓ⟩ := ihₓ (cₓ + 1) τ1 (by omega) hF1ₓ eₓ
        exact ⟨i1ₓ, CHO_skip hnₓ i2ₓ⟩
      rcases hmₓ with ⟨rfl, hmₓ⟩ | ⟨rfl, hmₓ⟩
      · rw [mIf_neg (by decide), mLet_e, mRd_e, k1ₓ, (hFₓ 4 _ (by decide) (by omega)).trans y5ₓ] at eₓ
        cases hbₓ : (nthR R cₓ).2.2.1 with
        | false =>
          rw [hbₓ, if_neg (by decide), mIf_pos (by decide), mRd_e, (hFₓ 4 _ (by decide) (by omega)).trans y4ₓ, mRet_e] at eₓ
          obtain ⟨rfl, rfl⟩ := some_el eₓ
          exact ⟨hFₓ, Or.inr ⟨cₓ, Nat.le_refl _, by omega, ⟨hmₓ, fun qₓ => by rw [hbₓ] at qₓ; cases qₓ⟩, fun zₓ aₓ bₓ => by omega, rfl⟩⟩
        | true =>
          rw [hbₓ, if_pos rfl, mIf_neg (by omega), mLet_e, mRd_e, k1ₓ, (hFₓ 4 _ (by decide) (by omega)).trans y5ₓ, hbₓ, if_pos rfl, mLet_e, mRd_e, k2ₓ, (hFₓ 4 _ (by decide) (by omega)).trans y6ₓ] at eₓ
          obtain ⟨r2ₓ, s2ₓ, e2ₓ, eₓ⟩ := mCall_el eₓ
          have hK2ₓ : CODE qr iₓ O σ τ := fun jₓ hjₓ => by
            obtain ⟨q1ₓ, q2ₓ, q3ₓ⟩ := hKₓ jₓ hjₓ
            exact ⟨q1ₓ, (hFₓ 2 _ (by decide) (by omega)).trans q2ₓ, q3ₓ⟩
          obtain ⟨z1ₓ, z2ₓ⟩ := r_testT (wv := wv) hK2ₓ yo hbₓ (fun kₓ hkₓ => (hFₓ 1011 kₓ (by decide) (by omega)).trans (hv kₓ hkₓ)) e2ₓ
          by_cases c2ₓ : r2ₓ = 1
          · rw [mIf_neg (fun qₓ => qₓ c2ₓ), mRd_e, z1ₓ 4 _ (by decide) (by omega), (hFₓ 4 _ (by decide) (by omega)).trans y4ₓ, mRet_e] at eₓ
            obtain ⟨rfl, rfl⟩ := some_el eₓ
            exact ⟨hFₓ.tr z1ₓ, Or.inr ⟨cₓ, Nat.le_refl _, by omega, ⟨hmₓ, z2ₓ.mp c2ₓ⟩, fun zₓ aₓ bₓ => by omega, rfl⟩⟩
          · rw [mIf_pos c2ₓ] at eₓ
            exact nx _ (hFₓ.tr z1ₓ) (fun qₓ => c2ₓ (z2ₓ.mpr qₓ.2)) eₓ
      · rw [mIf_pos rfl] at eₓ
        exact nx _ hFₓ (fun qₓ => hmₓ qₓ.1) eₓ
/-! following aₓ street -/
theorem c_follow (hCₓ : COs D σ sₓ) (hatₓ : OPA D sₓ aₓ tₓ) (haₓ : σ 152 0 = (aₓ : Int)) (eₓ : m_X1_follow nₓ 149 152 (sₓ : Int) σ = some (rₓ, σ')) : σ' = upS (upS (upS σ 152 7 (aₓ : Int)) 152 0 (if D (10 + 10 * sₓ) = (aₓ : Int) then D (11 + 10 * sₓ) else D (10 + 10 * sₓ))) 1152 4 (σ 1152 4 + D (12 + 10 * sₓ)) := by
  have h0ₓ : σ (39 + 1) (2 * sₓ) = D (10 + 10 * sₓ) := hCₓ.1.1
  have h1ₓ : σ (39 + 1) (2 * sₓ + 1) = D (11 + 10 * sₓ) := hCₓ.1.2.1
  have h2ₓ : σ 41 sₓ = D (12 + 10 * sₓ) := hCₓ.1.2.2.1
  unfold m_X1_follow m_X7_cornerAcross at eₓ
  rw [mIf_pos (show ¬ (sₓ : Int) = -1 by omega), mRd_e, haₓ, c_sdOf, mCall_s, h0ₓ, h1ₓ] at eₓ
  by_cases c0ₓ : D (10 + 10 * sₓ) = (aₓ : Int)
  · rw [if_pos c0ₓ, mIf_pos (by decide), mRd_e, haₓ, mWr_e, mLet_e, mLet_e, mLet_e, mRd_e, show (2 * (sₓ : Int) + 1 - 0).toNat = 2 * sₓ + 1 by omega, upS_q (show 39 + 1 ≠ 152 by decide), h1ₓ, mRet_e, mCall_s, mWr_e, mRd_e, upS_q (show (1152 : Nat) ≠ 152 by decide), upS_q (show (1152 : Nat) ≠ 152 by decide), mRd_e, upS_q (show (41 : Nat) ≠ 152 by decide), upS_q (show (41 : Nat) ≠ 152 by decide), show ((sₓ : Int)).toNat = sₓ by omega, h2ₓ, mLet_e, mLet_e, mWr_e, mRet_e] at eₓ
    rw [if_pos c0ₓ]; exact (some_el eₓ).2
  · have c1ₓ : D (11 + 10 * sₓ) = (aₓ : Int) := by rcases hatₓ.1 with qₓ | qₓ; exact absurd qₓ c0ₓ; exact qₓ
    rw [if_neg c0ₓ, if_pos c1ₓ, mIf_pos (by decide), mRd_e, haₓ, mWr_e, mLet_e, mLet_e, mLet_e, mRd_e, show (2 * (sₓ : Int) + 1 - 1).toNat = 2 * sₓ by omega, upS_q (show 39 + 1 ≠ 152 by decide), h0ₓ, mRet_e, mCall_s, mWr_e, mRd_e, upS_q (show (1152 : Nat) ≠ 152 by decide), upS_q (show (1152 : Nat) ≠ 152 by decide), mRd_e, upS_q (show (41 : Nat) ≠ 152 by decide), upS_q (show (41 : Nat) ≠ 152 by decide), show ((sₓ : Int)).toNat = sₓ by omega, h2ₓ, mLet_e, mLet_e, mWr_e, mRet_e] at eₓ
    rw [if_neg c0ₓ]; exact (some_el eₓ).2
theorem r_takesS (hsₓ : sₓ < 12) (haₓ : τ 12 216 = (aₓ : Int)) (eₓ : m_X12_takesStreet nₓ 0 0 (sₓ : Int) τ = some (rₓ, τ')) : τ' = upS (upS (upS τ 12 216 (if τ 12 (10 + 10 * sₓ) = (aₓ : Int) then τ 12 (11 + 10 * sₓ) else τ 12 (10 + 10 * sₓ))) 12 223 (aₓ : Int)) 12 220 (τ 12 220 + τ 12 (12 + 10 * sₓ)) := by
  unfold m_X12_takesStreet at eₓ
  rw [mLet_e, mLet_e, mRd_e, show ((216 : Int) + 9 * 0).toNat = 216 from rfl, haₓ, r_otherOf, mCall_s, mWr_e, mLet_e, mWr_e, show ((216 : Int) + 9 * 0 + 7).toNat = 223 from rfl, mLet_e, mRd_e, show ((216 : Int) + 9 * 0 + 4).toNat = 220 from rfl, upS_k (show (220 : Nat) ≠ 223 by decide), upS_k (show (220 : Nat) ≠ 216 by decide), r_so2, mCall_s, upS_k (show 12 + 10 * sₓ ≠ 223 by omega), upS_k (show 12 + 10 * sₓ ≠ 216 by omega), mLet_e, mWr_e, mRet_e] at eₓ
  exact (some_el eₓ).2
end
