/-! the class's clash, and its least way to lay the roads -/
def bi (aₓ : Bool) : Int := if aₓ = true then 1 else 0
def ECl (E K : Nat) (ef etₓ : Nat → Nat) (σ : SS) : Prop := σ 38 10 = (E : Int) ∧ ∀ eₓ : Nat, eₓ < E → σ 50 eₓ = ((ef eₓ : Nat) : Int) ∧ σ 51 eₓ = ((etₓ eₓ : Nat) : Int) ∧ ef eₓ < K ∧ etₓ eₓ < K
def PRD (E : Nat) (ef etₓ : Nat → Nat) (NR : Nat → Prop) (iₓ jₓ : Nat) : Prop := iₓ < jₓ ∧ jₓ < E ∧ ((NR (ef iₓ) ∧ ¬ NR (etₓ iₓ) ∧ ¬ NR (ef jₓ) ∧ NR (etₓ jₓ)) ∨ (¬ NR (ef iₓ) ∧ NR (etₓ iₓ) ∧ NR (ef jₓ) ∧ ¬ NR (etₓ jₓ)))
def pvv (iₓ jₓ : Nat) : Int := mOr (mShl 1 (iₓ : Int)) (mShl 1 (jₓ : Int))
def MINS (Q : Nat → Nat → Prop) (bₓ : Int) : Prop := (bₓ = 0 ∧ ∀ iₓ jₓ : Nat, ¬ Q iₓ jₓ) ∨ ((∃ iₓ jₓ : Nat, Q iₓ jₓ ∧ bₓ = pvv iₓ jₓ) ∧ ∀ iₓ jₓ : Nat, Q iₓ jₓ → bₓ ≤ pvv iₓ jₓ)
theorem pvv_pos : ∀ iₓ : Nat, iₓ < 6 → ∀ jₓ : Nat, jₓ < 6 → iₓ < jₓ → 0 < pvv iₓ jₓ := by decide +kernel
theorem cross_p : ∀ aₓ bₓ cₓ dₓ : Bool, (mMul (bi aₓ - bi bₓ) (bi cₓ - bi dₓ) < 0 ↔ (aₓ = true ∧ bₓ = false ∧ cₓ = false ∧ dₓ = true) ∨ (aₓ = false ∧ bₓ = true ∧ cₓ = true ∧ dₓ = false)) := by decide +kernel
theorem MINS_c {Q Q' : Nat → Nat → Prop} {bₓ : Int} (hₓ : MINS Q bₓ) (hqₓ : ∀ iₓ jₓ : Nat, Q' iₓ jₓ ↔ Q iₓ jₓ) : MINS Q' bₓ := by
  rcases hₓ with ⟨h1ₓ, h2ₓ⟩ | ⟨⟨iₓ, jₓ, h1ₓ, h2ₓ⟩, h3ₓ⟩
  · exact Or.inl ⟨h1ₓ, fun iₓ jₓ qₓ => h2ₓ iₓ jₓ ((hqₓ iₓ jₓ).mp qₓ)⟩
  · exact Or.inr ⟨⟨iₓ, jₓ, (hqₓ iₓ jₓ).mpr h1ₓ, h2ₓ⟩, fun iₓ jₓ qₓ => h3ₓ iₓ jₓ ((hqₓ iₓ jₓ).mp qₓ)⟩
/-- one more pair looked at -/
theorem MINS_no {Q Q' : Nat → Nat → Prop} {bₓ : Int} {i0ₓ j0ₓ : Nat} (hₓ : MINS Q bₓ) (hqₓ : ∀ iₓ jₓ : Nat, Q' iₓ jₓ → Q iₓ jₓ ∨ (iₓ = i0ₓ ∧ jₓ = j0ₓ)) (hq2ₓ : ∀ iₓ jₓ : Nat, Q iₓ jₓ → Q' iₓ jₓ) (hnₓ : Q' i0ₓ j0ₓ → bₓ ≠ 0 ∧ bₓ ≤ pvv i0ₓ j0ₓ) : MINS Q' bₓ := by
  rcases hₓ with ⟨h1ₓ, h2ₓ⟩ | ⟨⟨iₓ, jₓ, h1ₓ, h2ₓ⟩, h3ₓ⟩
  · refine Or.inl ⟨h1ₓ, fun iₓ jₓ qₓ => ?_⟩
    rcases hqₓ iₓ jₓ qₓ with gₓ | ⟨rfl, rfl⟩
    · exact h2ₓ iₓ jₓ gₓ
    · exact (hnₓ qₓ).1 h1ₓ
  · refine Or.inr ⟨⟨iₓ, jₓ, hq2ₓ iₓ jₓ h1ₓ, h2ₓ⟩, fun iₓ jₓ qₓ => ?_⟩
    rcases hqₓ iₓ jₓ qₓ with gₓ | ⟨rfl, rfl⟩
    · exact h3ₓ iₓ jₓ gₓ
    · exact (hnₓ qₓ).2
theorem MINS_yes {Q Q' : Nat → Nat → Prop} {bₓ : Int} {i0ₓ j0ₓ : Nat} (hₓ : MINS Q bₓ) (hpₓ : ∀ iₓ jₓ : Nat, Q iₓ jₓ → 0 < pvv iₓ jₓ) (hqₓ : ∀ iₓ jₓ : Nat, Q' iₓ jₓ → Q iₓ jₓ ∨ (iₓ = i0ₓ ∧ jₓ = j0ₓ)) (hnₓ : Q' i0ₓ j0ₓ) (hbₓ : bₓ = 0 ∨ pvv i0ₓ j0ₓ ≤ bₓ) : MINS Q' (pvv i0ₓ j0ₓ) := by
  refine Or.inr ⟨⟨i0ₓ, j0ₓ, hnₓ, rfl⟩, fun iₓ jₓ qₓ => ?_⟩
  rcases hqₓ iₓ jₓ qₓ with gₓ | ⟨rfl, rfl⟩
  · rcases hₓ with ⟨h1ₓ, h2ₓ⟩ | ⟨⟨i'ₓ, j'ₓ, h1ₓ, h2ₓ⟩, h3ₓ⟩
    · exact absurd gₓ (h2ₓ iₓ jₓ)
    · have g2ₓ := h3ₓ iₓ jₓ gₓ
      have g3ₓ := hpₓ i'ₓ j'ₓ h1ₓ
      omega
  · exact Int.le_refl _
def ALL (M E : Nat) (ea eb ef etₓ : Nat → Nat) (kₓ : Nat) : Prop := ∀ eₓ : Nat, eₓ < E → RC M ea eb (fun iₓ => kₓ.testBit iₓ = false) (fun iₓ => kₓ.testBit iₓ = true) (ef eₓ) (etₓ eₓ)
def LBS (M E : Nat) (ea eb ef etₓ : Nat → Nat) (fₓ bt : Nat) (rₓ : Int) : Prop := (rₓ = -1 ∧ ∀ kₓ : Nat, bt ≤ kₓ → kₓ < bt + 2 ^ fₓ → ¬ ALL M E ea eb ef etₓ kₓ) ∨ ∃ kₓ : Nat, rₓ = (kₓ : Int) ∧ bt ≤ kₓ ∧ kₓ < bt + 2 ^ fₓ ∧ ALL M E ea eb ef etₓ kₓ ∧ ∀ k'ₓ : Nat, bt ≤ k'ₓ → k'ₓ < kₓ → ¬ ALL M E ea eb ef etₓ k'ₓ
section
variable {K M E iₓ jₓ e0ₓ : Nat} {σ σ' σ1 : SS} {ea eb ef etₓ : Nat → Nat} {F B F' B' : Nat → Prop} {rₓ xₓ yₓ free bits wo : Int} {nₓ : Nat}
theorem NXT_c (hₓ : NXT M ea eb F B σ) (hFₓ : ∀ iₓ : Nat, iₓ < M → (F' iₓ ↔ F iₓ)) (hBₓ : ∀ iₓ : Nat, iₓ < M → (B' iₓ ↔ B iₓ)) : NXT M ea eb F' B' σ := fun xₓ yₓ hxₓ hyₓ => by
  rw [hₓ xₓ yₓ hxₓ hyₓ]
  constructor
  · rintro ⟨iₓ, i1ₓ, i2ₓ⟩
    rcases i2ₓ with ⟨q1ₓ, q2ₓ⟩ | ⟨q1ₓ, q2ₓ⟩
    · exact ⟨iₓ, i1ₓ, Or.inl ⟨(hFₓ iₓ i1ₓ).mpr q1ₓ, q2ₓ⟩⟩
    · exact ⟨iₓ, i1ₓ, Or.inr ⟨(hBₓ iₓ i1ₓ).mpr q1ₓ, q2ₓ⟩⟩
  · rintro ⟨iₓ, i1ₓ, i2ₓ⟩
    rcases i2ₓ with ⟨q1ₓ, q2ₓ⟩ | ⟨q1ₓ, q2ₓ⟩
    · exact ⟨iₓ, i1ₓ, Or.inl ⟨(hFₓ iₓ i1ₓ).mp q1ₓ, q2ₓ⟩⟩
    · exact ⟨iₓ, i1ₓ, Or.inr ⟨(hBₓ iₓ i1ₓ).mp q1ₓ, q2ₓ⟩⟩
theorem ECl_k (hₓ : ECl E K ef etₓ σ) (hkₓ : ∀ qₓ kₓ : Nat, qₓ < 160 → σ' qₓ kₓ = σ qₓ kₓ) : ECl E K ef etₓ σ' :=
  ⟨(hkₓ _ _ (by decide)).trans hₓ.1, fun eₓ heₓ => ⟨(hkₓ _ _ (by decide)).trans (hₓ.2 eₓ heₓ).1, (hkₓ _ _ (by decide)).trans (hₓ.2 eₓ heₓ).2.1, (hₓ.2 eₓ heₓ).2.2⟩⟩
theorem RDC_E (hₓ : RDC M K ea eb σ) : ∀ iₓ : Nat, iₓ < M → ea iₓ < K ∧ eb iₓ < K := fun iₓ hiₓ => by
  obtain ⟨sₓ, -, -, -, h4ₓ⟩ := hₓ.2.2 iₓ hiₓ
  exact h4ₓ
theorem c_canDo (hKₓ : K ≤ 10) (hRₓ : RDC M K ea eb σ) (hEₓ : ECl E K ef etₓ σ) (hNₓ : NXT M ea eb F B σ) (heₓ : e0ₓ < E) (eₓ : m_X10_canDo nₓ 158 (e0ₓ : Int) σ = some (rₓ, σ')) : σ' = σ ∧ ((rₓ = 1 ∧ RC M ea eb F B (ef e0ₓ) (etₓ e0ₓ)) ∨ (rₓ = 0 ∧ ¬ RC M ea eb F B (ef e0ₓ) (etₓ e0ₓ))) := by
  obtain ⟨h1ₓ, h2ₓ, h3ₓ, h4ₓ⟩ := hEₓ.2 e0ₓ heₓ
  have ke : ((e0ₓ : Nat) : Int).toNat = e0ₓ := by omega
  unfold m_X10_canDo at eₓ
  rw [mRd_e, ke, h1ₓ] at eₓ
  obtain ⟨x2ₓ, s3ₓ, dₓ, eₓ⟩ := mCall_el eₓ
  obtain ⟨hsₓ, hxₓ⟩ := c_corners hKₓ hRₓ.2.1 (RDC_E hRₓ) hNₓ h3ₓ dₓ
  have hx2ₓ := hxₓ (etₓ e0ₓ) (by omega)
  rw [hsₓ, mRd_e, h2ₓ, mLet_e, mLet_e] at eₓ
  by_cases cₓ : mAnd (mShr x2ₓ ((etₓ e0ₓ : Nat) : Int)) 1 = 0
  · rw [mIf_pos cₓ, mRet_e] at eₓ
    obtain ⟨rfl, rfl⟩ := some_el eₓ
    refine ⟨rfl, Or.inr ⟨rfl, fun qₓ => ?_⟩⟩
    have h5ₓ := (bitQ0 (by omega)).mp cₓ
    rw [hx2ₓ.mpr ⟨h4ₓ, qₓ⟩] at h5ₓ; cases h5ₓ
  · rw [mIf_neg cₓ, mRet_e] at eₓ
    obtain ⟨rfl, rfl⟩ := some_el eₓ
    refine ⟨rfl, Or.inl ⟨rfl, (hx2ₓ.mp ?_).2⟩⟩
    cases hbₓ : tb x2ₓ (etₓ e0ₓ) with
    | true => rfl
    | false => exact absurd ((bitQ0 (by omega)).mpr hbₓ) cₓ
theorem c_cross (hKₓ : K ≤ 10) (hEₓ : ECl E K ef etₓ σ) (heₓ : e0ₓ < E) : m_X10_crossing nₓ 158 (e0ₓ : Int) xₓ σ = some (bi (tb xₓ (ef e0ₓ)) - bi (tb xₓ (etₓ e0ₓ)), σ) := by
  obtain ⟨h1ₓ, h2ₓ, h3ₓ, h4ₓ⟩ := hEₓ.2 e0ₓ heₓ
  have ke : ((e0ₓ : Nat) : Int).toNat = e0ₓ := by omega
  unfold m_X10_crossing
  rw [mRd_e, ke, h1ₓ, mLet_e, mLet_e, mRd_e, h2ₓ, mLet_e, mLet_e, mLet_e, mRet_e, bitQ (by omega), bitQ (by omega)]
  rfl
theorem c_odds0 (hKₓ : K ≤ 10) (hE6ₓ : E ≤ 6) (hEₓ : ECl E K ef etₓ σ) {NR : Nat → Prop} {near : Int} (hnₓ : ∀ yₓ : Nat, yₓ < K → (tb near yₓ = true ↔ NR yₓ)) : ∀ nₓ : Nat, (∀ (iₓ : Nat) (bₓ : Int), iₓ ≤ E → MINS (fun pₓ qₓ => PRD E ef etₓ NR pₓ qₓ ∧ pₓ < iₓ) bₓ → j_X10_oddsOver 158 nₓ 36 [near, bₓ, (iₓ : Int)] σ = some (rₓ, σ') → σ' = σ ∧ MINS (PRD E ef etₓ NR) rₓ) ∧ ∀ (iₓ jₓ : Nat) (bₓ : Int), iₓ < jₓ → jₓ ≤ E → MINS (fun pₓ qₓ => PRD E ef etₓ NR pₓ qₓ ∧ (pₓ < iₓ ∨ (pₓ = iₓ ∧ qₓ < jₓ))) bₓ → j_X10_oddsOver 158 nₓ 54 [near, bₓ, (iₓ : Int), (jₓ : Int)] σ = some (rₓ, σ') → σ' = σ ∧ MINS (PRD E ef etₓ NR) rₓ := by
  intro nₓ
  induction nₓ with
  | zero => exact ⟨fun _ _ _ _ eₓ => none_el eₓ, fun _ _ _ _ _ _ eₓ => none_el eₓ⟩
  | succ nₓ ihₓ =>
    refine ⟨fun iₓ bₓ hiₓ hMₓ eₓ => ?_, fun iₓ jₓ bₓ hijₓ hjₓ hMₓ eₓ => ?_⟩
    · rw [e_X10_oddsOver_36] at eₓ
      unfold b_X10_oddsOver_36 at eₓ
      rw [mRd_e, hEₓ.1] at eₓ
      by_cases cₓ : (E : Int) ≤ (iₓ : Int)
      · rw [mIf_pos cₓ, mRet_e] at eₓ
        obtain ⟨rfl, rfl⟩ := some_el eₓ
        exact ⟨rfl, MINS_c hMₓ (fun pₓ qₓ => ⟨fun gₓ => ⟨gₓ, by have g1ₓ := gₓ.1; have g2ₓ := gₓ.2.1; omega⟩, fun gₓ => gₓ.1⟩)⟩
      · rw [mIf_neg cₓ, mLet_e, show (iₓ : Int) + 1 = ((iₓ + 1 : Nat) : Int) by omega] at eₓ
        exact ihₓ.2 iₓ (iₓ + 1) bₓ (Nat.lt_succ_self iₓ) (by omega) (MINS_c hMₓ (fun pₓ qₓ => ⟨fun gₓ => ⟨gₓ.1, by have g1ₓ := gₓ.1.1; have g2ₓ := gₓ.2; omega⟩, fun gₓ => ⟨gₓ.1, Or.inl gₓ.2⟩⟩)) eₓ
    · rw [e_X10_oddsOver_54] at eₓ
      unfold b_X10_oddsOver_54 b_X10_oddsOver_105 b_X10_oddsOver_108 at eₓ
      rw [mRd_e, hEₓ.1] at eₓ
      by_cases cₓ : (E : Int) ≤ (jₓ : Int)
      · rw [mIf_pos cₓ, mLet_e, show (iₓ : Int) + 1 = ((iₓ + 1 : Nat) : Int) by omega] at eₓ
        exact ihₓ.1 (iₓ + 1) bₓ (by omega) (MINS_c hMₓ (fun pₓ qₓ => ⟨fun gₓ => ⟨gₓ.1, by have g1ₓ := gₓ.1.2.1; have g2ₓ := gₓ.2; omega⟩, fun gₓ => ⟨gₓ.1, by have g2ₓ := gₓ.2; omega⟩⟩)) eₓ
      · obtain ⟨-, -, hfiₓ, htiₓ⟩ := hEₓ.2 iₓ (by omega)
        obtain ⟨-, -, hfjₓ, htjₓ⟩ := hEₓ.2 jₓ (by omega)
        have ej : (jₓ : Int) + 1 = ((jₓ + 1 : Nat) : Int) := by omega
        rw [mIf_neg cₓ, mLet_e, mLet_e, mLet_e, c_cross hKₓ hEₓ (by omega), mCall_s, c_cross hKₓ hEₓ (by omega), mCall_s, mLet_e] at eₓ
        have hcrₓ := cross_p (tb near (ef iₓ)) (tb near (etₓ iₓ)) (tb near (ef jₓ)) (tb near (etₓ jₓ))
        have nt : ∀ yₓ : Nat, yₓ < K → (tb near yₓ = false ↔ ¬ NR yₓ) := fun yₓ hyₓ => by
          rw [← hnₓ yₓ hyₓ]
          cases tb near yₓ with
          | true => exact ⟨fun qₓ => absurd qₓ (by decide), fun qₓ => absurd rfl qₓ⟩
          | false => exact ⟨fun _ => by decide, fun _ => rfl⟩
        rw [hnₓ _ hfiₓ, nt _ htiₓ, nt _ hfjₓ, hnₓ _ htjₓ, nt _ hfiₓ, hnₓ _ htiₓ, hnₓ _ hfjₓ, nt _ htjₓ] at hcrₓ
        have hPₓ : PRD E ef etₓ NR iₓ jₓ ↔ mMul (bi (tb near (ef iₓ)) - bi (tb near (etₓ iₓ))) (bi (tb near (ef jₓ)) - bi (tb near (etₓ jₓ))) < 0 := by
          rw [hcrₓ]
          exact ⟨fun gₓ => gₓ.2.2, fun gₓ => ⟨hijₓ, by omega, gₓ⟩⟩
        have q1ₓ : ∀ pₓ qₓ : Nat, PRD E ef etₓ NR pₓ qₓ ∧ (pₓ < iₓ ∨ (pₓ = iₓ ∧ qₓ < jₓ + 1)) → (PRD E ef etₓ NR pₓ qₓ ∧ (pₓ < iₓ ∨ (pₓ = iₓ ∧ qₓ < jₓ))) ∨ (pₓ = iₓ ∧ qₓ = jₓ) := fun pₓ qₓ gₓ => by
          rcases gₓ.2 with g2ₓ | g2ₓ
          · exact Or.inl ⟨gₓ.1, Or.inl g2ₓ⟩
          · by_cases eq : qₓ = jₓ
            · exact Or.inr ⟨g2ₓ.1, eq⟩
            · exact Or.inl ⟨gₓ.1, Or.inr ⟨g2ₓ.1, by omega⟩⟩
        have q2ₓ : ∀ pₓ qₓ : Nat, PRD E ef etₓ NR pₓ qₓ ∧ (pₓ < iₓ ∨ (pₓ = iₓ ∧ qₓ < jₓ)) → PRD E ef etₓ NR pₓ qₓ ∧ (pₓ < iₓ ∨ (pₓ = iₓ ∧ qₓ < jₓ + 1)) := fun pₓ qₓ gₓ => ⟨gₓ.1, gₓ.2.elim Or.inl (fun g2ₓ => Or.inr ⟨g2ₓ.1, by omega⟩)⟩
        have pos : ∀ pₓ qₓ : Nat, (PRD E ef etₓ NR pₓ qₓ ∧ (pₓ < iₓ ∨ (pₓ = iₓ ∧ qₓ < jₓ))) → 0 < pvv pₓ qₓ := fun pₓ qₓ gₓ => pvv_pos pₓ (by have g1ₓ := gₓ.1.1; have g2ₓ := gₓ.1.2.1; omega) qₓ (by have g2ₓ := gₓ.1.2.1; omega) gₓ.1.1
        by_cases c0ₓ : 0 ≤ mMul (bi (tb near (ef iₓ)) - bi (tb near (etₓ iₓ))) (bi (tb near (ef jₓ)) - bi (tb near (etₓ jₓ)))
        · rw [mIf_pos c0ₓ, mLet_e, ej] at eₓ
          exact ihₓ.2 iₓ (jₓ + 1) bₓ (by omega) (by omega) (MINS_no hMₓ q1ₓ q2ₓ (fun gₓ => absurd (hPₓ.mp gₓ.1) (by omega))) eₓ
        · have hpₓ : PRD E ef etₓ NR iₓ jₓ := hPₓ.mpr (by omega)
          have hpqₓ : PRD E ef etₓ NR iₓ jₓ ∧ (iₓ < iₓ ∨ (iₓ = iₓ ∧ jₓ < jₓ + 1)) := ⟨hpₓ, Or.inr ⟨rfl, Nat.lt_succ_self jₓ⟩⟩
          rw [mIf_neg c0ₓ] at eₓ
          by_cases cb : bₓ = 0
          · rw [mIf_pos cb, mLet_e, ej] at eₓ
            exact ihₓ.2 iₓ (jₓ + 1) _ (by omega) (by omega) (MINS_yes hMₓ pos q1ₓ hpqₓ (Or.inl cb)) eₓ
          · rw [mIf_neg cb] at eₓ
            by_cases cl : bₓ ≤ mOr (mShl 1 (iₓ : Int)) (mShl 1 (jₓ : Int))
            · rw [mIf_pos cl, mLet_e, ej] at eₓ
              exact ihₓ.2 iₓ (jₓ + 1) bₓ (by omega) (by omega) (MINS_no hMₓ q1ₓ q2ₓ (fun _ => ⟨cb, cl⟩)) eₓ
            · rw [mIf_neg cl, mLet_e, ej] at eₓ
              exact ihₓ.2 iₓ (jₓ + 1) _ (by omega) (by omega) (MINS_yes hMₓ pos q1ₓ hpqₓ (Or.inr (show mOr (mShl 1 (iₓ : Int)) (mShl 1 (jₓ : Int)) ≤ bₓ by omega))) eₓ
theorem c_odds {rr : Nat} (hKₓ : K ≤ 10) (hMₓ : M ≤ 12) (hE6ₓ : E ≤ 6) (hRₓ : RDC M K ea eb σ) (hEₓ : ECl E K ef etₓ σ) (hrₓ : rr < M) (eₓ : m_X10_oddsOver nₓ 158 (rr : Int) σ = some (rₓ, σ')) : (∀ qₓ kₓ : Nat, qₓ ≠ 160 → σ' qₓ kₓ = σ qₓ kₓ) ∧ MINS (PRD E ef etₓ (fun vₓ => RC M ea eb (fun jₓ => jₓ ≠ rr) (fun jₓ => jₓ ≠ rr) (ea rr) vₓ)) rₓ := by
  unfold m_X10_oddsOver at eₓ
  rw [mRd_e, hRₓ.1] at eₓ
  obtain ⟨x1ₓ, s2ₓ, d1ₓ, eₓ⟩ := mCall_el eₓ
  obtain ⟨w1ₓ, w2ₓ⟩ := c_lay hKₓ hMₓ hRₓ d1ₓ
  have hR2ₓ := RDC_k hRₓ (fun qₓ kₓ hqₓ => w2ₓ qₓ kₓ (by omega))
  have hE2ₓ := ECl_k hEₓ (fun qₓ kₓ hqₓ => w2ₓ qₓ kₓ (by omega))
  have hNₓ := NXT_c (F' := fun jₓ => jₓ ≠ rr) (B' := fun jₓ => jₓ ≠ rr) w1ₓ (fun iₓ hiₓ => ⟨fun qₓ => ⟨by omega, Or.inl (by omega)⟩, fun qₓ => by have := qₓ.1; omega⟩) (fun iₓ hiₓ => ⟨fun qₓ => ⟨by omega, Or.inl (by omega)⟩, fun qₓ => by have := qₓ.1; omega⟩)
  obtain ⟨sₓ, e1ₓ, e2ₓ, e3ₓ, e4ₓ⟩ := hR2ₓ.2.2 rr hrₓ
  rw [mRd_e, show ((rr : Nat) : Int).toNat = rr by omega, e1ₓ, mLet_e, mRd_e, show (2 * (sₓ : Int)).toNat = 2 * sₓ by omega, e2ₓ] at eₓ
  obtain ⟨x6ₓ, s7ₓ, d2ₓ, eₓ⟩ := mCall_el eₓ
  obtain ⟨v1ₓ, v2ₓ⟩ := c_corners hKₓ hR2ₓ.2.1 (RDC_E hR2ₓ) hNₓ e4ₓ.1 d2ₓ
  rw [v1ₓ] at eₓ
  obtain ⟨u1ₓ, u2ₓ⟩ := (c_odds0 hKₓ hE6ₓ hE2ₓ (NR := fun vₓ => RC M ea eb (fun jₓ => jₓ ≠ rr) (fun jₓ => jₓ ≠ rr) (ea rr) vₓ) (near := x6ₓ) (fun yₓ hyₓ => by rw [v2ₓ yₓ (by omega)]; exact ⟨fun qₓ => qₓ.2, fun qₓ => ⟨hyₓ, qₓ⟩⟩) nₓ).1 0 0 (Nat.zero_le _) (Or.inl ⟨rfl, fun pₓ qₓ gₓ => absurd gₓ.2 (Nat.not_lt_zero _)⟩) eₓ
  exact ⟨fun qₓ kₓ hqₓ => by rw [u1ₓ]; exact w2ₓ qₓ kₓ hqₓ, u2ₓ⟩
/-- what the clash says -/
def CLS (M E : Nat) (ea eb ef etₓ : Nat → Nat) (rₓ : Int) : Prop := (∃ eₓ : Nat, eₓ < E ∧ rₓ = mShl 1 (eₓ : Int) ∧ ¬ RC M ea eb (fun _ => True) (fun _ => True) (ef eₓ) (etₓ eₓ) ∧ ∀ e'ₓ : Nat, e'ₓ < eₓ → RC M ea eb (fun _ => True) (fun _ => True) (ef e'ₓ) (etₓ e'ₓ)) ∨ ((∀ eₓ : Nat, eₓ < E → RC M ea eb (fun _ => True) (fun _ => True) (ef eₓ) (etₓ eₓ)) ∧ MINS (fun iₓ jₓ => ∃ rr : Nat, rr < M ∧ PRD E ef etₓ (fun vₓ => RC M ea eb (fun jₓ => jₓ ≠ rr) (fun jₓ => jₓ ≠ rr) (ea rr) vₓ) iₓ jₓ) rₓ)
theorem c_clash45 (hKₓ : K ≤ 10) (hMₓ : M ≤ 12) (hE6ₓ : E ≤ 6) : ∀ (nₓ rr : Nat) (bₓ : Int) (σ : SS), rr ≤ M → RDC M K ea eb σ → ECl E K ef etₓ σ → MINS (fun iₓ jₓ => ∃ pₓ : Nat, pₓ < rr ∧ PRD E ef etₓ (fun vₓ => RC M ea eb (fun jₓ => jₓ ≠ pₓ) (fun jₓ => jₓ ≠ pₓ) (ea pₓ) vₓ) iₓ jₓ) bₓ → j_X10_findClash 158 nₓ 45 [bₓ, (rr : Int)] σ = some (rₓ, σ') → (∀ qₓ kₓ : Nat, qₓ ≠ 160 → σ' qₓ kₓ = σ qₓ kₓ) ∧ MINS (fun iₓ jₓ => ∃ pₓ : Nat, pₓ < M ∧ PRD E ef etₓ (fun vₓ => RC M ea eb (fun jₓ => jₓ ≠ pₓ) (fun jₓ => jₓ ≠ pₓ) (ea pₓ) vₓ) iₓ jₓ) rₓ := by
  intro nₓ
  induction nₓ with
  | zero => intro rr bₓ σ _ _ _ _ eₓ; exact none_el eₓ
  | succ nₓ ihₓ =>
    intro rr bₓ σ hrₓ hRₓ hEₓ hBₓ eₓ
    rw [e_X10_findClash_45] at eₓ
    unfold b_X10_findClash_45 b_X10_findClash_72 b_X10_findClash_74 at eₓ
    rw [mRd_e, hRₓ.1] at eₓ
    by_cases cₓ : (M : Int) ≤ (rr : Int)
    · rw [mIf_pos cₓ, mRet_e] at eₓ
      obtain ⟨rfl, rfl⟩ := some_el eₓ
      have er : rr = M := by omega
      rw [er] at hBₓ
      exact ⟨fun _ _ _ => rfl, hBₓ⟩
    · rw [mIf_neg cₓ] at eₓ
      obtain ⟨x2ₓ, s3ₓ, dₓ, eₓ⟩ := mCall_el eₓ
      obtain ⟨w1ₓ, w2ₓ⟩ := c_odds hKₓ hMₓ hE6ₓ hRₓ hEₓ (by omega) dₓ
      have er : (rr : Int) + 1 = ((rr + 1 : Nat) : Int) := by omega
      have hR3ₓ := RDC_k hRₓ (fun qₓ kₓ hqₓ => w1ₓ qₓ kₓ (by omega))
      have hE3ₓ := ECl_k hEₓ (fun qₓ kₓ hqₓ => w1ₓ qₓ kₓ (by omega))
      have goₓ : ∀ b'ₓ : Int, MINS (fun iₓ jₓ => ∃ pₓ : Nat, pₓ < rr + 1 ∧ PRD E ef etₓ (fun vₓ => RC M ea eb (fun jₓ => jₓ ≠ pₓ) (fun jₓ => jₓ ≠ pₓ) (ea pₓ) vₓ) iₓ jₓ) b'ₓ → j_X10_findClash 158 nₓ 45 [b'ₓ, ((rr + 1 : Nat) : Int)] s3ₓ = some (rₓ, σ') → (∀ qₓ kₓ : Nat, qₓ ≠ 160 → σ' qₓ kₓ = σ qₓ kₓ) ∧ MINS (fun iₓ jₓ => ∃ pₓ : Nat, pₓ < M ∧ PRD E ef etₓ (fun vₓ => RC M ea eb (fun jₓ => jₓ ≠ pₓ) (fun jₓ => jₓ ≠ pₓ) (ea pₓ) vₓ) iₓ jₓ) rₓ := fun b'ₓ g1ₓ g2ₓ => by
        obtain ⟨u1ₓ, u2ₓ⟩ := ihₓ (rr + 1) b'ₓ s3ₓ (by omega) hR3ₓ hE3ₓ g1ₓ g2ₓ
        exact ⟨fun qₓ kₓ hqₓ => (u1ₓ qₓ kₓ hqₓ).trans (w1ₓ qₓ kₓ hqₓ), u2ₓ⟩
      have old : ∀ iₓ jₓ : Nat, (∃ pₓ : Nat, pₓ < rr ∧ PRD E ef etₓ (fun vₓ => RC M ea eb (fun jₓ => jₓ ≠ pₓ) (fun jₓ => jₓ ≠ pₓ) (ea pₓ) vₓ) iₓ jₓ) → ∃ pₓ : Nat, pₓ < rr + 1 ∧ PRD E ef etₓ (fun vₓ => RC M ea eb (fun jₓ => jₓ ≠ pₓ) (fun jₓ => jₓ ≠ pₓ) (ea pₓ) vₓ) iₓ jₓ := fun iₓ jₓ ⟨pₓ, p1ₓ, p2ₓ⟩ => ⟨pₓ, by omega, p2ₓ⟩
      have new : ∀ iₓ jₓ : Nat, (∃ pₓ : Nat, pₓ < rr + 1 ∧ PRD E ef etₓ (fun vₓ => RC M ea eb (fun jₓ => jₓ ≠ pₓ) (fun jₓ => jₓ ≠ pₓ) (ea pₓ) vₓ) iₓ jₓ) → (∃ pₓ : Nat, pₓ < rr ∧ PRD E ef etₓ (fun vₓ => RC M ea eb (fun jₓ => jₓ ≠ pₓ) (fun jₓ => jₓ ≠ pₓ) (ea pₓ) vₓ) iₓ jₓ) ∨ PRD E ef etₓ (fun vₓ => RC M ea eb (fun jₓ => jₓ ≠ rr) (fun jₓ => jₓ ≠ rr) (ea rr) vₓ) iₓ jₓ := fun iₓ jₓ ⟨pₓ, p1ₓ, p2ₓ⟩ => by
        by_cases ep : pₓ = rr
        · subst ep; exact Or.inr p2ₓ
        · exact Or.inl ⟨pₓ, by omega, p2ₓ⟩
      have pos : ∀ pₓ iₓ jₓ : Nat, PRD E ef etₓ (fun vₓ => RC M ea eb (fun jₓ => jₓ ≠ pₓ) (fun jₓ => jₓ ≠ pₓ) (ea pₓ) vₓ) iₓ jₓ → 0 < pvv iₓ jₓ := fun pₓ iₓ jₓ gₓ => pvv_pos iₓ (by have g1ₓ := gₓ.1; have g2ₓ := gₓ.2.1; omega) jₓ (by have g2ₓ := gₓ.2.1; omega) gₓ.1
      have keep : (∀ iₓ jₓ : Nat, PRD E ef etₓ (fun vₓ => RC M ea eb (fun jₓ => jₓ ≠ rr) (fun jₓ => jₓ ≠ rr) (ea rr) vₓ) iₓ jₓ → bₓ ≠ 0 ∧ bₓ ≤ pvv iₓ jₓ) → MINS (fun iₓ jₓ => ∃ pₓ : Nat, pₓ < rr + 1 ∧ PRD E ef etₓ (fun vₓ => RC M ea eb (fun jₓ => jₓ ≠ pₓ) (fun jₓ => jₓ ≠ pₓ) (ea pₓ) vₓ) iₓ jₓ) bₓ := fun gₓ => by
        rcases hBₓ with ⟨h1ₓ, h2ₓ⟩ | ⟨⟨iₓ, jₓ, h1ₓ, h2ₓ⟩, h3ₓ⟩
        · exact Or.inl ⟨h1ₓ, fun iₓ jₓ qₓ => (new iₓ jₓ qₓ).elim (h2ₓ iₓ jₓ) (fun qₓ => (gₓ iₓ jₓ qₓ).1 h1ₓ)⟩
        · exact Or.inr ⟨⟨iₓ, jₓ, old iₓ jₓ h1ₓ, h2ₓ⟩, fun iₓ jₓ qₓ => (new iₓ jₓ qₓ).elim (h3ₓ iₓ jₓ) (fun qₓ => (gₓ iₓ jₓ qₓ).2)⟩
      have take : x2ₓ ≠ 0 → (bₓ = 0 ∨ x2ₓ ≤ bₓ) → MINS (fun iₓ jₓ => ∃ pₓ : Nat, pₓ < rr + 1 ∧ PRD E ef etₓ (fun vₓ => RC M ea eb (fun jₓ => jₓ ≠ pₓ) (fun jₓ => jₓ ≠ pₓ) (ea pₓ) vₓ) iₓ jₓ) x2ₓ := fun h0ₓ hbₓ => by
        rcases w2ₓ with ⟨h1ₓ, -⟩ | ⟨⟨iₓ, jₓ, h1ₓ, h2ₓ⟩, h3ₓ⟩
        · exact absurd h1ₓ h0ₓ
        · refine Or.inr ⟨⟨iₓ, jₓ, ⟨rr, Nat.lt_succ_self rr, h1ₓ⟩, h2ₓ⟩, fun iₓ jₓ qₓ => ?_⟩
          rcases new iₓ jₓ qₓ with qₓ | qₓ
          · rcases hBₓ with ⟨-, g2ₓ⟩ | ⟨⟨i'ₓ, j'ₓ, ⟨p'ₓ, p1'ₓ, p2'ₓ⟩, g2ₓ⟩, g3ₓ⟩
            · exact absurd qₓ (g2ₓ iₓ jₓ)
            · have q1ₓ := g3ₓ iₓ jₓ qₓ
              have q2ₓ := pos p'ₓ i'ₓ j'ₓ p2'ₓ
              omega
          · exact h3ₓ iₓ jₓ qₓ
      by_cases c0ₓ : x2ₓ = 0
      · rw [mIf_pos c0ₓ, mLet_e, er] at eₓ
        refine goₓ bₓ (keep (fun iₓ jₓ gₓ => ?_)) eₓ
        rcases w2ₓ with ⟨-, h2ₓ⟩ | ⟨⟨i'ₓ, j'ₓ, h1ₓ, h2ₓ⟩, -⟩
        · exact absurd gₓ (h2ₓ iₓ jₓ)
        · have := pos rr i'ₓ j'ₓ h1ₓ
          omega
      · rw [mIf_neg c0ₓ] at eₓ
        by_cases cb : bₓ = 0
        · rw [mIf_pos cb, mLet_e, er] at eₓ
          exact goₓ x2ₓ (take c0ₓ (Or.inl cb)) eₓ
        · rw [mIf_neg cb] at eₓ
          by_cases cl : bₓ ≤ x2ₓ
          · rw [mIf_pos cl, mLet_e, er] at eₓ
            refine goₓ bₓ (keep (fun iₓ jₓ gₓ => ⟨cb, ?_⟩)) eₓ
            rcases w2ₓ with ⟨h1ₓ, -⟩ | ⟨-, h3ₓ⟩
            · exact absurd h1ₓ c0ₓ
            · exact Int.le_trans cl (h3ₓ iₓ jₓ gₓ)
          · rw [mIf_neg cl, mLet_e, er] at eₓ
            exact goₓ x2ₓ (take c0ₓ (Or.inr (by omega))) eₓ
theorem c_clash12 (hKₓ : K ≤ 10) (hMₓ : M ≤ 12) (hE6ₓ : E ≤ 6) (hRₓ : RDC M K ea eb σ) (hEₓ : ECl E K ef etₓ σ) (hNₓ : NXT M ea eb (fun _ => True) (fun _ => True) σ) : ∀ (nₓ e0ₓ : Nat), e0ₓ ≤ E → (∀ e'ₓ : Nat, e'ₓ < e0ₓ → RC M ea eb (fun _ => True) (fun _ => True) (ef e'ₓ) (etₓ e'ₓ)) → j_X10_findClash 158 nₓ 12 [(e0ₓ : Int)] σ = some (rₓ, σ') → (∀ qₓ kₓ : Nat, qₓ ≠ 160 → σ' qₓ kₓ = σ qₓ kₓ) ∧ CLS M E ea eb ef etₓ rₓ := by
  intro nₓ
  induction nₓ with
  | zero => intro e0ₓ _ _ eₓ; exact none_el eₓ
  | succ nₓ ihₓ =>
    intro e0ₓ heₓ hUₓ eₓ
    rw [e_X10_findClash_12] at eₓ
    unfold b_X10_findClash_12 at eₓ
    rw [mRd_e, hEₓ.1] at eₓ
    by_cases cₓ : (E : Int) ≤ (e0ₓ : Int)
    · rw [mIf_pos cₓ] at eₓ
      obtain ⟨w1ₓ, w2ₓ⟩ := c_clash45 hKₓ hMₓ hE6ₓ nₓ 0 0 σ (Nat.zero_le _) hRₓ hEₓ (Or.inl ⟨rfl, fun iₓ jₓ ⟨pₓ, p1ₓ, _⟩ => absurd p1ₓ (Nat.not_lt_zero _)⟩) eₓ
      exact ⟨w1ₓ, Or.inr ⟨fun eₓ he2ₓ => hUₓ eₓ (by omega), w2ₓ⟩⟩
    · rw [mIf_neg cₓ] at eₓ
      obtain ⟨x2ₓ, s3ₓ, dₓ, eₓ⟩ := mCall_el eₓ
      obtain ⟨w1ₓ, w2ₓ⟩ := c_canDo hKₓ hRₓ hEₓ hNₓ (by omega) dₓ
      rw [w1ₓ] at eₓ
      rcases w2ₓ with ⟨v1ₓ, v2ₓ⟩ | ⟨v1ₓ, v2ₓ⟩
      · rw [v1ₓ, mIf_pos (by decide), mLet_e, show (e0ₓ : Int) + 1 = ((e0ₓ + 1 : Nat) : Int) by omega] at eₓ
        exact ihₓ (e0ₓ + 1) (by omega) (fun e'ₓ he'ₓ => by
          by_cases ee : e'ₓ = e0ₓ
          · subst ee; exact v2ₓ
          · exact hUₓ e'ₓ (by omega)) eₓ
      · rw [v1ₓ, mIf_neg (fun qₓ => qₓ rfl), mLet_e, mRet_e] at eₓ
        obtain ⟨rfl, rfl⟩ := some_el eₓ
        exact ⟨fun _ _ _ => rfl, Or.inl ⟨e0ₓ, by omega, rfl, v2ₓ, hUₓ⟩⟩
theorem c_clash (hKₓ : K ≤ 10) (hMₓ : M ≤ 12) (hE6ₓ : E ≤ 6) (hRₓ : RDC M K ea eb σ) (hEₓ : ECl E K ef etₓ σ) (eₓ : m_X10_findClash nₓ 158 σ = some (rₓ, σ')) : (∀ qₓ kₓ : Nat, qₓ ≠ 160 → σ' qₓ kₓ = σ qₓ kₓ) ∧ CLS M E ea eb ef etₓ rₓ := by
  unfold m_X10_findClash at eₓ
  rw [mRd_e, hRₓ.1] at eₓ
  obtain ⟨x1ₓ, s2ₓ, d1ₓ, eₓ⟩ := mCall_el eₓ
  obtain ⟨w1ₓ, w2ₓ⟩ := c_lay hKₓ hMₓ hRₓ d1ₓ
  have hR2ₓ := RDC_k hRₓ (fun qₓ kₓ hqₓ => w2ₓ qₓ kₓ (by omega))
  have hE2ₓ := ECl_k hEₓ (fun qₓ kₓ hqₓ => w2ₓ qₓ kₓ (by omega))
  have hNₓ := NXT_c (F' := fun _ => True) (B' := fun _ => True) w1ₓ (fun iₓ hiₓ => ⟨fun _ => ⟨by omega, Or.inl (by omega)⟩, fun _ => trivial⟩) (fun iₓ hiₓ => ⟨fun _ => ⟨by omega, Or.inl (by omega)⟩, fun _ => trivial⟩)
  obtain ⟨u1ₓ, u2ₓ⟩ := c_clash12 hKₓ hMₓ hE6ₓ hR2ₓ hE2ₓ hNₓ nₓ 0 (Nat.zero_le _) (fun e'ₓ he'ₓ => absurd he'ₓ (Nat.not_lt_zero _)) eₓ
  exact ⟨fun qₓ kₓ hqₓ => (u1ₓ qₓ kₓ hqₓ).trans (w2ₓ qₓ kₓ hqₓ), u2ₓ⟩
theorem c_below (hKₓ : K ≤ 10) (hMₓ : M ≤ 12) (hE6ₓ : E ≤ 6) : ∀ nₓ : Nat, (∀ (fₓ bt qₓ : Nat) (rₓ : Int) (σ σ' : SS), fₓ ≤ M → bt = 2 ^ fₓ * qₓ → bt + 2 ^ fₓ ≤ 4096 → RDC M K ea eb σ → ECl E K ef etₓ σ → j_X10_leastBelow 158 nₓ 1000 [(fₓ : Int), (bt : Int)] σ = some (rₓ, σ') → (∀ qₓ kₓ : Nat, qₓ ≠ 160 → σ' qₓ kₓ = σ qₓ kₓ) ∧ LBS M E ea eb ef etₓ fₓ bt rₓ) ∧ ∀ (fₓ bt qₓ e0ₓ : Nat) (rₓ : Int) (σ σ' : SS), fₓ ≤ M → bt = 2 ^ fₓ * qₓ → bt + 2 ^ fₓ ≤ 4096 → RDC M K ea eb σ → ECl E K ef etₓ σ → NXT M ea eb (LF (-1) (fₓ : Int) (bt : Int)) (LB (-1) (fₓ : Int) (bt : Int)) σ → e0ₓ ≤ E → (∀ eₓ : Nat, eₓ < e0ₓ → RC M ea eb (LF (-1) (fₓ : Int) (bt : Int)) (LB (-1) (fₓ : Int) (bt : Int)) (ef eₓ) (etₓ eₓ)) → j_X10_leastBelow 158 nₓ 1009 [(fₓ : Int), (bt : Int), (e0ₓ : Int)] σ = some (rₓ, σ') → (∀ qₓ kₓ : Nat, qₓ ≠ 160 → σ' qₓ kₓ = σ qₓ kₓ) ∧ LBS M E ea eb ef etₓ fₓ bt rₓ := by
  intro nₓ
  induction nₓ with
  | zero => exact ⟨fun _ _ _ _ _ _ _ _ _ _ _ eₓ => none_el eₓ, fun _ _ _ _ _ _ _ _ _ _ _ _ _ _ _ eₓ => none_el eₓ⟩
  | succ nₓ ihₓ =>
    refine ⟨fun fₓ bt qₓ rₓ σ σ' hfₓ hqₓ hlₓ hRₓ hEₓ eₓ => ?_, fun fₓ bt qₓ e0ₓ rₓ σ σ' hfₓ hqₓ hlₓ hRₓ hEₓ hNₓ heₓ hDₓ eₓ => ?_⟩
    · rw [show j_X10_leastBelow 158 (nₓ + 1) 1000 [(fₓ : Int), (bt : Int)] σ = b_X10_leastBelow_e (j_X10_leastBelow 158 nₓ) nₓ 158 (fₓ : Int) (bt : Int) σ from rfl] at eₓ
      unfold b_X10_leastBelow_e at eₓ
      obtain ⟨x1ₓ, s1ₓ, d1ₓ, eₓ⟩ := mCall_el eₓ
      obtain ⟨w1ₓ, w2ₓ⟩ := c_lay hKₓ hMₓ hRₓ d1ₓ
      obtain ⟨u1ₓ, u2ₓ⟩ := ihₓ.2 fₓ bt qₓ 0 rₓ s1ₓ σ' hfₓ hqₓ hlₓ (RDC_k hRₓ (fun qₓ kₓ hqₓ => w2ₓ qₓ kₓ (by omega))) (ECl_k hEₓ (fun qₓ kₓ hqₓ => w2ₓ qₓ kₓ (by omega))) w1ₓ (Nat.zero_le _) (fun eₓ heₓ => absurd heₓ (Nat.not_lt_zero _)) eₓ
      exact ⟨fun qₓ kₓ hqₓ => (u1ₓ qₓ kₓ hqₓ).trans (w2ₓ qₓ kₓ hqₓ), u2ₓ⟩
    · rw [show j_X10_leastBelow 158 (nₓ + 1) 1009 [(fₓ : Int), (bt : Int), (e0ₓ : Int)] σ = b_X10_leastBelow_9 (j_X10_leastBelow 158 nₓ) nₓ 158 (fₓ : Int) (bt : Int) (e0ₓ : Int) σ from rfl] at eₓ
      unfold b_X10_leastBelow_9 at eₓ
      rw [mRd_e, hEₓ.1] at eₓ
      have htbₓ : ∀ iₓ : Nat, iₓ < M → tb ((bt : Nat) : Int) iₓ = bt.testBit iₓ := fun iₓ hiₓ => tb_nat (by omega)
      have hm0ₓ : bt % 2 ^ fₓ = 0 := by rw [hqₓ]; exact Nat.mul_mod_right _ _
      by_cases cₓ : (E : Int) ≤ (e0ₓ : Int)
      · rw [mIf_pos cₓ] at eₓ
        by_cases c0ₓ : (0 : Int) < (fₓ : Int)
        · obtain ⟨gₓ, rfl⟩ : ∃ gₓ : Nat, fₓ = gₓ + 1 := ⟨fₓ - 1, by omega⟩
          have hpₓ : 2 ^ (gₓ + 1) = 2 ^ gₓ + 2 ^ gₓ := by rw [Nat.pow_succ]; omega
          have hp0ₓ : 0 < 2 ^ gₓ := Nat.two_pow_pos gₓ
          have q1ₓ : bt = 2 ^ gₓ * (2 * qₓ) := by rw [hqₓ, Nat.pow_succ, Nat.mul_assoc]
          have q2ₓ : bt + 2 ^ gₓ = 2 ^ gₓ * (2 * qₓ + 1) := by rw [Nat.mul_add, ← q1ₓ, Nat.mul_one]
          rw [mIf_pos c0ₓ, mLet_e, show ((gₓ + 1 : Nat) : Int) - 1 = (gₓ : Int) by omega] at eₓ
          obtain ⟨x3ₓ, s4ₓ, d3ₓ, eₓ⟩ := mCall_el eₓ
          obtain ⟨w1ₓ, w2ₓ⟩ := ihₓ.1 gₓ bt (2 * qₓ) x3ₓ σ s4ₓ (by omega) q1ₓ (by omega) hRₓ hEₓ d3ₓ
          by_cases cm : x3ₓ = -1
          · rw [mIf_pos cm, mLet_e, mLet_e, mLet_e, mLet_e, mOr_pow (by omega) (by omega) hm0ₓ (by omega)] at eₓ
            obtain ⟨x9ₓ, s10ₓ, d4ₓ, eₓ⟩ := mCall_el eₓ
            obtain ⟨v1ₓ, v2ₓ⟩ := ihₓ.1 gₓ (bt + 2 ^ gₓ) (2 * qₓ + 1) x9ₓ s4ₓ s10ₓ (by omega) q2ₓ (by omega) (RDC_k hRₓ (fun qₓ kₓ hqₓ => w1ₓ qₓ kₓ (by omega))) (ECl_k hEₓ (fun qₓ kₓ hqₓ => w1ₓ qₓ kₓ (by omega))) d4ₓ
            rw [mRet_e] at eₓ
            obtain ⟨rfl, rfl⟩ := some_el eₓ
            have noₓ : ∀ kₓ : Nat, bt ≤ kₓ → kₓ < bt + 2 ^ gₓ → ¬ ALL M E ea eb ef etₓ kₓ := by
              rcases w2ₓ with ⟨-, w2ₓ⟩ | ⟨kₓ, k1ₓ, -⟩
              · exact w2ₓ
              · exact absurd (k1ₓ.symm.trans cm) (by omega)
            refine ⟨fun qₓ kₓ hqₓ => (v1ₓ qₓ kₓ hqₓ).trans (w1ₓ qₓ kₓ hqₓ), ?_⟩
            rcases v2ₓ with ⟨v2ₓ, v3ₓ⟩ | ⟨kₓ, k1ₓ, k2ₓ, k3ₓ, k4ₓ, k5ₓ⟩
            · refine Or.inl ⟨v2ₓ, fun kₓ h1ₓ h2ₓ => ?_⟩
              by_cases ck : kₓ < bt + 2 ^ gₓ
              · exact noₓ kₓ h1ₓ ck
              · exact v3ₓ kₓ (by omega) (by omega)
            · refine Or.inr ⟨kₓ, k1ₓ, by omega, by omega, k4ₓ, fun k'ₓ h1ₓ h2ₓ => ?_⟩
              by_cases ck : k'ₓ < bt + 2 ^ gₓ
              · exact noₓ k'ₓ h1ₓ ck
              · exact k5ₓ k'ₓ (by omega) h2ₓ
          · rw [mIf_neg cm, mRet_e] at eₓ
            obtain ⟨rfl, rfl⟩ := some_el eₓ
            refine ⟨w1ₓ, ?_⟩
            rcases w2ₓ with ⟨w2ₓ, -⟩ | ⟨kₓ, k1ₓ, k2ₓ, k3ₓ, k4ₓ, k5ₓ⟩
            · exact absurd w2ₓ cm
            · exact Or.inr ⟨kₓ, k1ₓ, k2ₓ, by omega, k4ₓ, k5ₓ⟩
        · have ef0 : fₓ = 0 := by omega
          subst ef0
          rw [mIf_neg c0ₓ, mRet_e] at eₓ
          obtain ⟨rfl, rfl⟩ := some_el eₓ
          refine ⟨fun _ _ _ => rfl, Or.inr ⟨bt, rfl, Nat.le_refl _, by rw [Nat.pow_zero]; omega, fun eₓ he2ₓ => ?_, fun k'ₓ h1ₓ h2ₓ => absurd h2ₓ (by omega)⟩⟩
          refine RC_mn (hDₓ eₓ (by omega)) (fun iₓ hiₓ hFₓ => ?_) (fun iₓ hiₓ hBₓ => ?_)
          · rcases hFₓ.2 with wₓ | wₓ
            · exfalso; omega
            · rw [htbₓ iₓ hiₓ] at wₓ; exact wₓ
          · rcases hBₓ.2 with wₓ | wₓ
            · exfalso; omega
            · rw [htbₓ iₓ hiₓ] at wₓ; exact wₓ
      · rw [mIf_neg cₓ] at eₓ
        obtain ⟨x11ₓ, s12ₓ, dₓ, eₓ⟩ := mCall_el eₓ
        obtain ⟨w1ₓ, w2ₓ⟩ := c_canDo hKₓ hRₓ hEₓ hNₓ (by omega) dₓ
        rw [w1ₓ] at eₓ
        rcases w2ₓ with ⟨v1ₓ, v2ₓ⟩ | ⟨v1ₓ, v2ₓ⟩
        · rw [v1ₓ, mIf_pos (by decide), mLet_e, show (e0ₓ : Int) + 1 = ((e0ₓ + 1 : Nat) : Int) by omega] at eₓ
          exact ihₓ.2 fₓ bt qₓ (e0ₓ + 1) rₓ σ σ' hfₓ hqₓ hlₓ hRₓ hEₓ hNₓ (by omega) (fun e'ₓ he'ₓ => by
            by_cases ee : e'ₓ = e0ₓ
            · subst ee; exact v2ₓ
            · exact hDₓ e'ₓ (by omega)) eₓ
        · rw [v1ₓ, mIf_neg (fun qₓ => qₓ rfl), mRet_e] at eₓ
          obtain ⟨rfl, rfl⟩ := some_el eₓ
          refine ⟨fun _ _ _ => rfl, Or.inl ⟨rfl, fun kₓ h1ₓ h2ₓ hAₓ => v2ₓ (RC_mn (hAₓ e0ₓ (by omega)) (fun iₓ hiₓ hFₓ => ⟨by omega, ?_⟩) (fun iₓ hiₓ hBₓ => ⟨by omega, ?_⟩))⟩⟩
          · by_cases ci : (iₓ : Int) < (fₓ : Int)
            · exact Or.inl ci
            · right
              rw [htbₓ iₓ hiₓ, ← bit_above hm0ₓ h1ₓ h2ₓ (by omega)]; exact hFₓ
          · by_cases ci : (iₓ : Int) < (fₓ : Int)
            · exact Or.inl ci
            · right
              rw [htbₓ iₓ hiₓ, ← bit_above hm0ₓ h1ₓ h2ₓ (by omega)]; exact hBₓ
theorem c_findLeast (hKₓ : K ≤ 10) (hMₓ : M ≤ 12) (hE6ₓ : E ≤ 6) (hRₓ : RDC M K ea eb σ) (hEₓ : ECl E K ef etₓ σ) (eₓ : m_X10_findLeast nₓ 158 σ = some (rₓ, σ')) : LBS M E ea eb ef etₓ M 0 rₓ := by
  unfold m_X10_findLeast m_X10_leastBelow at eₓ
  rw [mRd_e, hRₓ.1] at eₓ
  obtain ⟨x2ₓ, s3ₓ, dₓ, eₓ⟩ := mCall_el eₓ
  rw [mRet_e] at eₓ
  have hpₓ := pow_12 M hMₓ
  obtain ⟨-, w2ₓ⟩ := (c_below hKₓ hMₓ hE6ₓ nₓ).1 M 0 0 x2ₓ σ s3ₓ (Nat.le_refl _) rfl (by omega) hRₓ hEₓ dₓ
  obtain ⟨e1ₓ, -⟩ := some_el eₓ
  rw [e1ₓ]; exact w2ₓ
end
