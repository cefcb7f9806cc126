/-! when aₓ street is open, for the reference; its first open hourₓ -/
section
variable {τ τ' : SS} {r'ₓ xₓ sg : Int} {nₓ sₓ : Nat}
theorem r_isOf {aₓ : Int} {kₓ : Nat} (hkₓ : kₓ < 32) : m_X12_isOf nₓ aₓ (kₓ : Int) τ = some (if tb aₓ kₓ = true then 1 else 0, τ) := by
  unfold m_X12_isOf
  rw [mLet_e, mLet_e]
  by_cases cₓ : tb aₓ kₓ = true
  · rw [mIf_neg (fun qₓ => qₓ ((bitQ1 hkₓ).mpr cₓ)), if_pos cₓ]; rfl
  · rw [mIf_pos (show ¬ mAnd (mShr aₓ (kₓ : Int)) 1 = 1 from fun qₓ => cₓ ((bitQ1 hkₓ).mp qₓ)), if_neg cₓ]; rfl
theorem r_so {wₓ : Nat} : m_X12_streetOf nₓ 0 (sₓ : Int) (wₓ : Int) τ = some (τ 12 (10 + 10 * sₓ + wₓ), τ) := by
  unfold m_X12_streetOf
  rw [mLet_e, mLet_e, mLet_e, mRd_e, mRet_e, show ((10 : Int) + 10 * (sₓ : Int) + (wₓ : Int)).toNat = 10 + 10 * sₓ + wₓ by omega]
theorem r_so0 : m_X12_streetOf nₓ 0 (sₓ : Int) 0 τ = some (τ 12 (10 + 10 * sₓ), τ) := r_so (wₓ := 0)
theorem r_so1 : m_X12_streetOf nₓ 0 (sₓ : Int) 1 τ = some (τ 12 (11 + 10 * sₓ), τ) := by
  have hₓ := r_so (nₓ := nₓ) (sₓ := sₓ) (τ := τ) (wₓ := 1)
  rw [show 10 + 10 * sₓ + 1 = 11 + 10 * sₓ by omega] at hₓ; exact hₓ
theorem r_so2 : m_X12_streetOf nₓ 0 (sₓ : Int) 2 τ = some (τ 12 (12 + 10 * sₓ), τ) := by
  have hₓ := r_so (nₓ := nₓ) (sₓ := sₓ) (τ := τ) (wₓ := 2)
  rw [show 10 + 10 * sₓ + 2 = 12 + 10 * sₓ by omega] at hₓ; exact hₓ
/-- the side of aₓ corner -/
def sdC (D : Nat → Int) (sₓ : Nat) (xₓ : Int) : Nat := if D (10 + 10 * sₓ) = xₓ then 0 else 1
theorem sdC_b {D : Nat → Int} : sdC D sₓ xₓ < 2 := by
  unfold sdC
  by_cases cₓ : D (10 + 10 * sₓ) = xₓ
  · rw [if_pos cₓ]; decide
  · rw [if_neg cₓ]; decide
theorem r_hasSign : m_X12_hasSign nₓ 0 sg (sₓ : Int) xₓ τ = some (if tb sg (sdC (τ 12) sₓ xₓ) = true then 1 else 0, τ) := by
  unfold m_X12_hasSign b_X12_hasSign_16
  rw [r_so0, mCall_s]
  unfold sdC
  by_cases cₓ : τ 12 (10 + 10 * sₓ) = xₓ
  · have hₓ := r_isOf (nₓ := nₓ) (τ := τ) (aₓ := sg) (kₓ := 0) (by decide)
    rw [mIf_neg (fun qₓ => qₓ cₓ), if_pos cₓ, show (0 : Int) = ((0 : Nat) : Int) from rfl, hₓ, mCall_s]; rfl
  · have hₓ := r_isOf (nₓ := nₓ) (τ := τ) (aₓ := sg) (kₓ := 1) (by decide)
    rw [mIf_pos cₓ, if_neg cₓ, show m_X12_isOf nₓ sg 1 τ = some (if tb sg 1 = true then 1 else 0, τ) from hₓ, mCall_s]; rfl
theorem r_closed0 {dₓ : Int} (hsₓ : ¬ τ 0 27 = 0) : ∀ (nₓ kₓ : Nat), (∀ jₓ : Nat, jₓ < kₓ → (jₓ : Int) < τ 12 2 → ¬ (τ 12 (140 + 2 * jₓ) = xₓ ∧ τ 12 (141 + 2 * jₓ) = dₓ)) → j_X12_isClosed 0 nₓ 2 [xₓ, dₓ, (kₓ : Int)] τ = some (r'ₓ, τ') → τ' = τ ∧ ((r'ₓ = 1 ∧ ∃ jₓ : Nat, (jₓ : Int) < τ 12 2 ∧ τ 12 (140 + 2 * jₓ) = xₓ ∧ τ 12 (141 + 2 * jₓ) = dₓ) ∨ (r'ₓ = 0 ∧ ∀ jₓ : Nat, (jₓ : Int) < τ 12 2 → ¬ (τ 12 (140 + 2 * jₓ) = xₓ ∧ τ 12 (141 + 2 * jₓ) = dₓ))) := by
  intro nₓ
  induction nₓ with
  | zero => intro kₓ _ eₓ; exact none_el eₓ
  | succ nₓ ihₓ =>
    intro kₓ hkₓ eₓ
    rw [e_X12_isClosed_2] at eₓ
    unfold b_X12_isClosed_2 b_X12_isClosed_55 b_X12_isClosed_61 at eₓ
    rw [mRd_e, show (2 : Int).toNat = 2 from rfl] at eₓ
    by_cases cₓ : τ 12 2 ≤ (kₓ : Int)
    · rw [mIf_pos cₓ, mRet_e] at eₓ
      obtain ⟨rfl, rfl⟩ := some_el eₓ
      exact ⟨rfl, Or.inr ⟨rfl, fun jₓ hjₓ => hkₓ jₓ (by omega) hjₓ⟩⟩
    · have next : ¬ (τ 12 (140 + 2 * kₓ) = xₓ ∧ τ 12 (141 + 2 * kₓ) = dₓ) → j_X12_isClosed 0 nₓ 2 [xₓ, dₓ, (kₓ : Int) + 1] τ = some (r'ₓ, τ') → τ' = τ ∧ ((r'ₓ = 1 ∧ ∃ jₓ : Nat, (jₓ : Int) < τ 12 2 ∧ τ 12 (140 + 2 * jₓ) = xₓ ∧ τ 12 (141 + 2 * jₓ) = dₓ) ∨ (r'ₓ = 0 ∧ ∀ jₓ : Nat, (jₓ : Int) < τ 12 2 → ¬ (τ 12 (140 + 2 * jₓ) = xₓ ∧ τ 12 (141 + 2 * jₓ) = dₓ))) := fun qₓ q2ₓ => by
        rw [show (kₓ : Int) + 1 = ((kₓ + 1 : Nat) : Int) by omega] at q2ₓ
        refine ihₓ (kₓ + 1) (fun jₓ hjₓ hj2ₓ => ?_) q2ₓ
        by_cases cj : jₓ = kₓ
        · subst cj; exact qₓ
        · exact hkₓ jₓ (by omega) hj2ₓ
      rw [mIf_neg cₓ, mRd_e, mIf_neg hsₓ, mLet_e, mLet_e, mRd_e, show ((140 : Int) + 2 * (kₓ : Int)).toNat = 140 + 2 * kₓ by omega] at eₓ
      by_cases c1ₓ : τ 12 (140 + 2 * kₓ) = xₓ
      · rw [mIf_neg (fun qₓ => qₓ c1ₓ), mLet_e, mLet_e, mLet_e, mRd_e, show ((140 : Int) + 2 * (kₓ : Int) + 1).toNat = 141 + 2 * kₓ by omega] at eₓ
        by_cases c2ₓ : τ 12 (141 + 2 * kₓ) = dₓ
        · rw [mIf_neg (fun qₓ => qₓ c2ₓ), mRet_e] at eₓ
          obtain ⟨rfl, rfl⟩ := some_el eₓ
          exact ⟨rfl, Or.inl ⟨rfl, kₓ, by omega, c1ₓ, c2ₓ⟩⟩
        · rw [mIf_pos c2ₓ, mLet_e] at eₓ
          exact next (fun qₓ => c2ₓ qₓ.2) eₓ
      · rw [mIf_pos c1ₓ, mLet_e] at eₓ
        exact next (fun qₓ => c1ₓ qₓ.1) eₓ
theorem r_isDayFor {day : Nat} (hsₓ : ¬ τ 0 27 = 0) (eₓ : m_X12_isDayFor nₓ 0 (sₓ : Int) xₓ (day : Int) τ = some (r'ₓ, τ')) : τ' = τ ∧ ((r'ₓ = 1 ∧ sgP (τ 12) sₓ (sdC (τ 12) sₓ xₓ) day = true ∧ ¬ clD (τ 12) sₓ day) ∨ (r'ₓ = 0 ∧ ¬ (sgP (τ 12) sₓ (sdC (τ 12) sₓ xₓ) day = true ∧ ¬ clD (τ 12) sₓ day))) := by
  unfold m_X12_isDayFor b_X12_isDayFor_62 at eₓ
  rw [mLet_e, mLet_e, show (day : Int) % 7 = ((day % 7 : Nat) : Int) by omega, r_streetOf, mCall_s, r_hasSign, mCall_s] at eₓ
  by_cases cₓ : tb (τ 12 (13 + 10 * sₓ + day % 7)) (sdC (τ 12) sₓ xₓ) = true
  · rw [if_pos cₓ, mIf_pos (by decide), r_so0, mCall_s, mLet_e, show (day : Int) % 360 = ((day % 360 : Nat) : Int) by omega] at eₓ
    obtain ⟨x1ₓ, s1ₓ, d1ₓ, eₓ⟩ := mCall_el eₓ
    obtain ⟨hs1ₓ, h1ₓ⟩ := r_closed0 hsₓ nₓ 0 (fun jₓ hjₓ => absurd hjₓ (Nat.not_lt_zero _)) d1ₓ
    rw [hs1ₓ] at eₓ
    rcases h1ₓ with ⟨rfl, jₓ, j1ₓ, j2ₓ, j3ₓ⟩ | ⟨rfl, h1ₓ⟩
    · rw [mIf_pos (by decide), mRet_e] at eₓ
      obtain ⟨rfl, rfl⟩ := some_el eₓ
      exact ⟨rfl, Or.inr ⟨rfl, fun qₓ => qₓ.2 ⟨jₓ, j1ₓ, Or.inl j2ₓ, j3ₓ⟩⟩⟩
    · rw [mIf_neg (fun qₓ => qₓ rfl), r_so1, mCall_s, mLet_e] at eₓ
      obtain ⟨x2ₓ, s2ₓ, d2ₓ, eₓ⟩ := mCall_el eₓ
      obtain ⟨hs2ₓ, h2ₓ⟩ := r_closed0 hsₓ nₓ 0 (fun jₓ hjₓ => absurd hjₓ (Nat.not_lt_zero _)) d2ₓ
      rw [hs2ₓ] at eₓ
      rcases h2ₓ with ⟨rfl, jₓ, j1ₓ, j2ₓ, j3ₓ⟩ | ⟨rfl, h2ₓ⟩
      · rw [mIf_pos (by decide), mRet_e] at eₓ
        obtain ⟨rfl, rfl⟩ := some_el eₓ
        exact ⟨rfl, Or.inr ⟨rfl, fun qₓ => qₓ.2 ⟨jₓ, j1ₓ, Or.inr j2ₓ, j3ₓ⟩⟩⟩
      · rw [mIf_neg (fun qₓ => qₓ rfl), mRet_e] at eₓ
        obtain ⟨rfl, rfl⟩ := some_el eₓ
        refine ⟨rfl, Or.inl ⟨rfl, cₓ, fun ⟨jₓ, j1ₓ, j2ₓ, j3ₓ⟩ => ?_⟩⟩
        rcases j2ₓ with j2ₓ | j2ₓ
        · exact h1ₓ jₓ j1ₓ ⟨j2ₓ, j3ₓ⟩
        · exact h2ₓ jₓ j1ₓ ⟨j2ₓ, j3ₓ⟩
  · rw [if_neg cₓ, mIf_neg (fun qₓ => qₓ rfl), mRet_e] at eₓ
    obtain ⟨rfl, rfl⟩ := some_el eₓ
    exact ⟨rfl, Or.inr ⟨rfl, fun qₓ => cₓ qₓ.1⟩⟩
theorem r_lift0 {tₓ : Nat} : ∀ (nₓ kₓ : Nat), (∀ jₓ : Nat, jₓ < kₓ → (jₓ : Int) < τ 12 3 → ¬ lfP (τ 12) sₓ (tₓ % 24) jₓ) → j_X12_isLifted 0 nₓ 2 [(sₓ : Int), (tₓ : Int), (kₓ : Int)] τ = some (r'ₓ, τ') → τ' = τ ∧ ((r'ₓ = 1 ∧ liD (τ 12) sₓ (tₓ % 24)) ∨ (r'ₓ = 0 ∧ ¬ liD (τ 12) sₓ (tₓ % 24))) := by
  intro nₓ
  induction nₓ with
  | zero => intro kₓ _ eₓ; exact none_el eₓ
  | succ nₓ ihₓ =>
    intro kₓ hkₓ eₓ
    rw [e_X12_isLifted_2] at eₓ
    unfold b_X12_isLifted_2 b_X12_isLifted_66 at eₓ
    rw [mRd_e, show (3 : Int).toNat = 3 from rfl] at eₓ
    by_cases cₓ : τ 12 3 ≤ (kₓ : Int)
    · rw [mIf_pos cₓ, mRet_e] at eₓ
      obtain ⟨rfl, rfl⟩ := some_el eₓ
      exact ⟨rfl, Or.inr ⟨rfl, fun ⟨jₓ, hjₓ, hpₓ⟩ => hkₓ jₓ (by omega) hjₓ hpₓ⟩⟩
    · have next : ¬ lfP (τ 12) sₓ (tₓ % 24) kₓ → j_X12_isLifted 0 nₓ 2 [(sₓ : Int), (tₓ : Int), (kₓ : Int) + 1] τ = some (r'ₓ, τ') → τ' = τ ∧ ((r'ₓ = 1 ∧ liD (τ 12) sₓ (tₓ % 24)) ∨ (r'ₓ = 0 ∧ ¬ liD (τ 12) sₓ (tₓ % 24))) := fun qₓ q2ₓ => by
        rw [show (kₓ : Int) + 1 = ((kₓ + 1 : Nat) : Int) by omega] at q2ₓ
        refine ihₓ (kₓ + 1) (fun jₓ hjₓ hj2ₓ => ?_) q2ₓ
        by_cases cj : jₓ = kₓ
        · subst cj; exact qₓ
        · exact hkₓ jₓ (by omega) hj2ₓ
      have etₓ : (tₓ : Int) % 24 = ((tₓ % 24 : Nat) : Int) := by omega
      rw [mIf_neg cₓ, mLet_e, mLet_e, mRd_e, show ((156 : Int) + 3 * (kₓ : Int)).toNat = 156 + 3 * kₓ by omega] at eₓ
      by_cases c1ₓ : τ 12 (156 + 3 * kₓ) = (sₓ : Int)
      · rw [mIf_neg (fun qₓ => qₓ c1ₓ), mLet_e, mLet_e, mRd_e, etₓ, show ((156 : Int) + 3 * (kₓ : Int) + 1).toNat = 157 + 3 * kₓ by omega] at eₓ
        by_cases c2ₓ : ((tₓ % 24 : Nat) : Int) < τ 12 (157 + 3 * kₓ)
        · rw [mIf_pos c2ₓ, mLet_e] at eₓ
          exact next (fun qₓ => by have := qₓ.2.1; omega) eₓ
        · rw [mIf_neg c2ₓ, mLet_e, mLet_e, mRd_e, show ((156 : Int) + 3 * (kₓ : Int) + 2).toNat = 158 + 3 * kₓ by omega] at eₓ
          by_cases c3ₓ : τ 12 (158 + 3 * kₓ) ≤ ((tₓ % 24 : Nat) : Int)
          · rw [mIf_pos c3ₓ, mLet_e] at eₓ
            exact next (fun qₓ => by have := qₓ.2.2; omega) eₓ
          · rw [mIf_neg c3ₓ, mRet_e] at eₓ
            obtain ⟨rfl, rfl⟩ := some_el eₓ
            exact ⟨rfl, Or.inl ⟨rfl, kₓ, by omega, c1ₓ, by omega, by omega⟩⟩
      · rw [mIf_pos c1ₓ, mLet_e] at eₓ
        exact next (fun qₓ => c1ₓ qₓ.1) eₓ
theorem r_isLifted {tₓ : Nat} (eₓ : m_X12_isLifted nₓ 0 (sₓ : Int) (tₓ : Int) τ = some (r'ₓ, τ')) : τ' = τ ∧ ((r'ₓ = 1 ∧ liD (τ 12) sₓ (tₓ % 24)) ∨ (r'ₓ = 0 ∧ ¬ liD (τ 12) sₓ (tₓ % 24))) := r_lift0 nₓ 0 (fun jₓ hjₓ => absurd hjₓ (Nat.not_lt_zero _)) eₓ
/-- likewise with the reference's word for none -/
def FOr (D : Nat → Int) (sₓ side first : Nat) (last rₓ : Int) : Prop := (rₓ = 100000000 ∧ ∀ tₓ : Nat, first ≤ tₓ → (tₓ : Int) ≤ last → ¬ opD D sₓ side tₓ) ∨ ∃ tₓ : Nat, rₓ = (tₓ : Int) ∧ first ≤ tₓ ∧ (tₓ : Int) ≤ last ∧ opD D sₓ side tₓ ∧ ∀ uₓ : Nat, first ≤ uₓ → uₓ < tₓ → ¬ opD D sₓ side uₓ
theorem r_first0 {first : Nat} {till : Int} (hsₓ : ¬ τ 0 27 = 0) : ∀ (nₓ tₓ : Nat), first ≤ tₓ → (∀ uₓ : Nat, first ≤ uₓ → uₓ < tₓ → ¬ opD (τ 12) sₓ (sdC (τ 12) sₓ xₓ) uₓ) → j_X12_firstOpen 0 nₓ 3 [(sₓ : Int), xₓ, till, (tₓ : Int)] τ = some (r'ₓ, τ') → τ' = τ ∧ FOr (τ 12) sₓ (sdC (τ 12) sₓ xₓ) first till r'ₓ := by
  intro nₓ
  induction nₓ with
  | zero => intro tₓ _ _ eₓ; exact none_el eₓ
  | succ nₓ ihₓ =>
    intro tₓ htₓ hNₓ eₓ
    rw [e_X12_firstOpen_3] at eₓ
    unfold b_X12_firstOpen_3 at eₓ
    by_cases cₓ : till < (tₓ : Int)
    · rw [mIf_pos cₓ, mRet_e] at eₓ
      obtain ⟨rfl, rfl⟩ := some_el eₓ
      exact ⟨rfl, Or.inl ⟨rfl, fun uₓ u1ₓ u2ₓ => hNₓ uₓ u1ₓ (by omega)⟩⟩
    · have etₓ : (tₓ : Int) / 24 = ((tₓ / 24 : Nat) : Int) := by omega
      rw [mIf_neg cₓ, mLet_e, etₓ] at eₓ
      obtain ⟨x1ₓ, s1ₓ, d1ₓ, eₓ⟩ := mCall_el eₓ
      obtain ⟨hs1ₓ, h1ₓ⟩ := r_isDayFor hsₓ d1ₓ
      rw [hs1ₓ] at eₓ
      rcases h1ₓ with ⟨rfl, a1ₓ, a2ₓ⟩ | ⟨rfl, h1ₓ⟩
      · rw [mIf_pos (by decide)] at eₓ
        obtain ⟨x2ₓ, s2ₓ, d2ₓ, eₓ⟩ := mCall_el eₓ
        obtain ⟨hs2ₓ, h2ₓ⟩ := r_isLifted d2ₓ
        rw [hs2ₓ] at eₓ
        rcases h2ₓ with ⟨rfl, h2ₓ⟩ | ⟨rfl, h2ₓ⟩
        · rw [mIf_neg (by decide), mLet_e, show (tₓ : Int) + 1 = ((tₓ + 1 : Nat) : Int) by omega] at eₓ
          refine ihₓ (tₓ + 1) (by omega) (fun uₓ u1ₓ u2ₓ hpₓ => ?_) eₓ
          by_cases cu : uₓ = tₓ
          · subst cu; exact hpₓ.2.2 h2ₓ
          · exact hNₓ uₓ u1ₓ (by omega) hpₓ
        · rw [mIf_pos rfl, mRet_e] at eₓ
          obtain ⟨rfl, rfl⟩ := some_el eₓ
          exact ⟨rfl, Or.inr ⟨tₓ, rfl, htₓ, by omega, ⟨a1ₓ, a2ₓ, h2ₓ⟩, hNₓ⟩⟩
      · rw [mIf_neg (fun qₓ => qₓ rfl), mLet_e, mLet_e, mLet_e, show (((tₓ / 24 : Nat) : Int) + 1) * 24 = (((tₓ / 24 + 1) * 24 : Nat) : Int) by omega] at eₓ
        refine ihₓ ((tₓ / 24 + 1) * 24) (by omega) (fun uₓ u1ₓ u2ₓ hpₓ => ?_) eₓ
        by_cases cu : uₓ < tₓ
        · exact hNₓ uₓ u1ₓ cu hpₓ
        · have eu : uₓ / 24 = tₓ / 24 := by omega
          rw [← eu] at h1ₓ
          exact h1ₓ ⟨hpₓ.1, hpₓ.2.1⟩
theorem r_firstOpen {first : Nat} {till : Int} (hsₓ : ¬ τ 0 27 = 0) (eₓ : m_X12_firstOpen nₓ 0 (sₓ : Int) xₓ (first : Int) till τ = some (r'ₓ, τ')) : τ' = τ ∧ FOr (τ 12) sₓ (sdC (τ 12) sₓ xₓ) first till r'ₓ := r_first0 hsₓ nₓ first (Nat.le_refl _) (fun uₓ u1ₓ u2ₓ => absurd u2ₓ (by omega)) eₓ
end
