/-! WEEKDAYS -/
def i32R (xₓ : Int) : Prop := -2147483648 ≤ xₓ ∧ xₓ ≤ 2147483647
theorem o32_r {fₓ : Int32 → Int32 → Int32} {aₓ bₓ : Int} : i32R (o32 fₓ aₓ bₓ) := wk_i32 _
theorem mOr_z {aₓ : Int} (hₓ : i32R aₓ) : mOr aₓ 0 = aₓ := by
  show (Int32.ofInt aₓ ||| Int32.ofInt 0).toInt = aₓ
  rw [show Int32.ofInt 0 = 0 by decide, Int32.or_zero]
  exact i32_of hₓ.1 hₓ.2
theorem mAnd1 {xₓ : Int} : mAnd xₓ 1 = 0 ∨ mAnd xₓ 1 = 1 := by
  have eₓ : (Int32.ofInt 1).toInt = 1 := by decide
  have hₓ := @wk_and (Int32.ofInt xₓ) (Int32.ofInt 1) (by decide)
  rw [eₓ] at hₓ
  have e2ₓ : mAnd xₓ 1 = (Int32.ofInt xₓ &&& Int32.ofInt 1).toInt := rfl
  rw [e2ₓ]; omega
def fitD (P : Nat → Int) (dₓ : Nat) : Nat → Bool
  | 0 => true
  | kₓ + 1 => fitD P dₓ kₓ && decide (P (13 + 10 * (P (264 + 2 * kₓ)).toNat + dₓ) = P (265 + 2 * kₓ))
theorem fitD_no {P : Nat → Int} {dₓ kₓ : Nat} (hₓ : fitD P dₓ kₓ = false) : ∀ jₓ : Nat, fitD P dₓ (kₓ + jₓ) = false
  | 0 => hₓ
  | jₓ + 1 => by
    show (fitD P dₓ (kₓ + jₓ) && decide _) = false
    rw [fitD_no hₓ jₓ]; rfl
def fitB (P : Nat → Int) (K : Nat) : Nat → Int
  | 0 => 0
  | dₓ + 1 => if fitD P dₓ K = true then mOr (fitB P K dₓ) (mShl 1 (dₓ : Int)) else fitB P K dₓ
theorem fitB_r {P : Nat → Int} {K : Nat} : ∀ dₓ : Nat, i32R (fitB P K dₓ)
  | 0 => ⟨by show (-2147483648 : Int) ≤ 0; decide, by show (0 : Int) ≤ 2147483647; decide⟩
  | dₓ + 1 => by
    show i32R (if fitD P dₓ K = true then mOr (fitB P K dₓ) (mShl 1 (dₓ : Int)) else fitB P K dₓ)
    by_cases cₓ : fitD P dₓ K = true
    · rw [if_pos cₓ]; exact o32_r
    · rw [if_neg cₓ]; exact fitB_r dₓ
theorem fitB_p {P : Nat → Int} {K dₓ : Nat} (hₓ : fitD P dₓ K = true) : fitB P K (dₓ + 1) = mOr (fitB P K dₓ) (mShl 1 (dₓ : Int)) := if_pos hₓ
theorem fitB_n {P : Nat → Int} {K dₓ : Nat} (hₓ : ¬ fitD P dₓ K = true) : fitB P K (dₓ + 1) = fitB P K dₓ := if_neg hₓ
/-- days told as bits that have aₓ sign -/
def cntB (gₓ : Nat → Int) (B sₓ : Int) : Nat → Int
  | 0 => 0
  | kₓ + 1 => cntB gₓ B sₓ kₓ + (if ¬ mAnd (mShr B (kₓ : Int)) 1 = 0 ∧ gₓ kₓ = sₓ then 1 else 0)
theorem cntB_p {gₓ : Nat → Int} {B sₓ : Int} {kₓ : Nat} (hₓ : ¬ mAnd (mShr B (kₓ : Int)) 1 = 0 ∧ gₓ kₓ = sₓ) : cntB gₓ B sₓ (kₓ + 1) = cntB gₓ B sₓ kₓ + 1 := by show cntB gₓ B sₓ kₓ + (if ¬ mAnd (mShr B (kₓ : Int)) 1 = 0 ∧ gₓ kₓ = sₓ then 1 else 0) = _; rw [if_pos hₓ]
theorem cntB_n {gₓ : Nat → Int} {B sₓ : Int} {kₓ : Nat} (hₓ : ¬ (¬ mAnd (mShr B (kₓ : Int)) 1 = 0 ∧ gₓ kₓ = sₓ)) : cntB gₓ B sₓ (kₓ + 1) = cntB gₓ B sₓ kₓ := by show cntB gₓ B sₓ kₓ + (if ¬ mAnd (mShr B (kₓ : Int)) 1 = 0 ∧ gₓ kₓ = sₓ then 1 else 0) = _; rw [if_neg hₓ, Int.add_zero]
theorem cntB_b {gₓ : Nat → Int} {B sₓ : Int} : ∀ kₓ : Nat, 0 ≤ cntB gₓ B sₓ kₓ ∧ cntB gₓ B sₓ kₓ ≤ (kₓ : Int)
  | 0 => ⟨Int.le_refl 0, Int.le_refl 0⟩
  | kₓ + 1 => by
    have hₓ := cntB_b (gₓ := gₓ) (B := B) (sₓ := sₓ) kₓ
    by_cases cₓ : ¬ mAnd (mShr B (kₓ : Int)) 1 = 0 ∧ gₓ kₓ = sₓ
    · rw [cntB_p cₓ]; omega
    · rw [cntB_n cₓ]; omega
def mstN (gₓ : Nat → Int) (B : Int) : Nat → Int
  | 0 => 0
  | kₓ + 1 => if mstN gₓ B kₓ < cntB gₓ B (kₓ : Int) 7 then cntB gₓ B (kₓ : Int) 7 else mstN gₓ B kₓ
theorem mstN_b {gₓ : Nat → Int} {B : Int} : ∀ kₓ : Nat, 0 ≤ mstN gₓ B kₓ ∧ mstN gₓ B kₓ ≤ 7
  | 0 => ⟨Int.le_refl 0, by show (0 : Int) ≤ 7; decide⟩
  | kₓ + 1 => by
    have hₓ := mstN_b (gₓ := gₓ) (B := B) kₓ
    have h2ₓ := cntB_b (gₓ := gₓ) (B := B) (sₓ := (kₓ : Int)) 7
    show 0 ≤ (if mstN gₓ B kₓ < cntB gₓ B (kₓ : Int) 7 then cntB gₓ B (kₓ : Int) 7 else mstN gₓ B kₓ) ∧ (if mstN gₓ B kₓ < cntB gₓ B (kₓ : Int) 7 then cntB gₓ B (kₓ : Int) 7 else mstN gₓ B kₓ) ≤ 7
    by_cases cₓ : mstN gₓ B kₓ < cntB gₓ B (kₓ : Int) 7
    · rw [if_pos cₓ]; omega
    · rw [if_neg cₓ]; exact hₓ
/-- the street to look at: the least with the fewest -/
def lookN (M : Nat → Int) : Nat → Nat
  | 0 => 0
  | kₓ + 1 => if M (kₓ + 1) < M (lookN M kₓ) then kₓ + 1 else lookN M kₓ
theorem lookN_le {M : Nat → Int} : ∀ kₓ : Nat, lookN M kₓ ≤ kₓ
  | 0 => Nat.le_refl 0
  | kₓ + 1 => by
    have hₓ := lookN_le (M := M) kₓ
    show (if M (kₓ + 1) < M (lookN M kₓ) then kₓ + 1 else lookN M kₓ) ≤ kₓ + 1
    by_cases cₓ : M (kₓ + 1) < M (lookN M kₓ)
    · rw [if_pos cₓ]; exact Nat.le_refl _
    · rw [if_neg cₓ]; omega
section
variable {σ σ' τ τ' : SS} {rₓ r'ₓ : Int} {P : Nat → Int} {N K : Nat}
theorem c_fits0 {dₓ : Nat} (h11ₓ : σ 38 11 = (K : Int)) (hqₓ : ∀ kₓ : Nat, kₓ < K → σ 52 kₓ = P (264 + 2 * kₓ) ∧ σ 53 kₓ = P (265 + 2 * kₓ) ∧ 0 ≤ P (264 + 2 * kₓ) ∧ σ 42 (7 * (P (264 + 2 * kₓ)).toNat + dₓ) = P (13 + 10 * (P (264 + 2 * kₓ)).toNat + dₓ)) : ∀ (nₓ kₓ : Nat), kₓ ≤ K → fitD P dₓ kₓ = true → j_X5_fitsSights 38 nₓ 2 [(dₓ : Int), (kₓ : Int)] σ = some (rₓ, σ') → rₓ = (if fitD P dₓ K = true then 1 else 0) ∧ σ' = σ := by
  intro nₓ
  induction nₓ with
  | zero => intro kₓ _ _ eₓ; exact none_el eₓ
  | succ nₓ ihₓ =>
    intro kₓ hkₓ hfₓ eₓ
    rw [e_X5_fitsSights_2] at eₓ
    unfold b_X5_fitsSights_2 at eₓ
    rw [mRd_e, h11ₓ] at eₓ
    by_cases cₓ : (K : Int) ≤ (kₓ : Int)
    · obtain rfl : kₓ = K := by omega
      rw [mIf_pos cₓ, mRet_e] at eₓ
      obtain ⟨rfl, rfl⟩ := some_el eₓ
      rw [if_pos hfₓ]; exact ⟨rfl, rfl⟩
    · obtain ⟨q1ₓ, q2ₓ, q3ₓ, q4ₓ⟩ := hqₓ kₓ (by omega)
      have j0ₓ : ((kₓ : Nat) : Int).toNat = kₓ := by omega
      rw [mIf_neg cₓ, mRd_e, j0ₓ, show σ (38 + 14) kₓ = P (264 + 2 * kₓ) from q1ₓ] at eₓ
      unfold m_X7_signOn at eₓ
      rw [mLet_e, mLet_e, mRd_e, mRet_e, mCall_s, mRd_e, show σ (38 + 15) kₓ = P (265 + 2 * kₓ) from q2ₓ, show (7 * P (264 + 2 * kₓ) + (dₓ : Int)).toNat = 7 * (P (264 + 2 * kₓ)).toNat + dₓ by omega, show σ (38 + 1 + 3) (7 * (P (264 + 2 * kₓ)).toNat + dₓ) = P (13 + 10 * (P (264 + 2 * kₓ)).toNat + dₓ) from q4ₓ] at eₓ
      by_cases cs : P (13 + 10 * (P (264 + 2 * kₓ)).toNat + dₓ) = P (265 + 2 * kₓ)
      · rw [mIf_pos cs, mLet_e, show (kₓ : Int) + 1 = ((kₓ + 1 : Nat) : Int) by omega] at eₓ
        exact ihₓ (kₓ + 1) (by omega) (by show (fitD P dₓ kₓ && decide _) = true; rw [hfₓ, decide_eq_true cs]; rfl) eₓ
      · rw [mIf_neg cs, mRet_e] at eₓ
        obtain ⟨rfl, rfl⟩ := some_el eₓ
        have h1ₓ : fitD P dₓ (kₓ + 1) = false := by show (fitD P dₓ kₓ && decide _) = false; rw [hfₓ, decide_eq_false cs]; rfl
        have h2ₓ := fitD_no h1ₓ (K - (kₓ + 1))
        rw [show kₓ + 1 + (K - (kₓ + 1)) = K by omega] at h2ₓ
        rw [if_neg (by rw [h2ₓ]; decide)]; exact ⟨rfl, rfl⟩
theorem c_fitting0 (h11ₓ : σ 38 11 = (K : Int)) (hqₓ : ∀ kₓ : Nat, kₓ < K → σ 52 kₓ = P (264 + 2 * kₓ) ∧ σ 53 kₓ = P (265 + 2 * kₓ) ∧ 0 ≤ P (264 + 2 * kₓ) ∧ ∀ dₓ : Nat, dₓ < 7 → σ 42 (7 * (P (264 + 2 * kₓ)).toNat + dₓ) = P (13 + 10 * (P (264 + 2 * kₓ)).toNat + dₓ)) : ∀ (nₓ dₓ : Nat), dₓ ≤ 7 → j_X5_fittingDays 38 nₓ 4 [fitB P K dₓ, (dₓ : Int)] σ = some (rₓ, σ') → rₓ = fitB P K 7 ∧ σ' = σ := by
  intro nₓ
  induction nₓ with
  | zero => intro dₓ _ eₓ; exact none_el eₓ
  | succ nₓ ihₓ =>
    intro dₓ hdₓ eₓ
    rw [e_X5_fittingDays_4] at eₓ
    unfold b_X5_fittingDays_4 b_X5_fittingDays_24 at eₓ
    by_cases cₓ : 7 ≤ (dₓ : Int)
    · obtain rfl : dₓ = 7 := by omega
      rw [mIf_pos cₓ, mRet_e] at eₓ
      obtain ⟨rfl, rfl⟩ := some_el eₓ
      exact ⟨rfl, rfl⟩
    · rw [mIf_neg cₓ] at eₓ
      obtain ⟨x1ₓ, s1ₓ, d1ₓ, eₓ⟩ := mCall_el eₓ
      have e1ₓ : j_X5_fitsSights 38 nₓ 2 [(dₓ : Int), ((0 : Nat) : Int)] σ = some (x1ₓ, s1ₓ) := d1ₓ
      obtain ⟨hxₓ, hsₓ⟩ := c_fits0 (dₓ := dₓ) h11ₓ (fun kₓ hkₓ => ⟨(hqₓ kₓ hkₓ).1, (hqₓ kₓ hkₓ).2.1, (hqₓ kₓ hkₓ).2.2.1, (hqₓ kₓ hkₓ).2.2.2 dₓ (by omega)⟩) nₓ 0 (by omega) rfl e1ₓ
      subst hsₓ
      by_cases cs : fitD P dₓ K = true
      · rw [if_pos cs] at hxₓ
        subst hxₓ
        rw [mIf_neg (by decide), mLet_e, mLet_e, mLet_e, ← fitB_p cs, show (dₓ : Int) + 1 = ((dₓ + 1 : Nat) : Int) by omega] at eₓ
        exact ihₓ (dₓ + 1) (by omega) eₓ
      · rw [if_neg cs] at hxₓ
        subst hxₓ
        rw [mIf_pos rfl, mLet_e, ← fitB_n cs, show (dₓ : Int) + 1 = ((dₓ + 1 : Nat) : Int) by omega] at eₓ
        exact ihₓ (dₓ + 1) (by omega) eₓ
theorem r_fitting0 (h7ₓ : τ 12 7 = (K : Int)) (hqₓ : ∀ kₓ : Nat, kₓ < K → 0 ≤ τ 12 (264 + 2 * kₓ)) : ∀ nₓ : Nat, (∀ dₓ : Nat, dₓ ≤ 7 → j_X12_fitting 0 nₓ 4 [fitB (τ 12) K dₓ, (dₓ : Int)] τ = some (r'ₓ, τ') → r'ₓ = fitB (τ 12) K 7 ∧ τ' = τ) ∧ ∀ (dₓ kₓ : Nat), dₓ < 7 → kₓ ≤ K → j_X12_fitting 0 nₓ 15 [fitB (τ 12) K dₓ, (dₓ : Int), (if fitD (τ 12) dₓ kₓ = true then 1 else 0), (kₓ : Int)] τ = some (r'ₓ, τ') → r'ₓ = fitB (τ 12) K 7 ∧ τ' = τ := by
  intro nₓ
  induction nₓ with
  | zero => exact ⟨fun dₓ _ eₓ => none_el eₓ, fun dₓ kₓ _ _ eₓ => none_el eₓ⟩
  | succ nₓ ihₓ =>
    refine ⟨fun dₓ hdₓ eₓ => ?_, fun dₓ kₓ hdₓ hkₓ eₓ => ?_⟩
    · rw [e_X12_fitting_4] at eₓ
      unfold b_X12_fitting_4 at eₓ
      by_cases cₓ : 7 ≤ (dₓ : Int)
      · obtain rfl : dₓ = 7 := by omega
        rw [mIf_pos cₓ, mRet_e] at eₓ
        obtain ⟨rfl, rfl⟩ := some_el eₓ
        exact ⟨rfl, rfl⟩
      · rw [mIf_neg cₓ] at eₓ
        exact ihₓ.2 dₓ 0 (by omega) (by omega) eₓ
    · rw [e_X12_fitting_15] at eₓ
      unfold b_X12_fitting_15 b_X12_fitting_93 b_X12_fitting_73 b_X12_fitting_74 at eₓ
      rw [mRd_e, show (7 : Int).toNat = 7 from rfl, h7ₓ] at eₓ
      have ed : (dₓ : Int) + 1 = ((dₓ + 1 : Nat) : Int) := by omega
      have ek : (kₓ : Int) + 1 = ((kₓ + 1 : Nat) : Int) := by omega
      by_cases cₓ : (K : Int) ≤ (kₓ : Int)
      · obtain rfl : kₓ = K := by omega
        rw [mIf_pos cₓ] at eₓ
        by_cases cf : fitD (τ 12) dₓ kₓ = true
        · rw [if_pos cf, mIf_neg (by decide), mLet_e, mLet_e, mLet_e, ← fitB_p cf, ed] at eₓ
          exact ihₓ.1 (dₓ + 1) (by omega) eₓ
        · rw [if_neg cf, mIf_pos rfl, mLet_e, mLet_e, mOr_z (fitB_r dₓ), ← fitB_n cf, ed] at eₓ
          exact ihₓ.1 (dₓ + 1) (by omega) eₓ
      · rw [mIf_neg cₓ] at eₓ
        by_cases cf : fitD (τ 12) dₓ kₓ = true
        · have qₓ := hqₓ kₓ (by omega)
          obtain ⟨iₓ, hiₓ⟩ : ∃ iₓ : Nat, τ 12 (264 + 2 * kₓ) = (iₓ : Int) := ⟨(τ 12 (264 + 2 * kₓ)).toNat, by omega⟩
          have hi2ₓ : (τ 12 (264 + 2 * kₓ)).toNat = iₓ := by omega
          rw [if_pos cf, mIf_neg (by decide), mLet_e, mLet_e, mRd_e, mLet_e, show ((264 : Int) + 2 * (kₓ : Int)).toNat = 264 + 2 * kₓ by omega, hiₓ, r_streetOf, mCall_s, mLet_e, mLet_e, mLet_e, mRd_e, show ((264 : Int) + 2 * (kₓ : Int) + 1).toNat = 265 + 2 * kₓ by omega] at eₓ
          by_cases cs : τ 12 (13 + 10 * iₓ + dₓ) = τ 12 (265 + 2 * kₓ)
          · have h1ₓ : fitD (τ 12) dₓ (kₓ + 1) = true := by show (fitD (τ 12) dₓ kₓ && decide _) = true; rw [cf, hi2ₓ, decide_eq_true cs]; rfl
            rw [mIf_neg (fun qₓ => qₓ cs), mLet_e, ek] at eₓ
            have e'ₓ : j_X12_fitting 0 nₓ 15 [fitB (τ 12) K dₓ, (dₓ : Int), (if fitD (τ 12) dₓ (kₓ + 1) = true then 1 else 0), ((kₓ + 1 : Nat) : Int)] τ = some (r'ₓ, τ') := by rw [if_pos h1ₓ]; exact eₓ
            exact ihₓ.2 dₓ (kₓ + 1) hdₓ (by omega) e'ₓ
          · have h1ₓ : fitD (τ 12) dₓ (kₓ + 1) = false := by show (fitD (τ 12) dₓ kₓ && decide _) = false; rw [cf, hi2ₓ, decide_eq_false cs]; rfl
            rw [mIf_pos cs, mLet_e, ek] at eₓ
            have e'ₓ : j_X12_fitting 0 nₓ 15 [fitB (τ 12) K dₓ, (dₓ : Int), (if fitD (τ 12) dₓ (kₓ + 1) = true then 1 else 0), ((kₓ + 1 : Nat) : Int)] τ = some (r'ₓ, τ') := by rw [if_neg (by rw [h1ₓ]; decide)]; exact eₓ
            exact ihₓ.2 dₓ (kₓ + 1) hdₓ (by omega) e'ₓ
        · have h1ₓ : fitD (τ 12) dₓ (kₓ + 1) = false := by
            have h0ₓ : fitD (τ 12) dₓ kₓ = false := by cases hₓ : fitD (τ 12) dₓ kₓ with
              | true => exact absurd hₓ cf
              | false => rfl
            exact fitD_no h0ₓ 1
          rw [if_neg cf, mIf_pos rfl, mLet_e, ek] at eₓ
          have e'ₓ : j_X12_fitting 0 nₓ 15 [fitB (τ 12) K dₓ, (dₓ : Int), (if fitD (τ 12) dₓ (kₓ + 1) = true then 1 else 0), ((kₓ + 1 : Nat) : Int)] τ = some (r'ₓ, τ') := by rw [if_neg (by rw [h1ₓ]; decide)]; exact eₓ
          exact ihₓ.2 dₓ (kₓ + 1) hdₓ (by omega) e'ₓ
theorem c_most0 {gₓ : Nat → Int} {iₓ : Nat} {B : Int} (hgₓ : ∀ jₓ : Nat, jₓ < 7 → σ 42 (7 * iₓ + jₓ) = gₓ jₓ) : ∀ nₓ : Nat, (∀ kₓ : Nat, kₓ ≤ 4 → j_X5_mostAlike 38 nₓ 5 [(iₓ : Int), B, mstN gₓ B kₓ, (kₓ : Int)] σ = some (rₓ, σ') → rₓ = mstN gₓ B 4 ∧ σ' = σ) ∧ ∀ kₓ dₓ : Nat, kₓ < 4 → dₓ ≤ 7 → j_X5_mostAlike 38 nₓ 17 [(iₓ : Int), B, mstN gₓ B kₓ, (kₓ : Int), cntB gₓ B (kₓ : Int) dₓ, (dₓ : Int)] σ = some (rₓ, σ') → rₓ = mstN gₓ B 4 ∧ σ' = σ := by
  intro nₓ
  induction nₓ with
  | zero => exact ⟨fun kₓ _ eₓ => none_el eₓ, fun kₓ dₓ _ _ eₓ => none_el eₓ⟩
  | succ nₓ ihₓ =>
    refine ⟨fun kₓ hkₓ eₓ => ?_, fun kₓ dₓ hkₓ hdₓ eₓ => ?_⟩
    · rw [e_X5_mostAlike_5] at eₓ
      unfold b_X5_mostAlike_5 at eₓ
      by_cases cₓ : 3 < (kₓ : Int)
      · obtain rfl : kₓ = 4 := by omega
        rw [mIf_pos cₓ, mRet_e] at eₓ
        obtain ⟨rfl, rfl⟩ := some_el eₓ
        exact ⟨rfl, rfl⟩
      · rw [mIf_neg cₓ] at eₓ
        exact ihₓ.2 kₓ 0 (by omega) (by omega) eₓ
    · rw [e_X5_mostAlike_17] at eₓ
      unfold b_X5_mostAlike_17 b_X5_mostAlike_51 at eₓ
      have ed : (dₓ : Int) + 1 = ((dₓ + 1 : Nat) : Int) := by omega
      have hbₓ := cntB_b (gₓ := gₓ) (B := B) (sₓ := (kₓ : Int)) dₓ
      by_cases cₓ : 7 ≤ (dₓ : Int)
      · obtain rfl : dₓ = 7 := by omega
        have hmₓ : mMax (mstN gₓ B kₓ) (cntB gₓ B (kₓ : Int) 7) = mstN gₓ B (kₓ + 1) := by
          show mMax (mstN gₓ B kₓ) (cntB gₓ B (kₓ : Int) 7) = if mstN gₓ B kₓ < cntB gₓ B (kₓ : Int) 7 then cntB gₓ B (kₓ : Int) 7 else mstN gₓ B kₓ
          by_cases cc : mstN gₓ B kₓ < cntB gₓ B (kₓ : Int) 7
          · rw [if_pos cc]; exact mMax_e (Or.inr ⟨rfl, cc⟩)
          · rw [if_neg cc]; exact mMax_e (Or.inl ⟨rfl, by omega⟩)
        rw [mIf_pos cₓ, mLet_e, mLet_e, hmₓ, show (kₓ : Int) + 1 = ((kₓ + 1 : Nat) : Int) by omega] at eₓ
        exact ihₓ.1 (kₓ + 1) (by omega) eₓ
      · rw [mIf_neg cₓ, mLet_e, mLet_e] at eₓ
        by_cases cb : mAnd (mShr B (dₓ : Int)) 1 = 0
        · rw [mIf_pos cb, mLet_e, ← cntB_n (gₓ := gₓ) (sₓ := (kₓ : Int)) (fun qₓ => qₓ.1 cb), ed] at eₓ
          exact ihₓ.2 kₓ (dₓ + 1) hkₓ (by omega) eₓ
        · rw [mIf_neg cb] at eₓ
          unfold m_X7_signOn at eₓ
          rw [mLet_e, mLet_e, mRd_e, mRet_e, mCall_s, show (7 * (iₓ : Int) + (dₓ : Int)).toNat = 7 * iₓ + dₓ by omega, show σ (38 + 1 + 3) (7 * iₓ + dₓ) = gₓ dₓ from hgₓ dₓ (by omega)] at eₓ
          by_cases cs : gₓ dₓ = (kₓ : Int)
          · rw [mIf_neg (fun qₓ => qₓ cs), mLet_e, mLet_e, mAdd_x (by omega) (by omega) (by decide) (by decide) (by omega) (by omega), ← cntB_p ⟨cb, cs⟩, ed] at eₓ
            exact ihₓ.2 kₓ (dₓ + 1) hkₓ (by omega) eₓ
          · rw [mIf_pos cs, mLet_e, ← cntB_n (gₓ := gₓ) (B := B) (sₓ := (kₓ : Int)) (fun qₓ => cs qₓ.2), ed] at eₓ
            exact ihₓ.2 kₓ (dₓ + 1) hkₓ (by omega) eₓ
theorem r_most0 {gₓ : Nat → Int} {iₓ : Nat} {B : Int} (hgₓ : ∀ jₓ : Nat, jₓ < 7 → τ 12 (13 + 10 * iₓ + jₓ) = gₓ jₓ) : ∀ nₓ : Nat, (∀ kₓ : Nat, kₓ ≤ 4 → j_X12_mostAlike 0 nₓ 5 [(iₓ : Int), B, mstN gₓ B kₓ, (kₓ : Int)] τ = some (r'ₓ, τ') → r'ₓ = mstN gₓ B 4 ∧ τ' = τ) ∧ ∀ kₓ dₓ : Nat, kₓ < 4 → dₓ ≤ 7 → j_X12_mostAlike 0 nₓ 17 [(iₓ : Int), B, mstN gₓ B kₓ, (kₓ : Int), cntB gₓ B (kₓ : Int) dₓ, (dₓ : Int)] τ = some (r'ₓ, τ') → r'ₓ = mstN gₓ B 4 ∧ τ' = τ := by
  intro nₓ
  induction nₓ with
  | zero => exact ⟨fun kₓ _ eₓ => none_el eₓ, fun kₓ dₓ _ _ eₓ => none_el eₓ⟩
  | succ nₓ ihₓ =>
    refine ⟨fun kₓ hkₓ eₓ => ?_, fun kₓ dₓ hkₓ hdₓ eₓ => ?_⟩
    · rw [e_X12_mostAlike_5] at eₓ
      unfold b_X12_mostAlike_5 at eₓ
      by_cases cₓ : 4 ≤ (kₓ : Int)
      · obtain rfl : kₓ = 4 := by omega
        rw [mIf_pos cₓ, mRet_e] at eₓ
        obtain ⟨rfl, rfl⟩ := some_el eₓ
        exact ⟨rfl, rfl⟩
      · rw [mIf_neg cₓ] at eₓ
        exact ihₓ.2 kₓ 0 (by omega) (by omega) eₓ
    · rw [e_X12_mostAlike_17] at eₓ
      unfold b_X12_mostAlike_17 b_X12_mostAlike_75 b_X12_mostAlike_53 b_X12_mostAlike_54 at eₓ
      have ed : (dₓ : Int) + 1 = ((dₓ + 1 : Nat) : Int) := by omega
      have hbₓ := cntB_b (gₓ := gₓ) (B := B) (sₓ := (kₓ : Int)) dₓ
      have add0 : mAdd (cntB gₓ B (kₓ : Int) dₓ) 0 = cntB gₓ B (kₓ : Int) dₓ := by
        by_cases c7ₓ : dₓ ≤ 7
        · rw [mAdd_x (by omega) (by omega) (by decide) (by decide) (by omega) (by omega), Int.add_zero]
        · omega
      by_cases cₓ : 7 ≤ (dₓ : Int)
      · obtain rfl : dₓ = 7 := by omega
        have ek : (kₓ : Int) + 1 = ((kₓ + 1 : Nat) : Int) := by omega
        rw [mIf_pos cₓ] at eₓ
        by_cases cc : cntB gₓ B (kₓ : Int) 7 ≤ mstN gₓ B kₓ
        · have hmₓ : mstN gₓ B (kₓ + 1) = mstN gₓ B kₓ := if_neg (by omega)
          rw [mIf_pos cc, mLet_e, ← hmₓ, ek] at eₓ
          exact ihₓ.1 (kₓ + 1) (by omega) eₓ
        · have hmₓ : mstN gₓ B (kₓ + 1) = cntB gₓ B (kₓ : Int) 7 := if_pos (by omega)
          rw [mIf_neg cc, mLet_e, ← hmₓ, ek] at eₓ
          exact ihₓ.1 (kₓ + 1) (by omega) eₓ
      · rw [mIf_neg cₓ] at eₓ
        unfold m_X12_isOf at eₓ
        rw [mLet_e, mLet_e] at eₓ
        by_cases cb : mAnd (mShr B (dₓ : Int)) 1 = 0
        · rw [mIf_pos (by rw [cb]; decide), mRet_e, mCall_s, mIf_pos rfl, mLet_e, mLet_e, add0, ← cntB_n (gₓ := gₓ) (sₓ := (kₓ : Int)) (fun qₓ => qₓ.1 cb), ed] at eₓ
          exact ihₓ.2 kₓ (dₓ + 1) hkₓ (by omega) eₓ
        · have cb1 : mAnd (mShr B (dₓ : Int)) 1 = 1 := mAnd1.resolve_left cb
          rw [mIf_neg (fun qₓ => qₓ cb1), mRet_e, mCall_s, mIf_neg (by decide), mLet_e, r_streetOf, mCall_s, hgₓ dₓ (by omega)] at eₓ
          by_cases cs : gₓ dₓ = (kₓ : Int)
          · rw [mIf_neg (fun qₓ => qₓ cs), mLet_e, mLet_e, mAdd_x (by omega) (by omega) (by decide) (by decide) (by omega) (by omega), ← cntB_p ⟨cb, cs⟩, ed] at eₓ
            exact ihₓ.2 kₓ (dₓ + 1) hkₓ (by omega) eₓ
          · rw [mIf_pos cs, mLet_e, mLet_e, add0, ← cntB_n (gₓ := gₓ) (B := B) (sₓ := (kₓ : Int)) (fun qₓ => cs qₓ.2), ed] at eₓ
            exact ihₓ.2 kₓ (dₓ + 1) hkₓ (by omega) eₓ
theorem c_look0 {G : Nat → Nat → Int} {B : Int} (h9ₓ : σ 39 9 = (N : Int)) (hGₓ : ∀ iₓ jₓ : Nat, iₓ < N → jₓ < 7 → σ 42 (7 * iₓ + jₓ) = G iₓ jₓ) : ∀ (nₓ kₓ : Nat), kₓ < N → j_X5_streetToLookAt 38 nₓ 9 [B, (lookN (fun iₓ => mstN (G iₓ) B 4) kₓ : Int), mstN (G (lookN (fun iₓ => mstN (G iₓ) B 4) kₓ)) B 4, ((kₓ + 1 : Nat) : Int)] σ = some (rₓ, σ') → rₓ = (lookN (fun iₓ => mstN (G iₓ) B 4) (N - 1) : Int) := by
  intro nₓ
  induction nₓ with
  | zero => intro kₓ _ eₓ; exact none_el eₓ
  | succ nₓ ihₓ =>
    intro kₓ hkₓ eₓ
    rw [e_X5_streetToLookAt_9] at eₓ
    unfold b_X5_streetToLookAt_9 b_X5_streetToLookAt_42 at eₓ
    rw [mRd_e, show σ (38 + 1) 9 = (N : Int) from h9ₓ] at eₓ
    have ek : ((kₓ + 1 : Nat) : Int) + 1 = ((kₓ + 1 + 1 : Nat) : Int) := by omega
    by_cases cₓ : (N : Int) ≤ ((kₓ + 1 : Nat) : Int)
    · obtain rfl : N = kₓ + 1 := by omega
      rw [mIf_pos cₓ, mRet_e] at eₓ
      obtain ⟨rfl, -⟩ := some_el eₓ
      rfl
    · rw [mIf_neg cₓ] at eₓ
      obtain ⟨x1ₓ, s1ₓ, d1ₓ, eₓ⟩ := mCall_el eₓ
      obtain ⟨hxₓ, hsₓ⟩ := (c_most0 (gₓ := G (kₓ + 1)) (iₓ := kₓ + 1) (B := B) (fun jₓ hjₓ => hGₓ (kₓ + 1) jₓ (by omega) hjₓ) nₓ).1 0 (by decide) d1ₓ
      subst hsₓ
      subst hxₓ
      by_cases cs : mstN (G (lookN (fun iₓ => mstN (G iₓ) B 4) kₓ)) B 4 ≤ mstN (G (kₓ + 1)) B 4
      · have hlₓ : lookN (fun iₓ => mstN (G iₓ) B 4) (kₓ + 1) = lookN (fun iₓ => mstN (G iₓ) B 4) kₓ := if_neg (by show ¬ mstN (G (kₓ + 1)) B 4 < mstN (G (lookN (fun iₓ => mstN (G iₓ) B 4) kₓ)) B 4; omega)
        rw [mIf_pos cs, mLet_e, ek, ← hlₓ] at eₓ
        exact ihₓ (kₓ + 1) (by omega) eₓ
      · have hlₓ : lookN (fun iₓ => mstN (G iₓ) B 4) (kₓ + 1) = kₓ + 1 := if_pos (by show mstN (G (kₓ + 1)) B 4 < mstN (G (lookN (fun iₓ => mstN (G iₓ) B 4) kₓ)) B 4; omega)
        rw [mIf_neg cs, mLet_e, ek] at eₓ
        refine ihₓ (kₓ + 1) (by omega) ?_
        rw [hlₓ]; exact eₓ
theorem r_look0 {G : Nat → Nat → Int} {B : Int} (h9ₓ : τ 12 1 = (N : Int)) (hGₓ : ∀ iₓ jₓ : Nat, iₓ < N → jₓ < 7 → τ 12 (13 + 10 * iₓ + jₓ) = G iₓ jₓ) : ∀ (nₓ kₓ : Nat), kₓ < N → j_X12_weekdays 0 nₓ 51 [B, (lookN (fun iₓ => mstN (G iₓ) B 4) kₓ : Int), ((kₓ + 1 : Nat) : Int)] τ = some (r'ₓ, τ') → r'ₓ = (lookN (fun iₓ => mstN (G iₓ) B 4) (N - 1) : Int) := by
  intro nₓ
  induction nₓ with
  | zero => intro kₓ _ eₓ; exact none_el eₓ
  | succ nₓ ihₓ =>
    intro kₓ hkₓ eₓ
    rw [e_X12_weekdays_51] at eₓ
    unfold b_X12_weekdays_51 b_X12_weekdays_84 at eₓ
    rw [mRd_e, show (1 : Int).toNat = 1 from rfl, h9ₓ] at eₓ
    have ek : ((kₓ + 1 : Nat) : Int) + 1 = ((kₓ + 1 + 1 : Nat) : Int) := by omega
    have hleₓ := lookN_le (M := fun iₓ => mstN (G iₓ) B 4) kₓ
    by_cases cₓ : (N : Int) ≤ ((kₓ + 1 : Nat) : Int)
    · obtain rfl : N = kₓ + 1 := by omega
      rw [mIf_pos cₓ, mRet_e] at eₓ
      obtain ⟨rfl, -⟩ := some_el eₓ
      rfl
    · rw [mIf_neg cₓ] at eₓ
      obtain ⟨x1ₓ, s1ₓ, d1ₓ, eₓ⟩ := mCall_el eₓ
      obtain ⟨hxₓ, hsₓ⟩ := (r_most0 (gₓ := G (kₓ + 1)) (iₓ := kₓ + 1) (B := B) (fun jₓ hjₓ => hGₓ (kₓ + 1) jₓ (by omega) hjₓ) nₓ).1 0 (by decide) d1ₓ
      subst hsₓ
      subst hxₓ
      obtain ⟨x2ₓ, s2ₓ, d2ₓ, eₓ⟩ := mCall_el eₓ
      obtain ⟨hxₓ, hsₓ⟩ := (r_most0 (gₓ := G (lookN (fun iₓ => mstN (G iₓ) B 4) kₓ)) (iₓ := lookN (fun iₓ => mstN (G iₓ) B 4) kₓ) (B := B) (fun jₓ hjₓ => hGₓ _ jₓ (by omega) hjₓ) nₓ).1 0 (by decide) d2ₓ
      subst hsₓ
      subst hxₓ
      by_cases cs : mstN (G (lookN (fun iₓ => mstN (G iₓ) B 4) kₓ)) B 4 ≤ mstN (G (kₓ + 1)) B 4
      · have hlₓ : lookN (fun iₓ => mstN (G iₓ) B 4) (kₓ + 1) = lookN (fun iₓ => mstN (G iₓ) B 4) kₓ := if_neg (by show ¬ mstN (G (kₓ + 1)) B 4 < mstN (G (lookN (fun iₓ => mstN (G iₓ) B 4) kₓ)) B 4; omega)
        rw [mIf_pos cs, mLet_e, ek, ← hlₓ] at eₓ
        exact ihₓ (kₓ + 1) (by omega) eₓ
      · have hlₓ : lookN (fun iₓ => mstN (G iₓ) B 4) (kₓ + 1) = kₓ + 1 := if_pos (by show mstN (G (kₓ + 1)) B 4 < mstN (G (lookN (fun iₓ => mstN (G iₓ) B 4) kₓ)) B 4; omega)
        rw [mIf_neg cs, mLet_e, ek] at eₓ
        refine ihₓ (kₓ + 1) (by omega) ?_
        rw [hlₓ]; exact eₓ
theorem f_weekdays {nₓ n'ₓ : Nat} {xₓ : Int} (hₓ : SRel 38 σ (τ 12)) (hWₓ : WF (τ 12)) (e1ₓ : m_X11_weekdays nₓ 0 xₓ σ = some (rₓ, σ')) (e2ₓ : m_X12_weekdays n'ₓ 0 xₓ τ = some (r'ₓ, τ')) : rₓ = r'ₓ := by
  have t8ₓ : σ 39 8 = τ 12 0 := hₓ.2.1.1.1
  have t9ₓ : σ 39 9 = τ 12 1 := hₓ.2.1.1.2.1
  obtain ⟨hOₓ, hTₓ, hZₓ, ⟨c4ₓ, c6ₓ, c7ₓ, c8ₓ⟩, ⟨r4ₓ, r6ₓ, r7ₓ, r8ₓ⟩, m1ₓ, m2ₓ, m3ₓ, m4ₓ⟩ := id hₓ
  obtain ⟨o0ₓ, o1ₓ, -⟩ := id hOₓ
  obtain ⟨K, hKₓ⟩ : ∃ K : Nat, τ 12 7 = (K : Int) := ⟨(τ 12 7).toNat, by omega⟩
  obtain ⟨N, hNₓ⟩ : ∃ N : Nat, τ 12 1 = (N : Int) := ⟨(τ 12 1).toNat, by omega⟩
  have hqₓ : ∀ kₓ : Nat, kₓ < K → σ 52 kₓ = τ 12 (264 + 2 * kₓ) ∧ σ 53 kₓ = τ 12 (265 + 2 * kₓ) ∧ 0 ≤ τ 12 (264 + 2 * kₓ) ∧ ∀ dₓ : Nat, dₓ < 7 → σ 42 (7 * (τ 12 (264 + 2 * kₓ)).toNat + dₓ) = τ 12 (13 + 10 * (τ 12 (264 + 2 * kₓ)).toNat + dₓ) := fun kₓ hkₓ => by
    obtain ⟨w1ₓ, w2ₓ⟩ := hWₓ.2.2.1 kₓ (by omega)
    exact ⟨(m3ₓ kₓ (by omega)).1, (m3ₓ kₓ (by omega)).2, w1ₓ, fun dₓ hdₓ => (hTₓ.2.1 (τ 12 (264 + 2 * kₓ)).toNat (by omega)).2.2.2.1 dₓ hdₓ⟩
  unfold m_X11_weekdays b_X11_weekdays_19 at e1ₓ
  unfold m_X12_weekdays b_X12_weekdays_17 b_X12_weekdays_43 at e2ₓ
  rw [c_hasTown, mCall_s] at e1ₓ
  rw [r_isTown, mCall_s] at e2ₓ
  by_cases ct : 0 < τ 12 0
  · rw [if_pos (by rw [t8ₓ]; exact ct), mIf_neg (by decide)] at e1ₓ
    rw [if_pos ct, mIf_neg (by decide), mLet_e, r_in, mCall_s] at e2ₓ
    by_cases cx : 0 ≤ xₓ ∧ xₓ ≤ 1
    · rw [mIf_neg (by omega), mIf_pos (by omega)] at e1ₓ
      rw [if_pos cx, mIf_pos (by decide)] at e2ₓ
      obtain ⟨x1ₓ, s1ₓ, d1ₓ, e1ₓ⟩ := mCall_el e1ₓ
      obtain ⟨x2ₓ, s2ₓ, d2ₓ, e2ₓ⟩ := mCall_el e2ₓ
      obtain ⟨hx1ₓ, hs1ₓ⟩ := c_fitting0 (P := τ 12) (c7ₓ.trans hKₓ) hqₓ nₓ 0 (by decide) d1ₓ
      obtain ⟨hx2ₓ, hs2ₓ⟩ := (r_fitting0 hKₓ (fun kₓ hkₓ => (hqₓ kₓ hkₓ).2.2.1) n'ₓ).1 0 (by decide) d2ₓ
      rw [hs1ₓ, hx1ₓ] at e1ₓ
      rw [hs2ₓ, hx2ₓ] at e2ₓ
      by_cases c0ₓ : xₓ = 0
      · rw [mIf_neg (fun qₓ => qₓ c0ₓ), mRet_e] at e1ₓ e2ₓ
        obtain ⟨rfl, -⟩ := some_el e1ₓ
        obtain ⟨rfl, -⟩ := some_el e2ₓ
        rfl
      · rw [mIf_pos c0ₓ] at e1ₓ e2ₓ
        by_cases cd : fitB (τ 12) K 7 = 0
        · rw [mIf_neg (fun qₓ => qₓ cd), mRet_e] at e1ₓ
          rw [mIf_pos cd, mRet_e] at e2ₓ
          obtain ⟨rfl, -⟩ := some_el e1ₓ
          obtain ⟨rfl, -⟩ := some_el e2ₓ
          rfl
        · rw [mIf_pos cd] at e1ₓ
          rw [mIf_neg cd, mRd_e, show (1 : Int).toNat = 1 from rfl, hNₓ] at e2ₓ
          obtain ⟨x3ₓ, s3ₓ, d3ₓ, e1ₓ⟩ := mCall_el e1ₓ
          rw [mRet_e] at e1ₓ
          obtain ⟨rfl, -⟩ := some_el e1ₓ
          cases nₓ with
          | zero => exact none_el d3ₓ
          | succ nₓ =>
            have d4ₓ : b_X5_streetToLookAt_9 (j_X5_streetToLookAt 38 nₓ) nₓ 38 (fitB (τ 12) K 7) (-2) 8 0 σ = some (rₓ, s3ₓ) := d3ₓ
            unfold b_X5_streetToLookAt_9 b_X5_streetToLookAt_42 at d4ₓ
            rw [mRd_e, show σ (38 + 1) 9 = (N : Int) from t9ₓ.trans hNₓ] at d4ₓ
            by_cases cN : N = 0
            · subst cN
              rw [mIf_pos (by decide), mRet_e] at d4ₓ
              rw [mIf_neg (fun qₓ => qₓ rfl), mRet_e] at e2ₓ
              obtain ⟨rfl, -⟩ := some_el d4ₓ
              obtain ⟨rfl, -⟩ := some_el e2ₓ
              rfl
            · rw [mIf_neg (by omega)] at d4ₓ
              rw [mIf_pos (by omega)] at e2ₓ
              obtain ⟨x5ₓ, s5ₓ, d5ₓ, d4ₓ⟩ := mCall_el d4ₓ
              obtain ⟨hxₓ, hsₓ⟩ := (c_most0 (gₓ := fun jₓ => τ 12 (13 + 10 * 0 + jₓ)) (iₓ := 0) (B := fitB (τ 12) K 7) (fun jₓ hjₓ => (hTₓ.2.1 0 (by omega)).2.2.2.1 jₓ hjₓ) nₓ).1 0 (by decide) d5ₓ
              rw [hsₓ, hxₓ] at d4ₓ
              have hbₓ := mstN_b (gₓ := fun jₓ => τ 12 (13 + 10 * 0 + jₓ)) (B := fitB (τ 12) K 7) 4
              rw [mIf_neg (by omega), mLet_e] at d4ₓ
              have a1ₓ := c_look0 (G := fun iₓ jₓ => τ 12 (13 + 10 * iₓ + jₓ)) (B := fitB (τ 12) K 7) (t9ₓ.trans hNₓ) (fun iₓ jₓ hiₓ hjₓ => (hTₓ.2.1 iₓ (by omega)).2.2.2.1 jₓ hjₓ) nₓ 0 (by omega) d4ₓ
              have a2ₓ := r_look0 (G := fun iₓ jₓ => τ 12 (13 + 10 * iₓ + jₓ)) (B := fitB (τ 12) K 7) hNₓ (fun iₓ jₓ hiₓ hjₓ => rfl) n'ₓ 0 (by omega) e2ₓ
              rw [a1ₓ, a2ₓ]
    · rw [if_neg cx, mIf_neg (fun qₓ => qₓ rfl), mRet_e] at e2ₓ
      obtain ⟨rfl, -⟩ := some_el e2ₓ
      by_cases c0ₓ : xₓ < 0
      · rw [mIf_pos c0ₓ, mRet_e] at e1ₓ
        obtain ⟨rfl, -⟩ := some_el e1ₓ
        rfl
      · rw [mIf_neg c0ₓ, mIf_neg (by omega), mRet_e] at e1ₓ
        obtain ⟨rfl, -⟩ := some_el e1ₓ
        rfl
  · rw [if_neg (by rw [t8ₓ]; exact ct), mIf_pos rfl, mRet_e] at e1ₓ
    rw [if_neg ct, mIf_pos rfl, mRet_e] at e2ₓ
    obtain ⟨rfl, -⟩ := some_el e1ₓ
    obtain ⟨rfl, -⟩ := some_el e2ₓ
    rfl
end
