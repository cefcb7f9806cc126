/-! the reference's reading: what its models come to -/
def MV (F : Int → Int) (N : Int) (σ : SS) : Prop := σ 0 1 = N ∧ ∀ jₓ : Int, 0 ≤ jₓ → jₓ < N → F jₓ = σ 1 jₓ.toNat % 256 ∧ -128 ≤ σ 1 jₓ.toNat ∧ σ 1 jₓ.toNat ≤ 127
theorem upS_upS {σ : SS} {qₓ kₓ : Nat} {vₓ wₓ : Int} : upS (upS σ qₓ kₓ vₓ) qₓ kₓ wₓ = upS σ qₓ kₓ wₓ := by
  funext q'ₓ k'ₓ
  by_cases hₓ : q'ₓ = qₓ ∧ k'ₓ = kₓ
  · obtain ⟨rfl, rfl⟩ := hₓ; rw [upS_s, upS_s]
  · rw [show upS (upS σ qₓ kₓ vₓ) qₓ kₓ wₓ q'ₓ k'ₓ = upS σ qₓ kₓ vₓ q'ₓ k'ₓ from if_neg hₓ, show upS σ qₓ kₓ vₓ q'ₓ k'ₓ = σ q'ₓ k'ₓ from if_neg hₓ, show upS σ qₓ kₓ wₓ q'ₓ k'ₓ = σ q'ₓ k'ₓ from if_neg hₓ]
theorem upS_id {σ : SS} {qₓ kₓ : Nat} : upS σ qₓ kₓ (σ qₓ kₓ) = σ := by
  funext q'ₓ k'ₓ
  by_cases hₓ : q'ₓ = qₓ ∧ k'ₓ = kₓ
  · obtain ⟨rfl, rfl⟩ := hₓ; exact upS_s
  · exact if_neg hₓ
theorem upS_n {σ : SS} {qₓ kₓ q'ₓ k'ₓ : Nat} {vₓ : Int} (hₓ : ¬ (q'ₓ = qₓ ∧ k'ₓ = kₓ)) : upS σ qₓ kₓ vₓ q'ₓ k'ₓ = σ q'ₓ k'ₓ := if_neg hₓ
theorem mAnd_t : ∀ jₓ : Nat, jₓ < 256 → mAnd ((jₓ : Int) - 128) 255 = ((jₓ : Int) - 128) % 256 := by decide +kernel
theorem mAnd_x {xₓ : Int} (h0ₓ : -128 ≤ xₓ) (h1ₓ : xₓ ≤ 127) : mAnd xₓ 255 = xₓ % 256 := by
  have hₓ := mAnd_t (xₓ + 128).toNat (by omega)
  rw [show (((xₓ + 128).toNat : Nat) : Int) - 128 = xₓ by omega] at hₓ; exact hₓ
theorem i64_of {vₓ : Int} (h0ₓ : 0 ≤ vₓ) (h1ₓ : vₓ < 9223372036854775808) : (Int64.ofInt vₓ).toInt = vₓ := by
  rw [Int64.toInt_ofInt]
  show vₓ.bmod 18446744073709551616 = vₓ
  rw [Int.bmod_def]; split <;> omega
theorem i64_nat {vₓ : Int} (h0ₓ : 0 ≤ vₓ) (h1ₓ : vₓ < 9223372036854775808) : (Int64.ofInt vₓ).toBitVec.toNat = vₓ.toNat := by
  have hₓ := wk_bv64 (Int64.ofInt vₓ)
  rw [i64_of h0ₓ h1ₓ] at hₓ
  split at hₓ <;> omega
theorem i64_back {xₓ : Int64} (hₓ : xₓ.toBitVec.toNat < 9223372036854775808) : xₓ.toInt = (xₓ.toBitVec.toNat : Int) := by
  rw [wk_bv64 xₓ, if_pos (by omega)]
theorem mShlL_x {vₓ : Int} (h0ₓ : 0 ≤ vₓ) (h1ₓ : vₓ < 281474976710656) : mShlL vₓ 8 = vₓ * 256 := by
  unfold mShlL
  rw [show (Int32.ofInt 8).toInt64 &&& 63 = 8 by decide]
  have h2ₓ : (Int64.ofInt vₓ <<< (8 : Int64)).toBitVec = (Int64.ofInt vₓ).toBitVec <<< 8 := rfl
  have h3ₓ : (Int64.ofInt vₓ <<< (8 : Int64)).toBitVec.toNat = vₓ.toNat * 256 := by
    rw [h2ₓ, BitVec.toNat_shiftLeft, Nat.shiftLeft_eq, i64_nat h0ₓ (by omega)]
    omega
  rw [i64_back (by rw [h3ₓ]; omega), h3ₓ]; omega
theorem mOrL_x {aₓ xₓ : Int} (h0ₓ : 0 ≤ aₓ) (h1ₓ : aₓ < 281474976710656) (h2ₓ : 0 ≤ xₓ) (h3ₓ : xₓ < 256) : mOrL (aₓ * 256) xₓ = aₓ * 256 + xₓ := by
  show (Int64.ofInt (aₓ * 256) ||| Int64.ofInt xₓ).toInt = aₓ * 256 + xₓ
  have h4ₓ : (Int64.ofInt (aₓ * 256) ||| Int64.ofInt xₓ).toBitVec = (Int64.ofInt (aₓ * 256)).toBitVec ||| (Int64.ofInt xₓ).toBitVec := rfl
  have h5ₓ : (Int64.ofInt (aₓ * 256) ||| Int64.ofInt xₓ).toBitVec.toNat = aₓ.toNat * 256 + xₓ.toNat := by
    rw [h4ₓ, BitVec.toNat_or, i64_nat (by omega) (by omega), i64_nat h2ₓ (by omega), show (aₓ * 256).toNat = aₓ.toNat <<< 8 by rw [Nat.shiftLeft_eq]; omega, ← Nat.shiftLeft_add_eq_or_of_lt (by omega), Nat.shiftLeft_eq]
  rw [i64_back (by rw [h5ₓ]; omega), h5ₓ]; omega
section
variable {F : Int → Int} {N : Int} {σ σ' : SS} {pₓ rₓ aₓ bₓ wₓ : Int} {nₓ : Nat}
theorem MV.up {qₓ kₓ : Nat} {vₓ : Int} (hₓ : MV F N σ) (hqₓ : qₓ ≠ 1) (hkₓ : ¬ (qₓ = 0 ∧ kₓ = 1)) : MV F N (upS σ qₓ kₓ vₓ) := by
  refine ⟨by rw [upS_n (by omega)]; exact hₓ.1, fun jₓ h0ₓ h1ₓ => ?_⟩
  rw [upS_q (by omega)]; exact hₓ.2 jₓ h0ₓ h1ₓ
theorem r_fails (hₓ : σ 0 15 = 0) : m_X12_fails nₓ 0 aₓ bₓ σ = some (0, upS σ 0 15 (1 + 8 * bₓ + aₓ)) := by
  unfold m_X12_fails b_X12_fails_19
  rw [mRd_e, mIf_neg (fun qₓ => qₓ hₓ), mLet_e, mLet_e, mLet_e, mWr_e, mRet_e]
theorem r_isLetter (hₓ : MV F N σ) (hpₓ : 0 ≤ pₓ) : m_X12_isLetter nₓ 0 pₓ σ = some (if pₓ < N ∧ isLt F pₓ = true then 1 else 0, σ) := by
  unfold m_X12_isLetter b_X12_isLetter_34
  rw [mRd_e, hₓ.1]
  by_cases cₓ : pₓ < N
  · obtain ⟨h1ₓ, h2ₓ, h3ₓ⟩ := hₓ.2 pₓ hpₓ cₓ
    rw [mIf_neg (by omega), mRd_e, mRd_e]
    by_cases c2ₓ : 97 ≤ F pₓ ∧ F pₓ ≤ 122
    · rw [mIf_neg (by omega), mIf_neg (by omega), mRet_e, if_pos ⟨cₓ, decide_eq_true c2ₓ⟩]
    · rw [if_neg (fun qₓ => c2ₓ (of_decide_eq_true qₓ.2))]
      by_cases c3ₓ : σ 1 pₓ.toNat < 97
      · rw [mIf_pos c3ₓ, mRet_e]
      · rw [mIf_neg c3ₓ, mIf_pos (by omega), mRet_e]
  · rw [mIf_pos (by omega), mRet_e, if_neg (fun qₓ => cₓ qₓ.1)]
theorem r_isDigit (hₓ : MV F N σ) (hpₓ : 0 ≤ pₓ) : m_X12_isDigit nₓ 0 pₓ σ = some (if pₓ < N ∧ isDg F pₓ = true then 1 else 0, σ) := by
  unfold m_X12_isDigit b_X12_isDigit_34
  rw [mRd_e, hₓ.1]
  by_cases cₓ : pₓ < N
  · obtain ⟨h1ₓ, h2ₓ, h3ₓ⟩ := hₓ.2 pₓ hpₓ cₓ
    rw [mIf_neg (by omega), mRd_e, mRd_e]
    by_cases c2ₓ : 48 ≤ F pₓ ∧ F pₓ ≤ 57
    · rw [mIf_neg (by omega), mIf_neg (by omega), mRet_e, if_pos ⟨cₓ, decide_eq_true c2ₓ⟩]
    · rw [if_neg (fun qₓ => c2ₓ (of_decide_eq_true qₓ.2))]
      by_cases c3ₓ : σ 1 pₓ.toNat < 48
      · rw [mIf_pos c3ₓ, mRet_e]
      · rw [mIf_neg c3ₓ, mIf_pos (by omega), mRet_e]
  · rw [mIf_pos (by omega), mRet_e, if_neg (fun qₓ => cₓ qₓ.1)]
theorem r_passWord : ∀ (nₓ : Nat) (σ : SS), MV F N σ → 0 ≤ σ 0 14 → j_X12_passWord 0 nₓ 0 [] σ = some (rₓ, σ') → rₓ = 0 ∧ σ' = upS σ 0 14 (wd F N (σ 0 14)) := by
  intro nₓ
  induction nₓ with
  | zero => intro σ hₓ hpₓ eₓ; exact none_el eₓ
  | succ nₓ ihₓ =>
    intro σ hₓ hpₓ eₓ
    rw [e_X12_passWord_0] at eₓ
    unfold b_X12_passWord_0 at eₓ
    rw [mRd_e, r_isLetter hₓ hpₓ, mCall_s] at eₓ
    by_cases cₓ : σ 0 14 < N ∧ isLt F (σ 0 14) = true
    · rw [if_pos cₓ, mIf_neg (show ¬ (1 : Int) = 0 by decide), mRd_e, mLet_e, mWr_e] at eₓ
      have h2ₓ := ihₓ _ (hₓ.up (by decide) (by omega)) (by rw [upS_s]; omega) eₓ
      rw [upS_s, upS_upS] at h2ₓ
      rw [show wd F N (σ 0 14) = wd F N (σ 0 14 + 1) from runE_go cₓ.1 cₓ.2]
      exact h2ₓ
    · rw [if_neg cₓ, mIf_pos rfl] at eₓ
      have hsₓ : wd F N (σ 0 14) = σ 0 14 := runE_stop cₓ
      rw [hsₓ, upS_id]
      exact some_el eₓ
theorem r_passWordm (hₓ : MV F N σ) (hpₓ : 0 ≤ σ 0 14) (eₓ : m_X12_passWord nₓ 0 σ = some (rₓ, σ')) : σ' = upS σ 0 14 (wd F N (σ 0 14)) := (r_passWord nₓ σ hₓ hpₓ eₓ).2
theorem r_see : ∀ (nₓ : Nat) (σ : SS), MV F N σ → 0 ≤ σ 0 14 → j_X12_see 0 nₓ 0 [] σ = some (rₓ, σ') → rₓ = bt F N (sk F N (σ 0 14)) ∧ σ' = upS σ 0 14 (sk F N (σ 0 14)) := by
  intro nₓ
  induction nₓ with
  | zero => intro σ hₓ hpₓ eₓ; exact none_el eₓ
  | succ nₓ ihₓ =>
    intro σ hₓ hpₓ eₓ
    rw [e_X12_see_0] at eₓ
    unfold b_X12_see_0 b_X12_see_38 at eₓ
    rw [mRd_e, mRd_e, hₓ.1] at eₓ
    by_cases cₓ : σ 0 14 < N
    · obtain ⟨h1ₓ, h2ₓ, h3ₓ⟩ := hₓ.2 _ hpₓ cₓ
      rw [mIf_neg (by omega), mRd_e, mRd_e] at eₓ
      by_cases c2ₓ : F (σ 0 14) = 32
      · rw [mIf_neg (show ¬ ¬ σ 1 (σ 0 14).toNat = 32 by omega), mRd_e, mLet_e, mWr_e] at eₓ
        have h4ₓ := ihₓ _ (hₓ.up (by decide) (by omega)) (by rw [upS_s]; omega) eₓ
        rw [upS_s, upS_upS] at h4ₓ
        rw [show sk F N (σ 0 14) = sk F N (σ 0 14 + 1) from runE_go cₓ (decide_eq_true c2ₓ)]
        exact h4ₓ
      · rw [mIf_pos (show ¬ σ 1 (σ 0 14).toNat = 32 by omega), mRd_e, mRd_e, hₓ.1, mIf_neg (by omega), mRd_e, mRd_e, mLet_e, mAnd_x h2ₓ h3ₓ, ← h1ₓ] at eₓ
        have hsₓ : sk F N (σ 0 14) = σ 0 14 := runE_stop (fun qₓ => c2ₓ (of_decide_eq_true qₓ.2))
        rw [hsₓ, upS_id, show bt F N (σ 0 14) = F (σ 0 14) from if_pos cₓ]
        exact some_el eₓ
    · rw [mIf_pos (by omega), mRd_e, mRd_e, hₓ.1, mIf_pos (by omega)] at eₓ
      have hsₓ : sk F N (σ 0 14) = σ 0 14 := runE_stop (fun qₓ => cₓ qₓ.1)
      rw [hsₓ, upS_id, show bt F N (σ 0 14) = -1 from if_neg cₓ]
      exact some_el eₓ
theorem r_seem (hₓ : MV F N σ) (hpₓ : 0 ≤ σ 0 14) (eₓ : m_X12_see nₓ 0 σ = some (rₓ, σ')) : rₓ = bt F N (sk F N (σ 0 14)) ∧ σ' = upS σ 0 14 (sk F N (σ 0 14)) := r_see nₓ σ hₓ hpₓ eₓ
end
/-! aₓ word's number tells the word -/
def rv : List Int → Int
  | [] => 0
  | cₓ :: T => rv T * 256 + cₓ
theorem wv_nn {fₓ : Int → Int} {pₓ : Int} : ∀ kₓ : Nat, (∀ iₓ : Nat, iₓ < kₓ → 97 ≤ fₓ (pₓ + iₓ) ∧ fₓ (pₓ + iₓ) ≤ 122) → 0 ≤ wv fₓ pₓ kₓ
  | 0, _ => Int.le_refl 0
  | kₓ + 1, hₓ => by
    have h1ₓ := wv_nn kₓ (fun iₓ hiₓ => hₓ iₓ (by omega)) (fₓ := fₓ) (pₓ := pₓ)
    have h2ₓ := hₓ kₓ (by omega)
    show 0 ≤ wv fₓ pₓ kₓ * 256 + fₓ (pₓ + kₓ)
    omega
theorem wEq_app {fₓ : Int → Int} : ∀ (A : List Int) (qₓ : Int) (cₓ : Int), wEq fₓ qₓ (A ++ [cₓ]) = (wEq fₓ qₓ A && decide (fₓ (qₓ + A.length) = cₓ))
  | [], qₓ, cₓ => by
    show (decide (fₓ qₓ = cₓ) && true) = (true && decide (fₓ (qₓ + (0 : Nat)) = cₓ))
    rw [Bool.and_true, Bool.true_and, show qₓ + ((0 : Nat) : Int) = qₓ by omega]
  | aₓ :: A, qₓ, cₓ => by
    show (decide (fₓ qₓ = aₓ) && wEq fₓ (qₓ + 1) (A ++ [cₓ])) = (decide (fₓ qₓ = aₓ) && wEq fₓ (qₓ + 1) A && decide (fₓ (qₓ + ((aₓ :: A).length : Nat)) = cₓ))
    rw [wEq_app A (qₓ + 1) cₓ, Bool.and_assoc, List.length_cons, show qₓ + 1 + (A.length : Int) = qₓ + ((A.length + 1 : Nat) : Int) by omega]
theorem wv_uniq {fₓ : Int → Int} {pₓ : Int} : ∀ (R : List Int) (kₓ : Nat), (∀ cₓ ∈ R, 97 ≤ cₓ ∧ cₓ ≤ 122) → (∀ iₓ : Nat, iₓ < kₓ → 97 ≤ fₓ (pₓ + iₓ) ∧ fₓ (pₓ + iₓ) ≤ 122) → wv fₓ pₓ kₓ = rv R → kₓ = R.length ∧ wEq fₓ pₓ R.reverse = true
  | [], 0, _, _, _ => ⟨rfl, rfl⟩
  | [], kₓ + 1, _, hₓ, eₓ => by
    have h1ₓ := wv_nn kₓ (fun iₓ hiₓ => hₓ iₓ (by omega)) (fₓ := fₓ) (pₓ := pₓ)
    have h2ₓ := hₓ kₓ (by omega)
    have eₓ : wv fₓ pₓ kₓ * 256 + fₓ (pₓ + kₓ) = 0 := eₓ
    omega
  | cₓ :: T, 0, hRₓ, _, eₓ => by
    have hcₓ := hRₓ cₓ List.mem_cons_self
    have hTₓ : 0 ≤ rv T := by
      have gₓ : ∀ T : List Int, (∀ cₓ ∈ T, 97 ≤ cₓ ∧ cₓ ≤ 122) → 0 ≤ rv T := by
        intro T
        induction T with
        | nil => intro _; exact Int.le_refl 0
        | cons aₓ T ihₓ => intro hₓ; have h1ₓ := ihₓ (fun xₓ hxₓ => hₓ xₓ (List.mem_cons_of_mem _ hxₓ)); have h2ₓ := hₓ aₓ List.mem_cons_self; show 0 ≤ rv T * 256 + aₓ; omega
      exact gₓ T (fun xₓ hxₓ => hRₓ xₓ (List.mem_cons_of_mem _ hxₓ))
    have eₓ : (0 : Int) = rv T * 256 + cₓ := eₓ
    omega
  | cₓ :: T, kₓ + 1, hRₓ, hₓ, eₓ => by
    have hcₓ := hRₓ cₓ List.mem_cons_self
    have h2ₓ := hₓ kₓ (by omega)
    have eₓ : wv fₓ pₓ kₓ * 256 + fₓ (pₓ + kₓ) = rv T * 256 + cₓ := eₓ
    obtain ⟨h3ₓ, h4ₓ⟩ := wv_uniq T kₓ (fun xₓ hxₓ => hRₓ xₓ (List.mem_cons_of_mem _ hxₓ)) (fun iₓ hiₓ => hₓ iₓ (by omega)) (by omega)
    refine ⟨by rw [List.length_cons, h3ₓ], ?_⟩
    rw [List.reverse_cons, wEq_app, h4ₓ, List.length_reverse, Bool.true_and, ← h3ₓ]
    exact decide_eq_true (by omega)
theorem rv_rev {R : List Int} : R.reverse.foldl (fun vₓ cₓ => vₓ * 256 + cₓ) 0 = rv R := by
  induction R with
  | nil => rfl
  | cons cₓ T ihₓ => rw [List.reverse_cons, List.foldl_append, ihₓ]; rfl
/-- letters up to hereₓ -/
theorem wd_letters {F : Int → Int} {N : Int} : ∀ (kₓ : Nat) (qₓ : Int), (wd F N qₓ - qₓ).toNat = kₓ → ∀ iₓ : Nat, iₓ < kₓ → 97 ≤ F (qₓ + iₓ) ∧ F (qₓ + iₓ) ≤ 122 := by
  intro kₓ
  induction kₓ with
  | zero => intro qₓ hₓ iₓ hiₓ; omega
  | succ kₓ ihₓ =>
    intro qₓ hₓ iₓ hiₓ
    have hgeₓ : qₓ ≤ wd F N qₓ := runE_le
    by_cases cₓ : qₓ < N ∧ isLt F qₓ = true
    · have eₓ : wd F N qₓ = wd F N (qₓ + 1) := runE_go cₓ.1 cₓ.2
      cases iₓ with
      | zero => rw [show qₓ + ((0 : Nat) : Int) = qₓ by omega]; exact of_decide_eq_true cₓ.2
      | succ iₓ =>
        have h2ₓ := ihₓ (qₓ + 1) (by rw [← eₓ]; omega) iₓ (by omega)
        rw [show qₓ + ((iₓ + 1 : Nat) : Int) = qₓ + 1 + iₓ by omega]; exact h2ₓ
    · have eₓ : wd F N qₓ = qₓ := runE_stop cₓ
      omega
theorem wv_lt {fₓ : Int → Int} {pₓ : Int} : ∀ kₓ : Nat, (∀ iₓ : Nat, iₓ < kₓ → 97 ≤ fₓ (pₓ + iₓ) ∧ fₓ (pₓ + iₓ) ≤ 122) → wv fₓ pₓ kₓ < 256 ^ kₓ
  | 0, _ => by show (0 : Int) < 256 ^ 0; decide
  | kₓ + 1, hₓ => by
    have h1ₓ := wv_lt kₓ (fun iₓ hiₓ => hₓ iₓ (by omega)) (fₓ := fₓ) (pₓ := pₓ)
    have h2ₓ := hₓ kₓ (by omega)
    show wv fₓ pₓ kₓ * 256 + fₓ (pₓ + kₓ) < 256 ^ (kₓ + 1)
    rw [Int.pow_succ]; omega
theorem wv_48 {fₓ : Int → Int} {pₓ : Int} {kₓ : Nat} (hkₓ : kₓ ≤ 6) (hₓ : ∀ iₓ : Nat, iₓ < kₓ → 97 ≤ fₓ (pₓ + iₓ) ∧ fₓ (pₓ + iₓ) ≤ 122) : wv fₓ pₓ kₓ < 281474976710656 := by
  have h1ₓ := wv_lt kₓ hₓ
  have h2ₓ : kₓ = 0 ∨ kₓ = 1 ∨ kₓ = 2 ∨ kₓ = 3 ∨ kₓ = 4 ∨ kₓ = 5 ∨ kₓ = 6 := by omega
  rcases h2ₓ with rfl | rfl | rfl | rfl | rfl | rfl | rfl <;> (refine Int.lt_of_lt_of_le h1ₓ ?_; decide)
/-- aₓ word and its number -/
def WD (wₓ : Int) (W : List Int) : Prop := wₓ = rv W.reverse ∧ 0 < W.length ∧ W.length < 8 ∧ ∀ cₓ ∈ W, 97 ≤ cₓ ∧ cₓ ≤ 122
section
variable {F : Int → Int} {N : Int} {σ σ' : SS} {pₓ rₓ aₓ bₓ wₓ : Int} {nₓ : Nat}
theorem r_isWord0 {W : List Int} (hWₓ : WD wₓ W) (hₓ : MV F N σ) (hpₓ : 0 ≤ σ 0 14) : ∀ (nₓ : Nat) (vₓ kₓ : Int), 0 ≤ kₓ → kₓ ≤ wd F N (σ 0 14) - σ 0 14 → (kₓ ≤ 7 → vₓ = wv F (σ 0 14) kₓ.toNat) → j_X12_isWord 0 nₓ 10 [wₓ, vₓ, kₓ] σ = some (rₓ, σ') → ((isWd F N (σ 0 14) W = true ∧ rₓ = 1) ∨ (isWd F N (σ 0 14) W = false ∧ rₓ = 0)) ∧ σ' = σ := by
  obtain ⟨hwₓ, hl0ₓ, hl8ₓ, hletₓ⟩ := hWₓ
  have hLₓ : ∀ iₓ : Nat, iₓ < (wd F N (σ 0 14) - σ 0 14).toNat → 97 ≤ F (σ 0 14 + iₓ) ∧ F (σ 0 14 + iₓ) ≤ 122 := wd_letters _ _ rfl
  have hgeₓ : σ 0 14 ≤ wd F N (σ 0 14) := runE_le
  intro nₓ
  induction nₓ with
  | zero => intro vₓ kₓ h0ₓ h1ₓ h2ₓ eₓ; exact none_el eₓ
  | succ nₓ ihₓ =>
    intro vₓ kₓ h0ₓ h1ₓ h2ₓ eₓ
    rw [e_X12_isWord_10] at eₓ
    unfold b_X12_isWord_10 b_X12_isWord_50 b_X12_isWord_78 at eₓ
    rw [mRd_e, mLet_e, r_isLetter hₓ (by omega), mCall_s] at eₓ
    by_cases cₓ : σ 0 14 + kₓ < N ∧ isLt F (σ 0 14 + kₓ) = true
    · rw [if_pos cₓ, mIf_neg (show ¬ (1 : Int) = 0 by decide)] at eₓ
      have hk1ₓ : kₓ + 1 ≤ wd F N (σ 0 14) - σ 0 14 := by
        rcases Int.lt_or_le kₓ (wd F N (σ 0 14) - σ 0 14) with h3ₓ | h3ₓ
        · omega
        · exfalso
          have h4ₓ : kₓ = wd F N (σ 0 14) - σ 0 14 := by omega
          have h5ₓ : σ 0 14 + kₓ = wd F N (σ 0 14) := by omega
          rw [h5ₓ] at cₓ
          exact runE_end cₓ
      by_cases c8ₓ : 8 ≤ kₓ
      · rw [mIf_pos c8ₓ, mLet_e] at eₓ
        exact ihₓ vₓ (kₓ + 1) (by omega) hk1ₓ (by omega) eₓ
      · rw [mIf_neg c8ₓ, mLet_e, mRd_e, mLet_e, mRd_e, mLet_e, mLet_e, mLet_e] at eₓ
        refine ihₓ _ (kₓ + 1) (by omega) hk1ₓ (fun h7ₓ => ?_) eₓ
        obtain ⟨b1ₓ, b2ₓ, b3ₓ⟩ := hₓ.2 (σ 0 14 + kₓ) (by omega) cₓ.1
        have hlₓ := hLₓ kₓ.toNat (by omega)
        rw [show σ 0 14 + (kₓ.toNat : Int) = σ 0 14 + kₓ by omega] at hlₓ
        have hv : vₓ = wv F (σ 0 14) kₓ.toNat := h2ₓ (by omega)
        have hbₓ : σ 1 (σ 0 14 + kₓ).toNat = F (σ 0 14 + kₓ) := by omega
        have hlkₓ : ∀ iₓ : Nat, iₓ < kₓ.toNat → 97 ≤ F (σ 0 14 + iₓ) ∧ F (σ 0 14 + iₓ) ≤ 122 := fun iₓ hiₓ => hLₓ iₓ (by omega)
        have v0ₓ := wv_nn kₓ.toNat hlkₓ
        have v1ₓ := wv_48 (show kₓ.toNat ≤ 6 by omega) hlkₓ
        rw [hbₓ, hv, mShlL_x v0ₓ v1ₓ, mOrL_x v0ₓ v1ₓ (by omega) (by omega), show (kₓ + 1).toNat = kₓ.toNat + 1 by omega]
        show _ = wv F (σ 0 14) kₓ.toNat * 256 + F (σ 0 14 + (kₓ.toNat : Int))
        rw [show σ 0 14 + (kₓ.toNat : Int) = σ 0 14 + kₓ by omega]
    · rw [if_neg cₓ, mIf_pos rfl] at eₓ
      have hkₓ : kₓ = wd F N (σ 0 14) - σ 0 14 := by
        rcases Int.lt_or_le kₓ (wd F N (σ 0 14) - σ 0 14) with h3ₓ | h3ₓ
        · exfalso
          have hlₓ := hLₓ kₓ.toNat (by omega)
          rw [show σ 0 14 + (kₓ.toNat : Int) = σ 0 14 + kₓ by omega] at hlₓ
          refine cₓ ⟨?_, decide_eq_true hlₓ⟩
          by_cases cN : σ 0 14 ≤ N
          · have := wd_ub (F := F) cN; omega
          · have := wd_N (F := F) (show N ≤ σ 0 14 by omega); omega
        · omega
      have keyₓ : isWd F N (σ 0 14) W = true ↔ (0 < kₓ ∧ kₓ < 8 ∧ vₓ = wₓ) := by
        unfold isWd
        simp only [Bool.and_eq_true, decide_eq_true_eq]
        constructor
        · rintro ⟨g1ₓ, g2ₓ⟩
          have g3ₓ : kₓ.toNat = W.length := by omega
          refine ⟨by omega, by omega, ?_⟩
          rw [h2ₓ (by omega), g3ₓ, wv_shift W.length W rfl g2ₓ, hwₓ, ← rv_rev, List.reverse_reverse]
        · rintro ⟨g1ₓ, g2ₓ, g3ₓ⟩
          rw [h2ₓ (by omega), hwₓ] at g3ₓ
          obtain ⟨u1ₓ, u2ₓ⟩ := wv_uniq W.reverse kₓ.toNat (fun cₓ hcₓ => hletₓ cₓ (List.mem_reverse.mp hcₓ)) (fun iₓ hiₓ => hLₓ iₓ (by omega)) g3ₓ
          rw [List.length_reverse] at u1ₓ
          rw [List.reverse_reverse] at u2ₓ
          exact ⟨by omega, u2ₓ⟩
      have noₓ : ¬ (0 < kₓ ∧ kₓ < 8 ∧ vₓ = wₓ) → isWd F N (σ 0 14) W = false := fun qₓ => Bool.eq_false_iff.mpr (fun zₓ => qₓ (keyₓ.mp zₓ))
      by_cases g1ₓ : kₓ ≤ 0
      · rw [mIf_pos g1ₓ] at eₓ
        obtain ⟨rfl, rfl⟩ := some_el eₓ
        exact ⟨Or.inr ⟨noₓ (by omega), rfl⟩, rfl⟩
      · rw [mIf_neg g1ₓ] at eₓ
        by_cases g2ₓ : 8 ≤ kₓ
        · rw [mIf_pos g2ₓ] at eₓ
          obtain ⟨rfl, rfl⟩ := some_el eₓ
          exact ⟨Or.inr ⟨noₓ (by omega), rfl⟩, rfl⟩
        · rw [mIf_neg g2ₓ] at eₓ
          by_cases g3ₓ : vₓ = wₓ
          · rw [mIf_neg (fun qₓ => qₓ g3ₓ)] at eₓ
            obtain ⟨rfl, rfl⟩ := some_el eₓ
            exact ⟨Or.inl ⟨keyₓ.mpr ⟨by omega, by omega, g3ₓ⟩, rfl⟩, rfl⟩
          · rw [mIf_pos g3ₓ] at eₓ
            obtain ⟨rfl, rfl⟩ := some_el eₓ
            exact ⟨Or.inr ⟨noₓ (fun qₓ => g3ₓ qₓ.2.2), rfl⟩, rfl⟩
theorem r_isWord {W : List Int} (hWₓ : WD wₓ W) (hₓ : MV F N σ) (hpₓ : 0 ≤ σ 0 14) (eₓ : m_X12_isWord nₓ 0 wₓ σ = some (rₓ, σ')) : ((isWd F N (sk F N (σ 0 14)) W = true ∧ rₓ = 1) ∨ (isWd F N (sk F N (σ 0 14)) W = false ∧ rₓ = 0)) ∧ σ' = upS σ 0 14 (sk F N (σ 0 14)) := by
  unfold m_X12_isWord at eₓ
  obtain ⟨r1ₓ, s1ₓ, e1ₓ, eₓ⟩ := mCall_el eₓ
  obtain ⟨-, rfl⟩ := r_seem hₓ hpₓ e1ₓ
  have hqₓ : 0 ≤ sk F N (σ 0 14) := Int.le_trans hpₓ runE_le
  have h2ₓ := r_isWord0 hWₓ (hₓ.up (qₓ := 0) (kₓ := 14) (vₓ := sk F N (σ 0 14)) (by decide) (by omega)) (by rw [upS_s]; exact hqₓ) nₓ 0 0 (by decide) (by rw [upS_s]; have : sk F N (σ 0 14) ≤ wd F N (sk F N (σ 0 14)) := runE_le; omega) (fun _ => rfl) eₓ
  rw [upS_s] at h2ₓ
  exact h2ₓ
theorem r_in {lo hiₓ : Int} : m_X12_in nₓ aₓ lo hiₓ σ = some (if lo ≤ aₓ ∧ aₓ ≤ hiₓ then 1 else 0, σ) := by
  unfold m_X12_in b_X12_in_17
  by_cases cₓ : aₓ < lo
  · rw [mIf_pos cₓ, if_neg (by omega), mRet_e]
  · rw [mIf_neg cₓ]
    by_cases c2ₓ : hiₓ < aₓ
    · rw [mIf_pos c2ₓ, if_neg (by omega), mRet_e]
    · rw [mIf_neg c2ₓ, if_pos (by omega), mRet_e]
/-- what aₓ number read leaves: where, its value, and aₓ fault -/
def rN (σ : SS) (eₓ vₓ : Int) : SS := upS (upS σ 0 14 eₓ) 0 16 vₓ
theorem r_number0 {qₓ lo hiₓ : Int} (hqₓ : 0 ≤ qₓ) : ∀ (nₓ : Nat) (σ : SS) (vₓ : Int), MV F N σ → σ 0 15 = 0 → qₓ ≤ σ 0 14 → vₓ = hv F qₓ (min 5 (σ 0 14 - qₓ)).toNat → nJ (σ 0 14 - qₓ) vₓ → dg F N qₓ = dg F N (σ 0 14) → j_X12_numberHere 0 nₓ 34 [lo, hiₓ, qₓ, vₓ] σ = some (rₓ, σ') → nJ (dg F N qₓ - qₓ) (nv F N qₓ) ∧ ((5 < dg F N qₓ - qₓ ∨ nv F N qₓ < lo ∨ hiₓ < nv F N qₓ) ∧ rₓ = 0 ∧ σ' = upS (rN σ (dg F N qₓ) (nv F N qₓ)) 0 15 (1 + 8 * qₓ + 1) ∨ (¬ 5 < dg F N qₓ - qₓ ∧ lo ≤ nv F N qₓ ∧ nv F N qₓ ≤ hiₓ) ∧ rₓ = 1 ∧ σ' = rN σ (dg F N qₓ) (nv F N qₓ)) := by
  intro nₓ
  induction nₓ with
  | zero => intro σ vₓ hₓ hfₓ h1ₓ h2ₓ h3ₓ h4ₓ eₓ; exact none_el eₓ
  | succ nₓ ihₓ =>
    intro σ vₓ hₓ hfₓ h1ₓ h2ₓ h3ₓ h4ₓ eₓ
    rw [e_X12_numberHere_34] at eₓ
    unfold b_X12_numberHere_34 b_X12_numberHere_75 b_X12_numberHere_117 b_X12_numberHere_126 at eₓ
    rw [mRd_e, r_isDigit hₓ (by omega), mCall_s] at eₓ
    by_cases cₓ : σ 0 14 < N ∧ isDg F (σ 0 14) = true
    · have c2ₓ : 48 ≤ F (σ 0 14) ∧ F (σ 0 14) ≤ 57 := of_decide_eq_true cₓ.2
      rw [if_pos cₓ, mIf_neg (show ¬ (1 : Int) = 0 by decide), mRd_e, mLet_e] at eₓ
      have hNₓ : dg F N qₓ = dg F N (σ 0 14 + 1) := h4ₓ.trans (dg_go cₓ.1 c2ₓ)
      obtain ⟨b1ₓ, b2ₓ, b3ₓ⟩ := hₓ.2 (σ 0 14) (by omega) cₓ.1
      have hbₓ : σ 1 (σ 0 14).toNat = F (σ 0 14) := by omega
      have finₓ : ∀ (v'ₓ : Int) , v'ₓ = hv F qₓ (min 5 (σ 0 14 + 1 - qₓ)).toNat → nJ (σ 0 14 + 1 - qₓ) v'ₓ → j_X12_numberHere 0 nₓ 34 [lo, hiₓ, qₓ, v'ₓ] (upS σ 0 14 (σ 0 14 + 1)) = some (rₓ, σ') → nJ (dg F N qₓ - qₓ) (nv F N qₓ) ∧ ((5 < dg F N qₓ - qₓ ∨ nv F N qₓ < lo ∨ hiₓ < nv F N qₓ) ∧ rₓ = 0 ∧ σ' = upS (rN σ (dg F N qₓ) (nv F N qₓ)) 0 15 (1 + 8 * qₓ + 1) ∨ (¬ 5 < dg F N qₓ - qₓ ∧ lo ≤ nv F N qₓ ∧ nv F N qₓ ≤ hiₓ) ∧ rₓ = 1 ∧ σ' = rN σ (dg F N qₓ) (nv F N qₓ)) := by
        intro v'ₓ g1ₓ g2ₓ eₓ
        have h9ₓ := ihₓ (upS σ 0 14 (σ 0 14 + 1)) v'ₓ (hₓ.up (by decide) (by omega)) (by rw [upS_n (by omega)]; exact hfₓ) (by rw [upS_s]; omega) (by rw [upS_s]; exact g1ₓ) (by rw [upS_s]; exact g2ₓ) (by rw [upS_s]; exact hNₓ) eₓ
        unfold rN at h9ₓ ⊢
        rw [upS_upS] at h9ₓ
        exact h9ₓ
      by_cases c3ₓ : 5 ≤ σ 0 14 - qₓ
      · rw [mIf_pos c3ₓ, mRd_e, mLet_e, mWr_e] at eₓ
        exact finₓ vₓ (nv_stay h2ₓ c3ₓ) (nJ_more h3ₓ (by omega)) eₓ
      · obtain ⟨z1ₓ, z2ₓ, -⟩ := id h3ₓ
        rw [mIf_neg c3ₓ, mLet_e, mRd_e, mRd_e, mLet_e, mLet_e, mRd_e, mLet_e, mWr_e, hbₓ, mMul_x (by decide) (by decide) (by omega) (by omega) (by omega) (by omega), mAdd_x (by omega) (by omega) (by omega) (by omega) (by omega) (by omega), mSub_x (by omega) (by omega) (by decide) (by decide) (by omega) (by omega), show 10 * vₓ + F (σ 0 14) - 48 = vₓ * 10 + (F (σ 0 14) - 48) by omega] at eₓ
        have h5ₓ := nJ_step (xₓ := F (σ 0 14)) h3ₓ (by omega) (by omega) c2ₓ.1 c2ₓ.2
        rw [show σ 0 14 - qₓ + 1 = σ 0 14 + 1 - qₓ by omega] at h5ₓ
        exact finₓ _ (nv_step h1ₓ h2ₓ (by omega)) h5ₓ eₓ
    · have c2ₓ : ¬ (σ 0 14 < N ∧ 48 ≤ F (σ 0 14) ∧ F (σ 0 14) ≤ 57) := fun qₓ => cₓ ⟨qₓ.1, decide_eq_true qₓ.2⟩
      have ed : dg F N qₓ = σ 0 14 := h4ₓ.trans (dg_stop c2ₓ)
      have ev : nv F N qₓ = vₓ := by unfold nv; rw [ed]; exact h2ₓ.symm
      rw [if_neg cₓ, mIf_pos rfl, mWr_e, mRd_e, mLet_e] at eₓ
      rw [ed, ev]
      refine ⟨h3ₓ, ?_⟩
      have n14ₓ : upS σ 0 16 vₓ 0 14 = σ 0 14 := upS_n (by omega)
      have n15ₓ : upS σ 0 16 vₓ 0 15 = 0 := (upS_n (by omega)).trans hfₓ
      have eN : rN σ (σ 0 14) vₓ = upS σ 0 16 vₓ := by unfold rN; rw [upS_id]
      rw [eN]
      rw [n14ₓ] at eₓ
      by_cases c5ₓ : 5 < σ 0 14 - qₓ
      · rw [mIf_pos c5ₓ, r_fails n15ₓ, mCall_s, mIf_pos rfl] at eₓ
        obtain ⟨rfl, rfl⟩ := some_el eₓ
        exact Or.inl ⟨Or.inl c5ₓ, rfl, rfl⟩
      · rw [mIf_neg c5ₓ, mLet_e, mLet_e, mLet_e, r_in, mCall_s] at eₓ
        by_cases c6ₓ : lo ≤ vₓ ∧ vₓ ≤ hiₓ
        · rw [if_pos c6ₓ, mIf_pos (show ¬ (1 : Int) = 0 by decide)] at eₓ
          obtain ⟨rfl, rfl⟩ := some_el eₓ
          exact Or.inr ⟨⟨c5ₓ, c6ₓ⟩, rfl, rfl⟩
        · rw [if_neg c6ₓ, mIf_neg (fun qₓ => qₓ rfl), r_fails n15ₓ, mCall_s, mIf_pos rfl] at eₓ
          obtain ⟨rfl, rfl⟩ := some_el eₓ
          exact Or.inl ⟨Or.inr (by omega), rfl, rfl⟩
theorem r_number {lo hiₓ : Int} (hₓ : MV F N σ) (hpₓ : 0 ≤ σ 0 14) (hfₓ : σ 0 15 = 0) (eₓ : m_X12_numberHere nₓ 0 lo hiₓ σ = some (rₓ, σ')) : (¬ (sk F N (σ 0 14) < N ∧ isDg F (sk F N (σ 0 14)) = true) ∧ rₓ = 0 ∧ σ' = upS (upS σ 0 14 (sk F N (σ 0 14))) 0 15 (1 + 8 * sk F N (σ 0 14))) ∨ ((sk F N (σ 0 14) < N ∧ isDg F (sk F N (σ 0 14)) = true) ∧ nJ (dg F N (sk F N (σ 0 14)) - sk F N (σ 0 14)) (nv F N (sk F N (σ 0 14))) ∧ ((5 < dg F N (sk F N (σ 0 14)) - sk F N (σ 0 14) ∨ nv F N (sk F N (σ 0 14)) < lo ∨ hiₓ < nv F N (sk F N (σ 0 14))) ∧ rₓ = 0 ∧ σ' = upS (rN σ (dg F N (sk F N (σ 0 14))) (nv F N (sk F N (σ 0 14)))) 0 15 (1 + 8 * sk F N (σ 0 14) + 1) ∨ (¬ 5 < dg F N (sk F N (σ 0 14)) - sk F N (σ 0 14) ∧ lo ≤ nv F N (sk F N (σ 0 14)) ∧ nv F N (sk F N (σ 0 14)) ≤ hiₓ) ∧ rₓ = 1 ∧ σ' = rN σ (dg F N (sk F N (σ 0 14))) (nv F N (sk F N (σ 0 14))))) := by
  unfold m_X12_numberHere at eₓ
  have hqₓ : 0 ≤ sk F N (σ 0 14) := Int.le_trans hpₓ runE_le
  obtain ⟨r1ₓ, s1ₓ, e1ₓ, eₓ⟩ := mCall_el eₓ
  obtain ⟨-, rfl⟩ := r_seem hₓ hpₓ e1ₓ
  have huₓ : MV F N (upS σ 0 14 (sk F N (σ 0 14))) := hₓ.up (by decide) (by omega)
  have hfuₓ : upS σ 0 14 (sk F N (σ 0 14)) 0 15 = 0 := (upS_n (by omega)).trans hfₓ
  rw [mRd_e, upS_s, r_isDigit huₓ hqₓ, mCall_s] at eₓ
  by_cases cₓ : sk F N (σ 0 14) < N ∧ isDg F (sk F N (σ 0 14)) = true
  · rw [if_pos cₓ, mIf_pos (show ¬ (1 : Int) = 0 by decide), mRd_e, upS_s] at eₓ
    refine Or.inr ⟨cₓ, ?_⟩
    have h2ₓ := r_number0 hqₓ nₓ (upS σ 0 14 (sk F N (σ 0 14))) 0 huₓ hfuₓ (by rw [upS_s]; exact Int.le_refl _) (by rw [upS_s, Int.sub_self]; rfl) (by rw [upS_s, Int.sub_self]; exact ⟨by decide, by decide, by omega, by omega, by omega, by omega, by omega⟩) (by rw [upS_s]) eₓ
    unfold rN at h2ₓ ⊢
    rw [upS_upS] at h2ₓ
    exact h2ₓ
  · rw [if_neg cₓ, mIf_neg (fun qₓ => qₓ rfl), mRd_e, upS_s, r_fails hfuₓ, mCall_s, Int.add_zero] at eₓ
    obtain ⟨rfl, rfl⟩ := some_el eₓ
    exact Or.inl ⟨cₓ, rfl, rfl⟩
end
