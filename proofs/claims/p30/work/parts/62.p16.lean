/-! CHEAP -/
def cntD (gₓ : Nat → Int) (sₓ : Int) : Nat → Int
  | 0 => 0
  | kₓ + 1 => cntD gₓ sₓ kₓ + (if gₓ kₓ = sₓ then 1 else 0)
theorem cntD_b {gₓ : Nat → Int} {sₓ : Int} : ∀ kₓ : Nat, 0 ≤ cntD gₓ sₓ kₓ ∧ cntD gₓ sₓ kₓ ≤ (kₓ : Int)
  | 0 => ⟨Int.le_refl 0, Int.le_refl 0⟩
  | kₓ + 1 => by
    have hₓ := cntD_b (gₓ := gₓ) (sₓ := sₓ) kₓ
    show 0 ≤ cntD gₓ sₓ kₓ + (if gₓ kₓ = sₓ then 1 else 0) ∧ cntD gₓ sₓ kₓ + (if gₓ kₓ = sₓ then 1 else 0) ≤ ((kₓ + 1 : Nat) : Int)
    by_cases cₓ : gₓ kₓ = sₓ
    · rw [if_pos cₓ]; omega
    · rw [if_neg cₓ]; omega
theorem cntD_p {gₓ : Nat → Int} {sₓ : Int} {kₓ : Nat} (hₓ : gₓ kₓ = sₓ) : cntD gₓ sₓ (kₓ + 1) = cntD gₓ sₓ kₓ + 1 := by show cntD gₓ sₓ kₓ + (if gₓ kₓ = sₓ then 1 else 0) = _; rw [if_pos hₓ]
theorem cntD_n {gₓ : Nat → Int} {sₓ : Int} {kₓ : Nat} (hₓ : ¬ gₓ kₓ = sₓ) : cntD gₓ sₓ (kₓ + 1) = cntD gₓ sₓ kₓ := by show cntD gₓ sₓ kₓ + (if gₓ kₓ = sₓ then 1 else 0) = _; rw [if_neg hₓ, Int.add_zero]
def bst (gₓ : Nat → Int) : Nat → Int
  | 0 => 0
  | kₓ + 1 => if cntD gₓ (bst gₓ kₓ) 7 < cntD gₓ ((kₓ : Int) + 1) 7 then (kₓ : Int) + 1 else bst gₓ kₓ
theorem bst_p {gₓ : Nat → Int} {kₓ : Nat} (hₓ : cntD gₓ (bst gₓ kₓ) 7 < cntD gₓ ((kₓ : Int) + 1) 7) : bst gₓ (kₓ + 1) = (kₓ : Int) + 1 := if_pos hₓ
theorem bst_n {gₓ : Nat → Int} {kₓ : Nat} (hₓ : ¬ cntD gₓ (bst gₓ kₓ) 7 < cntD gₓ ((kₓ : Int) + 1) 7) : bst gₓ (kₓ + 1) = bst gₓ kₓ := if_neg hₓ
section
variable {σ σ' τ τ' : SS} {rₓ r'ₓ sₓ : Int} {gₓ : Nat → Int} {iₓ : Nat}
theorem c_days0 (hgₓ : ∀ jₓ : Nat, jₓ < 7 → σ 42 (7 * iₓ + jₓ) = gₓ jₓ) : ∀ (nₓ kₓ : Nat), kₓ ≤ 7 → j_X7_daysWith 39 nₓ 5 [(iₓ : Int), sₓ, cntD gₓ sₓ kₓ, (kₓ : Int)] σ = some (rₓ, σ') → rₓ = cntD gₓ sₓ 7 ∧ σ' = σ := by
  intro nₓ
  induction nₓ with
  | zero => intro kₓ _ eₓ; exact none_el eₓ
  | succ nₓ ihₓ =>
    intro kₓ hkₓ eₓ
    rw [e_X7_daysWith_5] at eₓ
    unfold b_X7_daysWith_5 b_X7_daysWith_26 at eₓ
    by_cases cₓ : 7 ≤ (kₓ : Int)
    · rw [mIf_pos cₓ, mRet_e] at eₓ
      obtain ⟨rfl, rfl⟩ := some_el eₓ
      obtain rfl : kₓ = 7 := by omega
      exact ⟨rfl, rfl⟩
    · rw [mIf_neg cₓ] at eₓ
      unfold m_X7_signOn at eₓ
      rw [mLet_e, mLet_e, mRd_e, mRet_e, mCall_s, show (7 * (iₓ : Int) + (kₓ : Int)).toNat = 7 * iₓ + kₓ by omega, show σ (39 + 3) (7 * iₓ + kₓ) = gₓ kₓ from hgₓ kₓ (by omega)] at eₓ
      have hbₓ := cntD_b (gₓ := gₓ) (sₓ := sₓ) kₓ
      by_cases cs : gₓ kₓ = sₓ
      · rw [mIf_neg (fun qₓ => qₓ cs), mLet_e, mLet_e, mAdd_x (by omega) (by omega) (by decide) (by decide) (by omega) (by omega), ← cntD_p cs, show (kₓ : Int) + 1 = ((kₓ + 1 : Nat) : Int) by omega] at eₓ
        exact ihₓ (kₓ + 1) (by omega) eₓ
      · rw [mIf_pos cs, mLet_e, ← cntD_n cs, show (kₓ : Int) + 1 = ((kₓ + 1 : Nat) : Int) by omega] at eₓ
        exact ihₓ (kₓ + 1) (by omega) eₓ
theorem c_days {nₓ : Nat} (hgₓ : ∀ jₓ : Nat, jₓ < 7 → σ 42 (7 * iₓ + jₓ) = gₓ jₓ) (eₓ : m_X7_daysWith nₓ 39 (iₓ : Int) sₓ σ = some (rₓ, σ')) : rₓ = cntD gₓ sₓ 7 ∧ σ' = σ := c_days0 hgₓ nₓ 0 (by decide) eₓ
theorem c_common0 (hgₓ : ∀ jₓ : Nat, jₓ < 7 → σ 42 (7 * iₓ + jₓ) = gₓ jₓ) : ∀ (nₓ kₓ : Nat), kₓ ≤ 3 → j_X7_commonSign 39 nₓ 4 [(iₓ : Int), bst gₓ kₓ, ((kₓ + 1 : Nat) : Int)] σ = some (rₓ, σ') → rₓ = bst gₓ 3 ∧ σ' = σ := by
  intro nₓ
  induction nₓ with
  | zero => intro kₓ _ eₓ; exact none_el eₓ
  | succ nₓ ihₓ =>
    intro kₓ hkₓ eₓ
    rw [e_X7_commonSign_4] at eₓ
    unfold b_X7_commonSign_4 b_X7_commonSign_26 at eₓ
    by_cases cₓ : 3 < ((kₓ + 1 : Nat) : Int)
    · rw [mIf_pos cₓ, mRet_e] at eₓ
      obtain ⟨rfl, rfl⟩ := some_el eₓ
      obtain rfl : kₓ = 3 := by omega
      exact ⟨rfl, rfl⟩
    · rw [mIf_neg cₓ] at eₓ
      obtain ⟨x1ₓ, s1ₓ, d1ₓ, eₓ⟩ := mCall_el eₓ
      obtain ⟨gx1, gs1⟩ := c_days hgₓ d1ₓ
      rw [gx1, gs1] at eₓ
      obtain ⟨x2ₓ, s2ₓ, d2ₓ, eₓ⟩ := mCall_el eₓ
      obtain ⟨gx2, gs2⟩ := c_days hgₓ d2ₓ
      rw [gx2, gs2] at eₓ
      have ek : ((kₓ + 1 : Nat) : Int) = (kₓ : Int) + 1 := by omega
      by_cases cs : cntD gₓ ((kₓ + 1 : Nat) : Int) 7 ≤ cntD gₓ (bst gₓ kₓ) 7
      · rw [mIf_pos cs, mLet_e, ← bst_n (gₓ := gₓ) (kₓ := kₓ) (by rw [← ek]; omega), show ((kₓ + 1 : Nat) : Int) + 1 = ((kₓ + 1 + 1 : Nat) : Int) by omega] at eₓ
        exact ihₓ (kₓ + 1) (by omega) eₓ
      · rw [mIf_neg cs, mLet_e, show ((kₓ + 1 : Nat) : Int) + 1 = ((kₓ + 1 + 1 : Nat) : Int) by omega] at eₓ
        have hbₓ : bst gₓ (kₓ + 1) = ((kₓ + 1 : Nat) : Int) := (bst_p (by rw [← ek]; omega)).trans ek.symm
        rw [← hbₓ] at eₓ
        have e'ₓ : j_X7_commonSign 39 nₓ 4 [(iₓ : Int), bst gₓ (kₓ + 1), ((kₓ + 1 + 1 : Nat) : Int)] σ = some (rₓ, σ') := eₓ
        exact ihₓ (kₓ + 1) (by omega) e'ₓ
theorem c_common {nₓ : Nat} (hgₓ : ∀ jₓ : Nat, jₓ < 7 → σ 42 (7 * iₓ + jₓ) = gₓ jₓ) (eₓ : m_X7_commonSign nₓ 39 (iₓ : Int) σ = some (rₓ, σ')) : rₓ = bst gₓ 3 ∧ σ' = σ := c_common0 hgₓ nₓ 0 (by decide) eₓ
theorem r_streetOf {nₓ : Nat} {wₓ : Nat} : m_X12_streetOf nₓ 0 (iₓ : Int) ((3 : Int) + (wₓ : Int)) τ = some (τ 12 (13 + 10 * iₓ + wₓ), τ) := by
  unfold m_X12_streetOf
  rw [mLet_e, mLet_e, mLet_e, mRd_e, mRet_e, show ((10 : Int) + 10 * (iₓ : Int) + (3 + (wₓ : Int))).toNat = 13 + 10 * iₓ + wₓ by omega]
theorem r_cheap0 (hgₓ : ∀ jₓ : Nat, jₓ < 7 → τ 12 (13 + 10 * iₓ + jₓ) = gₓ jₓ) : ∀ nₓ : Nat, (∀ (bₓ mₓ : Int) (kₓ : Nat), kₓ ≤ 4 → ((kₓ = 0 ∧ bₓ = 0 ∧ mₓ = -1) ∨ ∃ k0ₓ : Nat, kₓ = k0ₓ + 1 ∧ bₓ = bst gₓ k0ₓ ∧ mₓ = cntD gₓ (bst gₓ k0ₓ) 7) → j_X12_cheapOf 0 nₓ 7 [(iₓ : Int), bₓ, mₓ, (kₓ : Int)] τ = some (r'ₓ, τ') → r'ₓ = bst gₓ 3 ∧ τ' = τ) ∧ ∀ (bₓ mₓ : Int) (kₓ jₓ : Nat), kₓ < 4 → jₓ ≤ 7 → ((kₓ = 0 ∧ bₓ = 0 ∧ mₓ = -1) ∨ ∃ k0ₓ : Nat, kₓ = k0ₓ + 1 ∧ bₓ = bst gₓ k0ₓ ∧ mₓ = cntD gₓ (bst gₓ k0ₓ) 7) → j_X12_cheapOf 0 nₓ 19 [(iₓ : Int), bₓ, mₓ, (kₓ : Int), cntD gₓ (kₓ : Int) jₓ, (jₓ : Int)] τ = some (r'ₓ, τ') → r'ₓ = bst gₓ 3 ∧ τ' = τ := by
  intro nₓ
  induction nₓ with
  | zero => exact ⟨fun bₓ mₓ kₓ _ _ eₓ => none_el eₓ, fun bₓ mₓ kₓ jₓ _ _ _ eₓ => none_el eₓ⟩
  | succ nₓ ihₓ =>
    refine ⟨fun bₓ mₓ kₓ hkₓ hIₓ eₓ => ?_, fun bₓ mₓ kₓ jₓ hkₓ hjₓ hIₓ eₓ => ?_⟩
    · rw [e_X12_cheapOf_7] at eₓ
      unfold b_X12_cheapOf_7 at eₓ
      by_cases cₓ : 4 ≤ (kₓ : Int)
      · rw [mIf_pos cₓ, mRet_e] at eₓ
        obtain ⟨rfl, rfl⟩ := some_el eₓ
        rcases hIₓ with ⟨h1ₓ, -, -⟩ | ⟨k0ₓ, h1ₓ, h2ₓ, -⟩
        · omega
        · obtain rfl : k0ₓ = 3 := by omega
          exact ⟨h2ₓ, rfl⟩
      · rw [mIf_neg cₓ] at eₓ
        exact ihₓ.2 bₓ mₓ kₓ 0 (by omega) (by decide) hIₓ eₓ
    · rw [e_X12_cheapOf_19] at eₓ
      unfold b_X12_cheapOf_19 b_X12_cheapOf_68 b_X12_cheapOf_81 b_X12_cheapOf_47 at eₓ
      have hbₓ := cntD_b (gₓ := gₓ) (sₓ := (kₓ : Int)) jₓ
      by_cases cₓ : 7 ≤ (jₓ : Int)
      · obtain rfl : jₓ = 7 := by omega
        rw [mIf_pos cₓ] at eₓ
        have ek : (kₓ : Int) + 1 = ((kₓ + 1 : Nat) : Int) := by omega
        have keyₓ : ∀ b'ₓ m'ₓ : Int, b'ₓ = bst gₓ kₓ → m'ₓ = cntD gₓ (bst gₓ kₓ) 7 → j_X12_cheapOf 0 nₓ 7 [(iₓ : Int), b'ₓ, m'ₓ, (kₓ : Int) + 1] τ = some (r'ₓ, τ') → r'ₓ = bst gₓ 3 ∧ τ' = τ := fun b'ₓ m'ₓ h1ₓ h2ₓ h3ₓ => by
          rw [ek] at h3ₓ
          exact ihₓ.1 b'ₓ m'ₓ (kₓ + 1) (by omega) (Or.inr ⟨kₓ, rfl, h1ₓ, h2ₓ⟩) h3ₓ
        by_cases cs : cntD gₓ (kₓ : Int) 7 ≤ mₓ
        · rw [mIf_pos cs, mIf_pos cs, mLet_e] at eₓ
          rcases hIₓ with ⟨h1ₓ, h2ₓ, h3ₓ⟩ | ⟨k0ₓ, h1ₓ, h2ₓ, h3ₓ⟩
          · omega
          · subst h1ₓ
            have qₓ : ((k0ₓ + 1 : Nat) : Int) = (k0ₓ : Int) + 1 := by omega
            have cs2 := cs
            rw [qₓ, h3ₓ] at cs2
            have hnₓ : bst gₓ (k0ₓ + 1) = bst gₓ k0ₓ := bst_n (by omega)
            exact keyₓ bₓ mₓ (by rw [hnₓ]; exact h2ₓ) (by rw [hnₓ]; exact h3ₓ) eₓ
        · rw [mIf_neg cs, mIf_neg cs, mLet_e] at eₓ
          have hpₓ : bst gₓ kₓ = (kₓ : Int) := by
            rcases hIₓ with ⟨h1ₓ, h2ₓ, h3ₓ⟩ | ⟨k0ₓ, h1ₓ, h2ₓ, h3ₓ⟩
            · subst h1ₓ; rfl
            · subst h1ₓ
              have qₓ : ((k0ₓ + 1 : Nat) : Int) = (k0ₓ : Int) + 1 := by omega
              rw [qₓ, h3ₓ] at cs
              rw [qₓ]; exact bst_p (by omega)
          exact keyₓ _ _ hpₓ.symm (by rw [hpₓ]) eₓ
      · rw [mIf_neg cₓ, mLet_e, r_streetOf, mCall_s, hgₓ jₓ (by omega)] at eₓ
        by_cases cs : gₓ jₓ = (kₓ : Int)
        · rw [mIf_neg (fun qₓ => qₓ cs), mLet_e, mLet_e, mAdd_x (by omega) (by omega) (by decide) (by decide) (by omega) (by omega), ← cntD_p cs, show (jₓ : Int) + 1 = ((jₓ + 1 : Nat) : Int) by omega] at eₓ
          exact ihₓ.2 bₓ mₓ kₓ (jₓ + 1) hkₓ (by omega) hIₓ eₓ
        · rw [mIf_pos cs, mLet_e, mLet_e, mAdd_x (by omega) (by omega) (by decide) (by decide) (by omega) (by omega), Int.add_zero, ← cntD_n cs, show (jₓ : Int) + 1 = ((jₓ + 1 : Nat) : Int) by omega] at eₓ
          exact ihₓ.2 bₓ mₓ kₓ (jₓ + 1) hkₓ (by omega) hIₓ eₓ
theorem r_cheap {nₓ : Nat} (hgₓ : ∀ jₓ : Nat, jₓ < 7 → τ 12 (13 + 10 * iₓ + jₓ) = gₓ jₓ) (eₓ : m_X12_cheapOf nₓ 0 (iₓ : Int) τ = some (r'ₓ, τ')) : r'ₓ = bst gₓ 3 ∧ τ' = τ := (r_cheap0 hgₓ nₓ).1 0 (-1) 0 (by decide) (Or.inl ⟨rfl, rfl, rfl⟩) eₓ
theorem f_cheap {nₓ n'ₓ : Nat} {xₓ : Int} (hₓ : SRel 38 σ (τ 12)) (e1ₓ : m_X11_cheap nₓ 0 xₓ σ = some (rₓ, σ')) (e2ₓ : m_X12_cheap n'ₓ 0 xₓ τ = some (r'ₓ, τ')) : rₓ = r'ₓ := by
  unfold m_X11_cheap at e1ₓ
  unfold m_X12_cheap at e2ₓ
  rw [c_hasStreet hₓ, mCall_s] at e1ₓ
  rw [r_isStreet, mCall_s] at e2ₓ
  by_cases cₓ : 0 ≤ xₓ ∧ xₓ < τ 12 1
  · rw [if_pos cₓ, mIf_neg (by decide)] at e1ₓ e2ₓ
    obtain ⟨iₓ, rfl⟩ : ∃ iₓ : Nat, xₓ = (iₓ : Int) := ⟨xₓ.toNat, by omega⟩
    obtain ⟨x1ₓ, s1ₓ, d1ₓ, e1ₓ⟩ := mCall_el e1ₓ
    obtain ⟨x2ₓ, s2ₓ, d2ₓ, e2ₓ⟩ := mCall_el e2ₓ
    obtain ⟨rfl, rfl⟩ := c_common (gₓ := fun jₓ => τ 12 (13 + 10 * iₓ + jₓ)) (fun jₓ hjₓ => (hₓ.2.1.2.1 iₓ cₓ.2).2.2.2.1 jₓ hjₓ) d1ₓ
    obtain ⟨rfl, rfl⟩ := r_cheap (gₓ := fun jₓ => τ 12 (13 + 10 * iₓ + jₓ)) (fun jₓ hjₓ => rfl) d2ₓ
    rw [mRet_e] at e1ₓ e2ₓ
    obtain ⟨rfl, -⟩ := some_el e1ₓ
    obtain ⟨rfl, -⟩ := some_el e2ₓ
    rfl
  · rw [if_neg cₓ, mIf_pos rfl] at e1ₓ e2ₓ
    obtain ⟨rfl, -⟩ := some_el e1ₓ
    obtain ⟨rfl, -⟩ := some_el e2ₓ
    rfl
/-! on howₓ many it is wrong -/
def wr1 (gₓ : Nat → Int) (xₓ : Int) : Int := if xₓ = 7 then 7 - cntD gₓ (bst gₓ 3) 7 else if gₓ xₓ.toNat = bst gₓ 3 then 0 else 1
def wrN (gₓ : Nat → Int) (xₓ : Int) : Nat → Int
  | 0 => 0
  | kₓ + 1 => wrN gₓ xₓ kₓ + (if (xₓ = 7 ∨ xₓ = (kₓ : Int)) ∧ ¬ gₓ kₓ = bst gₓ 3 then 1 else 0)
theorem wrN_p {xₓ : Int} {kₓ : Nat} (hₓ : (xₓ = 7 ∨ xₓ = (kₓ : Int)) ∧ ¬ gₓ kₓ = bst gₓ 3) : wrN gₓ xₓ (kₓ + 1) = wrN gₓ xₓ kₓ + 1 := by show wrN gₓ xₓ kₓ + (if (xₓ = 7 ∨ xₓ = (kₓ : Int)) ∧ ¬ gₓ kₓ = bst gₓ 3 then 1 else 0) = _; rw [if_pos hₓ]
theorem wrN_n {xₓ : Int} {kₓ : Nat} (hₓ : ¬ ((xₓ = 7 ∨ xₓ = (kₓ : Int)) ∧ ¬ gₓ kₓ = bst gₓ 3)) : wrN gₓ xₓ (kₓ + 1) = wrN gₓ xₓ kₓ := by show wrN gₓ xₓ kₓ + (if (xₓ = 7 ∨ xₓ = (kₓ : Int)) ∧ ¬ gₓ kₓ = bst gₓ 3 then 1 else 0) = _; rw [if_neg hₓ, Int.add_zero]
theorem wrN_b {xₓ : Int} : ∀ kₓ : Nat, 0 ≤ wrN gₓ xₓ kₓ ∧ wrN gₓ xₓ kₓ ≤ (kₓ : Int)
  | 0 => ⟨Int.le_refl 0, Int.le_refl 0⟩
  | kₓ + 1 => by
    have hₓ := wrN_b (xₓ := xₓ) kₓ
    by_cases cₓ : (xₓ = 7 ∨ xₓ = (kₓ : Int)) ∧ ¬ gₓ kₓ = bst gₓ 3
    · rw [wrN_p cₓ]; omega
    · rw [wrN_n cₓ]; omega
theorem wrN_7 {xₓ : Int} (hxₓ : xₓ = 7) : ∀ kₓ : Nat, wrN gₓ xₓ kₓ = (kₓ : Int) - cntD gₓ (bst gₓ 3) kₓ
  | 0 => rfl
  | kₓ + 1 => by
    have hₓ := wrN_7 hxₓ kₓ
    by_cases cₓ : gₓ kₓ = bst gₓ 3
    · rw [wrN_n (fun qₓ => qₓ.2 cₓ), cntD_p cₓ, hₓ]; omega
    · rw [wrN_p ⟨Or.inl hxₓ, cₓ⟩, cntD_n cₓ, hₓ]; omega
theorem wrN_d {dₓ : Nat} : ∀ kₓ : Nat, kₓ ≤ 7 → dₓ < 7 → wrN gₓ (dₓ : Int) kₓ = if dₓ < kₓ then (if gₓ dₓ = bst gₓ 3 then 0 else 1) else 0
  | 0, _, _ => by rw [if_neg (Nat.not_lt_zero _)]; rfl
  | kₓ + 1, h1ₓ, h2ₓ => by
    have hₓ := wrN_d (dₓ := dₓ) kₓ (by omega) h2ₓ
    by_cases cd : dₓ = kₓ
    · subst cd
      rw [if_neg (by omega)] at hₓ
      rw [if_pos (by omega)]
      by_cases cₓ : gₓ dₓ = bst gₓ 3
      · rw [wrN_n (fun qₓ => qₓ.2 cₓ), if_pos cₓ]; exact hₓ
      · rw [wrN_p ⟨Or.inr rfl, cₓ⟩, if_neg cₓ]; omega
    · rw [wrN_n (fun qₓ => by have := qₓ.1; omega), hₓ]
      by_cases cₓ : dₓ < kₓ
      · rw [if_pos cₓ, if_pos (show dₓ < kₓ + 1 by omega)]
      · rw [if_neg cₓ, if_neg (show ¬ dₓ < kₓ + 1 by omega)]
theorem wrN_1 {xₓ : Int} (h0ₓ : 0 ≤ xₓ) (h1ₓ : xₓ ≤ 7) : wrN gₓ xₓ 7 = wr1 gₓ xₓ := by
  unfold wr1
  by_cases cₓ : xₓ = 7
  · rw [if_pos cₓ]; exact wrN_7 cₓ 7
  · rw [if_neg cₓ]
    obtain ⟨dₓ, rfl⟩ : ∃ dₓ : Nat, xₓ = (dₓ : Int) := ⟨xₓ.toNat, by omega⟩
    rw [wrN_d 7 (by decide) (by omega), if_pos (by omega), show ((dₓ : Nat) : Int).toNat = dₓ by omega]
theorem wr1_b {xₓ : Int} (h0ₓ : 0 ≤ xₓ) (h1ₓ : xₓ ≤ 7) : 0 ≤ wr1 gₓ xₓ ∧ wr1 gₓ xₓ ≤ 7 := by
  rw [← wrN_1 h0ₓ h1ₓ]; exact wrN_b 7
def sumW (G : Nat → Nat → Int) (xₓ : Int) : Nat → Int
  | 0 => 0
  | kₓ + 1 => sumW G xₓ kₓ + wr1 (G kₓ) xₓ
theorem sumW_b {G : Nat → Nat → Int} {xₓ : Int} (h0ₓ : 0 ≤ xₓ) (h1ₓ : xₓ ≤ 7) : ∀ kₓ : Nat, 0 ≤ sumW G xₓ kₓ ∧ sumW G xₓ kₓ ≤ 7 * (kₓ : Int)
  | 0 => ⟨Int.le_refl 0, Int.le_refl 0⟩
  | kₓ + 1 => by
    have hₓ := sumW_b (G := G) h0ₓ h1ₓ kₓ
    have h2ₓ := wr1_b (gₓ := G kₓ) h0ₓ h1ₓ
    show 0 ≤ sumW G xₓ kₓ + wr1 (G kₓ) xₓ ∧ sumW G xₓ kₓ + wr1 (G kₓ) xₓ ≤ 7 * ((kₓ + 1 : Nat) : Int)
    omega
theorem c_wrong1 {nₓ : Nat} {xₓ : Int} (h0ₓ : 0 ≤ xₓ) (h1ₓ : xₓ ≤ 7) (hgₓ : ∀ jₓ : Nat, jₓ < 7 → σ 42 (7 * iₓ + jₓ) = gₓ jₓ) (eₓ : m_X7_commonSignWrong nₓ 39 (iₓ : Int) xₓ σ = some (rₓ, σ')) : rₓ = wr1 gₓ xₓ ∧ σ' = σ := by
  unfold m_X7_commonSignWrong at eₓ
  obtain ⟨x1ₓ, s1ₓ, d1ₓ, eₓ⟩ := mCall_el eₓ
  obtain ⟨gx1, gs1⟩ := c_common hgₓ d1ₓ
  rw [gx1, gs1] at eₓ
  unfold wr1
  by_cases cₓ : xₓ = 7
  · rw [mIf_neg (fun qₓ => qₓ cₓ)] at eₓ
    obtain ⟨x2ₓ, s2ₓ, d2ₓ, eₓ⟩ := mCall_el eₓ
    obtain ⟨gx2, gs2⟩ := c_days hgₓ d2ₓ
    rw [gx2, gs2] at eₓ
    have hbₓ := cntD_b (gₓ := gₓ) (sₓ := bst gₓ 3) 7
    rw [mLet_e, mRet_e, mSub_x (by decide) (by decide) (by omega) (by omega) (by omega) (by omega)] at eₓ
    obtain ⟨rfl, rfl⟩ := some_el eₓ
    rw [if_pos cₓ]; exact ⟨rfl, rfl⟩
  · obtain ⟨dₓ, rfl⟩ : ∃ dₓ : Nat, xₓ = (dₓ : Int) := ⟨xₓ.toNat, by omega⟩
    rw [mIf_pos cₓ] at eₓ
    unfold m_X7_signOn at eₓ
    rw [mLet_e, mLet_e, mRd_e, mRet_e, mCall_s, show (7 * (iₓ : Int) + (dₓ : Int)).toNat = 7 * iₓ + dₓ by omega, show σ (39 + 3) (7 * iₓ + dₓ) = gₓ dₓ from hgₓ dₓ (by omega)] at eₓ
    rw [if_neg cₓ, show ((dₓ : Nat) : Int).toNat = dₓ by omega]
    by_cases cs : gₓ dₓ = bst gₓ 3
    · rw [mIf_neg (fun qₓ => qₓ cs), mRet_e] at eₓ
      obtain ⟨rfl, rfl⟩ := some_el eₓ
      rw [if_pos cs]; exact ⟨rfl, rfl⟩
    · rw [mIf_pos cs, mRet_e] at eₓ
      obtain ⟨rfl, rfl⟩ := some_el eₓ
      rw [if_neg cs]; exact ⟨rfl, rfl⟩
theorem c_wrong0 {xₓ N : Int} {G : Nat → Nat → Int} (h0ₓ : 0 ≤ xₓ) (h1ₓ : xₓ ≤ 7) (hNₓ : σ 39 9 = N) (hN2ₓ : N ≤ 12) (hGₓ : ∀ iₓ jₓ : Nat, (iₓ : Int) < N → jₓ < 7 → σ 42 (7 * iₓ + jₓ) = G iₓ jₓ) : ∀ (nₓ kₓ : Nat), (kₓ : Int) ≤ N → j_X11_wrong 0 nₓ 26 [xₓ, sumW G xₓ kₓ, (kₓ : Int)] σ = some (rₓ, σ') → ∃ mₓ : Nat, (mₓ : Int) = N ∧ rₓ = sumW G xₓ mₓ := by
  intro nₓ
  induction nₓ with
  | zero => intro kₓ _ eₓ; exact none_el eₓ
  | succ nₓ ihₓ =>
    intro kₓ hkₓ eₓ
    rw [e_X11_wrong_26] at eₓ
    unfold b_X11_wrong_26 at eₓ
    rw [mRd_e, hNₓ] at eₓ
    by_cases cₓ : N ≤ (kₓ : Int)
    · rw [mIf_pos cₓ, mRet_e] at eₓ
      obtain ⟨rfl, -⟩ := some_el eₓ
      exact ⟨kₓ, by omega, rfl⟩
    · rw [mIf_neg cₓ] at eₓ
      obtain ⟨x1ₓ, s1ₓ, d1ₓ, eₓ⟩ := mCall_el eₓ
      obtain ⟨gx1, gs1⟩ := c_wrong1 (gₓ := G kₓ) h0ₓ h1ₓ (fun jₓ hjₓ => hGₓ kₓ jₓ (by omega) hjₓ) d1ₓ
      rw [gx1, gs1] at eₓ
      have hbₓ := sumW_b (G := G) h0ₓ h1ₓ kₓ
      have hb2ₓ := wr1_b (gₓ := G kₓ) h0ₓ h1ₓ
      rw [mLet_e, mLet_e, mAdd_x (by omega) (by omega) (by omega) (by omega) (by omega) (by omega), show (kₓ : Int) + 1 = ((kₓ + 1 : Nat) : Int) by omega] at eₓ
      have e'ₓ : j_X11_wrong 0 nₓ 26 [xₓ, sumW G xₓ (kₓ + 1), ((kₓ + 1 : Nat) : Int)] σ = some (rₓ, σ') := eₓ
      exact ihₓ (kₓ + 1) (by omega) e'ₓ
theorem r_wrong0 {xₓ N : Int} {G : Nat → Nat → Int} (h0ₓ : 0 ≤ xₓ) (h1ₓ : xₓ ≤ 7) (hNₓ : τ 12 1 = N) (hN2ₓ : N ≤ 12) (hGₓ : ∀ iₓ jₓ : Nat, (iₓ : Int) < N → jₓ < 7 → τ 12 (13 + 10 * iₓ + jₓ) = G iₓ jₓ) : ∀ nₓ : Nat, (∀ kₓ : Nat, (kₓ : Int) ≤ N → j_X12_wrong 0 nₓ 25 [xₓ, sumW G xₓ kₓ, (kₓ : Int)] τ = some (r'ₓ, τ') → ∃ mₓ : Nat, (mₓ : Int) = N ∧ r'ₓ = sumW G xₓ mₓ) ∧ ∀ kₓ jₓ : Nat, (kₓ : Int) < N → jₓ ≤ 7 → j_X12_wrong 0 nₓ 38 [xₓ, sumW G xₓ kₓ + wrN (G kₓ) xₓ jₓ, (kₓ : Int), (jₓ : Int)] τ = some (r'ₓ, τ') → ∃ mₓ : Nat, (mₓ : Int) = N ∧ r'ₓ = sumW G xₓ mₓ := by
  intro nₓ
  induction nₓ with
  | zero => exact ⟨fun kₓ _ eₓ => none_el eₓ, fun kₓ jₓ _ _ eₓ => none_el eₓ⟩
  | succ nₓ ihₓ =>
    refine ⟨fun kₓ hkₓ eₓ => ?_, fun kₓ jₓ hkₓ hjₓ eₓ => ?_⟩
    · rw [e_X12_wrong_25] at eₓ
      unfold b_X12_wrong_25 at eₓ
      rw [mRd_e, show (1 : Int).toNat = 1 from rfl, hNₓ] at eₓ
      by_cases cₓ : N ≤ (kₓ : Int)
      · rw [mIf_pos cₓ, mRet_e] at eₓ
        obtain ⟨rfl, -⟩ := some_el eₓ
        exact ⟨kₓ, by omega, rfl⟩
      · rw [mIf_neg cₓ, ← Int.add_zero (sumW G xₓ kₓ)] at eₓ
        exact ihₓ.2 kₓ 0 (by omega) (by decide) eₓ
    · rw [e_X12_wrong_38] at eₓ
      unfold b_X12_wrong_38 b_X12_wrong_58 b_X12_wrong_79 b_X12_wrong_80 at eₓ
      have hbₓ := sumW_b (G := G) h0ₓ h1ₓ kₓ
      have hb2ₓ := wrN_b (gₓ := G kₓ) (xₓ := xₓ) jₓ
      by_cases cₓ : 7 ≤ (jₓ : Int)
      · obtain rfl : jₓ = 7 := by omega
        rw [mIf_pos cₓ, mLet_e, wrN_1 h0ₓ h1ₓ, show (kₓ : Int) + 1 = ((kₓ + 1 : Nat) : Int) by omega] at eₓ
        have e'ₓ : j_X12_wrong 0 nₓ 25 [xₓ, sumW G xₓ (kₓ + 1), ((kₓ + 1 : Nat) : Int)] τ = some (r'ₓ, τ') := eₓ
        exact ihₓ.1 (kₓ + 1) (by omega) e'ₓ
      · rw [mIf_neg cₓ] at eₓ
        have ej : (jₓ : Int) + 1 = ((jₓ + 1 : Nat) : Int) := by omega
        have add0 : mAdd (sumW G xₓ kₓ + wrN (G kₓ) xₓ jₓ) 0 = sumW G xₓ kₓ + wrN (G kₓ) xₓ jₓ := by rw [mAdd_x (by omega) (by omega) (by decide) (by decide) (by omega) (by omega), Int.add_zero]
        have add1 : mAdd (sumW G xₓ kₓ + wrN (G kₓ) xₓ jₓ) 1 = sumW G xₓ kₓ + (wrN (G kₓ) xₓ jₓ + 1) := by rw [mAdd_x (by omega) (by omega) (by decide) (by decide) (by omega) (by omega), Int.add_assoc]
        have yesₓ : (xₓ = 7 ∨ xₓ = (jₓ : Int)) → (mLet (3 + (jₓ : Int)) fun x1ₓ => mCall (m_X12_streetOf nₓ 0 (kₓ : Int) x1ₓ τ) fun x2ₓ s3ₓ => mCall (m_X12_cheapOf nₓ 0 (kₓ : Int) s3ₓ) fun x4ₓ s5ₓ => mIf (x2ₓ = x4ₓ) (mLet (mAdd (sumW G xₓ kₓ + wrN (G kₓ) xₓ jₓ) 0) fun x1ₓ => mLet ((jₓ : Int) + 1) fun x2ₓ => j_X12_wrong 0 nₓ 38 [xₓ, x1ₓ, (kₓ : Int), x2ₓ] s5ₓ) (mLet (mAdd (sumW G xₓ kₓ + wrN (G kₓ) xₓ jₓ) 1) fun x1ₓ => mLet ((jₓ : Int) + 1) fun x2ₓ => j_X12_wrong 0 nₓ 38 [xₓ, x1ₓ, (kₓ : Int), x2ₓ] s5ₓ)) = some (r'ₓ, τ') → ∃ mₓ : Nat, (mₓ : Int) = N ∧ r'ₓ = sumW G xₓ mₓ := by
          intro hxₓ eₓ
          rw [mLet_e, r_streetOf, mCall_s] at eₓ
          obtain ⟨x1ₓ, s1ₓ, d1ₓ, eₓ⟩ := mCall_el eₓ
          obtain ⟨gx1, gs1⟩ := r_cheap (gₓ := G kₓ) (fun jₓ hjₓ => hGₓ kₓ jₓ hkₓ hjₓ) d1ₓ
          rw [gx1, gs1] at eₓ
          rw [hGₓ kₓ jₓ hkₓ (by omega)] at eₓ
          by_cases cs : G kₓ jₓ = bst (G kₓ) 3
          · rw [mIf_pos cs, mLet_e, mLet_e, add0, ej, ← wrN_n (gₓ := G kₓ) (xₓ := xₓ) (kₓ := jₓ) (fun qₓ => qₓ.2 cs)] at eₓ
            exact ihₓ.2 kₓ (jₓ + 1) hkₓ (by omega) eₓ
          · rw [mIf_neg cs, mLet_e, mLet_e, add1, ej, ← wrN_p (gₓ := G kₓ) (xₓ := xₓ) (kₓ := jₓ) ⟨hxₓ, cs⟩] at eₓ
            exact ihₓ.2 kₓ (jₓ + 1) hkₓ (by omega) eₓ
        by_cases c7ₓ : xₓ = 7
        · rw [mIf_pos c7ₓ] at eₓ
          exact yesₓ (Or.inl c7ₓ) eₓ
        · rw [mIf_neg c7ₓ] at eₓ
          by_cases cj : xₓ = (jₓ : Int)
          · rw [mIf_neg (fun qₓ => qₓ cj)] at eₓ
            exact yesₓ (Or.inr cj) eₓ
          · rw [mIf_pos cj, mLet_e, mLet_e, add0, ej, ← wrN_n (gₓ := G kₓ) (xₓ := xₓ) (kₓ := jₓ) (fun qₓ => by have := qₓ.1; omega)] at eₓ
            exact ihₓ.2 kₓ (jₓ + 1) hkₓ (by omega) eₓ
theorem f_wrong {nₓ n'ₓ : Nat} {xₓ : Int} (hₓ : SRel 38 σ (τ 12)) (e1ₓ : m_X11_wrong nₓ 0 xₓ σ = some (rₓ, σ')) (e2ₓ : m_X12_wrong n'ₓ 0 xₓ τ = some (r'ₓ, τ')) : rₓ = r'ₓ := by
  have t8ₓ : σ 39 8 = τ 12 0 := hₓ.2.1.1.1
  have t9ₓ : σ 39 9 = τ 12 1 := hₓ.2.1.1.2.1
  unfold m_X11_wrong b_X11_wrong_20 at e1ₓ
  unfold m_X12_wrong b_X12_wrong_19 at e2ₓ
  rw [c_hasTown, mCall_s] at e1ₓ
  rw [r_isTown, mCall_s] at e2ₓ
  by_cases ct : 0 < τ 12 0
  · rw [if_pos (by rw [t8ₓ]; exact ct), mIf_neg (by decide)] at e1ₓ
    rw [if_pos ct, mIf_neg (by decide), mLet_e, r_in, mCall_s] at e2ₓ
    by_cases cx : 0 ≤ xₓ ∧ xₓ ≤ 7
    · rw [mIf_neg (by omega), mIf_pos (by omega)] at e1ₓ
      rw [if_pos cx, mIf_pos (by decide)] at e2ₓ
      obtain ⟨mₓ, hmₓ, rfl⟩ := c_wrong0 (G := fun iₓ jₓ => τ 12 (13 + 10 * iₓ + jₓ)) cx.1 cx.2 t9ₓ hₓ.1.2.1.2 (fun iₓ jₓ hiₓ hjₓ => (hₓ.2.1.2.1 iₓ hiₓ).2.2.2.1 jₓ hjₓ) nₓ 0 hₓ.1.2.1.1 e1ₓ
      obtain ⟨m'ₓ, hm'ₓ, rfl⟩ := (r_wrong0 (G := fun iₓ jₓ => τ 12 (13 + 10 * iₓ + jₓ)) cx.1 cx.2 rfl hₓ.1.2.1.2 (fun iₓ jₓ hiₓ hjₓ => rfl) n'ₓ).1 0 hₓ.1.2.1.1 e2ₓ
      obtain rfl : mₓ = m'ₓ := by omega
      rfl
    · rw [if_neg cx, mIf_neg (fun qₓ => qₓ rfl)] at e2ₓ
      obtain ⟨rfl, -⟩ := some_el e2ₓ
      by_cases c0ₓ : xₓ < 0
      · rw [mIf_pos c0ₓ] at e1ₓ
        obtain ⟨rfl, -⟩ := some_el e1ₓ
        rfl
      · rw [mIf_neg c0ₓ, mIf_neg (by omega)] at e1ₓ
        obtain ⟨rfl, -⟩ := some_el e1ₓ
        rfl
  · rw [if_neg (by rw [t8ₓ]; exact ct), mIf_pos rfl] at e1ₓ
    rw [if_neg ct, mIf_pos rfl] at e2ₓ
    obtain ⟨rfl, -⟩ := some_el e1ₓ
    obtain ⟨rfl, -⟩ := some_el e2ₓ
    rfl
end
