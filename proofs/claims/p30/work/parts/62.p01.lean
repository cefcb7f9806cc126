/-! feed(), end(), rule(): the class and the reference side by side -/
def TB (σ τ : SS) : Prop := σ 1 2 = τ 0 1 ∧ 0 ≤ σ 1 2 ∧ ∀ jₓ : Nat, (jₓ : Int) < σ 1 2 → σ 2 jₓ = τ 1 jₓ % 256
def TR (σ τ : SS) : Prop := TB σ τ ∧ σ 0 12 = τ 0 2
theorem and255 (yₓ : Int32) : (yₓ &&& 255).toInt = yₓ.toInt % 256 := by
  have h1ₓ : (yₓ &&& 255).toBitVec.toNat = yₓ.toBitVec.toNat % 256 := by
    have h2ₓ : (yₓ &&& 255).toBitVec = yₓ.toBitVec &&& (255 : Int32).toBitVec := rfl
    rw [h2ₓ, BitVec.toNat_and, show (255 : Int32).toBitVec.toNat = 2 ^ 8 - 1 by decide, Nat.and_two_pow_sub_one_eq_mod]
  have h3ₓ := wk_bv yₓ
  rw [wk_bvi (by omega), h1ₓ]
  split at h3ₓ <;> omega
theorem mAnd255 {xₓ : Int} : mAnd xₓ 255 = (Int32.ofInt xₓ).toInt % 256 := by
  show (Int32.ofInt xₓ &&& Int32.ofInt 255).toInt = _
  rw [show Int32.ofInt 255 = 255 by decide]; exact and255 _
theorem mB_r {xₓ : Int} : -128 ≤ mB xₓ ∧ mB xₓ ≤ 127 ∧ mB xₓ % 256 = (Int32.ofInt xₓ).toInt % 256 := by
  unfold mB
  rw [Int8.toInt_toInt32, Int32.toInt_toInt8, Int.bmod_def]
  split <;> omega
theorem mB_mB {xₓ : Int} : mB (mB xₓ) % 256 = mAnd xₓ 255 := by
  obtain ⟨h1ₓ, h2ₓ, h3ₓ⟩ := mB_r (xₓ := xₓ)
  rw [mB_r.2.2, i32_of (by omega) (by omega), h3ₓ, mAnd255]
section
variable {F : Int → Int} {N : Int} {σ σ' τ τ' : SS} {rₓ r'ₓ vₓ sₓ aₓ bₓ cₓ dₓ fₓ : Int} {nₓ n'ₓ : Nat}
theorem app_step (hsₓ : 0 ≤ sₓ) (hlₓ : σ 1 2 < 400) (eₓ : j_X6_append 1 nₓ 3 [vₓ, sₓ] σ = some (rₓ, σ')) : ∃ n'ₓ : Nat, j_X6_append 1 n'ₓ 3 [vₓ, sₓ + (-8)] (upS (upS σ 2 (σ 1 2).toNat (mAnd (mShr vₓ sₓ) 255)) 1 2 (σ 1 2 + 1)) = some (rₓ, σ') := by
  cases nₓ with
  | zero => exact none_el eₓ
  | succ nₓ =>
    rw [e_X6_append_3] at eₓ
    unfold b_X6_append_3 at eₓ
    rw [mIf_neg (by omega), mRd_e, mIf_neg (by omega), mRd_e, mLet_e, mLet_e, mWr_e, mRd_e, upS_q (show (1 : Nat) ≠ 2 by decide), mLet_e, mWr_e, mLet_e] at eₓ
    exact ⟨nₓ, eₓ⟩
theorem app_end (hsₓ : sₓ < 0) (eₓ : j_X6_append 1 nₓ 3 [vₓ, sₓ] σ = some (rₓ, σ')) : σ' = σ := by
  cases nₓ with
  | zero => exact none_el eₓ
  | succ nₓ =>
    rw [e_X6_append_3] at eₓ
    unfold b_X6_append_3 b_X6_append_49 at eₓ
    rw [mIf_pos hsₓ] at eₓ
    exact (some_el eₓ).2
theorem tb_step (hₓ : TB σ τ) (hbₓ : bₓ = aₓ % 256) : TB (upS (upS σ 2 (σ 1 2).toNat bₓ) 1 2 (σ 1 2 + 1)) (upS (upS τ 1 (τ 0 1).toNat aₓ) 0 1 (τ 0 1 + 1)) := by
  obtain ⟨h1ₓ, h2ₓ, h3ₓ⟩ := hₓ
  refine ⟨by rw [upS_s, upS_s, h1ₓ], by rw [upS_s]; omega, fun jₓ hjₓ => ?_⟩
  rw [upS_s] at hjₓ
  rw [upS_q (show (2 : Nat) ≠ 1 by decide), upS_q (show (1 : Nat) ≠ 0 by decide), ← h1ₓ]
  by_cases cj : jₓ = (σ 1 2).toNat
  · rw [cj, upS_s, upS_s, hbₓ]
  · rw [upS_k cj, upS_k cj]; exact h3ₓ jₓ (by omega)
theorem four_append (hₓ : TB σ τ) (hlₓ : σ 1 2 + 4 ≤ 400) (e1ₓ : m_X6_append nₓ 1 vₓ σ = some (rₓ, σ')) (e2ₓ : m_X12_four n'ₓ 0 vₓ τ = some (r'ₓ, τ')) : TB σ' τ' ∧ σ' 1 2 = σ 1 2 + 4 ∧ σ' 0 12 = σ 0 12 ∧ τ' 0 2 = τ 0 2 := by
  unfold m_X6_append at e1ₓ
  obtain ⟨σ1, hₓσ1⟩ : ∃ σ1, σ1 = upS (upS σ 2 (σ 1 2).toNat (mAnd (mShr vₓ 24) 255)) 1 2 (σ 1 2 + 1) := ⟨_, rfl⟩
  obtain ⟨σ2, hₓσ2⟩ : ∃ σ2, σ2 = upS (upS σ1 2 (σ1 1 2).toNat (mAnd (mShr vₓ 16) 255)) 1 2 (σ1 1 2 + 1) := ⟨_, rfl⟩
  obtain ⟨σ3, hₓσ3⟩ : ∃ σ3, σ3 = upS (upS σ2 2 (σ2 1 2).toNat (mAnd (mShr vₓ 8) 255)) 1 2 (σ2 1 2 + 1) := ⟨_, rfl⟩
  obtain ⟨σ4, hₓσ4⟩ : ∃ σ4, σ4 = upS (upS σ3 2 (σ3 1 2).toNat (mAnd (mShr vₓ 0) 255)) 1 2 (σ3 1 2 + 1) := ⟨_, rfl⟩
  have l1ₓ : σ1 1 2 = σ 1 2 + 1 := by rw [hₓσ1]; exact upS_s
  have l2ₓ : σ2 1 2 = σ 1 2 + 2 := by rw [hₓσ2, upS_s, l1ₓ]; omega
  have l3ₓ : σ3 1 2 = σ 1 2 + 3 := by rw [hₓσ3, upS_s, l2ₓ]; omega
  have l4ₓ : σ4 1 2 = σ 1 2 + 4 := by rw [hₓσ4, upS_s, l3ₓ]; omega
  have r1ₓ : σ4 0 12 = σ 0 12 := by rw [hₓσ4, upS_q (by decide), upS_q (by decide), hₓσ3, upS_q (by decide), upS_q (by decide), hₓσ2, upS_q (by decide), upS_q (by decide), hₓσ1, upS_q (by decide), upS_q (by decide)]
  obtain ⟨n1ₓ, e1ₓ⟩ := app_step (by decide) (by omega) e1ₓ
  rw [← hₓσ1, show (24 : Int) + (-8) = 16 by decide] at e1ₓ
  obtain ⟨n2ₓ, e1ₓ⟩ := app_step (by decide) (by omega) e1ₓ
  rw [← hₓσ2, show (16 : Int) + (-8) = 8 by decide] at e1ₓ
  obtain ⟨n3ₓ, e1ₓ⟩ := app_step (by decide) (by omega) e1ₓ
  rw [← hₓσ3, show (8 : Int) + (-8) = 0 by decide] at e1ₓ
  obtain ⟨n4ₓ, e1ₓ⟩ := app_step (by decide) (by omega) e1ₓ
  rw [← hₓσ4] at e1ₓ
  obtain rfl := app_end (by decide) e1ₓ
  unfold m_X12_four at e2ₓ
  obtain ⟨τ1, hₓτ1⟩ : ∃ τ1, τ1 = upS (upS τ 1 (τ 0 1).toNat (mB (mB (mShr vₓ 24)))) 0 1 (τ 0 1 + 1) := ⟨_, rfl⟩
  obtain ⟨τ2, hₓτ2⟩ : ∃ τ2, τ2 = upS (upS τ1 1 (τ1 0 1).toNat (mB (mB (mShr vₓ 16)))) 0 1 (τ1 0 1 + 1) := ⟨_, rfl⟩
  obtain ⟨τ3, hₓτ3⟩ : ∃ τ3, τ3 = upS (upS τ2 1 (τ2 0 1).toNat (mB (mB (mShr vₓ 8)))) 0 1 (τ2 0 1 + 1) := ⟨_, rfl⟩
  obtain ⟨τ4, hₓτ4⟩ : ∃ τ4, τ4 = upS (upS τ3 1 (τ3 0 1).toNat (mB (mB (mShr vₓ 0)))) 0 1 (τ3 0 1 + 1) := ⟨_, rfl⟩
  rw [mRd_e, mLet_e, mLet_e, mLet_e, mWr_e, mRd_e, upS_q (show (0 : Nat) ≠ 1 by decide), mLet_e, mWr_e, ← hₓτ1, mRd_e, mLet_e, mLet_e, mLet_e, mWr_e, mRd_e, upS_q (show (0 : Nat) ≠ 1 by decide), mLet_e, mWr_e, ← hₓτ2, mRd_e, mLet_e, mLet_e, mLet_e, mWr_e, mRd_e, upS_q (show (0 : Nat) ≠ 1 by decide), mLet_e, mWr_e, ← hₓτ3, mRd_e, mLet_e, mLet_e, mLet_e, mWr_e, mRd_e, upS_q (show (0 : Nat) ≠ 1 by decide), mLet_e, mWr_e, ← hₓτ4] at e2ₓ
  obtain ⟨-, rfl⟩ := some_el e2ₓ
  have t1ₓ : TB σ1 τ1 := by rw [hₓσ1, hₓτ1]; exact tb_step hₓ mB_mB.symm
  have t2ₓ : TB σ2 τ2 := by rw [hₓσ2, hₓτ2]; exact tb_step t1ₓ mB_mB.symm
  have t3ₓ : TB σ3 τ3 := by rw [hₓσ3, hₓτ3]; exact tb_step t2ₓ mB_mB.symm
  have t4ₓ : TB σ' τ' := by rw [hₓσ4, hₓτ4]; exact tb_step t3ₓ mB_mB.symm
  have r2ₓ : τ' 0 2 = τ 0 2 := by rw [hₓτ4, upS_n (by omega), upS_n (by omega), hₓτ3, upS_n (by omega), upS_n (by omega), hₓτ2, upS_n (by omega), upS_n (by omega), hₓτ1, upS_n (by omega), upS_n (by omega)]
  exact ⟨t4ₓ, l4ₓ, r1ₓ, r2ₓ⟩
theorem f_feed (hₓ : TR σ τ) (e1ₓ : m_X11_feed nₓ 0 aₓ bₓ cₓ dₓ fₓ σ = some (rₓ, σ')) (e2ₓ : m_X12_feed n'ₓ 0 aₓ bₓ cₓ dₓ fₓ τ = some (r'ₓ, τ')) : rₓ = r'ₓ ∧ TR σ' τ' := by
  obtain ⟨htₓ, hrₓ⟩ := hₓ
  unfold m_X11_feed m_X6_hasRoom at e1ₓ
  unfold m_X12_feed at e2ₓ
  rw [mRd_e, mLet_e] at e1ₓ e2ₓ
  have hlₓ := htₓ.1
  by_cases c4ₓ : σ 1 2 + 20 ≤ 400
  · rw [mIf_neg (show ¬ 400 < σ 1 2 + 20 by omega), mRet_e, mCall_s, mIf_pos (show ¬ (1 : Int) = 0 by decide)] at e1ₓ
    rw [mIf_pos (show τ 0 1 + 20 ≤ 400 by omega)] at e2ₓ
    obtain ⟨x1ₓ, s1ₓ, d1ₓ, e1ₓ⟩ := mCall_el e1ₓ
    obtain ⟨y1ₓ, t1ₓ, g1ₓ, e2ₓ⟩ := mCall_el e2ₓ
    obtain ⟨h1ₓ, l1ₓ, k1ₓ, m1ₓ⟩ := four_append htₓ (by omega) d1ₓ g1ₓ
    obtain ⟨x2ₓ, s2ₓ, d2ₓ, e1ₓ⟩ := mCall_el e1ₓ
    obtain ⟨y2ₓ, t2ₓ, g2ₓ, e2ₓ⟩ := mCall_el e2ₓ
    obtain ⟨h2ₓ, l2ₓ, k2ₓ, m2ₓ⟩ := four_append h1ₓ (by omega) d2ₓ g2ₓ
    obtain ⟨x3ₓ, s3ₓ, d3ₓ, e1ₓ⟩ := mCall_el e1ₓ
    obtain ⟨y3ₓ, t3ₓ, g3ₓ, e2ₓ⟩ := mCall_el e2ₓ
    obtain ⟨h3ₓ, l3ₓ, k3ₓ, m3ₓ⟩ := four_append h2ₓ (by omega) d3ₓ g3ₓ
    obtain ⟨x4ₓ, s4ₓ, d4ₓ, e1ₓ⟩ := mCall_el e1ₓ
    obtain ⟨y4ₓ, t4ₓ, g4ₓ, e2ₓ⟩ := mCall_el e2ₓ
    obtain ⟨h4ₓ, l4ₓ, k4ₓ, m4ₓ⟩ := four_append h3ₓ (by omega) d4ₓ g4ₓ
    obtain ⟨x5ₓ, s5ₓ, d5ₓ, e1ₓ⟩ := mCall_el e1ₓ
    obtain ⟨y5ₓ, t5ₓ, g5ₓ, e2ₓ⟩ := mCall_el e2ₓ
    obtain ⟨h5ₓ, l5ₓ, k5ₓ, m5ₓ⟩ := four_append h4ₓ (by omega) d5ₓ g5ₓ
    rw [mRd_e] at e1ₓ e2ₓ
    obtain ⟨rfl, rfl⟩ := some_el e1ₓ
    obtain ⟨rfl, rfl⟩ := some_el e2ₓ
    exact ⟨h5ₓ.1, h5ₓ, by omega⟩
  · rw [mIf_pos (show 400 < σ 1 2 + 20 by omega), mRet_e, mCall_s, mIf_neg (fun qₓ => qₓ rfl)] at e1ₓ
    rw [mIf_neg (show ¬ τ 0 1 + 20 ≤ 400 by omega)] at e2ₓ
    obtain ⟨rfl, rfl⟩ := some_el e1ₓ
    obtain ⟨rfl, rfl⟩ := some_el e2ₓ
    exact ⟨rfl, htₓ, hrₓ⟩
theorem f_end (hₓ : TR σ τ) (e1ₓ : m_X11_end nₓ 0 aₓ σ = some (rₓ, σ')) (e2ₓ : m_X12_end n'ₓ 0 aₓ τ = some (r'ₓ, τ')) : rₓ = r'ₓ ∧ TR σ' τ' := by
  obtain ⟨htₓ, hrₓ⟩ := hₓ
  unfold m_X11_end b_X11_end_15 at e1ₓ
  unfold m_X12_end b_X12_end_12 at e2ₓ
  have hlₓ := htₓ.1
  by_cases c0ₓ : aₓ < 0
  · rw [mIf_pos c0ₓ] at e1ₓ e2ₓ
    obtain ⟨rfl, rfl⟩ := some_el e1ₓ
    obtain ⟨rfl, rfl⟩ := some_el e2ₓ
    exact ⟨rfl, htₓ, hrₓ⟩
  · rw [mIf_neg c0ₓ, mRd_e] at e1ₓ e2ₓ
    by_cases c1ₓ : aₓ ≤ σ 1 2
    · rw [mIf_pos c1ₓ, mWr_e] at e1ₓ
      rw [mIf_pos (by omega), mWr_e] at e2ₓ
      obtain ⟨rfl, rfl⟩ := some_el e1ₓ
      obtain ⟨rfl, rfl⟩ := some_el e2ₓ
      refine ⟨rfl, ⟨by rw [upS_s, upS_s], by rw [upS_s]; omega, fun jₓ hjₓ => ?_⟩, ?_⟩
      · rw [upS_s] at hjₓ
        rw [upS_q (by decide), upS_q (by decide)]; exact htₓ.2.2 jₓ (by omega)
      · rw [upS_q (by decide), upS_n (by omega)]; exact hrₓ
    · rw [mIf_neg c1ₓ] at e1ₓ
      rw [mIf_neg (by omega)] at e2ₓ
      obtain ⟨rfl, rfl⟩ := some_el e1ₓ
      obtain ⟨rfl, rfl⟩ := some_el e2ₓ
      exact ⟨rfl, htₓ, hrₓ⟩
theorem f_rule (hₓ : TR σ τ) (hNₓ : σ 1 2 ≤ 400) (hb0ₓ : ∀ jₓ : Nat, jₓ < 400 → 0 ≤ σ 2 jₓ) (hb1ₓ : ∀ jₓ : Nat, jₓ < 400 → -128 ≤ τ 1 jₓ ∧ τ 1 jₓ ≤ 127) (hr0ₓ : 0 ≤ τ 0 2) (hr6ₓ : τ 0 2 ≤ 6) (e1ₓ : m_X11_rule nₓ 0 σ = some (rₓ, σ')) (e2ₓ : m_X12_rule n'ₓ 0 τ = some (r'ₓ, τ')) : rₓ = r'ₓ ∧ TR σ' τ' := by
  obtain ⟨htₓ, hrₓ⟩ := hₓ
  obtain ⟨t1ₓ, t2ₓ, t3ₓ⟩ := id htₓ
  have hcₓ : CV (fun jₓ => σ 2 jₓ.toNat) (σ 1 2) σ := ⟨rfl, fun _ _ _ => rfl, fun jₓ j0ₓ j1ₓ => hb0ₓ jₓ.toNat (by omega)⟩
  have hv : MV (fun jₓ => σ 2 jₓ.toNat) (σ 1 2) τ := ⟨t1ₓ.symm, fun jₓ j0ₓ j1ₓ => ⟨t3ₓ jₓ.toNat (by omega), hb1ₓ jₓ.toNat (by omega)⟩⟩
  have z0ₓ : ∀ {σ' τ' : SS}, σ' 1 2 = 0 → τ' 0 1 = 0 → TB σ' τ' := fun q1ₓ q2ₓ => ⟨by rw [q1ₓ, q2ₓ], by rw [q1ₓ]; exact Int.le_refl 0, fun jₓ hjₓ => absurd hjₓ (by rw [q1ₓ]; omega)⟩
  rcases c_rule hcₓ t2ₓ hNₓ (by omega) e1ₓ with ⟨a1ₓ, rfl, rfl⟩ | ⟨a1ₓ, a2ₓ, φ, a3ₓ, a4ₓ⟩
  · rcases r_rule hv t2ₓ hr0ₓ hr6ₓ e2ₓ with ⟨b1ₓ, rfl, rfl⟩ | ⟨b1ₓ, -⟩
    · exact ⟨rfl, htₓ, hrₓ⟩
    · omega
  · rcases r_rule hv t2ₓ hr0ₓ hr6ₓ e2ₓ with ⟨b1ₓ, -, -⟩ | ⟨b1ₓ, b2ₓ, ψ, b3ₓ, b4ₓ⟩
    · omega
    · obtain rfl : φ = ψ := St_det a3ₓ b3ₓ
      rcases a4ₓ with ⟨c1ₓ, c2ₓ, c3ₓ⟩ | ⟨c1ₓ, c2ₓ, c3ₓ⟩
      · rcases b4ₓ with ⟨d1ₓ, d2ₓ, d3ₓ⟩ | ⟨d1ₓ, d2ₓ, d3ₓ⟩
        · exact ⟨by omega, z0ₓ a2ₓ b2ₓ, by omega⟩
        · exact absurd c1ₓ d1ₓ
      · rcases b4ₓ with ⟨d1ₓ, d2ₓ, d3ₓ⟩ | ⟨d1ₓ, d2ₓ, d3ₓ⟩
        · exact absurd d1ₓ c1ₓ
        · exact ⟨by omega, z0ₓ a2ₓ b2ₓ, by omega⟩
end
