/-! strangers: what is drawn, aₓ walk, all walks -/
section
variable {σ σ' τ τ' : SS} {rₓ r'ₓ xₓ yₓ vₓ aₓ gₓ mₓ tₓ : Int} {nₓ n'ₓ K N M : Nat} {D : Nat → Int}
theorem mAndL_31 {xₓ : Int} (h0ₓ : 0 ≤ xₓ) (h1ₓ : xₓ < 9223372036854775808) : mAndL xₓ 2147483647 = xₓ % 2147483648 := by
  show (Int64.ofInt xₓ &&& Int64.ofInt 2147483647).toInt = xₓ % 2147483648
  have e3ₓ : (Int64.ofInt xₓ &&& Int64.ofInt 2147483647).toBitVec.toNat = xₓ.toNat % 2147483648 := by
    rw [Int64.toBitVec_and, BitVec.toNat_and, i64_nat h0ₓ h1ₓ, i64_nat (by decide) (by decide)]
    exact Nat.and_two_pow_sub_one_eq_mod _ 31
  rw [i64_back (by rw [e3ₓ]; omega), e3ₓ]
  omega
theorem mShr_16 {xₓ : Int} (h0ₓ : 0 ≤ xₓ) (h1ₓ : xₓ ≤ 2147483647) : mShr xₓ 16 = xₓ / 65536 := by
  have h2ₓ : (Int32.ofInt xₓ).toInt = xₓ := i32_of (by omega) (by omega)
  have eₓ : (Int32.ofInt xₓ >>> (Int32.ofInt 16 &&& 31)).toInt = (Int32.ofInt xₓ).toInt >>> (16 : Nat) := by
    show ((Int32.ofInt xₓ).toBitVec.sshiftRight' _).toInt = _
    rw [BitVec.sshiftRight', BitVec.toInt_sshiftRight]
    rfl
  show (Int32.ofInt xₓ >>> (Int32.ofInt 16 &&& 31)).toInt = xₓ / 65536
  rw [eₓ, Int.shiftRight_eq_div_pow, h2ₓ]
  rfl
theorem mRem_p {xₓ aₓ : Int} (h0ₓ : 0 ≤ xₓ) (h1ₓ : xₓ ≤ 2147483647) (h2ₓ : 0 < aₓ) (h3ₓ : aₓ ≤ 2147483647) : mRem xₓ aₓ = xₓ % aₓ := by
  show (Int32.ofInt xₓ - Int32.ofInt xₓ / Int32.ofInt aₓ * Int32.ofInt aₓ).toInt = xₓ % aₓ
  have eₓ : (Int32.ofInt xₓ).toInt = xₓ := i32_of (by omega) h1ₓ
  have e2ₓ : (Int32.ofInt aₓ).toInt = aₓ := i32_of (by omega) h3ₓ
  rw [wk_rem (by rw [eₓ]; exact h0ₓ) (by rw [e2ₓ]; exact h2ₓ), eₓ, e2ₓ]
theorem mRemL_p {xₓ aₓ : Int} (h0ₓ : 0 ≤ xₓ) (h1ₓ : xₓ ≤ 2147483647) (h2ₓ : 0 < aₓ) (h3ₓ : aₓ ≤ 2147483647) : mRemL xₓ aₓ = xₓ % aₓ := by
  show (Int64.ofInt xₓ - Int64.ofInt xₓ / Int64.ofInt aₓ * Int64.ofInt aₓ).toInt = xₓ % aₓ
  have eₓ : (Int64.ofInt xₓ).toInt = xₓ := i64_of h0ₓ (by omega)
  have e2ₓ : (Int64.ofInt aₓ).toInt = aₓ := i64_of (by omega) (by omega)
  rw [wk_reml (by rw [eₓ]; exact h0ₓ) (by rw [e2ₓ]; exact h2ₓ), eₓ, e2ₓ]
theorem mAddL_p {xₓ yₓ : Int} (h0ₓ : 0 ≤ xₓ) (h1ₓ : xₓ ≤ 2147483647) (h2ₓ : 0 ≤ yₓ) (h3ₓ : yₓ ≤ 2147483647) : mAddL xₓ yₓ = xₓ + yₓ := by
  show (Int64.ofInt xₓ + Int64.ofInt yₓ).toInt = xₓ + yₓ
  have eₓ : (Int64.ofInt xₓ).toInt = xₓ := i64_of h0ₓ (by omega)
  have e2ₓ : (Int64.ofInt yₓ).toInt = yₓ := i64_of h2ₓ (by omega)
  rw [wk_addl (by rw [eₓ, e2ₓ]; omega) (by rw [eₓ, e2ₓ]; omega), eₓ, e2ₓ]
theorem mL2I_p {xₓ : Int} (h0ₓ : 0 ≤ xₓ) (h1ₓ : xₓ ≤ 2147483647) : mL2I xₓ = xₓ := by
  have eₓ : (Int64.ofInt xₓ).toInt = xₓ := i64_of h0ₓ (by omega)
  unfold mL2I
  rw [wk_l2i (by rw [eₓ]; omega) (by rw [eₓ]; exact h1ₓ), eₓ]
/-- the number drawn next, what it gives below aₓ bound -/
def dx (xₓ : Int) : Int := (xₓ * 1103515245 + 12345) % 2147483648
theorem dx_r (xₓ : Int) : 0 ≤ dx xₓ ∧ dx xₓ ≤ 2147483647 := by unfold dx; omega
def dv (xₓ aₓ : Int) : Int := dx xₓ / 65536 % aₓ
theorem dv_r {xₓ aₓ : Int} (hₓ : 0 < aₓ) : 0 ≤ dv xₓ aₓ ∧ dv xₓ aₓ < aₓ := ⟨Int.emod_nonneg _ (by omega), Int.emod_lt_of_pos _ hₓ⟩
theorem c_draw (hxₓ : σ 151 7 = xₓ) (h0ₓ : 0 ≤ xₓ) (h1ₓ : xₓ ≤ 2147483647) (haₓ : 0 < aₓ) (ha2ₓ : aₓ ≤ 2147483647) : m_X8_drawBelow nₓ 151 aₓ σ = some (dv xₓ aₓ, upS σ 151 7 (dx xₓ)) := by
  have kₓ := dx_r xₓ
  have eₓ : mAndL (xₓ * 1103515245 + 12345) 2147483647 = dx xₓ := mAndL_31 (by omega) (by omega)
  unfold m_X8_drawBelow
  rw [mRd_e, hxₓ, mLet_e, mLet_e, mLet_e, mLet_e, eₓ, mLet_e, mWr_e, mIf_neg (by omega), mRd_e, upS_s, mLet_e, mShr_16 kₓ.1 kₓ.2, mLet_e, mRem_p (by omega) (by omega) haₓ ha2ₓ, mRet_e]
  rfl
theorem r_draw (hxₓ : τ 1000 39 = xₓ) (h0ₓ : 0 ≤ xₓ) (h1ₓ : xₓ ≤ 2147483647) (haₓ : 0 < aₓ) (ha2ₓ : aₓ ≤ 2147483647) : m_X12_draw nₓ 0 aₓ τ = some (dv xₓ aₓ, upS τ 1000 39 (dx xₓ)) := by
  have kₓ := dx_r xₓ
  have eₓ : m_X12_draw nₓ 0 aₓ τ = some (mRemL (dx xₓ / 65536) aₓ, upS τ 1000 39 (dx xₓ)) := by
    subst hxₓ
    unfold m_X12_draw
    rw [mRd_e, mLet_e, mLet_e, mLet_e, mWr_e, mRd_e, upS_s, mLet_e, mLet_e, mLet_e, mLet_e, mRet_e]
    rfl
  rw [eₓ, mRemL_p (by omega) (by omega) haₓ ha2ₓ]
  rfl
/-! aₓ walker sets out -/
theorem c_out (eₓ : m_X9_setOutL nₓ 152 aₓ gₓ mₓ vₓ tₓ σ = some (rₓ, σ')) : σ' = upS (upS (upS (upS (upS (upS (upS (upS (upS σ 152 0 aₓ) 152 1 gₓ) 152 2 mₓ) 152 3 vₓ) 1152 4 tₓ) 152 5 0) 152 6 0) 152 7 (-1)) 1152 8 (-1) := by
  unfold m_X9_setOutL at eₓ
  rw [mWr_e, mWr_e, mWr_e, mWr_e, mWr_e, mWr_e, mWr_e, mWr_e, mWr_e, mRet_e] at eₓ
  exact (some_el eₓ).2
theorem r_out (eₓ : m_X12_setsOut nₓ 0 0 aₓ gₓ mₓ vₓ tₓ τ = some (rₓ, τ')) : τ' = upS (upS (upS (upS (upS (upS (upS (upS (upS τ 12 216 aₓ) 12 217 gₓ) 12 218 mₓ) 12 219 vₓ) 12 220 tₓ) 12 221 0) 12 222 0) 12 223 (-1)) 12 224 (-1) := by
  unfold m_X12_setsOut at eₓ
  rw [mLet_e, mLet_e, mWr_e, mLet_e, mWr_e, mLet_e, mWr_e, mLet_e, mWr_e, mLet_e, mWr_e, mLet_e, mWr_e, mLet_e, mWr_e, mLet_e, mWr_e, mLet_e, mWr_e, mRet_e] at eₓ
  exact (some_el eₓ).2
theorem f_out (haₓ : 0 ≤ aₓ ∧ aₓ < (K : Int)) (hgₓ : 0 ≤ gₓ ∧ gₓ < (K : Int)) (hmₓ : 0 ≤ mₓ ∧ mₓ < (M : Int)) (hv : -1 ≤ vₓ ∧ vₓ < τ 0 2 ∧ vₓ < 6) (htₓ : 0 ≤ tₓ) (e1ₓ : m_X9_setOutL nₓ 152 aₓ gₓ mₓ vₓ tₓ σ = some (rₓ, σ')) (e2ₓ : m_X12_setsOut n'ₓ 0 0 aₓ gₓ mₓ vₓ tₓ τ = some (r'ₓ, τ')) : WRl K M σ' τ' ∧ FCs σ σ' ∧ FRs τ τ' ∧ τ' 12 220 = tₓ := by
  have q1ₓ := c_out e1ₓ
  have q2ₓ := r_out e2ₓ
  clear e1ₓ e2ₓ
  have t0ₓ : τ' 12 216 = aₓ := by rw [q2ₓ]; repeat (first | rw [upS_s] | rw [upS_k (by decide)] | rw [upS_q (by decide)])
  have t1ₓ : τ' 12 217 = gₓ := by rw [q2ₓ]; repeat (first | rw [upS_s] | rw [upS_k (by decide)] | rw [upS_q (by decide)])
  have t2ₓ : τ' 12 218 = mₓ := by rw [q2ₓ]; repeat (first | rw [upS_s] | rw [upS_k (by decide)] | rw [upS_q (by decide)])
  have t3ₓ : τ' 12 219 = vₓ := by rw [q2ₓ]; repeat (first | rw [upS_s] | rw [upS_k (by decide)] | rw [upS_q (by decide)])
  have t4ₓ : τ' 12 220 = tₓ := by rw [q2ₓ]; repeat (first | rw [upS_s] | rw [upS_k (by decide)] | rw [upS_q (by decide)])
  have t5ₓ : τ' 12 221 = 0 := by rw [q2ₓ]; repeat (first | rw [upS_s] | rw [upS_k (by decide)] | rw [upS_q (by decide)])
  have t6ₓ : τ' 12 222 = 0 := by rw [q2ₓ]; repeat (first | rw [upS_s] | rw [upS_k (by decide)] | rw [upS_q (by decide)])
  have t7ₓ : τ' 12 223 = -1 := by rw [q2ₓ]; repeat (first | rw [upS_s] | rw [upS_k (by decide)] | rw [upS_q (by decide)])
  have t8ₓ : τ' 12 224 = -1 := by rw [q2ₓ]; repeat (first | rw [upS_s] | rw [upS_k (by decide)] | rw [upS_q (by decide)])
  have s0ₓ : σ' 152 0 = aₓ := by rw [q1ₓ]; repeat (first | rw [upS_s] | rw [upS_k (by decide)] | rw [upS_q (by decide)])
  have s1ₓ : σ' 152 1 = gₓ := by rw [q1ₓ]; repeat (first | rw [upS_s] | rw [upS_k (by decide)] | rw [upS_q (by decide)])
  have s2ₓ : σ' 152 2 = mₓ := by rw [q1ₓ]; repeat (first | rw [upS_s] | rw [upS_k (by decide)] | rw [upS_q (by decide)])
  have s3ₓ : σ' 152 3 = vₓ := by rw [q1ₓ]; repeat (first | rw [upS_s] | rw [upS_k (by decide)] | rw [upS_q (by decide)])
  have s4ₓ : σ' 1152 4 = tₓ := by rw [q1ₓ]; repeat (first | rw [upS_s] | rw [upS_k (by decide)] | rw [upS_q (by decide)])
  have s5ₓ : σ' 152 5 = 0 := by rw [q1ₓ]; repeat (first | rw [upS_s] | rw [upS_k (by decide)] | rw [upS_q (by decide)])
  have s6ₓ : σ' 152 6 = 0 := by rw [q1ₓ]; repeat (first | rw [upS_s] | rw [upS_k (by decide)] | rw [upS_q (by decide)])
  have s7ₓ : σ' 152 7 = -1 := by rw [q1ₓ]; repeat (first | rw [upS_s] | rw [upS_k (by decide)] | rw [upS_q (by decide)])
  have s8ₓ : σ' 1152 8 = -1 := by rw [q1ₓ]; repeat (first | rw [upS_s] | rw [upS_k (by decide)] | rw [upS_q (by decide)])
  have c02ₓ : τ' 0 2 = τ 0 2 := by rw [q2ₓ]; repeat (first | rw [upS_s] | rw [upS_k (by decide)] | rw [upS_q (by decide)])
  refine ⟨⟨⟨s0ₓ.trans t0ₓ.symm, s1ₓ.trans t1ₓ.symm, s2ₓ.trans t2ₓ.symm, s3ₓ.trans t3ₓ.symm, s4ₓ.trans t4ₓ.symm, s5ₓ.trans t5ₓ.symm, s6ₓ.trans t6ₓ.symm, s7ₓ.trans t7ₓ.symm, s8ₓ.trans t8ₓ.symm⟩, by rw [t0ₓ]; exact haₓ, by rw [t1ₓ]; exact hgₓ, by rw [t2ₓ]; exact hmₓ, by rw [t3ₓ, c02ₓ]; exact hv, by rw [t4ₓ]; exact htₓ, by rw [t7ₓ]; decide⟩, fun qₓ kₓ p1ₓ p2ₓ p3ₓ p4ₓ => ?_, fun qₓ kₓ p1ₓ p2ₓ p3ₓ p4ₓ p5ₓ p6ₓ => ?_, t4ₓ⟩
  · rw [q1ₓ, upS_q p2ₓ, upS_q p1ₓ, upS_q p1ₓ, upS_q p1ₓ, upS_q p2ₓ, upS_q p1ₓ, upS_q p1ₓ, upS_q p1ₓ, upS_q p1ₓ]
  · rw [q2ₓ, upS_n (by omega), upS_n (by omega), upS_n (by omega), upS_n (by omega), upS_n (by omega), upS_n (by omega), upS_n (by omega), upS_n (by omega), upS_n (by omega)]
theorem c_there (hₓ : σ 152 0 = σ 152 1) (eₓ : m_X1_takeStep nₓ 149 152 σ = some (rₓ, σ')) : rₓ = 4 ∧ σ' = σ := by
  unfold m_X1_takeStep m_X9_isAtGoal at eₓ
  rw [mRd_e, mRd_e, mIf_neg (fun qₓ => qₓ hₓ), mRet_e, mCall_s, mIf_neg (by decide), mRet_e] at eₓ
  exact some_el eₓ
theorem c_goal : m_X9_isAtGoal nₓ 152 σ = some (if σ 152 0 = σ 152 1 then 1 else 0, σ) := by
  unfold m_X9_isAtGoal
  rw [mRd_e, mRd_e]
  by_cases cₓ : σ 152 0 = σ 152 1
  · rw [mIf_neg (fun qₓ => qₓ cₓ), if_pos cₓ, mRet_e]
  · rw [mIf_pos cₓ, if_neg cₓ, mRet_e]
theorem r_there : m_X12_isThere nₓ 0 0 τ = some (if τ 12 216 = τ 12 217 then 1 else 0, τ) := by
  unfold m_X12_isThere
  rw [r_wo0, mCall_s, r_wo1, mCall_s]
  by_cases cₓ : τ 12 216 = τ 12 217
  · rw [mIf_neg (fun qₓ => qₓ cₓ), if_pos cₓ, mRet_e]
  · rw [mIf_pos cₓ, if_neg cₓ, mRet_e]
/-! what stays -/
def FCo (σ σ' : SS) : Prop := ∀ qₓ kₓ : Nat, qₓ ≠ 151 → qₓ ≠ 152 → qₓ ≠ 1152 → qₓ ≠ 1150 → ¬ (qₓ = 149 ∧ kₓ ≠ 9) → σ' qₓ kₓ = σ qₓ kₓ
theorem FCo.rf : FCo σ σ := fun _ _ _ _ _ _ _ => rfl
theorem FCo.tr {σ'' : SS} (hₓ : FCo σ σ') (gₓ : FCo σ' σ'') : FCo σ σ'' := fun qₓ kₓ aₓ bₓ cₓ dₓ eₓ => (gₓ qₓ kₓ aₓ bₓ cₓ dₓ eₓ).trans (hₓ qₓ kₓ aₓ bₓ cₓ dₓ eₓ)
theorem FCs.o (hₓ : FCs σ σ') : FCo σ σ' := fun qₓ kₓ _ bₓ cₓ dₓ eₓ => hₓ qₓ kₓ bₓ cₓ dₓ eₓ
theorem ENVc_k (hDₓ : DOK D K N M) (hₓ : ENVc D K N M σ) (hFₓ : FCo σ σ') : ENVc D K N M σ' := by
  obtain ⟨h1ₓ, h2ₓ, h3ₓ⟩ := hₓ
  have fₓ : ∀ qₓ kₓ : Nat, qₓ < 149 → σ' qₓ kₓ = σ qₓ kₓ := fun qₓ kₓ hqₓ => hFₓ qₓ kₓ (by omega) (by omega) (by omega) (by omega) (by omega)
  refine ⟨SRel_mv h1ₓ ⟨fun kₓ _ => fₓ _ _ (by decide), fun kₓ _ => fₓ _ _ (by decide), fun kₓ _ => ⟨fₓ _ _ (by decide), fₓ _ _ (by decide)⟩, fun kₓ _ => ⟨fₓ _ _ (by decide), fₓ _ _ (by decide), fₓ _ _ (by decide)⟩, fun kₓ _ => fₓ _ _ (by decide), fun kₓ _ => ⟨fₓ _ _ (by decide), fₓ _ _ (by decide), fₓ _ _ (by decide)⟩, fun kₓ _ => fₓ _ _ (by decide), fun kₓ _ => ⟨fₓ _ _ (by decide), fₓ _ _ (by decide)⟩, fun kₓ _ => ⟨fₓ _ _ (by decide), fₓ _ _ (by decide)⟩⟩ (fun kₓ _ => rfl), fun cₓ hcₓ hc2ₓ => CHT_k hDₓ.kn.1 hDₓ.str (h2ₓ cₓ hcₓ hc2ₓ) (fun kₓ _ _ => ⟨fₓ _ _ (by decide), fₓ _ _ (by decide)⟩) (fun sₓ _ => ?_), (hFₓ 149 9 (by decide) (by decide) (by decide) (by decide) (by decide)).trans h3ₓ⟩
  unfold sgAt
  rw [fₓ 48 _ (by decide), fₓ 42 _ (by decide)]
theorem ENVr_k (hₓ : ENVr D τ) (h1ₓ : ∀ kₓ : Nat, kₓ < 216 → τ' 12 kₓ = D kₓ) (h2ₓ : τ' 0 27 = τ 0 27) (h3ₓ : τ' 0 30 = τ 0 30) : ENVr D τ' := ⟨h1ₓ, by rw [h2ₓ]; exact hₓ.2.1, h3ₓ.trans hₓ.2.2⟩
theorem ENVr_s (hₓ : ENVr D τ) (hFₓ : FRs τ τ') : ENVr D τ' := ENVr_k hₓ (fun kₓ hkₓ => (hFₓ 12 kₓ (by decide) (by decide) (by decide) (by decide) (by omega) (by omega)).trans (hₓ.1 kₓ hkₓ)) (hFₓ 0 27 (by decide) (by decide) (by decide) (by decide) (by decide) (by decide)) (hFₓ 0 30 (by decide) (by decide) (by decide) (by decide) (by decide) (by decide))
/-- what the rules rest on -/
def RK (τ τ' : SS) : Prop := τ' 0 2 = τ 0 2 ∧ ∀ qₓ kₓ : Nat, (qₓ = 2 ∨ qₓ = 4 ∨ qₓ = 5) → τ' qₓ kₓ = τ qₓ kₓ
theorem FRs.rk (hFₓ : FRs τ τ') : RK τ τ' := ⟨hFₓ 0 2 (by decide) (by decide) (by decide) (by decide) (by decide) (by decide), fun qₓ kₓ hqₓ => hFₓ qₓ kₓ (by omega) (by omega) (by omega) (by omega) (by omega) (by omega)⟩
theorem FCo.lt (hₓ : FCo σ σ') : ∀ qₓ kₓ : Nat, 5 ≤ qₓ → qₓ < 29 → σ' qₓ kₓ = σ qₓ kₓ := fun qₓ kₓ _ hqₓ => hₓ qₓ kₓ (by omega) (by omega) (by omega) (by omega) (by omega)
theorem RRs_k (hₓ : RRs σ τ) (hCₓ : ∀ qₓ kₓ : Nat, 5 ≤ qₓ → qₓ < 29 → σ' qₓ kₓ = σ qₓ kₓ) (hFₓ : RK τ τ') : RRs σ' τ' := ⟨fun iₓ hiₓ => (hCₓ _ _ (by omega) (by omega)).trans (hₓ.1 iₓ hiₓ), fun iₓ hiₓ h6ₓ => (hₓ.2 iₓ (by rw [← hFₓ.1]; exact hiₓ) h6ₓ).congr (fun qₓ kₓ _ _ => hCₓ qₓ kₓ (by omega) (by omega)) (fun kₓ _ => hFₓ.2 2 kₓ (by decide)) (fun kₓ _ => hFₓ.2 4 kₓ (by decide)) (hFₓ.2 5 iₓ (by decide))⟩
theorem DPs_k (hₓ : DPs τ) (hFₓ : RK τ τ') : DPs τ' := by
  have h2ₓ : τ' 2 = τ 2 := funext fun kₓ => hFₓ.2 2 kₓ (by decide)
  have h4ₓ : τ' 4 = τ 4 := funext fun kₓ => hFₓ.2 4 kₓ (by decide)
  have h5ₓ : τ' 5 = τ 5 := funext fun kₓ => hFₓ.2 5 kₓ (by decide)
  unfold DPs at hₓ ⊢
  rw [h2ₓ, h4ₓ, h5ₓ]; exact hₓ
/-! aₓ walk -/
theorem f_walk {L : Nat} {v1ₓ v2ₓ v4ₓ v5ₓ v6ₓ vt : Int} (hDₓ : DOK D K N M) : ∀ (nₓ n'ₓ iₓ : Nat) (σ τ : SS), ENVc D K N M σ → ENVr D τ → RRs σ τ → DPs τ → WRl K M σ τ → iₓ ≤ L → j_X1_takeSteps 149 152 nₓ 2 [(L : Int), (iₓ : Int)] σ = some (rₓ, σ') → j_X12_strangers 0 n'ₓ 156 [v1ₓ, v2ₓ, (L : Int), v4ₓ, v5ₓ, v6ₓ, vt, (iₓ : Int)] τ = some (r'ₓ, τ') → ∃ (mₓ : Nat) (τ1 : SS), b_X12_strangers_182 (j_X12_strangers 0 mₓ) mₓ 0 v1ₓ v2ₓ (L : Int) v4ₓ v5ₓ v6ₓ vt τ1 = some (r'ₓ, τ') ∧ WRl K M σ' τ1 ∧ FCs σ σ' ∧ FRs τ τ1 ∧ τ 12 220 ≤ τ1 12 220 ∧ τ1 12 220 ≤ τ 12 220 + 9 * ((L : Int) - (iₓ : Int)) := by
  intro nₓ
  induction nₓ with
  | zero => intro n'ₓ iₓ σ τ _ _ _ _ _ _ e1ₓ; exact none_el e1ₓ
  | succ nₓ ihₓ =>
    intro n'ₓ iₓ σ τ hCₓ hEₓ hRₓ hPₓ hWₓ hiₓ e1ₓ e2ₓ
    cases n'ₓ with
    | zero => exact none_el e2ₓ
    | succ n'ₓ =>
      rw [e_X1_takeSteps_2] at e1ₓ
      rw [e_X12_strangers_156] at e2ₓ
      unfold b_X1_takeSteps_2 at e1ₓ
      unfold b_X12_strangers_156 at e2ₓ
      by_cases c1ₓ : (L : Int) ≤ (iₓ : Int)
      · rw [mIf_pos c1ₓ, mRet_e] at e1ₓ
        rw [mIf_pos c1ₓ] at e2ₓ
        have hsₓ := (some_el e1ₓ).2
        rw [hsₓ]
        exact ⟨n'ₓ, τ, e2ₓ, hWₓ, FCs.rf, FRs.rf, Int.le_refl _, by omega⟩
      · rw [mIf_neg c1ₓ] at e1ₓ e2ₓ
        rw [r_there, mCall_s] at e2ₓ
        obtain ⟨r1ₓ, s1ₓ, f1ₓ, e1ₓ⟩ := mCall_el e1ₓ
        by_cases c2ₓ : τ 12 216 = τ 12 217
        · rw [if_pos c2ₓ, mIf_pos (by decide)] at e2ₓ
          obtain ⟨h1ₓ, h2ₓ⟩ := c_there (by rw [hWₓ.1.1, hWₓ.1.2.1]; exact c2ₓ) f1ₓ
          rw [h1ₓ, h2ₓ, mIf_neg (fun qₓ => qₓ rfl), mRet_e] at e1ₓ
          have hsₓ := (some_el e1ₓ).2
          rw [hsₓ]
          exact ⟨n'ₓ, τ, e2ₓ, hWₓ, FCs.rf, FRs.rf, Int.le_refl _, by omega⟩
        · rw [if_neg c2ₓ, mIf_neg (fun qₓ => qₓ rfl)] at e2ₓ
          obtain ⟨r2ₓ, t1ₓ, f2ₓ, e2ₓ⟩ := mCall_el e2ₓ
          obtain ⟨g1ₓ, g2ₓ, g3ₓ, g4ₓ, g5ₓ, g6ₓ, g7ₓ⟩ := f_step hDₓ hCₓ hEₓ hRₓ hPₓ hWₓ c2ₓ f1ₓ f2ₓ
          have ei : (iₓ : Int) + 1 = ((iₓ + 1 : Nat) : Int) := by omega
          rw [mIf_pos g1ₓ, mLet_e, ei] at e1ₓ
          rw [mLet_e, ei] at e2ₓ
          obtain ⟨mₓ, τ1, k1ₓ, k2ₓ, k3ₓ, k4ₓ, k5ₓ, k6ₓ⟩ := ihₓ n'ₓ (iₓ + 1) s1ₓ t1ₓ (ENVc_k hDₓ hCₓ g3ₓ.o) (ENVr_s hEₓ g4ₓ) (RRs_k hRₓ g3ₓ.o.lt g4ₓ.rk) (DPs_k hPₓ g4ₓ.rk) g2ₓ (by omega) e1ₓ e2ₓ
          exact ⟨mₓ, τ1, k1ₓ, k2ₓ, g3ₓ.tr k3ₓ, g4ₓ.tr k4ₓ, by omega, by omega⟩
/-! said kept, put back -/
theorem r_keeps0 {τ0 : SS} : ∀ (nₓ iₓ : Nat) (τ : SS), (∀ qₓ kₓ : Nat, qₓ ≠ 15 → τ qₓ kₓ = τ0 qₓ kₓ) → (∀ kₓ : Nat, kₓ < iₓ → τ 15 kₓ = τ0 12 kₓ) → iₓ ≤ 296 → j_X12_keeps 0 nₓ 2 [(iₓ : Int)] τ = some (rₓ, τ') → (∀ qₓ kₓ : Nat, qₓ ≠ 15 → τ' qₓ kₓ = τ0 qₓ kₓ) ∧ ∀ kₓ : Nat, kₓ < 296 → τ' 15 kₓ = τ0 12 kₓ := by
  intro nₓ
  induction nₓ with
  | zero => intro iₓ τ _ _ _ eₓ; exact none_el eₓ
  | succ nₓ ihₓ =>
    intro iₓ τ hFₓ hIₓ hiₓ eₓ
    rw [e_X12_keeps_2] at eₓ
    unfold b_X12_keeps_2 at eₓ
    by_cases cₓ : (296 : Int) ≤ (iₓ : Int)
    · rw [mIf_pos cₓ, mRet_e] at eₓ
      have hsₓ := (some_el eₓ).2
      rw [hsₓ]
      exact ⟨hFₓ, fun kₓ hkₓ => hIₓ kₓ (by omega)⟩
    · rw [mIf_neg cₓ, mRd_e, mWr_e, mLet_e, show ((iₓ : Nat) : Int).toNat = iₓ by omega, show (iₓ : Int) + 1 = ((iₓ + 1 : Nat) : Int) by omega] at eₓ
      exact ihₓ (iₓ + 1) _ (fun qₓ kₓ hqₓ => (upS_q hqₓ).trans (hFₓ qₓ kₓ hqₓ)) (fun kₓ hkₓ => by
        by_cases ek : kₓ = iₓ
        · subst ek; rw [upS_s]; exact hFₓ 12 _ (by decide)
        · rw [upS_k ek]; exact hIₓ kₓ (by omega)) (by omega) eₓ
theorem r_puts0 {τ0 : SS} : ∀ (nₓ iₓ : Nat) (τ : SS), (∀ qₓ kₓ : Nat, qₓ ≠ 12 → τ qₓ kₓ = τ0 qₓ kₓ) → (∀ kₓ : Nat, kₓ < iₓ → τ 12 kₓ = τ0 15 kₓ) → iₓ ≤ 296 → j_X12_putsBack 0 nₓ 2 [(iₓ : Int)] τ = some (rₓ, τ') → (∀ qₓ kₓ : Nat, qₓ ≠ 12 → τ' qₓ kₓ = τ0 qₓ kₓ) ∧ ∀ kₓ : Nat, kₓ < 296 → τ' 12 kₓ = τ0 15 kₓ := by
  intro nₓ
  induction nₓ with
  | zero => intro iₓ τ _ _ _ eₓ; exact none_el eₓ
  | succ nₓ ihₓ =>
    intro iₓ τ hFₓ hIₓ hiₓ eₓ
    rw [e_X12_putsBack_2] at eₓ
    unfold b_X12_putsBack_2 at eₓ
    by_cases cₓ : (296 : Int) ≤ (iₓ : Int)
    · rw [mIf_pos cₓ, mRet_e] at eₓ
      have hsₓ := (some_el eₓ).2
      rw [hsₓ]
      exact ⟨hFₓ, fun kₓ hkₓ => hIₓ kₓ (by omega)⟩
    · rw [mIf_neg cₓ, mRd_e, mWr_e, mLet_e, show ((iₓ : Nat) : Int).toNat = iₓ by omega, show (iₓ : Int) + 1 = ((iₓ + 1 : Nat) : Int) by omega] at eₓ
      exact ihₓ (iₓ + 1) _ (fun qₓ kₓ hqₓ => (upS_q hqₓ).trans (hFₓ qₓ kₓ hqₓ)) (fun kₓ hkₓ => by
        by_cases ek : kₓ = iₓ
        · subst ek; rw [upS_s]; exact hFₓ 15 _ (by decide)
        · rw [upS_k ek]; exact hIₓ kₓ (by omega)) (by omega) eₓ
/-! all walks -/
theorem f_loop {L Q : Nat} {v1ₓ : Int} (hDₓ : DOK D K N M) (hK0ₓ : 0 < K) (hM0ₓ : 0 < M) (hLₓ : L ≤ 200) (hQₓ : Q ≤ 30) (hyₓ : yₓ = 0 ∨ yₓ = 1) : ∀ (nₓ n'ₓ iₓ : Nat) (th hsₓ al xₓ : Int) (σ τ : SS), ENVc D K N M σ → ENVr D τ → RRs σ τ → DPs τ → (∀ kₓ : Nat, kₓ < 296 → τ 12 kₓ = D kₓ) → (∀ kₓ : Nat, kₓ < 296 → τ 15 kₓ = D kₓ) → (-1 ≤ v1ₓ ∧ v1ₓ < τ 0 2 ∧ v1ₓ < 6) → σ 151 7 = xₓ → τ 1000 39 = xₓ → 0 ≤ xₓ → xₓ ≤ 2147483647 → iₓ ≤ Q → 0 ≤ th → th ≤ (iₓ : Int) → 0 ≤ hsₓ → hsₓ ≤ 1800 * (iₓ : Int) → al = (if yₓ = 0 then th else hsₓ) → j_X8_tellStrangers 151 nₓ 20 [v1ₓ, (Q : Int), (L : Int), yₓ, th, hsₓ, (iₓ : Int)] σ = some (rₓ, σ') → j_X12_strangers 0 n'ₓ 88 [v1ₓ, (Q : Int), (L : Int), yₓ, al, (iₓ : Int)] τ = some (r'ₓ, τ') → rₓ = r'ₓ ∧ FCo σ σ' ∧ ∀ kₓ : Nat, kₓ < 296 → τ' 12 kₓ = D kₓ := by
  have hkₓ := hDₓ.kn
  have hM4ₓ := hDₓ.2.2.2.2
  intro nₓ
  induction nₓ with
  | zero => intro n'ₓ iₓ th hsₓ al xₓ σ τ _ _ _ _ _ _ _ _ _ _ _ _ _ _ _ _ _ e1ₓ; exact none_el e1ₓ
  | succ nₓ ihₓ =>
    intro n'ₓ iₓ th hsₓ al xₓ σ τ hCₓ hEₓ hRₓ hPₓ h12ₓ h15ₓ hv hx1ₓ hx2ₓ x0ₓ x1ₓ hiₓ t0ₓ t1ₓ u0ₓ u1ₓ haₓ e1ₓ e2ₓ
    cases n'ₓ with
    | zero => exact none_el e2ₓ
    | succ n'ₓ =>
      rw [e_X8_tellStrangers_20] at e1ₓ
      rw [e_X12_strangers_88] at e2ₓ
      unfold b_X8_tellStrangers_20 b_X8_tellStrangers_139 at e1ₓ
      unfold b_X12_strangers_88 at e2ₓ
      by_cases c1ₓ : (Q : Int) ≤ (iₓ : Int)
      · rw [mIf_pos c1ₓ] at e1ₓ
        rw [mIf_pos c1ₓ, mRet_e] at e2ₓ
        obtain ⟨b1ₓ, b2ₓ⟩ := some_el e2ₓ
        rcases hyₓ with hyₓ | hyₓ
        · rw [mIf_neg (fun qₓ => qₓ hyₓ), mRet_e] at e1ₓ
          obtain ⟨a1ₓ, a2ₓ⟩ := some_el e1ₓ
          rw [if_pos hyₓ] at haₓ
          exact ⟨by rw [a1ₓ, b1ₓ, haₓ], by rw [a2ₓ]; exact FCo.rf, by rw [b2ₓ]; exact h12ₓ⟩
        · rw [mIf_pos (by omega), mLet_e, mRet_e, mL2I_p u0ₓ (by omega)] at e1ₓ
          obtain ⟨a1ₓ, a2ₓ⟩ := some_el e1ₓ
          rw [if_neg (by omega)] at haₓ
          exact ⟨by rw [a1ₓ, b1ₓ, haₓ], by rw [a2ₓ]; exact FCo.rf, by rw [b2ₓ]; exact h12ₓ⟩
      · rw [mIf_neg c1ₓ] at e1ₓ e2ₓ
        have k0ₓ : σ 39 8 = (K : Int) := (hCₓ.1.2.1.1.1).trans hDₓ.2.1
        have k4ₓ : σ 38 8 = (M : Int) := (hCₓ.1.2.2.2.1.1).trans hDₓ.2.2.2.1
        have m0ₓ : τ 12 (0 : Int).toNat = (K : Int) := (h12ₓ 0 (by decide)).trans hDₓ.2.1
        have m4ₓ : τ 12 (4 : Int).toNat = (M : Int) := (h12ₓ 4 (by decide)).trans hDₓ.2.2.2.1
        have x4ₓ : ∀ zₓ : Int, 0 ≤ dx zₓ ∧ dx zₓ ≤ 2147483647 := dx_r
        have ei : (iₓ : Int) + 1 = ((iₓ + 1 : Nat) : Int) := by omega
        -- what is drawn
        have d1ₓ := c_draw (nₓ := nₓ) (aₓ := (K : Int)) hx1ₓ x0ₓ x1ₓ (by omega) (by omega)
        have d2ₓ := c_draw (nₓ := nₓ) (aₓ := (K : Int)) (σ := upS σ 151 7 (dx xₓ)) (xₓ := dx xₓ) upS_s (x4ₓ _).1 (x4ₓ _).2 (by omega) (by omega)
        have d3ₓ := c_draw (nₓ := nₓ) (aₓ := (M : Int)) (σ := upS (upS σ 151 7 (dx xₓ)) 151 7 (dx (dx xₓ))) (xₓ := dx (dx xₓ)) upS_s (x4ₓ _).1 (x4ₓ _).2 (by omega) (by omega)
        have d4ₓ := c_draw (nₓ := nₓ) (aₓ := 168) (σ := upS (upS (upS σ 151 7 (dx xₓ)) 151 7 (dx (dx xₓ))) 151 7 (dx (dx (dx xₓ)))) (xₓ := dx (dx (dx xₓ))) upS_s (x4ₓ _).1 (x4ₓ _).2 (by decide) (by decide)
        have p1ₓ := r_draw (nₓ := n'ₓ) (aₓ := (K : Int)) hx2ₓ x0ₓ x1ₓ (by omega) (by omega)
        have p2ₓ := r_draw (nₓ := n'ₓ) (aₓ := (K : Int)) (τ := upS τ 1000 39 (dx xₓ)) (xₓ := dx xₓ) upS_s (x4ₓ _).1 (x4ₓ _).2 (by omega) (by omega)
        have p3ₓ := r_draw (nₓ := n'ₓ) (aₓ := (M : Int)) (τ := upS (upS τ 1000 39 (dx xₓ)) 1000 39 (dx (dx xₓ))) (xₓ := dx (dx xₓ)) upS_s (x4ₓ _).1 (x4ₓ _).2 (by omega) (by omega)
        have p4ₓ := r_draw (nₓ := n'ₓ) (aₓ := 168) (τ := upS (upS (upS τ 1000 39 (dx xₓ)) 1000 39 (dx (dx xₓ))) 1000 39 (dx (dx (dx xₓ)))) (xₓ := dx (dx (dx xₓ))) upS_s (x4ₓ _).1 (x4ₓ _).2 (by decide) (by decide)
        rw [mRd_e, k0ₓ, d1ₓ, mCall_s, mRd_e, upS_q (show (39 : Nat) ≠ 151 by decide), k0ₓ, d2ₓ, mCall_s, mRd_e, upS_q (show (38 : Nat) ≠ 151 by decide), upS_q (show (38 : Nat) ≠ 151 by decide), k4ₓ, d3ₓ, mCall_s, d4ₓ, mCall_s, mLet_e] at e1ₓ
        rw [mRd_e, m0ₓ, p1ₓ, mCall_s, mRd_e, upS_q (show (12 : Nat) ≠ 1000 by decide), m0ₓ, p2ₓ, mCall_s, mRd_e, upS_q (show (12 : Nat) ≠ 1000 by decide), upS_q (show (12 : Nat) ≠ 1000 by decide), m4ₓ, p3ₓ, mCall_s, p4ₓ, mCall_s] at e2ₓ
        have w1ₓ := dv_r (xₓ := xₓ) (aₓ := (K : Int)) (by omega)
        have w2ₓ := dv_r (xₓ := dx xₓ) (aₓ := (K : Int)) (by omega)
        have w3ₓ := dv_r (xₓ := dx (dx xₓ)) (aₓ := (M : Int)) (by omega)
        have w4ₓ := dv_r (xₓ := dx (dx (dx xₓ))) (aₓ := 168) (by decide)
        generalize dv xₓ (K : Int) = A at e1ₓ e2ₓ w1ₓ
        generalize dv (dx xₓ) (K : Int) = G at e1ₓ e2ₓ w2ₓ
        generalize dv (dx (dx xₓ)) (M : Int) = P at e1ₓ e2ₓ w3ₓ
        generalize dv (dx (dx (dx xₓ))) 168 = H at e1ₓ e2ₓ w4ₓ
        have x5ₓ := x4ₓ (dx (dx (dx xₓ)))
        obtain ⟨s12ₓ, hs12ₓ⟩ : ∃ sₓ : SS, sₓ = upS (upS (upS (upS σ 151 7 (dx xₓ)) 151 7 (dx (dx xₓ))) 151 7 (dx (dx (dx xₓ)))) 151 7 (dx (dx (dx (dx xₓ)))) := ⟨_, rfl⟩
        obtain ⟨t11ₓ, ht11ₓ⟩ : ∃ sₓ : SS, sₓ = upS (upS (upS (upS τ 1000 39 (dx xₓ)) 1000 39 (dx (dx xₓ))) 1000 39 (dx (dx (dx xₓ)))) 1000 39 (dx (dx (dx (dx xₓ)))) := ⟨_, rfl⟩
        rw [← hs12ₓ] at e1ₓ
        rw [← ht11ₓ] at e2ₓ
        have fs : ∀ qₓ kₓ : Nat, qₓ ≠ 151 → s12ₓ qₓ kₓ = σ qₓ kₓ := fun qₓ kₓ hqₓ => by rw [hs12ₓ, upS_q hqₓ, upS_q hqₓ, upS_q hqₓ, upS_q hqₓ]
        have ft : ∀ qₓ kₓ : Nat, qₓ ≠ 1000 → t11ₓ qₓ kₓ = τ qₓ kₓ := fun qₓ kₓ hqₓ => by rw [ht11ₓ, upS_q hqₓ, upS_q hqₓ, upS_q hqₓ, upS_q hqₓ]
        have gs : s12ₓ 151 7 = dx (dx (dx (dx xₓ))) := by rw [hs12ₓ]; exact upS_s
        have gt : t11ₓ 1000 39 = dx (dx (dx (dx xₓ))) := by rw [ht11ₓ]; exact upS_s
        clear hs12ₓ ht11ₓ d1ₓ d2ₓ d3ₓ d4ₓ p1ₓ p2ₓ p3ₓ p4ₓ
        generalize dx (dx (dx (dx xₓ))) = X at gs gt x5ₓ
        obtain ⟨z1ₓ, s14ₓ, f1ₓ, e1ₓ⟩ := mCall_el e1ₓ
        obtain ⟨z2ₓ, t12ₓ, f2ₓ, e2ₓ⟩ := mCall_el e2ₓ
        obtain ⟨y1ₓ, y2ₓ, y3ₓ, y4ₓ⟩ := f_out (K := K) (M := M) (σ := s12ₓ) (τ := t11ₓ) w1ₓ w2ₓ w3ₓ (by rw [ft 0 2 (by decide)]; exact hv) w4ₓ.1 f1ₓ f2ₓ
        obtain ⟨z3ₓ, s16ₓ, f3ₓ, e1ₓ⟩ := mCall_el e1ₓ
        unfold m_X1_takeSteps at f3ₓ
        have o1ₓ : FCo σ s14ₓ := FCo.tr (fun qₓ kₓ g1ₓ _ _ _ _ => fs qₓ kₓ g1ₓ) y2ₓ.o
        have rk1 : RK τ t12ₓ := ⟨(y3ₓ.rk.1).trans (ft 0 2 (by decide)), fun qₓ kₓ hqₓ => (y3ₓ.rk.2 qₓ kₓ hqₓ).trans (ft qₓ kₓ (by omega))⟩
        have hE1ₓ : ENVr D t12ₓ := ENVr_s (ENVr_k hEₓ (fun kₓ hkₓ => (ft 12 kₓ (by decide)).trans (hEₓ.1 kₓ hkₓ)) (ft 0 27 (by decide)) (ft 0 30 (by decide))) y3ₓ
        obtain ⟨mₓ, t16ₓ, g1ₓ, g2ₓ, g3ₓ, g4ₓ, g5ₓ, g6ₓ⟩ := f_walk hDₓ nₓ n'ₓ 0 s14ₓ t12ₓ (ENVc_k hDₓ hCₓ o1ₓ) hE1ₓ (RRs_k hRₓ o1ₓ.lt rk1) (DPs_k hPₓ rk1) y1ₓ (Nat.zero_le _) f3ₓ e2ₓ
        have o2ₓ : FCo σ s16ₓ := o1ₓ.tr g3ₓ.o
        have rk2 : RK τ t16ₓ := ⟨(g4ₓ.rk.1).trans rk1.1, fun qₓ kₓ hqₓ => (g4ₓ.rk.2 qₓ kₓ hqₓ).trans (rk1.2 qₓ kₓ hqₓ)⟩
        have cg : s16ₓ 152 0 = s16ₓ 152 1 ↔ t16ₓ 12 216 = t16ₓ 12 217 := by rw [g2ₓ.1.1, g2ₓ.1.2.1]
        have hhₓ : s16ₓ 1152 4 = t16ₓ 12 220 := g2ₓ.1.2.2.2.2.1
        have hXₓ : s16ₓ 151 7 = X := (g3ₓ 151 7 (by decide) (by decide) (by decide) (by decide)).trans ((y2ₓ 151 7 (by decide) (by decide) (by decide) (by decide)).trans gs)
        have fr : ∀ qₓ kₓ : Nat, qₓ ≠ 12 → qₓ ≠ 13 → qₓ ≠ 14 → qₓ ≠ 1010 → qₓ ≠ 1011 → ¬ (qₓ = 0 ∧ (kₓ = 24 ∨ kₓ = 31)) → t16ₓ qₓ kₓ = t11ₓ qₓ kₓ := fun qₓ kₓ b1ₓ b2ₓ b3ₓ b4ₓ b5ₓ b6ₓ => (g4ₓ qₓ kₓ b2ₓ b3ₓ b4ₓ b5ₓ b6ₓ (by omega)).trans (y3ₓ qₓ kₓ b2ₓ b3ₓ b4ₓ b5ₓ b6ₓ (by omega))
        -- behindₓ the walk: said is put back
        have next : ∀ (th' hs'ₓ al' : Int), 0 ≤ th' → th' ≤ (iₓ : Int) + 1 → 0 ≤ hs'ₓ → hs'ₓ ≤ 1800 * ((iₓ : Int) + 1) → al' = (if yₓ = 0 then th' else hs'ₓ) → (mLet ((iₓ : Int) + 1) fun x1ₓ => j_X8_tellStrangers 151 nₓ 20 [v1ₓ, (Q : Int), (L : Int), yₓ, th', hs'ₓ, x1ₓ] s16ₓ) = some (rₓ, σ') → (mCall (m_X12_putsBack mₓ 0 t16ₓ) fun _ s1ₓ => mLet ((iₓ : Int) + 1) fun x2ₓ => j_X12_strangers 0 mₓ 88 [v1ₓ, (Q : Int), (L : Int), yₓ, al', x2ₓ] s1ₓ) = some (r'ₓ, τ') → rₓ = r'ₓ ∧ FCo σ σ' ∧ ∀ kₓ : Nat, kₓ < 296 → τ' 12 kₓ = D kₓ := by
          intro th' hs'ₓ al' b0ₓ b1ₓ b2ₓ b3ₓ b4ₓ e1ₓ e2ₓ
          rw [mLet_e, ei] at e1ₓ
          obtain ⟨z4ₓ, t17ₓ, f4ₓ, e2ₓ⟩ := mCall_el e2ₓ
          unfold m_X12_putsBack at f4ₓ
          obtain ⟨j1ₓ, j2ₓ⟩ := r_puts0 (τ0 := t16ₓ) mₓ 0 t16ₓ (fun _ _ _ => rfl) (fun kₓ hkₓ => absurd hkₓ (Nat.not_lt_zero _)) (by decide) f4ₓ
          rw [mLet_e, ei] at e2ₓ
          have h12'ₓ : ∀ kₓ : Nat, kₓ < 296 → t17ₓ 12 kₓ = D kₓ := fun kₓ hkₓ => by
            rw [j2ₓ kₓ hkₓ, fr 15 kₓ (by decide) (by decide) (by decide) (by decide) (by decide) (by omega), ft 15 kₓ (by decide)]; exact h15ₓ kₓ hkₓ
          have h15'ₓ : ∀ kₓ : Nat, kₓ < 296 → t17ₓ 15 kₓ = D kₓ := fun kₓ hkₓ => by
            rw [j1ₓ 15 kₓ (by decide), fr 15 kₓ (by decide) (by decide) (by decide) (by decide) (by decide) (by omega), ft 15 kₓ (by decide)]; exact h15ₓ kₓ hkₓ
          have f0ₓ : ∀ kₓ : Nat, kₓ ≠ 24 → kₓ ≠ 31 → t17ₓ 0 kₓ = τ 0 kₓ := fun kₓ c1ₓ c2ₓ => by
            rw [j1ₓ 0 kₓ (by decide), fr 0 kₓ (by decide) (by decide) (by decide) (by decide) (by decide) (by omega), ft 0 kₓ (by decide)]
          have rk3 : RK τ t17ₓ := ⟨f0ₓ 2 (by decide) (by decide), fun qₓ kₓ hqₓ => (j1ₓ qₓ kₓ (by omega)).trans (rk2.2 qₓ kₓ hqₓ)⟩
          obtain ⟨l1ₓ, l2ₓ, l3ₓ⟩ := ihₓ mₓ (iₓ + 1) th' hs'ₓ al' X s16ₓ t17ₓ (ENVc_k hDₓ hCₓ o2ₓ) (ENVr_k hEₓ (fun kₓ hkₓ => h12'ₓ kₓ (by omega)) (f0ₓ 27 (by decide) (by decide)) (f0ₓ 30 (by decide) (by decide))) (RRs_k hRₓ o2ₓ.lt rk3) (DPs_k hPₓ rk3) h12'ₓ h15'ₓ (by rw [rk3.1]; exact hv) hXₓ (by rw [j1ₓ 1000 39 (by decide), fr 1000 39 (by decide) (by decide) (by decide) (by decide) (by decide) (by decide)]; exact gt) x5ₓ.1 x5ₓ.2 (by omega) b0ₓ (by omega) b2ₓ (by omega) b4ₓ e1ₓ e2ₓ
          exact ⟨l1ₓ, o2ₓ.tr l2ₓ, l3ₓ⟩
        rw [c_goal, mCall_s] at e1ₓ
        unfold b_X12_strangers_182 b_X12_strangers_210 b_X12_strangers_213 at g1ₓ
        rw [r_there, mCall_s] at g1ₓ
        by_cases c2ₓ : t16ₓ 12 216 = t16ₓ 12 217
        · rw [if_pos (cg.mpr c2ₓ), mIf_neg (by decide), mLet_e, mRd_e, hhₓ, mLet_e, mLet_e, mLet_e, mAdd_x (by omega) (by omega) (by decide) (by decide) (by omega) (by omega), mAddL_p u0ₓ (by omega) (by omega) (by omega)] at e1ₓ
          rw [if_pos c2ₓ, mIf_neg (by decide)] at g1ₓ
          rcases hyₓ with hyₓ | hyₓ
          · rw [mIf_neg (fun qₓ => qₓ hyₓ), mLet_e] at g1ₓ
            rw [if_pos hyₓ] at haₓ
            rw [haₓ, mAdd_x (by omega) (by omega) (by decide) (by decide) (by omega) (by omega)] at g1ₓ
            exact next (th + 1) (hsₓ + (t16ₓ 12 220 - H)) (th + 1) (by omega) (by omega) (by omega) (by omega) (by rw [if_pos hyₓ]) e1ₓ g1ₓ
          · rw [mIf_pos (by omega), r_wo4, mCall_s, mLet_e, mLet_e] at g1ₓ
            rw [if_neg (by omega)] at haₓ
            rw [haₓ, mAdd_x (by omega) (by omega) (by omega) (by omega) (by omega) (by omega)] at g1ₓ
            exact next (th + 1) (hsₓ + (t16ₓ 12 220 - H)) (hsₓ + (t16ₓ 12 220 - H)) (by omega) (by omega) (by omega) (by omega) (by rw [if_neg (by omega)]) e1ₓ g1ₓ
        · rw [if_neg (fun qₓ => c2ₓ (cg.mp qₓ)), mIf_pos rfl] at e1ₓ
          rw [if_neg c2ₓ, mIf_pos rfl] at g1ₓ
          exact next th hsₓ al t0ₓ (by omega) u0ₓ (by omega) haₓ e1ₓ g1ₓ
end
