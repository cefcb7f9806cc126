/-! bits of whole numbers -/
section
variable {aₓ bₓ hₓ kₓ fₓ : Nat} {xₓ yₓ : Int}
theorem tb_nat (hhₓ : hₓ < 32) : tb ((aₓ : Nat) : Int) hₓ = aₓ.testBit hₓ := by
  show (Int32.ofInt (aₓ : Int)).toBitVec.getLsbD hₓ = _
  rw [Int32.toBitVec_ofInt, BitVec.ofInt_natCast, BitVec.getLsbD_ofNat, decide_eq_true hhₓ, Bool.true_and]
theorem tb_ext (hxₓ : -2147483648 ≤ xₓ ∧ xₓ ≤ 2147483647) (hyₓ : -2147483648 ≤ yₓ ∧ yₓ ≤ 2147483647) (heₓ : ∀ hₓ : Nat, hₓ < 32 → tb xₓ hₓ = tb yₓ hₓ) : xₓ = yₓ := by
  have eₓ : (Int32.ofInt xₓ).toBitVec = (Int32.ofInt yₓ).toBitVec := BitVec.eq_of_getLsbD_eq_iff.mpr (fun iₓ hiₓ => heₓ iₓ hiₓ)
  have e1ₓ : (Int32.ofInt xₓ).toInt = xₓ := i32_of hxₓ.1 hxₓ.2
  have e2ₓ : (Int32.ofInt yₓ).toInt = yₓ := i32_of hyₓ.1 hyₓ.2
  rw [← e1ₓ, ← e2ₓ]
  show (Int32.ofInt xₓ).toBitVec.toInt = (Int32.ofInt yₓ).toBitVec.toInt
  rw [eₓ]
theorem mOr_rg {xₓ yₓ : Int} : -2147483648 ≤ mOr xₓ yₓ ∧ mOr xₓ yₓ ≤ 2147483647 := wk_i32 _
theorem mAnd_rg {xₓ yₓ : Int} : -2147483648 ≤ mAnd xₓ yₓ ∧ mAnd xₓ yₓ ≤ 2147483647 := wk_i32 _
theorem mShl_rg {xₓ yₓ : Int} : -2147483648 ≤ mShl xₓ yₓ ∧ mShl xₓ yₓ ≤ 2147483647 := wk_i32 _
/-- some bit, if it isn't 0 -/
theorem tb_some (hxₓ : -2147483648 ≤ xₓ ∧ xₓ ≤ 2147483647) (h0ₓ : xₓ ≠ 0) : ∃ hₓ : Nat, hₓ < 32 ∧ tb xₓ hₓ = true := by
  by_cases cₓ : ∃ hₓ : Nat, hₓ < 32 ∧ tb xₓ hₓ = true
  · exact cₓ
  · refine absurd (tb_ext hxₓ (by decide) (fun hₓ hhₓ => ?_)) h0ₓ
    rw [tb_0]
    cases hbₓ : tb xₓ hₓ with
    | true => exact absurd ⟨hₓ, hhₓ, hbₓ⟩ cₓ
    | false => rfl
theorem shl_pow : ∀ kₓ : Nat, kₓ < 31 → mShl 1 (kₓ : Int) = ((2 ^ kₓ : Nat) : Int) := by decide +kernel
theorem pow_12 : ∀ kₓ : Nat, kₓ ≤ 12 → 2 ^ kₓ ≤ 4096 := by decide
/-- one bit more -/
theorem mOr_pow (hfₓ : fₓ < 12) (hbₓ : bₓ < 4096) (hdₓ : bₓ % 2 ^ (fₓ + 1) = 0) (hsₓ : bₓ + 2 ^ fₓ < 4096) : mOr ((bₓ : Nat) : Int) (mShl 1 (fₓ : Int)) = ((bₓ + 2 ^ fₓ : Nat) : Int) := by
  rw [shl_pow fₓ (by omega)]
  refine tb_ext mOr_rg ⟨by omega, by omega⟩ (fun hₓ hhₓ => ?_)
  have hpₓ : 2 ^ fₓ < 2 ^ (fₓ + 1) := Nat.pow_lt_pow_right (by decide) (Nat.lt_succ_self fₓ)
  have hqₓ : bₓ = 2 ^ (fₓ + 1) * (bₓ / 2 ^ (fₓ + 1)) := by
    have := Nat.div_add_mod bₓ (2 ^ (fₓ + 1))
    omega
  rw [tb_or, tb_nat hhₓ, tb_nat hhₓ, tb_nat hhₓ]
  rw [hqₓ, Nat.two_pow_add_eq_or_of_lt hpₓ, Nat.testBit_or]
/-- numbers that have the bits of one above aₓ place -/
theorem bit_above (hbₓ : bₓ % 2 ^ fₓ = 0) (h1ₓ : bₓ ≤ aₓ) (h2ₓ : aₓ < bₓ + 2 ^ fₓ) {iₓ : Nat} (hiₓ : fₓ ≤ iₓ) : aₓ.testBit iₓ = bₓ.testBit iₓ := by
  have hqₓ : bₓ = 2 ^ fₓ * (bₓ / 2 ^ fₓ) := by
    have := Nat.div_add_mod bₓ (2 ^ fₓ)
    omega
  have haₓ : aₓ = 2 ^ fₓ * (bₓ / 2 ^ fₓ) + (aₓ - bₓ) := by omega
  have hlₓ : aₓ - bₓ < 2 ^ fₓ := by omega
  have e1ₓ := Nat.testBit_two_pow_mul_add (bₓ / 2 ^ fₓ) hlₓ iₓ
  have e2ₓ := Nat.testBit_two_pow_mul_add (bₓ / 2 ^ fₓ) (Nat.two_pow_pos fₓ) iₓ
  rw [if_neg (by omega)] at e1ₓ e2ₓ
  rw [haₓ, e1ₓ]
  rw [Nat.add_zero] at e2ₓ
  rw [hqₓ, Nat.mul_div_cancel_left _ (Nat.two_pow_pos fₓ), e2ₓ]
/-- aₓ number for any choice of bits -/
theorem bits_of (pₓ : Nat → Prop) : ∀ M : Nat, ∃ kₓ : Nat, kₓ < 2 ^ M ∧ ∀ iₓ : Nat, iₓ < M → (kₓ.testBit iₓ = true ↔ pₓ iₓ)
  | 0 => ⟨0, by decide, fun iₓ hiₓ => absurd hiₓ (Nat.not_lt_zero _)⟩
  | M + 1 => by
    obtain ⟨kₓ, h1ₓ, h2ₓ⟩ := bits_of pₓ M
    have hpₓ : 2 ^ (M + 1) = 2 ^ M + 2 ^ M := by rw [Nat.pow_succ]; omega
    by_cases cₓ : pₓ M
    · refine ⟨2 ^ M + kₓ, by omega, fun iₓ hiₓ => ?_⟩
      by_cases eₓ : iₓ = M
      · subst eₓ
        rw [Nat.testBit_two_pow_add_eq, Nat.testBit_lt_two_pow h1ₓ]
        exact ⟨fun _ => cₓ, fun _ => rfl⟩
      · rw [Nat.testBit_two_pow_add_gt (by omega)]; exact h2ₓ iₓ (by omega)
    · refine ⟨kₓ, by omega, fun iₓ hiₓ => ?_⟩
      by_cases eₓ : iₓ = M
      · subst eₓ
        rw [Nat.testBit_lt_two_pow h1ₓ]
        exact ⟨fun qₓ => absurd qₓ (by decide), fun qₓ => absurd qₓ cₓ⟩
      · exact h2ₓ iₓ (by omega)
end
/-! the roads of aₓ weekday, the class's lists of corners behindₓ corners -/
def cnR (D : Nat → Int) (dₓ : Nat) : Nat → Nat
  | 0 => 0
  | sₓ + 1 => cnR D dₓ sₓ + if D (13 + 10 * sₓ + dₓ) = 0 then 0 else 1
section
variable {D : Nat → Int} {dₓ sₓ tₓ N kₓ : Nat}
theorem cn_0 (hₓ : D (13 + 10 * sₓ + dₓ) = 0) : cnR D dₓ (sₓ + 1) = cnR D dₓ sₓ := by
  show cnR D dₓ sₓ + (if D (13 + 10 * sₓ + dₓ) = 0 then 0 else 1) = _
  rw [if_pos hₓ]; rfl
theorem cn_1 (hₓ : ¬ D (13 + 10 * sₓ + dₓ) = 0) : cnR D dₓ (sₓ + 1) = cnR D dₓ sₓ + 1 := by
  show cnR D dₓ sₓ + (if D (13 + 10 * sₓ + dₓ) = 0 then 0 else 1) = _
  rw [if_neg hₓ]
theorem cn_st : cnR D dₓ sₓ ≤ cnR D dₓ (sₓ + 1) ∧ cnR D dₓ (sₓ + 1) ≤ cnR D dₓ sₓ + 1 := by
  by_cases cₓ : D (13 + 10 * sₓ + dₓ) = 0
  · rw [cn_0 cₓ]; omega
  · rw [cn_1 cₓ]; omega
theorem cn_le : ∀ sₓ : Nat, cnR D dₓ sₓ ≤ sₓ
  | 0 => Nat.le_refl 0
  | sₓ + 1 => by
    have h1ₓ := cn_le sₓ
    have h2ₓ := (cn_st (D := D) (dₓ := dₓ) (sₓ := sₓ)).2
    omega
theorem cn_mono : ∀ jₓ : Nat, cnR D dₓ sₓ ≤ cnR D dₓ (sₓ + jₓ)
  | 0 => Nat.le_refl _
  | jₓ + 1 => Nat.le_trans (cn_mono jₓ) (cn_st (sₓ := sₓ + jₓ)).1
theorem cn_lt (hsₓ : ¬ D (13 + 10 * sₓ + dₓ) = 0) (hₓ : sₓ < tₓ) : cnR D dₓ sₓ < cnR D dₓ tₓ := by
  have h1ₓ := cn_mono (D := D) (dₓ := dₓ) (sₓ := sₓ + 1) (tₓ - (sₓ + 1))
  rw [show sₓ + 1 + (tₓ - (sₓ + 1)) = tₓ by omega, cn_1 hsₓ] at h1ₓ
  omega
theorem cn_inv : ∀ tₓ kₓ : Nat, kₓ < cnR D dₓ tₓ → ∃ sₓ : Nat, sₓ < tₓ ∧ ¬ D (13 + 10 * sₓ + dₓ) = 0 ∧ cnR D dₓ sₓ = kₓ
  | 0, kₓ, hₓ => absurd hₓ (Nat.not_lt_zero _)
  | tₓ + 1, kₓ, hₓ => by
    by_cases cₓ : D (13 + 10 * tₓ + dₓ) = 0
    · rw [cn_0 cₓ] at hₓ
      obtain ⟨sₓ, h1ₓ, h2ₓ, h3ₓ⟩ := cn_inv tₓ kₓ hₓ
      exact ⟨sₓ, by omega, h2ₓ, h3ₓ⟩
    · rw [cn_1 cₓ] at hₓ
      by_cases eₓ : kₓ = cnR D dₓ tₓ
      · exact ⟨tₓ, Nat.lt_succ_self tₓ, cₓ, eₓ.symm⟩
      · obtain ⟨sₓ, h1ₓ, h2ₓ, h3ₓ⟩ := cn_inv tₓ kₓ (by omega)
        exact ⟨sₓ, by omega, h2ₓ, h3ₓ⟩
end
/-- what the class keeps of the roads -/
def RDC (M K : Nat) (ea eb : Nat → Nat) (σ : SS) : Prop := σ 158 4 = (M : Int) ∧ σ 39 8 = (K : Int) ∧ ∀ kₓ : Nat, kₓ < M → ∃ sₓ : Nat, σ 159 kₓ = (sₓ : Int) ∧ σ 40 (2 * sₓ) = ((ea kₓ : Nat) : Int) ∧ σ 40 (2 * sₓ + 1) = ((eb kₓ : Nat) : Int) ∧ ea kₓ < K ∧ eb kₓ < K
def LF (wo free bits : Int) (iₓ : Nat) : Prop := ¬ (iₓ : Int) = wo ∧ ((iₓ : Int) < free ∨ tb bits iₓ = false)
def LB (wo free bits : Int) (iₓ : Nat) : Prop := ¬ (iₓ : Int) = wo ∧ ((iₓ : Int) < free ∨ tb bits iₓ = true)
/-- the rows 'next' below aₓ road -/
def NXT (mₓ : Nat) (ea eb : Nat → Nat) (F B : Nat → Prop) (σ : SS) : Prop := ∀ xₓ yₓ : Nat, xₓ < 10 → yₓ < 32 → (tb (σ 160 xₓ) yₓ = true ↔ ∃ iₓ : Nat, iₓ < mₓ ∧ ((F iₓ ∧ ea iₓ = xₓ ∧ eb iₓ = yₓ) ∨ (B iₓ ∧ eb iₓ = xₓ ∧ ea iₓ = yₓ)))
section
variable {D : Nat → Int} {dₓ sₓ tₓ N kₓ M K iₓ aₓ bₓ : Nat} {σ σ' σ1 : SS} {ea eb : Nat → Nat} {F B : Nat → Prop} {rₓ free bits wo xₓ : Int} {nₓ : Nat}
theorem RDC_k (hₓ : RDC M K ea eb σ) (hkₓ : ∀ qₓ kₓ : Nat, qₓ < 160 → σ' qₓ kₓ = σ qₓ kₓ) : RDC M K ea eb σ' := by
  obtain ⟨h1ₓ, h0ₓ, h2ₓ⟩ := hₓ
  refine ⟨(hkₓ _ _ (by decide)).trans h1ₓ, (hkₓ _ _ (by decide)).trans h0ₓ, fun kₓ hk2ₓ => ?_⟩
  obtain ⟨sₓ, e1ₓ, e2ₓ, e3ₓ, e4ₓ⟩ := h2ₓ kₓ hk2ₓ
  exact ⟨sₓ, (hkₓ _ _ (by decide)).trans e1ₓ, (hkₓ _ _ (by decide)).trans e2ₓ, (hkₓ _ _ (by decide)).trans e3ₓ, e4ₓ⟩
theorem nx_add {yₓ : Nat} (hbₓ : bₓ < 31) (hxₓ : sₓ < 10) (hyₓ : yₓ < 32) : tb (upS σ 160 aₓ (mOr (σ 160 aₓ) (mShl 1 (bₓ : Int))) 160 sₓ) yₓ = true ↔ tb (σ 160 sₓ) yₓ = true ∨ (aₓ = sₓ ∧ bₓ = yₓ) := by
  by_cases eₓ : sₓ = aₓ
  · subst eₓ
    rw [upS_s, tb_or, tb_shl bₓ hbₓ yₓ hyₓ, Bool.or_eq_true, decide_eq_true_iff]
    exact ⟨fun qₓ => qₓ.elim Or.inl (fun qₓ => Or.inr ⟨rfl, qₓ.symm⟩), fun qₓ => qₓ.elim Or.inl (fun qₓ => Or.inr qₓ.2.symm)⟩
  · rw [upS_k eₓ]
    exact ⟨Or.inl, fun qₓ => qₓ.elim id (fun qₓ => absurd qₓ.1.symm eₓ)⟩
theorem nx_step (hₓ : NXT iₓ ea eb F B σ) (h1ₓ : ∀ xₓ yₓ : Nat, xₓ < 10 → yₓ < 32 → (tb (σ1 160 xₓ) yₓ = true ↔ tb (σ 160 xₓ) yₓ = true ∨ (F iₓ ∧ ea iₓ = xₓ ∧ eb iₓ = yₓ) ∨ (B iₓ ∧ eb iₓ = xₓ ∧ ea iₓ = yₓ))) : NXT (iₓ + 1) ea eb F B σ1 := fun xₓ yₓ hxₓ hyₓ => by
  rw [h1ₓ xₓ yₓ hxₓ hyₓ, hₓ xₓ yₓ hxₓ hyₓ]
  constructor
  · rintro (⟨jₓ, j1ₓ, j2ₓ⟩ | qₓ)
    · exact ⟨jₓ, by omega, j2ₓ⟩
    · exact ⟨iₓ, Nat.lt_succ_self iₓ, qₓ⟩
  · rintro ⟨jₓ, j1ₓ, j2ₓ⟩
    by_cases eₓ : jₓ = iₓ
    · subst eₓ; exact Or.inr j2ₓ
    · exact Or.inl ⟨jₓ, by omega, j2ₓ⟩
theorem c_lay27 (hKₓ : K ≤ 10) (hMₓ : M ≤ 12) : ∀ (nₓ iₓ : Nat) (σ : SS), iₓ ≤ M → RDC M K ea eb σ → NXT iₓ ea eb (LF wo free bits) (LB wo free bits) σ → j_X10_layRoads 158 nₓ 27 [free, bits, wo, (iₓ : Int)] σ = some (rₓ, σ') → NXT M ea eb (LF wo free bits) (LB wo free bits) σ' ∧ ∀ qₓ kₓ : Nat, qₓ ≠ 160 → σ' qₓ kₓ = σ qₓ kₓ := by
  intro nₓ
  induction nₓ with
  | zero => intro iₓ σ _ _ _ eₓ; exact none_el eₓ
  | succ nₓ ihₓ =>
    intro iₓ σ hiₓ hRₓ hNₓ eₓ
    rw [e_X10_layRoads_27] at eₓ
    unfold b_X10_layRoads_27 at eₓ
    rw [mRd_e, hRₓ.1] at eₓ
    by_cases cₓ : (M : Int) ≤ (iₓ : Int)
    · rw [mIf_pos cₓ, mRet_e] at eₓ
      obtain ⟨-, rfl⟩ := some_el eₓ
      have ei : iₓ = M := by omega
      subst ei
      exact ⟨hNₓ, fun _ _ _ => rfl⟩
    · obtain ⟨sₓ, e1ₓ, e2ₓ, e3ₓ, e4ₓ, e5ₓ⟩ := hRₓ.2.2 iₓ (by omega)
      have ki : ((iₓ : Nat) : Int).toNat = iₓ := by omega
      have ei : (iₓ : Int) + 1 = ((iₓ + 1 : Nat) : Int) := by omega
      rw [mIf_neg cₓ] at eₓ
      have next : ∀ σ1 : SS, (∀ qₓ kₓ : Nat, qₓ ≠ 160 → σ1 qₓ kₓ = σ qₓ kₓ) → (∀ xₓ yₓ : Nat, xₓ < 10 → yₓ < 32 → (tb (σ1 160 xₓ) yₓ = true ↔ tb (σ 160 xₓ) yₓ = true ∨ (LF wo free bits iₓ ∧ ea iₓ = xₓ ∧ eb iₓ = yₓ) ∨ (LB wo free bits iₓ ∧ eb iₓ = xₓ ∧ ea iₓ = yₓ))) → b_X10_layRoads_144 (j_X10_layRoads 158 nₓ) nₓ 158 free bits wo (iₓ : Int) σ1 = some (rₓ, σ') → NXT M ea eb (LF wo free bits) (LB wo free bits) σ' ∧ ∀ qₓ kₓ : Nat, qₓ ≠ 160 → σ' qₓ kₓ = σ qₓ kₓ := fun σ1 g1ₓ g2ₓ qₓ => by
        unfold b_X10_layRoads_144 at qₓ
        rw [mLet_e, ei] at qₓ
        obtain ⟨w1ₓ, w2ₓ⟩ := ihₓ (iₓ + 1) σ1 (by omega) (RDC_k hRₓ (fun qₓ kₓ hqₓ => g1ₓ qₓ kₓ (by omega))) (nx_step hNₓ g2ₓ) qₓ
        exact ⟨w1ₓ, fun qₓ kₓ hqₓ => (w2ₓ qₓ kₓ hqₓ).trans (g1ₓ qₓ kₓ hqₓ)⟩
      by_cases cw : (iₓ : Int) = wo
      · rw [mIf_neg (fun qₓ => qₓ cw)] at eₓ
        exact next σ (fun _ _ _ => rfl) (fun xₓ yₓ hxₓ hyₓ => ⟨Or.inl, fun qₓ => qₓ.elim id (fun qₓ => qₓ.elim (fun qₓ => absurd cw qₓ.1.1) (fun qₓ => absurd cw qₓ.1.1))⟩) eₓ
      · rw [mIf_pos cw, mRd_e, ki, e1ₓ, mLet_e, mRd_e, show (2 * (sₓ : Int)).toNat = 2 * sₓ by omega, e2ₓ, mRd_e, e1ₓ, mLet_e, mLet_e, mRd_e, show (2 * (sₓ : Int) + 1).toNat = 2 * sₓ + 1 by omega, e3ₓ, mLet_e, mLet_e] at eₓ
        have ka : (((ea iₓ : Nat) : Int)).toNat = ea iₓ := by omega
        have kb : (((eb iₓ : Nat) : Int)).toNat = eb iₓ := by omega
        have hq0ₓ := bitQ (xₓ := bits) (kₓ := iₓ) (by omega)
        have fw : ∀ σ0 : SS, ∀ xₓ yₓ : Nat, xₓ < 10 → yₓ < 32 → (tb (upS σ0 160 (ea iₓ) (mOr (σ0 160 (ea iₓ)) (mShl 1 ((eb iₓ : Nat) : Int))) 160 xₓ) yₓ = true ↔ tb (σ0 160 xₓ) yₓ = true ∨ (ea iₓ = xₓ ∧ eb iₓ = yₓ)) := fun σ0 xₓ yₓ hxₓ hyₓ => nx_add (by omega) hxₓ hyₓ
        have bw : ∀ σ0 : SS, ∀ xₓ yₓ : Nat, xₓ < 10 → yₓ < 32 → (tb (upS σ0 160 (eb iₓ) (mOr (σ0 160 (eb iₓ)) (mShl 1 ((ea iₓ : Nat) : Int))) 160 xₓ) yₓ = true ↔ tb (σ0 160 xₓ) yₓ = true ∨ (eb iₓ = xₓ ∧ ea iₓ = yₓ)) := fun σ0 xₓ yₓ hxₓ hyₓ => nx_add (by omega) hxₓ hyₓ
        by_cases cf : (iₓ : Int) < free
        · have hFₓ : LF wo free bits iₓ := ⟨cw, Or.inl cf⟩
          have hBₓ : LB wo free bits iₓ := ⟨cw, Or.inl cf⟩
          rw [mIf_pos cf] at eₓ
          unfold b_X10_layRoads_104 b_X10_layRoads_118 b_X10_layRoads_130 at eₓ
          rw [mRd_e, ka, mLet_e, mLet_e, mWr_e, mIf_pos cf, mRd_e, kb, mLet_e, mLet_e, mWr_e] at eₓ
          refine next _ (fun qₓ kₓ hqₓ => (upS_q hqₓ).trans (upS_q hqₓ)) (fun xₓ yₓ hxₓ hyₓ => ?_) eₓ
          rw [bw _ xₓ yₓ hxₓ hyₓ, fw _ xₓ yₓ hxₓ hyₓ]
          exact ⟨fun qₓ => qₓ.elim (fun qₓ => qₓ.elim Or.inl (fun qₓ => Or.inr (Or.inl ⟨hFₓ, qₓ⟩))) (fun qₓ => Or.inr (Or.inr ⟨hBₓ, qₓ⟩)), fun qₓ => qₓ.elim (fun qₓ => Or.inl (Or.inl qₓ)) (fun qₓ => qₓ.elim (fun qₓ => Or.inl (Or.inr qₓ.2)) (fun qₓ => Or.inr qₓ.2))⟩
        · rw [mIf_neg cf] at eₓ
          cases htₓ : tb bits iₓ with
          | true =>
            have nF : ¬ LF wo free bits iₓ := fun qₓ => qₓ.2.elim cf (fun qₓ => by rw [htₓ] at qₓ; cases qₓ)
            have hBₓ : LB wo free bits iₓ := ⟨cw, Or.inr htₓ⟩
            rw [htₓ, if_pos rfl] at hq0ₓ
            rw [hq0ₓ, mIf_pos (by decide)] at eₓ
            unfold b_X10_layRoads_118 b_X10_layRoads_130 at eₓ
            rw [mIf_neg cf, mIf_neg (fun qₓ => qₓ rfl), mRd_e, kb, mLet_e, mLet_e, mWr_e] at eₓ
            refine next _ (fun qₓ kₓ hqₓ => upS_q hqₓ) (fun xₓ yₓ hxₓ hyₓ => ?_) eₓ
            rw [bw _ xₓ yₓ hxₓ hyₓ]
            exact ⟨fun qₓ => qₓ.elim Or.inl (fun qₓ => Or.inr (Or.inr ⟨hBₓ, qₓ⟩)), fun qₓ => qₓ.elim Or.inl (fun qₓ => qₓ.elim (fun qₓ => absurd qₓ.1 nF) (fun qₓ => Or.inr qₓ.2))⟩
          | false =>
            have hFₓ : LF wo free bits iₓ := ⟨cw, Or.inr htₓ⟩
            have nB : ¬ LB wo free bits iₓ := fun qₓ => qₓ.2.elim cf (fun qₓ => by rw [htₓ] at qₓ; cases qₓ)
            rw [htₓ, if_neg (by decide)] at hq0ₓ
            rw [hq0ₓ, mIf_neg (fun qₓ => qₓ rfl)] at eₓ
            unfold b_X10_layRoads_104 b_X10_layRoads_118 at eₓ
            rw [mRd_e, ka, mLet_e, mLet_e, mWr_e, mIf_neg cf, mIf_pos (by decide)] at eₓ
            refine next _ (fun qₓ kₓ hqₓ => upS_q hqₓ) (fun xₓ yₓ hxₓ hyₓ => ?_) eₓ
            rw [fw _ xₓ yₓ hxₓ hyₓ]
            exact ⟨fun qₓ => qₓ.elim Or.inl (fun qₓ => Or.inr (Or.inl ⟨hFₓ, qₓ⟩)), fun qₓ => qₓ.elim Or.inl (fun qₓ => qₓ.elim (fun qₓ => Or.inr qₓ.2) (fun qₓ => absurd qₓ.1 nB))⟩
theorem c_lay3 (hKₓ : K ≤ 10) (hMₓ : M ≤ 12) : ∀ (nₓ xₓ : Nat) (σ : SS), xₓ ≤ 10 → (∀ cₓ : Nat, cₓ < xₓ → σ 160 cₓ = 0) → RDC M K ea eb σ → j_X10_layRoads 158 nₓ 3 [free, bits, wo, (xₓ : Int)] σ = some (rₓ, σ') → NXT M ea eb (LF wo free bits) (LB wo free bits) σ' ∧ ∀ qₓ kₓ : Nat, qₓ ≠ 160 → σ' qₓ kₓ = σ qₓ kₓ := by
  intro nₓ
  induction nₓ with
  | zero => intro xₓ σ _ _ _ eₓ; exact none_el eₓ
  | succ nₓ ihₓ =>
    intro xₓ σ hxₓ hcₓ hRₓ eₓ
    rw [e_X10_layRoads_3] at eₓ
    unfold b_X10_layRoads_3 at eₓ
    by_cases cₓ : (10 : Int) ≤ (xₓ : Int)
    · rw [mIf_pos cₓ] at eₓ
      exact c_lay27 hKₓ hMₓ nₓ 0 σ (Nat.zero_le _) hRₓ (fun xₓ yₓ hxₓ hyₓ => by
        rw [hcₓ xₓ (by omega), tb_0]
        exact ⟨fun qₓ => absurd qₓ (by decide), fun ⟨jₓ, j1ₓ, _⟩ => absurd j1ₓ (Nat.not_lt_zero _)⟩) eₓ
    · rw [mIf_neg cₓ, mWr_e, mLet_e, show ((xₓ : Nat) : Int).toNat = xₓ by omega, show (xₓ : Int) + 1 = ((xₓ + 1 : Nat) : Int) by omega] at eₓ
      obtain ⟨w1ₓ, w2ₓ⟩ := ihₓ (xₓ + 1) _ (by omega) (fun cₓ hc2ₓ => by
        by_cases ec : cₓ = xₓ
        · subst ec; exact upS_s
        · rw [upS_k ec]; exact hcₓ cₓ (by omega)) (RDC_k hRₓ (fun qₓ kₓ hqₓ => upS_q (by omega))) eₓ
      exact ⟨w1ₓ, fun qₓ kₓ hqₓ => (w2ₓ qₓ kₓ hqₓ).trans (upS_q hqₓ)⟩
theorem c_lay (hKₓ : K ≤ 10) (hMₓ : M ≤ 12) (hRₓ : RDC M K ea eb σ) (eₓ : m_X10_layRoads nₓ 158 free bits wo σ = some (rₓ, σ')) : NXT M ea eb (LF wo free bits) (LB wo free bits) σ' ∧ ∀ qₓ kₓ : Nat, qₓ ≠ 160 → σ' qₓ kₓ = σ qₓ kₓ := by
  unfold m_X10_layRoads at eₓ
  exact c_lay3 hKₓ hMₓ nₓ 0 σ (by decide) (fun cₓ hcₓ => absurd hcₓ (Nat.not_lt_zero _)) hRₓ eₓ
/-- howₓ many of the bits below aₓ place are set -/
def cnB (vₓ : Int) : Nat → Nat
  | 0 => 0
  | kₓ + 1 => cnB vₓ kₓ + if tb vₓ kₓ = true then 1 else 0
theorem cnB_le {vₓ : Int} : ∀ kₓ : Nat, cnB vₓ kₓ ≤ kₓ
  | 0 => Nat.le_refl 0
  | kₓ + 1 => by
    have hₓ := cnB_le (vₓ := vₓ) kₓ
    show cnB vₓ kₓ + (if tb vₓ kₓ = true then 1 else 0) ≤ kₓ + 1
    by_cases cₓ : tb vₓ kₓ = true
    · rw [if_pos cₓ]; omega
    · rw [if_neg cₓ]; omega
theorem cnB_mono {vₓ wₓ : Int} (hₓ : ∀ cₓ : Nat, tb vₓ cₓ = true → tb wₓ cₓ = true) : ∀ kₓ : Nat, cnB vₓ kₓ ≤ cnB wₓ kₓ
  | 0 => Nat.le_refl 0
  | kₓ + 1 => by
    have gₓ := cnB_mono hₓ kₓ
    show cnB vₓ kₓ + (if tb vₓ kₓ = true then 1 else 0) ≤ cnB wₓ kₓ + (if tb wₓ kₓ = true then 1 else 0)
    by_cases cₓ : tb vₓ kₓ = true
    · rw [if_pos cₓ, if_pos (hₓ kₓ cₓ)]; omega
    · rw [if_neg cₓ]; omega
theorem cnB_more {vₓ wₓ : Int} {cₓ : Nat} (hₓ : ∀ cₓ : Nat, tb vₓ cₓ = true → tb wₓ cₓ = true) (h1ₓ : ¬ tb vₓ cₓ = true) (h2ₓ : tb wₓ cₓ = true) : ∀ kₓ : Nat, cₓ < kₓ → cnB vₓ kₓ + 1 ≤ cnB wₓ kₓ
  | 0, hcₓ => absurd hcₓ (Nat.not_lt_zero _)
  | kₓ + 1, hcₓ => by
    show cnB vₓ kₓ + (if tb vₓ kₓ = true then 1 else 0) + 1 ≤ cnB wₓ kₓ + (if tb wₓ kₓ = true then 1 else 0)
    by_cases eₓ : cₓ = kₓ
    · subst eₓ
      have gₓ := cnB_mono hₓ cₓ
      rw [if_neg h1ₓ, if_pos h2ₓ]; omega
    · have gₓ := cnB_more hₓ h1ₓ h2ₓ kₓ (by omega)
      by_cases c2ₓ : tb vₓ kₓ = true
      · rw [if_pos c2ₓ, if_pos (hₓ kₓ c2ₓ)]; omega
      · rw [if_neg c2ₓ]; omega
theorem tb_1023 : ∀ hₓ : Nat, hₓ < 32 → tb 1023 hₓ = decide (hₓ < 10) := by decide +kernel
/-- what is found behindₓ the fresh ones -/
theorem c_from {fₓ : Nat} (hKₓ : K ≤ 10) (h8ₓ : σ 39 8 = (K : Int)) (hEₓ : ∀ iₓ : Nat, iₓ < M → ea iₓ < K ∧ eb iₓ < K) (hNₓ : NXT M ea eb F B σ) (hfₓ : fₓ < K) : ∀ nₓ : Nat, (∀ (re fr : Int) (iₓ : Nat), (-2147483648 ≤ fr ∧ fr ≤ 2147483647) → (∀ yₓ : Nat, yₓ < 32 → tb re yₓ = true → yₓ < K ∧ RC M ea eb F B fₓ yₓ) → (∀ yₓ : Nat, yₓ < 32 → tb fr yₓ = true → tb re yₓ = true) → tb re fₓ = true → (∀ cₓ : Nat, cₓ < 10 → tb re cₓ = true → tb fr cₓ = true ∨ ∀ yₓ : Nat, yₓ < 32 → tb (σ 160 cₓ) yₓ = true → tb re yₓ = true) → (fr ≠ 0 → iₓ + 1 ≤ cnB re 10) → j_X10_cornersFrom 158 nₓ 9 [re, fr, (iₓ : Int)] σ = some (rₓ, σ') → σ' = σ ∧ ∀ yₓ : Nat, yₓ < 32 → (tb rₓ yₓ = true ↔ yₓ < K ∧ RC M ea eb F B fₓ yₓ)) ∧ ∀ (re fr fo : Int) (iₓ jₓ : Nat), (∀ yₓ : Nat, yₓ < 32 → tb re yₓ = true → yₓ < K ∧ RC M ea eb F B fₓ yₓ) → (∀ yₓ : Nat, yₓ < 32 → tb fr yₓ = true → tb re yₓ = true) → tb re fₓ = true → (∀ cₓ : Nat, cₓ < 10 → tb re cₓ = true → tb fr cₓ = true ∨ ∀ yₓ : Nat, yₓ < 32 → tb (σ 160 cₓ) yₓ = true → tb re yₓ = true) → iₓ + 1 ≤ cnB re 10 → jₓ ≤ K → (∀ yₓ : Nat, yₓ < 32 → (tb fo yₓ = true ↔ ∃ cₓ : Nat, cₓ < jₓ ∧ tb fr cₓ = true ∧ tb (σ 160 cₓ) yₓ = true)) → j_X10_cornersFrom 158 nₓ 26 [re, fr, (iₓ : Int), fo, (jₓ : Int)] σ = some (rₓ, σ') → σ' = σ ∧ ∀ yₓ : Nat, yₓ < 32 → (tb rₓ yₓ = true ↔ yₓ < K ∧ RC M ea eb F B fₓ yₓ) := by
  intro nₓ
  induction nₓ with
  | zero => exact ⟨fun _ _ _ _ _ _ _ _ _ eₓ => none_el eₓ, fun _ _ _ _ _ _ _ _ _ _ _ _ eₓ => none_el eₓ⟩
  | succ nₓ ihₓ =>
    refine ⟨fun re fr iₓ hfrₓ hSₓ hFrₓ hf1ₓ hCₓ hcnₓ eₓ => ?_, fun re fr fo iₓ jₓ hSₓ hFrₓ hf1ₓ hCₓ hcnₓ hjₓ hfoₓ eₓ => ?_⟩
    · rw [e_X10_cornersFrom_9] at eₓ
      unfold b_X10_cornersFrom_9 b_X10_cornersFrom_87 at eₓ
      have stop : fr = 0 → mRet re σ = some (rₓ, σ') → σ' = σ ∧ ∀ yₓ : Nat, yₓ < 32 → (tb rₓ yₓ = true ↔ yₓ < K ∧ RC M ea eb F B fₓ yₓ) := fun h0ₓ qₓ => by
        rw [mRet_e] at qₓ
        obtain ⟨rfl, rfl⟩ := some_el qₓ
        refine ⟨rfl, fun yₓ hyₓ => ⟨hSₓ yₓ hyₓ, fun ⟨y1ₓ, y2ₓ⟩ => ?_⟩⟩
        have cl : ∀ cₓ yₓ : Nat, cₓ < 10 → yₓ < 32 → tb rₓ cₓ = true → tb (σ' 160 cₓ) yₓ = true → tb rₓ yₓ = true := fun cₓ yₓ hcₓ hyₓ h1ₓ h2ₓ => by
          rcases hCₓ cₓ hcₓ h1ₓ with qₓ | qₓ
          · rw [h0ₓ, tb_0] at qₓ; cases qₓ
          · exact qₓ yₓ hyₓ h2ₓ
        refine y2ₓ (fun vₓ => tb rₓ vₓ = true) (fun iₓ hiₓ => ⟨fun hFₓ h1ₓ => ?_, fun hBₓ h1ₓ => ?_⟩) hf1ₓ
        · have := hEₓ iₓ hiₓ
          exact cl (ea iₓ) (eb iₓ) (by omega) (by omega) h1ₓ ((hNₓ _ _ (by omega) (by omega)).mpr ⟨iₓ, hiₓ, Or.inl ⟨hFₓ, rfl, rfl⟩⟩)
        · have := hEₓ iₓ hiₓ
          exact cl (eb iₓ) (ea iₓ) (by omega) (by omega) h1ₓ ((hNₓ _ _ (by omega) (by omega)).mpr ⟨iₓ, hiₓ, Or.inr ⟨hBₓ, rfl, rfl⟩⟩)
      by_cases c0ₓ : fr = 0
      · by_cases cₓ : (10 : Int) ≤ (iₓ : Int)
        · rw [mIf_pos cₓ] at eₓ; exact stop c0ₓ eₓ
        · rw [mIf_neg cₓ, mIf_pos c0ₓ] at eₓ; exact stop c0ₓ eₓ
      · have hcₓ := hcnₓ c0ₓ
        have hbₓ := cnB_le (vₓ := re) 10
        rw [mIf_neg (show ¬ (10 : Int) ≤ (iₓ : Int) by omega), mIf_neg c0ₓ] at eₓ
        exact ihₓ.2 re fr 0 iₓ 0 hSₓ hFrₓ hf1ₓ hCₓ hcₓ (Nat.zero_le _) (fun yₓ hyₓ => by
          rw [tb_0]; exact ⟨fun qₓ => absurd qₓ (by decide), fun ⟨cₓ, c1ₓ, _⟩ => absurd c1ₓ (Nat.not_lt_zero _)⟩) eₓ
    · rw [e_X10_cornersFrom_26] at eₓ
      unfold b_X10_cornersFrom_26 b_X10_cornersFrom_59 at eₓ
      rw [mRd_e, h8ₓ] at eₓ
      by_cases cₓ : (K : Int) ≤ (jₓ : Int)
      · have ej : jₓ = K := by omega
        subst ej
        rw [mIf_pos cₓ, mLet_e, mLet_e, mLet_e, mLet_e, mLet_e, show (iₓ : Int) + 1 = ((iₓ + 1 : Nat) : Int) by omega] at eₓ
        have hfr2ₓ : ∀ yₓ : Nat, yₓ < 32 → (tb (mAnd (mAnd fo (mXor re (-1))) 1023) yₓ = true ↔ tb fo yₓ = true ∧ ¬ tb re yₓ = true ∧ yₓ < 10) := fun yₓ hyₓ => by
          rw [tb_and, tb_and, tb_not hyₓ, tb_1023 yₓ hyₓ, Bool.and_eq_true, Bool.and_eq_true, decide_eq_true_iff]
          cases tb re yₓ with
          | true => exact ⟨fun qₓ => absurd qₓ.1.2 (by decide), fun qₓ => absurd rfl qₓ.2.1⟩
          | false => exact ⟨fun qₓ => ⟨qₓ.1.1, by decide, qₓ.2⟩, fun qₓ => ⟨⟨qₓ.1, rfl⟩, qₓ.2.2⟩⟩
        have hfsₓ : ∀ yₓ : Nat, yₓ < 32 → tb fo yₓ = true → yₓ < jₓ ∧ RC M ea eb F B fₓ yₓ := fun yₓ hyₓ h1ₓ => by
          obtain ⟨cₓ, c1ₓ, c2ₓ, c3ₓ⟩ := (hfoₓ yₓ hyₓ).mp h1ₓ
          have hc10ₓ : cₓ < 10 := by omega
          obtain ⟨-, g2ₓ⟩ := hSₓ cₓ (by omega) (hFrₓ cₓ (by omega) c2ₓ)
          obtain ⟨i'ₓ, i1ₓ, i2ₓ⟩ := (hNₓ cₓ yₓ hc10ₓ hyₓ).mp c3ₓ
          have hEiₓ := hEₓ i'ₓ i1ₓ
          rcases i2ₓ with ⟨q1ₓ, q2ₓ, q3ₓ⟩ | ⟨q1ₓ, q2ₓ, q3ₓ⟩
          · subst q2ₓ; subst q3ₓ
            exact ⟨hEiₓ.2, RC_tr g2ₓ (RC_f i1ₓ q1ₓ)⟩
          · subst q2ₓ; subst q3ₓ
            exact ⟨hEiₓ.1, RC_tr g2ₓ (RC_b i1ₓ q1ₓ)⟩
        have hroₓ : ∀ yₓ : Nat, tb (mOr re fo) yₓ = true ↔ tb re yₓ = true ∨ tb fo yₓ = true := fun yₓ => by rw [tb_or, Bool.or_eq_true]
        refine ihₓ.1 (mOr re fo) _ (iₓ + 1) mAnd_rg (fun yₓ hyₓ h1ₓ => ?_) (fun yₓ hyₓ h1ₓ => ?_) ?_ (fun cₓ hcₓ h1ₓ => ?_) (fun h0ₓ => ?_) eₓ
        · rcases (hroₓ yₓ).mp h1ₓ with qₓ | qₓ
          · exact hSₓ yₓ hyₓ qₓ
          · exact hfsₓ yₓ hyₓ qₓ
        · exact (hroₓ yₓ).mpr (Or.inr ((hfr2ₓ yₓ hyₓ).mp h1ₓ).1)
        · exact (hroₓ fₓ).mpr (Or.inl hf1ₓ)
        · by_cases cr : tb re cₓ = true
          · refine Or.inr (fun yₓ hyₓ h2ₓ => (hroₓ yₓ).mpr ?_)
            rcases hCₓ cₓ hcₓ cr with qₓ | qₓ
            · have hcjₓ : cₓ < jₓ := (hSₓ cₓ (by omega) cr).1
              exact Or.inr ((hfoₓ yₓ hyₓ).mpr ⟨cₓ, hcjₓ, qₓ, h2ₓ⟩)
            · exact Or.inl (qₓ yₓ hyₓ h2ₓ)
          · have hfcₓ : tb fo cₓ = true := ((hroₓ cₓ).mp h1ₓ).resolve_left cr
            exact Or.inl ((hfr2ₓ cₓ (by omega)).mpr ⟨hfcₓ, cr, hcₓ⟩)
        · obtain ⟨hₓ, hhₓ, hbₓ⟩ := tb_some mAnd_rg h0ₓ
          obtain ⟨b1ₓ, b2ₓ, b3ₓ⟩ := (hfr2ₓ hₓ hhₓ).mp hbₓ
          have gₓ := cnB_more (vₓ := re) (wₓ := mOr re fo) (fun cₓ qₓ => (hroₓ cₓ).mpr (Or.inl qₓ)) b2ₓ ((hroₓ hₓ).mpr (Or.inr b1ₓ)) 10 b3ₓ
          omega
      · have kj : ((jₓ : Nat) : Int).toNat = jₓ := by omega
        have ej : (jₓ : Int) + 1 = ((jₓ + 1 : Nat) : Int) := by omega
        rw [mIf_neg cₓ, mLet_e, mLet_e] at eₓ
        by_cases cb : mAnd (mShr fr (jₓ : Int)) 1 = 0
        · have hbₓ := (bitQ0 (by omega)).mp cb
          rw [mIf_pos cb, mLet_e, ej] at eₓ
          refine ihₓ.2 re fr fo iₓ (jₓ + 1) hSₓ hFrₓ hf1ₓ hCₓ hcnₓ (by omega) (fun yₓ hyₓ => ?_) eₓ
          rw [hfoₓ yₓ hyₓ]
          constructor
          · rintro ⟨cₓ, c1ₓ, c2ₓ⟩
            exact ⟨cₓ, by omega, c2ₓ⟩
          · rintro ⟨cₓ, c1ₓ, c2ₓ, c3ₓ⟩
            by_cases ec : cₓ = jₓ
            · subst ec; rw [hbₓ] at c2ₓ; cases c2ₓ
            · exact ⟨cₓ, by omega, c2ₓ, c3ₓ⟩
        · have hbₓ : tb fr jₓ = true := by
            cases hₓ : tb fr jₓ with
            | true => rfl
            | false => exact absurd ((bitQ0 (by omega)).mpr hₓ) cb
          rw [mIf_neg cb, mRd_e, kj, mLet_e, mLet_e, ej] at eₓ
          refine ihₓ.2 re fr _ iₓ (jₓ + 1) hSₓ hFrₓ hf1ₓ hCₓ hcnₓ (by omega) (fun yₓ hyₓ => ?_) eₓ
          rw [tb_or, Bool.or_eq_true, hfoₓ yₓ hyₓ]
          constructor
          · rintro (⟨cₓ, c1ₓ, c2ₓ⟩ | qₓ)
            · exact ⟨cₓ, by omega, c2ₓ⟩
            · exact ⟨jₓ, Nat.lt_succ_self jₓ, hbₓ, qₓ⟩
          · rintro ⟨cₓ, c1ₓ, c2ₓ, c3ₓ⟩
            by_cases ec : cₓ = jₓ
            · subst ec; exact Or.inr c3ₓ
            · exact Or.inl ⟨cₓ, by omega, c2ₓ, c3ₓ⟩
theorem c_corners {fₓ : Nat} (hKₓ : K ≤ 10) (h8ₓ : σ 39 8 = (K : Int)) (hEₓ : ∀ iₓ : Nat, iₓ < M → ea iₓ < K ∧ eb iₓ < K) (hNₓ : NXT M ea eb F B σ) (hfₓ : fₓ < K) (eₓ : m_X10_cornersFrom nₓ 158 (fₓ : Int) σ = some (rₓ, σ')) : σ' = σ ∧ ∀ yₓ : Nat, yₓ < 32 → (tb rₓ yₓ = true ↔ yₓ < K ∧ RC M ea eb F B fₓ yₓ) := by
  unfold m_X10_cornersFrom at eₓ
  rw [mLet_e] at eₓ
  have hbₓ : ∀ yₓ : Nat, yₓ < 32 → (tb (mShl 1 (fₓ : Int)) yₓ = true ↔ yₓ = fₓ) := fun yₓ hyₓ => by
    rw [tb_shl fₓ (by omega) yₓ hyₓ, decide_eq_true_iff]
  have h1ₓ : tb (mShl 1 (fₓ : Int)) fₓ = true := (hbₓ fₓ (by omega)).mpr rfl
  refine (c_from hKₓ h8ₓ hEₓ hNₓ hfₓ nₓ).1 _ _ 0 mShl_rg (fun yₓ hyₓ qₓ => ?_) (fun yₓ hyₓ qₓ => qₓ) h1ₓ (fun cₓ hcₓ qₓ => Or.inl qₓ) (fun _ => ?_) eₓ
  · have ey := (hbₓ yₓ hyₓ).mp qₓ
    subst ey
    exact ⟨hfₓ, RC_rf⟩
  · have gₓ := cnB_more (vₓ := 0) (wₓ := mShl 1 (fₓ : Int)) (cₓ := fₓ) (fun cₓ qₓ => by rw [tb_0] at qₓ; cases qₓ) (by rw [tb_0]; decide) h1ₓ 10 (by omega)
    omega
theorem c_take0 (hNₓ : N ≤ 12) (hSₓ : ∀ sₓ : Nat, sₓ < N → σ 42 (7 * sₓ + dₓ) = D (13 + 10 * sₓ + dₓ)) (h9ₓ : σ 39 9 = (N : Int)) : ∀ (nₓ sₓ : Nat) (σ1 : SS), sₓ ≤ N → (∀ qₓ kₓ : Nat, ¬ (qₓ = 158 ∧ kₓ = 4) → qₓ ≠ 159 → σ1 qₓ kₓ = σ qₓ kₓ) → σ1 158 4 = ((cnR D dₓ sₓ : Nat) : Int) → (∀ tₓ : Nat, tₓ < sₓ → ¬ D (13 + 10 * tₓ + dₓ) = 0 → σ1 159 (cnR D dₓ tₓ) = (tₓ : Int)) → j_X10_takeDay 158 nₓ 7 [(dₓ : Int), (sₓ : Int)] σ1 = some (rₓ, σ') → (∀ qₓ kₓ : Nat, ¬ (qₓ = 158 ∧ kₓ = 4) → qₓ ≠ 159 → σ' qₓ kₓ = σ qₓ kₓ) ∧ σ' 158 4 = ((cnR D dₓ N : Nat) : Int) ∧ ∀ tₓ : Nat, tₓ < N → ¬ D (13 + 10 * tₓ + dₓ) = 0 → σ' 159 (cnR D dₓ tₓ) = (tₓ : Int) := by
  intro nₓ
  induction nₓ with
  | zero => intro sₓ σ1 _ _ _ _ eₓ; exact none_el eₓ
  | succ nₓ ihₓ =>
    intro sₓ σ1 hsₓ hFₓ h4ₓ hRₓ eₓ
    rw [e_X10_takeDay_7] at eₓ
    unfold b_X10_takeDay_7 b_X10_takeDay_65 b_X10_takeDay_59 at eₓ
    rw [mRd_e, hFₓ 39 9 (by omega) (by decide), h9ₓ] at eₓ
    by_cases cₓ : (N : Int) ≤ (sₓ : Int)
    · rw [mIf_pos cₓ, mRet_e] at eₓ
      obtain ⟨-, rfl⟩ := some_el eₓ
      have esₓ : sₓ = N := by omega
      subst esₓ
      exact ⟨hFₓ, h4ₓ, hRₓ⟩
    · have hleₓ := cn_le (D := D) (dₓ := dₓ) sₓ
      have esₓ : (sₓ : Int) + 1 = ((sₓ + 1 : Nat) : Int) := by omega
      rw [mIf_neg cₓ, mRd_e, h4ₓ, mIf_neg (show ¬ (12 : Int) ≤ ((cnR D dₓ sₓ : Nat) : Int) by omega)] at eₓ
      unfold m_X7_signOn at eₓ
      rw [mLet_e, mLet_e, mRd_e, mRet_e, mCall_s, show (7 * (sₓ : Int) + (dₓ : Int)).toNat = 7 * sₓ + dₓ by omega, show σ1 (39 + 3) (7 * sₓ + dₓ) = D (13 + 10 * sₓ + dₓ) from (hFₓ 42 _ (by omega) (by decide)).trans (hSₓ sₓ (by omega))] at eₓ
      by_cases cz : D (13 + 10 * sₓ + dₓ) = 0
      · rw [mIf_pos cz, mLet_e, esₓ] at eₓ
        refine ihₓ (sₓ + 1) σ1 (by omega) hFₓ (by rw [cn_0 cz]; exact h4ₓ) (fun tₓ htₓ hzₓ => ?_) eₓ
        by_cases etₓ : tₓ = sₓ
        · subst etₓ; exact absurd cz hzₓ
        · exact hRₓ tₓ (by omega) hzₓ
      · rw [mIf_neg cz, mRd_e, h4ₓ, mWr_e, mRd_e, show (((cnR D dₓ sₓ : Nat) : Int)).toNat = cnR D dₓ sₓ by omega, upS_q (by decide), h4ₓ, mLet_e, mWr_e, mLet_e, esₓ] at eₓ
        refine ihₓ (sₓ + 1) _ (by omega) (fun qₓ kₓ h1ₓ h2ₓ => (upS_n h1ₓ).trans ((upS_q h2ₓ).trans (hFₓ qₓ kₓ h1ₓ h2ₓ))) (by rw [upS_s, cn_1 cz]; omega) (fun tₓ htₓ hzₓ => ?_) eₓ
        rw [upS_q (by decide)]
        by_cases etₓ : tₓ = sₓ
        · subst etₓ; exact upS_s
        · have := cn_lt (D := D) (dₓ := dₓ) hzₓ (show tₓ < sₓ by omega)
          rw [upS_k (by omega)]; exact hRₓ tₓ (by omega) hzₓ
/-- the roads taken -/
theorem c_take (hNₓ : N ≤ 12) (hKₓ : K ≤ 10) (h8ₓ : σ 39 8 = (K : Int)) (h9ₓ : σ 39 9 = (N : Int)) (hCₓ : ∀ sₓ : Nat, sₓ < N → COs D σ sₓ) (hRaₓ : ∀ sₓ : Nat, sₓ < N → StR D K sₓ) (hdₓ : dₓ < 7) (eₓ : m_X10_takeDay nₓ 158 (dₓ : Int) σ = some (rₓ, σ')) : (∀ qₓ kₓ : Nat, ¬ (qₓ = 158 ∧ kₓ = 4) → qₓ ≠ 159 → σ' qₓ kₓ = σ qₓ kₓ) ∧ ∃ R : Nat → Nat, (∀ kₓ : Nat, kₓ < cnR D dₓ N → R kₓ < N ∧ ¬ D (13 + 10 * R kₓ + dₓ) = 0 ∧ cnR D dₓ (R kₓ) = kₓ) ∧ RDC (cnR D dₓ N) K (fun kₓ => (D (10 + 10 * R kₓ)).toNat) (fun kₓ => (D (11 + 10 * R kₓ)).toNat) σ' := by
  unfold m_X10_takeDay at eₓ
  rw [mWr_e] at eₓ
  obtain ⟨w1ₓ, w2ₓ, w3ₓ⟩ := c_take0 (D := D) hNₓ (fun sₓ hsₓ => (hCₓ sₓ hsₓ).1.2.2.2.1 dₓ hdₓ) h9ₓ nₓ 0 _ (Nat.zero_le _) (fun qₓ kₓ h1ₓ h2ₓ => upS_n h1ₓ) upS_s (fun tₓ htₓ => absurd htₓ (Nat.not_lt_zero _)) eₓ
  refine ⟨w1ₓ, fun kₓ => (σ' 159 kₓ).toNat, fun kₓ hkₓ => ?_, w2ₓ, (w1ₓ 39 8 (by omega) (by decide)).trans h8ₓ, fun kₓ hkₓ => ?_⟩
  · obtain ⟨sₓ, s1ₓ, s2ₓ, s3ₓ⟩ := cn_inv N kₓ hkₓ
    have e1ₓ : (σ' 159 kₓ).toNat = sₓ := by rw [← s3ₓ, w3ₓ sₓ s1ₓ s2ₓ]; omega
    show (σ' 159 kₓ).toNat < N ∧ ¬ D (13 + 10 * (σ' 159 kₓ).toNat + dₓ) = 0 ∧ cnR D dₓ (σ' 159 kₓ).toNat = kₓ
    rw [e1ₓ]; exact ⟨s1ₓ, s2ₓ, s3ₓ⟩
  · obtain ⟨sₓ, s1ₓ, s2ₓ, s3ₓ⟩ := cn_inv N kₓ hkₓ
    have e0ₓ : σ' 159 kₓ = (sₓ : Int) := by rw [← s3ₓ, w3ₓ sₓ s1ₓ s2ₓ]
    have e1ₓ : (σ' 159 kₓ).toNat = sₓ := by rw [e0ₓ]; omega
    obtain ⟨r1ₓ, r2ₓ, r3ₓ, r4ₓ, -⟩ := hRaₓ sₓ s1ₓ
    obtain ⟨z1ₓ, z2ₓ, -⟩ := (hCₓ sₓ s1ₓ).1
    refine ⟨sₓ, e0ₓ, ?_, ?_, ?_, ?_⟩
    · show σ' 40 (2 * sₓ) = (((D (10 + 10 * (σ' 159 kₓ).toNat)).toNat : Nat) : Int)
      rw [e1ₓ, w1ₓ 40 _ (by omega) (by decide), show σ 40 (2 * sₓ) = D (10 + 10 * sₓ) from z1ₓ]; omega
    · show σ' 40 (2 * sₓ + 1) = (((D (11 + 10 * (σ' 159 kₓ).toNat)).toNat : Nat) : Int)
      rw [e1ₓ, w1ₓ 40 _ (by omega) (by decide), show σ 40 (2 * sₓ + 1) = D (11 + 10 * sₓ) from z2ₓ]; omega
    · show (D (10 + 10 * (σ' 159 kₓ).toNat)).toNat < K
      rw [e1ₓ]; omega
    · show (D (11 + 10 * (σ' 159 kₓ).toNat)).toNat < K
      rw [e1ₓ]; omega
end
