/-! bits -/
def tb (xₓ : Int) (hₓ : Nat) : Bool := (Int32.ofInt xₓ).toBitVec.getLsbD hₓ
theorem tb_or {aₓ bₓ : Int} {hₓ : Nat} : tb (mOr aₓ bₓ) hₓ = (tb aₓ hₓ || tb bₓ hₓ) := by
  show (Int32.ofInt (Int32.ofInt aₓ ||| Int32.ofInt bₓ).toInt).toBitVec.getLsbD hₓ = _
  rw [Int32.ofInt_toInt, Int32.toBitVec_or, BitVec.getLsbD_or]; rfl
theorem tb_and {aₓ bₓ : Int} {hₓ : Nat} : tb (mAnd aₓ bₓ) hₓ = (tb aₓ hₓ && tb bₓ hₓ) := by
  show (Int32.ofInt (Int32.ofInt aₓ &&& Int32.ofInt bₓ).toInt).toBitVec.getLsbD hₓ = _
  rw [Int32.ofInt_toInt, Int32.toBitVec_and, BitVec.getLsbD_and]; rfl
theorem tb_xor {aₓ bₓ : Int} {hₓ : Nat} : tb (mXor aₓ bₓ) hₓ = (tb aₓ hₓ ^^ tb bₓ hₓ) := by
  show (Int32.ofInt (Int32.ofInt aₓ ^^^ Int32.ofInt bₓ).toInt).toBitVec.getLsbD hₓ = _
  rw [Int32.ofInt_toInt, Int32.toBitVec_xor, BitVec.getLsbD_xor]; rfl
theorem tb_m1 : ∀ hₓ : Nat, hₓ < 32 → tb (-1) hₓ = true := by decide +kernel
theorem tb_not {aₓ : Int} {hₓ : Nat} (hhₓ : hₓ < 32) : tb (mXor aₓ (-1)) hₓ = !tb aₓ hₓ := by
  rw [tb_xor, tb_m1 hₓ hhₓ]; cases tb aₓ hₓ <;> rfl
theorem tb_0 {hₓ : Nat} : tb 0 hₓ = false := by
  show (Int32.ofInt 0).toBitVec.getLsbD hₓ = false
  rw [show (Int32.ofInt 0).toBitVec = 0#32 by decide, BitVec.getLsbD_zero]
theorem tb_shl : ∀ kₓ : Nat, kₓ < 31 → ∀ hₓ : Nat, hₓ < 32 → tb (mShl 1 (kₓ : Int)) hₓ = decide (hₓ = kₓ) := by decide +kernel
theorem tb_ml : ∀ kₓ : Nat, kₓ < 24 → ∀ hₓ : Nat, hₓ < 32 → tb (mShl (-1) (kₓ : Int)) hₓ = decide (kₓ ≤ hₓ) := by decide +kernel
theorem tb_24 : ∀ hₓ : Nat, hₓ < 32 → tb 16777215 hₓ = decide (hₓ < 24) := by decide +kernel
theorem tb_rg : ∀ aₓ : Nat, aₓ < 24 → ∀ bₓ : Nat, bₓ < 25 → aₓ < bₓ → ∀ hₓ : Nat, hₓ < 32 → tb (mShl 1 (bₓ : Int) - mShl 1 (aₓ : Int)) hₓ = decide (aₓ ≤ hₓ ∧ hₓ < bₓ) := by decide +kernel
theorem sh_n : ∀ kₓ : Nat, kₓ < 32 → ((Int32.ofInt (kₓ : Int) &&& 31).toBitVec.smod 32).toNat = kₓ := by decide +kernel
theorem tb_shr {xₓ : Int} {kₓ iₓ : Nat} (hₓ : kₓ + iₓ < 32) : tb (mShr xₓ (kₓ : Int)) iₓ = tb xₓ (kₓ + iₓ) := by
  show (Int32.ofInt (Int32.ofInt xₓ >>> (Int32.ofInt (kₓ : Int) &&& 31)).toInt).toBitVec.getLsbD iₓ = _
  rw [Int32.ofInt_toInt]
  show ((Int32.ofInt xₓ).toBitVec.sshiftRight' ((Int32.ofInt (kₓ : Int) &&& 31).toBitVec.smod 32)).getLsbD iₓ = _
  rw [BitVec.sshiftRight', BitVec.getLsbD_sshiftRight, sh_n kₓ (by omega), if_pos hₓ]
  rw [show (decide (32 ≤ iₓ)) = false from decide_eq_false (by omega)]; rfl
theorem mAnd1_tb {xₓ : Int} : mAnd xₓ 1 = (if tb xₓ 0 = true then 1 else 0) := by
  have eₓ : (Int32.ofInt xₓ &&& Int32.ofInt 1).toBitVec.toNat = (Int32.ofInt xₓ).toBitVec.toNat % 2 := by
    rw [Int32.toBitVec_and, BitVec.toNat_and, show (Int32.ofInt 1).toBitVec.toNat = 1 by decide, Nat.and_one_is_mod]
  have e2ₓ : mAnd xₓ 1 = ((Int32.ofInt xₓ &&& Int32.ofInt 1).toBitVec.toNat : Int) := wk_bvi (by rw [eₓ]; omega)
  have e3ₓ : tb xₓ 0 = decide ((Int32.ofInt xₓ).toBitVec.toNat % 2 = 1) := Nat.testBit_zero _
  rw [e2ₓ, eₓ, e3ₓ]
  by_cases cₓ : (Int32.ofInt xₓ).toBitVec.toNat % 2 = 1
  · rw [if_pos (decide_eq_true cₓ), cₓ]; rfl
  · rw [if_neg (by rw [decide_eq_false cₓ]; decide)]; omega
/-- aₓ bit asked for -/
theorem bitQ {xₓ : Int} {kₓ : Nat} (hₓ : kₓ < 32) : mAnd (mShr xₓ (kₓ : Int)) 1 = (if tb xₓ kₓ = true then 1 else 0) := by
  rw [mAnd1_tb, tb_shr (by omega), Nat.add_zero]
theorem bitQ0 {xₓ : Int} {kₓ : Nat} (hₓ : kₓ < 32) : mAnd (mShr xₓ (kₓ : Int)) 1 = 0 ↔ tb xₓ kₓ = false := by
  rw [bitQ hₓ]
  cases tb xₓ kₓ with
  | true => exact ⟨fun qₓ => absurd qₓ (by decide), fun qₓ => absurd qₓ (by decide)⟩
  | false => exact ⟨fun _ => rfl, fun _ => rfl⟩
theorem bitQ1 {xₓ : Int} {kₓ : Nat} (hₓ : kₓ < 32) : mAnd (mShr xₓ (kₓ : Int)) 1 = 1 ↔ tb xₓ kₓ = true := by
  rw [bitQ hₓ]
  cases tb xₓ kₓ with
  | true => exact ⟨fun _ => rfl, fun _ => rfl⟩
  | false => exact ⟨fun qₓ => absurd qₓ (by decide), fun qₓ => absurd qₓ (by decide)⟩
/-- the days of aₓ street's two sides, the hoursₓ at which it is lifted, the saints that close it -/
theorem tb_sgn : ∀ vₓ : Nat, vₓ < 4 → ∀ dₓ : Nat, dₓ < 7 → ∀ hₓ : Nat, hₓ < 32 → tb (mShl (mAnd (vₓ : Int) 1) (dₓ : Int)) hₓ = (decide (hₓ = dₓ) && tb (vₓ : Int) 0) ∧ tb (mShl (mShr (vₓ : Int) 1) (dₓ : Int)) hₓ = (decide (hₓ = dₓ) && tb (vₓ : Int) 1) := by decide +kernel
theorem tb_sb0 {fₓ : Nat → Int} (hfₓ : ∀ jₓ : Nat, jₓ < 7 → 0 ≤ fₓ jₓ ∧ fₓ jₓ ≤ 3) {hₓ : Nat} (hhₓ : hₓ < 32) : ∀ kₓ : Nat, kₓ ≤ 7 → tb (sb0 fₓ kₓ) hₓ = (decide (hₓ < kₓ) && tb (fₓ hₓ) 0)
  | 0, _ => by rw [show sb0 fₓ 0 = 0 from rfl, tb_0, decide_eq_false (by omega)]; rfl
  | kₓ + 1, hkₓ => by
    obtain ⟨vₓ, hv⟩ : ∃ vₓ : Nat, fₓ kₓ = (vₓ : Int) := ⟨(fₓ kₓ).toNat, by have := hfₓ kₓ (by omega); omega⟩
    have hv4ₓ : vₓ < 4 := by have := hfₓ kₓ (by omega); omega
    show tb (mOr (sb0 fₓ kₓ) (mShl (mAnd (fₓ kₓ) 1) (kₓ : Int))) hₓ = _
    rw [tb_or, tb_sb0 hfₓ hhₓ kₓ (by omega), hv, (tb_sgn vₓ hv4ₓ kₓ (by omega) hₓ hhₓ).1]
    by_cases cₓ : hₓ = kₓ
    · subst cₓ
      rw [decide_eq_false (show ¬ hₓ < hₓ by omega), decide_eq_true (show hₓ = hₓ from rfl), decide_eq_true (show hₓ < hₓ + 1 by omega), hv]
      cases tb (vₓ : Int) 0 <;> rfl
    · rw [decide_eq_false cₓ]
      by_cases c2ₓ : hₓ < kₓ
      · rw [decide_eq_true c2ₓ, decide_eq_true (show hₓ < kₓ + 1 by omega)]
        cases tb (fₓ hₓ) 0 <;> rfl
      · rw [decide_eq_false c2ₓ, decide_eq_false (show ¬ hₓ < kₓ + 1 by omega)]; rfl
theorem tb_sb1 {fₓ : Nat → Int} (hfₓ : ∀ jₓ : Nat, jₓ < 7 → 0 ≤ fₓ jₓ ∧ fₓ jₓ ≤ 3) {hₓ : Nat} (hhₓ : hₓ < 32) : ∀ kₓ : Nat, kₓ ≤ 7 → tb (sb1 fₓ kₓ) hₓ = (decide (hₓ < kₓ) && tb (fₓ hₓ) 1)
  | 0, _ => by rw [show sb1 fₓ 0 = 0 from rfl, tb_0, decide_eq_false (by omega)]; rfl
  | kₓ + 1, hkₓ => by
    obtain ⟨vₓ, hv⟩ : ∃ vₓ : Nat, fₓ kₓ = (vₓ : Int) := ⟨(fₓ kₓ).toNat, by have := hfₓ kₓ (by omega); omega⟩
    have hv4ₓ : vₓ < 4 := by have := hfₓ kₓ (by omega); omega
    show tb (mOr (sb1 fₓ kₓ) (mShl (mShr (fₓ kₓ) 1) (kₓ : Int))) hₓ = _
    rw [tb_or, tb_sb1 hfₓ hhₓ kₓ (by omega), hv, (tb_sgn vₓ hv4ₓ kₓ (by omega) hₓ hhₓ).2]
    by_cases cₓ : hₓ = kₓ
    · subst cₓ
      rw [decide_eq_false (show ¬ hₓ < hₓ by omega), decide_eq_true (show hₓ = hₓ from rfl), decide_eq_true (show hₓ < hₓ + 1 by omega), hv]
      cases tb (vₓ : Int) 1 <;> rfl
    · rw [decide_eq_false cₓ]
      by_cases c2ₓ : hₓ < kₓ
      · rw [decide_eq_true c2ₓ, decide_eq_true (show hₓ < kₓ + 1 by omega)]
        cases tb (fₓ hₓ) 1 <;> rfl
      · rw [decide_eq_false c2ₓ, decide_eq_false (show ¬ hₓ < kₓ + 1 by omega)]; rfl
def lfP (D : Nat → Int) (iₓ hₓ : Nat) (kₓ : Nat) : Prop := D (156 + 3 * kₓ) = (iₓ : Int) ∧ D (157 + 3 * kₓ) ≤ (hₓ : Int) ∧ (hₓ : Int) < D (158 + 3 * kₓ)
theorem tb_lf {D : Nat → Int} {iₓ hₓ : Nat} (hhₓ : hₓ < 32) : ∀ kₓ : Nat, (∀ jₓ : Nat, jₓ < kₓ → 0 ≤ D (157 + 3 * jₓ) ∧ D (157 + 3 * jₓ) ≤ 23 ∧ D (157 + 3 * jₓ) < D (158 + 3 * jₓ) ∧ D (158 + 3 * jₓ) ≤ 24) → (tb (lfN D iₓ kₓ) hₓ = true ↔ ∃ jₓ : Nat, jₓ < kₓ ∧ lfP D iₓ hₓ jₓ)
  | 0, _ => by
    rw [show lfN D iₓ 0 = 0 from rfl, tb_0]
    exact ⟨fun qₓ => absurd qₓ (by decide), fun ⟨jₓ, hjₓ, _⟩ => absurd hjₓ (by omega)⟩
  | kₓ + 1, hDₓ => by
    have ihₓ := tb_lf (iₓ := iₓ) hhₓ kₓ (fun jₓ hjₓ => hDₓ jₓ (by omega))
    obtain ⟨g1ₓ, g2ₓ, g3ₓ, g4ₓ⟩ := hDₓ kₓ (by omega)
    show tb (if D (156 + 3 * kₓ) = (iₓ : Int) then mOr (lfN D iₓ kₓ) (mShl 1 (D (158 + 3 * kₓ)) - mShl 1 (D (157 + 3 * kₓ))) else lfN D iₓ kₓ) hₓ = true ↔ _
    by_cases cₓ : D (156 + 3 * kₓ) = (iₓ : Int)
    · obtain ⟨aₓ, haₓ⟩ : ∃ aₓ : Nat, D (157 + 3 * kₓ) = (aₓ : Int) := ⟨(D (157 + 3 * kₓ)).toNat, by omega⟩
      obtain ⟨bₓ, hbₓ⟩ : ∃ bₓ : Nat, D (158 + 3 * kₓ) = (bₓ : Int) := ⟨(D (158 + 3 * kₓ)).toNat, by omega⟩
      rw [if_pos cₓ, tb_or, haₓ, hbₓ, tb_rg aₓ (by omega) bₓ (by omega) (by omega) hₓ hhₓ, Bool.or_eq_true, decide_eq_true_iff, ihₓ]
      refine ⟨fun qₓ => ?_, fun ⟨jₓ, hjₓ, hpₓ⟩ => ?_⟩
      · rcases qₓ with ⟨jₓ, hjₓ, hpₓ⟩ | qₓ
        · exact ⟨jₓ, by omega, hpₓ⟩
        · exact ⟨kₓ, by omega, cₓ, by omega, by omega⟩
      · by_cases cj : jₓ = kₓ
        · subst cj
          obtain ⟨-, p2ₓ, p3ₓ⟩ := hpₓ
          exact Or.inr (by omega)
        · exact Or.inl ⟨jₓ, by omega, hpₓ⟩
    · rw [if_neg cₓ, ihₓ]
      refine ⟨fun ⟨jₓ, hjₓ, hpₓ⟩ => ⟨jₓ, by omega, hpₓ⟩, fun ⟨jₓ, hjₓ, hpₓ⟩ => ?_⟩
      by_cases cj : jₓ = kₓ
      · subst cj; exact absurd hpₓ.1 cₓ
      · exact ⟨jₓ, by omega, hpₓ⟩
theorem tb_sz {D : Nat → Int} {iₓ hₓ : Nat} (hhₓ : hₓ < 31) : ∀ kₓ : Nat, kₓ < 31 → (tb (szN D iₓ kₓ) hₓ = true ↔ hₓ < kₓ ∧ (D (140 + 2 * hₓ) = D (10 + 10 * iₓ) ∨ D (140 + 2 * hₓ) = D (11 + 10 * iₓ)))
  | 0, _ => by
    rw [show szN D iₓ 0 = 0 from rfl, tb_0]
    exact ⟨fun qₓ => absurd qₓ (by decide), fun qₓ => absurd qₓ.1 (by omega)⟩
  | kₓ + 1, hkₓ => by
    have ihₓ := tb_sz (D := D) (iₓ := iₓ) hhₓ kₓ (by omega)
    show tb (if D (140 + 2 * kₓ) = D (10 + 10 * iₓ) ∨ D (140 + 2 * kₓ) = D (11 + 10 * iₓ) then mOr (szN D iₓ kₓ) (mShl 1 (kₓ : Int)) else szN D iₓ kₓ) hₓ = true ↔ _
    by_cases cₓ : D (140 + 2 * kₓ) = D (10 + 10 * iₓ) ∨ D (140 + 2 * kₓ) = D (11 + 10 * iₓ)
    · rw [if_pos cₓ, tb_or, tb_shl kₓ (by omega) hₓ (by omega), Bool.or_eq_true, decide_eq_true_iff, ihₓ]
      refine ⟨fun qₓ => ?_, fun qₓ => ?_⟩
      · rcases qₓ with qₓ | qₓ
        · exact ⟨by omega, qₓ.2⟩
        · subst qₓ; exact ⟨by omega, cₓ⟩
      · by_cases cj : hₓ = kₓ
        · exact Or.inr cj
        · exact Or.inl ⟨by omega, qₓ.2⟩
    · rw [if_neg cₓ, ihₓ]
      refine ⟨fun qₓ => ⟨by omega, qₓ.2⟩, fun qₓ => ?_⟩
      by_cases cj : hₓ = kₓ
      · subst cj; exact absurd qₓ.2 cₓ
      · exact ⟨by omega, qₓ.2⟩
