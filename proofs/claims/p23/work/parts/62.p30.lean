/-! the reference: all ways to lay the roads are tried -/
def pcC (mₓ : Nat) : Nat → Nat
  | 0 => 0
  | kₓ + 1 => pcC mₓ kₓ + if mₓ.testBit kₓ = true then 1 else 0
def pcN (mₓ : Nat) : Nat := pcC mₓ 6
def loN (mₓ : Nat) : Nat := if mₓ.testBit 0 = true then 0 else if mₓ.testBit 1 = true then 1 else if mₓ.testBit 2 = true then 2 else if mₓ.testBit 3 = true then 3 else if mₓ.testBit 4 = true then 4 else 5
def hiN (mₓ : Nat) : Nat := if mₓ.testBit 5 = true then 5 else if mₓ.testBit 4 = true then 4 else if mₓ.testBit 3 = true then 3 else if mₓ.testBit 2 = true then 2 else if mₓ.testBit 1 = true then 1 else 0
theorem pc_nx : ∀ sₓ : Nat, sₓ < 64 → sₓ ≠ 0 → mAnd (sₓ : Int) ((sₓ : Int) - 1) = (((sₓ &&& (sₓ - 1)) : Nat) : Int) ∧ (sₓ &&& (sₓ - 1)) < sₓ ∧ pcN sₓ = pcN (sₓ &&& (sₓ - 1)) + 1 := by decide +kernel
theorem pc_0 : pcN 0 = 0 := by decide
theorem pc_le : ∀ sₓ : Nat, sₓ < 64 → pcN sₓ ≤ 6 := by decide +kernel
theorem pc_one : ∀ sₓ : Nat, sₓ < 64 → pcN sₓ = 1 → loN sₓ < 6 ∧ sₓ = 2 ^ loN sₓ := by decide +kernel
theorem pc_two : ∀ sₓ : Nat, sₓ < 64 → pcN sₓ = 2 → loN sₓ < hiN sₓ ∧ hiN sₓ < 6 ∧ sₓ = 2 ^ loN sₓ + 2 ^ hiN sₓ := by decide +kernel
theorem pc_pos : ∀ sₓ : Nat, sₓ < 64 → sₓ ≠ 0 → 1 ≤ pcN sₓ := by decide +kernel
theorem pc_p1 : ∀ eₓ : Nat, eₓ < 6 → pcN (2 ^ eₓ) = 1 := by decide +kernel
theorem pc_p2 : ∀ pₓ : Nat, pₓ < 6 → ∀ qₓ : Nat, qₓ < 6 → pₓ < qₓ → pcN (2 ^ pₓ + 2 ^ qₓ) = 2 ∧ pvv pₓ qₓ = ((2 ^ pₓ + 2 ^ qₓ : Nat) : Int) ∧ ∀ eₓ : Nat, eₓ < 6 → (2 ^ pₓ + 2 ^ qₓ).testBit eₓ = decide (eₓ = pₓ ∨ eₓ = qₓ) := by decide +kernel
theorem pow_6 : ∀ eₓ : Nat, eₓ ≤ 6 → 2 ^ eₓ ≤ 64 := by decide
theorem pow_lt6 : ∀ eₓ : Nat, eₓ < 6 → ∀ E : Nat, E ≤ 6 → eₓ < E → 2 ^ eₓ < 2 ^ E := by decide
theorem pow_lt2 : ∀ pₓ : Nat, pₓ < 6 → ∀ qₓ : Nat, qₓ < 6 → ∀ E : Nat, E ≤ 6 → pₓ < qₓ → qₓ < E → 2 ^ pₓ + 2 ^ qₓ < 2 ^ E := by decide +kernel
theorem pow_ge : ∀ eₓ : Nat, eₓ < 6 → ∀ E : Nat, E ≤ 6 → 2 ^ eₓ < 2 ^ E → eₓ < E := by decide
theorem mOr_top {mₓ eₓ : Nat} (hₓ : mₓ < 2 ^ eₓ) (heₓ : eₓ < 12) : mOr ((mₓ : Nat) : Int) (mShl 1 (eₓ : Int)) = ((2 ^ eₓ + mₓ : Nat) : Int) := by
  have hpₓ := pow_12 eₓ (by omega)
  rw [shl_pow eₓ (by omega)]
  refine tb_ext mOr_rg ⟨by omega, by omega⟩ (fun xₓ hxₓ => ?_)
  rw [tb_or, tb_nat hxₓ, tb_nat hxₓ, tb_nat hxₓ]
  have gₓ := Nat.two_pow_add_eq_or_of_lt hₓ 1
  rw [Nat.mul_one] at gₓ
  rw [gₓ, Nat.testBit_or, Bool.or_comm]
theorem all_bits {mₓ E : Nat} (hₓ : mₓ < 2 ^ E) : mₓ = 2 ^ E - 1 ↔ ∀ eₓ : Nat, eₓ < E → mₓ.testBit eₓ = true := by
  constructor
  · intro qₓ eₓ heₓ
    rw [qₓ, Nat.testBit_two_pow_sub_one, decide_eq_true heₓ]
  · intro qₓ
    refine Nat.eq_of_testBit_eq (fun iₓ => ?_)
    rw [Nat.testBit_two_pow_sub_one]
    by_cases cₓ : iₓ < E
    · rw [qₓ iₓ cₓ, decide_eq_true cₓ]
    · rw [decide_eq_false cₓ]
      exact Nat.testBit_lt_two_pow (Nat.lt_of_lt_of_le hₓ (Nat.pow_le_pow_right (by decide) (by omega)))
theorem sub_bits {kₓ mₓ : Nat} : kₓ &&& mₓ = mₓ ↔ ∀ eₓ : Nat, mₓ.testBit eₓ = true → kₓ.testBit eₓ = true := by
  constructor
  · intro qₓ eₓ heₓ
    have gₓ : (kₓ &&& mₓ).testBit eₓ = true := by rw [qₓ]; exact heₓ
    rw [Nat.testBit_and, Bool.and_eq_true] at gₓ
    exact gₓ.1
  · intro qₓ
    refine Nat.eq_of_testBit_eq (fun iₓ => ?_)
    rw [Nat.testBit_and]
    cases hbₓ : mₓ.testBit iₓ with
    | true => rw [qₓ iₓ hbₓ]; rfl
    | false => rw [Bool.and_false]
theorem mAnd_nat {kₓ mₓ : Nat} (hkₓ : kₓ < 64) (hmₓ : mₓ < 64) : mAnd (kₓ : Int) (mₓ : Int) = ((kₓ &&& mₓ : Nat) : Int) := by
  have gₓ : kₓ &&& mₓ ≤ mₓ := Nat.and_le_right
  refine tb_ext mAnd_rg ⟨by omega, by omega⟩ (fun xₓ hxₓ => ?_)
  rw [tb_and, tb_nat hxₓ, tb_nat hxₓ, tb_nat hxₓ, Nat.testBit_and]
/-- the roads, told by the streets -/
def RDI (D : Nat → Int) (dₓ N K : Nat) (ea eb : Nat → Nat) : Prop := ∀ sₓ : Nat, sₓ < N → ¬ D (13 + 10 * sₓ + dₓ) = 0 → D (10 + 10 * sₓ) = ((ea (cnR D dₓ sₓ) : Nat) : Int) ∧ D (11 + 10 * sₓ) = ((eb (cnR D dₓ sₓ) : Nat) : Int) ∧ ea (cnR D dₓ sₓ) < K ∧ eb (cnR D dₓ sₓ) < K
section
variable {D : Nat → Int} {dₓ N K M E bk fₓ sₓ : Nat} {τ τ' : SS} {r'ₓ was : Int} {ea eb ef etₓ : Nat → Nat} {nₓ : Nat} {what : Int}
theorem r_so3 : m_X12_streetOf nₓ 0 (sₓ : Int) (3 + (dₓ : Int)) τ = some (τ 12 (13 + 10 * sₓ + dₓ), τ) := by
  unfold m_X12_streetOf
  rw [mLet_e, mLet_e, mLet_e, mRd_e, mRet_e, show ((10 : Int) + 10 * (sₓ : Int) + (3 + (dₓ : Int))).toNat = 13 + 10 * sₓ + dₓ by omega]
theorem r_comes (hN1ₓ : τ 12 1 = (N : Int)) (hNₓ : N ≤ 12) (hKₓ : K ≤ 10) (hdₓ : RDI (τ 12) dₓ N K ea eb) (hbₓ : bk < 4096) (hfₓ : fₓ < K) : ∀ nₓ : Nat, (∀ (set was : Int), (∀ yₓ : Nat, yₓ < 32 → tb set yₓ = true → yₓ < K ∧ RC (cnR (τ 12) dₓ N) ea eb (fun iₓ => bk.testBit iₓ = false) (fun iₓ => bk.testBit iₓ = true) fₓ yₓ) → tb set fₓ = true → (set = was → ∀ sₓ : Nat, sₓ < N → ¬ τ 12 (13 + 10 * sₓ + dₓ) = 0 → (bk.testBit (cnR (τ 12) dₓ sₓ) = false → tb set (ea (cnR (τ 12) dₓ sₓ)) = true → tb set (eb (cnR (τ 12) dₓ sₓ)) = true) ∧ (bk.testBit (cnR (τ 12) dₓ sₓ) = true → tb set (eb (cnR (τ 12) dₓ sₓ)) = true → tb set (ea (cnR (τ 12) dₓ sₓ)) = true)) → j_X12_comesTo 0 nₓ 8 [(dₓ : Int), (bk : Int), set, was] τ = some (r'ₓ, τ') → τ' = τ ∧ ∀ yₓ : Nat, yₓ < 32 → (tb r'ₓ yₓ = true ↔ yₓ < K ∧ RC (cnR (τ 12) dₓ N) ea eb (fun iₓ => bk.testBit iₓ = false) (fun iₓ => bk.testBit iₓ = true) fₓ yₓ)) ∧ ∀ (set was : Int) (sₓ : Nat), sₓ ≤ N → (∀ yₓ : Nat, yₓ < 32 → tb set yₓ = true → yₓ < K ∧ RC (cnR (τ 12) dₓ N) ea eb (fun iₓ => bk.testBit iₓ = false) (fun iₓ => bk.testBit iₓ = true) fₓ yₓ) → tb set fₓ = true → (∀ yₓ : Nat, yₓ < 32 → tb was yₓ = true → tb set yₓ = true) → (∀ tₓ : Nat, tₓ < sₓ → ¬ τ 12 (13 + 10 * tₓ + dₓ) = 0 → (bk.testBit (cnR (τ 12) dₓ tₓ) = false → tb was (ea (cnR (τ 12) dₓ tₓ)) = true → tb set (eb (cnR (τ 12) dₓ tₓ)) = true) ∧ (bk.testBit (cnR (τ 12) dₓ tₓ) = true → tb was (eb (cnR (τ 12) dₓ tₓ)) = true → tb set (ea (cnR (τ 12) dₓ tₓ)) = true)) → j_X12_comesTo 0 nₓ 25 [(dₓ : Int), (bk : Int), set, was, ((cnR (τ 12) dₓ sₓ : Nat) : Int), (sₓ : Int)] τ = some (r'ₓ, τ') → τ' = τ ∧ ∀ yₓ : Nat, yₓ < 32 → (tb r'ₓ yₓ = true ↔ yₓ < K ∧ RC (cnR (τ 12) dₓ N) ea eb (fun iₓ => bk.testBit iₓ = false) (fun iₓ => bk.testBit iₓ = true) fₓ yₓ) := by
  intro nₓ
  induction nₓ with
  | zero => exact ⟨fun _ _ _ _ _ eₓ => none_el eₓ, fun _ _ _ _ _ _ _ _ eₓ => none_el eₓ⟩
  | succ nₓ ihₓ =>
    refine ⟨fun set was hSₓ hf1ₓ hCₓ eₓ => ?_, fun set was sₓ hsₓ hSₓ hf1ₓ hWₓ hPₓ eₓ => ?_⟩
    · rw [e_X12_comesTo_8] at eₓ
      unfold b_X12_comesTo_8 at eₓ
      by_cases cₓ : set = was
      · rw [mIf_pos cₓ, mRet_e] at eₓ
        obtain ⟨rfl, rfl⟩ := some_el eₓ
        refine ⟨rfl, fun yₓ hyₓ => ⟨hSₓ yₓ hyₓ, fun ⟨y1ₓ, y2ₓ⟩ => ?_⟩⟩
        refine y2ₓ (fun vₓ => tb r'ₓ vₓ = true) (fun iₓ hiₓ => ?_) hf1ₓ
        obtain ⟨sₓ, s1ₓ, s2ₓ, s3ₓ⟩ := cn_inv N iₓ hiₓ
        obtain ⟨g1ₓ, g2ₓ⟩ := hCₓ cₓ sₓ s1ₓ s2ₓ
        rw [s3ₓ] at g1ₓ g2ₓ
        exact ⟨g1ₓ, g2ₓ⟩
      · rw [mIf_neg cₓ] at eₓ
        exact ihₓ.2 set set 0 (Nat.zero_le _) hSₓ hf1ₓ (fun yₓ _ qₓ => qₓ) (fun tₓ htₓ => absurd htₓ (Nat.not_lt_zero _)) eₓ
    · rw [e_X12_comesTo_25] at eₓ
      unfold b_X12_comesTo_25 at eₓ
      rw [mRd_e, show τ 12 (1 : Int).toNat = (N : Int) from hN1ₓ] at eₓ
      by_cases cₓ : (N : Int) ≤ (sₓ : Int)
      · rw [mIf_pos cₓ] at eₓ
        refine ihₓ.1 set was hSₓ hf1ₓ (fun qₓ tₓ htₓ hzₓ => ?_) eₓ
        rw [← qₓ] at hPₓ
        exact hPₓ tₓ (by omega) hzₓ
      · rw [mIf_neg cₓ, mLet_e, r_so3, mCall_s] at eₓ
        have esₓ : (sₓ : Int) + 1 = ((sₓ + 1 : Nat) : Int) := by omega
        by_cases cz : τ 12 (13 + 10 * sₓ + dₓ) = 0
        · rw [mIf_neg (fun qₓ => qₓ cz)] at eₓ
          unfold b_X12_comesTo_107 at eₓ
          rw [mLet_e, esₓ, ← cn_0 cz] at eₓ
          refine ihₓ.2 set was (sₓ + 1) (by omega) hSₓ hf1ₓ hWₓ (fun tₓ htₓ hzₓ => ?_) eₓ
          by_cases etₓ : tₓ = sₓ
          · subst etₓ; exact absurd cz hzₓ
          · exact hPₓ tₓ (by omega) hzₓ
        · obtain ⟨h1ₓ, h2ₓ, h3ₓ, h4ₓ⟩ := hdₓ sₓ (by omega) cz
          have hltₓ : cnR (τ 12) dₓ sₓ < cnR (τ 12) dₓ N := cn_lt cz (by omega)
          have hleₓ := cn_le (D := τ 12) (dₓ := dₓ) sₓ
          have ek : mAdd ((cnR (τ 12) dₓ sₓ : Nat) : Int) 1 = ((cnR (τ 12) dₓ (sₓ + 1) : Nat) : Int) := by
            rw [cn_1 cz, mAdd_x (by omega) (by omega) (by omega) (by omega) (by omega) (by omega)]; omega
          rw [mIf_pos cz, r_isOf (by omega), mCall_s] at eₓ
          -- one road
          have goₓ : ∀ set' : Int, (∀ yₓ : Nat, yₓ < 32 → tb set yₓ = true → tb set' yₓ = true) → (∀ yₓ : Nat, yₓ < 32 → tb set' yₓ = true → yₓ < K ∧ RC (cnR (τ 12) dₓ N) ea eb (fun iₓ => bk.testBit iₓ = false) (fun iₓ => bk.testBit iₓ = true) fₓ yₓ) → (bk.testBit (cnR (τ 12) dₓ sₓ) = false → tb set (ea (cnR (τ 12) dₓ sₓ)) = true → tb set' (eb (cnR (τ 12) dₓ sₓ)) = true) → (bk.testBit (cnR (τ 12) dₓ sₓ) = true → tb set (eb (cnR (τ 12) dₓ sₓ)) = true → tb set' (ea (cnR (τ 12) dₓ sₓ)) = true) → j_X12_comesTo 0 nₓ 25 [(dₓ : Int), (bk : Int), set', was, ((cnR (τ 12) dₓ (sₓ + 1) : Nat) : Int), ((sₓ + 1 : Nat) : Int)] τ = some (r'ₓ, τ') → τ' = τ ∧ ∀ yₓ : Nat, yₓ < 32 → (tb r'ₓ yₓ = true ↔ yₓ < K ∧ RC (cnR (τ 12) dₓ N) ea eb (fun iₓ => bk.testBit iₓ = false) (fun iₓ => bk.testBit iₓ = true) fₓ yₓ) := fun set' g1ₓ g2ₓ g3ₓ g4ₓ qₓ => by
            refine ihₓ.2 set' was (sₓ + 1) (by omega) g2ₓ (g1ₓ fₓ (by omega) hf1ₓ) (fun yₓ hyₓ qₓ => g1ₓ yₓ hyₓ (hWₓ yₓ hyₓ qₓ)) (fun tₓ htₓ hzₓ => ?_) qₓ
            by_cases etₓ : tₓ = sₓ
            · subst etₓ
              exact ⟨fun w1ₓ w2ₓ => g3ₓ w1ₓ (hWₓ _ (by omega) w2ₓ), fun w1ₓ w2ₓ => g4ₓ w1ₓ (hWₓ _ (by omega) w2ₓ)⟩
            · obtain ⟨-, -, v3ₓ, v4ₓ⟩ := hdₓ tₓ (by omega) hzₓ
              obtain ⟨p1ₓ, p2ₓ⟩ := hPₓ tₓ (by omega) hzₓ
              exact ⟨fun w1ₓ w2ₓ => g1ₓ _ (by omega) (p1ₓ w1ₓ w2ₓ), fun w1ₓ w2ₓ => g1ₓ _ (by omega) (p2ₓ w1ₓ w2ₓ)⟩
          have add : ∀ cₓ : Nat, cₓ < K → RC (cnR (τ 12) dₓ N) ea eb (fun iₓ => bk.testBit iₓ = false) (fun iₓ => bk.testBit iₓ = true) fₓ cₓ → (∀ yₓ : Nat, yₓ < 32 → tb set yₓ = true → tb (mOr set (mShl 1 (cₓ : Int))) yₓ = true) ∧ (∀ yₓ : Nat, yₓ < 32 → tb (mOr set (mShl 1 (cₓ : Int))) yₓ = true → yₓ < K ∧ RC (cnR (τ 12) dₓ N) ea eb (fun iₓ => bk.testBit iₓ = false) (fun iₓ => bk.testBit iₓ = true) fₓ yₓ) ∧ tb (mOr set (mShl 1 (cₓ : Int))) cₓ = true := fun cₓ hcₓ hrcₓ => by
            have hqₓ : ∀ yₓ : Nat, yₓ < 32 → (tb (mOr set (mShl 1 (cₓ : Int))) yₓ = true ↔ tb set yₓ = true ∨ yₓ = cₓ) := fun yₓ hyₓ => by
              rw [tb_or, tb_shl cₓ (by omega) yₓ hyₓ, Bool.or_eq_true, decide_eq_true_iff]
            refine ⟨fun yₓ hyₓ qₓ => (hqₓ yₓ hyₓ).mpr (Or.inl qₓ), fun yₓ hyₓ qₓ => ?_, (hqₓ cₓ (by omega)).mpr (Or.inr rfl)⟩
            rcases (hqₓ yₓ hyₓ).mp qₓ with qₓ | qₓ
            · exact hSₓ yₓ hyₓ qₓ
            · rw [qₓ]; exact ⟨hcₓ, hrcₓ⟩
          have or0 : ∀ yₓ : Nat, (tb (mOr set 0) yₓ = true ↔ tb set yₓ = true) := fun yₓ => by rw [tb_or, tb_0, Bool.or_false]
          cases hbtₓ : bk.testBit (cnR (τ 12) dₓ sₓ) with
          | false =>
            have htbₓ : tb ((bk : Nat) : Int) (cnR (τ 12) dₓ sₓ) = false := (tb_nat (by omega)).trans hbtₓ
            rw [htbₓ, if_neg (by decide), mIf_pos rfl] at eₓ
            unfold b_X12_comesTo_65 b_X12_comesTo_101 b_X12_comesTo_107 at eₓ
            rw [r_so0, mCall_s, h1ₓ, r_isOf (by omega), mCall_s] at eₓ
            cases hwₓ : tb set (ea (cnR (τ 12) dₓ sₓ)) with
            | false =>
              rw [hwₓ, if_neg (by decide), mIf_pos rfl, mLet_e, mLet_e, mLet_e, ek, esₓ] at eₓ
              exact goₓ _ (fun yₓ _ qₓ => (or0 yₓ).mpr qₓ) (fun yₓ hyₓ qₓ => hSₓ yₓ hyₓ ((or0 yₓ).mp qₓ)) (fun _ qₓ => by rw [hwₓ] at qₓ; cases qₓ) (fun qₓ => by rw [hbtₓ] at qₓ; cases qₓ) eₓ
            | true =>
              have hrcₓ := RC_tr (hSₓ _ (by omega) hwₓ).2 (RC_f (F := fun iₓ => bk.testBit iₓ = false) (B := fun iₓ => bk.testBit iₓ = true) (ea := ea) (eb := eb) hltₓ hbtₓ)
              obtain ⟨a1ₓ, a2ₓ, a3ₓ⟩ := add _ h4ₓ hrcₓ
              rw [hwₓ, if_pos rfl, mIf_neg (by decide), mLet_e, show (1 : Int) - 0 = 1 by decide, r_so1, mCall_s, h2ₓ, mLet_e, mLet_e, mLet_e, mLet_e, ek, esₓ] at eₓ
              exact goₓ _ a1ₓ a2ₓ (fun _ _ => a3ₓ) (fun qₓ => by rw [hbtₓ] at qₓ; cases qₓ) eₓ
          | true =>
            have htbₓ : tb ((bk : Nat) : Int) (cnR (τ 12) dₓ sₓ) = true := (tb_nat (by omega)).trans hbtₓ
            rw [htbₓ, if_pos rfl, mIf_neg (by decide)] at eₓ
            unfold b_X12_comesTo_65 b_X12_comesTo_101 b_X12_comesTo_107 at eₓ
            rw [r_so1, mCall_s, h2ₓ, r_isOf (by omega), mCall_s] at eₓ
            cases hwₓ : tb set (eb (cnR (τ 12) dₓ sₓ)) with
            | false =>
              rw [hwₓ, if_neg (by decide), mIf_pos rfl, mLet_e, mLet_e, mLet_e, ek, esₓ] at eₓ
              exact goₓ _ (fun yₓ _ qₓ => (or0 yₓ).mpr qₓ) (fun yₓ hyₓ qₓ => hSₓ yₓ hyₓ ((or0 yₓ).mp qₓ)) (fun qₓ => by rw [hbtₓ] at qₓ; cases qₓ) (fun _ qₓ => by rw [hwₓ] at qₓ; cases qₓ) eₓ
            | true =>
              have hrcₓ := RC_tr (hSₓ _ (by omega) hwₓ).2 (RC_b (F := fun iₓ => bk.testBit iₓ = false) (B := fun iₓ => bk.testBit iₓ = true) (ea := ea) (eb := eb) hltₓ hbtₓ)
              obtain ⟨a1ₓ, a2ₓ, a3ₓ⟩ := add _ h3ₓ hrcₓ
              rw [hwₓ, if_pos rfl, mIf_neg (by decide), mLet_e, show (1 : Int) - 1 = 0 by decide, r_so0, mCall_s, h1ₓ, mLet_e, mLet_e, mLet_e, mLet_e, ek, esₓ] at eₓ
              exact goₓ _ a1ₓ a2ₓ (fun qₓ => by rw [hbtₓ] at qₓ; cases qₓ) (fun _ _ => a3ₓ) eₓ
theorem r_comesTo (hN1ₓ : τ 12 1 = (N : Int)) (hNₓ : N ≤ 12) (hKₓ : K ≤ 10) (hdₓ : RDI (τ 12) dₓ N K ea eb) (hbₓ : bk < 4096) (hfₓ : fₓ < K) (eₓ : m_X12_comesTo nₓ 0 (dₓ : Int) (bk : Int) (fₓ : Int) τ = some (r'ₓ, τ')) : τ' = τ ∧ ∀ yₓ : Nat, yₓ < 32 → (tb r'ₓ yₓ = true ↔ yₓ < K ∧ RC (cnR (τ 12) dₓ N) ea eb (fun iₓ => bk.testBit iₓ = false) (fun iₓ => bk.testBit iₓ = true) fₓ yₓ) := by
  unfold m_X12_comesTo at eₓ
  rw [mLet_e] at eₓ
  have hsₓ : ∀ yₓ : Nat, yₓ < 32 → (tb (mShl 1 (fₓ : Int)) yₓ = true ↔ yₓ = fₓ) := fun yₓ hyₓ => by rw [tb_shl fₓ (by omega) yₓ hyₓ, decide_eq_true_iff]
  have h1ₓ : tb (mShl 1 (fₓ : Int)) fₓ = true := (hsₓ fₓ (by omega)).mpr rfl
  refine (r_comes hN1ₓ hNₓ hKₓ hdₓ hbₓ hfₓ nₓ).1 _ 0 (fun yₓ hyₓ qₓ => ?_) h1ₓ (fun qₓ => ?_) eₓ
  · rw [(hsₓ yₓ hyₓ).mp qₓ]; exact ⟨hfₓ, RC_rf⟩
  · rw [qₓ, tb_0] at h1ₓ; cases h1ₓ
/-- which errands are done by aₓ way to lay the roads -/
def DNB (M E : Nat) (ea eb ef etₓ : Nat → Nat) (bk mₓ : Nat) : Prop := mₓ < 2 ^ E ∧ ∀ eₓ : Nat, eₓ < E → (mₓ.testBit eₓ = true ↔ RC M ea eb (fun iₓ => bk.testBit iₓ = false) (fun iₓ => bk.testBit iₓ = true) (ef eₓ) (etₓ eₓ))
def ERI (D : Nat → Int) (E K : Nat) (ef etₓ : Nat → Nat) : Prop := ∀ eₓ : Nat, eₓ < E → D (252 + 2 * eₓ) = ((ef eₓ : Nat) : Int) ∧ D (253 + 2 * eₓ) = ((etₓ eₓ : Nat) : Int) ∧ ef eₓ < K ∧ etₓ eₓ < K
theorem DNB_un {mₓ m'ₓ : Nat} (hₓ : DNB M E ea eb ef etₓ bk mₓ) (gₓ : DNB M E ea eb ef etₓ bk m'ₓ) : mₓ = m'ₓ := by
  refine Nat.eq_of_testBit_eq (fun iₓ => ?_)
  by_cases cₓ : iₓ < E
  · have h1ₓ := hₓ.2 iₓ cₓ
    have g1ₓ := gₓ.2 iₓ cₓ
    cases hbₓ : mₓ.testBit iₓ with
    | true => exact (g1ₓ.mpr (h1ₓ.mp hbₓ)).symm
    | false =>
      cases hb'ₓ : m'ₓ.testBit iₓ with
      | true => rw [h1ₓ.mpr (g1ₓ.mp hb'ₓ)] at hbₓ; cases hbₓ
      | false => rfl
  · have hpₓ : 2 ^ E ≤ 2 ^ iₓ := Nat.pow_le_pow_right (by decide) (by omega)
    rw [Nat.testBit_lt_two_pow (Nat.lt_of_lt_of_le hₓ.1 hpₓ), Nat.testBit_lt_two_pow (Nat.lt_of_lt_of_le gₓ.1 hpₓ)]
theorem r_done0 (hN1ₓ : τ 12 1 = (N : Int)) (hNₓ : N ≤ 12) (hKₓ : K ≤ 10) (hdₓ : RDI (τ 12) dₓ N K ea eb) (hbₓ : bk < 4096) (hE6ₓ : E ≤ 6) (h6ₓ : τ 12 6 = (E : Int)) (hEₓ : ERI (τ 12) E K ef etₓ) : ∀ (nₓ e0ₓ mₓ : Nat), e0ₓ ≤ E → mₓ < 2 ^ e0ₓ → (∀ eₓ : Nat, eₓ < e0ₓ → (mₓ.testBit eₓ = true ↔ RC (cnR (τ 12) dₓ N) ea eb (fun iₓ => bk.testBit iₓ = false) (fun iₓ => bk.testBit iₓ = true) (ef eₓ) (etₓ eₓ))) → j_X12_doneBy 0 nₓ 5 [(dₓ : Int), (bk : Int), (mₓ : Int), (e0ₓ : Int)] τ = some (r'ₓ, τ') → τ' = τ ∧ ∃ mₓ : Nat, r'ₓ = (mₓ : Int) ∧ DNB (cnR (τ 12) dₓ N) E ea eb ef etₓ bk mₓ := by
  intro nₓ
  induction nₓ with
  | zero => intro e0ₓ mₓ _ _ _ eₓ; exact none_el eₓ
  | succ nₓ ihₓ =>
    intro e0ₓ mₓ heₓ hmₓ hBₓ eₓ
    rw [e_X12_doneBy_5] at eₓ
    unfold b_X12_doneBy_5 b_X12_doneBy_66 at eₓ
    rw [mRd_e, show τ 12 (6 : Int).toNat = (E : Int) from h6ₓ] at eₓ
    by_cases cₓ : (E : Int) ≤ (e0ₓ : Int)
    · rw [mIf_pos cₓ, mRet_e] at eₓ
      obtain ⟨rfl, rfl⟩ := some_el eₓ
      have ee : e0ₓ = E := by omega
      subst ee
      exact ⟨rfl, mₓ, rfl, hmₓ, hBₓ⟩
    · obtain ⟨h1ₓ, h2ₓ, h3ₓ, h4ₓ⟩ := hEₓ e0ₓ (by omega)
      have ee : (e0ₓ : Int) + 1 = ((e0ₓ + 1 : Nat) : Int) := by omega
      have hpₓ : 2 ^ (e0ₓ + 1) = 2 ^ e0ₓ + 2 ^ e0ₓ := by rw [Nat.pow_succ]; omega
      rw [mIf_neg cₓ, mLet_e, mLet_e, mRd_e, show ((252 : Int) + 2 * (e0ₓ : Int)).toNat = 252 + 2 * e0ₓ by omega, h1ₓ] at eₓ
      obtain ⟨x5ₓ, s6ₓ, d5ₓ, eₓ⟩ := mCall_el eₓ
      obtain ⟨w1ₓ, w2ₓ⟩ := r_comesTo hN1ₓ hNₓ hKₓ hdₓ hbₓ h3ₓ d5ₓ
      have w3ₓ := w2ₓ (etₓ e0ₓ) (by omega)
      rw [w1ₓ, mLet_e, mLet_e, mLet_e, mRd_e, show ((252 : Int) + 2 * (e0ₓ : Int) + 1).toNat = 253 + 2 * e0ₓ by omega, h2ₓ, r_isOf (by omega), mCall_s] at eₓ
      cases hb5ₓ : tb x5ₓ (etₓ e0ₓ) with
      | false =>
        have noₓ : ¬ RC (cnR (τ 12) dₓ N) ea eb (fun iₓ => bk.testBit iₓ = false) (fun iₓ => bk.testBit iₓ = true) (ef e0ₓ) (etₓ e0ₓ) := fun qₓ => by
          rw [w3ₓ.mpr ⟨h4ₓ, qₓ⟩] at hb5ₓ; cases hb5ₓ
        have m0ₓ : mOr ((mₓ : Nat) : Int) 0 = ((mₓ : Nat) : Int) := by
          have hp2ₓ := pow_12 e0ₓ (by omega)
          refine tb_ext mOr_rg ⟨by omega, by omega⟩ (fun xₓ hxₓ => ?_)
          rw [tb_or, tb_0, Bool.or_false]
        rw [hb5ₓ, if_neg (by decide), mIf_pos rfl, mLet_e, mLet_e, m0ₓ, ee] at eₓ
        refine ihₓ (e0ₓ + 1) mₓ (by omega) (by omega) (fun e1ₓ he1ₓ => ?_) eₓ
        by_cases ce : e1ₓ = e0ₓ
        · subst ce
          rw [Nat.testBit_lt_two_pow hmₓ]
          exact ⟨fun qₓ => absurd qₓ (by decide), fun qₓ => absurd qₓ noₓ⟩
        · exact hBₓ e1ₓ (by omega)
      | true =>
        have yesₓ := (w3ₓ.mp hb5ₓ).2
        rw [hb5ₓ, if_pos rfl, mIf_neg (by decide), mLet_e, mLet_e, mLet_e, mOr_top hmₓ (by omega), ee] at eₓ
        refine ihₓ (e0ₓ + 1) (2 ^ e0ₓ + mₓ) (by omega) (by omega) (fun e1ₓ he1ₓ => ?_) eₓ
        by_cases ce : e1ₓ = e0ₓ
        · subst ce
          rw [Nat.testBit_two_pow_add_eq, Nat.testBit_lt_two_pow hmₓ]
          exact ⟨fun _ => yesₓ, fun _ => rfl⟩
        · rw [Nat.testBit_two_pow_add_gt (by omega)]; exact hBₓ e1ₓ (by omega)
theorem r_doneBy (hN1ₓ : τ 12 1 = (N : Int)) (hNₓ : N ≤ 12) (hKₓ : K ≤ 10) (hdₓ : RDI (τ 12) dₓ N K ea eb) (hbₓ : bk < 4096) (hE6ₓ : E ≤ 6) (h6ₓ : τ 12 6 = (E : Int)) (hEₓ : ERI (τ 12) E K ef etₓ) (eₓ : m_X12_doneBy nₓ 0 (dₓ : Int) (bk : Int) τ = some (r'ₓ, τ')) : τ' = τ ∧ ∃ mₓ : Nat, r'ₓ = (mₓ : Int) ∧ DNB (cnR (τ 12) dₓ N) E ea eb ef etₓ bk mₓ := by
  unfold m_X12_doneBy at eₓ
  exact r_done0 hN1ₓ hNₓ hKₓ hdₓ hbₓ hE6ₓ h6ₓ hEₓ nₓ 0 0 (Nat.zero_le _) (by decide) (fun eₓ heₓ => absurd heₓ (Nat.not_lt_zero _)) eₓ
theorem r_bits : ∀ (nₓ sₓ vₓ : Nat), sₓ < 64 → vₓ + pcN sₓ ≤ 100 → j_X12_bits nₓ 4 [(vₓ : Int), (sₓ : Int)] τ = some (r'ₓ, τ') → τ' = τ ∧ r'ₓ = ((vₓ + pcN sₓ : Nat) : Int) := by
  intro nₓ
  induction nₓ with
  | zero => intro sₓ vₓ _ _ eₓ; exact none_el eₓ
  | succ nₓ ihₓ =>
    intro sₓ vₓ hsₓ hv eₓ
    rw [e_X12_bits_4] at eₓ
    unfold b_X12_bits_4 at eₓ
    by_cases cₓ : (sₓ : Int) = 0
    · have esₓ : sₓ = 0 := by omega
      subst esₓ
      rw [mIf_pos cₓ, mRet_e] at eₓ
      obtain ⟨rfl, rfl⟩ := some_el eₓ
      exact ⟨rfl, by rw [pc_0]; rfl⟩
    · obtain ⟨h1ₓ, h2ₓ, h3ₓ⟩ := pc_nx sₓ hsₓ (by omega)
      rw [mIf_neg cₓ, mLet_e, mLet_e, mLet_e, h1ₓ, mAdd_x (by omega) (by omega) (by omega) (by omega) (by omega) (by omega), show (vₓ : Int) + 1 = ((vₓ + 1 : Nat) : Int) by omega] at eₓ
      obtain ⟨w1ₓ, w2ₓ⟩ := ihₓ (sₓ &&& (sₓ - 1)) (vₓ + 1) (by omega) (by omega) eₓ
      exact ⟨w1ₓ, by rw [w2ₓ, h3ₓ]; omega⟩
end
