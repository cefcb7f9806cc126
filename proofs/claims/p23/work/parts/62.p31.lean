/-! ways compared -/
/-- noₓ way to lay the roads does all these errands -/
def CLH (M E : Nat) (ea eb ef etₓ : Nat → Nat) (mₓ : Nat) : Prop := ∀ bₓ : Nat, bₓ < 2 ^ M → ¬ ∀ eₓ : Nat, eₓ < E → mₓ.testBit eₓ = true → RC M ea eb (fun iₓ => bₓ.testBit iₓ = false) (fun iₓ => bₓ.testBit iₓ = true) (ef eₓ) (etₓ eₓ)
/-- the least of the smallest clashes -/
def BST (M E : Nat) (ea eb ef etₓ : Nat → Nat) (lo : Nat) (bₓ : Nat) : Prop := bₓ < 2 ^ E ∧ CLH M E ea eb ef etₓ bₓ ∧ ∀ mₓ : Nat, lo < mₓ → mₓ < 2 ^ E → CLH M E ea eb ef etₓ mₓ → pcN bₓ < pcN mₓ ∨ (pcN bₓ = pcN mₓ ∧ bₓ ≤ mₓ)
/-- what all tries have left -/
def CBD (M E : Nat) (ea eb ef etₓ : Nat → Nat) (kₓ : Nat) (τ : SS) : Prop := ∀ mₓ : Nat, mₓ < 64 → (¬ τ 20 mₓ = 0 ↔ ∃ bₓ : Nat, bₓ < kₓ ∧ DNB M E ea eb ef etₓ bₓ mₓ)
section
variable {D : Nat → Int} {dₓ N K M E bk fₓ sₓ : Nat} {τ τ' : SS} {r'ₓ was : Int} {ea eb ef etₓ : Nat → Nat} {nₓ : Nat} {what : Int}
theorem DNB_ex : ∃ mₓ : Nat, DNB M E ea eb ef etₓ bk mₓ := bits_of (fun eₓ => RC M ea eb (fun iₓ => bk.testBit iₓ = false) (fun iₓ => bk.testBit iₓ = true) (ef eₓ) (etₓ eₓ)) E
theorem CLH_d {mₓ : Nat} (hmₓ : mₓ < 2 ^ E) : CLH M E ea eb ef etₓ mₓ ↔ ∀ bₓ kₓ : Nat, bₓ < 2 ^ M → DNB M E ea eb ef etₓ bₓ kₓ → ¬ kₓ &&& mₓ = mₓ := by
  constructor
  · intro hₓ bₓ kₓ hbₓ hkₓ qₓ
    exact hₓ bₓ hbₓ (fun eₓ heₓ htₓ => (hkₓ.2 eₓ heₓ).mp (sub_bits.mp qₓ eₓ htₓ))
  · intro hₓ bₓ hbₓ qₓ
    obtain ⟨kₓ, hkₓ⟩ := DNB_ex (M := M) (E := E) (ea := ea) (eb := eb) (ef := ef) (etₓ := etₓ) (bk := bₓ)
    refine hₓ bₓ kₓ hbₓ hkₓ (sub_bits.mpr (fun eₓ htₓ => ?_))
    by_cases cₓ : eₓ < E
    · exact (hkₓ.2 eₓ cₓ).mpr (qₓ eₓ cₓ htₓ)
    · rw [Nat.testBit_lt_two_pow (Nat.lt_of_lt_of_le hmₓ (Nat.pow_le_pow_right (by decide) (by omega)))] at htₓ; cases htₓ
theorem r_isClash {mₓ : Nat} (hE6ₓ : E ≤ 6) (hmₓ : mₓ < 2 ^ E) (hCₓ : CBD M E ea eb ef etₓ (2 ^ M) τ) : ∀ (nₓ kₓ : Nat), kₓ ≤ 2 ^ E → (∀ k'ₓ : Nat, k'ₓ < kₓ → ¬ τ 20 k'ₓ = 0 → ¬ k'ₓ &&& mₓ = mₓ) → j_X12_isClash 0 nₓ 2 [(mₓ : Int), ((2 ^ E - 1 : Nat) : Int), (kₓ : Int)] τ = some (r'ₓ, τ') → τ' = τ ∧ ((r'ₓ = 1 ∧ CLH M E ea eb ef etₓ mₓ) ∨ (r'ₓ = 0 ∧ ¬ CLH M E ea eb ef etₓ mₓ)) := by
  have hpₓ := pow_6 E hE6ₓ
  have hp1ₓ : 0 < 2 ^ E := Nat.two_pow_pos E
  intro nₓ
  induction nₓ with
  | zero => intro kₓ _ _ eₓ; exact none_el eₓ
  | succ nₓ ihₓ =>
    intro kₓ hkₓ hNₓ eₓ
    rw [e_X12_isClash_2] at eₓ
    unfold b_X12_isClash_2 b_X12_isClash_25 at eₓ
    have ek : (kₓ : Int) + 1 = ((kₓ + 1 : Nat) : Int) := by omega
    by_cases cₓ : ((2 ^ E - 1 : Nat) : Int) < (kₓ : Int)
    · rw [mIf_pos cₓ, mRet_e] at eₓ
      obtain ⟨rfl, rfl⟩ := some_el eₓ
      refine ⟨rfl, Or.inl ⟨rfl, (CLH_d hmₓ).mpr (fun bₓ k2ₓ hbₓ hk2ₓ => hNₓ k2ₓ ?_ ((hCₓ k2ₓ ?_).mpr ⟨bₓ, hbₓ, hk2ₓ⟩))⟩⟩
      · have := hk2ₓ.1
        omega
      · have := hk2ₓ.1
        omega
    · have kk : ((kₓ : Nat) : Int).toNat = kₓ := by omega
      rw [mIf_neg cₓ, mRd_e, kk] at eₓ
      have next : (¬ τ 20 kₓ = 0 → ¬ kₓ &&& mₓ = mₓ) → j_X12_isClash 0 nₓ 2 [(mₓ : Int), ((2 ^ E - 1 : Nat) : Int), ((kₓ + 1 : Nat) : Int)] τ = some (r'ₓ, τ') → τ' = τ ∧ ((r'ₓ = 1 ∧ CLH M E ea eb ef etₓ mₓ) ∨ (r'ₓ = 0 ∧ ¬ CLH M E ea eb ef etₓ mₓ)) := fun qₓ q2ₓ => ihₓ (kₓ + 1) (by omega) (fun k'ₓ hk'ₓ => by
        by_cases e'ₓ : k'ₓ = kₓ
        · subst e'ₓ; exact qₓ
        · exact hNₓ k'ₓ (by omega)) q2ₓ
      by_cases c1ₓ : τ 20 kₓ = 0
      · rw [mIf_pos c1ₓ, mLet_e, ek] at eₓ
        exact next (fun qₓ => absurd c1ₓ qₓ) eₓ
      · rw [mIf_neg c1ₓ, mLet_e, mAnd_nat (by omega) (by omega)] at eₓ
        by_cases c2ₓ : ((kₓ &&& mₓ : Nat) : Int) = (mₓ : Int)
        · rw [mIf_neg (fun qₓ => qₓ c2ₓ), mRet_e] at eₓ
          obtain ⟨rfl, rfl⟩ := some_el eₓ
          refine ⟨rfl, Or.inr ⟨rfl, fun qₓ => ?_⟩⟩
          obtain ⟨bₓ, b1ₓ, b2ₓ⟩ := (hCₓ kₓ (by omega)).mp c1ₓ
          exact (CLH_d hmₓ).mp qₓ bₓ kₓ b1ₓ b2ₓ (by omega)
        · rw [mIf_pos c2ₓ, mLet_e, ek] at eₓ
          exact next (fun _ qₓ => c2ₓ (by rw [qₓ])) eₓ
theorem r_177 (hE6ₓ : E ≤ 6) : ∀ (nₓ bₓ mₓ : Nat) (τ : SS), mₓ < 2 ^ E → CBD M E ea eb ef etₓ (2 ^ M) τ → BST M E ea eb ef etₓ mₓ bₓ → mₓ ≤ bₓ → j_X12_ways 0 nₓ 177 [((2 ^ E - 1 : Nat) : Int), (bₓ : Int), (mₓ : Int)] τ = some (r'ₓ, τ') → ∃ bₓ : Nat, r'ₓ = (bₓ : Int) ∧ BST M E ea eb ef etₓ 0 bₓ := by
  have hpₓ := pow_6 E hE6ₓ
  intro nₓ
  induction nₓ with
  | zero => intro bₓ mₓ τ _ _ _ _ eₓ; exact none_el eₓ
  | succ nₓ ihₓ =>
    intro bₓ mₓ τ hmₓ hCₓ hBₓ hmbₓ eₓ
    rw [e_X12_ways_177] at eₓ
    unfold b_X12_ways_177 b_X12_ways_210 at eₓ
    by_cases cₓ : (mₓ : Int) ≤ 0
    · have em : mₓ = 0 := by omega
      subst em
      rw [mIf_pos cₓ, mRet_e] at eₓ
      obtain ⟨rfl, rfl⟩ := some_el eₓ
      exact ⟨bₓ, rfl, hBₓ⟩
    · obtain ⟨gₓ, rfl⟩ : ∃ gₓ : Nat, mₓ = gₓ + 1 := ⟨mₓ - 1, by omega⟩
      have eg : ((gₓ + 1 : Nat) : Int) + -1 = (gₓ : Int) := by omega
      rw [mIf_neg cₓ] at eₓ
      obtain ⟨x1ₓ, s2ₓ, d1ₓ, eₓ⟩ := mCall_el eₓ
      unfold m_X12_isClash at d1ₓ
      obtain ⟨w1ₓ, w2ₓ⟩ := r_isClash hE6ₓ hmₓ hCₓ nₓ 0 (Nat.zero_le _) (fun k'ₓ hk'ₓ => absurd hk'ₓ (Nat.not_lt_zero _)) d1ₓ
      rw [w1ₓ] at eₓ
      rcases w2ₓ with ⟨v1ₓ, v2ₓ⟩ | ⟨v1ₓ, v2ₓ⟩
      · rw [v1ₓ, mIf_neg (by decide)] at eₓ
        obtain ⟨x3ₓ, s4ₓ, d3ₓ, eₓ⟩ := mCall_el eₓ
        unfold m_X12_bits at d3ₓ
        have p1ₓ := pc_le (gₓ + 1) (by omega)
        have p2ₓ := pc_le bₓ (by have := hBₓ.1; omega)
        obtain ⟨u1ₓ, u2ₓ⟩ := r_bits nₓ (gₓ + 1) 0 (by omega) (by omega) d3ₓ
        rw [u1ₓ] at eₓ
        obtain ⟨x5ₓ, s6ₓ, d5ₓ, eₓ⟩ := mCall_el eₓ
        unfold m_X12_bits at d5ₓ
        obtain ⟨u3ₓ, u4ₓ⟩ := r_bits nₓ bₓ 0 (by have := hBₓ.1; omega) (by omega) d5ₓ
        rw [u3ₓ, u2ₓ, u4ₓ] at eₓ
        by_cases cl : ((0 + pcN bₓ : Nat) : Int) < ((0 + pcN (gₓ + 1) : Nat) : Int)
        · rw [mIf_pos cl, mLet_e, eg] at eₓ
          refine ihₓ bₓ gₓ τ (by omega) hCₓ ⟨hBₓ.1, hBₓ.2.1, fun mₓ h1ₓ h2ₓ h3ₓ => ?_⟩ (by omega) eₓ
          by_cases em : mₓ = gₓ + 1
          · subst em; exact Or.inl (by omega)
          · exact hBₓ.2.2 mₓ (by omega) h2ₓ h3ₓ
        · rw [mIf_neg cl, mLet_e, eg] at eₓ
          refine ihₓ (gₓ + 1) gₓ τ (by omega) hCₓ ⟨hmₓ, v2ₓ, fun mₓ h1ₓ h2ₓ h3ₓ => ?_⟩ (by omega) eₓ
          by_cases em : mₓ = gₓ + 1
          · subst em; exact Or.inr ⟨rfl, Nat.le_refl _⟩
          · have qₓ := hBₓ.2.2 mₓ (by omega) h2ₓ h3ₓ
            omega
      · rw [v1ₓ, mIf_pos rfl, mLet_e, eg] at eₓ
        refine ihₓ bₓ gₓ τ (by omega) hCₓ ⟨hBₓ.1, hBₓ.2.1, fun mₓ h1ₓ h2ₓ h3ₓ => ?_⟩ (by omega) eₓ
        by_cases em : mₓ = gₓ + 1
        · subst em; exact absurd h3ₓ v2ₓ
        · exact hBₓ.2.2 mₓ (by omega) h2ₓ h3ₓ
/-- what the reference's tries come to -/
def TRS (M E : Nat) (ea eb ef etₓ : Nat → Nat) (what r'ₓ : Int) : Prop := (∃ kₓ : Nat, kₓ < 2 ^ M ∧ ALL M E ea eb ef etₓ kₓ ∧ (∀ k'ₓ : Nat, k'ₓ < kₓ → ¬ ALL M E ea eb ef etₓ k'ₓ) ∧ r'ₓ = if what = 0 then (kₓ : Int) else 0) ∨ ((∀ kₓ : Nat, kₓ < 2 ^ M → ¬ ALL M E ea eb ef etₓ kₓ) ∧ ((what = 0 ∧ r'ₓ = -2) ∨ (what ≠ 0 ∧ ∃ bₓ : Nat, r'ₓ = (bₓ : Int) ∧ BST M E ea eb ef etₓ 0 bₓ)))
theorem ALL_d {kₓ mₓ : Nat} (hₓ : DNB M E ea eb ef etₓ kₓ mₓ) : ALL M E ea eb ef etₓ kₓ ↔ mₓ = 2 ^ E - 1 := by
  rw [all_bits hₓ.1]
  exact ⟨fun qₓ eₓ heₓ => (hₓ.2 eₓ heₓ).mpr (qₓ eₓ heₓ), fun qₓ eₓ heₓ => (hₓ.2 eₓ heₓ).mp (qₓ eₓ heₓ)⟩
theorem r_113 (hN1ₓ : D 1 = (N : Int)) (hNₓ : N ≤ 12) (hKₓ : K ≤ 10) (hdₓ : RDI D dₓ N K ea eb) (hE6ₓ : E ≤ 6) (h6ₓ : D 6 = (E : Int)) (hEₓ : ERI D E K ef etₓ) (hMₓ : M = cnR D dₓ N) : ∀ (nₓ bk : Nat) (τ : SS), bk ≤ 2 ^ M → τ 12 = D → (∀ kₓ : Nat, kₓ < bk → ¬ ALL M E ea eb ef etₓ kₓ) → CBD M E ea eb ef etₓ bk τ → j_X12_ways 0 nₓ 113 [(dₓ : Int), what, (M : Int), ((2 ^ E - 1 : Nat) : Int), (bk : Int)] τ = some (r'ₓ, τ') → TRS M E ea eb ef etₓ what r'ₓ := by
  have hM12ₓ : M ≤ 12 := by rw [hMₓ]; exact Nat.le_trans (cn_le N) hNₓ
  have hpₓ := pow_6 E hE6ₓ
  have hp1ₓ : 0 < 2 ^ E := Nat.two_pow_pos E
  have hpMₓ := pow_12 M hM12ₓ
  intro nₓ
  induction nₓ with
  | zero => intro bk τ _ _ _ _ eₓ; exact none_el eₓ
  | succ nₓ ihₓ =>
    intro bk τ hkₓ hDₓ hAₓ hCₓ eₓ
    rw [e_X12_ways_113] at eₓ
    unfold b_X12_ways_113 at eₓ
    rw [mLet_e, shl_pow M (by omega)] at eₓ
    by_cases cₓ : ((2 ^ M : Nat) : Int) ≤ (bk : Int)
    · have ek : bk = 2 ^ M := by omega
      subst ek
      rw [mIf_pos cₓ] at eₓ
      by_cases cw : what = 0
      · rw [mIf_neg (fun qₓ => qₓ cw), mRet_e] at eₓ
        exact Or.inr ⟨hAₓ, Or.inl ⟨cw, (some_el eₓ).1⟩⟩
      · rw [mIf_pos cw] at eₓ
        refine Or.inr ⟨hAₓ, Or.inr ⟨cw, r_177 hE6ₓ nₓ (2 ^ E - 1) (2 ^ E - 1) τ (by omega) hCₓ ⟨by omega, fun bₓ hbₓ qₓ => hAₓ bₓ hbₓ (fun eₓ heₓ => qₓ eₓ heₓ ?_), fun mₓ h1ₓ h2ₓ _ => absurd h2ₓ (by omega)⟩ (Nat.le_refl _) eₓ⟩⟩
        rw [Nat.testBit_two_pow_sub_one, decide_eq_true heₓ]
    · rw [mIf_neg cₓ] at eₓ
      obtain ⟨x2ₓ, s3ₓ, d2ₓ, eₓ⟩ := mCall_el eₓ
      obtain ⟨w1ₓ, mₓ, w2ₓ, w3ₓ⟩ := r_doneBy (by rw [hDₓ]; exact hN1ₓ) hNₓ hKₓ (by rw [hDₓ]; exact hdₓ) (by omega) hE6ₓ (by rw [hDₓ]; exact h6ₓ) (by rw [hDₓ]; exact hEₓ) d2ₓ
      rw [hDₓ, ← hMₓ] at w3ₓ
      have hmₓ := w3ₓ.1
      have ek : (bk : Int) + 1 = ((bk + 1 : Nat) : Int) := by omega
      rw [w1ₓ, w2ₓ] at eₓ
      by_cases ca : (mₓ : Int) = ((2 ^ E - 1 : Nat) : Int)
      · have hAkₓ : ALL M E ea eb ef etₓ bk := (ALL_d w3ₓ).mpr (by omega)
        rw [mIf_neg (fun qₓ => qₓ ca)] at eₓ
        refine Or.inl ⟨bk, by omega, hAkₓ, hAₓ, ?_⟩
        by_cases cw : what = 0
        · rw [mIf_neg (fun qₓ => qₓ cw), mRet_e] at eₓ
          rw [if_pos cw]; exact (some_el eₓ).1
        · rw [mIf_pos cw, mRet_e] at eₓ
          rw [if_neg cw]; exact (some_el eₓ).1
      · rw [mIf_pos ca, mWr_e, mLet_e, ek, show ((mₓ : Nat) : Int).toNat = mₓ by omega] at eₓ
        refine ihₓ (bk + 1) _ (by omega) ?_ (fun kₓ hk2ₓ => ?_) (fun m'ₓ hm'ₓ => ?_) eₓ
        · funext kₓ
          rw [upS_q (by decide), hDₓ]
        · by_cases e'ₓ : kₓ = bk
          · subst e'ₓ
            exact fun qₓ => ca (by rw [(ALL_d w3ₓ).mp qₓ])
          · exact hAₓ kₓ (by omega)
        · by_cases em : m'ₓ = mₓ
          · subst em
            rw [upS_s]
            exact ⟨fun _ => ⟨bk, Nat.lt_succ_self bk, w3ₓ⟩, fun _ => by decide⟩
          · rw [upS_k em, hCₓ m'ₓ hm'ₓ]
            constructor
            · rintro ⟨bₓ, b1ₓ, b2ₓ⟩
              exact ⟨bₓ, by omega, b2ₓ⟩
            · rintro ⟨bₓ, b1ₓ, b2ₓ⟩
              by_cases eb2 : bₓ = bk
              · subst eb2; exact absurd (DNB_un b2ₓ w3ₓ) em
              · exact ⟨bₓ, by omega, b2ₓ⟩
theorem r_89 (hN1ₓ : D 1 = (N : Int)) (hNₓ : N ≤ 12) (hKₓ : K ≤ 10) (hdₓ : RDI D dₓ N K ea eb) (hE6ₓ : E ≤ 6) (h6ₓ : D 6 = (E : Int)) (hEₓ : ERI D E K ef etₓ) (hMₓ : M = cnR D dₓ N) : ∀ (nₓ xₓ : Nat) (τ : SS), xₓ ≤ 64 → τ 12 = D → (∀ mₓ : Nat, mₓ < xₓ → τ 20 mₓ = 0) → j_X12_ways 0 nₓ 89 [(dₓ : Int), what, (M : Int), ((2 ^ E - 1 : Nat) : Int), (xₓ : Int)] τ = some (r'ₓ, τ') → TRS M E ea eb ef etₓ what r'ₓ := by
  intro nₓ
  induction nₓ with
  | zero => intro xₓ τ _ _ _ eₓ; exact none_el eₓ
  | succ nₓ ihₓ =>
    intro xₓ τ hxₓ hDₓ hzₓ eₓ
    rw [e_X12_ways_89] at eₓ
    unfold b_X12_ways_89 at eₓ
    by_cases cₓ : (64 : Int) ≤ (xₓ : Int)
    · rw [mIf_pos cₓ] at eₓ
      exact r_113 hN1ₓ hNₓ hKₓ hdₓ hE6ₓ h6ₓ hEₓ hMₓ nₓ 0 τ (Nat.zero_le _) hDₓ (fun kₓ hkₓ => absurd hkₓ (Nat.not_lt_zero _)) (fun mₓ hmₓ => ⟨fun qₓ => absurd (hzₓ mₓ (by omega)) qₓ, fun ⟨bₓ, b1ₓ, _⟩ => absurd b1ₓ (Nat.not_lt_zero _)⟩) eₓ
    · rw [mIf_neg cₓ, mWr_e, mLet_e, show ((xₓ : Nat) : Int).toNat = xₓ by omega, show (xₓ : Int) + 1 = ((xₓ + 1 : Nat) : Int) by omega] at eₓ
      refine ihₓ (xₓ + 1) _ (by omega) ?_ (fun mₓ hmₓ => ?_) eₓ
      · funext kₓ
        rw [upS_q (by decide), hDₓ]
      · by_cases em : mₓ = xₓ
        · subst em; exact upS_s
        · rw [upS_k em]; exact hzₓ mₓ (by omega)
theorem r_36 (hN1ₓ : D 1 = (N : Int)) (hNₓ : N ≤ 12) (hKₓ : K ≤ 10) (hdₓ : RDI D dₓ N K ea eb) (hE6ₓ : E ≤ 6) (h6ₓ : D 6 = (E : Int)) (hEₓ : ERI D E K ef etₓ) : ∀ (nₓ sₓ : Nat) (τ : SS), sₓ ≤ N → τ 12 = D → j_X12_ways 0 nₓ 36 [(dₓ : Int), what, ((cnR D dₓ sₓ : Nat) : Int), (sₓ : Int)] τ = some (r'ₓ, τ') → TRS (cnR D dₓ N) E ea eb ef etₓ what r'ₓ := by
  have hpₓ := pow_6 E hE6ₓ
  have hp1ₓ : 0 < 2 ^ E := Nat.two_pow_pos E
  intro nₓ
  induction nₓ with
  | zero => intro sₓ τ _ _ eₓ; exact none_el eₓ
  | succ nₓ ihₓ =>
    intro sₓ τ hsₓ hDₓ eₓ
    rw [e_X12_ways_36] at eₓ
    unfold b_X12_ways_36 b_X12_ways_65 at eₓ
    rw [mRd_e, show τ 12 (1 : Int).toNat = (N : Int) by rw [hDₓ]; exact hN1ₓ] at eₓ
    by_cases cₓ : (N : Int) ≤ (sₓ : Int)
    · have esₓ : sₓ = N := by omega
      subst esₓ
      rw [mIf_pos cₓ, mRd_e, show τ 12 (6 : Int).toNat = (E : Int) by rw [hDₓ]; exact h6ₓ, mLet_e, shl_pow E (by omega), mLet_e, show ((2 ^ E : Nat) : Int) - 1 = ((2 ^ E - 1 : Nat) : Int) by omega] at eₓ
      exact r_89 hN1ₓ hNₓ hKₓ hdₓ hE6ₓ h6ₓ hEₓ rfl nₓ 0 τ (Nat.zero_le _) hDₓ (fun mₓ hmₓ => absurd hmₓ (Nat.not_lt_zero _)) eₓ
    · have esₓ : (sₓ : Int) + 1 = ((sₓ + 1 : Nat) : Int) := by omega
      rw [mIf_neg cₓ, mLet_e, r_so3, mCall_s, hDₓ] at eₓ
      by_cases cz : D (13 + 10 * sₓ + dₓ) = 0
      · rw [mIf_neg (fun qₓ => qₓ cz), mLet_e, mLet_e, esₓ, Int.add_zero, ← cn_0 cz] at eₓ
        exact ihₓ (sₓ + 1) τ (by omega) hDₓ eₓ
      · rw [mIf_pos cz, mLet_e, mLet_e, esₓ, show ((cnR D dₓ sₓ : Nat) : Int) + 1 = ((cnR D dₓ (sₓ + 1) : Nat) : Int) by rw [cn_1 cz]; omega] at eₓ
        exact ihₓ (sₓ + 1) τ (by omega) hDₓ eₓ
/-- roads told to be one way each give aₓ number, and back -/
theorem ALL_of {A : Nat → Prop} {sₓ : Nat → Nat} (h1ₓ : ∀ iₓ : Nat, iₓ < M → sₓ iₓ = 1 ∨ sₓ iₓ = 2) (h2ₓ : ∀ eₓ : Nat, eₓ < E → A eₓ → RC M ea eb (Fo sₓ) (Ba sₓ) (ef eₓ) (etₓ eₓ)) : ∃ kₓ : Nat, kₓ < 2 ^ M ∧ ∀ eₓ : Nat, eₓ < E → A eₓ → RC M ea eb (fun iₓ => kₓ.testBit iₓ = false) (fun iₓ => kₓ.testBit iₓ = true) (ef eₓ) (etₓ eₓ) := by
  obtain ⟨kₓ, k1ₓ, k2ₓ⟩ := bits_of (fun iₓ => sₓ iₓ = 2) M
  refine ⟨kₓ, k1ₓ, fun eₓ heₓ haₓ => RC_mn (h2ₓ eₓ heₓ haₓ) (fun iₓ hiₓ hFₓ => ?_) (fun iₓ hiₓ hBₓ => ?_)⟩
  · have q1ₓ := h1ₓ iₓ hiₓ
    have q2ₓ := k2ₓ iₓ hiₓ
    cases hbₓ : kₓ.testBit iₓ with
    | false => rfl
    | true =>
      have q3ₓ := q2ₓ.mp hbₓ
      unfold Fo at hFₓ
      omega
  · have q1ₓ := h1ₓ iₓ hiₓ
    unfold Ba at hBₓ
    exact (k2ₓ iₓ hiₓ).mpr (by omega)
theorem one_of (bₓ : Nat) : ∃ sₓ : Nat → Nat, (∀ iₓ : Nat, iₓ < M → sₓ iₓ = 1 ∨ sₓ iₓ = 2) ∧ ∀ xₓ yₓ : Nat, RC M ea eb (fun iₓ => bₓ.testBit iₓ = false) (fun iₓ => bₓ.testBit iₓ = true) xₓ yₓ → RC M ea eb (Fo sₓ) (Ba sₓ) xₓ yₓ := by
  refine ⟨fun iₓ => if bₓ.testBit iₓ = true then 2 else 1, fun iₓ _ => ?_, fun xₓ yₓ hₓ => RC_mn hₓ (fun iₓ _ hFₓ => ?_) (fun iₓ _ hBₓ => ?_)⟩
  · by_cases cₓ : bₓ.testBit iₓ = true
    · exact Or.inr (if_pos cₓ)
    · exact Or.inl (if_neg cₓ)
  · exact Or.inr (show (if bₓ.testBit iₓ = true then 2 else 1) = 1 by rw [if_neg (by rw [hFₓ]; decide)])
  · exact Or.inr (show (if bₓ.testBit iₓ = true then 2 else 1) = 2 by rw [if_pos hBₓ])
/-- errands that goₓ over noₓ road both ways can be done together -/
theorem CLH_no {mₓ : Nat} (hcₓ : CLH M E ea eb ef etₓ mₓ) (huₓ : ∀ eₓ : Nat, eₓ < E → mₓ.testBit eₓ = true → RC M ea eb (fun _ => True) (fun _ => True) (ef eₓ) (etₓ eₓ)) : ∃ rₓ eₓ e'ₓ : Nat, rₓ < M ∧ eₓ < E ∧ e'ₓ < E ∧ mₓ.testBit eₓ = true ∧ mₓ.testBit e'ₓ = true ∧ (RC M ea eb (fun jₓ => jₓ ≠ rₓ) (fun jₓ => jₓ ≠ rₓ) (ea rₓ) (ef eₓ) ∧ ¬ RC M ea eb (fun jₓ => jₓ ≠ rₓ) (fun jₓ => jₓ ≠ rₓ) (ea rₓ) (etₓ eₓ)) ∧ ¬ RC M ea eb (fun jₓ => jₓ ≠ rₓ) (fun jₓ => jₓ ≠ rₓ) (ea rₓ) (ef e'ₓ) ∧ RC M ea eb (fun jₓ => jₓ ≠ rₓ) (fun jₓ => jₓ ≠ rₓ) (ea rₓ) (etₓ e'ₓ) := by
  by_cases hₓ : ∃ rₓ eₓ e'ₓ : Nat, rₓ < M ∧ eₓ < E ∧ e'ₓ < E ∧ mₓ.testBit eₓ = true ∧ mₓ.testBit e'ₓ = true ∧ (RC M ea eb (fun jₓ => jₓ ≠ rₓ) (fun jₓ => jₓ ≠ rₓ) (ea rₓ) (ef eₓ) ∧ ¬ RC M ea eb (fun jₓ => jₓ ≠ rₓ) (fun jₓ => jₓ ≠ rₓ) (ea rₓ) (etₓ eₓ)) ∧ ¬ RC M ea eb (fun jₓ => jₓ ≠ rₓ) (fun jₓ => jₓ ≠ rₓ) (ea rₓ) (ef e'ₓ) ∧ RC M ea eb (fun jₓ => jₓ ≠ rₓ) (fun jₓ => jₓ ≠ rₓ) (ea rₓ) (etₓ e'ₓ)
  · exact hₓ
  · exfalso
    obtain ⟨sₓ, s1ₓ, s2ₓ⟩ := one_ways (A := fun eₓ => mₓ.testBit eₓ = true) huₓ (fun rₓ eₓ e'ₓ h1ₓ h2ₓ h3ₓ h4ₓ h5ₓ qₓ => hₓ ⟨rₓ, eₓ, e'ₓ, h1ₓ, h2ₓ, h3ₓ, h4ₓ, h5ₓ, qₓ⟩)
    obtain ⟨kₓ, k1ₓ, k2ₓ⟩ := ALL_of s1ₓ s2ₓ
    exact hcₓ kₓ k1ₓ k2ₓ
/-- both sides' clashes -/
theorem cls_eq {cₓ : Int} {bₓ : Nat} (hE6ₓ : E ≤ 6) (hcₓ : CLS M E ea eb ef etₓ cₓ) (hnoₓ : ∀ kₓ : Nat, kₓ < 2 ^ M → ¬ ALL M E ea eb ef etₓ kₓ) (hbₓ : BST M E ea eb ef etₓ 0 bₓ) : cₓ = (bₓ : Int) ∧ cₓ ≠ 0 := by
  obtain ⟨b1ₓ, b2ₓ, b3ₓ⟩ := hbₓ
  have hpₓ := pow_6 E hE6ₓ
  -- aₓ clash is noₓ empty one
  have h0ₓ : bₓ ≠ 0 := fun qₓ => by
    subst qₓ
    exact b2ₓ 0 (Nat.two_pow_pos M) (fun eₓ _ htₓ => by rw [Nat.zero_testBit] at htₓ; cases htₓ)
  have p1ₓ := pc_pos bₓ (by omega) h0ₓ
  -- one errand alone that is not cut off is none
  have single : ∀ eₓ : Nat, eₓ < E → RC M ea eb (fun _ => True) (fun _ => True) (ef eₓ) (etₓ eₓ) → ¬ CLH M E ea eb ef etₓ (2 ^ eₓ) := fun eₓ heₓ huₓ hcₓ => by
    have htₓ : ∀ xₓ : Nat, (2 ^ eₓ).testBit xₓ = true → xₓ = eₓ := fun xₓ qₓ => by
      rw [Nat.testBit_two_pow, decide_eq_true_iff] at qₓ; exact qₓ.symm
    obtain ⟨rₓ, e1ₓ, e2ₓ, -, -, -, g1ₓ, g2ₓ, g3ₓ, g4ₓ⟩ := CLH_no hcₓ (fun xₓ _ qₓ => by rw [htₓ xₓ qₓ]; exact huₓ)
    rw [htₓ e1ₓ g1ₓ] at g3ₓ
    rw [htₓ e2ₓ g2ₓ] at g4ₓ
    exact g4ₓ.1 g3ₓ.1
  rcases hcₓ with ⟨eₓ, e1ₓ, e2ₓ, e3ₓ, e4ₓ⟩ | ⟨huₓ, hMₓ⟩
  · have hclₓ : CLH M E ea eb ef etₓ (2 ^ eₓ) := fun kₓ _ qₓ => by
      have gₓ := qₓ eₓ e1ₓ (by rw [Nat.testBit_two_pow, decide_eq_true rfl])
      exact e3ₓ (RC_mn gₓ (fun _ _ _ => trivial) (fun _ _ _ => trivial))
    have qₓ := b3ₓ (2 ^ eₓ) (Nat.two_pow_pos eₓ) (pow_lt6 eₓ (by omega) E hE6ₓ e1ₓ) hclₓ
    rw [pc_p1 eₓ (by omega)] at qₓ
    have pb : pcN bₓ = 1 := by omega
    obtain ⟨l1ₓ, l2ₓ⟩ := pc_one bₓ (by omega) pb
    have le : loN bₓ < E := pow_ge _ l1ₓ E hE6ₓ (by rw [← l2ₓ]; exact b1ₓ)
    have lle : bₓ ≤ 2 ^ eₓ := by omega
    have hnotₓ : ¬ loN bₓ < eₓ := fun wₓ => by
      rw [l2ₓ] at b2ₓ
      exact single (loN bₓ) le (e4ₓ _ wₓ) b2ₓ
    have eb : loN bₓ = eₓ := by
      by_cases wₓ : eₓ < loN bₓ
      · have := Nat.pow_lt_pow_right (show 1 < 2 by decide) wₓ
        omega
      · omega
    rw [e2ₓ, shl_pow eₓ (by omega), l2ₓ, eb]
    refine ⟨rfl, ?_⟩
    have := Nat.two_pow_pos eₓ
    omega
  · have pb : pcN bₓ ≠ 1 := fun wₓ => by
      obtain ⟨l1ₓ, l2ₓ⟩ := pc_one bₓ (by omega) wₓ
      have le : loN bₓ < E := pow_ge _ l1ₓ E hE6ₓ (by rw [← l2ₓ]; exact b1ₓ)
      rw [l2ₓ] at b2ₓ
      exact single (loN bₓ) le (huₓ _ le) b2ₓ
    rcases hMₓ with ⟨-, h2ₓ⟩ | ⟨⟨iₓ, jₓ, ⟨rr, r1ₓ, hijₓ, hjEₓ, hprₓ⟩, h2ₓ⟩, h3ₓ⟩
    · exfalso
      obtain ⟨rₓ, eₓ, e'ₓ, g0ₓ, g1ₓ, g2ₓ, -, -, g3ₓ, g4ₓ⟩ := CLH_no b2ₓ (fun eₓ heₓ _ => huₓ eₓ heₓ)
      rcases Nat.lt_trichotomy eₓ e'ₓ with wₓ | wₓ | wₓ
      · exact h2ₓ eₓ e'ₓ ⟨rₓ, g0ₓ, wₓ, g2ₓ, Or.inl ⟨g3ₓ.1, g3ₓ.2, g4ₓ.1, g4ₓ.2⟩⟩
      · subst wₓ; exact g4ₓ.1 g3ₓ.1
      · exact h2ₓ e'ₓ eₓ ⟨rₓ, g0ₓ, wₓ, g1ₓ, Or.inr ⟨g4ₓ.1, g4ₓ.2, g3ₓ.1, g3ₓ.2⟩⟩
    · obtain ⟨q1ₓ, q2ₓ, q3ₓ⟩ := pc_p2 iₓ (by omega) jₓ (by omega) hijₓ
      have hclₓ : CLH M E ea eb ef etₓ (2 ^ iₓ + 2 ^ jₓ) := fun kₓ hkₓ qₓ => by
        obtain ⟨sₓ, s1ₓ, s2ₓ⟩ := one_of (M := M) (ea := ea) (eb := eb) kₓ
        have gi := s2ₓ _ _ (qₓ iₓ (by omega) (by rw [q3ₓ iₓ (by omega), decide_eq_true_iff]; exact Or.inl rfl))
        have gj := s2ₓ _ _ (qₓ jₓ (by omega) (by rw [q3ₓ jₓ (by omega), decide_eq_true_iff]; exact Or.inr rfl))
        rcases hprₓ with ⟨a1ₓ, a2ₓ, a3ₓ, a4ₓ⟩ | ⟨a1ₓ, a2ₓ, a3ₓ, a4ₓ⟩
        · exact odds_no r1ₓ s1ₓ a1ₓ a2ₓ a3ₓ a4ₓ gi gj
        · exact odds_no r1ₓ s1ₓ a3ₓ a4ₓ a1ₓ a2ₓ gj gi
      have qₓ := b3ₓ (2 ^ iₓ + 2 ^ jₓ) (by have q7ₓ := Nat.two_pow_pos iₓ; have q8ₓ := Nat.two_pow_pos jₓ; omega) (pow_lt2 iₓ (by omega) jₓ (by omega) E hE6ₓ hijₓ hjEₓ) hclₓ
      rw [q1ₓ] at qₓ
      have pb2 : pcN bₓ = 2 := by omega
      obtain ⟨l1ₓ, l2ₓ, l3ₓ⟩ := pc_two bₓ (by omega) pb2
      obtain ⟨m1ₓ, m2ₓ, m3ₓ⟩ := pc_p2 (loN bₓ) (by omega) (hiN bₓ) l2ₓ l1ₓ
      have hhiₓ : hiN bₓ < E := pow_ge _ l2ₓ E hE6ₓ (by have := Nat.two_pow_pos (loN bₓ); omega)
      have hbtₓ : ∀ eₓ : Nat, eₓ < E → bₓ.testBit eₓ = true → eₓ = loN bₓ ∨ eₓ = hiN bₓ := fun eₓ heₓ htₓ => by
        rw [l3ₓ, m3ₓ eₓ (by omega), decide_eq_true_iff] at htₓ; exact htₓ
      obtain ⟨rₓ, eₓ, e'ₓ, g0ₓ, g1ₓ, g2ₓ, t1ₓ, t2ₓ, g3ₓ, g4ₓ⟩ := CLH_no b2ₓ (fun eₓ heₓ _ => huₓ eₓ heₓ)
      have hleₓ : cₓ ≤ pvv (loN bₓ) (hiN bₓ) := by
        have w1ₓ := hbtₓ eₓ g1ₓ t1ₓ
        have w2ₓ := hbtₓ e'ₓ g2ₓ t2ₓ
        rcases w1ₓ with w1ₓ | w1ₓ
        · rcases w2ₓ with w2ₓ | w2ₓ
          · rw [w1ₓ] at g3ₓ; rw [w2ₓ] at g4ₓ; exact absurd g3ₓ.1 g4ₓ.1
          · rw [w1ₓ] at g3ₓ; rw [w2ₓ] at g4ₓ
            exact h3ₓ _ _ ⟨rₓ, g0ₓ, l1ₓ, hhiₓ, Or.inl ⟨g3ₓ.1, g3ₓ.2, g4ₓ.1, g4ₓ.2⟩⟩
        · rcases w2ₓ with w2ₓ | w2ₓ
          · rw [w1ₓ] at g3ₓ; rw [w2ₓ] at g4ₓ
            exact h3ₓ _ _ ⟨rₓ, g0ₓ, l1ₓ, hhiₓ, Or.inr ⟨g4ₓ.1, g4ₓ.2, g3ₓ.1, g3ₓ.2⟩⟩
          · rw [w1ₓ] at g3ₓ; rw [w2ₓ] at g4ₓ; exact absurd g3ₓ.1 g4ₓ.1
      rw [m2ₓ, ← l3ₓ] at hleₓ
      rw [h2ₓ, q2ₓ] at hleₓ ⊢
      have := Nat.two_pow_pos iₓ
      omega
/-- where all can be done there is noₓ clash -/
theorem cls_0 {cₓ : Int} {kₓ : Nat} (hcₓ : CLS M E ea eb ef etₓ cₓ) (hAₓ : ALL M E ea eb ef etₓ kₓ) : cₓ = 0 := by
  obtain ⟨sₓ, s1ₓ, s2ₓ⟩ := one_of (M := M) (ea := ea) (eb := eb) kₓ
  rcases hcₓ with ⟨eₓ, e1ₓ, e2ₓ, e3ₓ, e4ₓ⟩ | ⟨huₓ, hMₓ⟩
  · exact absurd (RC_mn (hAₓ eₓ e1ₓ) (fun _ _ _ => trivial) (fun _ _ _ => trivial)) e3ₓ
  · rcases hMₓ with ⟨h1ₓ, -⟩ | ⟨⟨iₓ, jₓ, ⟨rr, r1ₓ, hijₓ, hjEₓ, hprₓ⟩, h2ₓ⟩, h3ₓ⟩
    · exact h1ₓ
    · exfalso
      have gi := s2ₓ _ _ (hAₓ iₓ (by omega))
      have gj := s2ₓ _ _ (hAₓ jₓ hjEₓ)
      rcases hprₓ with ⟨a1ₓ, a2ₓ, a3ₓ, a4ₓ⟩ | ⟨a1ₓ, a2ₓ, a3ₓ, a4ₓ⟩
      · exact odds_no r1ₓ s1ₓ a1ₓ a2ₓ a3ₓ a4ₓ gi gj
      · exact odds_no r1ₓ s1ₓ a3ₓ a4ₓ a1ₓ a2ₓ gj gi
end
section
variable {σ σ' τ τ' : SS} {rₓ r'ₓ xₓ yₓ : Int} {nₓ n'ₓ : Nat}
theorem c_isWd : m_X11_isWeekday nₓ xₓ σ = some (if 0 ≤ xₓ ∧ xₓ ≤ 6 then 1 else 0, σ) := by
  unfold m_X11_isWeekday b_X11_isWeekday_14
  by_cases c1ₓ : xₓ < 0
  · rw [mIf_pos c1ₓ, if_neg (by omega)]; rfl
  · rw [mIf_neg c1ₓ]
    by_cases c2ₓ : 7 ≤ xₓ
    · rw [mIf_pos c2ₓ, if_neg (by omega)]; rfl
    · rw [mIf_neg c2ₓ, if_pos (by omega)]; rfl
theorem f_ways (hₓ : SRel 38 σ (τ 12)) (hWₓ : WF (τ 12)) (e1ₓ : m_X11_ways nₓ 0 xₓ yₓ σ = some (rₓ, σ')) (e2ₓ : m_X12_ways n'ₓ 0 xₓ yₓ τ = some (r'ₓ, τ')) : rₓ = r'ₓ := by
  have t8ₓ : σ 39 8 = τ 12 0 := hₓ.2.1.1.1
  have t9ₓ : σ 39 9 = τ 12 1 := hₓ.2.1.1.2.1
  obtain ⟨hGₓ, hWeₓ, -, -, -, -, n6ₓ, -, -⟩ := id hWₓ
  obtain ⟨⟨g0ₓ, g1ₓ, g2ₓ, g3ₓ⟩, -⟩ := id hGₓ
  obtain ⟨K, hKₓ⟩ : ∃ K : Nat, τ 12 0 = (K : Int) := ⟨(τ 12 0).toNat, by omega⟩
  obtain ⟨N, hNₓ⟩ : ∃ N : Nat, τ 12 1 = (N : Int) := ⟨(τ 12 1).toNat, by omega⟩
  obtain ⟨E, hEₓ⟩ : ∃ E : Nat, τ 12 6 = (E : Int) := ⟨(τ 12 6).toNat, by omega⟩
  unfold m_X11_ways b_X11_ways_26 at e1ₓ
  rw [c_hasTown, mCall_s, t8ₓ] at e1ₓ
  unfold m_X12_ways b_X12_ways_29 at e2ₓ
  rw [r_isTown, mCall_s] at e2ₓ
  by_cases ct : 0 < τ 12 0
  · rw [if_pos ct, mIf_neg (by decide), c_isWd, mCall_s] at e1ₓ
    rw [if_pos ct, mIf_neg (by decide), mLet_e, r_in, mCall_s] at e2ₓ
    by_cases c1ₓ : 0 ≤ xₓ ∧ xₓ ≤ 6
    · rw [if_pos c1ₓ, mIf_neg (by decide)] at e1ₓ
      rw [if_pos c1ₓ, mIf_neg (by decide), mLet_e, r_in, mCall_s] at e2ₓ
      by_cases c2ₓ : 0 ≤ yₓ ∧ yₓ ≤ 1
      · rw [mIf_neg (show ¬ yₓ < 0 by omega), mIf_pos c2ₓ.2] at e1ₓ
        rw [if_pos c2ₓ, mIf_pos (by decide)] at e2ₓ
        obtain ⟨dₓ, hdₓ⟩ : ∃ dₓ : Nat, xₓ = (dₓ : Int) := ⟨xₓ.toNat, by omega⟩
        subst hdₓ
        have hRaₓ : ∀ sₓ : Nat, sₓ < N → StR (τ 12) K sₓ := fun sₓ hs2ₓ => StR_G hGₓ hKₓ (by omega)
        obtain ⟨x1ₓ, s5ₓ, d1ₓ, e1ₓ⟩ := mCall_el e1ₓ
        obtain ⟨w1ₓ, R, w2ₓ, w3ₓ⟩ := c_take (by omega) (by omega) (t8ₓ.trans hKₓ) (t9ₓ.trans hNₓ) (fun sₓ hs2ₓ => COs_S hₓ hGₓ (by omega)) hRaₓ (by omega) d1ₓ
        obtain ⟨x6ₓ, s7ₓ, d2ₓ, e1ₓ⟩ := mCall_el e1ₓ
        have hM12ₓ : cnR (τ 12) dₓ N ≤ 12 := Nat.le_trans (cn_le N) (by omega)
        have hECₓ : ECl E K (fun eₓ => (τ 12 (252 + 2 * eₓ)).toNat) (fun eₓ => (τ 12 (253 + 2 * eₓ)).toNat) s5ₓ := by
          refine ⟨(w1ₓ 38 10 (by omega) (by decide)).trans ((show σ 38 10 = τ 12 6 from hₓ.2.2.2.1.2.1).trans hEₓ), fun eₓ heₓ => ?_⟩
          obtain ⟨q1ₓ, q2ₓ, q3ₓ, q4ₓ, -⟩ := hWeₓ eₓ (by omega)
          obtain ⟨p1ₓ, p2ₓ⟩ := hₓ.2.2.2.2.2.2.1 eₓ (by omega)
          refine ⟨?_, ?_, ?_, ?_⟩
          · show s5ₓ 50 eₓ = (((τ 12 (252 + 2 * eₓ)).toNat : Nat) : Int)
            rw [w1ₓ 50 eₓ (by omega) (by decide), show σ 50 eₓ = τ 12 (252 + 2 * eₓ) from p1ₓ]; omega
          · show s5ₓ 51 eₓ = (((τ 12 (253 + 2 * eₓ)).toNat : Nat) : Int)
            rw [w1ₓ 51 eₓ (by omega) (by decide), show σ 51 eₓ = τ 12 (253 + 2 * eₓ) from p2ₓ]; omega
          · show (τ 12 (252 + 2 * eₓ)).toNat < K
            omega
          · show (τ 12 (253 + 2 * eₓ)).toNat < K
            omega
        have hERIₓ : ERI (τ 12) E K (fun eₓ => (τ 12 (252 + 2 * eₓ)).toNat) (fun eₓ => (τ 12 (253 + 2 * eₓ)).toNat) := fun eₓ heₓ => by
          obtain ⟨q1ₓ, q2ₓ, q3ₓ, q4ₓ, -⟩ := hWeₓ eₓ (by omega)
          show τ 12 (252 + 2 * eₓ) = (((τ 12 (252 + 2 * eₓ)).toNat : Nat) : Int) ∧ τ 12 (253 + 2 * eₓ) = (((τ 12 (253 + 2 * eₓ)).toNat : Nat) : Int) ∧ (τ 12 (252 + 2 * eₓ)).toNat < K ∧ (τ 12 (253 + 2 * eₓ)).toNat < K
          exact ⟨by omega, by omega, by omega, by omega⟩
        have hRDIₓ : RDI (τ 12) dₓ N K (fun kₓ => (τ 12 (10 + 10 * R kₓ)).toNat) (fun kₓ => (τ 12 (11 + 10 * R kₓ)).toNat) := fun sₓ hsₓ hzₓ => by
          obtain ⟨u1ₓ, u2ₓ, u3ₓ⟩ := w2ₓ _ (cn_lt hzₓ hsₓ)
          have esₓ : R (cnR (τ 12) dₓ sₓ) = sₓ := by
            rcases Nat.lt_trichotomy (R (cnR (τ 12) dₓ sₓ)) sₓ with qₓ | qₓ | qₓ
            · have := cn_lt (D := τ 12) (dₓ := dₓ) u2ₓ qₓ
              omega
            · exact qₓ
            · have := cn_lt (D := τ 12) (dₓ := dₓ) hzₓ qₓ
              omega
          obtain ⟨r1ₓ, r2ₓ, r3ₓ, r4ₓ, -⟩ := hRaₓ sₓ hsₓ
          show τ 12 (10 + 10 * sₓ) = (((τ 12 (10 + 10 * R (cnR (τ 12) dₓ sₓ))).toNat : Nat) : Int) ∧ τ 12 (11 + 10 * sₓ) = (((τ 12 (11 + 10 * R (cnR (τ 12) dₓ sₓ))).toNat : Nat) : Int) ∧ (τ 12 (10 + 10 * R (cnR (τ 12) dₓ sₓ))).toNat < K ∧ (τ 12 (11 + 10 * R (cnR (τ 12) dₓ sₓ))).toNat < K
          rw [esₓ]
          exact ⟨by omega, by omega, by omega, by omega⟩
        obtain ⟨v1ₓ, v2ₓ⟩ := c_clash (by omega) hM12ₓ (by omega) w3ₓ hECₓ d2ₓ
        have hTₓ := r_36 (what := yₓ) hNₓ (by omega) (by omega) hRDIₓ (by omega) hEₓ hERIₓ n'ₓ 0 τ (Nat.zero_le _) rfl e2ₓ
        rcases hTₓ with ⟨kₓ, k1ₓ, k2ₓ, k3ₓ, k4ₓ⟩ | ⟨k1ₓ, k2ₓ⟩
        · have ec := cls_0 v2ₓ k2ₓ
          by_cases cy : yₓ = 1
          · rw [mIf_neg (fun qₓ => qₓ cy), mRet_e] at e1ₓ
            rw [k4ₓ, if_neg (by omega)]
            exact (some_el e1ₓ).1.trans ec
          · rw [mIf_pos cy, mIf_pos ec] at e1ₓ
            obtain ⟨x8ₓ, s9ₓ, d3ₓ, e1ₓ⟩ := mCall_el e1ₓ
            rw [mRet_e] at e1ₓ
            have hlₓ := c_findLeast (by omega) hM12ₓ (by omega) (RDC_k w3ₓ (fun qₓ kₓ hqₓ => v1ₓ qₓ kₓ (by omega))) (ECl_k hECₓ (fun qₓ kₓ hqₓ => v1ₓ qₓ kₓ (by omega))) d3ₓ
            rw [k4ₓ, if_pos (by omega), (some_el e1ₓ).1]
            rcases hlₓ with ⟨-, hlₓ⟩ | ⟨k'ₓ, l1ₓ, l2ₓ, l3ₓ, l4ₓ, l5ₓ⟩
            · exact absurd k2ₓ (hlₓ kₓ (Nat.zero_le _) (by omega))
            · rw [l1ₓ]
              rcases Nat.lt_trichotomy kₓ k'ₓ with qₓ | qₓ | qₓ
              · exact absurd k2ₓ (l5ₓ kₓ (Nat.zero_le _) qₓ)
              · rw [qₓ]
              · exact absurd l4ₓ (k3ₓ k'ₓ qₓ)
        · by_cases cy : yₓ = 1
          · rw [mIf_neg (fun qₓ => qₓ cy), mRet_e] at e1ₓ
            rcases k2ₓ with ⟨qₓ, -⟩ | ⟨-, bₓ, b1ₓ, b2ₓ⟩
            · exfalso; omega
            · rw [(some_el e1ₓ).1, b1ₓ]
              exact (cls_eq (by omega) v2ₓ k1ₓ b2ₓ).1
          · rcases k2ₓ with ⟨-, qₓ⟩ | ⟨qₓ, -⟩
            · have hneₓ : ¬ x6ₓ = 0 := fun wₓ => by
                rcases v2ₓ with ⟨eₓ, e1'ₓ, e2'ₓ, e3'ₓ, e4'ₓ⟩ | ⟨huₓ, hMₓ⟩
                · rw [wₓ, shl_pow eₓ (by omega)] at e2'ₓ
                  have := Nat.two_pow_pos eₓ
                  omega
                · rcases hMₓ with ⟨-, h2ₓ⟩ | ⟨⟨iₓ, jₓ, ⟨rr, r1ₓ, hijₓ, hjEₓ, hprₓ⟩, h2ₓ⟩, h3ₓ⟩
                  · obtain ⟨sₓ, s1ₓ, s2ₓ⟩ := one_ways (M := cnR (τ 12) dₓ N) (A := fun _ => True) (fun eₓ heₓ _ => huₓ eₓ heₓ) (fun rₓ eₓ e'ₓ g0ₓ g1ₓ g2ₓ _ _ gₓ => by
                      rcases Nat.lt_trichotomy eₓ e'ₓ with wₓ | wₓ | wₓ
                      · exact h2ₓ eₓ e'ₓ ⟨rₓ, g0ₓ, wₓ, g2ₓ, Or.inl ⟨gₓ.1.1, gₓ.1.2, gₓ.2.1, gₓ.2.2⟩⟩
                      · subst wₓ; exact gₓ.2.1 gₓ.1.1
                      · exact h2ₓ e'ₓ eₓ ⟨rₓ, g0ₓ, wₓ, g1ₓ, Or.inr ⟨gₓ.2.1, gₓ.2.2, gₓ.1.1, gₓ.1.2⟩⟩)
                    obtain ⟨kₓ, k3ₓ, k4ₓ⟩ := ALL_of s1ₓ s2ₓ
                    exact k1ₓ kₓ k3ₓ (fun eₓ heₓ => k4ₓ eₓ heₓ trivial)
                  · have := pvv_pos iₓ (by omega) jₓ (by omega) hijₓ
                    omega
              rw [mIf_pos cy, mIf_neg hneₓ, mRet_e] at e1ₓ
              exact (some_el e1ₓ).1.trans qₓ.symm
            · exfalso; omega
      · rw [if_neg c2ₓ, mIf_neg (fun qₓ => qₓ rfl)] at e2ₓ
        by_cases c4ₓ : yₓ < 0
        · rw [mIf_pos c4ₓ] at e1ₓ; exact (some_el e1ₓ).1.trans (some_el e2ₓ).1.symm
        · rw [mIf_neg c4ₓ, mIf_neg (show ¬ yₓ ≤ 1 by omega)] at e1ₓ; exact (some_el e1ₓ).1.trans (some_el e2ₓ).1.symm
    · rw [if_neg c1ₓ, mIf_pos rfl] at e1ₓ
      rw [if_neg c1ₓ, mIf_pos rfl] at e2ₓ
      exact (some_el e1ₓ).1.trans (some_el e2ₓ).1.symm
  · rw [if_neg ct, mIf_pos rfl] at e1ₓ
    rw [if_neg ct, mIf_pos rfl] at e2ₓ
    exact (some_el e1ₓ).1.trans (some_el e2ₓ).1.symm
end
