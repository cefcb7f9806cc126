/-! the reference's comparisons, what waits, brackets, tests -/
def opS (σ : SS) : Nat → List Bool
  | 0 => []
  | kₓ + 1 => if σ 9 kₓ = 11 then false :: opS σ kₓ else if σ 9 kₓ = 91 then true :: opS σ kₓ else opS σ kₓ
def SM (σ : SS) : List Bool := opS σ (σ 0 22).toNat
def OKS (σ : SS) : Prop := 0 ≤ σ 0 22 ∧ σ 0 19 = ((SM σ).length : Int) ∧ σ 0 19 ≤ 10 ∧ (∀ kₓ : Nat, (kₓ : Int) < σ 0 22 → σ 9 kₓ = 11 ∨ σ 9 kₓ = 91 ∨ σ 9 kₓ = 12 ∨ σ 9 kₓ = 13) ∧ (∀ kₓ : Nat, (kₓ : Int) + 1 < σ 0 22 → (σ 9 (kₓ + 1) = 12 ∨ σ 9 (kₓ + 1) = 13) → σ 9 kₓ ≠ 11)
/-- what waits on top is noₓ 'not' -/
def TN (σ : SS) : Prop := σ 0 22 = 0 ∨ σ 9 (σ 0 22 - 1).toNat ≠ 11
def INS (σ : SS) : Prop := ∃ kₓ : Nat, (kₓ : Int) < σ 0 22 ∧ σ 9 kₓ = 91
def KU (σ σ' : SS) : Prop := ∀ qₓ kₓ : Nat, (qₓ = 1 ∨ (qₓ = 0 ∧ (kₓ = 1 ∨ kₓ = 2 ∨ kₓ = 17 ∨ kₓ = 20))) → σ' qₓ kₓ = σ qₓ kₓ
/-- the stack and the tape's place left alone -/
def KW (σ σ' : SS) : Prop := ∀ qₓ kₓ : Nat, (qₓ = 1 ∨ qₓ = 9 ∨ (qₓ = 0 ∧ kₓ ≠ 19 ∧ kₓ ≠ 22)) → σ' qₓ kₓ = σ qₓ kₓ
theorem KU.rf {σ : SS} : KU σ σ := fun _ _ _ => rfl
theorem KU.tr {σ σ' σ'' : SS} (hₓ : KU σ σ') (gₓ : KU σ' σ'') : KU σ σ'' := fun qₓ kₓ eₓ => (gₓ qₓ kₓ eₓ).trans (hₓ qₓ kₓ eₓ)
theorem KS.ku {σ σ' : SS} (hₓ : KS σ σ') : KU σ σ' := fun qₓ kₓ eₓ => hₓ qₓ kₓ (by omega)
theorem KW.ku {σ σ' : SS} (hₓ : KW σ σ') : KU σ σ' := fun qₓ kₓ eₓ => hₓ qₓ kₓ (by omega)
theorem KW.rf {σ : SS} : KW σ σ := fun _ _ _ => rfl
theorem KW.tr {σ σ' σ'' : SS} (hₓ : KW σ σ') (gₓ : KW σ' σ'') : KW σ σ'' := fun qₓ kₓ eₓ => (gₓ qₓ kₓ eₓ).trans (hₓ qₓ kₓ eₓ)
theorem opS_congr {σ σ' : SS} : ∀ kₓ : Nat, (∀ jₓ : Nat, jₓ < kₓ → σ' 9 jₓ = σ 9 jₓ) → opS σ' kₓ = opS σ kₓ
  | 0, _ => rfl
  | kₓ + 1, hₓ => by
    unfold opS
    rw [hₓ kₓ (by omega), opS_congr kₓ (fun jₓ hjₓ => hₓ jₓ (by omega))]
section
variable {F : Int → Int} {N : Int} {ℓ ℓ' ℓ'' : Nat} {S S' S'' : List Bool} {σ σ' σ'' : SS} {pₓ rₓ aₓ bₓ wₓ xₓ : Int} {nₓ : Nat}
theorem SM_eq (h1ₓ : σ' 0 22 = σ 0 22) (h2ₓ : ∀ kₓ : Nat, σ' 9 kₓ = σ 9 kₓ) : SM σ' = SM σ := by
  unfold SM; rw [h1ₓ]; exact opS_congr _ (fun jₓ _ => h2ₓ jₓ)
theorem OKS.eq (hₓ : OKS σ) (h1ₓ : σ' 0 22 = σ 0 22) (h2ₓ : ∀ kₓ : Nat, σ' 9 kₓ = σ 9 kₓ) (h3ₓ : σ' 0 19 = σ 0 19) : OKS σ' := by
  obtain ⟨a1ₓ, a2ₓ, a3ₓ, a4ₓ, a5ₓ⟩ := hₓ
  unfold OKS
  rw [h1ₓ, h3ₓ, SM_eq h1ₓ h2ₓ]
  exact ⟨a1ₓ, a2ₓ, a3ₓ, fun kₓ hkₓ => by rw [h2ₓ]; exact a4ₓ kₓ hkₓ, fun kₓ hkₓ => by rw [h2ₓ, h2ₓ]; exact a5ₓ kₓ hkₓ⟩
theorem TN.eq (hₓ : TN σ) (h1ₓ : σ' 0 22 = σ 0 22) (h2ₓ : ∀ kₓ : Nat, σ' 9 kₓ = σ 9 kₓ) : TN σ' := by unfold TN; rw [h1ₓ, h2ₓ]; exact hₓ
theorem INS.eq (hₓ : INS σ) (h1ₓ : σ' 0 22 = σ 0 22) (h2ₓ : ∀ kₓ : Nat, σ' 9 kₓ = σ 9 kₓ) : INS σ' := by
  obtain ⟨kₓ, aₓ, bₓ⟩ := hₓ; exact ⟨kₓ, by rw [h1ₓ]; exact aₓ, by rw [h2ₓ]; exact bₓ⟩
theorem KS.s (hₓ : KS σ σ') : σ' 0 22 = σ 0 22 ∧ (∀ kₓ : Nat, σ' 9 kₓ = σ 9 kₓ) ∧ σ' 0 19 = σ 0 19 := ⟨hₓ 0 22 (by omega), fun kₓ => hₓ 9 kₓ (by omega), hₓ 0 19 (by omega)⟩
/-- SM at aₓ stack with something on it -/
theorem SM_top (hₓ : 0 < σ 0 22) : SM σ = if σ 9 (σ 0 22 - 1).toNat = 11 then false :: opS σ (σ 0 22 - 1).toNat else if σ 9 (σ 0 22 - 1).toNat = 91 then true :: opS σ (σ 0 22 - 1).toNat else opS σ (σ 0 22 - 1).toNat := by
  unfold SM
  rw [show (σ 0 22).toNat = (σ 0 22 - 1).toNat + 1 by omega]; rfl
theorem TS_of (hₓ : ∀ kₓ : Nat, (kₓ : Int) + 1 < σ 0 22 → (σ 9 (kₓ + 1) = 12 ∨ σ 9 (kₓ + 1) = 13) → σ 9 kₓ ≠ 11) (hkₓ : ∀ kₓ : Nat, (kₓ : Int) < σ 0 22 → σ 9 kₓ = 11 ∨ σ 9 kₓ = 91 ∨ σ 9 kₓ = 12 ∨ σ 9 kₓ = 13) : ∀ mₓ : Nat, (mₓ : Int) ≤ σ 0 22 → (mₓ = 0 ∨ σ 9 (mₓ - 1) ≠ 11) → TS (opS σ mₓ)
  | 0, _, _ => Or.inl rfl
  | mₓ + 1, hmₓ, htₓ => by
    have h1ₓ : σ 9 mₓ ≠ 11 := by rcases htₓ with htₓ | htₓ; exact absurd htₓ (by omega); exact htₓ
    show TS (if σ 9 mₓ = 11 then false :: opS σ mₓ else if σ 9 mₓ = 91 then true :: opS σ mₓ else opS σ mₓ)
    rw [if_neg h1ₓ]
    by_cases cₓ : σ 9 mₓ = 91
    · rw [if_pos cₓ]; exact Or.inr ⟨_, rfl⟩
    · rw [if_neg cₓ]
      refine TS_of hₓ hkₓ mₓ (by omega) ?_
      cases mₓ with
      | zero => exact Or.inl rfl
      | succ jₓ => exact Or.inr (hₓ jₓ (by omega) (by have := hkₓ (jₓ + 1) (by omega); omega))
theorem OKS.ts (hₓ : OKS σ) (htₓ : TN σ) : TS (SM σ) := by
  refine TS_of hₓ.2.2.2.2 hₓ.2.2.2.1 _ (by have := hₓ.1; omega) ?_
  rcases htₓ with htₓ | htₓ
  · exact Or.inl (by omega)
  · by_cases cₓ : σ 0 22 = 0
    · exact Or.inl (by omega)
    · refine Or.inr ?_
      have := hₓ.1
      rw [show (σ 0 22).toNat - 1 = (σ 0 22 - 1).toNat by omega]; exact htₓ
/-- aₓ bracket is open if and only if one stands in SM -/
theorem opS_mem : ∀ mₓ : Nat, true ∈ opS σ mₓ ↔ ∃ kₓ : Nat, kₓ < mₓ ∧ σ 9 kₓ = 91
  | 0 => ⟨fun hₓ => absurd hₓ (by intro qₓ; cases qₓ), fun ⟨kₓ, hₓ, _⟩ => absurd hₓ (by omega)⟩
  | mₓ + 1 => by
    have ihₓ := opS_mem mₓ
    show true ∈ (if σ 9 mₓ = 11 then false :: opS σ mₓ else if σ 9 mₓ = 91 then true :: opS σ mₓ else opS σ mₓ) ↔ _
    by_cases c1ₓ : σ 9 mₓ = 11
    · rw [if_pos c1ₓ]
      constructor
      · intro hₓ
        rcases List.mem_cons.mp hₓ with hₓ | hₓ
        · cases hₓ
        · obtain ⟨kₓ, k1ₓ, k2ₓ⟩ := ihₓ.mp hₓ; exact ⟨kₓ, by omega, k2ₓ⟩
      · rintro ⟨kₓ, k1ₓ, k2ₓ⟩
        refine List.mem_cons_of_mem _ (ihₓ.mpr ⟨kₓ, ?_, k2ₓ⟩)
        rcases Nat.lt_or_ge kₓ mₓ with hₓ | hₓ
        · exact hₓ
        · obtain rfl : kₓ = mₓ := by omega
          omega
    · rw [if_neg c1ₓ]
      by_cases c2ₓ : σ 9 mₓ = 91
      · rw [if_pos c2ₓ]
        exact ⟨fun _ => ⟨mₓ, by omega, c2ₓ⟩, fun _ => List.mem_cons_self⟩
      · rw [if_neg c2ₓ]
        constructor
        · intro hₓ; obtain ⟨kₓ, k1ₓ, k2ₓ⟩ := ihₓ.mp hₓ; exact ⟨kₓ, by omega, k2ₓ⟩
        · rintro ⟨kₓ, k1ₓ, k2ₓ⟩
          refine ihₓ.mpr ⟨kₓ, ?_, k2ₓ⟩
          rcases Nat.lt_or_ge kₓ mₓ with hₓ | hₓ
          · exact hₓ
          · obtain rfl : kₓ = mₓ := by omega
            exact absurd k2ₓ c2ₓ
theorem INS_iff (hₓ : 0 ≤ σ 0 22) : INS σ ↔ true ∈ SM σ := by
  unfold SM
  rw [opS_mem]
  constructor
  · rintro ⟨kₓ, k1ₓ, k2ₓ⟩; exact ⟨kₓ, by omega, k2ₓ⟩
  · rintro ⟨kₓ, k1ₓ, k2ₓ⟩; exact ⟨kₓ, by omega, k2ₓ⟩
def str (sₓ : Int) : Int := if sₓ = 13 then 1 else if sₓ = 12 then 2 else if sₓ = 11 then 3 else 0
theorem r_strength : m_X12_strength nₓ aₓ σ = some (str aₓ, σ) := by
  unfold m_X12_strength str
  by_cases c1ₓ : aₓ = 13
  · rw [mIf_neg (fun qₓ => qₓ c1ₓ), if_pos c1ₓ, mRet_e]
  · rw [mIf_pos c1ₓ, if_neg c1ₓ]
    by_cases c2ₓ : aₓ = 12
    · rw [mIf_neg (fun qₓ => qₓ c2ₓ), if_pos c2ₓ, mRet_e]
    · rw [mIf_pos c2ₓ, if_neg c2ₓ]
      by_cases c3ₓ : aₓ = 11
      · rw [mIf_neg (fun qₓ => qₓ c3ₓ), if_pos c3ₓ, mRet_e]
      · rw [mIf_pos c3ₓ, if_neg c3ₓ, mRet_e]
theorem cfgM_eq (h1ₓ : σ' 0 14 = σ 0 14) (h2ₓ : σ' 0 18 = σ 0 18) (h3ₓ : σ' 0 20 = σ 0 20) : cfgM F N ℓ S σ' = cfgM F N ℓ S σ := by unfold cfgM; rw [h1ₓ, h2ₓ, h3ₓ]
theorem OKM.kw (hₓ : OKM F N σ) (eₓ : KW σ σ') : OKM F N σ' := by
  obtain ⟨a1ₓ, a2ₓ, a3ₓ, a4ₓ, a5ₓ⟩ := hₓ
  unfold OKM
  rw [eₓ 0 14 (by omega), eₓ 0 15 (by omega), eₓ 0 18 (by omega)]
  exact ⟨⟨(eₓ 0 1 (by omega)).trans a1ₓ.1, fun jₓ h0ₓ h1ₓ => by rw [eₓ 1 jₓ.toNat (by omega)]; exact a1ₓ.2 jₓ h0ₓ h1ₓ⟩, a2ₓ, a3ₓ, a4ₓ, a5ₓ⟩
theorem cfgM_kw (eₓ : KW σ σ') : cfgM F N ℓ S σ' = cfgM F N ℓ S σ := cfgM_eq (eₓ 0 14 (by omega)) (eₓ 0 18 (by omega)) (eₓ 0 20 (by omega))
theorem r_settles0 (hl1ₓ : 1 ≤ aₓ) (hl3ₓ : aₓ ≤ 3) : ∀ (nₓ : Nat) (σ : SS), OKM F N σ → OKS σ → j_X12_settles 0 nₓ 0 [aₓ] σ = some (rₓ, σ') → OKS σ' ∧ KW σ σ' ∧ St F N (cfgM F N 7 (SM σ) σ) (cfgM F N 7 (SM σ') σ') ∧ (σ' 0 22 = 0 ∨ str (σ' 9 (σ' 0 22 - 1).toNat) < aₓ) ∧ (INS σ → INS σ') ∧ (TN σ → SM σ' = SM σ) := by
  intro nₓ
  induction nₓ with
  | zero => intro σ hₓ hsₓ eₓ; exact none_el eₓ
  | succ nₓ ihₓ =>
    intro σ hₓ hsₓ eₓ
    rw [e_X12_settles_0] at eₓ
    unfold b_X12_settles_0 at eₓ
    obtain ⟨a1ₓ, a2ₓ, a3ₓ, a4ₓ, a5ₓ⟩ := id hsₓ
    rw [mRd_e] at eₓ
    by_cases c0ₓ : σ 0 22 ≤ 0
    · rw [mIf_pos c0ₓ] at eₓ
      obtain ⟨-, rfl⟩ := some_el eₓ
      exact ⟨hsₓ, KW.rf, St_rf, Or.inl (by omega), id, fun _ => rfl⟩
    rw [mIf_neg c0ₓ, mRd_e, mLet_e, mRd_e, r_strength, mCall_s] at eₓ
    by_cases cs : str (σ 9 (σ 0 22 - 1).toNat) < aₓ
    · rw [mIf_pos cs] at eₓ
      obtain ⟨-, rfl⟩ := some_el eₓ
      exact ⟨hsₓ, KW.rf, St_rf, Or.inr cs, id, fun _ => rfl⟩
    rw [mIf_neg cs, mRd_e, mLet_e, mWr_e, mRd_e, mRd_e, upS_s, upS_q (show (9 : Nat) ≠ 0 by decide)] at eₓ
    obtain ⟨r1ₓ, s1ₓ, e1ₓ, eₓ⟩ := mCall_el eₓ
    have hppₓ := r_puts e1ₓ
    have b22ₓ : s1ₓ 0 22 = σ 0 22 - 1 := by rw [hppₓ 0 22 (by decide) (by decide)]; exact upS_s
    have b9ₓ : ∀ kₓ : Nat, s1ₓ 9 kₓ = σ 9 kₓ := fun kₓ => by rw [hppₓ 9 kₓ (by decide) (by decide), upS_q (by decide)]
    have bk : KW σ s1ₓ := fun qₓ kₓ cₓ => by rw [hppₓ qₓ kₓ (by omega) (by omega), upS_n (by omega)]
    have b19ₓ : s1ₓ 0 19 = σ 0 19 := by rw [hppₓ 0 19 (by decide) (by decide), upS_n (by omega)]
    rw [mRd_e, mRd_e, b22ₓ, b9ₓ] at eₓ
    have hkindₓ := a4ₓ (σ 0 22 - 1).toNat (by omega)
    have hcutₓ : ∀ τ : SS, τ 0 22 = σ 0 22 - 1 → (∀ kₓ : Nat, τ 9 kₓ = σ 9 kₓ) → SM τ = opS σ (σ 0 22 - 1).toNat := by
      intro τ h1ₓ h2ₓ; unfold SM; rw [h1ₓ]; exact opS_congr _ (fun jₓ _ => h2ₓ jₓ)
    have hinsₓ : ∀ τ : SS, τ 0 22 = σ 0 22 - 1 → (∀ kₓ : Nat, τ 9 kₓ = σ 9 kₓ) → σ 9 (σ 0 22 - 1).toNat ≠ 91 → INS σ → INS τ := by
      rintro τ h1ₓ h2ₓ h3ₓ ⟨kₓ, k1ₓ, k2ₓ⟩
      refine ⟨kₓ, ?_, by rw [h2ₓ]; exact k2ₓ⟩
      rw [h1ₓ]
      rcases Int.lt_or_le (kₓ : Int) (σ 0 22 - 1) with h4ₓ | h4ₓ
      · exact h4ₓ
      · obtain rfl : kₓ = (σ 0 22 - 1).toNat := by omega
        exact absurd k2ₓ h3ₓ
    by_cases c11ₓ : σ 9 (σ 0 22 - 1).toNat = 11
    · rw [mIf_neg (fun qₓ => qₓ c11ₓ), mRd_e, mLet_e, mWr_e] at eₓ
      have t22ₓ : upS s1ₓ 0 19 (s1ₓ 0 19 - 1) 0 22 = σ 0 22 - 1 := by rw [upS_n (by omega)]; exact b22ₓ
      have t9ₓ : ∀ kₓ : Nat, upS s1ₓ 0 19 (s1ₓ 0 19 - 1) 9 kₓ = σ 9 kₓ := fun kₓ => by rw [upS_q (by decide)]; exact b9ₓ kₓ
      have t19ₓ : upS s1ₓ 0 19 (s1ₓ 0 19 - 1) 0 19 = σ 0 19 - 1 := by rw [upS_s, b19ₓ]
      have tk : KW σ (upS s1ₓ 0 19 (s1ₓ 0 19 - 1)) := fun qₓ kₓ cₓ => by rw [upS_n (by omega)]; exact bk qₓ kₓ cₓ
      have eS : SM σ = false :: SM (upS s1ₓ 0 19 (s1ₓ 0 19 - 1)) := by rw [SM_top (by omega), if_pos c11ₓ, hcutₓ _ t22ₓ t9ₓ]
      have hs1ₓ : OKS (upS s1ₓ 0 19 (s1ₓ 0 19 - 1)) := by
        unfold OKS
        rw [t22ₓ, t19ₓ]
        rw [eS, List.length_cons] at a2ₓ
        refine ⟨by omega, by omega, by omega, fun kₓ hkₓ => by rw [t9ₓ]; exact a4ₓ kₓ (by omega), fun kₓ hkₓ => by rw [t9ₓ, t9ₓ]; exact a5ₓ kₓ (by omega)⟩
      obtain ⟨i1ₓ, i2ₓ, i3ₓ, i4ₓ, i5ₓ, i6ₓ⟩ := ihₓ _ (hₓ.kw tk) hs1ₓ eₓ
      refine ⟨i1ₓ, tk.tr i2ₓ, ?_, i4ₓ, fun qₓ => i5ₓ (hinsₓ _ t22ₓ t9ₓ (by omega) qₓ), fun qₓ => ?_⟩
      · refine St.tr ?_ i3ₓ
        rw [cfgM_kw tk, eS]
        exact St_one rfl
      · rcases qₓ with qₓ | qₓ
        · omega
        · exact absurd c11ₓ qₓ
    · rw [mIf_pos c11ₓ] at eₓ
      have c91ₓ : σ 9 (σ 0 22 - 1).toNat ≠ 91 := by
        intro qₓ; rw [qₓ] at cs; unfold str at cs
        rw [if_neg (by decide), if_neg (by decide), if_neg (by decide)] at cs; omega
      have eS : SM σ = SM s1ₓ := by rw [SM_top (by omega), if_neg c11ₓ, if_neg c91ₓ, hcutₓ _ b22ₓ b9ₓ]
      have hs1ₓ : OKS s1ₓ := by
        unfold OKS
        rw [b22ₓ, b19ₓ, ← eS]
        refine ⟨by omega, a2ₓ, a3ₓ, fun kₓ hkₓ => by rw [b9ₓ]; exact a4ₓ kₓ (by omega), fun kₓ hkₓ => by rw [b9ₓ, b9ₓ]; exact a5ₓ kₓ (by omega)⟩
      have tn1 : TN s1ₓ := by
        unfold TN
        rw [b22ₓ]
        by_cases cz : σ 0 22 - 1 = 0
        · exact Or.inl cz
        · refine Or.inr ?_
          rw [b9ₓ]
          have h9ₓ := a5ₓ (σ 0 22 - 1 - 1).toNat (by omega)
          rw [show (σ 0 22 - 1 - 1).toNat + 1 = (σ 0 22 - 1).toNat by omega] at h9ₓ
          exact h9ₓ (by omega)
      obtain ⟨i1ₓ, i2ₓ, i3ₓ, i4ₓ, i5ₓ, i6ₓ⟩ := ihₓ _ (hₓ.kw bk) hs1ₓ eₓ
      refine ⟨i1ₓ, bk.tr i2ₓ, ?_, i4ₓ, fun qₓ => i5ₓ (hinsₓ _ b22ₓ b9ₓ c91ₓ qₓ), fun _ => (i6ₓ tn1).trans eS.symm⟩
      rw [eS, ← cfgM_kw bk]; exact i3ₓ
theorem r_settles (hl1ₓ : 1 ≤ aₓ) (hl3ₓ : aₓ ≤ 3) (hₓ : OKM F N σ) (hsₓ : OKS σ) (eₓ : m_X12_settles nₓ 0 aₓ σ = some (rₓ, σ')) : OKS σ' ∧ KW σ σ' ∧ St F N (cfgM F N 7 (SM σ) σ) (cfgM F N 7 (SM σ') σ') ∧ (σ' 0 22 = 0 ∨ str (σ' 9 (σ' 0 22 - 1).toNat) < aₓ) ∧ (INS σ → INS σ') ∧ (TN σ → SM σ' = SM σ) := r_settles0 hl1ₓ hl3ₓ nₓ σ hₓ hsₓ eₓ
theorem str_tn (hlₓ : aₓ ≤ 3) (hₓ : σ 0 22 = 0 ∨ str (σ 9 (σ 0 22 - 1).toNat) < aₓ) : TN σ := by
  rcases hₓ with hₓ | hₓ
  · exact Or.inl hₓ
  · refine Or.inr (fun qₓ => ?_)
    rw [qₓ] at hₓ; unfold str at hₓ
    rw [if_neg (by decide), if_neg (by decide), if_pos rfl] at hₓ; omega
theorem r_isInside0 : ∀ (nₓ : Nat) (vₓ : Int), 0 ≤ vₓ → (∀ kₓ : Nat, (kₓ : Int) < vₓ → σ 9 kₓ ≠ 91) → j_X12_isInside 0 nₓ 2 [vₓ] σ = some (rₓ, σ') → ((rₓ = 1 ∧ INS σ) ∨ (rₓ = 0 ∧ ¬ INS σ)) ∧ σ' = σ := by
  intro nₓ
  induction nₓ with
  | zero => intro vₓ h0ₓ hv eₓ; exact none_el eₓ
  | succ nₓ ihₓ =>
    intro vₓ h0ₓ hv eₓ
    rw [e_X12_isInside_2] at eₓ
    unfold b_X12_isInside_2 at eₓ
    rw [mRd_e] at eₓ
    by_cases cₓ : σ 0 22 ≤ vₓ
    · rw [mIf_pos cₓ] at eₓ
      obtain ⟨rfl, rfl⟩ := some_el eₓ
      exact ⟨Or.inr ⟨rfl, fun ⟨kₓ, k1ₓ, k2ₓ⟩ => hv kₓ (by omega) k2ₓ⟩, rfl⟩
    · rw [mIf_neg cₓ, mRd_e] at eₓ
      by_cases c2ₓ : σ 9 vₓ.toNat = 91
      · rw [mIf_neg (fun qₓ => qₓ c2ₓ)] at eₓ
        obtain ⟨rfl, rfl⟩ := some_el eₓ
        exact ⟨Or.inl ⟨rfl, ⟨vₓ.toNat, by omega, c2ₓ⟩⟩, rfl⟩
      · rw [mIf_pos c2ₓ, mLet_e] at eₓ
        refine ihₓ (vₓ + 1) (by omega) (fun kₓ hkₓ => ?_) eₓ
        rcases Int.lt_or_le (kₓ : Int) vₓ with h4ₓ | h4ₓ
        · exact hv kₓ h4ₓ
        · obtain rfl : kₓ = vₓ.toNat := by omega
          exact c2ₓ
theorem r_isInside (eₓ : m_X12_isInside nₓ 0 σ = some (rₓ, σ')) : ((rₓ = 1 ∧ INS σ) ∨ (rₓ = 0 ∧ ¬ INS σ)) ∧ σ' = σ := r_isInside0 nₓ 0 (by decide) (fun kₓ hkₓ => absurd hkₓ (by omega)) eₓ
end
