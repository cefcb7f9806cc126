/-! when aₓ street is open, by what was told; the class's openHours, firstOpen -/
def sgP (D : Nat → Int) (sₓ side day : Nat) : Bool := tb (D (13 + 10 * sₓ + day % 7)) side
def clP (D : Nat → Int) (sₓ day kₓ : Nat) : Prop := (D (140 + 2 * kₓ) = D (10 + 10 * sₓ) ∨ D (140 + 2 * kₓ) = D (11 + 10 * sₓ)) ∧ D (141 + 2 * kₓ) = ((day % 360 : Nat) : Int)
def clD (D : Nat → Int) (sₓ day : Nat) : Prop := ∃ kₓ : Nat, (kₓ : Int) < D 2 ∧ clP D sₓ day kₓ
def liD (D : Nat → Int) (sₓ hₓ : Nat) : Prop := ∃ kₓ : Nat, (kₓ : Int) < D 3 ∧ lfP D sₓ hₓ kₓ
def opD (D : Nat → Int) (sₓ side tₓ : Nat) : Prop := sgP D sₓ side (tₓ / 24) = true ∧ ¬ clD D sₓ (tₓ / 24) ∧ ¬ liD D sₓ (tₓ % 24)
/-- what the class keeps of aₓ street and of the saints, as far as it asks when it is open -/
def COs (D : Nat → Int) (σ : SS) (sₓ : Nat) : Prop := CS 39 D σ sₓ ∧ σ 47 sₓ = szN D sₓ (D 2).toNat ∧ (∀ kₓ : Nat, (kₓ : Int) < D 2 → σ 46 kₓ = D (141 + 2 * kₓ)) ∧ (0 ≤ D 2 ∧ D 2 ≤ 8) ∧ (0 ≤ D 3 ∧ D 3 ≤ 4) ∧ (∀ jₓ : Nat, jₓ < 7 → 0 ≤ D (13 + 10 * sₓ + jₓ) ∧ D (13 + 10 * sₓ + jₓ) ≤ 3) ∧ ∀ kₓ : Nat, (kₓ : Int) < D 3 → 0 ≤ D (157 + 3 * kₓ) ∧ D (157 + 3 * kₓ) ≤ 23 ∧ D (157 + 3 * kₓ) < D (158 + 3 * kₓ) ∧ D (158 + 3 * kₓ) ≤ 24
section
variable {σ σ' : SS} {rₓ : Int} {D : Nat → Int} {sₓ side day : Nat}
theorem li_tb (hₓ : COs D σ sₓ) {hrₓ : Nat} (hhₓ : hrₓ < 32) : tb (σ 43 sₓ) hrₓ = true ↔ liD D sₓ hrₓ := by
  obtain ⟨⟨z1ₓ, z2ₓ, z3ₓ, z4ₓ, z5ₓ, z6ₓ, z7ₓ⟩, -, -, -, h3ₓ, -, hlₓ⟩ := hₓ
  have eₓ : σ 43 sₓ = lfN D sₓ (D 3).toNat := z5ₓ
  rw [eₓ, tb_lf hhₓ _ (fun jₓ hjₓ => hlₓ jₓ (by omega))]
  exact ⟨fun ⟨jₓ, hjₓ, hpₓ⟩ => ⟨jₓ, by omega, hpₓ⟩, fun ⟨jₓ, hjₓ, hpₓ⟩ => ⟨jₓ, by omega, hpₓ⟩⟩
theorem c_oh0 (hₓ : COs D σ sₓ) : ∀ (nₓ iₓ : Nat) (B : Int), (∀ jₓ : Nat, iₓ + jₓ < 31 → (tb B jₓ = true ↔ ((iₓ + jₓ : Nat) : Int) < D 2 ∧ (D (140 + 2 * (iₓ + jₓ)) = D (10 + 10 * sₓ) ∨ D (140 + 2 * (iₓ + jₓ)) = D (11 + 10 * sₓ)))) → (∀ kₓ : Nat, kₓ < iₓ → (kₓ : Int) < D 2 → ¬ clP D sₓ day kₓ) → iₓ ≤ 8 → j_X7_openHours 39 nₓ 44 [(sₓ : Int), (day : Int), B, (iₓ : Int)] σ = some (rₓ, σ') → σ' = σ ∧ ((clD D sₓ day ∧ rₓ = 0) ∨ (¬ clD D sₓ day ∧ rₓ = mAnd 16777215 (mXor (σ 43 sₓ) (-1)))) := by
  obtain ⟨hcsₓ, hzₓ, hdₓ, h2ₓ, h3ₓ, h4ₓ, h5ₓ⟩ := id hₓ
  intro nₓ
  induction nₓ with
  | zero => intro iₓ B _ _ _ eₓ; exact none_el eₓ
  | succ nₓ ihₓ =>
    intro iₓ B hBₓ hNₓ hiₓ eₓ
    rw [e_X7_openHours_44] at eₓ
    unfold b_X7_openHours_44 b_X7_openHours_81 b_X7_openHours_93 at eₓ
    have js : ((sₓ : Nat) : Int).toNat = sₓ := by omega
    have ji : ((iₓ : Nat) : Int).toNat = iₓ := by omega
    have ei : (iₓ : Int) + 1 = ((iₓ + 1 : Nat) : Int) := by omega
    have finₓ : ¬ clD D sₓ day → (mRd σ (39 + 4) ((sₓ : Nat) : Int).toNat fun x1ₓ => mLet (mXor x1ₓ (-1)) fun x2ₓ => mLet (mAnd 16777215 x2ₓ) fun x3ₓ => mRet x3ₓ σ) = some (rₓ, σ') → σ' = σ ∧ ((clD D sₓ day ∧ rₓ = 0) ∨ (¬ clD D sₓ day ∧ rₓ = mAnd 16777215 (mXor (σ 43 sₓ) (-1)))) := fun hcₓ qₓ => by
      rw [mRd_e, mLet_e, mLet_e, mRet_e, js] at qₓ
      obtain ⟨rfl, rfl⟩ := some_el qₓ
      exact ⟨rfl, Or.inr ⟨hcₓ, rfl⟩⟩
    have next : ((iₓ : Int) < D 2 → ¬ clP D sₓ day iₓ) → j_X7_openHours 39 nₓ 44 [(sₓ : Int), (day : Int), mShr B 1, ((iₓ + 1 : Nat) : Int)] σ = some (rₓ, σ') → iₓ < 8 → σ' = σ ∧ ((clD D sₓ day ∧ rₓ = 0) ∨ (¬ clD D sₓ day ∧ rₓ = mAnd 16777215 (mXor (σ 43 sₓ) (-1)))) := fun hcₓ qₓ h8ₓ => by
      refine ihₓ (iₓ + 1) (mShr B 1) (fun jₓ hjₓ => ?_) (fun kₓ hkₓ hk2ₓ => ?_) (by omega) qₓ
      · have tₓ : tb (mShr B ((1 : Nat) : Int)) jₓ = tb B (1 + jₓ) := tb_shr (by omega)
        have t2ₓ : tb (mShr B 1) jₓ = tb B (1 + jₓ) := tₓ
        rw [t2ₓ, hBₓ (1 + jₓ) (by omega), show iₓ + (1 + jₓ) = iₓ + 1 + jₓ by omega]
      · by_cases ck : kₓ = iₓ
        · subst ck; exact hcₓ hk2ₓ
        · exact hNₓ kₓ (by omega) hk2ₓ
    by_cases c0ₓ : B = 0
    · rw [mIf_pos c0ₓ] at eₓ
      refine finₓ (fun ⟨kₓ, hkₓ, hpₓ⟩ => ?_) eₓ
      by_cases ck : kₓ < iₓ
      · exact hNₓ kₓ ck hkₓ hpₓ
      · have := (hBₓ (kₓ - iₓ) (by omega)).mpr ⟨by rw [show iₓ + (kₓ - iₓ) = kₓ by omega]; exact hkₓ, by rw [show iₓ + (kₓ - iₓ) = kₓ by omega]; exact hpₓ.1⟩
        rw [c0ₓ, tb_0] at this; cases this
    · rw [mIf_neg c0ₓ] at eₓ
      by_cases c8ₓ : 8 ≤ (iₓ : Int)
      · rw [mIf_pos c8ₓ] at eₓ
        exact finₓ (fun ⟨kₓ, hkₓ, hpₓ⟩ => hNₓ kₓ (by omega) hkₓ hpₓ) eₓ
      · rw [mIf_neg c8ₓ, mLet_e] at eₓ
        by_cases cb : mAnd B 1 = 0
        · rw [mIf_pos cb, mLet_e, mLet_e, ei] at eₓ
          refine next (fun hi2ₓ hpₓ => ?_) eₓ (by omega)
          have := (hBₓ 0 (by omega)).mpr ⟨by rw [Nat.add_zero]; exact hi2ₓ, by rw [Nat.add_zero]; exact hpₓ.1⟩
          rw [mAnd1_tb, this] at cb
          exact absurd cb (by decide)
        · have tb1 : tb B 0 = true := by
            cases hhₓ : tb B 0 with
            | true => rfl
            | false => rw [mAnd1_tb, hhₓ] at cb; exact absurd rfl cb
          obtain ⟨q1ₓ, q2ₓ⟩ := (hBₓ 0 (by omega)).mp tb1
          rw [Nat.add_zero] at q1ₓ q2ₓ
          rw [mIf_neg cb, mRd_e, ji, show σ (39 + 7) iₓ = D (141 + 2 * iₓ) from hdₓ iₓ q1ₓ, mLet_e, mLet_e, show (day : Int) % 360 = ((day % 360 : Nat) : Int) by omega] at eₓ
          by_cases cd : D (141 + 2 * iₓ) = ((day % 360 : Nat) : Int)
          · rw [mIf_neg (fun qₓ => qₓ cd), mRet_e] at eₓ
            obtain ⟨rfl, rfl⟩ := some_el eₓ
            exact ⟨rfl, Or.inl ⟨⟨iₓ, q1ₓ, q2ₓ, cd⟩, rfl⟩⟩
          · rw [mIf_pos cd, mLet_e, mLet_e, ei] at eₓ
            exact next (fun _ hpₓ => cd hpₓ.2) eₓ (by omega)
/-- the hoursₓ of aₓ day at which aₓ street is open from aₓ side -/
theorem c_openHours {nₓ : Nat} (hₓ : COs D σ sₓ) (hsₓ : side < 2) (eₓ : m_X7_openHours nₓ 39 (sₓ : Int) (side : Int) (day : Int) 1 σ = some (rₓ, σ')) : σ' = σ ∧ ∀ hrₓ : Nat, hrₓ < 24 → (tb rₓ hrₓ = true ↔ opD D sₓ side (24 * day + hrₓ)) := by
  obtain ⟨⟨z1ₓ, z2ₓ, z3ₓ, z4ₓ, z5ₓ, z6ₓ, z7ₓ⟩, hzₓ, hdₓ, h2ₓ, h3ₓ, h4ₓ, h5ₓ⟩ := id hₓ
  have hopₓ : ∀ hrₓ : Nat, hrₓ < 24 → (opD D sₓ side (24 * day + hrₓ) ↔ sgP D sₓ side day = true ∧ ¬ clD D sₓ day ∧ ¬ liD D sₓ hrₓ) := fun hrₓ hhₓ => by
    unfold opD
    rw [show (24 * day + hrₓ) / 24 = day by omega, show (24 * day + hrₓ) % 24 = hrₓ by omega]
  have hxₓ : σ (39 + 5) (2 * sₓ + side) = (if side = 0 then sb0 (sgA D sₓ) 7 else sb1 (sgA D sₓ) 7) := by
    rcases (show side = 0 ∨ side = 1 by omega) with rfl | rfl
    · rw [if_pos rfl]; exact z6ₓ
    · rw [if_neg (by decide)]; exact z7ₓ
  have hsgₓ : tb (σ (39 + 5) (2 * sₓ + side)) (day % 7) = sgP D sₓ side day := by
    rw [hxₓ]
    rcases (show side = 0 ∨ side = 1 by omega) with rfl | rfl
    · rw [if_pos rfl, tb_sb0 (fₓ := sgA D sₓ) (fun jₓ hjₓ => h4ₓ jₓ hjₓ) (by omega) 7 (by omega), decide_eq_true (show day % 7 < 7 by omega), Bool.true_and]; rfl
    · rw [if_neg (by decide), tb_sb1 (fₓ := sgA D sₓ) (fun jₓ hjₓ => h4ₓ jₓ hjₓ) (by omega) 7 (by omega), decide_eq_true (show day % 7 < 7 by omega), Bool.true_and]; rfl
  unfold m_X7_openHours at eₓ
  rw [mLet_e, mLet_e, mRd_e, mLet_e, mLet_e, mLet_e, mLet_e, show (2 * (sₓ : Int) + (side : Int)).toNat = 2 * sₓ + side by omega, show (day : Int) % 7 = ((day % 7 : Nat) : Int) by omega] at eₓ
  by_cases cₓ : mAnd (mShr (σ (39 + 5) (2 * sₓ + side)) ((day % 7 : Nat) : Int)) 1 = 0
  · rw [mIf_neg (fun qₓ => qₓ cₓ), mRet_e] at eₓ
    obtain ⟨rfl, rfl⟩ := some_el eₓ
    have fₓ := (bitQ0 (by omega)).mp cₓ
    rw [hsgₓ] at fₓ
    refine ⟨rfl, fun hrₓ hhₓ => ?_⟩
    rw [hopₓ hrₓ hhₓ, tb_0, fₓ]
    exact ⟨fun qₓ => absurd qₓ (by decide), fun qₓ => absurd qₓ.1 (by decide)⟩
  · have fₓ : sgP D sₓ side day = true := by
      cases hhₓ : sgP D sₓ side day with
      | true => rfl
      | false => exact absurd ((bitQ0 (by omega)).mpr (hsgₓ.trans hhₓ)) cₓ
    have js : ((sₓ : Nat) : Int).toNat = sₓ := by omega
    rw [mIf_pos cₓ, mIf_neg (by decide), mRd_e, js, show σ (39 + 8) sₓ = szN D sₓ (D 2).toNat from hzₓ] at eₓ
    obtain ⟨hs'ₓ, hr'ₓ⟩ := c_oh0 (day := day) hₓ nₓ 0 _ (fun jₓ hjₓ => by
      rw [Nat.zero_add, tb_sz (by omega) _ (by omega)]
      exact ⟨fun qₓ => ⟨by omega, qₓ.2⟩, fun qₓ => ⟨by omega, qₓ.2⟩⟩) (fun kₓ hkₓ => absurd hkₓ (Nat.not_lt_zero _)) (by decide) eₓ
    refine ⟨hs'ₓ, fun hrₓ hhₓ => ?_⟩
    rw [hopₓ hrₓ hhₓ, fₓ]
    rcases hr'ₓ with ⟨hcₓ, rfl⟩ | ⟨hcₓ, rfl⟩
    · rw [tb_0]
      exact ⟨fun qₓ => absurd qₓ (by decide), fun qₓ => absurd hcₓ qₓ.2.1⟩
    · rw [tb_and, tb_24 hrₓ (by omega), tb_not (by omega), decide_eq_true hhₓ, Bool.true_and, Bool.not_eq_true']
      have hlₓ := li_tb hₓ (hrₓ := hrₓ) (by omega)
      refine ⟨fun qₓ => ⟨rfl, hcₓ, fun q2ₓ => ?_⟩, fun qₓ => ?_⟩
      · rw [hlₓ.mpr q2ₓ] at qₓ; cases qₓ
      · cases hh2ₓ : tb (σ 43 sₓ) hrₓ with
        | true => exact absurd (hlₓ.mp hh2ₓ) qₓ.2.2
        | false => rfl
/-- the first hourₓ at which it is open -/
def FO (D : Nat → Int) (sₓ side first : Nat) (last rₓ : Int) : Prop := (rₓ = -1 ∧ ∀ tₓ : Nat, first ≤ tₓ → (tₓ : Int) ≤ last → ¬ opD D sₓ side tₓ) ∨ ∃ tₓ : Nat, rₓ = (tₓ : Int) ∧ first ≤ tₓ ∧ (tₓ : Int) ≤ last ∧ opD D sₓ side tₓ ∧ ∀ uₓ : Nat, first ≤ uₓ → uₓ < tₓ → ¬ opD D sₓ side uₓ
theorem c_first0 {first : Nat} {last : Int} (hₓ : COs D σ sₓ) (hsₓ : side < 2) : ∀ nₓ : Nat, (∀ (dₓ lo : Nat) (E : Int), (∀ hrₓ : Nat, hrₓ < 24 → tb E hrₓ = decide (lo ≤ 24 * dₓ + hrₓ)) → first ≤ lo → 24 * dₓ ≤ lo → lo < 24 * dₓ + 24 → (∀ uₓ : Nat, first ≤ uₓ → uₓ < lo → ¬ opD D sₓ side uₓ) → j_X7_firstOpen 39 nₓ 25 [(sₓ : Int), (side : Int), last, E, (dₓ : Int)] σ = some (rₓ, σ') → σ' = σ ∧ FO D sₓ side first last rₓ) ∧ ∀ (dₓ lo hrₓ : Nat) (B : Int), (∀ jₓ : Nat, jₓ < 24 → (tb B jₓ = true ↔ lo ≤ 24 * dₓ + jₓ ∧ opD D sₓ side (24 * dₓ + jₓ))) → first ≤ lo → 24 * dₓ ≤ lo → lo < 24 * dₓ + 24 → (∀ uₓ : Nat, first ≤ uₓ → uₓ < lo → ¬ opD D sₓ side uₓ) → hrₓ ≤ 24 → (∀ uₓ : Nat, first ≤ uₓ → uₓ < 24 * dₓ + hrₓ → ¬ opD D sₓ side uₓ) → j_X7_firstOpen 39 nₓ 56 [(sₓ : Int), (side : Int), last, -1, (dₓ : Int), B, (hrₓ : Int)] σ = some (rₓ, σ') → σ' = σ ∧ FO D sₓ side first last rₓ := by
  intro nₓ
  induction nₓ with
  | zero => exact ⟨fun dₓ lo E _ _ _ _ _ eₓ => none_el eₓ, fun dₓ lo hrₓ B _ _ _ _ _ _ _ eₓ => none_el eₓ⟩
  | succ nₓ ihₓ =>
    refine ⟨fun dₓ lo E hEₓ h1ₓ h2ₓ h3ₓ hNₓ eₓ => ?_, fun dₓ lo hrₓ B hBₓ h1ₓ h2ₓ h3ₓ hNₓ hr24ₓ hN2ₓ eₓ => ?_⟩
    · rw [e_X7_firstOpen_25] at eₓ
      unfold b_X7_firstOpen_25 at eₓ
      rw [mLet_e] at eₓ
      by_cases cₓ : last < (dₓ : Int) * 24
      · rw [mIf_pos cₓ, mRet_e] at eₓ
        obtain ⟨rfl, rfl⟩ := some_el eₓ
        exact ⟨rfl, Or.inl ⟨rfl, fun tₓ t1ₓ t2ₓ => hNₓ tₓ t1ₓ (by omega)⟩⟩
      · rw [mIf_neg cₓ, mLet_e] at eₓ
        obtain ⟨x1ₓ, s1ₓ, d1ₓ, eₓ⟩ := mCall_el eₓ
        obtain ⟨hs1ₓ, hxₓ⟩ := c_openHours hₓ hsₓ d1ₓ
        rw [hs1ₓ, mLet_e] at eₓ
        refine ihₓ.2 dₓ lo 0 _ (fun jₓ hjₓ => ?_) h1ₓ h2ₓ h3ₓ hNₓ (by decide) (fun uₓ u1ₓ u2ₓ => hNₓ uₓ u1ₓ (by omega)) eₓ
        rw [tb_and, Bool.and_eq_true, hxₓ jₓ hjₓ, hEₓ jₓ hjₓ, decide_eq_true_iff]
        exact ⟨fun qₓ => ⟨qₓ.2, qₓ.1⟩, fun qₓ => ⟨qₓ.2, qₓ.1⟩⟩
    · rw [e_X7_firstOpen_56] at eₓ
      unfold b_X7_firstOpen_56 b_X7_firstOpen_108 at eₓ
      have ed : (dₓ : Int) + 1 = ((dₓ + 1 : Nat) : Int) := by omega
      have next : (∀ jₓ : Nat, jₓ < 24 → lo ≤ 24 * dₓ + jₓ → ¬ opD D sₓ side (24 * dₓ + jₓ)) → j_X7_firstOpen 39 nₓ 25 [(sₓ : Int), (side : Int), last, -1, ((dₓ + 1 : Nat) : Int)] σ = some (rₓ, σ') → σ' = σ ∧ FO D sₓ side first last rₓ := fun qₓ q2ₓ => by
        refine ihₓ.1 (dₓ + 1) (24 * (dₓ + 1)) (-1) (fun hrₓ hhₓ => ?_) (by omega) (by omega) (by omega) (fun uₓ u1ₓ u2ₓ => ?_) q2ₓ
        · rw [tb_m1 hrₓ (by omega), decide_eq_true (by omega)]
        · by_cases cu : uₓ < lo
          · exact hNₓ uₓ u1ₓ cu
          · have := qₓ (uₓ - 24 * dₓ) (by omega) (by omega)
            rw [show 24 * dₓ + (uₓ - 24 * dₓ) = uₓ by omega] at this; exact this
      by_cases c0ₓ : B = 0
      · rw [mIf_pos c0ₓ, mLet_e, ed] at eₓ
        refine next (fun jₓ hjₓ h4ₓ hpₓ => ?_) eₓ
        have := (hBₓ jₓ hjₓ).mpr ⟨h4ₓ, hpₓ⟩
        rw [c0ₓ, tb_0] at this; cases this
      · rw [mIf_neg c0ₓ] at eₓ
        by_cases c24ₓ : 24 ≤ (hrₓ : Int)
        · rw [mIf_pos c24ₓ, mLet_e, ed] at eₓ
          exact next (fun jₓ hjₓ h4ₓ hpₓ => hN2ₓ (24 * dₓ + jₓ) (by omega) (by omega) hpₓ) eₓ
        · rw [mIf_neg c24ₓ, mLet_e, mLet_e] at eₓ
          by_cases cb : mAnd (mShr B (hrₓ : Int)) 1 = 0
          · rw [mIf_pos cb, mLet_e, show (hrₓ : Int) + 1 = ((hrₓ + 1 : Nat) : Int) by omega] at eₓ
            refine ihₓ.2 dₓ lo (hrₓ + 1) B hBₓ h1ₓ h2ₓ h3ₓ hNₓ (by omega) (fun uₓ u1ₓ u2ₓ hpₓ => ?_) eₓ
            by_cases cu : uₓ = 24 * dₓ + hrₓ
            · subst cu
              by_cases cl : lo ≤ 24 * dₓ + hrₓ
              · have := (hBₓ hrₓ (by omega)).mpr ⟨cl, hpₓ⟩
                rw [(bitQ0 (by omega)).mp cb] at this; cases this
              · exact hNₓ _ u1ₓ (by omega) hpₓ
            · exact hN2ₓ uₓ u1ₓ (by omega) hpₓ
          · have tb1 : tb B hrₓ = true := by
              cases hhₓ : tb B hrₓ with
              | true => rfl
              | false => exact absurd ((bitQ0 (by omega)).mpr hhₓ) cb
            obtain ⟨q1ₓ, q2ₓ⟩ := (hBₓ hrₓ (by omega)).mp tb1
            rw [mIf_neg cb, mLet_e, mLet_e, show (dₓ : Int) * 24 + (hrₓ : Int) = ((24 * dₓ + hrₓ : Nat) : Int) by omega] at eₓ
            by_cases cl : last < ((24 * dₓ + hrₓ : Nat) : Int)
            · rw [mIf_pos cl, mRet_e] at eₓ
              obtain ⟨rfl, rfl⟩ := some_el eₓ
              exact ⟨rfl, Or.inl ⟨rfl, fun tₓ t1ₓ t2ₓ => hN2ₓ tₓ t1ₓ (by omega)⟩⟩
            · rw [mIf_neg cl, mRet_e] at eₓ
              obtain ⟨rfl, rfl⟩ := some_el eₓ
              exact ⟨rfl, Or.inr ⟨24 * dₓ + hrₓ, rfl, by omega, by omega, q2ₓ, fun uₓ u1ₓ u2ₓ => hN2ₓ uₓ u1ₓ u2ₓ⟩⟩
theorem mDiv24 {aₓ : Int} (h0ₓ : 0 ≤ aₓ) (h1ₓ : aₓ ≤ 2147483647) : mDiv aₓ 24 = aₓ / 24 := by
  show (Int32.ofInt aₓ / Int32.ofInt 24).toInt = aₓ / 24
  have eₓ : (Int32.ofInt aₓ).toInt = aₓ := i32_of (by omega) h1ₓ
  have e2ₓ : (Int32.ofInt 24).toInt = 24 := by decide
  rw [wk_div (by rw [eₓ]; exact h0ₓ) (by rw [e2ₓ]; decide), eₓ, e2ₓ]
theorem mRem24 {aₓ : Int} (h0ₓ : 0 ≤ aₓ) (h1ₓ : aₓ ≤ 2147483647) : mRem aₓ 24 = aₓ % 24 := by
  show (Int32.ofInt aₓ - Int32.ofInt aₓ / Int32.ofInt 24 * Int32.ofInt 24).toInt = aₓ % 24
  have eₓ : (Int32.ofInt aₓ).toInt = aₓ := i32_of (by omega) h1ₓ
  have e2ₓ : (Int32.ofInt 24).toInt = 24 := by decide
  have e3ₓ : (Int32.ofInt aₓ / Int32.ofInt 24).toInt = aₓ / 24 := by rw [wk_div (by rw [eₓ]; exact h0ₓ) (by rw [e2ₓ]; decide), eₓ, e2ₓ]
  have e4ₓ : (Int32.ofInt aₓ / Int32.ofInt 24 * Int32.ofInt 24).toInt = aₓ / 24 * 24 := by rw [wk_mul (by rw [e3ₓ, e2ₓ]; omega) (by rw [e3ₓ, e2ₓ]; omega), e3ₓ, e2ₓ]
  rw [wk_sub (by rw [eₓ, e4ₓ]; omega) (by rw [eₓ, e4ₓ]; omega), eₓ, e4ₓ]; omega
theorem c_firstOpen {nₓ first : Nat} {last : Int} (hₓ : COs D σ sₓ) (hsₓ : side < 2) (hfₓ : first ≤ 2147483647) (eₓ : m_X7_firstOpen nₓ 39 (sₓ : Int) (side : Int) (first : Int) last σ = some (rₓ, σ')) : σ' = σ ∧ FO D sₓ side first last rₓ := by
  obtain ⟨⟨z1ₓ, z2ₓ, z3ₓ, z4ₓ, z5ₓ, z6ₓ, z7ₓ⟩, hzₓ, hdₓ, h2ₓ, h3ₓ, h4ₓ, h5ₓ⟩ := id hₓ
  unfold m_X7_firstOpen m_X7_isNeverOpen b_X7_isNeverOpen_24 at eₓ
  have js : ((sₓ : Nat) : Int).toNat = sₓ := by omega
  rw [mLet_e, mLet_e, mRd_e, show (2 * (sₓ : Int) + (side : Int)).toNat = 2 * sₓ + side by omega] at eₓ
  have never : (∀ tₓ : Nat, ¬ opD D sₓ side tₓ) → (mIf ((1 : Int) = 0) (mLet (mRem (first : Int) 24) fun x3ₓ => mLet (mShl (-1) x3ₓ) fun x4ₓ => mLet (mDiv (first : Int) 24) fun x5ₓ => (j_X7_firstOpen 39 nₓ) 25 [(sₓ : Int), (side : Int), last, x4ₓ, x5ₓ] σ) (mRet (-1) σ)) = some (rₓ, σ') → σ' = σ ∧ FO D sₓ side first last rₓ := fun qₓ q2ₓ => by
    rw [mIf_neg (by decide), mRet_e] at q2ₓ
    obtain ⟨rfl, rfl⟩ := some_el q2ₓ
    exact ⟨rfl, Or.inl ⟨rfl, fun tₓ _ _ => qₓ tₓ⟩⟩
  by_cases cₓ : σ (39 + 5) (2 * sₓ + side) = 0
  · rw [mIf_pos cₓ, mRet_e, mCall_s] at eₓ
    refine never (fun tₓ hpₓ => ?_) eₓ
    have hxₓ : σ (39 + 5) (2 * sₓ + side) = (if side = 0 then sb0 (sgA D sₓ) 7 else sb1 (sgA D sₓ) 7) := by
      rcases (show side = 0 ∨ side = 1 by omega) with rfl | rfl
      · rw [if_pos rfl]; exact z6ₓ
      · rw [if_neg (by decide)]; exact z7ₓ
    have hsgₓ : tb (σ (39 + 5) (2 * sₓ + side)) (tₓ / 24 % 7) = sgP D sₓ side (tₓ / 24) := by
      rw [hxₓ]
      rcases (show side = 0 ∨ side = 1 by omega) with rfl | rfl
      · rw [if_pos rfl, tb_sb0 (fₓ := sgA D sₓ) (fun jₓ hjₓ => h4ₓ jₓ hjₓ) (by omega) 7 (by omega), decide_eq_true (show tₓ / 24 % 7 < 7 by omega), Bool.true_and]; rfl
      · rw [if_neg (by decide), tb_sb1 (fₓ := sgA D sₓ) (fun jₓ hjₓ => h4ₓ jₓ hjₓ) (by omega) 7 (by omega), decide_eq_true (show tₓ / 24 % 7 < 7 by omega), Bool.true_and]; rfl
    rw [cₓ, tb_0, hpₓ.1] at hsgₓ; cases hsgₓ
  · rw [mIf_neg cₓ, mRd_e, js] at eₓ
    by_cases c2ₓ : σ (39 + 4) sₓ = 16777215
    · rw [mIf_neg (fun qₓ => qₓ c2ₓ), mRet_e, mCall_s] at eₓ
      refine never (fun tₓ hpₓ => hpₓ.2.2 ((li_tb hₓ (by omega)).mp ?_)) eₓ
      rw [show σ 43 sₓ = 16777215 from c2ₓ, tb_24 _ (by omega), decide_eq_true (by omega)]
    · rw [mIf_pos c2ₓ, mRet_e, mCall_s, mIf_pos rfl, mLet_e, mLet_e, mLet_e, mRem24 (by omega) (by omega), mDiv24 (by omega) (by omega), show (first : Int) % 24 = ((first % 24 : Nat) : Int) by omega, show (first : Int) / 24 = ((first / 24 : Nat) : Int) by omega] at eₓ
      refine (c_first0 hₓ hsₓ nₓ).1 (first / 24) first _ (fun hrₓ hhₓ => ?_) (Nat.le_refl _) (by omega) (by omega) (fun uₓ u1ₓ u2ₓ => absurd u2ₓ (by omega)) eₓ
      rw [tb_ml _ (by omega) hrₓ (by omega)]
      by_cases cc : first % 24 ≤ hrₓ
      · rw [decide_eq_true cc, decide_eq_true (by omega)]
      · rw [decide_eq_false cc, decide_eq_false (by omega)]
end
