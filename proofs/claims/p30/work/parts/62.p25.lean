/-! the reference's first hourₓ at aₓ corner -/
/-- its word for never -/
def encN (aₓ : Int) : Int := if aₓ = -1 then 100000000 else aₓ
def RRf (A S : Nat → Int) (τ : SS) : Prop := ∀ cₓ : Nat, cₓ < 10 → τ 18 cₓ = encN (A cₓ) ∧ τ 19 cₓ = S cₓ
section
variable {τ τ' : SS} {r'ₓ L to hourₓ : Int} {D A S : Nat → Int} {nₓ jₓ bₓ K N sₓ : Nat} {ρ : Int × SS}
theorem encN_1 {aₓ : Int} (hₓ : aₓ ≠ -1) : encN aₓ = aₓ := if_neg hₓ
theorem encN_0 : encN (-1) = 100000000 := if_pos rfl
theorem r_isAt {xₓ : Int} : m_X12_isAt nₓ 0 (sₓ : Int) xₓ τ = some (if τ 12 (10 + 10 * sₓ) = xₓ ∨ τ 12 (11 + 10 * sₓ) = xₓ then 1 else 0, τ) := by
  unfold m_X12_isAt b_X12_isAt_20
  rw [r_so0, mCall_s]
  by_cases cₓ : τ 12 (10 + 10 * sₓ) = xₓ
  · rw [mIf_pos cₓ, if_pos (Or.inl cₓ)]; rfl
  · rw [mIf_neg cₓ, r_so1, mCall_s]
    by_cases c2ₓ : τ 12 (11 + 10 * sₓ) = xₓ
    · rw [mIf_neg (fun qₓ => qₓ c2ₓ), if_pos (Or.inr c2ₓ)]; rfl
    · rw [mIf_pos c2ₓ, if_neg (fun qₓ => qₓ.elim cₓ c2ₓ)]; rfl
theorem r_otherOf {xₓ : Int} : m_X12_otherOf nₓ 0 (sₓ : Int) xₓ τ = some (if τ 12 (10 + 10 * sₓ) = xₓ then τ 12 (11 + 10 * sₓ) else τ 12 (10 + 10 * sₓ), τ) := by
  unfold m_X12_otherOf
  rw [r_so0, mCall_s]
  by_cases cₓ : τ 12 (10 + 10 * sₓ) = xₓ
  · rw [mIf_neg (fun qₓ => qₓ cₓ), if_pos cₓ, r_so1, mCall_s]; rfl
  · rw [mIf_pos cₓ, if_neg cₓ, r_so0, mCall_s]; rfl
theorem r_strDj (hDₓ : ∀ kₓ : Nat, τ 12 kₓ = D kₓ) (hsₓ : ¬ τ 0 27 = 0) (hNₓ : D 1 = (N : Int)) (hjₓ : jₓ < N) (hRₓ : StR D K jₓ) (hKₓ : K ≤ 10) (hAₓ : RRf A S τ) (hIₓ : IO A S K L (A bₓ)) (hbₓ : bₓ < K) (hb2ₓ : A bₓ ≠ -1) (hLₓ : L ≤ 2000000) (eₓ : j_X12_reaches 0 (nₓ + 1) 145 [to, L, (bₓ : Int), (jₓ : Int)] τ = some ρ) : ∃ (A' : Nat → Int) (τ1 : SS), rlxO D L bₓ jₓ A A' ∧ RRf A' S τ1 ∧ (∀ qₓ kₓ : Nat, qₓ ≠ 18 → τ1 qₓ kₓ = τ qₓ kₓ) ∧ j_X12_reaches 0 nₓ 145 [to, L, (bₓ : Int), ((jₓ + 1 : Nat) : Int)] τ1 = some ρ := by
  obtain ⟨r1ₓ, r2ₓ, r3ₓ, r4ₓ, r5ₓ, r6ₓ⟩ := hRₓ
  obtain ⟨i1ₓ, i2ₓ, i3ₓ⟩ := id hIₓ
  have hbrₓ : 0 ≤ A bₓ ∧ A bₓ ≤ L := (i1ₓ bₓ).resolve_left hb2ₓ
  obtain ⟨aₓ, haₓ⟩ : ∃ aₓ : Nat, A bₓ = (aₓ : Int) := ⟨(A bₓ).toNat, by omega⟩
  have ej : (jₓ : Int) + 1 = ((jₓ + 1 : Nat) : Int) := by omega
  have stay : (∀ (cₓ : Nat) (vₓ : Int), ¬ IM D A L jₓ bₓ cₓ vₓ) → j_X12_reaches 0 nₓ 145 [to, L, (bₓ : Int), ((jₓ + 1 : Nat) : Int)] τ = some ρ → ∃ (A' : Nat → Int) (τ1 : SS), rlxO D L bₓ jₓ A A' ∧ RRf A' S τ1 ∧ (∀ qₓ kₓ : Nat, qₓ ≠ 18 → τ1 qₓ kₓ = τ qₓ kₓ) ∧ j_X12_reaches 0 nₓ 145 [to, L, (bₓ : Int), ((jₓ + 1 : Nat) : Int)] τ1 = some ρ := fun hNₓ eₓ => ⟨A, τ, Or.inl ⟨rfl, hNₓ⟩, hAₓ, fun _ _ _ => rfl, eₓ⟩
  rw [e_X12_reaches_145] at eₓ
  unfold b_X12_reaches_145 b_X12_reaches_259 at eₓ
  rw [mRd_e, show τ 12 (1 : Int).toNat = (N : Int) from (hDₓ 1).trans hNₓ, mIf_neg (show ¬ (N : Int) ≤ (jₓ : Int) by omega), r_isAt, mCall_s, hDₓ, hDₓ] at eₓ
  by_cases hatₓ : D (10 + 10 * jₓ) = (bₓ : Int) ∨ D (11 + 10 * jₓ) = (bₓ : Int)
  · obtain ⟨c2ₓ, hoₓ, hc2ₓ, hEₓ⟩ : ∃ c2ₓ : Nat, (if D (10 + 10 * jₓ) = (bₓ : Int) then D (11 + 10 * jₓ) else D (10 + 10 * jₓ)) = (c2ₓ : Int) ∧ c2ₓ < K ∧ ((D (10 + 10 * jₓ) = (bₓ : Int) ∧ D (11 + 10 * jₓ) = (c2ₓ : Int)) ∨ (D (10 + 10 * jₓ) ≠ (bₓ : Int) ∧ D (11 + 10 * jₓ) = (bₓ : Int) ∧ D (10 + 10 * jₓ) = (c2ₓ : Int))) := by
      by_cases c0ₓ : D (10 + 10 * jₓ) = (bₓ : Int)
      · exact ⟨(D (11 + 10 * jₓ)).toNat, by rw [if_pos c0ₓ]; omega, by omega, Or.inl ⟨c0ₓ, by omega⟩⟩
      · exact ⟨(D (10 + 10 * jₓ)).toNat, by rw [if_neg c0ₓ]; omega, by omega, Or.inr ⟨c0ₓ, hatₓ.resolve_left c0ₓ, by omega⟩⟩
    have n1ₓ : ¬ (1 : Int) = 0 := by decide
    rw [if_pos hatₓ, mIf_pos n1ₓ, mRd_e, show ((bₓ : Nat) : Int).toNat = bₓ by omega, (hAₓ bₓ (by omega)).1, encN_1 hb2ₓ, haₓ] at eₓ
    obtain ⟨x5ₓ, s6ₓ, dₓ, eₓ⟩ := mCall_el eₓ
    obtain ⟨h6ₓ, hFₓ⟩ := r_firstOpen hsₓ dₓ
    rw [h6ₓ, r_otherOf, mCall_s, hDₓ, hDₓ, hoₓ] at eₓ
    rw [show τ 12 = D from funext hDₓ] at hFₓ
    have hlₓ : D (12 + 10 * jₓ) = D (12 + 10 * jₓ) := rfl
    rcases hFₓ with ⟨rfl, hnoₓ⟩ | ⟨tₓ, rfl, t1ₓ, t2ₓ, t3ₓ, t4ₓ⟩
    · rw [mIf_pos (show (100000000 : Int) ≤ 100000000 by decide), mLet_e, ej] at eₓ
      refine stay (fun cₓ vₓ hIₓ => ?_) eₓ
      obtain ⟨-, ⟨tₓ, u1ₓ, u2ₓ, u3ₓ, u4ₓ, -⟩, -⟩ := hIₓ
      exact hnoₓ tₓ (by omega) (by omega) u4ₓ
    · have t1'ₓ : A bₓ ≤ (tₓ : Int) := by omega
      have t4'ₓ : ∀ uₓ : Nat, A bₓ ≤ (uₓ : Int) → uₓ < tₓ → ¬ opD D jₓ (sdC D jₓ (bₓ : Int)) uₓ := fun uₓ u1ₓ u2ₓ => t4ₓ uₓ (by omega) u2ₓ
      rw [mIf_neg (show ¬ (100000000 : Int) ≤ (tₓ : Int) by omega), r_so2, mCall_s, hDₓ, mLet_e] at eₓ
      by_cases cv : L < (tₓ : Int) + D (12 + 10 * jₓ)
      · rw [mIf_pos cv, mLet_e, ej] at eₓ
        refine stay (fun cₓ vₓ hIₓ => ?_) eₓ
        have q2ₓ := (IM_un hIₓ hEₓ t1'ₓ t3ₓ t4'ₓ).2.1
        obtain ⟨-, ⟨uₓ, -, -, u3ₓ, -, -⟩, -⟩ := hIₓ
        omega
      · rw [mIf_neg cv, r_so2, mCall_s, hDₓ, mLet_e, mRd_e, show ((c2ₓ : Nat) : Int).toNat = c2ₓ by omega, (hAₓ c2ₓ (by omega)).1] at eₓ
        by_cases cl : encN (A c2ₓ) ≤ (tₓ : Int) + D (12 + 10 * jₓ)
        · rw [mIf_pos cl, mLet_e, ej] at eₓ
          refine stay (fun cₓ vₓ hIₓ => ?_) eₓ
          obtain ⟨-, q2ₓ, q3ₓ⟩ := IM_un hIₓ hEₓ t1'ₓ t3ₓ t4'ₓ
          rcases q3ₓ with q3ₓ | q3ₓ
          · rw [q3ₓ, encN_0] at cl; omega
          · have q4ₓ : A c2ₓ ≠ -1 := by omega
            rw [encN_1 q4ₓ] at cl; omega
        · rw [mIf_neg cl, r_so2, mCall_s, hDₓ, mLet_e, mWr_e, mLet_e, ej] at eₓ
          have qₓ : A c2ₓ = -1 ∨ (tₓ : Int) + D (12 + 10 * jₓ) < A c2ₓ := by
            by_cases cm : A c2ₓ = -1
            · exact Or.inl cm
            · rw [encN_1 cm] at cl; exact Or.inr (by omega)
          have nv : (tₓ : Int) + D (12 + 10 * jₓ) ≠ -1 := by omega
          refine ⟨upA A c2ₓ ((tₓ : Int) + D (12 + 10 * jₓ)), _, Or.inr ⟨c2ₓ, _, ⟨hEₓ, ⟨tₓ, t1'ₓ, rfl, by omega, t3ₓ, t4'ₓ⟩, qₓ⟩, rfl⟩, fun cₓ hcₓ => ⟨?_, ?_⟩, fun qₓ kₓ hqₓ => upS_q hqₓ, eₓ⟩
          · by_cases ec : cₓ = c2ₓ
            · subst ec; rw [upS_s, upA_at, encN_1 nv]
            · rw [upS_k ec, upA_ne ec]; exact (hAₓ cₓ hcₓ).1
          · rw [upS_q (by decide)]; exact (hAₓ cₓ hcₓ).2
  · rw [if_neg hatₓ, mIf_neg (fun qₓ => qₓ rfl), mLet_e, ej] at eₓ
    refine stay (fun cₓ vₓ hIₓ => ?_) eₓ
    rcases hIₓ.1 with ⟨p1ₓ, -⟩ | ⟨-, p1ₓ, -⟩
    · exact hatₓ (Or.inl p1ₓ)
    · exact hatₓ (Or.inr p1ₓ)
theorem r_streets (hNₓ : D 1 = (N : Int)) (hRaₓ : ∀ sₓ : Nat, sₓ < N → StR D K sₓ) (hKₓ : K ≤ 10) (hbₓ : bₓ < K) (hSₓ : S bₓ ≠ 0) (hLₓ : L ≤ 2000000) : ∀ (kₓ jₓ nₓ : Nat) (τ : SS) (A : Nat → Int), jₓ + kₓ = N → (∀ kₓ : Nat, τ 12 kₓ = D kₓ) → ¬ τ 0 27 = 0 → RRf A S τ → IO A S K L (A bₓ) → A bₓ ≠ -1 → j_X12_reaches 0 nₓ 145 [to, L, (bₓ : Int), (jₓ : Int)] τ = some ρ → ∃ (n1ₓ : Nat) (τ1 : SS) (A1 : Nat → Int), n1ₓ < nₓ ∧ rlxA D L bₓ kₓ jₓ A A1 ∧ RRf A1 S τ1 ∧ (∀ qₓ kₓ : Nat, qₓ ≠ 18 → τ1 qₓ kₓ = τ qₓ kₓ) ∧ j_X12_reaches 0 n1ₓ 44 [to, L] τ1 = some ρ := by
  intro kₓ
  induction kₓ with
  | zero =>
    intro jₓ nₓ τ A hjₓ hDₓ hsₓ hAₓ hIₓ hb2ₓ eₓ
    cases nₓ with
    | zero => exact none_el eₓ
    | succ nₓ =>
      rw [e_X12_reaches_145] at eₓ
      unfold b_X12_reaches_145 at eₓ
      rw [mRd_e, show τ 12 (1 : Int).toNat = (N : Int) from (hDₓ 1).trans hNₓ, mIf_pos (show (N : Int) ≤ (jₓ : Int) by omega)] at eₓ
      exact ⟨nₓ, τ, A, Nat.lt_succ_self nₓ, rfl, hAₓ, fun _ _ _ => rfl, eₓ⟩
  | succ kₓ ihₓ =>
    intro jₓ nₓ τ A hjₓ hDₓ hsₓ hAₓ hIₓ hb2ₓ eₓ
    cases nₓ with
    | zero => exact none_el eₓ
    | succ nₓ =>
      obtain ⟨A', τ', h1ₓ, h2ₓ, h3ₓ, eₓ⟩ := r_strDj hDₓ hsₓ hNₓ (by omega) (hRaₓ jₓ (by omega)) hKₓ hAₓ hIₓ hbₓ hb2ₓ hLₓ eₓ
      obtain ⟨g1ₓ, g2ₓ⟩ := IO_rx1 (hRaₓ jₓ (by omega)) hIₓ hbₓ hSₓ h1ₓ
      have eb : A' bₓ = A bₓ := g2ₓ bₓ hbₓ hSₓ
      obtain ⟨n1ₓ, τ1, A1, w1ₓ, w2ₓ, w3ₓ, w4ₓ, w5ₓ⟩ := ihₓ (jₓ + 1) nₓ τ' A' (by omega) (fun kₓ => (h3ₓ 12 kₓ (by decide)).trans (hDₓ kₓ)) (by rw [h3ₓ 0 27 (by decide)]; exact hsₓ) h2ₓ (by rw [eb]; exact g1ₓ) (by rw [eb]; exact hb2ₓ) eₓ
      exact ⟨n1ₓ, τ1, A1, by omega, ⟨A', h1ₓ, w2ₓ⟩, w3ₓ, fun qₓ kₓ hqₓ => (w4ₓ qₓ kₓ hqₓ).trans (h3ₓ qₓ kₓ hqₓ), w5ₓ⟩
theorem encN_lt {aₓ : Int} (hₓ : aₓ = -1 ∨ (0 ≤ aₓ ∧ aₓ ≤ L)) (hLₓ : L ≤ 2000000) : 100000000 ≤ encN aₓ ↔ aₓ = -1 := by
  by_cases cₓ : aₓ = -1
  · rw [cₓ, encN_0]; exact ⟨fun _ => rfl, fun _ => by decide⟩
  · rw [encN_1 cₓ]; exact ⟨fun qₓ => by omega, fun qₓ => absurd qₓ cₓ⟩
theorem r_best (h0ₓ : D 0 = (K : Int)) (hDₓ : ∀ kₓ : Nat, τ 12 kₓ = D kₓ) (hKₓ : K ≤ 10) (hAₓ : RRf A S τ) (hRₓ : ∀ cₓ : Nat, A cₓ = -1 ∨ (0 ≤ A cₓ ∧ A cₓ ≤ L)) (hLₓ : L ≤ 2000000) : ∀ (nₓ kₓ : Nat) (bₓ : Int), kₓ ≤ K → Bst A S kₓ bₓ → j_X12_reaches 0 nₓ 59 [to, L, bₓ, (kₓ : Int)] τ = some ρ → ∃ (n1ₓ : Nat) (b'ₓ : Int), n1ₓ < nₓ ∧ Bst A S K b'ₓ ∧ ((b'ₓ = -1 ∧ ρ = (100000000, τ)) ∨ ∃ mₓ : Nat, b'ₓ = (mₓ : Int) ∧ j_X12_reaches 0 n1ₓ 145 [to, L, (mₓ : Int), ((0 : Nat) : Int)] (upS τ 19 mₓ 1) = some ρ) := by
  intro nₓ
  induction nₓ with
  | zero => intro kₓ bₓ _ _ eₓ; exact none_el eₓ
  | succ nₓ ihₓ =>
    intro kₓ bₓ hkₓ hBₓ eₓ
    rw [e_X12_reaches_59] at eₓ
    unfold b_X12_reaches_59 b_X12_reaches_115 b_X12_reaches_119 at eₓ
    rw [mRd_e, show τ 12 (0 : Int).toNat = (K : Int) from (hDₓ 0).trans h0ₓ] at eₓ
    by_cases cₓ : (K : Int) ≤ (kₓ : Int)
    · have ek : kₓ = K := by omega
      subst ek
      rw [mIf_pos cₓ] at eₓ
      rcases id hBₓ with ⟨hbₓ, -⟩ | ⟨mₓ, hbₓ, h1ₓ, -⟩
      · rw [mIf_neg (show ¬ (0 : Int) ≤ bₓ by omega)] at eₓ
        have e'ₓ : (some (100000000, τ) : RR) = some ρ := eₓ
        exact ⟨nₓ, bₓ, Nat.lt_succ_self nₓ, hBₓ, Or.inl ⟨hbₓ, (Option.some.inj e'ₓ).symm⟩⟩
      · subst hbₓ
        rw [mIf_pos (show (0 : Int) ≤ (mₓ : Int) by omega), mWr_e, show ((mₓ : Nat) : Int).toNat = mₓ by omega] at eₓ
        exact ⟨nₓ, _, Nat.lt_succ_self nₓ, hBₓ, Or.inr ⟨mₓ, rfl, eₓ⟩⟩
    · have hA1ₓ := (hAₓ kₓ (by omega)).1
      have hA2ₓ := (hAₓ kₓ (by omega)).2
      have ek : (kₓ : Int) + 1 = ((kₓ + 1 : Nat) : Int) := by omega
      have goₓ : ∀ b2ₓ : Int, Bst A S (kₓ + 1) b2ₓ → j_X12_reaches 0 nₓ 59 [to, L, b2ₓ, ((kₓ + 1 : Nat) : Int)] τ = some ρ → ∃ (n1ₓ : Nat) (b'ₓ : Int), n1ₓ < nₓ + 1 ∧ Bst A S K b'ₓ ∧ ((b'ₓ = -1 ∧ ρ = (100000000, τ)) ∨ ∃ mₓ : Nat, b'ₓ = (mₓ : Int) ∧ j_X12_reaches 0 n1ₓ 145 [to, L, (mₓ : Int), ((0 : Nat) : Int)] (upS τ 19 mₓ 1) = some ρ) := fun b2ₓ hb2ₓ qₓ => by
        obtain ⟨n1ₓ, b'ₓ, w1ₓ, w2ₓ⟩ := ihₓ (kₓ + 1) b2ₓ (by omega) hb2ₓ qₓ
        exact ⟨n1ₓ, b'ₓ, by omega, w2ₓ⟩
      rw [mIf_neg cₓ, mRd_e, show ((kₓ : Nat) : Int).toNat = kₓ by omega, hA2ₓ] at eₓ
      by_cases cs : S kₓ = 0
      · rw [mIf_neg (fun qₓ => qₓ cs), mRd_e, hA1ₓ] at eₓ
        by_cases ca : A kₓ = -1
        · rw [mIf_pos ((encN_lt (hRₓ kₓ) hLₓ).mpr ca), mLet_e, ek] at eₓ
          exact goₓ bₓ (Bst_skip hBₓ (fun _ => ca)) eₓ
        · rw [mIf_neg (fun qₓ => ca ((encN_lt (hRₓ kₓ) hLₓ).mp qₓ))] at eₓ
          rcases id hBₓ with ⟨hbₓ, -⟩ | ⟨mₓ, hbₓ, h1ₓ, -, h3ₓ, -⟩
          · subst hbₓ
            rw [mIf_pos (show (-1 : Int) < 0 by decide), mLet_e, ek] at eₓ
            exact goₓ _ (Bst_first hBₓ cs ca) eₓ
          · subst hbₓ
            rw [mIf_neg (show ¬ (mₓ : Int) < 0 by omega), mRd_e, mRd_e, hA1ₓ, show ((mₓ : Nat) : Int).toNat = mₓ by omega, (hAₓ mₓ (by omega)).1, encN_1 ca, encN_1 h3ₓ] at eₓ
            by_cases cl : A mₓ ≤ A kₓ
            · rw [mIf_pos cl, mLet_e, ek] at eₓ
              exact goₓ _ (Bst_keep hBₓ cl) eₓ
            · rw [mIf_neg cl, mLet_e, ek] at eₓ
              exact goₓ _ (Bst_new hBₓ cs ca (by omega)) eₓ
      · rw [mIf_pos cs, mLet_e, ek] at eₓ
        exact goₓ bₓ (Bst_skip hBₓ (fun qₓ => absurd qₓ cs)) eₓ
theorem r_outer {to : Nat} (h0ₓ : D 0 = (K : Int)) (hNₓ : D 1 = (N : Int)) (hRaₓ : ∀ sₓ : Nat, sₓ < N → StR D K sₓ) (hKₓ : K ≤ 10) (htoₓ : to < K) (hLₓ : L ≤ 2000000) : ∀ (nₓ : Nat) (τ : SS) (A S : Nat → Int) (m0ₓ : Int), (∀ kₓ : Nat, τ 12 kₓ = D kₓ) → ¬ τ 0 27 = 0 → RRf A S τ → IO A S K L m0ₓ → S to = 0 → j_X12_reaches 0 nₓ 44 [(to : Int), L] τ = some (r'ₓ, τ') → (∃ (kₓ : Nat) (rₓ : Int), DJ D K N L to kₓ A S rₓ ∧ r'ₓ = encN rₓ ∧ (rₓ = -1 ∨ (m0ₓ ≤ rₓ ∧ rₓ ≤ L))) ∧ ∀ qₓ kₓ : Nat, qₓ ≠ 18 → qₓ ≠ 19 → τ' qₓ kₓ = τ qₓ kₓ := by
  intro nₓ
  induction nₓ using Nat.strongRecOn with
  | ind nₓ ihₓ =>
    intro τ A S m0ₓ hDₓ hsₓ hAₓ hIₓ hSₓ eₓ
    cases nₓ with
    | zero => exact none_el eₓ
    | succ nₓ =>
      rw [e_X12_reaches_44] at eₓ
      unfold b_X12_reaches_44 at eₓ
      rw [mRd_e, show ((to : Nat) : Int).toNat = to by omega, (hAₓ to (by omega)).2, mIf_neg (fun qₓ => qₓ hSₓ)] at eₓ
      obtain ⟨n1ₓ, bₓ, w1ₓ, hBₓ, hqₓ⟩ := r_best h0ₓ hDₓ hKₓ hAₓ hIₓ.1 hLₓ nₓ 0 (-1) (Nat.zero_le _) Bst_0 eₓ
      rcases hqₓ with ⟨rfl, hₓρ⟩ | ⟨xₓ, rfl, eₓ⟩
      · obtain ⟨rfl, rfl⟩ : r'ₓ = 100000000 ∧ τ' = τ := ⟨congrArg Prod.fst hₓρ, congrArg Prod.snd hₓρ⟩
        exact ⟨⟨1, -1, ⟨-1, hBₓ, Or.inl ⟨rfl, rfl⟩⟩, encN_0.symm, Or.inl rfl⟩, fun _ _ _ _ => rfl⟩
      · obtain ⟨j1ₓ, j2ₓ, j3ₓ, j4ₓ, j5ₓ⟩ := IO_take hIₓ hBₓ
        obtain ⟨n2ₓ, τ1, A1, u1ₓ, u2ₓ, u3ₓ, u4ₓ, u5ₓ⟩ := r_streets hNₓ hRaₓ hKₓ j2ₓ j3ₓ hLₓ N 0 n1ₓ (upS τ 19 xₓ 1) A (Nat.zero_add N) (fun kₓ => (upS_q (by decide)).trans (hDₓ kₓ)) (by rw [upS_q (by decide)]; exact hsₓ) (fun cₓ hcₓ => ⟨by rw [upS_q (by decide)]; exact (hAₓ cₓ hcₓ).1, by
          by_cases ec : cₓ = xₓ
          · subst ec; rw [upS_s, upA_at]
          · rw [upS_k ec, upA_ne ec]; exact (hAₓ cₓ hcₓ).2⟩) j1ₓ j4ₓ eₓ
        obtain ⟨g1ₓ, g2ₓ⟩ := IO_rx hRaₓ j2ₓ j3ₓ N 0 A A1 (Nat.zero_add N) j1ₓ u2ₓ
        have hf1ₓ : ∀ qₓ kₓ : Nat, qₓ ≠ 18 → qₓ ≠ 19 → τ1 qₓ kₓ = τ qₓ kₓ := fun qₓ kₓ h1ₓ h2ₓ => (u4ₓ qₓ kₓ h1ₓ).trans (upS_q h2ₓ)
        by_cases ct : xₓ = to
        · subst ct
          cases n2ₓ with
          | zero => exact none_el u5ₓ
          | succ n2ₓ =>
            rw [e_X12_reaches_44] at u5ₓ
            unfold b_X12_reaches_44 at u5ₓ
            have n1'ₓ : ¬ (1 : Int) = 0 := by decide
            rw [mRd_e, show ((xₓ : Nat) : Int).toNat = xₓ by omega, (u3ₓ xₓ (by omega)).2, upA_at, mIf_pos n1'ₓ, mRd_e, (u3ₓ xₓ (by omega)).1, g2ₓ xₓ j2ₓ j3ₓ, mRet_e] at u5ₓ
            obtain ⟨rfl, rfl⟩ := some_el u5ₓ
            exact ⟨⟨1, A xₓ, ⟨_, hBₓ, Or.inr (Or.inl ⟨rfl, rfl⟩)⟩, rfl, Or.inr ⟨hIₓ.2.2 xₓ j2ₓ j5ₓ j4ₓ, ((hIₓ.1 xₓ).resolve_left j4ₓ).2⟩⟩, hf1ₓ⟩
        · obtain ⟨⟨kₓ, rₓ, v1ₓ, v2ₓ, v3ₓ⟩, v4ₓ⟩ := ihₓ n2ₓ (by omega) τ1 A1 (upA S xₓ 1) (A xₓ) (fun kₓ => (hf1ₓ 12 kₓ (by decide) (by decide)).trans (hDₓ kₓ)) (by rw [hf1ₓ 0 27 (by decide) (by decide)]; exact hsₓ) u3ₓ g1ₓ (by rw [upA_ne (fun qₓ => ct qₓ.symm)]; exact hSₓ) u5ₓ
          exact ⟨⟨kₓ + 1, rₓ, ⟨_, hBₓ, Or.inr (Or.inr ⟨xₓ, rfl, ct, A1, u2ₓ, v1ₓ⟩)⟩, v2ₓ, v3ₓ.imp id (fun qₓ => ⟨Int.le_trans (hIₓ.2.2 xₓ j2ₓ j5ₓ j4ₓ) qₓ.1, qₓ.2⟩)⟩, fun qₓ kₓ h1ₓ h2ₓ => (v4ₓ qₓ kₓ h1ₓ h2ₓ).trans (hf1ₓ qₓ kₓ h1ₓ h2ₓ)⟩
theorem r_start {to : Int} : ∀ (nₓ kₓ : Nat) (τ : SS), kₓ ≤ 10 → (∀ cₓ : Nat, cₓ < kₓ → τ 18 cₓ = encN (A0 bₓ hourₓ cₓ) ∧ τ 19 cₓ = 0) → 0 ≤ hourₓ → j_X12_reaches 0 nₓ 3 [(bₓ : Int), to, hourₓ, L, (kₓ : Int)] τ = some ρ → ∃ (n1ₓ : Nat) (τ1 : SS), RRf (A0 bₓ hourₓ) (fun _ => 0) τ1 ∧ (∀ qₓ kₓ : Nat, qₓ ≠ 18 → qₓ ≠ 19 → τ1 qₓ kₓ = τ qₓ kₓ) ∧ j_X12_reaches 0 n1ₓ 44 [to, L] τ1 = some ρ := by
  intro nₓ
  induction nₓ with
  | zero => intro kₓ τ _ _ _ eₓ; exact none_el eₓ
  | succ nₓ ihₓ =>
    intro kₓ τ hkₓ hcₓ h0ₓ eₓ
    rw [e_X12_reaches_3] at eₓ
    unfold b_X12_reaches_3 b_X12_reaches_29 at eₓ
    by_cases cₓ : (10 : Int) ≤ (kₓ : Int)
    · rw [mIf_pos cₓ] at eₓ
      exact ⟨nₓ, τ, fun cₓ hₓ => hcₓ cₓ (by omega), fun _ _ _ _ => rfl, eₓ⟩
    · have ek : (kₓ : Int) + 1 = ((kₓ + 1 : Nat) : Int) := by omega
      have jk : ((kₓ : Nat) : Int).toNat = kₓ := by omega
      have goₓ : ∀ vₓ : Int, vₓ = encN (A0 bₓ hourₓ kₓ) → j_X12_reaches 0 nₓ 3 [(bₓ : Int), to, hourₓ, L, ((kₓ + 1 : Nat) : Int)] (upS (upS τ 18 kₓ vₓ) 19 kₓ 0) = some ρ → ∃ (n1ₓ : Nat) (τ1 : SS), RRf (A0 bₓ hourₓ) (fun _ => 0) τ1 ∧ (∀ qₓ kₓ : Nat, qₓ ≠ 18 → qₓ ≠ 19 → τ1 qₓ kₓ = τ qₓ kₓ) ∧ j_X12_reaches 0 n1ₓ 44 [to, L] τ1 = some ρ := fun vₓ hv qₓ => by
        obtain ⟨n1ₓ, τ1, g1ₓ, g2ₓ, g3ₓ⟩ := ihₓ (kₓ + 1) _ (by omega) (fun cₓ hₓ => by
          by_cases ec : cₓ = kₓ
          · subst ec; rw [upS_q (by decide), upS_s, upS_s]; exact ⟨hv, rfl⟩
          · rw [upS_k ec, upS_k ec, upS_k ec]; exact hcₓ cₓ (by omega)) h0ₓ qₓ
        exact ⟨n1ₓ, τ1, g1ₓ, fun qₓ kₓ h1ₓ h2ₓ => (g2ₓ qₓ kₓ h1ₓ h2ₓ).trans ((upS_q h2ₓ).trans (upS_q h1ₓ)), g3ₓ⟩
      rw [mIf_neg cₓ] at eₓ
      by_cases cb : (kₓ : Int) = (bₓ : Int)
      · rw [mIf_neg (fun qₓ => qₓ cb), mWr_e, mWr_e, mLet_e, jk, ek] at eₓ
        refine goₓ _ ?_ eₓ
        unfold A0
        rw [if_pos (show kₓ = bₓ by omega), encN_1 (by omega)]
      · rw [mIf_pos cb, mWr_e, mWr_e, mLet_e, jk, ek] at eₓ
        refine goₓ _ ?_ eₓ
        unfold A0
        rw [if_neg (show ¬ kₓ = bₓ by omega), encN_0]
theorem r_reaches {to : Nat} (h0ₓ : D 0 = (K : Int)) (hNₓ : D 1 = (N : Int)) (hRaₓ : ∀ sₓ : Nat, sₓ < N → StR D K sₓ) (hKₓ : K ≤ 10) (htoₓ : to < K) (hLₓ : L ≤ 2000000) (hhₓ : 0 ≤ hourₓ) (hh2ₓ : hourₓ ≤ L) (hDₓ : ∀ kₓ : Nat, τ 12 kₓ = D kₓ) (hsₓ : ¬ τ 0 27 = 0) (eₓ : m_X12_reaches nₓ 0 (bₓ : Int) (to : Int) hourₓ L τ = some (r'ₓ, τ')) : (∃ (kₓ : Nat) (rₓ : Int), DJ D K N L to kₓ (A0 bₓ hourₓ) (fun _ => 0) rₓ ∧ r'ₓ = encN rₓ ∧ (rₓ = -1 ∨ (hourₓ ≤ rₓ ∧ rₓ ≤ L))) ∧ ∀ qₓ kₓ : Nat, qₓ ≠ 18 → qₓ ≠ 19 → τ' qₓ kₓ = τ qₓ kₓ := by
  unfold m_X12_reaches at eₓ
  obtain ⟨n1ₓ, τ1, g1ₓ, g2ₓ, g3ₓ⟩ := r_start nₓ 0 τ (by decide) (fun cₓ hₓ => absurd hₓ (Nat.not_lt_zero _)) hhₓ eₓ
  obtain ⟨w1ₓ, w2ₓ⟩ := r_outer h0ₓ hNₓ hRaₓ hKₓ htoₓ hLₓ n1ₓ τ1 (A0 bₓ hourₓ) (fun _ => 0) hourₓ (fun kₓ => (g2ₓ 12 kₓ (by decide) (by decide)).trans (hDₓ kₓ)) (by rw [g2ₓ 0 27 (by decide) (by decide)]; exact hsₓ) g1ₓ (IO_0 hhₓ hh2ₓ) rfl g3ₓ
  exact ⟨w1ₓ, fun qₓ kₓ h1ₓ h2ₓ => (w2ₓ qₓ kₓ h1ₓ h2ₓ).trans (g2ₓ qₓ kₓ h1ₓ h2ₓ)⟩
end
