/-! the deed chosen, at both sides -/
theorem CRMR_at {de stₓ cl : Nat → Int} : ∀ {R : List (Int × Nat × Bool × Nat)}, CR de stₓ R → MR cl R → ∀ cₓ : Nat, cₓ < R.length → ∃ yₓ ∈ R, de cₓ = yₓ.1 ∧ stₓ cₓ = (yₓ.2.1 : Int) ∧ stₓ (cₓ + 1) = (yₓ.2.2.2 : Int) ∧ cl (3 * cₓ) = yₓ.1 ∧ cl (3 * cₓ + 1) = (if yₓ.2.2.1 = true then (yₓ.2.1 : Int) else -1) ∧ cl (3 * cₓ + 2) = (yₓ.2.2.2 : Int)
  | [], _, _, cₓ, hcₓ => absurd hcₓ (Nat.not_lt_zero _)
  | xₓ :: R, hₓ, gₓ, cₓ, hcₓ => by
    rw [List.length_cons] at hcₓ
    by_cases eₓ : cₓ = R.length
    · subst eₓ; exact ⟨xₓ, List.mem_cons_self, hₓ.1, hₓ.2.1, hₓ.2.2.1, gₓ.1, gₓ.2.1, gₓ.2.2.1⟩
    · obtain ⟨yₓ, hyₓ, qₓ⟩ := CRMR_at hₓ.2.2.2 gₓ.2.2.2 cₓ (by omega)
      exact ⟨yₓ, List.mem_cons_of_mem _ hyₓ, qₓ⟩
/-- howₓ highₓ the stack grows, as the reference's code says -/
def DPs (τ : SS) : Prop := ∀ rₓ cₓ : Nat, rₓ < 6 → (cₓ : Int) < τ 5 rₓ → τ 4 (36 * rₓ + 3 * cₓ + 1) < 0 ∨ ∃ Dd : Nat → Int, Dd (τ 4 (36 * rₓ + 3 * cₓ + 1)).toNat = 0 ∧ ∀ jₓ : Nat, (τ 4 (36 * rₓ + 3 * cₓ + 1)).toNat ≤ jₓ → (jₓ : Int) < τ 4 (36 * rₓ + 3 * cₓ + 2) → Dd (jₓ + 1) ≤ 64 ∧ ((τ 2 (400 * rₓ + jₓ) % 16 = 0 ∨ τ 2 (400 * rₓ + jₓ) % 16 = 1) → Dd (jₓ + 1) = Dd jₓ + 1) ∧ (τ 2 (400 * rₓ + jₓ) % 16 = 11 → Dd (jₓ + 1) = Dd jₓ) ∧ (τ 2 (400 * rₓ + jₓ) % 16 ≠ 0 → τ 2 (400 * rₓ + jₓ) % 16 ≠ 1 → τ 2 (400 * rₓ + jₓ) % 16 ≠ 11 → Dd (jₓ + 1) = Dd jₓ - 1)
theorem tyT_len {tₓ : Int} {S S' : List Bool} (htₓ : tyT tₓ S = some S') : ((10 ≤ tₓ ∧ tₓ ≤ 21 ∧ tₓ ≠ 19) → S'.length + 1 = S.length) ∧ (tₓ = 19 → S'.length = S.length) ∧ (¬ (10 ≤ tₓ ∧ tₓ ≤ 21) → S'.length = S.length + 1) := by
  unfold tyT at htₓ
  by_cases c1ₓ : 10 ≤ tₓ ∧ tₓ ≤ 13
  · rw [if_pos c1ₓ] at htₓ
    match S, htₓ with
    | false :: false :: T, htₓ =>
      obtain rfl := Option.some.inj htₓ
      exact ⟨fun _ => rfl, fun qₓ => by omega, fun qₓ => by omega⟩
  rw [if_neg c1ₓ] at htₓ
  by_cases c2ₓ : 14 ≤ tₓ ∧ tₓ ≤ 18
  · rw [if_pos c2ₓ] at htₓ
    match S, htₓ with
    | false :: false :: T, htₓ =>
      obtain rfl := Option.some.inj htₓ
      exact ⟨fun _ => rfl, fun qₓ => by omega, fun qₓ => by omega⟩
  rw [if_neg c2ₓ] at htₓ
  by_cases c3ₓ : tₓ = 19
  · rw [if_pos c3ₓ] at htₓ
    match S, htₓ with
    | true :: T, htₓ =>
      obtain rfl := Option.some.inj htₓ
      exact ⟨fun qₓ => absurd c3ₓ qₓ.2.2, fun _ => rfl, fun qₓ => by omega⟩
  rw [if_neg c3ₓ] at htₓ
  by_cases c4ₓ : tₓ = 20 ∨ tₓ = 21
  · rw [if_pos c4ₓ] at htₓ
    match S, htₓ with
    | true :: true :: T, htₓ =>
      obtain rfl := Option.some.inj htₓ
      exact ⟨fun _ => rfl, fun qₓ => absurd qₓ c3ₓ, fun qₓ => by omega⟩
  rw [if_neg c4ₓ] at htₓ
  obtain rfl := Option.some.inj htₓ
  exact ⟨fun qₓ => by omega, fun qₓ => absurd qₓ c3ₓ, fun _ => rfl⟩
theorem enc_m {tₓ : Int} (hₓ : okK tₓ) : (¬ (10 ≤ tₓ ∧ tₓ ≤ 21) → encM tₓ % 16 = 0 ∨ encM tₓ % 16 = 1) ∧ (tₓ = 19 → encM tₓ % 16 = 11) ∧ ((10 ≤ tₓ ∧ tₓ ≤ 21 ∧ tₓ ≠ 19) → encM tₓ % 16 ≠ 0 ∧ encM tₓ % 16 ≠ 1 ∧ encM tₓ % 16 ≠ 11) := by
  refine ⟨fun qₓ => ?_, fun qₓ => ?_, fun qₓ => ?_⟩
  · rcases hₓ with hₓ | hₓ
    · have h5ₓ : (0 ≤ tₓ ∧ tₓ < 10) ∨ (32 ≤ tₓ ∧ tₓ ≤ 100031) := of_decide_eq_true hₓ
      unfold encM
      by_cases cₓ : 32 ≤ tₓ
      · rw [if_pos cₓ]; omega
      · rw [if_neg cₓ, if_pos (by omega)]; omega
    · exact absurd hₓ qₓ
  · unfold encM; rw [if_neg (by omega), if_neg (by omega)]; omega
  · unfold encM; rw [if_neg (by omega), if_neg (by omega)]; omega
theorem dep_len {fₓ gₓ : Nat → Int} {D : Nat → List Bool} {Dd : Nat → Int} {sₓ ed : Nat} (hD0ₓ : D sₓ = []) (hDₓ : ∀ jₓ : Nat, sₓ ≤ jₓ → jₓ < ed → tyT (fₓ jₓ) (D jₓ) = some (D (jₓ + 1))) (hgₓ : ∀ jₓ : Nat, sₓ ≤ jₓ → jₓ < ed → gₓ jₓ = encM (fₓ jₓ) ∧ okK (fₓ jₓ)) (hd0ₓ : Dd sₓ = 0) (hdₓ : ∀ jₓ : Nat, sₓ ≤ jₓ → jₓ < ed → Dd (jₓ + 1) ≤ 64 ∧ ((gₓ jₓ % 16 = 0 ∨ gₓ jₓ % 16 = 1) → Dd (jₓ + 1) = Dd jₓ + 1) ∧ (gₓ jₓ % 16 = 11 → Dd (jₓ + 1) = Dd jₓ) ∧ (gₓ jₓ % 16 ≠ 0 → gₓ jₓ % 16 ≠ 1 → gₓ jₓ % 16 ≠ 11 → Dd (jₓ + 1) = Dd jₓ - 1)) : ∀ kₓ : Nat, sₓ + kₓ ≤ ed → (((D (sₓ + kₓ)).length : Nat) : Int) = Dd (sₓ + kₓ) ∧ (D (sₓ + kₓ)).length ≤ 64
  | 0, _ => by
    rw [Nat.add_zero, hD0ₓ, hd0ₓ]
    exact ⟨rfl, by decide⟩
  | kₓ + 1, hkₓ => by
    obtain ⟨i1ₓ, i2ₓ⟩ := dep_len hD0ₓ hDₓ hgₓ hd0ₓ hdₓ kₓ (by omega)
    obtain ⟨l1ₓ, l2ₓ, l3ₓ⟩ := tyT_len (hDₓ (sₓ + kₓ) (by omega) (by omega))
    obtain ⟨g1ₓ, g2ₓ⟩ := hgₓ (sₓ + kₓ) (by omega) (by omega)
    obtain ⟨d0ₓ, d1ₓ, d2ₓ, d3ₓ⟩ := hdₓ (sₓ + kₓ) (by omega) (by omega)
    obtain ⟨m1ₓ, m2ₓ, m3ₓ⟩ := enc_m g2ₓ
    rw [← g1ₓ] at m1ₓ m2ₓ m3ₓ
    rw [show sₓ + (kₓ + 1) = sₓ + kₓ + 1 by omega]
    by_cases c1ₓ : 10 ≤ fₓ (sₓ + kₓ) ∧ fₓ (sₓ + kₓ) ≤ 21
    · by_cases c2ₓ : fₓ (sₓ + kₓ) = 19
      · have := l2ₓ c2ₓ
        have := d2ₓ (m2ₓ c2ₓ)
        omega
      · have := l1ₓ ⟨c1ₓ.1, c1ₓ.2, c2ₓ⟩
        obtain ⟨q1ₓ, q2ₓ, q3ₓ⟩ := m3ₓ ⟨c1ₓ.1, c1ₓ.2, c2ₓ⟩
        have := d3ₓ q1ₓ q2ₓ q3ₓ
        omega
    · have := l3ₓ c1ₓ
      have := d1ₓ (m1ₓ c1ₓ)
      omega
/-- whether aₓ clause's test holdsₓ -/
def tstP (wv : Int → Int) (O : List Int) (yₓ : Int × Nat × Bool × Nat) : Prop := yₓ.2.2.1 = true → (evR wv (nthO O) yₓ.2.1 (yₓ.2.2.2 - yₓ.2.1)).headD 0 = 1
def FCd (σ σ' : SS) : Prop := ∀ qₓ kₓ : Nat, qₓ ≠ 1150 → ¬ (qₓ = 149 ∧ kₓ = 4) → σ' qₓ kₓ = σ qₓ kₓ
def FRd2 (τ τ' : SS) : Prop := ∀ qₓ kₓ : Nat, qₓ ≠ 1010 → qₓ ≠ 1011 → ¬ (qₓ = 0 ∧ kₓ = 24) → τ' qₓ kₓ = τ qₓ kₓ
section
variable {σ σ' σ0 τ τ' τ0 : SS} {rₓ xₓ vₓ : Int} {nₓ iₓ cₓ : Nat} {O : List Int} {R : List (Int × Nat × Bool × Nat)} {wv : Int → Int} {yₓ : Int × Nat × Bool × Nat}
/-- what stands of aₓ clause at both sides -/
def CLZ (qr iₓ : Nat) (O : List Int) (σ τ : SS) (cₓ : Nat) (yₓ : Int × Nat × Bool × Nat) : Prop := σ (qr + 1) cₓ = yₓ.1 ∧ σ (qr + 2) cₓ = (yₓ.2.1 : Int) ∧ σ (qr + 2) (cₓ + 1) = (yₓ.2.2.2 : Int) ∧ τ 4 (36 * iₓ + 3 * cₓ) = yₓ.1 ∧ τ 4 (36 * iₓ + 3 * cₓ + 1) = (if yₓ.2.2.1 = true then (yₓ.2.1 : Int) else -1) ∧ τ 4 (36 * iₓ + 3 * cₓ + 2) = (yₓ.2.2.2 : Int)
/-- the code's tokens at both sides -/
def CODE (qr iₓ : Nat) (O : List Int) (σ τ : SS) : Prop := ∀ jₓ : Nat, jₓ < O.length → σ (qr + 3) jₓ = nthO O jₓ ∧ τ 2 (400 * iₓ + jₓ) = encM (nthO O jₓ) ∧ okK (nthO O jₓ)
def YOK (O : List Int) (yₓ : Int × Nat × Bool × Nat) : Prop := yₓ.2.1 ≤ yₓ.2.2.2 ∧ yₓ.2.2.2 ≤ O.length ∧ (yₓ.2.2.1 = false → yₓ.2.1 = yₓ.2.2.2) ∧ (yₓ.2.2.1 = true → yₓ.2.1 < yₓ.2.2.2 ∧ CTy (nthO O) yₓ.2.1 yₓ.2.2.2)
theorem c_holdsT {qr : Nat} (hq0ₓ : 5 ≤ qr) (hq1ₓ : qr < 100) (hKₓ : CODE qr iₓ O σ τ) (hyₓ : CLZ qr iₓ O σ τ cₓ yₓ) (hYₓ : YOK O yₓ) (hiₓ : iₓ < 6) (hclₓ : (cₓ : Int) < τ 5 iₓ) (hPₓ : DPs τ) (h9ₓ : σ 149 9 = 0) (hwvₓ : ∀ kₓ : Int, 0 ≤ kₓ → kₓ < 10 → wvF (σ 1152 4) (σ 152 0) (σ 152 1) (if σ 149 6 = 0 then 1 else 0) (σ 149 8) (σ 152 5) (σ 152 6) (σ 152 7) kₓ = wv kₓ) (eₓ : m_X1_holds nₓ 149 152 qr (cₓ : Int) σ = some (rₓ, σ')) : FCt σ σ' ∧ ((rₓ = 1 ∧ tstP wv O yₓ) ∨ (rₓ = 0 ∧ ¬ tstP wv O yₓ)) := by
  obtain ⟨y1ₓ, y2ₓ, y3ₓ, y4ₓ, y5ₓ, y6ₓ⟩ := hyₓ
  obtain ⟨Y1, Y2, Y3, Y4⟩ := hYₓ
  unfold m_X1_holds m_X2_firstToken at eₓ
  have f0ₓ : FCt σ (upS σ 149 4 0) := fun qₓ kₓ aₓ bₓ => upS_n bₓ
  rw [mWr_e, mRd_e, show ((cₓ : Int)).toNat = cₓ by omega, upS_q (show qr + 2 ≠ 149 by omega), y2ₓ, mRet_e, mCall_s] at eₓ
  have hv : ∀ (nₓ : Nat) (σ1 : SS) (tₓ : Int), FCt (upS σ 149 4 0) σ1 → 0 ≤ tₓ → tₓ < 10 → m_X1_valueOf nₓ 149 152 tₓ σ1 = some (wv tₓ, σ1) := by
    intro nₓ σ1 tₓ hFₓ t0ₓ t1ₓ
    have hF2ₓ := f0ₓ.tr hFₓ
    rw [c_valueOf ((hF2ₓ 149 9 (by decide) (by decide)).trans h9ₓ) t0ₓ t1ₓ, hF2ₓ 1152 4 (by decide) (by decide), hF2ₓ 152 0 (by decide) (by decide), hF2ₓ 152 1 (by decide) (by decide), hF2ₓ 149 6 (by decide) (by decide), hF2ₓ 149 8 (by decide) (by decide), hF2ₓ 152 5 (by decide) (by decide), hF2ₓ 152 6 (by decide) (by decide), hF2ₓ 152 7 (by decide) (by decide), hwvₓ tₓ t0ₓ t1ₓ]
  have hstₓ : (upS σ 149 4 0) (qr + 2) (cₓ + 1) = ((yₓ.2.2.2 : Nat) : Int) := (upS_q (by omega)).trans y3ₓ
  have hcodeₓ : ∀ jₓ : Nat, yₓ.2.1 ≤ jₓ → jₓ < yₓ.2.2.2 → (upS σ 149 4 0) (qr + 3) jₓ = nthO O jₓ ∧ okK (nthO O jₓ) := fun jₓ _ hjₓ => by
    obtain ⟨k1ₓ, k2ₓ, k3ₓ⟩ := hKₓ jₓ (by omega)
    exact ⟨(upS_q (by omega)).trans k1ₓ, k3ₓ⟩
  have hS0ₓ : CSt (upS σ 149 4 0) (evR wv (nthO O) yₓ.2.1 0) := ⟨upS_s, trivial⟩
  cases hbₓ : yₓ.2.2.1 with
  | false =>
    have heₓ := Y3 hbₓ
    obtain ⟨z1ₓ, -, z3ₓ⟩ := c_holds0 (wv := wv) (fₓ := nthO O) (sₓ := yₓ.2.1) (ed := yₓ.2.2.2) (D := fun _ => []) hq0ₓ hq1ₓ hstₓ hcodeₓ rfl (fun jₓ aₓ bₓ => by omega) (fun kₓ _ => by decide) hv nₓ 0 _ Y1 FCt.rf hS0ₓ trivial eₓ
    rw [if_pos heₓ.symm] at z3ₓ
    exact ⟨f0ₓ.tr z1ₓ, Or.inl ⟨z3ₓ, fun qₓ => by rw [hbₓ] at qₓ; cases qₓ⟩⟩
  | true =>
    obtain ⟨hltₓ, D, d0ₓ, d1ₓ, d2ₓ⟩ := Y4 hbₓ
    rw [hbₓ, if_pos rfl] at y5ₓ
    have hlenₓ : ∀ kₓ : Nat, yₓ.2.1 + kₓ ≤ yₓ.2.2.2 → (D (yₓ.2.1 + kₓ)).length ≤ 64 := by
      rcases hPₓ iₓ cₓ hiₓ hclₓ with hPₓ | ⟨Dd, p0ₓ, p1ₓ⟩
      · rw [y5ₓ] at hPₓ; omega
      · rw [y5ₓ] at p0ₓ p1ₓ
        rw [y6ₓ] at p1ₓ
        rw [show (((yₓ.2.1 : Nat) : Int)).toNat = yₓ.2.1 by omega] at p0ₓ p1ₓ
        exact fun kₓ hkₓ => (dep_len (gₓ := fun jₓ => τ 2 (400 * iₓ + jₓ)) d0ₓ d2ₓ (fun jₓ _ bₓ => by
          obtain ⟨k1ₓ, k2ₓ, k3ₓ⟩ := hKₓ jₓ (by omega)
          exact ⟨k2ₓ, k3ₓ⟩) p0ₓ (fun jₓ aₓ bₓ => p1ₓ jₓ aₓ (by omega)) kₓ hkₓ).2
    obtain ⟨z1ₓ, z2ₓ, z3ₓ⟩ := c_holds0 (wv := wv) (fₓ := nthO O) (sₓ := yₓ.2.1) (ed := yₓ.2.2.2) (D := D) hq0ₓ hq1ₓ hstₓ hcodeₓ d0ₓ d2ₓ hlenₓ hv nₓ 0 _ Y1 FCt.rf hS0ₓ (by rw [Nat.add_zero, d0ₓ]; exact trivial) eₓ
    rw [if_neg (by omega)] at z3ₓ
    rw [d1ₓ] at z2ₓ
    obtain ⟨wₓ, V, hwₓ, hw1ₓ, -⟩ := VT_1 z2ₓ
    have h01ₓ := hw1ₓ rfl
    rw [hwₓ] at z3ₓ
    refine ⟨f0ₓ.tr z1ₓ, ?_⟩
    have htₓ : tstP wv O yₓ ↔ wₓ = 1 := by
      unfold tstP
      rw [hwₓ]
      exact ⟨fun qₓ => qₓ hbₓ, fun qₓ _ => qₓ⟩
    rw [htₓ]
    have z3'ₓ : rₓ = if wₓ = 0 then 0 else 1 := z3ₓ
    rcases h01ₓ with rfl | rfl
    · exact Or.inr ⟨by rw [z3'ₓ, if_pos rfl], by decide⟩
    · exact Or.inl ⟨by rw [z3'ₓ, if_neg (by decide)], rfl⟩
theorem r_testT {qr : Nat} (hKₓ : CODE qr iₓ O σ τ) (hYₓ : YOK O yₓ) (hbₓ : yₓ.2.2.1 = true) (hv : ∀ kₓ : Nat, kₓ < 10 → τ 1011 kₓ = wv (kₓ : Int)) (eₓ : m_X12_reckons nₓ 0 (iₓ : Int) (yₓ.2.1 : Int) (yₓ.2.2.2 : Int) τ = some (rₓ, τ')) : FRt τ τ' ∧ (rₓ = 1 ↔ tstP wv O yₓ) := by
  obtain ⟨Y1, Y2, Y3, Y4⟩ := hYₓ
  obtain ⟨hltₓ, D, d0ₓ, d1ₓ, d2ₓ⟩ := Y4 hbₓ
  unfold m_X12_reckons at eₓ
  rw [mWr_e] at eₓ
  have f0ₓ : FRt τ (upS τ 0 24 0) := fun qₓ kₓ aₓ bₓ => upS_n bₓ
  have hS0ₓ : RSt (upS τ 0 24 0) (evR wv (nthO O) yₓ.2.1 0) := ⟨upS_s, trivial⟩
  obtain ⟨z1ₓ, z2ₓ⟩ := r_reckons0 (wv := wv) (fₓ := nthO O) (iₓ := iₓ) (sₓ := yₓ.2.1) (ed := yₓ.2.2.2) (D := D) (τ0 := upS τ 0 24 0) (fun jₓ aₓ bₓ => by
    obtain ⟨k1ₓ, k2ₓ, k3ₓ⟩ := hKₓ jₓ (by omega)
    refine ⟨(upS_q (by decide)).trans k2ₓ, k3ₓ, ?_⟩
    rcases k3ₓ with k3ₓ | k3ₓ
    · have h5ₓ : (0 ≤ nthO O jₓ ∧ nthO O jₓ < 10) ∨ (32 ≤ nthO O jₓ ∧ nthO O jₓ ≤ 100031) := of_decide_eq_true k3ₓ
      omega
    · omega) d0ₓ d2ₓ d1ₓ (fun kₓ hkₓ => (upS_q (by decide)).trans (hv kₓ hkₓ)) nₓ 0 _ Y1 FRt.rf hS0ₓ (by rw [Nat.add_zero, d0ₓ]; exact trivial) eₓ
  refine ⟨f0ₓ.tr z1ₓ, ?_⟩
  unfold tstP
  rw [z2ₓ]
  exact ⟨fun qₓ _ => qₓ, fun qₓ => qₓ hbₓ⟩
/-- the first clause that may be done and whose test holdsₓ -/
def CHO (ok : Nat → Prop) (dd : Nat → Int) (L cₓ : Nat) (rₓ : Int) : Prop := (rₓ = 3 ∧ ∀ xₓ : Nat, cₓ ≤ xₓ → xₓ < L → ¬ ok xₓ) ∨ ∃ xₓ : Nat, cₓ ≤ xₓ ∧ xₓ < L ∧ ok xₓ ∧ (∀ zₓ : Nat, cₓ ≤ zₓ → zₓ < xₓ → ¬ ok zₓ) ∧ rₓ = dd xₓ
theorem CHO_det {ok : Nat → Prop} {dd : Nat → Int} {L cₓ : Nat} {rₓ r'ₓ : Int} (hₓ : CHO ok dd L cₓ rₓ) (gₓ : CHO ok dd L cₓ r'ₓ) : rₓ = r'ₓ := by
  rcases hₓ with ⟨h1ₓ, h2ₓ⟩ | ⟨xₓ, h1ₓ, h2ₓ, h3ₓ, h4ₓ, h5ₓ⟩
  · rcases gₓ with ⟨g1ₓ, g2ₓ⟩ | ⟨zₓ, g1ₓ, g2ₓ, g3ₓ, g4ₓ, g5ₓ⟩
    · rw [h1ₓ, g1ₓ]
    · exact absurd g3ₓ (h2ₓ zₓ g1ₓ g2ₓ)
  · rcases gₓ with ⟨g1ₓ, g2ₓ⟩ | ⟨zₓ, g1ₓ, g2ₓ, g3ₓ, g4ₓ, g5ₓ⟩
    · exact absurd h3ₓ (g2ₓ xₓ h1ₓ h2ₓ)
    · have hxzₓ : xₓ = zₓ := by
        by_cases c1ₓ : xₓ < zₓ
        · exact absurd h3ₓ (g4ₓ xₓ h1ₓ c1ₓ)
        · by_cases c2ₓ : zₓ < xₓ
          · exact absurd g3ₓ (h4ₓ zₓ g1ₓ c2ₓ)
          · omega
      rw [h5ₓ, g5ₓ, hxzₓ]
theorem CHO_skip {ok : Nat → Prop} {dd : Nat → Int} {L cₓ : Nat} {rₓ : Int} (hnₓ : ¬ ok cₓ) (hₓ : CHO ok dd L (cₓ + 1) rₓ) : CHO ok dd L cₓ rₓ := by
  rcases hₓ with ⟨h1ₓ, h2ₓ⟩ | ⟨xₓ, h1ₓ, h2ₓ, h3ₓ, h4ₓ, h5ₓ⟩
  · refine Or.inl ⟨h1ₓ, fun xₓ aₓ bₓ => ?_⟩
    by_cases eₓ : xₓ = cₓ
    · subst eₓ; exact hnₓ
    · exact h2ₓ xₓ (by omega) bₓ
  · refine Or.inr ⟨xₓ, by omega, h2ₓ, h3ₓ, fun zₓ aₓ bₓ => ?_, h5ₓ⟩
    by_cases eₓ : zₓ = cₓ
    · subst eₓ; exact hnₓ
    · exact h4ₓ zₓ (by omega) bₓ
/-- what aₓ walker may do -/
def mayP (goₓ asd ask : Prop) (dₓ : Int) : Prop := (dₓ = 0 → goₓ) ∧ (dₓ = 1 → asd) ∧ (dₓ = 2 → ask)
theorem c_mayDo {goₓ asd ask : Prop} (h9ₓ : σ 149 9 = 0) (hgₓ : (σ 149 6 = 1 ∧ goₓ) ∨ (σ 149 6 = 0 ∧ ¬ goₓ)) (haₓ : vₓ = 1 → ((σ 149 7 = -1 ∧ ¬ asd) ∨ (σ 149 7 ≠ -1 ∧ asd))) (hkₓ : (σ 1152 8 = σ 1152 4 / 24 ∧ ¬ ask) ∨ (σ 1152 8 ≠ σ 1152 4 / 24 ∧ ask)) (eₓ : m_X1_mayDo nₓ 149 152 vₓ σ = some (rₓ, σ')) : σ' = σ ∧ ((rₓ = 1 ∧ mayP goₓ asd ask vₓ) ∨ (rₓ = 0 ∧ ¬ mayP goₓ asd ask vₓ)) := by
  unfold m_X1_mayDo b_X1_mayDo_65 m_X9_askedToday m_X9_dayNow at eₓ
  by_cases c0ₓ : vₓ = 0
  · rw [mIf_pos c0ₓ, mRd_e, mRet_e] at eₓ
    obtain ⟨rfl, rfl⟩ := some_el eₓ
    refine ⟨rfl, ?_⟩
    rcases hgₓ with ⟨g1ₓ, g2ₓ⟩ | ⟨g1ₓ, g2ₓ⟩
    · exact Or.inl ⟨g1ₓ, fun _ => g2ₓ, fun qₓ => by omega, fun qₓ => by omega⟩
    · exact Or.inr ⟨g1ₓ, fun qₓ => g2ₓ (qₓ.1 c0ₓ)⟩
  rw [mIf_neg c0ₓ] at eₓ
  by_cases c1ₓ : vₓ = 1
  · rw [mIf_pos c1ₓ, mRd_e] at eₓ
    rcases haₓ c1ₓ with ⟨g1ₓ, g2ₓ⟩ | ⟨g1ₓ, g2ₓ⟩
    · rw [mIf_pos g1ₓ, mRet_e] at eₓ
      obtain ⟨rfl, rfl⟩ := some_el eₓ
      exact ⟨rfl, Or.inr ⟨rfl, fun qₓ => g2ₓ (qₓ.2.1 c1ₓ)⟩⟩
    · rw [mIf_neg g1ₓ, mRet_e] at eₓ
      obtain ⟨rfl, rfl⟩ := some_el eₓ
      exact ⟨rfl, Or.inl ⟨rfl, fun qₓ => absurd qₓ c0ₓ, fun _ => g2ₓ, fun qₓ => by omega⟩⟩
  rw [mIf_neg c1ₓ] at eₓ
  by_cases c2ₓ : vₓ = 2
  · rw [mIf_pos c2ₓ, mRd_e, h9ₓ, mIf_neg (fun qₓ => qₓ rfl), mRd_e, mRd_e, mLet_e, mRet_e, mCall_s] at eₓ
    rcases hkₓ with ⟨g1ₓ, g2ₓ⟩ | ⟨g1ₓ, g2ₓ⟩
    · rw [mIf_neg (fun qₓ => qₓ g1ₓ), mRet_e, mCall_s, mIf_pos (by decide), mRet_e] at eₓ
      obtain ⟨rfl, rfl⟩ := some_el eₓ
      exact ⟨rfl, Or.inr ⟨rfl, fun qₓ => g2ₓ (qₓ.2.2 c2ₓ)⟩⟩
    · rw [mIf_pos g1ₓ, mRet_e, mCall_s, mIf_neg (fun qₓ => qₓ rfl), mRet_e] at eₓ
      obtain ⟨rfl, rfl⟩ := some_el eₓ
      exact ⟨rfl, Or.inl ⟨rfl, fun qₓ => absurd qₓ c0ₓ, fun qₓ => absurd qₓ c1ₓ, fun _ => g2ₓ⟩⟩
  rw [mIf_neg c2ₓ, mRet_e] at eₓ
  obtain ⟨rfl, rfl⟩ := some_el eₓ
  exact ⟨rfl, Or.inl ⟨rfl, fun qₓ => absurd qₓ c0ₓ, fun qₓ => absurd qₓ c1ₓ, fun qₓ => absurd qₓ c2ₓ⟩⟩
theorem r_mayDo {aₓ tₓ N : Nat} (hsₓ : ¬ τ 0 27 = 0) (h30ₓ : τ 0 30 = 0) (h1ₓ : τ 12 1 = (N : Int)) (haₓ : τ 12 216 = (aₓ : Int)) (htₓ : τ 12 220 = (tₓ : Int)) (hAₓ : -1 ≤ τ 0 31) (eₓ : m_X12_mayDo nₓ 0 0 vₓ τ = some (rₓ, τ')) : τ' = τ ∧ ((rₓ = 1 ∧ mayP (GOA (τ 12) (τ 0 31) aₓ tₓ) (∃ uₓ : Nat, uₓ < N ∧ OPA (τ 12) uₓ aₓ tₓ) (τ 12 224 ≠ (tₓ : Int) / 24) vₓ) ∨ (rₓ = 0 ∧ ¬ mayP (GOA (τ 12) (τ 0 31) aₓ tₓ) (∃ uₓ : Nat, uₓ < N ∧ OPA (τ 12) uₓ aₓ tₓ) (τ 12 224 ≠ (tₓ : Int) / 24) vₓ)) := by
  unfold m_X12_mayDo b_X12_mayDo_67 m_X12_askedToday at eₓ
  by_cases c0ₓ : vₓ = 0
  · rw [mIf_pos c0ₓ] at eₓ
    obtain ⟨r1ₓ, s1ₓ, e1ₓ, eₓ⟩ := mCall_el eₓ
    obtain ⟨rfl, rfl⟩ := some_el eₓ
    obtain ⟨rfl, hgₓ⟩ := r_canGo hsₓ haₓ htₓ hAₓ e1ₓ
    refine ⟨rfl, ?_⟩
    rcases hgₓ with ⟨g1ₓ, g2ₓ⟩ | ⟨g1ₓ, g2ₓ⟩
    · exact Or.inl ⟨g1ₓ, fun _ => g2ₓ, fun qₓ => by omega, fun qₓ => by omega⟩
    · exact Or.inr ⟨g1ₓ, fun qₓ => g2ₓ (qₓ.1 c0ₓ)⟩
  rw [mIf_neg c0ₓ] at eₓ
  by_cases c1ₓ : vₓ = 1
  · rw [mIf_pos c1ₓ] at eₓ
    obtain ⟨r1ₓ, s1ₓ, e1ₓ, eₓ⟩ := mCall_el eₓ
    obtain ⟨esₓ, hgₓ⟩ := r_asideOf hsₓ h1ₓ haₓ htₓ e1ₓ
    rw [esₓ] at eₓ
    rcases hgₓ with ⟨g1ₓ, g2ₓ⟩ | ⟨uₓ, g1ₓ, g2ₓ, g3ₓ, -⟩
    · rw [g1ₓ, mIf_pos (by decide), mRet_e] at eₓ
      obtain ⟨rfl, rfl⟩ := some_el eₓ
      exact ⟨rfl, Or.inr ⟨rfl, fun qₓ => by obtain ⟨uₓ, u1ₓ, u2ₓ⟩ := qₓ.2.1 c1ₓ; exact g2ₓ uₓ u1ₓ u2ₓ⟩⟩
    · rw [g1ₓ, mIf_neg (by omega), mRet_e] at eₓ
      obtain ⟨rfl, rfl⟩ := some_el eₓ
      exact ⟨rfl, Or.inl ⟨rfl, fun qₓ => absurd qₓ c0ₓ, fun _ => ⟨uₓ, g2ₓ, g3ₓ⟩, fun qₓ => by omega⟩⟩
  rw [mIf_neg c1ₓ] at eₓ
  by_cases c2ₓ : vₓ = 2
  · rw [mIf_pos c2ₓ, mRd_e, h30ₓ, mIf_neg (fun qₓ => qₓ rfl), r_wo8, mCall_s, r_wo4, mCall_s, htₓ, mLet_e] at eₓ
    by_cases c3ₓ : τ 12 224 = (tₓ : Int) / 24
    · rw [mIf_neg (fun qₓ => qₓ c3ₓ), mRet_e, mCall_s, mIf_pos (by decide), mRet_e] at eₓ
      obtain ⟨rfl, rfl⟩ := some_el eₓ
      exact ⟨rfl, Or.inr ⟨rfl, fun qₓ => qₓ.2.2 c2ₓ c3ₓ⟩⟩
    · rw [mIf_pos c3ₓ, mRet_e, mCall_s, mIf_neg (fun qₓ => qₓ rfl), mRet_e] at eₓ
      obtain ⟨rfl, rfl⟩ := some_el eₓ
      exact ⟨rfl, Or.inl ⟨rfl, fun qₓ => absurd qₓ c0ₓ, fun qₓ => absurd qₓ c1ₓ, fun _ => c3ₓ⟩⟩
  rw [mIf_neg c2ₓ, mRet_e] at eₓ
  obtain ⟨rfl, rfl⟩ := some_el eₓ
  exact ⟨rfl, Or.inl ⟨rfl, fun qₓ => absurd qₓ c0ₓ, fun qₓ => absurd qₓ c1ₓ, fun qₓ => absurd qₓ c2ₓ⟩⟩
end
