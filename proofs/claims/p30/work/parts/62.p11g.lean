/-! what aₓ town that was told is: corners of streets are corners, and so on; by the machine -/
def GD (D : Nat → Int) : Prop := ((0 ≤ D 0 ∧ D 0 ≤ 10 ∧ D 0 ≠ 1) ∧ (0 ≤ D 1 ∧ D 1 ≤ 12) ∧ (0 ≤ D 2 ∧ D 2 ≤ 8) ∧ 0 ≤ D 3 ∧ D 3 ≤ 4) ∧ (∀ iₓ : Nat, (iₓ : Int) < D 1 → (0 ≤ D (10 + 10 * iₓ) ∧ D (10 + 10 * iₓ) < D 0 ∧ 0 ≤ D (11 + 10 * iₓ) ∧ D (11 + 10 * iₓ) < D 0 ∧ D (11 + 10 * iₓ) ≠ D (10 + 10 * iₓ)) ∧ (1 ≤ D (12 + 10 * iₓ) ∧ D (12 + 10 * iₓ) ≤ 9) ∧ ∀ jₓ : Nat, jₓ < 7 → 0 ≤ D (13 + 10 * iₓ + jₓ) ∧ D (13 + 10 * iₓ + jₓ) ≤ 3) ∧ (∀ kₓ : Nat, (kₓ : Int) < D 2 → 0 ≤ D (140 + 2 * kₓ) ∧ D (140 + 2 * kₓ) < D 0 ∧ 0 ≤ D (141 + 2 * kₓ) ∧ D (141 + 2 * kₓ) ≤ 359) ∧ ∀ kₓ : Nat, (kₓ : Int) < D 3 → 0 ≤ D (156 + 3 * kₓ) ∧ D (156 + 3 * kₓ) < D 1 ∧ 0 ≤ D (157 + 3 * kₓ) ∧ D (157 + 3 * kₓ) ≤ 23 ∧ D (157 + 3 * kₓ) < D (158 + 3 * kₓ) ∧ D (158 + 3 * kₓ) ≤ 24
theorem GD_0 : GD (fun _ => 0) := ⟨by decide, fun iₓ hiₓ => absurd hiₓ (by show ¬ (iₓ : Int) < 0; omega), fun iₓ hiₓ => absurd hiₓ (by show ¬ (iₓ : Int) < 0; omega), fun iₓ hiₓ => absurd hiₓ (by show ¬ (iₓ : Int) < 0; omega)⟩
def cg (cₓ : TCf) : Prop := (cₓ.1 = 0 → GD cₓ.2.2.2 ∧ 0 ≤ cₓ.2.2.1 ∧ (cₓ.2.2.1 = 0 → cₓ.2.2.2 1 = 0 ∧ cₓ.2.2.2 2 = 0 ∧ cₓ.2.2.2 3 = 0)) ∧ (cₓ.1 = 9 → GD cₓ.2.2.2)
theorem cg_0 {qₓ L : Int} {D : Nat → Int} (hₓ : GD D) (h0ₓ : 0 ≤ L) (h1ₓ : L = 0 → D 1 = 0 ∧ D 2 = 0 ∧ D 3 = 0) : cg (0, qₓ, L, D) := ⟨fun _ => ⟨hₓ, h0ₓ, h1ₓ⟩, fun eₓ => absurd (show (0 : Nat) = 9 from eₓ) (by decide)⟩
theorem cg_9 {φ xₓ : Int} {D : Nat → Int} (hₓ : GD D) : cg (9, φ, xₓ, D) := ⟨fun eₓ => absurd (show (9 : Nat) = 0 from eₓ) (by decide), fun _ => hₓ⟩
theorem cg_H {φ : Int} : cg (tH φ) := cg_9 GD_0
section
variable {F : Int → Int} {N : Int}
theorem cg_nm {lo hiₓ pₓ : Int} {K : Int → Int → TCf} (hₓ : ∀ vₓ eₓ : Int, lo ≤ vₓ → vₓ ≤ hiₓ → cg (K vₓ eₓ)) : cg (nmK F N lo hiₓ pₓ K) := by
  by_cases cₓ : sk F N pₓ < N ∧ isDg F (sk F N pₓ) = true
  · by_cases dₓ : 5 < dg F N (sk F N pₓ) - sk F N pₓ ∨ nv F N (sk F N pₓ) < lo ∨ hiₓ < nv F N (sk F N pₓ)
    · rw [nmK_off cₓ dₓ]; exact cg_H
    · rw [nmK_ok cₓ (by omega)]; exact hₓ _ _ (by omega) (by omega)
  · rw [nmK_bad cₓ]; exact cg_H
theorem sgn_b {pₓ : Int} : sgn F N pₓ ≤ 3 := by
  unfold sgn ioS
  by_cases cₓ : pₓ < N
  · rw [if_pos cₓ]
    by_cases c1ₓ : F pₓ = 46
    · rw [if_pos c1ₓ]; decide
    · rw [if_neg c1ₓ]
      by_cases c2ₓ : F pₓ = 62
      · rw [if_pos c2ₓ]; decide
      · rw [if_neg c2ₓ]
        by_cases c3ₓ : F pₓ = 60
        · rw [if_pos c3ₓ]; decide
        · rw [if_neg c3ₓ]
          by_cases c4ₓ : F pₓ = 61
          · rw [if_pos c4ₓ]; decide
          · rw [if_neg c4ₓ]; decide
  · rw [if_neg cₓ]; decide
theorem cg_sg {K : (Nat → Int) → Int → TCf} : ∀ (jₓ bₓ : Nat) (pₓ : Int) (D : Nat → Int), (∀ (D' : Nat → Int) (p'ₓ : Int), (∀ kₓ : Nat, (kₓ < bₓ ∨ bₓ + jₓ ≤ kₓ) → D' kₓ = D kₓ) → (∀ kₓ : Nat, bₓ ≤ kₓ → kₓ < bₓ + jₓ → 0 ≤ D' kₓ ∧ D' kₓ ≤ 3) → cg (K D' p'ₓ)) → cg (sgK F N K jₓ bₓ pₓ D)
  | 0, bₓ, pₓ, D, hₓ => hₓ D pₓ (fun _ _ => rfl) (fun kₓ h1ₓ h2ₓ => absurd h2ₓ (by omega))
  | jₓ + 1, bₓ, pₓ, D, hₓ => by
    by_cases cₓ : 0 ≤ sgn F N pₓ
    · rw [sgK_go cₓ]
      refine cg_sg jₓ (bₓ + 1) (pₓ + 1) _ (fun D' p'ₓ h1ₓ h2ₓ => hₓ D' p'ₓ (fun kₓ hkₓ => ?_) (fun kₓ hk1ₓ hk2ₓ => ?_))
      · rw [h1ₓ kₓ (by omega), uD_n (by omega)]
      · by_cases ck : kₓ = bₓ
        · subst ck
          rw [h1ₓ kₓ (by omega), uD_s]
          have := sgn_b (F := F) (N := N) (pₓ := pₓ)
          omega
        · exact h2ₓ kₓ (by omega) (by omega)
    · rw [sgK_bad cₓ]; exact cg_H
theorem cg_E {L pₓ : Int} {D : Nat → Int} (hₓ : GD D) (h0ₓ : 0 ≤ L) : cg (tE F N L D pₓ) := by
  cases hbₓ : byteIs F N (sk F N pₓ) 59 with
  | true => rw [tE_go hbₓ]; exact cg_0 hₓ (by omega) (fun eₓ => absurd eₓ (by omega))
  | false =>
    by_cases cₓ : sk F N pₓ < N
    · rw [tE_bad hbₓ cₓ]; exact cg_H
    · rw [tE_end hbₓ cₓ]; exact cg_9 hₓ
theorem cg_cl {qₓ L : Int} {D : Nat → Int} (hGₓ : GD D) (h0ₓ : 0 ≤ L) (h1ₓ : L = 0 → D 1 = 0 ∧ D 2 = 0 ∧ D 3 = 0) : cg (tCl F N qₓ L D) := by
  unfold tCl
  by_cases cₓ : tW F N qₓ = -1
  · rw [if_pos cₓ]; exact cg_H
  rw [if_neg cₓ]
  by_cases c1ₓ : tBad (tW F N qₓ) L D
  · rw [if_pos c1ₓ]; exact cg_H
  rw [if_neg c1ₓ]
  unfold tBad at c1ₓ
  obtain ⟨⟨o0ₓ, o1ₓ, o2ₓ, o3ₓ⟩, g1ₓ, g2ₓ, g3ₓ⟩ := id hGₓ
  by_cases w0ₓ : tW F N qₓ = 0
  · rw [if_pos w0ₓ]
    refine cg_nm (fun vₓ eₓ hv hv2ₓ => cg_E ?_ h0ₓ)
    obtain ⟨z1ₓ, z2ₓ, z3ₓ⟩ := h1ₓ (by omega)
    refine ⟨⟨?_, ?_, ?_, ?_⟩, fun iₓ hiₓ => ?_, fun iₓ hiₓ => ?_, fun iₓ hiₓ => ?_⟩
    · rw [uD_s]; omega
    · rw [uD_n (by decide)]; exact o1ₓ
    · rw [uD_n (by decide)]; exact o2ₓ
    · rw [uD_n (by decide)]; exact o3ₓ
    · rw [uD_n (by decide), z1ₓ] at hiₓ; omega
    · rw [uD_n (by decide), z2ₓ] at hiₓ; omega
    · rw [uD_n (by decide), z3ₓ] at hiₓ; omega
  rw [if_neg w0ₓ]
  by_cases w1ₓ : tW F N qₓ = 1
  · rw [if_pos w1ₓ]
    unfold tStreet
    obtain ⟨M, hMₓ⟩ : ∃ M : Nat, D 1 = (M : Int) := ⟨(D 1).toNat, by omega⟩
    have hM12ₓ : M < 12 := by omega
    rw [hMₓ, show ((M : Nat) : Int).toNat = M by omega]
    refine cg_nm (fun aₓ e1ₓ haₓ ha2ₓ => cg_nm (fun bₓ e2ₓ hbₓ hb2ₓ => ?_))
    by_cases cab : bₓ = aₓ
    · rw [if_pos cab]; exact cg_H
    rw [if_neg cab]
    refine cg_nm (fun hₓ e3ₓ hhₓ hh2ₓ => cg_sg _ _ _ _ (fun D' p'ₓ d1ₓ d2ₓ => cg_E ?_ h0ₓ))
    have e0ₓ : ∀ kₓ : Nat, (kₓ < 10 + 10 * M ∨ 20 + 10 * M ≤ kₓ) → D' kₓ = D kₓ := fun kₓ hkₓ => by
      rw [d1ₓ kₓ (by omega), uD_n (by omega), uD_n (by omega), uD_n (by omega)]
    have ea : D' (10 + 10 * M) = aₓ := by rw [d1ₓ _ (by omega), uD_n (by omega), uD_n (by omega), uD_s]
    have eb : D' (11 + 10 * M) = bₓ := by rw [d1ₓ _ (by omega), uD_n (by omega), uD_s]
    have eh : D' (12 + 10 * M) = hₓ := by rw [d1ₓ _ (by omega), uD_s]
    have fₓ : ∀ kₓ : Nat, kₓ ≠ 1 → uD D' 1 ((M : Int) + 1) kₓ = D' kₓ := fun kₓ hkₓ => uD_n hkₓ
    refine ⟨⟨?_, ?_, ?_, ?_⟩, fun iₓ hiₓ => ?_, fun iₓ hiₓ => ?_, fun iₓ hiₓ => ?_⟩
    · rw [fₓ 0 (by decide), e0ₓ 0 (by omega)]; exact o0ₓ
    · rw [uD_s]; omega
    · rw [fₓ 2 (by decide), e0ₓ 2 (by omega)]; exact o2ₓ
    · rw [fₓ 3 (by decide), e0ₓ 3 (by omega)]; exact o3ₓ
    · rw [uD_s] at hiₓ
      by_cases ci : iₓ = M
      · subst ci
        refine ⟨?_, ?_, fun jₓ hjₓ => ?_⟩
        · rw [fₓ (10 + 10 * iₓ) (by omega), fₓ (11 + 10 * iₓ) (by omega), fₓ 0 (by decide), ea, eb, e0ₓ 0 (by omega)]; omega
        · rw [fₓ _ (by omega), eh]; omega
        · rw [fₓ _ (by omega)]; exact d2ₓ _ (by omega) (by omega)
      · obtain ⟨c1'ₓ, c2'ₓ, c3'ₓ⟩ := g1ₓ iₓ (by omega)
        refine ⟨?_, ?_, fun jₓ hjₓ => ?_⟩
        · rw [fₓ (10 + 10 * iₓ) (by omega), fₓ (11 + 10 * iₓ) (by omega), fₓ 0 (by decide), e0ₓ (10 + 10 * iₓ) (by omega), e0ₓ (11 + 10 * iₓ) (by omega), e0ₓ 0 (by omega)]; exact c1'ₓ
        · rw [fₓ _ (by omega), e0ₓ _ (by omega)]; exact c2'ₓ
        · rw [fₓ _ (by omega), e0ₓ _ (by omega)]; exact c3'ₓ jₓ hjₓ
    · rw [fₓ 2 (by decide), e0ₓ 2 (by omega)] at hiₓ
      rw [fₓ (140 + 2 * iₓ) (by omega), fₓ (141 + 2 * iₓ) (by omega), fₓ 0 (by decide), e0ₓ (140 + 2 * iₓ) (by omega), e0ₓ (141 + 2 * iₓ) (by omega), e0ₓ 0 (by omega)]; exact g2ₓ iₓ hiₓ
    · rw [fₓ 3 (by decide), e0ₓ 3 (by omega)] at hiₓ
      have gₓ := g3ₓ iₓ hiₓ
      rw [uD_s, fₓ (156 + 3 * iₓ) (by omega), fₓ (157 + 3 * iₓ) (by omega), fₓ (158 + 3 * iₓ) (by omega), e0ₓ (156 + 3 * iₓ) (by omega), e0ₓ (157 + 3 * iₓ) (by omega), e0ₓ (158 + 3 * iₓ) (by omega)]; omega
  rw [if_neg w1ₓ]
  by_cases w2ₓ : tW F N qₓ = 2
  · rw [if_pos w2ₓ]
    unfold tSaint
    obtain ⟨M, hMₓ⟩ : ∃ M : Nat, D 2 = (M : Int) := ⟨(D 2).toNat, by omega⟩
    have hM8ₓ : M < 8 := by omega
    rw [hMₓ, show ((M : Nat) : Int).toNat = M by omega]
    refine cg_nm (fun aₓ e1ₓ haₓ ha2ₓ => cg_nm (fun bₓ e2ₓ hbₓ hb2ₓ => cg_E ?_ h0ₓ))
    have fₓ : ∀ kₓ : Nat, kₓ ≠ 2 → kₓ ≠ 140 + 2 * M → kₓ ≠ 141 + 2 * M → uD (uD (uD D (140 + 2 * M) aₓ) (141 + 2 * M) bₓ) 2 ((M : Int) + 1) kₓ = D kₓ := fun kₓ k1ₓ k2ₓ k3ₓ => by rw [uD_n k1ₓ, uD_n k3ₓ, uD_n k2ₓ]
    refine ⟨⟨?_, ?_, ?_, ?_⟩, fun iₓ hiₓ => ?_, fun iₓ hiₓ => ?_, fun iₓ hiₓ => ?_⟩
    · rw [fₓ 0 (by omega) (by omega) (by omega)]; exact o0ₓ
    · rw [fₓ 1 (by omega) (by omega) (by omega)]; exact o1ₓ
    · rw [uD_s]; omega
    · rw [fₓ 3 (by omega) (by omega) (by omega)]; exact o3ₓ
    · rw [fₓ 1 (by omega) (by omega) (by omega)] at hiₓ
      obtain ⟨c1'ₓ, c2'ₓ, c3'ₓ⟩ := g1ₓ iₓ hiₓ
      refine ⟨?_, ?_, fun jₓ hjₓ => ?_⟩
      · rw [fₓ (10 + 10 * iₓ) (by omega) (by omega) (by omega), fₓ (11 + 10 * iₓ) (by omega) (by omega) (by omega), fₓ 0 (by omega) (by omega) (by omega)]; exact c1'ₓ
      · rw [fₓ _ (by omega) (by omega) (by omega)]; exact c2'ₓ
      · rw [fₓ _ (by omega) (by omega) (by omega)]; exact c3'ₓ jₓ hjₓ
    · rw [uD_s] at hiₓ
      rw [fₓ 0 (by omega) (by omega) (by omega)]
      by_cases ci : iₓ = M
      · subst ci
        rw [uD_n (show 140 + 2 * iₓ ≠ 2 by omega), uD_n (show 140 + 2 * iₓ ≠ 141 + 2 * iₓ by omega), uD_s, uD_n (show 141 + 2 * iₓ ≠ 2 by omega), uD_s]; omega
      · rw [fₓ (140 + 2 * iₓ) (by omega) (by omega) (by omega), fₓ (141 + 2 * iₓ) (by omega) (by omega) (by omega)]; exact g2ₓ iₓ (by omega)
    · rw [fₓ 3 (by omega) (by omega) (by omega)] at hiₓ
      rw [fₓ 1 (by omega) (by omega) (by omega), fₓ (156 + 3 * iₓ) (by omega) (by omega) (by omega), fₓ (157 + 3 * iₓ) (by omega) (by omega) (by omega), fₓ (158 + 3 * iₓ) (by omega) (by omega) (by omega)]; exact g3ₓ iₓ hiₓ
  rw [if_neg w2ₓ]
  have w3ₓ : tW F N qₓ = 3 := by
    rcases tW_r (F := F) (N := N) (qₓ := qₓ) with hₓ | hₓ | hₓ | hₓ | hₓ <;> omega
  unfold tLift
  obtain ⟨M, hMₓ⟩ : ∃ M : Nat, D 3 = (M : Int) := ⟨(D 3).toNat, by omega⟩
  have hM4ₓ : M < 4 := by omega
  rw [hMₓ, show ((M : Nat) : Int).toNat = M by omega]
  refine cg_nm (fun sₓ e1ₓ hsₓ hs2ₓ => cg_nm (fun aₓ e2ₓ haₓ ha2ₓ => cg_nm (fun bₓ e3ₓ hbₓ hb2ₓ => cg_E ?_ h0ₓ)))
  have fₓ : ∀ kₓ : Nat, kₓ ≠ 3 → kₓ ≠ 156 + 3 * M → kₓ ≠ 157 + 3 * M → kₓ ≠ 158 + 3 * M → uD (uD (uD (uD D (156 + 3 * M) sₓ) (157 + 3 * M) aₓ) (158 + 3 * M) bₓ) 3 ((M : Int) + 1) kₓ = D kₓ := fun kₓ k1ₓ k2ₓ k3ₓ k4ₓ => by rw [uD_n k1ₓ, uD_n k4ₓ, uD_n k3ₓ, uD_n k2ₓ]
  refine ⟨⟨?_, ?_, ?_, ?_⟩, fun iₓ hiₓ => ?_, fun iₓ hiₓ => ?_, fun iₓ hiₓ => ?_⟩
  · rw [fₓ 0 (by omega) (by omega) (by omega) (by omega)]; exact o0ₓ
  · rw [fₓ 1 (by omega) (by omega) (by omega) (by omega)]; exact o1ₓ
  · rw [fₓ 2 (by omega) (by omega) (by omega) (by omega)]; exact o2ₓ
  · rw [uD_s]; omega
  · rw [fₓ 1 (by omega) (by omega) (by omega) (by omega)] at hiₓ
    obtain ⟨c1'ₓ, c2'ₓ, c3'ₓ⟩ := g1ₓ iₓ hiₓ
    refine ⟨?_, ?_, fun jₓ hjₓ => ?_⟩
    · rw [fₓ (10 + 10 * iₓ) (by omega) (by omega) (by omega) (by omega), fₓ (11 + 10 * iₓ) (by omega) (by omega) (by omega) (by omega), fₓ 0 (by omega) (by omega) (by omega) (by omega)]; exact c1'ₓ
    · rw [fₓ _ (by omega) (by omega) (by omega) (by omega)]; exact c2'ₓ
    · rw [fₓ _ (by omega) (by omega) (by omega) (by omega)]; exact c3'ₓ jₓ hjₓ
  · rw [fₓ 2 (by omega) (by omega) (by omega) (by omega)] at hiₓ
    rw [fₓ 0 (by omega) (by omega) (by omega) (by omega), fₓ (140 + 2 * iₓ) (by omega) (by omega) (by omega) (by omega), fₓ (141 + 2 * iₓ) (by omega) (by omega) (by omega) (by omega)]; exact g2ₓ iₓ hiₓ
  · rw [uD_s] at hiₓ
    rw [fₓ 1 (by omega) (by omega) (by omega) (by omega)]
    by_cases ci : iₓ = M
    · subst ci
      rw [uD_n (show 156 + 3 * iₓ ≠ 3 by omega), uD_n (show 156 + 3 * iₓ ≠ 158 + 3 * iₓ by omega), uD_n (show 156 + 3 * iₓ ≠ 157 + 3 * iₓ by omega), uD_s, uD_n (show 157 + 3 * iₓ ≠ 3 by omega), uD_n (show 157 + 3 * iₓ ≠ 158 + 3 * iₓ by omega), uD_s, uD_n (show 158 + 3 * iₓ ≠ 3 by omega), uD_s]; omega
    · rw [fₓ (156 + 3 * iₓ) (by omega) (by omega) (by omega) (by omega), fₓ (157 + 3 * iₓ) (by omega) (by omega) (by omega) (by omega), fₓ (158 + 3 * iₓ) (by omega) (by omega) (by omega) (by omega)]; exact g3ₓ iₓ (by omega)
theorem cg_step {cₓ : TCf} (hₓ : cg cₓ) : cg (tstep F N cₓ) := by
  obtain ⟨tₓ, qₓ, L, D⟩ := cₓ
  match tₓ, hₓ with
  | 0, hₓ => obtain ⟨aₓ, bₓ, dₓ⟩ := hₓ.1 rfl; exact cg_cl aₓ bₓ dₓ
  | nₓ + 1, hₓ => exact hₓ
theorem cg_it : ∀ (jₓ : Nat) (cₓ : TCf), cg cₓ → cg (titer F N jₓ cₓ)
  | 0, _, hₓ => hₓ
  | jₓ + 1, cₓ, hₓ => cg_it jₓ _ (cg_step hₓ)
theorem SU_good {qₓ φ xₓ : Int} {D : Nat → Int} (hₓ : SU F N (0, qₓ, 0, fun _ => 0) (9, φ, xₓ, D)) : GD D := by
  obtain ⟨jₓ, hjₓ⟩ := hₓ
  have := cg_it (F := F) (N := N) jₓ (0, qₓ, 0, fun _ => 0) (cg_0 GD_0 (Int.le_refl 0) (fun _ => ⟨rfl, rfl, rfl⟩))
  rw [hjₓ] at this
  exact this.2 rfl
end
