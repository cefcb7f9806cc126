/-! the machine by which both readers of towns goₓ -/
abbrev TCf := Nat × Int × Int × (Nat → Int)
def tH (φ : Int) : TCf := (9, φ, 0, fun _ => 0)
def uD (D : Nat → Int) (kₓ : Nat) (vₓ : Int) : Nat → Int := fun k'ₓ => if k'ₓ = kₓ then vₓ else D k'ₓ
theorem uD_s {D : Nat → Int} {kₓ : Nat} {vₓ : Int} : uD D kₓ vₓ kₓ = vₓ := if_pos rfl
theorem uD_n {D : Nat → Int} {kₓ k'ₓ : Nat} {vₓ : Int} (hₓ : k'ₓ ≠ kₓ) : uD D kₓ vₓ k'ₓ = D k'ₓ := if_neg hₓ
def nmK (F : Int → Int) (N lo hiₓ pₓ : Int) (K : Int → Int → TCf) : TCf :=
  if sk F N pₓ < N ∧ isDg F (sk F N pₓ) = true then
    (if 5 < dg F N (sk F N pₓ) - sk F N pₓ ∨ nv F N (sk F N pₓ) < lo ∨ hiₓ < nv F N (sk F N pₓ) then tH (1 + 8 * sk F N pₓ + 1) else K (nv F N (sk F N pₓ)) (dg F N (sk F N pₓ)))
  else tH (1 + 8 * sk F N pₓ)
def sgn (F : Int → Int) (N pₓ : Int) : Int := if pₓ < N then ioS (F pₓ) else -1
def sgK (F : Int → Int) (N : Int) (K : (Nat → Int) → Int → TCf) : Nat → Nat → Int → (Nat → Int) → TCf
  | 0, _, pₓ, D => K D pₓ
  | jₓ + 1, bₓ, pₓ, D => if 0 ≤ sgn F N pₓ then sgK F N K jₓ (bₓ + 1) (pₓ + 1) (uD D bₓ (sgn F N pₓ)) else tH (1 + 8 * pₓ)
def tE (F : Int → Int) (N L : Int) (D : Nat → Int) (pₓ : Int) : TCf :=
  if byteIs F N (sk F N pₓ) 59 = true then (0, sk F N (sk F N pₓ + 1), L + 1, D) else if sk F N pₓ < N then tH (1 + 8 * sk F N pₓ) else (9, 0, 0, D)
def tW (F : Int → Int) (N qₓ : Int) : Int := idxW F (wd F N qₓ) qₓ (wls 0) 0
abbrev tBad (wₓ L : Int) (D : Nat → Int) : Prop := 32 ≤ L ∨ (wₓ = 0 ∧ L ≠ 0) ∨ (wₓ ≠ 0 ∧ L = 0) ∨ (wₓ = 1 ∧ 12 ≤ D 1) ∨ (wₓ = 2 ∧ 8 ≤ D 2) ∨ (wₓ = 3 ∧ 4 ≤ D 3)
def tStreet (F : Int → Int) (N qₓ L : Int) (D : Nat → Int) : TCf :=
  nmK F N 0 (D 0 - 1) (wd F N qₓ) fun aₓ e1ₓ => nmK F N 0 (D 0 - 1) e1ₓ fun bₓ e2ₓ =>
    if bₓ = aₓ then tH (1 + 8 * sk F N e1ₓ + 1) else nmK F N 1 9 e2ₓ fun hₓ e3ₓ =>
      sgK F N (fun D' pₓ => tE F N L (uD D' 1 (D 1 + 1)) pₓ) 7 (13 + 10 * (D 1).toNat) (sk F N e3ₓ) (uD (uD (uD D (10 + 10 * (D 1).toNat) aₓ) (11 + 10 * (D 1).toNat) bₓ) (12 + 10 * (D 1).toNat) hₓ)
def tSaint (F : Int → Int) (N qₓ L : Int) (D : Nat → Int) : TCf :=
  nmK F N 0 (D 0 - 1) (wd F N qₓ) fun aₓ e1ₓ => nmK F N 0 359 e1ₓ fun bₓ e2ₓ =>
    tE F N L (uD (uD (uD D (140 + 2 * (D 2).toNat) aₓ) (141 + 2 * (D 2).toNat) bₓ) 2 (D 2 + 1)) e2ₓ
def tLift (F : Int → Int) (N qₓ L : Int) (D : Nat → Int) : TCf :=
  nmK F N 0 (D 1 - 1) (wd F N qₓ) fun sₓ e1ₓ => nmK F N 0 23 e1ₓ fun aₓ e2ₓ => nmK F N (aₓ + 1) 24 e2ₓ fun bₓ e3ₓ =>
    tE F N L (uD (uD (uD (uD D (156 + 3 * (D 3).toNat) sₓ) (157 + 3 * (D 3).toNat) aₓ) (158 + 3 * (D 3).toNat) bₓ) 3 (D 3 + 1)) e3ₓ
def tCl (F : Int → Int) (N qₓ L : Int) (D : Nat → Int) : TCf :=
  if tW F N qₓ = -1 then tH (1 + 8 * qₓ) else if tBad (tW F N qₓ) L D then tH (1 + 8 * qₓ + 4)
  else if tW F N qₓ = 0 then nmK F N 2 10 (wd F N qₓ) fun vₓ eₓ => tE F N L (uD D 0 vₓ) eₓ
  else if tW F N qₓ = 1 then tStreet F N qₓ L D else if tW F N qₓ = 2 then tSaint F N qₓ L D else tLift F N qₓ L D
def tstep (F : Int → Int) (N : Int) : TCf → TCf
  | (0, qₓ, L, D) => tCl F N qₓ L D
  | cₓ => cₓ
def titer (F : Int → Int) (N : Int) : Nat → TCf → TCf
  | 0, cₓ => cₓ
  | jₓ + 1, cₓ => titer F N jₓ (tstep F N cₓ)
def SU (F : Int → Int) (N : Int) (cₓ dₓ : TCf) : Prop := ∃ jₓ : Nat, titer F N jₓ cₓ = dₓ
theorem SU_rf {F : Int → Int} {N : Int} {cₓ : TCf} : SU F N cₓ cₓ := ⟨0, rfl⟩
theorem titer_add {F : Int → Int} {N : Int} : ∀ (aₓ bₓ : Nat) (cₓ : TCf), titer F N (aₓ + bₓ) cₓ = titer F N bₓ (titer F N aₓ cₓ)
  | 0, bₓ, cₓ => by rw [Nat.zero_add]; rfl
  | aₓ + 1, bₓ, cₓ => by rw [Nat.add_right_comm]; exact titer_add aₓ bₓ _
theorem SU.tr {F : Int → Int} {N : Int} {cₓ dₓ eₓ : TCf} (h1ₓ : SU F N cₓ dₓ) (h2ₓ : SU F N dₓ eₓ) : SU F N cₓ eₓ := by
  obtain ⟨jₓ, rfl⟩ := h1ₓ
  obtain ⟨kₓ, rfl⟩ := h2ₓ
  exact ⟨jₓ + kₓ, titer_add jₓ kₓ cₓ⟩
theorem SU_one {F : Int → Int} {N : Int} {qₓ L : Int} {D : Nat → Int} {dₓ : TCf} (hₓ : tCl F N qₓ L D = dₓ) : SU F N (0, qₓ, L, D) dₓ := ⟨1, hₓ⟩
theorem tend_stays {F : Int → Int} {N φ xₓ : Int} {D : Nat → Int} : ∀ jₓ : Nat, titer F N jₓ (9, φ, xₓ, D) = (9, φ, xₓ, D)
  | 0 => rfl
  | jₓ + 1 => tend_stays jₓ
theorem SU_det {F : Int → Int} {N φ ψ : Int} {D E : Nat → Int} {cₓ : TCf} (h1ₓ : SU F N cₓ (9, φ, 0, D)) (h2ₓ : SU F N cₓ (9, ψ, 0, E)) : φ = ψ ∧ D = E := by
  obtain ⟨jₓ, h1ₓ⟩ := h1ₓ
  obtain ⟨kₓ, h2ₓ⟩ := h2ₓ
  have e1ₓ : titer F N (jₓ + kₓ) cₓ = (9, φ, 0, D) := by rw [titer_add, h1ₓ]; exact tend_stays kₓ
  have e2ₓ : titer F N (jₓ + kₓ) cₓ = (9, ψ, 0, E) := by rw [Nat.add_comm, titer_add, h2ₓ]; exact tend_stays jₓ
  have eₓ : ((9, φ, 0, D) : TCf) = (9, ψ, 0, E) := e1ₓ.symm.trans e2ₓ
  injection eₓ with _ eₓ
  injection eₓ with a1ₓ eₓ
  injection eₓ with _ eₓ
  exact ⟨a1ₓ, eₓ⟩
theorem nmK_bad {F : Int → Int} {N lo hiₓ pₓ : Int} {K : Int → Int → TCf} (hₓ : ¬ (sk F N pₓ < N ∧ isDg F (sk F N pₓ) = true)) : nmK F N lo hiₓ pₓ K = tH (1 + 8 * sk F N pₓ) := if_neg hₓ
theorem nmK_off {F : Int → Int} {N lo hiₓ pₓ : Int} {K : Int → Int → TCf} (hₓ : sk F N pₓ < N ∧ isDg F (sk F N pₓ) = true) (gₓ : 5 < dg F N (sk F N pₓ) - sk F N pₓ ∨ nv F N (sk F N pₓ) < lo ∨ hiₓ < nv F N (sk F N pₓ)) : nmK F N lo hiₓ pₓ K = tH (1 + 8 * sk F N pₓ + 1) := (if_pos hₓ).trans (if_pos gₓ)
theorem nmK_ok {F : Int → Int} {N lo hiₓ pₓ : Int} {K : Int → Int → TCf} (hₓ : sk F N pₓ < N ∧ isDg F (sk F N pₓ) = true) (gₓ : ¬ 5 < dg F N (sk F N pₓ) - sk F N pₓ ∧ lo ≤ nv F N (sk F N pₓ) ∧ nv F N (sk F N pₓ) ≤ hiₓ) : nmK F N lo hiₓ pₓ K = K (nv F N (sk F N pₓ)) (dg F N (sk F N pₓ)) := (if_pos hₓ).trans (if_neg (by omega))
theorem sgK_bad {F : Int → Int} {N pₓ : Int} {K : (Nat → Int) → Int → TCf} {jₓ bₓ : Nat} {D : Nat → Int} (hₓ : ¬ 0 ≤ sgn F N pₓ) : sgK F N K (jₓ + 1) bₓ pₓ D = tH (1 + 8 * pₓ) := if_neg hₓ
theorem sgK_go {F : Int → Int} {N pₓ : Int} {K : (Nat → Int) → Int → TCf} {jₓ bₓ : Nat} {D : Nat → Int} (hₓ : 0 ≤ sgn F N pₓ) : sgK F N K (jₓ + 1) bₓ pₓ D = sgK F N K jₓ (bₓ + 1) (pₓ + 1) (uD D bₓ (sgn F N pₓ)) := if_pos hₓ
theorem tE_go {F : Int → Int} {N L pₓ : Int} {D : Nat → Int} (hₓ : byteIs F N (sk F N pₓ) 59 = true) : tE F N L D pₓ = (0, sk F N (sk F N pₓ + 1), L + 1, D) := if_pos hₓ
theorem tE_bad {F : Int → Int} {N L pₓ : Int} {D : Nat → Int} (hₓ : byteIs F N (sk F N pₓ) 59 = false) (gₓ : sk F N pₓ < N) : tE F N L D pₓ = tH (1 + 8 * sk F N pₓ) := (if_neg (by rw [hₓ]; decide)).trans (if_pos gₓ)
theorem tE_end {F : Int → Int} {N L pₓ : Int} {D : Nat → Int} (hₓ : byteIs F N (sk F N pₓ) 59 = false) (gₓ : ¬ sk F N pₓ < N) : tE F N L D pₓ = (9, 0, 0, D) := (if_neg (by rw [hₓ]; decide)).trans (if_neg gₓ)
