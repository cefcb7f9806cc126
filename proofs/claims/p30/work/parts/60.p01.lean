/-! what is read of the tape: runs of bytes, words, numbers; the machine that both readers of rules goₓ by -/
def runN (P : Int → Bool) (nₓ : Int) : Nat → Int → Int
  | 0, iₓ => iₓ
  | kₓ + 1, iₓ => if iₓ < nₓ ∧ P iₓ = true then runN P nₓ kₓ (iₓ + 1) else iₓ
def runE (P : Int → Bool) (nₓ iₓ : Int) : Int := runN P nₓ (nₓ - iₓ).toNat iₓ
theorem runE_go {P : Int → Bool} {nₓ iₓ : Int} (hₓ : iₓ < nₓ) (hPₓ : P iₓ = true) : runE P nₓ iₓ = runE P nₓ (iₓ + 1) := by
  unfold runE
  rw [show (nₓ - iₓ).toNat = (nₓ - (iₓ + 1)).toNat + 1 by omega]
  show (if iₓ < nₓ ∧ P iₓ = true then _ else _) = _
  rw [if_pos ⟨hₓ, hPₓ⟩]
theorem runE_stop {P : Int → Bool} {nₓ iₓ : Int} (hₓ : ¬ (iₓ < nₓ ∧ P iₓ = true)) : runE P nₓ iₓ = iₓ := by
  unfold runE
  cases (nₓ - iₓ).toNat with
  | zero => rfl
  | succ kₓ => show (if iₓ < nₓ ∧ P iₓ = true then _ else _) = _; rw [if_neg hₓ]
theorem runN_le {P : Int → Bool} {nₓ : Int} : ∀ (kₓ : Nat) (iₓ : Int), iₓ ≤ runN P nₓ kₓ iₓ
  | 0, iₓ => Int.le_refl iₓ
  | kₓ + 1, iₓ => by
    show iₓ ≤ (if iₓ < nₓ ∧ P iₓ = true then runN P nₓ kₓ (iₓ + 1) else iₓ)
    split
    · have := runN_le (P := P) (nₓ := nₓ) kₓ (iₓ + 1); omega
    · exact Int.le_refl iₓ
theorem runE_le {P : Int → Bool} {nₓ iₓ : Int} : iₓ ≤ runE P nₓ iₓ := runN_le _ _
theorem runN_end {P : Int → Bool} {nₓ : Int} : ∀ (kₓ : Nat) (iₓ : Int), (nₓ - iₓ).toNat ≤ kₓ → ¬ (runN P nₓ kₓ iₓ < nₓ ∧ P (runN P nₓ kₓ iₓ) = true)
  | 0, iₓ, hₓ => fun qₓ => by have eₓ : runN P nₓ 0 iₓ = iₓ := rfl; rw [eₓ] at qₓ; omega
  | kₓ + 1, iₓ, hₓ => by
    show ¬ ((if iₓ < nₓ ∧ P iₓ = true then runN P nₓ kₓ (iₓ + 1) else iₓ) < nₓ ∧ P (if iₓ < nₓ ∧ P iₓ = true then runN P nₓ kₓ (iₓ + 1) else iₓ) = true)
    by_cases cₓ : iₓ < nₓ ∧ P iₓ = true
    · rw [if_pos cₓ]; exact runN_end kₓ (iₓ + 1) (by omega)
    · rw [if_neg cₓ]; exact cₓ
theorem runE_end {P : Int → Bool} {nₓ iₓ : Int} : ¬ (runE P nₓ iₓ < nₓ ∧ P (runE P nₓ iₓ) = true) := runN_end _ _ (Nat.le_refl _)
theorem runE_idem {P : Int → Bool} {nₓ iₓ : Int} : runE P nₓ (runE P nₓ iₓ) = runE P nₓ iₓ := runE_stop runE_end
theorem runN_ub {P : Int → Bool} {nₓ : Int} : ∀ (kₓ : Nat) (iₓ : Int), iₓ ≤ nₓ → runN P nₓ kₓ iₓ ≤ nₓ
  | 0, iₓ, hₓ => hₓ
  | kₓ + 1, iₓ, hₓ => by
    show (if iₓ < nₓ ∧ P iₓ = true then runN P nₓ kₓ (iₓ + 1) else iₓ) ≤ nₓ
    split
    · exact runN_ub kₓ (iₓ + 1) (by omega)
    · exact hₓ
theorem runE_ub {P : Int → Bool} {nₓ iₓ : Int} (hₓ : iₓ ≤ nₓ) : runE P nₓ iₓ ≤ nₓ := runN_ub _ _ hₓ
def isBl (fₓ : Int → Int) (iₓ : Int) : Bool := decide (fₓ iₓ = 32)
def isLt (fₓ : Int → Int) (iₓ : Int) : Bool := decide (97 ≤ fₓ iₓ ∧ fₓ iₓ ≤ 122)
def isDg (fₓ : Int → Int) (iₓ : Int) : Bool := decide (48 ≤ fₓ iₓ ∧ fₓ iₓ ≤ 57)
def sk (fₓ : Int → Int) (nₓ iₓ : Int) : Int := runE (isBl fₓ) nₓ iₓ
def wd (fₓ : Int → Int) (nₓ iₓ : Int) : Int := runE (isLt fₓ) nₓ iₓ
def dg (fₓ : Int → Int) (nₓ iₓ : Int) : Int := runE (isDg fₓ) nₓ iₓ
/-- the value of kₓ digits from bₓ on -/
def hv (fₓ : Int → Int) (bₓ : Int) : Nat → Int
  | 0 => 0
  | kₓ + 1 => hv fₓ bₓ kₓ * 10 + (fₓ (bₓ + kₓ) - 48)
def wEq (fₓ : Int → Int) : Int → List Int → Bool
  | _, [] => true
  | qₓ, cₓ :: W => decide (fₓ qₓ = cₓ) && wEq fₓ (qₓ + 1) W
def isWd (fₓ : Int → Int) (nₓ qₓ : Int) (W : List Int) : Bool := decide (wd fₓ nₓ qₓ = qₓ + W.length) && wEq fₓ qₓ W
def wGo : List Int := [103, 111]
def wAside : List Int := [97, 115, 105, 100, 101]
def wAsk : List Int := [97, 115, 107]
def wWait : List Int := [119, 97, 105, 116]
def wIf : List Int := [105, 102]
def wNot : List Int := [110, 111, 116]
def wAnd : List Int := [97, 110, 100]
def wOr : List Int := [111, 114]
def wDeeds : List (List Int) := [wGo, wAside, wAsk, wWait]
def wVals : List (List Int) := [[104, 111, 117, 114], [100, 97, 121], [100, 97, 116, 101], [99, 111, 114, 110, 101, 114], [103, 111, 97, 108], [115, 104, 117, 116], [108, 101, 102, 116], [115, 116, 101, 112, 115], [97, 115, 107, 101, 100], [99, 97, 109, 101]]
abbrev Cfg := Nat × Int × Int × Int × List Bool
def halt (φ : Int) : Cfg := (9, φ, 0, 0, [])
def byteIs (fₓ : Int → Int) (nₓ qₓ cₓ : Int) : Bool := decide (qₓ < nₓ ∧ fₓ qₓ = cₓ)
def opAt (fₓ : Int → Int) (nₓ qₓ : Int) : Bool := byteIs fₓ nₓ qₓ 43 || byteIs fₓ nₓ qₓ 45 || byteIs fₓ nₓ qₓ 42 || byteIs fₓ nₓ qₓ 47
def cmpAt (fₓ : Int → Int) (nₓ qₓ : Int) : Bool := byteIs fₓ nₓ qₓ 60 || byteIs fₓ nₓ qₓ 61 || byteIs fₓ nₓ qₓ 62
def joinAt (fₓ : Int → Int) (nₓ qₓ : Int) : Bool := isWd fₓ nₓ qₓ wAnd || isWd fₓ nₓ qₓ wOr
/-- aₓ VALUE at qₓ: where it ends and what is at fault with it -/
def valStep (fₓ : Int → Int) (nₓ : Int) (nx : Nat) (qₓ kₓ L : Int) (S : List Bool) : Cfg :=
  if qₓ < nₓ ∧ isDg fₓ qₓ = true then
    (if 5 < dg fₓ nₓ qₓ - qₓ then halt (1 + 8 * qₓ + 1) else if 60 ≤ kₓ then halt (1 + 8 * qₓ + 3) else (nx, sk fₓ nₓ (dg fₓ nₓ qₓ), kₓ + 1, L, S))
  else if wVals.any (fun W => isWd fₓ nₓ qₓ W) = true then
    (if 60 ≤ kₓ then halt (1 + 8 * qₓ + 3) else (nx, sk fₓ nₓ (wd fₓ nₓ qₓ), kₓ + 1, L, S))
  else halt (1 + 8 * qₓ)
def cmpLen (fₓ : Int → Int) (nₓ qₓ : Int) : Int := if byteIs fₓ nₓ qₓ 61 = false ∧ byteIs fₓ nₓ (qₓ + 1) 61 = true then 2 else 1
def pstep (fₓ : Int → Int) (nₓ : Int) : Cfg → Cfg
  | (0, qₓ, kₓ, L, S) => if wDeeds.any (fun W => isWd fₓ nₓ qₓ W) = true then (if 12 ≤ L then halt (1 + 8 * qₓ + 4) else (1, sk fₓ nₓ (wd fₓ nₓ qₓ), kₓ, L + 1, S)) else halt (1 + 8 * qₓ)
  | (1, qₓ, kₓ, L, S) => if isWd fₓ nₓ qₓ wIf = true then (2, sk fₓ nₓ (wd fₓ nₓ qₓ), kₓ, L, S) else (8, qₓ, kₓ, L, S)
  | (2, qₓ, kₓ, L, S) => if isWd fₓ nₓ qₓ wNot = true then (if 10 ≤ S.length then halt (1 + 8 * qₓ + 2) else (2, sk fₓ nₓ (wd fₓ nₓ qₓ), kₓ, L, false :: S)) else if byteIs fₓ nₓ qₓ 91 = true then (if 10 ≤ S.length then halt (1 + 8 * qₓ + 2) else (2, sk fₓ nₓ (qₓ + 1), kₓ, L, true :: S)) else (3, qₓ, kₓ, L, S)
  | (3, qₓ, kₓ, L, S) => valStep fₓ nₓ 5 qₓ kₓ L S
  | (4, qₓ, kₓ, L, S) => valStep fₓ nₓ 6 qₓ kₓ L S
  | (5, qₓ, kₓ, L, S) => if opAt fₓ nₓ qₓ = true then (3, sk fₓ nₓ (qₓ + 1), kₓ, L, S) else if cmpAt fₓ nₓ qₓ = true then (if 60 ≤ kₓ then halt (1 + 8 * qₓ + 3) else (4, sk fₓ nₓ (qₓ + cmpLen fₓ nₓ qₓ), kₓ + 1, L, S)) else halt (1 + 8 * qₓ)
  | (6, qₓ, kₓ, L, S) => if opAt fₓ nₓ qₓ = true then (4, sk fₓ nₓ (qₓ + 1), kₓ, L, S) else (7, qₓ, kₓ, L, S)
  | (7, qₓ, kₓ, L, false :: S) => (7, qₓ, kₓ, L, S)
  | (7, qₓ, kₓ, L, true :: S) => if byteIs fₓ nₓ qₓ 93 = true then (7, sk fₓ nₓ (qₓ + 1), kₓ, L, S) else if joinAt fₓ nₓ qₓ = true then (2, sk fₓ nₓ (wd fₓ nₓ qₓ), kₓ, L, true :: S) else halt (1 + 8 * qₓ)
  | (7, qₓ, kₓ, L, []) => if joinAt fₓ nₓ qₓ = true then (2, sk fₓ nₓ (wd fₓ nₓ qₓ), kₓ, L, []) else (8, qₓ, kₓ, L, [])
  | (8, qₓ, kₓ, L, S) => if byteIs fₓ nₓ qₓ 59 = true then (0, sk fₓ nₓ (qₓ + 1), kₓ, L, S) else if qₓ < nₓ then halt (1 + 8 * qₓ) else halt 0
  | cₓ => cₓ
def piter (fₓ : Int → Int) (nₓ : Int) : Nat → Cfg → Cfg
  | 0, cₓ => cₓ
  | jₓ + 1, cₓ => piter fₓ nₓ jₓ (pstep fₓ nₓ cₓ)
def St (fₓ : Int → Int) (nₓ : Int) (cₓ dₓ : Cfg) : Prop := ∃ jₓ : Nat, piter fₓ nₓ jₓ cₓ = dₓ
theorem St_rf {fₓ : Int → Int} {nₓ : Int} {cₓ : Cfg} : St fₓ nₓ cₓ cₓ := ⟨0, rfl⟩
theorem piter_add {fₓ : Int → Int} {nₓ : Int} : ∀ (aₓ bₓ : Nat) (cₓ : Cfg), piter fₓ nₓ (aₓ + bₓ) cₓ = piter fₓ nₓ bₓ (piter fₓ nₓ aₓ cₓ)
  | 0, bₓ, cₓ => by rw [Nat.zero_add]; rfl
  | aₓ + 1, bₓ, cₓ => by rw [Nat.succ_add]; exact piter_add aₓ bₓ (pstep fₓ nₓ cₓ)
theorem St.tr {fₓ : Int → Int} {nₓ : Int} {cₓ dₓ eₓ : Cfg} (h1ₓ : St fₓ nₓ cₓ dₓ) (h2ₓ : St fₓ nₓ dₓ eₓ) : St fₓ nₓ cₓ eₓ := by
  obtain ⟨aₓ, haₓ⟩ := h1ₓ
  obtain ⟨bₓ, hbₓ⟩ := h2ₓ
  exact ⟨aₓ + bₓ, by rw [piter_add, haₓ, hbₓ]⟩
theorem St_one {fₓ : Int → Int} {nₓ : Int} {cₓ dₓ : Cfg} (hₓ : pstep fₓ nₓ cₓ = dₓ) : St fₓ nₓ cₓ dₓ := ⟨1, hₓ⟩
theorem halt_stays {fₓ : Int → Int} {nₓ φ : Int} : ∀ jₓ : Nat, piter fₓ nₓ jₓ (halt φ) = halt φ
  | 0 => rfl
  | jₓ + 1 => halt_stays jₓ
theorem St_det {fₓ : Int → Int} {nₓ φ ψ : Int} {cₓ : Cfg} (h1ₓ : St fₓ nₓ cₓ (halt φ)) (h2ₓ : St fₓ nₓ cₓ (halt ψ)) : φ = ψ := by
  obtain ⟨aₓ, haₓ⟩ := h1ₓ
  obtain ⟨bₓ, hbₓ⟩ := h2ₓ
  have h3ₓ : piter fₓ nₓ (aₓ + bₓ) cₓ = halt φ := by rw [piter_add, haₓ, halt_stays]
  have h4ₓ : piter fₓ nₓ (aₓ + bₓ) cₓ = halt ψ := by rw [Nat.add_comm, piter_add, hbₓ, halt_stays]
  have h5ₓ : halt φ = halt ψ := h3ₓ.symm.trans h4ₓ
  exact congrArg (fun cₓ : Cfg => cₓ.2.1) h5ₓ
/-! words of aₓ list, as the class scans them; words by their number, as the reference reads them -/
def scan (fₓ : Int → Int) (eₓ pₓ : Int) : List Int → Int → Int → Bool → Int
  | [], _, _, _ => -1
  | cₓ :: T, num, aₓ, al => if cₓ = 32 then (if al = true ∧ aₓ = eₓ then num else scan fₓ eₓ pₓ T (num + 1) pₓ true) else scan fₓ eₓ pₓ T num (aₓ + 1) (al && decide (aₓ < eₓ) && decide (fₓ aₓ = cₓ))
def enc : List (List Int) → List Int
  | [] => []
  | W :: Ws => W ++ 32 :: enc Ws
theorem scan_word {fₓ : Int → Int} {eₓ pₓ : Int} {R : List Int} : ∀ (W : List Int), (∀ cₓ ∈ W, cₓ ≠ 32) → ∀ (num aₓ : Int) (al : Bool), scan fₓ eₓ pₓ (W ++ 32 :: R) num aₓ al = if al = true ∧ wEq fₓ aₓ W = true ∧ aₓ + W.length = eₓ then num else scan fₓ eₓ pₓ R (num + 1) pₓ true
  | [], _, num, aₓ, al => by
    show (if (32 : Int) = 32 then (if al = true ∧ aₓ = eₓ then num else scan fₓ eₓ pₓ R (num + 1) pₓ true) else _) = _
    rw [if_pos rfl]
    by_cases hₓ : al = true ∧ aₓ = eₓ
    · rw [if_pos hₓ, if_pos ⟨hₓ.1, rfl, by rw [List.length_nil]; omega⟩]
    · rw [if_neg hₓ, if_neg (fun qₓ => hₓ ⟨qₓ.1, by have := qₓ.2.2; rw [List.length_nil] at this; omega⟩)]
  | cₓ :: W, hWₓ, num, aₓ, al => by
    have hcₓ : cₓ ≠ 32 := hWₓ cₓ List.mem_cons_self
    have ihₓ := scan_word (fₓ := fₓ) (eₓ := eₓ) (pₓ := pₓ) (R := R) W (fun xₓ hxₓ => hWₓ xₓ (List.mem_cons_of_mem _ hxₓ)) num (aₓ + 1) (al && decide (aₓ < eₓ) && decide (fₓ aₓ = cₓ))
    show (if cₓ = 32 then _ else scan fₓ eₓ pₓ (W ++ 32 :: R) num (aₓ + 1) (al && decide (aₓ < eₓ) && decide (fₓ aₓ = cₓ))) = _
    rw [if_neg hcₓ, ihₓ]
    by_cases hₓ : al = true ∧ wEq fₓ aₓ (cₓ :: W) = true ∧ aₓ + (cₓ :: W).length = eₓ
    · obtain ⟨h1ₓ, h2ₓ, h3ₓ⟩ := hₓ
      have h2'ₓ : decide (fₓ aₓ = cₓ) = true ∧ wEq fₓ (aₓ + 1) W = true := by simpa [wEq] using h2ₓ
      rw [List.length_cons] at h3ₓ
      rw [if_pos ⟨by rw [h1ₓ, h2'ₓ.1, decide_eq_true (show aₓ < eₓ by omega)]; rfl, h2'ₓ.2, by omega⟩, if_pos ⟨h1ₓ, h2ₓ, by rw [List.length_cons]; omega⟩]
    · rw [if_neg hₓ, if_neg ?_]
      rintro ⟨q1ₓ, q2ₓ, q3ₓ⟩
      refine hₓ ⟨?_, ?_, by rw [List.length_cons]; omega⟩
      · simp only [Bool.and_eq_true] at q1ₓ; exact q1ₓ.1.1
      · simp only [Bool.and_eq_true] at q1ₓ
        show (decide (fₓ aₓ = cₓ) && wEq fₓ (aₓ + 1) W) = true
        rw [q1ₓ.2, q2ₓ]; rfl
def idxW (fₓ : Int → Int) (eₓ pₓ : Int) : List (List Int) → Int → Int
  | [], _ => -1
  | W :: Ws, num => if wEq fₓ pₓ W = true ∧ pₓ + W.length = eₓ then num else idxW fₓ eₓ pₓ Ws (num + 1)
theorem scan_enc {fₓ : Int → Int} {eₓ pₓ : Int} : ∀ (Ws : List (List Int)), (∀ W ∈ Ws, ∀ cₓ ∈ W, cₓ ≠ 32) → ∀ num : Int, scan fₓ eₓ pₓ (enc Ws) num pₓ true = idxW fₓ eₓ pₓ Ws num
  | [], _, _ => rfl
  | W :: Ws, hₓ, num => by
    show scan fₓ eₓ pₓ (W ++ 32 :: enc Ws) num pₓ true = (if wEq fₓ pₓ W = true ∧ pₓ + W.length = eₓ then num else idxW fₓ eₓ pₓ Ws (num + 1))
    rw [scan_word W (hₓ W List.mem_cons_self), scan_enc Ws (fun V hVₓ => hₓ V (List.mem_cons_of_mem _ hVₓ))]
    by_cases cₓ : wEq fₓ pₓ W = true ∧ pₓ + W.length = eₓ
    · rw [if_pos cₓ, if_pos ⟨rfl, cₓ⟩]
    · rw [if_neg cₓ, if_neg (fun qₓ => cₓ qₓ.2)]
theorem idxW_any {fₓ : Int → Int} {nₓ pₓ : Int} : ∀ (Ws : List (List Int)) (num : Int), 0 ≤ num → ((0 ≤ idxW fₓ (wd fₓ nₓ pₓ) pₓ Ws num) ↔ Ws.any (fun W => isWd fₓ nₓ pₓ W) = true)
  | [], num, hₓ => by
    show (0 ≤ (-1 : Int)) ↔ (false = true)
    constructor
    · intro qₓ; omega
    · intro qₓ; cases qₓ
  | W :: Ws, num, hₓ => by
    show (0 ≤ (if wEq fₓ pₓ W = true ∧ pₓ + W.length = wd fₓ nₓ pₓ then num else idxW fₓ (wd fₓ nₓ pₓ) pₓ Ws (num + 1))) ↔ (isWd fₓ nₓ pₓ W || Ws.any (fun W => isWd fₓ nₓ pₓ W)) = true
    by_cases cₓ : wEq fₓ pₓ W = true ∧ pₓ + W.length = wd fₓ nₓ pₓ
    · rw [if_pos cₓ]
      have eₓ : isWd fₓ nₓ pₓ W = true := by unfold isWd; rw [cₓ.1, decide_eq_true cₓ.2.symm]; rfl
      rw [eₓ]
      exact ⟨fun _ => rfl, fun _ => hₓ⟩
    · rw [if_neg cₓ]
      have eₓ : isWd fₓ nₓ pₓ W = false := by
        cases hbₓ : isWd fₓ nₓ pₓ W with
        | false => rfl
        | true =>
          unfold isWd at hbₓ
          simp only [Bool.and_eq_true, decide_eq_true_eq] at hbₓ
          exact absurd ⟨hbₓ.2, hbₓ.1.symm⟩ cₓ
      rw [eₓ, Bool.false_or]
      exact idxW_any Ws (num + 1) (by omega)
/-- aₓ word's letters as one number -/
def wv (fₓ : Int → Int) (pₓ : Int) : Nat → Int
  | 0 => 0
  | kₓ + 1 => wv fₓ pₓ kₓ * 256 + fₓ (pₓ + kₓ)
def wvL : List Int → Int
  | [] => 0
  | W => W.foldl (fun vₓ cₓ => vₓ * 256 + cₓ) 0
theorem wv_shift {fₓ : Int → Int} {pₓ : Int} : ∀ kₓ : Nat, ∀ W : List Int, W.length = kₓ → wEq fₓ pₓ W = true → wv fₓ pₓ kₓ = W.foldl (fun vₓ cₓ => vₓ * 256 + cₓ) 0 := by
  intro kₓ W hlₓ hWₓ
  subst hlₓ
  have gen : ∀ (W : List Int) (jₓ : Nat) (vₓ : Int), wEq fₓ (pₓ + jₓ) W = true → wv fₓ pₓ jₓ = vₓ → wv fₓ pₓ (jₓ + W.length) = W.foldl (fun vₓ cₓ => vₓ * 256 + cₓ) vₓ := by
    intro W
    induction W with
    | nil => intro jₓ vₓ _ hₓ; exact hₓ
    | cons cₓ W ihₓ =>
      intro jₓ vₓ hWₓ hₓ
      have hW'ₓ : fₓ (pₓ + jₓ) = cₓ ∧ wEq fₓ (pₓ + jₓ + 1) W = true := by simpa [wEq] using hWₓ
      have h2ₓ := ihₓ (jₓ + 1) (vₓ * 256 + cₓ) (by rw [show pₓ + ((jₓ + 1 : Nat) : Int) = pₓ + jₓ + 1 by omega]; exact hW'ₓ.2) (by show wv fₓ pₓ jₓ * 256 + fₓ (pₓ + jₓ) = _; rw [hₓ, hW'ₓ.1])
      rw [List.length_cons, show jₓ + (W.length + 1) = jₓ + 1 + W.length by omega, h2ₓ]
      rfl
  have := gen W 0 0 (by rw [show pₓ + ((0 : Nat) : Int) = pₓ by omega]; exact hWₓ) rfl
  rw [Nat.zero_add] at this
  exact this
/-! the class's TAPE, read: what its models come to -/
theorem mCall_el {A : RR} {K : Int → SS → RR} {ρ : Int × SS} (hₓ : mCall A K = some ρ) : ∃ rₓ σ', A = some (rₓ, σ') ∧ K rₓ σ' = some ρ := by
  cases A with
  | none => exact absurd hₓ (by intro qₓ; cases qₓ)
  | some tₓ => exact ⟨tₓ.1, tₓ.2, rfl, hₓ⟩
theorem some_el {aₓ bₓ : Int} {σ τ : SS} (hₓ : (some (aₓ, σ) : RR) = some (bₓ, τ)) : bₓ = aₓ ∧ τ = σ := by
  injection hₓ with hₓ; injection hₓ with h1ₓ h2ₓ; exact ⟨h1ₓ.symm, h2ₓ.symm⟩
theorem mIf_pos {cₓ : Prop} [Decidable cₓ] {A B : RR} (hₓ : cₓ) : mIf cₓ A B = A := if_pos hₓ
theorem mIf_neg {cₓ : Prop} [Decidable cₓ] {A B : RR} (hₓ : ¬ cₓ) : mIf cₓ A B = B := if_neg hₓ
theorem mCall_s {rₓ : Int} {σ : SS} {K : Int → SS → RR} : mCall (some (rₓ, σ)) K = K rₓ σ := rfl
theorem mRd_e {σ : SS} {qₓ kₓ : Nat} {K : Int → RR} : mRd σ qₓ kₓ K = K (σ qₓ kₓ) := rfl
theorem mLet_e {vₓ : Int} {K : Int → RR} : mLet vₓ K = K vₓ := rfl
theorem mWr_e {σ : SS} {qₓ kₓ : Nat} {vₓ : Int} {K : SS → RR} : mWr σ qₓ kₓ vₓ K = K (upS σ qₓ kₓ vₓ) := rfl
theorem mIx_e {iₓ : Int} {K : Nat → RR} : mIx iₓ K = K iₓ.toNat := rfl
theorem mSt_e {σ : SS} {K : SS → RR} : mSt σ K = K σ := rfl
theorem mRet_e {rₓ : Int} {σ : SS} : mRet rₓ σ = some (rₓ, σ) := rfl
theorem none_el {ρ : Int × SS} {P : Prop} (hₓ : (none : RR) = some ρ) : P := by cases hₓ
theorem upS_s {σ : SS} {qₓ kₓ : Nat} {vₓ : Int} : upS σ qₓ kₓ vₓ qₓ kₓ = vₓ := by unfold upS; rw [if_pos ⟨rfl, rfl⟩]
theorem upS_q {σ : SS} {qₓ kₓ q'ₓ k'ₓ : Nat} {vₓ : Int} (hₓ : q'ₓ ≠ qₓ) : upS σ qₓ kₓ vₓ q'ₓ k'ₓ = σ q'ₓ k'ₓ := by unfold upS; rw [if_neg (fun eₓ => hₓ eₓ.1)]
theorem upS_k {σ : SS} {qₓ kₓ q'ₓ k'ₓ : Nat} {vₓ : Int} (hₓ : k'ₓ ≠ kₓ) : upS σ qₓ kₓ vₓ q'ₓ k'ₓ = σ q'ₓ k'ₓ := by unfold upS; rw [if_neg (fun eₓ => hₓ eₓ.2)]
def tp (σ : SS) (pₓ gₓ φ : Int) : SS := fun qₓ kₓ => if qₓ = 1 ∧ kₓ = 1 then pₓ else if qₓ = 1 ∧ kₓ = 3 then gₓ else if qₓ = 1 ∧ kₓ = 4 then φ else σ qₓ kₓ
section
variable {σ : SS} {pₓ gₓ φ vₓ : Int} {qₓ kₓ : Nat}
theorem tp_p : tp σ pₓ gₓ φ 1 1 = pₓ := id rfl
theorem tp_n : tp σ pₓ gₓ φ 1 2 = σ 1 2 := id rfl
theorem tp_g : tp σ pₓ gₓ φ 1 3 = gₓ := id rfl
theorem tp_f : tp σ pₓ gₓ φ 1 4 = φ := id rfl
theorem tp_o (hₓ : qₓ ≠ 1) : tp σ pₓ gₓ φ qₓ kₓ = σ qₓ kₓ := by unfold tp; rw [if_neg (fun eₓ => hₓ eₓ.1), if_neg (fun eₓ => hₓ eₓ.1), if_neg (fun eₓ => hₓ eₓ.1)]
theorem tp_b : tp σ pₓ gₓ φ 2 kₓ = σ 2 kₓ := tp_o (by decide)
theorem tp_up_p : upS (tp σ pₓ gₓ φ) 1 1 vₓ = tp σ vₓ gₓ φ := by
  funext qₓ kₓ; unfold upS tp; by_cases hₓ : qₓ = 1 ∧ kₓ = 1
  · rw [if_pos hₓ, if_pos hₓ]
  · rw [if_neg hₓ, if_neg hₓ, if_neg hₓ]
theorem tp_up_g : upS (tp σ pₓ gₓ φ) 1 3 vₓ = tp σ pₓ vₓ φ := by
  funext qₓ kₓ; unfold upS tp; by_cases hₓ : qₓ = 1 ∧ kₓ = 3
  · rw [if_pos hₓ, if_neg (fun eₓ => by omega), if_pos hₓ]
  · rw [if_neg hₓ, if_neg hₓ, if_neg hₓ]
theorem tp_up_f : upS (tp σ pₓ gₓ φ) 1 4 vₓ = tp σ pₓ gₓ vₓ := by
  funext qₓ kₓ; unfold upS tp; by_cases hₓ : qₓ = 1 ∧ kₓ = 4
  · rw [if_pos hₓ, if_neg (fun eₓ => by omega), if_neg (fun eₓ => by omega), if_pos hₓ]
  · rw [if_neg hₓ, if_neg hₓ, if_neg hₓ]
theorem tp_up_o (hₓ : qₓ ≠ 1) : upS (tp σ pₓ gₓ φ) qₓ kₓ vₓ = tp (upS σ qₓ kₓ vₓ) pₓ gₓ φ := by
  funext q'ₓ k'ₓ
  by_cases eₓ : q'ₓ = qₓ ∧ k'ₓ = kₓ
  · obtain ⟨rfl, rfl⟩ := eₓ
    rw [upS_s, tp_o hₓ, upS_s]
  · have h2ₓ : upS σ qₓ kₓ vₓ q'ₓ k'ₓ = σ q'ₓ k'ₓ := if_neg eₓ
    rw [show upS (tp σ pₓ gₓ φ) qₓ kₓ vₓ q'ₓ k'ₓ = tp σ pₓ gₓ φ q'ₓ k'ₓ from if_neg eₓ]
    unfold tp; rw [h2ₓ]
theorem tp_self : tp σ (σ 1 1) (σ 1 3) (σ 1 4) = σ := by
  funext qₓ kₓ; unfold tp
  by_cases h1ₓ : qₓ = 1 ∧ kₓ = 1
  · obtain ⟨rfl, rfl⟩ := h1ₓ; rfl
  · rw [if_neg h1ₓ]
    by_cases h2ₓ : qₓ = 1 ∧ kₓ = 3
    · obtain ⟨rfl, rfl⟩ := h2ₓ; rfl
    · rw [if_neg h2ₓ]
      by_cases h3ₓ : qₓ = 1 ∧ kₓ = 4
      · obtain ⟨rfl, rfl⟩ := h3ₓ; rfl
      · rw [if_neg h3ₓ]
theorem tp_tp {p'ₓ g'ₓ φ' : Int} : tp (tp σ pₓ gₓ φ) p'ₓ g'ₓ φ' = tp σ p'ₓ g'ₓ φ' := by
  funext qₓ kₓ; unfold tp
  by_cases h1ₓ : qₓ = 1 ∧ kₓ = 1
  · rw [if_pos h1ₓ, if_pos h1ₓ]
  · rw [if_neg h1ₓ, if_neg h1ₓ, if_neg h1ₓ]
    by_cases h2ₓ : qₓ = 1 ∧ kₓ = 3
    · rw [if_pos h2ₓ, if_pos h2ₓ]
    · rw [if_neg h2ₓ, if_neg h2ₓ, if_neg h2ₓ]
      by_cases h3ₓ : qₓ = 1 ∧ kₓ = 4
      · rw [if_pos h3ₓ, if_pos h3ₓ]
      · rw [if_neg h3ₓ, if_neg h3ₓ, if_neg h3ₓ]
end
/-- the class's TAPE holdsₓ these bytes -/
def CV (F : Int → Int) (N : Int) (σ : SS) : Prop := σ 1 2 = N ∧ (∀ jₓ : Int, 0 ≤ jₓ → jₓ < N → σ 2 jₓ.toNat = F jₓ) ∧ ∀ jₓ : Int, 0 ≤ jₓ → jₓ < N → 0 ≤ F jₓ
def bt (F : Int → Int) (N qₓ : Int) : Int := if qₓ < N then F qₓ else -1
section
variable {F : Int → Int} {N : Int} {σ σ' : SS} {pₓ gₓ φ rₓ aₓ : Int} {nₓ : Nat}
theorem c_look (hₓ : CV F N σ) (hpₓ : 0 ≤ pₓ) : m_X6_look nₓ 1 (tp σ pₓ gₓ φ) = some (bt F N pₓ, tp σ pₓ gₓ φ) := by
  simp only [m_X6_look, mRd, mIf, mRet, tp_p, tp_n, tp_b, hₓ.1]
  unfold bt
  by_cases cₓ : pₓ < N
  · rw [if_neg (by omega), if_pos cₓ, hₓ.2.1 pₓ hpₓ cₓ]
  · rw [if_pos (by omega), if_neg cₓ]
theorem sk_ge : pₓ ≤ sk F N pₓ := runE_le
theorem wd_ge : pₓ ≤ wd F N pₓ := runE_le
theorem dg_ge : pₓ ≤ dg F N pₓ := runE_le
theorem c_lbb (hₓ : CV F N σ) : ∀ (nₓ : Nat) (pₓ gₓ : Int), 0 ≤ pₓ → j_X6_lookBehindBlanks 1 nₓ 0 [] (tp σ pₓ gₓ φ) = some (rₓ, σ') → rₓ = bt F N (sk F N pₓ) ∧ σ' = tp σ (sk F N pₓ) (sk F N pₓ) φ := by
  intro nₓ
  induction nₓ with
  | zero => intro pₓ gₓ hpₓ eₓ; exact none_el eₓ
  | succ nₓ ihₓ =>
    intro pₓ gₓ hpₓ eₓ
    rw [e_X6_lookBehindBlanks_0] at eₓ
    simp only [b_X6_lookBehindBlanks_0, b_X6_lookBehindBlanks_38, mRd, mIf, mRet, mWr, mLet, tp_p, tp_n, tp_b, tp_g, tp_up_p, tp_up_g, hₓ.1] at eₓ
    unfold bt
    by_cases cₓ : pₓ < N
    · rw [if_neg (show ¬ N ≤ pₓ by omega), hₓ.2.1 pₓ hpₓ cₓ] at eₓ
      by_cases c2ₓ : F pₓ = 32
      · rw [if_neg (fun qₓ => qₓ c2ₓ)] at eₓ
        have hsₓ : sk F N pₓ = sk F N (pₓ + 1) := runE_go cₓ (decide_eq_true c2ₓ)
        rw [hsₓ]
        exact ihₓ (pₓ + 1) gₓ (by omega) eₓ
      · rw [if_pos c2ₓ, if_neg (show ¬ N ≤ pₓ by omega)] at eₓ
        have hsₓ : sk F N pₓ = pₓ := runE_stop (fun qₓ => c2ₓ (of_decide_eq_true qₓ.2))
        rw [hsₓ, if_pos cₓ]
        exact some_el eₓ
    · rw [if_pos (show N ≤ pₓ by omega), if_pos (show N ≤ pₓ by omega)] at eₓ
      have hsₓ : sk F N pₓ = pₓ := runE_stop (fun qₓ => cₓ qₓ.1)
      rw [hsₓ, if_neg cₓ]
      exact some_el eₓ
theorem c_lbbm (hₓ : CV F N σ) (hpₓ : 0 ≤ pₓ) (eₓ : m_X6_lookBehindBlanks nₓ 1 (tp σ pₓ gₓ φ) = some (rₓ, σ')) : rₓ = bt F N (sk F N pₓ) ∧ σ' = tp σ (sk F N pₓ) (sk F N pₓ) φ := c_lbb hₓ nₓ pₓ gₓ hpₓ eₓ
theorem c_isFaulty : m_X6_isFaulty nₓ 1 (tp σ pₓ gₓ φ) = some (if φ = 0 then 0 else 1, tp σ pₓ gₓ φ) := by
  simp only [m_X6_isFaulty, mRd, mIf, mRet, tp_f]
  by_cases cₓ : φ = 0
  · rw [if_pos cₓ, if_pos cₓ]
  · rw [if_neg cₓ, if_neg cₓ]
def blm (φ aₓ : Int) : Int := if φ = 0 then 1 + aₓ else φ
theorem c_blame {bₓ : Int} : m_X6_blame nₓ 1 aₓ bₓ (tp σ pₓ gₓ φ) = some (0, tp σ pₓ gₓ (blm φ (8 * aₓ + bₓ))) := by
  simp only [m_X6_blame, b_X6_blame_19, mRd, mIf, mRet, mLet, mWr, tp_f, tp_up_f]
  unfold blm
  by_cases cₓ : φ = 0
  · rw [if_neg (fun qₓ => qₓ cₓ), if_pos cₓ, Int.add_assoc]
  · rw [if_pos cₓ, if_neg cₓ]
theorem c_blameHere : m_X6_blameHere nₓ 1 (tp σ pₓ gₓ φ) = some (0, tp σ pₓ gₓ (blm φ (8 * pₓ))) := by
  simp only [m_X6_blameHere, mRd, mRet, tp_p, c_blame, Int.add_zero, mCall_s]
theorem c_pass (hₓ : CV F N σ) : m_X6_pass nₓ 1 (tp σ pₓ gₓ φ) = some (0, tp σ (if pₓ < N then pₓ + 1 else pₓ) gₓ φ) := by
  simp only [m_X6_pass, b_X6_pass_21, mRd, mIf, mRet, mLet, mWr, tp_p, tp_n, tp_up_p, hₓ.1]
  by_cases cₓ : pₓ < N
  · rw [if_neg (by omega), if_pos cₓ]
  · rw [if_pos (by omega), if_neg cₓ]
theorem bt_is {qₓ cₓ : Int} (hcₓ : 0 ≤ cₓ) : bt F N qₓ = cₓ ↔ (qₓ < N ∧ F qₓ = cₓ) := by
  unfold bt
  constructor
  · intro eₓ; by_cases hₓ : qₓ < N
    · rw [if_pos hₓ] at eₓ; exact ⟨hₓ, eₓ⟩
    · rw [if_neg hₓ] at eₓ; omega
  · intro eₓ; rw [if_pos eₓ.1]; exact eₓ.2
theorem c_takeByte (hₓ : CV F N σ) (hpₓ : 0 ≤ pₓ) (haₓ : 0 ≤ aₓ) (eₓ : m_X6_takeByte nₓ 1 aₓ (tp σ pₓ gₓ φ) = some (rₓ, σ')) : (byteIs F N (sk F N pₓ) aₓ = true ∧ rₓ = 1 ∧ σ' = tp σ (sk F N pₓ + 1) (sk F N pₓ) φ) ∨ (byteIs F N (sk F N pₓ) aₓ = false ∧ rₓ = 0 ∧ σ' = tp σ (sk F N pₓ) (sk F N pₓ) φ) := by
  unfold m_X6_takeByte at eₓ
  obtain ⟨r1ₓ, s1ₓ, e1ₓ, eₓ⟩ := mCall_el eₓ
  obtain ⟨rfl, rfl⟩ := c_lbbm hₓ hpₓ e1ₓ
  rw [c_pass hₓ, mCall_s] at eₓ
  unfold byteIs
  by_cases cₓ : bt F N (sk F N pₓ) = aₓ
  · rw [mIf_pos cₓ] at eₓ
    have c2ₓ := (bt_is haₓ).mp cₓ
    rw [if_pos c2ₓ.1] at eₓ
    obtain ⟨rfl, rfl⟩ := some_el eₓ
    exact Or.inl ⟨decide_eq_true c2ₓ, rfl, rfl⟩
  · rw [mIf_neg cₓ] at eₓ
    obtain ⟨rfl, rfl⟩ := some_el eₓ
    exact Or.inr ⟨decide_eq_false (fun qₓ => cₓ ((bt_is haₓ).mpr qₓ)), rfl, rfl⟩
theorem c_takeSemicolon (hₓ : CV F N σ) (hpₓ : 0 ≤ pₓ) (eₓ : m_X6_takeSemicolon nₓ 1 (tp σ pₓ gₓ φ) = some (rₓ, σ')) : (φ ≠ 0 ∧ rₓ = 0 ∧ σ' = tp σ pₓ gₓ φ) ∨ (φ = 0 ∧ byteIs F N (sk F N pₓ) 59 = true ∧ rₓ = 1 ∧ σ' = tp σ (sk F N pₓ + 1) (sk F N pₓ) 0) ∨ (φ = 0 ∧ byteIs F N (sk F N pₓ) 59 = false ∧ rₓ = 0 ∧ σ' = tp σ (sk F N pₓ) (sk F N pₓ) (if sk F N pₓ < N then 1 + 8 * sk F N pₓ else 0)) := by
  unfold m_X6_takeSemicolon at eₓ
  rw [c_isFaulty, mCall_s] at eₓ
  by_cases cₓ : φ = 0
  · subst cₓ
    rw [if_pos rfl, mIf_pos rfl] at eₓ
    obtain ⟨r1ₓ, s1ₓ, e1ₓ, eₓ⟩ := mCall_el eₓ
    have hqₓ : 0 ≤ sk F N pₓ := Int.le_trans hpₓ sk_ge
    rcases c_takeByte hₓ hpₓ (by decide) e1ₓ with ⟨h1ₓ, rfl, rfl⟩ | ⟨h1ₓ, rfl, rfl⟩
    · rw [mIf_neg (show ¬ (1 : Int) = 0 by decide)] at eₓ
      obtain ⟨rfl, rfl⟩ := some_el eₓ
      exact Or.inr (Or.inl ⟨rfl, h1ₓ, rfl, rfl⟩)
    · rw [mIf_pos rfl, c_look hₓ hqₓ, mCall_s] at eₓ
      refine Or.inr (Or.inr ⟨rfl, h1ₓ, ?_⟩)
      unfold b_X6_takeSemicolon_32 at eₓ
      by_cases c2ₓ : sk F N pₓ < N
      · have h0ₓ := hₓ.2.2 _ hqₓ c2ₓ
        rw [mIf_neg (show ¬ bt F N (sk F N pₓ) = -1 by unfold bt; rw [if_pos c2ₓ]; omega), c_blameHere, mCall_s] at eₓ
        rw [if_pos c2ₓ]
        obtain ⟨rfl, rfl⟩ := some_el eₓ
        exact ⟨rfl, by unfold blm; rw [if_pos rfl]⟩
      · rw [mIf_pos (show bt F N (sk F N pₓ) = -1 by unfold bt; rw [if_neg c2ₓ])] at eₓ
        rw [if_neg c2ₓ]
        obtain ⟨rfl, rfl⟩ := some_el eₓ
        exact ⟨rfl, rfl⟩
  · rw [if_neg cₓ, mIf_neg (show ¬ (1 : Int) = 0 by decide)] at eₓ
    obtain ⟨rfl, rfl⟩ := some_el eₓ
    exact Or.inl ⟨cₓ, rfl, rfl⟩
theorem c_endOfWord0 (hₓ : CV F N σ) : ∀ (nₓ : Nat) (aₓ : Int), 0 ≤ aₓ → j_X6_endOfWord 1 nₓ 5 [aₓ] (tp σ pₓ gₓ φ) = some (rₓ, σ') → rₓ = wd F N aₓ ∧ σ' = tp σ pₓ gₓ φ := by
  intro nₓ
  induction nₓ with
  | zero => intro aₓ haₓ eₓ; exact none_el eₓ
  | succ nₓ ihₓ =>
    intro aₓ haₓ eₓ
    rw [e_X6_endOfWord_5] at eₓ
    simp only [b_X6_endOfWord_5, b_X6_endOfWord_41, mRd, mIf, mRet, mLet, tp_n, tp_b, hₓ.1] at eₓ
    by_cases cₓ : aₓ < N
    · rw [if_neg (show ¬ N ≤ aₓ by omega), hₓ.2.1 aₓ haₓ cₓ] at eₓ
      by_cases c2ₓ : 97 ≤ F aₓ ∧ F aₓ ≤ 122
      · rw [if_neg (by omega), if_neg (by omega)] at eₓ
        rw [show wd F N aₓ = wd F N (aₓ + 1) from runE_go cₓ (decide_eq_true c2ₓ)]
        exact ihₓ (aₓ + 1) (by omega) eₓ
      · have hsₓ : wd F N aₓ = aₓ := runE_stop (fun qₓ => c2ₓ (of_decide_eq_true qₓ.2))
        rw [hsₓ]
        by_cases c3ₓ : F aₓ < 97
        · rw [if_pos c3ₓ] at eₓ; exact some_el eₓ
        · rw [if_neg c3ₓ, if_pos (by omega)] at eₓ; exact some_el eₓ
    · rw [if_pos (show N ≤ aₓ by omega)] at eₓ
      rw [show wd F N aₓ = aₓ from runE_stop (fun qₓ => cₓ qₓ.1)]
      exact some_el eₓ
theorem c_endOfWord (hₓ : CV F N σ) (hpₓ : 0 ≤ pₓ) (eₓ : m_X6_endOfWord nₓ 1 (tp σ pₓ gₓ φ) = some (rₓ, σ')) : rₓ = wd F N pₓ ∧ σ' = tp σ pₓ gₓ φ := by
  simp only [m_X6_endOfWord, mRd, tp_p] at eₓ
  exact c_endOfWord0 hₓ nₓ pₓ hpₓ eₓ
theorem c_isDigit : m_X6_isDigit nₓ aₓ σ = some (if 48 ≤ aₓ ∧ aₓ ≤ 57 then 1 else 0, σ) := by
  simp only [m_X6_isDigit, b_X6_isDigit_16, mIf, mRet]
  by_cases cₓ : 48 ≤ aₓ ∧ aₓ ≤ 57
  · rw [if_neg (by omega), if_neg (by omega), if_pos cₓ]
  · rw [if_neg cₓ]
    by_cases c2ₓ : aₓ < 48
    · rw [if_pos c2ₓ]
    · rw [if_neg c2ₓ, if_pos (by omega)]
end
/-! the constant texts -/
def txt : Nat → List Int
  | 0 => [99, 111, 114, 110, 101, 114, 115, 32, 115, 116, 114, 101, 101, 116, 32, 115, 97, 105, 110, 116, 32, 108, 105, 102, 116, 32]
  | 2 => [103, 111, 32, 97, 115, 105, 100, 101, 32, 97, 115, 107, 32, 119, 97, 105, 116, 32]
  | 3 => [105, 102]
  | 4 => [110, 111, 116]
  | 5 => [104, 111, 117, 114, 32, 100, 97, 121, 32, 100, 97, 116, 101, 32, 99, 111, 114, 110, 101, 114, 32, 103, 111, 97, 108, 32, 115, 104, 117, 116, 32, 108, 101, 102, 116, 32, 115, 116, 101, 112, 115, 32, 97, 115, 107, 101, 100, 32, 99, 97, 109, 101, 32]
  | 6 => [97, 110, 100]
  | 7 => [111, 114]
  | _ => []
def txk (kₓ : Nat) : Bool := kₓ == 0 || kₓ == 2 || kₓ == 3 || kₓ == 4 || kₓ == 5 || kₓ == 6 || kₓ == 7
theorem lnS_t : ∀ kₓ : Nat, kₓ < 8 → txk kₓ = true → lnS kₓ = ((txt kₓ).length : Int) := by decide +kernel
theorem chS_t0 : ∀ kₓ : Nat, kₓ < 8 → txk kₓ = true → ∀ iₓ : Nat, iₓ < (txt kₓ).length → chS kₓ (iₓ : Int) = (txt kₓ).getD iₓ 0 := by decide +kernel
theorem chS_t {kₓ : Nat} (hkₓ : kₓ < 8) (htₓ : txk kₓ = true) {iₓ : Int} (h0ₓ : 0 ≤ iₓ) (h1ₓ : iₓ < ((txt kₓ).length : Int)) : chS kₓ iₓ = (txt kₓ).getD iₓ.toNat 0 := by
  have hₓ := chS_t0 kₓ hkₓ htₓ iₓ.toNat (by omega)
  rw [← hₓ]; congr 1; omega
theorem drop_cons {lₓ : List Int} {iₓ : Nat} (hₓ : iₓ < lₓ.length) : lₓ.drop iₓ = lₓ.getD iₓ 0 :: lₓ.drop (iₓ + 1) := by
  rw [List.drop_eq_getElem_cons hₓ, List.getD_eq_getElem?_getD, List.getElem?_eq_getElem hₓ]; rfl
section
variable {F : Int → Int} {N : Int} {σ σ' : SS} {pₓ gₓ φ rₓ aₓ : Int} {nₓ : Nat}
theorem wEq_cons {fₓ : Int → Int} {qₓ cₓ : Int} {W : List Int} : wEq fₓ qₓ (cₓ :: W) = (decide (fₓ qₓ = cₓ) && wEq fₓ (qₓ + 1) W) := rfl
theorem c_takeWord0 (hₓ : CV F N σ) {kₓ : Nat} (hkₓ : kₓ < 8) (htₓ : txk kₓ = true) (hpₓ : 0 ≤ pₓ) {e0ₓ : Int} (hNₓ : e0ₓ ≤ N) (heₓ : e0ₓ = pₓ + ((txt kₓ).length : Int)) : ∀ (nₓ : Nat) (iₓ : Int), 0 ≤ iₓ → iₓ ≤ ((txt kₓ).length : Int) → j_X6_takeWord 1 kₓ nₓ 27 [e0ₓ, iₓ] (tp σ pₓ gₓ φ) = some (rₓ, σ') → (wEq F (pₓ + iₓ) ((txt kₓ).drop iₓ.toNat) = true ∧ rₓ = 1 ∧ σ' = tp σ e0ₓ gₓ φ) ∨ (wEq F (pₓ + iₓ) ((txt kₓ).drop iₓ.toNat) = false ∧ rₓ = 0 ∧ σ' = tp σ pₓ gₓ φ) := by
  intro nₓ
  induction nₓ with
  | zero => intro iₓ h0ₓ h1ₓ eₓ; exact none_el eₓ
  | succ nₓ ihₓ =>
    intro iₓ h0ₓ h1ₓ eₓ
    rw [e_X6_takeWord_27] at eₓ
    simp only [b_X6_takeWord_27, mRd, mIf, mRet, mWr, mLet, tp_p, tp_b, tp_up_p, lnS_t kₓ hkₓ htₓ] at eₓ
    by_cases cₓ : iₓ < ((txt kₓ).length : Int)
    · rw [if_neg (by omega), hₓ.2.1 (pₓ + iₓ) (by omega) (by omega), chS_t hkₓ htₓ h0ₓ cₓ] at eₓ
      rw [drop_cons (show iₓ.toNat < (txt kₓ).length by omega), wEq_cons]
      by_cases c2ₓ : F (pₓ + iₓ) = (txt kₓ).getD iₓ.toNat 0
      · rw [if_pos c2ₓ] at eₓ
        have h2ₓ := ihₓ (iₓ + 1) (by omega) (by omega) eₓ
        rw [show pₓ + (iₓ + 1) = pₓ + iₓ + 1 by omega, show (iₓ + 1).toNat = iₓ.toNat + 1 by omega] at h2ₓ
        rw [decide_eq_true c2ₓ, Bool.true_and]
        exact h2ₓ
      · rw [if_neg c2ₓ] at eₓ
        rw [decide_eq_false c2ₓ, Bool.false_and]
        obtain ⟨rfl, rfl⟩ := some_el eₓ
        exact Or.inr ⟨rfl, rfl, rfl⟩
    · rw [if_pos (by omega)] at eₓ
      rw [List.drop_eq_nil_of_le (by omega)]
      obtain ⟨rfl, rfl⟩ := some_el eₓ
      exact Or.inl ⟨rfl, rfl, rfl⟩
theorem sk_ub (hₓ : pₓ ≤ N) : sk F N pₓ ≤ N := runE_ub hₓ
theorem wd_ub (hₓ : pₓ ≤ N) : wd F N pₓ ≤ N := runE_ub hₓ
theorem dg_ub (hₓ : pₓ ≤ N) : dg F N pₓ ≤ N := runE_ub hₓ
theorem c_takeWord (hₓ : CV F N σ) {kₓ : Nat} (hkₓ : kₓ < 8) (htₓ : txk kₓ = true) (hpₓ : 0 ≤ pₓ) (hNₓ : pₓ ≤ N) (eₓ : m_X6_takeWord nₓ 1 kₓ (tp σ pₓ gₓ φ) = some (rₓ, σ')) : (isWd F N (sk F N pₓ) (txt kₓ) = true ∧ rₓ = 1 ∧ σ' = tp σ (wd F N (sk F N pₓ)) (sk F N pₓ) φ) ∨ (isWd F N (sk F N pₓ) (txt kₓ) = false ∧ rₓ = 0 ∧ σ' = tp σ (sk F N pₓ) (sk F N pₓ) φ) := by
  unfold m_X6_takeWord at eₓ
  have hqₓ : 0 ≤ sk F N pₓ := Int.le_trans hpₓ sk_ge
  have hqNₓ : sk F N pₓ ≤ N := sk_ub hNₓ
  obtain ⟨r1ₓ, s1ₓ, e1ₓ, eₓ⟩ := mCall_el eₓ
  obtain ⟨rfl, rfl⟩ := c_lbbm hₓ hpₓ e1ₓ
  obtain ⟨r2ₓ, s2ₓ, e2ₓ, eₓ⟩ := mCall_el eₓ
  obtain ⟨rfl, rfl⟩ := c_endOfWord hₓ hqₓ e2ₓ
  simp only [mRd, mLet, mIf, mRet, tp_p, lnS_t kₓ hkₓ htₓ] at eₓ
  unfold isWd
  by_cases cₓ : wd F N (sk F N pₓ) - sk F N pₓ = ((txt kₓ).length : Int)
  · rw [if_pos cₓ] at eₓ
    rw [decide_eq_true (show wd F N (sk F N pₓ) = sk F N pₓ + ((txt kₓ).length : Int) by omega), Bool.true_and]
    have h2ₓ := c_takeWord0 hₓ hkₓ htₓ hqₓ (wd_ub hqNₓ) (by omega) nₓ 0 (by decide) (by omega) eₓ
    rw [Int.add_zero, show (0 : Int).toNat = 0 from rfl, List.drop_zero] at h2ₓ
    exact h2ₓ
  · rw [if_neg cₓ] at eₓ
    rw [decide_eq_false (show ¬ wd F N (sk F N pₓ) = sk F N pₓ + ((txt kₓ).length : Int) by omega), Bool.false_and]
    obtain ⟨rfl, rfl⟩ := some_el eₓ
    exact Or.inr ⟨rfl, rfl, rfl⟩
def bl (bₓ : Bool) : Int := if bₓ then 1 else 0
theorem scan_sp {fₓ : Int → Int} {eₓ pₓ : Int} {T : List Int} {num aₓ : Int} {al : Bool} : scan fₓ eₓ pₓ (32 :: T) num aₓ al = if al = true ∧ aₓ = eₓ then num else scan fₓ eₓ pₓ T (num + 1) pₓ true := if_pos rfl
theorem scan_ch {fₓ : Int → Int} {eₓ pₓ cₓ : Int} {T : List Int} {num aₓ : Int} {al : Bool} (hₓ : cₓ ≠ 32) : scan fₓ eₓ pₓ (cₓ :: T) num aₓ al = scan fₓ eₓ pₓ T num (aₓ + 1) (al && decide (aₓ < eₓ) && decide (fₓ aₓ = cₓ)) := if_neg hₓ
theorem c_readWord0 (hₓ : CV F N σ) {kₓ : Nat} (hkₓ : kₓ < 8) (htₓ : txk kₓ = true) (hpₓ : 0 ≤ pₓ) {e0ₓ : Int} (hNₓ : e0ₓ ≤ N) : ∀ (nₓ : Nat) (iₓ num aₓ : Int) (al : Bool), 0 ≤ iₓ → iₓ ≤ ((txt kₓ).length : Int) → 0 ≤ aₓ → 0 ≤ num → j_X6_readWord 1 kₓ nₓ 24 [e0ₓ, num, aₓ, bl al, iₓ] (tp σ pₓ gₓ φ) = some (rₓ, σ') → (rₓ = scan F e0ₓ pₓ ((txt kₓ).drop iₓ.toNat) num aₓ al ∧ 0 ≤ rₓ ∧ σ' = tp σ e0ₓ gₓ φ) ∨ (rₓ = -1 ∧ scan F e0ₓ pₓ ((txt kₓ).drop iₓ.toNat) num aₓ al = -1 ∧ σ' = tp σ pₓ gₓ (blm φ (8 * gₓ))) := by
  intro nₓ
  induction nₓ with
  | zero => intro iₓ num aₓ al h0ₓ h1ₓ haₓ hnₓ eₓ; exact none_el eₓ
  | succ nₓ ihₓ =>
    intro iₓ num aₓ al h0ₓ h1ₓ haₓ hnₓ eₓ
    rw [e_X6_readWord_24] at eₓ
    simp only [b_X6_readWord_24, b_X6_readWord_102, b_X6_readWord_75, b_X6_readWord_114, mRd, mRet, mWr, mLet, tp_p, tp_b, tp_g, tp_up_p, lnS_t kₓ hkₓ htₓ, c_blame, mCall_s] at eₓ
    by_cases cₓ : iₓ < ((txt kₓ).length : Int)
    · rw [mIf_neg (by omega), chS_t hkₓ htₓ h0ₓ cₓ] at eₓ
      rw [drop_cons (show iₓ.toNat < (txt kₓ).length by omega)]
      have hiₓ : (iₓ + 1).toNat = iₓ.toNat + 1 := by omega
      by_cases c2ₓ : (txt kₓ).getD iₓ.toNat 0 = 32
      · rw [mIf_pos c2ₓ] at eₓ
        rw [c2ₓ, scan_sp]
        cases al with
        | false =>
          rw [mIf_pos (show bl false = 0 from rfl)] at eₓ
          rw [if_neg (fun qₓ => by cases qₓ.1)]
          have h2ₓ := ihₓ (iₓ + 1) (num + 1) pₓ true (by omega) (by omega) hpₓ (by omega) eₓ
          rw [hiₓ] at h2ₓ; exact h2ₓ
        | true =>
          rw [mIf_neg (show ¬ bl true = 0 by decide)] at eₓ
          by_cases c3ₓ : aₓ = e0ₓ
          · rw [mIf_neg (fun qₓ => qₓ c3ₓ)] at eₓ
            rw [if_pos ⟨rfl, c3ₓ⟩]
            obtain ⟨rfl, rfl⟩ := some_el eₓ
            exact Or.inl ⟨rfl, hnₓ, rfl⟩
          · rw [mIf_pos c3ₓ] at eₓ
            rw [if_neg (fun qₓ => c3ₓ qₓ.2)]
            have h2ₓ := ihₓ (iₓ + 1) (num + 1) pₓ true (by omega) (by omega) hpₓ (by omega) eₓ
            rw [hiₓ] at h2ₓ; exact h2ₓ
      · rw [mIf_neg c2ₓ] at eₓ
        rw [scan_ch c2ₓ]
        have goₓ : ∀ bₓ : Bool, j_X6_readWord 1 kₓ nₓ 24 [e0ₓ, num, aₓ + 1, bl bₓ, iₓ + 1] (tp σ pₓ gₓ φ) = some (rₓ, σ') → (rₓ = scan F e0ₓ pₓ ((txt kₓ).drop (iₓ.toNat + 1)) num (aₓ + 1) bₓ ∧ 0 ≤ rₓ ∧ σ' = tp σ e0ₓ gₓ φ) ∨ (rₓ = -1 ∧ scan F e0ₓ pₓ ((txt kₓ).drop (iₓ.toNat + 1)) num (aₓ + 1) bₓ = -1 ∧ σ' = tp σ pₓ gₓ (blm φ (8 * gₓ))) := by
          intro bₓ eb
          have h2ₓ := ihₓ (iₓ + 1) num (aₓ + 1) bₓ (by omega) (by omega) (by omega) hnₓ eb
          rw [hiₓ] at h2ₓ; exact h2ₓ
        cases al with
        | false =>
          rw [mIf_pos (show bl false = 0 from rfl)] at eₓ
          rw [Bool.false_and, Bool.false_and]
          exact goₓ false eₓ
        | true =>
          rw [mIf_neg (show ¬ bl true = 0 by decide)] at eₓ
          by_cases c3ₓ : aₓ < e0ₓ
          · rw [mIf_neg (by omega), hₓ.2.1 aₓ haₓ (by omega)] at eₓ
            rw [decide_eq_true c3ₓ, Bool.true_and, Bool.true_and]
            by_cases c4ₓ : F aₓ = (txt kₓ).getD iₓ.toNat 0
            · rw [mIf_neg (fun qₓ => qₓ c4ₓ)] at eₓ
              rw [decide_eq_true c4ₓ]
              exact goₓ true eₓ
            · rw [mIf_pos c4ₓ] at eₓ
              rw [decide_eq_false c4ₓ]
              exact goₓ false eₓ
          · rw [mIf_pos (by omega)] at eₓ
            rw [decide_eq_false c3ₓ, Bool.true_and, Bool.false_and]
            exact goₓ false eₓ
    · rw [mIf_pos (by omega)] at eₓ
      rw [List.drop_eq_nil_of_le (by omega)]
      obtain ⟨rfl, rfl⟩ := some_el eₓ
      refine Or.inr ⟨rfl, rfl, ?_⟩
      rw [Int.add_zero]
/-- aₓ list of words: where each begins -/
def wls : Nat → List (List Int)
  | 0 => [[99, 111, 114, 110, 101, 114, 115], [115, 116, 114, 101, 101, 116], [115, 97, 105, 110, 116], [108, 105, 102, 116]]
  | 2 => wDeeds
  | 5 => wVals
  | _ => []
theorem wls_enc : txt 0 = enc (wls 0) ∧ txt 2 = enc (wls 2) ∧ txt 5 = enc (wls 5) := by decide
theorem wls_sp : ∀ kₓ : Nat, kₓ < 8 → ∀ W ∈ wls kₓ, ∀ cₓ ∈ W, cₓ ≠ 32 := by decide
theorem c_readWord (hₓ : CV F N σ) {kₓ : Nat} (hkₓ : kₓ < 8) (htₓ : txk kₓ = true) (heₓ : txt kₓ = enc (wls kₓ)) (hpₓ : 0 ≤ pₓ) (hNₓ : pₓ ≤ N) (eₓ : m_X6_readWord nₓ 1 kₓ (tp σ pₓ gₓ φ) = some (rₓ, σ')) : (rₓ = idxW F (wd F N (sk F N pₓ)) (sk F N pₓ) (wls kₓ) 0 ∧ 0 ≤ rₓ ∧ σ' = tp σ (wd F N (sk F N pₓ)) (sk F N pₓ) φ) ∨ (rₓ = -1 ∧ idxW F (wd F N (sk F N pₓ)) (sk F N pₓ) (wls kₓ) 0 = -1 ∧ σ' = tp σ (sk F N pₓ) (sk F N pₓ) (blm φ (8 * sk F N pₓ))) := by
  unfold m_X6_readWord at eₓ
  have hqₓ : 0 ≤ sk F N pₓ := Int.le_trans hpₓ sk_ge
  have hqNₓ : sk F N pₓ ≤ N := sk_ub hNₓ
  obtain ⟨r1ₓ, s1ₓ, e1ₓ, eₓ⟩ := mCall_el eₓ
  obtain ⟨rfl, rfl⟩ := c_lbbm hₓ hpₓ e1ₓ
  obtain ⟨r2ₓ, s2ₓ, e2ₓ, eₓ⟩ := mCall_el eₓ
  obtain ⟨rfl, rfl⟩ := c_endOfWord hₓ hqₓ e2ₓ
  simp only [mRd, tp_p] at eₓ
  have h2ₓ := c_readWord0 hₓ hkₓ htₓ hqₓ (wd_ub hqNₓ) nₓ 0 0 (sk F N pₓ) true (by decide) (by omega) hqₓ (by decide) eₓ
  rw [show (0 : Int).toNat = 0 from rfl, List.drop_zero, heₓ, scan_enc (wls kₓ) (wls_sp kₓ hkₓ)] at h2ₓ
  exact h2ₓ
end
/-! numbers off the TAPE -/
theorem i32_of {aₓ : Int} (h1ₓ : -2147483648 ≤ aₓ) (h2ₓ : aₓ ≤ 2147483647) : (Int32.ofInt aₓ).toInt = aₓ := by
  rw [Int32.toInt_ofInt]
  show aₓ.bmod 4294967296 = aₓ
  rw [Int.bmod_def]
  split <;> omega
theorem mAdd_x {aₓ bₓ : Int} (h1ₓ : -2147483648 ≤ aₓ) (h2ₓ : aₓ ≤ 2147483647) (h3ₓ : -2147483648 ≤ bₓ) (h4ₓ : bₓ ≤ 2147483647) (h5ₓ : -2147483648 ≤ aₓ + bₓ) (h6ₓ : aₓ + bₓ ≤ 2147483647) : mAdd aₓ bₓ = aₓ + bₓ := by
  show (Int32.ofInt aₓ + Int32.ofInt bₓ).toInt = aₓ + bₓ
  rw [wk_add (by rw [i32_of h1ₓ h2ₓ, i32_of h3ₓ h4ₓ]; exact h5ₓ) (by rw [i32_of h1ₓ h2ₓ, i32_of h3ₓ h4ₓ]; exact h6ₓ), i32_of h1ₓ h2ₓ, i32_of h3ₓ h4ₓ]
theorem mSub_x {aₓ bₓ : Int} (h1ₓ : -2147483648 ≤ aₓ) (h2ₓ : aₓ ≤ 2147483647) (h3ₓ : -2147483648 ≤ bₓ) (h4ₓ : bₓ ≤ 2147483647) (h5ₓ : -2147483648 ≤ aₓ - bₓ) (h6ₓ : aₓ - bₓ ≤ 2147483647) : mSub aₓ bₓ = aₓ - bₓ := by
  show (Int32.ofInt aₓ - Int32.ofInt bₓ).toInt = aₓ - bₓ
  rw [wk_sub (by rw [i32_of h1ₓ h2ₓ, i32_of h3ₓ h4ₓ]; exact h5ₓ) (by rw [i32_of h1ₓ h2ₓ, i32_of h3ₓ h4ₓ]; exact h6ₓ), i32_of h1ₓ h2ₓ, i32_of h3ₓ h4ₓ]
theorem mMul_x {aₓ bₓ : Int} (h1ₓ : -2147483648 ≤ aₓ) (h2ₓ : aₓ ≤ 2147483647) (h3ₓ : -2147483648 ≤ bₓ) (h4ₓ : bₓ ≤ 2147483647) (h5ₓ : -2147483648 ≤ aₓ * bₓ) (h6ₓ : aₓ * bₓ ≤ 2147483647) : mMul aₓ bₓ = aₓ * bₓ := by
  show (Int32.ofInt aₓ * Int32.ofInt bₓ).toInt = aₓ * bₓ
  rw [wk_mul (by rw [i32_of h1ₓ h2ₓ, i32_of h3ₓ h4ₓ]; exact h5ₓ) (by rw [i32_of h1ₓ h2ₓ, i32_of h3ₓ h4ₓ]; exact h6ₓ), i32_of h1ₓ h2ₓ, i32_of h3ₓ h4ₓ]
/-- the value of the digits from qₓ on that count -/
def nv (F : Int → Int) (N qₓ : Int) : Int := hv F qₓ (min 5 (dg F N qₓ - qₓ)).toNat
def nJ (dₓ vₓ : Int) : Prop := 0 ≤ vₓ ∧ vₓ ≤ 99999 ∧ (dₓ = 0 → vₓ = 0) ∧ (dₓ = 1 → vₓ ≤ 9) ∧ (dₓ = 2 → vₓ ≤ 99) ∧ (dₓ = 3 → vₓ ≤ 999) ∧ (dₓ = 4 → vₓ ≤ 9999)
theorem nJ_step {dₓ vₓ xₓ : Int} (hₓ : nJ dₓ vₓ) (h0ₓ : 0 ≤ dₓ) (h1ₓ : dₓ < 5) (h2ₓ : 48 ≤ xₓ) (h3ₓ : xₓ ≤ 57) : nJ (dₓ + 1) (vₓ * 10 + (xₓ - 48)) := by
  obtain ⟨aₓ, bₓ, c1ₓ, c2ₓ, c3ₓ, c4ₓ, c5ₓ⟩ := hₓ
  have hdₓ : dₓ = 0 ∨ dₓ = 1 ∨ dₓ = 2 ∨ dₓ = 3 ∨ dₓ = 4 := by omega
  rcases hdₓ with rfl | rfl | rfl | rfl | rfl
  · have := c1ₓ rfl; exact ⟨by omega, by omega, by omega, by omega, by omega, by omega, by omega⟩
  · have := c2ₓ rfl; exact ⟨by omega, by omega, by omega, by omega, by omega, by omega, by omega⟩
  · have := c3ₓ rfl; exact ⟨by omega, by omega, by omega, by omega, by omega, by omega, by omega⟩
  · have := c4ₓ rfl; exact ⟨by omega, by omega, by omega, by omega, by omega, by omega, by omega⟩
  · have := c5ₓ rfl; exact ⟨by omega, by omega, by omega, by omega, by omega, by omega, by omega⟩
theorem nJ_more {dₓ d'ₓ vₓ : Int} (hₓ : nJ dₓ vₓ) (h0ₓ : 5 ≤ d'ₓ) : nJ d'ₓ vₓ := ⟨hₓ.1, hₓ.2.1, by omega, by omega, by omega, by omega, by omega⟩
theorem hv_succ {F : Int → Int} {qₓ : Int} {kₓ : Nat} : hv F qₓ (kₓ + 1) = hv F qₓ kₓ * 10 + (F (qₓ + kₓ) - 48) := rfl
theorem dg_go {F : Int → Int} {N pₓ : Int} (hₓ : pₓ < N) (h2ₓ : 48 ≤ F pₓ ∧ F pₓ ≤ 57) : dg F N pₓ = dg F N (pₓ + 1) := runE_go hₓ (decide_eq_true h2ₓ)
theorem dg_stop {F : Int → Int} {N pₓ : Int} (hₓ : ¬ (pₓ < N ∧ 48 ≤ F pₓ ∧ F pₓ ≤ 57)) : dg F N pₓ = pₓ := runE_stop (fun qₓ => hₓ ⟨qₓ.1, of_decide_eq_true qₓ.2⟩)
/-- one more digit -/
theorem nv_step {F : Int → Int} {qₓ pₓ vₓ : Int} (hqₓ : qₓ ≤ pₓ) (hv0ₓ : vₓ = hv F qₓ (min 5 (pₓ - qₓ)).toNat) (hdₓ : pₓ - qₓ < 5) : vₓ * 10 + (F pₓ - 48) = hv F qₓ (min 5 (pₓ + 1 - qₓ)).toNat := by
  have e1ₓ : (min 5 (pₓ - qₓ)).toNat = (pₓ - qₓ).toNat := by omega
  have e2ₓ : (min 5 (pₓ + 1 - qₓ)).toNat = (pₓ - qₓ).toNat + 1 := by omega
  rw [e2ₓ, hv_succ, show qₓ + ((pₓ - qₓ).toNat : Int) = pₓ by omega, hv0ₓ, e1ₓ]
theorem nv_stay {F : Int → Int} {qₓ pₓ vₓ : Int} (hv0ₓ : vₓ = hv F qₓ (min 5 (pₓ - qₓ)).toNat) (hdₓ : 5 ≤ pₓ - qₓ) : vₓ = hv F qₓ (min 5 (pₓ + 1 - qₓ)).toNat := by
  rw [hv0ₓ]; congr 1; omega
section
variable {F : Int → Int} {N : Int} {σ σ' : SS} {pₓ gₓ φ rₓ aₓ : Int} {nₓ : Nat}
theorem c_readNumber0 (hₓ : CV F N σ) {qₓ lo hiₓ : Int} (hqₓ : 0 ≤ qₓ) : ∀ (nₓ : Nat) (pₓ vₓ : Int), qₓ ≤ pₓ → vₓ = hv F qₓ (min 5 (pₓ - qₓ)).toNat → nJ (pₓ - qₓ) vₓ → dg F N qₓ = dg F N pₓ → j_X6_readNumber 1 nₓ 32 [lo, hiₓ, vₓ] (tp σ pₓ qₓ 0) = some (rₓ, σ') → nJ (dg F N qₓ - qₓ) (nv F N qₓ) ∧ ((5 < dg F N qₓ - qₓ ∨ nv F N qₓ < lo ∨ hiₓ < nv F N qₓ) ∧ rₓ = -1 ∧ σ' = tp σ (dg F N qₓ) qₓ (1 + 8 * qₓ + 1) ∨ (¬ 5 < dg F N qₓ - qₓ ∧ lo ≤ nv F N qₓ ∧ nv F N qₓ ≤ hiₓ) ∧ rₓ = nv F N qₓ ∧ σ' = tp σ (dg F N qₓ) qₓ 0) := by
  intro nₓ
  induction nₓ with
  | zero => intro pₓ vₓ h1ₓ h2ₓ h3ₓ h4ₓ eₓ; exact none_el eₓ
  | succ nₓ ihₓ =>
    intro pₓ vₓ h1ₓ h2ₓ h3ₓ h4ₓ eₓ
    rw [e_X6_readNumber_32] at eₓ
    simp only [b_X6_readNumber_32, b_X6_readNumber_89, b_X6_readNumber_102, b_X6_readNumber_125, mRd, mRet, mWr, mLet, mCall_s, tp_p, tp_b, tp_g, tp_n, tp_up_p, c_blame, c_isDigit, hₓ.1] at eₓ
    have finₓ : ¬ (pₓ < N ∧ 48 ≤ F pₓ ∧ F pₓ ≤ 57) → mIf (5 < pₓ - qₓ) (some (-1, tp σ pₓ qₓ (blm 0 (8 * qₓ + 1)))) (mIf (vₓ < lo) (some (-1, tp σ pₓ qₓ (blm 0 (8 * qₓ + 1)))) (mIf (vₓ ≤ hiₓ) (some (vₓ, tp σ pₓ qₓ 0)) (some (-1, tp σ pₓ qₓ (blm 0 (8 * qₓ + 1)))))) = some (rₓ, σ') → nJ (dg F N qₓ - qₓ) (nv F N qₓ) ∧ ((5 < dg F N qₓ - qₓ ∨ nv F N qₓ < lo ∨ hiₓ < nv F N qₓ) ∧ rₓ = -1 ∧ σ' = tp σ (dg F N qₓ) qₓ (1 + 8 * qₓ + 1) ∨ (¬ 5 < dg F N qₓ - qₓ ∧ lo ≤ nv F N qₓ ∧ nv F N qₓ ≤ hiₓ) ∧ rₓ = nv F N qₓ ∧ σ' = tp σ (dg F N qₓ) qₓ 0) := by
      intro hsₓ eₓ
      have ed : dg F N qₓ = pₓ := h4ₓ.trans (dg_stop hsₓ)
      have ev : nv F N qₓ = vₓ := by unfold nv; rw [ed]; exact h2ₓ.symm
      have eb : blm 0 (8 * qₓ + 1) = 1 + 8 * qₓ + 1 := by unfold blm; rw [if_pos rfl]; omega
      rw [ed, ev]
      rw [eb] at eₓ
      refine ⟨h3ₓ, ?_⟩
      by_cases c1ₓ : 5 < pₓ - qₓ
      · rw [mIf_pos c1ₓ] at eₓ
        obtain ⟨rfl, rfl⟩ := some_el eₓ
        exact Or.inl ⟨Or.inl c1ₓ, rfl, rfl⟩
      · rw [mIf_neg c1ₓ] at eₓ
        by_cases c2ₓ : vₓ < lo
        · rw [mIf_pos c2ₓ] at eₓ
          obtain ⟨rfl, rfl⟩ := some_el eₓ
          exact Or.inl ⟨Or.inr (Or.inl c2ₓ), rfl, rfl⟩
        · rw [mIf_neg c2ₓ] at eₓ
          by_cases c3ₓ : vₓ ≤ hiₓ
          · rw [mIf_pos c3ₓ] at eₓ
            obtain ⟨rfl, rfl⟩ := some_el eₓ
            exact Or.inr ⟨⟨c1ₓ, by omega, c3ₓ⟩, rfl, rfl⟩
          · rw [mIf_neg c3ₓ] at eₓ
            obtain ⟨rfl, rfl⟩ := some_el eₓ
            exact Or.inl ⟨Or.inr (Or.inr (by omega)), rfl, rfl⟩
    by_cases cₓ : pₓ < N
    · rw [mIf_neg (by omega), hₓ.2.1 pₓ (by omega) cₓ] at eₓ
      by_cases c2ₓ : 48 ≤ F pₓ ∧ F pₓ ≤ 57
      · rw [if_pos c2ₓ, mIf_neg (show ¬ (1 : Int) = 0 by decide)] at eₓ
        have hNₓ : dg F N qₓ = dg F N (pₓ + 1) := h4ₓ.trans (dg_go cₓ c2ₓ)
        by_cases c3ₓ : pₓ - qₓ < 5
        · rw [mIf_neg (by omega)] at eₓ
          obtain ⟨b1ₓ, b2ₓ, -⟩ := id h3ₓ
          rw [mMul_x (by omega) (by omega) (by decide) (by decide) (by omega) (by omega), mAdd_x (by omega) (by omega) (by omega) (by omega) (by omega) (by omega), mSub_x (by omega) (by omega) (by decide) (by decide) (by omega) (by omega), show vₓ * 10 + F pₓ - 48 = vₓ * 10 + (F pₓ - 48) by omega] at eₓ
          have h5ₓ := nJ_step (xₓ := F pₓ) h3ₓ (by omega) c3ₓ c2ₓ.1 c2ₓ.2
          rw [show pₓ - qₓ + 1 = pₓ + 1 - qₓ by omega] at h5ₓ
          exact ihₓ (pₓ + 1) _ (by omega) (nv_step h1ₓ h2ₓ c3ₓ) h5ₓ hNₓ eₓ
        · rw [mIf_pos (by omega)] at eₓ
          exact ihₓ (pₓ + 1) vₓ (by omega) (nv_stay h2ₓ (by omega)) (nJ_more h3ₓ (by omega)) hNₓ eₓ
      · rw [if_neg c2ₓ, mIf_pos rfl] at eₓ
        exact finₓ (fun qₓ => c2ₓ qₓ.2) eₓ
    · rw [mIf_pos (by omega)] at eₓ
      exact finₓ (fun qₓ => cₓ qₓ.1) eₓ
theorem c_readNumberF {lo hiₓ : Int} (hfₓ : φ ≠ 0) (eₓ : m_X6_readNumber nₓ 1 lo hiₓ (tp σ pₓ gₓ φ) = some (rₓ, σ')) : rₓ = -1 ∧ σ' = tp σ pₓ gₓ φ := by
  unfold m_X6_readNumber at eₓ
  rw [c_isFaulty, if_neg hfₓ, mCall_s, mIf_neg (show ¬ (1 : Int) = 0 by decide)] at eₓ
  exact some_el eₓ
theorem c_readNumber (hₓ : CV F N σ) {lo hiₓ : Int} (hpₓ : 0 ≤ pₓ) (hNₓ : pₓ ≤ N) (eₓ : m_X6_readNumber nₓ 1 lo hiₓ (tp σ pₓ gₓ 0) = some (rₓ, σ')) : (¬ (sk F N pₓ < N ∧ isDg F (sk F N pₓ) = true) ∧ rₓ = -1 ∧ σ' = tp σ (sk F N pₓ) (sk F N pₓ) (1 + 8 * sk F N pₓ)) ∨ ((sk F N pₓ < N ∧ isDg F (sk F N pₓ) = true) ∧ nJ (dg F N (sk F N pₓ) - sk F N pₓ) (nv F N (sk F N pₓ)) ∧ ((5 < dg F N (sk F N pₓ) - sk F N pₓ ∨ nv F N (sk F N pₓ) < lo ∨ hiₓ < nv F N (sk F N pₓ)) ∧ rₓ = -1 ∧ σ' = tp σ (dg F N (sk F N pₓ)) (sk F N pₓ) (1 + 8 * sk F N pₓ + 1) ∨ (¬ 5 < dg F N (sk F N pₓ) - sk F N pₓ ∧ lo ≤ nv F N (sk F N pₓ) ∧ nv F N (sk F N pₓ) ≤ hiₓ) ∧ rₓ = nv F N (sk F N pₓ) ∧ σ' = tp σ (dg F N (sk F N pₓ)) (sk F N pₓ) 0)) := by
  unfold m_X6_readNumber at eₓ
  have hqₓ : 0 ≤ sk F N pₓ := Int.le_trans hpₓ sk_ge
  rw [c_isFaulty, if_pos rfl, mCall_s, mIf_pos rfl] at eₓ
  obtain ⟨r1ₓ, s1ₓ, e1ₓ, eₓ⟩ := mCall_el eₓ
  obtain ⟨rfl, rfl⟩ := c_lbbm hₓ hpₓ e1ₓ
  rw [c_isDigit, mCall_s] at eₓ
  by_cases cₓ : sk F N pₓ < N ∧ isDg F (sk F N pₓ) = true
  · have c2ₓ : 48 ≤ F (sk F N pₓ) ∧ F (sk F N pₓ) ≤ 57 := of_decide_eq_true cₓ.2
    rw [show bt F N (sk F N pₓ) = F (sk F N pₓ) from if_pos cₓ.1, if_pos c2ₓ, mIf_pos (show ¬ (1 : Int) = 0 by decide)] at eₓ
    refine Or.inr ⟨cₓ, ?_⟩
    exact c_readNumber0 hₓ hqₓ nₓ (sk F N pₓ) 0 (Int.le_refl _) (by rw [Int.sub_self]; rfl) ⟨by decide, by decide, by omega, by omega, by omega, by omega, by omega⟩ rfl eₓ
  · have c2ₓ : ¬ (48 ≤ bt F N (sk F N pₓ) ∧ bt F N (sk F N pₓ) ≤ 57) := by
      intro qₓ
      by_cases c3ₓ : sk F N pₓ < N
      · rw [show bt F N (sk F N pₓ) = F (sk F N pₓ) from if_pos c3ₓ] at qₓ; exact cₓ ⟨c3ₓ, decide_eq_true qₓ⟩
      · rw [show bt F N (sk F N pₓ) = -1 from if_neg c3ₓ] at qₓ; omega
    rw [if_neg c2ₓ, mIf_neg (fun qₓ => qₓ rfl)] at eₓ
    rw [mRd_e, tp_g, c_blame, mCall_s] at eₓ
    obtain ⟨rfl, rfl⟩ := some_el eₓ
    exact Or.inl ⟨cₓ, rfl, by unfold blm; rw [if_pos rfl, Int.add_zero]⟩
end
