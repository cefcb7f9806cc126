/-! the world as the constructors leave it -/
def zfv (ad : Nat → Nat) (q κ k : Nat) : Value := match (ft κ).getD k (9, 0, 0, 0) with
  | (0, _, _, _) => if κ = 12 ∧ k = 27 then .int 1 else .int 0
  | (1, _, _, _) => .long 0
  | (2, _, _, o) => .ref (ad (q + o))
  | (3, _, _, o) => .ref (ad o)
  | (4, _, _, _) => .long 0
  | _ => .null
def zrf (ad : Nat → Nat) (κ q : Nat) : Nat → (Nat → Option Nat)
  | 0 => fun _ => none
  | n + 1 => va_up (zrf ad κ q n) n (some (ad (el κ q n)))
def zc (ad : Nat → Nat) (cy : Nat → ClassId) (q κ : Nat) : va_E := if κ < 20 then .inr (κ, (List.range (ft κ).length).map (zfv ad q κ)) else if (ak κ).1 = 1 then .inl (cy 1, (ak κ).2, .inr (.inl (fun _ => 0))) else if (ak κ).1 < 4 then .inl (cy (ak κ).1, (ak κ).2, .inl (fun _ => 0)) else .inl (cy (ak κ).1, (ak κ).2, .inr (.inr (.inr (.inr (zrf ad κ q (ak κ).2)))))
def zW (ks : List Nat) (ad : Nat → Nat) (cy : Nat → ClassId) : va_W := (List.range ks.length).map (fun q => (ad q, zc ad cy q (ks.getD q 0)))
theorem zrf_at {ad : Nat → Nat} {κ q : Nat} : ∀ (n i : Nat), i < n → zrf ad κ q n i = some (ad (el κ q i))
  | 0, i, h => absurd h (by omega)
  | n + 1, i, h => by
    show va_up (zrf ad κ q n) n (some (ad (el κ q n))) i = _
    unfold va_up
    by_cases e : i = n
    · subst e; rw [if_pos rfl]
    · rw [if_neg e]; exact zrf_at n i (by omega)
theorem zok : (List.range 20).all (fun κ => (List.range 50).all (fun k => match (ft κ).getD k (9, 0, 0, 0) with
  | (0, lo, hi, _) => decide (lo ≤ 0) && decide (0 ≤ hi) && (!(decide (κ = 12 ∧ k = 27)) || decide (1 ≤ hi))
  | (1, lo, hi, _) => decide (lo ≤ 0) && decide (0 ≤ hi)
  | _ => true)) = true := by decide +kernel
theorem zeU : (List.range 82).all (fun κ => match erU κ with | some (lo, hi) => decide (lo ≤ 0) && decide (0 ≤ hi) | none => true) = true := by decide +kernel
theorem zW_at {ks : List Nat} {ad : Nat → Nat} {cy : Nat → ClassId} {q κ : Nat} (hq : ks[q]? = some κ) : (zW ks ad cy)[q]? = some (ad q, zc ad cy q κ) := by
  have hl := tk_lt hq
  unfold zW
  rw [List.getElem?_map, List.getElem?_eq_getElem (by rw [List.length_range]; exact hl), List.getElem_range]
  show some (ad q, zc ad cy q (ks.getD q 0)) = _
  rw [List.getD_eq_getElem?_getD, hq]; rfl
theorem zVO {ks : List Nat} {ad : Nat → Nat} {B : Int} {q κ k : Nat} {t : Nat × Int × Int × Nat} (hB : 0 ≤ B) (hκ : κ < 20) (ht : (ft κ)[k]? = some t) : VO ks ad B 0 q t (zfv ad q κ k) := by
  have hl := tk_lt ht
  have h1 := List.all_eq_true.mp ftlen κ (List.mem_range.mpr hκ)
  have h2 : (ft κ).length ≤ 50 := by simpa using h1
  have h3 := List.all_eq_true.mp (List.all_eq_true.mp zok κ (List.mem_range.mpr hκ)) k (List.mem_range.mpr (by omega))
  have e : (ft κ).getD k (9, 0, 0, 0) = t := by rw [List.getD_eq_getElem?_getD, ht]; rfl
  unfold zfv
  rw [e] at h3 ⊢
  obtain ⟨tg, lo, hi, o⟩ := t
  match tg, h3 with
  | 0, h3 =>
    simp only [Bool.and_eq_true, decide_eq_true_eq, Bool.or_eq_true, Bool.not_eq_true'] at h3
    obtain ⟨⟨a1, a2⟩, a3⟩ := h3
    by_cases c : κ = 12 ∧ k = 27
    · show VO ks ad B 0 q (0, lo, hi, o) (if κ = 12 ∧ k = 27 then .int 1 else .int 0)
      rw [if_pos c]
      have a4 : 1 ≤ hi := by rcases a3 with h | h; exact absurd c (of_decide_eq_false h); exact h
      have e1 : (1 : Int32).toInt = 1 := by decide
      exact ⟨1, rfl, by omega, by omega⟩
    · show VO ks ad B 0 q (0, lo, hi, o) (if κ = 12 ∧ k = 27 then .int 1 else .int 0)
      rw [if_neg c]
      have e0 : (0 : Int32).toInt = 0 := by decide
      exact ⟨0, rfl, by omega, by omega⟩
  | 1, h3 =>
    simp only [Bool.and_eq_true, decide_eq_true_eq] at h3
    have e0 : (0 : Int64).toInt = 0 := by decide
    exact ⟨0, rfl, by omega, by omega⟩
  | 2, _ => exact rfl
  | 3, _ => exact rfl
  | 4, _ =>
    have e0 : (0 : Int64).toInt = 0 := by decide
    exact ⟨0, rfl, by omega, by omega⟩
  | _ + 5, _ => exact Or.inl ⟨rfl, rfl⟩
theorem ak9_all : (List.range 20).all (fun κ => (ak κ).1 == 9) = true := by decide +kernel
theorem ak9 {κ : Nat} (h : κ < 20) : (ak κ).1 = 9 := by
  have h1 := List.all_eq_true.mp ak9_all κ (List.mem_range.mpr h)
  simpa using h1
theorem TW_z {ks : List Nat} {ad : Nat → Nat} {cy : Nat → ClassId} {B : Int} (hB : 0 ≤ B) (hks : ∀ q κ : Nat, ks[q]? = some κ → κ < 82) : TW ks ad cy B 0 12 (zW ks ad cy) := by
  refine ⟨by unfold zW; rw [List.length_map, List.length_range], fun q κ hq hκ => ?_, fun q κ hq hκ => ?_, fun q κ hq hκ => ?_, fun q κ hq hκ => ?_⟩
  · refine ⟨_, (zW_at hq).trans (by unfold zc; rw [if_pos hκ]), by rw [List.length_map, List.length_range], fun k t ht => ⟨zfv ad q κ k, ?_, zVO hB hκ ht⟩⟩
    rw [List.getElem?_map, List.getElem?_eq_getElem (by rw [List.length_range]; exact tk_lt ht), List.getElem_range]; rfl
  · have h20 : ¬ κ < 20 := fun h => by have := ak9 h; omega
    refine ⟨fun _ => 0, (zW_at hq).trans (by unfold zc; rw [if_neg h20, if_neg (by omega), if_pos (by omega)]), fun i hi => ?_⟩
    have e0 : (0 : Int32).toInt = 0 := by decide
    cases hu : erU κ with
    | some p =>
      obtain ⟨lo, hi'⟩ := p
      have h3 := List.all_eq_true.mp zeU κ (List.mem_range.mpr (hks q κ hq))
      rw [hu] at h3
      simp only [Bool.and_eq_true, decide_eq_true_eq] at h3
      exact (EI_u hu).mpr (show lo ≤ (0 : Int32).toInt ∧ (0 : Int32).toInt ≤ hi' from ⟨by omega, by omega⟩)
    | none => exact tk_rg0 hu hB (by decide)
  · have h20 : ¬ κ < 20 := fun h => by have := ak9 h; omega
    exact ⟨fun _ => 0, (zW_at hq).trans (by unfold zc; rw [if_neg h20, if_pos hκ])⟩
  · have h20 : ¬ κ < 20 := fun h => by have := ak9 h; omega
    exact ⟨_, (zW_at hq).trans (by unfold zc; rw [if_neg h20, if_neg (by omega), if_neg (by omega)]), fun i hi => zrf_at _ i hi⟩
theorem tn_lt {u v : Int} {n : Nat} (h : v.toNat < n + 1) (h1 : u < v) (h2 : 0 < v) : u.toNat < n := by omega
