/-! what is read of the tape: runs of bytes, words, numbers; the machine that both readers of rules go by -/
def runN (P : Int → Bool) (n : Int) : Nat → Int → Int
  | 0, i => i
  | k + 1, i => if i < n ∧ P i = true then runN P n k (i + 1) else i
def runE (P : Int → Bool) (n i : Int) : Int := runN P n (n - i).toNat i
theorem runE_go {P : Int → Bool} {n i : Int} (h : i < n) (hP : P i = true) : runE P n i = runE P n (i + 1) := by
  unfold runE
  rw [show (n - i).toNat = (n - (i + 1)).toNat + 1 by omega]
  show (if i < n ∧ P i = true then _ else _) = _
  rw [if_pos ⟨h, hP⟩]
theorem runE_stop {P : Int → Bool} {n i : Int} (h : ¬ (i < n ∧ P i = true)) : runE P n i = i := by
  unfold runE
  cases (n - i).toNat with
  | zero => rfl
  | succ k => show (if i < n ∧ P i = true then _ else _) = _; rw [if_neg h]
theorem runN_le {P : Int → Bool} {n : Int} : ∀ (k : Nat) (i : Int), i ≤ runN P n k i
  | 0, i => Int.le_refl i
  | k + 1, i => by
    show i ≤ (if i < n ∧ P i = true then runN P n k (i + 1) else i)
    split
    · have := runN_le (P := P) (n := n) k (i + 1); omega
    · exact Int.le_refl i
theorem runE_le {P : Int → Bool} {n i : Int} : i ≤ runE P n i := runN_le _ _
theorem runN_end {P : Int → Bool} {n : Int} : ∀ (k : Nat) (i : Int), (n - i).toNat ≤ k → ¬ (runN P n k i < n ∧ P (runN P n k i) = true)
  | 0, i, h => fun q => by have e : runN P n 0 i = i := rfl; rw [e] at q; omega
  | k + 1, i, h => by
    show ¬ ((if i < n ∧ P i = true then runN P n k (i + 1) else i) < n ∧ P (if i < n ∧ P i = true then runN P n k (i + 1) else i) = true)
    by_cases c : i < n ∧ P i = true
    · rw [if_pos c]; exact runN_end k (i + 1) (by omega)
    · rw [if_neg c]; exact c
theorem runE_end {P : Int → Bool} {n i : Int} : ¬ (runE P n i < n ∧ P (runE P n i) = true) := runN_end _ _ (Nat.le_refl _)
theorem runE_idem {P : Int → Bool} {n i : Int} : runE P n (runE P n i) = runE P n i := runE_stop runE_end
theorem runN_ub {P : Int → Bool} {n : Int} : ∀ (k : Nat) (i : Int), i ≤ n → runN P n k i ≤ n
  | 0, i, h => h
  | k + 1, i, h => by
    show (if i < n ∧ P i = true then runN P n k (i + 1) else i) ≤ n
    split
    · exact runN_ub k (i + 1) (by omega)
    · exact h
theorem runE_ub {P : Int → Bool} {n i : Int} (h : i ≤ n) : runE P n i ≤ n := runN_ub _ _ h
def isBl (f : Int → Int) (i : Int) : Bool := decide (f i = 32)
def isLt (f : Int → Int) (i : Int) : Bool := decide (97 ≤ f i ∧ f i ≤ 122)
def isDg (f : Int → Int) (i : Int) : Bool := decide (48 ≤ f i ∧ f i ≤ 57)
def sk (f : Int → Int) (n i : Int) : Int := runE (isBl f) n i
def wd (f : Int → Int) (n i : Int) : Int := runE (isLt f) n i
def dg (f : Int → Int) (n i : Int) : Int := runE (isDg f) n i
/-- the value of k digits from b on -/
def hv (f : Int → Int) (b : Int) : Nat → Int
  | 0 => 0
  | k + 1 => hv f b k * 10 + (f (b + k) - 48)
def wEq (f : Int → Int) : Int → List Int → Bool
  | _, [] => true
  | q, c :: W => decide (f q = c) && wEq f (q + 1) W
def isWd (f : Int → Int) (n q : Int) (W : List Int) : Bool := decide (wd f n q = q + W.length) && wEq f q W
def wGo : List Int := [103, 111]
def wAside : List Int := [97, 115, 105, 100, 101]
def wAsk : List Int := [97, 115, 107]
def wWait : List Int := [119, 97, 105, 116]
def wIf : List Int := [105, 102]
def wNot : List Int := [110, 111, 116]
def wAnd : List Int := [97, 110, 100]
def wOr : List Int := [111, 114]
def wDeeds : List (List Int) := [wGo, wAside, wAsk, wWait]
def wVals : List (List Int) := [[104, 111, 117, 114], [100, 97, 121], [100, 97, 116, 101], [99, 111, 114, 110, 101, 114], [103, 111, 97, 108], [115, 104, 117, 116], [108, 101, 102, 116], [115, 116, 101, 112, 115], [97, 115, 107, 101, 100], [99, 97, 109, 101]]
abbrev Cfg := Nat × Int × Int × Int × List Bool
def halt (φ : Int) : Cfg := (9, φ, 0, 0, [])
def byteIs (f : Int → Int) (n q c : Int) : Bool := decide (q < n ∧ f q = c)
def opAt (f : Int → Int) (n q : Int) : Bool := byteIs f n q 43 || byteIs f n q 45 || byteIs f n q 42 || byteIs f n q 47
def cmpAt (f : Int → Int) (n q : Int) : Bool := byteIs f n q 60 || byteIs f n q 61 || byteIs f n q 62
def joinAt (f : Int → Int) (n q : Int) : Bool := isWd f n q wAnd || isWd f n q wOr
/-- a VALUE at q: where it ends and what is at fault with it -/
def valStep (f : Int → Int) (n : Int) (nx : Nat) (q k L : Int) (S : List Bool) : Cfg :=
  if q < n ∧ isDg f q = true then
    (if 5 < dg f n q - q then halt (1 + 8 * q + 1) else if 60 ≤ k then halt (1 + 8 * q + 3) else (nx, sk f n (dg f n q), k + 1, L, S))
  else if wVals.any (fun W => isWd f n q W) = true then
    (if 60 ≤ k then halt (1 + 8 * q + 3) else (nx, sk f n (wd f n q), k + 1, L, S))
  else halt (1 + 8 * q)
def cmpLen (f : Int → Int) (n q : Int) : Int := if byteIs f n q 61 = false ∧ byteIs f n (q + 1) 61 = true then 2 else 1
def pstep (f : Int → Int) (n : Int) : Cfg → Cfg
  | (0, q, k, L, S) => if wDeeds.any (fun W => isWd f n q W) = true then (if 12 ≤ L then halt (1 + 8 * q + 4) else (1, sk f n (wd f n q), k, L + 1, S)) else halt (1 + 8 * q)
  | (1, q, k, L, S) => if isWd f n q wIf = true then (2, sk f n (wd f n q), k, L, S) else (8, q, k, L, S)
  | (2, q, k, L, S) => if isWd f n q wNot = true then (if 10 ≤ S.length then halt (1 + 8 * q + 2) else (2, sk f n (wd f n q), k, L, false :: S)) else if byteIs f n q 91 = true then (if 10 ≤ S.length then halt (1 + 8 * q + 2) else (2, sk f n (q + 1), k, L, true :: S)) else (3, q, k, L, S)
  | (3, q, k, L, S) => valStep f n 5 q k L S
  | (4, q, k, L, S) => valStep f n 6 q k L S
  | (5, q, k, L, S) => if opAt f n q = true then (3, sk f n (q + 1), k, L, S) else if cmpAt f n q = true then (if 60 ≤ k then halt (1 + 8 * q + 3) else (4, sk f n (q + cmpLen f n q), k + 1, L, S)) else halt (1 + 8 * q)
  | (6, q, k, L, S) => if opAt f n q = true then (4, sk f n (q + 1), k, L, S) else (7, q, k, L, S)
  | (7, q, k, L, false :: S) => (7, q, k, L, S)
  | (7, q, k, L, true :: S) => if byteIs f n q 93 = true then (7, sk f n (q + 1), k, L, S) else if joinAt f n q = true then (2, sk f n (wd f n q), k, L, true :: S) else halt (1 + 8 * q)
  | (7, q, k, L, []) => if joinAt f n q = true then (2, sk f n (wd f n q), k, L, []) else (8, q, k, L, [])
  | (8, q, k, L, S) => if byteIs f n q 59 = true then (0, sk f n (q + 1), k, L, S) else if q < n then halt (1 + 8 * q) else halt 0
  | c => c
def piter (f : Int → Int) (n : Int) : Nat → Cfg → Cfg
  | 0, c => c
  | j + 1, c => piter f n j (pstep f n c)
def St (f : Int → Int) (n : Int) (c d : Cfg) : Prop := ∃ j : Nat, piter f n j c = d
theorem St_rf {f : Int → Int} {n : Int} {c : Cfg} : St f n c c := ⟨0, rfl⟩
theorem piter_add {f : Int → Int} {n : Int} : ∀ (a b : Nat) (c : Cfg), piter f n (a + b) c = piter f n b (piter f n a c)
  | 0, b, c => by rw [Nat.zero_add]; rfl
  | a + 1, b, c => by rw [Nat.succ_add]; exact piter_add a b (pstep f n c)
theorem St.tr {f : Int → Int} {n : Int} {c d e : Cfg} (h1 : St f n c d) (h2 : St f n d e) : St f n c e := by
  obtain ⟨a, ha⟩ := h1
  obtain ⟨b, hb⟩ := h2
  exact ⟨a + b, by rw [piter_add, ha, hb]⟩
theorem St_one {f : Int → Int} {n : Int} {c d : Cfg} (h : pstep f n c = d) : St f n c d := ⟨1, h⟩
theorem halt_stays {f : Int → Int} {n φ : Int} : ∀ j : Nat, piter f n j (halt φ) = halt φ
  | 0 => rfl
  | j + 1 => halt_stays j
theorem St_det {f : Int → Int} {n φ ψ : Int} {c : Cfg} (h1 : St f n c (halt φ)) (h2 : St f n c (halt ψ)) : φ = ψ := by
  obtain ⟨a, ha⟩ := h1
  obtain ⟨b, hb⟩ := h2
  have h3 : piter f n (a + b) c = halt φ := by rw [piter_add, ha, halt_stays]
  have h4 : piter f n (a + b) c = halt ψ := by rw [Nat.add_comm, piter_add, hb, halt_stays]
  have h5 : halt φ = halt ψ := h3.symm.trans h4
  exact congrArg (fun c : Cfg => c.2.1) h5
/-! words of a list, as the class scans them; words by their number, as the reference reads them -/
def scan (f : Int → Int) (e p : Int) : List Int → Int → Int → Bool → Int
  | [], _, _, _ => -1
  | c :: T, num, a, al => if c = 32 then (if al = true ∧ a = e then num else scan f e p T (num + 1) p true) else scan f e p T num (a + 1) (al && decide (a < e) && decide (f a = c))
def enc : List (List Int) → List Int
  | [] => []
  | W :: Ws => W ++ 32 :: enc Ws
theorem scan_word {f : Int → Int} {e p : Int} {R : List Int} : ∀ (W : List Int), (∀ c ∈ W, c ≠ 32) → ∀ (num a : Int) (al : Bool), scan f e p (W ++ 32 :: R) num a al = if al = true ∧ wEq f a W = true ∧ a + W.length = e then num else scan f e p R (num + 1) p true
  | [], _, num, a, al => by
    show (if (32 : Int) = 32 then (if al = true ∧ a = e then num else scan f e p R (num + 1) p true) else _) = _
    rw [if_pos rfl]
    by_cases h : al = true ∧ a = e
    · rw [if_pos h, if_pos ⟨h.1, rfl, by rw [List.length_nil]; omega⟩]
    · rw [if_neg h, if_neg (fun q => h ⟨q.1, by have := q.2.2; rw [List.length_nil] at this; omega⟩)]
  | c :: W, hW, num, a, al => by
    have hc : c ≠ 32 := hW c List.mem_cons_self
    have ih := scan_word (f := f) (e := e) (p := p) (R := R) W (fun x hx => hW x (List.mem_cons_of_mem _ hx)) num (a + 1) (al && decide (a < e) && decide (f a = c))
    show (if c = 32 then _ else scan f e p (W ++ 32 :: R) num (a + 1) (al && decide (a < e) && decide (f a = c))) = _
    rw [if_neg hc, ih]
    by_cases h : al = true ∧ wEq f a (c :: W) = true ∧ a + (c :: W).length = e
    · obtain ⟨h1, h2, h3⟩ := h
      have h2' : decide (f a = c) = true ∧ wEq f (a + 1) W = true := by simpa [wEq] using h2
      rw [List.length_cons] at h3
      rw [if_pos ⟨by rw [h1, h2'.1, decide_eq_true (show a < e by omega)]; rfl, h2'.2, by omega⟩, if_pos ⟨h1, h2, by rw [List.length_cons]; omega⟩]
    · rw [if_neg h, if_neg ?_]
      rintro ⟨q1, q2, q3⟩
      refine h ⟨?_, ?_, by rw [List.length_cons]; omega⟩
      · simp only [Bool.and_eq_true] at q1; exact q1.1.1
      · simp only [Bool.and_eq_true] at q1
        show (decide (f a = c) && wEq f (a + 1) W) = true
        rw [q1.2, q2]; rfl
def idxW (f : Int → Int) (e p : Int) : List (List Int) → Int → Int
  | [], _ => -1
  | W :: Ws, num => if wEq f p W = true ∧ p + W.length = e then num else idxW f e p Ws (num + 1)
theorem scan_enc {f : Int → Int} {e p : Int} : ∀ (Ws : List (List Int)), (∀ W ∈ Ws, ∀ c ∈ W, c ≠ 32) → ∀ num : Int, scan f e p (enc Ws) num p true = idxW f e p Ws num
  | [], _, _ => rfl
  | W :: Ws, h, num => by
    show scan f e p (W ++ 32 :: enc Ws) num p true = (if wEq f p W = true ∧ p + W.length = e then num else idxW f e p Ws (num + 1))
    rw [scan_word W (h W List.mem_cons_self), scan_enc Ws (fun V hV => h V (List.mem_cons_of_mem _ hV))]
    by_cases c : wEq f p W = true ∧ p + W.length = e
    · rw [if_pos c, if_pos ⟨rfl, c⟩]
    · rw [if_neg c, if_neg (fun q => c q.2)]
theorem idxW_any {f : Int → Int} {n p : Int} : ∀ (Ws : List (List Int)) (num : Int), 0 ≤ num → ((0 ≤ idxW f (wd f n p) p Ws num) ↔ Ws.any (fun W => isWd f n p W) = true)
  | [], num, h => by
    show (0 ≤ (-1 : Int)) ↔ (false = true)
    constructor
    · intro q; omega
    · intro q; cases q
  | W :: Ws, num, h => by
    show (0 ≤ (if wEq f p W = true ∧ p + W.length = wd f n p then num else idxW f (wd f n p) p Ws (num + 1))) ↔ (isWd f n p W || Ws.any (fun W => isWd f n p W)) = true
    by_cases c : wEq f p W = true ∧ p + W.length = wd f n p
    · rw [if_pos c]
      have e : isWd f n p W = true := by unfold isWd; rw [c.1, decide_eq_true c.2.symm]; rfl
      rw [e]
      exact ⟨fun _ => rfl, fun _ => h⟩
    · rw [if_neg c]
      have e : isWd f n p W = false := by
        cases hb : isWd f n p W with
        | false => rfl
        | true =>
          unfold isWd at hb
          simp only [Bool.and_eq_true, decide_eq_true_eq] at hb
          exact absurd ⟨hb.2, hb.1.symm⟩ c
      rw [e, Bool.false_or]
      exact idxW_any Ws (num + 1) (by omega)
/-- a word's letters as one number -/
def wv (f : Int → Int) (p : Int) : Nat → Int
  | 0 => 0
  | k + 1 => wv f p k * 256 + f (p + k)
def wvL : List Int → Int
  | [] => 0
  | W => W.foldl (fun v c => v * 256 + c) 0
theorem wv_shift {f : Int → Int} {p : Int} : ∀ k : Nat, ∀ W : List Int, W.length = k → wEq f p W = true → wv f p k = W.foldl (fun v c => v * 256 + c) 0 := by
  intro k W hl hW
  subst hl
  have gen : ∀ (W : List Int) (j : Nat) (v : Int), wEq f (p + j) W = true → wv f p j = v → wv f p (j + W.length) = W.foldl (fun v c => v * 256 + c) v := by
    intro W
    induction W with
    | nil => intro j v _ h; exact h
    | cons c W ih =>
      intro j v hW h
      have hW' : f (p + j) = c ∧ wEq f (p + j + 1) W = true := by simpa [wEq] using hW
      have h2 := ih (j + 1) (v * 256 + c) (by rw [show p + ((j + 1 : Nat) : Int) = p + j + 1 by omega]; exact hW'.2) (by show wv f p j * 256 + f (p + j) = _; rw [h, hW'.1])
      rw [List.length_cons, show j + (W.length + 1) = j + 1 + W.length by omega, h2]
      rfl
  have := gen W 0 0 (by rw [show p + ((0 : Nat) : Int) = p by omega]; exact hW) rfl
  rw [Nat.zero_add] at this
  exact this
/-! the class's TAPE, read: what its models come to -/
theorem mCall_el {A : RR} {K : Int → SS → RR} {ρ : Int × SS} (h : mCall A K = some ρ) : ∃ r σ', A = some (r, σ') ∧ K r σ' = some ρ := by
  cases A with
  | none => exact absurd h (by intro q; cases q)
  | some t => exact ⟨t.1, t.2, rfl, h⟩
theorem some_el {a b : Int} {σ τ : SS} (h : (some (a, σ) : RR) = some (b, τ)) : b = a ∧ τ = σ := by
  injection h with h; injection h with h1 h2; exact ⟨h1.symm, h2.symm⟩
theorem mIf_pos {c : Prop} [Decidable c] {A B : RR} (h : c) : mIf c A B = A := if_pos h
theorem mIf_neg {c : Prop} [Decidable c] {A B : RR} (h : ¬ c) : mIf c A B = B := if_neg h
theorem mCall_s {r : Int} {σ : SS} {K : Int → SS → RR} : mCall (some (r, σ)) K = K r σ := rfl
theorem mRd_e {σ : SS} {q k : Nat} {K : Int → RR} : mRd σ q k K = K (σ q k) := rfl
theorem mLet_e {v : Int} {K : Int → RR} : mLet v K = K v := rfl
theorem mWr_e {σ : SS} {q k : Nat} {v : Int} {K : SS → RR} : mWr σ q k v K = K (upS σ q k v) := rfl
theorem mIx_e {i : Int} {K : Nat → RR} : mIx i K = K i.toNat := rfl
theorem mRet_e {r : Int} {σ : SS} : mRet r σ = some (r, σ) := rfl
theorem none_el {ρ : Int × SS} {P : Prop} (h : (none : RR) = some ρ) : P := by cases h
theorem upS_s {σ : SS} {q k : Nat} {v : Int} : upS σ q k v q k = v := by unfold upS; rw [if_pos ⟨rfl, rfl⟩]
theorem upS_q {σ : SS} {q k q' k' : Nat} {v : Int} (h : q' ≠ q) : upS σ q k v q' k' = σ q' k' := by unfold upS; rw [if_neg (fun e => h e.1)]
theorem upS_k {σ : SS} {q k q' k' : Nat} {v : Int} (h : k' ≠ k) : upS σ q k v q' k' = σ q' k' := by unfold upS; rw [if_neg (fun e => h e.2)]
def tp (σ : SS) (p g φ : Int) : SS := fun q k => if q = 1 ∧ k = 1 then p else if q = 1 ∧ k = 3 then g else if q = 1 ∧ k = 4 then φ else σ q k
section
variable {σ : SS} {p g φ v : Int} {q k : Nat}
theorem tp_p : tp σ p g φ 1 1 = p := id rfl
theorem tp_n : tp σ p g φ 1 2 = σ 1 2 := id rfl
theorem tp_g : tp σ p g φ 1 3 = g := id rfl
theorem tp_f : tp σ p g φ 1 4 = φ := id rfl
theorem tp_o (h : q ≠ 1) : tp σ p g φ q k = σ q k := by unfold tp; rw [if_neg (fun e => h e.1), if_neg (fun e => h e.1), if_neg (fun e => h e.1)]
theorem tp_b : tp σ p g φ 2 k = σ 2 k := tp_o (by decide)
theorem tp_up_p : upS (tp σ p g φ) 1 1 v = tp σ v g φ := by
  funext q k; unfold upS tp; by_cases h : q = 1 ∧ k = 1
  · rw [if_pos h, if_pos h]
  · rw [if_neg h, if_neg h, if_neg h]
theorem tp_up_g : upS (tp σ p g φ) 1 3 v = tp σ p v φ := by
  funext q k; unfold upS tp; by_cases h : q = 1 ∧ k = 3
  · rw [if_pos h, if_neg (fun e => by omega), if_pos h]
  · rw [if_neg h, if_neg h, if_neg h]
theorem tp_up_f : upS (tp σ p g φ) 1 4 v = tp σ p g v := by
  funext q k; unfold upS tp; by_cases h : q = 1 ∧ k = 4
  · rw [if_pos h, if_neg (fun e => by omega), if_neg (fun e => by omega), if_pos h]
  · rw [if_neg h, if_neg h, if_neg h]
theorem tp_up_o (h : q ≠ 1) : upS (tp σ p g φ) q k v = tp (upS σ q k v) p g φ := by
  funext q' k'
  by_cases e : q' = q ∧ k' = k
  · obtain ⟨rfl, rfl⟩ := e
    rw [upS_s, tp_o h, upS_s]
  · have h2 : upS σ q k v q' k' = σ q' k' := if_neg e
    rw [show upS (tp σ p g φ) q k v q' k' = tp σ p g φ q' k' from if_neg e]
    unfold tp; rw [h2]
theorem tp_self : tp σ (σ 1 1) (σ 1 3) (σ 1 4) = σ := by
  funext q k; unfold tp
  by_cases h1 : q = 1 ∧ k = 1
  · obtain ⟨rfl, rfl⟩ := h1; rfl
  · rw [if_neg h1]
    by_cases h2 : q = 1 ∧ k = 3
    · obtain ⟨rfl, rfl⟩ := h2; rfl
    · rw [if_neg h2]
      by_cases h3 : q = 1 ∧ k = 4
      · obtain ⟨rfl, rfl⟩ := h3; rfl
      · rw [if_neg h3]
theorem tp_tp {p' g' φ' : Int} : tp (tp σ p g φ) p' g' φ' = tp σ p' g' φ' := by
  funext q k; unfold tp
  by_cases h1 : q = 1 ∧ k = 1
  · rw [if_pos h1, if_pos h1]
  · rw [if_neg h1, if_neg h1, if_neg h1]
    by_cases h2 : q = 1 ∧ k = 3
    · rw [if_pos h2, if_pos h2]
    · rw [if_neg h2, if_neg h2, if_neg h2]
      by_cases h3 : q = 1 ∧ k = 4
      · rw [if_pos h3, if_pos h3]
      · rw [if_neg h3, if_neg h3, if_neg h3]
end
/-- the class's TAPE holds these bytes -/
def CV (F : Int → Int) (N : Int) (σ : SS) : Prop := σ 1 2 = N ∧ (∀ j : Int, 0 ≤ j → j < N → σ 2 j.toNat = F j) ∧ ∀ j : Int, 0 ≤ j → j < N → 0 ≤ F j
def bt (F : Int → Int) (N q : Int) : Int := if q < N then F q else -1
section
variable {F : Int → Int} {N : Int} {σ σ' : SS} {p g φ r a : Int} {n : Nat}
theorem c_look (h : CV F N σ) (hp : 0 ≤ p) : m_X6_look n 1 (tp σ p g φ) = some (bt F N p, tp σ p g φ) := by
  simp only [m_X6_look, mRd, mIf, mRet, tp_p, tp_n, tp_b, h.1]
  unfold bt
  by_cases c : p < N
  · rw [if_neg (by omega), if_pos c, h.2.1 p hp c]
  · rw [if_pos (by omega), if_neg c]
theorem sk_ge : p ≤ sk F N p := runE_le
theorem wd_ge : p ≤ wd F N p := runE_le
theorem dg_ge : p ≤ dg F N p := runE_le
theorem c_lbb (h : CV F N σ) : ∀ (n : Nat) (p g : Int), 0 ≤ p → j_X6_lookBehindBlanks 1 n 0 [] (tp σ p g φ) = some (r, σ') → r = bt F N (sk F N p) ∧ σ' = tp σ (sk F N p) (sk F N p) φ := by
  intro n
  induction n with
  | zero => intro p g hp e; exact none_el e
  | succ n ih =>
    intro p g hp e
    rw [e_X6_lookBehindBlanks_0] at e
    simp only [b_X6_lookBehindBlanks_0, b_X6_lookBehindBlanks_38, mRd, mIf, mRet, mWr, mLet, tp_p, tp_n, tp_b, tp_g, tp_up_p, tp_up_g, h.1] at e
    unfold bt
    by_cases c : p < N
    · rw [if_neg (show ¬ N ≤ p by omega), h.2.1 p hp c] at e
      by_cases c2 : F p = 32
      · rw [if_neg (fun q => q c2)] at e
        have hs : sk F N p = sk F N (p + 1) := runE_go c (decide_eq_true c2)
        rw [hs]
        exact ih (p + 1) g (by omega) e
      · rw [if_pos c2, if_neg (show ¬ N ≤ p by omega)] at e
        have hs : sk F N p = p := runE_stop (fun q => c2 (of_decide_eq_true q.2))
        rw [hs, if_pos c]
        exact some_el e
    · rw [if_pos (show N ≤ p by omega), if_pos (show N ≤ p by omega)] at e
      have hs : sk F N p = p := runE_stop (fun q => c q.1)
      rw [hs, if_neg c]
      exact some_el e
theorem c_lbbm (h : CV F N σ) (hp : 0 ≤ p) (e : m_X6_lookBehindBlanks n 1 (tp σ p g φ) = some (r, σ')) : r = bt F N (sk F N p) ∧ σ' = tp σ (sk F N p) (sk F N p) φ := c_lbb h n p g hp e
theorem c_isFaulty : m_X6_isFaulty n 1 (tp σ p g φ) = some (if φ = 0 then 0 else 1, tp σ p g φ) := by
  simp only [m_X6_isFaulty, mRd, mIf, mRet, tp_f]
  by_cases c : φ = 0
  · rw [if_pos c, if_pos c]
  · rw [if_neg c, if_neg c]
def blm (φ a : Int) : Int := if φ = 0 then 1 + a else φ
theorem c_blame {b : Int} : m_X6_blame n 1 a b (tp σ p g φ) = some (0, tp σ p g (blm φ (8 * a + b))) := by
  simp only [m_X6_blame, b_X6_blame_19, mRd, mIf, mRet, mLet, mWr, tp_f, tp_up_f]
  unfold blm
  by_cases c : φ = 0
  · rw [if_neg (fun q => q c), if_pos c, Int.add_assoc]
  · rw [if_pos c, if_neg c]
theorem c_blameHere : m_X6_blameHere n 1 (tp σ p g φ) = some (0, tp σ p g (blm φ (8 * p))) := by
  simp only [m_X6_blameHere, mRd, mRet, tp_p, c_blame, Int.add_zero, mCall_s]
theorem c_pass (h : CV F N σ) : m_X6_pass n 1 (tp σ p g φ) = some (0, tp σ (if p < N then p + 1 else p) g φ) := by
  simp only [m_X6_pass, b_X6_pass_21, mRd, mIf, mRet, mLet, mWr, tp_p, tp_n, tp_up_p, h.1]
  by_cases c : p < N
  · rw [if_neg (by omega), if_pos c]
  · rw [if_pos (by omega), if_neg c]
theorem bt_is {q c : Int} (hc : 0 ≤ c) : bt F N q = c ↔ (q < N ∧ F q = c) := by
  unfold bt
  constructor
  · intro e; by_cases h : q < N
    · rw [if_pos h] at e; exact ⟨h, e⟩
    · rw [if_neg h] at e; omega
  · intro e; rw [if_pos e.1]; exact e.2
theorem c_takeByte (h : CV F N σ) (hp : 0 ≤ p) (ha : 0 ≤ a) (e : m_X6_takeByte n 1 a (tp σ p g φ) = some (r, σ')) : (byteIs F N (sk F N p) a = true ∧ r = 1 ∧ σ' = tp σ (sk F N p + 1) (sk F N p) φ) ∨ (byteIs F N (sk F N p) a = false ∧ r = 0 ∧ σ' = tp σ (sk F N p) (sk F N p) φ) := by
  unfold m_X6_takeByte at e
  obtain ⟨r1, s1, e1, e⟩ := mCall_el e
  obtain ⟨rfl, rfl⟩ := c_lbbm h hp e1
  rw [c_pass h, mCall_s] at e
  unfold byteIs
  by_cases c : bt F N (sk F N p) = a
  · rw [mIf_pos c] at e
    have c2 := (bt_is ha).mp c
    rw [if_pos c2.1] at e
    obtain ⟨rfl, rfl⟩ := some_el e
    exact Or.inl ⟨decide_eq_true c2, rfl, rfl⟩
  · rw [mIf_neg c] at e
    obtain ⟨rfl, rfl⟩ := some_el e
    exact Or.inr ⟨decide_eq_false (fun q => c ((bt_is ha).mpr q)), rfl, rfl⟩
theorem c_takeSemicolon (h : CV F N σ) (hp : 0 ≤ p) (e : m_X6_takeSemicolon n 1 (tp σ p g φ) = some (r, σ')) : (φ ≠ 0 ∧ r = 0 ∧ σ' = tp σ p g φ) ∨ (φ = 0 ∧ byteIs F N (sk F N p) 59 = true ∧ r = 1 ∧ σ' = tp σ (sk F N p + 1) (sk F N p) 0) ∨ (φ = 0 ∧ byteIs F N (sk F N p) 59 = false ∧ r = 0 ∧ σ' = tp σ (sk F N p) (sk F N p) (if sk F N p < N then 1 + 8 * sk F N p else 0)) := by
  unfold m_X6_takeSemicolon at e
  rw [c_isFaulty, mCall_s] at e
  by_cases c : φ = 0
  · subst c
    rw [if_pos rfl, mIf_pos rfl] at e
    obtain ⟨r1, s1, e1, e⟩ := mCall_el e
    have hq : 0 ≤ sk F N p := Int.le_trans hp sk_ge
    rcases c_takeByte h hp (by decide) e1 with ⟨h1, rfl, rfl⟩ | ⟨h1, rfl, rfl⟩
    · rw [mIf_neg (show ¬ (1 : Int) = 0 by decide)] at e
      obtain ⟨rfl, rfl⟩ := some_el e
      exact Or.inr (Or.inl ⟨rfl, h1, rfl, rfl⟩)
    · rw [mIf_pos rfl, c_look h hq, mCall_s] at e
      refine Or.inr (Or.inr ⟨rfl, h1, ?_⟩)
      unfold b_X6_takeSemicolon_32 at e
      by_cases c2 : sk F N p < N
      · have h0 := h.2.2 _ hq c2
        rw [mIf_neg (show ¬ bt F N (sk F N p) = -1 by unfold bt; rw [if_pos c2]; omega), c_blameHere, mCall_s] at e
        rw [if_pos c2]
        obtain ⟨rfl, rfl⟩ := some_el e
        exact ⟨rfl, by unfold blm; rw [if_pos rfl]⟩
      · rw [mIf_pos (show bt F N (sk F N p) = -1 by unfold bt; rw [if_neg c2])] at e
        rw [if_neg c2]
        obtain ⟨rfl, rfl⟩ := some_el e
        exact ⟨rfl, rfl⟩
  · rw [if_neg c, mIf_neg (show ¬ (1 : Int) = 0 by decide)] at e
    obtain ⟨rfl, rfl⟩ := some_el e
    exact Or.inl ⟨c, rfl, rfl⟩
theorem c_endOfWord0 (h : CV F N σ) : ∀ (n : Nat) (a : Int), 0 ≤ a → j_X6_endOfWord 1 n 5 [a] (tp σ p g φ) = some (r, σ') → r = wd F N a ∧ σ' = tp σ p g φ := by
  intro n
  induction n with
  | zero => intro a ha e; exact none_el e
  | succ n ih =>
    intro a ha e
    rw [e_X6_endOfWord_5] at e
    simp only [b_X6_endOfWord_5, b_X6_endOfWord_41, mRd, mIf, mRet, mLet, tp_n, tp_b, h.1] at e
    by_cases c : a < N
    · rw [if_neg (show ¬ N ≤ a by omega), h.2.1 a ha c] at e
      by_cases c2 : 97 ≤ F a ∧ F a ≤ 122
      · rw [if_neg (by omega), if_neg (by omega)] at e
        rw [show wd F N a = wd F N (a + 1) from runE_go c (decide_eq_true c2)]
        exact ih (a + 1) (by omega) e
      · have hs : wd F N a = a := runE_stop (fun q => c2 (of_decide_eq_true q.2))
        rw [hs]
        by_cases c3 : F a < 97
        · rw [if_pos c3] at e; exact some_el e
        · rw [if_neg c3, if_pos (by omega)] at e; exact some_el e
    · rw [if_pos (show N ≤ a by omega)] at e
      rw [show wd F N a = a from runE_stop (fun q => c q.1)]
      exact some_el e
theorem c_endOfWord (h : CV F N σ) (hp : 0 ≤ p) (e : m_X6_endOfWord n 1 (tp σ p g φ) = some (r, σ')) : r = wd F N p ∧ σ' = tp σ p g φ := by
  simp only [m_X6_endOfWord, mRd, tp_p] at e
  exact c_endOfWord0 h n p hp e
theorem c_isDigit : m_X6_isDigit n a σ = some (if 48 ≤ a ∧ a ≤ 57 then 1 else 0, σ) := by
  simp only [m_X6_isDigit, b_X6_isDigit_16, mIf, mRet]
  by_cases c : 48 ≤ a ∧ a ≤ 57
  · rw [if_neg (by omega), if_neg (by omega), if_pos c]
  · rw [if_neg c]
    by_cases c2 : a < 48
    · rw [if_pos c2]
    · rw [if_neg c2, if_pos (by omega)]
end
/-! the constant texts -/
def txt : Nat → List Int
  | 0 => [99, 111, 114, 110, 101, 114, 115, 32, 115, 116, 114, 101, 101, 116, 32, 115, 97, 105, 110, 116, 32, 108, 105, 102, 116, 32]
  | 2 => [103, 111, 32, 97, 115, 105, 100, 101, 32, 97, 115, 107, 32, 119, 97, 105, 116, 32]
  | 3 => [105, 102]
  | 4 => [110, 111, 116]
  | 5 => [104, 111, 117, 114, 32, 100, 97, 121, 32, 100, 97, 116, 101, 32, 99, 111, 114, 110, 101, 114, 32, 103, 111, 97, 108, 32, 115, 104, 117, 116, 32, 108, 101, 102, 116, 32, 115, 116, 101, 112, 115, 32, 97, 115, 107, 101, 100, 32, 99, 97, 109, 101, 32]
  | 6 => [97, 110, 100]
  | 7 => [111, 114]
  | _ => []
def txk (k : Nat) : Bool := k == 0 || k == 2 || k == 3 || k == 4 || k == 5 || k == 6 || k == 7
theorem lnS_t : ∀ k : Nat, k < 8 → txk k = true → lnS k = ((txt k).length : Int) := by decide +kernel
theorem chS_t0 : ∀ k : Nat, k < 8 → txk k = true → ∀ i : Nat, i < (txt k).length → chS k (i : Int) = (txt k).getD i 0 := by decide +kernel
theorem chS_t {k : Nat} (hk : k < 8) (ht : txk k = true) {i : Int} (h0 : 0 ≤ i) (h1 : i < ((txt k).length : Int)) : chS k i = (txt k).getD i.toNat 0 := by
  have h := chS_t0 k hk ht i.toNat (by omega)
  rw [← h]; congr 1; omega
theorem drop_cons {l : List Int} {i : Nat} (h : i < l.length) : l.drop i = l.getD i 0 :: l.drop (i + 1) := by
  rw [List.drop_eq_getElem_cons h, List.getD_eq_getElem?_getD, List.getElem?_eq_getElem h]; rfl
section
variable {F : Int → Int} {N : Int} {σ σ' : SS} {p g φ r a : Int} {n : Nat}
theorem wEq_cons {f : Int → Int} {q c : Int} {W : List Int} : wEq f q (c :: W) = (decide (f q = c) && wEq f (q + 1) W) := rfl
theorem c_takeWord0 (h : CV F N σ) {k : Nat} (hk : k < 8) (ht : txk k = true) (hp : 0 ≤ p) {e0 : Int} (hN : e0 ≤ N) (he : e0 = p + ((txt k).length : Int)) : ∀ (n : Nat) (i : Int), 0 ≤ i → i ≤ ((txt k).length : Int) → j_X6_takeWord 1 k n 27 [e0, i] (tp σ p g φ) = some (r, σ') → (wEq F (p + i) ((txt k).drop i.toNat) = true ∧ r = 1 ∧ σ' = tp σ e0 g φ) ∨ (wEq F (p + i) ((txt k).drop i.toNat) = false ∧ r = 0 ∧ σ' = tp σ p g φ) := by
  intro n
  induction n with
  | zero => intro i h0 h1 e; exact none_el e
  | succ n ih =>
    intro i h0 h1 e
    rw [e_X6_takeWord_27] at e
    simp only [b_X6_takeWord_27, mRd, mIf, mRet, mWr, mLet, tp_p, tp_b, tp_up_p, lnS_t k hk ht] at e
    by_cases c : i < ((txt k).length : Int)
    · rw [if_neg (by omega), h.2.1 (p + i) (by omega) (by omega), chS_t hk ht h0 c] at e
      rw [drop_cons (show i.toNat < (txt k).length by omega), wEq_cons]
      by_cases c2 : F (p + i) = (txt k).getD i.toNat 0
      · rw [if_pos c2] at e
        have h2 := ih (i + 1) (by omega) (by omega) e
        rw [show p + (i + 1) = p + i + 1 by omega, show (i + 1).toNat = i.toNat + 1 by omega] at h2
        rw [decide_eq_true c2, Bool.true_and]
        exact h2
      · rw [if_neg c2] at e
        rw [decide_eq_false c2, Bool.false_and]
        obtain ⟨rfl, rfl⟩ := some_el e
        exact Or.inr ⟨rfl, rfl, rfl⟩
    · rw [if_pos (by omega)] at e
      rw [List.drop_eq_nil_of_le (by omega)]
      obtain ⟨rfl, rfl⟩ := some_el e
      exact Or.inl ⟨rfl, rfl, rfl⟩
theorem sk_ub (h : p ≤ N) : sk F N p ≤ N := runE_ub h
theorem wd_ub (h : p ≤ N) : wd F N p ≤ N := runE_ub h
theorem dg_ub (h : p ≤ N) : dg F N p ≤ N := runE_ub h
theorem c_takeWord (h : CV F N σ) {k : Nat} (hk : k < 8) (ht : txk k = true) (hp : 0 ≤ p) (hN : p ≤ N) (e : m_X6_takeWord n 1 k (tp σ p g φ) = some (r, σ')) : (isWd F N (sk F N p) (txt k) = true ∧ r = 1 ∧ σ' = tp σ (wd F N (sk F N p)) (sk F N p) φ) ∨ (isWd F N (sk F N p) (txt k) = false ∧ r = 0 ∧ σ' = tp σ (sk F N p) (sk F N p) φ) := by
  unfold m_X6_takeWord at e
  have hq : 0 ≤ sk F N p := Int.le_trans hp sk_ge
  have hqN : sk F N p ≤ N := sk_ub hN
  obtain ⟨r1, s1, e1, e⟩ := mCall_el e
  obtain ⟨rfl, rfl⟩ := c_lbbm h hp e1
  obtain ⟨r2, s2, e2, e⟩ := mCall_el e
  obtain ⟨rfl, rfl⟩ := c_endOfWord h hq e2
  simp only [mRd, mLet, mIf, mRet, tp_p, lnS_t k hk ht] at e
  unfold isWd
  by_cases c : wd F N (sk F N p) - sk F N p = ((txt k).length : Int)
  · rw [if_pos c] at e
    rw [decide_eq_true (show wd F N (sk F N p) = sk F N p + ((txt k).length : Int) by omega), Bool.true_and]
    have h2 := c_takeWord0 h hk ht hq (wd_ub hqN) (by omega) n 0 (by decide) (by omega) e
    rw [Int.add_zero, show (0 : Int).toNat = 0 from rfl, List.drop_zero] at h2
    exact h2
  · rw [if_neg c] at e
    rw [decide_eq_false (show ¬ wd F N (sk F N p) = sk F N p + ((txt k).length : Int) by omega), Bool.false_and]
    obtain ⟨rfl, rfl⟩ := some_el e
    exact Or.inr ⟨rfl, rfl, rfl⟩
def bl (b : Bool) : Int := if b then 1 else 0
theorem scan_sp {f : Int → Int} {e p : Int} {T : List Int} {num a : Int} {al : Bool} : scan f e p (32 :: T) num a al = if al = true ∧ a = e then num else scan f e p T (num + 1) p true := if_pos rfl
theorem scan_ch {f : Int → Int} {e p c : Int} {T : List Int} {num a : Int} {al : Bool} (h : c ≠ 32) : scan f e p (c :: T) num a al = scan f e p T num (a + 1) (al && decide (a < e) && decide (f a = c)) := if_neg h
theorem c_readWord0 (h : CV F N σ) {k : Nat} (hk : k < 8) (ht : txk k = true) (hp : 0 ≤ p) {e0 : Int} (hN : e0 ≤ N) : ∀ (n : Nat) (i num a : Int) (al : Bool), 0 ≤ i → i ≤ ((txt k).length : Int) → 0 ≤ a → 0 ≤ num → j_X6_readWord 1 k n 24 [e0, num, a, bl al, i] (tp σ p g φ) = some (r, σ') → (r = scan F e0 p ((txt k).drop i.toNat) num a al ∧ 0 ≤ r ∧ σ' = tp σ e0 g φ) ∨ (r = -1 ∧ scan F e0 p ((txt k).drop i.toNat) num a al = -1 ∧ σ' = tp σ p g (blm φ (8 * g))) := by
  intro n
  induction n with
  | zero => intro i num a al h0 h1 ha hn e; exact none_el e
  | succ n ih =>
    intro i num a al h0 h1 ha hn e
    rw [e_X6_readWord_24] at e
    simp only [b_X6_readWord_24, b_X6_readWord_102, b_X6_readWord_75, b_X6_readWord_114, mRd, mRet, mWr, mLet, tp_p, tp_b, tp_g, tp_up_p, lnS_t k hk ht, c_blame, mCall_s] at e
    by_cases c : i < ((txt k).length : Int)
    · rw [mIf_neg (by omega), chS_t hk ht h0 c] at e
      rw [drop_cons (show i.toNat < (txt k).length by omega)]
      have hi : (i + 1).toNat = i.toNat + 1 := by omega
      by_cases c2 : (txt k).getD i.toNat 0 = 32
      · rw [mIf_pos c2] at e
        rw [c2, scan_sp]
        cases al with
        | false =>
          rw [mIf_pos (show bl false = 0 from rfl)] at e
          rw [if_neg (fun q => by cases q.1)]
          have h2 := ih (i + 1) (num + 1) p true (by omega) (by omega) hp (by omega) e
          rw [hi] at h2; exact h2
        | true =>
          rw [mIf_neg (show ¬ bl true = 0 by decide)] at e
          by_cases c3 : a = e0
          · rw [mIf_neg (fun q => q c3)] at e
            rw [if_pos ⟨rfl, c3⟩]
            obtain ⟨rfl, rfl⟩ := some_el e
            exact Or.inl ⟨rfl, hn, rfl⟩
          · rw [mIf_pos c3] at e
            rw [if_neg (fun q => c3 q.2)]
            have h2 := ih (i + 1) (num + 1) p true (by omega) (by omega) hp (by omega) e
            rw [hi] at h2; exact h2
      · rw [mIf_neg c2] at e
        rw [scan_ch c2]
        have go : ∀ b : Bool, j_X6_readWord 1 k n 24 [e0, num, a + 1, bl b, i + 1] (tp σ p g φ) = some (r, σ') → (r = scan F e0 p ((txt k).drop (i.toNat + 1)) num (a + 1) b ∧ 0 ≤ r ∧ σ' = tp σ e0 g φ) ∨ (r = -1 ∧ scan F e0 p ((txt k).drop (i.toNat + 1)) num (a + 1) b = -1 ∧ σ' = tp σ p g (blm φ (8 * g))) := by
          intro b eb
          have h2 := ih (i + 1) num (a + 1) b (by omega) (by omega) (by omega) hn eb
          rw [hi] at h2; exact h2
        cases al with
        | false =>
          rw [mIf_pos (show bl false = 0 from rfl)] at e
          rw [Bool.false_and, Bool.false_and]
          exact go false e
        | true =>
          rw [mIf_neg (show ¬ bl true = 0 by decide)] at e
          by_cases c3 : a < e0
          · rw [mIf_neg (by omega), h.2.1 a ha (by omega)] at e
            rw [decide_eq_true c3, Bool.true_and, Bool.true_and]
            by_cases c4 : F a = (txt k).getD i.toNat 0
            · rw [mIf_neg (fun q => q c4)] at e
              rw [decide_eq_true c4]
              exact go true e
            · rw [mIf_pos c4] at e
              rw [decide_eq_false c4]
              exact go false e
          · rw [mIf_pos (by omega)] at e
            rw [decide_eq_false c3, Bool.true_and, Bool.false_and]
            exact go false e
    · rw [mIf_pos (by omega)] at e
      rw [List.drop_eq_nil_of_le (by omega)]
      obtain ⟨rfl, rfl⟩ := some_el e
      refine Or.inr ⟨rfl, rfl, ?_⟩
      rw [Int.add_zero]
/-- a list of words: where each begins -/
def wls : Nat → List (List Int)
  | 0 => [[99, 111, 114, 110, 101, 114, 115], [115, 116, 114, 101, 101, 116], [115, 97, 105, 110, 116], [108, 105, 102, 116]]
  | 2 => wDeeds
  | 5 => wVals
  | _ => []
theorem wls_enc : txt 0 = enc (wls 0) ∧ txt 2 = enc (wls 2) ∧ txt 5 = enc (wls 5) := by decide
theorem wls_sp : ∀ k : Nat, k < 8 → ∀ W ∈ wls k, ∀ c ∈ W, c ≠ 32 := by decide
theorem c_readWord (h : CV F N σ) {k : Nat} (hk : k < 8) (ht : txk k = true) (he : txt k = enc (wls k)) (hp : 0 ≤ p) (hN : p ≤ N) (e : m_X6_readWord n 1 k (tp σ p g φ) = some (r, σ')) : (r = idxW F (wd F N (sk F N p)) (sk F N p) (wls k) 0 ∧ 0 ≤ r ∧ σ' = tp σ (wd F N (sk F N p)) (sk F N p) φ) ∨ (r = -1 ∧ idxW F (wd F N (sk F N p)) (sk F N p) (wls k) 0 = -1 ∧ σ' = tp σ (sk F N p) (sk F N p) (blm φ (8 * sk F N p))) := by
  unfold m_X6_readWord at e
  have hq : 0 ≤ sk F N p := Int.le_trans hp sk_ge
  have hqN : sk F N p ≤ N := sk_ub hN
  obtain ⟨r1, s1, e1, e⟩ := mCall_el e
  obtain ⟨rfl, rfl⟩ := c_lbbm h hp e1
  obtain ⟨r2, s2, e2, e⟩ := mCall_el e
  obtain ⟨rfl, rfl⟩ := c_endOfWord h hq e2
  simp only [mRd, tp_p] at e
  have h2 := c_readWord0 h hk ht hq (wd_ub hqN) n 0 0 (sk F N p) true (by decide) (by omega) hq (by decide) e
  rw [show (0 : Int).toNat = 0 from rfl, List.drop_zero, he, scan_enc (wls k) (wls_sp k hk)] at h2
  exact h2
end
/-! numbers off the TAPE -/
theorem i32_of {a : Int} (h1 : -2147483648 ≤ a) (h2 : a ≤ 2147483647) : (Int32.ofInt a).toInt = a := by
  rw [Int32.toInt_ofInt]
  show a.bmod 4294967296 = a
  rw [Int.bmod_def]
  split <;> omega
theorem mAdd_x {a b : Int} (h1 : -2147483648 ≤ a) (h2 : a ≤ 2147483647) (h3 : -2147483648 ≤ b) (h4 : b ≤ 2147483647) (h5 : -2147483648 ≤ a + b) (h6 : a + b ≤ 2147483647) : mAdd a b = a + b := by
  show (Int32.ofInt a + Int32.ofInt b).toInt = a + b
  rw [wk_add (by rw [i32_of h1 h2, i32_of h3 h4]; exact h5) (by rw [i32_of h1 h2, i32_of h3 h4]; exact h6), i32_of h1 h2, i32_of h3 h4]
theorem mSub_x {a b : Int} (h1 : -2147483648 ≤ a) (h2 : a ≤ 2147483647) (h3 : -2147483648 ≤ b) (h4 : b ≤ 2147483647) (h5 : -2147483648 ≤ a - b) (h6 : a - b ≤ 2147483647) : mSub a b = a - b := by
  show (Int32.ofInt a - Int32.ofInt b).toInt = a - b
  rw [wk_sub (by rw [i32_of h1 h2, i32_of h3 h4]; exact h5) (by rw [i32_of h1 h2, i32_of h3 h4]; exact h6), i32_of h1 h2, i32_of h3 h4]
theorem mMul_x {a b : Int} (h1 : -2147483648 ≤ a) (h2 : a ≤ 2147483647) (h3 : -2147483648 ≤ b) (h4 : b ≤ 2147483647) (h5 : -2147483648 ≤ a * b) (h6 : a * b ≤ 2147483647) : mMul a b = a * b := by
  show (Int32.ofInt a * Int32.ofInt b).toInt = a * b
  rw [wk_mul (by rw [i32_of h1 h2, i32_of h3 h4]; exact h5) (by rw [i32_of h1 h2, i32_of h3 h4]; exact h6), i32_of h1 h2, i32_of h3 h4]
/-- the value of the digits from q on that count -/
def nv (F : Int → Int) (N q : Int) : Int := hv F q (min 5 (dg F N q - q)).toNat
def nJ (d v : Int) : Prop := 0 ≤ v ∧ v ≤ 99999 ∧ (d = 0 → v = 0) ∧ (d = 1 → v ≤ 9) ∧ (d = 2 → v ≤ 99) ∧ (d = 3 → v ≤ 999) ∧ (d = 4 → v ≤ 9999)
theorem nJ_step {d v x : Int} (h : nJ d v) (h0 : 0 ≤ d) (h1 : d < 5) (h2 : 48 ≤ x) (h3 : x ≤ 57) : nJ (d + 1) (v * 10 + (x - 48)) := by
  obtain ⟨a, b, c1, c2, c3, c4, c5⟩ := h
  have hd : d = 0 ∨ d = 1 ∨ d = 2 ∨ d = 3 ∨ d = 4 := by omega
  rcases hd with rfl | rfl | rfl | rfl | rfl
  · have := c1 rfl; exact ⟨by omega, by omega, by omega, by omega, by omega, by omega, by omega⟩
  · have := c2 rfl; exact ⟨by omega, by omega, by omega, by omega, by omega, by omega, by omega⟩
  · have := c3 rfl; exact ⟨by omega, by omega, by omega, by omega, by omega, by omega, by omega⟩
  · have := c4 rfl; exact ⟨by omega, by omega, by omega, by omega, by omega, by omega, by omega⟩
  · have := c5 rfl; exact ⟨by omega, by omega, by omega, by omega, by omega, by omega, by omega⟩
theorem nJ_more {d d' v : Int} (h : nJ d v) (h0 : 5 ≤ d') : nJ d' v := ⟨h.1, h.2.1, by omega, by omega, by omega, by omega, by omega⟩
theorem hv_succ {F : Int → Int} {q : Int} {k : Nat} : hv F q (k + 1) = hv F q k * 10 + (F (q + k) - 48) := rfl
theorem dg_go {F : Int → Int} {N p : Int} (h : p < N) (h2 : 48 ≤ F p ∧ F p ≤ 57) : dg F N p = dg F N (p + 1) := runE_go h (decide_eq_true h2)
theorem dg_stop {F : Int → Int} {N p : Int} (h : ¬ (p < N ∧ 48 ≤ F p ∧ F p ≤ 57)) : dg F N p = p := runE_stop (fun q => h ⟨q.1, of_decide_eq_true q.2⟩)
/-- one more digit -/
theorem nv_step {F : Int → Int} {q p v : Int} (hq : q ≤ p) (hv0 : v = hv F q (min 5 (p - q)).toNat) (hd : p - q < 5) : v * 10 + (F p - 48) = hv F q (min 5 (p + 1 - q)).toNat := by
  have e1 : (min 5 (p - q)).toNat = (p - q).toNat := by omega
  have e2 : (min 5 (p + 1 - q)).toNat = (p - q).toNat + 1 := by omega
  rw [e2, hv_succ, show q + ((p - q).toNat : Int) = p by omega, hv0, e1]
theorem nv_stay {F : Int → Int} {q p v : Int} (hv0 : v = hv F q (min 5 (p - q)).toNat) (hd : 5 ≤ p - q) : v = hv F q (min 5 (p + 1 - q)).toNat := by
  rw [hv0]; congr 1; omega
section
variable {F : Int → Int} {N : Int} {σ σ' : SS} {p g φ r a : Int} {n : Nat}
theorem c_readNumber0 (h : CV F N σ) {q lo hi : Int} (hq : 0 ≤ q) : ∀ (n : Nat) (p v : Int), q ≤ p → v = hv F q (min 5 (p - q)).toNat → nJ (p - q) v → dg F N q = dg F N p → j_X6_readNumber 1 n 32 [lo, hi, v] (tp σ p q 0) = some (r, σ') → nJ (dg F N q - q) (nv F N q) ∧ ((5 < dg F N q - q ∨ nv F N q < lo ∨ hi < nv F N q) ∧ r = -1 ∧ σ' = tp σ (dg F N q) q (1 + 8 * q + 1) ∨ (¬ 5 < dg F N q - q ∧ lo ≤ nv F N q ∧ nv F N q ≤ hi) ∧ r = nv F N q ∧ σ' = tp σ (dg F N q) q 0) := by
  intro n
  induction n with
  | zero => intro p v h1 h2 h3 h4 e; exact none_el e
  | succ n ih =>
    intro p v h1 h2 h3 h4 e
    rw [e_X6_readNumber_32] at e
    simp only [b_X6_readNumber_32, b_X6_readNumber_89, b_X6_readNumber_102, b_X6_readNumber_125, mRd, mRet, mWr, mLet, mCall_s, tp_p, tp_b, tp_g, tp_n, tp_up_p, c_blame, c_isDigit, h.1] at e
    have fin : ¬ (p < N ∧ 48 ≤ F p ∧ F p ≤ 57) → mIf (5 < p - q) (some (-1, tp σ p q (blm 0 (8 * q + 1)))) (mIf (v < lo) (some (-1, tp σ p q (blm 0 (8 * q + 1)))) (mIf (v ≤ hi) (some (v, tp σ p q 0)) (some (-1, tp σ p q (blm 0 (8 * q + 1)))))) = some (r, σ') → nJ (dg F N q - q) (nv F N q) ∧ ((5 < dg F N q - q ∨ nv F N q < lo ∨ hi < nv F N q) ∧ r = -1 ∧ σ' = tp σ (dg F N q) q (1 + 8 * q + 1) ∨ (¬ 5 < dg F N q - q ∧ lo ≤ nv F N q ∧ nv F N q ≤ hi) ∧ r = nv F N q ∧ σ' = tp σ (dg F N q) q 0) := by
      intro hs e
      have ed : dg F N q = p := h4.trans (dg_stop hs)
      have ev : nv F N q = v := by unfold nv; rw [ed]; exact h2.symm
      have eb : blm 0 (8 * q + 1) = 1 + 8 * q + 1 := by unfold blm; rw [if_pos rfl]; omega
      rw [ed, ev]
      rw [eb] at e
      refine ⟨h3, ?_⟩
      by_cases c1 : 5 < p - q
      · rw [mIf_pos c1] at e
        obtain ⟨rfl, rfl⟩ := some_el e
        exact Or.inl ⟨Or.inl c1, rfl, rfl⟩
      · rw [mIf_neg c1] at e
        by_cases c2 : v < lo
        · rw [mIf_pos c2] at e
          obtain ⟨rfl, rfl⟩ := some_el e
          exact Or.inl ⟨Or.inr (Or.inl c2), rfl, rfl⟩
        · rw [mIf_neg c2] at e
          by_cases c3 : v ≤ hi
          · rw [mIf_pos c3] at e
            obtain ⟨rfl, rfl⟩ := some_el e
            exact Or.inr ⟨⟨c1, by omega, c3⟩, rfl, rfl⟩
          · rw [mIf_neg c3] at e
            obtain ⟨rfl, rfl⟩ := some_el e
            exact Or.inl ⟨Or.inr (Or.inr (by omega)), rfl, rfl⟩
    by_cases c : p < N
    · rw [mIf_neg (by omega), h.2.1 p (by omega) c] at e
      by_cases c2 : 48 ≤ F p ∧ F p ≤ 57
      · rw [if_pos c2, mIf_neg (show ¬ (1 : Int) = 0 by decide)] at e
        have hN : dg F N q = dg F N (p + 1) := h4.trans (dg_go c c2)
        by_cases c3 : p - q < 5
        · rw [mIf_neg (by omega)] at e
          obtain ⟨b1, b2, -⟩ := id h3
          rw [mMul_x (by omega) (by omega) (by decide) (by decide) (by omega) (by omega), mAdd_x (by omega) (by omega) (by omega) (by omega) (by omega) (by omega), mSub_x (by omega) (by omega) (by decide) (by decide) (by omega) (by omega), show v * 10 + F p - 48 = v * 10 + (F p - 48) by omega] at e
          have h5 := nJ_step (x := F p) h3 (by omega) c3 c2.1 c2.2
          rw [show p - q + 1 = p + 1 - q by omega] at h5
          exact ih (p + 1) _ (by omega) (nv_step h1 h2 c3) h5 hN e
        · rw [mIf_pos (by omega)] at e
          exact ih (p + 1) v (by omega) (nv_stay h2 (by omega)) (nJ_more h3 (by omega)) hN e
      · rw [if_neg c2, mIf_pos rfl] at e
        exact fin (fun q => c2 q.2) e
    · rw [mIf_pos (by omega)] at e
      exact fin (fun q => c q.1) e
theorem c_readNumberF {lo hi : Int} (hf : φ ≠ 0) (e : m_X6_readNumber n 1 lo hi (tp σ p g φ) = some (r, σ')) : r = -1 ∧ σ' = tp σ p g φ := by
  unfold m_X6_readNumber at e
  rw [c_isFaulty, if_neg hf, mCall_s, mIf_neg (show ¬ (1 : Int) = 0 by decide)] at e
  exact some_el e
theorem c_readNumber (h : CV F N σ) {lo hi : Int} (hp : 0 ≤ p) (hN : p ≤ N) (e : m_X6_readNumber n 1 lo hi (tp σ p g 0) = some (r, σ')) : (¬ (sk F N p < N ∧ isDg F (sk F N p) = true) ∧ r = -1 ∧ σ' = tp σ (sk F N p) (sk F N p) (1 + 8 * sk F N p)) ∨ ((sk F N p < N ∧ isDg F (sk F N p) = true) ∧ nJ (dg F N (sk F N p) - sk F N p) (nv F N (sk F N p)) ∧ ((5 < dg F N (sk F N p) - sk F N p ∨ nv F N (sk F N p) < lo ∨ hi < nv F N (sk F N p)) ∧ r = -1 ∧ σ' = tp σ (dg F N (sk F N p)) (sk F N p) (1 + 8 * sk F N p + 1) ∨ (¬ 5 < dg F N (sk F N p) - sk F N p ∧ lo ≤ nv F N (sk F N p) ∧ nv F N (sk F N p) ≤ hi) ∧ r = nv F N (sk F N p) ∧ σ' = tp σ (dg F N (sk F N p)) (sk F N p) 0)) := by
  unfold m_X6_readNumber at e
  have hq : 0 ≤ sk F N p := Int.le_trans hp sk_ge
  rw [c_isFaulty, if_pos rfl, mCall_s, mIf_pos rfl] at e
  obtain ⟨r1, s1, e1, e⟩ := mCall_el e
  obtain ⟨rfl, rfl⟩ := c_lbbm h hp e1
  rw [c_isDigit, mCall_s] at e
  by_cases c : sk F N p < N ∧ isDg F (sk F N p) = true
  · have c2 : 48 ≤ F (sk F N p) ∧ F (sk F N p) ≤ 57 := of_decide_eq_true c.2
    rw [show bt F N (sk F N p) = F (sk F N p) from if_pos c.1, if_pos c2, mIf_pos (show ¬ (1 : Int) = 0 by decide)] at e
    refine Or.inr ⟨c, ?_⟩
    exact c_readNumber0 h hq n (sk F N p) 0 (Int.le_refl _) (by rw [Int.sub_self]; rfl) ⟨by decide, by decide, by omega, by omega, by omega, by omega, by omega⟩ rfl e
  · have c2 : ¬ (48 ≤ bt F N (sk F N p) ∧ bt F N (sk F N p) ≤ 57) := by
      intro q
      by_cases c3 : sk F N p < N
      · rw [show bt F N (sk F N p) = F (sk F N p) from if_pos c3] at q; exact c ⟨c3, decide_eq_true q⟩
      · rw [show bt F N (sk F N p) = -1 from if_neg c3] at q; omega
    rw [if_neg c2, mIf_neg (fun q => q rfl)] at e
    rw [mRd_e, tp_g, c_blame, mCall_s] at e
    obtain ⟨rfl, rfl⟩ := some_el e
    exact Or.inl ⟨c, rfl, by unfold blm; rw [if_pos rfl, Int.add_zero]⟩
end
