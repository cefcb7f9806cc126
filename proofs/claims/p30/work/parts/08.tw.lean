/-! typed worlds: cells by their places, what each field and element may be -/
def ft0 : List (Nat × Int × Int × Nat) := [(3, 0, 0, 38), (3, 0, 0, 146), (3, 0, 0, 147), (3, 0, 0, 148)]
def ft1 : List (Nat × Int × Int × Nat) := [(3, 0, 0, 38), (3, 0, 0, 145), (3, 0, 0, 4), (3, 0, 0, 150), (0, 0, 64, 0), (0, (-1), 11, 0), (0, 0, 1, 0), (0, (-1), 11, 0), (0, (-2147483648), 2147483647, 0), (0, 0, 1, 0)]
def ft2 : List (Nat × Int × Int × Nat) := [(2, 0, 0, 1), (2, 0, 0, 2), (2, 0, 0, 3), (0, 0, 400, 0), (0, 0, 12, 0), (0, 0, 1, 0)]
def ft3 : List (Nat × Int × Int × Nat) := [(3, 0, 0, 1), (5, 0, 0, 0), (0, (-2147483648), 2147483647, 0)]
def ft4 : List (Nat × Int × Int × Nat) := [(3, 0, 0, 38), (3, 0, 0, 39), (3, 0, 0, 156), (3, 0, 0, 157)]
def ft5 : List (Nat × Int × Int × Nat) := [(2, 0, 0, 1), (2, 0, 0, 10), (2, 0, 0, 11), (2, 0, 0, 12), (2, 0, 0, 13), (2, 0, 0, 14), (2, 0, 0, 15), (2, 0, 0, 16), (0, 0, 4, 0), (0, 0, 4, 0), (0, 0, 6, 0), (0, 0, 12, 0), (0, 0, 8, 0), (0, 0, 2147483647, 0)]
def ft6 : List (Nat × Int × Int × Nat) := [(3, 0, 0, 2), (0, 0, 400, 0), (0, 0, 400, 0), (0, 0, 400, 0), (0, 0, 3205, 0)]
def ft7 : List (Nat × Int × Int × Nat) := [(2, 0, 0, 1), (2, 0, 0, 2), (2, 0, 0, 3), (2, 0, 0, 4), (2, 0, 0, 5), (2, 0, 0, 6), (2, 0, 0, 7), (2, 0, 0, 8), (0, (-1), 10, 0), (0, 0, 12, 0), (0, 0, 8, 0), (0, 0, 4, 0)]
def ft8 : List (Nat × Int × Int × Nat) := [(3, 0, 0, 38), (3, 0, 0, 145), (3, 0, 0, 149), (3, 0, 0, 152), (3, 0, 0, 153), (3, 0, 0, 154), (0, 0, 120, 0), (0, 0, 2147483647, 0)]
def ft9 : List (Nat × Int × Int × Nat) := [(0, 0, 9, 0), (0, 0, 9, 0), (0, 0, 3, 0), (0, (-2147483648), 2147483647, 0), (4, 0, 0, 0), (0, (-2147483648), 2147483647, 0), (0, (-2147483648), 2147483647, 0), (0, (-1), 9, 0), (1, (-9223372036854775808), 9223372036854775807, 0)]
def ft10 : List (Nat × Int × Int × Nat) := [(3, 0, 0, 38), (3, 0, 0, 39), (3, 0, 0, 159), (3, 0, 0, 160), (0, 0, 12, 0)]
def ft11 : List (Nat × Int × Int × Nat) := [(3, 0, 0, 1), (3, 0, 0, 29), (3, 0, 0, 4), (3, 0, 0, 3), (3, 0, 0, 38), (3, 0, 0, 59), (3, 0, 0, 144), (3, 0, 0, 145), (3, 0, 0, 149), (3, 0, 0, 151), (3, 0, 0, 155), (3, 0, 0, 158), (0, 0, 6, 0)]
def ft12 : List (Nat × Int × Int × Nat) := [(3, 0, 0, 1), (0, 0, 400, 0), (0, 0, 6, 0), (3, 0, 0, 2), (3, 0, 0, 3), (3, 0, 0, 4), (3, 0, 0, 5), (0, 0, 10, 0), (0, 0, 12, 0), (0, 0, 8, 0), (0, 0, 4, 0), (3, 0, 0, 6), (3, 0, 0, 7), (3, 0, 0, 8), (0, 0, 400, 0), (0, 0, 3205, 0), (0, (-2147483648), 2147483647, 0), (0, 0, 6, 0), (0, 0, 60, 0), (0, (-100), 10, 0), (0, 0, 32, 0), (3, 0, 0, 9), (0, 0, 400, 0), (3, 0, 0, 10), (0, 0, 64, 0), (3, 0, 0, 11), (3, 0, 0, 12), (0, 0, 1, 0), (3, 0, 0, 13), (3, 0, 0, 14), (0, 0, 1, 0), (0, (-1), 11, 0), (3, 0, 0, 15), (3, 0, 0, 16), (3, 0, 0, 17), (3, 0, 0, 18), (3, 0, 0, 19), (0, 0, 100000200, 0), (3, 0, 0, 20), (1, 0, 2147483648, 0), (3, 0, 0, 21), (3, 0, 0, 22)]
def ft (κ : Nat) : List (Nat × Int × Int × Nat) := ([ft0, ft1, ft2, ft3, ft4, ft5, ft6, ft7, ft8, ft9, ft10, ft11, ft12] : List (List (Nat × Int × Int × Nat))).getD κ []
def ak (κ : Nat) : Nat × Nat := ([(9, 0), (9, 0), (9, 0), (9, 0), (9, 0), (9, 0), (9, 0), (9, 0), (9, 0), (9, 0), (9, 0), (9, 0), (9, 0), (9, 0), (9, 0), (9, 0), (9, 0), (9, 0), (9, 0), (9, 0), (0, 400), (0, 12), (0, 13), (0, 400), (0, 26), (0, 13), (0, 91), (0, 13), (0, 26), (0, 8), (0, 8), (0, 13), (0, 48), (6, 4), (0, 6), (0, 6), (0, 12), (0, 12), (0, 8), (4, 6), (5, 4), (2, 4), (0, 1100), (0, 1100), (2, 11), (1, 64), (0, 301), (0, 2420), (0, 10), (2, 10), (0, 12), (0, 10), (9, 0), (9, 0), (9, 0), (9, 0), (9, 0), (9, 0), (9, 0), (9, 0), (3, 400), (0, 2400), (0, 7), (0, 216), (0, 6), (0, 120), (0, 16), (0, 12), (0, 400), (1, 64), (1, 10), (0, 296), (0, 12), (0, 10), (0, 296), (0, 301), (0, 2600), (0, 10), (2, 10), (2, 64), (0, 1184), (2, 4)] : List (Nat × Nat)).getD κ (9, 0)
def erU (κ : Nat) : Option (Int × Int) := ([none, none, none, none, none, none, none, none, none, none, none, none, none, none, none, none, none, none, none, none, some (0, 255), some ((-2147483648), 2147483647), some (0, 400), some ((-2147483648), 2147483647), some (0, 9), some (0, 9), some (0, 3), some ((-2147483648), 2147483647), some ((-2147483648), 2147483647), some ((-2147483648), 2147483647), some ((-2147483648), 2147483647), some ((-2147483648), 2147483647), some ((-2147483648), 2147483647), none, some (0, 9), some (0, 9), some (0, 11), some ((-2147483648), 2147483647), some ((-2147483648), 2147483647), none, none, some (0, 1), some (0, 1000000), some ((-1), 11), some (0, 1), none, some ((-2147483648), 2147483647), some (0, 1000000), some ((-1), 102119), some (0, 1), some (0, 11), some (0, 1023), none, none, none, none, none, none, none, none, some ((-128), 127), some ((-2147483648), 2147483647), some (0, 400), some ((-2147483648), 2147483647), some (0, 12), some (0, 9), some ((-2147483648), 2147483647), some ((-2147483648), 2147483647), some ((-2147483648), 2147483647), none, none, none, some ((-2147483648), 2147483647), some (0, 100000100), none, some ((-2147483648), 2147483647), some ((-2147483648), 2147483647), some (0, 100000100), some (0, 1), some (0, 1), none, some (0, 1)] : List (Option (Int × Int))).getD κ none
def rgl : List Int := [0, 0, 0, 0, 0, 0, 0, 0, 0, 0, 0, 0, 0, 0, 0, 0, 0, 0, 0, 0, 0, 0, 0, 0, 0, 0, 0, 0, 0, 0, 0, 0, 0, 0, 0, 0, 0, 0, 0, 0, 0, 0, 0, 0, 0, 0, 0, 0, 0, 0, 0, 0, 0, 0, 0, 0, 0, 0, 0, 0, 0, 0, 0, 0, 0, 0, 0, 0, 0, 0, 0, 0, 0, 0, 0, 0, 0, 0, 0, 0, 0, 0, 0, 0, 0, 0, 0, 0, 0, 0, 0, 0, 0, 0, 0, 0, 0, 0, 0, 0, 0, 0, 0, 0, 0, 0, 0, 0, 0, 0, 0, 0, 0, 0, 0, 0, 0, 0, 0, 0, 0, 0, 0, 0, 0, 0, 0, 0, 0, 0, 0, 0, 0, 0, 0, 0, 0, 0, 0, 0, -2147483648, -2147483648, -2147483648, -2147483648, -2147483648, -2147483648, -2147483648, -2147483648, -2147483648, -2147483648, -2147483648, -2147483648, -2147483648, -2147483648, -2147483648, -2147483648, -2147483648, -2147483648, -2147483648, -2147483648, -2147483648, -2147483648, -2147483648, -2147483648, -2147483648, -2147483648, -2147483648, -2147483648, -2147483648, -2147483648, -2147483648, -2147483648, -2147483648, -2147483648, -2147483648, -2147483648, -2147483648, -2147483648, -2147483648, -2147483648, -2147483648, -2147483648, -2147483648, -2147483648, -2147483648, -2147483648, -2147483648, -2147483648, -2147483648, -2147483648, -2147483648, -2147483648, -2147483648, -2147483648, -2147483648, -2147483648, -2147483648, -2147483648, -2147483648, -2147483648, -2147483648, -2147483648, -2147483648, -2147483648, -2147483648, -2147483648, -2147483648, -2147483648, -2147483648, -2147483648, -2147483648, -2147483648, -2147483648, -2147483648, -2147483648, -2147483648, 0, 0, 0, -1, 0, -2147483648, -2147483648, -1, -2147483648, 0, 0, 0, -1, 0, -2147483648, -2147483648, -1, -2147483648, 0, 0, 0, -1, 0, -2147483648, -2147483648, -1, -2147483648, 0, 0, 0, -1, 0, -2147483648, -2147483648, -1, -2147483648, 0, 0, 0, 0, 0, 0, 0, 0, 0, 0, 0, 0, 0, 0, 0, 0, 0, 0, 0, 0, 0, 0, 0, 0, 0, 0, 0, 0, 0, 0, 0, 0, 0, 0, 0, 0, -2147483648, -2147483648, -2147483648, -2147483648, -2147483648, -2147483648, -2147483648, -2147483648]
def rgh : List (Option (Option Int)) := [some (some 10), some none, some (some 8), some (some 4), some (some 4), some (some 4), some (some 6), some (some 12), some (some 8), some (some 2147483647), some (some 9), some (some 9), some (some 9), some (some 9), some (some 9), some (some 9), some (some 9), some (some 9), some (some 9), some (some 9), some (some 9), some (some 9), some (some 9), some (some 9), some (some 9), some (some 9), some (some 9), some (some 9), some (some 9), some (some 9), some (some 9), some (some 9), some (some 9), some (some 9), some (some 9), some (some 9), some (some 9), some (some 9), some (some 9), some (some 9), some (some 9), some (some 9), some (some 9), some (some 9), some (some 9), some (some 9), some (some 9), some (some 9), some (some 9), some (some 9), some (some 9), some (some 9), some (some 9), some (some 9), some (some 9), some (some 9), some (some 9), some (some 9), some (some 9), some (some 9), some (some 9), some (some 9), some (some 9), some (some 9), some (some 9), some (some 9), some (some 9), some (some 9), some (some 9), some (some 9), some (some 9), some (some 9), some (some 9), some (some 9), some (some 9), some (some 9), some (some 9), some (some 9), some (some 9), some (some 9), some (some 9), some (some 9), some (some 9), some (some 9), some (some 9), some (some 9), some (some 9), some (some 9), some (some 9), some (some 9), some (some 9), some (some 9), some (some 9), some (some 9), some (some 9), some (some 9), some (some 9), some (some 9), some (some 9), some (some 9), some (some 9), some (some 9), some (some 9), some (some 9), some (some 9), some (some 9), some (some 9), some (some 9), some (some 9), some (some 9), some (some 9), some (some 9), some (some 9), some (some 9), some (some 9), some (some 9), some (some 9), some (some 9), some (some 9), some (some 9), some (some 9), some (some 9), some (some 9), some (some 9), some (some 9), some (some 9), some (some 9), some (some 9), some (some 9), some (some 9), some (some 9), some (some 9), some (some 9), some (some 9), some (some 9), some (some 9), some (some 9), some (some 9), some (some 9), some (some 9), some (some 2147483647), some (some 2147483647), some (some 2147483647), some (some 2147483647), some (some 2147483647), some (some 2147483647), some (some 2147483647), some (some 2147483647), some (some 2147483647), some (some 2147483647), some (some 2147483647), some (some 2147483647), some (some 2147483647), some (some 2147483647), some (some 2147483647), some (some 2147483647), some (some 2147483647), some (some 2147483647), some (some 2147483647), some (some 2147483647), some (some 2147483647), some (some 2147483647), some (some 2147483647), some (some 2147483647), some (some 2147483647), some (some 2147483647), some (some 2147483647), some (some 2147483647), some (some 2147483647), some (some 2147483647), some (some 2147483647), some (some 2147483647), some (some 2147483647), some (some 2147483647), some (some 2147483647), some (some 2147483647), some (some 2147483647), some (some 2147483647), some (some 2147483647), some (some 2147483647), some (some 2147483647), some (some 2147483647), some (some 2147483647), some (some 2147483647), some (some 2147483647), some (some 2147483647), some (some 2147483647), some (some 2147483647), some (some 2147483647), some (some 2147483647), some (some 2147483647), some (some 2147483647), some (some 2147483647), some (some 2147483647), some (some 2147483647), some (some 2147483647), some (some 2147483647), some (some 2147483647), some (some 2147483647), some (some 2147483647), some (some 2147483647), some (some 2147483647), some (some 2147483647), some (some 2147483647), some (some 2147483647), some (some 2147483647), some (some 2147483647), some (some 2147483647), some (some 2147483647), some (some 2147483647), some (some 2147483647), some (some 2147483647), some (some 2147483647), some (some 2147483647), some (some 2147483647), some (some 2147483647), some (some 9), some (some 9), some (some 3), some (some 5), none, some (some 2147483647), some (some 2147483647), some (some 9), some (some 2147483647), some (some 9), some (some 9), some (some 3), some (some 5), none, some (some 2147483647), some (some 2147483647), some (some 9), some (some 2147483647), some (some 9), some (some 9), some (some 3), some (some 5), none, some (some 2147483647), some (some 2147483647), some (some 9), some (some 2147483647), some (some 9), some (some 9), some (some 3), some (some 5), none, some (some 2147483647), some (some 2147483647), some (some 9), some (some 2147483647), some (some 9), some (some 9), some (some 9), some (some 9), some (some 9), some (some 9), some (some 9), some (some 9), some (some 9), some (some 9), some (some 9), some (some 9), some (some 11), some (some 11), some (some 11), some (some 11), some (some 11), some (some 11), some (some 11), some (some 11), some (some 11), some (some 11), some (some 11), some (some 11), some (some 11), some (some 11), some (some 11), some (some 11), some (some 11), some (some 11), some (some 11), some (some 11), some (some 11), some (some 11), some (some 11), some (some 11), some (some 2147483647), some (some 2147483647), some (some 2147483647), some (some 2147483647), some (some 2147483647), some (some 2147483647), some (some 2147483647), some (some 2147483647)]
def el (κ q i : Nat) : Nat := if κ = 33 then q + 6 + i else if κ = 39 then 5 + 4 * i else 60 + 21 * i
def ksC : List Nat := [11, 6, 20, 3, 39, 2, 21, 22, 23, 2, 21, 22, 23, 2, 21, 22, 23, 2, 21, 22, 23, 2, 21, 22, 23, 2, 21, 22, 23, 7, 24, 25, 26, 27, 28, 29, 30, 31, 5, 7, 24, 25, 26, 27, 28, 29, 30, 31, 32, 33, 34, 35, 36, 37, 38, 9, 9, 9, 9, 40, 5, 7, 24, 25, 26, 27, 28, 29, 30, 31, 32, 33, 34, 35, 36, 37, 38, 9, 9, 9, 9, 5, 7, 24, 25, 26, 27, 28, 29, 30, 31, 32, 33, 34, 35, 36, 37, 38, 9, 9, 9, 9, 5, 7, 24, 25, 26, 27, 28, 29, 30, 31, 32, 33, 34, 35, 36, 37, 38, 9, 9, 9, 9, 5, 7, 24, 25, 26, 27, 28, 29, 30, 31, 32, 33, 34, 35, 36, 37, 38, 9, 9, 9, 9, 41, 0, 42, 43, 44, 1, 45, 8, 9, 46, 47, 4, 48, 49, 10, 50, 51]
def ksM : List Nat := [12, 60, 61, 62, 63, 64, 65, 66, 67, 68, 69, 70, 71, 72, 73, 74, 75, 76, 77, 78, 79, 80, 81]
def VO (ks : List Nat) (ad : Nat → Nat) (B : Int) (qr q : Nat) (t : Nat × Int × Int × Nat) (v : Value) : Prop := match t with
  | (0, lo, hi, _) => ∃ x : Int32, v = .int x ∧ lo ≤ x.toInt ∧ x.toInt ≤ hi
  | (1, lo, hi, _) => ∃ x : Int64, v = .long x ∧ lo ≤ x.toInt ∧ x.toInt ≤ hi
  | (2, _, _, o) => v = .ref (ad (q + o))
  | (3, _, _, o) => v = .ref (ad o)
  | (4, _, _, _) => ∃ x : Int64, v = .long x ∧ 0 ≤ x.toInt ∧ x.toInt ≤ B
  | _ => (qr = 0 ∧ v = .null) ∨ (v = .ref (ad qr) ∧ ks[qr]? = some 2)
def rhi (j : Nat) (B s1 : Int) : Int := match rgh.getD j (some (some 0)) with
  | none => B
  | some none => s1
  | some (some h) => h
def EI (κ i : Nat) (B s1 : Int) (x : Int32) : Prop := match erU κ with
  | some (lo, hi) => lo ≤ x.toInt ∧ x.toInt ≤ hi
  | none => rgl.getD (i % 296) 0 ≤ x.toInt ∧ x.toInt ≤ rhi (i % 296) B (if κ = 71 then s1 else 12)
/-- a world as its kinds say -/
def TW (ks : List Nat) (ad : Nat → Nat) (cy : Nat → ClassId) (B : Int) (qr : Nat) (s1 : Int) (ws : va_W) : Prop :=
  ws.length = ks.length ∧
  (∀ q κ : Nat, ks[q]? = some κ → κ < 20 → ∃ fs : List Value, ws[q]? = some (ad q, .inr (κ, fs)) ∧ fs.length = (ft κ).length ∧ ∀ (k : Nat) (t : Nat × Int × Int × Nat), (ft κ)[k]? = some t → ∃ v : Value, fs[k]? = some v ∧ VO ks ad B qr q t v) ∧
  (∀ q κ : Nat, ks[q]? = some κ → ((ak κ).1 = 0 ∨ (ak κ).1 = 2 ∨ (ak κ).1 = 3) → ∃ f : Nat → Int32, ws[q]? = some (ad q, .inl (cy (ak κ).1, (ak κ).2, .inl f)) ∧ ∀ i : Nat, i < (ak κ).2 → EI κ i B s1 (f i)) ∧
  (∀ q κ : Nat, ks[q]? = some κ → (ak κ).1 = 1 → ∃ f : Nat → Int64, ws[q]? = some (ad q, .inl (cy 1, (ak κ).2, .inr (.inl f)))) ∧
  (∀ q κ : Nat, ks[q]? = some κ → ((ak κ).1 = 4 ∨ (ak κ).1 = 5 ∨ (ak κ).1 = 6) → ∃ f : Nat → Option Nat, ws[q]? = some (ad q, .inl (cy (ak κ).1, (ak κ).2, .inr (.inr (.inr (.inr f))))) ∧ ∀ i : Nat, i < (ak κ).2 → f i = some (ad (el κ q i)))
def gv (ws : va_W) (q k : Nat) : Value := match ws[q]? with
  | some (_, .inr (_, fs)) => (fs[k]?).getD .null
  | some (_, .inl (_, _, .inl f)) => .int (f k)
  | some (_, .inl (_, _, .inr (.inl f))) => .long (f k)
  | _ => .null
def gi (ws : va_W) (q k : Nat) : Int32 := match gv ws q k with
  | .int x => x
  | _ => 0
def gl (ws : va_W) (q k : Nat) : Int64 := match gv ws q k with
  | .long x => x
  | _ => 0
/-- nothing but one place changed -/
def F1 (ws ws1 : va_W) (q k : Nat) : Prop := ∀ q' k' : Nat, (q' ≠ q ∨ k' ≠ k) → gv ws1 q' k' = gv ws q' k'
def inE (E : List (Nat × Nat × Nat)) (κ k : Nat) : Bool := E.any (fun e => e.1 == κ && Nat.ble e.2.1 k && Nat.ble k e.2.2)
def inR (E : List (Nat × Nat × Nat)) (κ a b : Nat) : Bool := E.any (fun e => e.1 == κ && Nat.ble e.2.1 a && Nat.ble b e.2.2)
def subE (E E' : List (Nat × Nat × Nat)) : Bool := E.all (fun e => inR E' e.1 e.2.1 e.2.2)
/-- what changed stands among E -/
def FE (ks : List Nat) (E : List (Nat × Nat × Nat)) (ws ws1 : va_W) : Prop := ∀ q κ k : Nat, ks[q]? = some κ → inE E κ k = false → gv ws1 q k = gv ws q k
theorem inE_of {E : List (Nat × Nat × Nat)} {κ a b k : Nat} (h : inR E κ a b = true) (h1 : a ≤ k) (h2 : k ≤ b) : inE E κ k = true := by
  simp only [inR, inE, List.any_eq_true, Bool.and_eq_true, beq_iff_eq, Nat.ble_eq] at h ⊢
  obtain ⟨e, he, ⟨h3, h4⟩, h5⟩ := h
  exact ⟨e, he, ⟨h3, Nat.le_trans h4 h1⟩, Nat.le_trans h2 h5⟩
theorem inE_sub {E E' : List (Nat × Nat × Nat)} {κ k : Nat} (hs : subE E E' = true) (h : inE E' κ k = false) : inE E κ k = false := by
  cases hb : inE E κ k with
  | false => rfl
  | true =>
    rw [← h]
    simp only [inE, List.any_eq_true, Bool.and_eq_true, beq_iff_eq, Nat.ble_eq] at hb
    obtain ⟨e, he, ⟨h3, h4⟩, h5⟩ := hb
    simp only [subE, List.all_eq_true] at hs
    have h6 := hs e he
    rw [h3] at h6
    exact (inE_of h6 h4 h5).symm
theorem FE.rf {ks : List Nat} {E : List (Nat × Nat × Nat)} {ws : va_W} : FE ks E ws ws := fun _ _ _ _ _ => rfl
theorem FE.put {ks : List Nat} {E : List (Nat × Nat × Nat)} {w0 ws ws1 : va_W} {q κ k : Nat} (hF : FE ks E w0 ws) (hq : ks[q]? = some κ) (hE : inE E κ k = true) (h : F1 ws ws1 q k) : FE ks E w0 ws1 := by
  intro q' κ' k' hq' hE'
  refine (h q' k' ?_).trans (hF q' κ' k' hq' hE')
  by_cases h1 : q' = q
  · refine Or.inr (fun h2 => ?_)
    subst h1; subst h2
    obtain rfl : κ' = κ := Option.some.inj (hq'.symm.trans hq)
    rw [hE] at hE'; exact absurd hE' (by decide)
  · exact Or.inl h1
theorem FE.tr {ks : List Nat} {E E' : List (Nat × Nat × Nat)} {w0 ws ws1 : va_W} (hF : FE ks E w0 ws) (h : FE ks E' ws ws1) (hs : subE E' E = true) : FE ks E w0 ws1 :=
  fun q κ k hq hE => (h q κ k hq (inE_sub hs hE)).trans (hF q κ k hq hE)
theorem FE.gi {ks : List Nat} {E : List (Nat × Nat × Nat)} {ws ws1 : va_W} {q κ k : Nat} {x : Int32} (h : FE ks E ws ws1) (hq : ks[q]? = some κ) (hE : inE E κ k = false) (c : gi ws q k = x) : gi ws1 q k = x := by
  rw [← c]; show (match gv ws1 q k with | .int x => x | _ => 0) = _; rw [h q κ k hq hE]; rfl
theorem FE.gl {ks : List Nat} {E : List (Nat × Nat × Nat)} {ws ws1 : va_W} {q κ k : Nat} {x : Int64} (h : FE ks E ws ws1) (hq : ks[q]? = some κ) (hE : inE E κ k = false) (c : gl ws q k = x) : gl ws1 q k = x := by
  rw [← c]; show (match gv ws1 q k with | .long x => x | _ => 0) = _; rw [h q κ k hq hE]; rfl
theorem F1.gi {ws ws1 : va_W} {q k q' k' : Nat} {x : Int32} (h : F1 ws ws1 q k) (hn : q' ≠ q ∨ k' ≠ k) (c : gi ws q' k' = x) : gi ws1 q' k' = x := by
  rw [← c]; show (match gv ws1 q' k' with | .int x => x | _ => 0) = _; rw [h q' k' hn]; rfl
theorem F1.gl {ws ws1 : va_W} {q k q' k' : Nat} {x : Int64} (h : F1 ws ws1 q k) (hn : q' ≠ q ∨ k' ≠ k) (c : gl ws q' k' = x) : gl ws1 q' k' = x := by
  rw [← c]; show (match gv ws1 q' k' with | .long x => x | _ => 0) = _; rw [h q' k' hn]; rfl
theorem tk_ne {ks : List Nat} {q q' κ κ' : Nat} (h' : ks[q']? = some κ') (h : ks[q]? = some κ) (hn : κ' ≠ κ) : q' ≠ q := by
  rintro rfl; exact hn (Option.some.inj (h'.symm.trans h))
theorem tk_sub {ks : List Nat} {K off K2 : Nat} (h : (List.range ks.length).all (fun q => !(ks[q]? == some K) || (ks[q + off]? == some K2)) = true) {q : Nat} (hq : ks[q]? = some K) : ks[q + off]? = some K2 := by
  have hl : q < ks.length := by
    rcases Nat.lt_or_ge q ks.length with h1 | h1
    · exact h1
    · rw [List.getElem?_eq_none h1] at hq; exact absurd hq (by simp)
  have h2 := List.all_eq_true.mp h q (List.mem_range.mpr hl)
  simpa [hq] using h2
theorem gv_set {ws : va_W} {q : Nat} {e : Nat × va_E} {q' k : Nat} (hn : q' ≠ q) : gv (ws.set q e) q' k = gv ws q' k := by
  unfold gv; rw [List.getElem?_set, if_neg (fun h => hn h.symm)]
theorem gv_here {ws : va_W} {q : Nat} {e e' : Nat × va_E} {k : Nat} (he : ws[q]? = some e') : gv (ws.set q e) q k = gv [e] 0 k := by
  have hl : q < ws.length := by
    rcases Nat.lt_or_ge q ws.length with h1 | h1
    · exact h1
    · rw [List.getElem?_eq_none h1] at he; exact absurd he (by simp)
  unfold gv; rw [List.getElem?_set, if_pos rfl, if_pos hl]; rfl
theorem gv_at {ws : va_W} {q : Nat} {e : Nat × va_E} {k : Nat} (he : ws[q]? = some e) : gv ws q k = gv [e] 0 k := by
  unfold gv; rw [he]; rfl
theorem gi_o {ws : va_W} {q k a κ : Nat} {fs : List Value} {x : Int32} (he : ws[q]? = some (a, .inr (κ, fs))) (hv : fs[k]? = some (.int x)) : gi ws q k = x := by
  unfold gi; rw [gv_at he]; show (match (fs[k]?).getD .null with | .int x => x | _ => 0) = x; rw [hv]; rfl
theorem gl_o {ws : va_W} {q k a κ : Nat} {fs : List Value} {x : Int64} (he : ws[q]? = some (a, .inr (κ, fs))) (hv : fs[k]? = some (.long x)) : gl ws q k = x := by
  unfold gl; rw [gv_at he]; show (match (fs[k]?).getD .null with | .long x => x | _ => 0) = x; rw [hv]; rfl
theorem tk_lt {α : Type} {l : List α} {i : Nat} {x : α} (h : l[i]? = some x) : i < l.length := by
  rcases Nat.lt_or_ge i l.length with h1 | h1
  · exact h1
  · rw [List.getElem?_eq_none h1] at h; exact absurd h (by simp)
theorem tk_set {α : Type} {l : List α} {i j : Nat} {a x : α} (h : l[i]? = some x) : (l.set i a)[j]? = if i = j then some a else l[j]? := by
  rw [List.getElem?_set, if_pos (tk_lt h)]
theorem F1_put {ws : va_W} {q k a κ : Nat} {fs : List Value} {v : Value} (he : ws[q]? = some (a, .inr (κ, fs))) : F1 ws (ws.set q (a, .inr (κ, fs.set k v))) q k := by
  intro q' k' hn
  by_cases h1 : q' = q
  · subst h1
    rw [gv_here he, gv_at he]
    have h2 : k' ≠ k := by rcases hn with h | h; exact absurd rfl h; exact h
    show ((fs.set k v)[k']?).getD .null = (fs[k']?).getD .null
    rw [List.getElem?_set, if_neg (fun h => h2 h.symm)]
  · exact gv_set h1
section
variable {ks : List Nat} {ad : Nat → Nat} {cy : Nat → ClassId} {B s1 : Int} {qr : Nat} {ws : va_W} {q κ k : Nat}
theorem TW.put {fs : List Value} {t : Nat × Int × Int × Nat} {v : Value} (hT : TW ks ad cy B qr s1 ws) (hq : ks[q]? = some κ) (hκ : κ < 20) (he : ws[q]? = some (ad q, .inr (κ, fs))) (hl : fs.length = (ft κ).length) (hf : ∀ (k : Nat) (t : Nat × Int × Int × Nat), (ft κ)[k]? = some t → ∃ v : Value, fs[k]? = some v ∧ VO ks ad B qr q t v) (ht : (ft κ)[k]? = some t) (hv : VO ks ad B qr q t v) (hak : 9 = (ak κ).1) : TW ks ad cy B qr s1 (ws.set q (ad q, .inr (κ, fs.set k v))) := by
  obtain ⟨h0, h1, h2, h3, h4⟩ := hT
  have hne : ∀ q' κ' : Nat, ks[q']? = some κ' → (ak κ').1 ≠ 9 → q ≠ q' := fun q' κ' h hn e => hn (by subst e; rw [Option.some.inj (h.symm.trans hq)]; exact hak.symm)
  refine ⟨by rw [List.length_set]; exact h0, fun q' κ' hq' hκ' => ?_, fun q' κ' hq' hκ' => ?_, fun q' κ' hq' hκ' => ?_, fun q' κ' hq' hκ' => ?_⟩
  · by_cases e : q = q'
    · subst e
      obtain rfl : κ' = κ := Option.some.inj (hq'.symm.trans hq)
      refine ⟨fs.set k v, by rw [tk_set he, if_pos rfl], by rw [List.length_set]; exact hl, fun j t' ht' => ?_⟩
      by_cases ej : k = j
      · subst ej
        obtain rfl : t' = t := Option.some.inj (ht'.symm.trans ht)
        obtain ⟨v0, hv0, _⟩ := hf k _ ht
        exact ⟨v, by rw [tk_set hv0, if_pos rfl], hv⟩
      · obtain ⟨v0, hv0, hv1⟩ := hf j _ ht'
        exact ⟨v0, by rw [List.getElem?_set, if_neg ej]; exact hv0, hv1⟩
    · obtain ⟨g, g1, g2⟩ := h1 q' κ' hq' hκ'
      exact ⟨g, by rw [tk_set he, if_neg e]; exact g1, g2⟩
  · obtain ⟨g, g1, g2⟩ := h2 q' κ' hq' hκ'
    exact ⟨g, by rw [tk_set he, if_neg (hne q' κ' hq' (by omega))]; exact g1, g2⟩
  · obtain ⟨g, g1⟩ := h3 q' κ' hq' hκ'
    exact ⟨g, by rw [tk_set he, if_neg (hne q' κ' hq' (by omega))]; exact g1⟩
  · obtain ⟨g, g1, g2⟩ := h4 q' κ' hq' hκ'
    exact ⟨g, by rw [tk_set he, if_neg (hne q' κ' hq' (by omega))]; exact g1, g2⟩
theorem TW.seti {f : Nat → Int32} {ty n i : Nat} {x : Int32} (hT : TW ks ad cy B qr s1 ws) (hq : ks[q]? = some κ) (hκ : 20 ≤ κ) (hak : ak κ = (ty, n)) (hty : ty = 0 ∨ ty = 2 ∨ ty = 3) (he : ws[q]? = some (ad q, .inl (cy ty, n, .inl f))) (hf : ∀ j : Nat, j < n → EI κ j B s1 (f j)) (hx : EI κ i B s1 x) : TW ks ad cy B qr s1 (ws.set q (ad q, .inl (cy ty, n, .inl (upd f i x)))) := by
  obtain ⟨h0, h1, h2, h3, h4⟩ := hT
  have hne : ∀ q' κ' : Nat, ks[q']? = some κ' → κ' ≠ κ → q ≠ q' := fun q' κ' h hn e => hn (by subst e; exact Option.some.inj (h.symm.trans hq))
  refine ⟨by rw [List.length_set]; exact h0, fun q' κ' hq' hκ' => ?_, fun q' κ' hq' hκ' => ?_, fun q' κ' hq' hκ' => ?_, fun q' κ' hq' hκ' => ?_⟩
  · obtain ⟨g, g1, g2⟩ := h1 q' κ' hq' hκ'
    exact ⟨g, by rw [tk_set he, if_neg (hne q' κ' hq' (by omega))]; exact g1, g2⟩
  · by_cases e : q = q'
    · subst e
      obtain rfl : κ' = κ := Option.some.inj (hq'.symm.trans hq)
      refine ⟨upd f i x, by rw [tk_set he, if_pos rfl, hak], fun j hj => ?_⟩
      rw [hak] at hj
      unfold upd
      by_cases ej : j = i
      · subst ej; simp only [if_true]; exact hx
      · rw [if_neg ej]; exact hf j hj
    · obtain ⟨g, g1, g2⟩ := h2 q' κ' hq' hκ'
      exact ⟨g, by rw [tk_set he, if_neg e]; exact g1, g2⟩
  · obtain ⟨g, g1⟩ := h3 q' κ' hq' hκ'
    exact ⟨g, by rw [tk_set he, if_neg (hne q' κ' hq' (by rintro rfl; rw [hak] at hκ'; have : ty = 1 := hκ'; omega))]; exact g1⟩
  · obtain ⟨g, g1, g2⟩ := h4 q' κ' hq' hκ'
    exact ⟨g, by rw [tk_set he, if_neg (hne q' κ' hq' (by rintro rfl; rw [hak] at hκ'; have : ty = 4 ∨ ty = 5 ∨ ty = 6 := hκ'; omega))]; exact g1, g2⟩
theorem TW.setf {f g : Nat → Int32} {ty n : Nat} (hT : TW ks ad cy B qr s1 ws) (hq : ks[q]? = some κ) (hκ : 20 ≤ κ) (hak : ak κ = (ty, n)) (hty : ty = 0 ∨ ty = 2 ∨ ty = 3) (he : ws[q]? = some (ad q, .inl (cy ty, n, .inl f))) (hg : ∀ j : Nat, j < n → EI κ j B s1 (g j)) : TW ks ad cy B qr s1 (ws.set q (ad q, .inl (cy ty, n, .inl g))) := by
  obtain ⟨h0, h1, h2, h3, h4⟩ := hT
  have hne : ∀ q' κ' : Nat, ks[q']? = some κ' → κ' ≠ κ → q ≠ q' := fun q' κ' h hn e => hn (by subst e; exact Option.some.inj (h.symm.trans hq))
  refine ⟨by rw [List.length_set]; exact h0, fun q' κ' hq' hκ' => ?_, fun q' κ' hq' hκ' => ?_, fun q' κ' hq' hκ' => ?_, fun q' κ' hq' hκ' => ?_⟩
  · obtain ⟨g, g1, g2⟩ := h1 q' κ' hq' hκ'
    exact ⟨g, by rw [tk_set he, if_neg (hne q' κ' hq' (by omega))]; exact g1, g2⟩
  · by_cases e : q = q'
    · subst e
      obtain rfl : κ' = κ := Option.some.inj (hq'.symm.trans hq)
      exact ⟨g, by rw [tk_set he, if_pos rfl, hak], fun j hj => by rw [hak] at hj; exact hg j hj⟩
    · obtain ⟨g, g1, g2⟩ := h2 q' κ' hq' hκ'
      exact ⟨g, by rw [tk_set he, if_neg e]; exact g1, g2⟩
  · obtain ⟨g, g1⟩ := h3 q' κ' hq' hκ'
    exact ⟨g, by rw [tk_set he, if_neg (hne q' κ' hq' (by rintro rfl; rw [hak] at hκ'; have : ty = 1 := hκ'; omega))]; exact g1⟩
  · obtain ⟨g, g1, g2⟩ := h4 q' κ' hq' hκ'
    exact ⟨g, by rw [tk_set he, if_neg (hne q' κ' hq' (by rintro rfl; rw [hak] at hκ'; have : ty = 4 ∨ ty = 5 ∨ ty = 6 := hκ'; omega))]; exact g1, g2⟩
theorem TW.setl {f g : Nat → Int64} {n : Nat} (hT : TW ks ad cy B qr s1 ws) (hq : ks[q]? = some κ) (hκ : 20 ≤ κ) (hak : ak κ = (1, n)) (he : ws[q]? = some (ad q, .inl (cy 1, n, .inr (.inl f)))) : TW ks ad cy B qr s1 (ws.set q (ad q, .inl (cy 1, n, .inr (.inl g)))) := by
  obtain ⟨h0, h1, h2, h3, h4⟩ := hT
  have hne : ∀ q' κ' : Nat, ks[q']? = some κ' → κ' ≠ κ → q ≠ q' := fun q' κ' h hn e => hn (by subst e; exact Option.some.inj (h.symm.trans hq))
  refine ⟨by rw [List.length_set]; exact h0, fun q' κ' hq' hκ' => ?_, fun q' κ' hq' hκ' => ?_, fun q' κ' hq' hκ' => ?_, fun q' κ' hq' hκ' => ?_⟩
  · obtain ⟨g, g1, g2⟩ := h1 q' κ' hq' hκ'
    exact ⟨g, by rw [tk_set he, if_neg (hne q' κ' hq' (by omega))]; exact g1, g2⟩
  · obtain ⟨g, g1, g2⟩ := h2 q' κ' hq' hκ'
    exact ⟨g, by rw [tk_set he, if_neg (hne q' κ' hq' (by rintro rfl; rw [hak] at hκ'; have : 1 = 0 ∨ 1 = 2 ∨ 1 = 3 := hκ'; omega))]; exact g1, g2⟩
  · by_cases e : q = q'
    · subst e
      obtain rfl : κ' = κ := Option.some.inj (hq'.symm.trans hq)
      exact ⟨g, by rw [tk_set he, if_pos rfl, hak]⟩
    · obtain ⟨g, g1⟩ := h3 q' κ' hq' hκ'
      exact ⟨g, by rw [tk_set he, if_neg e]; exact g1⟩
  · obtain ⟨g, g1, g2⟩ := h4 q' κ' hq' hκ'
    exact ⟨g, by rw [tk_set he, if_neg (hne q' κ' hq' (by rintro rfl; rw [hak] at hκ'; have : 1 = 4 ∨ 1 = 5 ∨ 1 = 6 := hκ'; omega))]; exact g1, g2⟩
end
theorem VO.up {ks : List Nat} {ad : Nat → Nat} {B B' : Int} {qr q : Nat} {t : Nat × Int × Int × Nat} {v : Value} (h : B ≤ B') (hv : VO ks ad B qr q t v) : VO ks ad B' qr q t v := by
  obtain ⟨tg, lo, hi, o⟩ := t
  match tg, hv with
  | 0, hv => exact hv
  | 1, hv => exact hv
  | 2, hv => exact hv
  | 3, hv => exact hv
  | 4, hv => obtain ⟨x, h1, h2, h3⟩ := (show ∃ x : Int64, v = .long x ∧ 0 ≤ x.toInt ∧ x.toInt ≤ B from hv); exact ⟨x, h1, h2, Int.le_trans h3 h⟩
  | _ + 5, hv => exact hv
theorem EI.up {κ i : Nat} {B B' s1 : Int} {x : Int32} (h : B ≤ B') (hx : EI κ i B s1 x) : EI κ i B' s1 x := by
  unfold EI at hx ⊢
  split at hx
  · exact hx
  · refine ⟨hx.1, Int.le_trans hx.2 ?_⟩
    unfold rhi
    split
    · exact h
    · exact Int.le_refl _
    · exact Int.le_refl _
theorem TW.up {ks : List Nat} {ad : Nat → Nat} {cy : Nat → ClassId} {B B' s1 : Int} {qr : Nat} {ws : va_W} (hT : TW ks ad cy B qr s1 ws) (h : B ≤ B') : TW ks ad cy B' qr s1 ws := by
  obtain ⟨h0, h1, h2, h3, h4⟩ := hT
  refine ⟨h0, fun q κ hq hκ => ?_, fun q κ hq hκ => ?_, h3, h4⟩
  · obtain ⟨fs, g1, g2, g3⟩ := h1 q κ hq hκ
    exact ⟨fs, g1, g2, fun k t ht => by obtain ⟨v, v1, v2⟩ := g3 k t ht; exact ⟨v, v1, v2.up h⟩⟩
  · obtain ⟨f, g1, g2⟩ := h2 q κ hq hκ
    exact ⟨f, g1, fun i hi => (g2 i hi).up h⟩
theorem TW.rdi {ks : List Nat} {ad : Nat → Nat} {cy : Nat → ClassId} {B s1 lo hi : Int} {qr q κ k : Nat} {ws : va_W} (hT : TW ks ad cy B qr s1 ws) (hq : ks[q]? = some κ) (hκ : κ < 20) (hft : (ft κ)[k]? = some (0, lo, hi, 0)) : ∃ x : Int32, gi ws q k = x ∧ lo ≤ x.toInt ∧ x.toInt ≤ hi := by
  obtain ⟨fs, he, hlen, hf⟩ := hT.2.1 q κ hq hκ
  obtain ⟨v, hv, x, rfl, h1, h2⟩ := hf k _ hft
  exact ⟨x, gi_o he hv, h1, h2⟩
theorem gi_a {ws : va_W} {q k a n : Nat} {cA : ClassId} {f : Nat → Int32} (he : ws[q]? = some (a, .inl (cA, n, .inl f))) : gi ws q k = f k := by
  unfold gi; rw [gv_at he]; rfl
theorem F1_seti {ws : va_W} {q i a n : Nat} {cA : ClassId} {f : Nat → Int32} {x : Int32} (he : ws[q]? = some (a, .inl (cA, n, .inl f))) : F1 ws (ws.set q (a, .inl (cA, n, .inl (upd f i x)))) q i := by
  intro q' k' hn
  by_cases h1 : q' = q
  · subst h1
    rw [gv_here he, gv_at he]
    have h2 : k' ≠ i := by rcases hn with h | h; exact absurd rfl h; exact h
    show Value.int (upd f i x k') = Value.int (f k')
    unfold upd; rw [if_neg h2]
  · exact gv_set h1
theorem EI_u {κ i : Nat} {B s1 lo hi : Int} {x : Int32} (hu : erU κ = some (lo, hi)) : EI κ i B s1 x ↔ lo ≤ x.toInt ∧ x.toInt ≤ hi := by
  unfold EI; rw [hu]
theorem tk_rng {ws : va_W} : (List.range ws.length).map (fun i => ws[i]?) = ws.map some := by
  apply List.ext_getElem?
  intro i
  rw [List.getElem?_map, List.getElem?_map]
  rcases Nat.lt_or_ge i ws.length with h | h
  · rw [List.getElem?_eq_getElem (by rw [List.length_range]; exact h), List.getElem_range, List.getElem?_eq_getElem h]; simp [List.getElem?_eq_getElem h]
  · rw [List.getElem?_eq_none (by rw [List.length_range]; exact h), List.getElem?_eq_none h]; rfl
theorem tk_nd_aux : ∀ (l : List Nat), l.Pairwise (· ≠ ·) → va_nd l = true
  | [], _ => rfl
  | a :: l, h => by
    obtain ⟨h1, h2⟩ := List.pairwise_cons.mp h
    simp only [va_nd, Bool.and_eq_true, decide_eq_true_eq]
    exact ⟨fun hm => h1 a hm rfl, tk_nd_aux l h2⟩
theorem tk_nd {n : Nat} : va_nd (List.range n) = true := tk_nd_aux _ (List.nodup_range)
theorem nar_z {x : Int32} (h0 : 0 ≤ x.toInt) (h1 : x.toInt ≤ 1) : x = 0 ∨ x = 1 := by
  have h : x.toInt = 0 ∨ x.toInt = 1 := by omega
  rcases h with h | h
  · exact Or.inl (wk_eq.mpr h)
  · exact Or.inr (wk_eq.mpr h)
section
variable {p : Program} {l : Launch} {e : Env} {R : Room} {s : State} {m : MethodId} {args : Array Value} {below : List Frame} {meth : Method} {c : Code} {H H0 : Heap} {locs : List Loc} {cells slots : Nat} {Q : State → Prop} {cc : ByteArray} {pc nL : Nat} {ls : Array Slot} {rest : List Value} {dC : Nat → ClassId} {dI : Nat → Nat → Nat} {cy : Nat → ClassId} {A : Nat → Prop} {a : Nat} {ws : va_W} {Ts : List Cond} {own : String} {ks : List Nat} {ad : Nat → Nat} {B s1 : Int} {qr : Nat} {q κ k : Nat} {C : String} {T : u_T} {N index : Nat} {adK adV : Nat → Nat}
theorem tk_geti {lo hi : Int} (hC : CallFix p m c cc nL s args Ts own) (hK : KK dC dI cy s) (hw : Wd dC dI A H0 H locs ws) (hT : TW ks ad cy B qr s1 ws) (hin : ∀ w ∈ u_ws C T N, w ∈ Ts) (hq : ks[q]? = some κ) (hκ : κ < 20) (hc : vwCl[κ]? = some (C, T, N)) (k : Nat) (hk : k < N) (hlink : Cond.fieldLink own index C (T k).2.1 (T k).2.2.1 ∈ Ts) (hCk : (T k).1 = C) (hft : (ft κ)[k]? = some (0, lo, hi, 0)) (hdg : decode cc pc = .ok (.getfield index, 3))
    (kk : ∀ x : Int32, gi ws q k = x → lo ≤ x.toInt → x.toInt ≤ hi → W p l e R s m args below meth c H locs cells slots Q (F0 m (pc + 3) ls (.int x :: rest))) : W p l e R s m args below meth c H locs cells slots Q (F0 m pc ls (.ref (ad q) :: rest)) := by
  obtain ⟨fs, he, hlen, hf⟩ := hT.2.1 q κ hq hκ
  obtain ⟨v, hv, x, rfl, h1, h2⟩ := hf k _ hft
  exact wk_get hC hK hw hin q he hc k hk hlink hCk hv hdg (kk x (gi_o he hv) h1 h2)
theorem tk_getl {lo hi : Int} (hC : CallFix p m c cc nL s args Ts own) (hK : KK dC dI cy s) (hw : Wd dC dI A H0 H locs ws) (hT : TW ks ad cy B qr s1 ws) (hin : ∀ w ∈ u_ws C T N, w ∈ Ts) (hq : ks[q]? = some κ) (hκ : κ < 20) (hc : vwCl[κ]? = some (C, T, N)) (k : Nat) (hk : k < N) (hlink : Cond.fieldLink own index C (T k).2.1 (T k).2.2.1 ∈ Ts) (hCk : (T k).1 = C) (hft : (ft κ)[k]? = some (1, lo, hi, 0)) (hdg : decode cc pc = .ok (.getfield index, 3))
    (kk : ∀ x : Int64, gl ws q k = x → lo ≤ x.toInt → x.toInt ≤ hi → W p l e R s m args below meth c H locs cells slots Q (F0 m (pc + 3) ls (.long x :: rest))) : W p l e R s m args below meth c H locs cells slots Q (F0 m pc ls (.ref (ad q) :: rest)) := by
  obtain ⟨fs, he, hlen, hf⟩ := hT.2.1 q κ hq hκ
  obtain ⟨v, hv, x, rfl, h1, h2⟩ := hf k _ hft
  exact wk_get hC hK hw hin q he hc k hk hlink hCk hv hdg (kk x (gl_o he hv) h1 h2)
theorem tk_getB (hC : CallFix p m c cc nL s args Ts own) (hK : KK dC dI cy s) (hw : Wd dC dI A H0 H locs ws) (hT : TW ks ad cy B qr s1 ws) (hin : ∀ w ∈ u_ws C T N, w ∈ Ts) (hq : ks[q]? = some κ) (hκ : κ < 20) (hc : vwCl[κ]? = some (C, T, N)) (k : Nat) (hk : k < N) (hlink : Cond.fieldLink own index C (T k).2.1 (T k).2.2.1 ∈ Ts) (hCk : (T k).1 = C) (hft : (ft κ)[k]? = some (4, 0, 0, 0)) (hdg : decode cc pc = .ok (.getfield index, 3))
    (kk : ∀ x : Int64, gl ws q k = x → 0 ≤ x.toInt → x.toInt ≤ B → W p l e R s m args below meth c H locs cells slots Q (F0 m (pc + 3) ls (.long x :: rest))) : W p l e R s m args below meth c H locs cells slots Q (F0 m pc ls (.ref (ad q) :: rest)) := by
  obtain ⟨fs, he, hlen, hf⟩ := hT.2.1 q κ hq hκ
  obtain ⟨v, hv, x, rfl, h1, h2⟩ := hf k _ hft
  exact wk_get hC hK hw hin q he hc k hk hlink hCk hv hdg (kk x (gl_o he hv) h1 h2)
theorem tk_getO {o : Nat} (hC : CallFix p m c cc nL s args Ts own) (hK : KK dC dI cy s) (hw : Wd dC dI A H0 H locs ws) (hT : TW ks ad cy B qr s1 ws) (hin : ∀ w ∈ u_ws C T N, w ∈ Ts) (hq : ks[q]? = some κ) (hκ : κ < 20) (hc : vwCl[κ]? = some (C, T, N)) (k : Nat) (hk : k < N) (hlink : Cond.fieldLink own index C (T k).2.1 (T k).2.2.1 ∈ Ts) (hCk : (T k).1 = C) (hft : (ft κ)[k]? = some (2, 0, 0, o)) (hdg : decode cc pc = .ok (.getfield index, 3))
    (kk : W p l e R s m args below meth c H locs cells slots Q (F0 m (pc + 3) ls (.ref (ad (q + o)) :: rest))) : W p l e R s m args below meth c H locs cells slots Q (F0 m pc ls (.ref (ad q) :: rest)) := by
  obtain ⟨fs, he, hlen, hf⟩ := hT.2.1 q κ hq hκ
  obtain ⟨v, hv, hv1⟩ := hf k _ hft
  obtain rfl : v = .ref (ad (q + o)) := hv1
  exact wk_get hC hK hw hin q he hc k hk hlink hCk hv hdg kk
theorem tk_getA {o : Nat} (hC : CallFix p m c cc nL s args Ts own) (hK : KK dC dI cy s) (hw : Wd dC dI A H0 H locs ws) (hT : TW ks ad cy B qr s1 ws) (hin : ∀ w ∈ u_ws C T N, w ∈ Ts) (hq : ks[q]? = some κ) (hκ : κ < 20) (hc : vwCl[κ]? = some (C, T, N)) (k : Nat) (hk : k < N) (hlink : Cond.fieldLink own index C (T k).2.1 (T k).2.2.1 ∈ Ts) (hCk : (T k).1 = C) (hft : (ft κ)[k]? = some (3, 0, 0, o)) (hdg : decode cc pc = .ok (.getfield index, 3))
    (kk : W p l e R s m args below meth c H locs cells slots Q (F0 m (pc + 3) ls (.ref (ad o) :: rest))) : W p l e R s m args below meth c H locs cells slots Q (F0 m pc ls (.ref (ad q) :: rest)) := by
  obtain ⟨fs, he, hlen, hf⟩ := hT.2.1 q κ hq hκ
  obtain ⟨v, hv, hv1⟩ := hf k _ hft
  obtain rfl : v = .ref (ad o) := hv1
  exact wk_get hC hK hw hin q he hc k hk hlink hCk hv hdg kk
theorem tk_getQ (hC : CallFix p m c cc nL s args Ts own) (hK : KK dC dI cy s) (hw : Wd dC dI A H0 H locs ws) (hT : TW ks ad cy B qr s1 ws) (hqr : ks[qr]? = some 2) (hk0 : ks[0]? ≠ some 2) (hin : ∀ w ∈ u_ws C T N, w ∈ Ts) (hq : ks[q]? = some κ) (hκ : κ < 20) (hc : vwCl[κ]? = some (C, T, N)) (k : Nat) (hk : k < N) (hlink : Cond.fieldLink own index C (T k).2.1 (T k).2.2.1 ∈ Ts) (hCk : (T k).1 = C) (hft : (ft κ)[k]? = some (5, 0, 0, 0)) (hdg : decode cc pc = .ok (.getfield index, 3))
    (kk : W p l e R s m args below meth c H locs cells slots Q (F0 m (pc + 3) ls (.ref (ad qr) :: rest))) : W p l e R s m args below meth c H locs cells slots Q (F0 m pc ls (.ref (ad q) :: rest)) := by
  obtain ⟨fs, he, hlen, hf⟩ := hT.2.1 q κ hq hκ
  obtain ⟨v, hv, hv1⟩ := hf k _ hft
  rcases (show (qr = 0 ∧ v = .null) ∨ (v = .ref (ad qr) ∧ ks[qr]? = some 2) from hv1) with h | ⟨rfl, _⟩
  · rw [h.1] at hqr; exact absurd hqr hk0
  · exact wk_get hC hK hw hin q he hc k hk hlink hCk hv hdg kk
theorem tk_put {t : Nat × Int × Int × Nat} {v : Value} {ty : FieldType} (hC : CallFix p m c cc nL s args Ts own) (hK : KK dC dI cy s) (hw : Wd dC dI A H0 H locs ws) (hT : TW ks ad cy B qr s1 ws) (hin : ∀ w ∈ u_ws C T N, w ∈ Ts) {ty0 : Nat → FieldType} (hty : ∀ k, k < N → parseFieldDescriptor (T k).2.2.1 = some (ty0 k)) (hnm : ∀ a, a < N → ∀ b, b < N → a ≠ b → (T a).2.1 ≠ (T b).2.1) (hq : ks[q]? = some κ) (hκ : κ < 20) (hak : 9 = (ak κ).1) (hc : vwCl[κ]? = some (C, T, N)) (k : Nat) (hk : k < N) (hlink : Cond.fieldLink own index C (T k).2.1 (T k).2.2.1 ∈ Ts) (hCk : (T k).1 = C) (hfin : (T k).2.2.2 = false) (hd : ty0 k = ty) (hn : narrow ty v = v) (hfit : fits ty v = true) (hft : (ft κ)[k]? = some t) (hv : VO ks ad B qr q t v) (hdg : decode cc pc = .ok (.putfield index, 3))
    (kk : ∀ (H1 : Heap) (locs1 : List Loc) (ws1 : va_W), Wd dC dI A H0 H1 locs1 ws1 → TW ks ad cy B qr s1 ws1 → F1 ws ws1 q k → gv ws1 q k = v → W p l e R s m args below meth c H1 locs1 cells slots Q (F0 m (pc + 3) ls rest)) : W p l e R s m args below meth c H locs cells slots Q (F0 m pc ls (v :: .ref (ad q) :: rest)) := by
  obtain ⟨fs, he, hlen, hf⟩ := hT.2.1 q κ hq hκ
  obtain ⟨v0, hv0, _⟩ := hf k _ hft
  refine wk_put hC hK hw hin hty hnm q he hc k hk hlink hCk hfin hd hn hfit (tk_lt hv0) hdg (fun H1 locs1 hw1 => kk H1 locs1 _ hw1 (hT.put hq hκ he hlen hf hft hv hak) (F1_put he) ?_)
  rw [gv_here he]; show ((fs.set k v)[k]?).getD .null = v; rw [tk_set hv0, if_pos rfl]; rfl
theorem tk_puti {lo hi : Int} {v : Int32} (hC : CallFix p m c cc nL s args Ts own) (hK : KK dC dI cy s) (hw : Wd dC dI A H0 H locs ws) (hT : TW ks ad cy B qr s1 ws) (hin : ∀ w ∈ u_ws C T N, w ∈ Ts) {ty0 : Nat → FieldType} (hty : ∀ k, k < N → parseFieldDescriptor (T k).2.2.1 = some (ty0 k)) (hnm : ∀ a, a < N → ∀ b, b < N → a ≠ b → (T a).2.1 ≠ (T b).2.1) (hq : ks[q]? = some κ) (hκ : κ < 20) (hak : 9 = (ak κ).1) (hc : vwCl[κ]? = some (C, T, N)) (k : Nat) (hk : k < N) (hlink : Cond.fieldLink own index C (T k).2.1 (T k).2.2.1 ∈ Ts) (hCk : (T k).1 = C) (hfin : (T k).2.2.2 = false) (hd : ty0 k = .int) (hft : (ft κ)[k]? = some (0, lo, hi, 0)) (h1 : lo ≤ v.toInt) (h2 : v.toInt ≤ hi) (hdg : decode cc pc = .ok (.putfield index, 3))
    (kk : ∀ (H1 : Heap) (locs1 : List Loc) (ws1 : va_W), Wd dC dI A H0 H1 locs1 ws1 → TW ks ad cy B qr s1 ws1 → F1 ws ws1 q k → gi ws1 q k = v → W p l e R s m args below meth c H1 locs1 cells slots Q (F0 m (pc + 3) ls rest)) : W p l e R s m args below meth c H locs cells slots Q (F0 m pc ls (.int v :: .ref (ad q) :: rest)) :=
  tk_put hC hK hw hT hin hty hnm hq hκ hak hc k hk hlink hCk hfin hd rfl rfl hft ⟨v, rfl, h1, h2⟩ hdg (fun H1 locs1 ws1 a1 a2 a3 a4 => kk H1 locs1 ws1 a1 a2 a3 (by unfold gi; rw [a4]))
theorem tk_putz {v : Int32} (hC : CallFix p m c cc nL s args Ts own) (hK : KK dC dI cy s) (hw : Wd dC dI A H0 H locs ws) (hT : TW ks ad cy B qr s1 ws) (hin : ∀ w ∈ u_ws C T N, w ∈ Ts) {ty0 : Nat → FieldType} (hty : ∀ k, k < N → parseFieldDescriptor (T k).2.2.1 = some (ty0 k)) (hnm : ∀ a, a < N → ∀ b, b < N → a ≠ b → (T a).2.1 ≠ (T b).2.1) (hq : ks[q]? = some κ) (hκ : κ < 20) (hak : 9 = (ak κ).1) (hc : vwCl[κ]? = some (C, T, N)) (k : Nat) (hk : k < N) (hlink : Cond.fieldLink own index C (T k).2.1 (T k).2.2.1 ∈ Ts) (hCk : (T k).1 = C) (hfin : (T k).2.2.2 = false) (hd : ty0 k = .boolean) (hft : (ft κ)[k]? = some (0, 0, 1, 0)) (h1 : 0 ≤ v.toInt) (h2 : v.toInt ≤ 1) (hdg : decode cc pc = .ok (.putfield index, 3))
    (kk : ∀ (H1 : Heap) (locs1 : List Loc) (ws1 : va_W), Wd dC dI A H0 H1 locs1 ws1 → TW ks ad cy B qr s1 ws1 → F1 ws ws1 q k → gi ws1 q k = v → W p l e R s m args below meth c H1 locs1 cells slots Q (F0 m (pc + 3) ls rest)) : W p l e R s m args below meth c H locs cells slots Q (F0 m pc ls (.int v :: .ref (ad q) :: rest)) :=
  tk_put hC hK hw hT hin hty hnm hq hκ hak hc k hk hlink hCk hfin hd (by rcases nar_z h1 h2 with rfl | rfl <;> rfl) (by rcases nar_z h1 h2 with rfl | rfl <;> rfl) hft ⟨v, rfl, h1, h2⟩ hdg (fun H1 locs1 ws1 a1 a2 a3 a4 => kk H1 locs1 ws1 a1 a2 a3 (by unfold gi; rw [a4]))
theorem tk_putl {lo hi : Int} {v : Int64} (hC : CallFix p m c cc nL s args Ts own) (hK : KK dC dI cy s) (hw : Wd dC dI A H0 H locs ws) (hT : TW ks ad cy B qr s1 ws) (hin : ∀ w ∈ u_ws C T N, w ∈ Ts) {ty0 : Nat → FieldType} (hty : ∀ k, k < N → parseFieldDescriptor (T k).2.2.1 = some (ty0 k)) (hnm : ∀ a, a < N → ∀ b, b < N → a ≠ b → (T a).2.1 ≠ (T b).2.1) (hq : ks[q]? = some κ) (hκ : κ < 20) (hak : 9 = (ak κ).1) (hc : vwCl[κ]? = some (C, T, N)) (k : Nat) (hk : k < N) (hlink : Cond.fieldLink own index C (T k).2.1 (T k).2.2.1 ∈ Ts) (hCk : (T k).1 = C) (hfin : (T k).2.2.2 = false) (hd : ty0 k = .long) (hft : (ft κ)[k]? = some (1, lo, hi, 0)) (h1 : lo ≤ v.toInt) (h2 : v.toInt ≤ hi) (hdg : decode cc pc = .ok (.putfield index, 3))
    (kk : ∀ (H1 : Heap) (locs1 : List Loc) (ws1 : va_W), Wd dC dI A H0 H1 locs1 ws1 → TW ks ad cy B qr s1 ws1 → F1 ws ws1 q k → gl ws1 q k = v → W p l e R s m args below meth c H1 locs1 cells slots Q (F0 m (pc + 3) ls rest)) : W p l e R s m args below meth c H locs cells slots Q (F0 m pc ls (.long v :: .ref (ad q) :: rest)) :=
  tk_put hC hK hw hT hin hty hnm hq hκ hak hc k hk hlink hCk hfin hd rfl rfl hft ⟨v, rfl, h1, h2⟩ hdg (fun H1 locs1 ws1 a1 a2 a3 a4 => kk H1 locs1 ws1 a1 a2 a3 (by unfold gl; rw [a4]))
theorem tk_putB {v : Int64} (hC : CallFix p m c cc nL s args Ts own) (hK : KK dC dI cy s) (hw : Wd dC dI A H0 H locs ws) (hT : TW ks ad cy B qr s1 ws) (hin : ∀ w ∈ u_ws C T N, w ∈ Ts) {ty0 : Nat → FieldType} (hty : ∀ k, k < N → parseFieldDescriptor (T k).2.2.1 = some (ty0 k)) (hnm : ∀ a, a < N → ∀ b, b < N → a ≠ b → (T a).2.1 ≠ (T b).2.1) (hq : ks[q]? = some κ) (hκ : κ < 20) (hak : 9 = (ak κ).1) (hc : vwCl[κ]? = some (C, T, N)) (k : Nat) (hk : k < N) (hlink : Cond.fieldLink own index C (T k).2.1 (T k).2.2.1 ∈ Ts) (hCk : (T k).1 = C) (hfin : (T k).2.2.2 = false) (hd : ty0 k = .long) (hft : (ft κ)[k]? = some (4, 0, 0, 0)) (h1 : 0 ≤ v.toInt) (h2 : v.toInt ≤ B) (hdg : decode cc pc = .ok (.putfield index, 3))
    (kk : ∀ (H1 : Heap) (locs1 : List Loc) (ws1 : va_W), Wd dC dI A H0 H1 locs1 ws1 → TW ks ad cy B qr s1 ws1 → F1 ws ws1 q k → gl ws1 q k = v → W p l e R s m args below meth c H1 locs1 cells slots Q (F0 m (pc + 3) ls rest)) : W p l e R s m args below meth c H locs cells slots Q (F0 m pc ls (.long v :: .ref (ad q) :: rest)) :=
  tk_put hC hK hw hT hin hty hnm hq hκ hak hc k hk hlink hCk hfin hd rfl rfl hft ⟨v, rfl, h1, h2⟩ hdg (fun H1 locs1 ws1 a1 a2 a3 a4 => kk H1 locs1 ws1 a1 a2 a3 (by unfold gl; rw [a4]))
theorem tk_iald {lo hi : Int} {n : Nat} {i : Int32} (hC : CallFix p m c cc nL s args Ts own) (hK : KK dC dI cy s) (hw : Wd dC dI A H0 H locs ws) (hT : TW ks ad cy B qr s1 ws) (hq : ks[q]? = some κ) (hak : ak κ = (0, n)) (hu : erU κ = some (lo, hi)) (h0 : 0 ≤ i.toInt) (h1 : i.toInt < n) (hdg : decode cc pc = .ok (.iaload, 1))
    (kk : ∀ x : Int32, gi ws q i.toNatClampNeg = x → lo ≤ x.toInt → x.toInt ≤ hi → W p l e R s m args below meth c H locs cells slots Q (F0 m (pc + 1) ls (.int x :: rest))) : W p l e R s m args below meth c H locs cells slots Q (F0 m pc ls (.int i :: .ref (ad q) :: rest)) := by
  obtain ⟨f, he, hf⟩ := hT.2.2.1 q κ hq (by rw [hak]; exact Or.inl rfl)
  rw [hak] at he hf
  have hb := (EI_u hu).mp (hf i.toNatClampNeg (show i.toInt.toNat < n by omega))
  exact wk_iald hC hK hw q he (vp_in_iff.mpr ⟨h0, h1⟩) hdg (kk _ (gi_a he) hb.1 hb.2)
theorem tk_zald {lo hi : Int} {n : Nat} {i : Int32} (hC : CallFix p m c cc nL s args Ts own) (hK : KK dC dI cy s) (hw : Wd dC dI A H0 H locs ws) (hT : TW ks ad cy B qr s1 ws) (hq : ks[q]? = some κ) (hak : ak κ = (2, n)) (hu : erU κ = some (lo, hi)) (h0 : 0 ≤ i.toInt) (h1 : i.toInt < n) (hdg : decode cc pc = .ok (.baload, 1))
    (kk : ∀ x : Int32, gi ws q i.toNatClampNeg = x → lo ≤ x.toInt → x.toInt ≤ hi → W p l e R s m args below meth c H locs cells slots Q (F0 m (pc + 1) ls (.int x :: rest))) : W p l e R s m args below meth c H locs cells slots Q (F0 m pc ls (.int i :: .ref (ad q) :: rest)) := by
  obtain ⟨f, he, hf⟩ := hT.2.2.1 q κ hq (by rw [hak]; exact Or.inr (Or.inl rfl))
  rw [hak] at he hf
  have hb := (EI_u hu).mp (hf i.toNatClampNeg (show i.toInt.toNat < n by omega))
  exact wk_zald hC hK hw q he (vp_in_iff.mpr ⟨h0, h1⟩) hdg (kk _ (gi_a he) hb.1 hb.2)
theorem tk_bald {lo hi : Int} {n : Nat} {i : Int32} (hC : CallFix p m c cc nL s args Ts own) (hK : KK dC dI cy s) (hw : Wd dC dI A H0 H locs ws) (hT : TW ks ad cy B qr s1 ws) (hq : ks[q]? = some κ) (hak : ak κ = (3, n)) (hu : erU κ = some (lo, hi)) (h0 : 0 ≤ i.toInt) (h1 : i.toInt < n) (hdg : decode cc pc = .ok (.baload, 1))
    (kk : ∀ x : Int32, gi ws q i.toNatClampNeg = x → lo ≤ x.toInt → x.toInt ≤ hi → W p l e R s m args below meth c H locs cells slots Q (F0 m (pc + 1) ls (.int x :: rest))) : W p l e R s m args below meth c H locs cells slots Q (F0 m pc ls (.int i :: .ref (ad q) :: rest)) := by
  obtain ⟨f, he, hf⟩ := hT.2.2.1 q κ hq (by rw [hak]; exact Or.inr (Or.inr rfl))
  rw [hak] at he hf
  have hb := (EI_u hu).mp (hf i.toNatClampNeg (show i.toInt.toNat < n by omega))
  exact wk_bald hC hK hw q he (vp_in_iff.mpr ⟨h0, h1⟩) hdg (kk _ (gi_a he) hb.1 hb.2)
theorem tk_iast {lo hi : Int} {n : Nat} {i v : Int32} (hC : CallFix p m c cc nL s args Ts own) (hK : KK dC dI cy s) (hw : Wd dC dI A H0 H locs ws) (hT : TW ks ad cy B qr s1 ws) (hq : ks[q]? = some κ) (hκ : 20 ≤ κ) (hak : ak κ = (0, n)) (hu : erU κ = some (lo, hi)) (h0 : 0 ≤ i.toInt) (h1 : i.toInt < n) (hv1 : lo ≤ v.toInt) (hv2 : v.toInt ≤ hi) (hdg : decode cc pc = .ok (.iastore, 1))
    (kk : ∀ (H1 : Heap) (locs1 : List Loc) (ws1 : va_W), Wd dC dI A H0 H1 locs1 ws1 → TW ks ad cy B qr s1 ws1 → F1 ws ws1 q i.toNatClampNeg → gi ws1 q i.toNatClampNeg = v → W p l e R s m args below meth c H1 locs1 cells slots Q (F0 m (pc + 1) ls rest)) : W p l e R s m args below meth c H locs cells slots Q (F0 m pc ls (.int v :: .int i :: .ref (ad q) :: rest)) := by
  obtain ⟨f, he, hf⟩ := hT.2.2.1 q κ hq (by rw [hak]; exact Or.inl rfl)
  rw [hak] at he hf
  refine wk_iast hC hK hw q he (vp_in_iff.mpr ⟨h0, h1⟩) hdg (fun H1 locs1 hw1 => kk H1 locs1 _ hw1 (hT.seti hq hκ hak (Or.inl rfl) he hf ((EI_u hu).mpr ⟨hv1, hv2⟩)) (F1_seti he) ?_)
  unfold gi; rw [gv_here he]; show upd f i.toNatClampNeg v i.toNatClampNeg = v; unfold upd; rw [if_pos rfl]
theorem tk_iastR {n : Nat} {i v : Int32} (hC : CallFix p m c cc nL s args Ts own) (hK : KK dC dI cy s) (hw : Wd dC dI A H0 H locs ws) (hT : TW ks ad cy B qr s1 ws) (hq : ks[q]? = some κ) (hκ : 20 ≤ κ) (hak : ak κ = (0, n)) (h0 : 0 ≤ i.toInt) (h1 : i.toInt < n) (hv : EI κ i.toNatClampNeg B s1 v) (hdg : decode cc pc = .ok (.iastore, 1))
    (kk : ∀ (H1 : Heap) (locs1 : List Loc) (ws1 : va_W), Wd dC dI A H0 H1 locs1 ws1 → TW ks ad cy B qr s1 ws1 → F1 ws ws1 q i.toNatClampNeg → gi ws1 q i.toNatClampNeg = v → W p l e R s m args below meth c H1 locs1 cells slots Q (F0 m (pc + 1) ls rest)) : W p l e R s m args below meth c H locs cells slots Q (F0 m pc ls (.int v :: .int i :: .ref (ad q) :: rest)) := by
  obtain ⟨f, he, hf⟩ := hT.2.2.1 q κ hq (by rw [hak]; exact Or.inl rfl)
  rw [hak] at he hf
  refine wk_iast hC hK hw q he (vp_in_iff.mpr ⟨h0, h1⟩) hdg (fun H1 locs1 hw1 => kk H1 locs1 _ hw1 (hT.seti hq hκ hak (Or.inl rfl) he hf hv) (F1_seti he) ?_)
  unfold gi; rw [gv_here he]; show upd f i.toNatClampNeg v i.toNatClampNeg = v; unfold upd; rw [if_pos rfl]
theorem tk_ialdR {n : Nat} {i : Int32} (hC : CallFix p m c cc nL s args Ts own) (hK : KK dC dI cy s) (hw : Wd dC dI A H0 H locs ws) (hT : TW ks ad cy B qr s1 ws) (hq : ks[q]? = some κ) (hak : ak κ = (0, n)) (h0 : 0 ≤ i.toInt) (h1 : i.toInt < n) (hdg : decode cc pc = .ok (.iaload, 1))
    (kk : ∀ x : Int32, gi ws q i.toNatClampNeg = x → EI κ i.toNatClampNeg B s1 x → W p l e R s m args below meth c H locs cells slots Q (F0 m (pc + 1) ls (.int x :: rest))) : W p l e R s m args below meth c H locs cells slots Q (F0 m pc ls (.int i :: .ref (ad q) :: rest)) := by
  obtain ⟨f, he, hf⟩ := hT.2.2.1 q κ hq (by rw [hak]; exact Or.inl rfl)
  rw [hak] at he hf
  exact wk_iald hC hK hw q he (vp_in_iff.mpr ⟨h0, h1⟩) hdg (kk _ (gi_a he) (hf i.toNatClampNeg (show i.toInt.toNat < n by omega)))
theorem tk_zast {n : Nat} {i v : Int32} (hC : CallFix p m c cc nL s args Ts own) (hK : KK dC dI cy s) (hw : Wd dC dI A H0 H locs ws) (hT : TW ks ad cy B qr s1 ws) (hq : ks[q]? = some κ) (hκ : 20 ≤ κ) (hak : ak κ = (2, n)) (hu : erU κ = some (0, 1)) (h0 : 0 ≤ i.toInt) (h1 : i.toInt < n) (hv1 : 0 ≤ v.toInt) (hv2 : v.toInt ≤ 1) (hdg : decode cc pc = .ok (.bastore, 1))
    (kk : ∀ (H1 : Heap) (locs1 : List Loc) (ws1 : va_W), Wd dC dI A H0 H1 locs1 ws1 → TW ks ad cy B qr s1 ws1 → F1 ws ws1 q i.toNatClampNeg → gi ws1 q i.toNatClampNeg = v → W p l e R s m args below meth c H1 locs1 cells slots Q (F0 m (pc + 1) ls rest)) : W p l e R s m args below meth c H locs cells slots Q (F0 m pc ls (.int v :: .int i :: .ref (ad q) :: rest)) := by
  obtain ⟨f, he, hf⟩ := hT.2.2.1 q κ hq (by rw [hak]; exact Or.inr (Or.inl rfl))
  rw [hak] at he hf
  have e : vp_nar .boolean v = v := by rcases nar_z hv1 hv2 with rfl | rfl <;> decide
  refine wk_zast hC hK hw q he (vp_in_iff.mpr ⟨h0, h1⟩) hdg (fun H1 locs1 hw1 => ?_)
  rw [e] at hw1
  refine kk H1 locs1 _ hw1 (hT.seti hq hκ hak (Or.inr (Or.inl rfl)) he hf ((EI_u hu).mpr ⟨hv1, hv2⟩)) (F1_seti he) ?_
  unfold gi; rw [gv_here he]; show upd f i.toNatClampNeg v i.toNatClampNeg = v; unfold upd; rw [if_pos rfl]
theorem nar_b (v : Int32) : -128 ≤ (vp_nar .byte v).toInt ∧ (vp_nar .byte v).toInt ≤ 127 := by
  show -128 ≤ (v.toInt8.toInt32).toInt ∧ (v.toInt8.toInt32).toInt ≤ 127
  rw [Int8.toInt_toInt32]
  exact ⟨Int8.le_toInt _, Int.le_of_lt_add_one (Int8.toInt_lt _)⟩
theorem tk_bast {n : Nat} {i v : Int32} (hC : CallFix p m c cc nL s args Ts own) (hK : KK dC dI cy s) (hw : Wd dC dI A H0 H locs ws) (hT : TW ks ad cy B qr s1 ws) (hq : ks[q]? = some κ) (hκ : 20 ≤ κ) (hak : ak κ = (3, n)) (hu : erU κ = some (-128, 127)) (h0 : 0 ≤ i.toInt) (h1 : i.toInt < n) (hdg : decode cc pc = .ok (.bastore, 1))
    (kk : ∀ (H1 : Heap) (locs1 : List Loc) (ws1 : va_W), Wd dC dI A H0 H1 locs1 ws1 → TW ks ad cy B qr s1 ws1 → F1 ws ws1 q i.toNatClampNeg → W p l e R s m args below meth c H1 locs1 cells slots Q (F0 m (pc + 1) ls rest)) : W p l e R s m args below meth c H locs cells slots Q (F0 m pc ls (.int v :: .int i :: .ref (ad q) :: rest)) := by
  obtain ⟨f, he, hf⟩ := hT.2.2.1 q κ hq (by rw [hak]; exact Or.inr (Or.inr rfl))
  rw [hak] at he hf
  exact wk_bast hC hK hw q he (vp_in_iff.mpr ⟨h0, h1⟩) hdg (fun H1 locs1 hw1 => kk H1 locs1 _ hw1 (hT.seti hq hκ hak (Or.inr (Or.inr rfl)) he hf ((EI_u hu).mpr (nar_b v))) (F1_seti he))
theorem tk_lald {n : Nat} {i : Int32} (hC : CallFix p m c cc nL s args Ts own) (hK : KK dC dI cy s) (hw : Wd dC dI A H0 H locs ws) (hT : TW ks ad cy B qr s1 ws) (hq : ks[q]? = some κ) (hak : ak κ = (1, n)) (h0 : 0 ≤ i.toInt) (h1 : i.toInt < n) (hdg : decode cc pc = .ok (.laload, 1))
    (kk : ∀ x : Int64, W p l e R s m args below meth c H locs cells slots Q (F0 m (pc + 1) ls (.long x :: rest))) : W p l e R s m args below meth c H locs cells slots Q (F0 m pc ls (.int i :: .ref (ad q) :: rest)) := by
  obtain ⟨f, he⟩ := hT.2.2.2.1 q κ hq (by rw [hak])
  rw [hak] at he
  exact wk_lald hC hK hw q he (vp_in_iff.mpr ⟨h0, h1⟩) hdg (kk _)
theorem tk_last {n : Nat} {i : Int32} {v : Int64} (hC : CallFix p m c cc nL s args Ts own) (hK : KK dC dI cy s) (hw : Wd dC dI A H0 H locs ws) (hT : TW ks ad cy B qr s1 ws) (hq : ks[q]? = some κ) (hκ : 20 ≤ κ) (hak : ak κ = (1, n)) (h0 : 0 ≤ i.toInt) (h1 : i.toInt < n) (hdg : decode cc pc = .ok (.lastore, 1))
    (kk : ∀ (H1 : Heap) (locs1 : List Loc) (ws1 : va_W), Wd dC dI A H0 H1 locs1 ws1 → TW ks ad cy B qr s1 ws1 → F1 ws ws1 q i.toNatClampNeg → W p l e R s m args below meth c H1 locs1 cells slots Q (F0 m (pc + 1) ls rest)) : W p l e R s m args below meth c H locs cells slots Q (F0 m pc ls (.long v :: .int i :: .ref (ad q) :: rest)) := by
  obtain ⟨f, he⟩ := hT.2.2.2.1 q κ hq (by rw [hak])
  rw [hak] at he
  refine wk_last hC hK hw q he (vp_in_iff.mpr ⟨h0, h1⟩) hdg (fun H1 locs1 hw1 => kk H1 locs1 _ hw1 (hT.setl hq hκ hak he) ?_)
  intro q' k' hn
  by_cases h3 : q' = q
  · subst h3
    rw [gv_here he, gv_at he]
    have h2 : k' ≠ i.toNatClampNeg := by rcases hn with h | h; exact absurd rfl h; exact h
    show Value.long (vp_updL f i.toNatClampNeg v k') = Value.long (f k')
    unfold vp_updL; rw [if_neg h2]
  · exact gv_set h3
theorem tk_aald {n ty : Nat} {i : Int32} {Cn : String} (hC : CallFix p m c cc nL s args Ts own) (hK : KK dC dI cy s) (hw : Wd dC dI A H0 H locs ws) (hT : TW ks ad cy B qr s1 ws) (hq : ks[q]? = some κ) (hak : ak κ = (ty, n)) (hty : ty = 4 ∨ ty = 5 ∨ ty = 6) (ht : (tyA cy)[ty]? = some (cy ty, .object Cn)) (h0 : 0 ≤ i.toInt) (h1 : i.toInt < n) (hdg : decode cc pc = .ok (.aaload, 1))
    (kk : ∀ j : Nat, j < n → i.toInt = j → W p l e R s m args below meth c H locs cells slots Q (F0 m (pc + 1) ls (.ref (ad (el κ q j)) :: rest))) : W p l e R s m args below meth c H locs cells slots Q (F0 m pc ls (.int i :: .ref (ad q) :: rest)) := by
  obtain ⟨f, he, hf⟩ := hT.2.2.2.2 q κ hq (by rw [hak]; exact hty)
  rw [hak] at he hf
  have hj : i.toNatClampNeg < n := show i.toInt.toNat < n by omega
  refine wk_aald ty hC hK hw q he ht (vp_in_iff.mpr ⟨h0, h1⟩) hdg ?_
  rw [hf _ hj]
  exact kk _ hj (show i.toInt = (i.toInt.toNat : Int) by omega)
theorem tk_alen {n ty : Nat} {v : Int32} {t : FieldType} (hC : CallFix p m c cc nL s args Ts own) (hK : KK dC dI cy s) (hw : Wd dC dI A H0 H locs ws) (hT : TW ks ad cy B qr s1 ws) (hq : ks[q]? = some κ) (hak : ak κ = (ty, n)) (hty : ty = 0 ∨ ty = 2 ∨ ty = 3) (ht : (tyA cy)[ty]? = some (cy ty, t)) (hv : Int32.ofNat n = v) (hdg : decode cc pc = .ok (.arraylength, 1))
    (kk : W p l e R s m args below meth c H locs cells slots Q (F0 m (pc + 1) ls (.int v :: rest))) : W p l e R s m args below meth c H locs cells slots Q (F0 m pc ls (.ref (ad q) :: rest)) := by
  obtain ⟨f, he, hf⟩ := hT.2.2.1 q κ hq (by rw [hak]; exact hty)
  rw [hak] at he
  exact wk_alen ty v hC hK hw q he ht hv hdg kk
theorem tk_alenR {n ty : Nat} {v : Int32} {t : FieldType} (hC : CallFix p m c cc nL s args Ts own) (hK : KK dC dI cy s) (hw : Wd dC dI A H0 H locs ws) (hT : TW ks ad cy B qr s1 ws) (hq : ks[q]? = some κ) (hak : ak κ = (ty, n)) (hty : ty = 4 ∨ ty = 5 ∨ ty = 6) (ht : (tyA cy)[ty]? = some (cy ty, t)) (hv : Int32.ofNat n = v) (hdg : decode cc pc = .ok (.arraylength, 1))
    (kk : W p l e R s m args below meth c H locs cells slots Q (F0 m (pc + 1) ls (.int v :: rest))) : W p l e R s m args below meth c H locs cells slots Q (F0 m pc ls (.ref (ad q) :: rest)) := by
  obtain ⟨f, he, hf⟩ := hT.2.2.2.2 q κ hq (by rw [hak]; exact hty)
  rw [hak] at he
  exact wk_alen ty v hC hK hw q he ht hv hdg kk
theorem tk_copy {n0 n1 q0 κ0 : Nat} {lo hi lo' hi' : Int} {sp dp n : Int32} (hC : CallFix p m c cc nL s args Ts own) (hK : KK dC dI cy s) (hw : Wd dC dI A H0 H locs ws) (hT : TW ks ad cy B qr s1 ws) (hnL : ls.size = nL) (hlink : Cond.methodLink own index arraycopyName ∈ Ts) (hnat : Cond.native arraycopyName ∈ Ts) (hstat : Cond.static arraycopyName ∈ Ts) (hini : Cond.initialized "java/lang/System" ∈ Ts) (hq0 : ks[q0]? = some κ0) (hq : ks[q]? = some κ) (hκ : 20 ≤ κ) (hak0 : ak κ0 = (0, n0)) (hak : ak κ = (0, n1)) (hu0 : erU κ0 = some (lo, hi)) (hu : erU κ = some (lo', hi')) (hl : lo' ≤ lo) (hh : hi ≤ hi') (h1 : ¬ sp < 0) (h2 : ¬ dp < 0) (h3 : ¬ n < 0) (h4 : sp.toNatClampNeg + n.toNatClampNeg ≤ n0) (h5 : dp.toNatClampNeg + n.toNatClampNeg ≤ n1) (hn1 : n1 ≤ 100000) (hframes : 1 ≤ R.frames) (hlocals : (rest.map fun v => v.category).sum + (nativeFrameWords "java/lang/System" "arraycopy" 5 + 11) ≤ R.locals) (hdg : decode cc pc = .ok (.invokestatic index, 3))
    (kk : ∀ (H1 : Heap) (locs1 : List Loc) (ws1 : va_W), Wd dC dI A H0 H1 locs1 ws1 → TW ks ad cy B qr s1 ws1 → FE ks [(κ, 0, 100000)] ws ws1 → W p l e R s m args below meth c H1 locs1 cells slots Q (F0 m (pc + 3) ls rest)) : W p l e R s m args below meth c H locs cells slots Q (F0 m pc ls (.int n :: .int dp :: .ref (ad q) :: .int sp :: .ref (ad q0) :: rest)) := by
  obtain ⟨f, he0, hf⟩ := hT.2.2.1 q0 κ0 hq0 (by rw [hak0]; exact Or.inl rfl)
  obtain ⟨g, he, hg⟩ := hT.2.2.1 q κ hq (by rw [hak]; exact Or.inl rfl)
  rw [hak0] at he0 hf
  rw [hak] at he hg
  refine wk_copyi hC hK hw hnL hlink hnat hstat hini q0 q he0 he h1 h2 h3 h4 h5 hframes hlocals hdg (fun H1 locs1 hw1 => kk H1 locs1 _ hw1 (hT.setf hq hκ hak (Or.inl rfl) he ?_) ?_)
  · intro j hj
    refine (EI_u hu).mpr ?_
    unfold va_cpy
    by_cases hc : dp.toNatClampNeg ≤ j ∧ j < dp.toNatClampNeg + n.toNatClampNeg
    · rw [if_pos hc]
      have hb := (EI_u hu0).mp (hf (sp.toNatClampNeg + (j - dp.toNatClampNeg)) (by omega))
      exact ⟨Int.le_trans hl hb.1, Int.le_trans hb.2 hh⟩
    · rw [if_neg hc]; exact (EI_u hu).mp (hg j hj)
  · intro q' κ' k' hq' hE
    by_cases h : q' = q
    · subst h
      obtain rfl : κ' = κ := Option.some.inj (hq'.symm.trans hq)
      rw [gv_here he, gv_at he]
      show Value.int (va_cpy f g sp.toNatClampNeg dp.toNatClampNeg n.toNatClampNeg k') = Value.int (g k')
      unfold va_cpy
      rw [if_neg]
      rintro ⟨_, hk⟩
      rw [inE_of (a := 0) (b := 100000) (by simp [inR]) (Nat.zero_le _) (by omega)] at hE
      exact absurd hE (by decide)
    · exact gv_set h
theorem tk_Vi {y : MethodName} {bytes : ByteArray} {maxL n : Nat} {ret : Option FieldType} {wl : List Cond} {rm : Room} {As : List Value} {post : Int32 → va_W → Prop} {st0 : List Value} (hC : CallFix p m c cc nL s args Ts own) (hK : KK dC dI cy s) (hw : Wd dC dI A s.heap H locs ws) (hT : TW ks ad cy B qr s1 ws) (hA : ∀ q, s.heap.size ≤ q → A q) (hE : SE adK adV A s s.heap) (hSR : SR adK s) (hq : ks[q]? = some κ) (hκ : κ < 20) (hci : vwCl[κ]? = some (C, T, N)) (hM : Met l y wl rm (va_Pc (.ref (ad q) :: As) (wpreS adK adV dC dI cy H.size ws)) (va_Qi post (fun u : va_W => wpost dC dI cy (va_A ws H.size) u) (va_A ws H.size)) 0 0 (va_A ws H.size)) (cw : CallW R s args own C index y bytes maxL ret wl rm 0 0 n) (hlen : As.length = n) (hsize : ls.size = nL) (hstack : st0 = As.reverse ++ .ref (ad q) :: rest) (hW : (rest.map fun v => v.category).sum ≤ 8) (hdg : decode cc pc = .ok (.invokevirtual index, 3))
    (kk : ∀ (r : Int32) (u : va_W) (H1 : Heap) (locs1 : List Loc), post r u → Wd dC dI A s.heap H1 locs1 u → W p l e R s m args below meth c H1 locs1 0 0 Q (F0 m (pc + 3) ls (.int r :: rest))) : W p l e R s m args below meth c H locs 0 0 Q (F0 m pc ls st0) := by
  obtain ⟨fs, he, -, -⟩ := hT.2.1 q κ hq hκ
  exact wk_ViS hC hK hw hA hE hSR (List.range ws.length) [] tk_rng rfl tk_nd rfl (fun _ h => absurd h List.not_mem_nil) hM cw hci q he hlen hsize hstack hW hdg 0 0 ⟨rfl, rfl⟩ ⟨Nat.zero_le _, Nat.zero_le _⟩ (fun r u H1 locs1 hp hw1 => kk r u H1 locs1 hp hw1)
theorem tk_Vl {y : MethodName} {bytes : ByteArray} {maxL n : Nat} {ret : Option FieldType} {wl : List Cond} {rm : Room} {As : List Value} {post : Int64 → va_W → Prop} {st0 : List Value} (hC : CallFix p m c cc nL s args Ts own) (hK : KK dC dI cy s) (hw : Wd dC dI A s.heap H locs ws) (hT : TW ks ad cy B qr s1 ws) (hA : ∀ q, s.heap.size ≤ q → A q) (hE : SE adK adV A s s.heap) (hSR : SR adK s) (hq : ks[q]? = some κ) (hκ : κ < 20) (hci : vwCl[κ]? = some (C, T, N)) (hM : Met l y wl rm (va_Pc (.ref (ad q) :: As) (wpreS adK adV dC dI cy H.size ws)) (va_Ql post (fun u : va_W => wpost dC dI cy (va_A ws H.size) u) (va_A ws H.size)) 0 0 (va_A ws H.size)) (cw : CallW R s args own C index y bytes maxL ret wl rm 0 0 n) (hlen : As.length = n) (hsize : ls.size = nL) (hstack : st0 = As.reverse ++ .ref (ad q) :: rest) (hW : (rest.map fun v => v.category).sum ≤ 8) (hdg : decode cc pc = .ok (.invokevirtual index, 3))
    (kk : ∀ (r : Int64) (u : va_W) (H1 : Heap) (locs1 : List Loc), post r u → Wd dC dI A s.heap H1 locs1 u → W p l e R s m args below meth c H1 locs1 0 0 Q (F0 m (pc + 3) ls (.long r :: rest))) : W p l e R s m args below meth c H locs 0 0 Q (F0 m pc ls st0) := by
  obtain ⟨fs, he, -, -⟩ := hT.2.1 q κ hq hκ
  exact wk_VlS hC hK hw hA hE hSR (List.range ws.length) [] tk_rng rfl tk_nd rfl (fun _ h => absurd h List.not_mem_nil) hM cw hci q he hlen hsize hstack hW hdg 0 0 ⟨rfl, rfl⟩ ⟨Nat.zero_le _, Nat.zero_le _⟩ (fun r u H1 locs1 hp hw1 => kk r u H1 locs1 hp hw1)
theorem tk_Vv {y : MethodName} {bytes : ByteArray} {maxL n : Nat} {ret : Option FieldType} {wl : List Cond} {rm : Room} {As : List Value} {post : va_W → Prop} {st0 : List Value} (hC : CallFix p m c cc nL s args Ts own) (hK : KK dC dI cy s) (hw : Wd dC dI A s.heap H locs ws) (hT : TW ks ad cy B qr s1 ws) (hA : ∀ q, s.heap.size ≤ q → A q) (hE : SE adK adV A s s.heap) (hSR : SR adK s) (hq : ks[q]? = some κ) (hκ : κ < 20) (hci : vwCl[κ]? = some (C, T, N)) (hM : Met l y wl rm (va_Pc (.ref (ad q) :: As) (wpreS adK adV dC dI cy H.size ws)) (va_Qv post (fun u : va_W => wpost dC dI cy (va_A ws H.size) u) (va_A ws H.size)) 0 0 (va_A ws H.size)) (cw : CallW R s args own C index y bytes maxL ret wl rm 0 0 n) (hlen : As.length = n) (hsize : ls.size = nL) (hstack : st0 = As.reverse ++ .ref (ad q) :: rest) (hW : (rest.map fun v => v.category).sum ≤ 8) (hdg : decode cc pc = .ok (.invokevirtual index, 3))
    (kk : ∀ (u : va_W) (H1 : Heap) (locs1 : List Loc), post u → Wd dC dI A s.heap H1 locs1 u → W p l e R s m args below meth c H1 locs1 0 0 Q (F0 m (pc + 3) ls rest)) : W p l e R s m args below meth c H locs 0 0 Q (F0 m pc ls st0) := by
  obtain ⟨fs, he, -, -⟩ := hT.2.1 q κ hq hκ
  exact wk_VvS hC hK hw hA hE hSR (List.range ws.length) [] tk_rng rfl tk_nd rfl (fun _ h => absurd h List.not_mem_nil) hM cw hci q he hlen hsize hstack hW hdg 0 0 ⟨rfl, rfl⟩ ⟨Nat.zero_le _, Nat.zero_le _⟩ (fun u H1 locs1 hp hw1 => kk u H1 locs1 hp hw1)
theorem tk_Si {y : MethodName} {bytes : ByteArray} {maxL n : Nat} {ret : Option FieldType} {wl : List Cond} {rm : Room} {As : List Value} {post : Int32 → va_W → Prop} {st0 : List Value} (hC : CallFix p m c cc nL s args Ts own) (hK : KK dC dI cy s) (hw : Wd dC dI A s.heap H locs ws) (hT : TW ks ad cy B qr s1 ws) (hA : ∀ q, s.heap.size ≤ q → A q) (hE : SE adK adV A s s.heap) (hSR : SR adK s) (hM : Met l y wl rm (va_Pc As (wpreS adK adV dC dI cy H.size ws)) (va_Qi post (fun u : va_W => wpost dC dI cy (va_A ws H.size) u) (va_A ws H.size)) 0 0 (va_A ws H.size)) (cw : CallB R s args own index y bytes maxL ret wl rm 0 0 n ∧ (Cond.static y).before args s = true) (hlen : As.length = n) (hsize : ls.size = nL) (hstack : st0 = As.reverse ++ rest) (hW : (rest.map fun v => v.category).sum ≤ 8) (hdg : decode cc pc = .ok (.invokestatic index, 3))
    (kk : ∀ (r : Int32) (u : va_W) (H1 : Heap) (locs1 : List Loc), post r u → Wd dC dI A s.heap H1 locs1 u → W p l e R s m args below meth c H1 locs1 0 0 Q (F0 m (pc + 3) ls (.int r :: rest))) : W p l e R s m args below meth c H locs 0 0 Q (F0 m pc ls st0) := by
  exact wk_SiS hC hK hw hA hE hSR (List.range ws.length) [] tk_rng rfl tk_nd rfl (fun _ h => absurd h List.not_mem_nil) hM cw hlen hsize hstack hW hdg 0 0 ⟨rfl, rfl⟩ ⟨Nat.zero_le _, Nat.zero_le _⟩ (fun r u H1 locs1 hp hw1 => kk r u H1 locs1 hp hw1)
theorem tk_Sl {y : MethodName} {bytes : ByteArray} {maxL n : Nat} {ret : Option FieldType} {wl : List Cond} {rm : Room} {As : List Value} {post : Int64 → va_W → Prop} {st0 : List Value} (hC : CallFix p m c cc nL s args Ts own) (hK : KK dC dI cy s) (hw : Wd dC dI A s.heap H locs ws) (hT : TW ks ad cy B qr s1 ws) (hA : ∀ q, s.heap.size ≤ q → A q) (hE : SE adK adV A s s.heap) (hSR : SR adK s) (hM : Met l y wl rm (va_Pc As (wpreS adK adV dC dI cy H.size ws)) (va_Ql post (fun u : va_W => wpost dC dI cy (va_A ws H.size) u) (va_A ws H.size)) 0 0 (va_A ws H.size)) (cw : CallB R s args own index y bytes maxL ret wl rm 0 0 n ∧ (Cond.static y).before args s = true) (hlen : As.length = n) (hsize : ls.size = nL) (hstack : st0 = As.reverse ++ rest) (hW : (rest.map fun v => v.category).sum ≤ 8) (hdg : decode cc pc = .ok (.invokestatic index, 3))
    (kk : ∀ (r : Int64) (u : va_W) (H1 : Heap) (locs1 : List Loc), post r u → Wd dC dI A s.heap H1 locs1 u → W p l e R s m args below meth c H1 locs1 0 0 Q (F0 m (pc + 3) ls (.long r :: rest))) : W p l e R s m args below meth c H locs 0 0 Q (F0 m pc ls st0) := by
  exact wk_SlS hC hK hw hA hE hSR (List.range ws.length) [] tk_rng rfl tk_nd rfl (fun _ h => absurd h List.not_mem_nil) hM cw hlen hsize hstack hW hdg 0 0 ⟨rfl, rfl⟩ ⟨Nat.zero_le _, Nat.zero_le _⟩ (fun r u H1 locs1 hp hw1 => kk r u H1 locs1 hp hw1)
theorem tk_Sv {y : MethodName} {bytes : ByteArray} {maxL n : Nat} {ret : Option FieldType} {wl : List Cond} {rm : Room} {As : List Value} {post : va_W → Prop} {st0 : List Value} (hC : CallFix p m c cc nL s args Ts own) (hK : KK dC dI cy s) (hw : Wd dC dI A s.heap H locs ws) (hT : TW ks ad cy B qr s1 ws) (hA : ∀ q, s.heap.size ≤ q → A q) (hE : SE adK adV A s s.heap) (hSR : SR adK s) (hM : Met l y wl rm (va_Pc As (wpreS adK adV dC dI cy H.size ws)) (va_Qv post (fun u : va_W => wpost dC dI cy (va_A ws H.size) u) (va_A ws H.size)) 0 0 (va_A ws H.size)) (cw : CallB R s args own index y bytes maxL ret wl rm 0 0 n ∧ (Cond.static y).before args s = true) (hlen : As.length = n) (hsize : ls.size = nL) (hstack : st0 = As.reverse ++ rest) (hW : (rest.map fun v => v.category).sum ≤ 8) (hdg : decode cc pc = .ok (.invokestatic index, 3))
    (kk : ∀ (u : va_W) (H1 : Heap) (locs1 : List Loc), post u → Wd dC dI A s.heap H1 locs1 u → W p l e R s m args below meth c H1 locs1 0 0 Q (F0 m (pc + 3) ls rest)) : W p l e R s m args below meth c H locs 0 0 Q (F0 m pc ls st0) := by
  exact wk_SvS hC hK hw hA hE hSR (List.range ws.length) [] tk_rng rfl tk_nd rfl (fun _ h => absurd h List.not_mem_nil) hM cw hlen hsize hstack hW hdg 0 0 ⟨rfl, rfl⟩ ⟨Nat.zero_le _, Nat.zero_le _⟩ (fun u H1 locs1 hp hw1 => kk u H1 locs1 hp hw1)
theorem tk_iret {post : Int32 → va_W → Prop} {v : Int32} (hC : CallFix p m c cc nL s args Ts own) (hr : meth.sig.returnType = some .int) (hlocks : meth.locks = false) (hK : KK dC dI cy s) (hp : post v ws) (hw : Wd dC dI A s.heap H locs ws) (hdg : decode cc pc = .ok (.ireturn, 1)) : W p l e R s m args below meth c H locs cells slots (MQ below (va_Qi post (fun u : va_W => wpost dC dI cy A u) A) args s cells slots A) (F0 m pc ls [.int v]) := by
  obtain ⟨hP, hD, hS⟩ := hw
  exact W.iret hC.1 hC.2.1 hr (fun t ht hW => ⟨⟨v, ws, rfl, hp, by rw [ht]; exact hP, KK.moved hW.alike hK, hD⟩, hS.F ht⟩) hS.2.2 hdg (hlocks := hlocks)
theorem tk_zret {ty : FieldType} {post : Int32 → va_W → Prop} {v : Int32} (hC : CallFix p m c cc nL s args Ts own) (hr : meth.sig.returnType = some ty) (hn : narrow ty (.int v) = .int v) (hlocks : meth.locks = false) (hK : KK dC dI cy s) (hp : post v ws) (hw : Wd dC dI A s.heap H locs ws) (hdg : decode cc pc = .ok (.ireturn, 1)) : W p l e R s m args below meth c H locs cells slots (MQ below (va_Qi post (fun u : va_W => wpost dC dI cy A u) A) args s cells slots A) (F0 m pc ls [.int v]) := by
  obtain ⟨hP, hD, hS⟩ := hw
  exact W.zret hC.1 hC.2.1 hr hn (fun t ht hW => ⟨⟨v, ws, rfl, hp, by rw [ht]; exact hP, KK.moved hW.alike hK, hD⟩, hS.F ht⟩) hS.2.2 hdg (hlocks := hlocks)
theorem tk_lret {post : Int64 → va_W → Prop} {v : Int64} (hC : CallFix p m c cc nL s args Ts own) (hr : meth.sig.returnType = some .long) (hlocks : meth.locks = false) (hK : KK dC dI cy s) (hp : post v ws) (hw : Wd dC dI A s.heap H locs ws) (hdg : decode cc pc = .ok (.lreturn, 1)) : W p l e R s m args below meth c H locs cells slots (MQ below (va_Ql post (fun u : va_W => wpost dC dI cy A u) A) args s cells slots A) (F0 m pc ls [.long v]) := by
  obtain ⟨hP, hD, hS⟩ := hw
  exact W.lret hC.1 hC.2.1 hr (fun t ht hW => ⟨⟨v, ws, rfl, hp, by rw [ht]; exact hP, KK.moved hW.alike hK, hD⟩, hS.F ht⟩) hS.2.2 hdg (hlocks := hlocks)
theorem tk_vret {post : va_W → Prop} (hC : CallFix p m c cc nL s args Ts own) (hr : meth.sig.returnType = none) (hlocks : meth.locks = false) (hK : KK dC dI cy s) (hp : post ws) (hw : Wd dC dI A s.heap H locs ws) (hdg : decode cc pc = .ok (.return_, 1)) : W p l e R s m args below meth c H locs cells slots (MQ below (va_Qv post (fun u : va_W => wpost dC dI cy A u) A) args s cells slots A) (F0 m pc ls []) := by
  obtain ⟨hP, hD, hS⟩ := hw
  exact W.vret hC.1 hC.2.1 hr (fun t ht hW => ⟨⟨ws, rfl, hp, by rw [ht]; exact hP, KK.moved hW.alike hK, hD⟩, hS.F ht⟩) hS.2.2 hdg (hlocks := hlocks)
end
theorem VO.qr {ks : List Nat} {ad : Nat → Nat} {B : Int} {qr qr' q : Nat} {t : Nat × Int × Int × Nat} {v : Value} (h : t.1 < 5) (hv : VO ks ad B qr q t v) : VO ks ad B qr' q t v := by
  obtain ⟨tg, lo, hi, o⟩ := t
  match tg, h, hv with
  | 0, _, hv => exact hv
  | 1, _, hv => exact hv
  | 2, _, hv => exact hv
  | 3, _, hv => exact hv
  | 4, _, hv => exact hv
  | n + 5, h, _ => exact absurd (show n + 5 < 5 from h) (by omega)
theorem tag5 : (List.range 20).all (fun κ => (List.range 50).all (fun k => (κ == 3 && k == 1) || match (ft κ)[k]? with | some t => Nat.blt t.1 5 | none => true)) = true := by decide +kernel
theorem ftlen : (List.range 20).all (fun κ => Nat.ble (ft κ).length 50) = true := by decide +kernel
theorem only3 : (List.range 161).all (fun q => !(ksC[q]? == some 3) || q == 3) = true := by decide +kernel
theorem tk_tag {κ k : Nat} {t : Nat × Int × Int × Nat} (hκ : κ < 20) (ht : (ft κ)[k]? = some t) (hn : ¬ (κ = 3 ∧ k = 1)) : t.1 < 5 := by
  have hl := tk_lt ht
  have h1 := List.all_eq_true.mp ftlen κ (List.mem_range.mpr hκ)
  have h2 : (ft κ).length ≤ 50 := by simpa using h1
  have h3 := List.all_eq_true.mp (List.all_eq_true.mp tag5 κ (List.mem_range.mpr hκ)) k (List.mem_range.mpr (by omega))
  rw [ht] at h3
  simp only [Bool.or_eq_true, Bool.and_eq_true, beq_iff_eq] at h3
  rcases h3 with h3 | h3
  · exact absurd h3 hn
  · simpa [Nat.blt_eq] using h3
theorem tk_only3 {q : Nat} (h : ksC[q]? = some 3) : q = 3 := by
  have hl : q < 161 := tk_lt h
  have h2 := List.all_eq_true.mp only3 q (List.mem_range.mpr hl)
  simpa [h] using h2
theorem TW.putq {ad : Nat → Nat} {cy : Nat → ClassId} {B s1 : Int} {qr qn : Nat} {ws : va_W} {fs : List Value} (hT : TW ksC ad cy B qr s1 ws) (hqn : ksC[qn]? = some 2) (he : ws[3]? = some (ad 3, .inr (3, fs))) (hl : fs.length = (ft 3).length) (hf : ∀ (k : Nat) (t : Nat × Int × Int × Nat), (ft 3)[k]? = some t → ∃ v : Value, fs[k]? = some v ∧ VO ksC ad B qr 3 t v) : TW ksC ad cy B qn s1 (ws.set 3 (ad 3, .inr (3, fs.set 1 (.ref (ad qn))))) := by
  obtain ⟨h0, h1, h2, h3, h4⟩ := hT
  have hne : ∀ q' κ' : Nat, ksC[q']? = some κ' → (ak κ').1 ≠ 9 → 3 ≠ q' := fun q' κ' h hn e => hn (by subst e; rw [Option.some.inj (h.symm.trans (show ksC[3]? = some 3 from rfl))]; rfl)
  refine ⟨by rw [List.length_set]; exact h0, fun q' κ' hq' hκ' => ?_, fun q' κ' hq' hκ' => ?_, fun q' κ' hq' hκ' => ?_, fun q' κ' hq' hκ' => ?_⟩
  · by_cases e : 3 = q'
    · subst e
      obtain rfl : κ' = 3 := Option.some.inj (hq'.symm.trans (show ksC[3]? = some 3 from rfl))
      refine ⟨fs.set 1 _, by rw [tk_set he, if_pos rfl], by rw [List.length_set]; exact hl, fun j t' ht' => ?_⟩
      obtain ⟨v0, hv0, hv1⟩ := hf j _ ht'
      by_cases ej : 1 = j
      · subst ej
        obtain rfl : t' = (5, 0, 0, 0) := Option.some.inj (ht'.symm.trans (show (ft 3)[1]? = some (5, 0, 0, 0) from rfl))
        exact ⟨_, by rw [tk_set hv0, if_pos rfl], Or.inr ⟨rfl, hqn⟩⟩
      · exact ⟨v0, by rw [List.getElem?_set, if_neg ej]; exact hv0, hv1.qr (tk_tag (by decide) ht' (fun h => ej h.2.symm))⟩
    · obtain ⟨g, g1, g2, g3⟩ := h1 q' κ' hq' hκ'
      refine ⟨g, by rw [tk_set he, if_neg e]; exact g1, g2, fun k t ht => ?_⟩
      obtain ⟨v, v1, v2⟩ := g3 k t ht
      exact ⟨v, v1, v2.qr (tk_tag hκ' ht (fun h => e (by rw [h.1] at hq'; exact (tk_only3 hq').symm)))⟩
  · obtain ⟨g, g1, g2⟩ := h2 q' κ' hq' hκ'
    exact ⟨g, by rw [tk_set he, if_neg (hne q' κ' hq' (by omega))]; exact g1, g2⟩
  · obtain ⟨g, g1⟩ := h3 q' κ' hq' hκ'
    exact ⟨g, by rw [tk_set he, if_neg (hne q' κ' hq' (by omega))]; exact g1⟩
  · obtain ⟨g, g1, g2⟩ := h4 q' κ' hq' hκ'
    exact ⟨g, by rw [tk_set he, if_neg (hne q' κ' hq' (by omega))]; exact g1, g2⟩
theorem tk_fmr {ws : va_W} : (List.range ws.length).filterMap (fun i => ws[i]?) = ws := wk_fm tk_rng
section
variable {p : Program} {l : Launch} {e : Env} {R : Room} {s : State} {m : MethodId} {args : Array Value} {below : List Frame} {meth : Method} {c : Code} {H H0 : Heap} {locs : List Loc} {cells slots : Nat} {Q : State → Prop} {cc : ByteArray} {pc nL : Nat} {ls : Array Slot} {rest : List Value} {dC : Nat → ClassId} {dI : Nat → Nat → Nat} {cy : Nat → ClassId} {A : Nat → Prop} {a : Nat} {ws : va_W} {Ts : List Cond} {own : String} {ad : Nat → Nat} {B s1 : Int} {qr qn : Nat} {C : String} {T : u_T} {N index : Nat} {adK adV : Nat → Nat}
theorem tk_putQ (hC : CallFix p m c cc nL s args Ts own) (hK : KK dC dI cy s) (hw : Wd dC dI A H0 H locs ws) (hT : TW ksC ad cy B qr s1 ws) (hqn : ksC[qn]? = some 2) (hin : ∀ w ∈ u_ws C T N, w ∈ Ts) {ty0 : Nat → FieldType} {ty : FieldType} (hty : ∀ k, k < N → parseFieldDescriptor (T k).2.2.1 = some (ty0 k)) (hnm : ∀ a, a < N → ∀ b, b < N → a ≠ b → (T a).2.1 ≠ (T b).2.1) (hc : vwCl[3]? = some (C, T, N)) (hk : 1 < N) (hlink : Cond.fieldLink own index C (T 1).2.1 (T 1).2.2.1 ∈ Ts) (hCk : (T 1).1 = C) (hfin : (T 1).2.2.2 = false) (hd : ty0 1 = ty) (hn : narrow ty (.ref (ad qn)) = .ref (ad qn)) (hfit : fits ty (.ref (ad qn)) = true) (hdg : decode cc pc = .ok (.putfield index, 3))
    (kk : ∀ (H1 : Heap) (locs1 : List Loc) (ws1 : va_W), Wd dC dI A H0 H1 locs1 ws1 → TW ksC ad cy B qn s1 ws1 → F1 ws ws1 3 1 → W p l e R s m args below meth c H1 locs1 cells slots Q (F0 m (pc + 3) ls rest)) : W p l e R s m args below meth c H locs cells slots Q (F0 m pc ls (.ref (ad qn) :: .ref (ad 3) :: rest)) := by
  obtain ⟨fs, he, hlen, hf⟩ := hT.2.1 3 3 rfl (by decide)
  obtain ⟨v0, hv0, _⟩ := hf 1 _ rfl
  exact wk_put hC hK hw hin hty hnm 3 he hc 1 hk hlink hCk hfin hd hn hfit (tk_lt hv0) hdg (fun H1 locs1 hw1 => kk H1 locs1 _ hw1 (hT.putq hqn he hlen hf) (F1_put he))
theorem tk_ViT {y : MethodName} {bytes : ByteArray} {maxL n : Nat} {ret : Option FieldType} {wl : List Cond} {rm : Room} {As : List Value} {S : Type} {post : Int32 → S → Prop} {st0 : List Value} {b : Nat} (hC : CallFix p m c cc nL s args Ts own) (hK : KK dC dI cy s) (hw : Wd dC dI A s.heap H locs ws) (hA : ∀ q, s.heap.size ≤ q → A q) (hE : SE adK adV A s s.heap) (hSR : SR adK s) (hM : Met l y wl rm (va_Pc (.ref b :: As) (wpreS adK adV dC dI cy H.size [])) (va_Qi post (fun _ => wpost dC dI cy (va_A [] H.size) []) (va_A [] H.size)) 0 0 (va_A [] H.size)) (cw : CallW R s args own C index y bytes maxL ret wl rm 0 0 n) (j : Nat) (hj : j < 8) (hCs : C = "java/lang/String") (hbj : b = adK j) (hlen : As.length = n) (hsize : ls.size = nL) (hstack : st0 = As.reverse ++ .ref b :: rest) (hW : (rest.map fun v => v.category).sum ≤ 8) (hdg : decode cc pc = .ok (.invokevirtual index, 3))
    (kk : ∀ (r : Int32) (H1 : Heap) (locs1 : List Loc), (∃ u : S, post r u) → Wd dC dI A s.heap H1 locs1 ws → W p l e R s m args below meth c H1 locs1 0 0 Q (F0 m (pc + 3) ls (.int r :: rest))) : W p l e R s m args below meth c H locs 0 0 Q (F0 m pc ls st0) :=
  wk_ViT hC hK hw hA hE hSR [] (List.range ws.length) rfl (List.all_eq_true.mpr (fun i hi => decide_eq_true (List.mem_range.mp hi))) rfl tk_nd (fun _ _ h => absurd h List.not_mem_nil) hM cw j hj hCs hbj hlen hsize hstack hW hdg 0 0 ⟨rfl, rfl⟩ ⟨Nat.zero_le _, Nat.zero_le _⟩ (fun r u H1 locs1 hp hw1 => kk r H1 locs1 ⟨u, hp⟩ (by rw [tk_fmr, List.append_nil] at hw1; exact hw1))
end

theorem kC_2_1 {q : Nat} (h : ksC[q]? = some 2) : ksC[q + 1]? = some 21 := tk_sub (by decide +kernel) h
theorem kC_2_2 {q : Nat} (h : ksC[q]? = some 2) : ksC[q + 2]? = some 22 := tk_sub (by decide +kernel) h
theorem kC_2_3 {q : Nat} (h : ksC[q]? = some 2) : ksC[q + 3]? = some 23 := tk_sub (by decide +kernel) h
theorem kC_5_1 {q : Nat} (h : ksC[q]? = some 5) : ksC[q + 1]? = some 7 := tk_sub (by decide +kernel) h
theorem kC_5_10 {q : Nat} (h : ksC[q]? = some 5) : ksC[q + 10]? = some 32 := tk_sub (by decide +kernel) h
theorem kC_5_11 {q : Nat} (h : ksC[q]? = some 5) : ksC[q + 11]? = some 33 := tk_sub (by decide +kernel) h
theorem kC_5_12 {q : Nat} (h : ksC[q]? = some 5) : ksC[q + 12]? = some 34 := tk_sub (by decide +kernel) h
theorem kC_5_13 {q : Nat} (h : ksC[q]? = some 5) : ksC[q + 13]? = some 35 := tk_sub (by decide +kernel) h
theorem kC_5_14 {q : Nat} (h : ksC[q]? = some 5) : ksC[q + 14]? = some 36 := tk_sub (by decide +kernel) h
theorem kC_5_15 {q : Nat} (h : ksC[q]? = some 5) : ksC[q + 15]? = some 37 := tk_sub (by decide +kernel) h
theorem kC_5_16 {q : Nat} (h : ksC[q]? = some 5) : ksC[q + 16]? = some 38 := tk_sub (by decide +kernel) h
theorem kC_7_1 {q : Nat} (h : ksC[q]? = some 7) : ksC[q + 1]? = some 24 := tk_sub (by decide +kernel) h
theorem kC_7_2 {q : Nat} (h : ksC[q]? = some 7) : ksC[q + 2]? = some 25 := tk_sub (by decide +kernel) h
theorem kC_7_3 {q : Nat} (h : ksC[q]? = some 7) : ksC[q + 3]? = some 26 := tk_sub (by decide +kernel) h
theorem kC_7_4 {q : Nat} (h : ksC[q]? = some 7) : ksC[q + 4]? = some 27 := tk_sub (by decide +kernel) h
theorem kC_7_5 {q : Nat} (h : ksC[q]? = some 7) : ksC[q + 5]? = some 28 := tk_sub (by decide +kernel) h
theorem kC_7_6 {q : Nat} (h : ksC[q]? = some 7) : ksC[q + 6]? = some 29 := tk_sub (by decide +kernel) h
theorem kC_7_7 {q : Nat} (h : ksC[q]? = some 7) : ksC[q + 7]? = some 30 := tk_sub (by decide +kernel) h
theorem kC_7_8 {q : Nat} (h : ksC[q]? = some 7) : ksC[q + 8]? = some 31 := tk_sub (by decide +kernel) h
theorem kC_at0 : ksC[0]? = some 11 := by decide +kernel
theorem kC_at1 : ksC[1]? = some 6 := by decide +kernel
theorem kC_at2 : ksC[2]? = some 20 := by decide +kernel
theorem kC_at3 : ksC[3]? = some 3 := by decide +kernel
theorem kC_at4 : ksC[4]? = some 39 := by decide +kernel
theorem kC_at5 : ksC[5]? = some 2 := by decide +kernel
theorem kC_at6 : ksC[6]? = some 21 := by decide +kernel
theorem kC_at7 : ksC[7]? = some 22 := by decide +kernel
theorem kC_at8 : ksC[8]? = some 23 := by decide +kernel
theorem kC_at9 : ksC[9]? = some 2 := by decide +kernel
theorem kC_at10 : ksC[10]? = some 21 := by decide +kernel
theorem kC_at11 : ksC[11]? = some 22 := by decide +kernel
theorem kC_at12 : ksC[12]? = some 23 := by decide +kernel
theorem kC_at13 : ksC[13]? = some 2 := by decide +kernel
theorem kC_at14 : ksC[14]? = some 21 := by decide +kernel
theorem kC_at15 : ksC[15]? = some 22 := by decide +kernel
theorem kC_at16 : ksC[16]? = some 23 := by decide +kernel
theorem kC_at17 : ksC[17]? = some 2 := by decide +kernel
theorem kC_at18 : ksC[18]? = some 21 := by decide +kernel
theorem kC_at19 : ksC[19]? = some 22 := by decide +kernel
theorem kC_at20 : ksC[20]? = some 23 := by decide +kernel
theorem kC_at21 : ksC[21]? = some 2 := by decide +kernel
theorem kC_at22 : ksC[22]? = some 21 := by decide +kernel
theorem kC_at23 : ksC[23]? = some 22 := by decide +kernel
theorem kC_at24 : ksC[24]? = some 23 := by decide +kernel
theorem kC_at25 : ksC[25]? = some 2 := by decide +kernel
theorem kC_at26 : ksC[26]? = some 21 := by decide +kernel
theorem kC_at27 : ksC[27]? = some 22 := by decide +kernel
theorem kC_at28 : ksC[28]? = some 23 := by decide +kernel
theorem kC_at29 : ksC[29]? = some 7 := by decide +kernel
theorem kC_at30 : ksC[30]? = some 24 := by decide +kernel
theorem kC_at31 : ksC[31]? = some 25 := by decide +kernel
theorem kC_at32 : ksC[32]? = some 26 := by decide +kernel
theorem kC_at33 : ksC[33]? = some 27 := by decide +kernel
theorem kC_at34 : ksC[34]? = some 28 := by decide +kernel
theorem kC_at35 : ksC[35]? = some 29 := by decide +kernel
theorem kC_at36 : ksC[36]? = some 30 := by decide +kernel
theorem kC_at37 : ksC[37]? = some 31 := by decide +kernel
theorem kC_at38 : ksC[38]? = some 5 := by decide +kernel
theorem kC_at39 : ksC[39]? = some 7 := by decide +kernel
theorem kC_at40 : ksC[40]? = some 24 := by decide +kernel
theorem kC_at41 : ksC[41]? = some 25 := by decide +kernel
theorem kC_at42 : ksC[42]? = some 26 := by decide +kernel
theorem kC_at43 : ksC[43]? = some 27 := by decide +kernel
theorem kC_at44 : ksC[44]? = some 28 := by decide +kernel
theorem kC_at45 : ksC[45]? = some 29 := by decide +kernel
theorem kC_at46 : ksC[46]? = some 30 := by decide +kernel
theorem kC_at47 : ksC[47]? = some 31 := by decide +kernel
theorem kC_at48 : ksC[48]? = some 32 := by decide +kernel
theorem kC_at49 : ksC[49]? = some 33 := by decide +kernel
theorem kC_at50 : ksC[50]? = some 34 := by decide +kernel
theorem kC_at51 : ksC[51]? = some 35 := by decide +kernel
theorem kC_at52 : ksC[52]? = some 36 := by decide +kernel
theorem kC_at53 : ksC[53]? = some 37 := by decide +kernel
theorem kC_at54 : ksC[54]? = some 38 := by decide +kernel
theorem kC_at55 : ksC[55]? = some 9 := by decide +kernel
theorem kC_at56 : ksC[56]? = some 9 := by decide +kernel
theorem kC_at57 : ksC[57]? = some 9 := by decide +kernel
theorem kC_at58 : ksC[58]? = some 9 := by decide +kernel
theorem kC_at59 : ksC[59]? = some 40 := by decide +kernel
theorem kC_at60 : ksC[60]? = some 5 := by decide +kernel
theorem kC_at61 : ksC[61]? = some 7 := by decide +kernel
theorem kC_at62 : ksC[62]? = some 24 := by decide +kernel
theorem kC_at63 : ksC[63]? = some 25 := by decide +kernel
theorem kC_at64 : ksC[64]? = some 26 := by decide +kernel
theorem kC_at65 : ksC[65]? = some 27 := by decide +kernel
theorem kC_at66 : ksC[66]? = some 28 := by decide +kernel
theorem kC_at67 : ksC[67]? = some 29 := by decide +kernel
theorem kC_at68 : ksC[68]? = some 30 := by decide +kernel
theorem kC_at69 : ksC[69]? = some 31 := by decide +kernel
theorem kC_at70 : ksC[70]? = some 32 := by decide +kernel
theorem kC_at71 : ksC[71]? = some 33 := by decide +kernel
theorem kC_at72 : ksC[72]? = some 34 := by decide +kernel
theorem kC_at73 : ksC[73]? = some 35 := by decide +kernel
theorem kC_at74 : ksC[74]? = some 36 := by decide +kernel
theorem kC_at75 : ksC[75]? = some 37 := by decide +kernel
theorem kC_at76 : ksC[76]? = some 38 := by decide +kernel
theorem kC_at77 : ksC[77]? = some 9 := by decide +kernel
theorem kC_at78 : ksC[78]? = some 9 := by decide +kernel
theorem kC_at79 : ksC[79]? = some 9 := by decide +kernel
theorem kC_at80 : ksC[80]? = some 9 := by decide +kernel
theorem kC_at81 : ksC[81]? = some 5 := by decide +kernel
theorem kC_at82 : ksC[82]? = some 7 := by decide +kernel
theorem kC_at83 : ksC[83]? = some 24 := by decide +kernel
theorem kC_at84 : ksC[84]? = some 25 := by decide +kernel
theorem kC_at85 : ksC[85]? = some 26 := by decide +kernel
theorem kC_at86 : ksC[86]? = some 27 := by decide +kernel
theorem kC_at87 : ksC[87]? = some 28 := by decide +kernel
theorem kC_at88 : ksC[88]? = some 29 := by decide +kernel
theorem kC_at89 : ksC[89]? = some 30 := by decide +kernel
theorem kC_at90 : ksC[90]? = some 31 := by decide +kernel
theorem kC_at91 : ksC[91]? = some 32 := by decide +kernel
theorem kC_at92 : ksC[92]? = some 33 := by decide +kernel
theorem kC_at93 : ksC[93]? = some 34 := by decide +kernel
theorem kC_at94 : ksC[94]? = some 35 := by decide +kernel
theorem kC_at95 : ksC[95]? = some 36 := by decide +kernel
theorem kC_at96 : ksC[96]? = some 37 := by decide +kernel
theorem kC_at97 : ksC[97]? = some 38 := by decide +kernel
theorem kC_at98 : ksC[98]? = some 9 := by decide +kernel
theorem kC_at99 : ksC[99]? = some 9 := by decide +kernel
theorem kC_at100 : ksC[100]? = some 9 := by decide +kernel
theorem kC_at101 : ksC[101]? = some 9 := by decide +kernel
theorem kC_at102 : ksC[102]? = some 5 := by decide +kernel
theorem kC_at103 : ksC[103]? = some 7 := by decide +kernel
theorem kC_at104 : ksC[104]? = some 24 := by decide +kernel
theorem kC_at105 : ksC[105]? = some 25 := by decide +kernel
theorem kC_at106 : ksC[106]? = some 26 := by decide +kernel
theorem kC_at107 : ksC[107]? = some 27 := by decide +kernel
theorem kC_at108 : ksC[108]? = some 28 := by decide +kernel
theorem kC_at109 : ksC[109]? = some 29 := by decide +kernel
theorem kC_at110 : ksC[110]? = some 30 := by decide +kernel
theorem kC_at111 : ksC[111]? = some 31 := by decide +kernel
theorem kC_at112 : ksC[112]? = some 32 := by decide +kernel
theorem kC_at113 : ksC[113]? = some 33 := by decide +kernel
theorem kC_at114 : ksC[114]? = some 34 := by decide +kernel
theorem kC_at115 : ksC[115]? = some 35 := by decide +kernel
theorem kC_at116 : ksC[116]? = some 36 := by decide +kernel
theorem kC_at117 : ksC[117]? = some 37 := by decide +kernel
theorem kC_at118 : ksC[118]? = some 38 := by decide +kernel
theorem kC_at119 : ksC[119]? = some 9 := by decide +kernel
theorem kC_at120 : ksC[120]? = some 9 := by decide +kernel
theorem kC_at121 : ksC[121]? = some 9 := by decide +kernel
theorem kC_at122 : ksC[122]? = some 9 := by decide +kernel
theorem kC_at123 : ksC[123]? = some 5 := by decide +kernel
theorem kC_at124 : ksC[124]? = some 7 := by decide +kernel
theorem kC_at125 : ksC[125]? = some 24 := by decide +kernel
theorem kC_at126 : ksC[126]? = some 25 := by decide +kernel
theorem kC_at127 : ksC[127]? = some 26 := by decide +kernel
theorem kC_at128 : ksC[128]? = some 27 := by decide +kernel
theorem kC_at129 : ksC[129]? = some 28 := by decide +kernel
theorem kC_at130 : ksC[130]? = some 29 := by decide +kernel
theorem kC_at131 : ksC[131]? = some 30 := by decide +kernel
theorem kC_at132 : ksC[132]? = some 31 := by decide +kernel
theorem kC_at133 : ksC[133]? = some 32 := by decide +kernel
theorem kC_at134 : ksC[134]? = some 33 := by decide +kernel
theorem kC_at135 : ksC[135]? = some 34 := by decide +kernel
theorem kC_at136 : ksC[136]? = some 35 := by decide +kernel
theorem kC_at137 : ksC[137]? = some 36 := by decide +kernel
theorem kC_at138 : ksC[138]? = some 37 := by decide +kernel
theorem kC_at139 : ksC[139]? = some 38 := by decide +kernel
theorem kC_at140 : ksC[140]? = some 9 := by decide +kernel
theorem kC_at141 : ksC[141]? = some 9 := by decide +kernel
theorem kC_at142 : ksC[142]? = some 9 := by decide +kernel
theorem kC_at143 : ksC[143]? = some 9 := by decide +kernel
theorem kC_at144 : ksC[144]? = some 41 := by decide +kernel
theorem kC_at145 : ksC[145]? = some 0 := by decide +kernel
theorem kC_at146 : ksC[146]? = some 42 := by decide +kernel
theorem kC_at147 : ksC[147]? = some 43 := by decide +kernel
theorem kC_at148 : ksC[148]? = some 44 := by decide +kernel
theorem kC_at149 : ksC[149]? = some 1 := by decide +kernel
theorem kC_at150 : ksC[150]? = some 45 := by decide +kernel
theorem kC_at151 : ksC[151]? = some 8 := by decide +kernel
theorem kC_at152 : ksC[152]? = some 9 := by decide +kernel
theorem kC_at153 : ksC[153]? = some 46 := by decide +kernel
theorem kC_at154 : ksC[154]? = some 47 := by decide +kernel
theorem kC_at155 : ksC[155]? = some 4 := by decide +kernel
theorem kC_at156 : ksC[156]? = some 48 := by decide +kernel
theorem kC_at157 : ksC[157]? = some 49 := by decide +kernel
theorem kC_at158 : ksC[158]? = some 10 := by decide +kernel
theorem kC_at159 : ksC[159]? = some 50 := by decide +kernel
theorem kC_at160 : ksC[160]? = some 51 := by decide +kernel
theorem kM_at0 : ksM[0]? = some 12 := by decide +kernel
theorem kM_at1 : ksM[1]? = some 60 := by decide +kernel
theorem kM_at2 : ksM[2]? = some 61 := by decide +kernel
theorem kM_at3 : ksM[3]? = some 62 := by decide +kernel
theorem kM_at4 : ksM[4]? = some 63 := by decide +kernel
theorem kM_at5 : ksM[5]? = some 64 := by decide +kernel
theorem kM_at6 : ksM[6]? = some 65 := by decide +kernel
theorem kM_at7 : ksM[7]? = some 66 := by decide +kernel
theorem kM_at8 : ksM[8]? = some 67 := by decide +kernel
theorem kM_at9 : ksM[9]? = some 68 := by decide +kernel
theorem kM_at10 : ksM[10]? = some 69 := by decide +kernel
theorem kM_at11 : ksM[11]? = some 70 := by decide +kernel
theorem kM_at12 : ksM[12]? = some 71 := by decide +kernel
theorem kM_at13 : ksM[13]? = some 72 := by decide +kernel
theorem kM_at14 : ksM[14]? = some 73 := by decide +kernel
theorem kM_at15 : ksM[15]? = some 74 := by decide +kernel
theorem kM_at16 : ksM[16]? = some 75 := by decide +kernel
theorem kM_at17 : ksM[17]? = some 76 := by decide +kernel
theorem kM_at18 : ksM[18]? = some 77 := by decide +kernel
theorem kM_at19 : ksM[19]? = some 78 := by decide +kernel
theorem kM_at20 : ksM[20]? = some 79 := by decide +kernel
theorem kM_at21 : ksM[21]? = some 80 := by decide +kernel
theorem kM_at22 : ksM[22]? = some 81 := by decide +kernel
theorem kC_el33 {q i : Nat} (h : ksC[q]? = some 33) (hi : i < 4) : ksC[el 33 q i]? = some 9 := by
  obtain rfl | rfl | rfl | rfl : i = 0 ∨ i = 1 ∨ i = 2 ∨ i = 3 := by omega
  all_goals (show ksC[q + 6 + _]? = some 9; rw [Nat.add_assoc]; exact tk_sub (by decide +kernel) h)
theorem kC_el39 {q i : Nat} (_ : ksC[q]? = some 39) (hi : i < 6) : ksC[el 39 q i]? = some 2 := by
  obtain rfl | rfl | rfl | rfl | rfl | rfl : i = 0 ∨ i = 1 ∨ i = 2 ∨ i = 3 ∨ i = 4 ∨ i = 5 := by omega
  all_goals rfl
theorem kC_el40 {q i : Nat} (_ : ksC[q]? = some 40) (hi : i < 4) : ksC[el 40 q i]? = some 5 := by
  obtain rfl | rfl | rfl | rfl : i = 0 ∨ i = 1 ∨ i = 2 ∨ i = 3 := by omega
  all_goals rfl
