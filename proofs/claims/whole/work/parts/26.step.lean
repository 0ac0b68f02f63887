/-! One part gone through, as a function: what both sides compute. -/
def btb (f : Nat → Int) (u w : Int) (i : Nat) : Bool := decide (f i < f (i + 1)) && decide (f i * w ≤ u) && decide (u ≤ f (i + 1) * w)
theorem btb_iff {f : Nat → Int} {u w : Int} {i : Nat} : btb f u w i = true ↔ btw f u w i := by
  unfold btb btw
  simp only [Bool.and_eq_true, decide_eq_true_eq]
  exact ⟨fun h => ⟨h.1.1, h.1.2, h.2⟩, fun h => ⟨⟨h.1, h.2.1⟩, h.2.2⟩⟩
/-- the first stretch from 'first' on that holds u / w -/
def fs (f : Nat → Int) (u w : Int) (first n : Nat) : Option Nat := (List.range (n - 1)).find? fun i => decide (first ≤ i) && btb f u w i
theorem fs_some {f : Nat → Int} {u w : Int} {first n i : Nat} (h1 : first ≤ i) (h2 : i + 1 < n) (h3 : btw f u w i) (h4 : ∀ j, first ≤ j → j < i → ¬ btw f u w j) : fs f u w first n = some i := by
  unfold fs
  rw [List.find?_range_eq_some]
  refine ⟨by simp [h1, btb_iff.mpr h3], List.mem_range.mpr (by omega), fun j hj => ?_⟩
  simp only [Bool.not_eq_true', Bool.and_eq_false_iff, decide_eq_false_iff_not]
  by_cases hf : first ≤ j
  · right
    cases hb : btb f u w j with
    | false => rfl
    | true => exact absurd (btb_iff.mp hb) (h4 j hf hj)
  · exact Or.inl hf
theorem fs_none {f : Nat → Int} {u w : Int} {first n : Nat} (h : ∀ j, first ≤ j → j + 1 < n → ¬ btw f u w j) : fs f u w first n = none := by
  unfold fs
  rw [List.find?_eq_none]
  intro j hj
  have hj2 := List.mem_range.mp hj
  simp only [Bool.and_eq_true, decide_eq_true_eq, not_and]
  intro h1 h2
  exact h j h1 (by omega) (btb_iff.mp h2)
abbrev TBT : Type := Nat × (Nat → Nat) × (Nat → Nat → Int) × (Nat → Nat → Int) × (Nat → Nat → Int)
abbrev PST : Type := Nat × Int × Int
def tnp (t : TBT) : Nat := t.1
def tpt (t : TBT) : Nat → Nat := t.2.1
def tF (t : TBT) : Nat → Nat → Int := t.2.2.1
def tO (t : TBT) : Nat → Nat → Int := t.2.2.2.1
def tW (t : TBT) : Nat → Nat → Int := t.2.2.2.2
def rawS (t : TBT) (kn a b : Int) (s : PST) : Option PST :=
  if kn = 0 then
    (if 0 ≤ a ∧ a < tnp t ∧ (s.1 : Int) < a then
      (match fs (tF t s.1) s.2.1 s.2.2 0 (tpt t s.1) with
      | none => none
      | some i => match fs (tO t a.toNat) (bN (tF t s.1) (tO t s.1) s.2.1 s.2.2 i) (bD (tF t s.1) s.2.2 i) 0 (tpt t a.toNat) with
        | none => none
        | some j => some (a.toNat, rU (pN (tF t s.1) (tO t s.1) (tO t a.toNat) (tF t a.toNat) s.2.1 s.2.2 b i j) (pD (tF t s.1) (tO t a.toNat) s.2.2 b i j), rL (pN (tF t s.1) (tO t s.1) (tO t a.toNat) (tF t a.toNat) s.2.1 s.2.2 b i j) (pD (tF t s.1) (tO t a.toNat) s.2.2 b i j)))
    else none)
  else if kn = 1 then (if 0 ≤ a ∧ a < tnp t ∧ a < (s.1 : Int) then some (a.toNat, s.2.1, s.2.2) else none)
  else if kn = 2 then
    (if a = 0 then some (s.1, tF t s.1 0, 1)
    else if a = 2 ∧ 0 < b then
      (match fs (tW t s.1) (tW t s.1 1 + b) 1 1 (tpt t s.1) with
      | none => none
      | some i => some (s.1, rU (bN (tW t s.1) (tF t s.1) (tW t s.1 1 + b) 1 i) (bD (tW t s.1) 1 i), rL (bN (tW t s.1) (tF t s.1) (tW t s.1 1 + b) 1 i) (bD (tW t s.1) 1 i)))
    else some (s.1, tF t s.1 1, 1))
  else
    (if wN (tF t s.1) (rU (s.2.1 + a * s.2.2) s.2.2) (rL (s.2.1 + a * s.2.2) s.2.2) * 100 ≤ b * ((tF t s.1 1 - tF t s.1 0) * rL (s.2.1 + a * s.2.2) s.2.2) then some (s.1, rU (s.2.1 + a * s.2.2) s.2.2, rL (s.2.1 + a * s.2.2) s.2.2) else none)
/-- whether a state that goes out may stand -/
def okS (t : TBT) (s : PST) : Bool := decide (s.2.2 ≤ 10000000) && decide (tF t s.1 0 * s.2.2 ≤ s.2.1) && decide (s.2.1 ≤ tF t s.1 (tpt t s.1 - 1) * s.2.2)
def stepS (t : TBT) (kn a b : Int) (s : PST) : Option PST := match rawS t kn a b s with
  | none => none
  | some r => if okS t r = true then some r else none
