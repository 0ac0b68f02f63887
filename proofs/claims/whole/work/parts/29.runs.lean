/-! A run as numbers: what both sides keep of it and tell of it. -/
def nxt (t : TBT) (r : RGT) (i : Nat) (s : PST) : Option PST := stepS t (rk r i) (ra r i) (rb r i) s
def wk (t : TBT) (r : RGT) (s0 : PST) : Nat → Option PST
  | 0 => some s0
  | i + 1 => (wk t r s0 i).bind (nxt t r i)
def gol (t : TBT) (r : RGT) : Nat → Nat → PST → Nat
  | 0, i, _ => i
  | f + 1, i, s => match nxt t r i s with
    | none => i
    | some s' => gol t r f (i + 1) s'
abbrev RUT : Type := Nat × Bool × (Nat → PST) × (Nat → Int)
def um (R : RUT) : Nat := R.1
def us (R : RUT) : Bool := R.2.1
def uS (R : RUT) : Nat → PST := R.2.2.1
def uK (R : RUT) : Nat → Int := R.2.2.2
def runOf (t : TBT) (r : RGT) (s0 : PST) : RUT := (gol t r (rn r) 0 s0, decide (gol t r (rn r) 0 s0 < rn r), fun i => (wk t r s0 i).getD s0, rk r)
def cmx (S : Nat → PST) : Nat → Nat
  | 0 => 1
  | i + 1 => if cmx S i = 0 then 0 else if Nat.lcm (cmx S i) (S i).2.2.natAbs ≤ 1000000000000 then Nat.lcm (cmx S i) (S i).2.2.natAbs else 0
def mor (S : Nat → PST) (L : Int) (i : Nat) : Int := (S (i + 1)).2.1 * (L / (S (i + 1)).2.2) - (S i).2.1 * (L / (S i).2.2)
def woU (K : Nat → Int) (S : Nat → PST) (L : Int) : Nat → Int
  | 0 => 0
  | i + 1 => woU K S L i + (if K i = 0 then mor S L i else 0)
def waU (K : Nat → Int) (S : Nat → PST) (L : Int) : Nat → Int
  | 0 => 0
  | i + 1 => waU K S L i + (if K i = 0 then 0 else if 0 < mor S L i then mor S L i else 0)
def coU (K : Nat → Int) (S : Nat → PST) (L : Int) : Nat → Int
  | 0 => 0
  | i + 1 => coU K S L i + (if K i = 0 then 0 else if 0 < mor S L i then 0 else - mor S L i)
/-- the common lower number of a run; 0: not told -/
def uL (R : RUT) : Nat := if us R = true then 0 else cmx (uS R) (um R + 1)
def uWo (R : RUT) : Int := woU (uK R) (uS R) (uL R) (um R)
def uWa (R : RUT) : Int := waU (uK R) (uS R) (uL R) (um R)
def uCo (R : RUT) : Int := coU (uK R) (uS R) (uL R) (um R)
def uRnd (R : RUT) : Prop := us R = false ∧ uS R 0 = uS R (um R)
def uSh (R : RUT) : Prop := 0 < uL R ∧ uRnd R ∧ 0 < uWo R
/-- a run that may stand -/
def RW (t : TBT) (R : RUT) : Prop := um R ≤ 12 ∧ (∀ i, i ≤ um R → SG t (uS R i)) ∧ ∀ i, i < um R → (0 ≤ uK R i ∧ uK R i ≤ 3) ∧ (uK R i = 1 → (uS R (i + 1)).2 = (uS R i).2)
theorem gol_le {t : TBT} {r : RGT} : ∀ (f i : Nat) (s : PST), i ≤ gol t r f i s ∧ gol t r f i s ≤ i + f
  | 0, i, s => ⟨Nat.le_refl _, Nat.le_refl _⟩
  | f + 1, i, s => by
    unfold gol
    cases nxt t r i s with
    | none => exact ⟨Nat.le_refl _, by simp only []; omega⟩
    | some s' =>
      have := gol_le (t := t) (r := r) f (i + 1) s'
      simp only []
      omega
theorem gol_wk {t : TBT} {r : RGT} {s0 : PST} : ∀ (f i : Nat) (s : PST), wk t r s0 i = some s → ∀ j, i ≤ j → j ≤ gol t r f i s → ∃ s', wk t r s0 j = some s'
  | 0, i, s, h, j, h1, h2 => by
    have : j = i := by
      have : gol t r 0 i s = i := rfl
      omega
    exact ⟨s, by rw [this]; exact h⟩
  | f + 1, i, s, h, j, h1, h2 => by
    unfold gol at h2
    cases hn : nxt t r i s with
    | none =>
      rw [hn] at h2
      simp only [] at h2
      exact ⟨s, by rw [show j = i by omega]; exact h⟩
    | some s' =>
      rw [hn] at h2
      simp only [] at h2
      rcases Nat.lt_or_ge i j with q | q
      · exact gol_wk f (i + 1) s' (by unfold wk; rw [h]; exact hn) j q h2
      · exact ⟨s, by rw [show j = i by omega]; exact h⟩
theorem raw_good {t : TBT} (tg : TG t) {k a b : Int} (pg : PG k a b) {s : PST} (sg : SG t s) {r : PST} (h : rawS t k a b s = some r) : r.1 < tnp t ∧ 0 < r.2.2 ∧ Nat.Coprime r.2.1.natAbs r.2.2.natAbs ∧ (k = 1 → r.2 = s.2) := by
  obtain ⟨sp, sw, sw2, sc, sl, sr⟩ := sg
  have gp := tg.2 s.1 sp
  unfold rawS at h
  split at h
  · rename_i k0
    split at h
    · rename_i c
      split at h
      · cases h
      · rename_i i hi
        split at h
        · cases h
        · rename_i j hj
          cases h
          have hi2 := List.find?_some hi
          have hj2 := List.find?_some hj
          simp only [Bool.and_eq_true, btb_iff] at hi2 hj2
          have p1 : 0 < bD (tF t s.1) s.2.2 i := Int.mul_pos (by have := hi2.2.1; omega) sw
          have p2 : 0 < hDn (tF t s.1) (tO t a.toNat) s.2.2 i j := Int.mul_pos (by have := hj2.2.1; omega) p1
          have p3 : 0 < pD (tF t s.1) (tO t a.toNat) s.2.2 b i j := Int.mul_pos p2 (by unfold PG at pg; omega)
          exact ⟨by show a.toNat < tnp t; omega, rL_pos p3, r_cop p3, fun e => by omega⟩
    · cases h
  · split at h
    · split at h
      · rename_i c
        cases h
        exact ⟨by show a.toNat < tnp t; omega, sw, sc, fun _ => rfl⟩
      · cases h
    · rename_i k0 k1
      split at h
      · split at h
        · cases h
          exact ⟨sp, show (0 : Int) < 1 by decide, by simp, fun e => absurd e k1⟩
        · split at h
          · split at h
            · cases h
            · rename_i i hi
              cases h
              have hi2 := List.find?_some hi
              simp only [Bool.and_eq_true, btb_iff] at hi2
              have p1 : 0 < bD (tW t s.1) 1 i := Int.mul_pos (by have := hi2.2.1; omega) (by decide)
              exact ⟨sp, rL_pos p1, r_cop p1, fun e => absurd e k1⟩
          · cases h
            exact ⟨sp, show (0 : Int) < 1 by decide, by simp, fun e => absurd e k1⟩
      · split at h
        · cases h
          exact ⟨sp, rL_pos sw, r_cop sw, fun e => absurd e k1⟩
        · cases h
theorem step_good {t : TBT} (tg : TG t) {k a b : Int} (pg : PG k a b) {s : PST} (sg : SG t s) {r : PST} (h : stepS t k a b s = some r) : SG t r ∧ (k = 1 → r.2 = s.2) := by
  unfold stepS at h
  split at h
  · cases h
  · rename_i r' hr
    split at h
    · rename_i ok
      cases h
      have g := raw_good tg pg sg hr
      have o := okS_iff.mp ok
      exact ⟨⟨g.1, g.2.1, o.1, g.2.2.1, o.2.1, o.2.2⟩, g.2.2.2⟩
    · cases h
theorem wk_good {t : TBT} (tg : TG t) {r : RGT} (rg : RGood r) {s0 : PST} (sg : SG t s0) : ∀ (i : Nat), i ≤ rn r → ∀ s, wk t r s0 i = some s → SG t s
  | 0, _, s, h => by cases h; exact sg
  | i + 1, hi, s, h => by
    unfold wk at h
    cases hw : wk t r s0 i with
    | none => rw [hw] at h; cases h
    | some s1 =>
      rw [hw] at h
      have g1 := wk_good tg rg sg i (by omega) s1 hw
      have := rg.1
      exact (step_good tg ((rg.2 i (by omega)).2.2.2 (by omega)) g1 h).1
theorem PG_k {k a b : Int} (h : PG k a b) : 0 ≤ k ∧ k ≤ 3 := by unfold PG at h; omega
theorem runOf_RW {t : TBT} (tg : TG t) {r : RGT} (rg : RGood r) {s0 : PST} (sg : SG t s0) : RW t (runOf t r s0) := by
  have hm := gol_le (t := t) (r := r) (rn r) 0 s0
  have h12 := rg.1
  have hw : ∀ i, i ≤ gol t r (rn r) 0 s0 → ∃ s', wk t r s0 i = some s' := fun i hi => gol_wk (rn r) 0 s0 rfl i (Nat.zero_le _) hi
  refine ⟨by show gol t r (rn r) 0 s0 ≤ 12; omega, fun i hi => ?_, fun i hi => ?_⟩
  · have hi' : i ≤ gol t r (rn r) 0 s0 := hi
    obtain ⟨s', e⟩ := hw i hi'
    show SG t ((wk t r s0 i).getD s0)
    rw [e]
    exact wk_good tg rg sg i (by omega) s' e
  · have hi' : i < gol t r (rn r) 0 s0 := hi
    obtain ⟨s1, e1⟩ := hw i (by omega)
    obtain ⟨s2, e2⟩ := hw (i + 1) (by omega)
    have pg := (rg.2 i (by omega)).2.2.2 (by omega)
    refine ⟨PG_k pg, fun e => ?_⟩
    show ((wk t r s0 (i + 1)).getD s0).2 = ((wk t r s0 i).getD s0).2
    have e3 : nxt t r i s1 = some s2 := by
      have : wk t r s0 (i + 1) = (wk t r s0 i).bind (nxt t r i) := rfl
      rw [e1, e2] at this
      exact this.symm
    rw [e1, e2]
    exact (step_good tg pg (wk_good tg rg sg i (by omega) s1 e1) e3).2 e
theorem cmx_le (S : Nat → PST) : ∀ i, cmx S i ≤ 1000000000000
  | 0 => by unfold cmx; omega
  | i + 1 => by
    unfold cmx
    split
    · omega
    · split
      · assumption
      · omega
theorem cmx_zero {S : Nat → PST} {i : Nat} (h : cmx S i = 0) : ∀ d, cmx S (i + d) = 0
  | 0 => h
  | d + 1 => by
    rw [← Nat.add_assoc]
    unfold cmx
    rw [if_pos (cmx_zero h d)]
theorem cmx_dvd {S : Nat → PST} : ∀ (n : Nat), 0 < cmx S n → (∀ i, i < n → 0 < (S i).2.2) → ∀ i, i < n → (S i).2.2 ∣ (cmx S n : Int)
  | 0, _, _, i, hi => absurd hi (by omega)
  | n + 1, h, hp, i, hi => by
    unfold cmx at h ⊢
    by_cases h0 : cmx S n = 0
    · rw [if_pos h0] at h
      omega
    · rw [if_neg h0] at h ⊢
      by_cases h1 : Nat.lcm (cmx S n) (S n).2.2.natAbs ≤ 1000000000000
      · rw [if_pos h1] at h ⊢
        rcases Nat.lt_or_ge i n with q | q
        · refine Int.dvd_trans (cmx_dvd n (by omega) (fun j hj => hp j (by omega)) i q) ?_
          exact Int.natCast_dvd_natCast.mpr (Nat.dvd_lcm_left _ _)
        · rw [show i = n by omega]
          have e : (S n).2.2 = ((S n).2.2.natAbs : Int) := by have := hp n (by omega); omega
          have d := Int.natCast_dvd_natCast.mpr (Nat.dvd_lcm_right (cmx S n) (S n).2.2.natAbs)
          rw [← e] at d
          exact d
      · rw [if_neg h1] at h
        omega
theorem up_bound {u w L : Int} (hw : 0 < w) (h0 : 0 ≤ u) (h1 : u ≤ 1000 * w) (hL : 0 ≤ L) : 0 ≤ u * (L / w) ∧ u * (L / w) ≤ 1000 * L := by
  have q0 : 0 ≤ L / w := Int.ediv_nonneg hL (by omega)
  have q1 : w * (L / w) ≤ L := Int.mul_ediv_self_le (by omega)
  have q2 : u * (L / w) ≤ 1000 * w * (L / w) := Int.mul_le_mul_of_nonneg_right h1 q0
  rw [Int.mul_assoc] at q2
  exact ⟨Int.mul_nonneg h0 q0, by omega⟩
theorem mor_bound {t : TBT} (tg : TG t) {S : Nat → PST} {m : Nat} (hs : ∀ i, i ≤ m → SG t (S i)) {L : Int} (hL : 0 ≤ L) {i : Nat} (hi : i < m) : (mor S L i).natAbs ≤ 1000 * L.natAbs := by
  have a1 := SG_b tg (hs i (by omega))
  have a2 := SG_b tg (hs (i + 1) (by omega))
  have b1 := up_bound (hs i (by omega)).2.1 a1.1 a1.2 hL
  have b2 := up_bound (hs (i + 1) (by omega)).2.1 a2.1 a2.2 hL
  unfold mor
  omega
theorem sum_bound {K : Nat → Int} {S : Nat → PST} {L : Int} {B m : Nat} (hb : ∀ i, i < m → (mor S L i).natAbs ≤ B) : ∀ n, n ≤ m → (woU K S L n).natAbs ≤ n * B ∧ (waU K S L n).natAbs ≤ n * B ∧ (coU K S L n).natAbs ≤ n * B ∧ 0 ≤ waU K S L n ∧ 0 ≤ coU K S L n
  | 0, _ => by simp [woU, waU, coU]
  | n + 1, h => by
    have ih := sum_bound (K := K) hb n (by omega)
    have hm := hb n (by omega)
    unfold woU waU coU
    rw [Nat.add_mul, Nat.one_mul]
    split <;> (try split) <;> omega
