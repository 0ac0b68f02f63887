/-! Tables, states and rings in the cells; Stuff.tableAt, Stuff.passes. -/
theorem Fr.kd' {SI SJ : Nat → Prop} {h h1 : HP} (f : Fr SI SJ h h1) (a : Nat) : kd h1 a = kd h a := by
  unfold kd
  rw [f.1]
theorem Fr.zl' {SI SJ : Nat → Prop} {h h1 : HP} (f : Fr SI SJ h h1) (a : Nat) : zl h1 a = zl h a := by
  unfold zl
  rw [f.1]
theorem Fr.hR' {SI SJ : Nat → Prop} {h h1 : HP} (f : Fr SI SJ h h1) (a j : Nat) : hR h1 a j = hR h a j := by
  unfold hR
  rw [f.2.1]
theorem COL_fr {SI SJ : Nat → Prop} {h h1 : HP} (f : Fr SI SJ h h1) {a n : Nat} {g : Nat → Int} (ha : ¬ SI a) (c : COL h a n g) : COL h1 a n g := ⟨by rw [f.kd']; exact c.1, by rw [f.zl']; exact c.2.1, fun i hi => by rw [f.2.2.1 a ha]; exact c.2.2 i hi⟩
def TGp (t : TBT) (p : Nat) : Prop := 2 ≤ tpt t p ∧ tpt t p ≤ 8 ∧ (∀ i, i < tpt t p → (0 ≤ tF t p i ∧ tF t p i ≤ 1000) ∧ (0 ≤ tO t p i ∧ tO t p i ≤ 1000) ∧ (-200 ≤ tW t p i ∧ tW t p i ≤ 1000)) ∧ (∀ i, i + 1 < tpt t p → tF t p i < tF t p (i + 1) ∧ tO t p i < tO t p (i + 1) ∧ (1 ≤ i → tW t p i < tW t p (i + 1))) ∧ tW t p 1 = tW t p 0
def TG (t : TBT) : Prop := tnp t ≤ 10 ∧ ∀ p, p < tnp t → TGp t p
def TCp (h : HP) (t : TBT) (p T : Nat) : Prop := hR h 3 p = some T ∧ 139 ≤ T ∧ kd h T = 6 ∧ hR h T 0 = some (T + 1) ∧ hR h T 1 = some (T + 2) ∧ hR h T 2 = some (T + 3) ∧ hI h T 3 = nI (tpt t p) ∧ COL h (T + 1) (tpt t p) (tF t p) ∧ COL h (T + 2) (tpt t p) (tO t p) ∧ COL h (T + 3) (tpt t p) (tW t p)
def TC (h : HP) (t : TBT) : Prop := hI h 2 3 = nI (tnp t) ∧ ∀ p, p < tnp t → ∃ T, TCp h t p T
theorem TCp_fr {SI SJ : Nat → Prop} {h h1 : HP} (f : Fr SI SJ h h1) (hs : ∀ b, 139 ≤ b → ¬ SI b) {t : TBT} {p T : Nat} (c : TCp h t p T) : TCp h1 t p T := by
  obtain ⟨a1, a2, a3, a4, a5, a6, a7, a8, a9, a10⟩ := c
  refine ⟨by rw [f.hR']; exact a1, a2, by rw [f.kd']; exact a3, by rw [f.hR']; exact a4, by rw [f.hR']; exact a5, by rw [f.hR']; exact a6, by rw [f.2.2.1 T (hs T a2)]; exact a7, COL_fr f (hs _ (by omega)) a8, COL_fr f (hs _ (by omega)) a9, COL_fr f (hs _ (by omega)) a10⟩
theorem TC_fr {SI SJ : Nat → Prop} {h h1 : HP} (f : Fr SI SJ h h1) (hs : ∀ b, 139 ≤ b → ¬ SI b) (h2 : ¬ SI 2) {t : TBT} (c : TC h t) : TC h1 t := by
  refine ⟨by rw [f.2.2.1 2 h2]; exact c.1, fun p hp => ?_⟩
  obtain ⟨T, hT⟩ := c.2 p hp
  exact ⟨T, TCp_fr f hs hT⟩
/-- a state's place, and what it holds -/
def SK (h : HP) (a : Nat) : Prop := kd h a = 4 ∧ hR h a 0 = some (a + 1) ∧ kd h (a + 1) = 1
def SA (h : HP) (a : Nat) (s : PST) : Prop := hI h a 1 = nI s.1 ∧ RA h (a + 1) s.2.1 s.2.2
theorem SK_fr {SI SJ : Nat → Prop} {h h1 : HP} (f : Fr SI SJ h h1) {a : Nat} (c : SK h a) : SK h1 a := ⟨by rw [f.kd']; exact c.1, by rw [f.hR']; exact c.2.1, by rw [f.kd']; exact c.2.2⟩
theorem SA_fr {SI SJ : Nat → Prop} {h h1 : HP} (f : Fr SI SJ h h1) {a : Nat} {s : PST} (h1' : ¬ SI a) (h2 : ¬ SJ (a + 1)) (c : SA h a s) : SA h1 a s := ⟨by rw [f.2.2.1 a h1']; exact c.1, RA_fr f h2 c.2⟩
def SG (t : TBT) (s : PST) : Prop := s.1 < tnp t ∧ 0 < s.2.2 ∧ s.2.2 ≤ 10000000 ∧ Nat.Coprime s.2.1.natAbs s.2.2.natAbs ∧ tF t s.1 0 * s.2.2 ≤ s.2.1 ∧ s.2.1 ≤ tF t s.1 (tpt t s.1 - 1) * s.2.2
theorem SG_b {t : TBT} (tg : TG t) {s : PST} (sg : SG t s) : 0 ≤ s.2.1 ∧ s.2.1 ≤ 1000 * s.2.2 := by
  obtain ⟨h1, h2, h3, h4, h5, h6⟩ := sg
  obtain ⟨g1, g2, g3, -⟩ := tg.2 s.1 h1
  have a0 := (g3 0 (by omega)).1
  have a1 := (g3 (tpt t s.1 - 1) (by omega)).1
  have e0 : 0 ≤ tF t s.1 0 * s.2.2 := Int.mul_nonneg a0.1 (by omega)
  have e1 : tF t s.1 (tpt t s.1 - 1) * s.2.2 ≤ 1000 * s.2.2 := Int.mul_le_mul_of_nonneg_right a1.2 (by omega)
  omega
theorem btw_ex {f : Nat → Int} {u w : Int} : ∀ (n : Nat), 2 ≤ n → (∀ i, i + 1 < n → f i < f (i + 1)) → f 0 * w ≤ u → u ≤ f (n - 1) * w → ∃ i, i + 1 < n ∧ btw f u w i
  | 0, h, _, _, _ => absurd h (by omega)
  | 1, h, _, _, _ => absurd h (by omega)
  | 2, _, hm, h0, h1 => ⟨0, by omega, hm 0 (by omega), h0, h1⟩
  | n + 3, _, hm, h0, h1 => by
    by_cases c : u ≤ f (n + 1) * w
    · obtain ⟨i, a, b⟩ := btw_ex (n + 2) (by omega) (fun i hi => hm i (by omega)) h0 (by simpa using c)
      exact ⟨i, by omega, b⟩
    · exact ⟨n + 1, by omega, hm (n + 1) (by omega), by omega, by simpa using h1⟩
abbrev RGT : Type := Nat × (Nat → Int) × (Nat → Int) × (Nat → Int)
def rn (r : RGT) : Nat := r.1
def rk (r : RGT) : Nat → Int := r.2.1
def ra (r : RGT) : Nat → Int := r.2.2.1
def rb (r : RGT) : Nat → Int := r.2.2.2
def RK (h : HP) (b : Nat) : Prop := (kd h b = 2 ∧ hR h b 0 = some (b + 1) ∧ hR h b 1 = some (b + 2) ∧ hR h b 2 = some (b + 3)) ∧ (kd h (b + 1) = 10 ∧ zl h (b + 1) = 12) ∧ (kd h (b + 2) = 10 ∧ zl h (b + 2) = 12) ∧ kd h (b + 3) = 10 ∧ zl h (b + 3) = 12
def RG (h : HP) (b : Nat) (r : RGT) : Prop := hI h b 3 = nI (rn r) ∧ ∀ i, i < 12 → hI h (b + 1) i = io (rk r i) ∧ hI h (b + 2) i = io (ra r i) ∧ hI h (b + 3) i = io (rb r i)
theorem RK_fr {SI SJ : Nat → Prop} {h h1 : HP} (f : Fr SI SJ h h1) {a : Nat} (c : RK h a) : RK h1 a := by
  unfold RK at *
  simp only [f.kd', f.zl', f.hR']
  exact c
theorem RG_fr {SI SJ : Nat → Prop} {h h1 : HP} (f : Fr SI SJ h h1) {b : Nat} {r : RGT} (n0 : ¬ SI b) (n1 : ¬ SI (b + 1)) (n2 : ¬ SI (b + 2)) (n3 : ¬ SI (b + 3)) (c : RG h b r) : RG h1 b r := ⟨by rw [f.2.2.1 b n0]; exact c.1, fun i hi => by rw [f.2.2.1 _ n1, f.2.2.1 _ n2, f.2.2.1 _ n3]; exact c.2 i hi⟩
def PG (k a b : Int) : Prop := (k = 0 ∧ 0 ≤ a ∧ a ≤ 9 ∧ 1 ≤ b ∧ b ≤ 100) ∨ (k = 1 ∧ 0 ≤ a ∧ a ≤ 9) ∨ (k = 2 ∧ 0 ≤ a ∧ a ≤ 2 ∧ (a = 2 → 0 ≤ b ∧ b ≤ 1000)) ∨ (k = 3 ∧ -1000 ≤ a ∧ a ≤ 1000 ∧ 0 ≤ b ∧ b ≤ 100)
def RGood (r : RGT) : Prop := rn r ≤ 12 ∧ ∀ i, i < 12 → IB (rk r i) ∧ IB (ra r i) ∧ IB (rb r i) ∧ (i < rn r → PG (rk r i) (ra r i) (rb r i))
theorem stepS_none {t : TBT} {k a b : Int} {s : PST} (h : rawS t k a b s = none) : stepS t k a b s = none := by
  unfold stepS
  rw [h]
theorem okS_iff {t : TBT} {s : PST} : okS t s = true ↔ s.2.2 ≤ 10000000 ∧ tF t s.1 0 * s.2.2 ≤ s.2.1 ∧ s.2.1 ≤ tF t s.1 (tpt t s.1 - 1) * s.2.2 := by
  unfold okS
  simp only [Bool.and_eq_true, decide_eq_true_eq, and_assoc]
theorem stepS_some {t : TBT} {k a b : Int} {s r : PST} (h : rawS t k a b s = some r) (ho : okS t r = true) : stepS t k a b s = some r := by
  unfold stepS
  rw [h]
  exact if_pos ho
theorem stepS_bad {t : TBT} {k a b : Int} {s r : PST} (h : rawS t k a b s = some r) (ho : ¬ okS t r = true) : stepS t k a b s = none := by
  unfold stepS
  rw [h]
  exact if_neg ho
theorem toInt_io {x : Int32} {n : Nat} (h : x.toInt = n) : x = nI n := by rw [nI_io, ← h, io_of]
section PASS
variable {Q : Option Value → HP → Prop} {bc bs : Nat} {h : HP}
theorem sp_tab {t : TBT} {p : Int32} (hs : Str h) (tc : TC h t) (ht : tnp t ≤ 10) (y : ∀ p' T, p = nI p' → p' < tnp t → TCp h t p' T → Q (some (.ref T)) h) (n : ¬ (0 ≤ p.toInt ∧ p.toInt < tnp t) → Q (some .null) h) : X 24 Q bc bs 0 [.ref 2, .int p] [] h := by
  have z : (0 : Int32).toInt = 0 := by decide
  have e : (hI h 2 3 - (1 : Int32)).toInt = (tnp t : Int) - 1 := by
    rw [tc.1, nI_io, show (1 : Int32) = io 1 from rfl, io_sub, io_toInt (by unfold IB; omega)]
  refine b24_0 (hs.k 2 (by decide) (by decide)) (sp_66 (fun c => b24_11 (fun d => absurd d (by decide)) (fun _ => ?_)) (fun c => b24_11 (fun _ => b24_23 (n ?_)) (fun d => absurd rfl d)))
  · rw [Int32.le_iff_toInt_le, Int32.le_iff_toInt_le, e, z] at c
    obtain ⟨p', hp'⟩ : ∃ p' : Nat, p.toInt = p' := ⟨p.toInt.toNat, by omega⟩
    have hpn := toInt_io hp'
    obtain ⟨T, hT⟩ := tc.2 p' (by omega)
    subst hpn
    refine b24_14 (hs.k 2 (by decide) (by decide)) (hs.r 2 0 (b := 3) (by decide)) (by rw [hs.k 3 (c := 16) (by decide) (by decide)]; decide) (by rw [hs.k 3 (c := 16) (by decide) (by decide)]; decide) ?_ ?_ (y p' T rfl (by omega) hT)
    · rw [hs.z 3 (c := 10) (by decide) (by decide)]
      exact vp_in_nI (by omega) (by omega)
    · rw [nI_clamp (by omega)]
      exact hT.1
  · rw [Int32.le_iff_toInt_le, Int32.le_iff_toInt_le, e, z] at c
    omega
end PASS
