/-! Numbers of a press. -/
theorem rL_dvd (u w : Int) : rL u w ∣ w := ⟨_, (rL_mul u w).symm⟩
theorem rL_dvd' {u w u' w' : Int} (hw : 0 < w) (hw' : 0 < w') (he : u * w' = u' * w) : rL u w ∣ w' := by
  rw [(r_same hw hw' he).2]
  exact rL_dvd u' w'
theorem r_bound {u w : Int} {K : Nat} (hw : 0 < w) (h : u.natAbs ≤ K * w.natAbs) : (rU u w).natAbs ≤ K * (rL u w).natAbs := by
  have g := rg_pos (u := u) hw
  have hg : 0 < Int.gcd u w := by omega
  have e1 : u.natAbs = (rU u w).natAbs * Int.gcd u w := by
    conv => lhs; rw [← rU_mul u w]
    rw [Int.natAbs_mul, Int.natAbs_natCast]
  have e2 : w.natAbs = (rL u w).natAbs * Int.gcd u w := by
    conv => lhs; rw [← rL_mul u w]
    rw [Int.natAbs_mul, Int.natAbs_natCast]
  rw [e1, e2, ← Nat.mul_assoc] at h
  exact Nat.le_of_mul_le_mul_right h hg
theorem bN_le {f g : Nat → Int} {u w : Int} {i : Nat} (hb : btw f u w i) (hg : g i ≤ g (i + 1)) : g i * bD f w i ≤ bN f g u w i ∧ bN f g u w i ≤ g (i + 1) * bD f w i := by
  obtain ⟨h1, h2, h3⟩ := hb
  have p1 : 0 ≤ (u - f i * w) * (g (i + 1) - g i) := Int.mul_nonneg (by omega) (by omega)
  have p2 : 0 ≤ (f (i + 1) * w - u) * (g (i + 1) - g i) := Int.mul_nonneg (by omega) (by omega)
  have e1 : bN f g u w i = g i * bD f w i + (u - f i * w) * (g (i + 1) - g i) := by unfold bN bD; grind
  have e2 : g (i + 1) * bD f w i = bN f g u w i + (f (i + 1) * w - u) * (g (i + 1) - g i) := by unfold bN bD; grind
  omega
theorem bN_scale (f g : Nat → Int) (c u w : Int) (i : Nat) : bN f g (c * u) (c * w) i = c * bN f g u w i := by unfold bN; grind
theorem bD_scale (f : Nat → Int) (c w : Int) (i : Nat) : bD f (c * w) i = c * bD f w i := by unfold bD; grind
theorem btw_scale {f : Nat → Int} {c u w : Int} {i : Nat} (hc : 0 < c) : btw f (c * u) (c * w) i ↔ btw f u w i := by
  unfold btw
  have e1 : f i * (c * w) = c * (f i * w) := by grind
  have e2 : f (i + 1) * (c * w) = c * (f (i + 1) * w) := by grind
  rw [e1, e2, Int.mul_le_mul_left hc, Int.mul_le_mul_left hc]
/-- reading between points of a fraction or of its lowest form gives one value -/
theorem bN_low {f g : Nat → Int} {u w : Int} {i : Nat} (hw : 0 < w) (hf : f i < f (i + 1)) : rU (bN f g (rU u w) (rL u w) i) (bD f (rL u w) i) = rU (bN f g u w i) (bD f w i) ∧ rL (bN f g (rU u w) (rL u w) i) (bD f (rL u w) i) = rL (bN f g u w i) (bD f w i) := by
  have g0 := rg_pos (u := u) hw
  have e1 : u = (Int.gcd u w : Int) * rU u w := by rw [Int.mul_comm]; exact (rU_mul u w).symm
  have e2 : w = (Int.gcd u w : Int) * rL u w := by rw [Int.mul_comm]; exact (rL_mul u w).symm
  have p1 : 0 < bD f (rL u w) i := Int.mul_pos (by omega) (rL_pos hw)
  have p2 : 0 < bD f w i := Int.mul_pos (by omega) hw
  refine r_same p1 p2 ?_
  generalize hg : (Int.gcd u w : Int) = c at e1 e2 g0
  generalize rU u w = p at *
  generalize rL u w = q at *
  subst e1; subst e2
  rw [bN_scale, bD_scale]
  grind
theorem btw_low {f : Nat → Int} {u w : Int} {i : Nat} (hw : 0 < w) : btw f (rU u w) (rL u w) i ↔ btw f u w i := by
  have g0 := rg_pos (u := u) hw
  have e1 : u = (Int.gcd u w : Int) * rU u w := by rw [Int.mul_comm]; exact (rU_mul u w).symm
  have e2 : w = (Int.gcd u w : Int) * rL u w := by rw [Int.mul_comm]; exact (rL_mul u w).symm
  have h := btw_scale (f := f) (u := rU u w) (w := rL u w) (i := i) g0
  rw [← e1, ← e2] at h
  exact h.symm
def oN (F O : Nat → Int) (u w : Int) (i : Nat) : Int := bN F O u w i
def hNn (F O O2 F2 : Nat → Int) (u w : Int) (i j : Nat) : Int := bN O2 F2 (bN F O u w i) (bD F w i) j
def hDn (F O2 : Nat → Int) (w : Int) (i j : Nat) : Int := bD O2 (bD F w i) j
def kk2 (F O2 : Nat → Int) (i j : Nat) : Int := (O2 (j + 1) - O2 j) * (F (i + 1) - F i)
def pN (F O O2 F2 : Nat → Int) (u w b : Int) (i j : Nat) : Int := u * kk2 F O2 i j * b + 100 * (hNn F O O2 F2 u w i j - u * kk2 F O2 i j)
def pD (F O2 : Nat → Int) (w b : Int) (i j : Nat) : Int := hDn F O2 w i j * b
theorem hD_k (F O2 : Nat → Int) (w : Int) (i j : Nat) : hDn F O2 w i j = kk2 F O2 i j * w := by unfold hDn kk2 bD; grind
theorem press_alg {u w k hN hD b mu mw m1u m1w m2u m2w : Int} (h1 : m1w ≠ 0) (h2 : mw ≠ 0) (E1 : m2u * (m1w * b) = (100 * m1u) * m2w) (E2 : m1u * (mw * w) = (mu * w - u * mw) * m1w) (E3 : mu * hD = hN * mw) (E4 : hD = k * w) : (u * m2w + 1 * (m2u * w)) * (hD * b) = (u * k * b + 100 * (hN - u * k)) * (w * m2w) := by
  have key : (m2u * w * hD * b) * (m1w * mw) = (100 * (hN * w - u * hD) * m2w) * (m1w * mw) := by
    have s1 : (m2u * w * hD * b) * (m1w * mw) = (m2u * (m1w * b)) * (w * hD * mw) := by grind
    have s2 : (100 * m1u) * m2w * (w * hD * mw) = 100 * m2w * hD * (m1u * (mw * w)) := by grind
    have s3 : 100 * m2w * hD * ((mu * w - u * mw) * m1w) = 100 * m2w * m1w * ((mu * hD) * w - u * mw * hD) := by grind
    rw [s1, E1, s2, E2, s3, E3]
    grind
  have key2 := Int.eq_of_mul_eq_mul_right (Int.mul_ne_zero h1 h2) key
  have s4 : (u * m2w + 1 * (m2u * w)) * (hD * b) = u * m2w * hD * b + m2u * w * hD * b := by grind
  rw [s4, key2]
  subst E4
  grind
