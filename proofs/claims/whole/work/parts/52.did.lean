/-! did on both sides. -/
def dfU (u0 w0 u1 w1 : Int) : Int := rU (u1 * w0 + -1 * (u0 * w1)) (w1 * w0)
def dfL (u0 w0 u1 w1 : Int) : Int := rL (u1 * w0 + -1 * (u0 * w1)) (w1 * w0)
def orU (t : TBT) (s : PST) : Int := rdU (tF t s.1) (tO t s.1) (tpt t s.1) s.2.1 s.2.2
def orL (t : TBT) (s : PST) : Int := rdL (tF t s.1) (tO t s.1) (tpt t s.1) s.2.1 s.2.2
def f_did (A : AST) (i k : Int32) : Int64 := match aU A with
  | none => UNS
  | some R => if 0 ≤ i.toInt ∧ i.toInt < um R ∧ 0 ≤ k.toInt ∧ k.toInt ≤ 3 then (if k.toInt.toNat / 2 = 0 then sdv (k.toInt.toNat % 2) (dfU (uS R i.toInt.toNat).2.1 (uS R i.toInt.toNat).2.2 (uS R (i.toInt.toNat + 1)).2.1 (uS R (i.toInt.toNat + 1)).2.2) (dfL (uS R i.toInt.toNat).2.1 (uS R i.toInt.toNat).2.2 (uS R (i.toInt.toNat + 1)).2.1 (uS R (i.toInt.toNat + 1)).2.2) else if uK R i.toInt.toNat ≤ 1 then (if Nat.lcm (orL (aT A) (uS R i.toInt.toNat)).natAbs (orL (aT A) (uS R (i.toInt.toNat + 1))).natAbs ≤ 1000000000000000 then sdv (k.toInt.toNat % 2) (dfU (orU (aT A) (uS R i.toInt.toNat)) (orL (aT A) (uS R i.toInt.toNat)) (orU (aT A) (uS R (i.toInt.toNat + 1))) (orL (aT A) (uS R (i.toInt.toNat + 1)))) (dfL (orU (aT A) (uS R i.toInt.toNat)) (orL (aT A) (uS R i.toInt.toNat)) (orU (aT A) (uS R (i.toInt.toNat + 1))) (orL (aT A) (uS R (i.toInt.toNat + 1)))) else UNS) else UNS) else UNS
theorem or_bound {t : TBT} (tg : TG t) {s : PST} (sg : SG t s) : 0 < orL t s ∧ orL t s ≤ 10000000000 ∧ (orU t s).natAbs ≤ 1000 * (orL t s).natAbs := by
  obtain ⟨sp, sw, sw2, sc, sl, sr⟩ := sg
  have gp := tg.2 s.1 sp
  have gn2 := gp.1
  obtain ⟨i0, hi0, hb0⟩ := btw_ex (tpt t s.1) gn2 (fun i hi => (gp.2.2.2.1 i hi).1) sl sr
  obtain ⟨i, ⟨hi, hb⟩, hmin⟩ := pk_least (fun i => i + 1 < tpt t s.1 ∧ btw (tF t s.1) s.2.1 s.2.2 i) ⟨i0, hi0, hb0⟩
  have e := rd_some (G := tO t s.1) hi hb (fun j hj q => hmin j hj ⟨by omega, q⟩)
  unfold orU orL
  rw [e.1, e.2]
  have q0 := gp.2.2.1 i (by omega)
  have q1 := gp.2.2.1 (i + 1) (by omega)
  have dF := (gp.2.2.2.1 i hi).1
  have dO := (gp.2.2.2.1 i hi).2.1
  have Dp : 0 < bD (tF t s.1) s.2.2 i := Int.mul_pos (by omega) sw
  have Dn : (bD (tF t s.1) s.2.2 i).natAbs ≤ 1000 * 10000000 := nm_le (by omega) (by omega)
  have hB := bN_le (g := tO t s.1) hb (by omega)
  have x1 : 0 ≤ tO t s.1 i * bD (tF t s.1) s.2.2 i := Int.mul_nonneg q0.2.1.1 (by omega)
  have x2 : tO t s.1 (i + 1) * bD (tF t s.1) s.2.2 i ≤ 1000 * bD (tF t s.1) s.2.2 i := Int.mul_le_mul_of_nonneg_right q1.2.1.2 (by omega)
  have le := r_le (u := bN (tF t s.1) (tO t s.1) s.2.1 s.2.2 i) Dp
  exact ⟨rL_pos Dp, by omega, r_bound Dp (by omega)⟩
theorem rU_pos' {w g a : Int} (hw : 0 < w) (hg : 0 < g) (e : a * g = w) : 0 < a := by
  rcases Int.lt_or_le 0 a with q | q
  · exact q
  · have := Int.mul_nonpos_of_nonpos_of_nonneg q (Int.le_of_lt hg)
    omega
theorem df_same {u0 w0 u1 w1 : Int} (p0 : 0 < w0) (p1 : 0 < w1) : rU (u1 * (w0 / (Int.gcd w0 w1 : Int)) - u0 * (w1 / (Int.gcd w0 w1 : Int))) (w0 / (Int.gcd w0 w1 : Int) * w1) = dfU u0 w0 u1 w1 ∧ rL (u1 * (w0 / (Int.gcd w0 w1 : Int)) - u0 * (w1 / (Int.gcd w0 w1 : Int))) (w0 / (Int.gcd w0 w1 : Int) * w1) = dfL u0 w0 u1 w1 := by
  have gp : 0 < (Int.gcd w0 w1 : Int) := rg_pos (u := w0) p1
  have e0 : w0 / (Int.gcd w0 w1 : Int) * (Int.gcd w0 w1 : Int) = w0 := Int.ediv_mul_cancel (Int.gcd_dvd_left w0 w1)
  have e1 : w1 / (Int.gcd w0 w1 : Int) * (Int.gcd w0 w1 : Int) = w1 := Int.ediv_mul_cancel (Int.gcd_dvd_right w0 w1)
  have q0 : 0 < w0 / (Int.gcd w0 w1 : Int) := rU_pos' p0 gp e0
  refine r_same (Int.mul_pos q0 p1) (Int.mul_pos p1 p0) ?_
  generalize w0 / (Int.gcd w0 w1 : Int) = a at *
  generalize w1 / (Int.gcd w0 w1 : Int) = b at *
  generalize (Int.gcd w0 w1 : Int) = c at *
  subst e0
  subst e1
  grind
