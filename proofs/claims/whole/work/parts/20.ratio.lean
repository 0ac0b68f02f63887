/-! Ratio: copy, side, over, common, putSum. -/
def RA (h : HP) (a : Nat) (u w : Int) : Prop := hJ h a 0 = jo u ∧ hJ h a 1 = jo w
theorem RA_wR {h : HP} {a : Nat} {u w : Int} : RA (wR h a u w) a u w := wR_up
theorem RA_ne {h : HP} {a b : Nat} {u w u' w' : Int} (hb : b ≠ a) (hr : RA h b u w) : RA (wR h a u' w') b u w := ⟨by rw [wR_ne hb]; exact hr.1, by rw [wR_ne hb]; exact hr.2⟩
theorem RA_fr {SI SJ : Nat → Prop} {h h1 : HP} (f : Fr SI SJ h h1) {b : Nat} {u w : Int} (hb : ¬ SJ b) (hr : RA h b u w) : RA h1 b u w := ⟨by rw [f.2.2.2 b hb]; exact hr.1, by rw [f.2.2.2 b hb]; exact hr.2⟩
section RAT
variable {Q : Option Value → HP → Prop} {bc bs : Nat} {h : HP}
theorem sp_copy {a b : Nat} {u w : Int} (ha : kd h a = 1) (hb : kd h b = 1) (hr : RA h b u w) (nx : Q none (wR h a u w)) : X 3 Q bc bs 0 [.ref a, .ref b] [] h := by
  refine b3_0 hb ha ?_
  have e : hJ (sJ h a 0 (hJ h b 0)) b 1 = jo w := by
    rw [hJ_sJ]
    split
    · exact hr.2
    · exact hr.2
  rw [e, hr.1]
  exact nx
theorem lcm_eq {a b : Nat} (ha : 0 < a) (hb : 0 < b) : a / Nat.gcd a b * b = Nat.lcm a b := by
  unfold Nat.lcm
  rw [Nat.mul_comm a b, Nat.mul_div_assoc b (Nat.gcd_dvd_left a b), Nat.mul_comm]
theorem sp_common {a b L : Nat} (ha : 0 < a) (ha2 : a < 2 ^ 63) (hb : 0 < b) (hb2 : b < 2 ^ 63) (hL : L < 2 ^ 63) (nx : Q (some (.long (lN (if Nat.lcm a b ≤ L then Nat.lcm a b else 0)))) h) : X 9 Q bc bs 0 [.long (lN a), UU, .long (lN b), UU, .long (lN L), UU, UU, UU, UU, UU] [] h := by
  have hg : 0 < Nat.gcd a b := Nat.gcd_pos_of_pos_left b ha
  have hg2 : Nat.gcd a b ≤ a := Nat.gcd_le_left b ha
  have n0 : ∀ {x : Nat}, 0 < x → x < 2 ^ 63 → ¬ lN x = 0 := by
    intro x h1 h2
    rw [show (0 : Int64) = lN 0 from rfl, pk_lEQ h2 (by omega)]
    omega
  have hdiv : a / Nat.gcd a b ≤ L / b ↔ Nat.lcm a b ≤ L := by rw [Nat.le_div_iff_mul_le hb, lcm_eq ha hb]
  have q1 : a / Nat.gcd a b < 2 ^ 63 := Nat.lt_of_le_of_lt (Nat.div_le_self _ _) ha2
  have q2 : L / b < 2 ^ 63 := Nat.lt_of_le_of_lt (Nat.div_le_self _ _) hL
  refine b9_0 (sp_greatest ha2 hb2 ?_)
  refine b9_5 (fun c => absurd ((lg_cmp_le _ _).mp c) ?_) (fun _ => b9_14 (fun _ => b9_22 (n0 hg (by omega)) (n0 hb hb2) (fun c => b9_42 ?_) (fun c => b9_38 ?_)) (fun c => absurd ((lg_cmp_gt _ _).mpr ?_) c))
  · rw [show (0 : Int64) = lN 0 from rfl, pk_lLE (by omega) (by omega)]
    omega
  · rw [lg_cmp_le, pk_lDiv ha2 hg (by omega), pk_lDiv hL hb hb2, pk_lLE q1 q2, hdiv] at c
    rw [if_pos c] at nx
    rw [pk_lDiv ha2 hg (by omega), lN_mul, lcm_eq ha hb]
    exact nx
  · rw [lg_cmp_le, pk_lDiv ha2 hg (by omega), pk_lDiv hL hb hb2, pk_lLE q1 q2, hdiv] at c
    rw [if_neg c] at nx
    exact nx
  · rw [show (0 : Int64) = lN 0 from rfl, pk_lLT (by omega) hb2]
    exact hb
theorem sp_over {a : Nat} {u w l : Int} (ha : kd h a = 1) (hr : RA h a u w) (hw : 0 < w) (hwb : JB w) (hl : JB l) (hl0 : 0 ≤ l) (nx : Q (some (.long (jo (u * (l / w))))) h) : X 6 Q bc bs 0 [.ref a, .long (jo l), UU] [] h := by
  have j0 : JB 0 := by unfold JB; omega
  have hd : JB (l.tdiv w) := by
    rw [Int.tdiv_eq_ediv_of_nonneg hl0]
    have h1 : 0 ≤ l / w := Int.ediv_nonneg hl0 (Int.le_of_lt hw)
    have h2 : l / w ≤ l := Int.ediv_le_self w hl0
    unfold JB at hl ⊢
    omega
  refine b6_0 ha (fun _ => b6_13 ha ?_ ?_) (fun c => absurd ?_ c)
  · rw [hr.2, show (0 : Int64) = jo 0 from rfl, jo_eq hwb j0]
    omega
  · rw [hr.1, hr.2, jo_div hl hwb hd, jo_mul, Int.tdiv_eq_ediv_of_nonneg hl0]
    exact nx
  · rw [lg_cmp_gt, hr.2, show (0 : Int64) = jo 0 from rfl, jo_lt j0 hwb]
    exact hw
/-- putSum: this becomes one + sg * other, in lowest terms, if the common lower number is 10^15 at most -/
theorem sp_putSum {a b c : Nat} {u1 w1 u2 w2 sg : Int} (K1 K2 : Nat) (ha : kd h a = 1) (hb : kd h b = 1) (hc : kd h c = 1) (h1 : RA h b u1 w1) (h2 : RA h c u2 w2) (hs : sg = 1 ∨ sg = -1) (p1 : 0 < w1) (p2 : 0 < w2) (m1 : w1 ≤ 1000000000000000) (m2 : w2 ≤ 1000000000000000)
    (b1 : u1.natAbs ≤ K1 * w1.natAbs) (b2 : u2.natAbs ≤ K2 * w2.natAbs) (hK : Nat.lcm w1.natAbs w2.natAbs ≤ 1000000000000000 → (K1 + K2) * Nat.lcm w1.natAbs w2.natAbs ≤ 9000000000000000000)
    (y : Nat.lcm w1.natAbs w2.natAbs ≤ 1000000000000000 → Q (some (.int (1 : Int32))) (wR h a (rU (u1 * w2 + sg * (u2 * w1)) (w1 * w2)) (rL (u1 * w2 + sg * (u2 * w1)) (w1 * w2))))
    (n : ¬ Nat.lcm w1.natAbs w2.natAbs ≤ 1000000000000000 → Q (some (.int (0 : Int32))) h) : X 5 Q bc bs 0 [.ref a, .ref b, .int (io sg), .ref c, UU, UU] [] h := by
  have j0 : JB 0 := by unfold JB; omega
  have jw1 : JB w1 := by unfold JB; omega
  have jw2 : JB w2 := by unfold JB; omega
  refine b5_0 hb hc ?_
  rw [h1.2, h2.2, pos_lN (Int.le_of_lt p1), pos_lN (Int.le_of_lt p2), show (1000000000000000 : Int64) = lN 1000000000000000 from rfl]
  refine sp_common (by omega) (by omega) (by omega) (by omega) (by omega) ?_
  show X 5 Q bc bs 14 [.ref a, .ref b, .int (io sg), .ref c, UU, UU] [.long (lN (if Nat.lcm w1.natAbs w2.natAbs ≤ 1000000000000000 then Nat.lcm w1.natAbs w2.natAbs else 0))] h
  by_cases hl : Nat.lcm w1.natAbs w2.natAbs ≤ 1000000000000000
  · rw [if_pos hl]
    have hlp : 0 < Nat.lcm w1.natAbs w2.natAbs := Nat.lcm_pos (by omega) (by omega)
    have hK := hK hl
    generalize hle : Nat.lcm w1.natAbs w2.natAbs = l at hl hlp y n hK
    rw [Nat.add_mul] at hK
    have d1 : w1 ∣ (l : Int) := by
      rw [← hle]
      exact Int.natAbs_dvd_natAbs.mp (by rw [Int.natAbs_natCast]; exact Nat.dvd_lcm_left _ _)
    have d2 : w2 ∣ (l : Int) := by
      rw [← hle]
      exact Int.natAbs_dvd_natAbs.mp (by rw [Int.natAbs_natCast]; exact Nat.dvd_lcm_right _ _)
    have jl : JB (l : Int) := by unfold JB; omega
    have e1 : (l : Int) / w1 * w1 = l := Int.ediv_mul_cancel d1
    have e2 : (l : Int) / w2 * w2 = l := Int.ediv_mul_cancel d2
    have k1 : (u1 * ((l : Int) / w1)).natAbs ≤ K1 * l := by
      have e : ((l : Int) / w1).natAbs * w1.natAbs = l := by
        have := congrArg Int.natAbs e1
        rwa [Int.natAbs_mul, Int.natAbs_natCast] at this
      rw [Int.natAbs_mul]
      calc u1.natAbs * ((l : Int) / w1).natAbs ≤ (K1 * w1.natAbs) * ((l : Int) / w1).natAbs := Nat.mul_le_mul_right _ b1
        _ = K1 * (((l : Int) / w1).natAbs * w1.natAbs) := by rw [Nat.mul_assoc, Nat.mul_comm w1.natAbs]
        _ = K1 * l := by rw [e]
    have k2 : (u2 * ((l : Int) / w2)).natAbs ≤ K2 * l := by
      have e : ((l : Int) / w2).natAbs * w2.natAbs = l := by
        have := congrArg Int.natAbs e2
        rwa [Int.natAbs_mul, Int.natAbs_natCast] at this
      rw [Int.natAbs_mul]
      calc u2.natAbs * ((l : Int) / w2).natAbs ≤ (K2 * w2.natAbs) * ((l : Int) / w2).natAbs := Nat.mul_le_mul_right _ b2
        _ = K2 * (((l : Int) / w2).natAbs * w2.natAbs) := by rw [Nat.mul_assoc, Nat.mul_comm w2.natAbs]
        _ = K2 * l := by rw [e]
    refine b5_14 (fun _ => b5_25 hb ?_) (fun c => absurd ?_ c)
    · rw [lN_jo]
      refine sp_over hb h1 p1 jw1 jl (by omega) ?_
      refine b5_32 hc (sp_over hc h2 p2 jw2 jl (by omega) ?_)
      refine b5_40 ha ?_
      have hsg : (io sg).toInt64 = jo sg := i2l_jo (by unfold IB; omega)
      rw [hsg, jo_mul, jo_add]
      have hsum : JB (u1 * ((l : Int) / w1) + sg * (u2 * ((l : Int) / w2))) ∧ -9223372036854775808 < u1 * ((l : Int) / w1) + sg * (u2 * ((l : Int) / w2)) := by
        generalize u1 * ((l : Int) / w1) = z1 at k1 ⊢
        generalize u2 * ((l : Int) / w2) = z2 at k2 ⊢
        generalize K1 * l = y1 at k1 hK
        generalize K2 * l = y2 at k2 hK
        unfold JB
        rcases hs with rfl | rfl <;> omega
      refine sp_put ha hsum.1 hsum.2 (by omega) jl ?_
      refine b5_47 ?_
      have hw : 0 < w1 * w2 := Int.mul_pos p1 p2
      have hx := r_same (u := u1 * ((l : Int) / w1) + sg * (u2 * ((l : Int) / w2))) (w := (l : Int)) (u' := u1 * w2 + sg * (u2 * w1)) (w' := w1 * w2) (by omega) hw ?_
      · rw [hx.1, hx.2]
        exact y hl
      · have f1 : (l : Int) / w1 * (w1 * w2) = l * w2 := by rw [← Int.mul_assoc, e1]
        have f2 : (l : Int) / w2 * (w1 * w2) = l * w1 := by rw [Int.mul_comm w1 w2, ← Int.mul_assoc, e2]
        rw [Int.add_mul, Int.add_mul]
        congr 1
        · rw [Int.mul_assoc, f1, Int.mul_assoc, Int.mul_comm w2]
        · rw [Int.mul_assoc, Int.mul_assoc, f2, Int.mul_assoc sg, Int.mul_assoc u2, Int.mul_comm w1]
    · rw [lg_cmp_gt, show (0 : Int64) = lN 0 from rfl, pk_lLT (by omega) (by omega)]
      exact hlp
  · rw [if_neg hl]
    refine b5_14 (fun c => absurd ((lg_cmp_gt _ _).mp c) (by decide)) (fun _ => b5_23 (n hl))
end RAT
