/-! Lowest terms. -/
def rU (u w : Int) : Int := u / (Int.gcd u w : Int)
def rL (u w : Int) : Int := w / (Int.gcd u w : Int)
theorem rg_pos {u w : Int} (hw : 0 < w) : 0 < (Int.gcd u w : Int) := by
  have : 0 < Int.gcd u w := Int.gcd_pos_of_ne_zero_right u (by omega)
  omega
theorem rU_mul (u w : Int) : rU u w * (Int.gcd u w : Int) = u := Int.ediv_mul_cancel (Int.gcd_dvd_left u w)
theorem rL_mul (u w : Int) : rL u w * (Int.gcd u w : Int) = w := Int.ediv_mul_cancel (Int.gcd_dvd_right u w)
theorem rL_pos {u w : Int} (hw : 0 < w) : 0 < rL u w := by
  have h1 := rL_mul u w
  have h2 := rg_pos (u := u) hw
  rcases Int.lt_or_le 0 (rL u w) with q | q
  · exact q
  · have : rL u w * (Int.gcd u w : Int) ≤ 0 := Int.mul_nonpos_of_nonpos_of_nonneg q (Int.le_of_lt h2)
    omega
theorem r_cross {u w : Int} (hw : 0 < w) : rU u w * w = u * rL u w := calc
  rU u w * w = rU u w * (rL u w * (Int.gcd u w : Int)) := by rw [rL_mul]
  _ = (rU u w * (Int.gcd u w : Int)) * rL u w := by rw [Int.mul_comm (rL u w), Int.mul_assoc]
  _ = u * rL u w := by rw [rU_mul]
theorem r_cop {u w : Int} (hw : 0 < w) : Nat.Coprime (rU u w).natAbs (rL u w).natAbs := by
  have h2 := rg_pos (u := u) hw
  have e1 : u.natAbs = (rU u w).natAbs * Int.gcd u w := by
    conv => lhs; rw [← rU_mul u w]
    rw [Int.natAbs_mul, Int.natAbs_natCast]
  have e2 : w.natAbs = (rL u w).natAbs * Int.gcd u w := by
    conv => lhs; rw [← rL_mul u w]
    rw [Int.natAbs_mul, Int.natAbs_natCast]
  have e3 : Int.gcd u w = Nat.gcd (rU u w).natAbs (rL u w).natAbs * Int.gcd u w := by
    conv => lhs; rw [Int.gcd, e1, e2, Nat.gcd_mul_right]
  have h3 : 0 < Int.gcd u w := by omega
  have e4 : 1 * Int.gcd u w = Nat.gcd (rU u w).natAbs (rL u w).natAbs * Int.gcd u w := by rw [Nat.one_mul]; exact e3
  exact (Nat.eq_of_mul_eq_mul_right h3 e4).symm
/-- one fraction has one lowest form -/
theorem r_uniq {p q p' q' : Int} (hq : 0 < q) (hq' : 0 < q') (hc : Nat.Coprime p.natAbs q.natAbs) (hc' : Nat.Coprime p'.natAbs q'.natAbs) (he : p * q' = p' * q) : p = p' ∧ q = q' := by
  have en : p.natAbs * q'.natAbs = p'.natAbs * q.natAbs := by rw [← Int.natAbs_mul, he, Int.natAbs_mul]
  have d1 : q.natAbs ∣ q'.natAbs := Nat.Coprime.dvd_of_dvd_mul_left hc.symm ⟨p'.natAbs, by rw [en, Nat.mul_comm]⟩
  have d2 : q'.natAbs ∣ q.natAbs := Nat.Coprime.dvd_of_dvd_mul_left hc'.symm ⟨p.natAbs, by rw [← en, Nat.mul_comm]⟩
  have e : q.natAbs = q'.natAbs := Nat.dvd_antisymm d1 d2
  have e2 : q = q' := by omega
  refine ⟨?_, e2⟩
  subst e2
  exact Int.eq_of_mul_eq_mul_right (by omega) he
theorem r_same {u w u' w' : Int} (hw : 0 < w) (hw' : 0 < w') (he : u * w' = u' * w) : rU u w = rU u' w' ∧ rL u w = rL u' w' := by
  refine r_uniq (rL_pos hw) (rL_pos hw') (r_cop hw) (r_cop hw') ?_
  have h1 := rU_mul u w
  have h2 := rL_mul u w
  have h3 := rU_mul u' w'
  have h4 := rL_mul u' w'
  have g1 := rg_pos (u := u) hw
  have g2 := rg_pos (u := u') hw'
  have e : (rU u w * rL u' w') * ((Int.gcd u w : Int) * (Int.gcd u' w' : Int)) = (rU u' w' * rL u w) * ((Int.gcd u w : Int) * (Int.gcd u' w' : Int)) := by
    have l1 : (rU u w * rL u' w') * ((Int.gcd u w : Int) * (Int.gcd u' w' : Int)) = (rU u w * (Int.gcd u w : Int)) * (rL u' w' * (Int.gcd u' w' : Int)) := by
      simp only [Int.mul_assoc, Int.mul_left_comm, Int.mul_comm]
    have l2 : (rU u' w' * rL u w) * ((Int.gcd u w : Int) * (Int.gcd u' w' : Int)) = (rU u' w' * (Int.gcd u' w' : Int)) * (rL u w * (Int.gcd u w : Int)) := by
      simp only [Int.mul_assoc, Int.mul_left_comm, Int.mul_comm]
    rw [l1, l2, h1, h2, h3, h4, he]
  exact Int.eq_of_mul_eq_mul_right (Int.ne_of_gt (Int.mul_pos g1 g2)) e
theorem r_of_cop {p q : Int} (hq : 0 < q) (hc : Nat.Coprime p.natAbs q.natAbs) : rU p q = p ∧ rL p q = q := by
  refine r_uniq (rL_pos hq) hq (r_cop hq) hc ?_
  exact r_cross hq
theorem r_idem {u w : Int} (hw : 0 < w) : rU (rU u w) (rL u w) = rU u w ∧ rL (rU u w) (rL u w) = rL u w := r_of_cop (rL_pos hw) (r_cop hw)
theorem r_le {u w : Int} (hw : 0 < w) : (rU u w).natAbs ≤ u.natAbs ∧ rL u w ≤ w := by
  have g1 := rg_pos (u := u) hw
  have h1 : 0 < Int.gcd u w := by omega
  constructor
  · conv => rhs; rw [← rU_mul u w]
    rw [Int.natAbs_mul, Int.natAbs_natCast]
    exact Nat.le_mul_of_pos_right _ h1
  · have h2 := rL_pos (u := u) hw
    have h3 := rL_mul u w
    have h4 : rL u w * 1 ≤ rL u w * (Int.gcd u w : Int) := Int.mul_le_mul_of_nonneg_left (by omega) (by omega)
    omega
theorem r_zero {w : Int} (hw : 0 < w) : rU 0 w = 0 ∧ rL 0 w = 1 := r_uniq (rL_pos hw) (by omega) (r_cop hw) (by decide) (by unfold rU; simp)
theorem r_nonneg {u w : Int} (hw : 0 < w) (hu : 0 ≤ u) : 0 ≤ rU u w := Int.ediv_nonneg hu (by have := rg_pos (u := u) hw; omega)
def wR (h : HP) (a : Nat) (u w : Int) : HP := sJ (sJ h a 0 (jo u)) a 1 (jo w)
theorem abs_lN {u : Int} (h : JB u) (h1 : -9223372036854775808 < u) : (if 0 < jo u then jo u else -jo u) = lN u.natAbs := by
  rw [lN_jo]
  have hj : (0 : Int64) < jo u ↔ 0 < u := by rw [show (0 : Int64) = jo 0 from rfl, jo_lt (by unfold JB; omega) h]
  split
  · rename_i q
    rw [hj] at q
    congr 1
    omega
  · rename_i q
    rw [hj] at q
    rw [jo_neg]
    congr 1
    omega
theorem pos_lN {w : Int} (hw : 0 ≤ w) : jo w = lN w.natAbs := by
  rw [lN_jo]
  congr 1
  omega
theorem div_lN {u : Int} {g : Nat} (hu : JB u) (hu1 : -9223372036854775808 < u) (hg : 0 < g) (hg2 : g < 2 ^ 63) (hd : (g : Int) ∣ u) : jo u / lN g = jo (u / (g : Int)) := by
  rw [lN_jo]
  have e : u.tdiv (g : Int) = u / (g : Int) := Int.tdiv_eq_ediv_of_dvd hd
  have hb : JB (u / (g : Int)) := by
    have h1 : (u / (g : Int)) * (g : Int) = u := Int.ediv_mul_cancel hd
    have h2 : (u / (g : Int)).natAbs * g = u.natAbs := by
      have := congrArg Int.natAbs h1
      rwa [Int.natAbs_mul, Int.natAbs_natCast] at this
    have h3 : (u / (g : Int)).natAbs ≤ u.natAbs := by
      rw [← h2]
      exact Nat.le_mul_of_pos_right _ hg
    unfold JB at hu ⊢
    omega
  rw [jo_div hu (by unfold JB; omega) (by rw [e]; exact hb), e]
section LOW
variable {Q : Option Value → HP → Prop} {bc bs : Nat} {h : HP}
/-- Ratio.put(u, w), w above 0: the lowest terms -/
theorem sp_put {a : Nat} {u w : Int} (hk : kd h a = 1) (hu : JB u) (hu1 : -9223372036854775808 < u) (hw : 0 < w) (hwb : JB w) (nx : Q none (wR h a (rU u w) (rL u w))) : X 2 Q bc bs 0 [.ref a, .long (jo u), UU, .long (jo w), UU, UU, UU] [] h := by
  have hg := rg_pos (u := u) hw
  have hgn : 0 < Int.gcd u w := by omega
  have hgw : Int.gcd u w ≤ w.natAbs := Nat.le_of_dvd (by omega) (Nat.gcd_dvd_right _ _)
  have hg63 : Int.gcd u w < 2 ^ 63 := by unfold JB at hwb; omega
  refine b2_0 ?_
  rw [abs_lN hu hu1, pos_lN (Int.le_of_lt hw)]
  refine sp_greatest (by unfold JB at hu; omega) (by unfold JB at hwb; omega) ?_
  show X 2 Q bc bs 8 [.ref a, .long (jo u), UU, .long (lN w.natAbs), UU, UU, UU] [.long (lN (Int.gcd u w))] h
  rw [← pos_lN (Int.le_of_lt hw)]
  refine b2_8 (fun c => absurd c ?_) (fun _ => b2_16 (fun _ => b2_34 ?_ hk ?_) (fun c => absurd ?_ c))
  · rw [lg_cmp_le, show (0 : Int64) = jo 0 from rfl, jo_le hwb (by unfold JB; omega)]
    omega
  · rw [show (0 : Int64) = lN 0 from rfl, pk_lEQ hg63 (by omega)]
    omega
  · rw [div_lN hu hu1 hgn hg63 (Int.gcd_dvd_left u w), div_lN hwb (by omega) hgn hg63 (Int.gcd_dvd_right u w)]
    exact nx
  · rw [lg_cmp_gt, show (0 : Int64) = lN 0 from rfl, pk_lLT (by omega) hg63]
    exact hgn
end LOW
section LOW2
variable {Q : Option Value → HP → Prop} {bc bs : Nat} {h : HP}
theorem gc_loop {u0 w0 : Int64} : ∀ (k a b : Nat), a < 2 ^ 63 → b < 2 ^ 63 → b ≤ k → Q (some (.long (lN (Nat.gcd a b)))) h → X 74 Q bc bs 28 [.long u0, UU, .long w0, UU, .long (lN a), UU, .long (lN b), UU, UU, UU] [] h
  | 0, a, b, ha, hb, hk, nx => by
    have e : b = 0 := by omega
    subst e
    rw [Nat.gcd_zero_right] at nx
    exact b74_28 (fun _ => b74_53 nx) (fun c => absurd (by rw [lg_cmp_le]; decide) c)
  | k + 1, a, b, ha, hb, hk, nx => by
    rcases Nat.eq_zero_or_pos b with e | h0
    · subst e
      rw [Nat.gcd_zero_right] at nx
      exact b74_28 (fun _ => b74_53 nx) (fun c => absurd (by rw [lg_cmp_le]; decide) c)
    · have hb0 : ¬ lN b = 0 := by
        rw [show (0 : Int64) = lN 0 from rfl, pk_lEQ hb (by omega)]
        omega
      refine b74_28 (fun c => absurd ((lg_cmp_le _ _).mp c) ?_) (fun _ => b74_35 hb0 ?_)
      · rw [show (0 : Int64) = lN 0 from rfl, pk_lLE hb (by omega)]
        omega
      · rw [pk_lRem ha h0 hb]
        have hm := Nat.mod_lt a h0
        have g1 : Nat.gcd a b = Nat.gcd b (a % b) := by rw [Nat.gcd_comm a b, Nat.gcd_rec b a, Nat.gcd_comm]
        rw [g1] at nx
        exact gc_loop k b (a % b) hb (by omega) (by omega) nx
/-- gcd(a, b) of the reference -/
theorem sp_gcd {a b : Int} (ha : JB a) (ha1 : -9223372036854775808 < a) (hb : JB b) (hb1 : -9223372036854775808 < b) (nx : Q (some (.long (lN (Int.gcd a b)))) h) : X 74 Q bc bs 0 [.long (jo a), UU, .long (jo b), UU, UU, UU, UU, UU, UU, UU] [] h := by
  have j0 : JB 0 := by unfold JB; omega
  have main : ∀ (x y : Int64), x = lN a.natAbs → y = lN b.natAbs → X 74 Q bc bs 28 [.long (jo a), UU, .long (jo b), UU, .long x, UU, .long y, UU, UU, UU] [] h := by
    intro x y hx hy
    subst hx; subst hy
    exact gc_loop b.natAbs a.natAbs b.natAbs (by unfold JB at ha; omega) (by unfold JB at hb; omega) (Nat.le_refl _) nx
  have hb2 : ∀ x : Int64, x = lN a.natAbs → X 74 Q bc bs 25 [.long (jo a), UU, .long (jo b), UU, .long x, UU, UU, UU, UU, UU] [] h ∨ ¬ 0 ≤ b := by
    intro x hx
    by_cases h0 : 0 ≤ b
    · exact Or.inl (b74_25 (main x (jo b) hx (pos_lN h0)))
    · exact Or.inr h0
  have neg : ∀ {z : Int}, ¬ 0 ≤ z → -jo z = lN z.natAbs := by
    intro z hz
    rw [jo_neg, lN_jo]
    congr 1
    omega
  have hca : 0 ≤ lg_cmp (jo a) (0 : Int64) ↔ 0 ≤ a := by rw [lg_cmp_ge, show (0 : Int64) = jo 0 from rfl, jo_le j0 ha]
  have hcb : 0 ≤ lg_cmp (jo b) (0 : Int64) ↔ 0 ≤ b := by rw [lg_cmp_ge, show (0 : Int64) = jo 0 from rfl, jo_le j0 hb]
  refine b74_0 (fun c => b74_11 (fun d => b74_25 (main _ _ (pos_lN (hca.mp c)) (pos_lN (hcb.mp d)))) (fun d => b74_20 (main _ _ (pos_lN (hca.mp c)) (neg (fun q => d (hcb.mpr q)))))) (fun c => b74_6 (fun d => b74_25 (main _ _ (neg (fun q => c (hca.mpr q))) (pos_lN (hcb.mp d)))) (fun d => b74_20 (main _ _ (neg (fun q => c (hca.mpr q))) (neg (fun q => d (hcb.mpr q))))))
/-- gets(u, w) of the reference, w above 0 -/
theorem sp_gets {a : Nat} {u w : Int} (hk : kd h a = 9) (hu : JB u) (hu1 : -9223372036854775808 < u) (hw : 0 < w) (hwb : JB w) (nx : Q none (sJ (sJ h a 9 (jo (rU u w))) a 10 (jo (rL u w)))) : X 83 Q bc bs 0 [.ref a, .long (jo u), UU, .long (jo w), UU, UU, UU] [] h := by
  have hg := rg_pos (u := u) hw
  have hgn : 0 < Int.gcd u w := by omega
  have hgw : Int.gcd u w ≤ w.natAbs := Nat.le_of_dvd (by omega) (Nat.gcd_dvd_right _ _)
  have hg63 : Int.gcd u w < 2 ^ 63 := by unfold JB at hwb; omega
  refine b83_0 (sp_gcd hu hu1 hwb (by omega) ?_)
  show X 83 Q bc bs 5 [.ref a, .long (jo u), UU, .long (jo w), UU, UU, UU] [.long (lN (Int.gcd u w))] h
  refine b83_5 ?_ hk ?_
  · rw [show (0 : Int64) = lN 0 from rfl, pk_lEQ hg63 (by omega)]
    omega
  · rw [div_lN hu hu1 hgn hg63 (Int.gcd_dvd_left u w), div_lN hwb (by omega) hgn hg63 (Int.gcd_dvd_right u w)]
    exact nx
end LOW2
