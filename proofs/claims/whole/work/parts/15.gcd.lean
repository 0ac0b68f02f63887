/-! greatest, gcd, common, put, gets: the lowest terms on both sides. -/
theorem half_mod {b m : Nat} (h : m < b) (h0 : 0 < m) : 2 * (b % m) < b := by
  have h1 := Nat.mod_lt b h0
  have h2 := Nat.div_add_mod b m
  have h3 : 1 ≤ b / m := (Nat.one_le_div_iff h0).mpr (Nat.le_of_lt h)
  have h4 : m * 1 ≤ m * (b / m) := Nat.mul_le_mul_left m h3
  omega
section GCD
variable {Q : Option Value → HP → Prop} {bc bs : Nat} {h : HP}
theorem gr_end {a i : Nat} (hi : i < 200) (nx : Q (some (.long (lN a))) h) : X 8 Q bc bs 3 [.long (lN a), UU, .long (lN 0), UU, .int (nI i), UU, UU] [] h := by
  refine b8_3 (fun c => absurd c ?_) (fun _ => b8_11 (fun _ => b8_33 nx) (fun c => absurd ?_ c))
  · rw [show (200 : Int32) = nI 200 from rfl]
    exact nI_ge hi (by omega)
  · rw [lg_cmp_eq]
    rfl
theorem gr_step {a b i : Nat} (ha : a < 2 ^ 63) (hb : b < 2 ^ 63) (h0 : 0 < b) (hi : i < 200) (nx : X 8 Q bc bs 3 [.long (lN b), UU, .long (lN (a % b)), UU, .int (nI (i + 1)), UU, UU] [] h) : X 8 Q bc bs 3 [.long (lN a), UU, .long (lN b), UU, .int (nI i), UU, UU] [] h := by
  have hb0 : ¬ lN b = 0 := by
    rw [show (0 : Int64) = lN 0 from rfl, pk_lEQ hb (by omega)]
    omega
  refine b8_3 (fun c => absurd c ?_) (fun _ => b8_11 (fun c => absurd ((lg_cmp_eq _ _).mp c) hb0) (fun _ => b8_17 hb0 ?_))
  · rw [show (200 : Int32) = nI 200 from rfl]
    exact nI_ge hi (by omega)
  · rw [pk_lRem ha h0 hb, show nI i + (1 : Int32) = nI (i + 1) from nI_1 i]
    exact nx
theorem gr_loop : ∀ (k a b i : Nat), a < 2 ^ 63 → b < 2 ^ 63 → b < 2 ^ k → i + 2 * k ≤ 198 → Q (some (.long (lN (Nat.gcd a b)))) h → X 8 Q bc bs 3 [.long (lN a), UU, .long (lN b), UU, .int (nI i), UU, UU] [] h
  | 0, a, b, i, ha, hb, hk, hi, nx => by
    have e : b = 0 := by simpa using hk
    subst e
    rw [Nat.gcd_zero_right] at nx
    exact gr_end (by omega) nx
  | k + 1, a, b, i, ha, hb, hk, hi, nx => by
    rcases Nat.eq_zero_or_pos b with e | h0
    · subst e
      rw [Nat.gcd_zero_right] at nx
      exact gr_end (by omega) nx
    · refine gr_step ha hb h0 (by omega) ?_
      have hm := Nat.mod_lt a h0
      have g1 : Nat.gcd a b = Nat.gcd b (a % b) := by rw [Nat.gcd_comm a b, Nat.gcd_rec b a, Nat.gcd_comm]
      rw [g1] at nx
      rcases Nat.eq_zero_or_pos (a % b) with e | h1
      · rw [e] at nx ⊢
        rw [Nat.gcd_zero_right] at nx
        exact gr_end (by omega) nx
      · refine gr_step hb (by omega) h1 (by omega) ?_
        have h2 := half_mod hm h1
        have hm2 := Nat.mod_lt b h1
        have g2 : Nat.gcd b (a % b) = Nat.gcd (a % b) (b % (a % b)) := by rw [Nat.gcd_comm b (a % b), Nat.gcd_rec (a % b) b, Nat.gcd_comm]
        rw [g2] at nx
        have hp : (2 : Nat) ^ (k + 1) = 2 * 2 ^ k := by rw [Nat.pow_succ, Nat.mul_comm]
        exact gr_loop k (a % b) (b % (a % b)) (i + 1 + 1) (by omega) (by omega) (by omega) (by omega) nx
/-- greatest(a, b) of the class -/
theorem sp_greatest {a b : Nat} (ha : a < 2 ^ 63) (hb : b < 2 ^ 63) (nx : Q (some (.long (lN (Nat.gcd a b)))) h) : X 8 Q bc bs 0 [.long (lN a), UU, .long (lN b), UU, UU, UU, UU] [] h := by
  refine b8_0 ?_
  exact gr_loop 63 a b 0 ha hb hb (by omega) nx
end GCD
