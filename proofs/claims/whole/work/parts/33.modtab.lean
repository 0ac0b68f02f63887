/-! The reference: isPressure, last, isWithin, segment, reads, wets, finds. -/
theorem nI_mul (a b : Nat) : nI a * nI b = nI (a * b) := (Int32.ofNat_mul a b).symm
def TM (h : HP) (t : TBT) : Prop := hI h 115 4 = nI (tnp t) ∧ ∀ p, p < tnp t → hI h 119 p = nI (tpt t p) ∧ ∀ i, i < tpt t p → hI h 120 (8 * p + i) = io (tF t p i) ∧ hI h 121 (8 * p + i) = io (tO t p i) ∧ hI h 122 (8 * p + i) = io (tW t p i)
def gw (h : HP) (u w : Int) : HP := sJ (sJ h 115 9 (jo u)) 115 10 (jo w)
theorem gw_9 {h : HP} {u w : Int} : hJ (gw h u w) 115 9 = jo u := by
  unfold gw
  rw [hJ_sJ, if_pos rfl, if_neg (by decide), hJ_sJ, if_pos rfl, if_pos rfl]
theorem gw_10 {h : HP} {u w : Int} : hJ (gw h u w) 115 10 = jo w := by
  unfold gw
  rw [hJ_sJ, if_pos rfl, if_pos rfl]
section MOD
variable {Q : Option Value → HP → Prop} {bc bs : Nat} {h : HP}
theorem sp_isP {t : TBT} {p : Int32} (hs : Str h) (tm : TM h t) (ht : tnp t ≤ 10) (y : 0 ≤ p.toInt ∧ p.toInt < tnp t → Q (some (.int (1 : Int32))) h) (n : ¬ (0 ≤ p.toInt ∧ p.toInt < tnp t) → Q (some (.int (0 : Int32))) h) : X 78 Q bc bs 0 [.ref 115, .int p] [] h := by
  have z : (0 : Int64).toInt = 0 := by decide
  have e : (hI h 115 4 - (1 : Int32)).toInt = (tnp t : Int) - 1 := by
    rw [tm.1, nI_io, show (1 : Int32) = io 1 from rfl, io_sub, io_toInt (by unfold IB; omega)]
  refine b78_0 (hs.k 115 (by decide) (by decide)) (sp_72 (fun c => b78_13 (Or.inr rfl) (y ?_)) (fun c => b78_13 (Or.inl rfl) (n ?_)))
  · rw [Int64.le_iff_toInt_le, Int64.le_iff_toInt_le, Int32.toInt_toInt64, Int32.toInt_toInt64, e, z] at c
    omega
  · rw [Int64.le_iff_toInt_le, Int64.le_iff_toInt_le, Int32.toInt_toInt64, Int32.toInt_toInt64, e, z] at c
    omega
theorem sp_last {t : TBT} {p : Nat} (hs : Str h) (tm : TM h t) (tg : TG t) (hp : p < tnp t) (nx : Q (some (.int (nI (8 * p + (tpt t p - 1))))) h) : X 80 Q bc bs 0 [.ref 115, .int (nI p)] [] h := by
  have h10 := tg.1
  have gp := tg.2 p hp
  have gn2 := gp.1
  have gn8 := gp.2.1
  have e : ((8 : Int32) * nI p + hI h 119 (nI p).toNatClampNeg) - (1 : Int32) = nI (8 * p + (tpt t p - 1)) := by
    rw [nI_clamp (by omega), (tm.2 p hp).1, show (8 : Int32) = nI 8 from rfl, nI_mul, nI_add]
    have := gp.1
    rw [show 8 * p + tpt t p = (8 * p + (tpt t p - 1)) + 1 by omega]
    exact nI_pred _
  refine b80_0 (r1 := 119) (hs.k 115 (by decide) (by decide)) (hs.r 115 5 (by decide)) (hs.k 119 (by decide) (by decide)) (by rw [hs.z 119 (c := 10) (by decide) (by decide)]; exact vp_in_nI (by omega) (by omega)) ?_
  rw [e]
  exact nx
theorem sp_within {t : TBT} {p : Nat} {u w : Int} (hs : Str h) (tm : TM h t) (tg : TG t) (hp : p < tnp t) (ju : JB u) (hw2 : w.natAbs ≤ 1000000000000000) (y : tF t p 0 * w ≤ u ∧ u ≤ tF t p (tpt t p - 1) * w → Q (some (.int (1 : Int32))) h) (n : ¬ (tF t p 0 * w ≤ u ∧ u ≤ tF t p (tpt t p - 1) * w) → Q (some (.int (0 : Int32))) h) : X 81 Q bc bs 0 [.ref 115, .int (nI p), .long (jo u), UU, .long (jo w), UU] [] h := by
  have h10 := tg.1
  have gp := tg.2 p hp
  have gn2 := gp.1
  have gn8 := gp.2.1
  have k115 : kd h 115 = 9 := hs.k 115 (by decide) (by decide)
  have k120 : kd h 120 = 10 := hs.k 120 (by decide) (by decide)
  have z120 : zl h 120 = 80 := hs.z 120 (by decide) (by decide)
  have e8 : (8 : Int32) * nI p = nI (8 * p) := nI_mul 8 p
  have f0 := (gp.2.2.1 0 (by omega)).1
  have f1 := (gp.2.2.1 (tpt t p - 1) (by omega)).1
  have b0 : JB (tF t p 0 * w) := (JBn (Nat.le_trans (nm_le (A := 1000) (by omega) hw2) (by omega))).1
  have b1 : JB (tF t p (tpt t p - 1) * w) := (JBn (Nat.le_trans (nm_le (A := 1000) (by omega) hw2) (by omega))).1
  have p0 : (hI h 120 (nI (8 * p)).toNatClampNeg).toInt64 * jo w = jo (tF t p 0 * w) := by
    have := ((tm.2 p hp).2 0 (by omega)).1
    rw [nI_clamp (by omega), show 8 * p = 8 * p + 0 by omega, this, i2l_jo (by unfold IB; omega), jo_mul]
  have p1 : (hI h 120 (nI (8 * p + (tpt t p - 1))).toNatClampNeg).toInt64 * jo w = jo (tF t p (tpt t p - 1) * w) := by
    rw [nI_clamp (by omega), ((tm.2 p hp).2 (tpt t p - 1) (by omega)).1, i2l_jo (by unfold IB; omega), jo_mul]
  refine b81_0 (r1 := 120) k115 (hs.r 115 6 (by decide)) k120 (by rw [z120, e8]; exact vp_in_nI (by omega) (by omega)) (fun c => b81_41 (n ?_)) (fun c => b81_18 (r1 := 120) k115 (hs.r 115 6 (by decide)) (sp_last hs tm tg hp (b81_28 k120 (by rw [z120]; exact vp_in_nI (by omega) (by omega)) (fun d => b81_41 (n ?_)) (fun d => b81_37 (y ?_)))))
  · rw [e8, p0, lg_cmp_lt, jo_lt ju b0] at c
    omega
  · rw [p1, lg_cmp_gt, jo_lt b1 ju] at d
    omega
  · rw [e8, p0, lg_cmp_lt, jo_lt ju b0] at c
    rw [p1, lg_cmp_gt, jo_lt b1 ju] at d
    omega
theorem sp_seg_loop {t : TBT} {p : Nat} {u w : Int} (hs : Str h) (tm : TM h t) (tg : TG t) (hp : p < tnp t) (ju : JB u) (hw2 : w.natAbs ≤ 1000000000000000) (h1 : u ≤ tF t p (tpt t p - 1) * w)
    (nx : ∀ i, i + 1 < tpt t p → btw (tF t p) u w i → (∀ j, j < i → ¬ btw (tF t p) u w j) → Q (some (.int (nI (8 * p + i)))) h) :
    ∀ (f i : Nat), i + 1 + f = tpt t p → 0 < f → tF t p i * w ≤ u → (∀ j, j < i → ¬ btw (tF t p) u w j) → X 82 Q bc bs 6 [.ref 115, .int (nI p), .long (jo u), UU, .long (jo w), UU, .int (nI (8 * p + i))] [] h := by
  have h10 := tg.1
  have gp := tg.2 p hp
  have gn2 := gp.1
  have gn8 := gp.2.1
  have k115 : kd h 115 = 9 := hs.k 115 (by decide) (by decide)
  have k120 : kd h 120 = 10 := hs.k 120 (by decide) (by decide)
  have z120 : zl h 120 = 80 := hs.z 120 (by decide) (by decide)
  intro f
  induction f with
  | zero => intro i _ h0; exact absurd h0 (by omega)
  | succ f ih =>
    intro i hi _ hl hn
    have e1 : nI (8 * p + i) + (1 : Int32) = nI (8 * p + (i + 1)) := nI_1 _
    refine b82_6 k115 (sp_last hs tm tg hp ?_)
    refine b82_15 (fun c => b82_42 (nx i (by omega) ⟨(gp.2.2.2.1 i (by omega)).1, hl, ?_⟩ hn)) (fun c => ?_)
    · rw [e1, nI_leI (by omega) (by omega)] at c
      rw [show i + 1 = tpt t p - 1 by omega]
      exact h1
    · rw [e1, nI_leI (by omega) (by omega)] at c
      have f1 := (gp.2.2.1 (i + 1) (by omega)).1
      have b1 : JB (tF t p (i + 1) * w) := (JBn (Nat.le_trans (nm_le (A := 1000) (by omega) hw2) (by omega))).1
      have p1 : (hI h 120 (nI (8 * p + i) + (1 : Int32)).toNatClampNeg).toInt64 * jo w = jo (tF t p (i + 1) * w) := by
        rw [e1, nI_clamp (by omega), ((tm.2 p hp).2 (i + 1) (by omega)).1, i2l_jo (by unfold IB; omega), jo_mul]
      refine b82_18 (r1 := 120) k115 (hs.r 115 6 (by decide)) k120 (by rw [z120, e1]; exact vp_in_nI (by omega) (by omega)) (fun d => b82_42 (nx i (by omega) ⟨(gp.2.2.2.1 i (by omega)).1, hl, ?_⟩ hn)) (fun d => b82_36 ?_)
      · rw [p1, lg_cmp_le, jo_le ju b1] at d
        exact d
      · rw [p1, lg_cmp_le, jo_le ju b1] at d
        rw [e1]
        refine ih (i + 1) (by omega) (by omega) (by omega) (fun j hj => ?_)
        rcases Nat.lt_or_ge j i with q | q
        · exact hn j q
        · rw [show j = i by omega]
          intro z
          have := z.2.2
          omega
theorem sp_seg {t : TBT} {p : Nat} {u w : Int} (hs : Str h) (tm : TM h t) (tg : TG t) (hp : p < tnp t) (ju : JB u) (hw2 : w.natAbs ≤ 1000000000000000) (h0 : tF t p 0 * w ≤ u) (h1 : u ≤ tF t p (tpt t p - 1) * w)
    (nx : ∀ i, i + 1 < tpt t p → btw (tF t p) u w i → (∀ j, j < i → ¬ btw (tF t p) u w j) → Q (some (.int (nI (8 * p + i)))) h) : X 82 Q bc bs 0 [.ref 115, .int (nI p), .long (jo u), UU, .long (jo w), UU, UU] [] h := by
  have gp := tg.2 p hp
  have gn2 := gp.1
  have gn8 := gp.2.1
  refine b82_0 ?_
  rw [show (8 : Int32) * nI p = nI (8 * p + 0) from nI_mul 8 p]
  exact sp_seg_loop hs tm tg hp ju hw2 h1 nx (tpt t p - 1) 0 (by have := gp.1; omega) (by have := gp.1; omega) h0 (fun j hj => absurd hj (by omega))
theorem sp_reads {t : TBT} {p : Nat} {u w : Int} {wh : Int32} (hs : Str h) (tm : TM h t) (tg : TG t) (hp : p < tnp t) (hw : 0 < w) (hw2 : w ≤ 10000000) (h0 : tF t p 0 * w ≤ u) (h1 : u ≤ tF t p (tpt t p - 1) * w)
    (y0 : ∀ i, wh = 0 → i + 1 < tpt t p → btw (tF t p) u w i → (∀ j, j < i → ¬ btw (tF t p) u w j) → Q none (gw h (rU (bN (tF t p) (tO t p) u w i) (bD (tF t p) w i)) (rL (bN (tF t p) (tO t p) u w i) (bD (tF t p) w i))))
    (y1 : ∀ i, ¬ wh = 0 → i + 1 < tpt t p → btw (tF t p) u w i → (∀ j, j < i → ¬ btw (tF t p) u w j) → Q none (gw h (rU (bN (tF t p) (tW t p) u w i) (bD (tF t p) w i)) (rL (bN (tF t p) (tW t p) u w i) (bD (tF t p) w i)))) :
    X 84 Q bc bs 0 [.ref 115, .int (nI p), .long (jo u), UU, .long (jo w), UU, .int wh, UU, UU, UU, UU] [] h := by
  have h10 := tg.1
  have gp := tg.2 p hp
  have gn2 := gp.1
  have gn8 := gp.2.1
  have g0 := (gp.2.2.1 0 (by have := gp.1; omega)).1
  have g1 := (gp.2.2.1 (tpt t p - 1) (by have := gp.1; omega)).1
  have u0 : 0 ≤ tF t p 0 * w := Int.mul_nonneg g0.1 (by omega)
  have u1 : tF t p (tpt t p - 1) * w ≤ 1000 * w := Int.mul_le_mul_of_nonneg_right g1.2 (by omega)
  have ju : JB u := by unfold JB; omega
  have k115 : kd h 115 = 9 := hs.k 115 (by decide) (by decide)
  have k120 : kd h 120 = 10 := hs.k 120 (by decide) (by decide)
  have z120 : zl h 120 = 80 := hs.z 120 (by decide) (by decide)
  have k121 : kd h 121 = 10 := hs.k 121 (by decide) (by decide)
  have z121 : zl h 121 = 80 := hs.z 121 (by decide) (by decide)
  have k122 : kd h 122 = 10 := hs.k 122 (by decide) (by decide)
  have z122 : zl h 122 = 80 := hs.z 122 (by decide) (by decide)
  refine b84_0 k115 (sp_seg hs tm tg hp ju (by omega) h0 h1 (fun i hi hb hn => ?_))
  have e1 : nI (8 * p + i) + (1 : Int32) = nI (8 * p + (i + 1)) := nI_1 _
  have v0 : vp_in (nI (8 * p + i)) 80 := vp_in_nI (by omega) (by omega)
  have v1 : vp_in (nI (8 * p + i) + (1 : Int32)) 80 := by rw [e1]; exact vp_in_nI (by omega) (by omega)
  have t0 := (tm.2 p hp).2 i (by omega)
  have t1 := (tm.2 p hp).2 (i + 1) (by omega)
  have q0 := gp.2.2.1 i (by omega)
  have q1 := gp.2.2.1 (i + 1) (by omega)
  have dF := (gp.2.2.2.1 i hi).1
  have ew : (hI h 120 (nI (8 * p + i) + (1 : Int32)).toNatClampNeg - hI h 120 (nI (8 * p + i)).toNatClampNeg).toInt64 = jo (tF t p (i + 1) - tF t p i) := by
    rw [e1, nI_clamp (by omega), nI_clamp (by omega), t0.1, t1.1, io_sub, i2l_jo (by unfold IB; omega)]
  have eF : (hI h 120 (nI (8 * p + i)).toNatClampNeg).toInt64 = jo (tF t p i) := by
    rw [nI_clamp (by omega), t0.1, i2l_jo (by unfold IB; omega)]
  have Dp : 0 < bD (tF t p) w i := Int.mul_pos (by omega) hw
  have Dn : (bD (tF t p) w i).natAbs ≤ 1000 * 10000000 := nm_le (by omega) (by omega)
  have nb : ∀ g : Nat → Int, (g i).natAbs ≤ 1000 → (g (i + 1)).natAbs ≤ 1000 → (bN (tF t p) g u w i).natAbs ≤ 9000000000000000000 := by
    intro g a b
    have t1 := nm_le (nm_le (a := g i) (b := tF t p (i + 1) - tF t p i) a (show (tF t p (i + 1) - tF t p i).natAbs ≤ 1000 by omega)) (show w.natAbs ≤ 10000000 by omega)
    have t2 := nm_le (a := u - tF t p i * w) (b := g (i + 1) - g i) (A := 10000000000) (B := 2000) (by have := hb.2.1; have : 0 ≤ tF t p i * w := Int.mul_nonneg q0.1.1 (by omega); omega) (by omega)
    unfold bN
    omega
  refine b84_8 (r1 := 120) k115 (hs.r 115 6 (by decide)) k120 (by rw [z120]; exact v1) (by rw [z120]; exact v0) (fun c => ?_) (fun c => ?_)
  · have eg : (hI h 122 (nI (8 * p + i)).toNatClampNeg).toInt64 = jo (tW t p i) := by
      rw [nI_clamp (by omega), t0.2.2, i2l_jo (by unfold IB; omega)]
    have egd : (hI h 122 (nI (8 * p + i) + (1 : Int32)).toNatClampNeg - hI h 122 (nI (8 * p + i)).toNatClampNeg).toInt64 = jo (tW t p (i + 1) - tW t p i) := by
      rw [e1, nI_clamp (by omega), nI_clamp (by omega), t0.2.2, t1.2.2, io_sub, i2l_jo (by unfold IB; omega)]
    rw [ew]
    refine b84_42 (r1 := 122) (r2 := 120) k115 (hs.r 115 8 (by decide)) k122 (by rw [z122]; exact v0) (hs.r 115 6 (by decide)) k120 (by rw [z120]; exact v0) (by rw [z122]; exact v1) ?_
    rw [eg, egd, eF, jo_mul, jo_mul, jo_mul, jo_sub, jo_mul, jo_add, jo_mul]
    have n1 := nb (tW t p) (by omega) (by omega)
    exact sp_gets (u := bN (tF t p) (tW t p) u w i) (w := bD (tF t p) w i) k115 (JBn n1).1 (JBn n1).2 Dp (JBn (by omega)).1 (b84_98 (y1 i c hi hb hn))
  · have eg : (hI h 121 (nI (8 * p + i)).toNatClampNeg).toInt64 = jo (tO t p i) := by
      rw [nI_clamp (by omega), t0.2.1, i2l_jo (by unfold IB; omega)]
    have egd : (hI h 121 (nI (8 * p + i) + (1 : Int32)).toNatClampNeg - hI h 121 (nI (8 * p + i)).toNatClampNeg).toInt64 = jo (tO t p (i + 1) - tO t p i) := by
      rw [e1, nI_clamp (by omega), nI_clamp (by omega), t0.2.1, t1.2.1, io_sub, i2l_jo (by unfold IB; omega)]
    rw [ew]
    refine b84_35 (r1 := 121) (r2 := 120) k115 (hs.r 115 7 (by decide)) k121 (by rw [z121]; exact v0) (hs.r 115 6 (by decide)) k120 (by rw [z120]; exact v0) (by rw [z121]; exact v1) ?_
    rw [eg, egd, eF, jo_mul, jo_mul, jo_mul, jo_sub, jo_mul, jo_add, jo_mul]
    have n1 := nb (tO t p) (by omega) (by omega)
    exact sp_gets (u := bN (tF t p) (tO t p) u w i) (w := bD (tF t p) w i) k115 (JBn n1).1 (JBn n1).2 Dp (JBn (by omega)).1 (b84_98 (y0 i c hi hb hn))
theorem sp_wets {t : TBT} {p : Nat} {u w : Int} (hs : Str h) (tm : TM h t) (tg : TG t) (hp : p < tnp t) (hw : 0 < w) (hw2 : w ≤ 10000000) (h0 : 0 ≤ u) (h1 : u ≤ 1000 * w)
    (nx : Q none (gw h (rU (wN (tF t p) u w) ((tF t p 1 - tF t p 0) * w)) (rL (wN (tF t p) u w) ((tF t p 1 - tF t p 0) * w)))) :
    X 85 Q bc bs 0 [.ref 115, .int (nI p), .long (jo u), UU, .long (jo w), UU, UU, UU, UU, UU] [] h := by
  have h10 := tg.1
  have gp := tg.2 p hp
  have gn2 := gp.1
  have gn8 := gp.2.1
  have g0 := (gp.2.2.1 0 (by have := gp.1; omega)).1
  have g1 := (gp.2.2.1 1 (by have := gp.1; omega)).1
  have dF : tF t p 0 < tF t p 1 := (gp.2.2.2.1 0 (by have := gp.1; omega)).1
  have k115 : kd h 115 = 9 := hs.k 115 (by decide) (by decide)
  have k120 : kd h 120 = 10 := hs.k 120 (by decide) (by decide)
  have z120 : zl h 120 = 80 := hs.z 120 (by decide) (by decide)
  have j0 : JB 0 := by unfold JB; omega
  have e8 : (8 : Int32) * nI p = nI (8 * p) := nI_mul 8 p
  have e81 : nI (8 * p) + (1 : Int32) = nI (8 * p + 1) := nI_1 _
  have t0 := (tm.2 p hp).2 0 (by have := gp.1; omega)
  have t1 := (tm.2 p hp).2 1 (by have := gp.1; omega)
  have m1 := nm_le (a := tF t p 1) (b := w) (A := 1000) (B := 10000000) (by omega) (by omega)
  have el : (hI h 120 (nI (8 * p) + (1 : Int32)).toNatClampNeg).toInt64 * jo w - jo u = jo (tF t p 1 * w - u) := by
    rw [e81, nI_clamp (by omega), t1.1, i2l_jo (by unfold IB; omega), jo_mul, jo_sub]
  have ew : (hI h 120 (nI (8 * p) + (1 : Int32)).toNatClampNeg - hI h 120 (nI (8 * p)).toNatClampNeg).toInt64 = jo (tF t p 1 - tF t p 0) := by
    have t0' : hI h 120 (8 * p) = io (tF t p 0) := t0.1
    rw [e81, nI_clamp (by omega), nI_clamp (by omega), t0', t1.1, io_sub, i2l_jo (by unfold IB; omega)]
  have jl : JB (tF t p 1 * w - u) := by unfold JB; omega
  have Dp : 0 < (tF t p 1 - tF t p 0) * w := Int.mul_pos (by omega) hw
  have Dn := nm_le (a := tF t p 1 - tF t p 0) (b := w) (A := 1000) (B := 10000000) (by omega) (by omega)
  refine b85_0 (r1 := 120) k115 (hs.r 115 6 (by decide)) k120 (by rw [z120, e8, e81]; exact vp_in_nI (by omega) (by omega)) (by rw [z120, e8]; exact vp_in_nI (by omega) (by omega)) (fun c => ?_) (fun c => ?_)
  · rw [e8, el, lg_cmp_gt, show (0 : Int64) = jo 0 from rfl, jo_lt j0 jl] at c
    rw [e8, el, ew]
    refine b85_59 k115 ?_
    rw [jo_mul]
    have e : wN (tF t p) u w = tF t p 1 * w - u := by
      unfold wN
      rw [if_neg (by omega)]
    rw [e] at nx
    exact sp_gets k115 jl (by omega) Dp (JBn (by omega)).1 (b85_70 nx)
  · rw [e8, el, lg_cmp_gt, show (0 : Int64) = jo 0 from rfl, jo_lt j0 jl] at c
    refine b85_50 k115 ?_
    rw [show (0 : Int64) = jo 0 from rfl, show (1 : Int64) = jo 1 from rfl]
    have e : wN (tF t p) u w = 0 := by
      unfold wN
      split <;> omega
    rw [e, (r_zero Dp).1, (r_zero Dp).2] at nx
    refine sp_gets k115 j0 (by omega) (by decide) (by unfold JB; omega) (b85_56 ?_)
    rw [(r_zero (by decide)).1, (r_zero (by decide)).2]
    exact nx
theorem sp_finds_loop {t : TBT} {p : Nat} {u w : Int} (hs : Str h) (tm : TM h t) (tg : TG t) (hp : p < tnp t) (ju : JB u) (hw2 : w.natAbs ≤ 1000000000000000) (h1 : u ≤ tO t p (tpt t p - 1) * w)
    (nx : ∀ i, i + 1 < tpt t p → btw (tO t p) u w i → (∀ j, j < i → ¬ btw (tO t p) u w j) → X 91 Q bc bs 81 [.ref 115, .int (nI p), .long (jo u), UU, .long (jo w), UU, .int (nI (8 * p + i)), UU, UU, UU, UU] [] h) :
    ∀ (f i : Nat), i + 1 + f = tpt t p → 0 < f → tO t p i * w ≤ u → (∀ j, j < i → ¬ btw (tO t p) u w j) → X 91 Q bc bs 45 [.ref 115, .int (nI p), .long (jo u), UU, .long (jo w), UU, .int (nI (8 * p + i)), UU, UU, UU, UU] [] h := by
  have h10 := tg.1
  have gp := tg.2 p hp
  have gn2 := gp.1
  have gn8 := gp.2.1
  have k115 : kd h 115 = 9 := hs.k 115 (by decide) (by decide)
  have k121 : kd h 121 = 10 := hs.k 121 (by decide) (by decide)
  have z121 : zl h 121 = 80 := hs.z 121 (by decide) (by decide)
  intro f
  induction f with
  | zero => intro i _ h0; exact absurd h0 (by omega)
  | succ f ih =>
    intro i hi _ hl hn
    have e1 : nI (8 * p + i) + (1 : Int32) = nI (8 * p + (i + 1)) := nI_1 _
    refine b91_45 k115 (sp_last hs tm tg hp ?_)
    refine b91_54 (fun c => nx i (by omega) ⟨(gp.2.2.2.1 i (by omega)).2.1, hl, ?_⟩ hn) (fun c => ?_)
    · rw [e1, nI_leI (by omega) (by omega)] at c
      rw [show i + 1 = tpt t p - 1 by omega]
      exact h1
    · rw [e1, nI_leI (by omega) (by omega)] at c
      have f1 := (gp.2.2.1 (i + 1) (by omega)).2.1
      have b1 : JB (tO t p (i + 1) * w) := (JBn (Nat.le_trans (nm_le (A := 1000) (by omega) hw2) (by omega))).1
      have p1 : (hI h 121 (nI (8 * p + i) + (1 : Int32)).toNatClampNeg).toInt64 * jo w = jo (tO t p (i + 1) * w) := by
        rw [e1, nI_clamp (by omega), ((tm.2 p hp).2 (i + 1) (by omega)).2.1, i2l_jo (by unfold IB; omega), jo_mul]
      refine b91_57 (r1 := 121) k115 (hs.r 115 7 (by decide)) k121 (by rw [z121, e1]; exact vp_in_nI (by omega) (by omega)) (fun d => nx i (by omega) ⟨(gp.2.2.2.1 i (by omega)).2.1, hl, ?_⟩ hn) (fun d => b91_75 ?_)
      · rw [p1, lg_cmp_le, jo_le ju b1] at d
        exact d
      · rw [p1, lg_cmp_le, jo_le ju b1] at d
        rw [e1]
        refine ih (i + 1) (by omega) (by omega) (by omega) (fun j hj => ?_)
        rcases Nat.lt_or_ge j i with q | q
        · exact hn j q
        · rw [show j = i by omega]
          intro z
          have := z.2.2
          omega
theorem mono_le {f : Nat → Int} {n : Nat} (hm : ∀ i, i + 1 < n → f i < f (i + 1)) : ∀ d i, i + d < n → f i ≤ f (i + d)
  | 0, i, _ => Int.le_refl _
  | d + 1, i, h => by
    have a := mono_le hm d i (by omega)
    have b := hm (i + d) (by omega)
    rw [← Nat.add_assoc]
    omega
theorem sp_finds {t : TBT} {p : Nat} {u w : Int} (hs : Str h) (tm : TM h t) (tg : TG t) (hp : p < tnp t) (hw : 0 < w) (hw2 : w ≤ 10000000000) (h0 : 0 ≤ u) (h1 : u ≤ 1000 * w)
    (y : ∀ i, i + 1 < tpt t p → btw (tO t p) u w i → (∀ j, j < i → ¬ btw (tO t p) u w j) → Q (some (.int (1 : Int32))) (gw h (bN (tO t p) (tF t p) u w i) (bD (tO t p) w i)))
    (n : (∀ i, i + 1 < tpt t p → ¬ btw (tO t p) u w i) → Q (some (.int (0 : Int32))) h) :
    X 91 Q bc bs 0 [.ref 115, .int (nI p), .long (jo u), UU, .long (jo w), UU, UU, UU, UU, UU, UU] [] h := by
  have h10 := tg.1
  have gp := tg.2 p hp
  have gn2 := gp.1
  have gn8 := gp.2.1
  have hn2 := gp.1
  have k115 : kd h 115 = 9 := hs.k 115 (by decide) (by decide)
  have k120 : kd h 120 = 10 := hs.k 120 (by decide) (by decide)
  have z120 : zl h 120 = 80 := hs.z 120 (by decide) (by decide)
  have k121 : kd h 121 = 10 := hs.k 121 (by decide) (by decide)
  have z121 : zl h 121 = 80 := hs.z 121 (by decide) (by decide)
  have ju : JB u := by unfold JB; omega
  have e8 : (8 : Int32) * nI p = nI (8 * p) := nI_mul 8 p
  have wn : w.natAbs ≤ 1000000000000000 := by omega
  have f0 := (gp.2.2.1 0 (by omega)).2.1
  have f1 := (gp.2.2.1 (tpt t p - 1) (by omega)).2.1
  have b0 : JB (tO t p 0 * w) := (JBn (Nat.le_trans (nm_le (A := 1000) (by omega) wn) (by omega))).1
  have b1 : JB (tO t p (tpt t p - 1) * w) := (JBn (Nat.le_trans (nm_le (A := 1000) (by omega) wn) (by omega))).1
  have p0 : (hI h 121 (nI (8 * p)).toNatClampNeg).toInt64 * jo w = jo (tO t p 0 * w) := by
    have := ((tm.2 p hp).2 0 (by omega)).2.1
    rw [nI_clamp (by omega), show 8 * p = 8 * p + 0 by omega, this, i2l_jo (by unfold IB; omega), jo_mul]
  have p1 : (hI h 121 (nI (8 * p + (tpt t p - 1))).toNatClampNeg).toInt64 * jo w = jo (tO t p (tpt t p - 1) * w) := by
    rw [nI_clamp (by omega), ((tm.2 p hp).2 (tpt t p - 1) (by omega)).2.1, i2l_jo (by unfold IB; omega), jo_mul]
  have mo : ∀ i, i + 1 < tpt t p → tO t p i < tO t p (i + 1) := fun i hi => (gp.2.2.2.1 i hi).2.1
  have no0 : u < tO t p 0 * w → ∀ i, i + 1 < tpt t p → ¬ btw (tO t p) u w i := by
    intro c i hi z
    have m := mono_le mo i 0 (by omega)
    rw [Nat.zero_add] at m
    have : tO t p 0 * w ≤ tO t p i * w := Int.mul_le_mul_of_nonneg_right m (by omega)
    have := z.2.1
    omega
  have no1 : tO t p (tpt t p - 1) * w < u → ∀ i, i + 1 < tpt t p → ¬ btw (tO t p) u w i := by
    intro c i hi z
    have m := mono_le mo (tpt t p - 1 - (i + 1)) (i + 1) (by omega)
    rw [show i + 1 + (tpt t p - 1 - (i + 1)) = tpt t p - 1 by omega] at m
    have : tO t p (i + 1) * w ≤ tO t p (tpt t p - 1) * w := Int.mul_le_mul_of_nonneg_right m (by omega)
    have := z.2.2
    omega
  refine b91_0 (r1 := 121) k115 (hs.r 115 7 (by decide)) k121 (by rw [z121, e8]; exact vp_in_nI (by omega) (by omega)) (fun c => b91_37 (n (no0 ?_))) (fun c => b91_18 (r1 := 121) k115 (hs.r 115 7 (by decide)) (sp_last hs tm tg hp (b91_28 k121 (by rw [z121]; exact vp_in_nI (by omega) (by omega)) (fun d => b91_39 ?_) (fun d => b91_37 (n (no1 ?_))))))
  · rw [e8, p0, lg_cmp_lt, jo_lt ju b0] at c
    exact c
  · rw [e8, p0, lg_cmp_lt, jo_lt ju b0] at c
    rw [p1, lg_cmp_le, jo_le ju b1] at d
    rw [show (8 : Int32) * nI p = nI (8 * p + 0) from e8]
    refine sp_finds_loop hs tm tg hp ju wn d (fun i hi hb hn => ?_) (tpt t p - 1) 0 (by omega) (by omega) (by omega) (fun j hj => absurd hj (by omega))
    have e1 : nI (8 * p + i) + (1 : Int32) = nI (8 * p + (i + 1)) := nI_1 _
    have v0 : vp_in (nI (8 * p + i)) 80 := vp_in_nI (by omega) (by omega)
    have v1 : vp_in (nI (8 * p + i) + (1 : Int32)) 80 := by rw [e1]; exact vp_in_nI (by omega) (by omega)
    have t0 := (tm.2 p hp).2 i (by omega)
    have t1 := (tm.2 p hp).2 (i + 1) (by omega)
    have q0 := gp.2.2.1 i (by omega)
    have q1 := gp.2.2.1 (i + 1) (by omega)
    have ed : (hI h 121 (nI (8 * p + i) + (1 : Int32)).toNatClampNeg - hI h 121 (nI (8 * p + i)).toNatClampNeg).toInt64 = jo (tO t p (i + 1) - tO t p i) := by
      rw [e1, nI_clamp (by omega), nI_clamp (by omega), t0.2.1, t1.2.1, io_sub, i2l_jo (by unfold IB; omega)]
    have eo : (hI h 121 (nI (8 * p + i)).toNatClampNeg).toInt64 = jo (tO t p i) := by
      rw [nI_clamp (by omega), t0.2.1, i2l_jo (by unfold IB; omega)]
    have eg : (hI h 120 (nI (8 * p + i)).toNatClampNeg).toInt64 = jo (tF t p i) := by
      rw [nI_clamp (by omega), t0.1, i2l_jo (by unfold IB; omega)]
    have egd : (hI h 120 (nI (8 * p + i) + (1 : Int32)).toNatClampNeg - hI h 120 (nI (8 * p + i)).toNatClampNeg).toInt64 = jo (tF t p (i + 1) - tF t p i) := by
      rw [e1, nI_clamp (by omega), nI_clamp (by omega), t0.1, t1.1, io_sub, i2l_jo (by unfold IB; omega)]
    refine b91_81 (r1 := 121) (r2 := 120) k115 (hs.r 115 7 (by decide)) k121 (by rw [z121]; exact v1) (by rw [z121]; exact v0) (hs.r 115 6 (by decide)) k120 (by rw [z120]; exact v1) (by rw [z120]; exact v0) ?_
    rw [eg, ed, eo, egd, jo_mul, jo_mul, jo_mul, jo_sub, jo_mul, jo_add, jo_mul]
    exact y i hi hb hn
  · rw [p1, lg_cmp_le, jo_le ju b1] at d
    omega
end MOD
