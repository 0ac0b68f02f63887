/-! did of the reference. -/
theorem q_le {w g : Int} (hw : 0 < w) (hg : 0 < g) (e : w / g * g = w) : 0 < w / g ∧ w / g ≤ w := by
  have p := rU_pos' hw hg e
  refine ⟨p, ?_⟩
  have := Int.mul_le_mul_of_nonneg_left (show (1 : Int) ≤ g by omega) (Int.le_of_lt p)
  omega
section DIDM
variable {Q : Option Value → HP → Prop} {bc bs : Nat} {h : HP} {A : AST}
theorem sp_orderM {t : TBT} {s : PST} (hs : Str h) (tm : TM h t) (tg : TG t) (sg : SG t s) (nx : Q none (gw h (orU t s) (orL t s))) : X 84 Q bc bs 0 [.ref 115, .int (nI s.1), .long (jo s.2.1), UU, .long (jo s.2.2), UU, .int (0 : Int32), UU, UU, UU, UU] [] h := by
  refine sp_reads hs tm tg sg.1 sg.2.1 sg.2.2.1 sg.2.2.2.2.1 sg.2.2.2.2.2 (fun i e hi hbi hfi => ?_) (fun i e hi hbi hfi => absurd rfl e)
  have e1 := rd_some (G := tO t s.1) hi hbi hfi
  rw [← e1.1, ← e1.2]
  exact nx
set_option maxHeartbeats 1000000 in
theorem n_did {i k : Int32} (hs : Str h) (g : Good A) (c : MI h A) (nx : ∀ h', FM h h' → MI h' A → Q (some (.long (f_did A i k))) h') : X 98 Q bc bs 0 [.ref 115, .int i, .int k, UU, UU, UU, UU, UU, UU, UU, UU] [] h := by
  have k0 : kd h 115 = 9 := hs.k 115 (by decide) (by decide)
  have nx0 := nx h FM.rfl' c
  have cu := c.2.2.1
  unfold f_did at nx nx0
  cases hu : aU A with
  | none =>
    rw [hu] at nx0
    exact b98_0 k0 (fun _ => b98_35 nx0) (fun z => absurd (cu.1 hu) z)
  | some R =>
    rw [hu] at nx nx0
    have rc := cu.2 R hu
    have rw_ := g.2.2.1 R hu
    have hm := rw_.1
    have emi : (hI h 115 19 - (1 : Int32)).toInt = (um R : Int) - 1 := by
      rw [rc.2.1, nI_io, show (1 : Int32) = io 1 from rfl, io_sub, io_toInt (by unfold IB; omega)]
    have no : ¬ (0 ≤ i.toInt ∧ i.toInt < um R ∧ 0 ≤ k.toInt ∧ k.toInt ≤ 3) → X 98 Q bc bs 35 [.ref 115, .int i, .int k, UU, UU, UU, UU, UU, UU, UU, UU] [] h := fun hn => by
      simp only [if_neg hn] at nx0
      exact b98_35 nx0
    refine b98_0 k0 (fun z => absurd z (by rw [rc.1]; decide)) (fun _ => b98_7 k0 (sp_72 (fun d1 => b98_20 (fun z => absurd z (by decide)) (fun _ => b98_23 (sp_72 (fun d2 => b98_32 (fun _ => ?_) (fun z => absurd z (by decide))) (fun d2 => b98_32 (fun z => absurd rfl z) (fun _ => no ?_))))) (fun d1 => b98_20 (fun _ => no ?_) (fun z => absurd rfl z))))
    · simp only [Int32.le_iff_toInt_le, Int32.lt_iff_toInt_lt, Int64.le_iff_toInt_le, Int64.lt_iff_toInt_lt, Int32.toInt_toInt64, i32eq, i64eq, Int32.reduceToInt, Int64.reduceToInt, Int32.reduceOfInt, emi] at d1 d2
      obtain ⟨j, hj⟩ : ∃ j : Nat, i.toInt = j := ⟨i.toInt.toNat, by omega⟩
      have ei := toInt_io hj
      subst ei
      have hjm : j < um R := by omega
      have cj : (nI j).toNatClampNeg = j := nI_clamp (by omega)
      have e1 : nI j + (1 : Int32) = nI (j + 1) := nI_1 j
      have cj1 : (nI j + (1 : Int32)).toNatClampNeg = j + 1 := by rw [e1]; exact nI_clamp (by omega)
      have vj : vp_in (nI j) 13 := vp_in_nI (by omega) (by omega)
      have vj1 : vp_in (nI j + (1 : Int32)) 13 := by rw [e1]; exact vp_in_nI (by omega) (by omega)
      obtain ⟨kn, hkn⟩ : ∃ j : Nat, k.toInt = j := ⟨k.toInt.toNat, by omega⟩
      obtain ⟨m, b, hm2, hb, ekm⟩ : ∃ m b : Nat, m < 2 ∧ b < 2 ∧ kn = 2 * m + b := ⟨kn / 2, kn % 2, by omega, by omega, by omega⟩
      have ek := toInt_io hkn
      subst ekm
      subst ek
      simp only [hj, hkn, Int.toNat_natCast, if_pos (show 0 ≤ (j : Int) ∧ (j : Int) < um R ∧ 0 ≤ ((2 * m + b : Nat) : Int) ∧ ((2 * m + b : Nat) : Int) ≤ 3 by omega), show (2 * m + b) % 2 = b by omega, show (2 * m + b) / 2 = m by omega] at nx nx0
      obtain ⟨a1, a2, a3⟩ := rc.2.2.2.1 j (by omega)
      obtain ⟨d1', d2', d3'⟩ := rc.2.2.2.1 (j + 1) (by omega)
      have sg0 := rw_.2.1 j (by omega)
      have sg1 := rw_.2.1 (j + 1) (by omega)
      have bd0 := SG_b g.1 sg0
      have bd1 := SG_b g.1 sg1
      have p0 := sg0.2.1
      have p1 := sg1.2.1
      have l0 := sg0.2.2.1
      have l1 := sg1.2.2.1
      have k126 : kd h 126 = 10 := hs.k 126 (by decide) (by decide)
      have z126 : zl h 126 = 13 := hs.z 126 (by decide) (by decide)
      have k127 : kd h 127 = 11 := hs.k 127 (by decide) (by decide)
      have z127 : zl h 127 = 13 := hs.z 127 (by decide) (by decide)
      have k128 : kd h 128 = 11 := hs.k 128 (by decide) (by decide)
      have z128 : zl h 128 = 13 := hs.z 128 (by decide) (by decide)
      have k129 : kd h 129 = 10 := hs.k 129 (by decide) (by decide)
      have z129 : zl h 129 = 12 := hs.z 129 (by decide) (by decide)
      have n0 : ∀ {x : Nat}, 0 < x → x < 2 ^ 63 → ¬ lN x = 0 := by
        intro x h1 h2
        rw [show (0 : Int64) = lN 0 from rfl, pk_lEQ h2 (by omega)]
        omega
      refine b98_39 (fun z => ?_) (fun z => ?_)
      · rw [show (2 : Int32) = nI 2 from rfl, nI_leI (by omega) (by omega)] at z
        have m1 : m = 1 := by omega
        subst m1
        rw [if_neg (by decide)] at nx nx0
        have kk := (rw_.2.2 j hjm).1
        have ek := rc.2.2.2.2 j hjm
        have ek1 : hI h 129 (nI j).toNatClampNeg ≤ (1 : Int32) ↔ uK R j ≤ 1 := by
          rw [cj, ek, show (1 : Int32) = io 1 from rfl, io_le (by unfold IB; omega) (by unfold IB; omega)]
        refine b98_134 (r1 := 129) k0 (hs.r 115 18 (by decide)) k129 (by rw [z129]; exact vp_in_nI (by omega) (by omega)) (fun y => ?_) (fun y => b98_144 ?_)
        · rw [ek1] at y
          rw [if_pos y] at nx
          have o0 := or_bound g.1 sg0
          have o1 := or_bound g.1 sg1
          refine b98_148 (r1 := 126) (r2 := 127) (r3 := 128) k0 (hs.r 115 15 (by decide)) k126 (by rw [z126]; exact vj) (hs.r 115 16 (by decide)) k127 (by rw [z127]; exact vj) (hs.r 115 17 (by decide)) k128 (by rw [z128]; exact vj) ?_
          rw [cj, a1, a2, a3]
          refine sp_orderM hs c.1 g.1 sg0 ?_
          have mg1 : MG h (gw h (orU (aT A) (uS R j)) (orL (aT A) (uS R j))) := MG.gw' MG.rfl'
          have x9 : hJ (gw h (orU (aT A) (uS R j)) (orL (aT A) (uS R j))) 115 9 = jo (orU (aT A) (uS R j)) := gw_9
          have x10 : hJ (gw h (orU (aT A) (uS R j)) (orL (aT A) (uS R j))) 115 10 = jo (orL (aT A) (uS R j)) := gw_10
          have y126 : hI (gw h (orU (aT A) (uS R j)) (orL (aT A) (uS R j))) 126 (j + 1) = nI (uS R (j + 1)).1 := by rw [mg1.ff.2.2.1 _ _ id]; exact d1'
          have y127 : hJ (gw h (orU (aT A) (uS R j)) (orL (aT A) (uS R j))) 127 (j + 1) = jo (uS R (j + 1)).2.1 := by rw [mg1.ff.2.2.2 _ _ (fun q => by omega)]; exact d2'
          have y128 : hJ (gw h (orU (aT A) (uS R j)) (orL (aT A) (uS R j))) 128 (j + 1) = jo (uS R (j + 1)).2.2 := by rw [mg1.ff.2.2.2 _ _ (fun q => by omega)]; exact d3'
          generalize gw h (orU (aT A) (uS R j)) (orL (aT A) (uS R j)) = h1 at mg1 x9 x10 y126 y127 y128 ⊢
          have hs1 := mg1.1.str hs
          refine b98_171 (r1 := 126) (r2 := 127) (r3 := 128) (hs1.k 115 (by decide) (by decide)) (hs1.r 115 15 (by decide)) (hs1.k 126 (by decide) (by decide)) (by rw [hs1.z 126 (c := 13) (by decide) (by decide)]; exact vj1) (hs1.r 115 16 (by decide)) (hs1.k 127 (by decide) (by decide)) (by rw [hs1.z 127 (c := 13) (by decide) (by decide)]; exact vj1) (hs1.r 115 17 (by decide)) (hs1.k 128 (by decide) (by decide)) (by rw [hs1.z 128 (c := 13) (by decide) (by decide)]; exact vj1) ?_
          rw [cj1, y126, y127, y128, x9, x10]
          refine sp_orderM hs1 (mg1.mr.tm c.1) g.1 sg1 ?_
          have mg2 : MG h (gw h1 (orU (aT A) (uS R (j + 1))) (orL (aT A) (uS R (j + 1)))) := MG.gw' mg1
          have v9 : hJ (gw h1 (orU (aT A) (uS R (j + 1))) (orL (aT A) (uS R (j + 1)))) 115 9 = jo (orU (aT A) (uS R (j + 1))) := gw_9
          have v10 : hJ (gw h1 (orU (aT A) (uS R (j + 1))) (orL (aT A) (uS R (j + 1)))) 115 10 = jo (orL (aT A) (uS R (j + 1))) := gw_10
          generalize gw h1 (orU (aT A) (uS R (j + 1))) (orL (aT A) (uS R (j + 1))) = h2 at mg2 v9 v10 ⊢
          generalize orU (aT A) (uS R j) = U0 at *
          generalize orL (aT A) (uS R j) = L0 at *
          generalize orU (aT A) (uS R (j + 1)) = U1 at *
          generalize orL (aT A) (uS R (j + 1)) = L1 at *
          have hs2 := mg2.1.str hs
          have k2 : kd h2 115 = 9 := hs2.k 115 (by decide) (by decide)
          refine b98_211 k2 ?_
          rw [v10]
          refine sp_gcd (by unfold JB; omega) (by omega) (by unfold JB; omega) (by omega) ?_
          have gp : 0 < (Int.gcd L0 L1 : Int) := rg_pos (u := L0) o1.1
          have gN : 0 < Int.gcd L0 L1 := by omega
          have gl : Int.gcd L0 L1 ≤ L0.natAbs := Nat.le_of_dvd (by omega) (Nat.gcd_dvd_left _ _)
          have eq0 : L0 / (Int.gcd L0 L1 : Int) * (Int.gcd L0 L1 : Int) = L0 := Int.ediv_mul_cancel (Int.gcd_dvd_left L0 L1)
          have eq1 : L1 / (Int.gcd L0 L1 : Int) * (Int.gcd L0 L1 : Int) = L1 := Int.ediv_mul_cancel (Int.gcd_dvd_right L0 L1)
          have q0 := q_le o0.1 gp eq0
          have q1 := q_le o1.1 gp eq1
          have dv0 : jo L0 / lN (Int.gcd L0 L1) = jo (L0 / (Int.gcd L0 L1 : Int)) := div_lN (by unfold JB; omega) (by omega) gN (by omega) (Int.gcd_dvd_left L0 L1)
          have dv1 : jo L1 / lN (Int.gcd L0 L1) = jo (L1 / (Int.gcd L0 L1 : Int)) := div_lN (by unfold JB; omega) (by omega) gN (by omega) (Int.gcd_dvd_right L0 L1)
          have lcmE : ((L0.natAbs.lcm L1.natAbs : Nat) : Int) = L0 * (L1 / (Int.gcd L0 L1 : Int)) := by
            rw [← lcm_eq', Int.natCast_mul, Int.natCast_ediv]
            have e1 : (L0.natAbs : Int) = L0 := by omega
            have e2 : (L1.natAbs : Int) = L1 := by omega
            rw [e1, e2]
            rfl
          have ha : (L0.natAbs : Int) = L0 := by omega
          have cmp : lg_cmp (hJ h2 115 10 / lN (Int.gcd L0 L1)) ((1000000000000000 : Int64) / jo L0) ≤ 0 ↔ Nat.lcm L0.natAbs L1.natAbs ≤ 1000000000000000 := by
            have jd : JB ((1000000000000000 : Int).tdiv L0) := by
              rw [Int.tdiv_eq_ediv_of_nonneg (by decide)]
              have x1 : 0 ≤ (1000000000000000 : Int) / L0 := Int.ediv_nonneg (by decide) (by omega)
              have x2 : (1000000000000000 : Int) / L0 ≤ 1000000000000000 := Int.ediv_le_self L0 (by decide)
              unfold JB
              omega
            rw [v10, dv1, show (1000000000000000 : Int64) = jo 1000000000000000 from rfl, jo_div (by unfold JB; omega) (by unfold JB; omega) jd, lg_cmp_le, jo_le (by unfold JB; omega) jd, Int.tdiv_eq_ediv_of_nonneg (by decide), Int.le_ediv_iff_mul_le o0.1, Int.mul_comm, ← lcmE]
            omega
          refine b98_220 k2 (n0 gN (by omega)) (by rw [pos_lN (by omega)]; exact n0 (by omega) (by omega)) (fun y => ?_) (fun y => b98_243 ?_)
          · rw [cmp] at y
            rw [if_pos y] at nx
            rw [v10, dv1]
            refine b98_247 k2 (n0 gN (by omega)) ?_
            rw [v9, dv0, jo_mul, jo_mul, jo_sub, jo_mul]
            have dp : 0 < L0 * (L1 / (Int.gcd L0 L1 : Int)) := Int.mul_pos o0.1 q1.1
            have m1 := nm_le (a := U1) (b := L0 / (Int.gcd L0 L1 : Int)) (A := 1000 * L1.natAbs) (B := (L0 / (Int.gcd L0 L1 : Int)).natAbs) o1.2.2 (Nat.le_refl _)
            have m0 := nm_le (a := U0) (b := L1 / (Int.gcd L0 L1 : Int)) (A := 1000 * L0.natAbs) (B := (L1 / (Int.gcd L0 L1 : Int)).natAbs) o0.2.2 (Nat.le_refl _)
            have cr : L0 / (Int.gcd L0 L1 : Int) * L1 = L0 * (L1 / (Int.gcd L0 L1 : Int)) := by
              generalize L0 / (Int.gcd L0 L1 : Int) = x at *
              generalize L1 / (Int.gcd L0 L1 : Int) = y at *
              generalize (Int.gcd L0 L1 : Int) = z at *
              subst eq0
              subst eq1
              grind
            have w1 : 1000 * L1.natAbs * (L0 / (Int.gcd L0 L1 : Int)).natAbs = 1000 * Nat.lcm L0.natAbs L1.natAbs := by
              rw [Nat.mul_assoc, ← Int.natAbs_mul, Int.mul_comm, cr, ← lcmE, Int.natAbs_natCast]
            have w0 : 1000 * L0.natAbs * (L1 / (Int.gcd L0 L1 : Int)).natAbs = 1000 * Nat.lcm L0.natAbs L1.natAbs := by
              rw [Nat.mul_assoc, ← Int.natAbs_mul, ← lcmE, Int.natAbs_natCast]
            have sm := df_same (u0 := U0) (u1 := U1) o0.1 o1.1
            rw [cr] at sm
            refine sp_gets k2 (JBn (by omega)).1 (by omega) dp (by rw [← lcmE]; unfold JB; omega) ?_
            rw [sm.1, sm.2]
            have mg3 : MG h (gw h2 (dfU U0 L0 U1 L1) (dfL U0 L0 U1 L1)) := MG.gw' mg2
            have mi := MI_scr mg3.ff (fun b i q => absurd q id) (fun b i q => Or.inl q.1) c
            have := nx _ mi.2 mi.1
            unfold sdv at this
            have k3 : kd (gw h2 (dfU U0 L0 U1 L1) (dfL U0 L0 U1 L1)) 115 = 9 := (mg3.1.str hs).k 115 (by decide) (by decide)
            refine b98_271 (h := gw h2 (dfU U0 L0 U1 L1) (dfL U0 L0 U1 L1)) (fun x => b98_283 k3 ?_) (fun x => b98_276 k3 ?_)
            · rw [show (2 : Int32) = nI 2 from rfl, nI_eq (by omega) (by omega)] at x
              rw [gw_10]
              rw [if_neg (by omega)] at this
              exact this
            · rw [show (2 : Int32) = nI 2 from rfl, nI_eq (by omega) (by omega)] at x
              rw [gw_9]
              rw [if_pos (by omega)] at this
              exact this
          · rw [cmp] at y
            rw [if_neg y] at nx
            have mi := MI_scr mg2.ff (fun b i q => absurd q id) (fun b i q => Or.inl q.1) c
            exact nx _ mi.2 mi.1
        · rw [ek1] at y
          rw [if_neg y] at nx0
          exact nx0
      · rw [show (2 : Int32) = nI 2 from rfl, nI_leI (by omega) (by omega)] at z
        have m0 : m = 0 := by omega
        subst m0
        rw [if_pos rfl] at nx
        refine b98_44 (r1 := 128) k0 (hs.r 115 17 (by decide)) k128 (by rw [z128]; exact vj) (by rw [z128]; exact vj1) ?_
        rw [cj, cj1, a3, d3']
        generalize (uS R j).2.1 = U0 at *
        generalize (uS R j).2.2 = L0 at *
        generalize (uS R (j + 1)).2.1 = U1 at *
        generalize (uS R (j + 1)).2.2 = L1 at *
        have gp : 0 < (Int.gcd L0 L1 : Int) := rg_pos (u := L0) p1
        have gN : 0 < Int.gcd L0 L1 := by omega
        have gl : Int.gcd L0 L1 ≤ L0.natAbs := Nat.le_of_dvd (by omega) (Nat.gcd_dvd_left _ _)
        have eq0 : L0 / (Int.gcd L0 L1 : Int) * (Int.gcd L0 L1 : Int) = L0 := Int.ediv_mul_cancel (Int.gcd_dvd_left L0 L1)
        have eq1 : L1 / (Int.gcd L0 L1 : Int) * (Int.gcd L0 L1 : Int) = L1 := Int.ediv_mul_cancel (Int.gcd_dvd_right L0 L1)
        have q0 := q_le p0 gp eq0
        have q1 := q_le p1 gp eq1
        have dv0 : jo L0 / lN (Int.gcd L0 L1) = jo (L0 / (Int.gcd L0 L1 : Int)) := div_lN (by unfold JB; omega) (by omega) gN (by omega) (Int.gcd_dvd_left L0 L1)
        have dv1 : jo L1 / lN (Int.gcd L0 L1) = jo (L1 / (Int.gcd L0 L1 : Int)) := div_lN (by unfold JB; omega) (by omega) gN (by omega) (Int.gcd_dvd_right L0 L1)
        refine sp_gcd (by unfold JB; omega) (by omega) (by unfold JB; omega) (by omega) ?_
        refine b98_61 (r1 := 127) (r2 := 128) k0 (hs.r 115 16 (by decide)) k127 (by rw [z127]; exact vj1) (hs.r 115 17 (by decide)) k128 (by rw [z128]; exact vj) (n0 gN (by omega)) (by rw [z127]; exact vj) (by rw [z128]; exact vj1) ?_
        rw [cj, cj1, a2, a3, d2', d3', dv0, dv1, jo_mul, jo_mul, jo_sub, jo_mul]
        have dp : 0 < L0 / (Int.gcd L0 L1 : Int) * L1 := Int.mul_pos q0.1 p1
        have m1 := nm_le (a := U1) (b := L0 / (Int.gcd L0 L1 : Int)) (A := 10000000000) (B := 10000000) (by omega) (by omega)
        have m0 := nm_le (a := U0) (b := L1 / (Int.gcd L0 L1 : Int)) (A := 10000000000) (B := 10000000) (by omega) (by omega)
        have m2 := nm_le (a := L0 / (Int.gcd L0 L1 : Int)) (b := L1) (A := 10000000) (B := 10000000) (by omega) (by omega)
        have sm := df_same (u0 := U0) (u1 := U1) p0 p1
        refine sp_gets k0 (JBn (by omega)).1 (by omega) dp (JBn (by omega)).1 ?_
        rw [sm.1, sm.2]
        have mg3 : MG h (gw h (dfU U0 L0 U1 L1) (dfL U0 L0 U1 L1)) := MG.gw' MG.rfl'
        have mi := MI_scr mg3.ff (fun b i q => absurd q id) (fun b i q => Or.inl q.1) c
        have := nx _ mi.2 mi.1
        unfold sdv at this
        refine b98_118 (h := gw h (dfU U0 L0 U1 L1) (dfL U0 L0 U1 L1)) (fun x => b98_129 k0 ?_) (fun x => b98_122 k0 ?_)
        · rw [show (0 : Int32) = nI 0 from rfl, nI_eq (by omega) (by omega)] at x
          rw [gw_10]
          rw [if_neg (by omega)] at this
          exact this
        · rw [show (0 : Int32) = nI 0 from rfl, nI_eq (by omega) (by omega)] at x
          rw [gw_9]
          rw [if_pos (by omega)] at this
          exact this
    · simp only [Int32.le_iff_toInt_le, Int32.lt_iff_toInt_lt, Int64.le_iff_toInt_le, Int64.lt_iff_toInt_lt, Int32.toInt_toInt64, i32eq, i64eq, Int32.reduceToInt, Int64.reduceToInt, Int32.reduceOfInt, emi] at d1 d2
      omega
    · simp only [Int32.le_iff_toInt_le, Int32.lt_iff_toInt_lt, Int64.le_iff_toInt_le, Int64.lt_iff_toInt_lt, Int32.toInt_toInt64, i32eq, i64eq, Int32.reduceToInt, Int64.reduceToInt, Int32.reduceOfInt, emi] at d1
      omega
end DIDM
