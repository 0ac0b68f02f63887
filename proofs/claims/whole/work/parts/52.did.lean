/-! did on both sides. -/
def dfU (u0 w0 u1 w1 : Int) : Int := rU (u1 * w0 + -1 * (u0 * w1)) (w1 * w0)
def dfL (u0 w0 u1 w1 : Int) : Int := rL (u1 * w0 + -1 * (u0 * w1)) (w1 * w0)
def orU (t : TBT) (s : PST) : Int := rdU (tF t s.1) (tO t s.1) (tpt t s.1) s.2.1 s.2.2
def orL (t : TBT) (s : PST) : Int := rdL (tF t s.1) (tO t s.1) (tpt t s.1) s.2.1 s.2.2
def f_did (A : AST) (i k : Int32) : Int64 := match aU A with
  | none => UNS
  | some R => if 0 ≤ i.toInt ∧ i.toInt < um R ∧ 0 ≤ k.toInt ∧ k.toInt ≤ 3 then (if k.toInt.toNat / 2 = 0 then sdv (k.toInt.toNat % 2) (dfU (uS R i.toInt.toNat).2.1 (uS R i.toInt.toNat).2.2 (uS R (i.toInt.toNat + 1)).2.1 (uS R (i.toInt.toNat + 1)).2.2) (dfL (uS R i.toInt.toNat).2.1 (uS R i.toInt.toNat).2.2 (uS R (i.toInt.toNat + 1)).2.1 (uS R (i.toInt.toNat + 1)).2.2) else if uK R i.toInt.toNat ≤ 1 then (if Nat.lcm (orL (aT A) (uS R i.toInt.toNat)).natAbs (orL (aT A) (uS R (i.toInt.toNat + 1))).natAbs ≤ 1000000000000000 then sdv (k.toInt.toNat % 2) (dfU (orU (aT A) (uS R i.toInt.toNat)) (orL (aT A) (uS R i.toInt.toNat)) (orU (aT A) (uS R (i.toInt.toNat + 1))) (orL (aT A) (uS R (i.toInt.toNat + 1)))) (dfL (orU (aT A) (uS R i.toInt.toNat)) (orL (aT A) (uS R i.toInt.toNat)) (orU (aT A) (uS R (i.toInt.toNat + 1))) (orL (aT A) (uS R (i.toInt.toNat + 1)))) else UNS) else UNS) else UNS
theorem or_bound {t : TBT} (tg : TG t) {s : PST} (sg : SG t s) : 0 < orL t s ∧ orL t s ≤ 10000000000 ∧ (orU t s).natAbs ≤ 1000 * (orL t s).natAbs := by
  obtain ⟨sp, sw, sw2, sc, sl, sr⟩ := sg
  have gp := tg.2 s.1 sp
  have gn2 := gp.1
  obtain ⟨i0, hi0, hb0⟩ := btw_ex (tpt t s.1) gn2 (fun i hi => (gp.2.2.2.1 i hi).1) sl sr
  obtain ⟨i, ⟨hi, hb⟩, hmin⟩ := pk_least (fun i => i + 1 < tpt t s.1 ∧ btw (tF t s.1) s.2.1 s.2.2 i) ⟨i0, hi0, hb0⟩
  have e := rd_some (G := tO t s.1) hi hb (fun j hj q => hmin j hj ⟨by omega, q⟩)
  unfold orU orL
  rw [e.1, e.2]
  have q0 := gp.2.2.1 i (by omega)
  have q1 := gp.2.2.1 (i + 1) (by omega)
  have dF := (gp.2.2.2.1 i hi).1
  have dO := (gp.2.2.2.1 i hi).2.1
  have Dp : 0 < bD (tF t s.1) s.2.2 i := Int.mul_pos (by omega) sw
  have Dn : (bD (tF t s.1) s.2.2 i).natAbs ≤ 1000 * 10000000 := nm_le (by omega) (by omega)
  have hB := bN_le (g := tO t s.1) hb (by omega)
  have x1 : 0 ≤ tO t s.1 i * bD (tF t s.1) s.2.2 i := Int.mul_nonneg q0.2.1.1 (by omega)
  have x2 : tO t s.1 (i + 1) * bD (tF t s.1) s.2.2 i ≤ 1000 * bD (tF t s.1) s.2.2 i := Int.mul_le_mul_of_nonneg_right q1.2.1.2 (by omega)
  have le := r_le (u := bN (tF t s.1) (tO t s.1) s.2.1 s.2.2 i) Dp
  exact ⟨rL_pos Dp, by omega, r_bound Dp (by omega)⟩
theorem rU_pos' {w g a : Int} (hw : 0 < w) (hg : 0 < g) (e : a * g = w) : 0 < a := by
  rcases Int.lt_or_le 0 a with q | q
  · exact q
  · have := Int.mul_nonpos_of_nonpos_of_nonneg q (Int.le_of_lt hg)
    omega
theorem df_same {u0 w0 u1 w1 : Int} (p0 : 0 < w0) (p1 : 0 < w1) : rU (u1 * (w0 / (Int.gcd w0 w1 : Int)) - u0 * (w1 / (Int.gcd w0 w1 : Int))) (w0 / (Int.gcd w0 w1 : Int) * w1) = dfU u0 w0 u1 w1 ∧ rL (u1 * (w0 / (Int.gcd w0 w1 : Int)) - u0 * (w1 / (Int.gcd w0 w1 : Int))) (w0 / (Int.gcd w0 w1 : Int) * w1) = dfL u0 w0 u1 w1 := by
  have gp : 0 < (Int.gcd w0 w1 : Int) := rg_pos (u := w0) p1
  have e0 : w0 / (Int.gcd w0 w1 : Int) * (Int.gcd w0 w1 : Int) = w0 := Int.ediv_mul_cancel (Int.gcd_dvd_left w0 w1)
  have e1 : w1 / (Int.gcd w0 w1 : Int) * (Int.gcd w0 w1 : Int) = w1 := Int.ediv_mul_cancel (Int.gcd_dvd_right w0 w1)
  have q0 : 0 < w0 / (Int.gcd w0 w1 : Int) := rU_pos' p0 gp e0
  refine r_same (Int.mul_pos q0 p1) (Int.mul_pos p1 p0) ?_
  generalize w0 / (Int.gcd w0 w1 : Int) = a at *
  generalize w1 / (Int.gcd w0 w1 : Int) = b at *
  generalize (Int.gcd w0 w1 : Int) = c at *
  subst e0
  subst e1
  grind
section DID
variable {Q : Option Value → HP → Prop} {bc bs : Nat} {h : HP} {A : AST}
/-- the order of a state, read into the cell o -/
theorem sp_order {t : TBT} {T x o : Nat} {s : PST} (ct : TCp h t s.1 T) (tg : TG t) (sg : SG t s) (kx : kd h x = 1) (ko : kd h o = 1) (r : RA h x s.2.1 s.2.2) (nx : Q (some (.int (1 : Int32))) (wR h o (orU t s) (orL t s))) : X 33 Q bc bs 0 [.ref T, .ref (T + 1), .ref (T + 2), .int (0 : Int32), .ref x, .ref o, UU, UU, UU, UU, UU] [] h := by
  have gp := tg.2 _ sg.1
  have sb := SG_b tg sg
  have swp := sg.2.1
  have swl := sg.2.2.1
  obtain ⟨t1, t2, t3, t4, t5, t6, t7, t8, t9, t10⟩ := ct
  have hex := btw_ex (tpt t s.1) gp.1 (fun i hi => (gp.2.2.2.1 i hi).1) sg.2.2.2.2.1 sg.2.2.2.2.2
  rw [show (0 : Int32) = nI 0 from rfl]
  refine sp_between (first := 0) t3 t7 gp.2.1 (by omega) t8 t9 kx ko r swp (by omega) (by omega) (fun i _ hi hbi hfi => ?_) (fun hno => ?_)
  · have e1 := rd_some (G := tO t s.1) hi hbi (fun j hj => hfi j (Nat.zero_le _) hj)
    rw [← e1.1, ← e1.2]
    exact nx
  · obtain ⟨i, a1, a2⟩ := hex
    exact absurd a2 (hno i (Nat.zero_le _) a1)
set_option maxHeartbeats 1000000 in
theorem c_did {i k : Int32} (g : Good A) (c : CI h A) (nx : ∀ h', FC h h' → CI h' A → Q (some (.long (f_did A i k))) h') : X 51 Q bc bs 0 [.ref 0, .int i, .int k, UU, UU, UU] [] h := by
  have hs := c.1
  have k0 : kd h 0 = 8 := hs.k 0 (by decide) (by decide)
  have k10 : kd h 10 = 7 := hs.k 10 (by decide) (by decide)
  have nx0 := nx h FC.rfl' c
  have cu := c.2.2.2.1
  have r03 := hs.r 0 3 (b := 10) (by decide)
  unfold f_did at nx nx0
  cases hu : aU A with
  | none =>
    rw [hu] at nx0
    exact b51_0 (r1 := 10) k0 r03 k10 (fun _ => b51_36 nx0) (fun z => absurd (cu.1 hu) z)
  | some R =>
    rw [hu] at nx nx0
    have rc := cu.2 R hu
    have rw_ := g.2.2.1 R hu
    have hm := rw_.1
    obtain ⟨w1, w2, w3, w4, w5⟩ := WKs_10 hs
    have em := rc.2.1.1
    have emi : (hI h 10 6 - (1 : Int32)).toInt = (um R : Int) - 1 := by
      rw [em, nI_io, show (1 : Int32) = io 1 from rfl, io_sub, io_toInt (by unfold IB; omega)]
    have no : ¬ (0 ≤ i.toInt ∧ i.toInt < um R ∧ 0 ≤ k.toInt ∧ k.toInt ≤ 3) → X 51 Q bc bs 36 [.ref 0, .int i, .int k, UU, UU, UU] [] h := fun hn => by
      simp only [if_neg hn] at nx0
      exact b51_36 nx0
    refine b51_0 (r1 := 10) k0 r03 k10 (fun z => absurd z (by rw [rc.1]; decide)) (fun _ => b51_10 (r1 := 10) k0 r03 k10 (sp_66 (fun d1 => b51_24 (fun z => absurd z (by decide)) (fun _ => b51_27 (sp_66 (fun d2 => b51_33 (fun _ => ?_) (fun z => absurd z (by decide))) (fun d2 => b51_33 (fun z => absurd rfl z) (fun _ => no ?_))))) (fun d1 => b51_24 (fun _ => no ?_) (fun z => absurd rfl z))))
    · simp only [Int32.le_iff_toInt_le, Int32.lt_iff_toInt_lt, Int64.le_iff_toInt_le, Int64.lt_iff_toInt_lt, Int32.toInt_toInt64, i32eq, i64eq, Int32.reduceToInt, Int64.reduceToInt, Int32.reduceOfInt, emi] at d1 d2
      obtain ⟨j, hj⟩ : ∃ j : Nat, i.toInt = j := ⟨i.toInt.toNat, by omega⟩
      have ei := toInt_io hj
      subst ei
      have hjm : j < um R := by omega
      have cj : (nI j).toNatClampNeg = j := nI_clamp (by omega)
      have e1 : nI j + (1 : Int32) = nI (j + 1) := nI_1 j
      obtain ⟨kn, hkn⟩ : ∃ j : Nat, k.toInt = j := ⟨k.toInt.toNat, by omega⟩
      obtain ⟨m, b, hm2, hb, ekm⟩ : ∃ m b : Nat, m < 2 ∧ b < 2 ∧ kn = 2 * m + b := ⟨kn / 2, kn % 2, by omega, by omega, by omega⟩
      have ek := toInt_io hkn
      subst ekm
      subst ek
      simp only [hj, hkn, Int.toNat_natCast, if_pos (show 0 ≤ (j : Int) ∧ (j : Int) < um R ∧ 0 ≤ ((2 * m + b : Nat) : Int) ∧ ((2 * m + b : Nat) : Int) ≤ 3 by omega), show (2 * m + b) % 2 = b by omega, show (2 * m + b) / 2 = m by omega] at nx nx0
      obtain ⟨dv1, dv2⟩ := div2 m (by omega) b hb
      have b0 : nI b = 0 ↔ b = 0 := by rw [show (0 : Int32) = nI 0 from rfl, nI_eq (by omega) (by omega)]
      have sa0 := rc.2.1.2.2.1 j (by omega)
      have sa1 := rc.2.1.2.2.1 (j + 1) (by omega)
      have sg0 := rw_.2.1 j (by omega)
      have sg1 := rw_.2.1 (j + 1) (by omega)
      have sk0 := (w5 j (by omega)).2
      have sk1 := (w5 (j + 1) (by omega)).2
      have bd0 := SG_b g.1 sg0
      have bd1 := SG_b g.1 sg1
      have p0 := sg0.2.1
      have p1 := sg1.2.1
      have l0 := sg0.2.2.1
      have l1 := sg1.2.2.1
      have k83 : kd h 83 = 1 := hs.k 83 (by decide) (by decide)
      have k84 : kd h 84 = 1 := hs.k 84 (by decide) (by decide)
      have k85 : kd h 85 = 1 := hs.k 85 (by decide) (by decide)
      have fin : ∀ (H : HP) (x5 : Int32) (u' w' : Int), Fr (fun _ => False) (fun q => q = 83 ∨ q = 84 ∨ q = 85) h H → RA H 83 u' w' → (∀ h', FC h h' → CI h' A → Q (some (.long (sdv b u' w'))) h') → X 51 Q bc bs 125 [.ref 0, .int (nI j), .int (nI (2 * m + b)), .ref (10 + 7 + 2 * j), .ref (10 + 7 + 2 * (j + 1)), .int x5] [] H := by
        intro H x5 u' w' fr ra q
        have ci := CI_scr fr (fun q e => absurd e id) (fun q e => by omega) g c
        have hsH := fr.str hs
        have kH : kd H 83 = 1 := hsH.k 83 (by decide) (by decide)
        have := q _ ci.2 ci.1
        unfold sdv at this
        refine b51_125 (r1 := 83) (hsH.k 0 (by decide) (by decide)) (hsH.r 0 8 (by decide)) kH (sp_side kH ra (fun z => b51_135 ?_) (fun z => b51_135 ?_))
        · rw [dv2, b0] at z
          rw [if_pos z] at this
          exact this
        · rw [dv2, b0] at z
          rw [if_neg z] at this
          exact this
      refine b51_40 (r1 := 10) (r2 := 11) (r3 := 10 + 7 + 2 * j) (r4 := 10 + 7 + 2 * (j + 1)) k0 r03 k10 w1.2.1 (by rw [w2.1]; decide) (by rw [w2.1]; decide) (by rw [w2.2]; exact vp_in_nI (by omega) (by omega)) (by rw [cj]; exact (w5 j (by omega)).1) (by rw [w2.2, e1]; exact vp_in_nI (by omega) (by omega)) (by rw [e1, nI_clamp (by omega)]; exact (w5 (j + 1) (by omega)).1) (fun z => ?_) (fun z => ?_)
      · rw [show (1 : Int32) = nI 1 from rfl, nI_ltI (by omega) (by omega)] at z
        rw [if_neg (show ¬ m = 0 by omega)] at nx nx0
        have kk := (rw_.2.2 j hjm).1
        have ek := rc.2.1.2.2.2 j hjm
        refine b51_88 (r1 := 10) (r2 := 12) k0 r03 k10 w1.2.2.1 w3.1 (by rw [w3.2]; exact vp_in_nI (by omega) (by omega)) ?_
        rw [cj, ek]
        refine sp_69 (fun y => b51_100 (fun x => absurd x (by decide)) (fun _ => b51_103 k0 ?_)) (fun y => b51_100 (fun _ => b51_117 (fun _ => b51_138 ?_) (fun x => absurd rfl x)) (fun x => absurd rfl x))
        · have k01 : uK R j ≤ 1 := by
            rcases y with y | y
            · rw [show (0 : Int32) = io 0 from rfl, io_eq (by unfold IB; omega) (by unfold IB; omega)] at y
              omega
            · rw [show (1 : Int32) = io 1 from rfl, io_eq (by unfold IB; omega) (by unfold IB; omega)] at y
              omega
          rw [if_pos k01] at nx nx0
          have h10 := g.1.1
          have s0p := sg0.1
          have s1p := sg1.1
          refine b65_0 (r1 := 2) k0 (hs.r 0 1 (by decide)) sk0.1 (hs.k 2 (by decide) (by decide)) ?_
          rw [sa0.1]
          refine sp_tab hs c.2.1 g.1.1 (fun q0 T0 ep hp0 ct0 => ?_) (fun hn => absurd (by rw [nI_toInt (by omega)]; omega) hn)
          have epn : q0 = (uS R j).1 := ((nI_eq (by omega) (by omega)).mp ep).symm
          subst epn
          refine b65_11b (r1 := 2) k0 (hs.r 0 1 (by decide)) sk1.1 (hs.k 2 (by decide) (by decide)) ?_
          rw [sa1.1]
          refine sp_tab hs c.2.1 g.1.1 (fun q1 T1 ep1 hp1 ct1 => ?_) (fun hn => absurd (by rw [nI_toInt (by omega)]; omega) hn)
          have epn1 : q1 = (uS R (j + 1)).1 := ((nI_eq (by omega) (by omega)).mp ep1).symm
          subst epn1
          have o0 := or_bound g.1 sg0
          have o1 := or_bound g.1 sg1
          refine b65_23d (r4 := 84) ct0.2.2.1 ct0.2.2.2.1 ct0.2.2.2.2.1 sk0.1 sk0.2.1 k0 (hs.r 0 9 (by decide)) (sp_order ct0 g.1 sg0 sk0.2.2 k84 sa0.2 (b65_55 (fun x => absurd x (by decide)) (fun _ => ?_)))
          have f1 : Fr (fun _ => False) (fun q => q = 83 ∨ q = 84 ∨ q = 85) h (wR h 84 (orU (aT A) (uS R j)) (orL (aT A) (uS R j))) := Fr.wR' Fr.rfl' (Or.inr (Or.inl rfl))
          have a84 : RA (wR h 84 (orU (aT A) (uS R j)) (orL (aT A) (uS R j))) 84 (orU (aT A) (uS R j)) (orL (aT A) (uS R j)) := RA_wR
          generalize wR h 84 (orU (aT A) (uS R j)) (orL (aT A) (uS R j)) = h1 at f1 a84 ⊢
          have hs1 := f1.str hs
          have ct1' := TCp_fr f1 (fun _ _ q => q) ct1
          refine b65_58 (r4 := 85) ct1'.2.2.1 ct1'.2.2.2.1 ct1'.2.2.2.2.1 (by rw [f1.kd']; exact sk1.1) (by rw [f1.hR']; exact sk1.2.1) (hs1.k 0 (by decide) (by decide)) (hs1.r 0 10 (by decide)) (sp_order ct1' g.1 sg1 (by rw [f1.kd']; exact sk1.2.2) (hs1.k 85 (by decide) (by decide)) (RA_fr f1 (fun q => by omega) sa1.2) (b65_82 (fun x => absurd x (by decide)) (fun _ => ?_)))
          have f2 : Fr (fun _ => False) (fun q => q = 83 ∨ q = 84 ∨ q = 85) h (wR h1 85 (orU (aT A) (uS R (j + 1))) (orL (aT A) (uS R (j + 1)))) := Fr.wR' f1 (Or.inr (Or.inr rfl))
          have b84 : RA (wR h1 85 (orU (aT A) (uS R (j + 1))) (orL (aT A) (uS R (j + 1)))) 84 (orU (aT A) (uS R j)) (orL (aT A) (uS R j)) := RA_ne (by decide) a84
          have b85 : RA (wR h1 85 (orU (aT A) (uS R (j + 1))) (orL (aT A) (uS R (j + 1)))) 85 (orU (aT A) (uS R (j + 1))) (orL (aT A) (uS R (j + 1))) := RA_wR
          generalize wR h1 85 (orU (aT A) (uS R (j + 1))) (orL (aT A) (uS R (j + 1))) = h2 at f2 b84 b85 ⊢
          have hs2 := f2.str hs
          refine b65_85 (r1 := 83) (r2 := 85) (r3 := 84) (hs2.k 0 (by decide) (by decide)) (hs2.r 0 8 (by decide)) (hs2.r 0 10 (by decide)) (hs2.r 0 9 (by decide)) (hs2.k 83 (by decide) (by decide)) ?_
          rw [show (-1 : Int32) = io (-1) by decide]
          have lc : Nat.lcm (orL (aT A) (uS R (j + 1))).natAbs (orL (aT A) (uS R j)).natAbs = Nat.lcm (orL (aT A) (uS R j)).natAbs (orL (aT A) (uS R (j + 1))).natAbs := Nat.lcm_comm _ _
          refine sp_putSum 1000 1000 (hs2.k 83 (by decide) (by decide)) (hs2.k 85 (by decide) (by decide)) (hs2.k 84 (by decide) (by decide)) b85 b84 (Or.inr rfl) o1.1 o0.1 (by omega) (by omega) o1.2.2 o0.2.2 (fun q => by omega) (fun q => b65_101 (fun x => absurd x (by decide)) (fun _ => b65_104 (b51_110 (fun x => absurd x (by decide)) (fun _ => b51_113 (fun x => absurd x (by decide)) (fun _ => ?_))))) (fun q => b65_101 (fun _ => b65_108 (b51_110 (fun _ => b51_117 (fun _ => b51_138 ?_) (fun x => absurd rfl x)) (fun x => absurd rfl x))) (fun x => absurd rfl x))
          · rw [lc] at q
            rw [if_pos q] at nx
            exact fin _ _ _ _ (Fr.wR' f2 (Or.inl rfl)) RA_wR nx
          · rw [lc] at q
            rw [if_neg q] at nx
            have ci := CI_scr f2 (fun q e => absurd e id) (fun q e => by omega) g c
            exact nx _ ci.2 ci.1
        · have k01 : ¬ uK R j ≤ 1 := fun q => y (by
            rcases (show uK R j = 0 ∨ uK R j = 1 by omega) with e | e
            · exact Or.inl (by rw [e]; rfl)
            · exact Or.inr (by rw [e]; rfl))
          rw [if_neg k01] at nx0
          exact nx0
      · rw [show (1 : Int32) = nI 1 from rfl, nI_ltI (by omega) (by omega)] at z
        rw [if_pos (show m = 0 by omega)] at nx
        refine b51_68 (r1 := 83) k0 (hs.r 0 8 (by decide)) sk1.1 sk1.2.1 sk0.1 sk0.2.1 k83 ?_
        rw [show (-1 : Int32) = io (-1) by decide]
        have lb : Nat.lcm (uS R (j + 1)).2.2.natAbs (uS R j).2.2.natAbs ≤ 100000000000000 := by
          refine Nat.le_trans (Nat.le_of_dvd (Nat.mul_pos (by omega) (by omega)) (Nat.lcm_dvd_mul _ _)) ?_
          exact Nat.le_trans (Nat.mul_le_mul (show (uS R (j + 1)).2.2.natAbs ≤ 10000000 by omega) (show (uS R j).2.2.natAbs ≤ 10000000 by omega)) (by omega)
        refine sp_putSum 1000 1000 k83 sk1.2.2 sk0.2.2 sa1.2 sa0.2 (Or.inr rfl) p1 p0 (by omega) (by omega) (by omega) (by omega) (fun q => by omega) (fun q => b51_85 (fun x => absurd x (by decide)) (fun _ => ?_)) (fun q => absurd (by omega) q)
        exact fin _ _ _ _ (Fr.wR' Fr.rfl' (Or.inl rfl)) RA_wR nx
    · simp only [Int32.le_iff_toInt_le, Int32.lt_iff_toInt_lt, Int64.le_iff_toInt_le, Int64.lt_iff_toInt_lt, Int32.toInt_toInt64, i32eq, i64eq, Int32.reduceToInt, Int64.reduceToInt, Int32.reduceOfInt, emi] at d1 d2
      omega
    · simp only [Int32.le_iff_toInt_le, Int32.lt_iff_toInt_lt, Int64.le_iff_toInt_le, Int64.lt_iff_toInt_lt, Int32.toInt_toInt64, i32eq, i64eq, Int32.reduceToInt, Int64.reduceToInt, Int32.reduceOfInt, emi] at d1
      omega
end DID
