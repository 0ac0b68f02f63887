/-! behind, total on both sides. -/
def toN (R : RUT) (m : Nat) : Int := if m = 0 then uWo R else if m = 1 then uWa R else uCo R
noncomputable def f_total (A : AST) (k : Int32) : Int64 := match aU A with
  | none => UNS
  | some R => if 0 < uL R ∧ 0 ≤ k.toInt ∧ k.toInt ≤ 7 then (if k.toInt.toNat / 2 < 3 then sdv (k.toInt.toNat % 2) (rU (toN R (k.toInt.toNat / 2)) (uL R)) (rL (toN R (k.toInt.toNat / 2)) (uL R)) else @ite _ (uSh R) (Classical.propDecidable _) (sdv (k.toInt.toNat % 2) (rU (uWa R) (uWo R)) (rL (uWa R) (uWo R))) UNS) else UNS
section BHD
variable {Q : Option Value → HP → Prop} {bc bs : Nat} {h : HP} {A : AST}
theorem div2b : ∀ m, m < 4 → ∀ b, b < 2 → (nI (2 * m + b + 1) - nI (2 * m + b + 1) / (2 : Int32) * (2 : Int32) = (1 : Int32) ↔ b = 0) := by decide +kernel
set_option maxHeartbeats 1000000 in
theorem c_behind {i k : Int32} (g : Good A) (c : CI h A) (nx : ∀ h', FC h h' → CI h' A → Q (some (.long (f_behind A i k))) h') : X 50 Q bc bs 0 [.ref 0, .int i, .int k, UU, UU, UU, UU] [] h := by
  have hs := c.1
  have k0 : kd h 0 = 8 := hs.k 0 (by decide) (by decide)
  have k10 : kd h 10 = 7 := hs.k 10 (by decide) (by decide)
  have nx0 := nx h FC.rfl' c
  have cu := c.2.2.2.1
  have r03 := hs.r 0 3 (b := 10) (by decide)
  unfold f_behind at nx nx0
  cases hu : aU A with
  | none =>
    rw [hu] at nx0
    exact b50_0 (r1 := 10) k0 r03 k10 (fun _ => b50_35 nx0) (fun z => absurd (cu.1 hu) z)
  | some R =>
    rw [hu] at nx nx0
    have rc := cu.2 R hu
    have rw_ := g.2.2.1 R hu
    have hm := rw_.1
    obtain ⟨w1, w2, w3, w4, w5⟩ := WKs_10 hs
    have em := rc.2.1.1
    have emi : (hI h 10 6).toInt = um R := by rw [em]; exact nI_toInt (by omega)
    have no : ¬ (0 ≤ i.toInt ∧ i.toInt ≤ um R ∧ 0 ≤ k.toInt ∧ k.toInt ≤ 6) → X 50 Q bc bs 35 [.ref 0, .int i, .int k, UU, UU, UU, UU] [] h := fun hn => by
      simp only [if_neg hn] at nx0
      exact b50_35 nx0
    refine b50_0 (r1 := 10) k0 r03 k10 (fun z => absurd z (by rw [rc.1]; decide)) (fun _ => b50_10 (r1 := 10) k0 r03 k10 (sp_66 (fun d1 => b50_22 (fun z => absurd z (by decide)) (fun _ => b50_25 (sp_66 (fun d2 => b50_32 (fun _ => ?_) (fun z => absurd z (by decide))) (fun d2 => b50_32 (fun z => absurd rfl z) (fun _ => no ?_))))) (fun d1 => b50_22 (fun _ => no ?_) (fun z => absurd rfl z))))
    · simp only [Int32.le_iff_toInt_le, Int32.lt_iff_toInt_lt, Int64.le_iff_toInt_le, Int64.lt_iff_toInt_lt, Int32.toInt_toInt64, i32eq, i64eq, Int32.reduceToInt, Int64.reduceToInt, Int32.reduceOfInt, emi] at d1 d2
      obtain ⟨j, hj⟩ : ∃ j : Nat, i.toInt = j := ⟨i.toInt.toNat, by omega⟩
      have ei := toInt_io hj
      subst ei
      have hjm : j ≤ um R := by omega
      have cj : (nI j).toNatClampNeg = j := nI_clamp (by omega)
      simp only [hj, Int.toNat_natCast, if_pos (show 0 ≤ (j : Int) ∧ (j : Int) ≤ um R ∧ 0 ≤ k.toInt ∧ k.toInt ≤ 6 by omega)] at nx nx0
      have sa := rc.2.1.2.2.1 j hjm
      have sg := rw_.2.1 j hjm
      have sgj := SG_J g.1 sg
      have sk := (w5 j (by omega)).2
      have gp := g.1.2 _ sg.1
      have gn2 := gp.1
      have gn8 := gp.2.1
      have h10 := g.1.1
      have sp1 := sg.1
      refine b50_39 (r1 := 10) (r2 := 11) (r3 := 10 + 7 + 2 * j) (r4 := 2) k0 r03 k10 w1.2.1 (by rw [w2.1]; decide) (by rw [w2.1]; decide) (by rw [w2.2]; exact vp_in_nI (by omega) (by omega)) (by rw [cj]; exact (w5 j (by omega)).1) (hs.r 0 1 (by decide)) sk.1 (hs.k 2 (by decide) (by decide)) ?_
      rw [sa.1]
      refine sp_tab hs c.2.1 g.1.1 (fun p' T ep hp ct => ?_) (fun hn => absurd ?_ hn)
      · have epn : p' = (uS R j).1 := ((nI_eq (by omega) (by omega)).mp ep).symm
        subst epn
        obtain ⟨t1, t2, t3, t4, t5, t6, t7, t8, t9, t10⟩ := id ct
        obtain ⟨kn, hkn⟩ : ∃ j : Nat, k.toInt = j := ⟨k.toInt.toNat, by omega⟩
        have ek := toInt_io hkn
        subst ek
        simp only [hkn, Int.toNat_natCast] at nx nx0
        refine b50_60b (fun z => ?_) (fun z => b50_75 sk.1 ?_)
        · have hk0 : 0 < kn := by
            rcases Nat.eq_zero_or_pos kn with q | q
            · subst q; exact absurd rfl z
            · exact q
          obtain ⟨m, b, hm3, hb, ekm⟩ : ∃ m b : Nat, m < 3 ∧ b < 2 ∧ kn = 2 * m + b + 1 := ⟨(kn - 1) / 2, (kn - 1) % 2, by omega, by omega, by omega⟩
          subst ekm
          have e1 : nI (2 * m + b + 1) - (1 : Int32) = nI (2 * m + b) := nI_pred _
          obtain ⟨dv1, dv2⟩ := div2 m (by omega) b hb
          have b0 : nI b = 0 ↔ b = 0 := by rw [show (0 : Int32) = nI 0 from rfl, nI_eq (by omega) (by omega)]
          simp only [if_neg (show ¬ ((2 * m + b + 1 : Nat) : Int) = 0 by omega), show 2 * m + b + 1 - 1 = 2 * m + b by omega, show (2 * m + b) % 2 = b by omega, show (2 * m + b) / 2 = m by omega] at nx nx0
          have sb := SG_b g.1 sg
          have swp := sg.2.1
          have swl := sg.2.2.1
          have hex := btw_ex (tpt (aT A) (uS R j).1) gn2 (fun i hi => (gp.2.2.2.1 i hi).1) sg.2.2.2.2.1 sg.2.2.2.2.2
          have k83 : kd h 83 = 1 := hs.k 83 (by decide) (by decide)
          have fin : ∀ (x6 : Nat) (u' w' : Int), u' = bhU (aT A) (uS R j) m → w' = bhL (aT A) (uS R j) m → X 50 Q bc bs 147 [.ref 0, .int (nI j), .int (nI (2 * m + b + 1)), .ref (10 + 7 + 2 * j), .ref T, .int (nI b), .ref x6] [] (wR h 83 u' w') := by
            intro x6 u' w' e1 e2
            have ci := CI_scr (SI := fun _ => False) (SJ := fun q => q = 83) (h' := wR h 83 u' w') (Fr.wR' Fr.rfl' rfl) (fun q e => absurd e id) (fun q e => by omega) g c
            refine b50_147 (r1 := 83) k0 (hs.r 0 8 (by decide)) k83 (sp_side k83 RA_wR (fun z => b50_156 ?_) (fun z => b50_156 ?_))
            · rw [b0] at z
              have := nx _ ci.2 ci.1
              unfold sdv at this
              rw [if_pos z, ← e1] at this
              exact this
            · rw [b0] at z
              have := nx _ ci.2 ci.1
              unfold sdv at this
              rw [if_neg z, ← e2] at this
              exact this
          refine b50_81 (fun x => ?_) (fun x => ?_)
          · rw [show (2 : Int32) = nI 2 from rfl, nI_ltI (by omega) (by omega)] at x
            rw [e1, dv2]
            refine b50_103 (fun y => ?_) (fun y => ?_)
            · rw [show (4 : Int32) = nI 4 from rfl, nI_ltI (by omega) (by omega)] at y
              have m2 : m = 2 := by omega
              subst m2
              refine b50_116 (r4 := 83) t3 t6 t4 sk.1 sk.2.1 k0 (hs.r 0 8 (by decide)) ?_
              rw [show (0 : Int32) = nI 0 from rfl]
              refine sp_between (first := 0) t3 t7 gn8 (by omega) t8 t10 sk.2.2 k83 sa.2 swp (by omega) (by omega) (fun i _ hi hbi hfi => ?_) (fun hno => ?_)
              · have e1 := rd_some (G := tW (aT A) (uS R j).1) hi hbi (fun j hj => hfi j (Nat.zero_le _) hj)
                exact b50_144 (fun z => absurd z (by decide)) (fun _ => fin _ _ _ (by unfold bhU; rw [if_neg (by decide), if_neg (by decide), e1.1]) (by unfold bhL; rw [if_neg (by decide), if_neg (by decide), e1.2]))
              · obtain ⟨i, a1, a2⟩ := hex
                exact absurd a2 (hno i (Nat.zero_le _) a1)
            · rw [show (4 : Int32) = nI 4 from rfl, nI_ltI (by omega) (by omega)] at y
              have m1 : m = 1 := by omega
              subst m1
              refine b50_108 (r4 := 83) t3 t5 t4 sk.1 sk.2.1 k0 (hs.r 0 8 (by decide)) ?_
              rw [show (0 : Int32) = nI 0 from rfl]
              refine sp_between (first := 0) t3 t7 gn8 (by omega) t8 t9 sk.2.2 k83 sa.2 swp (by omega) (by omega) (fun i _ hi hbi hfi => ?_) (fun hno => ?_)
              · have e1 := rd_some (G := tO (aT A) (uS R j).1) hi hbi (fun j hj => hfi j (Nat.zero_le _) hj)
                exact b50_144 (fun z => absurd z (by decide)) (fun _ => fin _ _ _ (by unfold bhU; rw [if_neg (by decide), if_pos rfl, e1.1]) (by unfold bhL; rw [if_neg (by decide), if_pos rfl, e1.2]))
              · obtain ⟨i, a1, a2⟩ := hex
                exact absurd a2 (hno i (Nat.zero_le _) a1)
          · rw [show (2 : Int32) = nI 2 from rfl, nI_ltI (by omega) (by omega)] at x
            have m0 : m = 0 := by omega
            subst m0
            rw [e1, dv2]
            refine b50_93 sk.1 sk.2.1 sk.2.2 (sp_side sk.2.2 sa.2 (fun z => b50_102 ?_) (fun z => b50_102 ?_))
            · rw [b0] at z
              unfold sdv at nx0
              rw [if_pos z] at nx0
              exact nx0
            · rw [b0] at z
              unfold sdv at nx0
              rw [if_neg z] at nx0
              exact nx0
        · rw [show (0 : Int32) = nI 0 from rfl, nI_eq (by omega) (by omega)] at z
          subst z
          rw [sa.1, nI_io, i2l_jo (by unfold IB; omega)]
          exact nx0
      · rw [nI_toInt (by omega)]
        omega
    · simp only [Int32.le_iff_toInt_le, Int32.lt_iff_toInt_lt, Int64.le_iff_toInt_le, Int64.lt_iff_toInt_lt, Int32.toInt_toInt64, i32eq, i64eq, Int32.reduceToInt, Int64.reduceToInt, Int32.reduceOfInt, emi] at d1 d2
      omega
    · simp only [Int32.le_iff_toInt_le, Int32.lt_iff_toInt_lt, Int64.le_iff_toInt_le, Int64.lt_iff_toInt_lt, Int32.toInt_toInt64, i32eq, i64eq, Int32.reduceToInt, Int64.reduceToInt, Int32.reduceOfInt, emi] at d1
      omega
set_option maxHeartbeats 1000000 in
theorem n_behind {i k : Int32} (hs : Str h) (g : Good A) (c : MI h A) (nx : ∀ h', FM h h' → MI h' A → Q (some (.long (f_behind A i k))) h') : X 97 Q bc bs 0 [.ref 115, .int i, .int k] [] h := by
  have k0 : kd h 115 = 9 := hs.k 115 (by decide) (by decide)
  have nx0 := nx h FM.rfl' c
  have cu := c.2.2.1
  unfold f_behind at nx nx0
  cases hu : aU A with
  | none =>
    rw [hu] at nx0
    exact b97_0 k0 (fun _ => b97_33 nx0) (fun z => absurd (cu.1 hu) z)
  | some R =>
    rw [hu] at nx nx0
    have rc := cu.2 R hu
    have rw_ := g.2.2.1 R hu
    have hm := rw_.1
    have emi : (hI h 115 19).toInt = um R := by rw [rc.2.1]; exact nI_toInt (by omega)
    have no : ¬ (0 ≤ i.toInt ∧ i.toInt ≤ um R ∧ 0 ≤ k.toInt ∧ k.toInt ≤ 6) → X 97 Q bc bs 33 [.ref 115, .int i, .int k] [] h := fun hn => by
      simp only [if_neg hn] at nx0
      exact b97_33 nx0
    refine b97_0 k0 (fun z => absurd z (by rw [rc.1]; decide)) (fun _ => b97_7 k0 (sp_72 (fun d1 => b97_18 (fun z => absurd z (by decide)) (fun _ => b97_21 (sp_72 (fun d2 => b97_30 (fun _ => ?_) (fun z => absurd z (by decide))) (fun d2 => b97_30 (fun z => absurd rfl z) (fun _ => no ?_))))) (fun d1 => b97_18 (fun _ => no ?_) (fun z => absurd rfl z))))
    · simp only [Int32.le_iff_toInt_le, Int32.lt_iff_toInt_lt, Int64.le_iff_toInt_le, Int64.lt_iff_toInt_lt, Int32.toInt_toInt64, i32eq, i64eq, Int32.reduceToInt, Int64.reduceToInt, Int32.reduceOfInt, emi] at d1 d2
      obtain ⟨j, hj⟩ : ∃ j : Nat, i.toInt = j := ⟨i.toInt.toNat, by omega⟩
      have ei := toInt_io hj
      subst ei
      have hjm : j ≤ um R := by omega
      have cj : (nI j).toNatClampNeg = j := nI_clamp (by omega)
      have vj : vp_in (nI j) 13 := vp_in_nI (by omega) (by omega)
      simp only [hj, Int.toNat_natCast, if_pos (show 0 ≤ (j : Int) ∧ (j : Int) ≤ um R ∧ 0 ≤ k.toInt ∧ k.toInt ≤ 6 by omega)] at nx nx0
      obtain ⟨a1, a2, a3⟩ := rc.2.2.2.1 j hjm
      have sg := rw_.2.1 j hjm
      have h10 := g.1.1
      have sp1 := sg.1
      have k126 : kd h 126 = 10 := hs.k 126 (by decide) (by decide)
      have z126 : zl h 126 = 13 := hs.z 126 (by decide) (by decide)
      have k127 : kd h 127 = 11 := hs.k 127 (by decide) (by decide)
      have z127 : zl h 127 = 13 := hs.z 127 (by decide) (by decide)
      have k128 : kd h 128 = 11 := hs.k 128 (by decide) (by decide)
      have z128 : zl h 128 = 13 := hs.z 128 (by decide) (by decide)
      obtain ⟨kn, hkn⟩ : ∃ j : Nat, k.toInt = j := ⟨k.toInt.toNat, by omega⟩
      have ek := toInt_io hkn
      subst ek
      simp only [hkn, Int.toNat_natCast] at nx nx0
      refine b97_37 (fun z => ?_) (fun z => b97_41 (r1 := 126) k0 (hs.r 115 15 (by decide)) k126 (by rw [z126]; exact vj) ?_)
      · have hk0 : 0 < kn := by
          rcases Nat.eq_zero_or_pos kn with q | q
          · subst q; exact absurd rfl z
          · exact q
        obtain ⟨m, b, hm3, hb, ekm⟩ : ∃ m b : Nat, m < 3 ∧ b < 2 ∧ kn = 2 * m + b + 1 := ⟨(kn - 1) / 2, (kn - 1) % 2, by omega, by omega, by omega⟩
        subst ekm
        have dvb := div2b m (by omega) b hb
        simp only [if_neg (show ¬ ((2 * m + b + 1 : Nat) : Int) = 0 by omega), show 2 * m + b + 1 - 1 = 2 * m + b by omega, show (2 * m + b) % 2 = b by omega, show (2 * m + b) / 2 = m by omega] at nx nx0
        refine b97_49 (fun x => ?_) (fun x => ?_)
        · rw [show (3 : Int32) = nI 3 from rfl, nI_leI (by omega) (by omega)] at x
          obtain ⟨m', rfl⟩ : ∃ m', m = m' + 1 := ⟨m - 1, by omega⟩
          have e3 : nI (2 * (m' + 1) + b + 1) - (3 : Int32) = nI (2 * m' + b) := by
            rw [show (3 : Int32) = nI 3 from rfl, nI_sub (by omega)]
            congr 1
            omega
          obtain ⟨dv1, dv2⟩ := div2 m' (by omega) b hb
          refine b97_75 (r1 := 126) (r2 := 127) (r3 := 128) k0 (hs.r 115 15 (by decide)) k126 (by rw [z126]; exact vj) (hs.r 115 16 (by decide)) k127 (by rw [z127]; exact vj) (hs.r 115 17 (by decide)) k128 (by rw [z128]; exact vj) ?_
          rw [cj, a1, a2, a3, e3, dv1]
          have m00 : nI m' = 0 ↔ m' = 0 := by rw [show (0 : Int32) = nI 0 from rfl, nI_eq (by omega) (by omega)]
          have fin : ∀ (u' w' : Int), u' = bhU (aT A) (uS R j) (m' + 1) → w' = bhL (aT A) (uS R j) (m' + 1) → X 97 Q bc bs 102 [.ref 115, .int (nI j), .int (nI (2 * (m' + 1) + b + 1))] [] (gw h u' w') := by
            intro u' w' e1 e2
            have mg : MG h (gw h u' w') := MG.gw' MG.rfl'
            have mi := MI_scr mg.ff (fun b i q => absurd q id) (fun b i q => Or.inl q.1) c
            have := nx _ mi.2 mi.1
            unfold sdv at this
            refine b97_102 (fun z => b97_116 k0 ?_) (fun z => b97_109 k0 ?_)
            · rw [dvb] at z
              rw [gw_10]
              rw [if_neg z, ← e2] at this
              exact this
            · rw [dvb] at z
              rw [gw_9]
              rw [if_pos z, ← e1] at this
              exact this
          refine sp_reads hs c.1 g.1 sg.1 sg.2.1 sg.2.2.1 sg.2.2.2.2.1 sg.2.2.2.2.2 (fun i e hi hbi hfi => ?_) (fun i e hi hbi hfi => ?_)
          · rw [m00] at e
            subst e
            have e1 := rd_some (G := tO (aT A) (uS R j).1) hi hbi hfi
            exact fin _ _ (by unfold bhU; rw [if_neg (by decide), if_pos rfl, e1.1]) (by unfold bhL; rw [if_neg (by decide), if_pos rfl, e1.2])
          · rw [m00] at e
            have e1 := rd_some (G := tW (aT A) (uS R j).1) hi hbi hfi
            exact fin _ _ (by unfold bhU; rw [if_neg (by omega), if_neg (by omega), e1.1]) (by unfold bhL; rw [if_neg (by omega), if_neg (by omega), e1.2])
        · rw [show (3 : Int32) = nI 3 from rfl, nI_leI (by omega) (by omega)] at x
          have m0 : m = 0 := by omega
          subst m0
          unfold sdv at nx0
          refine b97_54 (fun y => b97_68 (r1 := 128) k0 (hs.r 115 17 (by decide)) k128 (by rw [z128]; exact vj) ?_) (fun y => b97_59 (r1 := 127) k0 (hs.r 115 16 (by decide)) k127 (by rw [z127]; exact vj) ?_)
          · rw [show (1 : Int32) = nI 1 from rfl, nI_eq (by omega) (by omega)] at y
            rw [cj, a3]
            rw [if_neg (by omega)] at nx0
            exact nx0
          · rw [show (1 : Int32) = nI 1 from rfl, nI_eq (by omega) (by omega)] at y
            rw [cj, a2]
            rw [if_pos (by omega)] at nx0
            exact nx0
      · rw [show (0 : Int32) = nI 0 from rfl, nI_eq (by omega) (by omega)] at z
        subst z
        rw [cj, a1, nI_io, i2l_jo (by unfold IB; omega)]
        exact nx0
    · simp only [Int32.le_iff_toInt_le, Int32.lt_iff_toInt_lt, Int64.le_iff_toInt_le, Int64.lt_iff_toInt_lt, Int32.toInt_toInt64, i32eq, i64eq, Int32.reduceToInt, Int64.reduceToInt, Int32.reduceOfInt, emi] at d1 d2
      omega
    · simp only [Int32.le_iff_toInt_le, Int32.lt_iff_toInt_lt, Int64.le_iff_toInt_le, Int64.lt_iff_toInt_lt, Int32.toInt_toInt64, i32eq, i64eq, Int32.reduceToInt, Int64.reduceToInt, Int32.reduceOfInt, emi] at d1
      omega
theorem c_total {k : Int32} (g : Good A) (c : CI h A) (nx : Q (some (.long (f_total A k))) h) : X 52 Q bc bs 0 [.ref 0, .int k, UU] [] h := by
  have hs := c.1
  have k0 : kd h 0 = 8 := hs.k 0 (by decide) (by decide)
  have k10 : kd h 10 = 7 := hs.k 10 (by decide) (by decide)
  have cu := c.2.2.2.1
  have r03 := hs.r 0 3 (b := 10) (by decide)
  unfold f_total at nx
  cases hu : aU A with
  | none =>
    rw [hu] at nx
    exact b52_0 (r1 := 10) k0 r03 k10 (fun _ => b52_30 nx) (fun z => absurd (cu.1 hu) z)
  | some R =>
    rw [hu] at nx
    obtain ⟨rc1, rc2, t1, t2, t3, t4⟩ := cu.2 R hu
    obtain ⟨w1, w2, w3, w4, w5⟩ := WKs_10 hs
    have no : ¬ (0 < uL R ∧ 0 ≤ k.toInt ∧ k.toInt ≤ 7) → X 52 Q bc bs 30 [.ref 0, .int k, UU] [] h := fun hn => by
      simp only [if_neg hn] at nx
      exact b52_30 nx
    by_cases hl : 0 < uL R
    · obtain ⟨q1, q2, q3, q4⟩ := t1 hl
      refine b52_0 (r1 := 10) k0 r03 k10 (fun z => absurd z (by rw [rc1]; decide)) (fun _ => b52_10 (r1 := 10) k0 r03 k10 (fun z => absurd z (by rw [q1]; decide)) (fun _ => b52_20 (sp_66 (fun d => b52_27 (fun _ => ?_) (fun z => absurd z (by decide))) (fun d => b52_27 (fun z => absurd rfl z) (fun _ => no ?_)))))
      · simp only [Int32.le_iff_toInt_le, Int32.lt_iff_toInt_lt, Int64.le_iff_toInt_le, Int64.lt_iff_toInt_lt, Int32.toInt_toInt64, i32eq, i64eq, Int32.reduceToInt, Int64.reduceToInt, Int32.reduceOfInt] at d
        obtain ⟨kn, hkn⟩ : ∃ j : Nat, k.toInt = j := ⟨k.toInt.toNat, by omega⟩
        obtain ⟨m, b, hm, hb, ekm⟩ : ∃ m b : Nat, m < 4 ∧ b < 2 ∧ kn = 2 * m + b := ⟨kn / 2, kn % 2, by omega, by omega, by omega⟩
        have ek := toInt_io hkn
        subst ekm
        subst ek
        simp only [hkn, Int.toNat_natCast, if_pos (show 0 < uL R ∧ 0 ≤ ((2 * m + b : Nat) : Int) ∧ ((2 * m + b : Nat) : Int) ≤ 7 by omega), show (2 * m + b) % 2 = b by omega, show (2 * m + b) / 2 = m by omega] at nx
        obtain ⟨dv1, dv2⟩ := div2 m (by omega) b hb
        have b0 : nI b = 0 ↔ b = 0 := by rw [show (0 : Int32) = nI 0 from rfl, nI_eq (by omega) (by omega)]
        have e0 : nI m = Int32.ofInt 0 ↔ m = 0 := by rw [show Int32.ofInt 0 = nI 0 from rfl, nI_eq (by omega) (by omega)]
        have e1 : nI m = Int32.ofInt 1 ↔ m = 1 := by rw [show Int32.ofInt 1 = nI 1 from rfl, nI_eq (by omega) (by omega)]
        have e2 : nI m = Int32.ofInt 2 ↔ m = 2 := by rw [show Int32.ofInt 2 = nI 2 from rfl, nI_eq (by omega) (by omega)]
        refine b52_34 (fun z => ?_) (fun z => ?_) (fun z => ?_) (fun z1 z2 z3 => ?_)
        · rw [dv1, e0] at z
          subst z
          rw [dv2]
          rw [if_pos (by decide)] at nx
          unfold sdv toN at nx
          refine b52_68 (r1 := 10) k0 r03 k10 w1.2.2.2.1 w4.1 (sp_side w4.1 q2 (fun z => b52_79 ?_) (fun z => b52_79 ?_))
          · rw [b0] at z; rw [if_pos z] at nx; exact nx
          · rw [b0] at z; rw [if_neg z] at nx; exact nx
        · rw [dv1, e1] at z
          subst z
          rw [dv2]
          rw [if_pos (by decide)] at nx
          unfold sdv toN at nx
          refine b52_80 (r1 := 10) k0 r03 k10 w1.2.2.2.2.1 w4.2.1 (sp_side w4.2.1 q3 (fun z => b52_91 ?_) (fun z => b52_91 ?_))
          · rw [b0] at z; rw [if_pos z] at nx; exact nx
          · rw [b0] at z; rw [if_neg z] at nx; exact nx
        · rw [dv1, e2] at z
          subst z
          rw [dv2]
          rw [if_pos (by decide)] at nx
          unfold sdv toN at nx
          refine b52_92 (r1 := 10) k0 r03 k10 w1.2.2.2.2.2.1 w4.2.2.1 (sp_side w4.2.2.1 q4 (fun z => b52_103 ?_) (fun z => b52_103 ?_))
          · rw [b0] at z; rw [if_pos z] at nx; exact nx
          · rw [b0] at z; rw [if_neg z] at nx; exact nx
        · rw [dv1, e0] at z1
          rw [dv1, e1] at z2
          rw [dv1, e2] at z3
          rw [dv2]
          rw [if_neg (by omega)] at nx
          by_cases sh : uSh R
          · rw [if_pos sh] at nx
            obtain ⟨y1, y2⟩ := t3 sh
            unfold sdv at nx
            refine b52_104 (r1 := 10) k0 r03 k10 (fun z => absurd z (by rw [y1]; decide)) (fun _ => b52_114 (r1 := 10) k0 r03 k10 w1.2.2.2.2.2.2 w4.2.2.2 (sp_side w4.2.2.2 y2 (fun z => b52_125 ?_) (fun z => b52_125 ?_)))
            · rw [b0] at z; rw [if_pos z] at nx; exact nx
            · rw [b0] at z; rw [if_neg z] at nx; exact nx
          · rw [if_neg sh] at nx
            exact b52_104 (r1 := 10) k0 r03 k10 (fun _ => b52_128 nx) (fun z => absurd (t4 sh) z)
      · simp only [Int32.le_iff_toInt_le, Int32.lt_iff_toInt_lt, Int64.le_iff_toInt_le, Int64.lt_iff_toInt_lt, Int32.toInt_toInt64, i32eq, i64eq, Int32.reduceToInt, Int64.reduceToInt, Int32.reduceOfInt] at d
        omega
    · exact b52_0 (r1 := 10) k0 r03 k10 (fun z => absurd z (by rw [rc1]; decide)) (fun _ => b52_10 (r1 := 10) k0 r03 k10 (fun _ => no (fun z => hl z.1)) (fun z => absurd (t2 hl) z))
theorem n_total {k : Int32} (hs : Str h) (g : Good A) (c : MI h A) (nx : ∀ h', FM h h' → MI h' A → Q (some (.long (f_total A k))) h') : X 103 Q bc bs 0 [.ref 115, .int k] [] h := by
  have k0 : kd h 115 = 9 := hs.k 115 (by decide) (by decide)
  have nx0 := nx h FM.rfl' c
  have cu := c.2.2.1
  unfold f_total at nx nx0
  cases hu : aU A with
  | none =>
    rw [hu] at nx0
    exact b103_0 k0 (fun _ => b103_26 nx0) (fun z => absurd (cu.1 hu) z)
  | some R =>
    rw [hu] at nx nx0
    have rc := cu.2 R hu
    have rw_ := g.2.2.1 R hu
    obtain ⟨bm, bo, bl⟩ := u_bounds g.1 rw_
    refine b103_0 k0 (fun z => absurd z (by rw [rc.1]; decide)) (fun _ => b103_7 (sp_72 (fun d => b103_16 (fun z => absurd z (by decide)) (fun _ => b103_19 k0 (sp_sums hs rc.2 g.1 rw_ (fun h1 ms hl e22 e23 e24 e25 => b103_23 (fun _ => ?_) (fun z => absurd z (by decide))) (fun h1 ms hl => b103_23 (fun z => absurd rfl z) (fun _ => b103_26 ?_))))) (fun d => b103_16 (fun _ => b103_26 ?_) (fun z => absurd rfl z))))
    · simp only [Int32.le_iff_toInt_le, Int32.lt_iff_toInt_lt, Int64.le_iff_toInt_le, Int64.lt_iff_toInt_lt, Int32.toInt_toInt64, i32eq, i64eq, Int32.reduceToInt, Int64.reduceToInt, Int32.reduceOfInt] at d
      obtain ⟨kn, hkn⟩ : ∃ j : Nat, k.toInt = j := ⟨k.toInt.toNat, by omega⟩
      obtain ⟨m, b, hm, hb, ekm⟩ : ∃ m b : Nat, m < 4 ∧ b < 2 ∧ kn = 2 * m + b := ⟨kn / 2, kn % 2, by omega, by omega, by omega⟩
      have ek := toInt_io hkn
      subst ekm
      subst ek
      simp only [hkn, Int.toNat_natCast, if_pos (show 0 < uL R ∧ 0 ≤ ((2 * m + b : Nat) : Int) ∧ ((2 * m + b : Nat) : Int) ≤ 7 by omega), show (2 * m + b) % 2 = b by omega, show (2 * m + b) / 2 = m by omega] at nx
      obtain ⟨dv1, dv2⟩ := div2 m (by omega) b hb
      have b0 : nI b = 0 ↔ b = 0 := by rw [show (0 : Int32) = nI 0 from rfl, nI_eq (by omega) (by omega)]
      have e5 : nI (2 * m + b) ≤ (5 : Int32) ↔ m < 3 := by
        rw [show (5 : Int32) = nI 5 from rfl, nI_leI (by omega) (by omega)]
        omega
      have hs1 := ms.str hs
      have k1 : kd h1 115 = 9 := hs1.k 115 (by decide) (by decide)
      have jl : JB (uL R : Int) := by unfold JB; omega
      have fin : ∀ (H : HP) (u' w' : Int), MS h H → (sdv b u' w' = sdv b u' w' → ∀ h', FM h h' → MI h' A → Q (some (.long (sdv b u' w'))) h') → (¬ (nI (2 * m + b) - nI (2 * m + b) / (2 : Int32) * (2 : Int32)) = 0 → X 103 Q bc bs 115 [.ref 115, .int (nI (2 * m + b))] [] (gw H u' w')) ∧ ((nI (2 * m + b) - nI (2 * m + b) / (2 : Int32) * (2 : Int32)) = 0 → X 103 Q bc bs 108 [.ref 115, .int (nI (2 * m + b))] [] (gw H u' w')) := by
        intro H u' w' mh q
        have f2 : Ff (fun _ _ => False) (fun b _ => b = 115) h (gw H u' w') := (Ff.weak mh (fun _ _ q => q) (fun b i q => q.1)).trans' ((MG.gw' (MG.rfl' (h := H)) (u := u') (w := w')).ff.weak (fun _ _ q => q) (fun b i q => q.1))
        have mi := MI_scr f2 (fun b i q => absurd q id) (fun b i q => Or.inl q) c
        have kk : kd (gw H u' w') 115 = 9 := (f2.str hs).k 115 (by decide) (by decide)
        have := q rfl _ mi.2 mi.1
        unfold sdv at this
        rw [dv2, b0]
        constructor
        · intro z
          refine b103_115 kk ?_
          rw [gw_10]
          rw [if_neg z] at this
          exact this
        · intro z
          refine b103_108 kk ?_
          rw [gw_9]
          rw [if_pos z] at this
          exact this
      have tail : ∀ (H : HP), MS h H → m < 3 → hJ H 115 22 = jo (uL R) → hJ H 115 23 = jo (uWo R) → hJ H 115 24 = jo (uWa R) → hJ H 115 25 = jo (uCo R) → X 103 Q bc bs 66 [.ref 115, .int (nI (2 * m + b))] [] H := by
        intro H mh m3 x22 x23 x24 x25
        have kH : kd H 115 = 9 := (mh.str hs).k 115 (by decide) (by decide)
        rw [if_pos m3] at nx
        have e2 : (2 : Int32) ≤ nI (2 * m + b) ↔ 1 ≤ m := by
          rw [show (2 : Int32) = nI 2 from rfl, nI_leI (by omega) (by omega)]
          omega
        have e4 : (4 : Int32) ≤ nI (2 * m + b) ↔ 2 ≤ m := by
          rw [show (4 : Int32) = nI 4 from rfl, nI_leI (by omega) (by omega)]
          omega
        have f3 := fin H _ _ mh (fun _ => nx)
        refine b103_66 (fun z => b103_79 (fun y => b103_91 kH kH ?_) (fun y => b103_84 kH kH ?_)) (fun z => b103_72 kH kH ?_)
        · rw [e4] at y
          rw [x22, x25]
          have e : toN R m = uCo R := by unfold toN; rw [if_neg (by omega), if_neg (by omega)]
          rw [e] at f3
          exact sp_gets kH (JBn (by omega)).1 (by omega) (by omega) jl (b103_102 f3.1 f3.2)
        · rw [e2] at z
          rw [e4] at y
          rw [x22, x24]
          have e : toN R m = uWa R := by unfold toN; rw [if_neg (by omega), if_pos (by omega)]
          rw [e] at f3
          exact sp_gets kH (JBn (by omega)).1 (by omega) (by omega) jl (b103_102 f3.1 f3.2)
        · rw [e2] at z
          rw [x22, x23]
          have e : toN R m = uWo R := by unfold toN; rw [if_pos (by omega)]
          rw [e] at f3
          exact sp_gets kH (JBn (by omega)).1 (by omega) (by omega) jl (b103_102 f3.1 f3.2)
      refine b103_30 (fun z => ?_) (fun z => ?_)
      · rw [e5] at z
        exact b103_46 (fun _ => tail h1 ms z e22 e23 e24 e25) (fun y => absurd (e5.mpr z) y)
      · rw [e5] at z
        rw [if_neg z] at nx
        refine b103_35 k1 (sp_hasShare hs1 (ms.run rc.2) g.1 rw_ (fun h2 ms2 sh y22 y23 y24 y25 => b103_39 (fun _ => b103_46 (fun y => absurd (e5.mp y) z) (fun _ => ?_)) (fun y => absurd y (by decide))) (fun h2 ms2 sh => b103_39 (fun y => absurd rfl y) (fun _ => b103_42 ?_)))
        · rw [if_pos sh] at nx
          have ms3 : MS h h2 := ms.trans' ms2
          have k2 : kd h2 115 = 9 := (ms3.str hs).k 115 (by decide) (by decide)
          have f3 := fin h2 _ _ ms3 (fun _ => nx)
          refine b103_51 k2 ?_
          rw [y23, y24]
          have := sh.2.2
          exact sp_gets k2 (JBn (by omega)).1 (by omega) this (JBn (by omega)).1 (b103_63 f3.1 f3.2)
        · rw [if_neg sh] at nx
          have ms3 : MS h h2 := ms.trans' ms2
          have mi := MI_scr ms3 (fun b i q => absurd q id) (fun b i q => Or.inl q.1) c
          exact nx _ mi.2 mi.1
    · have mi := MI_scr ms (fun b i q => absurd q id) (fun b i q => Or.inl q.1) c
      simp only [if_neg (show ¬ (0 < uL R ∧ 0 ≤ k.toInt ∧ k.toInt ≤ 7) from fun z => hl z.1)] at nx
      exact nx _ mi.2 mi.1
    · simp only [Int32.le_iff_toInt_le, Int32.lt_iff_toInt_lt, Int64.le_iff_toInt_le, Int64.lt_iff_toInt_lt, Int32.toInt_toInt64, i32eq, i64eq, Int32.reduceToInt, Int64.reduceToInt, Int32.reduceOfInt] at d
      simp only [if_neg (show ¬ (0 < uL R ∧ 0 ≤ k.toInt ∧ k.toInt ≤ 7) from fun z => d ⟨z.2.1, z.2.2⟩)] at nx0
      exact nx0
end BHD
