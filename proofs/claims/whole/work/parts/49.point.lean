/-! point, count, round, status on both sides. -/
def f_point (A : AST) (p i w : Int32) : Int32 := if 0 ≤ p.toInt ∧ p.toInt < tnp (aT A) then (if i.toInt = -1 ∧ w.toInt = 0 then nI (tpt (aT A) p.toInt.toNat) else if 0 ≤ i.toInt ∧ i.toInt < tpt (aT A) p.toInt.toNat then (if w.toInt = 0 then io (tF (aT A) p.toInt.toNat i.toInt.toNat) else if w.toInt = 1 then io (tO (aT A) p.toInt.toNat i.toInt.toNat) else if w.toInt = 2 then io (tW (aT A) p.toInt.toNat i.toInt.toNat) else -1000) else -1000) else -1000
def cntS (S : Nat → SHT) : Nat → Nat
  | 0 => 0
  | n + 1 => cntS S n + (if (S n).1 = true then 1 else 0)
def f_count (A : AST) (w : Int32) : Int32 := if w.toInt = 0 then nI (tnp (aT A)) else if w.toInt = 1 then nI (rn (aR A)) else if w.toInt = 2 then (match aU A with | none => -1 | some R => nI (um R)) else if w.toInt = 3 then nI (cntS (aS A) 4) else -1
noncomputable def f_round (A : AST) : Int32 := match aU A with
  | none => -1
  | some R => @ite _ (uRnd R) (Classical.propDecidable _) 1 0
theorem FC.rfl' {h : HP} : FC h h := fun _ _ _ _ => ⟨rfl, rfl⟩
theorem FM.rfl' {h : HP} : FM h h := Fr.rfl'
theorem cntS_le (S : Nat → SHT) : ∀ n, cntS S n ≤ n
  | 0 => Nat.le_refl _
  | n + 1 => by
    have := cntS_le S n
    unfold cntS
    split <;> omega
section PNT
variable {Q : Option Value → HP → Prop} {bc bs : Nat} {h : HP} {A : AST}
theorem c_point {p i w : Int32} (g : Good A) (c : CI h A) (nx : Q (some (.int (f_point A p i w))) h) : X 44 Q bc bs 0 [.ref 0, .int p, .int i, .int w, UU] [] h := by
  have k0 : kd h 0 = 8 := c.1.k 0 (by decide) (by decide)
  refine b44_0 (r1 := 2) k0 (c.1.r 0 1 (by decide)) (c.1.k 2 (by decide) (by decide)) (sp_tab c.1 c.2.1 g.1.1 (fun p' T e hp ct => ?_) (fun hn => b44_8a ?_))
  · subst e
    have h10 := g.1.1
    have gp := g.1.2 p' hp
    have gn8 := gp.2.1
    obtain ⟨t1, t2, t3, t4, t5, t6, t7, t8, t9, t10⟩ := ct
    have ef : f_point A (nI p') i w = (if i.toInt = -1 ∧ w.toInt = 0 then nI (tpt (aT A) p') else if 0 ≤ i.toInt ∧ i.toInt < tpt (aT A) p' then (if w.toInt = 0 then io (tF (aT A) p' i.toInt.toNat) else if w.toInt = 1 then io (tO (aT A) p' i.toInt.toNat) else if w.toInt = 2 then io (tW (aT A) p' i.toInt.toNat) else -1000) else -1000) := by
      unfold f_point
      rw [nI_toInt (by omega), Int.toNat_natCast, if_pos (by omega)]
    have el : (hI h T 3 - (1 : Int32)).toInt = (tpt (aT A) p' : Int) - 1 := by
      rw [t7, nI_io, show (1 : Int32) = io 1 from rfl, io_sub, io_toInt (by unfold IB; omega)]
    have more : ¬ (i.toInt = -1 ∧ w.toInt = 0) → X 44 Q bc bs 34 [.ref 0, .int (nI p'), .int i, .int w, .ref T] [] h := by
      intro hne
      rw [if_neg hne] at ef
      refine b44_34 t3 (sp_66 (fun d => b44_46 (fun _ => ?_) (fun z => absurd z (by decide))) (fun d => b44_46 (fun z => absurd rfl z) (fun _ => b44_49 ?_)))
      · simp only [Int32.le_iff_toInt_le, Int32.lt_iff_toInt_lt, Int64.le_iff_toInt_le, Int64.lt_iff_toInt_lt, Int32.toInt_toInt64, i32eq, i64eq, Int32.reduceToInt, Int64.reduceToInt, Int32.reduceOfInt, el] at d
        rw [if_pos (by omega)] at ef
        obtain ⟨j, hj⟩ : ∃ j : Nat, i.toInt = j := ⟨i.toInt.toNat, by omega⟩
        have ei := toInt_io hj
        subst ei
        rw [hj, Int.toNat_natCast] at ef
        have cj : (nI j).toNatClampNeg = j := nI_clamp (by omega)
        have vj : vp_in (nI j) 8 := vp_in_nI (by omega) (by omega)
        refine b44_53 (fun z => b44_80 t3 t4 t8.1 (by rw [t8.2.1]; exact vj) ?_) (fun z => b44_88 t3 t5 t9.1 (by rw [t9.2.1]; exact vj) ?_) (fun z => b44_96 t3 t6 t10.1 (by rw [t10.2.1]; exact vj) ?_) (fun z1 z2 z3 => b44_104 ?_)
        · simp only [Int32.le_iff_toInt_le, Int32.lt_iff_toInt_lt, Int64.le_iff_toInt_le, Int64.lt_iff_toInt_lt, Int32.toInt_toInt64, i32eq, i64eq, Int32.reduceToInt, Int64.reduceToInt, Int32.reduceOfInt] at z
          rw [cj, (t8.2.2 j (by omega)).1]
          rw [ef, if_pos z] at nx
          exact nx
        · simp only [Int32.le_iff_toInt_le, Int32.lt_iff_toInt_lt, Int64.le_iff_toInt_le, Int64.lt_iff_toInt_lt, Int32.toInt_toInt64, i32eq, i64eq, Int32.reduceToInt, Int64.reduceToInt, Int32.reduceOfInt] at z
          rw [cj, (t9.2.2 j (by omega)).1]
          rw [ef, if_neg (by omega), if_pos z] at nx
          exact nx
        · simp only [Int32.le_iff_toInt_le, Int32.lt_iff_toInt_lt, Int64.le_iff_toInt_le, Int64.lt_iff_toInt_lt, Int32.toInt_toInt64, i32eq, i64eq, Int32.reduceToInt, Int64.reduceToInt, Int32.reduceOfInt] at z
          rw [cj, (t10.2.2 j (by omega)).1]
          rw [ef, if_neg (by omega), if_neg (by omega), if_pos z] at nx
          exact nx
        · simp only [Int32.le_iff_toInt_le, Int32.lt_iff_toInt_lt, Int64.le_iff_toInt_le, Int64.lt_iff_toInt_lt, Int32.toInt_toInt64, i32eq, i64eq, Int32.reduceToInt, Int64.reduceToInt, Int32.reduceOfInt] at z1 z2 z3
          rw [ef, if_neg z1, if_neg z2, if_neg z3] at nx
          exact nx
      · simp only [Int32.le_iff_toInt_le, Int32.lt_iff_toInt_lt, Int64.le_iff_toInt_le, Int64.lt_iff_toInt_lt, Int32.toInt_toInt64, i32eq, i64eq, Int32.reduceToInt, Int64.reduceToInt, Int32.reduceOfInt, el] at d
        rw [if_neg (by omega)] at ef
        rw [ef] at nx
        exact nx
    refine b44_8b (fun z => more ?_) (fun z => b44_24 (fun u => more ?_) (fun u => b44_28 t3 ?_))
    · simp only [Int32.le_iff_toInt_le, Int32.lt_iff_toInt_lt, Int64.le_iff_toInt_le, Int64.lt_iff_toInt_lt, Int32.toInt_toInt64, i32eq, i64eq, Int32.reduceToInt, Int64.reduceToInt, Int32.reduceOfInt] at z
      omega
    · simp only [Int32.le_iff_toInt_le, Int32.lt_iff_toInt_lt, Int64.le_iff_toInt_le, Int64.lt_iff_toInt_lt, Int32.toInt_toInt64, i32eq, i64eq, Int32.reduceToInt, Int64.reduceToInt, Int32.reduceOfInt] at u
      omega
    · simp only [Int32.le_iff_toInt_le, Int32.lt_iff_toInt_lt, Int64.le_iff_toInt_le, Int64.lt_iff_toInt_lt, Int32.toInt_toInt64, i32eq, i64eq, Int32.reduceToInt, Int64.reduceToInt, Int32.reduceOfInt] at z u
      rw [t7]
      rw [ef, if_pos ⟨z, u⟩] at nx
      exact nx
  · have e : f_point A p i w = -1000 := by
      unfold f_point
      rw [if_neg hn]
    rw [e] at nx
    exact nx
theorem n_point {p i w : Int32} (hs : Str h) (g : Good A) (c : MI h A) (nx : Q (some (.int (f_point A p i w))) h) : X 79 Q bc bs 0 [.ref 115, .int p, .int i, .int w] [] h := by
  have k0 : kd h 115 = 9 := hs.k 115 (by decide) (by decide)
  have h10 := g.1.1
  refine b79_0 k0 (sp_isP hs c.1 g.1.1 (fun d => b79_5 (fun z => absurd z (by decide)) (fun _ => ?_)) (fun d => b79_5 (fun _ => b79_40 ?_) (fun z => absurd rfl z)))
  · obtain ⟨p', hp'⟩ : ∃ j : Nat, p.toInt = j := ⟨p.toInt.toNat, by omega⟩
    have ep := toInt_io hp'
    subst ep
    have hp : p' < tnp (aT A) := by omega
    have gp := g.1.2 p' hp
    have gn8 := gp.2.1
    have ef : f_point A (nI p') i w = (if i.toInt = -1 ∧ w.toInt = 0 then nI (tpt (aT A) p') else if 0 ≤ i.toInt ∧ i.toInt < tpt (aT A) p' then (if w.toInt = 0 then io (tF (aT A) p' i.toInt.toNat) else if w.toInt = 1 then io (tO (aT A) p' i.toInt.toNat) else if w.toInt = 2 then io (tW (aT A) p' i.toInt.toNat) else -1000) else -1000) := by
      unfold f_point
      rw [hp', Int.toNat_natCast, if_pos (by omega)]
    have cp : (nI p').toNatClampNeg = p' := nI_clamp (by omega)
    have vp : vp_in (nI p') 10 := vp_in_nI (by omega) (by omega)
    have k119 : kd h 119 = 10 := hs.k 119 (by decide) (by decide)
    have z119 : zl h 119 = 10 := hs.z 119 (by decide) (by decide)
    have e119 := (c.1.2 p' hp).1
    have el : (hI h 119 (nI p').toNatClampNeg - (1 : Int32)).toInt = (tpt (aT A) p' : Int) - 1 := by
      rw [cp, e119, nI_io, show (1 : Int32) = io 1 from rfl, io_sub, io_toInt (by unfold IB; omega)]
    refine b79_8 (r1 := 119) k0 (hs.r 115 5 (by decide)) k119 (by rw [z119]; exact vp) (sp_72 (fun d2 => b79_25 (fun z => absurd z (by decide)) (fun _ => b79_28 (sp_72 (fun d3 => b79_37 (fun _ => ?_) (fun z => absurd z (by decide))) (fun d3 => b79_37 (fun z => absurd rfl z) (fun _ => b79_40 ?_))))) (fun d2 => b79_25 (fun _ => b79_40 ?_) (fun z => absurd rfl z)))
    · simp only [Int32.le_iff_toInt_le, Int32.lt_iff_toInt_lt, Int64.le_iff_toInt_le, Int64.lt_iff_toInt_lt, Int32.toInt_toInt64, i32eq, i64eq, Int32.reduceToInt, Int64.reduceToInt, Int32.reduceOfInt, el] at d2 d3
      refine b79_44 (fun z => ?_) (fun z => b79_49 (fun u => b79_62 ?_) (fun u => b79_53 (r1 := 119) k0 (hs.r 115 5 (by decide)) k119 (by rw [z119]; exact vp) ?_))
      · simp only [Int32.le_iff_toInt_le, Int32.lt_iff_toInt_lt, Int64.le_iff_toInt_le, Int64.lt_iff_toInt_lt, Int32.toInt_toInt64, i32eq, i64eq, Int32.reduceToInt, Int64.reduceToInt, Int32.reduceOfInt] at z
        rw [if_neg (by omega), if_pos (by omega)] at ef
        obtain ⟨j, hj⟩ : ∃ j : Nat, i.toInt = j := ⟨i.toInt.toNat, by omega⟩
        have ei := toInt_io hj
        subst ei
        rw [hj, Int.toNat_natCast] at ef
        have e8 : (8 : Int32) * nI p' + nI j = nI (8 * p' + j) := by rw [show (8 : Int32) = nI 8 from rfl, nI_mul, nI_add]
        have v8 : vp_in (nI (8 * p' + j)) 80 := vp_in_nI (by omega) (by omega)
        obtain ⟨a1, a2, a3⟩ := (c.1.2 p' hp).2 j (by omega)
        refine b79_66 (fun u => b79_84 (fun x => b79_103 (r1 := 122) k0 (hs.r 115 8 (by decide)) (hs.k 122 (by decide) (by decide)) (by rw [hs.z 122 (c := 80) (by decide) (by decide), e8]; exact v8) ?_) (fun x => b79_89 (r1 := 121) k0 (hs.r 115 7 (by decide)) (hs.k 121 (by decide) (by decide)) (by rw [hs.z 121 (c := 80) (by decide) (by decide), e8]; exact v8) ?_)) (fun u => b79_70 (r1 := 120) k0 (hs.r 115 6 (by decide)) (hs.k 120 (by decide) (by decide)) (by rw [hs.z 120 (c := 80) (by decide) (by decide), e8]; exact v8) ?_)
        · simp only [Int32.le_iff_toInt_le, Int32.lt_iff_toInt_lt, Int64.le_iff_toInt_le, Int64.lt_iff_toInt_lt, Int32.toInt_toInt64, i32eq, i64eq, Int32.reduceToInt, Int64.reduceToInt, Int32.reduceOfInt] at u x
          rw [e8, nI_clamp (by omega), a3]
          rw [ef, if_neg u, if_neg x, if_pos (by omega)] at nx
          exact nx
        · simp only [Int32.le_iff_toInt_le, Int32.lt_iff_toInt_lt, Int64.le_iff_toInt_le, Int64.lt_iff_toInt_lt, Int32.toInt_toInt64, i32eq, i64eq, Int32.reduceToInt, Int64.reduceToInt, Int32.reduceOfInt] at u x
          rw [e8, nI_clamp (by omega), a2]
          rw [ef, if_neg u, if_pos x] at nx
          exact nx
        · simp only [Int32.le_iff_toInt_le, Int32.lt_iff_toInt_lt, Int64.le_iff_toInt_le, Int64.lt_iff_toInt_lt, Int32.toInt_toInt64, i32eq, i64eq, Int32.reduceToInt, Int64.reduceToInt, Int32.reduceOfInt] at u
          rw [e8, nI_clamp (by omega), a1]
          rw [ef, if_pos u] at nx
          exact nx
      · simp only [Int32.le_iff_toInt_le, Int32.lt_iff_toInt_lt, Int64.le_iff_toInt_le, Int64.lt_iff_toInt_lt, Int32.toInt_toInt64, i32eq, i64eq, Int32.reduceToInt, Int64.reduceToInt, Int32.reduceOfInt] at z u
        rw [ef, if_neg (by omega), if_neg (by omega)] at nx
        exact nx
      · simp only [Int32.le_iff_toInt_le, Int32.lt_iff_toInt_lt, Int64.le_iff_toInt_le, Int64.lt_iff_toInt_lt, Int32.toInt_toInt64, i32eq, i64eq, Int32.reduceToInt, Int64.reduceToInt, Int32.reduceOfInt] at z u
        rw [cp, e119]
        rw [ef, if_pos ⟨z, u⟩] at nx
        exact nx
    · simp only [Int32.le_iff_toInt_le, Int32.lt_iff_toInt_lt, Int64.le_iff_toInt_le, Int64.lt_iff_toInt_lt, Int32.toInt_toInt64, i32eq, i64eq, Int32.reduceToInt, Int64.reduceToInt, Int32.reduceOfInt, el] at d2 d3
      by_cases q : 0 ≤ i.toInt ∧ i.toInt < tpt (aT A) p'
      · rw [ef, if_neg (by omega), if_pos q, if_neg (by omega), if_neg (by omega), if_neg (by omega)] at nx
        exact nx
      · rw [ef, if_neg (by omega), if_neg q] at nx
        exact nx
    · simp only [Int32.le_iff_toInt_le, Int32.lt_iff_toInt_lt, Int64.le_iff_toInt_le, Int64.lt_iff_toInt_lt, Int32.toInt_toInt64, i32eq, i64eq, Int32.reduceToInt, Int64.reduceToInt, Int32.reduceOfInt, el] at d2
      rw [ef, if_neg (by omega), if_neg (by omega)] at nx
      exact nx
  · have e : f_point A p i w = -1000 := by
      unfold f_point
      rw [if_neg d]
    rw [e] at nx
    exact nx
theorem c_status (c : CI h A) (nx : Q (some (.int (aZ A))) h) : X 59 Q bc bs 0 [.ref 0] [] h := by
  refine m59 (c.1.k 0 (by decide) (by decide)) ?_
  rw [c.2.2.2.2.2.2]
  exact nx
theorem n_status (hs : Str h) (c : MI h A) (nx : Q (some (.int (aZ A))) h) : X 115 Q bc bs 0 [.ref 115] [] h := by
  refine m115 (hs.k 115 (by decide) (by decide)) ?_
  rw [c.2.2.2.2.2]
  exact nx
theorem c_round (g : Good A) (c : CI h A) (nx : Q (some (.int (f_round A))) h) : X 53 Q bc bs 0 [.ref 0] [] h := by
  have k0 : kd h 0 = 8 := c.1.k 0 (by decide) (by decide)
  have k10 : kd h 10 = 7 := c.1.k 10 (by decide) (by decide)
  have cu := c.2.2.2.1
  unfold f_round at nx
  cases hu : aU A with
  | none =>
    rw [hu] at nx
    exact b53_0 (r1 := 10) k0 (c.1.r 0 3 (by decide)) k10 (fun z => absurd (cu.1 hu) z) (fun _ => b53_10 nx)
  | some R =>
    rw [hu] at nx
    have rc := cu.2 R hu
    refine b53_0 (r1 := 10) k0 (c.1.r 0 3 (by decide)) k10 (fun _ => b53_12 (r1 := 10) k0 (c.1.r 0 3 (by decide)) k10 (sp_comes (WKs_10 c.1) rc.2.1 g.1 (g.2.2.1 R hu) (fun q => b53_19 (fun z => absurd z (by decide)) (fun _ => b53_22 ?_)) (fun q => b53_19 (fun _ => b53_26 ?_) (fun z => absurd rfl z)))) (fun z => absurd z (by rw [rc.1]; decide))
    · simp only [if_pos q] at nx
      exact nx
    · simp only [if_neg q] at nx
      exact nx
theorem n_round (hs : Str h) (g : Good A) (c : MI h A) (nx : Q (some (.int (f_round A))) h) : X 100 Q bc bs 0 [.ref 115] [] h := by
  have k0 : kd h 115 = 9 := hs.k 115 (by decide) (by decide)
  have cu := c.2.2.1
  unfold f_round at nx
  cases hu : aU A with
  | none =>
    rw [hu] at nx
    exact b100_0 k0 (fun z => absurd (cu.1 hu) z) (fun _ => b100_7 nx)
  | some R =>
    rw [hu] at nx
    have rc := cu.2 R hu
    refine b100_0 k0 (fun _ => b100_11 k0 (sp_isRound hs rc.2 g.1 (g.2.2.1 R hu) (fun q => b100_15 (fun z => absurd z (by decide)) (fun _ => b100_18 ?_)) (fun q => b100_15 (fun _ => b100_22 ?_) (fun z => absurd rfl z)))) (fun z => absurd z (by rw [rc.1]; decide))
    · simp only [if_pos q] at nx
      exact nx
    · simp only [if_neg q] at nx
      exact nx
theorem st_loop (c : CI h A) (nx : Q (some (.int (nI (cntS (aS A) 4)))) h) : ∀ (f i : Nat), i + f = 4 → X 64 Q bc bs 4 [.ref 0, .int (nI (cntS (aS A) i)), .int (nI i)] [] h := by
  intro f
  induction f with
  | zero =>
    intro i hi
    have e : i = 4 := by omega
    subst e
    exact b64_4 (fun _ => b64_35 nx) (fun c => absurd (by decide) c)
  | succ f ih =>
    intro i hi
    have hs := c.1
    have hr : ∀ j, j < 4 → (1, j, 86 + 2 * j) ∈ RT := by decide +kernel
    obtain ⟨q1, q2, q3, q4⟩ := sheet_k c.1 (j := i) (by omega)
    have cs := c.2.2.2.2.2.1 i (by omega)
    have ih' := ih (i + 1) (by omega)
    have ci : (nI i).toNatClampNeg = i := nI_clamp (by omega)
    refine b64_4 (fun z => absurd z ?_) (fun _ => b64_9 (r1 := 1) (r2 := 86 + 2 * i) (hs.k 0 (by decide) (by decide)) (hs.r 0 0 (by decide)) (by rw [hs.k 1 (c := 14) (by decide) (by decide)]; decide) (by rw [hs.k 1 (c := 14) (by decide) (by decide)]; decide) (by rw [hs.z 1 (c := 4) (by decide) (by decide)]; exact vp_in_nI (by omega) (by omega)) (by rw [ci]; exact hs.r 1 i (hr i (by omega))) q1 (fun z => b64_26 ?_) (fun z => b64_22 ?_))
    · rw [show (4 : Int32) = nI 4 from rfl, nI_leI (by omega) (by omega)]
      omega
    · have hb : (aS A i).1 = false := by
        cases hb : (aS A i).1 with
        | false => rfl
        | true =>
          rw [(cs.2 hb).1] at z
          exact absurd z (by decide)
      rw [show nI i + (1 : Int32) = nI (i + 1) from nI_1 i, show nI (cntS (aS A) i) + (0 : Int32) = nI (cntS (aS A) i) from Int32.add_zero _]
      simp only [cntS, hb, Bool.false_eq_true, if_false, Nat.add_zero] at ih'
      exact ih'
    · have hb : (aS A i).1 = true := by
        cases hb : (aS A i).1 with
        | true => rfl
        | false => exact absurd (cs.1 hb) z
      rw [show nI i + (1 : Int32) = nI (i + 1) from nI_1 i, show nI (cntS (aS A) i) + (1 : Int32) = nI (cntS (aS A) i + 1) from nI_1 _]
      simp only [cntS, hb, if_true] at ih'
      exact ih'
theorem mt_loop {w : Int32} (hs : Str h) (g : Good A) (c : MI h A) (nx : Q (some (.int (nI (cntS (aS A) 4)))) h) : ∀ (f i : Nat), i + f = 4 → X 114 Q bc bs 62 [.ref 115, .int w, .int (nI (cntS (aS A) i)), .int (nI i)] [] h := by
  intro f
  induction f with
  | zero =>
    intro i hi
    have e : i = 4 := by omega
    subst e
    exact b114_62 (fun _ => b114_91 nx) (fun c => absurd (by decide) c)
  | succ f ih =>
    intro i hi
    have cs := c.2.2.2.2.1 i (by omega)
    have gs := g.2.2.2.2 i (by omega)
    have ih' := ih (i + 1) (by omega)
    have ci : (nI i).toNatClampNeg = i := nI_clamp (by omega)
    refine b114_62 (fun z => absurd z ?_) (fun _ => b114_67 (r1 := 117) (hs.k 115 (by decide) (by decide)) (hs.r 115 2 (by decide)) (hs.k 117 (by decide) (by decide)) (by rw [hs.z 117 (c := 4) (by decide) (by decide)]; exact vp_in_nI (by omega) (by omega)) (fun z => b114_82 ?_) (fun z => b114_78 ?_))
    · rw [show (4 : Int32) = nI 4 from rfl, nI_leI (by omega) (by omega)]
      omega
    · rw [ci] at z
      have hb : (aS A i).1 = true := by
        cases hb : (aS A i).1 with
        | true => rfl
        | false => exact absurd (cs.1 hb) z
      rw [show nI i + (1 : Int32) = nI (i + 1) from nI_1 i, show nI (cntS (aS A) i) + (1 : Int32) = nI (cntS (aS A) i + 1) from nI_1 _]
      simp only [cntS, hb, if_true] at ih'
      exact ih'
    · rw [ci] at z
      have hb : (aS A i).1 = false := by
        cases hb : (aS A i).1 with
        | false => rfl
        | true =>
          rw [(cs.2 hb).1] at z
          simp only [Int32.le_iff_toInt_le, Int32.lt_iff_toInt_lt, Int64.le_iff_toInt_le, Int64.lt_iff_toInt_lt, Int32.toInt_toInt64, i32eq, i64eq, Int32.reduceToInt, Int64.reduceToInt, Int32.reduceOfInt] at z
          rw [nI_toInt (by omega)] at z
          omega
      rw [show nI i + (1 : Int32) = nI (i + 1) from nI_1 i, show nI (cntS (aS A) i) + (0 : Int32) = nI (cntS (aS A) i) from Int32.add_zero _]
      simp only [cntS, hb, Bool.false_eq_true, if_false, Nat.add_zero] at ih'
      exact ih'
theorem c_count {w : Int32} (g : Good A) (c : CI h A) (nx : Q (some (.int (f_count A w))) h) : X 58 Q bc bs 0 [.ref 0, .int w] [] h := by
  have k0 : kd h 0 = 8 := c.1.k 0 (by decide) (by decide)
  have k10 : kd h 10 = 7 := c.1.k 10 (by decide) (by decide)
  unfold f_count at nx
  refine b58_0 (fun z => b58_32 (r1 := 2) k0 (c.1.r 0 1 (by decide)) (c.1.k 2 (by decide) (by decide)) ?_) (fun z => b58_40 (r1 := 6) k0 (c.1.r 0 2 (by decide)) (c.1.k 6 (by decide) (by decide)) ?_) (fun z => ?_) (fun z => b58_70 k0 (b64_0 (st_loop c (b58_74 ?_) 4 0 (by omega)))) (fun z1 z2 z3 z4 => b58_75 ?_)
  · simp only [Int32.le_iff_toInt_le, Int32.lt_iff_toInt_lt, Int64.le_iff_toInt_le, Int64.lt_iff_toInt_lt, Int32.toInt_toInt64, i32eq, i64eq, Int32.reduceToInt, Int64.reduceToInt, Int32.reduceOfInt] at z
    rw [if_pos z] at nx
    rw [c.2.1.1]
    exact nx
  · simp only [Int32.le_iff_toInt_le, Int32.lt_iff_toInt_lt, Int64.le_iff_toInt_le, Int64.lt_iff_toInt_lt, Int32.toInt_toInt64, i32eq, i64eq, Int32.reduceToInt, Int64.reduceToInt, Int32.reduceOfInt] at z
    rw [if_neg (by omega), if_pos z] at nx
    rw [c.2.2.1.1]
    exact nx
  · simp only [Int32.le_iff_toInt_le, Int32.lt_iff_toInt_lt, Int64.le_iff_toInt_le, Int64.lt_iff_toInt_lt, Int32.toInt_toInt64, i32eq, i64eq, Int32.reduceToInt, Int64.reduceToInt, Int32.reduceOfInt] at z
    rw [if_neg (by omega), if_neg (by omega), if_pos z] at nx
    have cu := c.2.2.2.1
    cases hu : aU A with
    | none =>
      rw [hu] at nx
      exact b58_48 (r1 := 10) k0 (c.1.r 0 3 (by decide)) k10 (fun _ => b58_68 nx) (fun q => absurd (cu.1 hu) q)
    | some R =>
      rw [hu] at nx
      have rc := cu.2 R hu
      refine b58_48 (r1 := 10) k0 (c.1.r 0 3 (by decide)) k10 (fun q => absurd q (by rw [rc.1]; decide)) (fun _ => b58_58 (r1 := 10) k0 (c.1.r 0 3 (by decide)) k10 ?_)
      rw [rc.2.1.1]
      exact nx
  · simp only [Int32.le_iff_toInt_le, Int32.lt_iff_toInt_lt, Int64.le_iff_toInt_le, Int64.lt_iff_toInt_lt, Int32.toInt_toInt64, i32eq, i64eq, Int32.reduceToInt, Int64.reduceToInt, Int32.reduceOfInt] at z
    rw [if_neg (by omega), if_neg (by omega), if_neg (by omega), if_pos z] at nx
    exact nx
  · simp only [Int32.le_iff_toInt_le, Int32.lt_iff_toInt_lt, Int64.le_iff_toInt_le, Int64.lt_iff_toInt_lt, Int32.toInt_toInt64, i32eq, i64eq, Int32.reduceToInt, Int64.reduceToInt, Int32.reduceOfInt] at z1 z2 z3 z4
    rw [if_neg z1, if_neg z2, if_neg z3, if_neg z4] at nx
    exact nx
theorem n_count {w : Int32} (hs : Str h) (g : Good A) (c : MI h A) (nx : Q (some (.int (f_count A w))) h) : X 114 Q bc bs 0 [.ref 115, .int w, UU, UU] [] h := by
  have k0 : kd h 115 = 9 := hs.k 115 (by decide) (by decide)
  unfold f_count at nx
  refine b114_0 (fun z => b114_32 k0 ?_) (fun z => b114_37 k0 ?_) (fun z => ?_) (fun z => b114_58 (mt_loop hs g c ?_ 4 0 (by omega))) (fun z1 z2 z3 z4 => b114_93 ?_)
  · simp only [Int32.le_iff_toInt_le, Int32.lt_iff_toInt_lt, Int64.le_iff_toInt_le, Int64.lt_iff_toInt_lt, Int32.toInt_toInt64, i32eq, i64eq, Int32.reduceToInt, Int64.reduceToInt, Int32.reduceOfInt] at z
    rw [if_pos z] at nx
    rw [c.1.1]
    exact nx
  · simp only [Int32.le_iff_toInt_le, Int32.lt_iff_toInt_lt, Int64.le_iff_toInt_le, Int64.lt_iff_toInt_lt, Int32.toInt_toInt64, i32eq, i64eq, Int32.reduceToInt, Int64.reduceToInt, Int32.reduceOfInt] at z
    rw [if_neg (by omega), if_pos z] at nx
    rw [c.2.1.1]
    exact nx
  · simp only [Int32.le_iff_toInt_le, Int32.lt_iff_toInt_lt, Int64.le_iff_toInt_le, Int64.lt_iff_toInt_lt, Int32.toInt_toInt64, i32eq, i64eq, Int32.reduceToInt, Int64.reduceToInt, Int32.reduceOfInt] at z
    rw [if_neg (by omega), if_neg (by omega), if_pos z] at nx
    have cu := c.2.2.1
    cases hu : aU A with
    | none =>
      rw [hu] at nx
      exact b114_42 k0 (fun _ => b114_56 nx) (fun q => absurd (cu.1 hu) q)
    | some R =>
      rw [hu] at nx
      have rc := cu.2 R hu
      refine b114_42 k0 (fun q => absurd q (by rw [rc.1]; decide)) (fun _ => b114_49 k0 ?_)
      rw [rc.2.1]
      exact nx
  · simp only [Int32.le_iff_toInt_le, Int32.lt_iff_toInt_lt, Int64.le_iff_toInt_le, Int64.lt_iff_toInt_lt, Int32.toInt_toInt64, i32eq, i64eq, Int32.reduceToInt, Int64.reduceToInt, Int32.reduceOfInt] at z
    rw [if_neg (by omega), if_neg (by omega), if_neg (by omega), if_pos z] at nx
    exact nx
  · simp only [Int32.le_iff_toInt_le, Int32.lt_iff_toInt_lt, Int64.le_iff_toInt_le, Int64.lt_iff_toInt_lt, Int32.toInt_toInt64, i32eq, i64eq, Int32.reduceToInt, Int64.reduceToInt, Int32.reduceOfInt] at z1 z2 z3 z4
    rw [if_neg z1, if_neg z2, if_neg z3, if_neg z4] at nx
    exact nx
end PNT
