/-! state, behind on both sides. -/
def UNS : Int64 := -9223372036854775808
def rdU (F G : Nat → Int) (n : Nat) (u w : Int) : Int := rU (bN F G u w ((fs F u w 0 n).getD 0)) (bD F w ((fs F u w 0 n).getD 0))
def rdL (F G : Nat → Int) (n : Nat) (u w : Int) : Int := rL (bN F G u w ((fs F u w 0 n).getD 0)) (bD F w ((fs F u w 0 n).getD 0))
def sdv (b : Nat) (u w : Int) : Int64 := if b = 0 then jo u else jo w
def stU (t : TBT) (p : Nat) (u w : Int) (m : Nat) : Int := if m = 0 then rdU (tF t p) (tO t p) (tpt t p) u w else if m = 1 then rdU (tF t p) (tW t p) (tpt t p) u w else rU (wN (tF t p) u w) ((tF t p 1 - tF t p 0) * w)
def stL (t : TBT) (p : Nat) (u w : Int) (m : Nat) : Int := if m = 0 then rdL (tF t p) (tO t p) (tpt t p) u w else if m = 1 then rdL (tF t p) (tW t p) (tpt t p) u w else rL (wN (tF t p) u w) ((tF t p 1 - tF t p 0) * w)
def f_state (A : AST) (p : Int32) (u w : Int64) (k : Int32) : Int64 := if 0 ≤ p.toInt ∧ p.toInt < tnp (aT A) ∧ 1 ≤ w.toInt ∧ w.toInt ≤ 10000000 ∧ tF (aT A) p.toInt.toNat 0 * w.toInt ≤ u.toInt ∧ u.toInt ≤ tF (aT A) p.toInt.toNat (tpt (aT A) p.toInt.toNat - 1) * w.toInt ∧ 0 ≤ k.toInt ∧ k.toInt ≤ 5 then sdv (k.toInt.toNat % 2) (stU (aT A) p.toInt.toNat u.toInt w.toInt (k.toInt.toNat / 2)) (stL (aT A) p.toInt.toNat u.toInt w.toInt (k.toInt.toNat / 2)) else UNS
def bhU (t : TBT) (s : PST) (m : Nat) : Int := if m = 0 then s.2.1 else if m = 1 then rdU (tF t s.1) (tO t s.1) (tpt t s.1) s.2.1 s.2.2 else rdU (tF t s.1) (tW t s.1) (tpt t s.1) s.2.1 s.2.2
def bhL (t : TBT) (s : PST) (m : Nat) : Int := if m = 0 then s.2.2 else if m = 1 then rdL (tF t s.1) (tO t s.1) (tpt t s.1) s.2.1 s.2.2 else rdL (tF t s.1) (tW t s.1) (tpt t s.1) s.2.1 s.2.2
def f_behind (A : AST) (i k : Int32) : Int64 := match aU A with
  | none => UNS
  | some R => if 0 ≤ i.toInt ∧ i.toInt ≤ um R ∧ 0 ≤ k.toInt ∧ k.toInt ≤ 6 then (if k.toInt = 0 then jo (uS R i.toInt.toNat).1 else sdv ((k.toInt.toNat - 1) % 2) (bhU (aT A) (uS R i.toInt.toNat) ((k.toInt.toNat - 1) / 2)) (bhL (aT A) (uS R i.toInt.toNat) ((k.toInt.toNat - 1) / 2))) else UNS
theorem rd_some {F G : Nat → Int} {n : Nat} {u w : Int} {i : Nat} (hi : i + 1 < n) (hb : btw F u w i) (hn : ∀ j, j < i → ¬ btw F u w j) : rdU F G n u w = rU (bN F G u w i) (bD F w i) ∧ rdL F G n u w = rL (bN F G u w i) (bD F w i) := by
  unfold rdU rdL
  rw [fs_some (Nat.zero_le i) hi hb (fun j _ => hn j)]
  exact ⟨rfl, rfl⟩
theorem fs_low {F : Nat → Int} {u w : Int} {n : Nat} (hw : 0 < w) : fs F (rU u w) (rL u w) 0 n = fs F u w 0 n := by
  unfold fs
  congr 1
  funext i
  congr 1
  cases h1 : btb F u w i with
  | true => exact btb_iff.mpr ((btw_low hw).mpr (btb_iff.mp h1))
  | false =>
    cases h2 : btb F (rU u w) (rL u w) i with
    | false => rfl
    | true =>
      rw [btb_iff.mpr ((btw_low hw).mp (btb_iff.mp h2))] at h1
      cases h1
theorem rd_low {F G : Nat → Int} {n : Nat} {u w : Int} (hw : 0 < w) {i : Nat} (hi : i + 1 < n) (hb : btw F u w i) (hn : ∀ j, j < i → ¬ btw F u w j) : rdU F G n (rU u w) (rL u w) = rdU F G n u w ∧ rdL F G n (rU u w) (rL u w) = rdL F G n u w := by
  have e := fs_some (n := n) (Nat.zero_le i) hi hb (fun j _ => hn j)
  unfold rdU rdL
  rw [fs_low hw, e]
  exact bN_low hw hb.1
theorem wN_scale {f : Nat → Int} {c u w : Int} (hc : 0 < c) : wN f (c * u) (c * w) = c * wN f u w := by
  unfold wN
  have e : f 1 * (c * w) - c * u = c * (f 1 * w - u) := by grind
  rw [e]
  by_cases q : f 1 * w - u < 0
  · rw [if_pos q, if_pos (Int.mul_neg_of_pos_of_neg hc q), Int.mul_zero]
  · rw [if_neg q, if_neg (by have := Int.mul_nonneg (Int.le_of_lt hc) (show 0 ≤ f 1 * w - u by omega); omega)]
theorem wet_low {f : Nat → Int} {u w : Int} (hw : 0 < w) (hf : f 0 < f 1) : rU (wN f (rU u w) (rL u w)) ((f 1 - f 0) * rL u w) = rU (wN f u w) ((f 1 - f 0) * w) ∧ rL (wN f (rU u w) (rL u w)) ((f 1 - f 0) * rL u w) = rL (wN f u w) ((f 1 - f 0) * w) := by
  have g0 := rg_pos (u := u) hw
  have e1 : u = (Int.gcd u w : Int) * rU u w := by rw [Int.mul_comm]; exact (rU_mul u w).symm
  have e2 : w = (Int.gcd u w : Int) * rL u w := by rw [Int.mul_comm]; exact (rL_mul u w).symm
  have lp := rL_pos (u := u) hw
  refine r_same (Int.mul_pos (by omega) lp) (Int.mul_pos (by omega) hw) ?_
  generalize hg : (Int.gcd u w : Int) = c at e1 e2 g0
  generalize rU u w = p at *
  generalize rL u w = q at *
  subst e1; subst e2
  rw [wN_scale g0]
  grind
section STT
variable {Q : Option Value → HP → Prop} {bc bs : Nat} {h : HP} {A : AST}
theorem sp_side {a : Nat} {u w : Int} {x : Int32} (k : kd h a = 1) (r : RA h a u w) (y0 : x = 0 → Q (some (.long (jo u))) h) (y1 : ¬ x = 0 → Q (some (.long (jo w))) h) : X 4 Q bc bs 0 [.ref a, .int x] [] h := by
  refine b4_0 (fun c => b4_11 k ?_) (fun c => b4_4 k ?_)
  · rw [r.2]; exact y1 c
  · rw [r.1]; exact y0 c
theorem div2 : ∀ m, m < 4 → ∀ b, b < 2 → nI (2 * m + b) / (2 : Int32) = nI m ∧ nI (2 * m + b) - nI (2 * m + b) / (2 : Int32) * (2 : Int32) = nI b := by decide +kernel
set_option maxHeartbeats 1000000 in
theorem c_state {p k : Int32} {u w : Int64} (g : Good A) (c : CI h A) (nx : ∀ h', FC h h' → CI h' A → Q (some (.long (f_state A p u w k))) h') : X 45 Q bc bs 0 [.ref 0, .int p, .long u, UU, .long w, UU, .int k, UU, UU] [] h := by
  have k0 : kd h 0 = 8 := c.1.k 0 (by decide) (by decide)
  have nx0 := nx h FC.rfl' c
  have no : ∀ T, ¬ (0 ≤ p.toInt ∧ p.toInt < tnp (aT A) ∧ 1 ≤ w.toInt ∧ w.toInt ≤ 10000000 ∧ tF (aT A) p.toInt.toNat 0 * w.toInt ≤ u.toInt ∧ u.toInt ≤ tF (aT A) p.toInt.toNat (tpt (aT A) p.toInt.toNat - 1) * w.toInt ∧ 0 ≤ k.toInt ∧ k.toInt ≤ 5) → X 45 Q bc bs 44 [.ref 0, .int p, .long u, UU, .long w, UU, .int k, .ref T, UU] [] h := fun T hn => by
    have e : f_state A p u w k = UNS := by
      unfold f_state
      rw [if_neg hn]
    rw [e] at nx0
    exact b45_44 nx0
  refine b45_0 (r1 := 2) k0 (c.1.r 0 1 (by decide)) (c.1.k 2 (by decide) (by decide)) (sp_tab c.1 c.2.1 g.1.1 (fun p' T ep hp ct => ?_) (fun hn => b45_8a ?_))
  · have h10 := g.1.1
    have gp := g.1.2 p' hp
    have gn2 := gp.1
    have gn8 := gp.2.1
    obtain ⟨t1, t2, t3, t4, t5, t6, t7, t8, t9, t10⟩ := id ct
    have epi : p.toInt = p' := by rw [ep]; exact nI_toInt (by omega)
    refine b45_8b (sp_67 (fun d => b45_20 (fun z => absurd z (by decide)) (fun _ => b45_23 t3 ?_)) (fun d => b45_20 (fun _ => no T ?_) (fun z => absurd rfl z)))
    · simp only [Int32.le_iff_toInt_le, Int32.lt_iff_toInt_lt, Int64.le_iff_toInt_le, Int64.lt_iff_toInt_lt, Int32.toInt_toInt64, i32eq, i64eq, Int32.reduceToInt, Int64.reduceToInt, Int32.reduceOfInt] at d
      have eu : u = jo u.toInt := (jo_of u).symm
      have ew : w = jo w.toInt := (jo_of w).symm
      have ju := JB_of u
      have jw := JB_of w
      rw [eu, ew]
      refine sp_holds t3 t4 t7 gn2 gn8 t8 ju (by omega) jw (fun q => b45_31 (fun z => absurd z (by decide)) (fun _ => b45_34 (sp_66 (fun d2 => b45_41 (fun _ => ?_) (fun z => absurd z (by decide))) (fun d2 => b45_41 (fun z => absurd rfl z) (fun _ => ?_))))) (fun q => b45_31 (fun _ => ?_) (fun z => absurd rfl z))
      · simp only [Int32.le_iff_toInt_le, Int32.lt_iff_toInt_lt, Int64.le_iff_toInt_le, Int64.lt_iff_toInt_lt, Int32.toInt_toInt64, i32eq, i64eq, Int32.reduceToInt, Int64.reduceToInt, Int32.reduceOfInt] at d2
        obtain ⟨kn, hkn⟩ : ∃ j : Nat, k.toInt = j := ⟨k.toInt.toNat, by omega⟩
        obtain ⟨m, b, hm, hb, ekm⟩ : ∃ m b : Nat, m < 3 ∧ b < 2 ∧ kn = 2 * m + b := ⟨kn / 2, kn % 2, by omega, by omega, by omega⟩
        have ek := toInt_io hkn
        subst ekm
        subst ek
        have ef : f_state A p u w (nI (2 * m + b)) = sdv b (stU (aT A) p' u.toInt w.toInt m) (stL (aT A) p' u.toInt w.toInt m) := by
          unfold f_state
          rw [hkn, epi, Int.toNat_natCast, Int.toNat_natCast, if_pos (by omega), show (2 * m + b) % 2 = b by omega, show (2 * m + b) / 2 = m by omega]
        rw [ef] at nx
        obtain ⟨dv1, dv2⟩ := div2 m (by omega) b hb
        have gb := (gp.2.2.1 0 (by omega)).1
        have gl := (gp.2.2.1 (tpt (aT A) p' - 1) (by omega)).1
        have hq0 : 0 ≤ tF (aT A) p' 0 * w.toInt := Int.mul_nonneg gb.1 (by omega)
        have hq1 : tF (aT A) p' (tpt (aT A) p' - 1) * w.toInt ≤ 1000 * w.toInt := Int.mul_le_mul_of_nonneg_right gl.2 (by omega)
        generalize u.toInt = U at *
        generalize w.toInt = W at *
        have hW : 0 < W := by omega
        have lp := rL_pos (u := U) hW
        have le := r_le (u := U) hW
        have lb := r_bound (K := 1000) (u := U) hW (by omega)
        have rn0 := r_nonneg (u := U) hW (by omega)
        have k81 : SK h 81 := ⟨c.1.k 81 (by decide) (by decide), c.1.r 81 0 (by decide), c.1.k 82 (by decide) (by decide)⟩
        refine b45_48 (r1 := 81) k0 (c.1.r 0 7 (by decide)) k81.1 (b19_0 k81.1 k81.2.1 k81.2.2 (sp_put k81.2.2 ju (by omega) hW jw (b19_15 ?_)))
        have f1 : Fr (fun q => q = 81) (fun q => q = 82 ∨ q = 83) h (wR (sI h 81 1 p) 82 (rU U W) (rL U W)) := Fr.wR' (Fr.sI' (SI := fun q => q = 81) Fr.rfl' rfl) (Or.inl rfl)
        have r82 : RA (wR (sI h 81 1 p) 82 (rU U W) (rL U W)) 82 (rU U W) (rL U W) := RA_wR
        generalize wR (sI h 81 1 p) 82 (rU U W) (rL U W) = h1 at f1 r82 ⊢
        have hs1 := f1.str c.1
        have ct1 := TCp_fr f1 (fun b q (e : b = 81) => by omega) ct
        obtain ⟨s1, s2, s3, s4, s5, s6, s7, s8, s9, s10⟩ := ct1
        have k01 : kd h1 0 = 8 := hs1.k 0 (by decide) (by decide)
        have k811 : kd h1 81 = 4 := hs1.k 81 (by decide) (by decide)
        have k821 : kd h1 82 = 1 := hs1.k 82 (by decide) (by decide)
        have k831 : kd h1 83 = 1 := hs1.k 83 (by decide) (by decide)
        have fin : ∀ (x8 : Int32) (u' w' : Int), u' = stU (aT A) p' U W m → w' = stL (aT A) p' U W m → X 45 Q bc bs 177 [.ref 0, .int p, .long (jo U), UU, .long (jo W), UU, .int (nI (2 * m + b)), .ref T, .int x8] [] (wR h1 83 u' w') := by
          intro x8 u' w' e1 e2
          have f2 : Fr (fun q => q = 81) (fun q => q = 82 ∨ q = 83) h (wR h1 83 u' w') := Fr.wR' f1 (Or.inr rfl)
          have ci := CI_scr f2 (fun q e => by omega) (fun q e => by omega) g c
          refine b45_177 (r1 := 83) k01 (hs1.r 0 8 (by decide)) k831 (sp_side k831 RA_wR (fun z => b45_188 ?_) (fun z => b45_188 ?_))
          · rw [dv2, show (0 : Int32) = nI 0 from rfl, nI_eq (by omega) (by omega)] at z
            have := nx _ ci.2 ci.1
            unfold sdv at this
            rw [if_pos z, ← e1] at this
            exact this
          · rw [dv2, show (0 : Int32) = nI 0 from rfl, nI_eq (by omega) (by omega)] at z
            have := nx _ ci.2 ci.1
            unfold sdv at this
            rw [if_neg z, ← e2] at this
            exact this
        have hex := btw_ex (tpt (aT A) p') gn2 (fun i hi => (gp.2.2.2.1 i hi).1) q.2.1 q.2.2
        have m0 : nI m = Int32.ofInt 0 ↔ m = 0 := by rw [show Int32.ofInt 0 = nI 0 from rfl, nI_eq (by omega) (by omega)]
        have m1 : nI m = Int32.ofInt 1 ↔ m = 1 := by rw [show Int32.ofInt 1 = nI 1 from rfl, nI_eq (by omega) (by omega)]
        refine b45_59 (fun z => b45_92 (r3 := 81) (r4 := 82) (r5 := 83) s3 s4 s5 k01 (hs1.r 0 7 (by decide)) k811 (hs1.r 81 0 (by decide)) (hs1.r 0 8 (by decide)) ?_) (fun z => b45_124 (r3 := 81) (r4 := 82) (r5 := 83) s3 s4 s6 k01 (hs1.r 0 7 (by decide)) k811 (hs1.r 81 0 (by decide)) (hs1.r 0 8 (by decide)) ?_) (fun z1 z2 => b45_156 (r1 := 81) (r2 := 82) (r3 := 83) k01 (hs1.r 0 7 (by decide)) k811 (hs1.r 81 0 (by decide)) (hs1.r 0 8 (by decide)) s3 ?_)
        · rw [dv1, m0] at z
          rw [show (0 : Int32) = nI 0 from rfl]
          refine sp_between (first := 0) s3 s7 gn8 (by omega) s8 s9 k821 k831 r82 lp (by omega) (by omega) (fun i _ hi hbi hfi => ?_) (fun hno => ?_)
          · have hb' := (btw_low hW).mp hbi
            have hn' : ∀ j, j < i → ¬ btw (tF (aT A) p') U W j := fun j hj q => hfi j (Nat.zero_le _) hj ((btw_low hW).mpr q)
            have e1 := rd_some (G := tO (aT A) p') hi hbi (fun j hj => hfi j (Nat.zero_le _) hj)
            have e2 := rd_low (G := tO (aT A) p') (n := tpt (aT A) p') hW hi hb' hn'
            refine b45_119 (fun z => absurd z (by decide)) (fun _ => fin _ _ _ ?_ ?_)
            · unfold stU
              rw [if_pos z, ← e2.1, e1.1]
            · unfold stL
              rw [if_pos z, ← e2.2, e1.2]
          · obtain ⟨i, a1, a2⟩ := hex
            exact absurd ((btw_low hW).mpr a2) (hno i (Nat.zero_le _) a1)
        · rw [dv1, m1] at z
          rw [show (0 : Int32) = nI 0 from rfl]
          refine sp_between (first := 0) s3 s7 gn8 (by omega) s8 s10 k821 k831 r82 lp (by omega) (by omega) (fun i _ hi hbi hfi => ?_) (fun hno => ?_)
          · have hb' := (btw_low hW).mp hbi
            have hn' : ∀ j, j < i → ¬ btw (tF (aT A) p') U W j := fun j hj q => hfi j (Nat.zero_le _) hj ((btw_low hW).mpr q)
            have e1 := rd_some (G := tW (aT A) p') hi hbi (fun j hj => hfi j (Nat.zero_le _) hj)
            have e2 := rd_low (G := tW (aT A) p') (n := tpt (aT A) p') hW hi hb' hn'
            refine b45_151 (fun z => absurd z (by decide)) (fun _ => fin _ _ _ ?_ ?_)
            · unfold stU
              rw [if_neg (by omega), if_pos z, ← e2.1, e1.1]
            · unfold stL
              rw [if_neg (by omega), if_pos z, ← e2.2, e1.2]
          · obtain ⟨i, a1, a2⟩ := hex
            exact absurd ((btw_low hW).mpr a2) (hno i (Nat.zero_le _) a1)
        · rw [dv1, m0] at z1
          rw [dv1, m1] at z2
          have f01 := (gp.2.2.2.1 0 (by omega)).1
          have wl := wet_low (u := U) hW f01
          refine sp_wet s3 s4 gn2 s8 k821 k831 r82 lp (by omega) (by omega) f01 (b45_172 (fun z => absurd z (by decide)) (fun _ => fin _ _ _ ?_ ?_))
          · unfold stU
            rw [if_neg z1, if_neg z2, ← wl.1]
          · unfold stL
            rw [if_neg z1, if_neg z2, ← wl.2]
      · simp only [Int32.le_iff_toInt_le, Int32.lt_iff_toInt_lt, Int64.le_iff_toInt_le, Int64.lt_iff_toInt_lt, Int32.toInt_toInt64, i32eq, i64eq, Int32.reduceToInt, Int64.reduceToInt, Int32.reduceOfInt] at d2
        rw [← eu, ← ew]
        exact no T (by omega)
      · rw [← eu, ← ew]
        refine no T (fun z => q ?_)
        rw [epi, Int.toNat_natCast] at z
        exact ⟨by omega, z.2.2.2.2.1, z.2.2.2.2.2.1⟩
    · simp only [Int32.le_iff_toInt_le, Int32.lt_iff_toInt_lt, Int64.le_iff_toInt_le, Int64.lt_iff_toInt_lt, Int32.toInt_toInt64, i32eq, i64eq, Int32.reduceToInt, Int64.reduceToInt, Int32.reduceOfInt] at d
      omega
  · have e : f_state A p u w k = UNS := by
      unfold f_state
      rw [if_neg (by omega)]
    rw [e] at nx0
    exact nx0
theorem n_state {p k : Int32} {u w : Int64} (hs : Str h) (g : Good A) (c : MI h A) (nx : ∀ h', FM h h' → MI h' A → Q (some (.long (f_state A p u w k))) h') : X 86 Q bc bs 0 [.ref 115, .int p, .long u, UU, .long w, UU, .int k] [] h := by
  have k0 : kd h 115 = 9 := hs.k 115 (by decide) (by decide)
  have nx0 := nx h FM.rfl' c
  have h10 := g.1.1
  have no : ¬ (0 ≤ p.toInt ∧ p.toInt < tnp (aT A) ∧ 1 ≤ w.toInt ∧ w.toInt ≤ 10000000 ∧ tF (aT A) p.toInt.toNat 0 * w.toInt ≤ u.toInt ∧ u.toInt ≤ tF (aT A) p.toInt.toNat (tpt (aT A) p.toInt.toNat - 1) * w.toInt ∧ 0 ≤ k.toInt ∧ k.toInt ≤ 5) → X 86 Q bc bs 55 [.ref 115, .int p, .long u, UU, .long w, UU, .int k] [] h := fun hn => by
    have e : f_state A p u w k = UNS := by
      unfold f_state
      rw [if_neg hn]
    rw [e] at nx0
    exact b86_55 nx0
  refine b86_0 k0 (sp_isP hs c.1 g.1.1 (fun d1 => b86_5 (fun z => absurd z (by decide)) (fun _ => b86_8 (sp_72 (fun d2 => b86_17 (fun z => absurd z (by decide)) (fun _ => b86_20 (sp_72 (fun d3 => b86_30 (fun z => absurd z (by decide)) (fun _ => b86_33 (sp_72 (fun d4 => b86_41 (fun z => absurd z (by decide)) (fun _ => b86_44 k0 ?_)) (fun d4 => b86_41 (fun _ => no ?_) (fun z => absurd rfl z))))) (fun d3 => b86_30 (fun _ => no ?_) (fun z => absurd rfl z))))) (fun d2 => b86_17 (fun _ => no ?_) (fun z => absurd rfl z))))) (fun d1 => b86_5 (fun _ => no ?_) (fun z => absurd rfl z)))
  · simp only [Int32.le_iff_toInt_le, Int32.lt_iff_toInt_lt, Int64.le_iff_toInt_le, Int64.lt_iff_toInt_lt, Int32.toInt_toInt64, i32eq, i64eq, Int32.reduceToInt, Int64.reduceToInt, Int32.reduceOfInt] at d2 d3 d4
    obtain ⟨p', hp'⟩ : ∃ j : Nat, p.toInt = j := ⟨p.toInt.toNat, by omega⟩
    have ep := toInt_io hp'
    subst ep
    have hp : p' < tnp (aT A) := by omega
    have gp := g.1.2 p' hp
    have gn2 := gp.1
    have gn8 := gp.2.1
    have eu : u = jo u.toInt := (jo_of u).symm
    have ew : w = jo w.toInt := (jo_of w).symm
    have ju := JB_of u
    rw [eu, ew]
    refine sp_within hs c.1 g.1 hp ju (by omega) (fun q => b86_52 (fun _ => ?_) (fun z => absurd z (by decide))) (fun q => b86_52 (fun z => absurd rfl z) (fun _ => ?_))
    · obtain ⟨kn, hkn⟩ : ∃ j : Nat, k.toInt = j := ⟨k.toInt.toNat, by omega⟩
      obtain ⟨m, b, hm, hb, ekm⟩ : ∃ m b : Nat, m < 3 ∧ b < 2 ∧ kn = 2 * m + b := ⟨kn / 2, kn % 2, by omega, by omega, by omega⟩
      have ek := toInt_io hkn
      subst ekm
      subst ek
      have ef : f_state A (nI p') u w (nI (2 * m + b)) = sdv b (stU (aT A) p' u.toInt w.toInt m) (stL (aT A) p' u.toInt w.toInt m) := by
        unfold f_state
        rw [hkn, hp', Int.toNat_natCast, Int.toNat_natCast, if_pos (by omega), show (2 * m + b) % 2 = b by omega, show (2 * m + b) / 2 = m by omega]
      rw [ef] at nx
      obtain ⟨dv1, dv2⟩ := div2 m (by omega) b hb
      have gb := (gp.2.2.1 0 (by omega)).1
      have gl := (gp.2.2.1 (tpt (aT A) p' - 1) (by omega)).1
      have hq0 : 0 ≤ tF (aT A) p' 0 * w.toInt := Int.mul_nonneg gb.1 (by omega)
      have hq1 : tF (aT A) p' (tpt (aT A) p' - 1) * w.toInt ≤ 1000 * w.toInt := Int.mul_le_mul_of_nonneg_right gl.2 (by omega)
      generalize u.toInt = U at *
      generalize w.toInt = W at *
      have b0 : nI b = 0 ↔ b = 0 := by rw [show (0 : Int32) = nI 0 from rfl, nI_eq (by omega) (by omega)]
      have fin : ∀ (u' w' : Int), u' = stU (aT A) p' U W m → w' = stL (aT A) p' U W m → (b = 0 → Q (some (.long (hJ (gw h u' w') 115 9))) (gw h u' w')) ∧ (¬ b = 0 → Q (some (.long (hJ (gw h u' w') 115 10))) (gw h u' w')) := by
        intro u' w' e1 e2
        have mg : MG h (gw h u' w') := MG.gw' MG.rfl'
        have mi := MI_scr mg.ff (fun b i q => absurd q id) (fun b i q => Or.inl q.1) c
        have := nx _ mi.2 mi.1
        unfold sdv at this
        rw [gw_9, gw_10]
        constructor
        · intro z
          rw [if_pos z, ← e1] at this
          exact this
        · intro z
          rw [if_neg z, ← e2] at this
          exact this
      refine b86_59 (fun z => ?_) (fun z => ?_)
      · rw [show (4 : Int32) = nI 4 from rfl, nI_leI (by omega) (by omega)] at z
        have m2 : m = 2 := by omega
        subst m2
        have ff := fin _ _ rfl rfl
        refine b86_80 k0 (sp_wets hs c.1 g.1 hp (by omega) (by omega) (by omega) (by omega) (b86_88 (fun x => b86_102 k0 ?_) (fun x => b86_95 k0 ?_)))
        · rw [dv2, b0] at x
          exact ff.2 x
        · rw [dv2, b0] at x
          exact ff.1 x
      · rw [show (4 : Int32) = nI 4 from rfl, nI_leI (by omega) (by omega)] at z
        have m01 : nI m = 0 ↔ m = 0 := by rw [show (0 : Int32) = nI 0 from rfl, nI_eq (by omega) (by omega)]
        refine b86_65 k0 ?_
        rw [dv1]
        refine sp_reads hs c.1 g.1 hp (by omega) (by omega) q.1 q.2 (fun i e hi hbi hfi => ?_) (fun i e hi hbi hfi => ?_)
        · rw [m01] at e
          have e1 := rd_some (G := tO (aT A) p') hi hbi hfi
          have ff := fin _ _ (by unfold stU; rw [if_pos e, e1.1]) (by unfold stL; rw [if_pos e, e1.2])
          refine b86_77 (fun x => b86_102 k0 ?_) (fun x => b86_95 k0 ?_)
          · rw [dv2, b0] at x
            exact ff.2 x
          · rw [dv2, b0] at x
            exact ff.1 x
        · rw [m01] at e
          have e1 := rd_some (G := tW (aT A) p') hi hbi hfi
          have ff := fin _ _ (by unfold stU; rw [if_neg e, if_pos (by omega), e1.1]) (by unfold stL; rw [if_neg e, if_pos (by omega), e1.2])
          refine b86_77 (fun x => b86_102 k0 ?_) (fun x => b86_95 k0 ?_)
          · rw [dv2, b0] at x
            exact ff.2 x
          · rw [dv2, b0] at x
            exact ff.1 x
    · rw [← eu, ← ew]
      refine no (fun z => q ?_)
      rw [hp', Int.toNat_natCast] at z
      exact ⟨z.2.2.2.2.1, z.2.2.2.2.2.1⟩
  · simp only [Int32.le_iff_toInt_le, Int32.lt_iff_toInt_lt, Int64.le_iff_toInt_le, Int64.lt_iff_toInt_lt, Int32.toInt_toInt64, i32eq, i64eq, Int32.reduceToInt, Int64.reduceToInt, Int32.reduceOfInt] at d2 d3 d4
    refine fun z => d4 ?_
    obtain ⟨p', hp'⟩ : ∃ j : Nat, p.toInt = j := ⟨p.toInt.toNat, by omega⟩
    rw [hp', Int.toNat_natCast] at z
    have gp := g.1.2 p' (by omega)
    have gn2 := gp.1
    have gb := (gp.2.2.1 0 (by omega)).1
    have gl := (gp.2.2.1 (tpt (aT A) p' - 1) (by omega)).1
    have hq0 : 0 ≤ tF (aT A) p' 0 * w.toInt := Int.mul_nonneg gb.1 (by omega)
    have hq1 : tF (aT A) p' (tpt (aT A) p' - 1) * w.toInt ≤ 1000 * w.toInt := Int.mul_le_mul_of_nonneg_right gl.2 (by omega)
    omega
  · simp only [Int32.le_iff_toInt_le, Int32.lt_iff_toInt_lt, Int64.le_iff_toInt_le, Int64.lt_iff_toInt_lt, Int32.toInt_toInt64, i32eq, i64eq, Int32.reduceToInt, Int64.reduceToInt, Int32.reduceOfInt] at d3
    omega
  · simp only [Int32.le_iff_toInt_le, Int32.lt_iff_toInt_lt, Int64.le_iff_toInt_le, Int64.lt_iff_toInt_lt, Int32.toInt_toInt64, i32eq, i64eq, Int32.reduceToInt, Int64.reduceToInt, Int32.reduceOfInt] at d2
    omega
  · omega
end STT
