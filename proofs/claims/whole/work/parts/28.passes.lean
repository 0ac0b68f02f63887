/-! Stuff.passes: one part gone through by the class is stepS. -/
theorem press_bound {F O O2 F2 : Nat → Int} {u w b : Int} {i j : Nat} (hw : 0 < w) (hw2 : w ≤ 10000000) (hu0 : 0 ≤ u) (hu1 : u ≤ 1000 * w) (dF : 0 < F (i + 1) - F i) (dF2 : F (i + 1) - F i ≤ 1000) (dO2 : O2 (j + 1) - O2 j ≤ 1000) (hbj : btw O2 (bN F O u w i) (bD F w i) j) (p0 : 0 ≤ F2 j) (p1 : F2 j ≤ F2 (j + 1)) (p2 : F2 (j + 1) ≤ 1000) (hb : 1 ≤ b) (hb2 : b ≤ 100) : (pN F O O2 F2 u w b i j).natAbs ≤ 3000000000000000000 ∧ 0 < pD F O2 w b i j ∧ pD F O2 w b i j ≤ 1000000000000000 := by
  have dO : 0 < O2 (j + 1) - O2 j := by have := hbj.1; omega
  have kp : 0 < kk2 F O2 i j := Int.mul_pos dO dF
  have kn : (kk2 F O2 i j).natAbs ≤ 1000 * 1000 := nm_le (by omega) (by omega)
  have Kp : 0 < kk2 F O2 i j * w := Int.mul_pos kp hw
  have Kn : (kk2 F O2 i j * w).natAbs ≤ 1000 * 1000 * 10000000 := nm_le kn (by omega)
  have hB := bN_le (g := F2) hbj p1
  have hD := hD_k F O2 w i j
  have hDe : bD O2 (bD F w i) j = kk2 F O2 i j * w := hD
  rw [hDe] at hB
  have t1 : 0 ≤ F2 j * (kk2 F O2 i j * w) := Int.mul_nonneg p0 (by omega)
  have t2 : F2 (j + 1) * (kk2 F O2 i j * w) ≤ 1000 * (kk2 F O2 i j * w) := Int.mul_le_mul_of_nonneg_right p2 (by omega)
  have A0 : 0 ≤ u * kk2 F O2 i j := Int.mul_nonneg hu0 (by omega)
  have A1 : u * kk2 F O2 i j ≤ 1000 * w * kk2 F O2 i j := Int.mul_le_mul_of_nonneg_right hu1 (by omega)
  have A2 : 1000 * w * kk2 F O2 i j = 1000 * (kk2 F O2 i j * w) := by rw [Int.mul_assoc, Int.mul_comm w]
  have Z := nm_le (a := u * kk2 F O2 i j) (b := b) (A := 10000000000000000) (B := 100) (by omega) (by omega)
  refine ⟨?_, ?_, ?_⟩
  · unfold pN hNn
    omega
  · unfold pD
    rw [hD]
    exact Int.mul_pos Kp (by omega)
  · have W := nm_le (a := kk2 F O2 i j * w) (b := b) (A := 10000000000000) (B := 100) (by omega) (by omega)
    unfold pD
    rw [hD]
    omega
theorem raw0_none {t : TBT} {a b : Int} {s : PST} (h : ¬ (0 ≤ a ∧ a < tnp t ∧ (s.1 : Int) < a)) : rawS t 0 a b s = none := by
  unfold rawS
  rw [if_pos rfl, if_neg h]
theorem raw0_none2 {t : TBT} {a : Nat} {b : Int} {s : PST} {i : Nat} (h1 : a < tnp t) (h2 : s.1 < a) (hi : fs (tF t s.1) s.2.1 s.2.2 0 (tpt t s.1) = some i) (hj : fs (tO t a) (bN (tF t s.1) (tO t s.1) s.2.1 s.2.2 i) (bD (tF t s.1) s.2.2 i) 0 (tpt t a) = none) : rawS t 0 (a : Int) b s = none := by
  unfold rawS
  rw [if_pos rfl, if_pos ⟨by omega, by omega, by omega⟩, hi, Int.toNat_natCast]
  simp only [hj]
theorem raw0_some {t : TBT} {a : Nat} {b : Int} {s : PST} {i j : Nat} (h1 : a < tnp t) (h2 : s.1 < a) (hi : fs (tF t s.1) s.2.1 s.2.2 0 (tpt t s.1) = some i) (hj : fs (tO t a) (bN (tF t s.1) (tO t s.1) s.2.1 s.2.2 i) (bD (tF t s.1) s.2.2 i) 0 (tpt t a) = some j) : rawS t 0 (a : Int) b s = some (a, rU (pN (tF t s.1) (tO t s.1) (tO t a) (tF t a) s.2.1 s.2.2 b i j) (pD (tF t s.1) (tO t a) s.2.2 b i j), rL (pN (tF t s.1) (tO t s.1) (tO t a) (tF t a) s.2.1 s.2.2 b i j) (pD (tF t s.1) (tO t a) s.2.2 b i j)) := by
  unfold rawS
  rw [if_pos rfl, if_pos ⟨by omega, by omega, by omega⟩, hi, Int.toNat_natCast]
  simp only [hj]
theorem raw1_none {t : TBT} {a b : Int} {s : PST} (h : ¬ (0 ≤ a ∧ a < tnp t ∧ a < (s.1 : Int))) : rawS t 1 a b s = none := by
  unfold rawS
  rw [if_neg (by decide), if_pos rfl, if_neg h]
theorem raw1_some {t : TBT} {a : Nat} {b : Int} {s : PST} (h1 : a < tnp t) (h2 : a < s.1) : rawS t 1 (a : Int) b s = some (a, s.2.1, s.2.2) := by
  unfold rawS
  rw [if_neg (by decide), if_pos rfl, if_pos ⟨by omega, by omega, by omega⟩, Int.toNat_natCast]
theorem raw2_0 {t : TBT} {b : Int} {s : PST} : rawS t 2 0 b s = some (s.1, tF t s.1 0, 1) := by
  unfold rawS
  rw [if_neg (by decide), if_neg (by decide), if_pos rfl, if_pos rfl]
theorem raw2_1 {t : TBT} {a b : Int} {s : PST} (h0 : a ≠ 0) (h1 : ¬ (a = 2 ∧ 0 < b)) : rawS t 2 a b s = some (s.1, tF t s.1 1, 1) := by
  unfold rawS
  rw [if_neg (by decide), if_neg (by decide), if_pos rfl, if_neg h0, if_neg h1]
theorem raw2_some {t : TBT} {b : Int} {s : PST} {i : Nat} (h1 : 0 < b) (hi : fs (tW t s.1) (tW t s.1 1 + b) 1 1 (tpt t s.1) = some i) : rawS t 2 2 b s = some (s.1, rU (bN (tW t s.1) (tF t s.1) (tW t s.1 1 + b) 1 i) (bD (tW t s.1) 1 i), rL (bN (tW t s.1) (tF t s.1) (tW t s.1 1 + b) 1 i) (bD (tW t s.1) 1 i)) := by
  unfold rawS
  rw [if_neg (by decide), if_neg (by decide), if_pos rfl, if_neg (by decide), if_pos ⟨rfl, h1⟩, hi]
theorem raw2_none {t : TBT} {b : Int} {s : PST} (h1 : 0 < b) (hi : fs (tW t s.1) (tW t s.1 1 + b) 1 1 (tpt t s.1) = none) : rawS t 2 2 b s = none := by
  unfold rawS
  rw [if_neg (by decide), if_neg (by decide), if_pos rfl, if_neg (by decide), if_pos ⟨rfl, h1⟩, hi]
theorem raw3_some {t : TBT} {a b : Int} {s : PST} (h : wN (tF t s.1) (rU (s.2.1 + a * s.2.2) s.2.2) (rL (s.2.1 + a * s.2.2) s.2.2) * 100 ≤ b * ((tF t s.1 1 - tF t s.1 0) * rL (s.2.1 + a * s.2.2) s.2.2)) : rawS t 3 a b s = some (s.1, rU (s.2.1 + a * s.2.2) s.2.2, rL (s.2.1 + a * s.2.2) s.2.2) := by
  unfold rawS
  rw [if_neg (by decide), if_neg (by decide), if_neg (by decide), if_pos h]
theorem raw3_none {t : TBT} {a b : Int} {s : PST} (h : ¬ wN (tF t s.1) (rU (s.2.1 + a * s.2.2) s.2.2) (rL (s.2.1 + a * s.2.2) s.2.2) * 100 ≤ b * ((tF t s.1 1 - tF t s.1 0) * rL (s.2.1 + a * s.2.2) s.2.2)) : rawS t 3 a b s = none := by
  unfold rawS
  rw [if_neg (by decide), if_neg (by decide), if_neg (by decide), if_neg h]
section PASS2
variable {Q : Option Value → HP → Prop} {bc bs : Nat} {h : HP}
set_option maxHeartbeats 2000000 in
theorem sp_passes {t : TBT} {rg x o i : Nat} {r : RGT} {s : PST} (hs : Str h) (tc : TC h t) (tg : TG t) (rk_ : RK h rg) (rr : RG h rg r) (hi : i < 12) (ib : IB (rk r i) ∧ IB (ra r i) ∧ IB (rb r i)) (pg : PG (rk r i) (ra r i) (rb r i)) (kx : SK h x) (sa : SA h x s) (sg : SG t s) (ko : SK h o) (nx : x ≠ o) (x5 : 5 < x) (o5 : 5 < o) (o139 : o < 139) (nr : o ≠ rg + 1 ∧ o ≠ rg + 2 ∧ o ≠ rg + 3)
    (y : ∀ h' s', stepS t (rk r i) (ra r i) (rb r i) s = some s' → Fr (fun q => q = o) (fun q => q = 4 ∨ q = 5 ∨ q = o + 1) h h' → SA h' o s' → Q (some (.int (1 : Int32))) h')
    (n : ∀ h', stepS t (rk r i) (ra r i) (rb r i) s = none → Fr (fun q => q = o) (fun q => q = 4 ∨ q = 5 ∨ q = o + 1) h h' → Q (some (.int (0 : Int32))) h') :
    X 25 Q bc bs 0 [.ref 2, .ref rg, .int (nI i), .ref x, .ref o, UU, UU, UU, UU] [] h := by
  obtain ⟨ek, ea, eb⟩ := rr.2 i hi
  have ci : (nI i).toNatClampNeg = i := nI_clamp (by omega)
  have k2 : kd h 2 = 5 := hs.k 2 (by decide) (by decide)
  obtain ⟨⟨g1, g2, g3, g4⟩, ⟨g5, g6⟩, ⟨g7, g8⟩, g9, g10⟩ := rk_
  have vi : ∀ {a : Nat}, zl h a = 12 → vp_in (nI i) (zl h a) := fun e => by rw [e]; exact vp_in_nI hi (by omega)
  obtain ⟨ibk, iba, ibb⟩ := ib
  generalize rk r i = k at ek ibk pg y n
  generalize ra r i = a at ea iba pg y n
  generalize rb r i = b at eb ibb pg y n
  obtain ⟨u0, u1⟩ := SG_b tg sg
  obtain ⟨sp, sw, sw2, sc, sl, sr⟩ := sg
  have gp := tg.2 s.1 sp
  have j7 : JB 10000000 := by unfold JB; omega
  have i0 : IB 0 := by unfold IB; omega
  have i1 : IB 1 := by unfold IB; omega
  have i2 : IB 2 := by unfold IB; omega
  have tail : ∀ (p2 T1 T2 : Nat) (h2 : HP) (x8 : Int32) (u' w' : Int), Fr (fun q => q = o) (fun q => q = 4 ∨ q = 5 ∨ q = o + 1) h h2 → hI h2 o 1 = nI p2 → p2 < tnp t → TCp h2 t p2 T2 → RA h2 (o + 1) u' w' → 0 < w' → JB u' → JB w' → rawS t k a b s = some (p2, u', w') → X 25 Q bc bs 268 [.ref 2, .ref rg, .int (nI i), .ref x, .ref o, .int (io k), .ref T1, .ref T2, .int x8] [] h2 := by
    intro p2 T1 T2 h2 x8 u' w' f e1 hp c2 hra hw ju jw raw
    have gp2 := tg.2 p2 hp
    have ko2 := SK_fr f ko
    refine b25_268 ko2.1 ko2.2.1 ko2.2.2 (fun c => b25_311 (n _ (stepS_bad raw ?_) f)) (fun c => b25_283 ko2.1 ko2.2.1 ko2.2.2 c2.2.2.1 ?_)
    · rw [hra.2, lg_cmp_gt, show (10000000 : Int64) = jo 10000000 from rfl, jo_lt j7 jw] at c
      rw [okS_iff]
      intro q
      have q1 : w' ≤ 10000000 := q.1
      omega
    · rw [hra.2, lg_cmp_gt, show (10000000 : Int64) = jo 10000000 from rfl, jo_lt j7 jw] at c
      rw [hra.1, hra.2]
      refine sp_holds (n := tpt t p2) (f := tF t p2) c2.2.2.1 c2.2.2.2.1 c2.2.2.2.2.2.2.1 gp2.1 gp2.2.1 c2.2.2.2.2.2.2.2.1 ju (by omega) jw (fun q => b25_304 (fun d => absurd d (by decide)) (fun _ => b25_307 (y _ _ (stepS_some raw (okS_iff.mpr ⟨?_, q.2.1, q.2.2⟩)) f ⟨e1, hra⟩))) (fun q => b25_304 (fun _ => b25_311 (n _ (stepS_bad raw (fun z => q ?_)) f)) (fun d => absurd rfl d))
      · show w' ≤ 10000000
        omega
      · have z2 := okS_iff.mp z
        exact ⟨hw, z2.2.1, z2.2.2⟩
  have both : ∀ (pv : Int32), (¬ (0 ≤ pv.toInt ∧ pv.toInt < tnp t) → stepS t k a b s = none) → (∀ p2 : Nat, pv = nI p2 → p2 < tnp t → (k = 0 ∨ k = 1 → a = p2) ∧ (k = 2 ∨ k = 3 → p2 = s.1)) →
      X 24 (fun v h1 => X 25 Q bc bs 42 [.ref 2, .ref rg, .int (nI i), .ref x, .ref o, .int (io k), UU, UU, UU] (v.toList ++ []) h1) 0 0 0 [.ref 2, .int (hI (sI h o 1 pv) x 1)] [] (sI h o 1 pv) := by
    intro pv hn hp
    have f1 : Fr (fun q => q = o) (fun q => q = 4 ∨ q = 5 ∨ q = o + 1) h (sI h o 1 pv) := Fr.sI' Fr.rfl' rfl
    have tc1 := TC_fr f1 (fun b q (e : b = o) => by omega) (fun (e : 2 = o) => by omega) tc
    have hs1 := f1.str hs
    have ex : hI (sI h o 1 pv) x 1 = nI s.1 := by
      rw [hI_sI, if_neg nx]
      exact sa.1
    have eo : hI (sI h o 1 pv) o 1 = pv := by simp [hI_sI]
    have ea1 : hI (sI h o 1 pv) (rg + 2) i = io a := by
      rw [hI_sI, if_neg (fun e => nr.2.1 e.symm)]
      exact ea
    have eb1 : hI (sI h o 1 pv) (rg + 3) i = io b := by
      rw [hI_sI, if_neg (fun e => nr.2.2 e.symm)]
      exact eb
    have sp10 : s.1 < 2 ^ 31 := by have := tg.1; omega
    rw [ex]
    refine sp_tab hs1 tc1 tg.1 (fun p' T1 e1 hp1 c1 => ?_) (fun q => absurd (by rw [nI_toInt sp10]; omega) q)
    have e1' : p' = s.1 := ((nI_eq sp10 (by have := tg.1; omega)).mp e1).symm
    subst e1'
    refine b25_42b ko.1 k2 ?_
    rw [eo]
    refine sp_tab hs1 tc1 tg.1 (fun p2 T2 e2 hp2 c2 => ?_) (fun q => b25_53c (n _ (hn q) f1))
    obtain ⟨ha, hss⟩ := hp p2 e2 hp2
    subst e2
    have gp2 := tg.2 p2 hp2
    have p10 : p2 < 2 ^ 31 := by have := tg.1; omega
    have rx : RA (sI h o 1 (nI p2)) (x + 1) s.2.1 s.2.2 := sa.2
    refine b25_53d (fun c => ?_) (fun c => ?_) (fun c => ?_) (fun c0 c1' c2' => ?_)
    · have k0 : k = 0 := (io_eq ibk i0).mp c
      have hap : a = p2 := ha (Or.inl k0)
      subst k0
      subst hap
      have pb : 1 ≤ b ∧ b ≤ 100 := by unfold PG at pg; omega
      refine b25_96 ko.1 kx.1 (fun c => b25_138 (fun _ => b25_311 (n _ (stepS_none (raw0_none ?_)) f1)) (fun d => absurd rfl d)) (fun c => b25_108 g1 g4 g9 (vi g10) kx.1 kx.2.1 ko.1 ko.2.1 k2 ?_)
      · rw [eo, ex, nI_leI p10 sp10] at c
        omega
      · rw [eo, ex, nI_leI p10 sp10] at c
        rw [ci, eb1]
        have hex := btw_ex (tpt t s.1) gp.1 (fun i hi => (gp.2.2.2.1 i hi).1) sl sr
        refine sp_press (F := tF t s.1) (O := tO t s.1) (O2 := tO t p2) (F2 := tF t p2) (u := s.2.1) (w := s.2.2) (ai := 4) (mo := 5) k2 (hs1.r 2 1 (by decide)) (hs1.r 2 2 (by decide)) (hs1.k 4 (by decide) (by decide)) (hs1.k 5 (by decide) (by decide)) kx.2.2 ko.2.2 c1.2.2.1 c1.2.2.2.1 c1.2.2.2.2.1 c1.2.2.2.2.2.2.1 gp.2.1 c1.2.2.2.2.2.2.2.1 c1.2.2.2.2.2.2.2.2.1 c2.2.2.1 c2.2.2.2.2.1 c2.2.2.2.1 c2.2.2.2.2.2.2.1 gp2.2.1 c2.2.2.2.2.2.2.2.2.1 c2.2.2.2.2.2.2.2.1 (by omega) (by omega) rx sw sw2 u0 u1 hex (fun i hi => (gp.2.2.1 i hi).1.1) (fun i hi => (gp.2.2.1 i hi).2.1.1) (fun i hi => by have := (gp.2.2.2.1 i hi).2.1; omega) (fun i hi => (gp2.2.2.1 i hi).1.1) (fun i hi => by have := (gp2.2.2.2.1 i hi).1; omega) (fun i hi => (gp2.2.2.1 i hi).2.1.1) pb.1 pb.2 (fun i' j h' hi' hbi hfi hj hbj hfj fr ro => ?_) (fun i' h' hi' hbi hfi hno fr => ?_)
        · have q1 := (gp.2.2.1 i' (by omega)).1
          have q2 := (gp.2.2.1 (i' + 1) (by omega)).1
          have q3 := (gp.2.2.2.1 i' hi').1
          have q4 := (gp2.2.2.1 j (by omega))
          have q5 := (gp2.2.2.1 (j + 1) (by omega))
          have q6 := (gp2.2.2.2.1 j hj).1
          have pbd := press_bound (F := tF t s.1) (O := tO t s.1) (O2 := tO t p2) (F2 := tF t p2) (b := b) (i := i') (j := j) sw sw2 u0 u1 (by omega) (by omega) (by omega) hbj (by omega) (by omega) (by omega) pb.1 pb.2
          have le := r_le (u := pN (tF t s.1) (tO t s.1) (tO t p2) (tF t p2) s.2.1 s.2.2 b i' j) pbd.2.1
          have lp := rL_pos (u := pN (tF t s.1) (tO t s.1) (tO t p2) (tF t p2) s.2.1 s.2.2 b i' j) pbd.2.1
          have f2 : Fr (fun q => q = o) (fun q => q = 4 ∨ q = 5 ∨ q = o + 1) h h' := f1.trans' (fr.weak (fun _ q => absurd q id) (fun _ q => q))
          refine b25_131 (fun d => absurd d (by decide)) (fun _ => b25_134 (fun d => absurd d (by decide)) (fun _ => ?_))
          refine tail p2 T1 T2 h' 1 _ _ f2 ?_ hp2 (TCp_fr fr (fun _ _ q => q) c2) ro lp (JBn (by omega)).1 (by unfold JB; omega) (raw0_some hp2 (by omega) (fs_some (Nat.zero_le _) hi' hbi (fun j' _ => hfi j')) (fs_some (Nat.zero_le _) hj hbj (fun j' _ => hfj j')))
          rw [fr.2.2.1 o id]
          exact eo
        · have f2 : Fr (fun q => q = o) (fun q => q = 4 ∨ q = 5 ∨ q = o + 1) h h' := f1.trans' (fr.weak (fun _ q => absurd q id) (fun _ q => q))
          refine b25_131 (fun _ => b25_138 (fun _ => b25_311 (n _ (stepS_none (raw0_none2 hp2 (by omega) (fs_some (Nat.zero_le _) hi' hbi (fun j' _ => hfi j')) (fs_none (fun j' _ => hno j')))) f2)) (fun d => absurd rfl d)) (fun d => absurd rfl d)
    · have k0 : k = 1 := (io_eq ibk i1).mp c
      have hap : a = p2 := ha (Or.inr k0)
      subst k0
      subst hap
      refine b25_144 ko.1 kx.1 (fun c => b25_160 ko.1 ko.2.1 kx.1 kx.2.1 ko.2.2 (sp_copy ko.2.2 kx.2.2 rx ?_)) (fun c => b25_156 ko.1 ko.2.1 kx.1 kx.2.1 ko.2.2 (sp_copy ko.2.2 kx.2.2 rx ?_))
      · rw [eo, ex, nI_leI sp10 p10] at c
        refine b25_175 (fun _ => b25_311 (n _ (stepS_none (raw1_none (by omega))) (Fr.wR' f1 (Or.inr (Or.inr rfl))))) (fun d => absurd rfl d)
      · rw [eo, ex, nI_leI sp10 p10] at c
        have f2 : Fr (fun _ => False) (fun q => q = 4 ∨ q = 5 ∨ q = o + 1) (sI h o 1 (nI p2)) (wR (sI h o 1 (nI p2)) (o + 1) s.2.1 s.2.2) := Fr.wR' Fr.rfl' (Or.inr (Or.inr rfl))
        refine b25_175 (fun d => absurd d (by decide)) (fun _ => tail p2 T1 T2 _ 1 s.2.1 s.2.2 (Fr.wR' f1 (Or.inr (Or.inr rfl))) ?_ hp2 (TCp_fr f2 (fun _ _ q => q) c2) RA_wR sw (JBn (by omega)).1 (JBn (by omega)).1 (raw1_some hp2 (by omega)))
        exact eo
    · have k0 : k = 2 := (io_eq ibk i2).mp c
      have hap : p2 = s.1 := hss (Or.inl k0)
      subst k0
      subst hap
      have pa : 0 ≤ a ∧ a ≤ 2 ∧ (a = 2 → 0 ≤ b ∧ b ≤ 1000) := by unfold PG at pg; omega
      refine b25_178 g1 g3 g7 (vi g8) g4 g9 (vi g10) ko.1 ko.2.1 k2 ?_
      rw [ci, ea1, eb1]
      have fw : ∀ {h' : HP}, Fr (fun _ => False) (fun q => q = 4 ∨ q = o + 1) (sI h o 1 (nI s.1)) h' → Fr (fun q => q = o) (fun q => q = 4 ∨ q = 5 ∨ q = o + 1) h h' := fun fr => f1.trans' (fr.weak (fun _ q => absurd q id) (fun _ q => by omega))
      have eo' : ∀ {h' : HP}, Fr (fun _ => False) (fun q => q = 4 ∨ q = o + 1) (sI h o 1 (nI s.1)) h' → hI h' o 1 = nI s.1 := fun fr => by
        rw [fr.2.2.1 o id]
        exact eo
      have F0 := (gp.2.2.1 0 (by have := gp.1; omega)).1
      have F1 := (gp.2.2.1 1 (by have := gp.1; omega)).1
      refine sp_coil (F := tF t s.1) (Wm := tW t s.1) (ai := 4) (n := tpt t s.1) k2 (hs1.r 2 1 (by decide)) (hs1.k 4 (by decide) (by decide)) ko.2.2 c2.2.2.1 c2.2.2.2.1 c2.2.2.2.2.2.1 c2.2.2.2.2.2.2.1 gp.1 gp.2.1 c2.2.2.2.2.2.2.2.1 c2.2.2.2.2.2.2.2.2.2 (fun e => by have := pa.2.2 e; omega) iba ibb (fun h' fr e ro => ?_) (fun h' fr e e2 ro => ?_) (fun h' i' fr e e2 e3 e4 e5 e6 ro => ?_) (fun h' fr e e2 hno => ?_)
      · subst e
        refine b25_201 (fun d => absurd d (by decide)) (fun _ => tail s.1 T1 T2 _ 1 _ _ (fw fr) (eo' fr) hp2 (TCp_fr fr (fun _ _ q => q) c2) ro (by decide) (by unfold JB; omega) (by unfold JB; omega) raw2_0)
      · refine b25_201 (fun d => absurd d (by decide)) (fun _ => tail s.1 T1 T2 _ 1 _ _ (fw fr) (eo' fr) hp2 (TCp_fr fr (fun _ _ q => q) c2) ro (by decide) (by unfold JB; omega) (by unfold JB; omega) (raw2_1 e e2))
      · subst e
        have w0 := (gp.2.2.1 i' (by omega)).2.2
        have w1 := (gp.2.2.1 (i' + 1) (by omega)).2.2
        have v0 := (gp.2.2.1 i' (by omega)).1
        have v1 := (gp.2.2.1 (i' + 1) (by omega)).1
        have vm := (gp.2.2.2.1 i' e4).1
        have dp : 0 < bD (tW t s.1) 1 i' := by
          have := e5.1
          unfold bD
          omega
        have dl : bD (tW t s.1) 1 i' ≤ 1200 := by
          unfold bD
          omega
        have hB := bN_le (g := tF t s.1) e5 (by omega)
        have t1 : 0 ≤ tF t s.1 i' * bD (tW t s.1) 1 i' := Int.mul_nonneg v0.1 (by omega)
        have t2 : tF t s.1 (i' + 1) * bD (tW t s.1) 1 i' ≤ 1000 * bD (tW t s.1) 1 i' := Int.mul_le_mul_of_nonneg_right v1.2 (by omega)
        have le := r_le (u := bN (tW t s.1) (tF t s.1) (tW t s.1 1 + b) 1 i') dp
        have lp := rL_pos (u := bN (tW t s.1) (tF t s.1) (tW t s.1 1 + b) 1 i') dp
        refine b25_201 (fun d => absurd d (by decide)) (fun _ => tail s.1 T1 T2 _ 1 _ _ (fw fr) (eo' fr) hp2 (TCp_fr fr (fun _ _ q => q) c2) ro lp (JBn (by omega)).1 (by unfold JB; omega) (raw2_some e2 (fs_some e3 e4 e5 e6)))
      · subst e
        exact b25_201 (fun _ => b25_311 (n _ (stepS_none (raw2_none e2 (fs_none hno))) (fw fr))) (fun d => absurd rfl d)
    · have k0 : k = 3 := by
        have n0 : k ≠ 0 := fun e => c0 (by rw [e]; rfl)
        have n1 : k ≠ 1 := fun e => c1' (by rw [e]; rfl)
        have n2 : k ≠ 2 := fun e => c2' (by rw [e]; rfl)
        unfold PG at pg
        omega
      have hap : p2 = s.1 := hss (Or.inr k0)
      subst k0
      subst hap
      have pa : -1000 ≤ a ∧ a ≤ 1000 ∧ 0 ≤ b ∧ b ≤ 100 := by unfold PG at pg; omega
      refine b25_206 ko.1 ko.2.1 kx.1 kx.2.1 kx.2.2 g1 g3 g7 (vi g8) ko.2.2 ?_
      rw [ci, ea1, rx.1, rx.2, i2l_jo iba, jo_mul, jo_add]
      have aw := nm_le (a := a) (b := s.2.2) (A := 1000) (B := s.2.2.natAbs) (by omega) (Nat.le_refl _)
      have un : (s.2.1 + a * s.2.2).natAbs ≤ 2000 * s.2.2.natAbs := by
        generalize a * s.2.2 = z at aw
        omega
      refine sp_put ko.2.2 (JBn (by omega)).1 (by omega) sw (JBn (by omega)).1 ?_
      have le := r_le (u := s.2.1 + a * s.2.2) sw
      have lp := rL_pos (u := s.2.1 + a * s.2.2) sw
      have lb := r_bound (u := s.2.1 + a * s.2.2) sw un
      have f2 : Fr (fun q => q = o) (fun q => q = 4 ∨ q = 5 ∨ q = o + 1) h (wR (sI h o 1 (nI s.1)) (o + 1) (rU (s.2.1 + a * s.2.2) s.2.2) (rL (s.2.1 + a * s.2.2) s.2.2)) := Fr.wR' f1 (Or.inr (Or.inr rfl))
      have f2' : Fr (fun _ => False) (fun q => q = 4 ∨ q = 5 ∨ q = o + 1) (sI h o 1 (nI s.1)) (wR (sI h o 1 (nI s.1)) (o + 1) (rU (s.2.1 + a * s.2.2) s.2.2) (rL (s.2.1 + a * s.2.2) s.2.2)) := Fr.wR' Fr.rfl' (Or.inr (Or.inr rfl))
      have c3 := TCp_fr f2' (fun _ _ q => q) c2
      refine b25_244 g1 g4 g9 (vi g10) ko.1 ko.2.1 k2 ?_
      rw [ci, show hI (wR (sI h o 1 (nI s.1)) (o + 1) (rU (s.2.1 + a * s.2.2) s.2.2) (rL (s.2.1 + a * s.2.2) s.2.2)) (rg + 3) i = io b from eb1]
      refine sp_dry (f := tF t s.1) (mo := 5) (n := tpt t s.1) (u := rU (s.2.1 + a * s.2.2) s.2.2) (w := rL (s.2.1 + a * s.2.2) s.2.2) k2 (hs1.r 2 2 (by decide)) (hs1.k 5 (by decide) (by decide)) c3.2.2.1 c3.2.2.2.1 gp.1 c3.2.2.2.2.2.2.2.1 ko.2.2 RA_wR lp (by omega) (by omega) (gp.2.2.2.1 0 (by have := gp.1; omega)).1 pa.2.2.1 pa.2.2.2 (fun h' fr e => ?_) (fun h' fr e => ?_)
      · have f3 : Fr (fun q => q = o) (fun q => q = 4 ∨ q = 5 ∨ q = o + 1) h h' := f2.trans' (fr.weak (fun _ q => absurd q id) (fun _ q => Or.inr (Or.inl q)))
        refine b25_261 (fun d => absurd d (by decide)) (fun _ => tail s.1 T1 T2 _ 1 _ _ f3 ?_ hp2 (TCp_fr fr (fun _ _ q => q) c3) (RA_fr fr (fun e => by omega) RA_wR) lp (JBn (by omega)).1 (by unfold JB; omega) (raw3_some e))
        rw [fr.2.2.1 o id]
        exact eo
      · have f3 : Fr (fun q => q = o) (fun q => q = 4 ∨ q = 5 ∨ q = o + 1) h h' := f2.trans' (fr.weak (fun _ q => absurd q id) (fun _ q => Or.inr (Or.inl q)))
        exact b25_261 (fun _ => b25_311 (n _ (stepS_none (raw3_none e)) f3)) (fun d => absurd rfl d)
  refine b25_0 g1 g2 g5 (vi g6) ?_
  rw [ci, ek]
  refine sp_69 (fun c => b25_15 (fun d => absurd d (by decide)) (fun _ => b25_18 g1 g3 g7 (vi g8) ko.1 kx.1 k2 ?_)) (fun c => b25_15 (fun _ => b25_27 kx.1 ko.1 k2 ?_) (fun d => absurd rfl d))
  · rw [ci, ea]
    have kk : k = 0 ∨ k = 1 := by
      rcases c with c | c
      · exact Or.inl ((io_eq ibk i0).mp c)
      · exact Or.inr ((io_eq ibk i1).mp c)
    refine both (io a) (fun q => ?_) (fun p2 e hp2 => ⟨fun _ => ?_, fun q => absurd q (by omega)⟩)
    · rw [io_toInt iba] at q
      rcases kk with rfl | rfl
      · exact stepS_none (raw0_none (fun z => q ⟨z.1, z.2.1⟩))
      · exact stepS_none (raw1_none (fun z => q ⟨z.1, z.2.1⟩))
    · rw [nI_io] at e
      exact (io_eq iba (by have := tg.1; unfold IB; omega)).mp e
  · rw [sa.1]
    have kk : ¬ (k = 0 ∨ k = 1) := by
      rintro (rfl | rfl)
      · exact c (Or.inl rfl)
      · exact c (Or.inr rfl)
    refine both (nI s.1) (fun q => absurd ?_ q) (fun p2 e hp2 => ⟨fun q => absurd q kk, fun _ => ?_⟩)
    · rw [nI_toInt (by have := tg.1; omega)]
      omega
    · exact ((nI_eq (by have := tg.1; omega) (by have := tg.1; omega)).mp e).symm
end PASS2
