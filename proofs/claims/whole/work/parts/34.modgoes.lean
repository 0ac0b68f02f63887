/-! The reference: presses, warms, goes are rawS. -/
def RM (h : HP) (r : RGT) : Prop := hI h 115 11 = nI (rn r) ∧ ∀ i, i < 12 → hI h 123 i = io (rk r i) ∧ hI h 124 i = io (ra r i) ∧ hI h 125 i = io (rb r i)
def MG (h h' : HP) : Prop := Fr (fun _ => False) (fun q => q = 115) h h' ∧ ∀ i, i ≠ 9 → i ≠ 10 → hJ h' 115 i = hJ h 115 i
theorem MG.rfl' {h : HP} : MG h h := ⟨Fr.rfl', fun _ _ _ => rfl⟩
theorem MG.gw' {h h1 : HP} (a : MG h h1) {u w : Int} : MG h (gw h1 u w) := ⟨Fr.sJ' (Fr.sJ' a.1 rfl) rfl, fun i h1 h2 => by
  unfold gw
  rw [hJ_sJ, if_pos rfl, if_neg h2, hJ_sJ, if_pos rfl, if_neg h1]
  exact a.2 i h1 h2⟩
theorem MG.trans' {h h1 h2 : HP} (a : MG h h1) (b : MG h1 h2) : MG h h2 := ⟨a.1.trans' b.1, fun i q1 q2 => (b.2 i q1 q2).trans (a.2 i q1 q2)⟩
theorem TM_fr {SI SJ : Nat → Prop} {h h1 : HP} (f : Fr SI SJ h h1) (hs : ∀ q, 115 ≤ q → q ≤ 122 → ¬ SI q) {t : TBT} (c : TM h t) : TM h1 t := by
  refine ⟨by rw [f.2.2.1 115 (hs _ (by omega) (by omega))]; exact c.1, fun p hp => ⟨by rw [f.2.2.1 119 (hs _ (by omega) (by omega))]; exact (c.2 p hp).1, fun i hi => ?_⟩⟩
  rw [f.2.2.1 120 (hs _ (by omega) (by omega)), f.2.2.1 121 (hs _ (by omega) (by omega)), f.2.2.1 122 (hs _ (by omega) (by omega))]
  exact (c.2 p hp).2 i hi
theorem RM_fr {SI SJ : Nat → Prop} {h h1 : HP} (f : Fr SI SJ h h1) (h0 : ¬ SI 115) (hs : ∀ q, 123 ≤ q → q ≤ 125 → ¬ SI q) {r : RGT} (c : RM h r) : RM h1 r := by
  refine ⟨by rw [f.2.2.1 115 h0]; exact c.1, fun i hi => ?_⟩
  rw [f.2.2.1 123 (hs _ (by omega) (by omega)), f.2.2.1 124 (hs _ (by omega) (by omega)), f.2.2.1 125 (hs _ (by omega) (by omega))]
  exact c.2 i hi
theorem raw_p {t : TBT} {k a b : Int} {s r : PST} (h : rawS t k a b s = some r) : (r.1 : Int) = if k = 0 ∨ k = 1 then a else s.1 := by
  unfold rawS at h
  split at h
  · rename_i k0
    rw [if_pos (Or.inl k0)]
    split at h
    · rename_i c
      split at h
      · cases h
      · split at h
        · cases h
        · cases h
          show (a.toNat : Int) = a
          omega
    · cases h
  · rename_i k0
    split at h
    · rename_i k1
      rw [if_pos (Or.inr k1)]
      split at h
      · rename_i c
        cases h
        show (a.toNat : Int) = a
        omega
      · cases h
    · rename_i k1
      rw [if_neg (fun q => q.elim k0 k1)]
      split at h
      · split at h
        · cases h; rfl
        · split at h
          · split at h
            · cases h
            · cases h; rfl
          · cases h; rfl
      · split at h
        · cases h; rfl
        · cases h
section MOD2
variable {Q : Option Value → HP → Prop} {bc bs : Nat} {h : HP}
set_option maxHeartbeats 1000000 in
theorem sp_presses {t : TBT} {i : Nat} {r : RGT} {s : PST} {a b : Int} (hs : Str h) (tm : TM h t) (tg : TG t) (hi : i < 12) (ea : hI h 124 i = io a) (eb : hI h 125 i = io b) (pa : 0 ≤ a ∧ a ≤ 9) (pb : 1 ≤ b ∧ b ≤ 100) (sg : SG t s)
    (y : ∀ h' r', rawS t 0 a b s = some r' → MG h h' → hJ h' 115 9 = jo r'.2.1 → hJ h' 115 10 = jo r'.2.2 → JB r'.2.1 → JB r'.2.2 → Q (some (.int (1 : Int32))) h')
    (n : ∀ h', rawS t 0 a b s = none → MG h h' → Q (some (.int (0 : Int32))) h') :
    X 92 Q bc bs 0 [.ref 115, .int (nI i), .int (nI s.1), .long (jo s.2.1), UU, .long (jo s.2.2), UU, UU, UU, UU, UU, UU, UU] [] h := by
  have h10 := tg.1
  obtain ⟨u0, u1⟩ := SG_b tg sg
  obtain ⟨sp, sw, sw2, sc, sl, sr⟩ := sg
  have gp := tg.2 s.1 sp
  have gn2 := gp.1
  have gn8 := gp.2.1
  have k115 : kd h 115 = 9 := hs.k 115 (by decide) (by decide)
  have k120 : kd h 120 = 10 := hs.k 120 (by decide) (by decide)
  have z120 : zl h 120 = 80 := hs.z 120 (by decide) (by decide)
  have k121 : kd h 121 = 10 := hs.k 121 (by decide) (by decide)
  have z121 : zl h 121 = 80 := hs.z 121 (by decide) (by decide)
  have k124 : kd h 124 = 10 := hs.k 124 (by decide) (by decide)
  have z124 : zl h 124 = 12 := hs.z 124 (by decide) (by decide)
  have k125 : kd h 125 = 10 := hs.k 125 (by decide) (by decide)
  have z125 : zl h 125 = 12 := hs.z 125 (by decide) (by decide)
  have ci : (nI i).toNatClampNeg = i := nI_clamp (by omega)
  have ia : IB a := by unfold IB; omega
  obtain ⟨p2, rfl⟩ : ∃ p2 : Nat, a = p2 := ⟨a.toNat, by omega⟩
  refine b92_0 (r1 := 124) k115 (hs.r 115 13 (by decide)) k124 (by rw [z124]; exact vp_in_nI hi (by omega)) ?_
  rw [ci, ea]
  refine sp_isP hs tm tg.1 (fun c => b92_14 (fun d => absurd d (by decide)) (fun _ => b92_17 (fun d => ?_) (fun d => b92_23 (n h (raw0_none ?_) MG.rfl')))) (fun c => b92_14 (fun _ => b92_23 (n h (raw0_none ?_) MG.rfl')) (fun d => absurd rfl d))
  · rw [io_toInt ia] at c
    rw [← nI_io, nI_ltI (by omega) (by omega)] at d
    rw [← nI_io]
    have hp2 : p2 < tnp t := by omega
    have gp2 := tg.2 p2 hp2
    have gm2 := gp2.1
    have gm8 := gp2.2.1
    refine b92_25 k115 (sp_seg hs tm tg sp (by unfold JB; omega) (by omega) sl sr (fun i' hi' hbi hfi => ?_))
    have e1 : nI (8 * s.1 + i') + (1 : Int32) = nI (8 * s.1 + (i' + 1)) := nI_1 _
    have v0 : vp_in (nI (8 * s.1 + i')) 80 := vp_in_nI (by omega) (by omega)
    have v1 : vp_in (nI (8 * s.1 + i') + (1 : Int32)) 80 := by rw [e1]; exact vp_in_nI (by omega) (by omega)
    have t0 := (tm.2 s.1 sp).2 i' (by omega)
    have t1 := (tm.2 s.1 sp).2 (i' + 1) (by omega)
    have q0 := gp.2.2.1 i' (by omega)
    have q1 := gp.2.2.1 (i' + 1) (by omega)
    have dF := (gp.2.2.2.1 i' hi').1
    have dO := (gp.2.2.2.1 i' hi').2.1
    have ed : (hI h 120 (nI (8 * s.1 + i') + (1 : Int32)).toNatClampNeg - hI h 120 (nI (8 * s.1 + i')).toNatClampNeg).toInt64 = jo (tF t s.1 (i' + 1) - tF t s.1 i') := by
      rw [e1, nI_clamp (by omega), nI_clamp (by omega), t0.1, t1.1, io_sub, i2l_jo (by unfold IB; omega)]
    have eo : (hI h 120 (nI (8 * s.1 + i')).toNatClampNeg).toInt64 = jo (tF t s.1 i') := by
      rw [nI_clamp (by omega), t0.1, i2l_jo (by unfold IB; omega)]
    have eg : (hI h 121 (nI (8 * s.1 + i')).toNatClampNeg).toInt64 = jo (tO t s.1 i') := by
      rw [nI_clamp (by omega), t0.2.1, i2l_jo (by unfold IB; omega)]
    have egd : (hI h 121 (nI (8 * s.1 + i') + (1 : Int32)).toNatClampNeg - hI h 121 (nI (8 * s.1 + i')).toNatClampNeg).toInt64 = jo (tO t s.1 (i' + 1) - tO t s.1 i') := by
      rw [e1, nI_clamp (by omega), nI_clamp (by omega), t0.2.1, t1.2.1, io_sub, i2l_jo (by unfold IB; omega)]
    refine b92_33 (r1 := 120) (r2 := 121) k115 (hs.r 115 6 (by decide)) k120 (by rw [z120]; exact v1) (by rw [z120]; exact v0) (hs.r 115 7 (by decide)) k121 (by rw [z121]; exact v0) (by rw [z121]; exact v1) ?_
    rw [ed, eo, eg, egd, jo_mul, jo_mul, jo_mul, jo_sub, jo_mul, jo_add, jo_mul]
    have hfs := fs_some (Nat.zero_le i') hi' hbi (fun j _ => hfi j)
    have Dp : 0 < bD (tF t s.1) s.2.2 i' := Int.mul_pos (by omega) sw
    have Dn : (bD (tF t s.1) s.2.2 i').natAbs ≤ 1000 * 10000000 := nm_le (by omega) (by omega)
    have hB := bN_le (g := tO t s.1) hbi (by omega)
    have x1 : 0 ≤ tO t s.1 i' * bD (tF t s.1) s.2.2 i' := Int.mul_nonneg q0.2.1.1 (by omega)
    have x2 : tO t s.1 (i' + 1) * bD (tF t s.1) s.2.2 i' ≤ 1000 * bD (tF t s.1) s.2.2 i' := Int.mul_le_mul_of_nonneg_right q1.2.1.2 (by omega)
    refine sp_finds (u := bN (tF t s.1) (tO t s.1) s.2.1 s.2.2 i') (w := bD (tF t s.1) s.2.2 i') hs tm tg hp2 Dp (by omega) (by omega) (by omega) (fun j hj hbj hfj => ?_) (fun hno => ?_)
    · refine b92_113 (fun _ => ?_) (fun d => absurd d (by decide))
      have w0 : ¬ jo s.2.2 = 0 := by
        rw [show (0 : Int64) = jo 0 from rfl, jo_eq (by unfold JB; omega) (by unfold JB; omega)]
        omega
      have f4 := gp2.2.2.1 j (by omega)
      have f5 := gp2.2.2.1 (j + 1) (by omega)
      have f6 := (gp2.2.2.2.1 j hj).1
      have pbd := press_bound (F := tF t s.1) (O := tO t s.1) (O2 := tO t p2) (F2 := tF t p2) (b := b) (i := i') (j := j) sw sw2 u0 u1 (by omega) (by omega) (by omega) hbj (by omega) (by omega) (by omega) pb.1 pb.2
      have hD := hD_k (tF t s.1) (tO t p2) s.2.2 i' j
      have dO2 : 0 < tO t p2 (j + 1) - tO t p2 j := by have := hbj.1; omega
      have kp : 0 < kk2 (tF t s.1) (tO t p2) i' j := Int.mul_pos dO2 (by omega)
      have kn : (kk2 (tF t s.1) (tO t p2) i' j).natAbs ≤ 1000 * 1000 := nm_le (by omega) (by omega)
      have Kn : (kk2 (tF t s.1) (tO t p2) i' j * s.2.2).natAbs ≤ 1000 * 1000 * 10000000 := nm_le kn (by omega)
      have ediv : (kk2 (tF t s.1) (tO t p2) i' j * s.2.2).tdiv s.2.2 = kk2 (tF t s.1) (tO t p2) i' j := Int.mul_tdiv_cancel _ (by omega)
      refine b92_118 (r1 := 125) k115 w0 (hs.r 115 14 (by decide)) k125 (by show vp_in _ (zl h 125); rw [z125]; exact vp_in_nI hi (by omega)) ?_
      rw [gw_9, gw_10, ci, show hI (gw h (bN (tO t p2) (tF t p2) (bN (tF t s.1) (tO t s.1) s.2.1 s.2.2 i') (bD (tF t s.1) s.2.2 i') j) (bD (tO t p2) (bD (tF t s.1) s.2.2 i') j)) 125 i = io b from eb, i2l_jo (by unfold IB; omega)]
      rw [show bD (tO t p2) (bD (tF t s.1) s.2.2 i') j = kk2 (tF t s.1) (tO t p2) i' j * s.2.2 from hD, jo_div (JBn (by omega)).1 (by unfold JB; omega) (by rw [ediv]; exact (JBn (by omega)).1), ediv, show (100 : Int64) = jo 100 from rfl, jo_mul, jo_mul, jo_sub, jo_mul, jo_add, jo_mul, ← hD]
      have raw := raw0_some (b := b) hp2 d hfs (fs_some (Nat.zero_le j) hj hbj (fun j' _ => hfj j'))
      have le := r_le (u := pN (tF t s.1) (tO t s.1) (tO t p2) (tF t p2) s.2.1 s.2.2 b i' j) pbd.2.1
      have lp := rL_pos (u := pN (tF t s.1) (tO t s.1) (tO t p2) (tF t p2) s.2.1 s.2.2 b i' j) pbd.2.1
      refine sp_gets (u := pN (tF t s.1) (tO t s.1) (tO t p2) (tF t p2) s.2.1 s.2.2 b i' j) (w := pD (tF t s.1) (tO t p2) s.2.2 b i' j) k115 (JBn (by omega)).1 (by omega) pbd.2.1 (by unfold JB; omega) (b92_167 ?_)
      exact y (gw (gw h _ _) _ _) _ raw (MG.gw' (MG.gw' MG.rfl')) gw_9 gw_10 (by show JB (rU _ _); exact (JBn (by omega)).1) (by show JB (rL _ _); unfold JB; omega)
    · refine b92_113 (fun d => absurd rfl d) (fun _ => b92_116 (n h (raw0_none2 hp2 d hfs (fs_none (fun j _ => hno j))) MG.rfl'))
  · rw [← nI_io, nI_ltI (by omega) (by omega)] at d
    omega
  · rw [io_toInt ia] at c
    omega
theorem sp_warms_loop {t : TBT} {i p : Nat} {b : Int} {z3 : Int32} (hs : Str h) (tm : TM h t) (tg : TG t) (hp : p < tnp t) (hb : 0 < b) (hb2 : b ≤ 1000) (hl : tW t p 1 + b ≤ tW t p (tpt t p - 1))
    (nx : ∀ j, 1 ≤ j → j + 1 < tpt t p → btw (tW t p) (tW t p 1 + b) 1 j → (∀ j', 1 ≤ j' → j' < j → ¬ btw (tW t p) (tW t p 1 + b) 1 j') → X 93 Q bc bs 120 [.ref 115, .int (nI i), .int (nI p), .int z3, .int (io (tW t p 1 + b)), .int (nI (8 * p + j)), UU, UU] [] h) :
    ∀ (f j : Nat), j + f = tpt t p → 1 ≤ j → j + 1 < tpt t p → tW t p j ≤ tW t p 1 + b → (∀ j', 1 ≤ j' → j' < j → ¬ btw (tW t p) (tW t p 1 + b) 1 j') → X 93 Q bc bs 100 [.ref 115, .int (nI i), .int (nI p), .int z3, .int (io (tW t p 1 + b)), .int (nI (8 * p + j)), UU, UU] [] h := by
  have h10 := tg.1
  have gp := tg.2 p hp
  have gn2 := gp.1
  have gn8 := gp.2.1
  have k115 : kd h 115 = 9 := hs.k 115 (by decide) (by decide)
  have k122 : kd h 122 = 10 := hs.k 122 (by decide) (by decide)
  have z122 : zl h 122 = 80 := hs.z 122 (by decide) (by decide)
  have w1 := (gp.2.2.1 1 (by omega)).2.2
  intro f
  induction f with
  | zero => intro j h1 _ h3; omega
  | succ f ih =>
    intro j h1 h2 h3 h4 h5
    have e1 : nI (8 * p + j) + (1 : Int32) = nI (8 * p + (j + 1)) := nI_1 _
    have w2 := (gp.2.2.1 (j + 1) h3).2.2
    have t1 := ((tm.2 p hp).2 (j + 1) h3).2.2
    have ec : io (tW t p 1 + b) ≤ hI h 122 (nI (8 * p + j) + (1 : Int32)).toNatClampNeg ↔ tW t p 1 + b ≤ tW t p (j + 1) := by
      rw [e1, nI_clamp (by omega), t1, io_le (by unfold IB; omega) (by unfold IB; omega)]
    refine b93_100 (r1 := 122) k115 (hs.r 115 8 (by decide)) k122 (by rw [z122, e1]; exact vp_in_nI (by omega) (by omega)) (fun c => nx j h2 h3 ⟨(gp.2.2.2.1 j h3).2.2 h2, by omega, ?_⟩ h5) (fun c => b93_114 ?_)
    · rw [ec] at c
      omega
    · rw [ec] at c
      rw [e1]
      have h6 : j + 2 < tpt t p := by
        rcases Nat.lt_or_ge (j + 2) (tpt t p) with q | q
        · exact q
        · rw [show tpt t p - 1 = j + 1 by omega] at hl
          omega
      refine ih (j + 1) (by omega) (by omega) (by omega) (by omega) (fun j' q1 q2 => ?_)
      rcases Nat.lt_or_ge j' j with q | q
      · exact h5 j' q1 q
      · rw [show j' = j by omega]
        intro z
        have := z.2.2
        omega
set_option maxHeartbeats 1000000 in
theorem sp_warms {t : TBT} {i : Nat} {s : PST} {a b : Int} (hs : Str h) (tm : TM h t) (tg : TG t) (hi : i < 12) (ea : hI h 124 i = io a) (eb : hI h 125 i = io b) (pa : 0 ≤ a ∧ a ≤ 2) (pb : a = 2 → 0 ≤ b ∧ b ≤ 1000) (sp : s.1 < tnp t)
    (y : ∀ h' r', rawS t 2 a b s = some r' → MG h h' → hJ h' 115 9 = jo r'.2.1 → hJ h' 115 10 = jo r'.2.2 → JB r'.2.1 → JB r'.2.2 → Q (some (.int (1 : Int32))) h')
    (n : ∀ h', rawS t 2 a b s = none → MG h h' → Q (some (.int (0 : Int32))) h') :
    X 93 Q bc bs 0 [.ref 115, .int (nI i), .int (nI s.1), UU, UU, UU, UU, UU] [] h := by
  have h10 := tg.1
  have gp := tg.2 s.1 sp
  have gn2 := gp.1
  have gn8 := gp.2.1
  have k115 : kd h 115 = 9 := hs.k 115 (by decide) (by decide)
  have k120 : kd h 120 = 10 := hs.k 120 (by decide) (by decide)
  have z120 : zl h 120 = 80 := hs.z 120 (by decide) (by decide)
  have k122 : kd h 122 = 10 := hs.k 122 (by decide) (by decide)
  have z122 : zl h 122 = 80 := hs.z 122 (by decide) (by decide)
  have k124 : kd h 124 = 10 := hs.k 124 (by decide) (by decide)
  have z124 : zl h 124 = 12 := hs.z 124 (by decide) (by decide)
  have k125 : kd h 125 = 10 := hs.k 125 (by decide) (by decide)
  have z125 : zl h 125 = 12 := hs.z 125 (by decide) (by decide)
  have ci : (nI i).toNatClampNeg = i := nI_clamp (by omega)
  have ia : IB a := by unfold IB; omega
  have i2 : IB 2 := by unfold IB; omega
  have j1 : JB 1 := by unfold JB; omega
  have F0 := (gp.2.2.1 0 (by omega)).1
  have F1 := (gp.2.2.1 1 (by omega)).1
  have T0 := ((tm.2 s.1 sp).2 0 (by omega)).1
  have T1 := ((tm.2 s.1 sp).2 1 (by omega)).1
  have e8 : (8 : Int32) * nI s.1 = nI (8 * s.1) := nI_mul 8 s.1
  have e81 : nI (8 * s.1) + (1 : Int32) = nI (8 * s.1 + 1) := nI_1 _
  have vi : vp_in (nI i) 12 := vp_in_nI hi (by omega)
  refine b93_0 (r1 := 124) k115 (hs.r 115 13 (by decide)) k124 (by rw [z124]; exact vi) (fun c => ?_) (fun c => ?_)
  · rw [ci, ea, show (2 : Int32) = io 2 from rfl, io_le i2 ia] at c
    have ha : a = 2 := by omega
    have pb2 := pb ha
    subst ha
    rw [ci, ea]
    have w1 := (gp.2.2.1 1 (by omega)).2.2
    have wl := (gp.2.2.1 (tpt t s.1 - 1) (by omega)).2.2
    have W1 := ((tm.2 s.1 sp).2 1 (by omega)).2.2
    have WL := ((tm.2 s.1 sp).2 (tpt t s.1 - 1) (by omega)).2.2
    refine b93_31 (r1 := 122) (r2 := 125) k115 (hs.r 115 8 (by decide)) k122 (by rw [z122, e8, e81]; exact vp_in_nI (by omega) (by omega)) (hs.r 115 14 (by decide)) k125 (by rw [z125]; exact vi) ?_
    rw [e8, e81, nI_clamp (by omega), ci, W1, eb, io_add]
    have mo : ∀ j, 1 ≤ j → ∀ d, j + d < tpt t s.1 → tW t s.1 j ≤ tW t s.1 (j + d) := by
      intro j hj d
      induction d with
      | zero => intro _; exact Int.le_refl _
      | succ d ih =>
        intro hd
        have x1 := ih (by omega)
        have x2 := (gp.2.2.2.1 (j + d) (by omega)).2.2 (by omega)
        rw [← Nat.add_assoc]
        omega
    have m1 := mo 1 (by omega) (tpt t s.1 - 2) (by omega)
    rw [show 1 + (tpt t s.1 - 2) = tpt t s.1 - 1 by omega] at m1
    refine sp_last hs tm tg sp (b93_70 k122 (by rw [z122]; exact vp_in_nI (by omega) (by omega)) (fun d => ?_) (fun d => b93_74 (n h ?_ MG.rfl')))
    · rw [nI_clamp (by omega), WL, io_le (by unfold IB; omega) (by unfold IB; omega)] at d
      refine b93_76 (r1 := 125) k115 (hs.r 115 14 (by decide)) k125 (by rw [z125]; exact vi) (fun e => ?_) (fun e => ?_)
      · rw [ci, eb, show (0 : Int32) = io 0 from rfl, io_eq (by unfold IB; omega) (by unfold IB; omega)] at e
        have h3 : 3 ≤ tpt t s.1 := by
          rcases Nat.lt_or_ge 2 (tpt t s.1) with q | q
          · exact q
          · rw [show tpt t s.1 - 1 = 1 by omega] at d
            omega
        refine sp_warms_loop hs tm tg sp (by omega) pb2.2 d (fun j q1 q2 q3 q4 => ?_) (tpt t s.1 - 1) 1 (by omega) (by omega) (by omega) (by omega) (fun j' q1 q2 => absurd q1 (by omega))
        have e1 : nI (8 * s.1 + j) + (1 : Int32) = nI (8 * s.1 + (j + 1)) := nI_1 _
        have v0 : vp_in (nI (8 * s.1 + j)) 80 := vp_in_nI (by omega) (by omega)
        have v1 : vp_in (nI (8 * s.1 + j) + (1 : Int32)) 80 := by rw [e1]; exact vp_in_nI (by omega) (by omega)
        have t0 := (tm.2 s.1 sp).2 j (by omega)
        have t1 := (tm.2 s.1 sp).2 (j + 1) (by omega)
        have g0 := gp.2.2.1 j (by omega)
        have g1 := gp.2.2.1 (j + 1) (by omega)
        have dF := (gp.2.2.2.1 j q2).1
        have dW := (gp.2.2.2.1 j q2).2.2 q1
        have ed : (hI h 122 (nI (8 * s.1 + j) + (1 : Int32)).toNatClampNeg - hI h 122 (nI (8 * s.1 + j)).toNatClampNeg).toInt64 = jo (tW t s.1 (j + 1) - tW t s.1 j) := by
          rw [e1, nI_clamp (by omega), nI_clamp (by omega), t0.2.2, t1.2.2, io_sub, i2l_jo (by unfold IB; omega)]
        have eo : (io (tW t s.1 1 + b) - hI h 122 (nI (8 * s.1 + j)).toNatClampNeg).toInt64 = jo (tW t s.1 1 + b - tW t s.1 j) := by
          rw [nI_clamp (by omega), t0.2.2, io_sub, i2l_jo (by unfold IB; omega)]
        have eg : (hI h 120 (nI (8 * s.1 + j)).toNatClampNeg).toInt64 = jo (tF t s.1 j) := by
          rw [nI_clamp (by omega), t0.1, i2l_jo (by unfold IB; omega)]
        have egd : (hI h 120 (nI (8 * s.1 + j) + (1 : Int32)).toNatClampNeg - hI h 120 (nI (8 * s.1 + j)).toNatClampNeg).toInt64 = jo (tF t s.1 (j + 1) - tF t s.1 j) := by
          rw [e1, nI_clamp (by omega), nI_clamp (by omega), t0.1, t1.1, io_sub, i2l_jo (by unfold IB; omega)]
        refine b93_120 (r1 := 122) (r2 := 120) k115 (hs.r 115 8 (by decide)) k122 (by rw [z122]; exact v1) (by rw [z122]; exact v0) (hs.r 115 6 (by decide)) k120 (by rw [z120]; exact v0) (by rw [z120]; exact v1) ?_
        rw [ed, eo, eg, egd, jo_mul, jo_mul, jo_add]
        have eN : tF t s.1 j * (tW t s.1 (j + 1) - tW t s.1 j) + (tW t s.1 1 + b - tW t s.1 j) * (tF t s.1 (j + 1) - tF t s.1 j) = bN (tW t s.1) (tF t s.1) (tW t s.1 1 + b) 1 j := by
          unfold bN
          rw [Int.mul_one, Int.mul_one]
        have eD : tW t s.1 (j + 1) - tW t s.1 j = bD (tW t s.1) 1 j := by
          unfold bD
          rw [Int.mul_one]
        rw [eN, eD]
        have dp : 0 < bD (tW t s.1) 1 j := by rw [← eD]; omega
        have dl : bD (tW t s.1) 1 j ≤ 1200 := by rw [← eD]; omega
        have hB := bN_le (g := tF t s.1) q3 (by omega)
        have x1 : 0 ≤ tF t s.1 j * bD (tW t s.1) 1 j := Int.mul_nonneg g0.1.1 (by omega)
        have x2 : tF t s.1 (j + 1) * bD (tW t s.1) 1 j ≤ 1000 * bD (tW t s.1) 1 j := Int.mul_le_mul_of_nonneg_right g1.1.2 (by omega)
        have le := r_le (u := bN (tW t s.1) (tF t s.1) (tW t s.1 1 + b) 1 j) dp
        have lp := rL_pos (u := bN (tW t s.1) (tF t s.1) (tW t s.1 1 + b) 1 j) dp
        refine sp_gets k115 (JBn (by omega)).1 (by omega) dp (by unfold JB; omega) (b93_188 ?_)
        exact y (gw h _ _) _ (raw2_some (by omega) (fs_some q1 q2 q3 q4)) (MG.gw' MG.rfl') gw_9 gw_10 (by show JB (rU _ _); exact (JBn (by omega)).1) (by show JB (rL _ _); unfold JB; omega)
      · rw [ci, eb, show (0 : Int32) = io 0 from rfl, io_eq (by unfold IB; omega) (by unfold IB; omega)] at e
        refine b93_85 (r1 := 120) k115 (hs.r 115 6 (by decide)) k120 (by rw [z120]; exact vp_in_nI (by omega) (by omega)) ?_
        rw [nI_clamp (by omega), T1, i2l_jo (by unfold IB; omega), show (1 : Int64) = jo 1 from rfl]
        refine sp_gets k115 (by unfold JB; omega) (by omega) (by decide) j1 (b93_98 ?_)
        rw [(r_one (tF t s.1 1)).1, (r_one (tF t s.1 1)).2]
        exact y (gw h _ _) _ (raw2_1 (by decide) (by omega)) (MG.gw' MG.rfl') gw_9 gw_10 (by show JB (tF t s.1 1); unfold JB; omega) j1
    · rw [nI_clamp (by omega), WL, io_le (by unfold IB; omega) (by unfold IB; omega)] at d
      refine raw2_none (by omega) (fs_none (fun j q1 q2 z => ?_))
      have m2 := mo (j + 1) (by omega) (tpt t s.1 - 1 - (j + 1)) (by omega)
      rw [show j + 1 + (tpt t s.1 - 1 - (j + 1)) = tpt t s.1 - 1 by omega] at m2
      have := z.2.2
      omega
  · rw [ci, ea, show (2 : Int32) = io 2 from rfl, io_le i2 ia] at c
    rw [ci, ea]
    have e1 : nI (8 * s.1) + io a = nI (8 * s.1 + a.toNat) := by
      rw [nI_io, nI_io, io_add]
      congr 1
      omega
    have a01 : a = 0 ∨ a = 1 := by omega
    refine b93_12 (r1 := 120) k115 (hs.r 115 6 (by decide)) k120 (by rw [z120, e8, e1]; exact vp_in_nI (by omega) (by omega)) ?_
    rw [e8, e1, nI_clamp (by omega), show (1 : Int64) = jo 1 from rfl]
    rcases a01 with rfl | rfl
    · rw [show hI h 120 (8 * s.1 + (0 : Int).toNat) = io (tF t s.1 0) from T0, i2l_jo (by unfold IB; omega)]
      refine sp_gets k115 (by unfold JB; omega) (by omega) (by decide) j1 (b93_29 ?_)
      rw [(r_one (tF t s.1 0)).1, (r_one (tF t s.1 0)).2]
      exact y (gw h _ _) _ raw2_0 (MG.gw' MG.rfl') gw_9 gw_10 (by show JB (tF t s.1 0); unfold JB; omega) j1
    · rw [show hI h 120 (8 * s.1 + (1 : Int).toNat) = io (tF t s.1 1) from T1, i2l_jo (by unfold IB; omega)]
      refine sp_gets k115 (by unfold JB; omega) (by omega) (by decide) j1 (b93_29 ?_)
      rw [(r_one (tF t s.1 1)).1, (r_one (tF t s.1 1)).2]
      exact y (gw h _ _) _ (raw2_1 (by decide) (by omega)) (MG.gw' MG.rfl') gw_9 gw_10 (by show JB (tF t s.1 1); unfold JB; omega) j1
end MOD2
