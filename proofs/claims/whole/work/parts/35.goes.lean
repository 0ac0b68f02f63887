/-! The reference: goes, runs. -/
/-- a frame by cell and place -/
def Ff (SI SJ : Nat → Nat → Prop) (h h' : HP) : Prop := h'.1 = h.1 ∧ h'.2.1 = h.2.1 ∧ (∀ b i, ¬ SI b i → hI h' b i = hI h b i) ∧ ∀ b i, ¬ SJ b i → hJ h' b i = hJ h b i
theorem Ff.rfl' {SI SJ : Nat → Nat → Prop} {h : HP} : Ff SI SJ h h := ⟨rfl, rfl, fun _ _ _ => rfl, fun _ _ _ => rfl⟩
theorem Ff.trans' {SI SJ : Nat → Nat → Prop} {h h1 h2 : HP} (a : Ff SI SJ h h1) (b : Ff SI SJ h1 h2) : Ff SI SJ h h2 := ⟨b.1.trans a.1, b.2.1.trans a.2.1, fun x i hx => (b.2.2.1 x i hx).trans (a.2.2.1 x i hx), fun x i hx => (b.2.2.2 x i hx).trans (a.2.2.2 x i hx)⟩
theorem Ff.weak {SI SJ TI TJ : Nat → Nat → Prop} {h h1 : HP} (a : Ff SI SJ h h1) (h2 : ∀ b i, SI b i → TI b i) (h3 : ∀ b i, SJ b i → TJ b i) : Ff TI TJ h h1 := ⟨a.1, a.2.1, fun x i hx => a.2.2.1 x i (fun q => hx (h2 x i q)), fun x i hx => a.2.2.2 x i (fun q => hx (h3 x i q))⟩
theorem Ff.sI' {SI SJ : Nat → Nat → Prop} {h h1 : HP} (a : Ff SI SJ h h1) {x j : Nat} {v : Int32} (hx : SI x j) : Ff SI SJ h (sI h1 x j v) := ⟨a.1, a.2.1, fun b i hb => by
  rw [hI_sI]
  split
  · split
    · rename_i q1 q2
      subst q1; subst q2
      exact absurd hx hb
    · exact a.2.2.1 b i hb
  · exact a.2.2.1 b i hb, a.2.2.2⟩
theorem Ff.sJ' {SI SJ : Nat → Nat → Prop} {h h1 : HP} (a : Ff SI SJ h h1) {x j : Nat} {v : Int64} (hx : SJ x j) : Ff SI SJ h (sJ h1 x j v) := ⟨a.1, a.2.1, a.2.2.1, fun b i hb => by
  rw [hJ_sJ]
  split
  · split
    · rename_i q1 q2
      subst q1; subst q2
      exact absurd hx hb
    · exact a.2.2.2 b i hb
  · exact a.2.2.2 b i hb⟩
theorem Ff.str {SI SJ : Nat → Nat → Prop} {h h1 : HP} (a : Ff SI SJ h h1) (hs : Str h) : Str h1 := Str_of hs a.1 a.2.1
theorem MG.ff {h h' : HP} (a : MG h h') : Ff (fun _ _ => False) (fun b i => b = 115 ∧ (i = 9 ∨ i = 10)) h h' := ⟨a.1.1, a.1.2.1, fun b i _ => a.1.2.2.1 b id i, fun b i hb => by
  by_cases e : b = 115
  · subst e
    exact a.2 i (fun q => hb ⟨rfl, Or.inl q⟩) (fun q => hb ⟨rfl, Or.inr q⟩)
  · exact a.1.2.2.2 b e i⟩
theorem TM_ff {SI SJ : Nat → Nat → Prop} {h h1 : HP} (f : Ff SI SJ h h1) (h4 : ¬ SI 115 4) (hs : ∀ q i, 119 ≤ q → q ≤ 122 → ¬ SI q i) {t : TBT} (c : TM h t) : TM h1 t := by
  refine ⟨by rw [f.2.2.1 115 4 h4]; exact c.1, fun p hp => ⟨by rw [f.2.2.1 119 _ (hs _ _ (by omega) (by omega))]; exact (c.2 p hp).1, fun i hi => ?_⟩⟩
  rw [f.2.2.1 120 _ (hs _ _ (by omega) (by omega)), f.2.2.1 121 _ (hs _ _ (by omega) (by omega)), f.2.2.1 122 _ (hs _ _ (by omega) (by omega))]
  exact (c.2 p hp).2 i hi
theorem RM_ff {SI SJ : Nat → Nat → Prop} {h h1 : HP} (f : Ff SI SJ h h1) (h0 : ¬ SI 115 11) (hs : ∀ q i, 123 ≤ q → q ≤ 125 → ¬ SI q i) {r : RGT} (c : RM h r) : RM h1 r := by
  refine ⟨by rw [f.2.2.1 115 11 h0]; exact c.1, fun i hi => ?_⟩
  rw [f.2.2.1 123 _ (hs _ _ (by omega) (by omega)), f.2.2.1 124 _ (hs _ _ (by omega) (by omega)), f.2.2.1 125 _ (hs _ _ (by omega) (by omega))]
  exact c.2 i hi
def MRI (b i : Nat) : Prop := (b = 115 ∧ (i = 19 ∨ i = 20)) ∨ b = 126 ∨ b = 129
def MRJ (b i : Nat) : Prop := (b = 115 ∧ (i = 9 ∨ i = 10)) ∨ b = 127 ∨ b = 128
def MR (h h' : HP) : Prop := Ff MRI MRJ h h'
theorem MG.mr {h h' : HP} (a : MG h h') : MR h h' := a.ff.weak (fun _ _ q => absurd q id) (fun _ _ q => Or.inl q)
theorem MR.tm {h h' : HP} (a : MR h h') {t : TBT} (c : TM h t) : TM h' t := TM_ff a (fun q => by unfold MRI at q; omega) (fun q i h1 h2 z => by unfold MRI at z; omega) c
theorem MR.rm {h h' : HP} (a : MR h h') {r : RGT} (c : RM h r) : RM h' r := RM_ff a (fun q => by unfold MRI at q; omega) (fun q i h1 h2 z => by unfold MRI at z; omega) c
/-- a run as the reference holds it -/
def RunM (h : HP) (R : RUT) : Prop := hI h 115 19 = nI (um R) ∧ (∃ rp : Nat, hI h 115 20 = nI rp ∧ um R ≤ rp ∧ rp ≤ 12 ∧ us R = decide (um R < rp)) ∧ (∀ i, i ≤ um R → hI h 126 i = nI (uS R i).1 ∧ hJ h 127 i = jo (uS R i).2.1 ∧ hJ h 128 i = jo (uS R i).2.2) ∧ ∀ i, i < um R → hI h 129 i = io (uK R i)
section MOD3
variable {Q : Option Value → HP → Prop} {bc bs : Nat} {h : HP}
set_option maxHeartbeats 1000000 in
theorem sp_goes {t : TBT} {i : Nat} {s : PST} {k a b : Int} (hs : Str h) (tm : TM h t) (tg : TG t) (hi : i < 12) (ek : hI h 123 i = io k) (ea : hI h 124 i = io a) (eb : hI h 125 i = io b) (pg : PG k a b) (sg : SG t s)
    (y : ∀ h' r', rawS t k a b s = some r' → MG h h' → hJ h' 115 9 = jo r'.2.1 → hJ h' 115 10 = jo r'.2.2 → JB r'.2.1 → JB r'.2.2 → Q (some (.int (1 : Int32))) h')
    (n : ∀ h', rawS t k a b s = none → MG h h' → Q (some (.int (0 : Int32))) h') :
    X 94 Q bc bs 0 [.ref 115, .int (nI i), .int (nI s.1), .long (jo s.2.1), UU, .long (jo s.2.2), UU, UU, UU] [] h := by
  have h10 := tg.1
  have sgj := SG_J tg sg
  have sp1 := sg.1
  obtain ⟨u0, u1⟩ := SG_b tg sg
  have gp := tg.2 s.1 sg.1
  have gn2 := gp.1
  have gn8 := gp.2.1
  have k115 : kd h 115 = 9 := hs.k 115 (by decide) (by decide)
  have k120 : kd h 120 = 10 := hs.k 120 (by decide) (by decide)
  have z120 : zl h 120 = 80 := hs.z 120 (by decide) (by decide)
  have k123 : kd h 123 = 10 := hs.k 123 (by decide) (by decide)
  have z123 : zl h 123 = 12 := hs.z 123 (by decide) (by decide)
  have k124 : kd h 124 = 10 := hs.k 124 (by decide) (by decide)
  have z124 : zl h 124 = 12 := hs.z 124 (by decide) (by decide)
  have k125 : kd h 125 = 10 := hs.k 125 (by decide) (by decide)
  have z125 : zl h 125 = 12 := hs.z 125 (by decide) (by decide)
  have ci : (nI i).toNatClampNeg = i := nI_clamp (by omega)
  have vi : vp_in (nI i) 12 := vp_in_nI hi (by omega)
  have kb := PG_k pg
  have ik : IB k := by unfold IB; omega
  have i0 : IB 0 := by unfold IB; omega
  have i1 : IB 1 := by unfold IB; omega
  have i2 : IB 2 := by unfold IB; omega
  refine b94_0 (r1 := 123) k115 (hs.r 115 12 (by decide)) k123 (by rw [z123]; exact vi) (fun c => ?_) (fun c => ?_) (fun c => ?_) (fun c0 c1 c2 => ?_)
  · rw [ci, ek] at c
    have k0 : k = 0 := (io_eq ik i0).mp c
    subst k0
    have pa : (0 ≤ a ∧ a ≤ 9) ∧ 1 ≤ b ∧ b ≤ 100 := by unfold PG at pg; omega
    exact b94_32 k115 (sp_presses (r := (0, fun _ => 0, fun _ => 0, fun _ => 0)) hs tm tg hi ea eb pa.1 pa.2 sg (fun h' r' q1 q2 q3 q4 q5 q6 => b94_41 (Or.inr rfl) (y h' r' q1 q2 q3 q4 q5 q6)) (fun h' q1 q2 => b94_41 (Or.inl rfl) (n h' q1 q2)))
  · rw [ci, ek] at c
    have k0 : k = 1 := (io_eq ik i1).mp c
    subst k0
    have pa : 0 ≤ a ∧ a ≤ 9 := by unfold PG at pg; omega
    have ia : IB a := by unfold IB; omega
    have rc := r_of_cop sg.2.1 sg.2.2.2.1
    refine b94_42 k115 (sp_gets k115 sgj.1 (by omega) sg.2.1 sgj.2.1 ?_)
    rw [rc.1, rc.2]
    have g1 : MG h (gw h s.2.1 s.2.2) := MG.gw' MG.rfl'
    refine b94_49 (h := gw h s.2.1 s.2.2) (r1 := 124) k115 (hs.r 115 13 (by decide)) k124 (by show vp_in _ (zl h 124); rw [z124]; exact vi) ?_
    rw [ci, show hI (gw h s.2.1 s.2.2) 124 i = io a from ea]
    refine sp_isP (g1.1.str hs) (TM_fr g1.1 (fun _ _ _ q => q) tm) h10 (fun d => b94_59 (fun e => absurd e (by decide)) (fun _ => ?_)) (fun d => b94_59 (fun _ => b94_76 (n _ (raw1_none ?_) g1)) (fun e => absurd rfl e))
    · rw [io_toInt ia] at d
      obtain ⟨p2, rfl⟩ : ∃ p2 : Nat, a = p2 := ⟨a.toNat, by omega⟩
      have ec : nI s.1 ≤ hI (gw h s.2.1 s.2.2) 124 (nI i).toNatClampNeg ↔ s.1 ≤ p2 := by
        rw [ci, show hI (gw h s.2.1 s.2.2) 124 i = io p2 from ea, ← nI_io, nI_leI sgj.2.2 (by omega)]
      refine b94_62 (h := gw h s.2.1 s.2.2) (r1 := 124) k115 (hs.r 115 13 (by decide)) k124 (by show vp_in _ (zl h 124); rw [z124]; exact vi) (fun e => b94_76 (n _ (raw1_none ?_) g1)) (fun e => b94_72 (y _ _ (raw1_some (by omega) ?_) g1 gw_9 gw_10 sgj.1 sgj.2.1))
      · rw [ec] at e
        omega
      · rw [ec] at e
        omega
    · rw [io_toInt ia] at d
      omega
  · rw [ci, ek] at c
    have k0 : k = 2 := (io_eq ik i2).mp c
    subst k0
    have pa : (0 ≤ a ∧ a ≤ 2) ∧ (a = 2 → 0 ≤ b ∧ b ≤ 1000) := by unfold PG at pg; omega
    exact b94_78 k115 (sp_warms hs tm tg hi ea eb pa.1 pa.2 sg.1 (fun h' r' q1 q2 q3 q4 q5 q6 => b94_84 (Or.inr rfl) (y h' r' q1 q2 q3 q4 q5 q6)) (fun h' q1 q2 => b94_84 (Or.inl rfl) (n h' q1 q2)))
  · rw [ci, ek] at c0 c1 c2
    have k0 : k = 3 := by
      have n0 : k ≠ 0 := fun e => c0 (by rw [e]; rfl)
      have n1 : k ≠ 1 := fun e => c1 (by rw [e]; rfl)
      have n2 : k ≠ 2 := fun e => c2 (by rw [e]; rfl)
      omega
    subst k0
    have pa : -1000 ≤ a ∧ a ≤ 1000 ∧ 0 ≤ b ∧ b ≤ 100 := by unfold PG at pg; omega
    have sw := sg.2.1
    have sw2 := sg.2.2.1
    refine b94_85 (r1 := 124) k115 (hs.r 115 13 (by decide)) k124 (by rw [z124]; exact vi) ?_
    rw [ci, ea, i2l_jo (by unfold IB; omega), jo_mul, jo_add]
    have aw := nm_le (a := a) (b := s.2.2) (A := 1000) (B := s.2.2.natAbs) (by omega) (Nat.le_refl _)
    have un : (s.2.1 + a * s.2.2).natAbs ≤ 2000 * s.2.2.natAbs := by
      generalize a * s.2.2 = z at aw
      omega
    refine sp_gets k115 (JBn (by omega)).1 (by omega) sw sgj.2.1 ?_
    have le := r_le (u := s.2.1 + a * s.2.2) sw
    have lp := rL_pos (u := s.2.1 + a * s.2.2) sw
    have raw := @raw3_some t a b s
    have rawn := @raw3_none t a b s
    generalize rU (s.2.1 + a * s.2.2) s.2.2 = U at le raw rawn ⊢
    generalize rL (s.2.1 + a * s.2.2) s.2.2 = L at le lp raw rawn ⊢
    have g1 : MG h (gw h U L) := MG.gw' MG.rfl'
    have e8 : (8 : Int32) * nI s.1 = nI (8 * s.1) := nI_mul 8 s.1
    have e81 : nI (8 * s.1) + (1 : Int32) = nI (8 * s.1 + 1) := nI_1 _
    have F0 := (gp.2.2.1 0 (by omega)).1
    have F1 := (gp.2.2.1 1 (by omega)).1
    have dF : tF t s.1 0 < tF t s.1 1 := (gp.2.2.2.1 0 (by omega)).1
    have T0 : hI h 120 (8 * s.1) = io (tF t s.1 0) := ((tm.2 s.1 sg.1).2 0 (by omega)).1
    have T1 := ((tm.2 s.1 sg.1).2 1 (by omega)).1
    have fl := nm_le (a := tF t s.1 1) (b := L) (A := 1000) (B := 10000000) (by omega) (by omega)
    have dl := nm_le (a := tF t s.1 1 - tF t s.1 0) (b := L) (A := 1000) (B := 10000000) (by omega) (by omega)
    have dp : 0 < (tF t s.1 1 - tF t s.1 0) * L := Int.mul_pos (by omega) lp
    have bl := nm_le (a := b) (b := (tF t s.1 1 - tF t s.1 0) * L) (A := 100) (B := 10000000000) (by omega) (by omega)
    have bp : 0 ≤ b * ((tF t s.1 1 - tF t s.1 0) * L) := Int.mul_nonneg pa.2.2.1 (by omega)
    have ec : 0 < lg_cmp ((100 : Int64) * ((hI (gw h U L) 120 ((8 : Int32) * nI s.1 + (1 : Int32)).toNatClampNeg).toInt64 * hJ (gw h U L) 115 10 - hJ (gw h U L) 115 9)) ((hI (gw h U L) 125 (nI i).toNatClampNeg).toInt64 * (hI (gw h U L) 120 ((8 : Int32) * nI s.1 + (1 : Int32)).toNatClampNeg - hI (gw h U L) 120 ((8 : Int32) * nI s.1).toNatClampNeg).toInt64 * hJ (gw h U L) 115 10) ↔ ¬ wN (tF t s.1) U L * 100 ≤ b * ((tF t s.1 1 - tF t s.1 0) * L) := by
      rw [e8, e81, ci, nI_clamp (n := 8 * s.1 + 1) (by omega), nI_clamp (n := 8 * s.1) (by omega), gw_9, gw_10, show hI (gw h U L) 120 (8 * s.1 + 1) = io (tF t s.1 1) from T1, show hI (gw h U L) 120 (8 * s.1) = io (tF t s.1 0) from T0, show hI (gw h U L) 125 i = io b from eb, io_sub, i2l_jo (by unfold IB; omega), i2l_jo (by unfold IB; omega), i2l_jo (by unfold IB; omega), show (100 : Int64) = jo 100 from rfl, jo_mul, jo_sub, jo_mul, jo_mul, jo_mul, Int.mul_assoc b, lg_cmp_gt, jo_lt (by unfold JB; omega) (by unfold JB; omega)]
      unfold wN
      split <;> omega
    refine b94_103 (h := gw h U L) (r1 := 120) (r2 := 125) k115 (hs.r 115 6 (by decide)) k120 (by show vp_in _ (zl h 120); rw [z120, e8, e81]; exact vp_in_nI (by omega) (by omega)) (hs.r 115 14 (by decide)) k125 (by show vp_in _ (zl h 125); rw [z125]; exact vi) (by show vp_in _ (zl h 120); rw [z120, e8]; exact vp_in_nI (by omega) (by omega)) (fun d => b94_176 (n _ (rawn ?_) g1)) (fun d => b94_172 (y _ _ (raw ?_) g1 gw_9 gw_10 ?_ ?_))
    · rw [ec] at d
      exact d
    · rw [ec] at d
      omega
    · show JB U
      unfold JB
      omega
    · show JB L
      unfold JB
      omega
end MOD3
