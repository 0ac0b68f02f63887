/-! best of the reference. -/
def XI (b i : Nat) : Prop := b = 123 ∨ b = 124 ∨ b = 125 ∨ b = 126 ∨ b = 129 ∨ b = 130 ∨ b = 133 ∨ b = 138 ∨ (b = 115 ∧ (i = 11 ∨ i = 19 ∨ i = 20 ∨ i = 30 ∨ i = 31))
def XJ (b _i : Nat) : Prop := b = 115 ∨ b = 127 ∨ b = 128 ∨ b = 131 ∨ b = 132
theorem MI_mix {h h' : HP} {A : AST} {r : RGT} {R R0 : RUT} (c : MI h A) (hu : aU A = some R0) (f : Ff XI XJ h h') (rm : RM h' r) (run : RunM h' R) : MI h' (wU (wG A r) (some R)) ∧ FM h h' := by
  obtain ⟨c1, c2, c3, c4, c5, c6⟩ := c
  have e116 : ∀ i, hI h' 116 i = hI h 116 i := fun i => f.2.2.1 116 i (fun q => by unfold XI at q; omega)
  have e117 : ∀ i, hI h' 117 i = hI h 117 i := fun i => f.2.2.1 117 i (fun q => by unfold XI at q; omega)
  have e118 : ∀ i, hI h' 118 i = hI h 118 i := fun i => f.2.2.1 118 i (fun q => by unfold XI at q; omega)
  have e134 : ∀ i, hI h' 134 i = hI h 134 i := fun i => f.2.2.1 134 i (fun q => by unfold XI at q; omega)
  have e135 : ∀ i, hI h' 135 i = hI h 135 i := fun i => f.2.2.1 135 i (fun q => by unfold XI at q; omega)
  have e136 : ∀ i, hJ h' 136 i = hJ h 136 i := fun i => f.2.2.2 136 i (fun q => by unfold XJ at q; omega)
  have e137 : ∀ i, hJ h' 137 i = hJ h 137 i := fun i => f.2.2.2 137 i (fun q => by unfold XJ at q; omega)
  have e21 : hI h' 115 21 = 1 := by
    rw [f.2.2.1 115 21 (fun q => by unfold XI at q; omega)]
    exact (c3.2 R0 hu).1
  refine ⟨⟨TM_ff f (fun q => by unfold XI at q; omega) (fun q i _ _ z => by unfold XI at z; omega) c1, rm, ⟨fun e => (by cases e), fun R' e => by cases e; exact ⟨e21, run⟩⟩, fun k hk => ?_, fun s hs => ?_, by rw [f.2.2.1 115 0 (fun q => by unfold XI at q; omega)]; exact c6⟩, FM_ff f (fun b i q => by unfold XI at q; omega) (fun b i q => by unfold XJ at q; omega)⟩
  · unfold KAt
    simp only [e134, e135, e136, e137]
    exact c4 k hk
  · simp only [e116, e117, e118]
    exact c5 s hs
theorem mix_id {A : AST} {R : RUT} (hu : aU A = some R) : wU (wG A (aR A)) (some R) = A := by
  unfold wU wG
  show (aT A, aR A, some R, aM A, aS A, aZ A) = A
  rw [← hu]
  rfl
theorem RunA_ff {SI SJ : Nat → Nat → Prop} {h h1 : HP} (f : Ff SI SJ h h1) (h30 : ¬ SI 115 30) (h31 : ¬ SI 115 31) (h130 : ∀ i, ¬ SI 130 i) (h133 : ∀ i, ¬ SI 133 i) (h131 : ∀ i, ¬ SJ 131 i) (h132 : ∀ i, ¬ SJ 132 i) {R : RUT} (c : RunA h R) : RunA h1 R := by
  obtain ⟨c1, ⟨rp, c2, c3, c4, c5⟩, c6, c7⟩ := c
  refine ⟨by rw [f.2.2.1 _ _ h30]; exact c1, ⟨rp, by rw [f.2.2.1 _ _ h31]; exact c2, c3, c4, c5⟩, fun i hi => ?_, fun i hi => ?_⟩
  · rw [f.2.2.1 _ _ (h130 i), f.2.2.2 _ _ (h131 i), f.2.2.2 _ _ (h132 i)]
    exact c6 i hi
  · rw [f.2.2.1 _ _ (h133 i)]
    exact c7 i hi
def BI (A : AST) (i k : Nat) (R : RUT) (h h' : HP) : Prop := Ff XI XJ h h' ∧ RunA h' R ∧ hI h' 115 11 = nI (rn (aR A)) ∧ ∀ x, x < 12 → hI h' 123 x = io (rk (aR A) x) ∧ hI h' 125 x = io (rb (aR A) x) ∧ (x ≠ i → x ≠ k → hI h' 124 x = io (ra (aR A) x))
def YI (b i : Nat) : Prop := b = 126 ∨ b = 129 ∨ (b = 115 ∧ (i = 19 ∨ i = 20))
def YJ (b _i : Nat) : Prop := b = 115 ∨ b = 127 ∨ b = 128
theorem BI_ff {A : AST} {i k : Nat} {R : RUT} {h h' h2 : HP} (b : BI A i k R h h') (f : Ff YI YJ h' h2) : BI A i k R h h2 := by
  obtain ⟨b1, b2, b3, b4⟩ := b
  refine ⟨b1.trans' (f.weak (fun b i q => by unfold YI at q; unfold XI; omega) (fun b i q => by unfold YJ at q; unfold XJ; omega)), RunA_ff f (fun q => by unfold YI at q; omega) (fun q => by unfold YI at q; omega) (fun i q => by unfold YI at q; omega) (fun i q => by unfold YI at q; omega) (fun i q => by unfold YJ at q; omega) (fun i q => by unfold YJ at q; omega) b2, by rw [f.2.2.1 _ _ (fun q => by unfold YI at q; omega)]; exact b3, fun x hx => ?_⟩
  rw [f.2.2.1 123 _ (fun q => by unfold YI at q; omega), f.2.2.1 124 _ (fun q => by unfold YI at q; omega), f.2.2.1 125 _ (fun q => by unfold YI at q; omega)]
  exact b4 x hx
theorem BI_set {A : AST} {i k q : Nat} {R : RUT} {h h' : HP} (b : BI A i k R h h') : BI A i k R h (sI (sI h' 124 i (nI q)) 124 k (nI q)) ∧ RM (sI (sI h' 124 i (nI q)) 124 k (nI q)) (bstR (aR A) i k q) := by
  obtain ⟨b1, b2, b3, b4⟩ := b
  have f : Ff (fun b _ => b = 124) (fun _ _ => False) h' (sI (sI h' 124 i (nI q)) 124 k (nI q)) := Ff.sI' (SI := fun b _ => b = 124) (Ff.sI' (SI := fun b _ => b = 124) Ff.rfl' rfl) rfl
  refine ⟨⟨b1.trans' (f.weak (fun b i q => Or.inr (Or.inl q)) (fun b i q => absurd q id)), RunA_ff f (by decide) (by decide) (fun i => (by decide : ¬ 130 = 124)) (fun i => (by decide : ¬ 133 = 124)) (fun _ => id) (fun _ => id) b2, by rw [f.2.2.1 _ _ (show ¬ 115 = 124 by decide)]; exact b3, fun x hx => ?_⟩, ⟨by rw [f.2.2.1 _ _ (show ¬ 115 = 124 by decide)]; exact b3, fun x hx => ?_⟩⟩
  · obtain ⟨a1, a2, a3⟩ := b4 x hx
    refine ⟨by rw [f.2.2.1 _ _ (show ¬ 123 = 124 by decide)]; exact a1, by rw [f.2.2.1 _ _ (show ¬ 125 = 124 by decide)]; exact a2, fun z1 z2 => ?_⟩
    rw [hI_sI, if_pos rfl, if_neg z2, hI_sI, if_pos rfl, if_neg z1]
    exact a3 z1 z2
  · obtain ⟨a1, a2, a3⟩ := b4 x hx
    show hI _ 123 x = io (rk (aR A) x) ∧ hI _ 124 x = io (if x = k then (q : Int) else if x = i then (q : Int) else ra (aR A) x) ∧ hI _ 125 x = io (rb (aR A) x)
    refine ⟨by rw [f.2.2.1 _ _ (show ¬ 123 = 124 by decide)]; exact a1, ?_, by rw [f.2.2.1 _ _ (show ¬ 125 = 124 by decide)]; exact a2⟩
    rw [hI_sI, if_pos rfl]
    by_cases e : x = k
    · rw [if_pos e, if_pos e, nI_io]
    · rw [if_neg e, if_neg e, hI_sI, if_pos rfl]
      by_cases e2 : x = i
      · rw [if_pos e2, if_pos e2, nI_io]
      · rw [if_neg e2, if_neg e2]
        exact a3 e2 e
section BSTM
variable {Q : Option Value → HP → Prop} {bc bs : Nat} {h : HP} {A : AST}
set_option maxHeartbeats 2000000 in
theorem bsm_loop {i k : Nat} {R : RUT} {z3 z4 : Int32} (hs : Str h) (g : Good A) (c : MI h A) (hu : aU A = some R) (hi : i < rn (aR A)) (hk : k < rn (aR A)) (ki : rk (aR A) i ≤ 1) (kk : rk (aR A) k ≤ 1)
    (nx : ∀ h' (su sl : Int), BI A i k R h h' → X 105 Q bc bs 234 [.ref 115, .int (nI i), .int (nI k), .int z3, .int z4, .int (nI (uS R 0).1), .long (jo (uS R 0).2.1), UU, .long (jo (uS R 0).2.2), UU, .int (fI (bestOf (bR A i k (uS R 0)) (tnp (aT A)))), .long (jo su), UU, .long (jo sl), UU, .int (nI (tnp (aT A)))] [] h') :
    ∀ (f q : Nat) (su sl : Int) (h' : HP), q + f = tnp (aT A) → BI A i k R h h' → (∀ b, bestOf (bR A i k (uS R 0)) q = some b → su = shU (bR A i k (uS R 0) b) ∧ sl = shL (bR A i k (uS R 0) b)) →
      X 105 Q bc bs 128 [.ref 115, .int (nI i), .int (nI k), .int z3, .int z4, .int (nI (uS R 0).1), .long (jo (uS R 0).2.1), UU, .long (jo (uS R 0).2.2), UU, .int (fI (bestOf (bR A i k (uS R 0)) q)), .long (jo su), UU, .long (jo sl), UU, .int (nI q)] [] h' := by
  have h12 := g.2.1.1
  have h10 := g.1.1
  have rw_ := g.2.2.1 R hu
  have sg0 := rw_.2.1 0 (Nat.zero_le _)
  have tmf : ∀ {H : HP}, Ff XI XJ h H → TM H (aT A) := fun f => TM_ff f (fun q => by unfold XI at q; omega) (fun q i _ _ z => by unfold XI at z; omega) c.1
  intro f
  induction f with
  | zero =>
    intro q su sl h' hq bi ha
    have hs' := bi.1.str hs
    have e : q = tnp (aT A) := by omega
    subst e
    refine b105_128 (hs'.k 115 (by decide) (by decide)) (fun _ => nx h' su sl bi) (fun z => absurd ?_ z)
    rw [(tmf bi.1).1, nI_leI (by omega) (by omega)]
    exact Nat.le_refl _
  | succ f ih =>
    intro q su sl h' hq bi ha
    have hs' := bi.1.str hs
    have z124 : zl h' 124 = 12 := hs'.z 124 (by decide) (by decide)
    refine b105_128 (hs'.k 115 (by decide) (by decide)) (fun z => absurd z ?_) (fun _ => b105_137 (r1 := 124) (hs'.k 115 (by decide) (by decide)) (hs'.r 115 13 (by decide)) (hs'.k 124 (by decide) (by decide)) (by rw [z124]; exact vp_in_nI (by omega) (by omega)) (by rw [z124]; exact vp_in_nI (by omega) (by omega)) ?_)
    · rw [(tmf bi.1).1, nI_leI (by omega) (by omega)]
      omega
    rw [nI_clamp (n := i) (by omega), nI_clamp (n := k) (by omega)]
    obtain ⟨bi1, rm1⟩ := BI_set (q := q) bi
    generalize sI (sI h' 124 i (nI q)) 124 k (nI q) = h1 at bi1 rm1 ⊢
    have hs1 := bi1.1.str hs
    have rgd := bstR_good g.2.1 ki kk (show q ≤ 9 by omega)
    refine sp_runK hs1 (tmf bi1.1) g.1 rm1 rgd sg0 (fun h2 mr rm2 => ?_)
    have bi2 := BI_ff bi1 (Ff.weak mr (fun b i q => by unfold MRI at q; unfold YI; omega) (fun b i q => by unfold MRJ at q; unfold YJ; omega))
    have hs2 := bi2.1.str hs
    have rq : RW (aT A) (bR A i k (uS R 0) q) := runOf_RW g.1 rgd sg0
    have keep : ∀ H : HP, BI A i k R h H → bestOf (bR A i k (uS R 0)) (q + 1) = bestOf (bR A i k (uS R 0)) q → X 105 Q bc bs 128 [.ref 115, .int (nI i), .int (nI k), .int z3, .int z4, .int (nI (uS R 0).1), .long (jo (uS R 0).2.1), UU, .long (jo (uS R 0).2.2), UU, .int (fI (bestOf (bR A i k (uS R 0)) q)), .long (jo su), UU, .long (jo sl), UU, .int (nI q + (1 : Int32))] [] H := fun H bh e => by
      rw [show nI q + (1 : Int32) = nI (q + 1) from nI_1 q, ← e]
      exact ih (q + 1) su sl H (by omega) bh (fun b hb => ha b (by rw [← e]; exact hb))
    refine b105_163 (hs2.k 115 (by decide) (by decide)) (sp_hasShare hs2 rm2 g.1 rq (fun h3 ms sh e22 e23 e24 e25 => b105_167 (fun _ => ?_) (fun z => absurd z (by decide))) (fun h3 ms sh => b105_167 (fun z => absurd rfl z) (fun _ => b105_170 (keep h3 (BI_ff bi2 (Ff.weak ms (fun b i q => absurd q id) (fun b i q => Or.inl q.1))) ?_))))
    · have bi3 := BI_ff bi2 (Ff.weak ms (fun b i q => absurd q id) (fun b i q => Or.inl q.1))
      have hs3 := bi3.1.str hs
      have shb := sh_bound g.1 rq sh
      obtain ⟨bm, bo, bl⟩ := u_bounds g.1 rq
      have wp := sh.2.2
      refine b105_173 (hs3.k 115 (by decide) (by decide)) ?_
      rw [e23, e24]
      refine sp_gets (hs3.k 115 (by decide) (by decide)) (u := uWa (bR A i k (uS R 0) q)) (w := uWo (bR A i k (uS R 0) q)) (JBn (by omega)).1 (by omega) wp (JBn (by omega)).1 ?_
      have x9 : hJ (gw h3 (shU (bR A i k (uS R 0) q)) (shL (bR A i k (uS R 0) q))) 115 9 = jo (shU (bR A i k (uS R 0) q)) := gw_9
      have x10 : hJ (gw h3 (shU (bR A i k (uS R 0) q)) (shL (bR A i k (uS R 0) q))) 115 10 = jo (shL (bR A i k (uS R 0) q)) := gw_10
      have bi4 : BI A i k R h (gw h3 (shU (bR A i k (uS R 0) q)) (shL (bR A i k (uS R 0) q))) := BI_ff bi3 ((MG.gw' MG.rfl').ff.weak (fun b i q => absurd q id) (fun b i q => Or.inl q.1))
      show X 105 Q bc bs 185 _ _ (gw h3 (shU (bR A i k (uS R 0) q)) (shL (bR A i k (uS R 0) q)))
      generalize gw h3 (shU (bR A i k (uS R 0) q)) (shL (bR A i k (uS R 0) q)) = h4 at x9 x10 bi4 ⊢
      have hs4 := bi4.1.str hs
      have k4 : kd h4 115 = 9 := hs4.k 115 (by decide) (by decide)
      have take : bestOf (bR A i k (uS R 0)) (q + 1) = some q → ∀ x10' x11 x13, X 105 Q bc bs 212 [.ref 115, .int (nI i), .int (nI k), .int z3, .int z4, .int (nI (uS R 0).1), .long (jo (uS R 0).2.1), UU, .long (jo (uS R 0).2.2), UU, .int x10', .long x11, UU, .long x13, UU, .int (nI q)] [] h4 := fun e x10' x11 x13 => by
        refine b105_212 k4 ?_
        rw [x9, x10, show nI q + (1 : Int32) = nI (q + 1) from nI_1 q]
        have ef : nI q = fI (bestOf (bR A i k (uS R 0)) (q + 1)) := by rw [e]; rfl
        conv => arg 6; rw [ef]
        refine ih (q + 1) _ _ h4 (by omega) bi4 (fun b hb => ?_)
        rw [e] at hb
        cases hb
        exact ⟨rfl, rfl⟩
      cases hb : bestOf (bR A i k (uS R 0)) q with
      | none =>
        refine b105_185 (fun _ => take ?_ _ _ _) (fun u => absurd rfl u)
        have sh' : uSh (bR A i k (uS R 0) q) := sh
        show (match bestOf (bR A i k (uS R 0)) q with | none => _ | some b => _) = _
        rw [hb]
        simp only [if_pos sh']
      | some b =>
        have bl := best_lt hb
        have rqb : RW (aT A) (bR A i k (uS R 0) b) := runOf_RW g.1 (bstR_good g.2.1 ki kk (show b ≤ 9 by omega)) sg0
        have shb2 := sh_bound g.1 rqb bl.2
        obtain ⟨es, el⟩ := ha b hb
        refine b105_185 (fun u => absurd ((fI_1 (fun q' z => by cases z; omega)).mp u) (by simp)) (fun _ => b105_191 k4 ?_)
        rw [x9, x10, es, el]
        refine sp_isMore shb.1 shb.2.1 shb.2.2.1 shb.2.2.2 shb2.1 shb2.2.1 shb2.2.2.1 shb2.2.2.2 (fun u => b105_206 (fun _ => take ?_ _ _ _) (fun z => absurd z (by decide))) (fun u => b105_206 (fun z => absurd rfl z) (fun _ => b105_209 ?_))
        · show (match bestOf (bR A i k (uS R 0)) q with | none => _ | some b => _) = _
          rw [hb]
          simp only [if_pos (show uSh (bR A i k (uS R 0) q) ∧ shU (bR A i k (uS R 0) b) * shL (bR A i k (uS R 0) q) < shU (bR A i k (uS R 0) q) * shL (bR A i k (uS R 0) b) from ⟨sh, u⟩)]
        · rw [← hb, ← es, ← el]
          refine keep h4 bi4 ?_
          show (match bestOf (bR A i k (uS R 0)) q with | none => _ | some b => _) = _
          rw [hb]
          simp only [if_neg (show ¬ (uSh (bR A i k (uS R 0) q) ∧ shU (bR A i k (uS R 0) b) * shL (bR A i k (uS R 0) q) < shU (bR A i k (uS R 0) q) * shL (bR A i k (uS R 0) b)) from fun z => u z.2)]
    · show (match bestOf (bR A i k (uS R 0)) q with | none => _ | some b => _) = _
      have sh' : ¬ uSh (bR A i k (uS R 0) q) := sh
      cases hb : bestOf (bR A i k (uS R 0)) q with
      | none => simp only [if_neg sh']
      | some b => simp only [if_neg (fun z : uSh (bR A i k (uS R 0) q) ∧ _ => sh' z.1)]
set_option maxHeartbeats 1000000 in
theorem n_best {i k : Int32} (hs : Str h) (g : Good A) (c : MI h A) (nx : ∀ h', FM h h' → MI h' (f_best A i k).2 → Q (some (.int (f_best A i k).1)) h') : X 105 Q bc bs 0 [.ref 115, .int i, .int k, UU, UU, UU, UU, UU, UU, UU, UU, UU, UU, UU, UU, UU] [] h := by
  have k0 : kd h 115 = 9 := hs.k 115 (by decide) (by decide)
  have rg := c.2.1
  have h12 := g.2.1.1
  have h10 := g.1.1
  have cu := c.2.2.1
  have el : (hI h 115 11 - (1 : Int32)).toInt = (rn (aR A) : Int) - 1 := by
    rw [rg.1, nI_io, show (1 : Int32) = io 1 from rfl, io_sub, io_toInt (by unfold IB; omega)]
  have no : ¬ ((0 ≤ i.toInt ∧ i.toInt < rn (aR A)) ∧ (0 ≤ k.toInt ∧ k.toInt < rn (aR A)) ∧ rk (aR A) i.toInt.toNat ≤ 1 ∧ rk (aR A) k.toInt.toNat ≤ 1) → X 105 Q bc bs 52 [.ref 115, .int i, .int k, UU, UU, UU, UU, UU, UU, UU, UU, UU, UU, UU, UU, UU] [] h := fun hn => by
    have e : f_best A i k = (-2, wZ A (-2)) := by
      unfold f_best
      rw [if_neg hn]
    rw [e] at nx
    exact b105_52 k0 (sp_endsN hs c (by decide) (fun h' fm mi => b105_58 (nx h' fm mi)))
  have k123 : kd h 123 = 10 := hs.k 123 (by decide) (by decide)
  have z123 : zl h 123 = 12 := hs.z 123 (by decide) (by decide)
  refine b105_0 k0 (sp_72 (fun d1 => b105_13 (fun z => absurd z (by decide)) (fun _ => b105_16 k0 (sp_72 (fun d2 => b105_29 (fun z => absurd z (by decide)) (fun _ => ?_)) (fun d2 => b105_29 (fun _ => no ?_) (fun z => absurd rfl z))))) (fun d1 => b105_13 (fun _ => no ?_) (fun z => absurd rfl z)))
  · simp only [Int32.le_iff_toInt_le, Int32.lt_iff_toInt_lt, Int64.le_iff_toInt_le, Int64.lt_iff_toInt_lt, Int32.toInt_toInt64, i32eq, i64eq, Int32.reduceToInt, Int64.reduceToInt, Int32.reduceOfInt, el] at d1 d2
    obtain ⟨i', hi'⟩ : ∃ j : Nat, i.toInt = j := ⟨i.toInt.toNat, by omega⟩
    obtain ⟨k', hk'⟩ : ∃ j : Nat, k.toInt = j := ⟨k.toInt.toNat, by omega⟩
    have ei := toInt_io hi'
    have ek := toInt_io hk'
    subst ei
    subst ek
    have ii : i' < rn (aR A) := by omega
    have kk : k' < rn (aR A) := by omega
    have cii : (nI i').toNatClampNeg = i' := nI_clamp (by omega)
    have cik : (nI k').toNatClampNeg = k' := nI_clamp (by omega)
    have gi := g.2.1.2 i' (by omega)
    have gk := g.2.1.2 k' (by omega)
    have e1 : (1 : Int32) < hI h 123 (nI i').toNatClampNeg ↔ 1 < rk (aR A) i' := by rw [cii, (rg.2 i' (by omega)).1, show (1 : Int32) = io 1 from rfl, io_lt (by unfold IB; omega) gi.1]
    have e2 : hI h 123 (nI k').toNatClampNeg ≤ (1 : Int32) ↔ rk (aR A) k' ≤ 1 := by rw [cik, (rg.2 k' (by omega)).1, show (1 : Int32) = io 1 from rfl, io_le gk.1 (by unfold IB; omega)]
    refine b105_32 (r1 := 123) k0 (hs.r 115 12 (by decide)) k123 (by rw [z123]; exact vp_in_nI (by omega) (by omega)) (fun z => no ?_) (fun z1 => b105_42 (r1 := 123) k0 (hs.r 115 12 (by decide)) k123 (by rw [z123]; exact vp_in_nI (by omega) (by omega)) (fun z2 => ?_) (fun z => no ?_))
    · rw [e1] at z
      rw [hi', Int.toNat_natCast]
      omega
    · rw [e1] at z1
      rw [e2] at z2
      unfold f_best at nx
      rw [hi', hk', Int.toNat_natCast, Int.toNat_natCast, if_pos ⟨by omega, by omega, by omega, z2⟩] at nx
      cases hu : aU A with
      | none =>
        rw [hu] at nx
        exact b105_59 k0 (fun z => absurd (cu.1 hu) z) (fun _ => b105_66 k0 (sp_endsN hs c (by decide) (fun h' fm mi => b105_72 (nx h' fm mi))))
      | some R =>
        rw [hu] at nx
        simp only [] at nx
        have rc := cu.2 R hu
        have rw_ := g.2.2.1 R hu
        have sg0 := rw_.2.1 0 (Nat.zero_le _)
        refine b105_59 k0 (fun _ => b105_73 k0 (sp_keeps hs rw_.1 rc.2 (fun h1 f1 ra1 => ?_))) (fun z => absurd z (by rw [rc.1]; decide))
        have f1' : Ff XI XJ h h1 := f1.weak (fun b i q => by unfold KRI at q; unfold XI; omega) (fun b i q => by unfold KRJ at q; unfold XJ; omega)
        have hs1 := f1.str hs
        have rm1 := RM_ff f1 (fun q => by unfold KRI at q; omega) (fun q i _ _ z => by unfold KRI at z; omega) rg
        have run1 := RunM_ff f1 (fun q => by unfold KRI at q; omega) (fun q => by unfold KRI at q; omega) (fun i q => by unfold KRI at q; omega) (fun i q => by unfold KRI at q; omega) (fun i q => by unfold KRJ at q; omega) (fun i q => by unfold KRJ at q; omega) rc.2
        have bi1 : BI A i' k' R h h1 := ⟨f1', ra1, rm1.1, fun x hx => ⟨(rm1.2 x hx).1, (rm1.2 x hx).2.2, fun _ _ => (rm1.2 x hx).2.1⟩⟩
        have z0 : (0 : Int32).toNatClampNeg = 0 := by decide
        have v0 : vp_in (0 : Int32) 13 := vp_in_nI (n := 0) (by omega) (by omega)
        obtain ⟨a1, a2, a3⟩ := run1.2.2.1 0 (Nat.zero_le _)
        have z124 : zl h1 124 = 12 := hs1.z 124 (by decide) (by decide)
        refine b105_77 (r1 := 124) (r2 := 126) (r3 := 127) (r4 := 128) (hs1.k 115 (by decide) (by decide)) (hs1.r 115 13 (by decide)) (hs1.k 124 (by decide) (by decide)) (by rw [z124]; exact vp_in_nI (by omega) (by omega)) (by rw [z124]; exact vp_in_nI (by omega) (by omega)) (hs1.r 115 15 (by decide)) (hs1.k 126 (by decide) (by decide)) (by rw [hs1.z 126 (c := 13) (by decide) (by decide)]; exact v0) (hs1.r 115 16 (by decide)) (hs1.k 127 (by decide) (by decide)) (by rw [hs1.z 127 (c := 13) (by decide) (by decide)]; exact v0) (hs1.r 115 17 (by decide)) (hs1.k 128 (by decide) (by decide)) (by rw [hs1.z 128 (c := 13) (by decide) (by decide)]; exact v0) ?_
        rw [cii, cik, z0, a1, a2, a3, (rm1.2 i' (by omega)).2.1, (rm1.2 k' (by omega)).2.1]
        refine bsm_loop (z3 := io (ra (aR A) i')) (z4 := io (ra (aR A) k')) hs g c hu ii kk (by omega) z2 (fun h2 su sl bi2 => ?_) (tnp (aT A)) 0 0 1 h1 (by omega) bi1 (fun b hb => by cases hb)
        have hs2 := bi2.1.str hs
        have k2 : kd h2 115 = 9 := hs2.k 115 (by decide) (by decide)
        have k124 : kd h2 124 = 10 := hs2.k 124 (by decide) (by decide)
        have z124' : zl h2 124 = 12 := hs2.z 124 (by decide) (by decide)
        have r13 := hs2.r 115 13 (b := 124) (by decide)
        have vi : vp_in (nI i') 12 := vp_in_nI (by omega) (by omega)
        have vk : vp_in (nI k') 12 := vp_in_nI (by omega) (by omega)
        cases hb : bestOf (bR A i' k' (uS R 0)) (tnp (aT A)) with
        | none =>
          rw [hb] at nx
          refine b105_234 (r1 := 124) k2 r13 (fun z => absurd rfl z) (fun _ => b105_245 (r1 := 124) k124 (by rw [z124']; exact vi) k2 r13 (fun z => absurd rfl z) (fun _ => b105_263 k124 (by show vp_in _ (zl h2 124); rw [z124']; exact vk) (fun z => absurd rfl z) (fun _ => ?_)))
          rw [cii, cik]
          have f3 : Ff (fun b _ => b = 124) (fun _ _ => False) h2 (sI (sI h2 124 i' (io (ra (aR A) i'))) 124 k' (io (ra (aR A) k'))) := Ff.sI' (SI := fun b _ => b = 124) (Ff.sI' (SI := fun b _ => b = 124) Ff.rfl' rfl) rfl
          have rm3 : RM (sI (sI h2 124 i' (io (ra (aR A) i'))) 124 k' (io (ra (aR A) k'))) (aR A) := by
            refine ⟨by rw [f3.2.2.1 _ _ (show ¬ 115 = 124 by decide)]; exact bi2.2.2.1, fun x hx => ?_⟩
            obtain ⟨b1, b2, b3⟩ := bi2.2.2.2 x hx
            refine ⟨by rw [f3.2.2.1 _ _ (show ¬ 123 = 124 by decide)]; exact b1, ?_, by rw [f3.2.2.1 _ _ (show ¬ 125 = 124 by decide)]; exact b2⟩
            rw [hI_sI, if_pos rfl]
            by_cases e : x = k'
            · rw [if_pos e, e]
            · rw [if_neg e, hI_sI, if_pos rfl]
              by_cases e2 : x = i'
              · rw [if_pos e2, e2]
              · rw [if_neg e2]
                exact b3 e2 e
          have ra3 := RunA_ff f3 (show ¬ 115 = 124 by decide) (show ¬ 115 = 124 by decide) (fun i => (by decide : ¬ 130 = 124)) (fun i => (by decide : ¬ 133 = 124)) (fun _ => id) (fun _ => id) bi2.2.1
          have f3' : Ff XI XJ h (sI (sI h2 124 i' (io (ra (aR A) i'))) 124 k' (io (ra (aR A) k'))) := bi2.1.trans' (f3.weak (fun b i q => Or.inr (Or.inl q)) (fun b i q => absurd q id))
          generalize sI (sI h2 124 i' (io (ra (aR A) i'))) 124 k' (io (ra (aR A) k')) = h3 at f3' rm3 ra3 ⊢
          have hs3 := f3'.str hs
          refine b105_277 (hs3.k 115 (by decide) (by decide)) (sp_brings hs3 rw_.1 ra3 (fun h4 f4 run4 => ?_))
          have f4' : Ff XI XJ h h4 := f3'.trans' (f4.weak (fun b i q => by unfold BRI at q; unfold XI; omega) (fun b i q => by unfold BRJ at q; unfold XJ; omega))
          have rm4 := RM_ff f4 (fun q => by unfold BRI at q; omega) (fun q i _ _ z => by unfold BRI at z; omega) rm3
          have mi := MI_mix c hu f4' rm4 run4
          rw [mix_id hu] at mi
          have hs4 := f4'.str hs
          exact b105_281 (fun z => absurd rfl z) (fun _ => b105_301 (hs4.k 115 (by decide) (by decide)) (sp_endsN hs4 mi.1 (by decide) (fun h5 fm5 mi5 => b105_311 (nx h5 (mi.2.trans' fm5) mi5))))
        | some b =>
          rw [hb] at nx
          simp only [] at nx
          have bl := best_lt hb
          have b9 : b ≤ 9 := by omega
          have ne1 : ¬ fI (some b) = -1 := fun u => absurd ((fI_1 (fun q' z => by cases z; omega)).mp u) (by simp)
          refine b105_234 (r1 := 124) k2 r13 (fun _ => b105_249 (r1 := 124) k124 (by rw [z124']; exact vi) k2 r13 (fun _ => b105_268 k124 (by show vp_in _ (zl h2 124); rw [z124']; exact vk) (fun _ => ?_) (fun z => absurd z ne1)) (fun z => absurd z ne1)) (fun z => absurd z ne1)
          rw [cii, cik]
          obtain ⟨bi3, rm3⟩ := BI_set (q := b) bi2
          show X 105 Q bc bs 284 _ _ (sI (sI h2 124 i' (nI b)) 124 k' (nI b))
          generalize sI (sI h2 124 i' (nI b)) 124 k' (nI b) = h3 at bi3 rm3 ⊢
          have hs3 := bi3.1.str hs
          have rgd := bstR_good g.2.1 (show rk (aR A) i' ≤ 1 by omega) z2 b9
          have tm3 : TM h3 (aT A) := TM_ff bi3.1 (fun q => by unfold XI at q; omega) (fun q i _ _ z => by unfold XI at z; omega) c.1
          refine b105_284 (hs3.k 115 (by decide) (by decide)) (sp_runK hs3 tm3 g.1 rm3 rgd sg0 (fun h4 mr rm4 => ?_))
          have f4 : Ff XI XJ h h4 := bi3.1.trans' (Ff.weak mr (fun b i q => by unfold MRI at q; unfold XI; omega) (fun b i q => by unfold MRJ at q; unfold XJ; omega))
          have mi := MI_mix c hu f4 (mr.rm rm3) rm4
          have hs4 := f4.str hs
          refine b105_294 (fun _ => b105_306 (hs4.k 115 (by decide) (by decide)) ?_) (fun z => absurd z ne1)
          show X 73 _ 0 0 0 [.ref 115, .int (nI b)] [] h4
          exact sp_endsP hs4 mi.1 (by rw [nI_toInt (by omega)]; omega) (fun h5 fm5 mi5 => b105_311 (nx h5 (mi.2.trans' fm5) mi5))
    · rw [e2] at z
      rw [hk', Int.toNat_natCast]
      omega
  · simp only [Int32.le_iff_toInt_le, Int32.lt_iff_toInt_lt, Int64.le_iff_toInt_le, Int64.lt_iff_toInt_lt, Int32.toInt_toInt64, i32eq, i64eq, Int32.reduceToInt, Int64.reduceToInt, Int32.reduceOfInt, el] at d1 d2
    omega
  · simp only [Int32.le_iff_toInt_le, Int32.lt_iff_toInt_lt, Int64.le_iff_toInt_le, Int64.lt_iff_toInt_lt, Int32.toInt_toInt64, i32eq, i64eq, Int32.reduceToInt, Int64.reduceToInt, Int32.reduceOfInt, el] at d1
    omega
end BSTM
