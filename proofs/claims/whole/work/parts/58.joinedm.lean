/-! joined of the reference. -/
def O8 (b _i : Nat) : Prop := b = 138
def SHI (b i : Nat) : Prop := (b = 115 ∧ (i = 11 ∨ i = 19 ∨ i = 20)) ∨ b = 123 ∨ b = 124 ∨ b = 125 ∨ b = 126 ∨ b = 129
def SHJ (b _i : Nat) : Prop := b = 115 ∨ b = 127 ∨ b = 128
theorem nI_03 (i : Nat) : (3 : Int32) * nI i = nI (0 + 3 * i) := by
  rw [Nat.zero_add]
  exact nI_mul 3 i
section JOM
variable {Q : Option Value → HP → Prop} {bc bs : Nat} {h : HP} {A : AST}
theorem jo_loop {r : RGT} {z1 z2 z3 : Int32} (hs : Str h) (rm : RM h r)
    (nx : ∀ h', Ff O8 (fun _ _ => False) h h' → (hI h' 138 36 = hI h 138 36) → (∀ j, j < 12 → hI h' 138 (0 + 3 * j) = io (rk r j) ∧ hI h' 138 (0 + 3 * j + 1) = io (ra r j) ∧ hI h' 138 (0 + 3 * j + 2) = io (rb r j)) → X 113 Q bc bs 139 [.ref 115, .int z1, .int z2, .int z3, .int (nI 12), UU, UU, UU, UU] [] h') :
    ∀ (f i : Nat) (h' : HP), i + f = 12 → Ff O8 (fun _ _ => False) h h' → (hI h' 138 36 = hI h 138 36) → (∀ j, j < i → hI h' 138 (0 + 3 * j) = io (rk r j) ∧ hI h' 138 (0 + 3 * j + 1) = io (ra r j) ∧ hI h' 138 (0 + 3 * j + 2) = io (rb r j)) →
      X 113 Q bc bs 74 [.ref 115, .int z1, .int z2, .int z3, .int (nI i), UU, UU, UU, UU] [] h' := by
  intro f
  induction f with
  | zero =>
    intro i h' hi fr e36 hj
    have e : i = 12 := by omega
    subst e
    exact b113_74 (fun _ => nx h' fr e36 hj) (fun c => absurd (by decide) c)
  | succ f ih =>
    intro i h' hi fr e36 hj
    have hs' := fr.str hs
    have rm' := RM_ff fr (fun q => by unfold O8 at q; omega) (fun q i _ _ z => by unfold O8 at z; omega) rm
    obtain ⟨w1, w2, w3⟩ := rm'.2 i (by omega)
    have ci : (nI i).toNatClampNeg = i := nI_clamp (by omega)
    have vi : vp_in (nI i) 12 := vp_in_nI (by omega) (by omega)
    have z135 : zl h' 138 = 37 := hs'.z 138 (by decide) (by decide)
    refine b113_74 (fun c => absurd c ?_) (fun _ => b113_81 (r1 := 138) (r2 := 123) (r3 := 124) (r4 := 125) (hs'.k 115 (by decide) (by decide)) (hs'.r 115 36 (by decide)) (hs'.r 115 12 (by decide)) (hs'.k 123 (by decide) (by decide)) (by rw [hs'.z 123 (c := 12) (by decide) (by decide)]; exact vi) (hs'.k 138 (by decide) (by decide)) (by rw [z135, nI_03]; exact vp_in_nI (by omega) (by omega)) (hs'.r 115 13 (by decide)) (hs'.k 124 (by decide) (by decide)) (by rw [hs'.z 124 (c := 12) (by decide) (by decide)]; exact vi) (by rw [z135, nI_03, nI_add31]; exact vp_in_nI (by omega) (by omega)) (hs'.r 115 14 (by decide)) (hs'.k 125 (by decide) (by decide)) (by rw [hs'.z 125 (c := 12) (by decide) (by decide)]; exact vi) (by rw [z135, nI_03, nI_add32]; exact vp_in_nI (by omega) (by omega)) ?_)
    · rw [show (12 : Int32) = nI 12 from rfl, nI_leI (by omega) (by omega)]
      omega
    · have x1 : ∀ (H : HP) (k : Nat) (v : Int32), hI (sI H 138 k v) 124 i = hI H 124 i := fun H k v => by rw [hI_sI, if_neg (by decide)]
      have x2 : ∀ (H : HP) (k : Nat) (v : Int32), hI (sI H 138 k v) 125 i = hI H 125 i := fun H k v => by rw [hI_sI, if_neg (by decide)]
      rw [ci, nI_03, nI_add31, nI_add32, nI_clamp (n := 0 + 3 * i) (by omega), nI_clamp (n := 0 + 3 * i + 1) (by omega), nI_clamp (n := 0 + 3 * i + 2) (by omega), x1, x2, x2, w1, w2, w3, show nI i + (1 : Int32) = nI (i + 1) from nI_1 i]
      refine ih (i + 1) _ (by omega) (Ff.sI' (SI := O8) (Ff.sI' (SI := O8) (Ff.sI' (SI := O8) fr rfl) rfl) rfl) ?_ (fun j hj' => ⟨?_, ?_, ?_⟩)
      · rw [hI_sI, if_pos rfl, if_neg (by omega), hI_sI, if_pos rfl, if_neg (by omega), hI_sI, if_pos rfl, if_neg (by omega)]
        exact e36
      · rw [hI_sI, if_pos rfl, if_neg (by omega), hI_sI, if_pos rfl, if_neg (by omega), hI_sI, if_pos rfl]
        split
        · rw [show j = i by omega]
        · exact (hj j (by omega)).1
      · rw [hI_sI, if_pos rfl, if_neg (by omega), hI_sI, if_pos rfl]
        split
        · rw [show j = i by omega]
        · rw [hI_sI, if_pos rfl, if_neg (by omega)]
          exact (hj j (by omega)).2.1
      · rw [hI_sI, if_pos rfl]
        split
        · rw [show j = i by omega]
        · rw [hI_sI, if_pos rfl, if_neg (by omega), hI_sI, if_pos rfl, if_neg (by omega)]
          exact (hj j (by omega)).2.2
set_option maxHeartbeats 1000000 in
theorem sp_shares {t : TBT} {j : Nat} {x : RGT × PST} (hs : Str h) (tm : TM h t) (tg : TG t) (hj : j < 3) (rg : RGood x.1) (sg : SG t x.2) (ka : KAt h 135 (40 * j) x.1) (e37 : hI h 135 (40 * j + 37) = nI x.2.1) (eu : hJ h 136 j = jo x.2.2.1) (ew : hJ h 137 j = jo x.2.2.2)
    (y : ∀ h', Ff SHI SHJ h h' → okJ (runOf t x.1 x.2) → hJ h' 115 37 = jo (shU (runOf t x.1 x.2)) → hJ h' 115 38 = jo (shL (runOf t x.1 x.2)) → Q (some (.int (1 : Int32))) h') (n : ∀ h', Ff SHI SHJ h h' → ¬ okJ (runOf t x.1 x.2) → Q (some (.int (0 : Int32))) h') : X 112 Q bc bs 0 [.ref 115, .int (nI j)] [] h := by
  have e40 : (40 : Int32) * nI j = nI (40 * j) := nI_mul 40 j
  have z135 : zl h 135 = 120 := hs.z 135 (by decide) (by decide)
  have cj : (nI j).toNatClampNeg = j := nI_clamp (by omega)
  have vj : vp_in (nI j) 3 := vp_in_nI hj (by omega)
  refine b112_0 (r1 := 135) (hs.k 115 (by decide) (by decide)) (hs.r 115 33 (by decide)) ?_
  rw [e40]
  refine sp_takes hs (Or.inl rfl) (hs.k 135 (by decide) (by decide)) (by rw [z135]; omega) (by rw [z135]; omega) ka (fun h1 f1 rm1 => ?_)
  have hs1 := f1.str hs
  have g1 : Ff SHI SHJ h h1 := f1.weak (fun b i q => by unfold TKI at q; unfold SHI; omega) (fun b i q => absurd q id)
  have e37' : nI (40 * j) + (37 : Int32) = nI (40 * j + 37) := nI_add _ 37
  have b135 : hI h1 135 (40 * j + 37) = nI x.2.1 := by rw [f1.2.2.1 _ _ (fun q => by unfold TKI at q; omega)]; exact e37
  have b136 : hJ h1 136 j = jo x.2.2.1 := by rw [f1.2.2.2 _ _ id]; exact eu
  have b137 : hJ h1 137 j = jo x.2.2.2 := by rw [f1.2.2.2 _ _ id]; exact ew
  have tm1 : TM h1 t := TM_ff f1 (fun q => by unfold TKI at q; omega) (fun q i _ _ z => by unfold TKI at z; omega) tm
  refine b112_12 (r1 := 135) (r2 := 136) (r3 := 137) (hs1.k 115 (by decide) (by decide)) (hs1.r 115 33 (by decide)) (hs1.k 135 (by decide) (by decide)) (by rw [hs1.z 135 (c := 120) (by decide) (by decide), e40, e37']; exact vp_in_nI (by omega) (by omega)) (hs1.r 115 34 (by decide)) (hs1.k 136 (by decide) (by decide)) (by rw [hs1.z 136 (c := 3) (by decide) (by decide)]; exact vj) (hs1.r 115 35 (by decide)) (hs1.k 137 (by decide) (by decide)) (by rw [hs1.z 137 (c := 3) (by decide) (by decide)]; exact vj) ?_
  rw [e40, e37', nI_clamp (by omega), cj, b135, b136, b137]
  refine sp_runK hs1 tm1 tg rm1 rg sg (fun h2 mr rm2 => ?_)
  have g2 : Ff SHI SHJ h h2 := g1.trans' (Ff.weak mr (fun b i q => by unfold MRI at q; unfold SHI; omega) (fun b i q => by unfold MRJ at q; unfold SHJ; omega))
  have hs2 := g2.str hs
  have rq : RW t (runOf t x.1 x.2) := runOf_RW tg rg sg
  refine b112_40 (hs2.k 115 (by decide) (by decide)) (sp_hasShare hs2 rm2 tg rq (fun h3 ms sh e22 e23 e24 e25 => b112_44 (fun _ => ?_) (fun z => absurd z (by decide))) (fun h3 ms sh => b112_44 (fun z => absurd rfl z) (fun _ => b112_47 (n h3 (g2.trans' (Ff.weak ms (fun b i q => absurd q id) (fun b i q => Or.inl q.1))) (fun ok => sh ok.1)))))
  have g3 : Ff SHI SHJ h h3 := g2.trans' (Ff.weak ms (fun b i q => absurd q id) (fun b i q => Or.inl q.1))
  have hs3 := g3.str hs
  have shb := sh_bound tg rq sh
  obtain ⟨bm, bo, bl⟩ := u_bounds tg rq
  have wp := sh.2.2
  refine b112_49 (hs3.k 115 (by decide) (by decide)) ?_
  rw [e23, e24]
  refine sp_gets (hs3.k 115 (by decide) (by decide)) (u := uWa (runOf t x.1 x.2)) (w := uWo (runOf t x.1 x.2)) (JBn (by omega)).1 (by omega) wp (JBn (by omega)).1 ?_
  have x9 : hJ (gw h3 (shU (runOf t x.1 x.2)) (shL (runOf t x.1 x.2))) 115 9 = jo (shU (runOf t x.1 x.2)) := gw_9
  have x10 : hJ (gw h3 (shU (runOf t x.1 x.2)) (shL (runOf t x.1 x.2))) 115 10 = jo (shL (runOf t x.1 x.2)) := gw_10
  have g4 : Ff SHI SHJ h (gw h3 (shU (runOf t x.1 x.2)) (shL (runOf t x.1 x.2))) := g3.trans' ((MG.gw' MG.rfl').ff.weak (fun b i q => absurd q id) (fun b i q => Or.inl q.1))
  show X 112 Q bc bs 61 _ _ (gw h3 (shU (runOf t x.1 x.2)) (shL (runOf t x.1 x.2)))
  generalize gw h3 (shU (runOf t x.1 x.2)) (shL (runOf t x.1 x.2)) = h4 at x9 x10 g4 ⊢
  have hs4 := g4.str hs
  have a10 : hJ (sJ h4 115 37 (hJ h4 115 9)) 115 10 = jo (shL (runOf t x.1 x.2)) := by
    rw [hJ_sJ, if_pos rfl, if_neg (by decide)]
    exact x10
  have g5 : Ff SHI SHJ h (sJ (sJ h4 115 37 (hJ h4 115 9)) 115 38 (hJ (sJ h4 115 37 (hJ h4 115 9)) 115 10)) := Ff.sJ' (SJ := SHJ) (Ff.sJ' (SJ := SHJ) g4 (Or.inl rfl)) (Or.inl rfl)
  have y37 : hJ (sJ (sJ h4 115 37 (hJ h4 115 9)) 115 38 (hJ (sJ h4 115 37 (hJ h4 115 9)) 115 10)) 115 37 = jo (shU (runOf t x.1 x.2)) := by
    rw [hJ_sJ, if_pos rfl, if_neg (by decide), hJ_sJ, if_pos rfl, if_pos rfl]
    exact x9
  have y38 : hJ (sJ (sJ h4 115 37 (hJ h4 115 9)) 115 38 (hJ (sJ h4 115 37 (hJ h4 115 9)) 115 10)) 115 38 = jo (shL (runOf t x.1 x.2)) := by
    rw [hJ_sJ, if_pos rfl, if_pos rfl]
    exact a10
  have y9 : hJ (sJ (sJ h4 115 37 (hJ h4 115 9)) 115 38 (hJ (sJ h4 115 37 (hJ h4 115 9)) 115 10)) 115 9 = jo (shU (runOf t x.1 x.2)) := by
    rw [hJ_sJ, if_pos rfl, if_neg (by decide), hJ_sJ, if_pos rfl, if_neg (by decide)]
    exact x9
  have y10 : hJ (sJ (sJ h4 115 37 (hJ h4 115 9)) 115 38 (hJ (sJ h4 115 37 (hJ h4 115 9)) 115 10)) 115 10 = jo (shL (runOf t x.1 x.2)) := by
    rw [hJ_sJ, if_pos rfl, if_neg (by decide)]
    exact a10
  have e1 : 0 < lg_cmp (hJ (sJ (sJ h4 115 37 (hJ h4 115 9)) 115 38 (hJ (sJ h4 115 37 (hJ h4 115 9)) 115 10)) 115 9) (1000000000 : Int64) ↔ 1000000000 < shU (runOf t x.1 x.2) := by rw [lg_cmp_gt, y9, show (1000000000 : Int64) = jo 1000000000 from rfl, jo_lt (by unfold JB; omega) shb.2.1]
  have e2 : 0 < lg_cmp (hJ (sJ (sJ h4 115 37 (hJ h4 115 9)) 115 38 (hJ (sJ h4 115 37 (hJ h4 115 9)) 115 10)) 115 10) (1000000000 : Int64) ↔ 1000000000 < shL (runOf t x.1 x.2) := by rw [lg_cmp_gt, y10, show (1000000000 : Int64) = jo 1000000000 from rfl, jo_lt (by unfold JB; omega) shb.2.2.2]
  have hs5 := g5.str hs
  refine b112_61 (hs4.k 115 (by decide) (by decide)) (fun z => b112_103 (n _ g5 (fun ok => ?_))) (fun z => b112_88 (hs5.k 115 (by decide) (by decide)) (fun z2 => b112_103 (n _ g5 (fun ok => ?_))) (fun z2 => b112_99 (y _ g5 ⟨sh, ?_, ?_⟩ y37 y38)))
  · have := ok.2.1
    rw [e1] at z
    omega
  · have := ok.2.2
    rw [e2] at z2
    omega
  · rw [e1] at z
    omega
  · rw [e2] at z2
    omega
def JI (A : AST) (R : RUT) (h h' : HP) : Prop := Ff XI XJ h h' ∧ RunA h' R ∧ KAt h' 138 0 (aR A)
theorem JI_sh {A : AST} {R : RUT} {h h' h2 : HP} (b : JI A R h h') (f : Ff SHI SHJ h' h2) : JI A R h h2 := by
  obtain ⟨b1, b2, b3⟩ := b
  refine ⟨b1.trans' (f.weak (fun b i q => by unfold SHI at q; unfold XI; omega) (fun b i q => by unfold SHJ at q; unfold XJ; omega)), RunA_ff f (fun q => by unfold SHI at q; omega) (fun q => by unfold SHI at q; omega) (fun i q => by unfold SHI at q; omega) (fun i q => by unfold SHI at q; omega) (fun i q => by unfold SHJ at q; omega) (fun i q => by unfold SHJ at q; omega) b2, ?_⟩
  have e : ∀ i, hI h2 138 i = hI h' 138 i := fun i => f.2.2.1 138 i (fun q => by unfold SHI at q; omega)
  unfold KAt
  simp only [e]
  exact b3
theorem JI_tail {R : RUT} {x1 x2 x3 x4 : Int32} {x5 x7 : Int64} {H : HP} (hs : Str h) (g : Good A) (c : MI h A) (hu : aU A = some R) (ji : JI A R h H)
    (nx : ∀ h', FM h h' → MI h' A → hJ h' 115 37 = hJ H 115 37 → hJ h' 115 38 = hJ H 115 38 → X 113 Q bc bs 191 [.ref 115, .int x1, .int x2, .int x3, .int x4, .long x5, UU, .long x7, UU] [] h') :
    X 110 (fun v h1 => X 113 Q bc bs 187 [.ref 115, .int x1, .int x2, .int x3, .int x4, .long x5, UU, .long x7, UU] (v.toList ++ []) h1) 0 0 0 [.ref 115, .ref 138, .int (0 : Int32), UU] [] H := by
  have hs1 := ji.1.str hs
  have z138 : zl H 138 = 37 := hs1.z 138 (by decide) (by decide)
  show X 110 _ 0 0 0 [.ref 115, .ref 138, .int (nI 0), UU] [] H
  refine sp_takes hs1 (Or.inr rfl) (hs1.k 138 (by decide) (by decide)) (by rw [z138]; omega) (by rw [z138]; omega) ji.2.2 (fun h2 f2 rm2 => ?_)
  have g2 : Ff XI XJ h h2 := ji.1.trans' (f2.weak (fun b i q => by unfold TKI at q; unfold XI; omega) (fun b i q => absurd q id))
  have hs2 := g2.str hs
  have ra2 := RunA_ff f2 (fun q => by unfold TKI at q; omega) (fun q => by unfold TKI at q; omega) (fun i q => by unfold TKI at q; omega) (fun i q => by unfold TKI at q; omega) (fun _ => id) (fun _ => id) ji.2.1
  refine b113_187 (hs2.k 115 (by decide) (by decide)) (sp_brings hs2 (g.2.2.1 R hu).1 ra2 (fun h3 f3 run3 => ?_))
  have g3 : Ff XI XJ h h3 := g2.trans' (f3.weak (fun b i q => by unfold BRI at q; unfold XI; omega) (fun b i q => by unfold BRJ at q; unfold XJ; omega))
  have rm3 := RM_ff f3 (fun q => by unfold BRI at q; omega) (fun q i _ _ z => by unfold BRI at z; omega) rm2
  have mi := MI_mix c hu g3 rm3 run3
  rw [mix_id hu] at mi
  exact nx h3 mi.2 mi.1 (by rw [f3.2.2.2 _ _ (fun q => by unfold BRJ at q; omega), f2.2.2.2 _ _ id]) (by rw [f3.2.2.2 _ _ (fun q => by unfold BRJ at q; omega), f2.2.2.2 _ _ id])
set_option maxHeartbeats 1000000 in
theorem n_joined {i k w : Int32} (hs : Str h) (g : Good A) (c : MI h A) (nx : ∀ h', FM h h' → MI h' A → Q (some (.long (f_joined A i k w))) h') : X 113 Q bc bs 0 [.ref 115, .int i, .int k, .int w, UU, UU, UU, UU, UU] [] h := by
  have k0 : kd h 115 = 9 := hs.k 115 (by decide) (by decide)
  have fm0 : FM h h := Fr.rfl'
  have no : ¬ ((0 ≤ i.toInt ∧ i.toInt ≤ 2) ∧ (0 ≤ k.toInt ∧ k.toInt ≤ 2) ∧ (0 ≤ w.toInt ∧ w.toInt ≤ 1)) → X 113 Q bc bs 52 [.ref 115, .int i, .int k, .int w, UU, UU, UU, UU, UU] [] h := fun hn => by
    have e : f_joined A i k w = UNS := by
      unfold f_joined
      rw [if_neg hn]
    have := nx h fm0 c
    rw [e] at this
    exact b113_52 this
  refine b113_0 (sp_72 (fun d1 => b113_9 (fun z => absurd z (by decide)) (fun _ => b113_12 (sp_72 (fun d2 => b113_21 (fun z => absurd z (by decide)) (fun _ => b113_24 (sp_72 (fun d3 => b113_31 (fun z => absurd z (by decide)) (fun _ => ?_)) (fun d3 => b113_31 (fun _ => no ?_) (fun z => absurd rfl z))))) (fun d2 => b113_21 (fun _ => no ?_) (fun z => absurd rfl z))))) (fun d1 => b113_9 (fun _ => no ?_) (fun z => absurd rfl z)))
  · simp only [Int32.le_iff_toInt_le, Int32.lt_iff_toInt_lt, Int64.le_iff_toInt_le, Int64.lt_iff_toInt_lt, Int32.toInt_toInt64, i32eq, i64eq, Int32.reduceToInt, Int64.reduceToInt, Int32.reduceOfInt] at d1 d2 d3
    obtain ⟨i', hi'⟩ : ∃ j : Nat, i.toInt = j := ⟨i.toInt.toNat, by omega⟩
    obtain ⟨k', hk'⟩ : ∃ j : Nat, k.toInt = j := ⟨k.toInt.toNat, by omega⟩
    have ei := toInt_io hi'
    have ek := toInt_io hk'
    subst ei
    subst ek
    have ii : i' < 3 := by omega
    have kk : k' < 3 := by omega
    have cii : (nI i').toNatClampNeg = i' := nI_clamp (by omega)
    have cik : (nI k').toNatClampNeg = k' := nI_clamp (by omega)
    unfold f_joined at nx
    rw [if_pos ⟨d1, d2, d3⟩, hi', hk', Int.toNat_natCast, Int.toNat_natCast] at nx
    have cmi := c.2.2.2.1 i' ii
    have cmk := c.2.2.2.1 k' kk
    have k134 : kd h 134 = 12 := hs.k 134 (by decide) (by decide)
    have z134 : zl h 134 = 3 := hs.z 134 (by decide) (by decide)
    have vi : vp_in (nI i') (zl h 134) := by rw [z134]; exact vp_in_nI ii (by omega)
    have vk : vp_in (nI k') (zl h 134) := by rw [z134]; exact vp_in_nI kk (by omega)
    cases hm : aM A i' with
    | none =>
      rw [hm] at nx
      exact b113_34 (r1 := 134) k0 (hs.r 115 32 (by decide)) k134 vi (fun _ => b113_52 (nx h fm0 c)) (fun z => absurd (by rw [cii]; exact cmi.1 hm) z)
    | some x =>
      have mi := cmi.2 x.1 x.2 hm
      refine b113_34 (r1 := 134) k0 (hs.r 115 32 (by decide)) k134 vi (fun z => absurd z (by rw [cii, mi.1]; decide)) (fun _ => ?_)
      cases hm2 : aM A k' with
      | none =>
        rw [hm2, jB_none2] at nx
        exact b113_43 (r1 := 134) k0 (hs.r 115 32 (by decide)) k134 vk (fun z => absurd (by rw [cik]; exact cmk.1 hm2) z) (fun _ => b113_52 (nx h fm0 c))
      | some y =>
        have mk := cmk.2 y.1 y.2 hm2
        rw [hm, hm2] at nx
        obtain ⟨p1, p2, R, hu⟩ := g.2.2.2.1 i' ii x.1 x.2 hm
        obtain ⟨q1, q2, _, _⟩ := g.2.2.2.1 k' kk y.1 y.2 hm2
        have rc := c.2.2.1.2 R hu
        have rw_ := g.2.2.1 R hu
        refine b113_43 (r1 := 134) k0 (hs.r 115 32 (by decide)) k134 vk (fun _ => b113_56 k0 (sp_keeps hs rw_.1 rc.2 (fun h1 f1 ra1 => ?_))) (fun z => absurd z (by rw [cik, mk.1]; decide))
        have g1 : Ff XI XJ h h1 := f1.weak (fun b i q => by unfold KRI at q; unfold XI; omega) (fun b i q => by unfold KRJ at q; unfold XJ; omega)
        have hs1 := g1.str hs
        have rm1 := RM_ff f1 (fun q => by unfold KRI at q; omega) (fun q i _ _ z => by unfold KRI at z; omega) c.2.1
        refine b113_60 (r1 := 138) (hs1.k 115 (by decide) (by decide)) (hs1.r 115 36 (by decide)) (hs1.k 138 (by decide) (by decide)) (by rw [hs1.z 138 (c := 37) (by decide) (by decide)]; exact vp_in_nI (n := 36) (by omega) (by omega)) ?_
        rw [show (36 : Int32).toNatClampNeg = 36 by decide, rm1.1]
        have f2 : Ff O8 (fun _ _ => False) h1 (sI h1 138 36 (nI (rn (aR A)))) := Ff.sI' (SI := O8) Ff.rfl' rfl
        have e36 : hI (sI h1 138 36 (nI (rn (aR A)))) 138 36 = nI (rn (aR A)) := by rw [hI_sI, if_pos rfl, if_pos rfl]
        generalize sI h1 138 36 (nI (rn (aR A))) = h2 at f2 e36 ⊢
        have hs2 := f2.str hs1
        have rm2 := RM_ff f2 (fun q => by unfold O8 at q; omega) (fun q i _ _ z => by unfold O8 at z; omega) rm1
        refine jo_loop hs2 rm2 (fun h3 f3 e3 hj3 => ?_) 12 0 h2 (by omega) Ff.rfl' rfl (fun j hj => absurd hj (by omega))
        have f23 := f2.trans' f3
        have ji3 : JI A R h h3 := ⟨g1.trans' (f23.weak (fun b i q => by unfold O8 at q; unfold XI; omega) (fun b i q => absurd q id)), RunA_ff f23 (fun q => by unfold O8 at q; omega) (fun q => by unfold O8 at q; omega) (fun i q => by unfold O8 at q; omega) (fun i q => by unfold O8 at q; omega) (fun _ => id) (fun _ => id) ra1, ⟨by rw [Nat.zero_add, e3]; exact e36, hj3⟩⟩
        have hs3 := ji3.1.str hs
        have tmf : ∀ {H : HP}, Ff XI XJ h H → TM H (aT A) := fun f => TM_ff f (fun q => by unfold XI at q; omega) (fun q i _ _ z => by unfold XI at z; omega) c.1
        have kaf : ∀ {H : HP} {j : Nat} {z : RGT × PST}, Ff XI XJ h H → (hI h 134 j = 1 ∧ KAt h 135 (40 * j) z.1 ∧ hI h 135 (40 * j + 37) = nI z.2.1 ∧ hJ h 136 j = jo z.2.2.1 ∧ hJ h 137 j = jo z.2.2.2) → KAt H 135 (40 * j) z.1 ∧ hI H 135 (40 * j + 37) = nI z.2.1 ∧ hJ H 136 j = jo z.2.2.1 ∧ hJ H 137 j = jo z.2.2.2 := fun {H j z} f m => by
          have e : ∀ i, hI H 135 i = hI h 135 i := fun i => f.2.2.1 135 i (fun q => by unfold XI at q; omega)
          have e1 : ∀ i, hJ H 136 i = hJ h 136 i := fun i => f.2.2.2 136 i (fun q => by unfold XJ at q; omega)
          have e2 : ∀ i, hJ H 137 i = hJ h 137 i := fun i => f.2.2.2 137 i (fun q => by unfold XJ at q; omega)
          unfold KAt
          simp only [e, e1, e2]
          exact m.2
        have m3 := kaf ji3.1 mi
        have bad : ∀ {H : HP} {x5 x7 : Int64} {x4 : Int32}, JI A R h H → ¬ (okJ (runOf (aT A) x.1 x.2) ∧ okJ (runOf (aT A) y.1 y.2)) → X 113 Q bc bs 175 [.ref 115, .int (nI i'), .int (nI k'), .int w, .int x4, .long x5, UU, .long x7, UU] [] H := fun {H x5 x7 x4} ji hn => by
          have hsH := ji.1.str hs
          refine b113_175 (r1 := 138) (hsH.k 115 (by decide) (by decide)) (hsH.r 115 36 (by decide)) (JI_tail hs g c hu ji (fun h' fm mi _ _ => b113_191 (fun z => absurd rfl z) (fun _ => b113_196 ?_)))
          have := nx h' fm mi
          rw [show jB (aT A) (some x) (some y) w = UNS from jA_no hn] at this
          exact this
        refine b113_139 (hs3.k 115 (by decide) (by decide)) (sp_shares hs3 (tmf ji3.1) g.1 ii p1 p2 m3.1 m3.2.1 m3.2.2.1 m3.2.2.2 (fun h4 f4 ok1 u1 l1 => ?_) (fun h4 f4 nk => ?_))
        · have ji4 := JI_sh ji3 f4
          have hs4 := ji4.1.str hs
          have m4 := kaf ji4.1 mk
          refine b113_144 (hs4.k 115 (by decide) (by decide)) (fun z => absurd z (by decide)) (fun _ => b113_163 (hs4.k 115 (by decide) (by decide)) (sp_shares hs4 (tmf ji4.1) g.1 kk q1 q2 m4.1 m4.2.1 m4.2.2.1 m4.2.2.2 (fun h5 f5 ok2 u2 l2 => ?_) (fun h5 f5 nk => b113_168 (fun _ => bad (JI_sh ji4 f5) (fun ok => nk ok.2)) (fun z => absurd rfl z))))
          have ji5 := JI_sh ji4 f5
          have hs5 := ji5.1.str hs
          refine b113_168 (fun z => absurd z (by decide)) (fun _ => b113_171 (r1 := 138) (hs5.k 115 (by decide) (by decide)) (hs5.r 115 36 (by decide)) (JI_tail hs g c hu ji5 (fun h6 fm6 mi6 e37 e38 => b113_191 (fun _ => ?_) (fun z => absurd z (by decide)))))
          have hs6 := fm6.str hs
          have jb := j_bound g.1 g.1 (runOf_RW g.1 p1 p2) (runOf_RW g.1 q1 q2) ok1 ok2
          refine b113_200 (hs6.k 115 (by decide) (by decide)) ?_
          rw [e37, e38, u1, l1, u2, l2, jo_mul, jo_mul, jo_mul, jo_mul, jo_add, jo_add]
          refine sp_gets (u := jU (runOf (aT A) x.1 x.2) (runOf (aT A) y.1 y.2)) (w := jL (runOf (aT A) x.1 x.2) (runOf (aT A) y.1 y.2)) (hs6.k 115 (by decide) (by decide)) jb.1 jb.2.1 jb.2.2.1 jb.2.2.2 ?_
          have x9 : hJ (gw h6 (rU (jU (runOf (aT A) x.1 x.2) (runOf (aT A) y.1 y.2)) (jL (runOf (aT A) x.1 x.2) (runOf (aT A) y.1 y.2))) (rL (jU (runOf (aT A) x.1 x.2) (runOf (aT A) y.1 y.2)) (jL (runOf (aT A) x.1 x.2) (runOf (aT A) y.1 y.2)))) 115 9 = _ := gw_9
          have x10 : hJ (gw h6 (rU (jU (runOf (aT A) x.1 x.2) (runOf (aT A) y.1 y.2)) (jL (runOf (aT A) x.1 x.2) (runOf (aT A) y.1 y.2))) (rL (jU (runOf (aT A) x.1 x.2) (runOf (aT A) y.1 y.2)) (jL (runOf (aT A) x.1 x.2) (runOf (aT A) y.1 y.2)))) 115 10 = _ := gw_10
          have mg := MI_scr ((MG.gw' (u := rU (jU (runOf (aT A) x.1 x.2) (runOf (aT A) y.1 y.2)) (jL (runOf (aT A) x.1 x.2) (runOf (aT A) y.1 y.2))) (w := rL (jU (runOf (aT A) x.1 x.2) (runOf (aT A) y.1 y.2)) (jL (runOf (aT A) x.1 x.2) (runOf (aT A) y.1 y.2))) MG.rfl').ff) (fun b i q => absurd q id) (fun b i q => Or.inl q.1) mi6
          have nx7 := nx _ (fm6.trans' mg.2) mg.1
          have hs7 := mg.2.str hs6
          refine b113_234 (fun z => b113_245 (hs7.k 115 (by decide) (by decide)) ?_) (fun z => b113_238 (hs7.k 115 (by decide) (by decide)) ?_)
          · rw [show jB (aT A) (some x) (some y) w = _ from jA_1 ⟨ok1, ok2⟩ z] at nx7
            show Q (some (.long (hJ (gw h6 _ _) 115 10))) (gw h6 _ _)
            rw [x10]
            exact nx7
          · rw [z, show jB (aT A) (some x) (some y) 0 = _ from jA_0 ⟨ok1, ok2⟩] at nx7
            show Q (some (.long (hJ (gw h6 _ _) 115 9))) (gw h6 _ _)
            rw [x9]
            exact nx7
        · have ji4 := JI_sh ji3 f4
          have hs4 := ji4.1.str hs
          exact b113_144 (hs4.k 115 (by decide) (by decide)) (fun _ => bad ji4 (fun ok => nk ok.1)) (fun z => absurd rfl z)
  · simp only [Int32.le_iff_toInt_le, Int32.lt_iff_toInt_lt, Int64.le_iff_toInt_le, Int64.lt_iff_toInt_lt, Int32.toInt_toInt64, i32eq, i64eq, Int32.reduceToInt, Int64.reduceToInt, Int32.reduceOfInt] at d1 d2 d3
    omega
  · simp only [Int32.le_iff_toInt_le, Int32.lt_iff_toInt_lt, Int64.le_iff_toInt_le, Int64.lt_iff_toInt_lt, Int32.toInt_toInt64, i32eq, i64eq, Int32.reduceToInt, Int64.reduceToInt, Int32.reduceOfInt] at d1 d2
    omega
  · simp only [Int32.le_iff_toInt_le, Int32.lt_iff_toInt_lt, Int64.le_iff_toInt_le, Int64.lt_iff_toInt_lt, Int32.toInt_toInt64, i32eq, i64eq, Int32.reduceToInt, Int64.reduceToInt, Int32.reduceOfInt] at d1
    omega
end JOM
