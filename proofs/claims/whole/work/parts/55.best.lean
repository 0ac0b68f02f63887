/-! best of the class. -/
def bstR (r : RGT) (i k q : Nat) : RGT := (rn r, rk r, fun x => if x = k then (q : Int) else if x = i then (q : Int) else ra r x, rb r)
def shU (R : RUT) : Int := rU (uWa R) (uWo R)
def shL (R : RUT) : Int := rL (uWa R) (uWo R)
noncomputable def bestOf (R : Nat → RUT) : Nat → Option Nat
  | 0 => none
  | q + 1 => match bestOf R q with
    | none => @ite _ (uSh (R q)) (Classical.propDecidable _) (some q) none
    | some b => @ite _ (uSh (R q) ∧ shU (R b) * shL (R q) < shU (R q) * shL (R b)) (Classical.propDecidable _) (some q) (some b)
def bR (A : AST) (i k : Nat) (s0 : PST) (q : Nat) : RUT := runOf (aT A) (bstR (aR A) i k q) s0
def fI (b : Option Nat) : Int32 := match b with
  | none => -1
  | some q => nI q
noncomputable def f_best (A : AST) (i k : Int32) : Int32 × AST := if (0 ≤ i.toInt ∧ i.toInt < rn (aR A)) ∧ (0 ≤ k.toInt ∧ k.toInt < rn (aR A)) ∧ rk (aR A) i.toInt.toNat ≤ 1 ∧ rk (aR A) k.toInt.toNat ≤ 1 then (match aU A with
  | none => (-6, wZ A (-6))
  | some R => match bestOf (bR A i.toInt.toNat k.toInt.toNat (uS R 0)) (tnp (aT A)) with
    | none => (-6, wZ A (-6))
    | some b => (nI b, wZ (wU (wG A (bstR (aR A) i.toInt.toNat k.toInt.toNat b)) (some (bR A i.toInt.toNat k.toInt.toNat (uS R 0) b))) 0)) else (-2, wZ A (-2))
theorem best_lt {R : Nat → RUT} : ∀ {n b : Nat}, bestOf R n = some b → b < n ∧ uSh (R b)
  | 0, b, h => by cases h
  | n + 1, b, h => by
    unfold bestOf at h
    cases hb : bestOf R n with
    | none =>
      rw [hb] at h
      simp only [] at h
      split at h
      · cases h
        rename_i q
        exact ⟨by omega, q⟩
      · cases h
    | some b' =>
      rw [hb] at h
      simp only [] at h
      have ih := best_lt hb
      split at h
      · cases h
        rename_i q
        exact ⟨by omega, q.1⟩
      · cases h
        exact ⟨by omega, ih.2⟩
theorem bstR_good {r : RGT} (rg : RGood r) {i k q : Nat} (hi : rk r i ≤ 1) (hk : rk r k ≤ 1) (hq : q ≤ 9) : RGood (bstR r i k q) := by
  refine ⟨rg.1, fun x hx => ?_⟩
  obtain ⟨a1, a2, a3, a4⟩ := rg.2 x hx
  show IB (rk r x) ∧ IB (if x = k then (q : Int) else if x = i then (q : Int) else ra r x) ∧ IB (rb r x) ∧ (x < rn r → PG (rk r x) (if x = k then (q : Int) else if x = i then (q : Int) else ra r x) (rb r x))
  by_cases e : x = k
  · rw [if_pos e]
    subst e
    refine ⟨a1, by unfold IB; omega, a3, fun z => ?_⟩
    have := a4 z
    unfold PG at this ⊢
    omega
  · rw [if_neg e]
    by_cases e2 : x = i
    · rw [if_pos e2]
      subst e2
      refine ⟨a1, by unfold IB; omega, a3, fun z => ?_⟩
      have := a4 z
      unfold PG at this ⊢
      omega
    · rw [if_neg e2]
      exact ⟨a1, a2, a3, a4⟩
theorem sh_bound {t : TBT} (tg : TG t) {R : RUT} (rw_ : RW t R) (sh : uSh R) : 0 ≤ shU R ∧ JB (shU R) ∧ 0 < shL R ∧ JB (shL R) := by
  obtain ⟨bm, bo, bl⟩ := u_bounds tg rw_
  have wp := sh.2.2
  have le := r_le (u := uWa R) wp
  unfold shU shL
  exact ⟨r_nonneg wp bo.2.2.2.1, by unfold JB; omega, rL_pos wp, by have := rL_pos (u := uWa R) wp; unfold JB; omega⟩
theorem G_best {A : AST} (g : Good A) (i k : Int32) : Good (f_best A i k).2 := by
  unfold f_best
  split
  · rename_i c
    cases hu : aU A with
    | none => exact Good_Z g _
    | some R =>
      simp only []
      cases hb : bestOf (bR A i.toInt.toNat k.toInt.toNat (uS R 0)) (tnp (aT A)) with
      | none => exact Good_Z g _
      | some b =>
        have bl := best_lt hb
        have h10 := g.1.1
        exact Good_Z (Good_B g (bstR_good g.2.1 c.2.2.1 c.2.2.2 (by omega)) ((g.2.2.1 R hu).2.1 0 (Nat.zero_le _))) _
  · exact Good_Z g _
section BST
variable {Q : Option Value → HP → Prop} {bc bs : Nat} {h : HP} {A : AST}
theorem sp_canTurn {i : Int32} {r : RGT} {b : Nat} (kb : RK h b) (rg : RG h b r) (rgd : RGood r) (y : (0 ≤ i.toInt ∧ i.toInt < rn r) ∧ rk r i.toInt.toNat ≤ 1 → Q (some (.int (1 : Int32))) h) (n : ¬ ((0 ≤ i.toInt ∧ i.toInt < rn r) ∧ rk r i.toInt.toNat ≤ 1) → Q (some (.int (0 : Int32))) h) : X 12 Q bc bs 0 [.ref b, .int i] [] h := by
  have h12 := rgd.1
  refine b12_0 kb.1.1 (sp_has kb rg rgd.1 (fun d => b12_5 (fun z => absurd z (by decide)) (fun _ => ?_)) (fun d => b12_5 (fun _ => b12_24 (n (fun z => d z.1))) (fun z => absurd rfl z)))
  obtain ⟨j, hj⟩ : ∃ j : Nat, i.toInt = j := ⟨i.toInt.toNat, by omega⟩
  have ei := toInt_io hj
  subst ei
  rw [hj, Int.toNat_natCast] at y n
  have cj : (nI j).toNatClampNeg = j := nI_clamp (by omega)
  have gj := rgd.2 j (by omega)
  have pk := PG_k (gj.2.2.2 (by omega))
  refine b12_8 kb.1.1 kb.1.2.1 kb.2.1.1 (by rw [kb.2.1.2]; exact vp_in_nI (by omega) (by omega)) ?_
  rw [cj, (rg.2 j (by omega)).1]
  refine sp_69 (fun z => b12_17 (fun u => absurd u (by decide)) (fun _ => b12_20 (y ⟨by omega, ?_⟩))) (fun z => b12_17 (fun _ => b12_24 (n (fun u => z ?_))) (fun u => absurd rfl u))
  · rcases z with z | z
    · rw [show (0 : Int32) = io 0 from rfl, io_eq gj.1 (by unfold IB; omega)] at z
      omega
    · rw [show (1 : Int32) = io 1 from rfl, io_eq gj.1 (by unfold IB; omega)] at z
      omega
  · rcases (show rk r j = 0 ∨ rk r j = 1 by omega) with e | e
    · exact Or.inl (by rw [e]; rfl)
    · exact Or.inr (by rw [e]; rfl)
theorem fI_1 {b : Option Nat} (hb : ∀ q, b = some q → q < 100) : fI b = -1 ↔ b = none := by
  cases b with
  | none => exact ⟨fun _ => rfl, fun _ => rfl⟩
  | some q =>
    refine ⟨fun z => ?_, fun z => by cases z⟩
    have hq := hb q rfl
    have z' : nI q = -1 := z
    simp only [Int32.le_iff_toInt_le, Int32.lt_iff_toInt_lt, Int64.le_iff_toInt_le, Int64.lt_iff_toInt_lt, Int32.toInt_toInt64, i32eq, i64eq, Int32.reduceToInt, Int64.reduceToInt, Int32.reduceOfInt] at z'
    rw [nI_toInt (by omega)] at z'
    omega
def BS (q : Nat) : Prop := q = 4 ∨ q = 5 ∨ (43 ≤ q ∧ q ≤ 85)
set_option maxHeartbeats 2000000 in
theorem bst_loop {i k : Nat} {R : RUT} (g : Good A) (c : CI h A) (hu : aU A = some R) (hi : i < rn (aR A)) (hk : k < rn (aR A)) (ki : rk (aR A) i ≤ 1) (kk : rk (aR A) k ≤ 1)
    (nx : ∀ h', Fr BS BS h h' → X 54 Q bc bs 175 [.ref 0, .int (nI i), .int (nI k), .int (fI (bestOf (bR A i k (uS R 0)) (tnp (aT A)))), .int (nI (tnp (aT A)))] [] h') :
    ∀ (f q : Nat) (h' : HP), q + f = tnp (aT A) → Fr BS BS h h' → hI h' 44 3 = nI (rn (aR A)) → (∀ x, x < 12 → hI h' 45 x = io (rk (aR A) x) ∧ hI h' 47 x = io (rb (aR A) x) ∧ (x ≠ i → x ≠ k → hI h' 46 x = io (ra (aR A) x))) → (∀ b, bestOf (bR A i k (uS R 0)) q = some b → RA h' 83 (shU (bR A i k (uS R 0) b)) (shL (bR A i k (uS R 0) b))) →
      X 54 Q bc bs 62 [.ref 0, .int (nI i), .int (nI k), .int (fI (bestOf (bR A i k (uS R 0)) q)), .int (nI q)] [] h' := by
  have h12 := g.2.1.1
  have h10 := g.1.1
  have rw_ := g.2.2.1 R hu
  have sg0 := rw_.2.1 0 (Nat.zero_le _)
  intro f
  induction f with
  | zero =>
    intro q h' hq fr e3 hr ha
    have ci := CI_scr fr (fun q e => e) (fun q e => e) g c
    have hs' := ci.1.1
    have e : q = tnp (aT A) := by omega
    subst e
    refine b54_62 (r1 := 2) (hs'.k 0 (by decide) (by decide)) (hs'.r 0 1 (by decide)) (hs'.k 2 (by decide) (by decide)) (fun _ => nx h' fr) (fun z => absurd ?_ z)
    rw [ci.1.2.1.1, nI_leI (by omega) (by omega)]
    exact Nat.le_refl _
  | succ f ih =>
    intro q h' hq fr e3 hr ha
    have ci := CI_scr fr (fun q e => e) (fun q e => e) g c
    have hs' := ci.1.1
    obtain ⟨w1, w2, w3, w4, w5⟩ := WKs_10 hs'
    have rk44 := RK_of hs' (b := 44) (Or.inr (Or.inl rfl))
    have cii : (nI i).toNatClampNeg = i := nI_clamp (by omega)
    have cik : (nI k).toNatClampNeg = k := nI_clamp (by omega)
    have rc := ci.1.2.2.2.1.2 R hu
    refine b54_62 (r1 := 2) (hs'.k 0 (by decide) (by decide)) (hs'.r 0 1 (by decide)) (hs'.k 2 (by decide) (by decide)) (fun z => absurd z ?_) (fun _ => b54_74 (r1 := 44) (r2 := 46) (r3 := 48) (r4 := 10) (r5 := 11) (r6 := 17) (r7 := 2) (hs'.k 0 (by decide) (by decide)) (hs'.r 0 5 (by decide)) rk44.1.1 rk44.1.2.2.1 rk44.2.2.1.1 (by rw [rk44.2.2.1.2]; exact vp_in_nI (by omega) (by omega)) (by rw [rk44.2.2.1.2]; exact vp_in_nI (by omega) (by omega)) (hs'.r 0 6 (by decide)) (hs'.r 0 3 (by decide)) w1.1 w1.2.1 (by rw [w2.1]; decide) (by rw [w2.1]; decide) (by rw [w2.2]; exact vp_in_nI (n := 0) (by omega) (by omega)) (w5 0 (by omega)).1 (hs'.r 0 1 (by decide)) (hs'.k 48 (by decide) (by decide)) ?_)
    · rw [ci.1.2.1.1, nI_leI (by omega) (by omega)]
      omega
    rw [cii, cik]
    have f1 : Fr BS BS h (sI (sI h' 46 i (nI q)) 46 k (nI q)) := Fr.sI' (Fr.sI' fr (show BS 46 from Or.inr (Or.inr ⟨by decide, by decide⟩))) (show BS 46 from Or.inr (Or.inr ⟨by decide, by decide⟩))
    have rg1 : RG (sI (sI h' 46 i (nI q)) 46 k (nI q)) 44 (bstR (aR A) i k q) := by
      refine ⟨by rw [hI_sI, if_neg (by decide), hI_sI, if_neg (by decide)]; exact e3, fun x hx => ?_⟩
      obtain ⟨a1, a2, a3⟩ := hr x hx
      show hI _ 45 x = io (rk (aR A) x) ∧ hI _ 46 x = io (if x = k then (q : Int) else if x = i then (q : Int) else ra (aR A) x) ∧ hI _ 47 x = io (rb (aR A) x)
      refine ⟨by rw [hI_sI, if_neg (by decide), hI_sI, if_neg (by decide)]; exact a1, ?_, by rw [hI_sI, if_neg (by decide), hI_sI, if_neg (by decide)]; exact a2⟩
      rw [hI_sI, if_pos rfl]
      by_cases e : x = k
      · rw [if_pos e, if_pos e, nI_io]
      · rw [if_neg e, if_neg e, hI_sI, if_pos rfl]
        by_cases e2 : x = i
        · rw [if_pos e2, if_pos e2, nI_io]
        · rw [if_neg e2, if_neg e2]
          exact a3 e2 e
    have a83 : ∀ b, bestOf (bR A i k (uS R 0)) q = some b → RA (sI (sI h' 46 i (nI q)) 46 k (nI q)) 83 (shU (bR A i k (uS R 0) b)) (shL (bR A i k (uS R 0) b)) := fun b hb => ha b hb
    have e45 : ∀ x, x < 12 → hI (sI (sI h' 46 i (nI q)) 46 k (nI q)) 45 x = io (rk (aR A) x) ∧ hI (sI (sI h' 46 i (nI q)) 46 k (nI q)) 47 x = io (rb (aR A) x) ∧ (x ≠ i → x ≠ k → hI (sI (sI h' 46 i (nI q)) 46 k (nI q)) 46 x = io (ra (aR A) x)) := fun x hx => by
      obtain ⟨a1, a2, a3⟩ := hr x hx
      refine ⟨by rw [hI_sI, if_neg (by decide), hI_sI, if_neg (by decide)]; exact a1, by rw [hI_sI, if_neg (by decide), hI_sI, if_neg (by decide)]; exact a2, fun z1 z2 => ?_⟩
      rw [hI_sI, if_pos rfl, if_neg z2, hI_sI, if_pos rfl, if_neg z1]
      exact a3 z1 z2
    have e443 : hI (sI (sI h' 46 i (nI q)) 46 k (nI q)) 44 3 = nI (rn (aR A)) := rg1.1
    generalize sI (sI h' 46 i (nI q)) 46 k (nI q) = h1 at f1 rg1 a83 e45 e443 ⊢
    have ci1 := CI_scr f1 (fun q e => e) (fun q e => e) g c
    have hs1 := ci1.1.1
    have rgd := bstR_good g.2.1 ki kk (show q ≤ 9 by omega)
    have rc1 := ci1.1.2.2.2.1.2 R hu
    have sk17 := ((WKs_10 hs1).2.2.2.2 0 (by omega)).2
    refine sp_go hs1 ci1.1.2.1 g.1 (WKs_48 hs1) (RK_of hs1 (Or.inr (Or.inl rfl))) rg1 rgd sk17 (rc1.2.1.2.2.1 0 (Nat.zero_le _)) sg0 (by decide) (by decide) (by omega) (fun h2 fw rc2 => ?_)
    have f2 : Fr BS BS h h2 := f1.trans' (fw.weak (fun q (z : 48 ≤ q ∧ q ≤ 48 + 32) => by show q = 4 ∨ q = 5 ∨ (43 ≤ q ∧ q ≤ 85); omega) (fun q (z : q = 4 ∨ q = 5 ∨ (48 ≤ q ∧ q ≤ 48 + 32)) => by show q = 4 ∨ q = 5 ∨ (43 ≤ q ∧ q ≤ 85); omega))
    have nI' : ∀ q, q < 48 → ¬ (48 ≤ q ∧ q ≤ 48 + 32) := fun q a z => by omega
    have e45' : ∀ x, x < 12 → hI h2 45 x = io (rk (aR A) x) ∧ hI h2 47 x = io (rb (aR A) x) ∧ (x ≠ i → x ≠ k → hI h2 46 x = io (ra (aR A) x)) := fun x hx => by
      rw [fw.2.2.1 45 (nI' _ (by decide)), fw.2.2.1 46 (nI' _ (by decide)), fw.2.2.1 47 (nI' _ (by decide))]
      exact e45 x hx
    have e443' : hI h2 44 3 = nI (rn (aR A)) := by
      rw [fw.2.2.1 44 (nI' _ (by decide))]
      exact e443
    have a83' : ∀ b, bestOf (bR A i k (uS R 0)) q = some b → RA h2 83 (shU (bR A i k (uS R 0) b)) (shL (bR A i k (uS R 0) b)) := fun b hb => RA_fr fw (show ¬ (83 = 4 ∨ 83 = 5 ∨ (48 ≤ 83 ∧ 83 ≤ 48 + 32)) by decide) (a83 b hb)
    have rt := rc2.2.2
    have rq : RW (aT A) (bR A i k (uS R 0) q) := runOf_RW g.1 rgd sg0
    have hs2 := f2.str c.1
    obtain ⟨v1, v2, v3, v4, v5⟩ := WKs_48 hs2
    have k0 : kd h2 0 = 8 := hs2.k 0 (by decide) (by decide)
    have k83 : kd h2 83 = 1 := hs2.k 83 (by decide) (by decide)
    have r06 := hs2.r 0 6 (b := 48) (by decide)
    have r08 := hs2.r 0 8 (b := 83) (by decide)
    have keep : bestOf (bR A i k (uS R 0)) (q + 1) = bestOf (bR A i k (uS R 0)) q → X 54 Q bc bs 169 [.ref 0, .int (nI i), .int (nI k), .int (fI (bestOf (bR A i k (uS R 0)) q)), .int (nI q)] [] h2 := fun e => by
      refine b54_169 ?_
      rw [show nI q + (1 : Int32) = nI (q + 1) from nI_1 q, ← e]
      exact ih (q + 1) h2 (by omega) f2 e443' e45' (fun b hb => a83' b (by rw [← e]; exact hb))
    have take : uSh (bR A i k (uS R 0) q) → bestOf (bR A i k (uS R 0)) (q + 1) = some q → ∀ x3, X 54 Q bc bs 152 [.ref 0, .int (nI i), .int (nI k), .int x3, .int (nI q)] [] h2 := fun sh e x3 => by
      refine b54_152 (r1 := 83) (r2 := 48) (r3 := 54) k0 r08 r06 v1.1 v1.2.2.2.2.2.2 k83 (sp_copy k83 v4.2.2.2 (rt.2.2.1 sh).2 (b54_169 ?_))
      rw [show nI q + (1 : Int32) = nI (q + 1) from nI_1 q]
      have ef : nI q = fI (bestOf (bR A i k (uS R 0)) (q + 1)) := by rw [e]; rfl
      conv => arg 6; rw [ef]
      refine ih (q + 1) _ (by omega) (Fr.wR' f2 (show BS 83 from Or.inr (Or.inr ⟨by decide, by decide⟩))) e443' e45' (fun b hb => ?_)
      rw [e] at hb
      cases hb
      exact RA_wR
    refine b54_120 (r1 := 48) k0 r06 v1.1 (fun z => keep ?_) (fun z => ?_)
    · have sh : ¬ uSh (bR A i k (uS R 0) q) := fun sh => by
        have z' : hI h2 48 10 = 0 := z
        rw [(rt.2.2.1 sh).1] at z'
        exact absurd z' (by decide)
      show (match bestOf (bR A i k (uS R 0)) q with | none => _ | some b => _) = _
      cases hb : bestOf (bR A i k (uS R 0)) q with
      | none => simp only [if_neg sh]
      | some b => simp only [if_neg (fun z : uSh (bR A i k (uS R 0) q) ∧ _ => sh z.1)]
    · have sh : uSh (bR A i k (uS R 0) q) := by
        rcases Classical.em (uSh (bR A i k (uS R 0) q)) with sh | sh
        · exact sh
        · exact absurd (rt.2.2.2 sh) z
      have shb := sh_bound g.1 rq sh
      cases hb : bestOf (bR A i k (uS R 0)) q with
      | none =>
        refine b54_130 (fun _ => take sh ?_ _) (fun u => absurd rfl u)
        show (match bestOf (bR A i k (uS R 0)) q with | none => _ | some b => _) = _
        rw [hb]
        simp only [if_pos sh]
      | some b =>
        have bl := best_lt hb
        have rqb : RW (aT A) (bR A i k (uS R 0) b) := runOf_RW g.1 (bstR_good g.2.1 ki kk (show b ≤ 9 by omega)) sg0
        have shb2 := sh_bound g.1 rqb bl.2
        refine b54_130 (fun u => absurd ((fI_1 (fun q' z => by cases z; omega)).mp u) (by simp)) (fun _ => b54_135 (r1 := 48) (r2 := 54) (r3 := 83) k0 r06 v1.1 v1.2.2.2.2.2.2 r08 v4.2.2.2 (sp_above v4.2.2.2 k83 (rt.2.2.1 sh).2 (a83' b hb) shb.1 shb.2.1 shb.2.2.1 shb.2.2.2 shb2.1 shb2.2.1 shb2.2.2.1 shb2.2.2.2 (fun u => b54_149 (fun z => absurd z (by decide)) (fun _ => take sh ?_ _)) (fun u => b54_149 (fun _ => ?_) (fun z => absurd rfl z))))
        · show (match bestOf (bR A i k (uS R 0)) q with | none => _ | some b => _) = _
          rw [hb]
          simp only [if_pos (show uSh (bR A i k (uS R 0) q) ∧ shU (bR A i k (uS R 0) b) * shL (bR A i k (uS R 0) q) < shU (bR A i k (uS R 0) q) * shL (bR A i k (uS R 0) b) from ⟨sh, u⟩)]
        · rw [← hb]
          refine keep ?_
          show (match bestOf (bR A i k (uS R 0)) q with | none => _ | some b => _) = _
          rw [hb]
          simp only [if_neg (show ¬ (uSh (bR A i k (uS R 0) q) ∧ shU (bR A i k (uS R 0) b) * shL (bR A i k (uS R 0) q) < shU (bR A i k (uS R 0) q) * shL (bR A i k (uS R 0) b)) from fun z => u z.2)]
set_option maxHeartbeats 1000000 in
theorem c_best {i k : Int32} (g : Good A) (c : CI h A) (nx : ∀ h', FC h h' → CI h' (f_best A i k).2 → Q (some (.int (f_best A i k).1)) h') : X 54 Q bc bs 0 [.ref 0, .int i, .int k, UU, UU] [] h := by
  have hs := c.1
  have k0 : kd h 0 = 8 := hs.k 0 (by decide) (by decide)
  have k10 : kd h 10 = 7 := hs.k 10 (by decide) (by decide)
  have rk6 := RK_of hs (b := 6) (Or.inl rfl)
  have r02 := hs.r 0 2 (b := 6) (by decide)
  have rg := c.2.2.1
  have h12 := g.2.1.1
  have h10 := g.1.1
  have cu := c.2.2.2.1
  have no : ¬ ((0 ≤ i.toInt ∧ i.toInt < rn (aR A)) ∧ (0 ≤ k.toInt ∧ k.toInt < rn (aR A)) ∧ rk (aR A) i.toInt.toNat ≤ 1 ∧ rk (aR A) k.toInt.toNat ≤ 1) → X 54 Q bc bs 22 [.ref 0, .int i, .int k, UU, UU] [] h := fun hn => by
    have e : f_best A i k = (-2, wZ A (-2)) := by
      unfold f_best
      rw [if_neg hn]
    rw [e] at nx
    exact b54_22 k0 (sp_refuse g c (fun h' fc ci => b54_28 (nx h' fc ci)))
  refine b54_0 (r1 := 6) k0 r02 rk6.1.1 (sp_canTurn rk6 rg g.2.1 (fun d1 => b54_8 (fun z => absurd z (by decide)) (fun _ => b54_11 (r1 := 6) k0 r02 rk6.1.1 (sp_canTurn rk6 rg g.2.1 (fun d2 => b54_19 (fun _ => ?_) (fun z => absurd z (by decide))) (fun d2 => b54_19 (fun z => absurd rfl z) (fun _ => no (fun z => d2 ⟨z.2.1, z.2.2.2⟩)))))) (fun d1 => b54_8 (fun _ => no (fun z => d1 ⟨z.1, z.2.2.1⟩)) (fun z => absurd rfl z)))
  obtain ⟨i', hi'⟩ : ∃ j : Nat, i.toInt = j := ⟨i.toInt.toNat, by omega⟩
  obtain ⟨k', hk'⟩ : ∃ j : Nat, k.toInt = j := ⟨k.toInt.toNat, by omega⟩
  have ei := toInt_io hi'
  have ek := toInt_io hk'
  subst ei
  subst ek
  unfold f_best at nx
  rw [if_pos ⟨d1.1, d2.1, d1.2, d2.2⟩] at nx
  rw [hi', Int.toNat_natCast] at d1 nx
  rw [hk', Int.toNat_natCast] at d2 nx
  cases hu : aU A with
  | none =>
    rw [hu] at nx
    exact b54_29 (r1 := 10) k0 (hs.r 0 3 (by decide)) k10 (fun z => absurd (cu.1 hu) z) (fun _ => b54_39 k0 (sp_refuse g c (fun h' fc ci => b54_45 (nx h' fc ci))))
  | some R =>
    rw [hu] at nx
    simp only [] at nx
    have rc := cu.2 R hu
    have rw_ := g.2.2.1 R hu
    have sg0 := rw_.2.1 0 (Nat.zero_le _)
    have rk44 := RK_of hs (b := 44) (Or.inr (Or.inl rfl))
    refine b54_29 (r1 := 10) k0 (hs.r 0 3 (by decide)) k10 (fun _ => b54_46 (r1 := 44) (r2 := 6) k0 (hs.r 0 5 (by decide)) r02 rk44.1.1 (sp_rcopy rk44 rk6 rg (by omega) (fun h1 f1 rg1 => b54_59 ?_))) (fun z => absurd z (by rw [rc.1]; decide))
    have f1' : Fr BS BS h h1 := f1.weak (fun q (z : 44 ≤ q ∧ q ≤ 44 + 3) => by show q = 4 ∨ q = 5 ∨ (43 ≤ q ∧ q ≤ 85); omega) (fun q z => absurd z id)
    refine bst_loop g c hu (by omega) (by omega) d1.2 d2.2 (fun h2 f2 => ?_) (tnp (aT A)) 0 h1 (by omega) f1' rg1.1 (fun x hx => ⟨(rg1.2 x hx).1, (rg1.2 x hx).2.2, fun _ _ => (rg1.2 x hx).2.1⟩) (fun b hb => by cases hb)
    have ci2 := CI_scr f2 (fun q e => e) (fun q e => e) g c
    have hs2 := ci2.1.1
    cases hb : bestOf (bR A i' k' (uS R 0)) (tnp (aT A)) with
    | none =>
      rw [hb] at nx
      exact b54_175 (fun z => absurd rfl z) (fun _ => b54_180 (hs2.k 0 (by decide) (by decide)) (sp_refuse g ci2.1 (fun h' fc ci => b54_186 (nx h' (ci2.2.trans' fc) ci))))
    | some b =>
      rw [hb] at nx
      simp only [] at nx
      have bl := best_lt hb
      have b9 : b ≤ 9 := by omega
      obtain ⟨w1, w2, w3, w4, w5⟩ := WKs_10 hs2
      have rk62 := RK_of hs2 (b := 6) (Or.inl rfl)
      have rg2 := ci2.1.2.2.1
      refine b54_175 (fun _ => b54_187 (r1 := 6) (r2 := 8) (r3 := 10) (r4 := 11) (r5 := 17) (r6 := 2) (hs2.k 0 (by decide) (by decide)) (hs2.r 0 2 (by decide)) rk62.1.1 rk62.1.2.2.1 rk62.2.2.1.1 (by rw [rk62.2.2.1.2]; exact vp_in_nI (by omega) (by omega)) (by rw [rk62.2.2.1.2]; exact vp_in_nI (by omega) (by omega)) (hs2.r 0 3 (by decide)) w1.1 w1.2.1 (by rw [w2.1]; decide) (by rw [w2.1]; decide) (by rw [w2.2]; exact vp_in_nI (n := 0) (by omega) (by omega)) (w5 0 (by omega)).1 (hs2.r 0 1 (by decide)) ?_) (fun u => absurd ((fI_1 (fun q' z => by cases z; omega)).mp u) (by simp))
      rw [nI_clamp (n := i') (by omega), nI_clamp (n := k') (by omega)]
      have rgd := bstR_good g.2.1 d1.2 d2.2 b9
      have f3 : Fr (fun q => 6 ≤ q ∧ q ≤ 9) (fun _ => False) h2 (sI (sI h2 8 i' (nI b)) 8 k' (nI b)) := Fr.sI' (Fr.sI' Fr.rfl' (by omega)) (by omega)
      have rg3 : RG (sI (sI h2 8 i' (nI b)) 8 k' (nI b)) 6 (bstR (aR A) i' k' b) := by
        refine ⟨by rw [hI_sI, if_neg (by decide), hI_sI, if_neg (by decide)]; exact rg2.1, fun x hx => ?_⟩
        obtain ⟨a1, a2, a3⟩ := rg2.2 x hx
        show hI _ 7 x = io (rk (aR A) x) ∧ hI _ 8 x = io (if x = k' then (b : Int) else if x = i' then (b : Int) else ra (aR A) x) ∧ hI _ 9 x = io (rb (aR A) x)
        refine ⟨by rw [hI_sI, if_neg (by decide), hI_sI, if_neg (by decide)]; exact a1, ?_, by rw [hI_sI, if_neg (by decide), hI_sI, if_neg (by decide)]; exact a3⟩
        rw [hI_sI, if_pos rfl]
        by_cases e : x = k'
        · rw [if_pos e, if_pos e, nI_io]
        · rw [if_neg e, if_neg e, hI_sI, if_pos rfl]
          by_cases e2 : x = i'
          · rw [if_pos e2, if_pos e2, nI_io]
          · rw [if_neg e2, if_neg e2]
            exact a2
      have ci3 := CI_ring g ci2.1 f3 rg3
      have hs3 := ci3.1.1
      have rc3 := ci3.1.2.2.2.1.2 R hu
      refine sp_go hs3 ci3.1.2.1 g.1 (WKs_10 hs3) (RK_of hs3 (Or.inl rfl)) rg3 rgd ((WKs_10 hs3).2.2.2.2 0 (by omega)).2 (rc3.2.1.2.2.1 0 (Nat.zero_le _)) sg0 (by decide) (by decide) (by omega) (fun h4 fw rc4 => ?_)
      have ci4 := CI_run (Good_G g rgd) ci3.1 fw rc4
      exact b54_231 (ci4.1.1.k 0 (by decide) (by decide)) (sp_accept (Good_B g rgd sg0) ci4.1 (fun h5 fc5 ci5 => b54_236 (nx h5 (ci2.2.trans' (ci3.2.trans' (ci4.2.trans' fc5))) ci5)))
end BST
