/-! run, image, back on both sides. -/
def wU (A : AST) (u : Option RUT) : AST := (aT A, aR A, u, aM A, aS A, aZ A)
def uIM (m : Nat → Option (RGT × PST)) (j : Nat) (v : Option (RGT × PST)) : Nat → Option (RGT × PST) := fun k => if k = j then v else m k
def wM (A : AST) (j : Nat) (v : Option (RGT × PST)) : AST := (aT A, aR A, aU A, uIM (aM A) j v, aS A, aZ A)
theorem SG_low {t : TBT} {p : Nat} {u w : Int} (hp : p < tnp t) (hw : 0 < w) (hw2 : w ≤ 10000000) (h0 : tF t p 0 * w ≤ u) (h1 : u ≤ tF t p (tpt t p - 1) * w) : SG t (p, rU u w, rL u w) := by
  have g0 := rg_pos (u := u) hw
  have e1 := rU_mul u w
  have e2 := rL_mul u w
  have le := r_le (u := u) hw
  refine ⟨hp, rL_pos hw, Int.le_trans le.2 hw2, r_cop hw, ?_, ?_⟩
  · show tF t p 0 * rL u w ≤ rU u w
    refine Int.le_of_mul_le_mul_right ?_ g0
    rw [e1, Int.mul_assoc, e2]
    exact h0
  · show rU u w ≤ tF t p (tpt t p - 1) * rL u w
    refine Int.le_of_mul_le_mul_right ?_ g0
    rw [e1, Int.mul_assoc, e2]
    exact h1
def f_run (A : AST) (p : Int32) (u w : Int64) : Int32 × AST := if 1 ≤ w.toInt ∧ w.toInt ≤ 10000000 then (if 0 ≤ p.toInt ∧ p.toInt < tnp (aT A) then (if tF (aT A) p.toInt.toNat 0 * w.toInt ≤ u.toInt ∧ u.toInt ≤ tF (aT A) p.toInt.toNat (tpt (aT A) p.toInt.toNat - 1) * w.toInt then (nI (um (runOf (aT A) (aR A) (p.toInt.toNat, rU u.toInt w.toInt, rL u.toInt w.toInt))), wZ (wU A (some (runOf (aT A) (aR A) (p.toInt.toNat, rU u.toInt w.toInt, rL u.toInt w.toInt)))) 0) else (-1, wZ A (-1))) else (-2, wZ A (-2))) else (-1, wZ A (-1))
def f_image (A : AST) (k : Int32) : Int32 × AST := if 0 ≤ k.toInt ∧ k.toInt ≤ 2 then (match aU A with | none => (-6, wZ A (-6)) | some R => (0, wZ (wM A k.toInt.toNat (some (aR A, uS R 0))) 0)) else (-1, wZ A (-1))
def f_back (A : AST) (k : Int32) : Int32 × AST := if 0 ≤ k.toInt ∧ k.toInt ≤ 2 then (match aM A k.toInt.toNat with | none => (-6, wZ A (-6)) | some x => (nI (um (runOf (aT A) x.1 x.2)), wZ (wU (wG A x.1) (some (runOf (aT A) x.1 x.2))) 0)) else (-1, wZ A (-1))
theorem Good_U {A : AST} (g : Good A) {R : RUT} (rw_ : RW (aT A) R) : Good (wU A (some R)) := by
  obtain ⟨g1, g2, g3, g4, g5⟩ := g
  exact ⟨g1, g2, fun R' e => by cases e; exact rw_, fun k hk r s e => ⟨(g4 k hk r s e).1, (g4 k hk r s e).2.1, ⟨R, rfl⟩⟩, g5⟩
theorem Good_M {A : AST} (g : Good A) {j : Nat} {r : RGT} {s : PST} (rg : RGood r) (sg : SG (aT A) s) {R : RUT} (hu : aU A = some R) : Good (wM A j (some (r, s))) := by
  obtain ⟨g1, g2, g3, g4, g5⟩ := g
  refine ⟨g1, g2, g3, fun k hk r' s' e => ?_, g5⟩
  have e' : uIM (aM A) j (some (r, s)) k = some (r', s') := e
  by_cases q : k = j
  · rw [show uIM (aM A) j (some (r, s)) k = some (r, s) by simp [uIM, q]] at e'
    cases e'
    exact ⟨rg, sg, R, hu⟩
  · rw [show uIM (aM A) j (some (r, s)) k = aM A k by simp [uIM, q]] at e'
    exact g4 k hk r' s' e'
theorem CI_run {h h' : HP} {A : AST} {R : RUT} (g : Good A) (c : CI h A) (f : FW 10 h h') (rc : RunC h' 10 R) : CI h' (wU A (some R)) ∧ FC h h' := by
  obtain ⟨c1, c2, c3, c4, c5, c6, c7⟩ := c
  have n : ∀ q, q < 10 ∨ 42 < q → ¬ (10 ≤ q ∧ q ≤ 10 + 32) := fun q a b => by omega
  have m : ∀ q, 42 < q → ¬ (q = 4 ∨ q = 5 ∨ (10 ≤ q ∧ q ≤ 10 + 32)) := fun q a b => by omega
  exact ⟨⟨f.str c1, TC_fr f (fun b q => n b (by omega)) (n 2 (by omega)) c2, RG_fr f (n _ (by omega)) (n _ (by omega)) (n _ (by omega)) (n _ (by omega)) c3, ⟨fun e => (by cases e), fun R' e => by cases e; exact rc⟩, CM_fr f (fun q a b => n q (by omega)) (fun q a b => m q (by omega)) c5, CS_fr f (fun q a b => n q (by omega)) c6, by rw [f.2.2.1 0 (n 0 (by omega))]; exact c7⟩, FC_fr f (fun q a b => n q (by omega)) (fun q a b => m q (by omega))⟩
def M2I (b i : Nat) : Prop := MRI b i ∨ (b = 115 ∧ i = 21)
theorem MI_run {h h' : HP} {A : AST} {R : RUT} (c : MI h A) (f : Ff M2I MRJ h h') (e21 : hI h' 115 21 = 1) (rm : RunM h' R) : MI h' (wU A (some R)) ∧ FM h h' := by
  obtain ⟨c1, c2, c3, c4, c5, c6⟩ := c
  have e116 : ∀ i, hI h' 116 i = hI h 116 i := fun i => f.2.2.1 116 i (fun q => by unfold M2I MRI at q; omega)
  have e117 : ∀ i, hI h' 117 i = hI h 117 i := fun i => f.2.2.1 117 i (fun q => by unfold M2I MRI at q; omega)
  have e118 : ∀ i, hI h' 118 i = hI h 118 i := fun i => f.2.2.1 118 i (fun q => by unfold M2I MRI at q; omega)
  have e134 : ∀ i, hI h' 134 i = hI h 134 i := fun i => f.2.2.1 134 i (fun q => by unfold M2I MRI at q; omega)
  have e135 : ∀ i, hI h' 135 i = hI h 135 i := fun i => f.2.2.1 135 i (fun q => by unfold M2I MRI at q; omega)
  have e136 : ∀ i, hJ h' 136 i = hJ h 136 i := fun i => f.2.2.2 136 i (fun q => by unfold MRJ at q; omega)
  have e137 : ∀ i, hJ h' 137 i = hJ h 137 i := fun i => f.2.2.2 137 i (fun q => by unfold MRJ at q; omega)
  refine ⟨⟨TM_ff f (fun q => by unfold M2I MRI at q; omega) (fun q i _ _ z => by unfold M2I MRI at z; omega) c1, RM_ff f (fun q => by unfold M2I MRI at q; omega) (fun q i _ _ z => by unfold M2I MRI at z; omega) c2, ⟨fun e => (by cases e), fun R' e => by cases e; exact ⟨e21, rm⟩⟩, fun k hk => ?_, fun s hs => ?_, by rw [f.2.2.1 115 0 (fun q => by unfold M2I MRI at q; omega)]; exact c6⟩, FM_ff f (fun b i q => by unfold M2I MRI at q; omega) (fun b i q => by unfold MRJ at q; omega)⟩
  · unfold KAt
    simp only [e134, e135, e136, e137]
    exact c4 k hk
  · simp only [e116, e117, e118]
    exact c5 s hs
theorem CI_img {h h' : HP} {A : AST} {j : Nat} {r : RGT} {s : PST} (g : Good A) (c : CI h A) (hj : j < 3) (f : Fr (fun q => 94 + 7 * j ≤ q ∧ q ≤ 100 + 7 * j) (fun q => 94 + 7 * j ≤ q ∧ q ≤ 100 + 7 * j) h h') (e1 : hI h' (94 + 7 * j) 2 = 1) (rg : RG h' (95 + 7 * j) r) (sa : SA h' (99 + 7 * j) s) : CI h' (wM A j (some (r, s))) ∧ FC h h' := by
  obtain ⟨c1, c2, c3, c4, c5, c6, c7⟩ := c
  have n : ∀ q, q < 94 ∨ 114 < q → ¬ (94 + 7 * j ≤ q ∧ q ≤ 100 + 7 * j) := fun q a b => by omega
  refine ⟨⟨f.str c1, TC_fr f (fun b q => n b (by omega)) (n 2 (by omega)) c2, RG_fr f (n _ (by omega)) (n _ (by omega)) (n _ (by omega)) (n _ (by omega)) c3, CU_fr f (fun R e => g.um e) (fun q a b => n q (by omega)) (fun q a b => n q (by omega)) c4, fun k hk => ?_, CS_fr f (fun q a b => n q (by omega)) c6, by rw [f.2.2.1 0 (n 0 (by omega))]; exact c7⟩, FC_fr f (fun q a b => n q (by omega)) (fun q a b => n q (by omega))⟩
  by_cases q : k = j
  · subst q
    show (uIM (aM A) k (some (r, s)) k = none → _) ∧ ∀ r' s', uIM (aM A) k (some (r, s)) k = some (r', s') → _
    rw [show uIM (aM A) k (some (r, s)) k = some (r, s) by simp [uIM]]
    refine ⟨fun e => (by cases e), fun r' s' e => ?_⟩
    cases e
    exact ⟨e1, rg, sa⟩
  · show (uIM (aM A) j (some (r, s)) k = none → _) ∧ ∀ r' s', uIM (aM A) j (some (r, s)) k = some (r', s') → _
    rw [show uIM (aM A) j (some (r, s)) k = aM A k by simp [uIM, q]]
    have nk : ∀ q, 94 + 7 * k ≤ q → q ≤ 100 + 7 * k → ¬ (94 + 7 * j ≤ q ∧ q ≤ 100 + 7 * j) := fun q a b z => by omega
    refine ⟨fun e => by rw [f.2.2.1 _ (nk _ (by omega) (by omega))]; exact (c5 k hk).1 e, fun r' s' e => ?_⟩
    obtain ⟨a1, a2, a3⟩ := (c5 k hk).2 r' s' e
    exact ⟨by rw [f.2.2.1 _ (nk _ (by omega) (by omega))]; exact a1, RG_fr f (nk _ (by omega) (by omega)) (nk _ (by omega) (by omega)) (nk _ (by omega) (by omega)) (nk _ (by omega) (by omega)) a2, SA_fr f (nk _ (by omega) (by omega)) (nk _ (by omega) (by omega)) a3⟩
def IMI (j b i : Nat) : Prop := (b = 134 ∧ i = j) ∨ (b = 135 ∧ 40 * j ≤ i ∧ i < 40 * j + 40)
def IMJ (j b i : Nat) : Prop := (b = 136 ∨ b = 137) ∧ i = j
theorem MI_img {h h' : HP} {A : AST} {j : Nat} {r : RGT} {s : PST} (c : MI h A) (hj : j < 3) (f : Ff (IMI j) (IMJ j) h h') (e1 : hI h' 134 j = 1) (ka : KAt h' 135 (40 * j) r) (e37 : hI h' 135 (40 * j + 37) = nI s.1) (eu : hJ h' 136 j = jo s.2.1) (ew : hJ h' 137 j = jo s.2.2) : MI h' (wM A j (some (r, s))) ∧ FM h h' := by
  obtain ⟨c1, c2, c3, c4, c5, c6⟩ := c
  have e116 : ∀ i, hI h' 116 i = hI h 116 i := fun i => f.2.2.1 116 i (fun q => by unfold IMI at q; omega)
  have e117 : ∀ i, hI h' 117 i = hI h 117 i := fun i => f.2.2.1 117 i (fun q => by unfold IMI at q; omega)
  have e118 : ∀ i, hI h' 118 i = hI h 118 i := fun i => f.2.2.1 118 i (fun q => by unfold IMI at q; omega)
  have e115 : ∀ i, hI h' 115 i = hI h 115 i := fun i => f.2.2.1 115 i (fun q => by unfold IMI at q; omega)
  refine ⟨⟨TM_ff f (fun q => by unfold IMI at q; omega) (fun q i _ _ z => by unfold IMI at z; omega) c1, RM_ff f (fun q => by unfold IMI at q; omega) (fun q i _ _ z => by unfold IMI at z; omega) c2, ⟨fun e => by rw [e115]; exact c3.1 e, fun R e => ⟨by rw [e115]; exact (c3.2 R e).1, RunM_ff f (fun q => by unfold IMI at q; omega) (fun q => by unfold IMI at q; omega) (fun i q => by unfold IMI at q; omega) (fun i q => by unfold IMI at q; omega) (fun i q => by unfold IMJ at q; omega) (fun i q => by unfold IMJ at q; omega) (c3.2 R e).2⟩⟩, fun k hk => ?_, fun s hs => ?_, by rw [e115]; exact c6⟩, FM_ff f (fun b i q => by unfold IMI at q; omega) (fun b i q => by unfold IMJ at q; omega)⟩
  · by_cases q : k = j
    · subst q
      show (uIM (aM A) k (some (r, s)) k = none → _) ∧ ∀ r' s', uIM (aM A) k (some (r, s)) k = some (r', s') → _
      rw [show uIM (aM A) k (some (r, s)) k = some (r, s) by simp [uIM]]
      refine ⟨fun e => (by cases e), fun r' s' e => ?_⟩
      cases e
      exact ⟨e1, ka, e37, eu, ew⟩
    · show (uIM (aM A) j (some (r, s)) k = none → _) ∧ ∀ r' s', uIM (aM A) j (some (r, s)) k = some (r', s') → _
      rw [show uIM (aM A) j (some (r, s)) k = aM A k by simp [uIM, q]]
      refine ⟨fun e => by rw [f.2.2.1 134 k (fun z => by unfold IMI at z; omega)]; exact (c4 k hk).1 e, fun r' s' e => ?_⟩
      obtain ⟨a1, ⟨a2, a3⟩, a4, a5, a6⟩ := (c4 k hk).2 r' s' e
      refine ⟨by rw [f.2.2.1 134 k (fun z => by unfold IMI at z; omega)]; exact a1, ⟨by rw [f.2.2.1 135 _ (fun z => by unfold IMI at z; omega)]; exact a2, fun i hi => ?_⟩, by rw [f.2.2.1 135 _ (fun z => by unfold IMI at z; omega)]; exact a4, by rw [f.2.2.2 136 k (fun z => by unfold IMJ at z; omega)]; exact a5, by rw [f.2.2.2 137 k (fun z => by unfold IMJ at z; omega)]; exact a6⟩
      rw [f.2.2.1 135 _ (fun z => by unfold IMI at z; omega), f.2.2.1 135 _ (fun z => by unfold IMI at z; omega), f.2.2.1 135 _ (fun z => by unfold IMI at z; omega)]
      exact a3 i hi
  · simp only [e116, e117, e118]
    exact c5 s hs
theorem G_run {A : AST} (g : Good A) (p : Int32) (u w : Int64) : Good (f_run A p u w).2 := by
  unfold f_run
  split
  · split
    · split
      · rename_i c1 c2 c3
        exact Good_Z (Good_U g (runOf_RW g.1 g.2.1 (SG_low (by omega) (by omega) (by omega) c3.1 c3.2))) _
      · exact Good_Z g _
    · exact Good_Z g _
  · exact Good_Z g _
theorem G_image {A : AST} (g : Good A) (k : Int32) : Good (f_image A k).2 := by
  unfold f_image
  split
  · cases hu : aU A with
    | none => exact Good_Z g _
    | some R => exact Good_Z (Good_M g g.2.1 ((g.2.2.1 R hu).2.1 0 (Nat.zero_le _)) hu) _
  · exact Good_Z g _
theorem Good_B {A : AST} (g : Good A) {r : RGT} {s : PST} (rg : RGood r) (sg : SG (aT A) s) : Good (wU (wG A r) (some (runOf (aT A) r s))) := Good_U (A := wG A r) (Good_G g rg) (runOf_RW g.1 rg sg)
theorem G_back {A : AST} (g : Good A) (k : Int32) : Good (f_back A k).2 := by
  unfold f_back
  split
  · cases hm : aM A k.toInt.toNat with
    | none => exact Good_Z g _
    | some x =>
      obtain ⟨a1, a2, a3⟩ := g.2.2.2.1 k.toInt.toNat (by omega) x.1 x.2 hm
      exact Good_Z (Good_B g a1 a2) _
  · exact Good_Z g _
section RUNS
variable {Q : Option Value → HP → Prop} {bc bs : Nat} {h : HP} {A : AST}
theorem c_run {p : Int32} {u w : Int64} (g : Good A) (c : CI h A) (nx : ∀ h', FC h h' → CI h' (f_run A p u w).2 → Q (some (.int (f_run A p u w).1)) h') : X 49 Q bc bs 0 [.ref 0, .int p, .long u, UU, .long w, UU, UU] [] h := by
  have hs := c.1
  have k0 : kd h 0 = 8 := hs.k 0 (by decide) (by decide)
  have h10 := g.1.1
  refine b49_0 (sp_67 (fun d => b49_5 (fun _ => b49_14 (r1 := 2) k0 (hs.r 0 1 (by decide)) (hs.k 2 (by decide) (by decide)) (sp_tab hs c.2.1 g.1.1 (fun p' T ep hp ct => ?_) (fun hn => b49_22a k0 (sp_refuse g c (fun h' fc ci => b49_35 ?_))))) (fun z => absurd z (by decide))) (fun d => b49_5 (fun z => absurd rfl z) (fun _ => b49_8 k0 (sp_refuse g c (fun h' fc ci => b49_13 ?_)))))
  · simp only [Int32.le_iff_toInt_le, Int32.lt_iff_toInt_lt, Int64.le_iff_toInt_le, Int64.lt_iff_toInt_lt, Int32.toInt_toInt64, i32eq, i64eq, Int32.reduceToInt, Int64.reduceToInt, Int32.reduceOfInt] at d
    have gp := g.1.2 p' hp
    have epi : p.toInt = p' := by rw [ep]; exact nI_toInt (by omega)
    obtain ⟨t1, t2, t3, t4, t5, t6, t7, t8, t9, t10⟩ := id ct
    have eu : u = jo u.toInt := (jo_of u).symm
    have ew : w = jo w.toInt := (jo_of w).symm
    have ju := JB_of u
    have jw := JB_of w
    have ef : f_run A p u w = (if tF (aT A) p' 0 * w.toInt ≤ u.toInt ∧ u.toInt ≤ tF (aT A) p' (tpt (aT A) p' - 1) * w.toInt then (nI (um (runOf (aT A) (aR A) (p', rU u.toInt w.toInt, rL u.toInt w.toInt))), wZ (wU A (some (runOf (aT A) (aR A) (p', rU u.toInt w.toInt, rL u.toInt w.toInt)))) 0) else (-1, wZ A (-1))) := by
      unfold f_run
      rw [epi, Int.toNat_natCast, if_pos d, if_pos (by omega)]
    rw [eu, ew]
    refine b49_22b t3 (sp_holds t3 t4 t7 gp.1 gp.2.1 t8 ju (by omega) jw (fun q => b49_44 (fun _ => ?_) (fun z => absurd z (by decide))) (fun q => b49_44 (fun z => absurd rfl z) (fun _ => b49_47 k0 (sp_refuse g c (fun h' fc ci => b49_52 ?_)))))
    · rw [if_pos q.2] at ef
      rw [ef] at nx
      have gb := (gp.2.2.1 0 (by have := gp.1; omega)).1
      have hq0 : 0 ≤ tF (aT A) p' 0 * w.toInt := Int.mul_nonneg gb.1 (by omega)
      have sg := SG_low hp (by omega) d.2 q.2.1 q.2.2
      generalize u.toInt = U at *
      generalize w.toInt = W at *
      have k81 : SK h 81 := ⟨hs.k 81 (by decide) (by decide), hs.r 81 0 (by decide), hs.k 82 (by decide) (by decide)⟩
      refine b49_53 (r1 := 81) k0 (hs.r 0 7 (by decide)) k81.1 (b19_0 k81.1 k81.2.1 k81.2.2 (sp_put k81.2.2 ju (by omega) q.1 jw (b19_15 ?_)))
      have f1 : Fr (fun q => q = 81) (fun q => q = 82) h (wR (sI h 81 1 p) 82 (rU U W) (rL U W)) := Fr.wR' (Fr.sI' (SI := fun q => q = 81) Fr.rfl' rfl) rfl
      have s81 : SA (wR (sI h 81 1 p) 82 (rU U W) (rL U W)) 81 (p', rU U W, rL U W) := ⟨by show hI (sI h 81 1 p) 81 1 = nI p'; rw [hI_sI, if_pos rfl, if_pos rfl]; exact ep, RA_wR⟩
      generalize wR (sI h 81 1 p) 82 (rU U W) (rL U W) = h1 at f1 s81 ⊢
      have ci1 := CI_scr f1 (fun q e => by omega) (fun q e => by omega) g c
      have hs1 := ci1.1.1
      refine b49_64 (r1 := 10) (r2 := 6) (r3 := 81) (r4 := 2) (hs1.k 0 (by decide) (by decide)) (hs1.r 0 3 (by decide)) (hs1.r 0 2 (by decide)) (hs1.r 0 7 (by decide)) (hs1.r 0 1 (by decide)) (hs1.k 10 (by decide) (by decide)) (sp_go hs1 ci1.1.2.1 g.1 (WKs_10 hs1) (RK_of hs1 (Or.inl rfl)) ci1.1.2.2.1 g.2.1 (SK_fr f1 k81) s81 sg (by decide) (by decide) (by omega) (fun h2 fw rc => ?_))
      have ci2 := CI_run g ci1.1 fw rc
      have hs2 := ci2.1.1
      refine b49_83 (r1 := 10) (hs2.k 0 (by decide) (by decide)) (hs2.r 0 3 (by decide)) (hs2.k 10 (by decide) (by decide)) ?_
      rw [rc.2.1.1]
      exact sp_accept (Good_U g (runOf_RW g.1 g.2.1 sg)) ci2.1 (fun h3 fc3 ci3 => b49_94 (nx h3 (ci1.2.trans' (ci2.2.trans' fc3)) ci3))
    · rw [if_neg (fun z => q ⟨by omega, z.1, z.2⟩)] at ef
      rw [ef] at nx
      exact nx h' fc ci
  · simp only [Int32.le_iff_toInt_le, Int32.lt_iff_toInt_lt, Int64.le_iff_toInt_le, Int64.lt_iff_toInt_lt, Int32.toInt_toInt64, i32eq, i64eq, Int32.reduceToInt, Int64.reduceToInt, Int32.reduceOfInt] at d
    have e : f_run A p u w = (-2, wZ A (-2)) := by
      unfold f_run
      rw [if_pos d, if_neg hn]
    rw [e] at nx
    exact nx h' fc ci
  · simp only [Int32.le_iff_toInt_le, Int32.lt_iff_toInt_lt, Int64.le_iff_toInt_le, Int64.lt_iff_toInt_lt, Int32.toInt_toInt64, i32eq, i64eq, Int32.reduceToInt, Int64.reduceToInt, Int32.reduceOfInt] at d
    have e : f_run A p u w = (-1, wZ A (-1)) := by
      unfold f_run
      rw [if_neg d]
    rw [e] at nx
    exact nx h' fc ci
theorem n_run {p : Int32} {u w : Int64} (hs : Str h) (g : Good A) (c : MI h A) (nx : ∀ h', FM h h' → MI h' (f_run A p u w).2 → Q (some (.int (f_run A p u w).1)) h') : X 96 Q bc bs 0 [.ref 115, .int p, .long u, UU, .long w, UU] [] h := by
  have k0 : kd h 115 = 9 := hs.k 115 (by decide) (by decide)
  have h10 := g.1.1
  refine b96_0 (sp_72 (fun d => b96_9 (fun _ => b96_18 k0 (sp_isP hs c.1 g.1.1 (fun d1 => b96_23 (fun _ => ?_) (fun z => absurd z (by decide))) (fun d1 => b96_23 (fun z => absurd rfl z) (fun _ => b96_26 k0 (sp_endsN hs c (by decide) (fun h' fm mi => b96_32 ?_)))))) (fun z => absurd z (by decide))) (fun d => b96_9 (fun z => absurd rfl z) (fun _ => b96_12 k0 (sp_endsN hs c (by decide) (fun h' fm mi => b96_17 ?_)))))
  · simp only [Int32.le_iff_toInt_le, Int32.lt_iff_toInt_lt, Int64.le_iff_toInt_le, Int64.lt_iff_toInt_lt, Int32.toInt_toInt64, i32eq, i64eq, Int32.reduceToInt, Int64.reduceToInt, Int32.reduceOfInt] at d
    obtain ⟨p', hp'⟩ : ∃ j : Nat, p.toInt = j := ⟨p.toInt.toNat, by omega⟩
    have ep := toInt_io hp'
    subst ep
    have hp : p' < tnp (aT A) := by omega
    have gp := g.1.2 p' hp
    have gn2 := gp.1
    have gb := (gp.2.2.1 0 (by omega)).1
    have gl := (gp.2.2.1 (tpt (aT A) p' - 1) (by omega)).1
    have hq0 : 0 ≤ tF (aT A) p' 0 * w.toInt := Int.mul_nonneg gb.1 (by omega)
    have hq1 : tF (aT A) p' (tpt (aT A) p' - 1) * w.toInt ≤ 1000 * w.toInt := Int.mul_le_mul_of_nonneg_right gl.2 (by omega)
    have ef : f_run A (nI p') u w = (if tF (aT A) p' 0 * w.toInt ≤ u.toInt ∧ u.toInt ≤ tF (aT A) p' (tpt (aT A) p' - 1) * w.toInt then (nI (um (runOf (aT A) (aR A) (p', rU u.toInt w.toInt, rL u.toInt w.toInt))), wZ (wU A (some (runOf (aT A) (aR A) (p', rU u.toInt w.toInt, rL u.toInt w.toInt)))) 0) else (-1, wZ A (-1))) := by
      unfold f_run
      rw [hp', Int.toNat_natCast, if_pos d, if_pos (by omega)]
    have bad : ¬ (tF (aT A) p' 0 * w.toInt ≤ u.toInt ∧ u.toInt ≤ tF (aT A) p' (tpt (aT A) p' - 1) * w.toInt) → X 96 Q bc bs 55 [.ref 115, .int (nI p'), .long u, UU, .long w, UU] [] h := fun hb => by
      rw [if_neg hb] at ef
      rw [ef] at nx
      exact b96_55 k0 (sp_endsN hs c (by decide) (fun h' fm mi => b96_60 (nx h' fm mi)))
    refine b96_33 (sp_72 (fun d2 => b96_41 (fun z => absurd z (by decide)) (fun _ => b96_44 k0 ?_)) (fun d2 => b96_41 (fun _ => bad ?_) (fun z => absurd rfl z)))
    · simp only [Int32.le_iff_toInt_le, Int32.lt_iff_toInt_lt, Int64.le_iff_toInt_le, Int64.lt_iff_toInt_lt, Int32.toInt_toInt64, i32eq, i64eq, Int32.reduceToInt, Int64.reduceToInt, Int32.reduceOfInt] at d2
      have eu : u = jo u.toInt := (jo_of u).symm
      have ew : w = jo w.toInt := (jo_of w).symm
      have ju := JB_of u
      have jw := JB_of w
      rw [eu, ew]
      refine sp_within hs c.1 g.1 hp ju (by omega) (fun q => b96_52 (fun _ => ?_) (fun z => absurd z (by decide))) (fun q => b96_52 (fun z => absurd rfl z) (fun _ => ?_))
      · rw [if_pos q] at ef
        rw [ef] at nx
        have sg := SG_low hp (by omega) d.2 q.1 q.2
        generalize u.toInt = U at *
        generalize w.toInt = W at *
        refine b96_61 k0 (sp_runs hs c.1 g.1 c.2.1 g.2.1 ju (by omega) (by omega) jw sg (fun h1 mr rm => ?_))
        have hs1 := mr.str hs
        have e19 : hI (sI h1 115 21 1) 115 19 = nI (um (runOf (aT A) (aR A) (p', rU U W, rL U W))) := by
          rw [hI_sI, if_pos rfl, if_neg (by decide)]
          exact rm.1
        refine b96_69 (hs1.k 115 (by decide) (by decide)) ?_
        rw [e19]
        have f2 : Ff M2I MRJ h (sI h1 115 21 1) := Ff.sI' (Ff.weak mr (fun b i q => Or.inl q) (fun _ _ q => q)) (Or.inr ⟨rfl, rfl⟩)
        have f3 : Ff (fun b i => b = 115 ∧ i = 21) (fun _ _ => False) h1 (sI h1 115 21 1) := Ff.sI' Ff.rfl' ⟨rfl, rfl⟩
        have mi := MI_run c f2 (by rw [hI_sI, if_pos rfl, if_pos rfl]) (RunM_ff f3 (fun q => by omega) (fun q => by omega) (fun i q => by omega) (fun i q => by omega) (fun _ => id) (fun _ => id) rm)
        have hm := (runOf_RW g.1 g.2.1 sg).1
        exact sp_endsP (mi.2.str hs) mi.1 (by rw [nI_toInt (by omega)]; omega) (fun h' fm' mi' => b96_82 (nx h' (mi.2.trans' fm') mi'))
      · rw [← eu, ← ew]
        exact bad q
    · simp only [Int32.le_iff_toInt_le, Int32.lt_iff_toInt_lt, Int64.le_iff_toInt_le, Int64.lt_iff_toInt_lt, Int32.toInt_toInt64, i32eq, i64eq, Int32.reduceToInt, Int64.reduceToInt, Int32.reduceOfInt] at d2
      omega
  · simp only [Int32.le_iff_toInt_le, Int32.lt_iff_toInt_lt, Int64.le_iff_toInt_le, Int64.lt_iff_toInt_lt, Int32.toInt_toInt64, i32eq, i64eq, Int32.reduceToInt, Int64.reduceToInt, Int32.reduceOfInt] at d
    have e : f_run A p u w = (-2, wZ A (-2)) := by
      unfold f_run
      rw [if_pos d, if_neg d1]
    rw [e] at nx
    exact nx h' fm mi
  · simp only [Int32.le_iff_toInt_le, Int32.lt_iff_toInt_lt, Int64.le_iff_toInt_le, Int64.lt_iff_toInt_lt, Int32.toInt_toInt64, i32eq, i64eq, Int32.reduceToInt, Int64.reduceToInt, Int32.reduceOfInt] at d
    have e : f_run A p u w = (-1, wZ A (-1)) := by
      unfold f_run
      rw [if_neg d]
    rw [e] at nx
    exact nx h' fm mi
theorem img_k {j : Nat} (hs : Str h) (hj : j < 3) : kd h (94 + 7 * j) = 0 ∧ hR h (94 + 7 * j) 0 = some (95 + 7 * j) ∧ hR h (94 + 7 * j) 1 = some (99 + 7 * j) ∧ SK h (99 + 7 * j) ∧ RK h (95 + 7 * j) ∧ hR h 43 j = some (94 + 7 * j) := by
  have e : ∀ j, j < 3 → (94 + 7 * j, 0, 95 + 7 * j) ∈ RT ∧ (94 + 7 * j, 1, 99 + 7 * j) ∈ RT := by decide +kernel
  have e'' : ∀ j, j < 3 → (99 + 7 * j, 0, 99 + 7 * j + 1) ∈ RT ∧ (43, j, 94 + 7 * j) ∈ RT := by decide +kernel
  have e' : ∀ j, j < 3 → (K0.getD (94 + 7 * j) (99, 0)).1 = 0 ∧ (K0.getD (99 + 7 * j) (99, 0)).1 = 4 ∧ (K0.getD (99 + 7 * j + 1) (99, 0)).1 = 1 := by decide +kernel
  obtain ⟨e1, e2⟩ := e j hj
  obtain ⟨e3, e4⟩ := e'' j hj
  obtain ⟨e5, e6, e7⟩ := e' j hj
  exact ⟨hs.k _ e5 (by decide), hs.r _ 0 e1, hs.r _ 1 e2, ⟨hs.k _ e6 (by decide), hs.r _ 0 e3, hs.k _ e7 (by decide)⟩, RK_of hs (by omega), hs.r 43 j e4⟩
theorem sp_imageAt {k : Int32} (hs : Str h) (y : ∀ j, j < 3 → k = nI j → Q (some (.ref (94 + 7 * j))) h) (n : ¬ (0 ≤ k.toInt ∧ k.toInt ≤ 2) → Q (some .null) h) : X 63 Q bc bs 0 [.ref 0, .int k] [] h := by
  refine b63_0 (sp_66 (fun c => b63_6 (fun d => absurd d (by decide)) (fun _ => ?_)) (fun c => b63_6 (fun _ => b63_18 (n ?_)) (fun d => absurd rfl d)))
  · simp only [Int32.le_iff_toInt_le, Int32.lt_iff_toInt_lt, Int64.le_iff_toInt_le, Int64.lt_iff_toInt_lt, Int32.toInt_toInt64, i32eq, i64eq, Int32.reduceToInt, Int64.reduceToInt, Int32.reduceOfInt] at c
    obtain ⟨j, hj⟩ : ∃ j : Nat, k.toInt = j := ⟨k.toInt.toNat, by omega⟩
    have e := toInt_io hj
    refine b63_9 (r1 := 43) (r2 := 94 + 7 * j) (hs.k 0 (by decide) (by decide)) (hs.r 0 4 (by decide)) (by rw [hs.k 43 (c := 13) (by decide) (by decide)]; decide) (by rw [hs.k 43 (c := 13) (by decide) (by decide)]; decide) ?_ ?_ (y j (by omega) e)
    · rw [hs.z 43 (c := 3) (by decide) (by decide), e]
      exact vp_in_nI (by omega) (by omega)
    · rw [e, nI_clamp (by omega)]
      exact (img_k hs (by omega)).2.2.2.2.2
  · simp only [Int32.le_iff_toInt_le, Int32.lt_iff_toInt_lt, Int64.le_iff_toInt_le, Int64.lt_iff_toInt_lt, Int32.toInt_toInt64, i32eq, i64eq, Int32.reduceToInt, Int64.reduceToInt, Int32.reduceOfInt] at c
    exact c
theorem c_image {k : Int32} (g : Good A) (c : CI h A) (nx : ∀ h', FC h h' → CI h' (f_image A k).2 → Q (some (.int (f_image A k).1)) h') : X 55 Q bc bs 0 [.ref 0, .int k, UU] [] h := by
  have hs := c.1
  have k0 : kd h 0 = 8 := hs.k 0 (by decide) (by decide)
  have k10 : kd h 10 = 7 := hs.k 10 (by decide) (by decide)
  have cu := c.2.2.2.1
  refine b55_0 k0 (sp_imageAt hs (fun j hj e => ?_) (fun hn => b55_5a k0 (sp_refuse g c (fun h' fc ci => b55_15 ?_))))
  · subst e
    unfold f_image at nx
    rw [nI_toInt (by omega), Int.toNat_natCast, if_pos (by omega)] at nx
    cases hu : aU A with
    | none =>
      rw [hu] at nx
      exact b55_5b (r1 := 10) k0 (hs.r 0 3 (by decide)) k10 (fun z => absurd (cu.1 hu) z) (fun _ => b55_26 k0 (sp_refuse g c (fun h' fc ci => b55_32 (nx h' fc ci))))
    | some R =>
      rw [hu] at nx
      have rc := cu.2 R hu
      have rw_ := g.2.2.1 R hu
      obtain ⟨i1, i2, i3, i4, i5, i6⟩ := img_k hs hj
      refine b55_5b (r1 := 10) k0 (hs.r 0 3 (by decide)) k10 (fun _ => b55_33 (r2 := 6) i1 i2 k0 (hs.r 0 2 (by decide)) i5.1.1 ?_) (fun z => absurd z (by rw [rc.1]; decide))
      have f1 : Fr (fun q => 94 + 7 * j ≤ q ∧ q ≤ 100 + 7 * j) (fun q => 94 + 7 * j ≤ q ∧ q ≤ 100 + 7 * j) h (sI h (94 + 7 * j) 2 1) := Fr.sI' Fr.rfl' (show 94 + 7 * j ≤ 94 + 7 * j ∧ 94 + 7 * j ≤ 100 + 7 * j by omega)
      have e1 : hI (sI h (94 + 7 * j) 2 1) (94 + 7 * j) 2 = 1 := by rw [hI_sI, if_pos rfl, if_pos rfl]
      generalize sI h (94 + 7 * j) 2 1 = h1 at f1 e1 ⊢
      have nn : ∀ q, q < 94 → ¬ (94 + 7 * j ≤ q ∧ q ≤ 100 + 7 * j) := fun q a b => by omega
      have rg1 := RG_fr f1 (nn 6 (by omega)) (nn 7 (by omega)) (nn 8 (by omega)) (nn 9 (by omega)) c.2.2.1
      have hs1 := f1.str hs
      refine sp_rcopy (RK_fr f1 i5) (RK_of hs1 (Or.inl rfl)) rg1 (by omega) (fun h2 f2 rg2 => ?_)
      have f2' : Fr (fun q => 94 + 7 * j ≤ q ∧ q ≤ 100 + 7 * j) (fun q => 94 + 7 * j ≤ q ∧ q ≤ 100 + 7 * j) h h2 := f1.trans' (f2.weak (fun q (z : 95 + 7 * j ≤ q ∧ q ≤ 95 + 7 * j + 3) => by show 94 + 7 * j ≤ q ∧ q ≤ 100 + 7 * j; omega) (fun q z => absurd z id))
      have hs2 := f2'.str hs
      have e2 : hI h2 (94 + 7 * j) 2 = 1 := by
        rw [f2.2.2.1 _ (show ¬ (95 + 7 * j ≤ 94 + 7 * j ∧ 94 + 7 * j ≤ 95 + 7 * j + 3) by omega)]
        exact e1
      obtain ⟨w1, w2, w3, w4, w5⟩ := WKs_10 hs2
      have sa0 := SA_fr f2' (nn 17 (by omega)) (nn 18 (by omega)) (rc.2.1.2.2.1 0 (Nat.zero_le _))
      refine b55_49 (r1 := 99 + 7 * j) (r2 := 10) (r3 := 11) (r4 := 17) (by rw [f2'.kd']; exact i1) (by rw [f2'.hR']; exact i3) (hs2.k 0 (by decide) (by decide)) (hs2.r 0 3 (by decide)) (hs2.k 10 (by decide) (by decide)) w1.2.1 (by rw [w2.1]; decide) (by rw [w2.1]; decide) (by rw [w2.2]; exact vp_in_nI (n := 0) (by omega) (by omega)) (w5 0 (by omega)).1 (by rw [f2'.kd']; exact i4.1) (sp_scopy (SK_fr f2' i4) (w5 0 (by omega)).2 sa0 ?_)
      have f3 : Fr (fun q => 94 + 7 * j ≤ q ∧ q ≤ 100 + 7 * j) (fun q => 94 + 7 * j ≤ q ∧ q ≤ 100 + 7 * j) h (wR (sI h2 (99 + 7 * j) 1 (nI (uS R 0).1)) (99 + 7 * j + 1) (uS R 0).2.1 (uS R 0).2.2) := Fr.wR' (Fr.sI' f2' (show 94 + 7 * j ≤ 99 + 7 * j ∧ 99 + 7 * j ≤ 100 + 7 * j by omega)) (show 94 + 7 * j ≤ 99 + 7 * j + 1 ∧ 99 + 7 * j + 1 ≤ 100 + 7 * j by omega)
      have fx : Fr (fun q => q = 99 + 7 * j) (fun q => q = 99 + 7 * j + 1) h2 (wR (sI h2 (99 + 7 * j) 1 (nI (uS R 0).1)) (99 + 7 * j + 1) (uS R 0).2.1 (uS R 0).2.2) := Fr.wR' (Fr.sI' (SI := fun q => q = 99 + 7 * j) Fr.rfl' rfl) rfl
      have ci := CI_img (r := aR A) (s := uS R 0) g c hj f3 (by rw [fx.2.2.1 _ (fun z => by omega)]; exact e2) (RG_fr fx (fun z => by omega) (fun z => by omega) (fun z => by omega) (fun z => by omega) rg2) ⟨by show hI (sI h2 (99 + 7 * j) 1 (nI (uS R 0).1)) (99 + 7 * j) 1 = _; rw [hI_sI, if_pos rfl, if_pos rfl], RA_wR⟩
      exact b55_65 (ci.1.1.k 0 (by decide) (by decide)) (sp_accept (Good_M g g.2.1 (rw_.2.1 0 (Nat.zero_le _)) hu) ci.1 (fun h' fc' ci' => b55_70 (nx h' (ci.2.trans' fc') ci')))
  · have e : f_image A k = (-1, wZ A (-1)) := by
      unfold f_image
      rw [if_neg hn]
    rw [e] at nx
    exact nx h' fc ci
theorem n_image {k : Int32} (hs : Str h) (g : Good A) (c : MI h A) (nx : ∀ h', FM h h' → MI h' (f_image A k).2 → Q (some (.int (f_image A k).1)) h') : X 108 Q bc bs 0 [.ref 115, .int k] [] h := by
  have k0 : kd h 115 = 9 := hs.k 115 (by decide) (by decide)
  have cu := c.2.2.1
  refine b108_0 (sp_72 (fun d => b108_9 (fun _ => ?_) (fun z => absurd z (by decide))) (fun d => b108_9 (fun z => absurd rfl z) (fun _ => b108_12 k0 (sp_endsN hs c (by decide) (fun h' fm mi => b108_17 ?_)))))
  · simp only [Int32.le_iff_toInt_le, Int32.lt_iff_toInt_lt, Int64.le_iff_toInt_le, Int64.lt_iff_toInt_lt, Int32.toInt_toInt64, i32eq, i64eq, Int32.reduceToInt, Int64.reduceToInt, Int32.reduceOfInt] at d
    obtain ⟨j, hj⟩ : ∃ j : Nat, k.toInt = j := ⟨k.toInt.toNat, by omega⟩
    have ek := toInt_io hj
    subst ek
    have hj3 : j < 3 := by omega
    have cj : (nI j).toNatClampNeg = j := nI_clamp (by omega)
    have vj : vp_in (nI j) 3 := vp_in_nI hj3 (by omega)
    unfold f_image at nx
    rw [hj, Int.toNat_natCast, if_pos (by omega)] at nx
    cases hu : aU A with
    | none =>
      rw [hu] at nx
      exact b108_18 k0 (fun z => absurd (cu.1 hu) z) (fun _ => b108_25 k0 (sp_endsN hs c (by decide) (fun h' fm mi => b108_31 (nx h' fm mi))))
    | some R =>
      rw [hu] at nx
      have rc := cu.2 R hu
      refine b108_18 k0 (fun _ => b108_32 (r1 := 134) k0 (hs.r 115 32 (by decide)) (hs.k 134 (by decide) (by decide)) (by rw [hs.z 134 (c := 3) (by decide) (by decide)]; exact vj) ?_) (fun z => absurd z (by rw [rc.1]; decide))
      have e40 : (40 : Int32) * nI j = nI (40 * j) := nI_mul 40 j
      rw [cj, e40]
      have f1 : Ff (IMI j) (IMJ j) h (sI h 134 j 1) := Ff.sI' Ff.rfl' (Or.inl ⟨rfl, rfl⟩)
      have e134 : hI (sI h 134 j 1) 134 j = 1 := by rw [hI_sI, if_pos rfl, if_pos rfl]
      generalize sI h 134 j 1 = h1 at f1 e134 ⊢
      have hs1 := f1.str hs
      have rm1 := RM_ff f1 (fun q => by unfold IMI at q; omega) (fun q i _ _ z => by unfold IMI at z; omega) c.2.1
      refine sp_lays hs1 (by omega) rm1 (fun h2 f2 ka => ?_)
      have f2' : Ff (IMI j) (IMJ j) h h2 := f1.trans' (f2.weak (fun b i q => Or.inr ⟨q.1, by omega, by omega⟩) (fun _ _ q => absurd q id))
      have hs2 := f2'.str hs
      have e134' : hI h2 134 j = 1 := by rw [f2.2.2.1 _ _ (fun q => by omega)]; exact e134
      have z0 : (0 : Int32).toNatClampNeg = 0 := by decide
      have e37 : nI (40 * j) + (37 : Int32) = nI (40 * j + 37) := nI_add _ 37
      obtain ⟨a1, a2, a3⟩ := rc.2.2.2.1 0 (Nat.zero_le _)
      have v0 : vp_in (0 : Int32) 13 := vp_in_nI (n := 0) (by omega) (by omega)
      refine b108_47 (r1 := 135) (r2 := 126) (r3 := 136) (r4 := 127) (r5 := 137) (r6 := 128) (hs2.k 115 (by decide) (by decide)) (hs2.r 115 33 (by decide)) (hs2.r 115 15 (by decide)) (hs2.k 126 (by decide) (by decide)) (by rw [hs2.z 126 (c := 13) (by decide) (by decide)]; exact v0) (hs2.k 135 (by decide) (by decide)) (by rw [hs2.z 135 (c := 120) (by decide) (by decide), e40, e37]; exact vp_in_nI (by omega) (by omega)) (hs2.r 115 34 (by decide)) (hs2.r 115 16 (by decide)) (hs2.k 127 (by decide) (by decide)) (by rw [hs2.z 127 (c := 13) (by decide) (by decide)]; exact v0) (hs2.k 136 (by decide) (by decide)) (by rw [hs2.z 136 (c := 3) (by decide) (by decide)]; exact vj) (hs2.r 115 35 (by decide)) (hs2.r 115 17 (by decide)) (hs2.k 128 (by decide) (by decide)) (by rw [hs2.z 128 (c := 13) (by decide) (by decide)]; exact v0) (hs2.k 137 (by decide) (by decide)) (by rw [hs2.z 137 (c := 3) (by decide) (by decide)]; exact vj) ?_
      have b126 : hI h2 126 0 = nI (uS R 0).1 := by rw [f2'.2.2.1 _ _ (fun q => by unfold IMI at q; omega)]; exact a1
      have b127 : hJ h2 127 0 = jo (uS R 0).2.1 := by rw [f2'.2.2.2 _ _ (fun q => by unfold IMJ at q; omega)]; exact a2
      have b128 : hJ h2 128 0 = jo (uS R 0).2.2 := by rw [f2'.2.2.2 _ _ (fun q => by unfold IMJ at q; omega)]; exact a3
      have x1 : ∀ (H : HP) (v : Int64), hJ (sJ H 136 j v) 128 0 = hJ H 128 0 := fun H v => by rw [hJ_sJ, if_neg (by decide)]
      rw [cj, z0, e40, e37, nI_clamp (by omega), x1, hJ_sI, b126, b127, b128]
      have f3 : Ff (IMI j) (IMJ j) h (sJ (sJ (sI h2 135 (40 * j + 37) (nI (uS R 0).1)) 136 j (jo (uS R 0).2.1)) 137 j (jo (uS R 0).2.2)) := Ff.sJ' (Ff.sJ' (Ff.sI' f2' (Or.inr ⟨rfl, by omega, by omega⟩)) ⟨Or.inl rfl, rfl⟩) ⟨Or.inr rfl, rfl⟩
      have mi := MI_img (r := aR A) (s := uS R 0) c hj3 f3 (by rw [hI_sJ, hI_sJ, hI_sI, if_neg (by decide)]; exact e134') ⟨by rw [hI_sJ, hI_sJ, hI_sI, if_pos rfl, if_neg (by omega)]; exact ka.1, fun i hi => by rw [hI_sJ, hI_sJ, hI_sI, if_pos rfl, if_neg (by omega), hI_sI, if_pos rfl, if_neg (by omega), hI_sI, if_pos rfl, if_neg (by omega)]; exact ka.2 i hi⟩ (by rw [hI_sJ, hI_sJ, hI_sI, if_pos rfl, if_pos rfl]) (by rw [hJ_sJ, if_neg (by decide), hJ_sJ, if_pos rfl, if_pos rfl]) (by rw [hJ_sJ, if_pos rfl, if_pos rfl])
      exact sp_endsP (mi.2.str hs) mi.1 (by decide) (fun h' fm' mi' => b108_94 (nx h' (mi.2.trans' fm') mi'))
  · simp only [Int32.le_iff_toInt_le, Int32.lt_iff_toInt_lt, Int64.le_iff_toInt_le, Int64.lt_iff_toInt_lt, Int32.toInt_toInt64, i32eq, i64eq, Int32.reduceToInt, Int64.reduceToInt, Int32.reduceOfInt] at d
    have e : f_image A k = (-1, wZ A (-1)) := by
      unfold f_image
      rw [if_neg d]
    rw [e] at nx
    exact nx h' fm mi
theorem c_back {k : Int32} (g : Good A) (c : CI h A) (nx : ∀ h', FC h h' → CI h' (f_back A k).2 → Q (some (.int (f_back A k).1)) h') : X 56 Q bc bs 0 [.ref 0, .int k, UU] [] h := by
  have hs := c.1
  have k0 : kd h 0 = 8 := hs.k 0 (by decide) (by decide)
  refine b56_0 k0 (sp_imageAt hs (fun j hj e => ?_) (fun hn => b56_5a k0 (sp_refuse g c (fun h' fc ci => b56_15 ?_))))
  · subst e
    unfold f_back at nx
    rw [nI_toInt (by omega), Int.toNat_natCast, if_pos (by omega)] at nx
    obtain ⟨i1, i2, i3, i4, i5, i6⟩ := img_k hs hj
    have cm := c.2.2.2.2.1 j hj
    cases hm : aM A j with
    | none =>
      rw [hm] at nx
      exact b56_5b i1 (fun z => absurd (cm.1 hm) z) (fun _ => b56_23 k0 (sp_refuse g c (fun h' fc ci => b56_29 (nx h' fc ci))))
    | some x =>
      rw [hm] at nx
      obtain ⟨e1, e2, e3⟩ := cm.2 x.1 x.2 hm
      obtain ⟨q1, q2, q3⟩ := g.2.2.2.1 j hj x.1 x.2 hm
      have rk6 := RK_of hs (b := 6) (Or.inl rfl)
      refine b56_5b i1 (fun _ => b56_30 (r1 := 6) k0 (hs.r 0 2 (by decide)) i1 i2 rk6.1.1 (sp_rcopy rk6 i5 e2 (by omega) (fun h1 f1 rg1 => ?_))) (fun z => absurd z (by rw [e1]; decide))
      have ci1 := CI_ring (r := x.1) g c f1 rg1
      have hs1 := ci1.1.1
      have sb : SA h1 (99 + 7 * j) x.2 := SA_fr f1 (show ¬ (6 ≤ 99 + 7 * j ∧ 99 + 7 * j ≤ 9) by omega) id e3
      refine b56_41 (r1 := 10) (r2 := 6) (r4 := 2) (hs1.k 0 (by decide) (by decide)) (hs1.r 0 3 (by decide)) (hs1.r 0 2 (by decide)) (by rw [f1.kd']; exact i1) (by rw [f1.hR']; exact i3) (hs1.r 0 1 (by decide)) (hs1.k 10 (by decide) (by decide)) (sp_go hs1 ci1.1.2.1 g.1 (WKs_10 hs1) (RK_of hs1 (Or.inl rfl)) rg1 q1 (SK_fr f1 i4) sb q2 (by decide) (by decide) (by omega) (fun h2 fw rc => ?_))
      have ci2 := CI_run (Good_G g q1) ci1.1 fw rc
      have hs2 := ci2.1.1
      refine b56_60 (r1 := 10) (hs2.k 0 (by decide) (by decide)) (hs2.r 0 3 (by decide)) (hs2.k 10 (by decide) (by decide)) ?_
      rw [rc.2.1.1]
      exact sp_accept (Good_B g q1 q2) ci2.1 (fun h3 fc3 ci3 => b56_71 (nx h3 (ci1.2.trans' (ci2.2.trans' fc3)) ci3))
  · have e : f_back A k = (-1, wZ A (-1)) := by
      unfold f_back
      rw [if_neg hn]
    rw [e] at nx
    exact nx h' fc ci
/-- the run of a kept image, as the reference makes it -/
theorem sp_runK {t : TBT} {r : RGT} {s : PST} (hs : Str h) (tm : TM h t) (tg : TG t) (rm : RM h r) (rgd : RGood r) (sg : SG t s) (nx : ∀ h', MR h h' → RunM h' (runOf t r s) → Q none h') : X 95 Q bc bs 0 [.ref 115, .int (nI s.1), .long (jo s.2.1), UU, .long (jo s.2.2), UU, UU, UU] [] h := by
  have rc := r_of_cop sg.2.1 sg.2.2.2.1
  have sgj := SG_J tg sg
  have sb := SG_b tg sg
  have es : (s.1, rU s.2.1 s.2.2, rL s.2.1 s.2.2) = s := by rw [rc.1, rc.2]
  refine sp_runs hs tm tg rm rgd sgj.1 (by omega) sg.2.1 sgj.2.1 (by rw [es]; exact sg) (fun h' mr r => nx h' mr ?_)
  rw [es] at r
  exact r
theorem n_back {k : Int32} (hs : Str h) (g : Good A) (c : MI h A) (nx : ∀ h', FM h h' → MI h' (f_back A k).2 → Q (some (.int (f_back A k).1)) h') : X 111 Q bc bs 0 [.ref 115, .int k] [] h := by
  have k0 : kd h 115 = 9 := hs.k 115 (by decide) (by decide)
  refine b111_0 (sp_72 (fun d => b111_9 (fun _ => ?_) (fun z => absurd z (by decide))) (fun d => b111_9 (fun z => absurd rfl z) (fun _ => b111_12 k0 (sp_endsN hs c (by decide) (fun h' fm mi => b111_17 ?_)))))
  · simp only [Int32.le_iff_toInt_le, Int32.lt_iff_toInt_lt, Int64.le_iff_toInt_le, Int64.lt_iff_toInt_lt, Int32.toInt_toInt64, i32eq, i64eq, Int32.reduceToInt, Int64.reduceToInt, Int32.reduceOfInt] at d
    obtain ⟨j, hj⟩ : ∃ j : Nat, k.toInt = j := ⟨k.toInt.toNat, by omega⟩
    have ek := toInt_io hj
    subst ek
    have hj3 : j < 3 := by omega
    have cj : (nI j).toNatClampNeg = j := nI_clamp (by omega)
    have vj : vp_in (nI j) 3 := vp_in_nI hj3 (by omega)
    unfold f_back at nx
    rw [hj, Int.toNat_natCast, if_pos (by omega)] at nx
    have cm := c.2.2.2.1 j hj3
    have k134 : kd h 134 = 12 := hs.k 134 (by decide) (by decide)
    have z134 : zl h 134 = 3 := hs.z 134 (by decide) (by decide)
    cases hm : aM A j with
    | none =>
      rw [hm] at nx
      exact b111_18 (r1 := 134) k0 (hs.r 115 32 (by decide)) k134 (by rw [z134]; exact vj) (fun z => absurd (by rw [cj]; exact cm.1 hm) z) (fun _ => b111_27 k0 (sp_endsN hs c (by decide) (fun h' fm mi => b111_33 (nx h' fm mi))))
    | some x =>
      rw [hm] at nx
      obtain ⟨e1, e2, e3, e4, e5⟩ := cm.2 x.1 x.2 hm
      obtain ⟨q1, q2, R0, q3⟩ := g.2.2.2.1 j hj3 x.1 x.2 hm
      have e40 : (40 : Int32) * nI j = nI (40 * j) := nI_mul 40 j
      have z135 : zl h 135 = 120 := hs.z 135 (by decide) (by decide)
      refine b111_18 (r1 := 134) k0 (hs.r 115 32 (by decide)) k134 (by rw [z134]; exact vj) (fun _ => b111_34 (r1 := 135) k0 (hs.r 115 33 (by decide)) ?_) (fun z => absurd z (by rw [cj, e1]; decide))
      rw [e40]
      refine sp_takes hs (Or.inl rfl) (hs.k 135 (by decide) (by decide)) (by rw [z135]; omega) (by rw [z135]; omega) e2 (fun h1 f1 rm1 => ?_)
      have mi1 := MI_ring c f1 rm1
      have hs1 := mi1.2.str hs
      have e37 : nI (40 * j) + (37 : Int32) = nI (40 * j + 37) := nI_add _ 37
      have b135 : hI h1 135 (40 * j + 37) = nI x.2.1 := by rw [f1.2.2.1 _ _ (fun q => by unfold TKI at q; omega)]; exact e3
      have b136 : hJ h1 136 j = jo x.2.2.1 := by rw [f1.2.2.2 _ _ id]; exact e4
      have b137 : hJ h1 137 j = jo x.2.2.2 := by rw [f1.2.2.2 _ _ id]; exact e5
      refine b111_46 (r1 := 135) (r2 := 136) (r3 := 137) (hs1.k 115 (by decide) (by decide)) (hs1.r 115 33 (by decide)) (hs1.k 135 (by decide) (by decide)) (by rw [hs1.z 135 (c := 120) (by decide) (by decide), e40, e37]; exact vp_in_nI (by omega) (by omega)) (hs1.r 115 34 (by decide)) (hs1.k 136 (by decide) (by decide)) (by rw [hs1.z 136 (c := 3) (by decide) (by decide)]; exact vj) (hs1.r 115 35 (by decide)) (hs1.k 137 (by decide) (by decide)) (by rw [hs1.z 137 (c := 3) (by decide) (by decide)]; exact vj) ?_
      rw [e40, e37, nI_clamp (by omega), cj, b135, b136, b137]
      refine sp_runK hs1 mi1.1.1 g.1 rm1 q1 q2 (fun h2 mr rm2 => ?_)
      have e21 : hI h2 115 21 = 1 := by
        rw [mr.2.2.1 _ _ (fun q => by unfold MRI at q; omega)]
        exact (mi1.1.2.2.1.2 R0 q3).1
      have mi2 := MI_run mi1.1 (Ff.weak mr (fun b i q => Or.inl q) (fun _ _ q => q)) e21 rm2
      have hs2 := mi2.2.str hs1
      refine b111_74 (hs2.k 115 (by decide) (by decide)) ?_
      rw [rm2.1]
      have hm : um (runOf (aT (wG A x.1)) x.1 x.2) ≤ 12 := (runOf_RW g.1 q1 q2).1
      exact sp_endsP hs2 mi2.1 (by rw [nI_toInt (by omega)]; omega) (fun h' fm' mi' => b111_82 (nx h' (mi1.2.trans' (mi2.2.trans' fm')) mi'))
  · simp only [Int32.le_iff_toInt_le, Int32.lt_iff_toInt_lt, Int64.le_iff_toInt_le, Int64.lt_iff_toInt_lt, Int32.toInt_toInt64, i32eq, i64eq, Int32.reduceToInt, Int64.reduceToInt, Int32.reduceOfInt] at d
    have e : f_back A k = (-1, wZ A (-1)) := by
      unfold f_back
      rw [if_neg d]
    rw [e] at nx
    exact nx h' fm mi
end RUNS
