/-! part, set, clear on both sides. -/
theorem CI_scr {SI SJ : Nat → Prop} {h h' : HP} {A : AST} (f : Fr SI SJ h h') (hi : ∀ q, SI q → q = 4 ∨ q = 5 ∨ (43 ≤ q ∧ q ≤ 85)) (hj : ∀ q, SJ q → q = 4 ∨ q = 5 ∨ (43 ≤ q ∧ q ≤ 85)) (g : Good A) (c : CI h A) : CI h' A ∧ FC h h' := by
  obtain ⟨c1, c2, c3, c4, c5, c6, c7⟩ := c
  have n : ∀ q, ¬ (q = 4 ∨ q = 5 ∨ (43 ≤ q ∧ q ≤ 85)) → ¬ SI q := fun q a b => a (hi q b)
  have m : ∀ q, ¬ (q = 4 ∨ q = 5 ∨ (43 ≤ q ∧ q ≤ 85)) → ¬ SJ q := fun q a b => a (hj q b)
  exact ⟨⟨f.str c1, TC_fr f (fun b q => n b (by omega)) (n 2 (by omega)) c2, RG_fr f (n _ (by omega)) (n _ (by omega)) (n _ (by omega)) (n _ (by omega)) c3, CU_fr f (fun R e => g.um e) (fun q a b => n q (by omega)) (fun q a b => m q (by omega)) c4, CM_fr f (fun q a b => n q (by omega)) (fun q a b => m q (by omega)) c5, CS_fr f (fun q a b => n q (by omega)) c6, by rw [f.2.2.1 0 (n 0 (by omega))]; exact c7⟩, FC_fr f (fun q a b => n q (by omega)) (fun q a b => m q (by omega))⟩
def scI (b i : Nat) : Prop := (b = 115 ∧ (i = 30 ∨ i = 31)) ∨ b = 130 ∨ b = 133 ∨ b = 138
def scJ (b _i : Nat) : Prop := b = 115 ∨ b = 131 ∨ b = 132
theorem MI_scr {SI SJ : Nat → Nat → Prop} {h h' : HP} {A : AST} (f : Ff SI SJ h h') (hi : ∀ b i, SI b i → scI b i) (hj : ∀ b i, SJ b i → scJ b i) (c : MI h A) : MI h' A ∧ FM h h' := by
  obtain ⟨c1, c2, c3, c4, c5, c6⟩ := c
  have n : ∀ b i, ¬ scI b i → ¬ SI b i := fun b i a z => a (hi b i z)
  have m : ∀ b i, ¬ scJ b i → ¬ SJ b i := fun b i a z => a (hj b i z)
  have e116 : ∀ i, hI h' 116 i = hI h 116 i := fun i => f.2.2.1 116 i (n _ _ (fun q => by unfold scI at q; omega))
  have e117 : ∀ i, hI h' 117 i = hI h 117 i := fun i => f.2.2.1 117 i (n _ _ (fun q => by unfold scI at q; omega))
  have e118 : ∀ i, hI h' 118 i = hI h 118 i := fun i => f.2.2.1 118 i (n _ _ (fun q => by unfold scI at q; omega))
  have e134 : ∀ i, hI h' 134 i = hI h 134 i := fun i => f.2.2.1 134 i (n _ _ (fun q => by unfold scI at q; omega))
  have e135 : ∀ i, hI h' 135 i = hI h 135 i := fun i => f.2.2.1 135 i (n _ _ (fun q => by unfold scI at q; omega))
  have e136 : ∀ i, hJ h' 136 i = hJ h 136 i := fun i => f.2.2.2 136 i (m _ _ (fun q => by unfold scJ at q; omega))
  have e137 : ∀ i, hJ h' 137 i = hJ h 137 i := fun i => f.2.2.2 137 i (m _ _ (fun q => by unfold scJ at q; omega))
  have e21 : hI h' 115 21 = hI h 115 21 := f.2.2.1 115 21 (n _ _ (fun q => by unfold scI at q; omega))
  refine ⟨⟨TM_ff f (n _ _ (fun q => by unfold scI at q; omega)) (fun q i _ _ => n _ _ (fun z => by unfold scI at z; omega)) c1, RM_ff f (n _ _ (fun q => by unfold scI at q; omega)) (fun q i _ _ => n _ _ (fun z => by unfold scI at z; omega)) c2, ⟨fun e => by rw [e21]; exact c3.1 e, fun R e => ⟨by rw [e21]; exact (c3.2 R e).1, RunM_ff f (n _ _ (fun q => by unfold scI at q; omega)) (n _ _ (fun q => by unfold scI at q; omega)) (fun i => n _ _ (fun q => by unfold scI at q; omega)) (fun i => n _ _ (fun q => by unfold scI at q; omega)) (fun i => m _ _ (fun q => by unfold scJ at q; omega)) (fun i => m _ _ (fun q => by unfold scJ at q; omega)) (c3.2 R e).2⟩⟩, fun k hk => ?_, fun s hs => ?_, by rw [f.2.2.1 115 0 (n _ _ (fun q => by unfold scI at q; omega))]; exact c6⟩, FM_ff f (fun b i q => by have := hi b i q; unfold scI at this; omega) (fun b i q => by have := hj b i q; unfold scJ at this; omega)⟩
  · unfold KAt
    simp only [e134, e135, e136, e137]
    exact c4 k hk
  · simp only [e116, e117, e118]
    exact c5 s hs
def wG (A : AST) (r : RGT) : AST := (aT A, r, aU A, aM A, aS A, aZ A)
theorem CI_ring {h h' : HP} {A : AST} {r : RGT} (g : Good A) (c : CI h A) (f : Fr (fun q => 6 ≤ q ∧ q ≤ 9) (fun _ => False) h h') (rr : RG h' 6 r) : CI h' (wG A r) ∧ FC h h' := by
  obtain ⟨c1, c2, c3, c4, c5, c6, c7⟩ := c
  have n : ∀ q, q < 6 ∨ 9 < q → ¬ (6 ≤ q ∧ q ≤ 9) := fun q a b => by omega
  exact ⟨⟨f.str c1, TC_fr f (fun b q => n b (by omega)) (n 2 (by omega)) c2, rr, CU_fr f (fun R e => g.um e) (fun q a b => n q (by omega)) (fun q a b => id) c4, CM_fr f (fun q a b => n q (by omega)) (fun q a b => id) c5, CS_fr f (fun q a b => n q (by omega)) c6, by rw [f.2.2.1 0 (n 0 (by omega))]; exact c7⟩, FC_fr f (fun q a b => n q (by omega)) (fun _ _ _ => id)⟩
theorem MI_ring {h h' : HP} {A : AST} {r : RGT} (c : MI h A) (f : Ff TKI (fun _ _ => False) h h') (rm : RM h' r) : MI h' (wG A r) ∧ FM h h' := by
  obtain ⟨c1, c2, c3, c4, c5, c6⟩ := c
  have e116 : ∀ i, hI h' 116 i = hI h 116 i := fun i => f.2.2.1 116 i (fun q => by unfold TKI at q; omega)
  have e117 : ∀ i, hI h' 117 i = hI h 117 i := fun i => f.2.2.1 117 i (fun q => by unfold TKI at q; omega)
  have e118 : ∀ i, hI h' 118 i = hI h 118 i := fun i => f.2.2.1 118 i (fun q => by unfold TKI at q; omega)
  have e134 : ∀ i, hI h' 134 i = hI h 134 i := fun i => f.2.2.1 134 i (fun q => by unfold TKI at q; omega)
  have e135 : ∀ i, hI h' 135 i = hI h 135 i := fun i => f.2.2.1 135 i (fun q => by unfold TKI at q; omega)
  have e136 : ∀ i, hJ h' 136 i = hJ h 136 i := fun i => f.2.2.2 136 i id
  have e137 : ∀ i, hJ h' 137 i = hJ h 137 i := fun i => f.2.2.2 137 i id
  have e21 : hI h' 115 21 = hI h 115 21 := f.2.2.1 115 21 (fun q => by unfold TKI at q; omega)
  refine ⟨⟨TM_ff f (fun q => by unfold TKI at q; omega) (fun q i _ _ z => by unfold TKI at z; omega) c1, rm, ⟨fun e => by rw [e21]; exact c3.1 e, fun R e => ⟨by rw [e21]; exact (c3.2 R e).1, RunM_ff f (fun q => by unfold TKI at q; omega) (fun q => by unfold TKI at q; omega) (fun i q => by unfold TKI at q; omega) (fun i q => by unfold TKI at q; omega) (fun _ => id) (fun _ => id) (c3.2 R e).2⟩⟩, fun k hk => ?_, fun s hs => ?_, by rw [f.2.2.1 115 0 (fun q => by unfold TKI at q; omega)]; exact c6⟩, FM_ff f (fun b i q => by unfold TKI at q; omega) (fun _ _ q => absurd q id)⟩
  · unfold KAt
    simp only [e134, e135, e136, e137]
    exact c4 k hk
  · simp only [e116, e117, e118]
    exact c5 s hs
theorem Good_G {A : AST} (g : Good A) {r : RGT} (rg : RGood r) : Good (wG A r) := ⟨g.1, rg, g.2.2⟩
def addR (r : RGT) (k a b : Int) : RGT := (rn r + 1, fun i => if i = rn r then k else rk r i, fun i => if i = rn r then a else ra r i, fun i => if i = rn r then b else rb r i)
def setR (r : RGT) (p : Nat) (a b : Int) : RGT := (rn r, rk r, fun i => if i = p then a else ra r i, fun i => if i = p then b else rb r i)
noncomputable def f_part (A : AST) (k a b : Int32) : Int32 × AST := @ite _ (PG k.toInt a.toInt b.toInt) (Classical.propDecidable _) (if rn (aR A) = 12 then (-5, wZ A (-5)) else (nI (rn (aR A)), wZ (wG A (addR (aR A) k.toInt a.toInt b.toInt)) 0)) (-1, wZ A (-1))
noncomputable def f_set (A : AST) (p a b : Int32) : Int32 × AST := if 0 ≤ p.toInt ∧ p.toInt < rn (aR A) then @ite _ (PG (rk (aR A) p.toInt.toNat) a.toInt b.toInt) (Classical.propDecidable _) (0, wZ (wG A (setR (aR A) p.toInt.toNat a.toInt b.toInt)) 0) (-1, wZ A (-1)) else (-2, wZ A (-2))
def clrR (r : RGT) : RGT := (0, rk r, ra r, rb r)
def f_clear (A : AST) : Int32 × AST := (nI (rn (aR A)), wG A (clrR (aR A)))
theorem addR_good {r : RGT} (rg : RGood r) (h12 : rn r ≠ 12) {k a b : Int32} (pg : PG k.toInt a.toInt b.toInt) : RGood (addR r k.toInt a.toInt b.toInt) := by
  refine ⟨by have := rg.1; show rn r + 1 ≤ 12; omega, fun i hi => ?_⟩
  obtain ⟨a1, a2, a3, a4⟩ := rg.2 i hi
  show IB (if i = rn r then k.toInt else rk r i) ∧ IB (if i = rn r then a.toInt else ra r i) ∧ IB (if i = rn r then b.toInt else rb r i) ∧ (i < rn r + 1 → PG (if i = rn r then k.toInt else rk r i) (if i = rn r then a.toInt else ra r i) (if i = rn r then b.toInt else rb r i))
  by_cases e : i = rn r
  · rw [if_pos e, if_pos e, if_pos e]
    exact ⟨IB_of _, IB_of _, IB_of _, fun _ => pg⟩
  · rw [if_neg e, if_neg e, if_neg e]
    exact ⟨a1, a2, a3, fun q => a4 (by omega)⟩
theorem setR_good {r : RGT} (rg : RGood r) {p : Nat} {a b : Int32} (pg : PG (rk r p) a.toInt b.toInt) : RGood (setR r p a.toInt b.toInt) := by
  refine ⟨rg.1, fun i hi => ?_⟩
  obtain ⟨a1, a2, a3, a4⟩ := rg.2 i hi
  show IB (rk r i) ∧ IB (if i = p then a.toInt else ra r i) ∧ IB (if i = p then b.toInt else rb r i) ∧ (i < rn r → PG (rk r i) (if i = p then a.toInt else ra r i) (if i = p then b.toInt else rb r i))
  by_cases e : i = p
  · rw [if_pos e, if_pos e]
    subst e
    exact ⟨a1, IB_of _, IB_of _, fun _ => pg⟩
  · rw [if_neg e, if_neg e]
    exact ⟨a1, a2, a3, a4⟩
theorem clrR_good {r : RGT} (rg : RGood r) : RGood (clrR r) := ⟨Nat.zero_le _, fun i hi => ⟨(rg.2 i hi).1, (rg.2 i hi).2.1, (rg.2 i hi).2.2.1, fun q => absurd q (Nat.not_lt_zero _)⟩⟩
theorem G_part {A : AST} (g : Good A) (k a b : Int32) : Good (f_part A k a b).2 := by
  unfold f_part
  split
  · split
    · exact Good_Z g _
    · exact Good_Z (Good_G g (addR_good g.2.1 (by assumption) (by assumption))) _
  · exact Good_Z g _
theorem G_set {A : AST} (g : Good A) (p a b : Int32) : Good (f_set A p a b).2 := by
  unfold f_set
  split
  · split
    · exact Good_Z (Good_G g (setR_good g.2.1 (by assumption))) _
    · exact Good_Z g _
  · exact Good_Z g _
theorem G_clear {A : AST} (g : Good A) : Good (f_clear A).2 := Good_G g (clrR_good g.2.1)
section RINGS
variable {Q : Option Value → HP → Prop} {bc bs : Nat} {h : HP} {A : AST}
theorem c_part {k a b : Int32} (g : Good A) (c : CI h A) (nx : ∀ h', FC h h' → CI h' (f_part A k a b).2 → Q (some (.int (f_part A k a b).1)) h') : X 46 Q bc bs 0 [.ref 0, .int k, .int a, .int b, UU] [] h := by
  have k0 : kd h 0 = 8 := c.1.k 0 (by decide) (by decide)
  have rk6 := RK_of c.1 (b := 6) (Or.inl rfl)
  have rg := c.2.2.1
  have h12 := g.2.1.1
  refine b46_0 (sp_70 (fun pg => b46_6 (fun _ => b46_15 (r1 := 6) k0 (c.1.r 0 2 (by decide)) rk6.1.1 ?_) (fun z => absurd z (by decide))) (fun pg => b46_6 (fun z => absurd rfl z) (fun _ => b46_9 k0 (sp_refuse g c (fun h' fc ci => b46_14 ?_)))))
  · have ef : f_part A k a b = (if rn (aR A) = 12 then (-5, wZ A (-5)) else (nI (rn (aR A)), wZ (wG A (addR (aR A) k.toInt a.toInt b.toInt)) 0)) := by
      unfold f_part
      rw [if_pos pg]
    have e12 : hI h 6 3 < (12 : Int32) ↔ rn (aR A) < 12 := by rw [rg.1, show (12 : Int32) = nI 12 from rfl, nI_ltI (by omega) (by omega)]
    have x1 : ∀ (H : HP) (i : Nat) (v : Int32), hI (sI H 7 i v) 6 3 = hI H 6 3 := fun H i v => by rw [hI_sI, if_neg (by decide)]
    have x2 : ∀ (H : HP) (i : Nat) (v : Int32), hI (sI H 8 i v) 6 3 = hI H 6 3 := fun H i v => by rw [hI_sI, if_neg (by decide)]
    have x3 : ∀ (H : HP) (i : Nat) (v : Int32), hI (sI H 9 i v) 6 3 = hI H 6 3 := fun H i v => by rw [hI_sI, if_neg (by decide)]
    have x4 : ∀ (H : HP) (v : Int32), hI (sI H 6 3 v) 6 3 = v := fun H v => by rw [hI_sI, if_pos rfl, if_pos rfl]
    refine b13_0 rk6.1.1 (fun z => b13_11 (r1 := 7) (r2 := 8) (r3 := 9) rk6.1.1 rk6.1.2.1 rk6.2.1.1 ?_ rk6.1.2.2.1 rk6.2.2.1.1 ?_ rk6.1.2.2.2 rk6.2.2.2.1 ?_ ?_) (fun z => b13_9 (b46_25 (fun u => absurd rfl u) (fun _ => b46_33 k0 (sp_refuse g c (fun h' fc ci => b46_39 ?_)))))
    · rw [e12] at z
      rw [rg.1, rk6.2.1.2]
      exact vp_in_nI (by omega) (by omega)
    · rw [e12] at z
      rw [x1, rg.1, rk6.2.2.1.2]
      exact vp_in_nI (by omega) (by omega)
    · rw [e12] at z
      rw [x2, x1, rg.1, rk6.2.2.2.2]
      exact vp_in_nI (by omega) (by omega)
    · rw [e12] at z
      rw [if_neg (by omega)] at ef
      rw [ef] at nx
      rw [x4, x3, x2, x1, rg.1, show nI (rn (aR A)) + (1 : Int32) = nI (rn (aR A) + 1) from nI_1 _, nI_pred, nI_clamp (by omega)]
      have fr : Fr (fun q => 6 ≤ q ∧ q ≤ 9) (fun _ => False) h (sI (sI (sI (sI h 7 (rn (aR A)) k) 8 (rn (aR A)) a) 9 (rn (aR A)) b) 6 3 (nI (rn (aR A) + 1))) := Fr.sI' (Fr.sI' (Fr.sI' (Fr.sI' Fr.rfl' (by omega)) (by omega)) (by omega)) (by omega)
      have ci := CI_ring (r := addR (aR A) k.toInt a.toInt b.toInt) g c fr ⟨by rw [x4]; rfl, fun i hi => ?_⟩
      · refine b46_25 (fun _ => b46_42 (ci.1.1.k 0 (by decide) (by decide)) (sp_accept (Good_G g (addR_good g.2.1 (by omega) pg)) ci.1 (fun h' fc' ci' => b46_48 (nx h' (ci.2.trans' fc') ci')))) (fun u => absurd u ?_)
        simp only [Int32.le_iff_toInt_le, Int32.lt_iff_toInt_lt, Int64.le_iff_toInt_le, Int64.lt_iff_toInt_lt, Int32.toInt_toInt64, i32eq, i64eq, Int32.reduceToInt, Int64.reduceToInt, Int32.reduceOfInt]
        rw [nI_toInt (by omega)]
        omega
      · obtain ⟨a1, a2, a3⟩ := rg.2 i hi
        show hI _ 7 i = io (if i = rn (aR A) then k.toInt else rk (aR A) i) ∧ hI _ 8 i = io (if i = rn (aR A) then a.toInt else ra (aR A) i) ∧ hI _ 9 i = io (if i = rn (aR A) then b.toInt else rb (aR A) i)
        by_cases e : i = rn (aR A)
        · simp only [hI_sI, e, if_true]
          simp only [show ¬ (7 : Nat) = 6 by decide, show ¬ (7 : Nat) = 9 by decide, show ¬ (7 : Nat) = 8 by decide, show ¬ (8 : Nat) = 6 by decide, show ¬ (8 : Nat) = 9 by decide, show ¬ (9 : Nat) = 6 by decide, if_false]
          exact ⟨(io_of _).symm, (io_of _).symm, (io_of _).symm⟩
        · simp only [hI_sI, e, if_false]
          simp only [show ¬ (7 : Nat) = 6 by decide, show ¬ (7 : Nat) = 9 by decide, show ¬ (7 : Nat) = 8 by decide, show ¬ (8 : Nat) = 6 by decide, show ¬ (8 : Nat) = 9 by decide, show ¬ (9 : Nat) = 6 by decide, show ¬ (8 : Nat) = 7 by decide, show ¬ (9 : Nat) = 7 by decide, show ¬ (9 : Nat) = 8 by decide, if_false, if_true]
          exact ⟨a1, a2, a3⟩
    · rw [e12] at z
      rw [if_pos (by omega)] at ef
      rw [ef] at nx
      exact nx h' fc ci
  · have e : f_part A k a b = (-1, wZ A (-1)) := by
      unfold f_part
      rw [if_neg pg]
    rw [e] at nx
    exact nx h' fc ci
theorem n_part {k a b : Int32} (hs : Str h) (g : Good A) (c : MI h A) (nx : ∀ h', FM h h' → MI h' (f_part A k a b).2 → Q (some (.int (f_part A k a b).1)) h') : X 88 Q bc bs 0 [.ref 115, .int k, .int a, .int b] [] h := by
  have k0 : kd h 115 = 9 := hs.k 115 (by decide) (by decide)
  have rg := c.2.1
  have h12 := g.2.1.1
  have bad : ¬ PG k.toInt a.toInt b.toInt → X 88 Q bc bs 21 [.ref 115, .int k, .int a, .int b] [] h := fun pg => by
    have e : f_part A k a b = (-1, wZ A (-1)) := by
      unfold f_part
      rw [if_neg pg]
    rw [e] at nx
    exact b88_21 k0 (sp_endsN hs c (by decide) (fun h' fm mi => b88_26 (nx h' fm mi)))
  refine b88_0 (sp_72 (fun d => b88_9 (fun z => absurd z (by decide)) (fun _ => b88_12 (sp_87 ?_ (fun pg => b88_18 (fun _ => ?_) (fun z => absurd z (by decide))) (fun pg => b88_18 (fun z => absurd rfl z) (fun _ => bad pg))))) (fun d => b88_9 (fun _ => bad ?_) (fun z => absurd rfl z)))
  · simp only [Int32.le_iff_toInt_le, Int32.lt_iff_toInt_lt, Int64.le_iff_toInt_le, Int64.lt_iff_toInt_lt, Int32.toInt_toInt64, i32eq, i64eq, Int32.reduceToInt, Int64.reduceToInt, Int32.reduceOfInt] at d
    exact d
  · have ef : f_part A k a b = (if rn (aR A) = 12 then (-5, wZ A (-5)) else (nI (rn (aR A)), wZ (wG A (addR (aR A) k.toInt a.toInt b.toInt)) 0)) := by
      unfold f_part
      rw [if_pos pg]
    have e12 : hI h 115 11 = (12 : Int32) ↔ rn (aR A) = 12 := by rw [rg.1, show (12 : Int32) = nI 12 from rfl, nI_eq (by omega) (by omega)]
    have x1 : ∀ (H : HP) (i : Nat) (v : Int32), hI (sI H 123 i v) 115 11 = hI H 115 11 := fun H i v => by rw [hI_sI, if_neg (by decide)]
    have x2 : ∀ (H : HP) (i : Nat) (v : Int32), hI (sI H 124 i v) 115 11 = hI H 115 11 := fun H i v => by rw [hI_sI, if_neg (by decide)]
    have x3 : ∀ (H : HP) (i : Nat) (v : Int32), hI (sI H 125 i v) 115 11 = hI H 115 11 := fun H i v => by rw [hI_sI, if_neg (by decide)]
    have x4 : ∀ (H : HP) (v : Int32), hI (sI H 115 11 v) 115 11 = v := fun H v => by rw [hI_sI, if_pos rfl, if_pos rfl]
    refine b88_27 k0 (fun z => b88_43 (r1 := 123) (r2 := 124) (r3 := 125) k0 (hs.r 115 12 (by decide)) (hs.k 123 (by decide) (by decide)) ?_ (hs.r 115 13 (by decide)) (hs.k 124 (by decide) (by decide)) ?_ (hs.r 115 14 (by decide)) (hs.k 125 (by decide) (by decide)) ?_ ?_) (fun z => b88_36 k0 (sp_endsN hs c (by decide) (fun h' fm mi => b88_42 ?_)))
    · rw [e12] at z
      rw [rg.1, hs.z 123 (c := 12) (by decide) (by decide)]
      exact vp_in_nI (by omega) (by omega)
    · rw [e12] at z
      rw [x1, rg.1, hs.z 124 (c := 12) (by decide) (by decide)]
      exact vp_in_nI (by omega) (by omega)
    · rw [e12] at z
      rw [x2, x1, rg.1, hs.z 125 (c := 12) (by decide) (by decide)]
      exact vp_in_nI (by omega) (by omega)
    · rw [e12] at z
      rw [if_neg z] at ef
      rw [ef] at nx
      rw [x4, x3, x2, x1, rg.1, show nI (rn (aR A)) + (1 : Int32) = nI (rn (aR A) + 1) from nI_1 _, nI_pred, nI_clamp (by omega)]
      have fr : Ff TKI (fun _ _ => False) h (sI (sI (sI (sI h 123 (rn (aR A)) k) 124 (rn (aR A)) a) 125 (rn (aR A)) b) 115 11 (nI (rn (aR A) + 1))) := Ff.sI' (Ff.sI' (Ff.sI' (Ff.sI' Ff.rfl' (Or.inr (Or.inl rfl))) (Or.inr (Or.inr (Or.inl rfl)))) (Or.inr (Or.inr (Or.inr rfl)))) (Or.inl ⟨rfl, rfl⟩)
      have mi := MI_ring (r := addR (aR A) k.toInt a.toInt b.toInt) c fr ⟨by rw [x4]; rfl, fun i hi => ?_⟩
      · refine sp_endsP (mi.2.str hs) mi.1 (by rw [nI_toInt (by omega)]; omega) (fun h' fm' mi' => b88_93 (nx h' (mi.2.trans' fm') mi'))
      · obtain ⟨a1, a2, a3⟩ := rg.2 i hi
        show hI _ 123 i = io (if i = rn (aR A) then k.toInt else rk (aR A) i) ∧ hI _ 124 i = io (if i = rn (aR A) then a.toInt else ra (aR A) i) ∧ hI _ 125 i = io (if i = rn (aR A) then b.toInt else rb (aR A) i)
        by_cases e : i = rn (aR A)
        · simp only [hI_sI, e, if_true]
          simp only [show ¬ (123 : Nat) = 115 by decide, show ¬ (123 : Nat) = 125 by decide, show ¬ (123 : Nat) = 124 by decide, show ¬ (124 : Nat) = 115 by decide, show ¬ (124 : Nat) = 125 by decide, show ¬ (125 : Nat) = 115 by decide, if_false]
          exact ⟨(io_of _).symm, (io_of _).symm, (io_of _).symm⟩
        · simp only [hI_sI, e, if_false]
          simp only [show ¬ (123 : Nat) = 115 by decide, show ¬ (123 : Nat) = 125 by decide, show ¬ (123 : Nat) = 124 by decide, show ¬ (124 : Nat) = 115 by decide, show ¬ (124 : Nat) = 125 by decide, show ¬ (125 : Nat) = 115 by decide, show ¬ (124 : Nat) = 123 by decide, show ¬ (125 : Nat) = 123 by decide, show ¬ (125 : Nat) = 124 by decide, if_false, if_true]
          exact ⟨a1, a2, a3⟩
    · rw [e12] at z
      rw [if_pos z] at ef
      rw [ef] at nx
      exact nx h' fm mi
  · simp only [Int32.le_iff_toInt_le, Int32.lt_iff_toInt_lt, Int64.le_iff_toInt_le, Int64.lt_iff_toInt_lt, Int32.toInt_toInt64, i32eq, i64eq, Int32.reduceToInt, Int64.reduceToInt, Int32.reduceOfInt] at d
    exact fun q => d (PG_k q)
theorem sp_has {i : Int32} {r : RGT} {b : Nat} (kb : RK h b) (rg : RG h b r) (h12 : rn r ≤ 12) (y : 0 ≤ i.toInt ∧ i.toInt < rn r → Q (some (.int (1 : Int32))) h) (n : ¬ (0 ≤ i.toInt ∧ i.toInt < rn r) → Q (some (.int (0 : Int32))) h) : X 11 Q bc bs 0 [.ref b, .int i] [] h := by
  have el : (hI h b 3 - (1 : Int32)).toInt = (rn r : Int) - 1 := by
    rw [rg.1, nI_io, show (1 : Int32) = io 1 from rfl, io_sub, io_toInt (by unfold IB; omega)]
  refine b11_0 kb.1.1 (sp_66 (fun c => b11_11 (Or.inr rfl) (y ?_)) (fun c => b11_11 (Or.inl rfl) (n ?_)))
  · simp only [Int32.le_iff_toInt_le, Int32.lt_iff_toInt_lt, Int64.le_iff_toInt_le, Int64.lt_iff_toInt_lt, Int32.toInt_toInt64, i32eq, i64eq, Int32.reduceToInt, Int64.reduceToInt, Int32.reduceOfInt, el] at c
    omega
  · simp only [Int32.le_iff_toInt_le, Int32.lt_iff_toInt_lt, Int64.le_iff_toInt_le, Int64.lt_iff_toInt_lt, Int32.toInt_toInt64, i32eq, i64eq, Int32.reduceToInt, Int64.reduceToInt, Int32.reduceOfInt, el] at c
    omega
theorem c_set {p a b : Int32} (g : Good A) (c : CI h A) (nx : ∀ h', FC h h' → CI h' (f_set A p a b).2 → Q (some (.int (f_set A p a b).1)) h') : X 47 Q bc bs 0 [.ref 0, .int p, .int a, .int b] [] h := by
  have k0 : kd h 0 = 8 := c.1.k 0 (by decide) (by decide)
  have rk6 := RK_of c.1 (b := 6) (Or.inl rfl)
  have rg := c.2.2.1
  have h12 := g.2.1.1
  refine b47_0 (r1 := 6) k0 (c.1.r 0 2 (by decide)) rk6.1.1 (sp_has rk6 rg h12 (fun d => b47_8 (fun _ => ?_) (fun z => absurd z (by decide))) (fun d => b47_8 (fun z => absurd rfl z) (fun _ => b47_11 k0 (sp_refuse g c (fun h' fc ci => b47_17 ?_)))))
  · obtain ⟨j, hj⟩ : ∃ j : Nat, p.toInt = j := ⟨p.toInt.toNat, by omega⟩
    have ep := toInt_io hj
    subst ep
    have hj12 : j < 12 := by omega
    have cj : (nI j).toNatClampNeg = j := nI_clamp (by omega)
    have vj : vp_in (nI j) 12 := vp_in_nI hj12 (by omega)
    obtain ⟨a1, a2, a3⟩ := rg.2 j hj12
    have gj := g.2.1.2 j hj12
    have ef : f_set A (nI j) a b = @ite _ (PG (rk (aR A) j) a.toInt b.toInt) (Classical.propDecidable _) (0, wZ (wG A (setR (aR A) j a.toInt b.toInt)) 0) (-1, wZ A (-1)) := by
      unfold f_set
      rw [hj, Int.toNat_natCast, if_pos (by omega)]
    refine b47_18 (r1 := 6) (r2 := 7) k0 (c.1.r 0 2 (by decide)) rk6.1.1 rk6.1.2.1 rk6.2.1.1 (by rw [rk6.2.1.2]; exact vj) ?_
    rw [cj, a1]
    refine sp_70 (fun pg => b47_32 (fun _ => b47_41 (r1 := 6) (r2 := 8) (r3 := 9) k0 (c.1.r 0 2 (by decide)) rk6.1.1 rk6.1.2.2.1 rk6.2.2.1.1 (by rw [rk6.2.2.1.2]; exact vj) rk6.1.2.2.2 rk6.2.2.2.1 (by rw [rk6.2.2.2.2]; exact vj) ?_) (fun z => absurd z (by decide))) (fun pg => b47_32 (fun z => absurd rfl z) (fun _ => b47_35 k0 (sp_refuse g c (fun h' fc ci => b47_40 ?_))))
    · rw [io_toInt gj.1] at pg
      rw [if_pos pg] at ef
      rw [ef] at nx
      rw [cj]
      have fr : Fr (fun q => 6 ≤ q ∧ q ≤ 9) (fun _ => False) h (sI (sI h 8 j a) 9 j b) := Fr.sI' (Fr.sI' Fr.rfl' (by omega)) (by omega)
      have ci := CI_ring (r := setR (aR A) j a.toInt b.toInt) g c fr ⟨by rw [hI_sI, if_neg (by decide), hI_sI, if_neg (by decide)]; exact rg.1, fun i hi => ?_⟩
      · exact sp_accept (Good_G g (setR_good g.2.1 pg)) ci.1 (fun h' fc' ci' => b47_66 (nx h' (ci.2.trans' fc') ci'))
      · obtain ⟨d1, d2, d3⟩ := rg.2 i hi
        show hI _ 7 i = io (rk (aR A) i) ∧ hI _ 8 i = io (if i = j then a.toInt else ra (aR A) i) ∧ hI _ 9 i = io (if i = j then b.toInt else rb (aR A) i)
        refine ⟨by rw [hI_sI, if_neg (by decide), hI_sI, if_neg (by decide)]; exact d1, ?_, ?_⟩
        · rw [hI_sI, if_neg (by decide), hI_sI, if_pos rfl]
          split
          · exact (io_of _).symm
          · exact d2
        · rw [hI_sI, if_pos rfl]
          split
          · exact (io_of _).symm
          · rw [hI_sI, if_neg (by decide)]
            exact d3
    · rw [io_toInt gj.1] at pg
      rw [if_neg pg] at ef
      rw [ef] at nx
      exact nx h' fc ci
  · have e : f_set A p a b = (-2, wZ A (-2)) := by
      unfold f_set
      rw [if_neg d]
    rw [e] at nx
    exact nx h' fc ci
theorem n_set {p a b : Int32} (hs : Str h) (g : Good A) (c : MI h A) (nx : ∀ h', FM h h' → MI h' (f_set A p a b).2 → Q (some (.int (f_set A p a b).1)) h') : X 89 Q bc bs 0 [.ref 115, .int p, .int a, .int b] [] h := by
  have k0 : kd h 115 = 9 := hs.k 115 (by decide) (by decide)
  have rg := c.2.1
  have h12 := g.2.1.1
  have el : (hI h 115 11 - (1 : Int32)).toInt = (rn (aR A) : Int) - 1 := by
    rw [rg.1, nI_io, show (1 : Int32) = io 1 from rfl, io_sub, io_toInt (by unfold IB; omega)]
  refine b89_0 k0 (sp_72 (fun d => b89_13 (fun _ => ?_) (fun z => absurd z (by decide))) (fun d => b89_13 (fun z => absurd rfl z) (fun _ => b89_16 k0 (sp_endsN hs c (by decide) (fun h' fm mi => b89_22 ?_)))))
  · simp only [Int32.le_iff_toInt_le, Int32.lt_iff_toInt_lt, Int64.le_iff_toInt_le, Int64.lt_iff_toInt_lt, Int32.toInt_toInt64, i32eq, i64eq, Int32.reduceToInt, Int64.reduceToInt, Int32.reduceOfInt, el] at d
    obtain ⟨j, hj⟩ : ∃ j : Nat, p.toInt = j := ⟨p.toInt.toNat, by omega⟩
    have ep := toInt_io hj
    subst ep
    have hj12 : j < 12 := by omega
    have cj : (nI j).toNatClampNeg = j := nI_clamp (by omega)
    have vj : vp_in (nI j) 12 := vp_in_nI hj12 (by omega)
    obtain ⟨a1, a2, a3⟩ := rg.2 j hj12
    have gj := g.2.1.2 j hj12
    have pk := PG_k (gj.2.2.2 (by omega))
    have ef : f_set A (nI j) a b = @ite _ (PG (rk (aR A) j) a.toInt b.toInt) (Classical.propDecidable _) (0, wZ (wG A (setR (aR A) j a.toInt b.toInt)) 0) (-1, wZ A (-1)) := by
      unfold f_set
      rw [hj, Int.toNat_natCast, if_pos (by omega)]
    refine b89_23 (r1 := 123) k0 (hs.r 115 12 (by decide)) (hs.k 123 (by decide) (by decide)) (by rw [hs.z 123 (c := 12) (by decide) (by decide)]; exact vj) ?_
    rw [cj, a1]
    refine sp_87 (by rw [io_toInt gj.1]; exact pk) (fun pg => b89_34 (fun _ => b89_43 (r1 := 124) (r2 := 125) k0 (hs.r 115 13 (by decide)) (hs.k 124 (by decide) (by decide)) (by rw [hs.z 124 (c := 12) (by decide) (by decide)]; exact vj) (hs.r 115 14 (by decide)) (hs.k 125 (by decide) (by decide)) (by rw [hs.z 125 (c := 12) (by decide) (by decide)]; exact vj) ?_) (fun z => absurd z (by decide))) (fun pg => b89_34 (fun z => absurd rfl z) (fun _ => b89_37 k0 (sp_endsN hs c (by decide) (fun h' fm mi => b89_42 ?_))))
    · rw [io_toInt gj.1] at pg
      rw [if_pos pg] at ef
      rw [ef] at nx
      rw [cj]
      have fr : Ff TKI (fun _ _ => False) h (sI (sI h 124 j a) 125 j b) := Ff.sI' (Ff.sI' Ff.rfl' (Or.inr (Or.inr (Or.inl rfl)))) (Or.inr (Or.inr (Or.inr rfl)))
      have mi := MI_ring (r := setR (aR A) j a.toInt b.toInt) c fr ⟨by rw [hI_sI, if_neg (by decide), hI_sI, if_neg (by decide)]; exact rg.1, fun i hi => ?_⟩
      · exact sp_endsP (mi.2.str hs) mi.1 (by decide) (fun h' fm' mi' => b89_62 (nx h' (mi.2.trans' fm') mi'))
      · obtain ⟨d1, d2, d3⟩ := rg.2 i hi
        show hI _ 123 i = io (rk (aR A) i) ∧ hI _ 124 i = io (if i = j then a.toInt else ra (aR A) i) ∧ hI _ 125 i = io (if i = j then b.toInt else rb (aR A) i)
        refine ⟨by rw [hI_sI, if_neg (by decide), hI_sI, if_neg (by decide)]; exact d1, ?_, ?_⟩
        · rw [hI_sI, if_neg (by decide), hI_sI, if_pos rfl]
          split
          · exact (io_of _).symm
          · exact d2
        · rw [hI_sI, if_pos rfl]
          split
          · exact (io_of _).symm
          · rw [hI_sI, if_neg (by decide)]
            exact d3
    · rw [io_toInt gj.1] at pg
      rw [if_neg pg] at ef
      rw [ef] at nx
      exact nx h' fm mi
  · simp only [Int32.le_iff_toInt_le, Int32.lt_iff_toInt_lt, Int64.le_iff_toInt_le, Int64.lt_iff_toInt_lt, Int32.toInt_toInt64, i32eq, i64eq, Int32.reduceToInt, Int64.reduceToInt, Int32.reduceOfInt, el] at d
    have e : f_set A p a b = (-2, wZ A (-2)) := by
      unfold f_set
      rw [if_neg (by omega)]
    rw [e] at nx
    exact nx h' fm mi
theorem c_clear (g : Good A) (c : CI h A) (nx : ∀ h', FC h h' → CI h' (f_clear A).2 → Q (some (.int (f_clear A).1)) h') : X 48 Q bc bs 0 [.ref 0, UU] [] h := by
  have rg := c.2.2.1
  refine m48 (r1 := 6) (c.1.k 0 (by decide) (by decide)) (c.1.r 0 2 (by decide)) (c.1.k 6 (by decide) (by decide)) ?_
  rw [rg.1]
  have ci := CI_ring (h' := sI h 6 3 0) (r := clrR (aR A)) g c (Fr.sI' Fr.rfl' (by omega)) ⟨by rw [hI_sI, if_pos rfl, if_pos rfl]; rfl, fun i hi => by rw [hI_sI, if_neg (by decide), hI_sI, if_neg (by decide), hI_sI, if_neg (by decide)]; exact rg.2 i hi⟩
  exact nx _ ci.2 ci.1
theorem n_clear (hs : Str h) (c : MI h A) (nx : ∀ h', FM h h' → MI h' (f_clear A).2 → Q (some (.int (f_clear A).1)) h') : X 90 Q bc bs 0 [.ref 115, UU] [] h := by
  have rg := c.2.1
  refine m90 (hs.k 115 (by decide) (by decide)) ?_
  rw [rg.1]
  have mi := MI_ring (h' := sI h 115 11 0) (r := clrR (aR A)) c (Ff.sI' Ff.rfl' (Or.inl ⟨rfl, rfl⟩)) ⟨by rw [hI_sI, if_pos rfl, if_pos rfl]; rfl, fun i hi => by rw [hI_sI, if_neg (by decide), hI_sI, if_neg (by decide), hI_sI, if_neg (by decide)]; exact rg.2 i hi⟩
  exact nx _ mi.2 mi.1
end RINGS
