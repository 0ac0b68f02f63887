/-! The state of both sides as numbers. -/
abbrev SHT : Type := Bool × Int32 × Nat × (Nat → Int32)
abbrev AST : Type := TBT × RGT × Option RUT × (Nat → Option (RGT × PST)) × (Nat → SHT) × Int32
def aT (A : AST) : TBT := A.1
def aR (A : AST) : RGT := A.2.1
def aU (A : AST) : Option RUT := A.2.2.1
def aM (A : AST) : Nat → Option (RGT × PST) := A.2.2.2.1
def aS (A : AST) : Nat → SHT := A.2.2.2.2.1
def aZ (A : AST) : Int32 := A.2.2.2.2.2
def Good (A : AST) : Prop := TG (aT A) ∧ RGood (aR A) ∧ (∀ R, aU A = some R → RW (aT A) R) ∧ (∀ k, k < 3 → ∀ r s, aM A k = some (r, s) → RGood r ∧ SG (aT A) s ∧ ∃ R, aU A = some R) ∧ ∀ s, s < 4 → (aS A s).2.2.1 ≤ 40 ∧ 0 ≤ (aS A s).2.1.toInt ∧ (aS A s).2.1.toInt ≤ 2
/-- the same state with another status -/
def wZ (A : AST) (z : Int32) : AST := (aT A, aR A, aU A, aM A, aS A, z)
def CU (h : HP) (u : Option RUT) : Prop := (u = none → hI h 10 7 = 0) ∧ ∀ R, u = some R → RunC h 10 R
def CM (h : HP) (m : Nat → Option (RGT × PST)) : Prop := ∀ k, k < 3 → (m k = none → hI h (94 + 7 * k) 2 = 0) ∧ ∀ r s, m k = some (r, s) → hI h (94 + 7 * k) 2 = 1 ∧ RG h (95 + 7 * k) r ∧ SA h (99 + 7 * k) s
def CS (h : HP) (S : Nat → SHT) : Prop := ∀ s, s < 4 → ((S s).1 = false → hI h (86 + 2 * s) 1 = 0) ∧ ((S s).1 = true → hI h (86 + 2 * s) 1 = 1 ∧ hI h (86 + 2 * s) 2 = (S s).2.1 ∧ hI h (86 + 2 * s) 3 = nI (S s).2.2.1 ∧ ∀ i, i < 40 → hI h (87 + 2 * s) i = (S s).2.2.2 i)
def CI (h : HP) (A : AST) : Prop := Str h ∧ TC h (aT A) ∧ RG h 6 (aR A) ∧ CU h (aU A) ∧ CM h (aM A) ∧ CS h (aS A) ∧ hI h 0 11 = aZ A
def MU (h : HP) (u : Option RUT) : Prop := (u = none → hI h 115 21 = 0) ∧ ∀ R, u = some R → hI h 115 21 = 1 ∧ RunM h R
def MM (h : HP) (m : Nat → Option (RGT × PST)) : Prop := ∀ k, k < 3 → (m k = none → hI h 134 k = 0) ∧ ∀ r s, m k = some (r, s) → hI h 134 k = 1 ∧ KAt h 135 (40 * k) r ∧ hI h 135 (40 * k + 37) = nI s.1 ∧ hJ h 136 k = jo s.2.1 ∧ hJ h 137 k = jo s.2.2
def MH (h : HP) (S : Nat → SHT) : Prop := ∀ s, s < 4 → ((S s).1 = false → hI h 117 s = -1) ∧ ((S s).1 = true → hI h 117 s = nI (S s).2.2.1 ∧ hI h 116 s = (S s).2.1 ∧ ∀ i, i < 40 → hI h 118 (40 * s + i) = (S s).2.2.2 i)
def MI (h : HP) (A : AST) : Prop := TM h (aT A) ∧ RM h (aR A) ∧ MU h (aU A) ∧ MM h (aM A) ∧ MH h (aS A) ∧ hI h 115 0 = aZ A
/-- the class leaves the reference's cells; the reference leaves all others -/
def FC (h h' : HP) : Prop := ∀ b i, 115 ≤ b → b ≤ 138 → hI h' b i = hI h b i ∧ hJ h' b i = hJ h b i
def FM (h h' : HP) : Prop := Fr (fun q => 115 ≤ q ∧ q ≤ 138) (fun q => 115 ≤ q ∧ q ≤ 138) h h'
theorem FC_fr {SI SJ : Nat → Prop} {h h1 : HP} (f : Fr SI SJ h h1) (hi : ∀ q, 115 ≤ q → q ≤ 138 → ¬ SI q) (hj : ∀ q, 115 ≤ q → q ≤ 138 → ¬ SJ q) : FC h h1 := fun b i h1 h2 => ⟨f.2.2.1 b (hi b h1 h2) i, f.2.2.2 b (hj b h1 h2) i⟩
theorem FC.trans' {h h1 h2 : HP} (a : FC h h1) (b : FC h1 h2) : FC h h2 := fun x i q1 q2 => ⟨(b x i q1 q2).1.trans (a x i q1 q2).1, (b x i q1 q2).2.trans (a x i q1 q2).2⟩
theorem FM_ff {SI SJ : Nat → Nat → Prop} {h h1 : HP} (f : Ff SI SJ h h1) (hi : ∀ b i, SI b i → 115 ≤ b ∧ b ≤ 138) (hj : ∀ b i, SJ b i → 115 ≤ b ∧ b ≤ 138) : FM h h1 := ⟨f.1, f.2.1, fun b hb i => f.2.2.1 b i (fun q => hb (hi b i q)), fun b hb i => f.2.2.2 b i (fun q => hb (hj b i q))⟩
theorem CU_fr {SI SJ : Nat → Prop} {h h1 : HP} (f : Fr SI SJ h h1) {u : Option RUT} (hm : ∀ R, u = some R → um R ≤ 12) (hi : ∀ q, 10 ≤ q → q ≤ 42 → ¬ SI q) (hj : ∀ q, 10 ≤ q → q ≤ 42 → ¬ SJ q) (c : CU h u) : CU h1 u := ⟨fun e => by rw [f.2.2.1 10 (hi 10 (by omega) (by omega))]; exact c.1 e, fun R e => RunC_fr f (hm R e) (fun q a b => hi q a (by omega)) (fun q a b => hj q a (by omega)) (c.2 R e)⟩
theorem CM_fr {SI SJ : Nat → Prop} {h h1 : HP} (f : Fr SI SJ h h1) {m : Nat → Option (RGT × PST)} (hi : ∀ q, 94 ≤ q → q ≤ 114 → ¬ SI q) (hj : ∀ q, 94 ≤ q → q ≤ 114 → ¬ SJ q) (c : CM h m) : CM h1 m := fun k hk => ⟨fun e => by rw [f.2.2.1 _ (hi _ (by omega) (by omega))]; exact (c k hk).1 e, fun r s e => by
  obtain ⟨a1, a2, a3⟩ := (c k hk).2 r s e
  exact ⟨by rw [f.2.2.1 _ (hi _ (by omega) (by omega))]; exact a1, RG_fr f (hi _ (by omega) (by omega)) (hi _ (by omega) (by omega)) (hi _ (by omega) (by omega)) (hi _ (by omega) (by omega)) a2, SA_fr f (hi _ (by omega) (by omega)) (hj _ (by omega) (by omega)) a3⟩⟩
theorem CS_fr {SI SJ : Nat → Prop} {h h1 : HP} (f : Fr SI SJ h h1) {S : Nat → SHT} (hi : ∀ q, 86 ≤ q → q ≤ 93 → ¬ SI q) (c : CS h S) : CS h1 S := fun s hs => ⟨fun e => by rw [f.2.2.1 _ (hi _ (by omega) (by omega))]; exact (c s hs).1 e, fun e => by
  have x1 := f.2.2.1 _ (hi (86 + 2 * s) (by omega) (by omega))
  have x2 := f.2.2.1 _ (hi (87 + 2 * s) (by omega) (by omega))
  simp only [x1, x2]
  exact (c s hs).2 e⟩
theorem Good.um {A : AST} (g : Good A) {R : RUT} (e : aU A = some R) : um R ≤ 12 := (g.2.2.1 R e).1
/-- the reference leaves what the class holds -/
theorem CI_FM {h h1 : HP} (f : FM h h1) {A : AST} (g : Good A) (c : CI h A) : CI h1 A := by
  obtain ⟨c1, c2, c3, c4, c5, c6, c7⟩ := c
  have n : ∀ q, q < 115 ∨ 138 < q → ¬ (115 ≤ q ∧ q ≤ 138) := fun q a b => by omega
  exact ⟨f.str c1, TC_fr f (fun b q => n b (by omega)) (n 2 (by omega)) c2, RG_fr f (n _ (by omega)) (n _ (by omega)) (n _ (by omega)) (n _ (by omega)) c3, CU_fr f (fun R e => g.um e) (fun q a b => n q (by omega)) (fun q a b => n q (by omega)) c4, CM_fr f (fun q a b => n q (by omega)) (fun q a b => n q (by omega)) c5, CS_fr f (fun q a b => n q (by omega)) c6, by rw [f.2.2.1 0 (n 0 (by omega))]; exact c7⟩
/-- the class leaves what the reference holds -/
theorem MI_FC {h h1 : HP} (f : FC h h1) {A : AST} (c : MI h A) : MI h1 A := by
  obtain ⟨c1, c2, c3, c4, c5, c6⟩ := c
  have ei : ∀ b i, 115 ≤ b → b ≤ 138 → hI h1 b i = hI h b i := fun b i p q => (f b i p q).1
  have ej : ∀ b i, 115 ≤ b → b ≤ 138 → hJ h1 b i = hJ h b i := fun b i p q => (f b i p q).2
  unfold MI TM RM MU MM MH RunM KAt at *
  have e115 : ∀ i, hI h1 115 i = hI h 115 i := fun i => ei 115 i (by omega) (by omega)
  have e116 : ∀ i, hI h1 116 i = hI h 116 i := fun i => ei 116 i (by omega) (by omega)
  have e117 : ∀ i, hI h1 117 i = hI h 117 i := fun i => ei 117 i (by omega) (by omega)
  have e118 : ∀ i, hI h1 118 i = hI h 118 i := fun i => ei 118 i (by omega) (by omega)
  have e119 : ∀ i, hI h1 119 i = hI h 119 i := fun i => ei 119 i (by omega) (by omega)
  have e120 : ∀ i, hI h1 120 i = hI h 120 i := fun i => ei 120 i (by omega) (by omega)
  have e121 : ∀ i, hI h1 121 i = hI h 121 i := fun i => ei 121 i (by omega) (by omega)
  have e122 : ∀ i, hI h1 122 i = hI h 122 i := fun i => ei 122 i (by omega) (by omega)
  have e123 : ∀ i, hI h1 123 i = hI h 123 i := fun i => ei 123 i (by omega) (by omega)
  have e124 : ∀ i, hI h1 124 i = hI h 124 i := fun i => ei 124 i (by omega) (by omega)
  have e125 : ∀ i, hI h1 125 i = hI h 125 i := fun i => ei 125 i (by omega) (by omega)
  have e126 : ∀ i, hI h1 126 i = hI h 126 i := fun i => ei 126 i (by omega) (by omega)
  have e127 : ∀ i, hJ h1 127 i = hJ h 127 i := fun i => ej 127 i (by omega) (by omega)
  have e128 : ∀ i, hJ h1 128 i = hJ h 128 i := fun i => ej 128 i (by omega) (by omega)
  have e129 : ∀ i, hI h1 129 i = hI h 129 i := fun i => ei 129 i (by omega) (by omega)
  have e134 : ∀ i, hI h1 134 i = hI h 134 i := fun i => ei 134 i (by omega) (by omega)
  have e135 : ∀ i, hI h1 135 i = hI h 135 i := fun i => ei 135 i (by omega) (by omega)
  have e136 : ∀ i, hJ h1 136 i = hJ h 136 i := fun i => ej 136 i (by omega) (by omega)
  have e137 : ∀ i, hJ h1 137 i = hJ h 137 i := fun i => ej 137 i (by omega) (by omega)
  simp only [e115, e116, e117, e118, e119, e120, e121, e122, e123, e124, e125, e126, e127, e128, e129, e134, e135, e136, e137]
  exact ⟨c1, c2, c3, c4, c5, c6⟩
/-- a status is all that changes -/
theorem CI_Z {h : HP} {A : AST} (g : Good A) (c : CI h A) (z : Int32) : CI (sI h 0 11 z) (wZ A z) ∧ FC h (sI h 0 11 z) := by
  obtain ⟨c1, c2, c3, c4, c5, c6, c7⟩ := c
  have f : Fr (fun q => q = 0) (fun _ => False) h (sI h 0 11 z) := Fr.sI' Fr.rfl' rfl
  refine ⟨⟨f.str c1, TC_fr f (fun b q (e : b = 0) => by omega) (fun (e : 2 = 0) => by omega) c2, RG_fr f (fun (e : 6 = 0) => by omega) (fun (e : 6 + 1 = 0) => by omega) (fun (e : 6 + 2 = 0) => by omega) (fun (e : 6 + 3 = 0) => by omega) c3, CU_fr f (fun R e => g.um e) (fun q a b (e : q = 0) => by omega) (fun q a b => id) c4, CM_fr f (fun q a b (e : q = 0) => by omega) (fun q a b => id) c5, CS_fr f (fun q a b (e : q = 0) => by omega) c6, ?_⟩, FC_fr f (fun q a b (e : q = 0) => by omega) (fun _ _ _ => id)⟩
  rw [hI_sI, if_pos rfl, if_pos rfl]
  rfl
theorem MI_Z {h : HP} {A : AST} (c : MI h A) (z : Int32) : MI (sI h 115 0 z) (wZ A z) ∧ FM h (sI h 115 0 z) := by
  obtain ⟨c1, c2, c3, c4, c5, c6⟩ := c
  have f : Ff (fun b i => b = 115 ∧ i = 0) (fun _ _ => False) h (sI h 115 0 z) := Ff.sI' Ff.rfl' ⟨rfl, rfl⟩
  refine ⟨⟨TM_ff f (fun q => by omega) (fun q i _ _ z => by omega) c1, RM_ff f (fun q => by omega) (fun q i _ _ z => by omega) c2, ⟨fun e => ?_, fun R e => ⟨?_, RunM_ff f (fun q => by omega) (fun q => by omega) (fun i q => by omega) (fun i q => by omega) (fun _ => id) (fun _ => id) (c3.2 R e).2⟩⟩, fun k hk => ?_, fun s hs => ?_, ?_⟩, FM_ff f (fun b i q => by omega) (fun _ _ q => absurd q id)⟩
  · rw [f.2.2.1 _ _ (fun q => by omega)]
    exact c3.1 e
  · rw [f.2.2.1 _ _ (fun q => by omega)]
    exact (c3.2 R e).1
  · unfold KAt
    simp only [hI_sI, hJ_sI, show ¬ 134 = 115 by decide, show ¬ 135 = 115 by decide, if_false]
    exact c4 k hk
  · simp only [hI_sI, show ¬ 116 = 115 by decide, show ¬ 117 = 115 by decide, show ¬ 118 = 115 by decide, if_false]
    exact c5 s hs
  · rw [hI_sI, if_pos rfl, if_pos rfl]
    rfl
theorem Good_Z {A : AST} (g : Good A) (z : Int32) : Good (wZ A z) := g
