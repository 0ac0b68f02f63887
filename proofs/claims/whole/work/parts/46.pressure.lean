/-! pressure on both sides. -/
section PRE
variable {Q : Option Value → HP → Prop} {bc bs : Nat} {h : HP} {A : AST}
theorem c_pressure {s n : Int32} (g : Good A) (c : CI h A) (hbc : 4 ≤ bc) (hbs : 28 ≤ bs) (nx : ∀ h', FC h h' → CI h' (f_pressure A s n).2 → Q (some (.int (f_pressure A s n).1)) h') : X 43 Q bc bs 0 [.ref 0, .int s, .int n, UU, UU, UU] [] h := by
  have k0 : kd h 0 = 8 := c.1.k 0 (by decide) (by decide)
  refine b43_0 k0 (sp_sheetAt c.1 (fun j hj e => ?_) (fun hn => b43_5a k0 (sp_refuse g c (fun h' fc ci => b43_25a ?_))))
  · obtain ⟨q1, q2, q3, q4⟩ := sheet_k c.1 hj
    have cs := c.2.2.2.2.2.1 j hj
    have gs := g.2.2.2.2 j hj
    subst e
    refine b43_5b (sp_66 (fun d => b43_17 (fun _ => ?_) (fun z => absurd z (by decide))) (fun d => b43_17 (fun z => absurd rfl z) (fun _ => b43_20 k0 (sp_refuse g c (fun h' fc ci => b43_25b ?_)))))
    · simp only [Int32.le_iff_toInt_le, Int32.lt_iff_toInt_lt, Int64.le_iff_toInt_le, Int64.lt_iff_toInt_lt, Int32.toInt_toInt64, i32eq, i64eq, Int32.reduceToInt, Int64.reduceToInt, Int32.reduceOfInt] at d
      obtain ⟨m, hm⟩ : ∃ m : Nat, n.toInt = m := ⟨n.toInt.toNat, by omega⟩
      have en := toInt_io hm
      subst en
      rw [nI_toInt (by omega)] at d
      have ef : f_pressure A (nI j) (nI m) = (if (aS A j).1 = true then (if 3 * (m : Int) ≤ (aS A j).2.2.1 then @ite _ (pvalid m (rwF (aS A j).2.2.2) (rwO (aS A j).2.2.2) (rwW (aS A j).2.2.2)) (Classical.propDecidable _) (if tnp (aT A) = 10 then (-5, wZ A (-5)) else (nI (tnp (aT A)), wZ (wT A (addT (aT A) m (aS A j).2.2.2)) 0)) (-1, wZ A (-1)) else (-3, wZ A (-3))) else (-2, wZ A (-2))) := by
        unfold f_pressure
        rw [nI_toInt (n := j) (by omega), hm, Int.toNat_natCast, Int.toNat_natCast, if_pos (by omega)]
      cases hb : (aS A j).1 with
      | false =>
        have e0 := cs.1 hb
        rw [hb, if_neg (by decide)] at ef
        rw [ef] at nx
        exact b43_26 q1 (fun d => absurd e0 d) (fun _ => b43_33 k0 (sp_refuse g c (fun h' fc ci => b43_39 (nx h' fc ci))))
      | true =>
        obtain ⟨e1, e2, e3, e4⟩ := cs.2 hb
        rw [hb, if_pos rfl] at ef
        have e3m : (3 : Int32) * nI m = nI (3 * m) := nI_mul 3 m
        refine b43_26 q1 (fun _ => b43_40 q1 (fun w => ?_) (fun w => b43_50 k0 (sp_refuse g c (fun h' fc ci => b43_56 ?_)))) (fun z => absurd z (by rw [e1]; decide))
        · rw [e3m, e3, nI_leI (by omega) (by omega)] at w
          rw [if_pos (by omega)] at ef
          have hlen := Str_len c.1
          have gr0 : Gr h (nw h 6 0) := Gr.nw' Gr.rfl' 6 0
          refine b43_57 (by omega) (by omega) (b43_60 (r1 := 87 + 2 * j) (by rw [(gr0.kz (by omega)).1]; exact q1) (by rw [(gr0.2 _ (by omega)).1]; exact q2) (by omega) (by omega) (sp_table (by omega) (by omega) q3 q4 (by omega) (fun h1 gr tb hc => ?_)))
          have ci := CI_Gr gr g c
          have cl : CLS h1 h.1.length m (rwF (aS A j).2.2.2) (rwO (aS A j).2.2.2) (rwW (aS A j).2.2.2) := by
            intro i hi
            obtain ⟨a1, a2, a3⟩ := hc i hi
            rw [a1, a2, a3, e4 _ (by omega), e4 _ (by omega), e4 _ (by omega)]
            exact ⟨⟨(io_of _).symm, IB_of _⟩, ⟨(io_of _).symm, IB_of _⟩, (io_of _).symm, IB_of _⟩
          have k01 : kd h1 0 = 8 := ci.1.1.k 0 (by decide) (by decide)
          refine b43_69 tb.1 (b30_0 (cb_loop tb (by omega) cl (fun pv => b43_76 (fun _ => ?_) (fun z => absurd z (by decide))) (fun pv => b43_76 (fun z => absurd rfl z) (fun _ => b43_79 k01 (sp_refuse g ci.1 (fun h' fc' ci' => b43_84 ?_)))) m 0 (by omega) (fun j hj => absurd hj (by omega))))
          · rw [if_pos pv] at ef
            have h10 := g.1.1
            have k2 : kd h1 2 = 5 := ci.1.1.k 2 (by decide) (by decide)
            have k3 : kd h1 3 = 16 := ci.1.1.k 3 (by decide) (by decide)
            have z3 : zl h1 3 = 10 := ci.1.1.z 3 (by decide) (by decide)
            have enp := ci.1.2.1.1
            refine b43_85 (r1 := 2) k01 (ci.1.1.r 0 1 (by decide)) k2 (b23_0 k2 (fun z => b23_11 (r1 := 3) k2 (ci.1.1.r 2 0 (by decide)) (by rw [k3, tb.1]; exact Or.inr (Or.inr (Or.inr ⟨rfl, rfl⟩))) ?_ ?_) (fun z => b23_9 (b43_94 (fun u => absurd rfl u) (fun _ => b43_102 k01 (sp_refuse g ci.1 (fun h' fc' ci' => b43_108 ?_))))))
            · rw [enp, show (10 : Int32) = nI 10 from rfl, nI_ltI (by omega) (by omega)] at z
              rw [enp, z3]
              exact vp_in_nI (by omega) (by omega)
            · rw [enp, show (10 : Int32) = nI 10 from rfl, nI_ltI (by omega) (by omega)] at z
              rw [if_neg (by omega)] at ef
              rw [ef] at nx
              have col : ∀ (q : Nat) (f : Nat → Int), (∀ i, i < m → hI h1 q i = io (f i) ∧ (f i).natAbs ≤ 1000) → kd h1 q = 10 → zl h1 q = 8 → COL h1 q m f := fun q f a b c => ⟨b, c, a⟩
              obtain ⟨t1, t2, t3, t4, t5, t6, t7, t8⟩ := tb
              have tk := CI_take (n := m) (row := (aS A j).2.2.2) g ci.1 (T := h.1.length) hlen t1 t2 t3 t4 t5 (col _ _ (fun i hi => ⟨(cl i hi).1.1, by have := (pv i hi).1.1; omega⟩) t6.1 t6.2) (col _ _ (fun i hi => ⟨(cl i hi).2.1.1, by have := (pv i hi).1.2.1; omega⟩) t7.1 t7.2) (col _ _ (fun i hi => ⟨(cl i hi).2.2.1, by have := (pv i hi).1.2.2; omega⟩) t8.1 t8.2)
              have E : hI (sR h1 3 (nI (tnp (aT A))).toNatClampNeg (some h.1.length)) 2 3 + (1 : Int32) = nI (tnp (aT A) + 1) := by
                rw [hI_sR, enp]
                exact nI_1 _
              rw [enp, E, hI_sI, if_pos rfl, if_pos rfl, nI_pred, nI_clamp (by omega)]
              have gt := Good_T (row := (aS A j).2.2.2) (n := m) g (by omega) (by omega) (by omega) pv
              refine b43_94 (fun _ => b43_111 (tk.1.1.k 0 (by decide) (by decide)) (sp_accept gt tk.1 (fun h' fc' ci' => b43_117 (nx h' (ci.2.trans' (tk.2.trans' fc')) ci')))) (fun u => absurd u ?_)
              simp only [Int32.le_iff_toInt_le, Int32.lt_iff_toInt_lt, Int64.le_iff_toInt_le, Int64.lt_iff_toInt_lt, Int32.toInt_toInt64, i32eq, i64eq, Int32.reduceToInt, Int64.reduceToInt, Int32.reduceOfInt]
              rw [nI_toInt (by omega)]
              omega
            · rw [enp, show (10 : Int32) = nI 10 from rfl, nI_ltI (by omega) (by omega)] at z
              rw [if_pos (by omega)] at ef
              rw [ef] at nx
              exact nx h' (ci.2.trans' fc') ci'
          · rw [if_neg pv] at ef
            rw [ef] at nx
            exact nx h' (ci.2.trans' fc') ci'
        · rw [e3m, e3, nI_leI (by omega) (by omega)] at w
          rw [if_neg (by omega)] at ef
          rw [ef] at nx
          exact nx h' fc ci
    · simp only [Int32.le_iff_toInt_le, Int32.lt_iff_toInt_lt, Int64.le_iff_toInt_le, Int64.lt_iff_toInt_lt, Int32.toInt_toInt64, i32eq, i64eq, Int32.reduceToInt, Int64.reduceToInt, Int32.reduceOfInt] at d
      have e : f_pressure A (nI j) n = (-1, wZ A (-1)) := by
        unfold f_pressure
        rw [if_neg (by omega)]
      rw [e] at nx
      exact nx h' fc ci
  · have e : f_pressure A s n = (-1, wZ A (-1)) := by
      unfold f_pressure
      rw [if_neg (by omega)]
    rw [e] at nx
    exact nx h' fc ci
end PRE
theorem nI_sub {a b : Nat} (h : b ≤ a) : nI a - nI b = nI (a - b) := by
  rw [nI_io, nI_io, nI_io, io_sub]
  congr 1
  omega
def PTI (np : Nat) (b i : Nat) : Prop := (b = 115 ∧ i = 4) ∨ (b = 119 ∧ i = np) ∨ ((b = 120 ∨ b = 121 ∨ b = 122) ∧ 8 * np ≤ i ∧ i < 8 * np + 8)
theorem MI_take {h h' : HP} {A : AST} (g : Good A) (c : MI h A) {n : Nat} {row : Nat → Int32} (f : Ff (PTI (tnp (aT A))) (fun _ _ => False) h h') (e4 : hI h' 115 4 = nI (tnp (aT A) + 1)) (en : hI h' 119 (tnp (aT A)) = nI n) (er : ∀ i, i < n → hI h' 120 (8 * tnp (aT A) + i) = io (rwF row i) ∧ hI h' 121 (8 * tnp (aT A) + i) = io (rwO row i) ∧ hI h' 122 (8 * tnp (aT A) + i) = io (rwW row i)) : MI h' (wT A (addT (aT A) n row)) ∧ FM h h' := by
  obtain ⟨c1, c2, c3, c4, c5, c6⟩ := c
  have e116 : ∀ i, hI h' 116 i = hI h 116 i := fun i => f.2.2.1 116 i (fun q => by unfold PTI at q; omega)
  have e117 : ∀ i, hI h' 117 i = hI h 117 i := fun i => f.2.2.1 117 i (fun q => by unfold PTI at q; omega)
  have e118 : ∀ i, hI h' 118 i = hI h 118 i := fun i => f.2.2.1 118 i (fun q => by unfold PTI at q; omega)
  have e134 : ∀ i, hI h' 134 i = hI h 134 i := fun i => f.2.2.1 134 i (fun q => by unfold PTI at q; omega)
  have e135 : ∀ i, hI h' 135 i = hI h 135 i := fun i => f.2.2.1 135 i (fun q => by unfold PTI at q; omega)
  have e136 : ∀ i, hJ h' 136 i = hJ h 136 i := fun i => f.2.2.2 136 i id
  have e137 : ∀ i, hJ h' 137 i = hJ h 137 i := fun i => f.2.2.2 137 i id
  refine ⟨⟨⟨e4, fun p hp => ?_⟩, RM_ff f (fun q => by unfold PTI at q; omega) (fun q i _ _ z => by unfold PTI at z; omega) c2, ⟨fun e => by rw [f.2.2.1 115 21 (fun q => by unfold PTI at q; omega)]; exact c3.1 e, fun R e => ⟨by rw [f.2.2.1 115 21 (fun q => by unfold PTI at q; omega)]; exact (c3.2 R e).1, RunM_ff f (fun q => by unfold PTI at q; omega) (fun q => by unfold PTI at q; omega) (fun i q => by unfold PTI at q; omega) (fun i q => by unfold PTI at q; omega) (fun _ => id) (fun _ => id) (c3.2 R e).2⟩⟩, fun k hk => ?_, fun s hs => ?_, by rw [f.2.2.1 115 0 (fun q => by unfold PTI at q; omega)]; exact c6⟩, FM_ff f (fun b i q => by unfold PTI at q; omega) (fun _ _ q => absurd q id)⟩
  · have hp' : p < tnp (aT A) + 1 := hp
    rcases Nat.lt_or_ge p (tnp (aT A)) with q | q
    · obtain ⟨x1, x2, x3, x4⟩ := addT_old (n := n) (row := row) q
      show hI h' 119 p = nI (tpt (addT (aT A) n row) p) ∧ ∀ i, i < tpt (addT (aT A) n row) p → hI h' 120 (8 * p + i) = io (tF (addT (aT A) n row) p i) ∧ hI h' 121 (8 * p + i) = io (tO (addT (aT A) n row) p i) ∧ hI h' 122 (8 * p + i) = io (tW (addT (aT A) n row) p i)
      rw [x1, x2, x3, x4]
      have g8 := (g.1.2 p q).2.1
      refine ⟨by rw [f.2.2.1 119 p (fun z => by unfold PTI at z; omega)]; exact (c1.2 p q).1, fun i hi => ?_⟩
      rw [f.2.2.1 120 _ (fun z => by unfold PTI at z; omega), f.2.2.1 121 _ (fun z => by unfold PTI at z; omega), f.2.2.1 122 _ (fun z => by unfold PTI at z; omega)]
      exact (c1.2 p q).2 i hi
    · have e : p = tnp (aT A) := by omega
      subst e
      obtain ⟨x1, x2, x3, x4⟩ := addT_new (t := aT A) (n := n) (row := row)
      show hI h' 119 (tnp (aT A)) = nI (tpt (addT (aT A) n row) (tnp (aT A))) ∧ ∀ i, i < tpt (addT (aT A) n row) (tnp (aT A)) → hI h' 120 (8 * tnp (aT A) + i) = io (tF (addT (aT A) n row) (tnp (aT A)) i) ∧ hI h' 121 (8 * tnp (aT A) + i) = io (tO (addT (aT A) n row) (tnp (aT A)) i) ∧ hI h' 122 (8 * tnp (aT A) + i) = io (tW (addT (aT A) n row) (tnp (aT A)) i)
      rw [x1, x2, x3, x4]
      exact ⟨en, er⟩
  · unfold KAt
    simp only [e134, e135, e136, e137]
    exact c4 k hk
  · simp only [e116, e117, e118]
    exact c5 s hs
section PREM
variable {Q : Option Value → HP → Prop} {bc bs : Nat} {h : HP} {A : AST}
theorem pc_loop {j n : Nat} {row : Nat → Int32} (hs : Str h) (hj : j < 4) (hn : n ≤ 8) (er : ∀ i, i < 40 → hI h 118 (40 * j + i) = row i)
    (y : pvalid n (rwF row) (rwO row) (rwW row) → X 77 Q bc bs 266 [.ref 115, .int (nI j), .int (nI n), .int (nI n), UU] [] h)
    (no : ¬ pvalid n (rwF row) (rwO row) (rwW row) → ∀ (x3 x4 : Int32), X 77 Q bc bs 145 [.ref 115, .int (nI j), .int (nI n), .int x3, .int x4] [] h ∧ X 77 Q bc bs 198 [.ref 115, .int (nI j), .int (nI n), .int x3, .int x4] [] h ∧ X 77 Q bc bs 230 [.ref 115, .int (nI j), .int (nI n), .int x3, .int x4] [] h ∧ X 77 Q bc bs 254 [.ref 115, .int (nI j), .int (nI n), .int x3, .int x4] [] h) :
    ∀ (f i : Nat), i + f = n → (∀ k, k < i → okQ (rwF row) (rwO row) (rwW row) k) → X 77 Q bc bs 70 [.ref 115, .int (nI j), .int (nI n), .int (nI i), UU] [] h := by
  have k0 : kd h 115 = 9 := hs.k 115 (by decide) (by decide)
  have k118 : kd h 118 = 10 := hs.k 118 (by decide) (by decide)
  have z118 : zl h 118 = 160 := hs.z 118 (by decide) (by decide)
  intro f
  induction f with
  | zero =>
    intro i hi hk
    have e : i = n := by omega
    subst e
    refine b77_70 (fun _ => y hk) (fun c => absurd ?_ c)
    rw [nI_leI (by omega) (by omega)]
    exact Nat.le_refl _
  | succ f ih =>
    intro i hi hk
    have ea : (40 : Int32) * nI j + (3 : Int32) * nI i = nI (40 * j + 3 * i) := by
      rw [show (40 : Int32) = nI 40 from rfl, show (3 : Int32) = nI 3 from rfl, nI_mul, nI_mul, nI_add]
    have ea1 : nI (40 * j + 3 * i) + (1 : Int32) = nI (40 * j + (3 * i + 1)) := nI_1 _
    have ea2 : nI (40 * j + 3 * i) + (2 : Int32) = nI (40 * j + (3 * i + 2)) := nI_add _ 2
    have r0 : hI h 118 (40 * j + 3 * i) = row (3 * i) := er _ (by omega)
    have r1 : hI h 118 (40 * j + (3 * i + 1)) = row (3 * i + 1) := er _ (by omega)
    have r2 : hI h 118 (40 * j + (3 * i + 2)) = row (3 * i + 2) := er _ (by omega)
    have bad : ¬ okQ (rwF row) (rwO row) (rwW row) i → ¬ pvalid n (rwF row) (rwO row) (rwW row) := fun hb z => hb (z i (by omega))
    have next : okQ (rwF row) (rwO row) (rwW row) i → X 77 Q bc bs 70 [.ref 115, .int (nI j), .int (nI n), .int (nI i + (1 : Int32)), UU] [] h := fun hb => by
      rw [show nI i + (1 : Int32) = nI (i + 1) from nI_1 i]
      refine ih (i + 1) (by omega) (fun k hk' => ?_)
      rcases Nat.lt_or_ge k i with q | q
      · exact hk k q
      · rw [show k = i by omega]; exact hb
    refine b77_70 (fun c => absurd c ?_) (fun _ => b77_75 (r1 := 118) k0 (hs.r 115 3 (by decide)) k118 (by rw [z118, ea]; exact vp_in_nI (by omega) (by omega)) ?_)
    · rw [nI_leI (by omega) (by omega)]
      omega
    rw [ea, nI_clamp (by omega), r0]
    refine sp_72 (fun c => b77_100 (fun z => absurd z (by decide)) (fun _ => b77_103 (r1 := 118) k0 (hs.r 115 3 (by decide)) k118 (by rw [z118, ea1]; exact vp_in_nI (by omega) (by omega)) ?_)) (fun c => b77_100 (fun _ => (no (bad ?_) _ _).1) (fun z => absurd rfl z))
    · rw [ea1, nI_clamp (by omega), r1]
      refine sp_72 (fun d => b77_120 (fun z => absurd z (by decide)) (fun _ => b77_123 (r1 := 118) k0 (hs.r 115 3 (by decide)) k118 (by rw [z118, ea2]; exact vp_in_nI (by omega) (by omega)) ?_)) (fun d => b77_120 (fun _ => (no (bad ?_) _ _).1) (fun z => absurd rfl z))
      · rw [ea2, nI_clamp (by omega), r2]
        refine sp_72 (fun e => b77_142 (fun _ => ?_) (fun z => absurd z (by decide))) (fun e => b77_142 (fun z => absurd rfl z) (fun _ => (no (bad ?_) _ _).1))
        · simp only [Int32.le_iff_toInt_le, Int32.lt_iff_toInt_lt, Int64.le_iff_toInt_le, Int64.lt_iff_toInt_lt, Int32.toInt_toInt64, i32eq, i64eq, Int32.reduceToInt, Int64.reduceToInt, Int32.reduceOfInt] at c d e
          have bd : (0 ≤ rwF row i ∧ rwF row i ≤ 1000) ∧ (0 ≤ rwO row i ∧ rwO row i ≤ 1000) ∧ (-200 ≤ rwW row i ∧ rwW row i ≤ 1000) := ⟨c, d, e⟩
          refine b77_151 (fun z => ?_) (fun z => b77_155 (next ⟨bd, fun u => ?_⟩))
          · have hi0 : 0 < i := by
              rcases Nat.eq_zero_or_pos i with q | q
              · subst q; exact absurd rfl z
              · exact q
            have s3 : nI (40 * j + 3 * i) - (3 : Int32) = nI (40 * j + 3 * (i - 1)) := by
              rw [show (3 : Int32) = nI 3 from rfl, nI_sub (by omega)]
              congr 1
              omega
            have s2 : nI (40 * j + 3 * i) - (2 : Int32) = nI (40 * j + (3 * (i - 1) + 1)) := by
              rw [show (2 : Int32) = nI 2 from rfl, nI_sub (by omega)]
              congr 1
              omega
            have s1 : nI (40 * j + 3 * i) - (1 : Int32) = nI (40 * j + (3 * (i - 1) + 2)) := by
              rw [show (1 : Int32) = nI 1 from rfl, nI_sub (by omega)]
              congr 1
              omega
            have p0 : hI h 118 (40 * j + 3 * (i - 1)) = row (3 * (i - 1)) := er _ (by omega)
            have p1 : hI h 118 (40 * j + (3 * (i - 1) + 1)) = row (3 * (i - 1) + 1) := er _ (by omega)
            have p2 : hI h 118 (40 * j + (3 * (i - 1) + 2)) = row (3 * (i - 1) + 2) := er _ (by omega)
            have one : nI i = (1 : Int32) ↔ i = 1 := by rw [show (1 : Int32) = nI 1 from rfl, nI_eq (by omega) (by omega)]
            have cF : hI h 118 (nI (40 * j + 3 * i)).toNatClampNeg ≤ hI h 118 (nI (40 * j + 3 * i) - (3 : Int32)).toNatClampNeg ↔ rwF row i ≤ rwF row (i - 1) := by
              rw [s3, nI_clamp (by omega), nI_clamp (by omega), r0, p0, Int32.le_iff_toInt_le]
              rfl
            have cO : hI h 118 (nI (40 * j + 3 * i) - (2 : Int32)).toNatClampNeg < hI h 118 (nI (40 * j + 3 * i) + (1 : Int32)).toNatClampNeg ↔ rwO row (i - 1) < rwO row i := by
              rw [s2, ea1, nI_clamp (by omega), nI_clamp (by omega), r1, p1, Int32.lt_iff_toInt_lt]
              rfl
            have cW : hI h 118 (nI (40 * j + 3 * i) - (1 : Int32)).toNatClampNeg < hI h 118 (nI (40 * j + 3 * i) + (2 : Int32)).toNatClampNeg ↔ rwW row (i - 1) < rwW row i := by
              rw [s1, ea2, nI_clamp (by omega), nI_clamp (by omega), r2, p2, Int32.lt_iff_toInt_lt]
              rfl
            have cE : hI h 118 (nI (40 * j + 3 * i) + (2 : Int32)).toNatClampNeg = hI h 118 (nI (40 * j + 3 * i) - (1 : Int32)).toNatClampNeg ↔ rwW row i = rwW row (i - 1) := by
              rw [s1, ea2, nI_clamp (by omega), nI_clamp (by omega), r2, p2, i32eq]
              rfl
            have v0 : vp_in (nI (40 * j + 3 * i)) (zl h 118) := by rw [z118]; exact vp_in_nI (by omega) (by omega)
            have va : vp_in (nI (40 * j + 3 * i) + (1 : Int32)) (zl h 118) := by rw [z118, ea1]; exact vp_in_nI (by omega) (by omega)
            have vb : vp_in (nI (40 * j + 3 * i) + (2 : Int32)) (zl h 118) := by rw [z118, ea2]; exact vp_in_nI (by omega) (by omega)
            have vc : vp_in (nI (40 * j + 3 * i) - (1 : Int32)) (zl h 118) := by rw [z118, s1]; exact vp_in_nI (by omega) (by omega)
            have vd : vp_in (nI (40 * j + 3 * i) - (2 : Int32)) (zl h 118) := by rw [z118, s2]; exact vp_in_nI (by omega) (by omega)
            have ve : vp_in (nI (40 * j + 3 * i) - (3 : Int32)) (zl h 118) := by rw [z118, s3]; exact vp_in_nI (by omega) (by omega)
            refine b77_158 (r1 := 118) k0 (hs.r 115 3 (by decide)) k118 v0 ve (fun u => (no (bad ?_) _ _).2.1) (fun u => b77_177 (r1 := 118) k0 (hs.r 115 3 (by decide)) k118 va vd (fun w => b77_204 (fun x => b77_233 (r1 := 118) k0 (hs.r 115 3 (by decide)) k118 vb vc (fun v => b77_260 (next ⟨bd, fun _ => ?_⟩)) (fun v => (no (bad ?_) _ _).2.2.2)) (fun x => b77_209 (r1 := 118) k0 (hs.r 115 3 (by decide)) k118 vb vc (fun v => b77_260 (next ⟨bd, fun _ => ?_⟩)) (fun v => (no (bad ?_) _ _).2.2.1))) (fun w => (no (bad ?_) _ _).2.1))
            · rw [cF] at u
              intro z
              have := (z.2 hi0).1
              omega
            · rw [cF] at u
              rw [cO] at w
              rw [cW] at v
              rw [one] at x
              exact ⟨by omega, w, fun q => absurd q x, fun _ => v⟩
            · rw [cW] at v
              rw [one] at x
              intro z
              exact v ((z.2 hi0).2.2.2 x)
            · rw [cF] at u
              rw [cO] at w
              rw [cE] at v
              rw [one] at x
              subst x
              exact ⟨by omega, w, fun _ => v, fun q => absurd rfl q⟩
            · rw [cE] at v
              rw [one] at x
              subst x
              intro z
              exact v ((z.2 hi0).2.2.1 rfl)
            · rw [cO] at w
              intro z
              exact w ((z.2 hi0).2.1)
          · rw [show (0 : Int32) = nI 0 from rfl, nI_eq (by omega) (by omega)] at z
            omega
        · simp only [Int32.le_iff_toInt_le, Int32.lt_iff_toInt_lt, Int64.le_iff_toInt_le, Int64.lt_iff_toInt_lt, Int32.toInt_toInt64, i32eq, i64eq, Int32.reduceToInt, Int64.reduceToInt, Int32.reduceOfInt] at e
          exact fun u => e u.1.2.2
      · simp only [Int32.le_iff_toInt_le, Int32.lt_iff_toInt_lt, Int64.le_iff_toInt_le, Int64.lt_iff_toInt_lt, Int32.toInt_toInt64, i32eq, i64eq, Int32.reduceToInt, Int64.reduceToInt, Int32.reduceOfInt] at d
        exact fun u => d u.1.2.1
    · simp only [Int32.le_iff_toInt_le, Int32.lt_iff_toInt_lt, Int64.le_iff_toInt_le, Int64.lt_iff_toInt_lt, Int32.toInt_toInt64, i32eq, i64eq, Int32.reduceToInt, Int64.reduceToInt, Int32.reduceOfInt] at c
      exact fun u => c u.1.1
end PREM
