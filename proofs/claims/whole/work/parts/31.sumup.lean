/-! Walk.sumUp. -/
def Fs (w : Nat) (h h' : HP) : Prop := Fr (fun q => q = w) (fun q => w + 3 ≤ q ∧ q ≤ w + 6) h h' ∧ ∀ i, i ≠ 9 → i ≠ 10 → hI h' w i = hI h w i
theorem Fs.rfl' {w : Nat} {h : HP} : Fs w h h := ⟨Fr.rfl', fun _ _ _ => rfl⟩
theorem Fs.sI' {w : Nat} {h h1 : HP} (a : Fs w h h1) {j : Nat} {v : Int32} (hj : j = 9 ∨ j = 10) : Fs w h (sI h1 w j v) := ⟨Fr.sI' a.1 rfl, fun i h1 h2 => by
  rw [hI_sI, if_pos rfl, if_neg (by omega)]
  exact a.2 i h1 h2⟩
theorem Fs.wR' {w : Nat} {h h1 : HP} (a : Fs w h h1) {x : Nat} {u v : Int} (hx : w + 3 ≤ x ∧ x ≤ w + 6) : Fs w h (wR h1 x u v) := ⟨Fr.wR' a.1 hx, a.2⟩
theorem RunS_Fs {w : Nat} {h h1 : HP} (a : Fs w h h1) {R : RUT} (c : RunS h w R) : RunS h1 w R := by
  obtain ⟨c1, c2, c3, c4⟩ := c
  refine ⟨by rw [a.2 6 (by omega) (by omega)]; exact c1, by rw [a.2 8 (by omega) (by omega)]; exact c2, fun i hi => SA_fr a.1 (fun e => by omega) (fun e => by omega) (c3 i hi), fun i hi => ?_⟩
  rw [a.1.2.2.1 (w + 2) (fun e => by omega)]
  exact c4 i hi
def RunT (h : HP) (w : Nat) (R : RUT) : Prop := (0 < uL R → hI h w 9 = 1 ∧ RA h (w + 3) (rU (uWo R) (uL R)) (rL (uWo R) (uL R)) ∧ RA h (w + 4) (rU (uWa R) (uL R)) (rL (uWa R) (uL R)) ∧ RA h (w + 5) (rU (uCo R) (uL R)) (rL (uCo R) (uL R))) ∧ (¬ 0 < uL R → hI h w 9 = 0) ∧ (uSh R → hI h w 10 = 1 ∧ RA h (w + 6) (rU (uWa R) (uWo R)) (rL (uWa R) (uWo R))) ∧ (¬ uSh R → hI h w 10 = 0)
theorem u_bounds {t : TBT} (tg : TG t) {R : RUT} (rw_ : RW t R) : (∀ i, i < um R → (mor (uS R) (uL R) i).natAbs ≤ 1000000000000000) ∧ ((uWo R).natAbs ≤ 12000000000000000 ∧ (uWa R).natAbs ≤ 12000000000000000 ∧ (uCo R).natAbs ≤ 12000000000000000 ∧ 0 ≤ uWa R ∧ 0 ≤ uCo R) ∧ uL R ≤ 1000000000000 := by
  have hl : uL R ≤ 1000000000000 := by
    unfold uL
    split
    · omega
    · exact cmx_le _ _
  have h1 : ∀ i, i < um R → (mor (uS R) (uL R) i).natAbs ≤ 1000000000000000 := fun i hi => by
    have := mor_bound tg rw_.2.1 (L := (uL R : Int)) (by omega) hi
    omega
  have h2 := sum_bound (K := uK R) h1 (um R) (Nat.le_refl _)
  have h3 : um R * 1000000000000000 ≤ 12 * 1000000000000000 := Nat.mul_le_mul_right _ rw_.1
  refine ⟨h1, ?_, hl⟩
  unfold uWo uWa uCo
  omega
section SUM
variable {Q : Option Value → HP → Prop} {bc bs : Nat} {h : HP}
theorem su_loop {t : TBT} {w : Nat} {R : RUT} (wk : WKs h w) (rs : RunS h w R) (tg : TG t) (rw_ : RW t R) (nx : X 38 Q bc bs 145 [.ref w, .long (jo (uL R)), UU, .long (jo (uWo R)), UU, .long (jo (uWa R)), UU, .long (jo (uCo R)), UU, .int (nI (um R)), UU, UU] [] h) :
    ∀ (f i : Nat), i + f = um R → X 38 Q bc bs 55 [.ref w, .long (jo (uL R)), UU, .long (jo (woU (uK R) (uS R) (uL R) i)), UU, .long (jo (waU (uK R) (uS R) (uL R) i)), UU, .long (jo (coU (uK R) (uS R) (uL R) i)), UU, .int (nI i), UU, UU] [] h := by
  obtain ⟨k1, k2, k3, k4, k5⟩ := wk
  obtain ⟨r1, r2, r3, r4⟩ := rs
  obtain ⟨bm, bo, bl⟩ := u_bounds tg rw_
  have hm := rw_.1
  have j0 : JB 0 := by unfold JB; omega
  intro f
  induction f with
  | zero =>
    intro i hi
    have e : i = um R := by omega
    subst e
    refine b38_55 k1.1 (fun _ => nx) (fun c => absurd ?_ c)
    rw [r1, nI_leI (by omega) (by omega)]
    exact Nat.le_refl _
  | succ f ih =>
    intro i hi
    have g0 := rw_.2.1 i (by omega)
    have g1 := rw_.2.1 (i + 1) (by omega)
    have q0 := SG_J tg g0
    have q1 := SG_J tg g1
    have kb := (rw_.2.2 i (by omega)).1
    have jl : JB (uL R : Int) := by unfold JB; omega
    have c0 : (nI i).toNatClampNeg = i := nI_clamp (by omega)
    have c1 : (nI i + (1 : Int32)).toNatClampNeg = i + 1 := by rw [show nI i + (1 : Int32) = nI (i + 1) from nI_1 i]; exact nI_clamp (by omega)
    refine b38_55 k1.1 (fun c => absurd c ?_) (fun _ => ?_)
    · rw [r1, nI_leI (by omega) (by omega)]
      omega
    refine b38_64 (r1 := w + 1) (r2 := w + 7 + 2 * (i + 1)) (r3 := w + 7 + 2 * (i + 1) + 1) k1.1 k1.2.1 (by rw [k2.1]; decide) (by rw [k2.1]; decide) (by rw [k2.2, show nI i + (1 : Int32) = nI (i + 1) from nI_1 i]; exact vp_in_nI (by omega) (by omega)) (by rw [c1]; exact (k5 (i + 1) (by omega)).1) (k5 (i + 1) (by omega)).2.1 (k5 (i + 1) (by omega)).2.2.1 (k5 (i + 1) (by omega)).2.2.2 ?_
    refine sp_over (k5 (i + 1) (by omega)).2.2.2 (r3 (i + 1) (by omega)).2 g1.2.1 q1.2.1 jl (by omega) ?_
    refine b38_80 (r1 := w + 1) (r2 := w + 7 + 2 * i) (r3 := w + 7 + 2 * i + 1) k1.1 k1.2.1 (by rw [k2.1]; decide) (by rw [k2.1]; decide) (by rw [k2.2]; exact vp_in_nI (by omega) (by omega)) (by rw [c0]; exact (k5 i (by omega)).1) (k5 i (by omega)).2.1 (k5 i (by omega)).2.2.1 (k5 i (by omega)).2.2.2 ?_
    refine sp_over (k5 i (by omega)).2.2.2 (r3 i (by omega)).2 g0.2.1 q0.2.1 jl (by omega) ?_
    have em : jo ((uS R (i + 1)).2.1 * ((uL R : Int) / (uS R (i + 1)).2.2)) - jo ((uS R i).2.1 * ((uL R : Int) / (uS R i).2.2)) = jo (mor (uS R) (uL R) i) := jo_sub _ _
    have jm : JB (mor (uS R) (uL R) i) := (JBn (by have := bm i (by omega); omega)).1
    have ek : hI h (w + 2) i = 0 ↔ uK R i = 0 := by
      rw [r4 i (by omega), show (0 : Int32) = io 0 from rfl, io_eq (by unfold IB; omega) (by unfold IB; omega)]
    refine b38_94 (r1 := w + 2) k1.1 k1.2.2.1 k3.1 (by rw [k3.2]; exact vp_in_nI (by omega) (by omega)) (fun c => ?_) (fun c => ?_)
    · rw [c0, ek] at c
      rw [em]
      refine b38_115 (fun d => b38_132 ?_) (fun d => b38_122 ?_)
      · rw [lg_cmp_le, show (0 : Int64) = jo 0 from rfl, jo_le jm j0] at d
        rw [show nI i + (1 : Int32) = nI (i + 1) from nI_1 i, jo_sub]
        have := ih (i + 1) (by omega)
        simp only [woU, waU, coU, if_neg c, if_neg (show ¬ 0 < mor (uS R) (uL R) i by omega), Int.add_zero, ← Int.sub_eq_add_neg] at this
        exact this
      · rw [lg_cmp_le, show (0 : Int64) = jo 0 from rfl, jo_le jm j0] at d
        rw [show nI i + (1 : Int32) = nI (i + 1) from nI_1 i, jo_add]
        have := ih (i + 1) (by omega)
        simp only [woU, waU, coU, if_neg c, if_pos (show 0 < mor (uS R) (uL R) i by omega), Int.add_zero] at this
        exact this
    · rw [c0, ek] at c
      rw [em]
      refine b38_107 ?_
      rw [show nI i + (1 : Int32) = nI (i + 1) from nI_1 i, jo_add]
      have := ih (i + 1) (by omega)
      simp only [woU, waU, coU, if_pos c, Int.add_zero] at this
      exact this
set_option maxHeartbeats 1000000 in
theorem sp_sum {t : TBT} {w : Nat} {R : RUT} (wk : WKs h w) (rs : RunS h w R) (tg : TG t) (rw_ : RW t R) (nx : ∀ h', Fs w h h' → RunS h' w R → RunT h' w R → Q none h') : X 38 Q bc bs 0 [.ref w, UU, UU, UU, UU, UU, UU, UU, UU, UU, UU, UU] [] h := by
  obtain ⟨bm, bo, bl⟩ := u_bounds tg rw_
  have hm := rw_.1
  have k1 := wk.1
  have none_ : ¬ 0 < uL R → Q none (sI (sI h w 9 0) w 10 0) := by
    intro hz
    have f : Fs w h (sI (sI h w 9 0) w 10 0) := Fs.sI' (Fs.sI' Fs.rfl' (Or.inl rfl)) (Or.inr rfl)
    refine nx _ f (RunS_Fs f rs) ⟨fun q => absurd q hz, fun _ => ?_, fun q => absurd q.1 hz, fun _ => ?_⟩
    · simp [hI_sI]
    · simp [hI_sI]
  refine b38_0 k1.1 (fun c => ?_) (fun c => ?_)
  · have hst : us R = false := by
      rw [rs.2.1] at c
      cases hu : us R with
      | false => rfl
      | true =>
        rw [hu] at c
        exact absurd c (by decide)
    have eL : uL R = cmx (uS R) (um R + 1) := by
      unfold uL
      rw [hst]
      rfl
    refine b38_11 k1.1 (b39_0 (cl_loop wk rs.1 hm rs.2.2.1 (fun i hi => ⟨(rw_.2.1 i hi).2.1, (rw_.2.1 i hi).2.2.1⟩) ?_ (um R + 1) 0 (by omega)))
    rw [← eL]
    refine b38_15 (fun d => b38_27 k1.1 k1.1 (fun e => absurd (by simp [hI_sI]) e) (fun _ => b38_43 ?_)) (fun d => ?_)
    · rw [lg_cmp_le, show (0 : Int64) = lN 0 from rfl, pk_lLE (by omega) (by omega)] at d
      exact none_ (by omega)
    · rw [lg_cmp_le, show (0 : Int64) = lN 0 from rfl, pk_lLE (by omega) (by omega)] at d
      have hp : 0 < uL R := by omega
      refine b38_23 k1.1 k1.1 (fun _ => b38_44 ?_) (fun e => absurd e (by simp [hI_sI]))
      have f1 : Fs w h (sI (sI h w 9 1) w 10 0) := Fs.sI' (Fs.sI' Fs.rfl' (Or.inl rfl)) (Or.inr rfl)
      have e9 : hI (sI (sI h w 9 1) w 10 0) w 9 = 1 := by simp [hI_sI]
      generalize sI (sI h w 9 1) w 10 0 = h1 at f1 e9 ⊢
      have jl : JB (uL R : Int) := by unfold JB; omega
      rw [lN_jo]
      have wk1 := WKs_fr f1.1 wk
      refine su_loop wk1 (RunS_Fs f1 rs) tg rw_ ?_ (um R) 0 (by omega)
      obtain ⟨-, -, -, k4, -⟩ := wk1
      have k1' := WKs_fr f1.1 wk |>.1
      refine b38_145 k1'.1 k1'.2.2.2.1 k4.1 (sp_put k4.1 (JBn (by omega)).1 (by omega) (by omega) jl ?_)
      refine b38_154 k1'.1 k1'.2.2.2.2.1 k4.2.1 (sp_put k4.2.1 (JBn (by omega)).1 (by omega) (by omega) jl ?_)
      refine b38_164 k1'.1 k1'.2.2.2.2.2.1 k4.2.2.1 (sp_put k4.2.2.1 (JBn (by omega)).1 (by omega) (by omega) jl ?_)
      have f2 := Fs.wR' (x := w + 5) (u := rU (uCo R) (uL R)) (v := rL (uCo R) (uL R)) (Fs.wR' (x := w + 4) (u := rU (uWa R) (uL R)) (v := rL (uWa R) (uL R)) (Fs.wR' (x := w + 3) (u := rU (uWo R) (uL R)) (v := rL (uWo R) (uL R)) f1 (by omega)) (by omega)) (by omega)
      have a5 := RA_wR (h := wR (wR h1 (w + 3) (rU (uWo R) (uL R)) (rL (uWo R) (uL R))) (w + 4) (rU (uWa R) (uL R)) (rL (uWa R) (uL R))) (a := w + 5) (u := rU (uCo R) (uL R)) (w := rL (uCo R) (uL R))
      have a4 := RA_ne (a := w + 5) (u' := rU (uCo R) (uL R)) (w' := rL (uCo R) (uL R)) (show w + 4 ≠ w + 5 by omega) (RA_wR (h := wR h1 (w + 3) (rU (uWo R) (uL R)) (rL (uWo R) (uL R))) (a := w + 4) (u := rU (uWa R) (uL R)) (w := rL (uWa R) (uL R)))
      have a3 := RA_ne (a := w + 5) (u' := rU (uCo R) (uL R)) (w' := rL (uCo R) (uL R)) (show w + 3 ≠ w + 5 by omega) (RA_ne (a := w + 4) (u' := rU (uWa R) (uL R)) (w' := rL (uWa R) (uL R)) (show w + 3 ≠ w + 4 by omega) (RA_wR (h := h1) (a := w + 3) (u := rU (uWo R) (uL R)) (w := rL (uWo R) (uL R))))
      have e9' : hI (wR (wR (wR h1 (w + 3) (rU (uWo R) (uL R)) (rL (uWo R) (uL R))) (w + 4) (rU (uWa R) (uL R)) (rL (uWa R) (uL R))) (w + 5) (rU (uCo R) (uL R)) (rL (uCo R) (uL R))) w 9 = 1 := e9
      generalize wR (wR (wR h1 (w + 3) (rU (uWo R) (uL R)) (rL (uWo R) (uL R))) (w + 4) (rU (uWa R) (uL R)) (rL (uWa R) (uL R))) (w + 5) (rU (uCo R) (uL R)) (rL (uCo R) (uL R)) = h2 at f2 a5 a4 a3 e9' ⊢
      have wk2 := WKs_fr f2.1 wk
      have no : ¬ uSh R → X 38 Q bc bs 192 [.ref w, .long (jo (uL R)), UU, .long (jo (uWo R)), UU, .long (jo (uWa R)), UU, .long (jo (uCo R)), UU, .int (nI (um R)), UU, UU] [.ref w] h2 := by
        intro hz
        refine b38_192 wk2.1.1 wk2.1.1 (fun _ => b38_213 ?_) (fun e => absurd (by simp [hI_sI]) e)
        have f3 := Fs.sI' (j := 10) (v := 0) f2 (Or.inr rfl)
        refine nx _ f3 (RunS_Fs f3 rs) ⟨fun _ => ⟨?_, a3, a4, a5⟩, fun q => absurd hp q, fun q => absurd q hz, fun _ => ?_⟩
        · rw [hI_sI, if_pos rfl, if_neg (by omega)]
          exact e9'
        · simp [hI_sI]
      refine b38_174 wk2.1.1 (sp_comes wk2 (RunS_Fs f2 rs) tg rw_ (fun q => b38_179 (fun d => absurd d (by decide)) (fun _ => ?_)) (fun q => b38_179 (fun _ => no (fun z => q z.2.1)) (fun d => absurd rfl d)))
      have j0 : JB 0 := by unfold JB; omega
      have jw : JB (uWo R) := (JBn (by omega)).1
      refine b38_182 (fun d => no (fun z => ?_)) (fun d => ?_)
      · rw [lg_cmp_le, show (0 : Int64) = jo 0 from rfl, jo_le jw j0] at d
        have := z.2.2
        omega
      · rw [lg_cmp_le, show (0 : Int64) = jo 0 from rfl, jo_le jw j0] at d
        have sh : uSh R := ⟨hp, q, by omega⟩
        refine b38_188 wk2.1.1 wk2.1.1 (fun e => absurd e (by simp [hI_sI])) (fun _ => ?_)
        refine b38_203 wk2.1.1 wk2.1.2.2.2.2.2.2 wk2.2.2.2.1.2.2.2 (sp_put wk2.2.2.2.1.2.2.2 (JBn (by omega)).1 (by omega) (by omega) jw (b38_213 ?_))
        have f3 := Fs.wR' (x := w + 6) (u := rU (uWa R) (uWo R)) (v := rL (uWa R) (uWo R)) (Fs.sI' (j := 10) (v := 1) f2 (Or.inr rfl)) (by omega)
        refine nx _ f3 (RunS_Fs f3 rs) ⟨fun _ => ⟨?_, RA_ne (by omega) a3, RA_ne (by omega) a4, RA_ne (by omega) a5⟩, fun q => absurd hp q, fun _ => ⟨?_, RA_wR⟩, fun q => absurd sh q⟩
        · show hI (sI h2 w 10 1) w 9 = 1
          rw [hI_sI, if_pos rfl, if_neg (by omega)]
          exact e9'
        · show hI (sI h2 w 10 1) w 10 = 1
          simp [hI_sI]
  · have hst : us R = true := by
      rw [rs.2.1] at c
      cases hu : us R with
      | true => rfl
      | false =>
        rw [hu] at c
        exact absurd rfl c
    refine b38_7 (fun _ => b38_27 k1.1 k1.1 (fun e => absurd (by simp [hI_sI]) e) (fun _ => b38_43 (none_ ?_))) (fun d => absurd (by rw [lg_cmp_le]; decide) d)
    unfold uL
    rw [hst]
    simp
end SUM
