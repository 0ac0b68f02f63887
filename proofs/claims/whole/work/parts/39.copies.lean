/-! Loops that copy: Ring.copy, Sheet.begin, keepsRun, bringsRun, lays, takes, sheetsThere. -/
def RunA (h : HP) (R : RUT) : Prop := hI h 115 30 = nI (um R) ∧ (∃ rp : Nat, hI h 115 31 = nI rp ∧ um R ≤ rp ∧ rp ≤ 12 ∧ us R = decide (um R < rp)) ∧ (∀ i, i ≤ um R → hI h 130 i = nI (uS R i).1 ∧ hJ h 131 i = jo (uS R i).2.1 ∧ hJ h 132 i = jo (uS R i).2.2) ∧ ∀ i, i < um R → hI h 133 i = io (uK R i)
def KAt (h : HP) (c at_ : Nat) (r : RGT) : Prop := hI h c (at_ + 36) = nI (rn r) ∧ ∀ i, i < 12 → hI h c (at_ + 3 * i) = io (rk r i) ∧ hI h c (at_ + 3 * i + 1) = io (ra r i) ∧ hI h c (at_ + 3 * i + 2) = io (rb r i)
section CPY
variable {Q : Option Value → HP → Prop} {bc bs : Nat} {h : HP}
theorem rc_loop {a b : Nat} {r : RGT} (ka : RK h a) (kb : RK h b) (rb_ : RG h b r) (hd : a + 3 < b ∨ b + 3 < a)
    (nx : ∀ h', Fr (fun q => a ≤ q ∧ q ≤ a + 3) (fun _ => False) h h' → hI h' a 3 = hI h a 3 → (∀ j, j < 12 → hI h' (a + 1) j = io (rk r j) ∧ hI h' (a + 2) j = io (ra r j) ∧ hI h' (a + 3) j = io (rb r j)) → Q none h') :
    ∀ (f i : Nat) (h' : HP), i + f = 12 → Fr (fun q => a ≤ q ∧ q ≤ a + 3) (fun _ => False) h h' → hI h' a 3 = hI h a 3 → (∀ j, j < i → hI h' (a + 1) j = io (rk r j) ∧ hI h' (a + 2) j = io (ra r j) ∧ hI h' (a + 3) j = io (rb r j)) →
      X 14 Q bc bs 10 [.ref a, .ref b, .int (nI i)] [] h' := by
  intro f
  induction f with
  | zero =>
    intro i h' hi fr e3 hj
    have e : i = 12 := by omega
    subst e
    exact b14_10 (fun _ => b14_58 (nx h' fr e3 hj)) (fun c => absurd (by decide) c)
  | succ f ih =>
    intro i h' hi fr e3 hj
    have ka' := RK_fr fr ka
    have kb' := RK_fr fr kb
    have rb' := RG_fr fr (show ¬ (a ≤ b ∧ b ≤ a + 3) by omega) (show ¬ (a ≤ b + 1 ∧ b + 1 ≤ a + 3) by omega) (show ¬ (a ≤ b + 2 ∧ b + 2 ≤ a + 3) by omega) (show ¬ (a ≤ b + 3 ∧ b + 3 ≤ a + 3) by omega) rb_
    obtain ⟨w1, w2, w3⟩ := rb'.2 i (by omega)
    have ci : (nI i).toNatClampNeg = i := nI_clamp (by omega)
    have vi : vp_in (nI i) 12 := vp_in_nI (by omega) (by omega)
    refine b14_10 (fun c => absurd c ?_) (fun _ => b14_16 ka'.1.1 ka'.1.2.1 kb'.1.1 kb'.1.2.1 kb'.2.1.1 (by rw [kb'.2.1.2]; exact vi) ka'.2.1.1 (by rw [ka'.2.1.2]; exact vi) ka'.1.2.2.1 kb'.1.2.2.1 kb'.2.2.1.1 (by rw [kb'.2.2.1.2]; exact vi) ka'.2.2.1.1 (by rw [ka'.2.2.1.2]; exact vi) ka'.1.2.2.2 kb'.1.2.2.2 kb'.2.2.2.1 (by rw [kb'.2.2.2.2]; exact vi) ka'.2.2.2.1 (by rw [ka'.2.2.2.2]; exact vi) ?_)
    · rw [show (12 : Int32) = nI 12 from rfl, nI_leI (by omega) (by omega)]
      omega
    · have x1 : ∀ v, hI (sI h' (a + 1) i v) (b + 2) i = io (ra r i) := fun v => by rw [hI_sI, if_neg (by omega)]; exact w2
      have x2 : ∀ v v', hI (sI (sI h' (a + 1) i v) (a + 2) i v') (b + 3) i = io (rb r i) := fun v v' => by rw [hI_sI, if_neg (by omega), hI_sI, if_neg (by omega)]; exact w3
      rw [ci, w1, x1, x2, show nI i + (1 : Int32) = nI (i + 1) from nI_1 i]
      refine ih (i + 1) _ (by omega) (Fr.sI' (Fr.sI' (Fr.sI' fr (show a ≤ a + 1 ∧ a + 1 ≤ a + 3 by omega)) (show a ≤ a + 2 ∧ a + 2 ≤ a + 3 by omega)) (show a ≤ a + 3 ∧ a + 3 ≤ a + 3 by omega)) ?_ (fun j hj' => ⟨?_, ?_, ?_⟩)
      · rw [hI_sI, if_neg (by omega), hI_sI, if_neg (by omega), hI_sI, if_neg (by omega)]
        exact e3
      · rw [hI_sI, if_neg (by omega), hI_sI, if_neg (by omega), hI_sI, if_pos rfl]
        split
        · rename_i e; rw [e]
        · exact (hj j (by omega)).1
      · rw [hI_sI, if_neg (by omega), hI_sI, if_pos rfl]
        split
        · rename_i e; rw [e]
        · rw [hI_sI, if_neg (by omega)]
          exact (hj j (by omega)).2.1
      · rw [hI_sI, if_pos rfl]
        split
        · rename_i e; rw [e]
        · rw [hI_sI, if_neg (by omega), hI_sI, if_neg (by omega)]
          exact (hj j (by omega)).2.2
theorem sp_rcopy {a b : Nat} {r : RGT} (ka : RK h a) (kb : RK h b) (rb_ : RG h b r) (hd : a + 3 < b ∨ b + 3 < a)
    (nx : ∀ h', Fr (fun q => a ≤ q ∧ q ≤ a + 3) (fun _ => False) h h' → RG h' a r → Q none h') : X 14 Q bc bs 0 [.ref a, .ref b, UU] [] h := by
  refine b14_0 kb.1.1 ka.1.1 ?_
  rw [rb_.1]
  have f1 : Fr (fun q => a ≤ q ∧ q ≤ a + 3) (fun _ => False) h (sI h a 3 (nI (rn r))) := Fr.sI' Fr.rfl' (show a ≤ a ∧ a ≤ a + 3 by omega)
  refine rc_loop (RK_fr f1 ka) (RK_fr f1 kb) (RG_fr f1 (show ¬ (a ≤ b ∧ b ≤ a + 3) by omega) (show ¬ (a ≤ b + 1 ∧ b + 1 ≤ a + 3) by omega) (show ¬ (a ≤ b + 2 ∧ b + 2 ≤ a + 3) by omega) (show ¬ (a ≤ b + 3 ∧ b + 3 ≤ a + 3) by omega) rb_) hd (fun h' fr e3 hj => nx h' (f1.trans' fr) ⟨?_, hj⟩) 12 0 _ (by omega) Fr.rfl' rfl (fun j hj => absurd hj (by omega))
  rw [e3, hI_sI, if_pos rfl, if_pos rfl]
theorem sb_loop {x : Nat} {z1 z2 : Int32} (hx : kd h x = 3) (hr : hR h x 0 = some (x + 1)) (kr : kd h (x + 1) = 10) (zr : zl h (x + 1) = 40)
    (nx : ∀ h', Fr (fun q => q = x + 1) (fun _ => False) h h' → (∀ j, j < 40 → hI h' (x + 1) j = 0) → Q none h') :
    ∀ (f i : Nat) (h' : HP), i + f = 40 → Fr (fun q => q = x + 1) (fun _ => False) h h' → (∀ j, j < i → hI h' (x + 1) j = 0) → X 16 Q bc bs 17 [.ref x, .int z1, .int z2, .int (nI i)] [] h' := by
  intro f
  induction f with
  | zero =>
    intro i h' hi fr hj
    have e : i = 40 := by omega
    subst e
    exact b16_17 (fun _ => b16_36 (nx h' fr hj)) (fun c => absurd (by decide) c)
  | succ f ih =>
    intro i h' hi fr hj
    have ci : (nI i).toNatClampNeg = i := nI_clamp (by omega)
    refine b16_17 (fun c => absurd c ?_) (fun _ => b16_23 (by rw [fr.kd']; exact hx) (by rw [fr.hR']; exact hr) (by rw [fr.kd']; exact kr) (by rw [fr.zl', zr]; exact vp_in_nI (by omega) (by omega)) ?_)
    · rw [show (40 : Int32) = nI 40 from rfl, nI_leI (by omega) (by omega)]
      omega
    · rw [ci, show nI i + (1 : Int32) = nI (i + 1) from nI_1 i]
      refine ih (i + 1) _ (by omega) (Fr.sI' fr rfl) (fun j hj' => ?_)
      rw [hI_sI, if_pos rfl]
      split
      · rfl
      · exact hj j (by omega)
theorem sp_begin {x : Nat} {z1 z2 : Int32} (hx : kd h x = 3) (hr : hR h x 0 = some (x + 1)) (kr : kd h (x + 1) = 10) (zr : zl h (x + 1) = 40)
    (nx : ∀ h', Fr (fun q => q = x ∨ q = x + 1) (fun _ => False) h h' → hI h' x 1 = 1 → hI h' x 2 = z1 → hI h' x 3 = z2 → (∀ j, j < 40 → hI h' (x + 1) j = 0) → Q none h') : X 16 Q bc bs 0 [.ref x, .int z1, .int z2, UU] [] h := by
  refine b16_0 hx ?_
  have f1 : Fr (fun q => q = x ∨ q = x + 1) (fun _ => False) h (sI (sI (sI h x 1 1) x 2 z1) x 3 z2) := Fr.sI' (Fr.sI' (Fr.sI' Fr.rfl' (Or.inl rfl)) (Or.inl rfl)) (Or.inl rfl)
  refine sb_loop (h := sI (sI (sI h x 1 1) x 2 z1) x 3 z2) hx hr kr zr (fun h' fr hj => nx h' (f1.trans' (fr.weak (fun _ q => Or.inr q) (fun _ q => q))) ?_ ?_ ?_ hj) 40 0 _ (by omega) Fr.rfl' (fun j hj => absurd hj (by omega))
  · rw [fr.2.2.1 x (fun e => by omega), hI_sI, if_pos rfl, if_neg (by decide), hI_sI, if_pos rfl, if_neg (by decide), hI_sI, if_pos rfl, if_pos rfl]
  · rw [fr.2.2.1 x (fun e => by omega), hI_sI, if_pos rfl, if_neg (by decide), hI_sI, if_pos rfl, if_pos rfl]
  · rw [fr.2.2.1 x (fun e => by omega), hI_sI, if_pos rfl, if_pos rfl]
end CPY
def KRI (b i : Nat) : Prop := (b = 115 ∧ (i = 30 ∨ i = 31)) ∨ b = 130 ∨ b = 133
def KRJ (b _i : Nat) : Prop := b = 131 ∨ b = 132
def BRI (b i : Nat) : Prop := (b = 115 ∧ (i = 19 ∨ i = 20)) ∨ b = 126 ∨ b = 129
def BRJ (b _i : Nat) : Prop := b = 127 ∨ b = 128
section CPY2
variable {Q : Option Value → HP → Prop} {bc bs : Nat} {h : HP}
theorem kp_loop (hs : Str h) (nx : ∀ h', Ff KRI KRJ h h' → (∀ j, j < 13 → hI h' 130 j = hI h 126 j ∧ hJ h' 131 j = hJ h 127 j ∧ hJ h' 132 j = hJ h 128 j) → X 106 Q bc bs 50 [.ref 115, .int (nI 13)] [] h') :
    ∀ (f i : Nat) (h' : HP), i + f = 13 → Ff KRI KRJ h h' → (∀ j, j < i → hI h' 130 j = hI h 126 j ∧ hJ h' 131 j = hJ h 127 j ∧ hJ h' 132 j = hJ h 128 j) → X 106 Q bc bs 2 [.ref 115, .int (nI i)] [] h' := by
  intro f
  induction f with
  | zero =>
    intro i h' hi fr hj
    have e : i = 13 := by omega
    subst e
    exact b106_2 (fun _ => nx h' fr hj) (fun c => absurd (by decide) c)
  | succ f ih =>
    intro i h' hi fr hj
    have hs' := fr.str hs
    have ci : (nI i).toNatClampNeg = i := nI_clamp (by omega)
    have vi : vp_in (nI i) 13 := vp_in_nI (by omega) (by omega)
    refine b106_2 (fun c => absurd c ?_) (fun _ => b106_8 (r1 := 130) (r2 := 126) (r3 := 131) (r4 := 127) (r5 := 132) (r6 := 128) (hs'.k 115 (by decide) (by decide)) (hs'.r 115 26 (by decide)) (hs'.r 115 15 (by decide)) (hs'.k 126 (by decide) (by decide)) (by rw [hs'.z 126 (c := 13) (by decide) (by decide)]; exact vi) (hs'.k 130 (by decide) (by decide)) (by rw [hs'.z 130 (c := 13) (by decide) (by decide)]; exact vi) (hs'.r 115 27 (by decide)) (hs'.r 115 16 (by decide)) (hs'.k 127 (by decide) (by decide)) (by rw [hs'.z 127 (c := 13) (by decide) (by decide)]; exact vi) (hs'.k 131 (by decide) (by decide)) (by rw [hs'.z 131 (c := 13) (by decide) (by decide)]; exact vi) (hs'.r 115 28 (by decide)) (hs'.r 115 17 (by decide)) (hs'.k 128 (by decide) (by decide)) (by rw [hs'.z 128 (c := 13) (by decide) (by decide)]; exact vi) (hs'.k 132 (by decide) (by decide)) (by rw [hs'.z 132 (c := 13) (by decide) (by decide)]; exact vi) ?_)
    · rw [show (13 : Int32) = nI 13 from rfl, nI_leI (by omega) (by omega)]
      omega
    · have x1 : ∀ H v, hJ (sJ H 131 i v) 128 i = hJ H 128 i := fun H v => by rw [hJ_sJ, if_neg (by decide)]
      rw [ci, x1, hJ_sI, fr.2.2.1 126 i (fun q => by unfold KRI at q; omega), fr.2.2.2 127 i (fun q => by unfold KRJ at q; omega), fr.2.2.2 128 i (fun q => by unfold KRJ at q; omega), show nI i + (1 : Int32) = nI (i + 1) from nI_1 i]
      refine ih (i + 1) _ (by omega) (Ff.sJ' (Ff.sJ' (Ff.sI' fr (Or.inr (Or.inl rfl))) (Or.inl rfl)) (Or.inr rfl)) (fun j hj' => ⟨?_, ?_, ?_⟩)
      · rw [hI_sJ, hI_sJ, hI_sI, if_pos rfl]
        split
        · rename_i e; rw [e]
        · exact (hj j (by omega)).1
      · rw [hJ_sJ, if_neg (by decide), hJ_sJ, if_pos rfl]
        split
        · rename_i e; rw [e]
        · exact (hj j (by omega)).2.1
      · rw [hJ_sJ, if_pos rfl]
        split
        · rename_i e; rw [e]
        · rw [hJ_sJ, if_neg (by decide)]
          exact (hj j (by omega)).2.2
theorem kq_loop (hs : Str h) (nx : ∀ h', Ff (fun b _ => b = 133) (fun _ _ => False) h h' → (∀ j, j < 12 → hI h' 133 j = hI h 129 j) → X 106 Q bc bs 76 [.ref 115, .int (nI 12)] [] h') :
    ∀ (f i : Nat) (h' : HP), i + f = 12 → Ff (fun b _ => b = 133) (fun _ _ => False) h h' → (∀ j, j < i → hI h' 133 j = hI h 129 j) → X 106 Q bc bs 52 [.ref 115, .int (nI i)] [] h' := by
  intro f
  induction f with
  | zero =>
    intro i h' hi fr hj
    have e : i = 12 := by omega
    subst e
    exact b106_52 (fun _ => nx h' fr hj) (fun c => absurd (by decide) c)
  | succ f ih =>
    intro i h' hi fr hj
    have hs' := fr.str hs
    have ci : (nI i).toNatClampNeg = i := nI_clamp (by omega)
    have vi : vp_in (nI i) 12 := vp_in_nI (by omega) (by omega)
    refine b106_52 (fun c => absurd c ?_) (fun _ => b106_58 (r1 := 133) (r2 := 129) (hs'.k 115 (by decide) (by decide)) (hs'.r 115 29 (by decide)) (hs'.r 115 18 (by decide)) (hs'.k 129 (by decide) (by decide)) (by rw [hs'.z 129 (c := 12) (by decide) (by decide)]; exact vi) (hs'.k 133 (by decide) (by decide)) (by rw [hs'.z 133 (c := 12) (by decide) (by decide)]; exact vi) ?_)
    · rw [show (12 : Int32) = nI 12 from rfl, nI_leI (by omega) (by omega)]
      omega
    · rw [ci, fr.2.2.1 129 i (show ¬ 129 = 133 by decide), show nI i + (1 : Int32) = nI (i + 1) from nI_1 i]
      refine ih (i + 1) _ (by omega) (Ff.sI' fr rfl) (fun j hj' => ?_)
      rw [hI_sI, if_pos rfl]
      split
      · rename_i e; rw [e]
      · exact hj j (by omega)
/-- keepsRun: the run lies aside too -/
theorem sp_keeps {R : RUT} (hs : Str h) (hm : um R ≤ 12) (rs : RunM h R) (nx : ∀ h', Ff KRI KRJ h h' → RunA h' R → Q none h') : X 106 Q bc bs 0 [.ref 115, UU] [] h := by
  refine b106_0 (kp_loop hs (fun h1 f1 e1 => b106_50 (kq_loop (f1.str hs) (fun h2 f2 e2 => ?_) 12 0 h1 (by omega) Ff.rfl' (fun j hj => absurd hj (by omega)))) 13 0 h (by omega) Ff.rfl' (fun j hj => absurd hj (by omega)))
  have f3 : Ff KRI KRJ h h2 := f1.trans' (f2.weak (fun b i q => Or.inr (Or.inr q)) (fun _ _ q => absurd q id))
  have hs2 := f3.str hs
  refine b106_76 (hs2.k 115 (by decide) (by decide)) ?_
  have q19 : hI h2 115 19 = hI h 115 19 := f3.2.2.1 _ _ (fun q => by unfold KRI at q; omega)
  have q20 : hI (sI h2 115 30 (hI h 115 19)) 115 20 = hI h 115 20 := by
    rw [hI_sI, if_pos rfl, if_neg (by decide)]
    exact f3.2.2.1 _ _ (fun q => by unfold KRI at q; omega)
  rw [q19, q20]
  obtain ⟨r1, ⟨rp, r2, r3, r4, r5⟩, r6, r7⟩ := rs
  refine nx _ (Ff.sI' (Ff.sI' f3 (Or.inl ⟨rfl, Or.inl rfl⟩)) (Or.inl ⟨rfl, Or.inr rfl⟩)) ⟨?_, ⟨rp, ?_, r3, r4, r5⟩, fun i hi => ⟨?_, ?_, ?_⟩, fun i hi => ?_⟩
  · rw [hI_sI, if_pos rfl, if_neg (by decide), hI_sI, if_pos rfl, if_pos rfl]
    exact r1
  · rw [hI_sI, if_pos rfl, if_pos rfl]
    exact r2
  · rw [hI_sI, if_neg (by decide), hI_sI, if_neg (by decide), f2.2.2.1 _ _ (show ¬ 130 = 133 by decide), (e1 i (by omega)).1]
    exact (r6 i hi).1
  · rw [hJ_sI, hJ_sI, f2.2.2.2 _ _ id, (e1 i (by omega)).2.1]
    exact (r6 i hi).2.1
  · rw [hJ_sI, hJ_sI, f2.2.2.2 _ _ id, (e1 i (by omega)).2.2]
    exact (r6 i hi).2.2
  · rw [hI_sI, if_neg (by decide), hI_sI, if_neg (by decide), e2 i (by omega), f1.2.2.1 _ _ (fun q => by unfold KRI at q; omega)]
    exact r7 i hi
theorem br_loop (hs : Str h) (nx : ∀ h', Ff BRI BRJ h h' → (∀ j, j < 13 → hI h' 126 j = hI h 130 j ∧ hJ h' 127 j = hJ h 131 j ∧ hJ h' 128 j = hJ h 132 j) → X 107 Q bc bs 50 [.ref 115, .int (nI 13)] [] h') :
    ∀ (f i : Nat) (h' : HP), i + f = 13 → Ff BRI BRJ h h' → (∀ j, j < i → hI h' 126 j = hI h 130 j ∧ hJ h' 127 j = hJ h 131 j ∧ hJ h' 128 j = hJ h 132 j) → X 107 Q bc bs 2 [.ref 115, .int (nI i)] [] h' := by
  intro f
  induction f with
  | zero =>
    intro i h' hi fr hj
    have e : i = 13 := by omega
    subst e
    exact b107_2 (fun _ => nx h' fr hj) (fun c => absurd (by decide) c)
  | succ f ih =>
    intro i h' hi fr hj
    have hs' := fr.str hs
    have ci : (nI i).toNatClampNeg = i := nI_clamp (by omega)
    have vi : vp_in (nI i) 13 := vp_in_nI (by omega) (by omega)
    refine b107_2 (fun c => absurd c ?_) (fun _ => b107_8 (r1 := 126) (r2 := 130) (r3 := 127) (r4 := 131) (r5 := 128) (r6 := 132) (hs'.k 115 (by decide) (by decide)) (hs'.r 115 15 (by decide)) (hs'.r 115 26 (by decide)) (hs'.k 130 (by decide) (by decide)) (by rw [hs'.z 130 (c := 13) (by decide) (by decide)]; exact vi) (hs'.k 126 (by decide) (by decide)) (by rw [hs'.z 126 (c := 13) (by decide) (by decide)]; exact vi) (hs'.r 115 16 (by decide)) (hs'.r 115 27 (by decide)) (hs'.k 131 (by decide) (by decide)) (by rw [hs'.z 131 (c := 13) (by decide) (by decide)]; exact vi) (hs'.k 127 (by decide) (by decide)) (by rw [hs'.z 127 (c := 13) (by decide) (by decide)]; exact vi) (hs'.r 115 17 (by decide)) (hs'.r 115 28 (by decide)) (hs'.k 132 (by decide) (by decide)) (by rw [hs'.z 132 (c := 13) (by decide) (by decide)]; exact vi) (hs'.k 128 (by decide) (by decide)) (by rw [hs'.z 128 (c := 13) (by decide) (by decide)]; exact vi) ?_)
    · rw [show (13 : Int32) = nI 13 from rfl, nI_leI (by omega) (by omega)]
      omega
    · have x1 : ∀ H v, hJ (sJ H 127 i v) 132 i = hJ H 132 i := fun H v => by rw [hJ_sJ, if_neg (by decide)]
      rw [ci, x1, hJ_sI, fr.2.2.1 130 i (fun q => by unfold BRI at q; omega), fr.2.2.2 131 i (fun q => by unfold BRJ at q; omega), fr.2.2.2 132 i (fun q => by unfold BRJ at q; omega), show nI i + (1 : Int32) = nI (i + 1) from nI_1 i]
      refine ih (i + 1) _ (by omega) (Ff.sJ' (Ff.sJ' (Ff.sI' fr (Or.inr (Or.inl rfl))) (Or.inl rfl)) (Or.inr rfl)) (fun j hj' => ⟨?_, ?_, ?_⟩)
      · rw [hI_sJ, hI_sJ, hI_sI, if_pos rfl]
        split
        · rename_i e; rw [e]
        · exact (hj j (by omega)).1
      · rw [hJ_sJ, if_neg (by decide), hJ_sJ, if_pos rfl]
        split
        · rename_i e; rw [e]
        · exact (hj j (by omega)).2.1
      · rw [hJ_sJ, if_pos rfl]
        split
        · rename_i e; rw [e]
        · rw [hJ_sJ, if_neg (by decide)]
          exact (hj j (by omega)).2.2
theorem bq_loop (hs : Str h) (nx : ∀ h', Ff (fun b _ => b = 129) (fun _ _ => False) h h' → (∀ j, j < 12 → hI h' 129 j = hI h 133 j) → X 107 Q bc bs 76 [.ref 115, .int (nI 12)] [] h') :
    ∀ (f i : Nat) (h' : HP), i + f = 12 → Ff (fun b _ => b = 129) (fun _ _ => False) h h' → (∀ j, j < i → hI h' 129 j = hI h 133 j) → X 107 Q bc bs 52 [.ref 115, .int (nI i)] [] h' := by
  intro f
  induction f with
  | zero =>
    intro i h' hi fr hj
    have e : i = 12 := by omega
    subst e
    exact b107_52 (fun _ => nx h' fr hj) (fun c => absurd (by decide) c)
  | succ f ih =>
    intro i h' hi fr hj
    have hs' := fr.str hs
    have ci : (nI i).toNatClampNeg = i := nI_clamp (by omega)
    have vi : vp_in (nI i) 12 := vp_in_nI (by omega) (by omega)
    refine b107_52 (fun c => absurd c ?_) (fun _ => b107_58 (r1 := 129) (r2 := 133) (hs'.k 115 (by decide) (by decide)) (hs'.r 115 18 (by decide)) (hs'.r 115 29 (by decide)) (hs'.k 133 (by decide) (by decide)) (by rw [hs'.z 133 (c := 12) (by decide) (by decide)]; exact vi) (hs'.k 129 (by decide) (by decide)) (by rw [hs'.z 129 (c := 12) (by decide) (by decide)]; exact vi) ?_)
    · rw [show (12 : Int32) = nI 12 from rfl, nI_leI (by omega) (by omega)]
      omega
    · rw [ci, fr.2.2.1 133 i (show ¬ 133 = 129 by decide), show nI i + (1 : Int32) = nI (i + 1) from nI_1 i]
      refine ih (i + 1) _ (by omega) (Ff.sI' fr rfl) (fun j hj' => ?_)
      rw [hI_sI, if_pos rfl]
      split
      · rename_i e; rw [e]
      · exact hj j (by omega)
/-- bringsRun: the run that lies aside is the latest again -/
theorem sp_brings {R : RUT} (hs : Str h) (hm : um R ≤ 12) (rs : RunA h R) (nx : ∀ h', Ff BRI BRJ h h' → RunM h' R → Q none h') : X 107 Q bc bs 0 [.ref 115, UU] [] h := by
  refine b107_0 (br_loop hs (fun h1 f1 e1 => b107_50 (bq_loop (f1.str hs) (fun h2 f2 e2 => ?_) 12 0 h1 (by omega) Ff.rfl' (fun j hj => absurd hj (by omega)))) 13 0 h (by omega) Ff.rfl' (fun j hj => absurd hj (by omega)))
  have f3 : Ff BRI BRJ h h2 := f1.trans' (f2.weak (fun b i q => Or.inr (Or.inr q)) (fun _ _ q => absurd q id))
  have hs2 := f3.str hs
  refine b107_76 (hs2.k 115 (by decide) (by decide)) ?_
  have q30 : hI h2 115 30 = hI h 115 30 := f3.2.2.1 _ _ (fun q => by unfold BRI at q; omega)
  have q31 : hI (sI h2 115 19 (hI h 115 30)) 115 31 = hI h 115 31 := by
    rw [hI_sI, if_pos rfl, if_neg (by decide)]
    exact f3.2.2.1 _ _ (fun q => by unfold BRI at q; omega)
  rw [q30, q31]
  obtain ⟨r1, ⟨rp, r2, r3, r4, r5⟩, r6, r7⟩ := rs
  refine nx _ (Ff.sI' (Ff.sI' f3 (Or.inl ⟨rfl, Or.inl rfl⟩)) (Or.inl ⟨rfl, Or.inr rfl⟩)) ⟨?_, ⟨rp, ?_, r3, r4, r5⟩, fun i hi => ⟨?_, ?_, ?_⟩, fun i hi => ?_⟩
  · rw [hI_sI, if_pos rfl, if_neg (by decide), hI_sI, if_pos rfl, if_pos rfl]
    exact r1
  · rw [hI_sI, if_pos rfl, if_pos rfl]
    exact r2
  · rw [hI_sI, if_neg (by decide), hI_sI, if_neg (by decide), f2.2.2.1 _ _ (show ¬ 126 = 129 by decide), (e1 i (by omega)).1]
    exact (r6 i hi).1
  · rw [hJ_sI, hJ_sI, f2.2.2.2 _ _ id, (e1 i (by omega)).2.1]
    exact (r6 i hi).2.1
  · rw [hJ_sI, hJ_sI, f2.2.2.2 _ _ id, (e1 i (by omega)).2.2]
    exact (r6 i hi).2.2
  · rw [hI_sI, if_neg (by decide), hI_sI, if_neg (by decide), e2 i (by omega), f1.2.2.1 _ _ (fun q => by unfold BRI at q; omega)]
    exact r7 i hi
theorem nI_add3 (a i : Nat) : nI a + (3 : Int32) * nI i = nI (a + 3 * i) := by
  rw [show (3 : Int32) = nI 3 from rfl, nI_mul, nI_add]
theorem nI_add31 (a i : Nat) : nI (a + 3 * i) + (1 : Int32) = nI (a + 3 * i + 1) := nI_1 _
theorem nI_add32 (a i : Nat) : nI (a + 3 * i) + (2 : Int32) = nI (a + 3 * i + 2) := nI_add _ 2
theorem ly_loop {r : RGT} {a : Nat} (hs : Str h) (ha : a + 36 < 120) (rm : RM h r)
    (nx : ∀ h', Ff (fun b i => b = 135 ∧ a ≤ i ∧ i < a + 36) (fun _ _ => False) h h' → (∀ j, j < 12 → hI h' 135 (a + 3 * j) = io (rk r j) ∧ hI h' 135 (a + 3 * j + 1) = io (ra r j) ∧ hI h' 135 (a + 3 * j + 2) = io (rb r j)) → Q none h') :
    ∀ (f i : Nat) (h' : HP), i + f = 12 → Ff (fun b i => b = 135 ∧ a ≤ i ∧ i < a + 36) (fun _ _ => False) h h' → (∀ j, j < i → hI h' 135 (a + 3 * j) = io (rk r j) ∧ hI h' 135 (a + 3 * j + 1) = io (ra r j) ∧ hI h' 135 (a + 3 * j + 2) = io (rb r j)) →
      X 109 Q bc bs 15 [.ref 115, .int (nI a), .int (nI i)] [] h' := by
  intro f
  induction f with
  | zero =>
    intro i h' hi fr hj
    have e : i = 12 := by omega
    subst e
    exact b109_15 (fun _ => b109_79 (nx h' fr hj)) (fun c => absurd (by decide) c)
  | succ f ih =>
    intro i h' hi fr hj
    have hs' := fr.str hs
    have rm' := RM_ff fr (fun q => by omega) (fun q i _ _ z => by omega) rm
    obtain ⟨w1, w2, w3⟩ := rm'.2 i (by omega)
    have ci : (nI i).toNatClampNeg = i := nI_clamp (by omega)
    have vi : vp_in (nI i) 12 := vp_in_nI (by omega) (by omega)
    have z135 : zl h' 135 = 120 := hs'.z 135 (by decide) (by decide)
    refine b109_15 (fun c => absurd c ?_) (fun _ => b109_21 (r1 := 135) (r2 := 123) (r3 := 124) (r4 := 125) (hs'.k 115 (by decide) (by decide)) (hs'.r 115 33 (by decide)) (hs'.r 115 12 (by decide)) (hs'.k 123 (by decide) (by decide)) (by rw [hs'.z 123 (c := 12) (by decide) (by decide)]; exact vi) (hs'.k 135 (by decide) (by decide)) (by rw [z135, nI_add3]; exact vp_in_nI (by omega) (by omega)) (hs'.r 115 13 (by decide)) (hs'.k 124 (by decide) (by decide)) (by rw [hs'.z 124 (c := 12) (by decide) (by decide)]; exact vi) (by rw [z135, nI_add3, nI_add31]; exact vp_in_nI (by omega) (by omega)) (hs'.r 115 14 (by decide)) (hs'.k 125 (by decide) (by decide)) (by rw [hs'.z 125 (c := 12) (by decide) (by decide)]; exact vi) (by rw [z135, nI_add3, nI_add32]; exact vp_in_nI (by omega) (by omega)) ?_)
    · rw [show (12 : Int32) = nI 12 from rfl, nI_leI (by omega) (by omega)]
      omega
    · have x1 : ∀ (H : HP) (k : Nat) (v : Int32), hI (sI H 135 k v) 124 i = hI H 124 i := fun H k v => by rw [hI_sI, if_neg (by decide)]
      have x2 : ∀ (H : HP) (k : Nat) (v : Int32), hI (sI H 135 k v) 125 i = hI H 125 i := fun H k v => by rw [hI_sI, if_neg (by decide)]
      rw [ci, nI_add3, nI_add31, nI_add32, nI_clamp (n := a + 3 * i) (by omega), nI_clamp (n := a + 3 * i + 1) (by omega), nI_clamp (n := a + 3 * i + 2) (by omega), x1, x2, x2, w1, w2, w3, show nI i + (1 : Int32) = nI (i + 1) from nI_1 i]
      refine ih (i + 1) _ (by omega) (Ff.sI' (Ff.sI' (Ff.sI' fr ⟨rfl, by omega, by omega⟩) ⟨rfl, by omega, by omega⟩) ⟨rfl, by omega, by omega⟩) (fun j hj' => ⟨?_, ?_, ?_⟩)
      · rw [hI_sI, if_pos rfl, if_neg (by omega), hI_sI, if_pos rfl, if_neg (by omega), hI_sI, if_pos rfl]
        split
        · rw [show j = i by omega]
        · exact (hj j (by omega)).1
      · rw [hI_sI, if_pos rfl, if_neg (by omega), hI_sI, if_pos rfl]
        split
        · rw [show j = i by omega]
        · rw [hI_sI, if_pos rfl, if_neg (by omega)]
          exact (hj j (by omega)).2.1
      · rw [hI_sI, if_pos rfl]
        split
        · rw [show j = i by omega]
        · rw [hI_sI, if_pos rfl, if_neg (by omega), hI_sI, if_pos rfl, if_neg (by omega)]
          exact (hj j (by omega)).2.2
theorem sp_lays {r : RGT} {a : Nat} (hs : Str h) (ha : a + 36 < 120) (rm : RM h r)
    (nx : ∀ h', Ff (fun b i => b = 135 ∧ a ≤ i ∧ i ≤ a + 36) (fun _ _ => False) h h' → KAt h' 135 a r → Q none h') : X 109 Q bc bs 0 [.ref 115, .int (nI a), UU] [] h := by
  have e36 : nI a + (36 : Int32) = nI (a + 36) := nI_add _ 36
  refine b109_0 (r1 := 135) (hs.k 115 (by decide) (by decide)) (hs.r 115 33 (by decide)) (hs.k 135 (by decide) (by decide)) (by rw [hs.z 135 (c := 120) (by decide) (by decide), e36]; exact vp_in_nI (by omega) (by omega)) ?_
  rw [e36, nI_clamp (by omega), rm.1]
  have f1 : Ff (fun b i => b = 135 ∧ a ≤ i ∧ i ≤ a + 36) (fun _ _ => False) h (sI h 135 (a + 36) (nI (rn r))) := Ff.sI' Ff.rfl' ⟨rfl, by omega, by omega⟩
  refine ly_loop (f1.str hs) ha (RM_ff f1 (fun q => by omega) (fun q i _ _ z => by omega) rm) (fun h' fr hj => nx h' (f1.trans' (fr.weak (fun b i q => ⟨q.1, q.2.1, by omega⟩) (fun _ _ q => q))) ⟨?_, hj⟩) 12 0 _ (by omega) Ff.rfl' (fun j hj => absurd hj (by omega))
  rw [fr.2.2.1 _ _ (fun q => by omega), hI_sI, if_pos rfl, if_pos rfl]
def TKI (b i : Nat) : Prop := (b = 115 ∧ i = 11) ∨ b = 123 ∨ b = 124 ∨ b = 125
theorem tk_loop {r : RGT} {c a : Nat} (hs : Str h) (hc : c = 135 ∨ c = 138) (kc : kd h c = 10) (hz : a + 36 < zl h c) (hz2 : zl h c < 200) (ka : KAt h c a r)
    (nx : ∀ h', Ff TKI (fun _ _ => False) h h' → hI h' 115 11 = hI h 115 11 → (∀ j, j < 12 → hI h' 123 j = io (rk r j) ∧ hI h' 124 j = io (ra r j) ∧ hI h' 125 j = io (rb r j)) → Q none h') :
    ∀ (f i : Nat) (h' : HP), i + f = 12 → Ff TKI (fun _ _ => False) h h' → hI h' 115 11 = hI h 115 11 → (∀ j, j < i → hI h' 123 j = io (rk r j) ∧ hI h' 124 j = io (ra r j) ∧ hI h' 125 j = io (rb r j)) →
      X 110 Q bc bs 12 [.ref 115, .ref c, .int (nI a), .int (nI i)] [] h' := by
  intro f
  induction f with
  | zero =>
    intro i h' hi fr e11 hj
    have e : i = 12 := by omega
    subst e
    exact b110_12 (fun _ => b110_67 (nx h' fr e11 hj)) (fun c => absurd (by decide) c)
  | succ f ih =>
    intro i h' hi fr e11 hj
    have hs' := fr.str hs
    have hcn : ∀ k, ¬ TKI c k := fun k q => by unfold TKI at q; omega
    obtain ⟨w1, w2, w3⟩ := ka.2 i (by omega)
    have ci : (nI i).toNatClampNeg = i := nI_clamp (by omega)
    have vi : vp_in (nI i) 12 := vp_in_nI (by omega) (by omega)
    have zc : zl h' c = zl h c := by unfold zl; rw [fr.1]
    have kc' : kd h' c = 10 := by unfold kd; rw [fr.1]; exact kc
    refine b110_12 (fun c => absurd c ?_) (fun _ => b110_18 (r1 := 123) (r2 := 124) (r3 := 125) (hs'.k 115 (by decide) (by decide)) (hs'.r 115 12 (by decide)) kc' (by rw [zc, nI_add3]; exact vp_in_nI (by omega) (by omega)) (hs'.k 123 (by decide) (by decide)) (by rw [hs'.z 123 (c := 12) (by decide) (by decide)]; exact vi) (hs'.r 115 13 (by decide)) (by rw [zc, nI_add3, nI_add31]; exact vp_in_nI (by omega) (by omega)) (hs'.k 124 (by decide) (by decide)) (by rw [hs'.z 124 (c := 12) (by decide) (by decide)]; exact vi) (hs'.r 115 14 (by decide)) (by rw [zc, nI_add3, nI_add32]; exact vp_in_nI (by omega) (by omega)) (hs'.k 125 (by decide) (by decide)) (by rw [hs'.z 125 (c := 12) (by decide) (by decide)]; exact vi) ?_)
    · rw [show (12 : Int32) = nI 12 from rfl, nI_leI (by omega) (by omega)]
      omega
    · have x1 : ∀ (H : HP) (k k' : Nat) (v : Int32), hI (sI H 123 k v) c k' = hI H c k' := fun H k k' v => by rw [hI_sI, if_neg (by omega)]
      have x2 : ∀ (H : HP) (k k' : Nat) (v : Int32), hI (sI H 124 k v) c k' = hI H c k' := fun H k k' v => by rw [hI_sI, if_neg (by omega)]
      rw [ci, nI_add3, nI_add31, nI_add32, nI_clamp (n := a + 3 * i) (by omega), nI_clamp (n := a + 3 * i + 1) (by omega), nI_clamp (n := a + 3 * i + 2) (by omega), x2, x1, x1, fr.2.2.1 c _ (hcn _), fr.2.2.1 c _ (hcn _), fr.2.2.1 c _ (hcn _), w1, w2, w3, show nI i + (1 : Int32) = nI (i + 1) from nI_1 i]
      refine ih (i + 1) _ (by omega) (Ff.sI' (Ff.sI' (Ff.sI' fr (Or.inr (Or.inl rfl))) (Or.inr (Or.inr (Or.inl rfl)))) (Or.inr (Or.inr (Or.inr rfl)))) ?_ (fun j hj' => ⟨?_, ?_, ?_⟩)
      · rw [hI_sI, if_neg (by decide), hI_sI, if_neg (by decide), hI_sI, if_neg (by decide)]
        exact e11
      · rw [hI_sI, if_neg (by decide), hI_sI, if_neg (by decide), hI_sI, if_pos rfl]
        split
        · rename_i e; rw [e]
        · exact (hj j (by omega)).1
      · rw [hI_sI, if_neg (by decide), hI_sI, if_pos rfl]
        split
        · rename_i e; rw [e]
        · rw [hI_sI, if_neg (by decide)]
          exact (hj j (by omega)).2.1
      · rw [hI_sI, if_pos rfl]
        split
        · rename_i e; rw [e]
        · rw [hI_sI, if_neg (by decide), hI_sI, if_neg (by decide)]
          exact (hj j (by omega)).2.2
theorem sp_takes {r : RGT} {c a : Nat} (hs : Str h) (hc : c = 135 ∨ c = 138) (kc : kd h c = 10) (hz : a + 36 < zl h c) (hz2 : zl h c < 200) (ka : KAt h c a r)
    (nx : ∀ h', Ff TKI (fun _ _ => False) h h' → RM h' r → Q none h') : X 110 Q bc bs 0 [.ref 115, .ref c, .int (nI a), UU] [] h := by
  have e36 : nI a + (36 : Int32) = nI (a + 36) := nI_add _ 36
  refine b110_0 kc (by rw [e36]; exact vp_in_nI hz (by omega)) (hs.k 115 (by decide) (by decide)) ?_
  rw [e36, nI_clamp (by omega), ka.1]
  have f1 : Ff TKI (fun _ _ => False) h (sI h 115 11 (nI (rn r))) := Ff.sI' Ff.rfl' (Or.inl ⟨rfl, rfl⟩)
  have x1 : ∀ k, hI (sI h 115 11 (nI (rn r))) c k = hI h c k := fun k => by rw [hI_sI, if_neg (by omega)]
  refine tk_loop (h := sI h 115 11 (nI (rn r))) (f1.str hs) hc kc hz hz2 ⟨by rw [x1]; exact ka.1, fun i hi => by rw [x1, x1, x1]; exact ka.2 i hi⟩ (fun h' fr e11 hj => nx h' (f1.trans' fr) ⟨?_, hj⟩) 12 0 _ (by omega) Ff.rfl' rfl (fun j hj => absurd hj (by omega))
  rw [e11, hI_sI, if_pos rfl, if_pos rfl]
end CPY2
