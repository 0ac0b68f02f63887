/-! joined on both sides. -/
def okJ (R : RUT) : Prop := uSh R ∧ shU R ≤ 1000000000 ∧ shL R ≤ 1000000000
def jU (R S : RUT) : Int := shU R * shU S
def jL (R S : RUT) : Int := shU R * shL S + shU S * shL R + shL R * shL S
noncomputable def jA (R S : RUT) (w : Int32) : Int64 := @ite _ (okJ R ∧ okJ S) (Classical.propDecidable _) (if w = 0 then jo (rU (jU R S) (jL R S)) else jo (rL (jU R S) (jL R S))) UNS
noncomputable def jB (t : TBT) (x y : Option (RGT × PST)) (w : Int32) : Int64 := match x, y with
  | some x, some y => jA (runOf t x.1 x.2) (runOf t y.1 y.2) w
  | _, _ => UNS
noncomputable def f_joined (A : AST) (i k w : Int32) : Int64 := if (0 ≤ i.toInt ∧ i.toInt ≤ 2) ∧ (0 ≤ k.toInt ∧ k.toInt ≤ 2) ∧ (0 ≤ w.toInt ∧ w.toInt ≤ 1) then jB (aT A) (aM A i.toInt.toNat) (aM A k.toInt.toNat) w else UNS
theorem jB_none1 {t : TBT} {y : Option (RGT × PST)} {w : Int32} : jB t none y w = UNS := rfl
theorem jB_none2 {t : TBT} {x : Option (RGT × PST)} {w : Int32} : jB t x none w = UNS := by cases x <;> rfl
theorem jA_no {R S : RUT} {w : Int32} (h : ¬ (okJ R ∧ okJ S)) : jA R S w = UNS := by
  unfold jA
  rw [if_neg h]
theorem jA_0 {R S : RUT} (h : okJ R ∧ okJ S) : jA R S 0 = jo (rU (jU R S) (jL R S)) := by
  unfold jA
  rw [if_pos h, if_pos rfl]
theorem jA_1 {R S : RUT} {w : Int32} (h : okJ R ∧ okJ S) (hw : ¬ w = 0) : jA R S w = jo (rL (jU R S) (jL R S)) := by
  unfold jA
  rw [if_pos h, if_neg hw]
theorem mul_bd {a b : Int} (a0 : 0 ≤ a) (a1 : a ≤ 1000000000) (b0 : 0 ≤ b) (b1 : b ≤ 1000000000) : 0 ≤ a * b ∧ a * b ≤ 1000000000000000000 :=
  ⟨Int.mul_nonneg a0 b0, Int.le_trans (Int.mul_le_mul a1 b1 b0 (by decide)) (by decide)⟩
theorem j_bound {t t' : TBT} (tg : TG t) (tg' : TG t') {R S : RUT} (r1 : RW t R) (r2 : RW t' S) (h1 : okJ R) (h2 : okJ S) : JB (jU R S) ∧ -9223372036854775808 < jU R S ∧ 0 < jL R S ∧ JB (jL R S) := by
  have a := sh_bound tg r1 h1.1
  have b := sh_bound tg' r2 h2.1
  have m1 := mul_bd a.1 h1.2.1 b.1 h2.2.1
  have m2 := mul_bd a.1 h1.2.1 (Int.le_of_lt b.2.2.1) h2.2.2
  have m3 := mul_bd b.1 h2.2.1 (Int.le_of_lt a.2.2.1) h1.2.2
  have m4 := mul_bd (Int.le_of_lt a.2.2.1) h1.2.2 (Int.le_of_lt b.2.2.1) h2.2.2
  have m5 := Int.mul_pos a.2.2.1 b.2.2.1
  unfold jU jL JB
  omega
section JOI
variable {Q : Option Value → HP → Prop} {bc bs : Nat} {h : HP} {A : AST}
theorem sp_cbj {a : Nat} {u w : Int} (k : kd h a = 1) (r : RA h a u w) (ju : JB u) (jw : JB w) (y : u ≤ 1000000000 ∧ w ≤ 1000000000 → Q (some (.int (1 : Int32))) h) (n : ¬ (u ≤ 1000000000 ∧ w ≤ 1000000000) → Q (some (.int (0 : Int32))) h) : X 68 Q bc bs 0 [.ref a] [] h := by
  have e1 : 0 < lg_cmp (hJ h a 0) (1000000000 : Int64) ↔ 1000000000 < u := by rw [lg_cmp_gt, r.1, show (1000000000 : Int64) = jo 1000000000 from rfl, jo_lt (by unfold JB; omega) ju]
  have e2 : 0 < lg_cmp (hJ h a 1) (1000000000 : Int64) ↔ 1000000000 < w := by rw [lg_cmp_gt, r.2, show (1000000000 : Int64) = jo 1000000000 from rfl, jo_lt (by unfold JB; omega) jw]
  refine b68_0 k (fun z => b68_26 (n ?_)) (fun z => b68_11 k (fun z2 => b68_26 (n ?_)) (fun z2 => b68_22 (y ?_)))
  · rw [e1] at z
    omega
  · rw [e2] at z2
    omega
  · rw [e1] at z
    rw [e2] at z2
    omega
theorem img_rk {j : Nat} (hj : j < 3) : 95 + 7 * j = 6 ∨ 95 + 7 * j = 44 ∨ 95 + 7 * j = 95 ∨ 95 + 7 * j = 102 ∨ 95 + 7 * j = 109 := by omega
theorem cj_go {j : Nat} {x : RGT × PST} (g : Good A) (c : CI h A) (hj : j < 3) (hm : aM A j = some x) (nx : ∀ h', FW 48 h h' → RunC h' 48 (runOf (aT A) x.1 x.2) → RW (aT A) (runOf (aT A) x.1 x.2) → Q none h') : X 36 Q bc bs 0 [.ref 48, .ref (95 + 7 * j), .ref (99 + 7 * j), .ref 2, UU] [] h := by
  have hs := c.1
  obtain ⟨q1, q2, R0, q3⟩ := g.2.2.2.1 j hj x.1 x.2 hm
  obtain ⟨m1, m2, m3⟩ := (c.2.2.2.2.1 j hj).2 x.1 x.2 hm
  obtain ⟨i1, i2, i3, i4, i5, i6⟩ := img_k hs hj
  exact sp_go hs c.2.1 g.1 (WKs_48 hs) i5 m2 q1 i4 m3 q2 (by decide) (by decide) (by omega) (fun h' fw rc => nx h' fw rc (runOf_RW g.1 q1 q2))
theorem FW48_BS {h h' : HP} (fw : FW 48 h h') : Fr BS BS h h' := fw.weak (fun q (z : 48 ≤ q ∧ q ≤ 48 + 32) => by show q = 4 ∨ q = 5 ∨ (43 ≤ q ∧ q ≤ 85); omega) (fun q (z : q = 4 ∨ q = 5 ∨ (48 ≤ q ∧ q ≤ 48 + 32)) => by show q = 4 ∨ q = 5 ∨ (43 ≤ q ∧ q ≤ 85); omega)
theorem BS84 : BS 84 := Or.inr (Or.inr ⟨by decide, by decide⟩)
theorem BS85 : BS 85 := Or.inr (Or.inr ⟨by decide, by decide⟩)
theorem BS83 : BS 83 := Or.inr (Or.inr ⟨by decide, by decide⟩)
set_option maxHeartbeats 1000000 in
theorem c_joined {i k w : Int32} (g : Good A) (c : CI h A) (nx : ∀ h', FC h h' → CI h' A → Q (some (.long (f_joined A i k w))) h') : X 57 Q bc bs 0 [.ref 0, .int i, .int k, .int w, UU, UU] [] h := by
  have hs := c.1
  have k0 : kd h 0 = 8 := hs.k 0 (by decide) (by decide)
  have no : ¬ ((0 ≤ i.toInt ∧ i.toInt ≤ 2) ∧ (0 ≤ k.toInt ∧ k.toInt ≤ 2) ∧ (0 ≤ w.toInt ∧ w.toInt ≤ 1)) → Q (some (.long (-9223372036854775808 : Int64))) h := fun hn => by
    have e : f_joined A i k w = UNS := by
      unfold f_joined
      rw [if_neg hn]
    have := nx h (fun _ _ _ _ => ⟨rfl, rfl⟩) c
    rw [e] at this
    exact this
  refine b57_0 k0 (sp_imageAt hs (fun i' hi ei => b57_5b k0 (sp_imageAt hs (fun k' hk ek => ?_) (fun z => b57_12c (no (fun q => z q.2.1))))) (fun z => b57_5a k0 (sp_imageAt hs (fun _ _ _ => b57_12b (no (fun q => z q.1))) (fun _ => b57_12a (no (fun q => z q.1))))))
  subst ei
  subst ek
  have ti : (nI i').toInt = i' := nI_toInt (by omega)
  have tk : (nI k').toInt = k' := nI_toInt (by omega)
  unfold f_joined at nx
  rw [ti, tk, Int.toNat_natCast, Int.toNat_natCast] at nx
  have un : ∀ h', FC h h' → CI h' A → (0 ≤ w.toInt ∧ w.toInt ≤ 1 → jB (aT A) (aM A i') (aM A k') w = UNS) → Q (some (.long (-9223372036854775808 : Int64))) h' := fun h' fc ci hn => by
    have := nx h' fc ci
    by_cases hw : 0 ≤ w.toInt ∧ w.toInt ≤ 1
    · rw [if_pos ⟨by omega, by omega, hw⟩, hn hw] at this
      exact this
    · rw [if_neg (fun q => hw q.2.2)] at this
      exact this
  obtain ⟨i1, i2, i3, i4, i5, i6⟩ := img_k hs hi
  obtain ⟨j1, j2, j3, j4, j5, j6⟩ := img_k hs hk
  have cmi := c.2.2.2.2.1 i' hi
  have cmk := c.2.2.2.2.1 k' hk
  have fc0 : FC h h := fun _ _ _ _ => ⟨rfl, rfl⟩
  cases hm : aM A i' with
  | none =>
    exact b57_12d i1 (fun _ => b57_49 (un h fc0 c (fun _ => by rw [hm]; rfl))) (fun z => absurd (cmi.1 hm) z)
  | some x =>
    have mi := cmi.2 x.1 x.2 hm
    refine b57_12d i1 (fun z => absurd z (by rw [mi.1]; decide)) (fun _ => ?_)
    cases hm2 : aM A k' with
    | none => exact b57_32 j1 (fun _ => b57_49 (un h fc0 c (fun _ => by rw [hm2]; exact jB_none2))) (fun z => absurd (cmk.1 hm2) z)
    | some y =>
      have mk := cmk.2 y.1 y.2 hm2
      refine b57_32 j1 (fun z => absurd z (by rw [mk.1]; decide)) (fun _ => b57_40 (sp_66 (fun d => b57_46 (fun _ => ?_) (fun z => absurd z (by decide))) (fun d => b57_46 (fun z => absurd rfl z) (fun _ => b57_49 (un h fc0 c (fun q => absurd (by simp only [Int32.le_iff_toInt_le, Int32.lt_iff_toInt_lt, Int64.le_iff_toInt_le, Int64.lt_iff_toInt_lt, Int32.toInt_toInt64, i32eq, i64eq, Int32.reduceToInt, Int64.reduceToInt, Int32.reduceOfInt]; exact q) d))))))
      simp only [Int32.le_iff_toInt_le, Int32.lt_iff_toInt_lt, Int64.le_iff_toInt_le, Int64.lt_iff_toInt_lt, Int32.toInt_toInt64, i32eq, i64eq, Int32.reduceToInt, Int64.reduceToInt, Int32.reduceOfInt] at d
      rw [hm, hm2, if_pos ⟨by omega, by omega, d⟩] at nx
      have un2 : ∀ h', FC h h' → CI h' A → ¬ (okJ (runOf (aT A) x.1 x.2) ∧ okJ (runOf (aT A) y.1 y.2)) → Q (some (.long (-9223372036854775808 : Int64))) h' := fun h' fc ci hn => un h' fc ci (fun _ => by rw [hm, hm2]; exact jA_no hn)
      refine b57_53 (r1 := 48) (r2 := 95 + 7 * i') (r3 := 99 + 7 * i') (r4 := 2) k0 (hs.r 0 6 (by decide)) i1 i2 i3 (hs.r 0 1 (by decide)) (hs.k 48 (by decide) (by decide)) (cj_go g c hi hm (fun h1 fw1 rc1 rw1 => ?_))
      have ci1 := CI_scr (FW48_BS fw1) (fun q e => e) (fun q e => e) g c
      have hs1 := ci1.1.1
      obtain ⟨v1, v2, v3, v4, v5⟩ := WKs_48 hs1
      have rt1 := rc1.2.2
      refine b57_74 (r1 := 48) (hs1.k 0 (by decide) (by decide)) (hs1.r 0 6 (by decide)) v1.1 (fun z => b57_97 (un2 h1 ci1.2 ci1.1 (fun ok => absurd ((rt1.2.2.1 ok.1.1).1.symm.trans z) (by decide)))) (fun z => ?_)
      have sh1 : uSh (runOf (aT A) x.1 x.2) := by
        rcases Classical.em (uSh (runOf (aT A) x.1 x.2)) with sh | sh
        · exact sh
        · exact absurd (rt1.2.2.2 sh) z
      have sb1 := sh_bound g.1 rw1 sh1
      have ra1 : RA h1 54 (shU (runOf (aT A) x.1 x.2)) (shL (runOf (aT A) x.1 x.2)) := (rt1.2.2.1 sh1).2
      refine b57_84 (r1 := 48) (r2 := 54) (hs1.k 0 (by decide) (by decide)) (hs1.r 0 6 (by decide)) v1.1 v1.2.2.2.2.2.2 (sp_cbj v4.2.2.2 ra1 sb1.2.1 sb1.2.2.2 (fun l1 => b57_94 (fun _ => ?_) (fun z => absurd z (by decide))) (fun l1 => b57_94 (fun z => absurd rfl z) (fun _ => b57_97 (un2 h1 ci1.2 ci1.1 (fun ok => l1 ok.1.2)))))
      have ok1 : okJ (runOf (aT A) x.1 x.2) := ⟨sh1, l1⟩
      refine b57_101 (r1 := 84) (r2 := 48) (r3 := 54) (hs1.k 0 (by decide) (by decide)) (hs1.r 0 9 (by decide)) (hs1.r 0 6 (by decide)) v1.1 v1.2.2.2.2.2.2 (hs1.k 84 (by decide) (by decide)) (sp_copy (hs1.k 84 (by decide) (by decide)) v4.2.2.2 ra1 ?_)
      have f2 : Fr BS BS h (wR h1 84 (shU (runOf (aT A) x.1 x.2)) (shL (runOf (aT A) x.1 x.2))) := Fr.wR' (FW48_BS fw1) BS84
      have ra2 : RA (wR h1 84 (shU (runOf (aT A) x.1 x.2)) (shL (runOf (aT A) x.1 x.2))) 84 (shU (runOf (aT A) x.1 x.2)) (shL (runOf (aT A) x.1 x.2)) := RA_wR
      generalize wR h1 84 (shU (runOf (aT A) x.1 x.2)) (shL (runOf (aT A) x.1 x.2)) = h2 at f2 ra2 ⊢
      have ci2 := CI_scr f2 (fun q e => e) (fun q e => e) g c
      have hs2 := ci2.1.1
      obtain ⟨j1, j2, j3, j4, j5, j6⟩ := img_k hs2 hk
      refine b57_115 (r1 := 48) (r2 := 95 + 7 * k') (r3 := 99 + 7 * k') (r4 := 2) (hs2.k 0 (by decide) (by decide)) (hs2.r 0 6 (by decide)) j1 j2 j3 (hs2.r 0 1 (by decide)) (hs2.k 48 (by decide) (by decide)) (cj_go g ci2.1 hk hm2 (fun h3 fw3 rc3 rw3 => ?_))
      have f3 : Fr BS BS h h3 := f2.trans' (FW48_BS fw3)
      have ci3 := CI_scr f3 (fun q e => e) (fun q e => e) g c
      have hs3 := ci3.1.1
      have ra3 := RA_fr fw3 (show ¬ (84 = 4 ∨ 84 = 5 ∨ (48 ≤ 84 ∧ 84 ≤ 48 + 32)) by decide) ra2
      obtain ⟨v1, v2, v3, v4, v5⟩ := WKs_48 hs3
      have rt3 := rc3.2.2
      refine b57_136 (r1 := 48) (hs3.k 0 (by decide) (by decide)) (hs3.r 0 6 (by decide)) v1.1 (fun z => b57_159 (un2 h3 ci3.2 ci3.1 (fun ok => absurd ((rt3.2.2.1 ok.2.1).1.symm.trans z) (by decide)))) (fun z => ?_)
      have sh3 : uSh (runOf (aT A) y.1 y.2) := by
        rcases Classical.em (uSh (runOf (aT A) y.1 y.2)) with sh | sh
        · exact sh
        · exact absurd (rt3.2.2.2 sh) z
      have sb3 := sh_bound g.1 rw3 sh3
      have rb3 : RA h3 54 (shU (runOf (aT A) y.1 y.2)) (shL (runOf (aT A) y.1 y.2)) := (rt3.2.2.1 sh3).2
      refine b57_146 (r1 := 48) (r2 := 54) (hs3.k 0 (by decide) (by decide)) (hs3.r 0 6 (by decide)) v1.1 v1.2.2.2.2.2.2 (sp_cbj v4.2.2.2 rb3 sb3.2.1 sb3.2.2.2 (fun l3 => b57_156 (fun _ => ?_) (fun z => absurd z (by decide))) (fun l3 => b57_156 (fun z => absurd rfl z) (fun _ => b57_159 (un2 h3 ci3.2 ci3.1 (fun ok => l3 ok.2.2)))))
      have ok3 : okJ (runOf (aT A) y.1 y.2) := ⟨sh3, l3⟩
      refine b57_163 (r1 := 85) (r2 := 48) (r3 := 54) (hs3.k 0 (by decide) (by decide)) (hs3.r 0 10 (by decide)) (hs3.r 0 6 (by decide)) v1.1 v1.2.2.2.2.2.2 (hs3.k 85 (by decide) (by decide)) (sp_copy (hs3.k 85 (by decide) (by decide)) v4.2.2.2 rb3 ?_)
      have f4 : Fr BS BS h (wR h3 85 (shU (runOf (aT A) y.1 y.2)) (shL (runOf (aT A) y.1 y.2))) := Fr.wR' f3 BS85
      have rb4 : RA (wR h3 85 (shU (runOf (aT A) y.1 y.2)) (shL (runOf (aT A) y.1 y.2))) 85 (shU (runOf (aT A) y.1 y.2)) (shL (runOf (aT A) y.1 y.2)) := RA_wR
      have ra4 : RA (wR h3 85 (shU (runOf (aT A) y.1 y.2)) (shL (runOf (aT A) y.1 y.2))) 84 (shU (runOf (aT A) x.1 x.2)) (shL (runOf (aT A) x.1 x.2)) := ra3
      generalize wR h3 85 (shU (runOf (aT A) y.1 y.2)) (shL (runOf (aT A) y.1 y.2)) = h4 at f4 ra4 rb4 ⊢
      have hs4 := f4.str hs
      have jb := j_bound g.1 g.1 rw1 rw3 ok1 ok3
      refine b57_177 (r1 := 83) (r2 := 84) (r3 := 85) (hs4.k 0 (by decide) (by decide)) (hs4.r 0 8 (by decide)) (hs4.r 0 9 (by decide)) (hs4.k 84 (by decide) (by decide)) (hs4.r 0 10 (by decide)) (hs4.k 85 (by decide) (by decide)) (hs4.k 83 (by decide) (by decide)) ?_
      rw [ra4.1, ra4.2, rb4.1, rb4.2, jo_mul, jo_mul, jo_mul, jo_mul, jo_add, jo_add]
      refine sp_put (u := jU (runOf (aT A) x.1 x.2) (runOf (aT A) y.1 y.2)) (w := jL (runOf (aT A) x.1 x.2) (runOf (aT A) y.1 y.2)) (hs4.k 83 (by decide) (by decide)) jb.1 jb.2.1 jb.2.2.1 jb.2.2.2 ?_
      have f5 : Fr BS BS h (wR h4 83 (rU (jU (runOf (aT A) x.1 x.2) (runOf (aT A) y.1 y.2)) (jL (runOf (aT A) x.1 x.2) (runOf (aT A) y.1 y.2))) (rL (jU (runOf (aT A) x.1 x.2) (runOf (aT A) y.1 y.2)) (jL (runOf (aT A) x.1 x.2) (runOf (aT A) y.1 y.2)))) := Fr.wR' f4 BS83
      have ci5 := CI_scr f5 (fun q e => e) (fun q e => e) g c
      have hs5 := ci5.1.1
      have nx5 := nx _ ci5.2 ci5.1
      refine b57_246 (r1 := 83) (hs5.k 0 (by decide) (by decide)) (hs5.r 0 8 (by decide)) (hs5.k 83 (by decide) (by decide)) (sp_side (hs5.k 83 (by decide) (by decide)) RA_wR (fun z => b57_254 ?_) (fun z => b57_254 ?_))
      · have e : jB (aT A) (some x) (some y) w = jo (rU (jU (runOf (aT A) x.1 x.2) (runOf (aT A) y.1 y.2)) (jL (runOf (aT A) x.1 x.2) (runOf (aT A) y.1 y.2))) := by
          rw [z]
          exact jA_0 ⟨ok1, ok3⟩
        rw [e] at nx5
        exact nx5
      · have e : jB (aT A) (some x) (some y) w = jo (rL (jU (runOf (aT A) x.1 x.2) (runOf (aT A) y.1 y.2)) (jL (runOf (aT A) x.1 x.2) (runOf (aT A) y.1 y.2))) := jA_1 ⟨ok1, ok3⟩ z
        rw [e] at nx5
        exact nx5
end JOI
