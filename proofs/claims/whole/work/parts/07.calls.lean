/-! Making of cells, storing of references, calls. -/
theorem T_fact {kn c : Nat} (cA : Nat → ClassId) (h : (kn = 13 ∧ c = 0) ∨ (kn = 14 ∧ c = 3) ∨ (kn = 15 ∧ c = 4) ∨ (kn = 16 ∧ c = 6)) : ∃ t0 : Nat, (tysA cA)[t0]? = some (cA kn, FieldType.object (clQ c).1) := by
  rcases h with ⟨rfl, rfl⟩ | ⟨rfl, rfl⟩ | ⟨rfl, rfl⟩ | ⟨rfl, rfl⟩
  · exact ⟨3, rfl⟩
  · exact ⟨4, rfl⟩
  · exact ⟨5, rfl⟩
  · exact ⟨6, rfl⟩
def akd (kn c : Nat) : Prop := (kn = 13 ∧ c = 0) ∨ (kn = 14 ∧ c = 3) ∨ (kn = 15 ∧ c = 4) ∨ (kn = 16 ∧ c = 6)
section XN
variable {k bc bs pc : Nat} {Q : Option Value → HP → Prop} {L rest : List Value} {h : HP}
theorem x_aast {a b : Nat} {i : Int32} (hd : decode (cM k) pc = .ok (.aastore, 1)) (hk : akd (kd h a) (kd h b)) (hin : vp_in i (zl h a)) (nx : X k Q bc bs (pc + 1) L rest (sR h a i.toNatClampNeg (some b))) : X k Q bc bs pc L (.ref b :: .int i :: .ref a :: rest) h := by
  intro l D cA B p e R s m args below meth c H locs cells slots ls hC hc hs hB hRep hS hL
  obtain ⟨x1, x2, x3, x4, x5, x6, x7, x8, x9, x10, x11, x12⟩ := id hC
  have hka : 13 ≤ kd h a ∧ kd h a < 17 ∧ kd h b < 10 := by unfold akd at hk; omega
  obtain ⟨t0, ht⟩ := T_fact cA hk
  obtain ⟨g1, g2, g3, g4⟩ := cl_fact hka.2.2
  have hb0 : b < h.1.length := kd_lt rfl (by omega)
  have ha0 : a < h.1.length := kd_lt rfl (by omega)
  have hc0 := cell_at hRep ha0 (cE_R rfl hka.1)
  have hv0 := hRep.2 b _ (wsH_get hb0)
  rw [cE_obj rfl hka.2.2] at hv0
  obtain ⟨r', hr', cellV, y1, y2, y3, -⟩ := hv0
  have hcls := (x8.1 (kd h b) _ g1).2
  obtain ⟨kA, comp, k1, k2, k3, -⟩ := (x8.2 t0 _ ht).2
  have hcomp : comp = D.1 (kd h b) := Option.some.inj (k3.symm.trans hcls.1)
  subst hcomp
  obtain ⟨kC, hkC, -⟩ := hcls.2
  have hlt : i.toNatClampNeg < zl h a := Nat.not_le.mp fun q => hin (Or.inr q)
  refine W.aast (cell := vp_cell (cA (kd h a)) (zl h a, .inr (.inr (.inr (.inr fun i => (hR h a i).map (B + ·)))))) x1 x2 hc0 (fun q h => by cases h) (fun h => by cases h) k1 k2 rfl hkC ⟨fun q => hin (Or.inl q), by show _ < (arrV _ _ _).slots.size; rw [arrV_size]; exact hlt⟩ y1 (fun q h => by rw [y3] at h; cases h) (by rw [y2]; exact hkC) (by rw [y2]; exact va_assign hcls) rfl rfl hd fun H1 e1 z oq => ?_
  refine nx l D cA B p e R s m args below meth c H1 _ cells slots ls hC hc hs hB (rep_set hRep ha0 z oq rfl sR_ne ?_) (hS.put z oq (Nat.le_add_right B a)) hL
  rw [cE_R (show kd (sR h a i.toNatClampNeg (some b)) a = kd h a from rfl) hka.1]
  show H1[B + a]? = some (vp_cell _ _)
  rw [e1, vp_cell_q, vp_cell_q, arrV_store]
  congr 2
  funext q
  simp only [updV, hR, sR, up2_eq]
  split <;> rfl
theorem dflt_fv (t : FieldType) (ht : tcd t = 0 ∨ tcd t = 1 ∨ tcd t = 3 ∨ (∃ C, t = .object C) ∨ ∃ C, t = .array C) : defaultValue t = fvA t none 0 0 := by
  cases t <;> simp_all [defaultValue, fvA, tcd, va_rf]
theorem ty_all {c j : Nat} (hc : c < 10) (hj : j < (clQ c).2.2) : tcd (fty c j) = 0 ∨ tcd (fty c j) = 1 ∨ tcd (fty c j) = 3 ∨ (∃ C, fty c j = .object C) ∨ ∃ C, fty c j = .array C := by
  have h0 : ((List.range 10).all fun c => (List.range (clQ c).2.2).all fun j => match fty c j with | .int => true | .long => true | .boolean => true | .object _ => true | .array _ => true | _ => false) = true := by decide +kernel
  have h1 := List.all_eq_true.mp (List.all_eq_true.mp h0 c (List.mem_range.mpr hc)) j (List.mem_range.mpr hj)
  cases hf : fty c j <;> simp_all [tcd]
theorem x_new {idx c0 : Nat} (hd : decode (cM k) pc = .ok (.new idx, 3)) (hT : (owM k, idx, c0) ∈ CTab) (h1 : 1 ≤ bc) (h2 : nfl c0 ≤ bs) (nx : X k Q (bc - 1) (bs - nfl c0) (pc + 3) L (.ref h.1.length :: rest) (nw h c0 0)) : X k Q bc bs pc L rest h := by
  intro l D cA B p e R s m args below meth c H locs cells slots ls hC hc hs hB hRep hS hL
  obtain ⟨x1, x2, x3, x4, x5, x6, x7, x8, x9, x10, x11, x12⟩ := id hC
  obtain ⟨f1, f2, f3, f4⟩ := C_fact hT
  obtain ⟨g1, g2, g3, g4⟩ := cl_fact f1
  have hKn := x8.1 c0 _ g1
  refine W.newcK x1 x2 x5 (x6 _ f2) (x6 _ f3) (x6 _ f4) rfl hd (by omega) (by show slots + nfl c0 ≤ _; omega) hKn.2.1 rfl fun H1 kC hkC e1 z1 o1 => ?_
  have hz : H.size = B + h.1.length := hRep.1
  have key := nx l D cA B p e R s m args below meth c H1 locs (cells + 1) (slots + nfl c0) ls hC (by omega) (by omega) hB (rep_push hRep z1 o1 ?_) (S_push hS z1 o1) hL
  · rw [hz]
    exact key
  · rw [cE_obj kd_nw f1, ← hz]
    refine ⟨_, g1, (u_born (fty c0) x6 g2 hKn hkC e1 g3).to fun j hj => ?_⟩
    rw [dflt_fv _ (ty_all f1 hj)]
    show _ = (fls B (nw h c0 0) h.1.length c0 (nfl c0)).getD j .null
    rw [List.getD, fls_get (n := nfl c0) hj]
    simp only [hR, hI, hJ, nw, up1_eq, Option.getD_some]
    cases fty c0 j <;> rfl
theorem x_newa {kn : Nat} {ty : ArrayType} {n : Int32} (hd : decode (cM k) pc = .ok (.newarray ty, 2)) (ht : (ty = .int ∧ kn = 10) ∨ (ty = .long ∧ kn = 11) ∨ (ty = .boolean ∧ kn = 12)) (hn : ¬ n < 0) (hn2 : n.toNatClampNeg ≤ 1000) (h1 : 1 ≤ bc) (h2 : n.toNatClampNeg ≤ bs) (nx : X k Q (bc - 1) (bs - n.toNatClampNeg) (pc + 2) L (.ref h.1.length :: rest) (nw h kn n.toNatClampNeg)) : X k Q bc bs pc L (.int n :: rest) h := by
  intro l D cA B p e R s m args below meth c H locs cells slots ls hC hc hs hB hRep hS hL
  obtain ⟨x1, x2, x3, x4, x5, x6, x7, x8, x9, x10, x11, x12⟩ := id hC
  have hob := obj_ok
  simp only [Bool.and_eq_true] at hob
  have hz : H.size = B + h.1.length := hRep.1
  have harr : (Cond.arrayClass (newarray.typeOf ty)).before args s = true := by
    rcases ht with ⟨rfl, -⟩ | ⟨rfl, -⟩ | ⟨rfl, -⟩
    · exact x6 _ (okP_in hob.1.1.2)
    · exact x6 _ (okP_in hob.1.2)
    · exact x6 _ (okP_in hob.2)
  refine va_newaK x1 x2 harr rfl hd rfl hn rfl (by rcases ht with ⟨rfl, -⟩ | ⟨rfl, -⟩ | ⟨rfl, -⟩ <;> simp only [newarray.typeOf, componentBytes] <;> omega) (by omega) (by omega) rfl fun H1 cI e1 z1 o1 hA hN => ?_
  have key := nx l D cA B p e R s m args below meth c H1 locs (cells + 1) (slots + n.toNatClampNeg) ls hC (by omega) (by omega) hB (rep_push hRep z1 o1 ?_) (S_push hS z1 o1) hL
  · rw [hz]
    exact key
  · rw [← hz]
    rcases ht with ⟨rfl, rfl⟩ | ⟨rfl, rfl⟩ | ⟨rfl, rfl⟩
    · have hcI : cI = cA 10 := Option.some.inj (hN.symm.trans (x8.2 0 _ rfl).2)
      rw [cE_I kd_nw, zl_nw]
      show H1[H.size]? = some (vp_cell _ _)
      rw [e1, hcI, vp_cell_i]
      simp only [hI, nw, up1_eq]
      rfl
    · have hcI : cI = cA 11 := Option.some.inj (hN.symm.trans (x8.2 1 _ rfl).2)
      rw [cE_J kd_nw, zl_nw]
      show H1[H.size]? = some (vp_cell _ _)
      rw [e1, hcI, vp_cell_l]
      simp only [hJ, nw, up1_eq]
      rfl
    · have hcI : cI = cA 12 := Option.some.inj (hN.symm.trans (x8.2 2 _ rfl).2)
      rw [cE_Z kd_nw, zl_nw]
      show H1[H.size]? = some (vp_cell _ _)
      rw [e1, hcI, vp_cell_i]
      simp only [hI, nw, up1_eq]
      rfl
theorem x_anew {idx kn c0 : Nat} {n : Int32} (hd : decode (cM k) pc = .ok (.anewarray idx, 3)) (hT : (owM k, idx, kn, c0) ∈ ATab) (hn : ¬ n < 0) (hn2 : n.toNatClampNeg ≤ 1000) (h1 : 1 ≤ bc) (h2 : n.toNatClampNeg ≤ bs) (nx : X k Q (bc - 1) (bs - n.toNatClampNeg) (pc + 3) L (.ref h.1.length :: rest) (nw h kn n.toNatClampNeg)) : X k Q bc bs pc L (.int n :: rest) h := by
  intro l D cA B p e R s m args below meth c H locs cells slots ls hC hc hs hB hRep hS hL
  obtain ⟨x1, x2, x3, x4, x5, x6, x7, x8, x9, x10, x11, x12⟩ := id hC
  obtain ⟨f1, f2, f3, f4, f5⟩ := A_fact hT
  obtain ⟨t0, ht⟩ := A_kind hT cA
  have hz : H.size = B + h.1.length := hRep.1
  refine W.anew x1 x2 x5 (x6 _ f4) (va_AO.use (x12.2 _ f5)) rfl hd rfl hn (by omega) (by omega) (by omega) fun cI kA comp y1 y2 y3 y4 => ?_
  generalize hH1 : H.push ({ cls := cI, slots := Array.replicate n.toNatClampNeg .null, vm := .none } : Cell) = H1
  have z1 : H1.size = H.size + 1 := by rw [← hH1, Array.size_push]
  have e1 : H1[H.size]? = some (arrV cI n.toNatClampNeg (fun _ => .null)) := by rw [← hH1, Array.getElem?_push_size, ← arrV_new]
  have o1 : ∀ q : Nat, q < H.size → H1[q]? = H[q]? := fun q hq => by rw [← hH1, Array.getElem?_push, if_neg (Nat.ne_of_lt hq)]
  have key := nx l D cA B p e R s m args below meth c H1 locs (cells + 1) (slots + n.toNatClampNeg) ls hC (by omega) (by omega) hB (rep_push hRep z1 o1 ?_) (S_push hS z1 o1) hL
  · rw [hz]
    exact key
  · obtain ⟨kA2, comp2, w1, w2, w3, w4⟩ := (x8.2 t0 _ ht).2
    have hcI : cI = cA kn := Option.some.inj (y1.symm.trans w4)
    rw [cE_R kd_nw f1, zl_nw, ← hz]
    show H1[H.size]? = some (vp_cell _ _)
    rw [e1, hcI, vp_cell_q]
    simp only [hR, nw, up1_eq]
    rfl
end XN
/-! calls -/
noncomputable def wsM (k : Nat) : List Cond := .code (yM k) (cM k) (mxl k) (rtM k) :: TB
noncomputable def rmM (k : Nat) : Room := { frames := frM k, cells := cel k, slots := slo k, locals := lwM k }
noncomputable def PcX (D : va_G) (cA : Nat → ClassId) (B : Nat) (h : HP) (as : List Value) : Array Value → State → Prop := fun v U => v = (as.map (tr B)).toArray ∧ B ≤ U.heap.size ∧ Rep D cA B h U.heap ∧ va_K D vwCl (tysA cA) U ∧ NW U
theorem cw_all : ∀ k, k < 116 → Cond.code (yM k) (cM k) (mxl k) (rtM k) ∈ TB := by
  intro k hk
  match k, hk with
  | 0, _ => exact okP_in cw_0
  | 1, _ => exact okP_in cw_1
  | 2, _ => exact okP_in cw_2
  | 3, _ => exact okP_in cw_3
  | 4, _ => exact okP_in cw_4
  | 5, _ => exact okP_in cw_5
  | 6, _ => exact okP_in cw_6
  | 7, _ => exact okP_in cw_7
  | 8, _ => exact okP_in cw_8
  | 9, _ => exact okP_in cw_9
  | 10, _ => exact okP_in cw_10
  | 11, _ => exact okP_in cw_11
  | 12, _ => exact okP_in cw_12
  | 13, _ => exact okP_in cw_13
  | 14, _ => exact okP_in cw_14
  | 15, _ => exact okP_in cw_15
  | 16, _ => exact okP_in cw_16
  | 17, _ => exact okP_in cw_17
  | 18, _ => exact okP_in cw_18
  | 19, _ => exact okP_in cw_19
  | 20, _ => exact okP_in cw_20
  | 21, _ => exact okP_in cw_21
  | 22, _ => exact okP_in cw_22
  | 23, _ => exact okP_in cw_23
  | 24, _ => exact okP_in cw_24
  | 25, _ => exact okP_in cw_25
  | 26, _ => exact okP_in cw_26
  | 27, _ => exact okP_in cw_27
  | 28, _ => exact okP_in cw_28
  | 29, _ => exact okP_in cw_29
  | 30, _ => exact okP_in cw_30
  | 31, _ => exact okP_in cw_31
  | 32, _ => exact okP_in cw_32
  | 33, _ => exact okP_in cw_33
  | 34, _ => exact okP_in cw_34
  | 35, _ => exact okP_in cw_35
  | 36, _ => exact okP_in cw_36
  | 37, _ => exact okP_in cw_37
  | 38, _ => exact okP_in cw_38
  | 39, _ => exact okP_in cw_39
  | 40, _ => exact okP_in cw_40
  | 41, _ => exact okP_in cw_41
  | 42, _ => exact okP_in cw_42
  | 43, _ => exact okP_in cw_43
  | 44, _ => exact okP_in cw_44
  | 45, _ => exact okP_in cw_45
  | 46, _ => exact okP_in cw_46
  | 47, _ => exact okP_in cw_47
  | 48, _ => exact okP_in cw_48
  | 49, _ => exact okP_in cw_49
  | 50, _ => exact okP_in cw_50
  | 51, _ => exact okP_in cw_51
  | 52, _ => exact okP_in cw_52
  | 53, _ => exact okP_in cw_53
  | 54, _ => exact okP_in cw_54
  | 55, _ => exact okP_in cw_55
  | 56, _ => exact okP_in cw_56
  | 57, _ => exact okP_in cw_57
  | 58, _ => exact okP_in cw_58
  | 59, _ => exact okP_in cw_59
  | 60, _ => exact okP_in cw_60
  | 61, _ => exact okP_in cw_61
  | 62, _ => exact okP_in cw_62
  | 63, _ => exact okP_in cw_63
  | 64, _ => exact okP_in cw_64
  | 65, _ => exact okP_in cw_65
  | 66, _ => exact okP_in cw_66
  | 67, _ => exact okP_in cw_67
  | 68, _ => exact okP_in cw_68
  | 69, _ => exact okP_in cw_69
  | 70, _ => exact okP_in cw_70
  | 71, _ => exact okP_in cw_71
  | 72, _ => exact okP_in cw_72
  | 73, _ => exact okP_in cw_73
  | 74, _ => exact okP_in cw_74
  | 75, _ => exact okP_in cw_75
  | 76, _ => exact okP_in cw_76
  | 77, _ => exact okP_in cw_77
  | 78, _ => exact okP_in cw_78
  | 79, _ => exact okP_in cw_79
  | 80, _ => exact okP_in cw_80
  | 81, _ => exact okP_in cw_81
  | 82, _ => exact okP_in cw_82
  | 83, _ => exact okP_in cw_83
  | 84, _ => exact okP_in cw_84
  | 85, _ => exact okP_in cw_85
  | 86, _ => exact okP_in cw_86
  | 87, _ => exact okP_in cw_87
  | 88, _ => exact okP_in cw_88
  | 89, _ => exact okP_in cw_89
  | 90, _ => exact okP_in cw_90
  | 91, _ => exact okP_in cw_91
  | 92, _ => exact okP_in cw_92
  | 93, _ => exact okP_in cw_93
  | 94, _ => exact okP_in cw_94
  | 95, _ => exact okP_in cw_95
  | 96, _ => exact okP_in cw_96
  | 97, _ => exact okP_in cw_97
  | 98, _ => exact okP_in cw_98
  | 99, _ => exact okP_in cw_99
  | 100, _ => exact okP_in cw_100
  | 101, _ => exact okP_in cw_101
  | 102, _ => exact okP_in cw_102
  | 103, _ => exact okP_in cw_103
  | 104, _ => exact okP_in cw_104
  | 105, _ => exact okP_in cw_105
  | 106, _ => exact okP_in cw_106
  | 107, _ => exact okP_in cw_107
  | 108, _ => exact okP_in cw_108
  | 109, _ => exact okP_in cw_109
  | 110, _ => exact okP_in cw_110
  | 111, _ => exact okP_in cw_111
  | 112, _ => exact okP_in cw_112
  | 113, _ => exact okP_in cw_113
  | 114, _ => exact okP_in cw_114
  | 115, _ => exact okP_in cw_115
  | k + 116, hk => exact absurd hk (by omega)
theorem Y_all {k : Nat} (hk : k < 116) : Cond.initialized (yM k).cls ∈ TB ∧ (yM k).cls = cn (owM k) ∧ (yM k).cls ≠ "java/lang/invoke/MethodHandle" ∧ (yM k).cls ≠ "java/lang/invoke/VarHandle" ∧ (parseMethodDescriptor (yM k).desc).map (fun d => d.parameters.length) = some (naM k) ∧ plainName (yM k).cls = true := by
  have h0 : okY k = true := by
    have e : (k < 29) ∨ (29 ≤ k ∧ k < 58) ∨ (58 ≤ k ∧ k < 87) ∨ (87 ≤ k ∧ k < 116) := by omega
    rcases e with e | e | e | e
    · have := List.all_eq_true.mp Y_ok_0 k (List.mem_range.mpr e); simpa using this
    · have := List.all_eq_true.mp Y_ok_29 (k - 29) (List.mem_range.mpr (by omega)); rwa [show k - 29 + 29 = k by omega] at this
    · have := List.all_eq_true.mp Y_ok_58 (k - 58) (List.mem_range.mpr (by omega)); rwa [show k - 58 + 58 = k by omega] at this
    · have := List.all_eq_true.mp Y_ok_87 (k - 87) (List.mem_range.mpr (by omega)); rwa [show k - 87 + 87 = k by omega] at this
  simp only [okY, Bool.and_eq_true, decide_eq_true_eq] at h0
  exact ⟨okP_in h0.1.1.1.1.1, h0.1.1.1.1.2, h0.1.1.1.2, h0.1.1.2, h0.1.2, h0.2⟩
theorem TB_good {w : Cond} (h : w ∈ TB) : (w.onTables && w.keeps) = true ∨ ∃ ty, w = .arrayClass ty := good_of_word (List.mem_filter.mp h).2
theorem NW_warm {s U : State} (hW : s.WarmedH U.vm) (h : NW s) : NW U := by
  refine ⟨fun w hw hn => ?_, fun C hC => va_AO.moved hW.alike (h.2 C hC)⟩
  have h1 := h.1 w hw hn
  cases w <;> first | exact va_Nw.warmM hW h1 | cases hn
theorem NW_same {s U : State} (hv : s.vm = U.vm) (h : NW s) : NW U := by
  refine ⟨fun w hw hn => ?_, fun C hC => ?_⟩
  · have h1 := h.1 w hw hn
    cases w <;> first | exact va_Nw.same rfl hv h1 | cases hn
  · exact va_AO.moved (by rw [hv]; exact Vm.Alike.refl U.vm) (h.2 C hC)
/-- a method's contract out of X at its beginning -/
theorem X_met {k : Nat} (hk : k < 116) {Q : Option Value → HP → Prop} {as : List Value} {h : HP} (hl : (lay as).length ≤ mxl k) (hX : X k Q (cel k) (slo k) 0 (ini (mxl k) as) [] h) (l : Launch) (D : va_G) (cA : Nat → ClassId) (B : Nat) : Met l (yM k) (wsM k) (rmM k) (PcX D cA B h as) (Qx Q D cA B) (cel k) (slo k) (fun q => B ≤ q) := by
  obtain ⟨y1, y2, y3, y4, y5, y6⟩ := Y_all hk
  refine Met.ofW (cc := cM k) (maxL := mxl k) (ret := rtM k) y6 rfl ?_
  intro p e s m args below meth c s₁ Bd hml hv
  obtain ⟨rfl, hB, hRep, hK, hN⟩ := hv
  have hts := atoms_spec (ws := wsM k) Bd.pre
  have hown : s.vm.findClass (yM k).cls = some m.cls := findClass_of_methodNamed Bd.named
  have hin : meth.name = (yM k).name := (name_of_methodNamed Bd.named Bd.method).1
  rw [lg_entry_eq]
  exact hX l D cA B p e (rmM k) s m _ below meth c s.heap [] 0 0 _ ⟨Bd.exec, Bd.bytes, Bd.returns, hml, by rw [← y2]; exact hown, fun w hw => hts w (List.mem_cons_of_mem _ hw), Bd.notSynchronized, hK, fun q => by rw [hin]; exact q, Nat.le_refl _, Nat.le_refl _, hN⟩ (by show 0 + cel k ≤ cel k; omega) (by show 0 + slo k ≤ slo k; omega) hB hRep va_S.rf (LH_ini hl)
theorem M_fact {o idx k mode : Nat} (h : (o, idx, k, mode) ∈ MTab) : k < 116 ∧ ∃ a b c, okMT o idx k mode a b c = true := by
  have hl : MTab.length = MPos.length := by decide +kernel
  obtain ⟨i, hi⟩ := List.getElem?_of_mem h
  have hi2 : i < MPos.length := by rw [← hl]; exact (List.getElem?_eq_some_iff.mp hi).1
  have hz : ((o, idx, k, mode), MPos[i]) ∈ MTab.zip MPos := by
    apply List.mem_of_getElem? (i := i)
    rw [List.getElem?_zip_eq_some]
    exact ⟨hi, List.getElem?_eq_getElem hi2⟩
  have h0 := List.all_eq_true.mp MTab_ok _ hz
  simp only [Bool.and_eq_true, decide_eq_true_eq] at h0
  exact ⟨h0.1, _, _, _, h0.2⟩
theorem good_ws (k : Nat) (hk : k < 116) : GoodIn TB (wsM k) := by
  intro w hw
  rcases List.mem_cons.mp hw with rfl | hw
  · exact ⟨cw_all k hk, TB_good (cw_all k hk)⟩
  · exact ⟨hw, TB_good hw⟩
theorem PcX_blind {D : va_G} {cA : Nat → ClassId} {B : Nat} {h : HP} {as : List Value} : FrameBlind (PcX D cA B h as) := by
  rintro a U g mk ⟨q0, q1, q2, q3, q4⟩
  exact ⟨q0, q1, q2, va_K.moved (u := U) (U := U.calling g mk a) (Vm.Alike.refl U.vm) q3, NW_same (s := U) (U := U.calling g mk a) rfl q4⟩
section XC
variable {k bc bs pc : Nat} {Q : Option Value → HP → Prop} {L rest : List Value} {h : HP}
/-- behind a call -/
theorem x_behind {l : Launch} {D : va_G} {cA : Nat → ClassId} {B : Nat} {p : Program} {e : Env} {R : Room} {s : State} {m : MethodId} {args : Array Value} {below : List Frame} {meth : Method} {c : Code} {H : Heap} {locs : List Loc} {cells slots : Nat} {ls : Array Slot} {st0 : List Value} {a0 : Array Value} {mc ms : Nat} {Q1 : Option Value → HP → Prop}
    (hr : va_Run p l e R s m args below meth c H locs cells slots mc ms (F0 m pc ls st0) (rest.map (tr B)) (Qx Q1 D cA B a0) (fun q => B ≤ q)) (hC : Cx k D cA p R s m args meth c) (hc : cells + bc ≤ R.cells) (hs : slots + bs ≤ R.slots) (h1 : mc ≤ bc) (h2 : ms ≤ bs) (hB : B ≤ s.heap.size) (hS : va_S (fun q => B ≤ q) s.heap H locs) (hL : LH B ls (mxl k) L)
    (nx : ∀ r h1, Q1 r h1 → X k Q (bc - mc) (bs - ms) (pc + 3) L (r.toList ++ rest) h1) : W p l e R s m args below meth c H locs cells slots (MQ below (Qx Q D cA B) args s R.cells R.slots (fun q => B ≤ q)) (F0 m pc ls st0) := by
  intro T hT XX
  obtain ⟨v, st₀, t, T', Lo, h0, X', hLo, e1, e2, ⟨⟨r, hh, ho, hq, hRep1⟩, hz, hk⟩, st⟩ := hr T hT XX
  cases ho
  rw [h0] at hz hk
  have hS' : va_S (fun q => B ≤ q) s.heap T'.heap (locs ++ Lo) := ⟨Nat.le_trans hS.1 (by rw [e1]; exact hz), fun q q1 q2 => by rw [e1, hk q (Nat.lt_of_lt_of_le q1 hS.1) q2]; exact hS.2.1 q q1 q2, fun q hq => by
      rcases List.mem_append.mp hq with h | h
      · exact hS.2.2 q h
      · exact hLo q h⟩
  obtain ⟨t2, a1, b1⟩ := nx r hh hq l D cA B p e R s m args below meth c T'.heap (locs ++ Lo) (cells + mc) (slots + ms) ls hC (by omega) (by omega) hB (by rw [e1]; exact hRep1) hS' hL T' rfl X'
  refine ⟨t2, st t2 ?_, b1⟩
  have e3 : (r.map (tr B)).toList ++ rest.map (tr B) = (r.toList ++ rest).map (tr B) := by cases r <;> simp
  show Steps p.tables e below (T'.setTop { method := m, pc := pc + 3, locals := ls, stack := (r.map (tr B)).toList ++ rest.map (tr B), locked := none }) t2
  rw [e3]
  exact a1
theorem x_invS {idx k1 mode : Nat} {as : List Value} {Q1 : Option Value → HP → Prop} (hd : decode (cM k) pc = .ok (.invokestatic idx, 3)) (hT : (owM k, idx, k1, mode) ∈ MTab) (hm : mode = 0 ∨ mode = 1) (hn : as.length = naM k1) (hf : frM k1 + 1 ≤ frM k) (hw : 8 + (mxl k1 + 11) + lwM k1 ≤ lwM k) (hr : (rest.map fun v => v.category).sum ≤ 8) (hl : (lay as).length ≤ mxl k1) (h1 : cel k1 ≤ bc) (h2 : slo k1 ≤ bs)
    (hX : X k1 Q1 (cel k1) (slo k1) 0 (ini (mxl k1) as) [] h) (nx : ∀ r h1, Q1 r h1 → X k Q (bc - cel k1) (bs - slo k1) (pc + 3) L (r.toList ++ rest) h1) : X k Q bc bs pc L (as.reverse ++ rest) h := by
  intro l D cA B p e R s m args below meth c H locs cells slots ls hC hc hs hB hRep hS hL
  obtain ⟨x1, x2, x3, x4, x5, x6, x7, x8, x9, x10, x11, x12⟩ := id hC
  obtain ⟨hk1, _, _, _, ho⟩ := M_fact hT
  obtain ⟨y1, y2, y3, y4, y5, y6⟩ := Y_all hk1
  have hM := X_met hk1 hl hX l D cA B
  have hp : PreS s H (PcX D cA B h as) (as.map (tr B)) := ⟨PcX_blind, fun U hU hW => ⟨rfl, by rw [hU]; exact Nat.le_trans hB hS.1, by rw [hU]; exact hRep, va_K.moved hW.alike x8, NW_warm hW x12⟩⟩
  have hst : (F0 m pc ls ((as.reverse ++ rest).map (tr B))).stack = (as.map (tr B)).reverse ++ rest.map (tr B) := by simp
  have hroom := lv_room (m := m) (pc := pc) (ls := ls) (rest := (as.reverse ++ rest).map (tr B)) (st := rest.map (tr B)) (by rw [tr_cats]; exact hr)
  rcases hm with rfl | rfl
  · simp only [okMT, Bool.and_eq_true] at ho
    exact x_behind (va_runS (As := as.map (tr B)) (rest := rest.map (tr B)) ⟨x1, x2, x4, x5, x6⟩ hM ⟨callB_of (naM k1) x6 (good_ws k1 hk1) rfl rfl rfl (x6 _ y1) (x6 _ (okP_in ho.1)) ⟨y3, y4, y5⟩ ⟨by show frM k1 + 1 ≤ _; omega, by show 8 + (mxl k1 + 11) + lwM k1 ≤ _; omega⟩, x6 _ (okP_in ho.2)⟩ hp rfl (by simpa using hn) hL.2.1 hst hroom hd ⟨by omega, by omega⟩) hC hc hs h1 h2 hB hS hL nx
  · simp only [okMT, Bool.and_eq_true, decide_eq_true_eq] at ho
    exact x_behind (va_runSN (As := as.map (tr B)) (rest := rest.map (tr B)) ⟨x1, x2, x4, x5, x6⟩ hM ⟨va_cnB (naM k1) x6 (good_ws k1 hk1) rfl rfl rfl (x12.1 _ (List.mem_of_getElem? ho.1) rfl) (x6 _ y1) ⟨y3, y4, y5⟩ ⟨by show frM k1 + 1 ≤ _; omega, by show 8 + (mxl k1 + 11) + lwM k1 ≤ _; omega⟩, x6 _ (okP_in ho.2), trivial⟩ hp rfl (by simpa using hn) hL.2.1 hst hroom hd ⟨by omega, by omega⟩) hC hc hs h1 h2 hB hS hL nx
theorem x_invI {idx k1 mode b : Nat} {as : List Value} {Q1 : Option Value → HP → Prop} (hd : decode (cM k) pc = .ok (.invokespecial idx, 3)) (hT : (owM k, idx, k1, mode) ∈ MTab) (hm : mode = 3 ∨ mode = 4) (hrt : rtM k1 = none) (hn : as.length = naM k1) (hf : frM k1 + 1 ≤ frM k) (hw : 8 + (mxl k1 + 11) + lwM k1 ≤ lwM k) (hr : (rest.map fun v => v.category).sum ≤ 8) (hl : (lay (.ref b :: as)).length ≤ mxl k1) (h1 : cel k1 ≤ bc) (h2 : slo k1 ≤ bs)
    (hX : X k1 Q1 (cel k1) (slo k1) 0 (ini (mxl k1) (.ref b :: as)) [] h) (nx : ∀ r h1, Q1 r h1 → X k Q (bc - cel k1) (bs - slo k1) (pc + 3) L (r.toList ++ rest) h1) : X k Q bc bs pc L (as.reverse ++ .ref b :: rest) h := by
  intro l D cA B p e R s m args below meth c H locs cells slots ls hC hc hs hB hRep hS hL
  obtain ⟨x1, x2, x3, x4, x5, x6, x7, x8, x9, x10, x11, x12⟩ := id hC
  obtain ⟨hk1, _, _, _, ho⟩ := M_fact hT
  obtain ⟨y1, y2, y3, y4, y5, y6⟩ := Y_all hk1
  have hM := X_met hk1 hl hX l D cA B
  have hp : PreS s H (PcX D cA B h (.ref b :: as)) (.ref (B + b) :: as.map (tr B)) := ⟨PcX_blind, fun U hU hW => ⟨rfl, by rw [hU]; exact Nat.le_trans hB hS.1, by rw [hU]; exact hRep, va_K.moved hW.alike x8, NW_warm hW x12⟩⟩
  have hst : (F0 m pc ls ((as.reverse ++ .ref b :: rest).map (tr B))).stack = (as.map (tr B)).reverse ++ .ref (B + b) :: rest.map (tr B) := by simp [tr]
  have hroom := lv_room (m := m) (pc := pc) (ls := ls) (rest := (as.reverse ++ .ref b :: rest).map (tr B)) (st := rest.map (tr B)) (by rw [tr_cats]; exact hr)
  have hwk : wsM k1 = Cond.code (yM k1) (cM k1) (mxl k1) none :: TB := by unfold wsM; rw [hrt]
  rcases hm with rfl | rfl
  · simp only [okMT, Bool.and_eq_true, decide_eq_true_eq] at ho
    exact x_behind (va_runI (As := as.map (tr B)) (rest := rest.map (tr B)) ⟨x1, x2, x4, x5, x6⟩ hM (cwI (naM k1) x6 (good_ws k1 hk1) hwk rfl rfl (x6 _ y1) (x6 _ (okP_in ho.1.1)) (x6 _ (okP_in ho.1.2)) ho.2 ⟨y3, y4, y5⟩ ⟨by show frM k1 + 1 ≤ _; omega, by show 8 + (mxl k1 + 11) + lwM k1 ≤ _; omega⟩) hp rfl (by simpa using hn) hL.2.1 hst hroom hd ⟨by omega, by omega⟩) hC hc hs h1 h2 hB hS hL nx
  · simp only [okMT, Bool.and_eq_true, decide_eq_true_eq] at ho
    exact x_behind (va_runIN (As := as.map (tr B)) (rest := rest.map (tr B)) ⟨x1, x2, x4, x5, x6⟩ hM ⟨va_cnB (naM k1) x6 (good_ws k1 hk1) hwk rfl rfl (x12.1 _ (List.mem_of_getElem? ho.1.1) rfl) (x6 _ y1) ⟨y3, y4, y5⟩ ⟨by show frM k1 + 1 ≤ _; omega, by show 8 + (mxl k1 + 11) + lwM k1 ≤ _; omega⟩, ho.2, x6 _ (okP_in ho.1.2)⟩ hp rfl (by simpa using hn) hL.2.1 hst hroom hd ⟨by omega, by omega⟩) hC hc hs h1 h2 hB hS hL nx
theorem x_invV {idx k1 b : Nat} {as : List Value} {Q1 : Option Value → HP → Prop} (hd : decode (cM k) pc = .ok (.invokevirtual idx, 3)) (hT : (owM k, idx, k1, 2) ∈ MTab) (hkb : kd h b = owM k1) (ho10 : owM k1 < 10) (hn : as.length = naM k1) (hf : frM k1 + 1 ≤ frM k) (hw : 8 + (mxl k1 + 11) + lwM k1 ≤ lwM k) (hr : (rest.map fun v => v.category).sum ≤ 8) (hl : (lay (.ref b :: as)).length ≤ mxl k1) (h1 : cel k1 ≤ bc) (h2 : slo k1 ≤ bs)
    (hX : X k1 Q1 (cel k1) (slo k1) 0 (ini (mxl k1) (.ref b :: as)) [] h) (nx : ∀ r h1, Q1 r h1 → X k Q (bc - cel k1) (bs - slo k1) (pc + 3) L (r.toList ++ rest) h1) : X k Q bc bs pc L (as.reverse ++ .ref b :: rest) h := by
  intro l D cA B p e R s m args below meth c H locs cells slots ls hC hc hs hB hRep hS hL
  obtain ⟨x1, x2, x3, x4, x5, x6, x7, x8, x9, x10, x11, x12⟩ := id hC
  obtain ⟨hk1, _, _, _, ho⟩ := M_fact hT
  obtain ⟨y1, y2, y3, y4, y5, y6⟩ := Y_all hk1
  obtain ⟨g1, g2, g3, g4⟩ := cl_fact ho10
  have hcn : cn (owM k1) = (clQ (owM k1)).1 := by
    have : owM k1 = 0 ∨ owM k1 = 1 ∨ owM k1 = 2 ∨ owM k1 = 3 ∨ owM k1 = 4 ∨ owM k1 = 5 ∨ owM k1 = 6 ∨ owM k1 = 7 ∨ owM k1 = 8 ∨ owM k1 = 9 := by omega
    rcases this with e | e | e | e | e | e | e | e | e | e <;> rw [e] <;> rfl
  have hM := X_met hk1 hl hX l D cA B
  have hrec : ∃ cell : Cell, H[B + b]? = some cell ∧ cell.vm.isStatics = false ∧ s.vm.findClass (yM k1).cls = some cell.cls := by
    have h9 := va_recv (q0 := b) (a := B + b) (ci := owM k1) x8 hRep.2 g1 (by rw [wsH_get (kd_lt hkb (by omega)), cE_obj hkb ho10])
    rw [y2, hcn]
    exact h9
  have hp : PreV s H (yM k1).cls (B + b) (PcX D cA B h (.ref b :: as)) (as.map (tr B)) := ⟨PcX_blind, hrec, fun U hU hW => ⟨rfl, by rw [hU]; exact Nat.le_trans hB hS.1, by rw [hU]; exact hRep, va_K.moved hW.alike x8, NW_warm hW x12⟩⟩
  have hst : (F0 m pc ls ((as.reverse ++ .ref b :: rest).map (tr B))).stack = (as.map (tr B)).reverse ++ .ref (B + b) :: rest.map (tr B) := by simp [tr]
  have hroom := lv_room (m := m) (pc := pc) (ls := ls) (rest := (as.reverse ++ .ref b :: rest).map (tr B)) (st := rest.map (tr B)) (by rw [tr_cats]; exact hr)
  simp only [okMT, Bool.and_eq_true] at ho
  exact x_behind (va_runV (C := (yM k1).cls) (As := as.map (tr B)) (rest := rest.map (tr B)) ⟨x1, x2, x4, x5, x6⟩ hM ⟨callB_of (naM k1) x6 (good_ws k1 hk1) rfl rfl rfl (x6 _ y1) (x6 _ (okP_in ho.1.1)) ⟨y3, y4, y5⟩ ⟨by show frM k1 + 1 ≤ _; omega, by show 8 + (mxl k1 + 11) + lwM k1 ≤ _; omega⟩, x6 _ (okP_in ho.1.2), x6 _ (okP_in ho.2)⟩ hp rfl (by simpa using hn) hL.2.1 hst hroom hd ⟨by omega, by omega⟩) hC hc hs h1 h2 hB hS hL nx
theorem X_fact {o idx a : Nat} (h : (o, idx, a) ∈ XTab) : a < 4 ∧ Cond.methodLink (cn o) idx (mthY a).1 ∈ TB := by
  have hl : XTab.length = XPos.length := by decide +kernel
  obtain ⟨i, hi⟩ := List.getElem?_of_mem h
  have hi2 : i < XPos.length := by rw [← hl]; exact (List.getElem?_eq_some_iff.mp hi).1
  have hz : ((o, idx, a), XPos[i]) ∈ XTab.zip XPos := by
    apply List.mem_of_getElem? (i := i)
    rw [List.getElem?_zip_eq_some]
    exact ⟨hi, List.getElem?_eq_getElem hi2⟩
  have h0 := List.all_eq_true.mp XTab_ok _ hz
  simp only [Bool.and_eq_true, decide_eq_true_eq] at h0
  exact ⟨h0.1, okP_in h0.2⟩
theorem x_abs {idx : Nat} {x : Int64} (hd : decode (cM k) pc = .ok (.invokestatic idx, 3)) (hT : (owM k, idx, 0) ∈ XTab) (hf : 1 ≤ frM k) (hw : 24 ≤ lwM k) (hr : (rest.map fun v => v.category).sum ≤ 8) (nx : X k Q bc bs (pc + 3) L (.long (if 0 < x then x else -x) :: rest) h) : X k Q bc bs pc L (.long x :: rest) h := by
  intro l D cA B p e R s m args below meth c H locs cells slots ls hC hc hs hB hRep hS hL
  obtain ⟨x1, x2, x3, x4, x5, x6, x7, x8, x9, x10, x11, x12⟩ := id hC
  have ho := mth_ok_0
  simp only [Bool.and_eq_true] at ho
  exact va_mabs_long x1 x2 (by rw [x4]; exact hL.2.1.symm) x5 (x6 _ (X_fact hT).2) (x6 _ (okP_in ho.1.1)) (x6 _ (okP_in ho.2)) (x6 _ (okP_in ho.1.2)) (by omega) (by rw [tr_cats]; omega) (by omega) (by omega) hd (nx l D cA B p e R s m args below meth c H locs cells slots ls hC hc hs hB hRep hS hL)
theorem x_max {idx : Nat} {x y : Int32} (hd : decode (cM k) pc = .ok (.invokestatic idx, 3)) (hT : (owM k, idx, 1) ∈ XTab) (hf : 1 ≤ frM k) (hw : 24 ≤ lwM k) (hr : (rest.map fun v => v.category).sum ≤ 8) (nx : X k Q bc bs (pc + 3) L (.int (if x < y then y else x) :: rest) h) : X k Q bc bs pc L (.int y :: .int x :: rest) h := by
  intro l D cA B p e R s m args below meth c H locs cells slots ls hC hc hs hB hRep hS hL
  obtain ⟨x1, x2, x3, x4, x5, x6, x7, x8, x9, x10, x11, x12⟩ := id hC
  have ho := mth_ok_1
  simp only [Bool.and_eq_true] at ho
  exact va_mmax x1 x2 (by rw [x4]; exact hL.2.1.symm) x5 (x6 _ (X_fact hT).2) (x6 _ (okP_in ho.1.1)) (x6 _ (okP_in ho.2)) (x6 _ (okP_in ho.1.2)) (by omega) (by rw [tr_cats]; omega) (by omega) (by omega) hd (nx l D cA B p e R s m args below meth c H locs cells slots ls hC hc hs hB hRep hS hL)
theorem x_maxL {idx : Nat} {x y : Int64} (hd : decode (cM k) pc = .ok (.invokestatic idx, 3)) (hT : (owM k, idx, 2) ∈ XTab) (hf : 1 ≤ frM k) (hw : 24 ≤ lwM k) (hr : (rest.map fun v => v.category).sum ≤ 8) (nx : X k Q bc bs (pc + 3) L (.long (if y < x then x else y) :: rest) h) : X k Q bc bs pc L (.long y :: .long x :: rest) h := by
  intro l D cA B p e R s m args below meth c H locs cells slots ls hC hc hs hB hRep hS hL
  obtain ⟨x1, x2, x3, x4, x5, x6, x7, x8, x9, x10, x11, x12⟩ := id hC
  have ho := mth_ok_2
  simp only [Bool.and_eq_true] at ho
  exact va_mmax_long x1 x2 (by rw [x4]; exact hL.2.1.symm) x5 (x6 _ (X_fact hT).2) (x6 _ (okP_in ho.1.1)) (x6 _ (okP_in ho.2)) (x6 _ (okP_in ho.1.2)) (by omega) (by rw [tr_cats]; omega) (by omega) (by omega) hd (nx l D cA B p e R s m args below meth c H locs cells slots ls hC hc hs hB hRep hS hL)
theorem x_min {idx : Nat} {x y : Int32} (hd : decode (cM k) pc = .ok (.invokestatic idx, 3)) (hT : (owM k, idx, 3) ∈ XTab) (hf : 1 ≤ frM k) (hw : 24 ≤ lwM k) (hr : (rest.map fun v => v.category).sum ≤ 8) (nx : X k Q bc bs (pc + 3) L (.int (if y < x then y else x) :: rest) h) : X k Q bc bs pc L (.int y :: .int x :: rest) h := by
  intro l D cA B p e R s m args below meth c H locs cells slots ls hC hc hs hB hRep hS hL
  obtain ⟨x1, x2, x3, x4, x5, x6, x7, x8, x9, x10, x11, x12⟩ := id hC
  have ho := mth_ok_3
  simp only [Bool.and_eq_true] at ho
  exact va_mmin x1 x2 (by rw [x4]; exact hL.2.1.symm) x5 (x6 _ (X_fact hT).2) (x6 _ (okP_in ho.1.1)) (x6 _ (okP_in ho.2)) (x6 _ (okP_in ho.1.2)) (by omega) (by rw [tr_cats]; omega) (by omega) (by omega) hd (nx l D cA B p e R s m args below meth c H locs cells slots ls hC hc hs hB hRep hS hL)
end XC
