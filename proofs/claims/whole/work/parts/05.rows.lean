/-! The judgement X, a row an instruction, a row a call. -/
def isNest : Cond → Bool
  | .methodLinkNest _ _ _ _ => true
  | _ => false
noncomputable def NW (s : State) : Prop := (∀ w ∈ lw_tbl, isNest w = true → va_Nw w s) ∧ ∀ C, Cond.arrayOver (.object C) ∈ lw_tbl → va_AO C s
def tysA (cA : Nat → ClassId) : List (ClassId × FieldType) := [(cA 10, .int), (cA 11, .long), (cA 12, .boolean), (cA 13, .object "ColdHouse$Image"), (cA 14, .object "ColdHouse$Sheet"), (cA 15, .object "ColdHouse$State"), (cA 16, .object "ColdHouse$Table")]
noncomputable def Cx (k : Nat) (D : va_G) (cA : Nat → ClassId) (p : Program) (R : Room) (s : State) (m : MethodId) (args : Array Value) (meth : Method) (c : Code) : Prop :=
  p.tables.exec = Jvm.exec ∧ c.code = cM k ∧ meth.sig.returnType = rtM k ∧ c.maxLocals = mxl k ∧ s.vm.findClass (cn (owM k)) = some m.cls ∧ (∀ w ∈ TB, w.before args s = true) ∧ meth.locks = false ∧ va_K D vwCl (tysA cA) s ∧ ((yM k).name = "<init>" → meth.name = "<init>") ∧ frM k ≤ R.frames ∧ lwM k ≤ R.locals ∧ NW s
noncomputable def Qx (Q : Option Value → HP → Prop) (D : va_G) (cA : Nat → ClassId) (B : Nat) : Array Value → State → Outcome → State → Prop := fun _ st o t => (∃ (r : Option Value) (h : HP), o = .returned (r.map (tr B)) ∧ Q r h ∧ Rep D cA B h t.heap) ∧ va_F (fun q => B ≤ q) st t
noncomputable def X (k : Nat) (Q : Option Value → HP → Prop) (bc bs pc : Nat) (L st : List Value) (h : HP) : Prop :=
  ∀ (l : Launch) (D : va_G) (cA : Nat → ClassId) (B : Nat) (p : Program) (e : Env) (R : Room) (s : State) (m : MethodId) (args : Array Value) (below : List Frame) (meth : Method) (c : Code) (H : Heap) (locs : List Loc) (cells slots : Nat) (ls : Array Slot),
    Cx k D cA p R s m args meth c → cells + bc ≤ R.cells → slots + bs ≤ R.slots → B ≤ s.heap.size → Rep D cA B h H → va_S (fun q => B ≤ q) s.heap H locs → LH B ls (mxl k) L →
    W p l e R s m args below meth c H locs cells slots (MQ below (Qx Q D cA B) args s R.cells R.slots (fun q => B ≤ q)) (F0 m pc ls (st.map (tr B)))
theorem W_mono {p : Program} {l : Launch} {e : Env} {R : Room} {s : State} {m : MethodId} {args : Array Value} {below : List Frame} {meth : Method} {c : Code} {H : Heap} {locs : List Loc} {cells slots : Nat} {Q1 Q2 : State → Prop} {g : JFrame} (hq : ∀ t, Q1 t → Q2 t) (h : W p l e R s m args below meth c H locs cells slots Q1 g) : W p l e R s m args below meth c H locs cells slots Q2 g := by
  intro T hT S
  obtain ⟨t, a, b⟩ := h T hT S
  exact ⟨t, a, hq t b⟩
section XR
variable {k bc bs pc : Nat} {Q : Option Value → HP → Prop} {L rest : List Value} {h : HP}
theorem X_mono {st : List Value} {Q2 : Option Value → HP → Prop} (hq : ∀ r h, Q r h → Q2 r h) (nx : X k Q bc bs pc L st h) : X k Q2 bc bs pc L st h := by
  intro l D cA B p e R s m args below meth c H locs cells slots ls hC hc hs hB hRep hS hL
  refine W_mono ?_ (nx l D cA B p e R s m args below meth c H locs cells slots ls hC hc hs hB hRep hS hL)
  rintro t ⟨o, h1, h2, ⟨⟨r, h3, h4, h5, h6⟩, h7⟩, h8⟩
  exact ⟨o, h1, h2, ⟨⟨r, h3, h4, hq r h3 h5, h6⟩, h7⟩, h8⟩
theorem X_bud {st : List Value} {bc2 bs2 : Nat} (h1 : bc2 ≤ bc) (h2 : bs2 ≤ bs) (nx : X k Q bc2 bs2 pc L st h) : X k Q bc bs pc L st h := by
  intro l D cA B p e R s m args below meth c H locs cells slots ls hC hc hs hB hRep hS hL
  exact nx l D cA B p e R s m args below meth c H locs cells slots ls hC (by omega) (by omega) hB hRep hS hL
theorem x_iconst {n : Int} {v : Int32} (hd : decode (cM k) pc = .ok (.iconst n, 1)) (hv : Int32.ofInt n = v) (nx : X k Q bc bs (pc + 1) L (.int v :: rest) h) : X k Q bc bs pc L (rest) h := by
  intro l D cA B p e R s m args below meth c H locs cells slots ls hC hc hs hB hRep hS hL
  exact lv_iconst hC.1 hC.2.1 hd hv (nx l D cA B p e R s m args below meth c H locs cells slots ls hC hc hs hB hRep hS hL)
theorem x_bipush {n : Int} {v : Int32} (hd : decode (cM k) pc = .ok (.bipush n, 2)) (hv : (Int8.ofInt n).toInt32 = v) (nx : X k Q bc bs (pc + 2) L (.int v :: rest) h) : X k Q bc bs pc L (rest) h := by
  intro l D cA B p e R s m args below meth c H locs cells slots ls hC hc hs hB hRep hS hL
  exact lv_bipush hC.1 hC.2.1 hd hv (nx l D cA B p e R s m args below meth c H locs cells slots ls hC hc hs hB hRep hS hL)
theorem x_sipush {n : Int} {v : Int32} (hd : decode (cM k) pc = .ok (.sipush n, 3)) (hv : (Int16.ofInt n).toInt32 = v) (nx : X k Q bc bs (pc + 3) L (.int v :: rest) h) : X k Q bc bs pc L (rest) h := by
  intro l D cA B p e R s m args below meth c H locs cells slots ls hC hc hs hB hRep hS hL
  exact lv_sipush hC.1 hC.2.1 hd hv (nx l D cA B p e R s m args below meth c H locs cells slots ls hC hc hs hB hRep hS hL)
theorem x_lconst {n : Fin 2} {v : Int64} (hd : decode (cM k) pc = .ok (.lconst n, 1)) (hv : Int64.ofNat (n : Nat) = v) (nx : X k Q bc bs (pc + 1) L (.long v :: rest) h) : X k Q bc bs pc L (rest) h := by
  intro l D cA B p e R s m args below meth c H locs cells slots ls hC hc hs hB hRep hS hL
  exact lv_lconst hC.1 hC.2.1 hd hv (nx l D cA B p e R s m args below meth c H locs cells slots ls hC hc hs hB hRep hS hL)
theorem x_null  (hd : decode (cM k) pc = .ok (.aconst_null, 1)) (nx : X k Q bc bs (pc + 1) L (.null :: rest) h) : X k Q bc bs pc L (rest) h := by
  intro l D cA B p e R s m args below meth c H locs cells slots ls hC hc hs hB hRep hS hL
  exact lv_null hC.1 hC.2.1 hd (nx l D cA B p e R s m args below meth c H locs cells slots ls hC hc hs hB hRep hS hL)
theorem x_iload_n {j : Fin 4} {x : Int32} (hd : decode (cM k) pc = .ok (.iload_n j, 1)) (hl : L[(j : Nat)]? = some (.int x)) (nx : X k Q bc bs (pc + 1) L (.int x :: rest) h) : X k Q bc bs pc L (rest) h := by
  intro l D cA B p e R s m args below meth c H locs cells slots ls hC hc hs hB hRep hS hL
  exact lv_iload_n hC.1 hC.2.1 hd rfl (LH.at hL hl (by simp)) (nx l D cA B p e R s m args below meth c H locs cells slots ls hC hc hs hB hRep hS hL)
theorem x_iload {j : Nat} {x : Int32} (hd : decode (cM k) pc = .ok (.iload j, 2)) (hl : L[j]? = some (.int x)) (nx : X k Q bc bs (pc + 2) L (.int x :: rest) h) : X k Q bc bs pc L (rest) h := by
  intro l D cA B p e R s m args below meth c H locs cells slots ls hC hc hs hB hRep hS hL
  exact lv_iload hC.1 hC.2.1 hd (LH.at hL hl (by simp)) (nx l D cA B p e R s m args below meth c H locs cells slots ls hC hc hs hB hRep hS hL)
theorem x_lload_n {j : Fin 4} {x : Int64} (hd : decode (cM k) pc = .ok (.lload_n j, 1)) (hl : L[(j : Nat)]? = some (.long x)) (nx : X k Q bc bs (pc + 1) L (.long x :: rest) h) : X k Q bc bs pc L (rest) h := by
  intro l D cA B p e R s m args below meth c H locs cells slots ls hC hc hs hB hRep hS hL
  exact lv_lload_n hC.1 hC.2.1 hd rfl (LH.at hL hl (by simp)) (nx l D cA B p e R s m args below meth c H locs cells slots ls hC hc hs hB hRep hS hL)
theorem x_lload {j : Nat} {x : Int64} (hd : decode (cM k) pc = .ok (.lload j, 2)) (hl : L[j]? = some (.long x)) (nx : X k Q bc bs (pc + 2) L (.long x :: rest) h) : X k Q bc bs pc L (rest) h := by
  intro l D cA B p e R s m args below meth c H locs cells slots ls hC hc hs hB hRep hS hL
  exact lv_lload hC.1 hC.2.1 hd (LH.at hL hl (by simp)) (nx l D cA B p e R s m args below meth c H locs cells slots ls hC hc hs hB hRep hS hL)
theorem x_aload_n {j : Fin 4} {x : Nat} (hd : decode (cM k) pc = .ok (.aload_n j, 1)) (hl : L[(j : Nat)]? = some (.ref x)) (nx : X k Q bc bs (pc + 1) L (.ref x :: rest) h) : X k Q bc bs pc L (rest) h := by
  intro l D cA B p e R s m args below meth c H locs cells slots ls hC hc hs hB hRep hS hL
  exact lv_aload_n hC.1 hC.2.1 hd rfl (LH.at hL hl (by simp)) (nx l D cA B p e R s m args below meth c H locs cells slots ls hC hc hs hB hRep hS hL)
theorem x_aload {j : Nat} {x : Nat} (hd : decode (cM k) pc = .ok (.aload j, 2)) (hl : L[j]? = some (.ref x)) (nx : X k Q bc bs (pc + 2) L (.ref x :: rest) h) : X k Q bc bs pc L (rest) h := by
  intro l D cA B p e R s m args below meth c H locs cells slots ls hC hc hs hB hRep hS hL
  exact lv_aload hC.1 hC.2.1 hd (LH.at hL hl (by simp)) (nx l D cA B p e R s m args below meth c H locs cells slots ls hC hc hs hB hRep hS hL)
theorem x_aload_nN {j : Fin 4} (hd : decode (cM k) pc = .ok (.aload_n j, 1)) (hl : L[(j : Nat)]? = some .null) (nx : X k Q bc bs (pc + 1) L (.null :: rest) h) : X k Q bc bs pc L (rest) h := by
  intro l D cA B p e R s m args below meth c H locs cells slots ls hC hc hs hB hRep hS hL
  exact lv_aload_nN hC.1 hC.2.1 hd rfl (LH.at hL hl (by simp)) (nx l D cA B p e R s m args below meth c H locs cells slots ls hC hc hs hB hRep hS hL)
theorem x_aloadN {j : Nat} (hd : decode (cM k) pc = .ok (.aload j, 2)) (hl : L[j]? = some .null) (nx : X k Q bc bs (pc + 2) L (.null :: rest) h) : X k Q bc bs pc L (rest) h := by
  intro l D cA B p e R s m args below meth c H locs cells slots ls hC hc hs hB hRep hS hL
  exact lv_aloadN hC.1 hC.2.1 hd (LH.at hL hl (by simp)) (nx l D cA B p e R s m args below meth c H locs cells slots ls hC hc hs hB hRep hS hL)
theorem x_istore_n {j : Fin 4} {x : Int32} (hd : decode (cM k) pc = .ok (.istore_n j, 1)) (hj : (j : Nat) < mxl k) (nx : X k Q bc bs (pc + 1) (st1 L (j : Nat) (.int x)) rest h) : X k Q bc bs pc L (.int x :: rest) h := by
  intro l D cA B p e R s m args below meth c H locs cells slots ls hC hc hs hB hRep hS hL
  refine lv_istore_n hC.1 hC.2.1 hd rfl hL.2 hj rfl (fun ls' hl' => ?_)
  exact nx l D cA B p e R s m args below meth c H locs cells slots ls' hC hc hs hB hRep hS (LH_st1 (v := (.int x)) hL hl')
theorem x_lstore_n {j : Fin 4} {x : Int64} (hd : decode (cM k) pc = .ok (.lstore_n j, 1)) (hj : (j : Nat) + 1 < mxl k) (nx : X k Q bc bs (pc + 1) (st2 L (j : Nat) (.long x)) rest h) : X k Q bc bs pc L (.long x :: rest) h := by
  intro l D cA B p e R s m args below meth c H locs cells slots ls hC hc hs hB hRep hS hL
  refine lv_lstore_n hC.1 hC.2.1 hd rfl hL.2 hj rfl (fun ls' hl' => ?_)
  exact nx l D cA B p e R s m args below meth c H locs cells slots ls' hC hc hs hB hRep hS (LH_st2 (v := (.long x)) hL (by rw [hL.1]; exact hj) hl')
theorem x_astore_n {j : Fin 4} {x : Nat} (hd : decode (cM k) pc = .ok (.astore_n j, 1)) (hj : (j : Nat) < mxl k) (nx : X k Q bc bs (pc + 1) (st1 L (j : Nat) (.ref x)) rest h) : X k Q bc bs pc L (.ref x :: rest) h := by
  intro l D cA B p e R s m args below meth c H locs cells slots ls hC hc hs hB hRep hS hL
  refine lv_astore_n hC.1 hC.2.1 hd rfl hL.2 hj rfl (fun ls' hl' => ?_)
  exact nx l D cA B p e R s m args below meth c H locs cells slots ls' hC hc hs hB hRep hS (LH_st1 (v := (.ref x)) hL hl')
theorem x_astore_nN {j : Fin 4} (hd : decode (cM k) pc = .ok (.astore_n j, 1)) (hj : (j : Nat) < mxl k) (nx : X k Q bc bs (pc + 1) (st1 L (j : Nat) .null) rest h) : X k Q bc bs pc L (.null :: rest) h := by
  intro l D cA B p e R s m args below meth c H locs cells slots ls hC hc hs hB hRep hS hL
  refine lv_astore_nN hC.1 hC.2.1 hd rfl hL.2 hj rfl (fun ls' hl' => ?_)
  exact nx l D cA B p e R s m args below meth c H locs cells slots ls' hC hc hs hB hRep hS (LH_st1 (v := .null) hL hl')
theorem x_istore {j : Nat} {x : Int32} (hd : decode (cM k) pc = .ok (.istore j, 2)) (hj : j < mxl k) (nx : X k Q bc bs (pc + 2) (st1 L j (.int x)) rest h) : X k Q bc bs pc L (.int x :: rest) h := by
  intro l D cA B p e R s m args below meth c H locs cells slots ls hC hc hs hB hRep hS hL
  refine lv_istore hC.1 hC.2.1 hd hL.2 hj rfl (fun ls' hl' => ?_)
  exact nx l D cA B p e R s m args below meth c H locs cells slots ls' hC hc hs hB hRep hS (LH_st1 (v := (.int x)) hL hl')
theorem x_lstore {j : Nat} {x : Int64} (hd : decode (cM k) pc = .ok (.lstore j, 2)) (hj : j + 1 < mxl k) (nx : X k Q bc bs (pc + 2) (st2 L j (.long x)) rest h) : X k Q bc bs pc L (.long x :: rest) h := by
  intro l D cA B p e R s m args below meth c H locs cells slots ls hC hc hs hB hRep hS hL
  refine lv_lstore hC.1 hC.2.1 hd hL.2 hj rfl (fun ls' hl' => ?_)
  exact nx l D cA B p e R s m args below meth c H locs cells slots ls' hC hc hs hB hRep hS (LH_st2 (v := (.long x)) hL (by rw [hL.1]; exact hj) hl')
theorem x_astore {j : Nat} {x : Nat} (hd : decode (cM k) pc = .ok (.astore j, 2)) (hj : j < mxl k) (nx : X k Q bc bs (pc + 2) (st1 L j (.ref x)) rest h) : X k Q bc bs pc L (.ref x :: rest) h := by
  intro l D cA B p e R s m args below meth c H locs cells slots ls hC hc hs hB hRep hS hL
  refine lv_astore hC.1 hC.2.1 hd hL.2 hj rfl (fun ls' hl' => ?_)
  exact nx l D cA B p e R s m args below meth c H locs cells slots ls' hC hc hs hB hRep hS (LH_st1 (v := (.ref x)) hL hl')
theorem x_astoreN {j : Nat} (hd : decode (cM k) pc = .ok (.astore j, 2)) (hj : j < mxl k) (nx : X k Q bc bs (pc + 2) (st1 L j .null) rest h) : X k Q bc bs pc L (.null :: rest) h := by
  intro l D cA B p e R s m args below meth c H locs cells slots ls hC hc hs hB hRep hS hL
  refine lv_astoreN hC.1 hC.2.1 hd hL.2 hj rfl (fun ls' hl' => ?_)
  exact nx l D cA B p e R s m args below meth c H locs cells slots ls' hC hc hs hB hRep hS (LH_st1 (v := .null) hL hl')
theorem x_iinc {j : Nat} {n : Int} {x v : Int32} (hd : decode (cM k) pc = .ok (.iinc j n, 3)) (hj : j < mxl k) (hl : L[j]? = some (.int x)) (hv : Int32.ofInt n = v) (nx : X k Q bc bs (pc + 3) (st1 L j (.int (x + v))) rest h) : X k Q bc bs pc L rest h := by
  intro l D cA B p e R s m args below meth c H locs cells slots ls hC hc hs hB hRep hS hL
  have hm : (j, Value.int x) ∈ lvL B L := lvL_mem.mpr ⟨.int x, hl, by simp, rfl⟩
  obtain ⟨q, hq⟩ := List.getElem?_of_mem hm
  refine lv_iinc (v := x + v) hC.1 hC.2.1 hd hL.2 hq (by rw [hv]) hj rfl (fun ls' hl' => ?_)
  exact nx l D cA B p e R s m args below meth c H locs cells slots ls' hC hc hs hB hRep hS (LH_st1 (v := .int (x + v)) hL hl')
theorem x_iadd {x y : Int32} (hd : decode (cM k) pc = .ok (.iadd, 1)) (nx : X k Q bc bs (pc + 1) L (.int (x + y) :: rest) h) : X k Q bc bs pc L (.int y :: .int x :: rest) h := by
  intro l D cA B p e R s m args below meth c H locs cells slots ls hC hc hs hB hRep hS hL
  exact lv_iadd hC.1 hC.2.1 hd (nx l D cA B p e R s m args below meth c H locs cells slots ls hC hc hs hB hRep hS hL)
theorem x_isub {x y : Int32} (hd : decode (cM k) pc = .ok (.isub, 1)) (nx : X k Q bc bs (pc + 1) L (.int (x - y) :: rest) h) : X k Q bc bs pc L (.int y :: .int x :: rest) h := by
  intro l D cA B p e R s m args below meth c H locs cells slots ls hC hc hs hB hRep hS hL
  exact lv_isub hC.1 hC.2.1 hd (nx l D cA B p e R s m args below meth c H locs cells slots ls hC hc hs hB hRep hS hL)
theorem x_imul {x y : Int32} (hd : decode (cM k) pc = .ok (.imul, 1)) (nx : X k Q bc bs (pc + 1) L (.int (x * y) :: rest) h) : X k Q bc bs pc L (.int y :: .int x :: rest) h := by
  intro l D cA B p e R s m args below meth c H locs cells slots ls hC hc hs hB hRep hS hL
  exact lv_imul hC.1 hC.2.1 hd (nx l D cA B p e R s m args below meth c H locs cells slots ls hC hc hs hB hRep hS hL)
theorem x_iand {x y : Int32} (hd : decode (cM k) pc = .ok (.iand, 1)) (nx : X k Q bc bs (pc + 1) L (.int (x &&& y) :: rest) h) : X k Q bc bs pc L (.int y :: .int x :: rest) h := by
  intro l D cA B p e R s m args below meth c H locs cells slots ls hC hc hs hB hRep hS hL
  exact lv_iand hC.1 hC.2.1 hd (nx l D cA B p e R s m args below meth c H locs cells slots ls hC hc hs hB hRep hS hL)
theorem x_idiv {x y : Int32} (hd : decode (cM k) pc = .ok (.idiv, 1)) (hne : ¬ y = 0) (nx : X k Q bc bs (pc + 1) L (.int (x / y) :: rest) h) : X k Q bc bs pc L (.int y :: .int x :: rest) h := by
  intro l D cA B p e R s m args below meth c H locs cells slots ls hC hc hs hB hRep hS hL
  exact lv_idiv hC.1 hC.2.1 hd hne (nx l D cA B p e R s m args below meth c H locs cells slots ls hC hc hs hB hRep hS hL)
theorem x_irem {x y : Int32} (hd : decode (cM k) pc = .ok (.irem, 1)) (hne : ¬ y = 0) (nx : X k Q bc bs (pc + 1) L (.int (x - x / y * y) :: rest) h) : X k Q bc bs pc L (.int y :: .int x :: rest) h := by
  intro l D cA B p e R s m args below meth c H locs cells slots ls hC hc hs hB hRep hS hL
  exact lv_irem hC.1 hC.2.1 hd hne (nx l D cA B p e R s m args below meth c H locs cells slots ls hC hc hs hB hRep hS hL)
theorem x_ladd {x y : Int64} (hd : decode (cM k) pc = .ok (.ladd, 1)) (nx : X k Q bc bs (pc + 1) L (.long (x + y) :: rest) h) : X k Q bc bs pc L (.long y :: .long x :: rest) h := by
  intro l D cA B p e R s m args below meth c H locs cells slots ls hC hc hs hB hRep hS hL
  exact lv_ladd hC.1 hC.2.1 hd (nx l D cA B p e R s m args below meth c H locs cells slots ls hC hc hs hB hRep hS hL)
theorem x_lsub {x y : Int64} (hd : decode (cM k) pc = .ok (.lsub, 1)) (nx : X k Q bc bs (pc + 1) L (.long (x - y) :: rest) h) : X k Q bc bs pc L (.long y :: .long x :: rest) h := by
  intro l D cA B p e R s m args below meth c H locs cells slots ls hC hc hs hB hRep hS hL
  exact lv_lsub hC.1 hC.2.1 hd (nx l D cA B p e R s m args below meth c H locs cells slots ls hC hc hs hB hRep hS hL)
theorem x_lmul {x y : Int64} (hd : decode (cM k) pc = .ok (.lmul, 1)) (nx : X k Q bc bs (pc + 1) L (.long (x * y) :: rest) h) : X k Q bc bs pc L (.long y :: .long x :: rest) h := by
  intro l D cA B p e R s m args below meth c H locs cells slots ls hC hc hs hB hRep hS hL
  exact lv_lmul hC.1 hC.2.1 hd (nx l D cA B p e R s m args below meth c H locs cells slots ls hC hc hs hB hRep hS hL)
theorem x_land {x y : Int64} (hd : decode (cM k) pc = .ok (.land, 1)) (nx : X k Q bc bs (pc + 1) L (.long (x &&& y) :: rest) h) : X k Q bc bs pc L (.long y :: .long x :: rest) h := by
  intro l D cA B p e R s m args below meth c H locs cells slots ls hC hc hs hB hRep hS hL
  exact lv_land hC.1 hC.2.1 hd (nx l D cA B p e R s m args below meth c H locs cells slots ls hC hc hs hB hRep hS hL)
theorem x_lor {x y : Int64} (hd : decode (cM k) pc = .ok (.lor, 1)) (nx : X k Q bc bs (pc + 1) L (.long (x ||| y) :: rest) h) : X k Q bc bs pc L (.long y :: .long x :: rest) h := by
  intro l D cA B p e R s m args below meth c H locs cells slots ls hC hc hs hB hRep hS hL
  exact lv_lor hC.1 hC.2.1 hd (nx l D cA B p e R s m args below meth c H locs cells slots ls hC hc hs hB hRep hS hL)
theorem x_ldiv {x y : Int64} (hd : decode (cM k) pc = .ok (.ldiv, 1)) (hne : ¬ y = 0) (nx : X k Q bc bs (pc + 1) L (.long (x / y) :: rest) h) : X k Q bc bs pc L (.long y :: .long x :: rest) h := by
  intro l D cA B p e R s m args below meth c H locs cells slots ls hC hc hs hB hRep hS hL
  exact lv_ldiv hC.1 hC.2.1 hd hne (nx l D cA B p e R s m args below meth c H locs cells slots ls hC hc hs hB hRep hS hL)
theorem x_lrem {x y : Int64} (hd : decode (cM k) pc = .ok (.lrem, 1)) (hne : ¬ y = 0) (nx : X k Q bc bs (pc + 1) L (.long (x - x / y * y) :: rest) h) : X k Q bc bs pc L (.long y :: .long x :: rest) h := by
  intro l D cA B p e R s m args below meth c H locs cells slots ls hC hc hs hB hRep hS hL
  exact lv_lrem hC.1 hC.2.1 hd hne (nx l D cA B p e R s m args below meth c H locs cells slots ls hC hc hs hB hRep hS hL)
theorem x_lneg {x : Int64} (hd : decode (cM k) pc = .ok (.lneg, 1)) (nx : X k Q bc bs (pc + 1) L (.long (-x) :: rest) h) : X k Q bc bs pc L (.long x :: rest) h := by
  intro l D cA B p e R s m args below meth c H locs cells slots ls hC hc hs hB hRep hS hL
  exact lv_lneg hC.1 hC.2.1 hd (nx l D cA B p e R s m args below meth c H locs cells slots ls hC hc hs hB hRep hS hL)
theorem x_lcmp {x y : Int64} (hd : decode (cM k) pc = .ok (.lcmp, 1)) (nx : X k Q bc bs (pc + 1) L (.int (lg_cmp x y) :: rest) h) : X k Q bc bs pc L (.long y :: .long x :: rest) h := by
  intro l D cA B p e R s m args below meth c H locs cells slots ls hC hc hs hB hRep hS hL
  exact W.lcmp hC.1 hC.2.1 hd (nx l D cA B p e R s m args below meth c H locs cells slots ls hC hc hs hB hRep hS hL)
theorem x_lshl {x : Int64} {y : Int32} (hd : decode (cM k) pc = .ok (.lshl, 1)) (nx : X k Q bc bs (pc + 1) L (.long (x <<< (y.toInt64 &&& 63)) :: rest) h) : X k Q bc bs pc L (.int y :: .long x :: rest) h := by
  intro l D cA B p e R s m args below meth c H locs cells slots ls hC hc hs hB hRep hS hL
  exact lv_lshl hC.1 hC.2.1 hd rfl (nx l D cA B p e R s m args below meth c H locs cells slots ls hC hc hs hB hRep hS hL)
theorem x_i2l {x : Int32} (hd : decode (cM k) pc = .ok (.i2l, 1)) (nx : X k Q bc bs (pc + 1) L (.long x.toInt64 :: rest) h) : X k Q bc bs pc L (.int x :: rest) h := by
  intro l D cA B p e R s m args below meth c H locs cells slots ls hC hc hs hB hRep hS hL
  exact lv_i2l hC.1 hC.2.1 hd rfl (nx l D cA B p e R s m args below meth c H locs cells slots ls hC hc hs hB hRep hS hL)
theorem x_i2b {x : Int32} (hd : decode (cM k) pc = .ok (.i2b, 1)) (nx : X k Q bc bs (pc + 1) L (.int x.toInt8.toInt32 :: rest) h) : X k Q bc bs pc L (.int x :: rest) h := by
  intro l D cA B p e R s m args below meth c H locs cells slots ls hC hc hs hB hRep hS hL
  exact lv_i2b hC.1 hC.2.1 hd rfl (nx l D cA B p e R s m args below meth c H locs cells slots ls hC hc hs hB hRep hS hL)
theorem x_i2s {x : Int32} (hd : decode (cM k) pc = .ok (.i2s, 1)) (nx : X k Q bc bs (pc + 1) L (.int x.toInt16.toInt32 :: rest) h) : X k Q bc bs pc L (.int x :: rest) h := by
  intro l D cA B p e R s m args below meth c H locs cells slots ls hC hc hs hB hRep hS hL
  exact lv_i2s hC.1 hC.2.1 hd rfl (nx l D cA B p e R s m args below meth c H locs cells slots ls hC hc hs hB hRep hS hL)
theorem x_dup {va : Value} (hd : decode (cM k) pc = .ok (.dup, 1)) (hv : va.category = 1) (nx : X k Q bc bs (pc + 1) L (va :: va :: rest) h) : X k Q bc bs pc L (va :: rest) h := by
  intro l D cA B p e R s m args below meth c H locs cells slots ls hC hc hs hB hRep hS hL
  exact lv_dup hC.1 hC.2.1 hd (by rw [tr_cat]; exact hv) (nx l D cA B p e R s m args below meth c H locs cells slots ls hC hc hs hB hRep hS hL)
theorem x_if_eq {x : Int32} {off : Int} {tgt : Nat} (hd : decode (cM k) pc = .ok (.ifCond .eq off, 3)) (ht : (pc : Int) + off = (tgt : Int)) (kt : x = 0 → X k Q bc bs tgt L rest h) (kf : ¬ x = 0 → X k Q bc bs (pc + 3) L rest h) : X k Q bc bs pc L (.int x :: rest) h := by
  intro l D cA B p e R s m args below meth c H locs cells slots ls hC hc hs hB hRep hS hL
  exact lv_if_eq hC.1 hC.2.1 hd ht (fun q => kt q l D cA B p e R s m args below meth c H locs cells slots ls hC hc hs hB hRep hS hL) (fun q => kf q l D cA B p e R s m args below meth c H locs cells slots ls hC hc hs hB hRep hS hL)
theorem x_icmp_eq {x y : Int32} {off : Int} {tgt : Nat} (hd : decode (cM k) pc = .ok (.if_icmp .eq off, 3)) (ht : (pc : Int) + off = (tgt : Int)) (kt : x = y → X k Q bc bs tgt L rest h) (kf : ¬ x = y → X k Q bc bs (pc + 3) L rest h) : X k Q bc bs pc L (.int y :: .int x :: rest) h := by
  intro l D cA B p e R s m args below meth c H locs cells slots ls hC hc hs hB hRep hS hL
  exact lv_icmp_eq hC.1 hC.2.1 hd ht (fun q => kt q l D cA B p e R s m args below meth c H locs cells slots ls hC hc hs hB hRep hS hL) (fun q => kf q l D cA B p e R s m args below meth c H locs cells slots ls hC hc hs hB hRep hS hL)
theorem x_if_ne {x : Int32} {off : Int} {tgt : Nat} (hd : decode (cM k) pc = .ok (.ifCond .ne off, 3)) (ht : (pc : Int) + off = (tgt : Int)) (kt : ¬ x = 0 → X k Q bc bs tgt L rest h) (kf : x = 0 → X k Q bc bs (pc + 3) L rest h) : X k Q bc bs pc L (.int x :: rest) h := by
  intro l D cA B p e R s m args below meth c H locs cells slots ls hC hc hs hB hRep hS hL
  exact lv_if_ne hC.1 hC.2.1 hd ht (fun q => kt q l D cA B p e R s m args below meth c H locs cells slots ls hC hc hs hB hRep hS hL) (fun q => kf q l D cA B p e R s m args below meth c H locs cells slots ls hC hc hs hB hRep hS hL)
theorem x_icmp_ne {x y : Int32} {off : Int} {tgt : Nat} (hd : decode (cM k) pc = .ok (.if_icmp .ne off, 3)) (ht : (pc : Int) + off = (tgt : Int)) (kt : ¬ x = y → X k Q bc bs tgt L rest h) (kf : x = y → X k Q bc bs (pc + 3) L rest h) : X k Q bc bs pc L (.int y :: .int x :: rest) h := by
  intro l D cA B p e R s m args below meth c H locs cells slots ls hC hc hs hB hRep hS hL
  exact lv_icmp_ne hC.1 hC.2.1 hd ht (fun q => kt q l D cA B p e R s m args below meth c H locs cells slots ls hC hc hs hB hRep hS hL) (fun q => kf q l D cA B p e R s m args below meth c H locs cells slots ls hC hc hs hB hRep hS hL)
theorem x_if_lt {x : Int32} {off : Int} {tgt : Nat} (hd : decode (cM k) pc = .ok (.ifCond .lt off, 3)) (ht : (pc : Int) + off = (tgt : Int)) (kt : x < 0 → X k Q bc bs tgt L rest h) (kf : ¬ x < 0 → X k Q bc bs (pc + 3) L rest h) : X k Q bc bs pc L (.int x :: rest) h := by
  intro l D cA B p e R s m args below meth c H locs cells slots ls hC hc hs hB hRep hS hL
  exact lv_if_lt hC.1 hC.2.1 hd ht (fun q => kt q l D cA B p e R s m args below meth c H locs cells slots ls hC hc hs hB hRep hS hL) (fun q => kf q l D cA B p e R s m args below meth c H locs cells slots ls hC hc hs hB hRep hS hL)
theorem x_icmp_lt {x y : Int32} {off : Int} {tgt : Nat} (hd : decode (cM k) pc = .ok (.if_icmp .lt off, 3)) (ht : (pc : Int) + off = (tgt : Int)) (kt : x < y → X k Q bc bs tgt L rest h) (kf : ¬ x < y → X k Q bc bs (pc + 3) L rest h) : X k Q bc bs pc L (.int y :: .int x :: rest) h := by
  intro l D cA B p e R s m args below meth c H locs cells slots ls hC hc hs hB hRep hS hL
  exact lv_icmp_lt hC.1 hC.2.1 hd ht (fun q => kt q l D cA B p e R s m args below meth c H locs cells slots ls hC hc hs hB hRep hS hL) (fun q => kf q l D cA B p e R s m args below meth c H locs cells slots ls hC hc hs hB hRep hS hL)
theorem x_if_ge {x : Int32} {off : Int} {tgt : Nat} (hd : decode (cM k) pc = .ok (.ifCond .ge off, 3)) (ht : (pc : Int) + off = (tgt : Int)) (kt : 0 ≤ x → X k Q bc bs tgt L rest h) (kf : ¬ 0 ≤ x → X k Q bc bs (pc + 3) L rest h) : X k Q bc bs pc L (.int x :: rest) h := by
  intro l D cA B p e R s m args below meth c H locs cells slots ls hC hc hs hB hRep hS hL
  exact lv_if_ge hC.1 hC.2.1 hd ht (fun q => kt q l D cA B p e R s m args below meth c H locs cells slots ls hC hc hs hB hRep hS hL) (fun q => kf q l D cA B p e R s m args below meth c H locs cells slots ls hC hc hs hB hRep hS hL)
theorem x_icmp_ge {x y : Int32} {off : Int} {tgt : Nat} (hd : decode (cM k) pc = .ok (.if_icmp .ge off, 3)) (ht : (pc : Int) + off = (tgt : Int)) (kt : y ≤ x → X k Q bc bs tgt L rest h) (kf : ¬ y ≤ x → X k Q bc bs (pc + 3) L rest h) : X k Q bc bs pc L (.int y :: .int x :: rest) h := by
  intro l D cA B p e R s m args below meth c H locs cells slots ls hC hc hs hB hRep hS hL
  exact lv_icmp_ge hC.1 hC.2.1 hd ht (fun q => kt q l D cA B p e R s m args below meth c H locs cells slots ls hC hc hs hB hRep hS hL) (fun q => kf q l D cA B p e R s m args below meth c H locs cells slots ls hC hc hs hB hRep hS hL)
theorem x_if_gt {x : Int32} {off : Int} {tgt : Nat} (hd : decode (cM k) pc = .ok (.ifCond .gt off, 3)) (ht : (pc : Int) + off = (tgt : Int)) (kt : 0 < x → X k Q bc bs tgt L rest h) (kf : ¬ 0 < x → X k Q bc bs (pc + 3) L rest h) : X k Q bc bs pc L (.int x :: rest) h := by
  intro l D cA B p e R s m args below meth c H locs cells slots ls hC hc hs hB hRep hS hL
  exact lv_if_gt hC.1 hC.2.1 hd ht (fun q => kt q l D cA B p e R s m args below meth c H locs cells slots ls hC hc hs hB hRep hS hL) (fun q => kf q l D cA B p e R s m args below meth c H locs cells slots ls hC hc hs hB hRep hS hL)
theorem x_icmp_gt {x y : Int32} {off : Int} {tgt : Nat} (hd : decode (cM k) pc = .ok (.if_icmp .gt off, 3)) (ht : (pc : Int) + off = (tgt : Int)) (kt : y < x → X k Q bc bs tgt L rest h) (kf : ¬ y < x → X k Q bc bs (pc + 3) L rest h) : X k Q bc bs pc L (.int y :: .int x :: rest) h := by
  intro l D cA B p e R s m args below meth c H locs cells slots ls hC hc hs hB hRep hS hL
  exact lv_icmp_gt hC.1 hC.2.1 hd ht (fun q => kt q l D cA B p e R s m args below meth c H locs cells slots ls hC hc hs hB hRep hS hL) (fun q => kf q l D cA B p e R s m args below meth c H locs cells slots ls hC hc hs hB hRep hS hL)
theorem x_if_le {x : Int32} {off : Int} {tgt : Nat} (hd : decode (cM k) pc = .ok (.ifCond .le off, 3)) (ht : (pc : Int) + off = (tgt : Int)) (kt : x ≤ 0 → X k Q bc bs tgt L rest h) (kf : ¬ x ≤ 0 → X k Q bc bs (pc + 3) L rest h) : X k Q bc bs pc L (.int x :: rest) h := by
  intro l D cA B p e R s m args below meth c H locs cells slots ls hC hc hs hB hRep hS hL
  exact lv_if_le hC.1 hC.2.1 hd ht (fun q => kt q l D cA B p e R s m args below meth c H locs cells slots ls hC hc hs hB hRep hS hL) (fun q => kf q l D cA B p e R s m args below meth c H locs cells slots ls hC hc hs hB hRep hS hL)
theorem x_icmp_le {x y : Int32} {off : Int} {tgt : Nat} (hd : decode (cM k) pc = .ok (.if_icmp .le off, 3)) (ht : (pc : Int) + off = (tgt : Int)) (kt : x ≤ y → X k Q bc bs tgt L rest h) (kf : ¬ x ≤ y → X k Q bc bs (pc + 3) L rest h) : X k Q bc bs pc L (.int y :: .int x :: rest) h := by
  intro l D cA B p e R s m args below meth c H locs cells slots ls hC hc hs hB hRep hS hL
  exact lv_icmp_le hC.1 hC.2.1 hd ht (fun q => kt q l D cA B p e R s m args below meth c H locs cells slots ls hC hc hs hB hRep hS hL) (fun q => kf q l D cA B p e R s m args below meth c H locs cells slots ls hC hc hs hB hRep hS hL)
theorem x_goto {off : Int} {tgt : Nat} (hd : decode (cM k) pc = .ok (.goto off, 3)) (ht : (pc : Int) + off = (tgt : Int)) (nx : X k Q bc bs tgt L rest h) : X k Q bc bs pc L rest h := by
  intro l D cA B p e R s m args below meth c H locs cells slots ls hC hc hs hB hRep hS hL
  exact lv_goto hC.1 hC.2.1 hd ht (nx l D cA B p e R s m args below meth c H locs cells slots ls hC hc hs hB hRep hS hL)
theorem x_ifnull {a : Nat} {off : Int} (hd : decode (cM k) pc = .ok (.ifnull off, 3)) (nx : X k Q bc bs (pc + 3) L rest h) : X k Q bc bs pc L (.ref a :: rest) h := by
  intro l D cA B p e R s m args below meth c H locs cells slots ls hC hc hs hB hRep hS hL
  exact lv_ifnull hC.1 hC.2.1 hd (nx l D cA B p e R s m args below meth c H locs cells slots ls hC hc hs hB hRep hS hL)
theorem x_ifnullN {off : Int} {tgt : Nat} (hd : decode (cM k) pc = .ok (.ifnull off, 3)) (ht : (pc : Int) + off = (tgt : Int)) (nx : X k Q bc bs tgt L rest h) : X k Q bc bs pc L (.null :: rest) h := by
  intro l D cA B p e R s m args below meth c H locs cells slots ls hC hc hs hB hRep hS hL
  exact lv_ifnullN hC.1 hC.2.1 hd ht (nx l D cA B p e R s m args below meth c H locs cells slots ls hC hc hs hB hRep hS hL)
theorem x_ifnonnull {a : Nat} {off : Int} {tgt : Nat} (hd : decode (cM k) pc = .ok (.ifnonnull off, 3)) (ht : (pc : Int) + off = (tgt : Int)) (nx : X k Q bc bs tgt L rest h) : X k Q bc bs pc L (.ref a :: rest) h := by
  intro l D cA B p e R s m args below meth c H locs cells slots ls hC hc hs hB hRep hS hL
  exact lv_ifnonnull hC.1 hC.2.1 hd ht (nx l D cA B p e R s m args below meth c H locs cells slots ls hC hc hs hB hRep hS hL)
theorem x_ifnonnullN {off : Int} (hd : decode (cM k) pc = .ok (.ifnonnull off, 3)) (nx : X k Q bc bs (pc + 3) L rest h) : X k Q bc bs pc L (.null :: rest) h := by
  intro l D cA B p e R s m args below meth c H locs cells slots ls hC hc hs hB hRep hS hL
  exact lv_ifnonnullN hC.1 hC.2.1 hd (nx l D cA B p e R s m args below meth c H locs cells slots ls hC hc hs hB hRep hS hL)
theorem x_ldc2 {idx : Nat} {v : Int64} (hd : decode (cM k) pc = .ok (.ldc2_w idx, 3)) (hw : Cond.constantLong (cn (owM k)) idx v ∈ TB) (nx : X k Q bc bs (pc + 3) L (.long v :: rest) h) : X k Q bc bs pc L rest h := by
  intro l D cA B p e R s m args below meth c H locs cells slots ls hC hc hs hB hRep hS hL
  exact lv_ldc2 hC.1 hC.2.1 hC.2.2.2.2.1 (hC.2.2.2.2.2.1 _ hw) hd (nx l D cA B p e R s m args below meth c H locs cells slots ls hC hc hs hB hRep hS hL)
theorem x_objInit {idx a : Nat} (hd : decode (cM k) pc = .ok (.invokespecial idx, 3)) (hw : Cond.methodLink (cn (owM k)) idx objectInit ∈ TB) (h1 : Cond.instanceMethod objectInit ∈ TB) (h2 : Cond.code objectInit ⟨#[0xb1]⟩ 1 none ∈ TB) (hf : 1 ≤ frM k) (hw2 : 20 ≤ lwM k) (hr : (rest.map fun v => v.category).sum ≤ 8) (nx : X k Q bc bs (pc + 3) L rest h) : X k Q bc bs pc L (.ref a :: rest) h := by
  intro l D cA B p e R s m args below meth c H locs cells slots ls hC hc hs hB hRep hS hL
  obtain ⟨x1, x2, x3, x4, x5, x6, x7, x8, x9, x10, x11, x12⟩ := id hC
  have hr2 := lv_room (m := m) (pc := pc) (ls := ls) (rest := (Value.ref a :: rest).map (tr B)) (st := rest.map (tr B)) (by rw [tr_cats]; exact hr)
  refine W.objInit x1 x2 x5 (x6 _ hw) (x6 _ h1) (x6 _ h2) rfl (by rw [x4]; exact hL.2.1) (a := B + a) (rest := rest.map (tr B)) rfl hd (by omega) (by have := hr2; omega) ?_
  exact nx l D cA B p e R s m args below meth c H locs cells slots ls hC hc hs hB hRep hS hL
theorem x_ret_i {v : Int32} (hd : decode (cM k) pc = .ok (.ireturn, 1)) (hr : rtM k = some .int) (nx : Q (some (.int v)) h) : X k Q bc bs pc L [.int v] h := by
  intro l D cA B p e R s m args below meth c H locs cells slots ls hC hc hs hB hRep hS hL
  have hlocks := hC.2.2.2.2.2.2.1
  refine W.widen (k := R.cells) (n := R.slots) (by omega) (by omega) ?_
  exact W.iret (v := v) hC.1 hC.2.1 (by rw [hC.2.2.1]; exact hr) (fun t ht hW => ⟨⟨some (.int v), h, rfl, nx, by rw [ht]; exact hRep⟩, hS.F ht⟩) hS.2.2 hd
theorem x_ret_z {v : Int32} (hd : decode (cM k) pc = .ok (.ireturn, 1)) (hr : rtM k = some .boolean) (hv : v = 0 ∨ v = 1) (nx : Q (some (.int v)) h) : X k Q bc bs pc L [.int v] h := by
  intro l D cA B p e R s m args below meth c H locs cells slots ls hC hc hs hB hRep hS hL
  have hlocks := hC.2.2.2.2.2.2.1
  refine W.widen (k := R.cells) (n := R.slots) (by omega) (by omega) ?_
  exact W.zret (v := v) (ty := .boolean) hC.1 hC.2.1 (by rw [hC.2.2.1]; exact hr) (by rcases hv with rfl | rfl <;> decide +kernel) (fun t ht hW => ⟨⟨some (.int v), h, rfl, nx, by rw [ht]; exact hRep⟩, hS.F ht⟩) hS.2.2 hd
theorem x_ret_l {v : Int64} (hd : decode (cM k) pc = .ok (.lreturn, 1)) (hr : rtM k = some .long) (nx : Q (some (.long v)) h) : X k Q bc bs pc L [.long v] h := by
  intro l D cA B p e R s m args below meth c H locs cells slots ls hC hc hs hB hRep hS hL
  have hlocks := hC.2.2.2.2.2.2.1
  refine W.widen (k := R.cells) (n := R.slots) (by omega) (by omega) ?_
  exact W.lret (v := v) hC.1 hC.2.1 (by rw [hC.2.2.1]; exact hr) (fun t ht hW => ⟨⟨some (.long v), h, rfl, nx, by rw [ht]; exact hRep⟩, hS.F ht⟩) hS.2.2 hd
theorem x_ret_v (hd : decode (cM k) pc = .ok (.return_, 1)) (hr : rtM k = none) (nx : Q none h) : X k Q bc bs pc L [] h := by
  intro l D cA B p e R s m args below meth c H locs cells slots ls hC hc hs hB hRep hS hL
  have hlocks := hC.2.2.2.2.2.2.1
  refine W.widen (k := R.cells) (n := R.slots) (by omega) (by omega) ?_
  exact W.vret hC.1 hC.2.1 (by rw [hC.2.2.1]; exact hr) (fun t ht hW => ⟨⟨none, h, rfl, nx, by rw [ht]; exact hRep⟩, hS.F ht⟩) hS.2.2 hd
theorem x_ret_a {r : Option Nat} (hd : decode (cM k) pc = .ok (.areturn, 1)) (hr : isRT (rtM k) = true) (nx : Q (some (va_rf r)) h) : X k Q bc bs pc L [va_rf r] h := by
  intro l D cA B p e R s m args below meth c H locs cells slots ls hC hc hs hB hRep hS hL
  have hlocks := hC.2.2.2.2.2.2.1
  refine W.widen (k := R.cells) (n := R.slots) (by omega) (by omega) ?_
  cases hrt : rtM k with
  | none => rw [hrt] at hr; cases hr
  | some ty =>
    rw [hrt] at hr
    cases ty with
    | object nm => exact W.aret (v := tr B (va_rf r)) (rt := .object nm) hC.1 hC.2.1 (by rw [hC.2.2.1]; exact hrt) (Or.inl ⟨nm, rfl⟩) (by cases r <;> simp [va_rf, tr]) (fun t ht hW => ⟨⟨some (va_rf r), h, rfl, nx, by rw [ht]; exact hRep⟩, hS.F ht⟩) hS.2.2 hd
    | _ => cases hr
end XR
