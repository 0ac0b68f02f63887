/-! One step as a condition on the state, and the step's soundness. -/
def oI (o : Option Value) (f : Int32 → Prop) : Prop := match o with | some (.int x) => f x | _ => False
def oL (o : Option Value) (f : Int64 → Prop) : Prop := match o with | some (.long x) => f x | _ => False
def oA (o : Option Value) (f : Value → Prop) : Prop := match o with | some (.ref x) => f (.ref x) | some .null => f .null | _ => False
def tI (st : List Value) (f : Int32 → List Value → Prop) : Prop := match st with | .int x :: r => f x r | _ => False
def tL (st : List Value) (f : Int64 → List Value → Prop) : Prop := match st with | .long x :: r => f x r | _ => False
def tR (st : List Value) (f : Nat → List Value → Prop) : Prop := match st with | .ref x :: r => f x r | _ => False
def tA (st : List Value) (f : Value → List Value → Prop) : Prop := match st with | .ref x :: r => f (.ref x) r | .null :: r => f .null r | _ => False
def tII (st : List Value) (f : Int32 → Int32 → List Value → Prop) : Prop := match st with | .int y :: .int x :: r => f x y r | _ => False
def tLL (st : List Value) (f : Int64 → Int64 → List Value → Prop) : Prop := match st with | .long y :: .long x :: r => f x y r | _ => False
theorem oI_e {o : Option Value} {f : Int32 → Prop} (h : oI o f) : ∃ x, o = some (.int x) ∧ f x := by unfold oI at h; split at h <;> first | exact ⟨_, rfl, h⟩ | cases h
theorem oL_e {o : Option Value} {f : Int64 → Prop} (h : oL o f) : ∃ x, o = some (.long x) ∧ f x := by unfold oL at h; split at h <;> first | exact ⟨_, rfl, h⟩ | cases h
theorem oA_e {o : Option Value} {f : Value → Prop} (h : oA o f) : (∃ x, o = some (.ref x) ∧ f (.ref x)) ∨ (o = some .null ∧ f .null) := by unfold oA at h; split at h <;> first | exact Or.inl ⟨_, rfl, h⟩ | exact Or.inr ⟨rfl, h⟩ | cases h
theorem tI_e {st : List Value} {f : Int32 → List Value → Prop} (h : tI st f) : ∃ x r, st = .int x :: r ∧ f x r := by unfold tI at h; split at h <;> first | exact ⟨_, _, rfl, h⟩ | cases h
theorem tL_e {st : List Value} {f : Int64 → List Value → Prop} (h : tL st f) : ∃ x r, st = .long x :: r ∧ f x r := by unfold tL at h; split at h <;> first | exact ⟨_, _, rfl, h⟩ | cases h
theorem tR_e {st : List Value} {f : Nat → List Value → Prop} (h : tR st f) : ∃ x r, st = .ref x :: r ∧ f x r := by unfold tR at h; split at h <;> first | exact ⟨_, _, rfl, h⟩ | cases h
theorem tA_e {st : List Value} {f : Value → List Value → Prop} (h : tA st f) : (∃ x r, st = .ref x :: r ∧ f (.ref x) r) ∨ ∃ r, st = .null :: r ∧ f .null r := by unfold tA at h; split at h <;> first | exact Or.inl ⟨_, _, rfl, h⟩ | exact Or.inr ⟨_, rfl, h⟩ | cases h
theorem tII_e {st : List Value} {f : Int32 → Int32 → List Value → Prop} (h : tII st f) : ∃ x y r, st = .int y :: .int x :: r ∧ f x y r := by unfold tII at h; split at h <;> first | exact ⟨_, _, _, rfl, h⟩ | cases h
theorem tLL_e {st : List Value} {f : Int64 → Int64 → List Value → Prop} (h : tLL st f) : ∃ x y r, st = .long y :: .long x :: r ∧ f x y r := by unfold tLL at h; split at h <;> first | exact ⟨_, _, _, rfl, h⟩ | cases h
def c1 (c : ClassFile.Cond) (x : Int32) (S T : Prop) : Prop := match c with
  | .eq => (x = 0 → S) ∧ (¬ x = 0 → T)
  | .ne => (¬ x = 0 → S) ∧ (x = 0 → T)
  | .lt => (x < 0 → S) ∧ (¬ x < 0 → T)
  | .ge => (0 ≤ x → S) ∧ (¬ 0 ≤ x → T)
  | .gt => (0 < x → S) ∧ (¬ 0 < x → T)
  | .le => (x ≤ 0 → S) ∧ (¬ x ≤ 0 → T)
def c2 (c : ClassFile.Cond) (x y : Int32) (S T : Prop) : Prop := match c with
  | .eq => (x = y → S) ∧ (¬ x = y → T)
  | .ne => (¬ x = y → S) ∧ (x = y → T)
  | .lt => (x < y → S) ∧ (¬ x < y → T)
  | .ge => (y ≤ x → S) ∧ (¬ y ≤ x → T)
  | .gt => (y < x → S) ∧ (¬ y < x → T)
  | .le => (x ≤ y → S) ∧ (¬ x ≤ y → T)
def okr (r : List Value) : Prop := Nat.ble ((r.map fun v => v.category).sum) 8 = true
def gF (z : Nat) (r : Option Nat) (i : Int32) (j : Int64) (f : Value → Prop) : Prop := match z with
  | 0 => f (.int i)
  | 1 => f (.long j)
  | 3 => f (.int i)
  | _ => ∃ o, r = o ∧ f (va_rf o)
def pF (z c j : Nat) (h : HP) (st : List Value) (f : List Value → HP → Prop) : Prop := match z with
  | 0 => match st with | .int v :: .ref a :: r => kd h a = c ∧ f r (sI h a j v) | _ => False
  | 1 => match st with | .long v :: .ref a :: r => kd h a = c ∧ f r (sJ h a j v) | _ => False
  | 3 => match st with | .int v :: .ref a :: r => kd h a = c ∧ (v = 0 ∨ v = 1) ∧ f r (sI h a j v) | _ => False
  | _ => match st with | .ref b :: .ref a :: r => kd h a = c ∧ f r (sR h a j (some b)) | .null :: .ref a :: r => kd h a = c ∧ f r (sR h a j none) | _ => False
def popn : Nat → List Value → List Value → Option (List Value × List Value)
  | 0, acc, st => some (acc, st)
  | n + 1, acc, v :: st => popn n (v :: acc) st
  | _ + 1, _, [] => none
theorem popn_e : ∀ (n : Nat) (acc st as r : List Value), popn n acc st = some (as, r) → ∃ b, as = b ++ acc ∧ st = b.reverse ++ r ∧ b.length = n
  | 0, acc, st, as, r, h => by simp [popn] at h; exact ⟨[], by simp [h.1], by simp [h.2], rfl⟩
  | n + 1, acc, [], as, r, h => by simp [popn] at h
  | n + 1, acc, v :: st, as, r, h => by
    obtain ⟨b, h1, h2, h3⟩ := popn_e n (v :: acc) st as r (by simpa [popn] using h)
    exact ⟨b ++ [v], by simp [h1], by simp [h2], by simp [h3]⟩
def tsw (pc : Nat) (F : Nat → Prop) (x : Int32) (d : Int) : Int → List Int → Prop
  | _, [] => F ((pc : Int) + d).toNat
  | lo, o :: t => (x = Int32.ofInt lo → F ((pc : Int) + o).toNat) ∧ (¬ x = Int32.ofInt lo → tsw pc F x d (lo + 1) t)
def lsw (pc : Nat) (F : Nat → Prop) (x : Int32) (d : Int) : List (Int × Int) → Prop
  | [] => F ((pc : Int) + d).toNat
  | q :: t => (x = Int32.ofInt q.1 → F ((pc : Int) + q.2).toNat) ∧ (¬ x = Int32.ofInt q.1 → lsw pc F x d t)
theorem ofInt_toInt {z : Int} (h1 : -200000 ≤ z) (h2 : z ≤ 200000) : (Int32.ofInt z).toInt = z := Int32.toInt_ofInt_of_le (by omega) (by omega)
theorem eq_ofInt {x : Int32} {z : Int} (h1 : -200000 ≤ z) (h2 : z ≤ 200000) : x = Int32.ofInt z ↔ x.toInt = z := by
  rw [← Int32.toInt_inj, ofInt_toInt h1 h2]
theorem tsw_e {pc : Nat} {F : Nat → Prop} {x : Int32} {d : Int} : ∀ (t : List Int) (lo : Int), -1000 ≤ lo → lo + t.length ≤ 2000 → tsw pc F x d lo t → (x.toInt < lo ∨ lo + t.length ≤ x.toInt → F ((pc : Int) + d).toNat) ∧ ∀ (j : Nat) (o : Int), t[j]? = some o → x.toInt = lo + j → F ((pc : Int) + o).toNat
  | [], lo, _, _, h => ⟨fun _ => h, fun j o hj => by simp at hj⟩
  | o :: t, lo, h1, h2, h => by
    have hlen : ((o :: t).length : Int) = t.length + 1 := by simp
    rw [hlen] at h2 ⊢
    by_cases hx : x.toInt = lo
    · refine ⟨fun q => by omega, fun j o' hj hj2 => ?_⟩
      have hj0 : j = 0 := by omega
      subst hj0
      simp at hj
      subst hj
      exact h.1 ((eq_ofInt (by omega) (by omega)).mpr hx)
    · have ih := tsw_e t (lo + 1) (by omega) (by omega) (h.2 (fun q => hx ((eq_ofInt (by omega) (by omega)).mp q)))
      refine ⟨fun q => ih.1 (by omega), fun j o' hj hj2 => ?_⟩
      cases j with
      | zero => exact absurd (by simpa using hj2) hx
      | succ j => exact ih.2 j o' (by simpa using hj) (by rw [hj2]; push_cast; omega)
theorem lsw_e {pc : Nat} {F : Nat → Prop} {x : Int32} {d : Int} : ∀ (t : List (Int × Int)), (t.all fun o => decide (-100000 ≤ o.1) && decide (o.1 ≤ 100000)) = true → lsw pc F x d t → F ((pc : Int) + Op.lookupswitch.offset t d x.toInt).toNat
  | [], _, h => h
  | q :: t, ha, h => by
    simp only [List.all_cons, Bool.and_eq_true, decide_eq_true_eq] at ha
    by_cases hx : x.toInt = q.1
    · have h1 := h.1 ((eq_ofInt (by omega) (by omega)).mpr hx)
      have e : Op.lookupswitch.offset (q :: t) d x.toInt = q.2 := by simp [Op.lookupswitch.offset, hx]
      rw [e]
      exact h1
    · have ih := lsw_e t ha.2 (h.2 (fun q => hx ((eq_ofInt (by omega) (by omega)).mp q)))
      have e : Op.lookupswitch.offset (q :: t) d x.toInt = Op.lookupswitch.offset t d x.toInt := by
        obtain ⟨q1, q2⟩ := q
        have hx2 : ¬ q1 = x.toInt := fun w => hx w.symm
        simp [Op.lookupswitch.offset, hx2, show ¬ x.toInt = q1 from hx]
      rw [e]
      exact ih
noncomputable def cal (k1 bc bs : Nat) (as r : List Value) (h : HP) (F : Nat → Nat → List Value → HP → Prop) : Prop :=
  okr r ∧ Nat.ble (lay as).length (mxl k1) = true ∧ cel k1 ≤ bc ∧ slo k1 ≤ bs ∧ X k1 (fun v h1 => F (bc - cel k1) (bs - slo k1) (v.toList ++ r) h1) (cel k1) (slo k1) 0 (ini (mxl k1) as) [] h
noncomputable def XStep (k : Nat) (Q : Option Value → HP → Prop) (P : Nat → Nat → Nat → List Value → List Value → HP → Prop) (bc bs pc : Nat) (L st : List Value) (h : HP) : Prop :=
  match cd k pc with
  | none => False
  | some (i, a, b, z, v, w) => match i with
    | .iconst _ => P bc bs (pc + 1) L (.int v :: st) h
    | .bipush _ => P bc bs (pc + 2) L (.int v :: st) h
    | .sipush _ => P bc bs (pc + 3) L (.int v :: st) h
    | .lconst _ => P bc bs (pc + 1) L (.long w :: st) h
    | .ldc2_w _ => P bc bs (pc + 3) L (.long w :: st) h
    | .aconst_null => P bc bs (pc + 1) L (.null :: st) h
    | .iload_n j => oI (L[(j : Nat)]?) fun x => P bc bs (pc + 1) L (.int x :: st) h
    | .iload j => oI (L[j]?) fun x => P bc bs (pc + 2) L (.int x :: st) h
    | .lload_n j => oL (L[(j : Nat)]?) fun x => P bc bs (pc + 1) L (.long x :: st) h
    | .lload j => oL (L[j]?) fun x => P bc bs (pc + 2) L (.long x :: st) h
    | .aload_n j => oA (L[(j : Nat)]?) fun x => P bc bs (pc + 1) L (x :: st) h
    | .aload j => oA (L[j]?) fun x => P bc bs (pc + 2) L (x :: st) h
    | .istore_n j => tI st fun x r => P bc bs (pc + 1) (st1 L (j : Nat) (.int x)) r h
    | .istore j => tI st fun x r => P bc bs (pc + 2) (st1 L j (.int x)) r h
    | .lstore_n j => tL st fun x r => P bc bs (pc + 1) (st2 L (j : Nat) (.long x)) r h
    | .lstore j => tL st fun x r => P bc bs (pc + 2) (st2 L j (.long x)) r h
    | .astore_n j => tA st fun x r => P bc bs (pc + 1) (st1 L (j : Nat) x) r h
    | .astore j => tA st fun x r => P bc bs (pc + 2) (st1 L j x) r h
    | .iinc j _ => oI (L[j]?) fun x => P bc bs (pc + 3) (st1 L j (.int (x + v))) st h
    | .iadd => tII st fun x y r => P bc bs (pc + 1) L (.int (x + y) :: r) h
    | .isub => tII st fun x y r => P bc bs (pc + 1) L (.int (x - y) :: r) h
    | .imul => tII st fun x y r => P bc bs (pc + 1) L (.int (x * y) :: r) h
    | .iand => tII st fun x y r => P bc bs (pc + 1) L (.int (x &&& y) :: r) h
    | .idiv => tII st fun x y r => ¬ y = 0 ∧ P bc bs (pc + 1) L (.int (x / y) :: r) h
    | .irem => tII st fun x y r => ¬ y = 0 ∧ P bc bs (pc + 1) L (.int (x - x / y * y) :: r) h
    | .ladd => tLL st fun x y r => P bc bs (pc + 1) L (.long (x + y) :: r) h
    | .lsub => tLL st fun x y r => P bc bs (pc + 1) L (.long (x - y) :: r) h
    | .lmul => tLL st fun x y r => P bc bs (pc + 1) L (.long (x * y) :: r) h
    | .land => tLL st fun x y r => P bc bs (pc + 1) L (.long (x &&& y) :: r) h
    | .lor => tLL st fun x y r => P bc bs (pc + 1) L (.long (x ||| y) :: r) h
    | .ldiv => tLL st fun x y r => ¬ y = 0 ∧ P bc bs (pc + 1) L (.long (x / y) :: r) h
    | .lrem => tLL st fun x y r => ¬ y = 0 ∧ P bc bs (pc + 1) L (.long (x - x / y * y) :: r) h
    | .lcmp => tLL st fun x y r => P bc bs (pc + 1) L (.int (lg_cmp x y) :: r) h
    | .lneg => tL st fun x r => P bc bs (pc + 1) L (.long (-x) :: r) h
    | .lshl => tI st fun y r => tL r fun x r2 => P bc bs (pc + 1) L (.long (x <<< (y.toInt64 &&& 63)) :: r2) h
    | .i2l => tI st fun x r => P bc bs (pc + 1) L (.long x.toInt64 :: r) h
    | .i2b => tI st fun x r => P bc bs (pc + 1) L (.int x.toInt8.toInt32 :: r) h
    | .i2s => tI st fun x r => P bc bs (pc + 1) L (.int x.toInt16.toInt32 :: r) h
    | .dup => tR st fun x r => P bc bs (pc + 1) L (.ref x :: .ref x :: r) h
    | .ifCond c _ => tI st fun x r => c1 c x (P bc bs a L r h) (P bc bs (pc + 3) L r h)
    | .if_icmp c _ => tII st fun x y r => c2 c x y (P bc bs a L r h) (P bc bs (pc + 3) L r h)
    | .goto _ => P bc bs a L st h
    | .ifnull _ => match st with | .ref _ :: r => P bc bs (pc + 3) L r h | .null :: r => P bc bs a L r h | _ => False
    | .ifnonnull _ => match st with | .ref _ :: r => P bc bs a L r h | .null :: r => P bc bs (pc + 3) L r h | _ => False
    | .getfield _ => tR st fun x r => kd h x = a ∧ gF z.toNat (hR h x b) (hI h x b) (hJ h x b) fun y => P bc bs (pc + 3) L (y :: r) h
    | .putfield _ => pF z.toNat a b h st fun r h1 => P bc bs (pc + 3) L r h1
    | .iaload => tI st fun i r => tR r fun x r2 => kd h x = 10 ∧ vp_in i (zl h x) ∧ P bc bs (pc + 1) L (.int (hI h x i.toNatClampNeg) :: r2) h
    | .laload => tI st fun i r => tR r fun x r2 => kd h x = 11 ∧ vp_in i (zl h x) ∧ P bc bs (pc + 1) L (.long (hJ h x i.toNatClampNeg) :: r2) h
    | .baload => tI st fun i r => tR r fun x r2 => kd h x = 12 ∧ vp_in i (zl h x) ∧ P bc bs (pc + 1) L (.int (hI h x i.toNatClampNeg) :: r2) h
    | .aaload => tI st fun i r => tR r fun x r2 => 13 ≤ kd h x ∧ kd h x < 17 ∧ vp_in i (zl h x) ∧ ∃ o, hR h x i.toNatClampNeg = o ∧ P bc bs (pc + 1) L (va_rf o :: r2) h
    | .iastore => tI st fun y r0 => tI r0 fun i r => tR r fun x r2 => kd h x = 10 ∧ vp_in i (zl h x) ∧ P bc bs (pc + 1) L r2 (sI h x i.toNatClampNeg y)
    | .lastore => tL st fun y r0 => tI r0 fun i r => tR r fun x r2 => kd h x = 11 ∧ vp_in i (zl h x) ∧ P bc bs (pc + 1) L r2 (sJ h x i.toNatClampNeg y)
    | .bastore => tI st fun y r0 => tI r0 fun i r => tR r fun x r2 => kd h x = 12 ∧ vp_in i (zl h x) ∧ (y = 0 ∨ y = 1) ∧ P bc bs (pc + 1) L r2 (sI h x i.toNatClampNeg y)
    | .aastore => tR st fun y r0 => tI r0 fun i r => tR r fun x r2 => akd (kd h x) (kd h y) ∧ vp_in i (zl h x) ∧ P bc bs (pc + 1) L r2 (sR h x i.toNatClampNeg (some y))
    | .arraylength => tR st fun x r => kd h x = 10 ∧ P bc bs (pc + 1) L (.int (Int32.ofNat (zl h x)) :: r) h
    | .new _ => 1 ≤ bc ∧ nfl a ≤ bs ∧ P (bc - 1) (bs - nfl a) (pc + 3) L (.ref h.1.length :: st) (nw h a 0)
    | .newarray _ => tI st fun n r => ¬ n < 0 ∧ n.toNatClampNeg ≤ 1000 ∧ 1 ≤ bc ∧ n.toNatClampNeg ≤ bs ∧ P (bc - 1) (bs - n.toNatClampNeg) (pc + 2) L (.ref h.1.length :: r) (nw h a n.toNatClampNeg)
    | .anewarray _ => tI st fun n r => ¬ n < 0 ∧ n.toNatClampNeg ≤ 1000 ∧ 1 ≤ bc ∧ n.toNatClampNeg ≤ bs ∧ P (bc - 1) (bs - n.toNatClampNeg) (pc + 3) L (.ref h.1.length :: r) (nw h a n.toNatClampNeg)
    | .invokestatic _ => match z.toNat with
      | 5 => match a with
        | 0 => tL st fun x r => okr r ∧ P bc bs (pc + 3) L (.long (if 0 < x then x else -x) :: r) h
        | 1 => tII st fun x y r => okr r ∧ P bc bs (pc + 3) L (.int (if x < y then y else x) :: r) h
        | 2 => tLL st fun x y r => okr r ∧ P bc bs (pc + 3) L (.long (if y < x then x else y) :: r) h
        | _ => tII st fun x y r => okr r ∧ P bc bs (pc + 3) L (.int (if y < x then y else x) :: r) h
      | _ => match popn b [] st with
        | some (as, r) => cal a bc bs as r h fun bc2 bs2 st2 h2 => P bc2 bs2 (pc + 3) L st2 h2
        | none => False
    | .invokevirtual _ => match popn b [] st with
      | some (as, .ref x :: r) => kd h x = owM a ∧ cal a bc bs (.ref x :: as) r h fun bc2 bs2 st2 h2 => P bc2 bs2 (pc + 3) L st2 h2
      | _ => False
    | .invokespecial _ => match Nat.beq a 999 with
      | true => tR st fun _ r => okr r ∧ P bc bs (pc + 3) L r h
      | false => match popn b [] st with
        | some (as, .ref x :: r) => cal a bc bs (.ref x :: as) r h fun bc2 bs2 st2 h2 => P bc2 bs2 (pc + 3) L st2 h2
        | _ => False
    | .ireturn => match a with
      | 0 => match st with | [.int x] => Q (some (.int x)) h | _ => False
      | _ => match st with | [.int x] => (x = 0 ∨ x = 1) ∧ Q (some (.int x)) h | _ => False
    | .lreturn => match st with | [.long x] => Q (some (.long x)) h | _ => False
    | .return_ => match st with | [] => Q none h | _ => False
    | .areturn => match st with | [.ref x] => Q (some (.ref x)) h | [.null] => Q (some .null) h | _ => False
    | .tableswitch d lo _ offs => tI st fun x r => tsw pc (fun t => P bc bs t L r h) x d lo offs.toList
    | .lookupswitch d ps => tI st fun x r => lsw pc (fun t => P bc bs t L r h) x d ps.toList
    | _ => False
def fg : List Value → List Value → Prop
  | [], [] => True
  | a :: s, b :: t => (b = a ∨ b = UU) ∧ fg s t
  | _, _ => False
theorem fg_e : ∀ (s t : List Value), fg s t → s.length = t.length ∧ ∀ (i : Nat) (v : Value), t[i]? = some v → v ≠ UU → s[i]? = some v
  | [], [], _ => ⟨rfl, fun i v h _ => h⟩
  | a :: s, b :: t, h => by
    obtain ⟨h1, h2⟩ := fg_e s t h.2
    refine ⟨by simp [h1], fun i v hv hu => ?_⟩
    cases i with
    | zero =>
      simp at hv
      rcases h.1 with q | q
      · simp [← q, hv]
      · exact absurd (hv.symm.trans q) hu
    | succ i => simpa using h2 i v (by simpa using hv) hu
  | [], _ :: _, h => h.elim
  | _ :: _, [], h => h.elim
theorem X_fg {k bc bs pc : Nat} {Q : Option Value → HP → Prop} {L L' st : List Value} {h : HP} (hf : fg L L') (nx : X k Q bc bs pc L' st h) : X k Q bc bs pc L st h := by
  intro l D cA B p e R s m args below meth c H locs cells slots ls hC hc hs hB hRep hS hL
  obtain ⟨h1, h2⟩ := fg_e L L' hf
  refine nx l D cA B p e R s m args below meth c H locs cells slots ls hC hc hs hB hRep hS ⟨by rw [← h1]; exact hL.1, hL.2.1, hL.2.2.1, fun q hq => ?_⟩
  obtain ⟨v, e1, e2, e3⟩ := lvL_mem.mp hq
  exact hL.2.2.2 q (lvL_mem.mpr ⟨v, h2 q.1 v e1 e2, e2, e3⟩)
