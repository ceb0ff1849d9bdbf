/-! What holds while a method runs. -/
def xm_ts : FieldType → Nat
  | .int => 0
  | .boolean => 3
  | .long => 1
  | .object _ => 2
  | .array _ => 2
  | _ => 9
/-- what holds of the classes -/
def xm_CK (T : List Cond) (cl : List vw_C) : Prop := ∀ (ci : Nat) (C : String) (TT : u_T) (N : Nat), cl[ci]? = some (C, TT, N) → (∀ w ∈ u_ws C TT N, w ∈ T) ∧ (∃ ty0 : Nat → FieldType, (∀ k, k < N → parseFieldDescriptor (TT k).2.2.1 = some (ty0 k)) ∧ ∀ k, k < N → xm_ts (ty0 k) = xm_ds (TT k).2.2.1) ∧ ∀ a, a < N → ∀ b, b < N → a ≠ b → (TT a).2.1 ≠ (TT b).2.1
/-- the words of System.arraycopy and of Math -/
def xm_AC (T : List Cond) : Prop := (Cond.native arraycopyName ∈ T ∧ Cond.static arraycopyName ∈ T ∧ Cond.initialized "java/lang/System" ∈ T) ∧ Cond.initialized "java/lang/Math" ∈ T ∧ (Cond.static Lib.Math.max.name ∈ T ∧ Cond.code Lib.Math.max.name Lib.Math.max.code 2 (some .int) ∈ T) ∧ (Cond.static Lib.Math.min.name ∈ T ∧ Cond.code Lib.Math.min.name Lib.Math.min.code 2 (some .int) ∈ T) ∧ (Cond.static Lib.Math.abs.name ∈ T ∧ Cond.code Lib.Math.abs.name Lib.Math.abs.code 1 (some .int) ∈ T) ∧ (Cond.static Lib.MathLoose.min_long.x ∈ T ∧ Cond.code Lib.MathLoose.min_long.x Lib.MathLoose.min_long.code 4 (some .long) ∈ T)
/-- what holds while a method's body runs -/
def xm_Env (p : Program) (s : State) (m : MethodId) (args : Array Value) (c : Code) (T0 T : List Cond) (cl : List vw_C) (TX : List (String × Nat × String × Nat)) (X : xm_X) (D : va_G) (cA : Nat → ClassId) (ad : Nat → Nat) (A : Nat → Prop) (own : String) (cc : ByteArray) (nL : Nat) : Prop :=
  p.tables.exec = Jvm.exec ∧ c.code = cc ∧ c.maxLocals = nL ∧ s.vm.findClass own = some m.cls ∧ (∀ w ∈ T, w.before args s = true) ∧ va_K D cl (xm_tys cA) s ∧ xm_Ext X TX ad A s s.heap ∧ xm_CK T cl ∧ xm_AC T ∧ ∀ w ∈ T0, goodWord w = true → w ∈ T
def xm_Wd (cl : List vw_C) (D : va_G) (cA : Nat → ClassId) (ad : Nat → Nat) (A : Nat → Prop) (S : List xm_K) (H : Heap) (h : xm_H) : Prop := va_P D cl (xm_wd cl cA ad S h) H ∧ va_D A (xm_wd cl cA ad S h)
theorem xm_at {T0 T : List Cond} {i : Nat} {w : Cond} {args : Array Value} {s : State} (hts : ∀ w ∈ T, w.before args s = true) (HT : ∀ w ∈ T0, goodWord w = true → w ∈ T) (h : T0[i]? = some w) (hg : goodWord w = true) : w.before args s = true := hts w (HT w (List.mem_of_getElem? h) hg)
