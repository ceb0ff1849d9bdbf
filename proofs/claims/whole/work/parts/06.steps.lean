/-! Each instruction: the machine's step is the bytecode's. -/
section XMS
variable {p : Program} {l : Launch} {e : Env} {R : Room} {s : State} {m : MethodId} {args : Array Value} {below : List Frame} {meth : Method} {c : Code} {H : Heap} {locs : List Loc} {cells slots : Nat} {Q : State → Prop}
variable {T0 T : List Cond} {cl : List vw_C} {TX : List (String × Nat × String × Nat)} {X : xm_X} {D : va_G} {cA : Nat → ClassId} {ad : Nat → Nat} {A : Nat → Prop} {own : String} {cc : ByteArray} {nL : Nat} {co : List xm_I}
variable {pc i : Nat} {ls : xm_L} {st : List Value} {h : xm_H} {LS : Array Slot} {z : xm_N}
/-- how it goes on -/
abbrev xm_C (p : Program) (l : Launch) (e : Env) (R : Room) (s : State) (m : MethodId) (args : Array Value) (below : List Frame) (meth : Method) (c : Code) (cells slots : Nat) (Q : State → Prop) (cl : List vw_C) (X : xm_X) (D : va_G) (cA : Nat → ClassId) (ad : Nat → Nat) (A : Nat → Prop) (nL : Nat) (co : List xm_I) (z : xm_N) : Prop :=
  ∀ (LS' : Array Slot) (H' : Heap) (locs' : List Loc), xm_lh LS' nL ad z.2.1 → xm_Wd cl D cA ad A X.1 H' z.2.2.2 → va_S A s.heap H' locs' → W p l e R s m args below meth c H' locs' cells slots Q (F0 m (xm_np co z.1) LS' (z.2.2.1.map (xm_cv ad)))
theorem xm_ib_inv {f : Int32 → Int32 → Int32} (hz : xm_ib i f ls st h = some z) : ∃ x y r, st = .int y :: .int x :: r ∧ z = (i + 1, ls, .int (f x y) :: r, h) := by
  unfold xm_ib at hz
  split at hz
  · cases hz
    exact ⟨_, _, _, rfl, rfl⟩
  · cases hz
theorem xm_id_inv {f : Int32 → Int32 → Int32} (hz : xm_id i f ls st h = some z) : ∃ x y r, st = .int y :: .int x :: r ∧ ¬ y = 0 ∧ z = (i + 1, ls, .int (f x y) :: r, h) := by
  unfold xm_id at hz
  split at hz
  · split at hz
    · cases hz
    · cases hz
      exact ⟨_, _, _, rfl, ‹_›, rfl⟩
  · cases hz
theorem xm_iu_inv {f : Int32 → Int32} (hz : xm_iu i f ls st h = some z) : ∃ x r, st = .int x :: r ∧ z = (i + 1, ls, .int (f x) :: r, h) := by
  unfold xm_iu at hz
  split at hz
  · cases hz
    exact ⟨_, _, rfl, rfl⟩
  · cases hz
theorem xm_lb_inv {f : Int64 → Int64 → Int64} (hz : xm_lb i f ls st h = some z) : ∃ x y r, st = .long y :: .long x :: r ∧ z = (i + 1, ls, .long (f x y) :: r, h) := by
  unfold xm_lb at hz
  split at hz
  · cases hz
    exact ⟨_, _, _, rfl, rfl⟩
  · cases hz
theorem xm_ld_inv {f : Int64 → Int64 → Int64} (hz : xm_ld i f ls st h = some z) : ∃ x y r, st = .long y :: .long x :: r ∧ ¬ y = 0 ∧ z = (i + 1, ls, .long (f x y) :: r, h) := by
  unfold xm_ld at hz
  split at hz
  · split at hz
    · cases hz
    · cases hz
      exact ⟨_, _, _, rfl, ‹_›, rfl⟩
  · cases hz
theorem xm_lsh_inv {f : Int64 → Int32 → Int64} (hz : xm_lsh i f ls st h = some z) : ∃ x y r, st = .int y :: .long x :: r ∧ z = (i + 1, ls, .long (f x y) :: r, h) := by
  unfold xm_lsh at hz
  split at hz
  · cases hz
    exact ⟨_, _, _, rfl, rfl⟩
  · cases hz
theorem xm_o_iadd (E : xm_Env p s m args c T0 T cl TX X D cA ad A own cc nL) (hd : decode cc pc = .ok (.iadd, 1)) (hn : xm_np co (i + 1) = pc + 1) (hl : xm_lh LS nL ad ls) (hW : xm_Wd cl D cA ad A X.1 H h) (hS : va_S A s.heap H locs) (hz : xm_ib i (fun x y => x + y) ls st h = some z) (kk : xm_C p l e R s m args below meth c cells slots Q cl X D cA ad A nL co z) : W p l e R s m args below meth c H locs cells slots Q (F0 m pc LS (st.map (xm_cv ad))) := by
  obtain ⟨hx, hb, hml, hown, hts, hK, hX, hCK, hAC, HT⟩ := E
  obtain ⟨x, y, r, rfl, rfl⟩ := xm_ib_inv hz
  have k2 := kk LS H locs hl hW hS
  rw [show xm_np co (i + 1) = pc + 1 from hn] at k2
  exact lv_iadd hx hb hd k2
theorem xm_o_isub (E : xm_Env p s m args c T0 T cl TX X D cA ad A own cc nL) (hd : decode cc pc = .ok (.isub, 1)) (hn : xm_np co (i + 1) = pc + 1) (hl : xm_lh LS nL ad ls) (hW : xm_Wd cl D cA ad A X.1 H h) (hS : va_S A s.heap H locs) (hz : xm_ib i (fun x y => x - y) ls st h = some z) (kk : xm_C p l e R s m args below meth c cells slots Q cl X D cA ad A nL co z) : W p l e R s m args below meth c H locs cells slots Q (F0 m pc LS (st.map (xm_cv ad))) := by
  obtain ⟨hx, hb, hml, hown, hts, hK, hX, hCK, hAC, HT⟩ := E
  obtain ⟨x, y, r, rfl, rfl⟩ := xm_ib_inv hz
  have k2 := kk LS H locs hl hW hS
  rw [show xm_np co (i + 1) = pc + 1 from hn] at k2
  exact lv_isub hx hb hd k2
theorem xm_o_imul (E : xm_Env p s m args c T0 T cl TX X D cA ad A own cc nL) (hd : decode cc pc = .ok (.imul, 1)) (hn : xm_np co (i + 1) = pc + 1) (hl : xm_lh LS nL ad ls) (hW : xm_Wd cl D cA ad A X.1 H h) (hS : va_S A s.heap H locs) (hz : xm_ib i (fun x y => x * y) ls st h = some z) (kk : xm_C p l e R s m args below meth c cells slots Q cl X D cA ad A nL co z) : W p l e R s m args below meth c H locs cells slots Q (F0 m pc LS (st.map (xm_cv ad))) := by
  obtain ⟨hx, hb, hml, hown, hts, hK, hX, hCK, hAC, HT⟩ := E
  obtain ⟨x, y, r, rfl, rfl⟩ := xm_ib_inv hz
  have k2 := kk LS H locs hl hW hS
  rw [show xm_np co (i + 1) = pc + 1 from hn] at k2
  exact lv_imul hx hb hd k2
theorem xm_o_iand (E : xm_Env p s m args c T0 T cl TX X D cA ad A own cc nL) (hd : decode cc pc = .ok (.iand, 1)) (hn : xm_np co (i + 1) = pc + 1) (hl : xm_lh LS nL ad ls) (hW : xm_Wd cl D cA ad A X.1 H h) (hS : va_S A s.heap H locs) (hz : xm_ib i (fun x y => x &&& y) ls st h = some z) (kk : xm_C p l e R s m args below meth c cells slots Q cl X D cA ad A nL co z) : W p l e R s m args below meth c H locs cells slots Q (F0 m pc LS (st.map (xm_cv ad))) := by
  obtain ⟨hx, hb, hml, hown, hts, hK, hX, hCK, hAC, HT⟩ := E
  obtain ⟨x, y, r, rfl, rfl⟩ := xm_ib_inv hz
  have k2 := kk LS H locs hl hW hS
  rw [show xm_np co (i + 1) = pc + 1 from hn] at k2
  exact lv_iand hx hb hd k2
theorem xm_o_ior (E : xm_Env p s m args c T0 T cl TX X D cA ad A own cc nL) (hd : decode cc pc = .ok (.ior, 1)) (hn : xm_np co (i + 1) = pc + 1) (hl : xm_lh LS nL ad ls) (hW : xm_Wd cl D cA ad A X.1 H h) (hS : va_S A s.heap H locs) (hz : xm_ib i (fun x y => x ||| y) ls st h = some z) (kk : xm_C p l e R s m args below meth c cells slots Q cl X D cA ad A nL co z) : W p l e R s m args below meth c H locs cells slots Q (F0 m pc LS (st.map (xm_cv ad))) := by
  obtain ⟨hx, hb, hml, hown, hts, hK, hX, hCK, hAC, HT⟩ := E
  obtain ⟨x, y, r, rfl, rfl⟩ := xm_ib_inv hz
  have k2 := kk LS H locs hl hW hS
  rw [show xm_np co (i + 1) = pc + 1 from hn] at k2
  exact lv_ior hx hb hd k2
theorem xm_o_ixor (E : xm_Env p s m args c T0 T cl TX X D cA ad A own cc nL) (hd : decode cc pc = .ok (.ixor, 1)) (hn : xm_np co (i + 1) = pc + 1) (hl : xm_lh LS nL ad ls) (hW : xm_Wd cl D cA ad A X.1 H h) (hS : va_S A s.heap H locs) (hz : xm_ib i (fun x y => x ^^^ y) ls st h = some z) (kk : xm_C p l e R s m args below meth c cells slots Q cl X D cA ad A nL co z) : W p l e R s m args below meth c H locs cells slots Q (F0 m pc LS (st.map (xm_cv ad))) := by
  obtain ⟨hx, hb, hml, hown, hts, hK, hX, hCK, hAC, HT⟩ := E
  obtain ⟨x, y, r, rfl, rfl⟩ := xm_ib_inv hz
  have k2 := kk LS H locs hl hW hS
  rw [show xm_np co (i + 1) = pc + 1 from hn] at k2
  exact lv_ixor hx hb hd k2
theorem xm_o_ishl (E : xm_Env p s m args c T0 T cl TX X D cA ad A own cc nL) (hd : decode cc pc = .ok (.ishl, 1)) (hn : xm_np co (i + 1) = pc + 1) (hl : xm_lh LS nL ad ls) (hW : xm_Wd cl D cA ad A X.1 H h) (hS : va_S A s.heap H locs) (hz : xm_ib i (fun x y => x <<< (y &&& 31)) ls st h = some z) (kk : xm_C p l e R s m args below meth c cells slots Q cl X D cA ad A nL co z) : W p l e R s m args below meth c H locs cells slots Q (F0 m pc LS (st.map (xm_cv ad))) := by
  obtain ⟨hx, hb, hml, hown, hts, hK, hX, hCK, hAC, HT⟩ := E
  obtain ⟨x, y, r, rfl, rfl⟩ := xm_ib_inv hz
  have k2 := kk LS H locs hl hW hS
  rw [show xm_np co (i + 1) = pc + 1 from hn] at k2
  exact lv_ishl hx hb hd k2
theorem xm_o_ishr (E : xm_Env p s m args c T0 T cl TX X D cA ad A own cc nL) (hd : decode cc pc = .ok (.ishr, 1)) (hn : xm_np co (i + 1) = pc + 1) (hl : xm_lh LS nL ad ls) (hW : xm_Wd cl D cA ad A X.1 H h) (hS : va_S A s.heap H locs) (hz : xm_ib i (fun x y => x >>> (y &&& 31)) ls st h = some z) (kk : xm_C p l e R s m args below meth c cells slots Q cl X D cA ad A nL co z) : W p l e R s m args below meth c H locs cells slots Q (F0 m pc LS (st.map (xm_cv ad))) := by
  obtain ⟨hx, hb, hml, hown, hts, hK, hX, hCK, hAC, HT⟩ := E
  obtain ⟨x, y, r, rfl, rfl⟩ := xm_ib_inv hz
  have k2 := kk LS H locs hl hW hS
  rw [show xm_np co (i + 1) = pc + 1 from hn] at k2
  exact lv_ishr hx hb hd k2
theorem xm_o_iushr (E : xm_Env p s m args c T0 T cl TX X D cA ad A own cc nL) (hd : decode cc pc = .ok (.iushr, 1)) (hn : xm_np co (i + 1) = pc + 1) (hl : xm_lh LS nL ad ls) (hW : xm_Wd cl D cA ad A X.1 H h) (hS : va_S A s.heap H locs) (hz : xm_ib i (fun x y => (x.toUInt32 >>> (y.toUInt32 &&& Int32.toUInt32 31)).toInt32) ls st h = some z) (kk : xm_C p l e R s m args below meth c cells slots Q cl X D cA ad A nL co z) : W p l e R s m args below meth c H locs cells slots Q (F0 m pc LS (st.map (xm_cv ad))) := by
  obtain ⟨hx, hb, hml, hown, hts, hK, hX, hCK, hAC, HT⟩ := E
  obtain ⟨x, y, r, rfl, rfl⟩ := xm_ib_inv hz
  have k2 := kk LS H locs hl hW hS
  rw [show xm_np co (i + 1) = pc + 1 from hn] at k2
  exact lv_iushr hx hb hd rfl k2
theorem xm_o_idiv (E : xm_Env p s m args c T0 T cl TX X D cA ad A own cc nL) (hd : decode cc pc = .ok (.idiv, 1)) (hn : xm_np co (i + 1) = pc + 1) (hl : xm_lh LS nL ad ls) (hW : xm_Wd cl D cA ad A X.1 H h) (hS : va_S A s.heap H locs) (hz : xm_id i (fun x y => x / y) ls st h = some z) (kk : xm_C p l e R s m args below meth c cells slots Q cl X D cA ad A nL co z) : W p l e R s m args below meth c H locs cells slots Q (F0 m pc LS (st.map (xm_cv ad))) := by
  obtain ⟨hx, hb, hml, hown, hts, hK, hX, hCK, hAC, HT⟩ := E
  obtain ⟨x, y, r, rfl, hne, rfl⟩ := xm_id_inv hz
  have k2 := kk LS H locs hl hW hS
  rw [show xm_np co (i + 1) = pc + 1 from hn] at k2
  exact lv_idiv hx hb hd hne k2
theorem xm_o_irem (E : xm_Env p s m args c T0 T cl TX X D cA ad A own cc nL) (hd : decode cc pc = .ok (.irem, 1)) (hn : xm_np co (i + 1) = pc + 1) (hl : xm_lh LS nL ad ls) (hW : xm_Wd cl D cA ad A X.1 H h) (hS : va_S A s.heap H locs) (hz : xm_id i (fun x y => x - x / y * y) ls st h = some z) (kk : xm_C p l e R s m args below meth c cells slots Q cl X D cA ad A nL co z) : W p l e R s m args below meth c H locs cells slots Q (F0 m pc LS (st.map (xm_cv ad))) := by
  obtain ⟨hx, hb, hml, hown, hts, hK, hX, hCK, hAC, HT⟩ := E
  obtain ⟨x, y, r, rfl, hne, rfl⟩ := xm_id_inv hz
  have k2 := kk LS H locs hl hW hS
  rw [show xm_np co (i + 1) = pc + 1 from hn] at k2
  exact lv_irem hx hb hd hne k2
theorem xm_o_ineg (E : xm_Env p s m args c T0 T cl TX X D cA ad A own cc nL) (hd : decode cc pc = .ok (.ineg, 1)) (hn : xm_np co (i + 1) = pc + 1) (hl : xm_lh LS nL ad ls) (hW : xm_Wd cl D cA ad A X.1 H h) (hS : va_S A s.heap H locs) (hz : xm_iu i (fun x => -x) ls st h = some z) (kk : xm_C p l e R s m args below meth c cells slots Q cl X D cA ad A nL co z) : W p l e R s m args below meth c H locs cells slots Q (F0 m pc LS (st.map (xm_cv ad))) := by
  obtain ⟨hx, hb, hml, hown, hts, hK, hX, hCK, hAC, HT⟩ := E
  obtain ⟨x, r, rfl, rfl⟩ := xm_iu_inv hz
  have k2 := kk LS H locs hl hW hS
  rw [show xm_np co (i + 1) = pc + 1 from hn] at k2
  exact lv_ineg hx hb hd k2
theorem xm_o_i2b (E : xm_Env p s m args c T0 T cl TX X D cA ad A own cc nL) (hd : decode cc pc = .ok (.i2b, 1)) (hn : xm_np co (i + 1) = pc + 1) (hl : xm_lh LS nL ad ls) (hW : xm_Wd cl D cA ad A X.1 H h) (hS : va_S A s.heap H locs) (hz : xm_iu i (fun x => x.toInt8.toInt32) ls st h = some z) (kk : xm_C p l e R s m args below meth c cells slots Q cl X D cA ad A nL co z) : W p l e R s m args below meth c H locs cells slots Q (F0 m pc LS (st.map (xm_cv ad))) := by
  obtain ⟨hx, hb, hml, hown, hts, hK, hX, hCK, hAC, HT⟩ := E
  obtain ⟨x, r, rfl, rfl⟩ := xm_iu_inv hz
  have k2 := kk LS H locs hl hW hS
  rw [show xm_np co (i + 1) = pc + 1 from hn] at k2
  exact lv_i2b hx hb hd rfl k2
theorem xm_o_i2s (E : xm_Env p s m args c T0 T cl TX X D cA ad A own cc nL) (hd : decode cc pc = .ok (.i2s, 1)) (hn : xm_np co (i + 1) = pc + 1) (hl : xm_lh LS nL ad ls) (hW : xm_Wd cl D cA ad A X.1 H h) (hS : va_S A s.heap H locs) (hz : xm_iu i (fun x => x.toInt16.toInt32) ls st h = some z) (kk : xm_C p l e R s m args below meth c cells slots Q cl X D cA ad A nL co z) : W p l e R s m args below meth c H locs cells slots Q (F0 m pc LS (st.map (xm_cv ad))) := by
  obtain ⟨hx, hb, hml, hown, hts, hK, hX, hCK, hAC, HT⟩ := E
  obtain ⟨x, r, rfl, rfl⟩ := xm_iu_inv hz
  have k2 := kk LS H locs hl hW hS
  rw [show xm_np co (i + 1) = pc + 1 from hn] at k2
  exact lv_i2s hx hb hd rfl k2
theorem xm_o_i2c (E : xm_Env p s m args c T0 T cl TX X D cA ad A own cc nL) (hd : decode cc pc = .ok (.i2c, 1)) (hn : xm_np co (i + 1) = pc + 1) (hl : xm_lh LS nL ad ls) (hW : xm_Wd cl D cA ad A X.1 H h) (hS : va_S A s.heap H locs) (hz : xm_iu i (fun x => (x.toUInt32 % 65536).toInt32) ls st h = some z) (kk : xm_C p l e R s m args below meth c cells slots Q cl X D cA ad A nL co z) : W p l e R s m args below meth c H locs cells slots Q (F0 m pc LS (st.map (xm_cv ad))) := by
  obtain ⟨hx, hb, hml, hown, hts, hK, hX, hCK, hAC, HT⟩ := E
  obtain ⟨x, r, rfl, rfl⟩ := xm_iu_inv hz
  have k2 := kk LS H locs hl hW hS
  rw [show xm_np co (i + 1) = pc + 1 from hn] at k2
  exact lv_i2c hx hb hd rfl k2
theorem xm_o_ladd (E : xm_Env p s m args c T0 T cl TX X D cA ad A own cc nL) (hd : decode cc pc = .ok (.ladd, 1)) (hn : xm_np co (i + 1) = pc + 1) (hl : xm_lh LS nL ad ls) (hW : xm_Wd cl D cA ad A X.1 H h) (hS : va_S A s.heap H locs) (hz : xm_lb i (fun x y => x + y) ls st h = some z) (kk : xm_C p l e R s m args below meth c cells slots Q cl X D cA ad A nL co z) : W p l e R s m args below meth c H locs cells slots Q (F0 m pc LS (st.map (xm_cv ad))) := by
  obtain ⟨hx, hb, hml, hown, hts, hK, hX, hCK, hAC, HT⟩ := E
  obtain ⟨x, y, r, rfl, rfl⟩ := xm_lb_inv hz
  have k2 := kk LS H locs hl hW hS
  rw [show xm_np co (i + 1) = pc + 1 from hn] at k2
  exact lv_ladd hx hb hd k2
theorem xm_o_lsub (E : xm_Env p s m args c T0 T cl TX X D cA ad A own cc nL) (hd : decode cc pc = .ok (.lsub, 1)) (hn : xm_np co (i + 1) = pc + 1) (hl : xm_lh LS nL ad ls) (hW : xm_Wd cl D cA ad A X.1 H h) (hS : va_S A s.heap H locs) (hz : xm_lb i (fun x y => x - y) ls st h = some z) (kk : xm_C p l e R s m args below meth c cells slots Q cl X D cA ad A nL co z) : W p l e R s m args below meth c H locs cells slots Q (F0 m pc LS (st.map (xm_cv ad))) := by
  obtain ⟨hx, hb, hml, hown, hts, hK, hX, hCK, hAC, HT⟩ := E
  obtain ⟨x, y, r, rfl, rfl⟩ := xm_lb_inv hz
  have k2 := kk LS H locs hl hW hS
  rw [show xm_np co (i + 1) = pc + 1 from hn] at k2
  exact lv_lsub hx hb hd k2
theorem xm_o_lmul (E : xm_Env p s m args c T0 T cl TX X D cA ad A own cc nL) (hd : decode cc pc = .ok (.lmul, 1)) (hn : xm_np co (i + 1) = pc + 1) (hl : xm_lh LS nL ad ls) (hW : xm_Wd cl D cA ad A X.1 H h) (hS : va_S A s.heap H locs) (hz : xm_lb i (fun x y => x * y) ls st h = some z) (kk : xm_C p l e R s m args below meth c cells slots Q cl X D cA ad A nL co z) : W p l e R s m args below meth c H locs cells slots Q (F0 m pc LS (st.map (xm_cv ad))) := by
  obtain ⟨hx, hb, hml, hown, hts, hK, hX, hCK, hAC, HT⟩ := E
  obtain ⟨x, y, r, rfl, rfl⟩ := xm_lb_inv hz
  have k2 := kk LS H locs hl hW hS
  rw [show xm_np co (i + 1) = pc + 1 from hn] at k2
  exact lv_lmul hx hb hd k2
theorem xm_o_land (E : xm_Env p s m args c T0 T cl TX X D cA ad A own cc nL) (hd : decode cc pc = .ok (.land, 1)) (hn : xm_np co (i + 1) = pc + 1) (hl : xm_lh LS nL ad ls) (hW : xm_Wd cl D cA ad A X.1 H h) (hS : va_S A s.heap H locs) (hz : xm_lb i (fun x y => x &&& y) ls st h = some z) (kk : xm_C p l e R s m args below meth c cells slots Q cl X D cA ad A nL co z) : W p l e R s m args below meth c H locs cells slots Q (F0 m pc LS (st.map (xm_cv ad))) := by
  obtain ⟨hx, hb, hml, hown, hts, hK, hX, hCK, hAC, HT⟩ := E
  obtain ⟨x, y, r, rfl, rfl⟩ := xm_lb_inv hz
  have k2 := kk LS H locs hl hW hS
  rw [show xm_np co (i + 1) = pc + 1 from hn] at k2
  exact lv_land hx hb hd k2
theorem xm_o_lor (E : xm_Env p s m args c T0 T cl TX X D cA ad A own cc nL) (hd : decode cc pc = .ok (.lor, 1)) (hn : xm_np co (i + 1) = pc + 1) (hl : xm_lh LS nL ad ls) (hW : xm_Wd cl D cA ad A X.1 H h) (hS : va_S A s.heap H locs) (hz : xm_lb i (fun x y => x ||| y) ls st h = some z) (kk : xm_C p l e R s m args below meth c cells slots Q cl X D cA ad A nL co z) : W p l e R s m args below meth c H locs cells slots Q (F0 m pc LS (st.map (xm_cv ad))) := by
  obtain ⟨hx, hb, hml, hown, hts, hK, hX, hCK, hAC, HT⟩ := E
  obtain ⟨x, y, r, rfl, rfl⟩ := xm_lb_inv hz
  have k2 := kk LS H locs hl hW hS
  rw [show xm_np co (i + 1) = pc + 1 from hn] at k2
  exact lv_lor hx hb hd k2
theorem xm_o_ldiv (E : xm_Env p s m args c T0 T cl TX X D cA ad A own cc nL) (hd : decode cc pc = .ok (.ldiv, 1)) (hn : xm_np co (i + 1) = pc + 1) (hl : xm_lh LS nL ad ls) (hW : xm_Wd cl D cA ad A X.1 H h) (hS : va_S A s.heap H locs) (hz : xm_ld i (fun x y => x / y) ls st h = some z) (kk : xm_C p l e R s m args below meth c cells slots Q cl X D cA ad A nL co z) : W p l e R s m args below meth c H locs cells slots Q (F0 m pc LS (st.map (xm_cv ad))) := by
  obtain ⟨hx, hb, hml, hown, hts, hK, hX, hCK, hAC, HT⟩ := E
  obtain ⟨x, y, r, rfl, hne, rfl⟩ := xm_ld_inv hz
  have k2 := kk LS H locs hl hW hS
  rw [show xm_np co (i + 1) = pc + 1 from hn] at k2
  exact lv_ldiv hx hb hd hne k2
theorem xm_o_lrem (E : xm_Env p s m args c T0 T cl TX X D cA ad A own cc nL) (hd : decode cc pc = .ok (.lrem, 1)) (hn : xm_np co (i + 1) = pc + 1) (hl : xm_lh LS nL ad ls) (hW : xm_Wd cl D cA ad A X.1 H h) (hS : va_S A s.heap H locs) (hz : xm_ld i (fun x y => x - x / y * y) ls st h = some z) (kk : xm_C p l e R s m args below meth c cells slots Q cl X D cA ad A nL co z) : W p l e R s m args below meth c H locs cells slots Q (F0 m pc LS (st.map (xm_cv ad))) := by
  obtain ⟨hx, hb, hml, hown, hts, hK, hX, hCK, hAC, HT⟩ := E
  obtain ⟨x, y, r, rfl, hne, rfl⟩ := xm_ld_inv hz
  have k2 := kk LS H locs hl hW hS
  rw [show xm_np co (i + 1) = pc + 1 from hn] at k2
  exact lv_lrem hx hb hd hne k2
theorem xm_o_lshl (E : xm_Env p s m args c T0 T cl TX X D cA ad A own cc nL) (hd : decode cc pc = .ok (.lshl, 1)) (hn : xm_np co (i + 1) = pc + 1) (hl : xm_lh LS nL ad ls) (hW : xm_Wd cl D cA ad A X.1 H h) (hS : va_S A s.heap H locs) (hz : xm_lsh i (fun x y => x <<< (y.toInt64 &&& 63)) ls st h = some z) (kk : xm_C p l e R s m args below meth c cells slots Q cl X D cA ad A nL co z) : W p l e R s m args below meth c H locs cells slots Q (F0 m pc LS (st.map (xm_cv ad))) := by
  obtain ⟨hx, hb, hml, hown, hts, hK, hX, hCK, hAC, HT⟩ := E
  obtain ⟨x, y, r, rfl, rfl⟩ := xm_lsh_inv hz
  have k2 := kk LS H locs hl hW hS
  rw [show xm_np co (i + 1) = pc + 1 from hn] at k2
  exact lv_lshl hx hb hd rfl k2
theorem xm_o_lshr (E : xm_Env p s m args c T0 T cl TX X D cA ad A own cc nL) (hd : decode cc pc = .ok (.lshr, 1)) (hn : xm_np co (i + 1) = pc + 1) (hl : xm_lh LS nL ad ls) (hW : xm_Wd cl D cA ad A X.1 H h) (hS : va_S A s.heap H locs) (hz : xm_lsh i (fun x y => x >>> (y.toInt64 &&& 63)) ls st h = some z) (kk : xm_C p l e R s m args below meth c cells slots Q cl X D cA ad A nL co z) : W p l e R s m args below meth c H locs cells slots Q (F0 m pc LS (st.map (xm_cv ad))) := by
  obtain ⟨hx, hb, hml, hown, hts, hK, hX, hCK, hAC, HT⟩ := E
  obtain ⟨x, y, r, rfl, rfl⟩ := xm_lsh_inv hz
  have k2 := kk LS H locs hl hW hS
  rw [show xm_np co (i + 1) = pc + 1 from hn] at k2
  exact lv_lshr hx hb hd rfl k2
theorem xm_ldi_inv {r0 : xm_I} {k : Nat} (hz : xm_ldi r0 i k ls st h = some z) : ∃ x, ls[k]? = some (some (.int x)) ∧ z = (i + 1, ls, .int x :: st, h) := by
  unfold xm_ldi at hz
  split at hz
  · cases hz
    exact ⟨_, ‹_›, rfl⟩
  · cases hz
theorem xm_o_iload (E : xm_Env p s m args c T0 T cl TX X D cA ad A own cc nL) {r0 : xm_I} {k : Nat} (hd : decode cc pc = .ok (.iload k, 2)) (hn : xm_np co (i + 1) = pc + 2) (hl : xm_lh LS nL ad ls) (hW : xm_Wd cl D cA ad A X.1 H h) (hS : va_S A s.heap H locs) (hz : xm_ldi r0 i k ls st h = some z) (kk : xm_C p l e R s m args below meth c cells slots Q cl X D cA ad A nL co z) : W p l e R s m args below meth c H locs cells slots Q (F0 m pc LS (st.map (xm_cv ad))) := by
  obtain ⟨hx, hb, hml, hown, hts, hK, hX, hCK, hAC, HT⟩ := E
  obtain ⟨x, hk, rfl⟩ := xm_ldi_inv hz
  have k2 := kk LS H locs hl hW hS
  rw [show xm_np co (i + 1) = pc + 2 from hn] at k2
  exact lv_iload hx hb hd (hl.at hk) k2
theorem xm_o_iload_n (E : xm_Env p s m args c T0 T cl TX X D cA ad A own cc nL) {r0 : xm_I} {k : Fin 4} (hd : decode cc pc = .ok (.iload_n k, 1)) (hn : xm_np co (i + 1) = pc + 1) (hl : xm_lh LS nL ad ls) (hW : xm_Wd cl D cA ad A X.1 H h) (hS : va_S A s.heap H locs) (hz : xm_ldi r0 i k.val ls st h = some z) (kk : xm_C p l e R s m args below meth c cells slots Q cl X D cA ad A nL co z) : W p l e R s m args below meth c H locs cells slots Q (F0 m pc LS (st.map (xm_cv ad))) := by
  obtain ⟨hx, hb, hml, hown, hts, hK, hX, hCK, hAC, HT⟩ := E
  obtain ⟨x, hk, rfl⟩ := xm_ldi_inv hz
  have k2 := kk LS H locs hl hW hS
  rw [show xm_np co (i + 1) = pc + 1 from hn] at k2
  exact lv_iload_n hx hb hd rfl (hl.at hk) k2
theorem xm_ldl_inv {r0 : xm_I} {k : Nat} (hz : xm_ldl r0 i k ls st h = some z) : ∃ x, ls[k]? = some (some (.long x)) ∧ z = (i + 1, ls, .long x :: st, h) := by
  unfold xm_ldl at hz
  split at hz
  · cases hz
    exact ⟨_, ‹_›, rfl⟩
  · cases hz
theorem xm_o_lload (E : xm_Env p s m args c T0 T cl TX X D cA ad A own cc nL) {r0 : xm_I} {k : Nat} (hd : decode cc pc = .ok (.lload k, 2)) (hn : xm_np co (i + 1) = pc + 2) (hl : xm_lh LS nL ad ls) (hW : xm_Wd cl D cA ad A X.1 H h) (hS : va_S A s.heap H locs) (hz : xm_ldl r0 i k ls st h = some z) (kk : xm_C p l e R s m args below meth c cells slots Q cl X D cA ad A nL co z) : W p l e R s m args below meth c H locs cells slots Q (F0 m pc LS (st.map (xm_cv ad))) := by
  obtain ⟨hx, hb, hml, hown, hts, hK, hX, hCK, hAC, HT⟩ := E
  obtain ⟨x, hk, rfl⟩ := xm_ldl_inv hz
  have k2 := kk LS H locs hl hW hS
  rw [show xm_np co (i + 1) = pc + 2 from hn] at k2
  exact lv_lload hx hb hd (hl.at hk) k2
theorem xm_o_lload_n (E : xm_Env p s m args c T0 T cl TX X D cA ad A own cc nL) {r0 : xm_I} {k : Fin 4} (hd : decode cc pc = .ok (.lload_n k, 1)) (hn : xm_np co (i + 1) = pc + 1) (hl : xm_lh LS nL ad ls) (hW : xm_Wd cl D cA ad A X.1 H h) (hS : va_S A s.heap H locs) (hz : xm_ldl r0 i k.val ls st h = some z) (kk : xm_C p l e R s m args below meth c cells slots Q cl X D cA ad A nL co z) : W p l e R s m args below meth c H locs cells slots Q (F0 m pc LS (st.map (xm_cv ad))) := by
  obtain ⟨hx, hb, hml, hown, hts, hK, hX, hCK, hAC, HT⟩ := E
  obtain ⟨x, hk, rfl⟩ := xm_ldl_inv hz
  have k2 := kk LS H locs hl hW hS
  rw [show xm_np co (i + 1) = pc + 1 from hn] at k2
  exact lv_lload_n hx hb hd rfl (hl.at hk) k2
theorem xm_lda_inv {r0 : xm_I} {k : Nat} (hz : xm_lda r0 i k ls st h = some z) : ∃ x, ls[k]? = some (some (.ref x)) ∧ z = (i + 1, ls, .ref x :: st, h) := by
  unfold xm_lda at hz
  split at hz
  · cases hz
    exact ⟨_, ‹_›, rfl⟩
  · cases hz
theorem xm_o_aload (E : xm_Env p s m args c T0 T cl TX X D cA ad A own cc nL) {r0 : xm_I} {k : Nat} (hd : decode cc pc = .ok (.aload k, 2)) (hn : xm_np co (i + 1) = pc + 2) (hl : xm_lh LS nL ad ls) (hW : xm_Wd cl D cA ad A X.1 H h) (hS : va_S A s.heap H locs) (hz : xm_lda r0 i k ls st h = some z) (kk : xm_C p l e R s m args below meth c cells slots Q cl X D cA ad A nL co z) : W p l e R s m args below meth c H locs cells slots Q (F0 m pc LS (st.map (xm_cv ad))) := by
  obtain ⟨hx, hb, hml, hown, hts, hK, hX, hCK, hAC, HT⟩ := E
  obtain ⟨x, hk, rfl⟩ := xm_lda_inv hz
  have k2 := kk LS H locs hl hW hS
  rw [show xm_np co (i + 1) = pc + 2 from hn] at k2
  exact lv_aload hx hb hd (hl.at hk) k2
theorem xm_o_aload_n (E : xm_Env p s m args c T0 T cl TX X D cA ad A own cc nL) {r0 : xm_I} {k : Fin 4} (hd : decode cc pc = .ok (.aload_n k, 1)) (hn : xm_np co (i + 1) = pc + 1) (hl : xm_lh LS nL ad ls) (hW : xm_Wd cl D cA ad A X.1 H h) (hS : va_S A s.heap H locs) (hz : xm_lda r0 i k.val ls st h = some z) (kk : xm_C p l e R s m args below meth c cells slots Q cl X D cA ad A nL co z) : W p l e R s m args below meth c H locs cells slots Q (F0 m pc LS (st.map (xm_cv ad))) := by
  obtain ⟨hx, hb, hml, hown, hts, hK, hX, hCK, hAC, HT⟩ := E
  obtain ⟨x, hk, rfl⟩ := xm_lda_inv hz
  have k2 := kk LS H locs hl hW hS
  rw [show xm_np co (i + 1) = pc + 1 from hn] at k2
  exact lv_aload_n hx hb hd rfl (hl.at hk) k2
theorem xm_sti_inv {k : Nat} (hz : xm_sti i k ls st h = some z) : ∃ x r, st = .int x :: r ∧ k < ls.length ∧ z = (i + 1, xm_s1 ls k (.int x), r, h) := by
  unfold xm_sti at hz
  split at hz
  · split at hz
    · cases hz
      exact ⟨_, _, rfl, ‹_›, rfl⟩
    · cases hz
  · cases hz
theorem xm_o_istore (E : xm_Env p s m args c T0 T cl TX X D cA ad A own cc nL) {k : Nat} (hd : decode cc pc = .ok (.istore k, 2)) (hn : xm_np co (i + 1) = pc + 2) (hl : xm_lh LS nL ad ls) (hW : xm_Wd cl D cA ad A X.1 H h) (hS : va_S A s.heap H locs) (hz : xm_sti i k ls st h = some z) (kk : xm_C p l e R s m args below meth c cells slots Q cl X D cA ad A nL co z) : W p l e R s m args below meth c H locs cells slots Q (F0 m pc LS (st.map (xm_cv ad))) := by
  obtain ⟨hx, hb, hml, hown, hts, hK, hX, hCK, hAC, HT⟩ := E
  obtain ⟨x, r, rfl, hk, rfl⟩ := xm_sti_inv hz
  refine lv_istore hx hb hd hl.2 (by rw [← hl.1]; exact hk) rfl (fun LS' h' => ?_)
  have k2 := kk LS' H locs (xm_lh.s1 hl.1 h') hW hS
  rw [show xm_np co (i + 1) = pc + 2 from hn] at k2
  exact k2
theorem xm_o_istore_n (E : xm_Env p s m args c T0 T cl TX X D cA ad A own cc nL) {k : Fin 4} (hd : decode cc pc = .ok (.istore_n k, 1)) (hn : xm_np co (i + 1) = pc + 1) (hl : xm_lh LS nL ad ls) (hW : xm_Wd cl D cA ad A X.1 H h) (hS : va_S A s.heap H locs) (hz : xm_sti i k.val ls st h = some z) (kk : xm_C p l e R s m args below meth c cells slots Q cl X D cA ad A nL co z) : W p l e R s m args below meth c H locs cells slots Q (F0 m pc LS (st.map (xm_cv ad))) := by
  obtain ⟨hx, hb, hml, hown, hts, hK, hX, hCK, hAC, HT⟩ := E
  obtain ⟨x, r, rfl, hk, rfl⟩ := xm_sti_inv hz
  refine lv_istore_n hx hb hd rfl hl.2 (by rw [← hl.1]; exact hk) rfl (fun LS' h' => ?_)
  have k2 := kk LS' H locs (xm_lh.s1 hl.1 h') hW hS
  rw [show xm_np co (i + 1) = pc + 1 from hn] at k2
  exact k2
theorem xm_stl_inv {k : Nat} (hz : xm_stl i k ls st h = some z) : ∃ x r, st = .long x :: r ∧ k + 1 < ls.length ∧ z = (i + 1, xm_s2 ls k (.long x), r, h) := by
  unfold xm_stl at hz
  split at hz
  · split at hz
    · cases hz
      exact ⟨_, _, rfl, ‹_›, rfl⟩
    · cases hz
  · cases hz
theorem xm_o_lstore (E : xm_Env p s m args c T0 T cl TX X D cA ad A own cc nL) {k : Nat} (hd : decode cc pc = .ok (.lstore k, 2)) (hn : xm_np co (i + 1) = pc + 2) (hl : xm_lh LS nL ad ls) (hW : xm_Wd cl D cA ad A X.1 H h) (hS : va_S A s.heap H locs) (hz : xm_stl i k ls st h = some z) (kk : xm_C p l e R s m args below meth c cells slots Q cl X D cA ad A nL co z) : W p l e R s m args below meth c H locs cells slots Q (F0 m pc LS (st.map (xm_cv ad))) := by
  obtain ⟨hx, hb, hml, hown, hts, hK, hX, hCK, hAC, HT⟩ := E
  obtain ⟨x, r, rfl, hk, rfl⟩ := xm_stl_inv hz
  refine lv_lstore hx hb hd hl.2 (by rw [← hl.1]; exact hk) rfl (fun LS' h' => ?_)
  have k2 := kk LS' H locs (xm_lh.s2 hl.1 h') hW hS
  rw [show xm_np co (i + 1) = pc + 2 from hn] at k2
  exact k2
theorem xm_o_lstore_n (E : xm_Env p s m args c T0 T cl TX X D cA ad A own cc nL) {k : Fin 4} (hd : decode cc pc = .ok (.lstore_n k, 1)) (hn : xm_np co (i + 1) = pc + 1) (hl : xm_lh LS nL ad ls) (hW : xm_Wd cl D cA ad A X.1 H h) (hS : va_S A s.heap H locs) (hz : xm_stl i k.val ls st h = some z) (kk : xm_C p l e R s m args below meth c cells slots Q cl X D cA ad A nL co z) : W p l e R s m args below meth c H locs cells slots Q (F0 m pc LS (st.map (xm_cv ad))) := by
  obtain ⟨hx, hb, hml, hown, hts, hK, hX, hCK, hAC, HT⟩ := E
  obtain ⟨x, r, rfl, hk, rfl⟩ := xm_stl_inv hz
  refine lv_lstore_n hx hb hd rfl hl.2 (by rw [← hl.1]; exact hk) rfl (fun LS' h' => ?_)
  have k2 := kk LS' H locs (xm_lh.s2 hl.1 h') hW hS
  rw [show xm_np co (i + 1) = pc + 1 from hn] at k2
  exact k2
theorem xm_sta_inv {k : Nat} (hz : xm_sta i k ls st h = some z) : ∃ x r, st = .ref x :: r ∧ k < ls.length ∧ z = (i + 1, xm_s1 ls k (.ref x), r, h) := by
  unfold xm_sta at hz
  split at hz
  · split at hz
    · cases hz
      exact ⟨_, _, rfl, ‹_›, rfl⟩
    · cases hz
  · cases hz
theorem xm_o_astore (E : xm_Env p s m args c T0 T cl TX X D cA ad A own cc nL) {k : Nat} (hd : decode cc pc = .ok (.astore k, 2)) (hn : xm_np co (i + 1) = pc + 2) (hl : xm_lh LS nL ad ls) (hW : xm_Wd cl D cA ad A X.1 H h) (hS : va_S A s.heap H locs) (hz : xm_sta i k ls st h = some z) (kk : xm_C p l e R s m args below meth c cells slots Q cl X D cA ad A nL co z) : W p l e R s m args below meth c H locs cells slots Q (F0 m pc LS (st.map (xm_cv ad))) := by
  obtain ⟨hx, hb, hml, hown, hts, hK, hX, hCK, hAC, HT⟩ := E
  obtain ⟨x, r, rfl, hk, rfl⟩ := xm_sta_inv hz
  refine lv_astore hx hb hd hl.2 (by rw [← hl.1]; exact hk) rfl (fun LS' h' => ?_)
  have k2 := kk LS' H locs (xm_lh.s1 hl.1 h') hW hS
  rw [show xm_np co (i + 1) = pc + 2 from hn] at k2
  exact k2
theorem xm_o_astore_n (E : xm_Env p s m args c T0 T cl TX X D cA ad A own cc nL) {k : Fin 4} (hd : decode cc pc = .ok (.astore_n k, 1)) (hn : xm_np co (i + 1) = pc + 1) (hl : xm_lh LS nL ad ls) (hW : xm_Wd cl D cA ad A X.1 H h) (hS : va_S A s.heap H locs) (hz : xm_sta i k.val ls st h = some z) (kk : xm_C p l e R s m args below meth c cells slots Q cl X D cA ad A nL co z) : W p l e R s m args below meth c H locs cells slots Q (F0 m pc LS (st.map (xm_cv ad))) := by
  obtain ⟨hx, hb, hml, hown, hts, hK, hX, hCK, hAC, HT⟩ := E
  obtain ⟨x, r, rfl, hk, rfl⟩ := xm_sta_inv hz
  refine lv_astore_n hx hb hd rfl hl.2 (by rw [← hl.1]; exact hk) rfl (fun LS' h' => ?_)
  have k2 := kk LS' H locs (xm_lh.s1 hl.1 h') hW hS
  rw [show xm_np co (i + 1) = pc + 1 from hn] at k2
  exact k2
theorem xm_o_iinc (E : xm_Env p s m args c T0 T cl TX X D cA ad A own cc nL) {k : Nat} {n : Int} {x v : Int32} (hd : decode cc pc = .ok (.iinc k n, 3)) (hn : xm_np co (i + 1) = pc + 3) (hv : Int32.ofInt n = v) (hl : xm_lh LS nL ad ls) (hW : xm_Wd cl D cA ad A X.1 H h) (hS : va_S A s.heap H locs) (hk : ls[k]? = some (some (.int x))) (kk : xm_C p l e R s m args below meth c cells slots Q cl X D cA ad A nL co (i + 1, xm_s1 ls k (.int (x + v)), st, h)) : W p l e R s m args below meth c H locs cells slots Q (F0 m pc LS (st.map (xm_cv ad))) := by
  obtain ⟨hx, hb, hml, hown, hts, hK, hX, hCK, hAC, HT⟩ := E
  obtain ⟨k', hk'⟩ := List.getElem?_of_mem (xm_cl_mem (ad := ad) (q := (k, .int x)).mpr ⟨_, hk, rfl⟩)
  refine lv_iinc hx hb hd hl.2 hk' (by rw [hv]) (by rw [← hl.1]; exact (List.getElem?_eq_some_iff.mp hk).1) rfl (fun LS' h' => ?_)
  have k2 := kk LS' H locs (xm_lh.s1 hl.1 h') hW hS
  rw [show xm_np co (i + 1) = pc + 3 from hn] at k2
  exact k2
theorem xm_o_if_eq (E : xm_Env p s m args c T0 T cl TX X D cA ad A own cc nL) {x : Int32} {r : List Value} {off : Int} {j : Nat} (hd : decode cc pc = .ok (.ifCond .eq off, 3)) (hn : xm_np co (i + 1) = pc + 3) (hj : (pc : Int) + off = (xm_np co j : Int)) (hl : xm_lh LS nL ad ls) (hW : xm_Wd cl D cA ad A X.1 H h) (hS : va_S A s.heap H locs) (kk : xm_C p l e R s m args below meth c cells slots Q cl X D cA ad A nL co (xm_c1 i j .eq x, ls, r, h)) : W p l e R s m args below meth c H locs cells slots Q (F0 m pc LS ((.int x :: r : List Value).map (xm_cv ad))) := by
  obtain ⟨hx, hb, hml, hown, hts, hK, hX, hCK, hAC, HT⟩ := E
  have k2 := kk LS H locs hl hW hS
  refine lv_if_eq hx hb hd hj (fun q => ?_) (fun q => ?_)
  · simp only [xm_c1, q, if_true, if_false] at k2
    exact k2
  · simp only [xm_c1, q, if_true, if_false] at k2
    rw [hn] at k2
    exact k2
theorem xm_o_icmp_eq (E : xm_Env p s m args c T0 T cl TX X D cA ad A own cc nL) {x y : Int32} {r : List Value} {off : Int} {j : Nat} (hd : decode cc pc = .ok (.if_icmp .eq off, 3)) (hn : xm_np co (i + 1) = pc + 3) (hj : (pc : Int) + off = (xm_np co j : Int)) (hl : xm_lh LS nL ad ls) (hW : xm_Wd cl D cA ad A X.1 H h) (hS : va_S A s.heap H locs) (kk : xm_C p l e R s m args below meth c cells slots Q cl X D cA ad A nL co (xm_c2 i j .eq x y, ls, r, h)) : W p l e R s m args below meth c H locs cells slots Q (F0 m pc LS ((.int y :: .int x :: r : List Value).map (xm_cv ad))) := by
  obtain ⟨hx, hb, hml, hown, hts, hK, hX, hCK, hAC, HT⟩ := E
  have k2 := kk LS H locs hl hW hS
  refine lv_icmp_eq hx hb hd hj (fun q => ?_) (fun q => ?_)
  · simp only [xm_c2, q, if_true, if_false] at k2
    exact k2
  · simp only [xm_c2, q, if_true, if_false] at k2
    rw [hn] at k2
    exact k2
theorem xm_o_if_ne (E : xm_Env p s m args c T0 T cl TX X D cA ad A own cc nL) {x : Int32} {r : List Value} {off : Int} {j : Nat} (hd : decode cc pc = .ok (.ifCond .ne off, 3)) (hn : xm_np co (i + 1) = pc + 3) (hj : (pc : Int) + off = (xm_np co j : Int)) (hl : xm_lh LS nL ad ls) (hW : xm_Wd cl D cA ad A X.1 H h) (hS : va_S A s.heap H locs) (kk : xm_C p l e R s m args below meth c cells slots Q cl X D cA ad A nL co (xm_c1 i j .ne x, ls, r, h)) : W p l e R s m args below meth c H locs cells slots Q (F0 m pc LS ((.int x :: r : List Value).map (xm_cv ad))) := by
  obtain ⟨hx, hb, hml, hown, hts, hK, hX, hCK, hAC, HT⟩ := E
  have k2 := kk LS H locs hl hW hS
  refine lv_if_ne hx hb hd hj (fun q => ?_) (fun q => ?_)
  · simp only [xm_c1, q, if_true, if_false] at k2
    exact k2
  · simp only [xm_c1, q, if_true, if_false] at k2
    rw [hn] at k2
    exact k2
theorem xm_o_icmp_ne (E : xm_Env p s m args c T0 T cl TX X D cA ad A own cc nL) {x y : Int32} {r : List Value} {off : Int} {j : Nat} (hd : decode cc pc = .ok (.if_icmp .ne off, 3)) (hn : xm_np co (i + 1) = pc + 3) (hj : (pc : Int) + off = (xm_np co j : Int)) (hl : xm_lh LS nL ad ls) (hW : xm_Wd cl D cA ad A X.1 H h) (hS : va_S A s.heap H locs) (kk : xm_C p l e R s m args below meth c cells slots Q cl X D cA ad A nL co (xm_c2 i j .ne x y, ls, r, h)) : W p l e R s m args below meth c H locs cells slots Q (F0 m pc LS ((.int y :: .int x :: r : List Value).map (xm_cv ad))) := by
  obtain ⟨hx, hb, hml, hown, hts, hK, hX, hCK, hAC, HT⟩ := E
  have k2 := kk LS H locs hl hW hS
  refine lv_icmp_ne hx hb hd hj (fun q => ?_) (fun q => ?_)
  · simp only [xm_c2, q, if_true, if_false] at k2
    exact k2
  · simp only [xm_c2, q, if_true, if_false] at k2
    rw [hn] at k2
    exact k2
theorem xm_o_if_lt (E : xm_Env p s m args c T0 T cl TX X D cA ad A own cc nL) {x : Int32} {r : List Value} {off : Int} {j : Nat} (hd : decode cc pc = .ok (.ifCond .lt off, 3)) (hn : xm_np co (i + 1) = pc + 3) (hj : (pc : Int) + off = (xm_np co j : Int)) (hl : xm_lh LS nL ad ls) (hW : xm_Wd cl D cA ad A X.1 H h) (hS : va_S A s.heap H locs) (kk : xm_C p l e R s m args below meth c cells slots Q cl X D cA ad A nL co (xm_c1 i j .lt x, ls, r, h)) : W p l e R s m args below meth c H locs cells slots Q (F0 m pc LS ((.int x :: r : List Value).map (xm_cv ad))) := by
  obtain ⟨hx, hb, hml, hown, hts, hK, hX, hCK, hAC, HT⟩ := E
  have k2 := kk LS H locs hl hW hS
  refine lv_if_lt hx hb hd hj (fun q => ?_) (fun q => ?_)
  · simp only [xm_c1, q, if_true, if_false] at k2
    exact k2
  · simp only [xm_c1, q, if_true, if_false] at k2
    rw [hn] at k2
    exact k2
theorem xm_o_icmp_lt (E : xm_Env p s m args c T0 T cl TX X D cA ad A own cc nL) {x y : Int32} {r : List Value} {off : Int} {j : Nat} (hd : decode cc pc = .ok (.if_icmp .lt off, 3)) (hn : xm_np co (i + 1) = pc + 3) (hj : (pc : Int) + off = (xm_np co j : Int)) (hl : xm_lh LS nL ad ls) (hW : xm_Wd cl D cA ad A X.1 H h) (hS : va_S A s.heap H locs) (kk : xm_C p l e R s m args below meth c cells slots Q cl X D cA ad A nL co (xm_c2 i j .lt x y, ls, r, h)) : W p l e R s m args below meth c H locs cells slots Q (F0 m pc LS ((.int y :: .int x :: r : List Value).map (xm_cv ad))) := by
  obtain ⟨hx, hb, hml, hown, hts, hK, hX, hCK, hAC, HT⟩ := E
  have k2 := kk LS H locs hl hW hS
  refine lv_icmp_lt hx hb hd hj (fun q => ?_) (fun q => ?_)
  · simp only [xm_c2, q, if_true, if_false] at k2
    exact k2
  · simp only [xm_c2, q, if_true, if_false] at k2
    rw [hn] at k2
    exact k2
theorem xm_o_if_ge (E : xm_Env p s m args c T0 T cl TX X D cA ad A own cc nL) {x : Int32} {r : List Value} {off : Int} {j : Nat} (hd : decode cc pc = .ok (.ifCond .ge off, 3)) (hn : xm_np co (i + 1) = pc + 3) (hj : (pc : Int) + off = (xm_np co j : Int)) (hl : xm_lh LS nL ad ls) (hW : xm_Wd cl D cA ad A X.1 H h) (hS : va_S A s.heap H locs) (kk : xm_C p l e R s m args below meth c cells slots Q cl X D cA ad A nL co (xm_c1 i j .ge x, ls, r, h)) : W p l e R s m args below meth c H locs cells slots Q (F0 m pc LS ((.int x :: r : List Value).map (xm_cv ad))) := by
  obtain ⟨hx, hb, hml, hown, hts, hK, hX, hCK, hAC, HT⟩ := E
  have k2 := kk LS H locs hl hW hS
  refine lv_if_ge hx hb hd hj (fun q => ?_) (fun q => ?_)
  · simp only [xm_c1, q, if_true, if_false] at k2
    exact k2
  · simp only [xm_c1, q, if_true, if_false] at k2
    rw [hn] at k2
    exact k2
theorem xm_o_icmp_ge (E : xm_Env p s m args c T0 T cl TX X D cA ad A own cc nL) {x y : Int32} {r : List Value} {off : Int} {j : Nat} (hd : decode cc pc = .ok (.if_icmp .ge off, 3)) (hn : xm_np co (i + 1) = pc + 3) (hj : (pc : Int) + off = (xm_np co j : Int)) (hl : xm_lh LS nL ad ls) (hW : xm_Wd cl D cA ad A X.1 H h) (hS : va_S A s.heap H locs) (kk : xm_C p l e R s m args below meth c cells slots Q cl X D cA ad A nL co (xm_c2 i j .ge x y, ls, r, h)) : W p l e R s m args below meth c H locs cells slots Q (F0 m pc LS ((.int y :: .int x :: r : List Value).map (xm_cv ad))) := by
  obtain ⟨hx, hb, hml, hown, hts, hK, hX, hCK, hAC, HT⟩ := E
  have k2 := kk LS H locs hl hW hS
  refine lv_icmp_ge hx hb hd hj (fun q => ?_) (fun q => ?_)
  · simp only [xm_c2, q, if_true, if_false] at k2
    exact k2
  · simp only [xm_c2, q, if_true, if_false] at k2
    rw [hn] at k2
    exact k2
theorem xm_o_if_gt (E : xm_Env p s m args c T0 T cl TX X D cA ad A own cc nL) {x : Int32} {r : List Value} {off : Int} {j : Nat} (hd : decode cc pc = .ok (.ifCond .gt off, 3)) (hn : xm_np co (i + 1) = pc + 3) (hj : (pc : Int) + off = (xm_np co j : Int)) (hl : xm_lh LS nL ad ls) (hW : xm_Wd cl D cA ad A X.1 H h) (hS : va_S A s.heap H locs) (kk : xm_C p l e R s m args below meth c cells slots Q cl X D cA ad A nL co (xm_c1 i j .gt x, ls, r, h)) : W p l e R s m args below meth c H locs cells slots Q (F0 m pc LS ((.int x :: r : List Value).map (xm_cv ad))) := by
  obtain ⟨hx, hb, hml, hown, hts, hK, hX, hCK, hAC, HT⟩ := E
  have k2 := kk LS H locs hl hW hS
  refine lv_if_gt hx hb hd hj (fun q => ?_) (fun q => ?_)
  · simp only [xm_c1, q, if_true, if_false] at k2
    exact k2
  · simp only [xm_c1, q, if_true, if_false] at k2
    rw [hn] at k2
    exact k2
theorem xm_o_icmp_gt (E : xm_Env p s m args c T0 T cl TX X D cA ad A own cc nL) {x y : Int32} {r : List Value} {off : Int} {j : Nat} (hd : decode cc pc = .ok (.if_icmp .gt off, 3)) (hn : xm_np co (i + 1) = pc + 3) (hj : (pc : Int) + off = (xm_np co j : Int)) (hl : xm_lh LS nL ad ls) (hW : xm_Wd cl D cA ad A X.1 H h) (hS : va_S A s.heap H locs) (kk : xm_C p l e R s m args below meth c cells slots Q cl X D cA ad A nL co (xm_c2 i j .gt x y, ls, r, h)) : W p l e R s m args below meth c H locs cells slots Q (F0 m pc LS ((.int y :: .int x :: r : List Value).map (xm_cv ad))) := by
  obtain ⟨hx, hb, hml, hown, hts, hK, hX, hCK, hAC, HT⟩ := E
  have k2 := kk LS H locs hl hW hS
  refine lv_icmp_gt hx hb hd hj (fun q => ?_) (fun q => ?_)
  · simp only [xm_c2, q, if_true, if_false] at k2
    exact k2
  · simp only [xm_c2, q, if_true, if_false] at k2
    rw [hn] at k2
    exact k2
theorem xm_o_if_le (E : xm_Env p s m args c T0 T cl TX X D cA ad A own cc nL) {x : Int32} {r : List Value} {off : Int} {j : Nat} (hd : decode cc pc = .ok (.ifCond .le off, 3)) (hn : xm_np co (i + 1) = pc + 3) (hj : (pc : Int) + off = (xm_np co j : Int)) (hl : xm_lh LS nL ad ls) (hW : xm_Wd cl D cA ad A X.1 H h) (hS : va_S A s.heap H locs) (kk : xm_C p l e R s m args below meth c cells slots Q cl X D cA ad A nL co (xm_c1 i j .le x, ls, r, h)) : W p l e R s m args below meth c H locs cells slots Q (F0 m pc LS ((.int x :: r : List Value).map (xm_cv ad))) := by
  obtain ⟨hx, hb, hml, hown, hts, hK, hX, hCK, hAC, HT⟩ := E
  have k2 := kk LS H locs hl hW hS
  refine lv_if_le hx hb hd hj (fun q => ?_) (fun q => ?_)
  · simp only [xm_c1, q, if_true, if_false] at k2
    exact k2
  · simp only [xm_c1, q, if_true, if_false] at k2
    rw [hn] at k2
    exact k2
theorem xm_o_icmp_le (E : xm_Env p s m args c T0 T cl TX X D cA ad A own cc nL) {x y : Int32} {r : List Value} {off : Int} {j : Nat} (hd : decode cc pc = .ok (.if_icmp .le off, 3)) (hn : xm_np co (i + 1) = pc + 3) (hj : (pc : Int) + off = (xm_np co j : Int)) (hl : xm_lh LS nL ad ls) (hW : xm_Wd cl D cA ad A X.1 H h) (hS : va_S A s.heap H locs) (kk : xm_C p l e R s m args below meth c cells slots Q cl X D cA ad A nL co (xm_c2 i j .le x y, ls, r, h)) : W p l e R s m args below meth c H locs cells slots Q (F0 m pc LS ((.int y :: .int x :: r : List Value).map (xm_cv ad))) := by
  obtain ⟨hx, hb, hml, hown, hts, hK, hX, hCK, hAC, HT⟩ := E
  have k2 := kk LS H locs hl hW hS
  refine lv_icmp_le hx hb hd hj (fun q => ?_) (fun q => ?_)
  · simp only [xm_c2, q, if_true, if_false] at k2
    exact k2
  · simp only [xm_c2, q, if_true, if_false] at k2
    rw [hn] at k2
    exact k2
end XMS
