/-! Arrays. -/
section XMS3
variable {p : Program} {l : Launch} {e : Env} {R : Room} {s : State} {m : MethodId} {args : Array Value} {below : List Frame} {meth : Method} {c : Code} {H : Heap} {locs : List Loc} {cells slots : Nat} {Q : State → Prop}
variable {T0 T : List Cond} {cl : List vw_C} {TX : List (String × Nat × String × Nat)} {X : xm_X} {D : va_G} {cA : Nat → ClassId} {ad : Nat → Nat} {A : Nat → Prop} {own : String} {cc : ByteArray} {nL : Nat} {co : List xm_I}
variable {pc i : Nat} {ls : xm_L} {st : List Value} {h : xm_H} {LS : Array Slot} {z : xm_N}
theorem xm_o_iald (E : xm_Env p s m args c T0 T cl TX X D cA ad A own cc nL) {n p0 : Nat} {j : Int32} {r : List Value} (hd : decode cc pc = .ok (.iaload, 1)) (hn : xm_np co (i + 1) = pc + 1) (hp0 : X.1[p0]? = some (.inl (0, n))) (hj : ¬ (j < 0 ∨ n ≤ j.toNatClampNeg)) (hl : xm_lh LS nL ad ls) (hW : xm_Wd cl D cA ad A X.1 H h) (hS : va_S A s.heap H locs) (kk : xm_C p l e R s m args below meth c cells slots Q cl X D cA ad A nL co (i + 1, ls, .int (h.1 p0 j.toNatClampNeg) :: r, h)) : W p l e R s m args below meth c H locs cells slots Q (F0 m pc LS ((.int j :: .ref p0 :: r : List Value).map (xm_cv ad))) := by
  obtain ⟨hx, hb, hml, hown, hts, hK, hX, hCK, hAC, HT⟩ := E
  have k2 := kk LS H locs hl hW hS
  rw [show xm_np co (i + 1) = pc + 1 from hn] at k2
  exact va_iald (n := n) (f := h.1 p0) hx hb hK hW.1 p0 0 (xm_wd_at hp0) (xm_tys_at cA (by decide)) hj hd k2
theorem xm_o_bald (E : xm_Env p s m args c T0 T cl TX X D cA ad A own cc nL) {n p0 : Nat} {j : Int32} {r : List Value} (hd : decode cc pc = .ok (.baload, 1)) (hn : xm_np co (i + 1) = pc + 1) (hp0 : X.1[p0]? = some (.inl (1, n))) (hj : ¬ (j < 0 ∨ n ≤ j.toNatClampNeg)) (hl : xm_lh LS nL ad ls) (hW : xm_Wd cl D cA ad A X.1 H h) (hS : va_S A s.heap H locs) (kk : xm_C p l e R s m args below meth c cells slots Q cl X D cA ad A nL co (i + 1, ls, .int (h.1 p0 j.toNatClampNeg) :: r, h)) : W p l e R s m args below meth c H locs cells slots Q (F0 m pc LS ((.int j :: .ref p0 :: r : List Value).map (xm_cv ad))) := by
  obtain ⟨hx, hb, hml, hown, hts, hK, hX, hCK, hAC, HT⟩ := E
  have k2 := kk LS H locs hl hW hS
  rw [show xm_np co (i + 1) = pc + 1 from hn] at k2
  exact va_bald (n := n) (f := h.1 p0) hx hb hK hW.1 p0 1 (xm_wd_at hp0) (xm_tys_at cA (by decide)) hj hd k2
theorem xm_o_zald (E : xm_Env p s m args c T0 T cl TX X D cA ad A own cc nL) {n p0 : Nat} {j : Int32} {r : List Value} (hd : decode cc pc = .ok (.baload, 1)) (hn : xm_np co (i + 1) = pc + 1) (hp0 : X.1[p0]? = some (.inl (2, n))) (hj : ¬ (j < 0 ∨ n ≤ j.toNatClampNeg)) (hl : xm_lh LS nL ad ls) (hW : xm_Wd cl D cA ad A X.1 H h) (hS : va_S A s.heap H locs) (kk : xm_C p l e R s m args below meth c cells slots Q cl X D cA ad A nL co (i + 1, ls, .int (h.1 p0 j.toNatClampNeg) :: r, h)) : W p l e R s m args below meth c H locs cells slots Q (F0 m pc LS ((.int j :: .ref p0 :: r : List Value).map (xm_cv ad))) := by
  obtain ⟨hx, hb, hml, hown, hts, hK, hX, hCK, hAC, HT⟩ := E
  have k2 := kk LS H locs hl hW hS
  rw [show xm_np co (i + 1) = pc + 1 from hn] at k2
  exact va_zald (n := n) (f := h.1 p0) hx hb hK hW.1 p0 2 (xm_wd_at hp0) (xm_tys_at cA (by decide)) hj hd k2
theorem xm_o_ialx (E : xm_Env p s m args c T0 T cl TX X D cA ad A own cc nL) {n p0 : Nat} {f : Nat → Int32} {j : Int32} {r : List Value} (hd : decode cc pc = .ok (.iaload, 1)) (hn : xm_np co (i + 1) = pc + 1) (hp0 : X.2.1 p0 = some (0, n, f)) (hj : ¬ (j < 0 ∨ n ≤ j.toNatClampNeg)) (hl : xm_lh LS nL ad ls) (hW : xm_Wd cl D cA ad A X.1 H h) (hS : va_S A s.heap H locs) (kk : xm_C p l e R s m args below meth c cells slots Q cl X D cA ad A nL co (i + 1, ls, .int (f j.toNatClampNeg) :: r, h)) : W p l e R s m args below meth c H locs cells slots Q (F0 m pc LS ((.int j :: .ref p0 :: r : List Value).map (xm_cv ad))) := by
  obtain ⟨hx, hb, hml, hown, hts, hK, hX, hCK, hAC, HT⟩ := E
  have k2 := kk LS H locs hl hW hS
  rw [show xm_np co (i + 1) = pc + 1 from hn] at k2
  exact va_ti hx hb (hX.1 p0 0 n f hp0).2 hS hj rfl hd k2
theorem xm_o_balx (E : xm_Env p s m args c T0 T cl TX X D cA ad A own cc nL) {n p0 : Nat} {f : Nat → Int32} {j : Int32} {r : List Value} (hd : decode cc pc = .ok (.baload, 1)) (hn : xm_np co (i + 1) = pc + 1) (hp0 : X.2.1 p0 = some (1, n, f)) (hj : ¬ (j < 0 ∨ n ≤ j.toNatClampNeg)) (hl : xm_lh LS nL ad ls) (hW : xm_Wd cl D cA ad A X.1 H h) (hS : va_S A s.heap H locs) (kk : xm_C p l e R s m args below meth c cells slots Q cl X D cA ad A nL co (i + 1, ls, .int (f j.toNatClampNeg) :: r, h)) : W p l e R s m args below meth c H locs cells slots Q (F0 m pc LS ((.int j :: .ref p0 :: r : List Value).map (xm_cv ad))) := by
  obtain ⟨hx, hb, hml, hown, hts, hK, hX, hCK, hAC, HT⟩ := E
  have k2 := kk LS H locs hl hW hS
  rw [show xm_np co (i + 1) = pc + 1 from hn] at k2
  exact va_tb hx hb (hX.1 p0 1 n f hp0).2 hS hj rfl hd k2
theorem xm_o_zalx (E : xm_Env p s m args c T0 T cl TX X D cA ad A own cc nL) {n p0 : Nat} {f : Nat → Int32} {j : Int32} {r : List Value} (hd : decode cc pc = .ok (.baload, 1)) (hn : xm_np co (i + 1) = pc + 1) (hp0 : X.2.1 p0 = some (2, n, f)) (hj : ¬ (j < 0 ∨ n ≤ j.toNatClampNeg)) (hl : xm_lh LS nL ad ls) (hW : xm_Wd cl D cA ad A X.1 H h) (hS : va_S A s.heap H locs) (kk : xm_C p l e R s m args below meth c cells slots Q cl X D cA ad A nL co (i + 1, ls, .int (f j.toNatClampNeg) :: r, h)) : W p l e R s m args below meth c H locs cells slots Q (F0 m pc LS ((.int j :: .ref p0 :: r : List Value).map (xm_cv ad))) := by
  obtain ⟨hx, hb, hml, hown, hts, hK, hX, hCK, hAC, HT⟩ := E
  have k2 := kk LS H locs hl hW hS
  rw [show xm_np co (i + 1) = pc + 1 from hn] at k2
  exact va_tz hx hb (hX.1 p0 2 n f hp0).2 hS hj rfl hd k2
theorem xm_o_lald (E : xm_Env p s m args c T0 T cl TX X D cA ad A own cc nL) {n p0 : Nat} {j : Int32} {r : List Value} (hd : decode cc pc = .ok (.laload, 1)) (hn : xm_np co (i + 1) = pc + 1) (hp0 : X.1[p0]? = some (.inl (3, n))) (hj : ¬ (j < 0 ∨ n ≤ j.toNatClampNeg)) (hl : xm_lh LS nL ad ls) (hW : xm_Wd cl D cA ad A X.1 H h) (hS : va_S A s.heap H locs) (kk : xm_C p l e R s m args below meth c cells slots Q cl X D cA ad A nL co (i + 1, ls, .long (h.2.1 p0 j.toNatClampNeg) :: r, h)) : W p l e R s m args below meth c H locs cells slots Q (F0 m pc LS ((.int j :: .ref p0 :: r : List Value).map (xm_cv ad))) := by
  obtain ⟨hx, hb, hml, hown, hts, hK, hX, hCK, hAC, HT⟩ := E
  have k2 := kk LS H locs hl hW hS
  rw [show xm_np co (i + 1) = pc + 1 from hn] at k2
  exact va_lald (n := n) (f := h.2.1 p0) hx hb hK hW.1 p0 3 (xm_wd_at hp0) (xm_tys_at cA (by decide)) hj hd k2
theorem xm_o_aald (E : xm_Env p s m args c T0 T cl TX X D cA ad A own cc nL) {t n p0 : Nat} {j : Int32} {r : List Value} (hd : decode cc pc = .ok (.aaload, 1)) (hn : xm_np co (i + 1) = pc + 1) (ht : t = 4 ∨ t = 5) (hp0 : X.1[p0]? = some (.inl (t, n))) (hj : ¬ (j < 0 ∨ n ≤ j.toNatClampNeg)) (hl : xm_lh LS nL ad ls) (hW : xm_Wd cl D cA ad A X.1 H h) (hS : va_S A s.heap H locs) (kk : xm_C p l e R s m args below meth c cells slots Q cl X D cA ad A nL co (i + 1, ls, va_rf (h.2.2 p0 j.toNatClampNeg) :: r, h)) : W p l e R s m args below meth c H locs cells slots Q (F0 m pc LS ((.int j :: .ref p0 :: r : List Value).map (xm_cv ad))) := by
  obtain ⟨hx, hb, hml, hown, hts, hK, hX, hCK, hAC, HT⟩ := E
  have k2 := kk LS H locs hl hW hS
  rw [show xm_np co (i + 1) = pc + 1 from hn] at k2
  rw [List.map_cons, xm_cv_rf] at k2
  rcases ht with rfl | rfl
  · exact va_aldq (n := n) (f := fun j => (h.2.2 p0 j).map ad) hx hb hK hW.1 p0 4 (xm_wd_at hp0) (xm_tys_at cA (by decide)) hj hd k2
  · exact va_aldq (n := n) (f := fun j => (h.2.2 p0 j).map ad) hx hb hK hW.1 p0 5 (xm_wd_at hp0) (xm_tys_at cA (by decide)) hj hd k2
theorem xm_o_alen (E : xm_Env p s m args c T0 T cl TX X D cA ad A own cc nL) {t n p0 : Nat} {r : List Value} (hd : decode cc pc = .ok (.arraylength, 1)) (hn : xm_np co (i + 1) = pc + 1) (ht : t < 6) (hp0 : X.1[p0]? = some (.inl (t, n))) (hl : xm_lh LS nL ad ls) (hW : xm_Wd cl D cA ad A X.1 H h) (hS : va_S A s.heap H locs) (kk : xm_C p l e R s m args below meth c cells slots Q cl X D cA ad A nL co (i + 1, ls, .int (Int32.ofNat n) :: r, h)) : W p l e R s m args below meth c H locs cells slots Q (F0 m pc LS ((.ref p0 :: r : List Value).map (xm_cv ad))) := by
  obtain ⟨hx, hb, hml, hown, hts, hK, hX, hCK, hAC, HT⟩ := E
  have k2 := kk LS H locs hl hW hS
  rw [show xm_np co (i + 1) = pc + 1 from hn] at k2
  exact va_alen (x := xm_ac ad h p0 t n) hx hb hK hW.1 p0 t (xm_wd_at hp0) (xm_tys_at cA ht) rfl hd k2
theorem xm_o_alenx (E : xm_Env p s m args c T0 T cl TX X D cA ad A own cc nL) {t n p0 : Nat} {f : Nat → Int32} {r : List Value} (hd : decode cc pc = .ok (.arraylength, 1)) (hn : xm_np co (i + 1) = pc + 1) (hp0 : X.2.1 p0 = some (t, n, f)) (hl : xm_lh LS nL ad ls) (hW : xm_Wd cl D cA ad A X.1 H h) (hS : va_S A s.heap H locs) (kk : xm_C p l e R s m args below meth c cells slots Q cl X D cA ad A nL co (i + 1, ls, .int (Int32.ofNat n) :: r, h)) : W p l e R s m args below meth c H locs cells slots Q (F0 m pc LS ((.ref p0 :: r : List Value).map (xm_cv ad))) := by
  obtain ⟨hx, hb, hml, hown, hts, hK, hX, hCK, hAC, HT⟩ := E
  have k2 := kk LS H locs hl hW hS
  rw [show xm_np co (i + 1) = pc + 1 from hn] at k2
  exact va_tlen hx hb (hX.1 p0 t n f hp0).2 hS rfl hd k2
theorem xm_o_iast (E : xm_Env p s m args c T0 T cl TX X D cA ad A own cc nL) {n p0 : Nat} {j : Int32} {x : Int32} {r : List Value} (hd : decode cc pc = .ok (.iastore, 1)) (hn : xm_np co (i + 1) = pc + 1) (hp0 : X.1[p0]? = some (.inl (0, n))) (hj : ¬ (j < 0 ∨ n ≤ j.toNatClampNeg)) (hl : xm_lh LS nL ad ls) (hW : xm_Wd cl D cA ad A X.1 H h) (hS : va_S A s.heap H locs) (kk : xm_C p l e R s m args below meth c cells slots Q cl X D cA ad A nL co (i + 1, ls, r, xm_si h p0 j.toNatClampNeg x)) : W p l e R s m args below meth c H locs cells slots Q (F0 m pc LS ((.int x :: .int j :: .ref p0 :: r : List Value).map (xm_cv ad))) := by
  obtain ⟨hx, hb, hml, hown, hts, hK, hX, hCK, hAC, HT⟩ := E
  refine va_iast (n := n) (f := h.1 p0) hx hb hK hW.1 hW.2 hS p0 0 (xm_wd_at hp0) (xm_tys_at cA (by decide)) hj hd (fun H1 locs1 hP1 hD1 hS1 => ?_)
  have e1 := xm_wd_set (cl := cl) (cA := cA) (ad := ad) (h := h) (h' := xm_si h p0 j.toNatClampNeg x) hp0 (fun k hk => by simp [xm_si, hk])
  have e2 : xm_cell cl cA ad (xm_si h p0 j.toNatClampNeg x) p0 (.inl (0, n)) = .inl (cA 0, n, .inl (upd (h.1 p0) j.toNatClampNeg x)) := by simp [xm_cell, xm_ac, xm_si]
  rw [e2] at e1
  rw [e1] at hP1 hD1
  have k2 := kk LS H1 locs1 hl ⟨hP1, hD1⟩ hS1
  rw [show xm_np co (i + 1) = pc + 1 from hn] at k2
  exact k2
theorem xm_o_bast (E : xm_Env p s m args c T0 T cl TX X D cA ad A own cc nL) {n p0 : Nat} {j : Int32} {x : Int32} {r : List Value} (hd : decode cc pc = .ok (.bastore, 1)) (hn : xm_np co (i + 1) = pc + 1) (hp0 : X.1[p0]? = some (.inl (1, n))) (hj : ¬ (j < 0 ∨ n ≤ j.toNatClampNeg)) (hl : xm_lh LS nL ad ls) (hW : xm_Wd cl D cA ad A X.1 H h) (hS : va_S A s.heap H locs) (kk : xm_C p l e R s m args below meth c cells slots Q cl X D cA ad A nL co (i + 1, ls, r, xm_si h p0 j.toNatClampNeg (vp_nar .byte x))) : W p l e R s m args below meth c H locs cells slots Q (F0 m pc LS ((.int x :: .int j :: .ref p0 :: r : List Value).map (xm_cv ad))) := by
  obtain ⟨hx, hb, hml, hown, hts, hK, hX, hCK, hAC, HT⟩ := E
  refine va_bast (n := n) (f := h.1 p0) hx hb hK hW.1 hW.2 hS p0 1 (xm_wd_at hp0) (xm_tys_at cA (by decide)) hj hd (fun H1 locs1 hP1 hD1 hS1 => ?_)
  have e1 := xm_wd_set (cl := cl) (cA := cA) (ad := ad) (h := h) (h' := xm_si h p0 j.toNatClampNeg (vp_nar .byte x)) hp0 (fun k hk => by simp [xm_si, hk])
  have e2 : xm_cell cl cA ad (xm_si h p0 j.toNatClampNeg (vp_nar .byte x)) p0 (.inl (1, n)) = .inl (cA 1, n, .inl (upd (h.1 p0) j.toNatClampNeg (vp_nar .byte x))) := by simp [xm_cell, xm_ac, xm_si]
  rw [e2] at e1
  rw [e1] at hP1 hD1
  have k2 := kk LS H1 locs1 hl ⟨hP1, hD1⟩ hS1
  rw [show xm_np co (i + 1) = pc + 1 from hn] at k2
  exact k2
theorem xm_o_zast (E : xm_Env p s m args c T0 T cl TX X D cA ad A own cc nL) {n p0 : Nat} {j : Int32} {x : Int32} {r : List Value} (hd : decode cc pc = .ok (.bastore, 1)) (hn : xm_np co (i + 1) = pc + 1) (hp0 : X.1[p0]? = some (.inl (2, n))) (hj : ¬ (j < 0 ∨ n ≤ j.toNatClampNeg)) (hl : xm_lh LS nL ad ls) (hW : xm_Wd cl D cA ad A X.1 H h) (hS : va_S A s.heap H locs) (kk : xm_C p l e R s m args below meth c cells slots Q cl X D cA ad A nL co (i + 1, ls, r, xm_si h p0 j.toNatClampNeg (vp_nar .boolean x))) : W p l e R s m args below meth c H locs cells slots Q (F0 m pc LS ((.int x :: .int j :: .ref p0 :: r : List Value).map (xm_cv ad))) := by
  obtain ⟨hx, hb, hml, hown, hts, hK, hX, hCK, hAC, HT⟩ := E
  refine va_zast (n := n) (f := h.1 p0) hx hb hK hW.1 hW.2 hS p0 2 (xm_wd_at hp0) (xm_tys_at cA (by decide)) hj hd (fun H1 locs1 hP1 hD1 hS1 => ?_)
  have e1 := xm_wd_set (cl := cl) (cA := cA) (ad := ad) (h := h) (h' := xm_si h p0 j.toNatClampNeg (vp_nar .boolean x)) hp0 (fun k hk => by simp [xm_si, hk])
  have e2 : xm_cell cl cA ad (xm_si h p0 j.toNatClampNeg (vp_nar .boolean x)) p0 (.inl (2, n)) = .inl (cA 2, n, .inl (upd (h.1 p0) j.toNatClampNeg (vp_nar .boolean x))) := by simp [xm_cell, xm_ac, xm_si]
  rw [e2] at e1
  rw [e1] at hP1 hD1
  have k2 := kk LS H1 locs1 hl ⟨hP1, hD1⟩ hS1
  rw [show xm_np co (i + 1) = pc + 1 from hn] at k2
  exact k2
theorem xm_o_last (E : xm_Env p s m args c T0 T cl TX X D cA ad A own cc nL) {n p0 : Nat} {j : Int32} {x : Int64} {r : List Value} (hd : decode cc pc = .ok (.lastore, 1)) (hn : xm_np co (i + 1) = pc + 1) (hp0 : X.1[p0]? = some (.inl (3, n))) (hj : ¬ (j < 0 ∨ n ≤ j.toNatClampNeg)) (hl : xm_lh LS nL ad ls) (hW : xm_Wd cl D cA ad A X.1 H h) (hS : va_S A s.heap H locs) (kk : xm_C p l e R s m args below meth c cells slots Q cl X D cA ad A nL co (i + 1, ls, r, xm_sl h p0 j.toNatClampNeg x)) : W p l e R s m args below meth c H locs cells slots Q (F0 m pc LS ((.long x :: .int j :: .ref p0 :: r : List Value).map (xm_cv ad))) := by
  obtain ⟨hx, hb, hml, hown, hts, hK, hX, hCK, hAC, HT⟩ := E
  refine va_last (n := n) (f := h.2.1 p0) hx hb hK hW.1 hW.2 hS p0 3 (xm_wd_at hp0) (xm_tys_at cA (by decide)) hj hd (fun H1 locs1 hP1 hD1 hS1 => ?_)
  have e1 := xm_wd_set (cl := cl) (cA := cA) (ad := ad) (h := h) (h' := xm_sl h p0 j.toNatClampNeg x) hp0 (fun k hk => by simp [xm_sl, hk])
  have e2 : xm_cell cl cA ad (xm_sl h p0 j.toNatClampNeg x) p0 (.inl (3, n)) = .inl (cA 3, n, .inr (.inl (vp_updL (h.2.1 p0) j.toNatClampNeg x))) := by simp [xm_cell, xm_ac, xm_sl]
  rw [e2] at e1
  rw [e1] at hP1 hD1
  have k2 := kk LS H1 locs1 hl ⟨hP1, hD1⟩ hS1
  rw [show xm_np co (i + 1) = pc + 1 from hn] at k2
  exact k2
theorem xm_o_cpyi (E : xm_Env p s m args c T0 T cl TX X D cA ad A own cc nL) {n0 n1 p0 q0 ix w : Nat} {sp dp n : Int32} {r : List Value} (hd : decode cc pc = .ok (.invokestatic ix, 3)) (hn : xm_np co (i + 1) = pc + 3) (hw : T0[w]? = some (.methodLink own ix arraycopyName)) (hF : 1 ≤ R.frames) (hL : 64 ≤ R.locals) (hp0 : X.1[p0]? = some (.inl (0, n0))) (hq0 : X.1[q0]? = some (.inl (0, n1))) (hj : ¬ (sp < 0 ∨ dp < 0 ∨ n < 0 ∨ n0 < sp.toNatClampNeg + n.toNatClampNeg ∨ n1 < dp.toNatClampNeg + n.toNatClampNeg ∨ 8 < (r.map fun v => v.category).sum)) (hl : xm_lh LS nL ad ls) (hW : xm_Wd cl D cA ad A X.1 H h) (hS : va_S A s.heap H locs) (kk : xm_C p l e R s m args below meth c cells slots Q cl X D cA ad A nL co (i + 1, ls, r, xm_ci_cpy h p0 q0 sp.toNatClampNeg dp.toNatClampNeg n.toNatClampNeg)) : W p l e R s m args below meth c H locs cells slots Q (F0 m pc LS ((.int n :: .int dp :: .ref q0 :: .int sp :: .ref p0 :: r : List Value).map (xm_cv ad))) := by
  obtain ⟨hx, hb, hml, hown, hts, hK, hX, hCK, hAC, HT⟩ := E
  simp only [not_or, Nat.not_lt] at hj
  obtain ⟨j1, j2, j3, j4, j5, j6⟩ := hj
  have hcat : ((r.map (xm_cv ad)).map fun v => v.category).sum ≤ 8 := by rw [xm_cats_cv]; exact j6
  refine va_copyi (n0 := n0) (n1 := n1) (f := h.1 p0) (g := h.1 q0) (ty := xm_ty 0) hx hb (hml.trans hl.2.1.symm) hown (xm_at hts HT hw rfl) (hts _ hAC.1.1) (hts _ hAC.1.2.1) (hts _ hAC.1.2.2) hK hW.1 hW.2 hS p0 q0 0 0 (xm_wd_at hp0) (xm_wd_at hq0) (xm_tys_at cA (by decide)) (xm_tys_at cA (by decide)) rfl j1 j2 j3 j4 j5 (fun _ _ => rfl) hF (Nat.le_trans (Nat.add_le_add_right hcat _) (Nat.le_trans (by decide) hL)) hd (fun H1 locs1 hP1 hD1 hS1 => ?_)
  have e1 := xm_wd_set (cl := cl) (cA := cA) (ad := ad) (h := h) (h' := xm_ci_cpy h p0 q0 sp.toNatClampNeg dp.toNatClampNeg n.toNatClampNeg) hq0 (fun k hk => by simp [xm_ci_cpy, hk])
  have e2 : xm_cell cl cA ad (xm_ci_cpy h p0 q0 sp.toNatClampNeg dp.toNatClampNeg n.toNatClampNeg) q0 (.inl (0, n1)) = .inl (cA 0, n1, .inl (va_cpy (h.1 p0) (h.1 q0) sp.toNatClampNeg dp.toNatClampNeg n.toNatClampNeg)) := by simp [xm_cell, xm_ac, xm_ci_cpy]
  rw [e2] at e1
  rw [e1] at hP1 hD1
  have k2 := kk LS H1 locs1 hl ⟨hP1, hD1⟩ hS1
  rw [show xm_np co (i + 1) = pc + 3 from hn] at k2
  exact k2
theorem xm_o_cpyl (E : xm_Env p s m args c T0 T cl TX X D cA ad A own cc nL) {n0 n1 p0 q0 ix w : Nat} {sp dp n : Int32} {r : List Value} (hd : decode cc pc = .ok (.invokestatic ix, 3)) (hn : xm_np co (i + 1) = pc + 3) (hw : T0[w]? = some (.methodLink own ix arraycopyName)) (hF : 1 ≤ R.frames) (hL : 64 ≤ R.locals) (hp0 : X.1[p0]? = some (.inl (3, n0))) (hq0 : X.1[q0]? = some (.inl (3, n1))) (hj : ¬ (sp < 0 ∨ dp < 0 ∨ n < 0 ∨ n0 < sp.toNatClampNeg + n.toNatClampNeg ∨ n1 < dp.toNatClampNeg + n.toNatClampNeg ∨ 8 < (r.map fun v => v.category).sum)) (hl : xm_lh LS nL ad ls) (hW : xm_Wd cl D cA ad A X.1 H h) (hS : va_S A s.heap H locs) (kk : xm_C p l e R s m args below meth c cells slots Q cl X D cA ad A nL co (i + 1, ls, r, xm_cl_cpy h p0 q0 sp.toNatClampNeg dp.toNatClampNeg n.toNatClampNeg)) : W p l e R s m args below meth c H locs cells slots Q (F0 m pc LS ((.int n :: .int dp :: .ref q0 :: .int sp :: .ref p0 :: r : List Value).map (xm_cv ad))) := by
  obtain ⟨hx, hb, hml, hown, hts, hK, hX, hCK, hAC, HT⟩ := E
  simp only [not_or, Nat.not_lt] at hj
  obtain ⟨j1, j2, j3, j4, j5, j6⟩ := hj
  have hcat : ((r.map (xm_cv ad)).map fun v => v.category).sum ≤ 8 := by rw [xm_cats_cv]; exact j6
  refine va_copyl (n0 := n0) (n1 := n1) (f := h.2.1 p0) (g := h.2.1 q0) (ty := xm_ty 3) hx hb (hml.trans hl.2.1.symm) hown (xm_at hts HT hw rfl) (hts _ hAC.1.1) (hts _ hAC.1.2.1) (hts _ hAC.1.2.2) hK hW.1 hW.2 hS p0 q0 3 3 (xm_wd_at hp0) (xm_wd_at hq0) (xm_tys_at cA (by decide)) (xm_tys_at cA (by decide)) rfl j1 j2 j3 j4 j5 (fun _ _ => rfl) hF (Nat.le_trans (Nat.add_le_add_right hcat _) (Nat.le_trans (by decide) hL)) hd (fun H1 locs1 hP1 hD1 hS1 => ?_)
  have e1 := xm_wd_set (cl := cl) (cA := cA) (ad := ad) (h := h) (h' := xm_cl_cpy h p0 q0 sp.toNatClampNeg dp.toNatClampNeg n.toNatClampNeg) hq0 (fun k hk => by simp [xm_cl_cpy, hk])
  have e2 : xm_cell cl cA ad (xm_cl_cpy h p0 q0 sp.toNatClampNeg dp.toNatClampNeg n.toNatClampNeg) q0 (.inl (3, n1)) = .inl (cA 3, n1, .inr (.inl (va_cpy (h.2.1 p0) (h.2.1 q0) sp.toNatClampNeg dp.toNatClampNeg n.toNatClampNeg))) := by simp [xm_cell, xm_ac, xm_cl_cpy]
  rw [e2] at e1
  rw [e1] at hP1 hD1
  have k2 := kk LS H1 locs1 hl ⟨hP1, hD1⟩ hS1
  rw [show xm_np co (i + 1) = pc + 3 from hn] at k2
  exact k2
theorem xm_o_max (E : xm_Env p s m args c T0 T cl TX X D cA ad A own cc nL) {ix w : Nat} {x y : Int32} {r : List Value} (hd : decode cc pc = .ok (.invokestatic ix, 3)) (hn : xm_np co (i + 1) = pc + 3) (hw : T0[w]? = some (.methodLink own ix Lib.Math.max.name)) (hF : 1 ≤ R.frames) (hL : 64 ≤ R.locals) (hcs : cells ≤ R.cells ∧ slots ≤ R.slots) (hj : ¬ 8 < (r.map fun v => v.category).sum) (hl : xm_lh LS nL ad ls) (hW : xm_Wd cl D cA ad A X.1 H h) (hS : va_S A s.heap H locs) (kk : xm_C p l e R s m args below meth c cells slots Q cl X D cA ad A nL co (i + 1, ls, .int (if x < y then y else x) :: r, h)) : W p l e R s m args below meth c H locs cells slots Q (F0 m pc LS ((.int y :: .int x :: r : List Value).map (xm_cv ad))) := by
  obtain ⟨hx, hb, hml, hown, hts, hK, hX, hCK, hAC, HT⟩ := E
  have k2 := kk LS H locs hl hW hS
  rw [show xm_np co (i + 1) = pc + 3 from hn] at k2
  have hcat : ((r.map (xm_cv ad)).map fun v => v.category).sum ≤ 8 := by rw [xm_cats_cv]; exact Nat.not_lt.mp hj
  exact va_mmax hx hb (hml.trans hl.2.1.symm) hown (xm_at hts HT hw rfl) (hts _ hAC.2.2.1.1) (hts _ hAC.2.1) (hts _ hAC.2.2.1.2) hF (by omega) hcs.1 hcs.2 hd k2
theorem xm_o_min (E : xm_Env p s m args c T0 T cl TX X D cA ad A own cc nL) {ix w : Nat} {x y : Int32} {r : List Value} (hd : decode cc pc = .ok (.invokestatic ix, 3)) (hn : xm_np co (i + 1) = pc + 3) (hw : T0[w]? = some (.methodLink own ix Lib.Math.min.name)) (hF : 1 ≤ R.frames) (hL : 64 ≤ R.locals) (hcs : cells ≤ R.cells ∧ slots ≤ R.slots) (hj : ¬ 8 < (r.map fun v => v.category).sum) (hl : xm_lh LS nL ad ls) (hW : xm_Wd cl D cA ad A X.1 H h) (hS : va_S A s.heap H locs) (kk : xm_C p l e R s m args below meth c cells slots Q cl X D cA ad A nL co (i + 1, ls, .int (if y < x then y else x) :: r, h)) : W p l e R s m args below meth c H locs cells slots Q (F0 m pc LS ((.int y :: .int x :: r : List Value).map (xm_cv ad))) := by
  obtain ⟨hx, hb, hml, hown, hts, hK, hX, hCK, hAC, HT⟩ := E
  have k2 := kk LS H locs hl hW hS
  rw [show xm_np co (i + 1) = pc + 3 from hn] at k2
  have hcat : ((r.map (xm_cv ad)).map fun v => v.category).sum ≤ 8 := by rw [xm_cats_cv]; exact Nat.not_lt.mp hj
  exact va_mmin hx hb (hml.trans hl.2.1.symm) hown (xm_at hts HT hw rfl) (hts _ hAC.2.2.2.1.1) (hts _ hAC.2.1) (hts _ hAC.2.2.2.1.2) hF (by omega) hcs.1 hcs.2 hd k2
theorem xm_o_abs (E : xm_Env p s m args c T0 T cl TX X D cA ad A own cc nL) {ix w : Nat} {x : Int32} {r : List Value} (hd : decode cc pc = .ok (.invokestatic ix, 3)) (hn : xm_np co (i + 1) = pc + 3) (hw : T0[w]? = some (.methodLink own ix Lib.Math.abs.name)) (hF : 1 ≤ R.frames) (hL : 64 ≤ R.locals) (hcs : cells ≤ R.cells ∧ slots ≤ R.slots) (hj : ¬ 8 < (r.map fun v => v.category).sum) (hl : xm_lh LS nL ad ls) (hW : xm_Wd cl D cA ad A X.1 H h) (hS : va_S A s.heap H locs) (kk : xm_C p l e R s m args below meth c cells slots Q cl X D cA ad A nL co (i + 1, ls, .int (if 0 ≤ x then x else 0 - x) :: r, h)) : W p l e R s m args below meth c H locs cells slots Q (F0 m pc LS ((.int x :: r : List Value).map (xm_cv ad))) := by
  obtain ⟨hx, hb, hml, hown, hts, hK, hX, hCK, hAC, HT⟩ := E
  have k2 := kk LS H locs hl hW hS
  rw [show xm_np co (i + 1) = pc + 3 from hn] at k2
  have hcat : ((r.map (xm_cv ad)).map fun v => v.category).sum ≤ 8 := by rw [xm_cats_cv]; exact Nat.not_lt.mp hj
  exact va_mabs hx hb (hml.trans hl.2.1.symm) hown (xm_at hts HT hw rfl) (hts _ hAC.2.2.2.2.1.1) (hts _ hAC.2.1) (hts _ hAC.2.2.2.2.1.2) hF (by omega) hcs.1 hcs.2 hd k2
theorem xm_o_minl (E : xm_Env p s m args c T0 T cl TX X D cA ad A own cc nL) {ix w : Nat} {x y : Int64} {r : List Value} (hd : decode cc pc = .ok (.invokestatic ix, 3)) (hn : xm_np co (i + 1) = pc + 3) (hw : T0[w]? = some (.methodLink own ix Lib.MathLoose.min_long.x)) (hF : 1 ≤ R.frames) (hL : 64 ≤ R.locals) (hcs : cells ≤ R.cells ∧ slots ≤ R.slots) (hj : ¬ 8 < (r.map fun v => v.category).sum) (hl : xm_lh LS nL ad ls) (hW : xm_Wd cl D cA ad A X.1 H h) (hS : va_S A s.heap H locs) (kk : xm_C p l e R s m args below meth c cells slots Q cl X D cA ad A nL co (i + 1, ls, .long (if y < x then y else x) :: r, h)) : W p l e R s m args below meth c H locs cells slots Q (F0 m pc LS ((.long y :: .long x :: r : List Value).map (xm_cv ad))) := by
  obtain ⟨hx, hb, hml, hown, hts, hK, hX, hCK, hAC, HT⟩ := E
  have k2 := kk LS H locs hl hW hS
  rw [show xm_np co (i + 1) = pc + 3 from hn] at k2
  have hcat : ((r.map (xm_cv ad)).map fun v => v.category).sum ≤ 8 := by rw [xm_cats_cv]; exact Nat.not_lt.mp hj
  exact va_mmin_long hx hb (hml.trans hl.2.1.symm) hown (xm_at hts HT hw rfl) (hts _ hAC.2.2.2.2.2.1) (hts _ hAC.2.1) (hts _ hAC.2.2.2.2.2.2) hF (by omega) hcs.1 hcs.2 hd k2
end XMS3
