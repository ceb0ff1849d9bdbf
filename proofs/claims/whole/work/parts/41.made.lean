/-! What the constructors make: a machine that makes cells. All its numbers are known: nothing comes from the script. -/
/-- a made cell: an array (type, length, what was written), or an object (class, fields) -/
abbrev ym_E : Type := (Nat × Nat × List (Nat × Value)) ⊕ (Nat × List Value)
def ym_oi (ov : List (Nat × Value)) (j : Nat) : Int32 := match ov.find? (fun q => q.1 == j) with
  | some (_, .int x) => x
  | _ => 0
def ym_or (ad : Nat → Nat) (ov : List (Nat × Value)) (j : Nat) : Option Nat := match ov.find? (fun q => q.1 == j) with
  | some (_, .ref p) => some (ad p)
  | _ => none
def ym_cell (cA : Nat → ClassId) (ad : Nat → Nat) (e : ym_E) : va_E := match e with
  | .inl q => .inl (cA q.1, q.2.1, if q.1 = 3 then .inr (.inl (fun _ => 0)) else if q.1 < 3 then .inl (ym_oi q.2.2) else .inr (.inr (.inr (.inr (ym_or ad q.2.2)))))
  | .inr o => .inr (o.1, o.2.map (xm_cv ad))
def ym_wd (cA : Nat → ClassId) (ad : Nat → Nat) (cs : List ym_E) : va_W := cs.zipIdx.map (fun q => (ad q.2, ym_cell cA ad q.1))
/-- no number of a cell that isn't there yet -/
def ym_v (n : Nat) (v : Value) : Bool := match v with
  | .ref p => decide (p < n)
  | _ => true
def ym_e (n : Nat) (e : ym_E) : Bool := match e with
  | .inl q => q.2.2.all (fun x => ym_v n x.2)
  | .inr o => o.2.all (ym_v n)
def ym_ok (cs : List ym_E) (ls : xm_L) (st : List Value) : Bool := cs.all (ym_e cs.length) && ls.all (fun o => match o with
  | some v => ym_v cs.length v
  | none => true) && st.all (ym_v cs.length)
def ym_up (ad : Nat → Nat) (n q : Nat) : Nat → Nat := fun p => if p = n then q else ad p
/-- the same addresses below n -/
def ym_x (n : Nat) (ad ad' : Nat → Nat) : Prop := ∀ p, p < n → ad' p = ad p
section YM
variable {cA : Nat → ClassId} {ad ad' : Nat → Nat} {cs : List ym_E} {n : Nat}
theorem ym_cv_x (hx : ym_x n ad ad') {v : Value} (hv : ym_v n v = true) : xm_cv ad' v = xm_cv ad v := by
  cases v <;> simp only [xm_cv]
  rename_i p
  simp only [ym_v, decide_eq_true_eq] at hv
  rw [hx p hv]
theorem ym_cell_x (hx : ym_x n ad ad') {e : ym_E} (he : ym_e n e = true) : ym_cell cA ad' e = ym_cell cA ad e := by
  cases e with
  | inl q =>
    have hor : ym_or ad' q.2.2 = ym_or ad q.2.2 := by
      funext j
      unfold ym_or
      cases hf : q.2.2.find? (fun x => x.1 == j) with
      | none => rfl
      | some y =>
        have hm := List.mem_of_find?_eq_some hf
        have hv : ym_v n y.2 = true := List.all_eq_true.mp he y hm
        obtain ⟨a, v⟩ := y
        cases v <;> simp only
        rename_i p
        simp only [ym_v, decide_eq_true_eq] at hv
        rw [hx p hv]
    unfold ym_cell
    simp only [hor]
  | inr o =>
    unfold ym_cell
    simp only
    congr 2
    apply List.map_congr_left
    intro v hv
    exact ym_cv_x hx (List.all_eq_true.mp he v hv)
theorem ym_wd_get (k : Nat) : (ym_wd cA ad cs)[k]? = (cs[k]?).map (fun e => (ad k, ym_cell cA ad e)) := by
  unfold ym_wd
  rw [List.getElem?_map, List.getElem?_zipIdx]
  cases cs[k]? <;> simp
theorem ym_wd_at {k : Nat} {e : ym_E} (hk : cs[k]? = some e) : (ym_wd cA ad cs)[k]? = some (ad k, ym_cell cA ad e) := by
  rw [ym_wd_get, hk]; rfl
theorem ym_wd_x (hx : ym_x cs.length ad ad') (hc : cs.all (ym_e cs.length) = true) : ym_wd cA ad' cs = ym_wd cA ad cs := by
  apply List.ext_getElem?
  intro k
  rw [ym_wd_get, ym_wd_get]
  cases hk : cs[k]? with
  | none => rfl
  | some e =>
    have hl : k < cs.length := (List.getElem?_eq_some_iff.mp hk).1
    simp only [Option.map_some, hx k hl, ym_cell_x hx (List.all_eq_true.mp hc e (List.mem_of_getElem? hk))]
theorem ym_wd_push (q : Nat) (e : ym_E) (hc : cs.all (ym_e cs.length) = true) (he : ym_e cs.length e = true) : ym_wd cA (ym_up ad cs.length q) (cs ++ [e]) = ym_wd cA ad cs ++ [(q, ym_cell cA ad e)] := by
  have hx : ym_x cs.length ad (ym_up ad cs.length q) := fun p hp => by
    unfold ym_up
    rw [if_neg (by omega)]
  apply List.ext_getElem?
  intro k
  rw [ym_wd_get]
  have hlen : (ym_wd cA ad cs).length = cs.length := by simp [ym_wd]
  by_cases hk : k < cs.length
  · rw [List.getElem?_append_left hk, List.getElem?_append_left (by rw [hlen]; exact hk), ym_wd_get]
    cases he' : cs[k]? with
    | none => rfl
    | some e' => simp only [Option.map_some, hx k hk, ym_cell_x hx (List.all_eq_true.mp hc e' (List.mem_of_getElem? he'))]
  · rw [List.getElem?_append_right (by omega), List.getElem?_append_right (by rw [hlen]; omega), hlen]
    by_cases h0 : k = cs.length
    · subst h0
      simp only [Nat.sub_self, List.getElem?_cons_zero, Option.map_some, ym_up, if_true, ym_cell_x hx he]
    · have : 1 ≤ k - cs.length := by omega
      rw [List.getElem?_eq_none (by simpa using this), List.getElem?_eq_none (by simpa using this)]
      rfl
theorem ym_wd_set {p : Nat} {e e' : ym_E} (hp : cs[p]? = some e) : (ym_wd cA ad cs).set p (ad p, ym_cell cA ad e') = ym_wd cA ad (cs.set p e') := by
  have hl : p < cs.length := (List.getElem?_eq_some_iff.mp hp).1
  have hlen : (ym_wd cA ad cs).length = cs.length := by simp [ym_wd]
  apply List.ext_getElem?
  intro k
  rw [ym_wd_get]
  by_cases hk : k = p
  · subst hk
    rw [List.getElem?_set_self (by rw [hlen]; exact hl), List.getElem?_set_self hl]
    rfl
  · rw [List.getElem?_set_ne (Ne.symm hk), List.getElem?_set_ne (Ne.symm hk), ym_wd_get]
theorem ym_oi_up (ov : List (Nat × Value)) (i : Nat) (x : Int32) : ym_oi ((i, .int x) :: ov) = upd (ym_oi ov) i x := by
  funext j
  unfold ym_oi upd
  rw [List.find?_cons]
  by_cases h : j = i
  · subst h
    simp
  · have : (i == j) = false := by simp; omega
    simp [this, h]
theorem ym_or_up (ov : List (Nat × Value)) (i p : Nat) : ym_or ad ((i, .ref p) :: ov) = va_up (ym_or ad ov) i (some (ad p)) := by
  funext j
  unfold ym_or va_up
  rw [List.find?_cons]
  by_cases h : j = i
  · subst h
    simp
  · have : (i == j) = false := by simp; omega
    simp [this, h]
end YM
