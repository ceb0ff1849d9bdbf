/-! What the machine's numbers stand for: cells at addresses. -/
def xm_cv (ad : Nat → Nat) : Value → Value
  | .ref p => .ref (ad p)
  | v => v
theorem xm_cv_cat (ad : Nat → Nat) (v : Value) : (xm_cv ad v).category = v.category := by cases v <;> rfl
theorem xm_cv_rf (ad : Nat → Nat) (r : Option Nat) : xm_cv ad (va_rf r) = va_rf (r.map ad) := by cases r <;> rfl
theorem xm_cats_cv (ad : Nat → Nat) (st : List Value) : ((st.map (xm_cv ad)).map fun v => v.category).sum = xm_cats st := by
  unfold xm_cats
  congr 1
  rw [List.map_map]
  exact List.map_congr_left (fun v _ => xm_cv_cat ad v)
/-- the sort of a field: 0 int, 1 long, 2 a reference, 3 boolean -/
def xm_ds (s : String) : Nat := if s = "I" then 0 else if s = "Z" then 3 else if s = "J" then 1 else 2
def xm_ft (cl : List vw_C) (ci k : Nat) : Nat := match cl[ci]? with
  | some q => xm_ds (q.2.1 k).2.2.1
  | none => 9
def xm_nf (cl : List vw_C) (ci : Nat) : Nat := match cl[ci]? with
  | some q => q.2.2
  | none => 0
def xm_fv (cl : List vw_C) (ad : Nat → Nat) (h : xm_H) (p ci k : Nat) : Value := if xm_ft cl ci k = 1 then .long (h.2.1 p k) else if xm_ft cl ci k = 2 then va_rf ((h.2.2 p k).map ad) else .int (h.1 p k)
def xm_fs (cl : List vw_C) (ad : Nat → Nat) (h : xm_H) (p ci : Nat) : List Value := (List.range (xm_nf cl ci)).map (xm_fv cl ad h p ci)
/-- the types of arrays -/
def xm_ty (t : Nat) : FieldType := if t = 0 then .int else if t = 1 then .byte else if t = 2 then .boolean else if t = 3 then .long else if t = 4 then .object "SheetByTwo$Work" else .object "SheetByTwo$Row"
def xm_tys (cA : Nat → ClassId) : List (ClassId × FieldType) := (List.range 6).map (fun t => (cA t, xm_ty t))
theorem xm_tys_at (cA : Nat → ClassId) {t : Nat} (h : t < 6) : (xm_tys cA)[t]? = some (cA t, xm_ty t) := by
  unfold xm_tys
  rw [List.getElem?_map, List.getElem?_range h]
  rfl
def xm_ac (ad : Nat → Nat) (h : xm_H) (p t n : Nat) : vp_A := (n, if t = 3 then .inr (.inl (h.2.1 p)) else if t < 3 then .inl (h.1 p) else .inr (.inr (.inr (.inr (fun j => (h.2.2 p j).map ad)))))
def xm_cell (cl : List vw_C) (cA : Nat → ClassId) (ad : Nat → Nat) (h : xm_H) (p : Nat) (k : xm_K) : va_E := match k with
  | .inl q => .inl (cA q.1, xm_ac ad h p q.1 q.2)
  | .inr ci => .inr (ci, xm_fs cl ad h p ci)
def xm_wd (cl : List vw_C) (cA : Nat → ClassId) (ad : Nat → Nat) (S : List xm_K) (h : xm_H) : va_W := S.zipIdx.map (fun q => (ad q.2, xm_cell cl cA ad h q.2 q.1))
section XMP
variable {cl : List vw_C} {cA : Nat → ClassId} {ad : Nat → Nat} {S : List xm_K} {h h' : xm_H}
theorem xm_wd_get (k : Nat) : (xm_wd cl cA ad S h)[k]? = (S[k]?).map (fun kd => (ad k, xm_cell cl cA ad h k kd)) := by
  unfold xm_wd
  rw [List.getElem?_map, List.getElem?_zipIdx]
  cases S[k]? <;> simp
theorem xm_wd_at {k : Nat} {kd : xm_K} (hk : S[k]? = some kd) : (xm_wd cl cA ad S h)[k]? = some (ad k, xm_cell cl cA ad h k kd) := by
  rw [xm_wd_get, hk]; rfl
theorem xm_cell_same {p : Nat} {kd : xm_K} (h1 : h'.1 p = h.1 p) (h2 : h'.2.1 p = h.2.1 p) (h3 : h'.2.2 p = h.2.2 p) : xm_cell cl cA ad h' p kd = xm_cell cl cA ad h p kd := by
  unfold xm_cell xm_ac xm_fs
  cases kd with
  | inl q => simp only [h1, h2, h3]
  | inr ci =>
    have : xm_fv cl ad h' p ci = xm_fv cl ad h p ci := by
      funext k
      unfold xm_fv
      rw [h1, h2, h3]
    simp only [this]
theorem xm_wd_set {p : Nat} {kd : xm_K} (hp : S[p]? = some kd) (hne : ∀ k, k ≠ p → h'.1 k = h.1 k ∧ h'.2.1 k = h.2.1 k ∧ h'.2.2 k = h.2.2 k) : (xm_wd cl cA ad S h).set p (ad p, xm_cell cl cA ad h' p kd) = xm_wd cl cA ad S h' := by
  apply List.ext_getElem?
  intro k
  by_cases hk : k = p
  · subst hk
    have hl : k < (xm_wd cl cA ad S h).length := (List.getElem?_eq_some_iff.mp (xm_wd_at (cl := cl) (cA := cA) (ad := ad) (h := h) hp)).1
    rw [List.getElem?_set_self hl, xm_wd_at hp]
  · rw [List.getElem?_set_ne (Ne.symm hk), xm_wd_get, xm_wd_get]
    obtain ⟨h1, h2, h3⟩ := hne k hk
    cases S[k]? with
    | none => rfl
    | some kd' => simp only [Option.map_some, xm_cell_same h1 h2 h3]
theorem xm_fs_get {p ci k : Nat} (hk : k < xm_nf cl ci) : (xm_fs cl ad h p ci)[k]? = some (xm_fv cl ad h p ci k) := by
  unfold xm_fs
  rw [List.getElem?_map, List.getElem?_range hk]
  rfl
theorem xm_fs_len {p ci : Nat} : (xm_fs cl ad h p ci).length = xm_nf cl ci := by simp [xm_fs]
theorem xm_fs_set {p ci k : Nat} (hk : k < xm_nf cl ci) {v : Value} (hv : v = xm_fv cl ad h' p ci k) (hne : ∀ j, j ≠ k → h'.1 p j = h.1 p j ∧ h'.2.1 p j = h.2.1 p j ∧ h'.2.2 p j = h.2.2 p j) : (xm_fs cl ad h p ci).set k v = xm_fs cl ad h' p ci := by
  apply List.ext_getElem?
  intro j
  by_cases hj : j = k
  · subst hj
    rw [List.getElem?_set_self (by rw [xm_fs_len]; exact hk), xm_fs_get hk, hv]
  · rw [List.getElem?_set_ne (Ne.symm hj)]
    by_cases hl : j < xm_nf cl ci
    · rw [xm_fs_get hl, xm_fs_get hl]
      obtain ⟨h1, h2, h3⟩ := hne j hj
      unfold xm_fv
      rw [h1, h2, h3]
    · have e1 : (xm_fs cl ad h p ci)[j]? = none := by rw [List.getElem?_eq_none_iff, xm_fs_len]; omega
      have e2 : (xm_fs cl ad h' p ci)[j]? = none := by rw [List.getElem?_eq_none_iff, xm_fs_len]; omega
      rw [e1, e2]
end XMP
/-- the locals: what the machine's list says -/
def xm_cl (ad : Nat → Nat) (ls : xm_L) : List (Nat × Value) := ls.zipIdx.filterMap (fun q => q.1.map (fun v => (q.2, xm_cv ad v)))
theorem xm_cl_mem {ad : Nat → Nat} {ls : xm_L} {q : Nat × Value} : q ∈ xm_cl ad ls ↔ ∃ v, ls[q.1]? = some (some v) ∧ q.2 = xm_cv ad v := by
  unfold xm_cl
  rw [List.mem_filterMap]
  constructor
  · rintro ⟨⟨o, j⟩, hm, he⟩
    rw [List.mem_zipIdx_iff_getElem?] at hm
    cases o with
    | none => simp at he
    | some v =>
      simp only [Option.map_some, Option.some.injEq] at he
      subst he
      exact ⟨v, hm, rfl⟩
  · rintro ⟨v, h1, h2⟩
    refine ⟨(some v, q.1), ?_, ?_⟩
    · rw [List.mem_zipIdx_iff_getElem?]
      exact h1
    · simp only [Option.map_some]
      rw [← h2]
def xm_lh (LS : Array Slot) (nL : Nat) (ad : Nat → Nat) (ls : xm_L) : Prop := ls.length = nL ∧ lv_has LS nL (xm_cl ad ls)
theorem xm_lh.at {LS : Array Slot} {nL : Nat} {ad : Nat → Nat} {ls : xm_L} (h : xm_lh LS nL ad ls) {k : Nat} {v : Value} (hk : ls[k]? = some (some v)) : LS[k]? = some (.val (xm_cv ad v)) := h.2.2.2 (k, xm_cv ad v) (xm_cl_mem.mpr ⟨v, hk, rfl⟩)
theorem xm_clr_len (ls : xm_L) (k : Nat) : (xm_clr ls k).length = ls.length := by
  unfold xm_clr
  split
  · rfl
  · split
    · split <;> simp
    · rfl
theorem xm_clr_get {ls : xm_L} {k j : Nat} {v : Value} (hj : j ≠ k) (h : (xm_clr ls k)[j]? = some (some v)) : ls[j]? = some (some v) ∧ ¬ (j + 1 = k ∧ v.category = 2) := by
  unfold xm_clr at h
  split at h
  · exact ⟨h, fun q => by omega⟩
  · rename_i k'
    split at h
    · rename_i x hx
      split at h
      · by_cases hjk : j = k'
        · subst hjk
          have hl : j < ls.length := (List.getElem?_eq_some_iff.mp hx).1
          rw [List.getElem?_set_self hl] at h
          simp at h
        · rw [List.getElem?_set_ne (Ne.symm hjk)] at h
          exact ⟨h, fun q => hjk (by omega)⟩
      · rename_i hc
        refine ⟨h, fun q => ?_⟩
        have : j = k' := by omega
        subst this
        rw [hx] at h
        simp only [Option.some.injEq] at h
        subst h
        exact hc q.2
    · rename_i hx
      refine ⟨h, fun q => ?_⟩
      have : j = k' := by omega
      subst this
      exact hx v h
theorem xm_lh.s1 {LS : Array Slot} {nL : Nat} {ad : Nat → Nat} {ls : xm_L} {k : Nat} {v : Value} (hlen : ls.length = nL)
    (h : lv_has LS nL ((k, xm_cv ad v) :: (xm_cl ad ls).filter (fun q => !(q.1 == k) && !(q.1 + 1 == k && q.2.category == 2)))) : xm_lh LS nL ad (xm_s1 ls k v) := by
  refine ⟨by simp [xm_s1, xm_clr_len, hlen], h.1, h.2.1, fun q hq => h.2.2 q ?_⟩
  obtain ⟨w, hw, he⟩ := xm_cl_mem.mp hq
  unfold xm_s1 at hw
  by_cases hk : q.1 = k
  · rw [hk] at hw
    by_cases hl : k < (xm_clr ls k).length
    · rw [List.getElem?_set_self hl] at hw
      simp only [Option.some.injEq] at hw
      rw [List.mem_cons]
      left
      subst hw
      rw [← hk, ← he]
    · rw [List.getElem?_eq_none (by simp; omega)] at hw
      cases hw
  · rw [List.getElem?_set_ne (Ne.symm hk)] at hw
    obtain ⟨h1, h2⟩ := xm_clr_get hk hw
    refine List.mem_cons_of_mem _ (List.mem_filter.mpr ⟨xm_cl_mem.mpr ⟨w, h1, he⟩, ?_⟩)
    simp only [Bool.and_eq_true, Bool.not_eq_true', beq_eq_false_iff_ne, Bool.and_eq_false_imp, beq_iff_eq]
    refine ⟨hk, fun e1 e2 => ?_⟩
    rw [he, xm_cv_cat] at e2
    exact h2 ⟨e1, e2⟩
theorem xm_lh.s2 {LS : Array Slot} {nL : Nat} {ad : Nat → Nat} {ls : xm_L} {k : Nat} {v : Value} (hlen : ls.length = nL)
    (h : lv_has LS nL ((k, xm_cv ad v) :: (xm_cl ad ls).filter (fun q => !(q.1 == k) && (!(q.1 == k + 1) && !(q.1 + 1 == k && q.2.category == 2))))) : xm_lh LS nL ad (xm_s2 ls k v) := by
  refine ⟨by simp [xm_s2, xm_clr_len, hlen], h.1, h.2.1, fun q hq => h.2.2 q ?_⟩
  obtain ⟨w, hw, he⟩ := xm_cl_mem.mp hq
  unfold xm_s2 at hw
  by_cases hk1 : q.1 = k + 1
  · rw [hk1] at hw
    by_cases hl : k + 1 < ((xm_clr ls k).set k (some v)).length
    · rw [List.getElem?_set_self hl] at hw
      simp at hw
    · rw [List.getElem?_eq_none (by rw [List.length_set]; omega)] at hw
      cases hw
  rw [List.getElem?_set_ne (Ne.symm hk1)] at hw
  by_cases hk : q.1 = k
  · rw [hk] at hw
    by_cases hl : k < (xm_clr ls k).length
    · rw [List.getElem?_set_self hl] at hw
      simp only [Option.some.injEq] at hw
      rw [List.mem_cons]
      left
      subst hw
      rw [← hk, ← he]
    · rw [List.getElem?_eq_none (by simp; omega)] at hw
      cases hw
  · rw [List.getElem?_set_ne (Ne.symm hk)] at hw
    obtain ⟨h1, h2⟩ := xm_clr_get hk hw
    refine List.mem_cons_of_mem _ (List.mem_filter.mpr ⟨xm_cl_mem.mpr ⟨w, h1, he⟩, ?_⟩)
    simp only [Bool.and_eq_true, Bool.not_eq_true', beq_eq_false_iff_ne, Bool.and_eq_false_imp, beq_iff_eq]
    refine ⟨hk, hk1, fun e1 e2 => ?_⟩
    rw [he, xm_cv_cat] at e2
    exact h2 ⟨e1, e2⟩
/-- what stands outside: arrays, Strings, statics, the texts -/
def xm_sn (k : Nat) : String := if k = 0 then "coder" else "value"
def xm_sd (k : Nat) : String := if k = 0 then "B" else "[B"
def xm_zs (k : Nat) : String × String × String := if k = 0 then ("java/lang/String", "COMPACT_STRINGS", "Z") else if k = 1 then ("SheetByTwo$Linen", "ACT_OF", "[I") else if k = 2 then ("SheetByTwo$Linen", "MOVING_OF", "[I") else if k = 3 then ("SheetByTwo$Sheet", "HEM_BEHIND", "[I") else ("jdk/internal/util/Preconditions", "SIOOBE_FORMATTER", "Ljava/util/function/BiFunction;")
def xm_Ext (X : xm_X) (TX : List (String × Nat × String × Nat)) (ad : Nat → Nat) (A : Nat → Prop) (U : State) (H : Heap) : Prop :=
  (∀ p t n f, X.2.1 p = some (t, n, f) → t < 3 ∧ va_T (xm_ty t) (ad p) n (fun j => .int (f j)) A U H) ∧
  (∀ p k v, X.2.2.1 p k = some v → va_O "java/lang/String" (ad p) A U H ∧ va_OF "java/lang/String" (xm_sn k) (xm_sd k) (xm_cv ad v) (ad p) A U H) ∧
  (∀ k v, X.2.2.2 k = some v → va_Z (xm_zs k).1 (xm_zs k).2.1 (xm_zs k).2.2 (xm_cv ad v) A U H) ∧
  ∀ q ∈ TX, vk_R q.1 q.2.1 q.2.2.1 (ad q.2.2.2) U
theorem xm_Ext.call {X : xm_X} {TX : List (String × Nat × String × Nat)} {ad : Nat → Nat} {A : Nat → Prop} {s U : State} {H : Heap} (h : xm_Ext X TX ad A s s.heap) (hW : s.WarmedH U.vm) (hq : ∀ a : Nat, a < s.heap.size → ¬ A a → H[a]? = s.heap[a]?) : xm_Ext X TX ad A U H :=
  ⟨fun p t n f e => ⟨(h.1 p t n f e).1, ((h.1 p t n f e).2.kept hq).moved hW.alike⟩,
   fun p k v e => ⟨((h.2.1 p k v e).1.kept hq).moved hW.alike, ((h.2.1 p k v e).2.kept hq).moved hW.alike⟩,
   fun k v e => ((h.2.2.1 k v e).kept hq).moved hW.alike,
   fun q e => (h.2.2.2 q e).warm hW⟩
