/-! Ways through moves, what they cost; what is nearest; the first way of the nearest. -/
def wk (nx : Nat → St → Option St) (c : Nat → Nat) : Nat → St → Nat → St → Prop
  | 0, s, v, t => v = 0 ∧ s = t
  | n + 1, s, v, t => ∃ k u b, k < 10 ∧ nx k s = some u ∧ wk nx c n u b t ∧ v = c k + b
def cq (p : Nat → Bool) : Nat → Nat
  | 0 => 0
  | n + 1 => cq p n + (if p n = true then 1 else 0)
def sm (f : Nat → Nat) : Nat → Nat
  | 0 => 0
  | n + 1 => sm f n + f n
theorem cq_le {p q : Nat → Bool} : ∀ N, (∀ x, x < N → p x = true → q x = true) → cq p N ≤ cq q N
  | 0, _ => Nat.le_refl _
  | N + 1, h => by
    have ih := cq_le N (fun x hx => h x (by omega))
    simp only [cq]
    by_cases hp : p N = true
    · rw [if_pos hp, if_pos (h N (by omega) hp)]; omega
    · rw [if_neg hp]; omega
theorem cq_lt {p q : Nat → Bool} {y : Nat} : ∀ N, (∀ x, x < N → p x = true → q x = true) → y < N → p y = false → q y = true → cq p N < cq q N
  | 0, _, hy, _, _ => absurd hy (Nat.not_lt_zero _)
  | N + 1, h, hy, h1, h2 => by
    simp only [cq]
    by_cases hN : y = N
    · subst hN
      have := cq_le y (fun x hx => h x (by omega))
      rw [h1, h2, if_neg (by decide), if_pos rfl]
      omega
    · have ih := cq_lt N (fun x hx => h x (by omega)) (by omega) h1 h2
      by_cases hp : p N = true
      · rw [if_pos hp, if_pos (h N (by omega) hp)]; omega
      · rw [if_neg hp]; omega
theorem cq_n {p : Nat → Bool} : ∀ N, cq p N ≤ N
  | 0 => Nat.le_refl _
  | N + 1 => by
    have := cq_n (p := p) N
    simp only [cq]
    split <;> omega
theorem cq_ltn {p : Nat → Bool} {y N : Nat} (hy : y < N) (h : p y = false) : cq p N < N := by
  have a := cq_lt (p := p) (q := fun _ => true) N (fun _ _ _ => rfl) hy h rfl
  have b := cq_n (p := fun _ => true) N
  omega
theorem sm_le {f g : Nat → Nat} : ∀ N, (∀ x, x < N → f x ≤ g x) → sm f N ≤ sm g N
  | 0, _ => Nat.le_refl _
  | N + 1, h => by
    have ih := sm_le N (fun x hx => h x (by omega))
    have := h N (by omega)
    simp only [sm]
    omega
theorem sm_lt {f g : Nat → Nat} {y : Nat} : ∀ N, (∀ x, x < N → f x ≤ g x) → y < N → f y < g y → sm f N < sm g N
  | 0, _, hy, _ => absurd hy (Nat.not_lt_zero _)
  | N + 1, h, hy, h1 => by
    simp only [sm]
    by_cases hN : y = N
    · subst hN
      have := sm_le y (fun x hx => h x (by omega))
      omega
    · have ih := sm_lt N (fun x hx => h x (by omega)) (by omega) h1
      have := h N (by omega)
      omega
theorem least_of {p : Nat → Prop} : ∀ n, p n → ∃ m, p m ∧ ∀ x, p x → m ≤ x := by
  intro n
  induction n using Nat.strongRecOn with
  | _ n ih =>
    intro hn
    by_cases h : ∃ x, x < n ∧ p x
    · obtain ⟨x, hx, hp⟩ := h
      exact ih x hx hp
    · refine ⟨n, hn, fun x hx => ?_⟩
      by_cases q : n ≤ x
      · exact q
      · exact absurd ⟨x, by omega, hx⟩ h
section PURE
variable {nx : Nat → St → Option St} {c : Nat → Nat} {s0 : St} {N : Nat} {Q : Nat → St} {par mv dep : Nat → Nat} {W : St → Prop}
theorem wk_snoc {k : Nat} {t u : St} (hk : k < 10) (h : nx k t = some u) : ∀ n s v, wk nx c n s v t → wk nx c (n + 1) s (v + c k) u
  | 0, s, v, hw => by
    obtain ⟨rfl, rfl⟩ := hw
    exact ⟨k, u, 0, hk, h, ⟨rfl, rfl⟩, by omega⟩
  | n + 1, s, v, hw => by
    obtain ⟨k', u', b, h1, h2, h3, rfl⟩ := hw
    exact ⟨k', u', b + c k, h1, h2, wk_snoc hk h n u' b h3, by omega⟩
theorem wk_app : ∀ n s v t m v' u, wk nx c n s v t → wk nx c m t v' u → ∃ k, wk nx c k s (v + v') u
  | 0, s, v, t, m, v', u, h1, h2 => by
    obtain ⟨rfl, rfl⟩ := h1
    exact ⟨m, by rw [Nat.zero_add]; exact h2⟩
  | n + 1, s, v, t, m, v', u, h1, h2 => by
    obtain ⟨k', u', b, a1, a2, a3, rfl⟩ := h1
    obtain ⟨q, hq⟩ := wk_app n u' b t m v' u a3 h2
    exact ⟨q + 1, k', u', b + v', a1, a2, hq, by omega⟩
/-- what is nearest: as both tell it -/
def Near (nx : Nat → St → Option St) (c : Nat → Nat) (W : St → Prop) (s0 : St) (r : Int32) : Prop := (∃ n m w, wk nx c n s0 m w ∧ W w ∧ m < 100000000 ∧ r = nI m ∧ ∀ n' m' w', wk nx c n' s0 m' w' → W w' → m ≤ m') ∨ (r = -1 ∧ ∀ n m w, wk nx c n s0 m w → ¬ W w)
theorem Near.uniq {r r' : Int32} (h : Near nx c W s0 r) (h' : Near nx c W s0 r') : r = r' := by
  rcases h with ⟨n, m, w, a1, a2, a3, a4, a5⟩ | ⟨a1, a2⟩
  · rcases h' with ⟨n', m', w', b1, b2, b3, b4, b5⟩ | ⟨b1, b2⟩
    · have e1 := a5 n' m' w' b1 b2
      have e2 := b5 n m w a1 a2
      rw [a4, b4, show m = m' by omega]
    · exact absurd a2 (b2 n m w a1)
  · rcases h' with ⟨n', m', w', b1, b2, b3, b4, b5⟩ | ⟨b1, b2⟩
    · exact absurd b2 (a2 n' m' w' b1)
    · rw [a1, b1]
theorem BF.way (h : BF nx s0 N Q par mv dep) : ∀ j, j < N → ∃ n, wk nx (fun _ => 1) n s0 (dep j) (Q j) := by
  intro j
  induction j using Nat.strongRecOn with
  | _ j ih =>
    intro hj
    by_cases z : j = 0
    · subst z
      refine ⟨0, h.2.2.1, h.2.1.symm⟩
    · have p := h.pr (j := j) (by omega) hj
      obtain ⟨n, hn⟩ := ih (par j) p.1 (by omega)
      have := wk_snoc p.2.1 p.2.2.1 n s0 _ hn
      rw [p.2.2.2]
      exact ⟨n + 1, this⟩
theorem BF.reach (h : BF nx s0 N Q par mv dep) : ∀ n a m t, a < N → wk nx c n (Q a) m t → ∃ j, j < N ∧ Q j = t
  | 0, a, m, t, ha, hw => ⟨a, ha, hw.2⟩
  | n + 1, a, m, t, ha, hw => by
    obtain ⟨k, u, b, h1, h2, h3, -⟩ := hw
    obtain ⟨j, q1, q2, -⟩ := h.edge ha h1 h2
    rw [← q2] at h3
    exact BF.reach h n j b t q1 h3
theorem BF.pot (h : BF nx s0 N Q par mv dep) {F : Nat → Nat} (hF : ∀ a b j, a < N → b < 10 → j < N → nx b (Q a) = some (Q j) → F j ≤ F a + c b) : ∀ n a m j, a < N → j < N → wk nx c n (Q a) m (Q j) → F j ≤ F a + m
  | 0, a, m, j, ha, hj, hw => by
    have := h.2.2.2.1 a j ha hj hw.2
    rw [this]; omega
  | n + 1, a, m, j, ha, hj, hw => by
    obtain ⟨k, u, b, h1, h2, h3, rfl⟩ := hw
    obtain ⟨x, q1, q2, -⟩ := h.edge ha h1 h2
    rw [← q2] at h3 h2
    have e1 := BF.pot h hF n x b j q1 hj h3
    have e2 := hF a k x ha h1 q1 h2
    omega
theorem BF.dle (h : BF nx s0 N Q par mv dep) : ∀ j, j < N → dep j ≤ j := by
  intro j
  induction j using Nat.strongRecOn with
  | _ j ih =>
    intro hj
    by_cases z : j = 0
    · rw [z, h.2.2.1]; exact Nat.le_refl _
    · have p := h.pr (j := j) (by omega) hj
      have := ih (par j) p.1 (by omega)
      omega
/-- the first that is wished is the nearest -/
theorem BF.near (h : BF nx s0 N Q par mv dep) (hN : N < 1000000) {g : Nat} (hg : g < N) (hW : W (Q g)) (h1 : ∀ j, j < g → ¬ W (Q j)) : Near nx (fun _ => 1) W s0 (nI (dep g)) := by
  obtain ⟨n, hn⟩ := h.way g hg
  have := h.dle g hg
  refine Or.inl ⟨n, dep g, Q g, hn, hW, by omega, rfl, fun n' m' w' hw' hW' => ?_⟩
  rw [← h.2.1] at hw'
  obtain ⟨j, hj, e⟩ := h.reach n' 0 m' w' h.1 hw'
  rw [← e] at hw' hW'
  have hgj : g ≤ j := by
    by_cases q : g ≤ j
    · exact q
    · exact absurd hW' (h1 j (by omega))
  have a := h.pot (F := dep) (fun a b j ha hb hj e => h.dedge ha hb hj e) n' 0 m' j h.1 hj hw'
  have b := h.mono j g hgj hj
  have e0 := h.2.2.1
  omega
theorem BF.nearN (h : BF nx s0 N Q par mv dep) (h1 : ∀ j, j < N → ¬ W (Q j)) : Near nx c W s0 (-1) := by
  refine Or.inr ⟨rfl, fun n m w hw hW => ?_⟩
  rw [← h.2.1] at hw
  obtain ⟨j, hj, e⟩ := h.reach n 0 m w h.1 hw
  rw [← e] at hW
  exact h1 j hj hW
/-- two searches find the same in the same order -/
theorem BF.same1 {N' : Nat} {Q' : Nat → St} {par' mv' dep' : Nat → Nat} (h : BF nx s0 N Q par mv dep) (h' : BF nx s0 N' Q' par' mv' dep') : ∀ j, j < N → j < N' ∧ Q' j = Q j ∧ (1 ≤ j → par' j = par j ∧ mv' j = mv j) ∧ dep' j = dep j := by
  intro j
  induction j using Nat.strongRecOn with
  | _ j ih =>
    intro hj
    by_cases z : j = 0
    · subst z
      exact ⟨h'.1, h'.2.1.trans h.2.1.symm, fun q => absurd q (by omega), h'.2.2.1.trans h.2.2.1.symm⟩
    · have p := h.pr (j := j) (by omega) hj
      have ip := ih (par j) p.1 (by omega)
      have e1 : nx (mv j) (Q' (par j)) = some (Q j) := by rw [ip.2.1]; exact p.2.2.1
      obtain ⟨x, x1, x2, x3⟩ := h'.edge ip.1 p.2.1 e1
      have xj : j ≤ x := by
        by_cases q : j ≤ x
        · exact q
        · have := ih x (by omega) (by omega)
          have e2 : Q x = Q j := this.2.1.symm.trans x2
          have := h.2.2.2.1 x j (by omega) hj e2
          omega
      have hj' : j < N' := by omega
      have p' := h'.pr (j := j) (by omega) hj'
      have ip' := ih (par' j) p'.1 (by omega)
      have e1' : nx (mv' j) (Q (par' j)) = some (Q' j) := by rw [← ip'.2.1]; exact p'.2.2.1
      obtain ⟨y, y1, y2, y3⟩ := h.edge (a := par' j) (by omega) p'.2.1 e1'
      have yj : j ≤ y := by
        by_cases q : j ≤ y
        · exact q
        · have := ih y (by omega) (by omega)
          have e2 : Q' y = Q' j := this.2.1.trans y2
          have := h'.2.2.2.1 y j this.1 hj' e2
          omega
      have l1 : par' j < par' x ∨ par' j = par' x ∧ mv' j ≤ mv' x := by
        by_cases q : j = x
        · rw [q]; exact Or.inr ⟨rfl, Nat.le_refl _⟩
        · have := h'.2.2.2.2.2.1 j x (by omega) (by omega) x1
          unfold lx at this
          omega
      have l2 : par j < par y ∨ par j = par y ∧ mv j ≤ mv y := by
        by_cases q : j = y
        · rw [q]; exact Or.inr ⟨rfl, Nat.le_refl _⟩
        · have := h.2.2.2.2.2.1 j y (by omega) (by omega) y1
          unfold lx at this
          omega
      have ep : par' j = par j := by omega
      have em : mv' j = mv j := by omega
      refine ⟨hj', ?_, fun _ => ⟨ep, em⟩, ?_⟩
      · have a := p'.2.2.1
        rw [ep, em, e1] at a
        exact (Option.some.inj a).symm
      · rw [p'.2.2.2, p.2.2.2, ep, ip.2.2.2]
theorem BF.same {N' : Nat} {Q' : Nat → St} {par' mv' dep' : Nat → Nat} (h : BF nx s0 N Q par mv dep) (h' : BF nx s0 N' Q' par' mv' dep') : N' = N := by
  have a : N ≤ N' := by
    by_cases q : N ≤ N'
    · exact q
    · have := (h.same1 h' N' (by omega)).1
      omega
  have b : N' ≤ N := by
    by_cases q : N' ≤ N
    · exact q
    · have := (h'.same1 h N (by omega)).1
      omega
  omega
/-- what the reference's far is at last -/
def PF (nx : Nat → St → Option St) (c : Nat → Nat) (s0 : St) (N : Nat) (Q : Nat → St) (F : Nat → Nat) : Prop := F 0 = 0 ∧ (∀ a b j, a < N → b < 10 → j < N → nx b (Q a) = some (Q j) → F j ≤ F a + c b) ∧ (∀ j, j < N → ∃ n, wk nx c n s0 (F j) (Q j))
theorem PF.dp {F : Nat → Nat} (h : BF nx s0 N Q par mv dep) (hF : PF nx (fun _ => 1) s0 N Q F) : ∀ j, j < N → F j = dep j := by
  intro j hj
  obtain ⟨n, hn⟩ := hF.2.2 j hj
  obtain ⟨n', hn'⟩ := h.way j hj
  rw [← h.2.1] at hn hn'
  have a := h.pot (F := dep) (fun a b j ha hb hj e => h.dedge ha hb hj e) n 0 _ j h.1 hj hn
  have b := h.pot (c := fun _ => 1) (F := F) hF.2.1 n' 0 _ j h.1 hj hn'
  have e0 := h.2.2.1
  have e1 := hF.1
  omega
theorem PF.near {F : Nat → Nat} (h : BF nx s0 N Q par mv dep) (hF : PF nx c s0 N Q F) {g : Nat} (hg : g < N) (hb : F g < 100000000) (hW : W (Q g)) (h1 : ∀ j, j < N → W (Q j) → F g ≤ F j) : Near nx c W s0 (nI (F g)) := by
  obtain ⟨n, hn⟩ := hF.2.2 g hg
  refine Or.inl ⟨n, F g, Q g, hn, hW, hb, rfl, fun n' m' w' hw' hW' => ?_⟩
  rw [← h.2.1] at hw'
  obtain ⟨j, hj, e⟩ := h.reach n' 0 m' w' h.1 hw'
  rw [← e] at hw' hW'
  have a := h.pot hF.2.1 n' 0 m' j h.1 hj hw'
  have b := h1 j hj hW'
  have e0 := hF.1
  omega
/-! The first way of the nearest. -/
def LDs (nx : Nat → St → Option St) (c : Nat → Nat) (W : St → Prop) (Q : Nat → St) (F : Nat → Nat) (en j : Nat) : Prop := ∃ n m w, wk nx c n (Q j) m w ∧ W w ∧ F j + m = en
def LEg (nx : Nat → St → Option St) (c : Nat → Nat) (W : St → Prop) (N : Nat) (Q : Nat → St) (F : Nat → Nat) (en j k x : Nat) : Prop := x < N ∧ nx k (Q j) = some (Q x) ∧ F x = F j + c k ∧ LDs nx c W Q F en x
def GA (nx : Nat → St → Option St) (c : Nat → Nat) (W : St → Prop) (N : Nat) (Q : Nat → St) (F : Nat → Nat) (en : Nat) : Nat → Nat → Int32 → Prop
  | 0, j, r => (F j = en ∧ r = -1) ∨ (F j < en ∧ ∃ k x, k < 10 ∧ LEg nx c W N Q F en j k x ∧ (∀ k', k' < k → ∀ x', ¬ LEg nx c W N Q F en j k' x') ∧ r = nI k)
  | n + 1, j, r => (F j = en ∧ r = -1) ∨ (F j < en ∧ ∃ k x, k < 10 ∧ LEg nx c W N Q F en j k x ∧ (∀ k', k' < k → ∀ x', ¬ LEg nx c W N Q F en j k' x') ∧ GA nx c W N Q F en n x r)
theorem LEg.uniq {F : Nat → Nat} {en j k x k' x' : Nat} (hQ : ∀ a b, a < N → b < N → Q a = Q b → a = b) (h : LEg nx c W N Q F en j k x) (h1 : ∀ k', k' < k → ∀ x', ¬ LEg nx c W N Q F en j k' x') (h' : LEg nx c W N Q F en j k' x') (h1' : ∀ k, k < k' → ∀ x', ¬ LEg nx c W N Q F en j k x') : k = k' ∧ x = x' := by
  have e : k = k' := by
    rcases Nat.lt_trichotomy k k' with q | q | q
    · exact absurd h (h1' k q x)
    · exact q
    · exact absurd h' (h1 k' q x')
  subst e
  refine ⟨rfl, hQ x x' h.1 h'.1 ?_⟩
  have a := h.2.1
  rw [h'.2.1] at a
  exact (Option.some.inj a).symm
theorem GA.uniq {F : Nat → Nat} {en : Nat} (hQ : ∀ a b, a < N → b < N → Q a = Q b → a = b) : ∀ n j r r', GA nx c W N Q F en n j r → GA nx c W N Q F en n j r' → r = r'
  | 0, j, r, r', h, h' => by
    rcases h with ⟨a1, a2⟩ | ⟨a1, k, x, a2, a3, a4, a5⟩
    · rcases h' with ⟨b1, b2⟩ | ⟨b1, -⟩
      · rw [a2, b2]
      · omega
    · rcases h' with ⟨b1, b2⟩ | ⟨b1, k', x', b2, b3, b4, b5⟩
      · omega
      · rw [a5, b5, (LEg.uniq hQ a3 a4 b3 b4).1]
  | n + 1, j, r, r', h, h' => by
    rcases h with ⟨a1, a2⟩ | ⟨a1, k, x, a2, a3, a4, a5⟩
    · rcases h' with ⟨b1, b2⟩ | ⟨b1, -⟩
      · rw [a2, b2]
      · omega
    · rcases h' with ⟨b1, b2⟩ | ⟨b1, k', x', b2, b3, b4, b5⟩
      · omega
      · rw [← (LEg.uniq hQ a3 a4 b3 b4).2] at b5
        exact GA.uniq hQ n x r r' a5 b5
/-- by the tree of a search -/
def anc (par : Nat → Nat) (g : Nat) : Nat → Nat
  | 0 => g
  | n + 1 => par (anc par g n)
theorem BF.up (h : BF nx s0 N Q par mv dep) {g : Nat} (hg : g < N) : ∀ e, e ≤ dep g → anc par g e < N ∧ dep (anc par g e) = dep g - e
  | 0, _ => ⟨hg, rfl⟩
  | e + 1, he => by
    have ih := BF.up h hg e (by omega)
    have p := h.pr (j := anc par g e) (by
      rcases Nat.eq_zero_or_pos (anc par g e) with q | q
      · have := ih.2
        rw [q, h.2.2.1] at this
        omega
      · exact q) ih.1
    show par (anc par g e) < N ∧ dep (par (anc par g e)) = _
    omega
/-- who is found earlier, of one depth, leads to what is found earlier -/
theorem BF.early (h : BF nx s0 N Q par mv dep) {g : Nat} (hg : g < N) (h1 : ∀ j, j < g → ¬ W (Q j)) : ∀ n e j m w, e ≤ dep g → j < N → dep j + m = dep g → dep j + e = dep g → j < anc par g e → wk nx (fun _ => 1) n (Q j) m w → W w → False
  | 0, e, j, m, w, he, hj, hd, hde, hlt, hw, hW => by
    obtain ⟨rfl, rfl⟩ := hw
    have : e = 0 := by omega
    subst this
    exact h1 j hlt hW
  | n + 1, e, j, m, w, he, hj, hd, hde, hlt, hw, hW => by
    obtain ⟨k, u, b, q1, q2, q3, em⟩ := hw
    have em : m = 1 + b := em
    subst em
    obtain ⟨x, x1, x2, x3⟩ := h.edge hj q1 q2
    rw [← x2] at q2 q3
    have dx := h.dedge hj q1 x1 q2
    have he1 : 1 ≤ e := by omega
    obtain ⟨y, hy, e1⟩ := h.reach n x b w x1 q3
    have hgy : dep g ≤ dep y := by
      by_cases z : g ≤ y
      · exact h.mono y g z hy
      · rw [← e1] at hW
        exact absurd hW (h1 y (by omega))
    rw [← e1] at q3
    have dy := h.pot (F := dep) (fun a b j ha hb hj e => h.dedge ha hb hj e) n x b y x1 hy q3
    have a1 := h.up hg (e - 1) (by omega)
    have a2 : anc par g e = par (anc par g (e - 1)) := by
      obtain ⟨e', rfl⟩ : ∃ e', e = e' + 1 := ⟨e - 1, by omega⟩
      rfl
    have hxd : dep x = dep j + 1 := by omega
    have hlt' : x < anc par g (e - 1) := by
      rcases Nat.lt_trichotomy x (anc par g (e - 1)) with q | q | q
      · exact q
      · rcases x3 with x3 | x3
        · rw [x3, h.2.2.1] at hxd; omega
        · rw [a2, ← q] at hlt
          omega
      · rcases Nat.eq_zero_or_pos (anc par g (e - 1)) with z | z
        · rw [z, h.2.2.1] at a1; omega
        · have l := h.2.2.2.2.2.1 (anc par g (e - 1)) x z q x1
          unfold lx at l
          rw [← a2] at l
          have : x ≠ 0 := by omega
          omega
    rw [e1] at q3
    exact BF.early h hg h1 n (e - 1) x b w (by omega) x1 (by omega) (by omega) hlt' q3 hW
theorem BF.ga1 (h : BF nx s0 N Q par mv dep) {g : Nat} (hg : g < N) (hW : W (Q g)) (h1 : ∀ j, j < g → ¬ W (Q j)) {e : Nat} (he : e + 1 ≤ dep g) : LEg nx (fun _ => 1) W N Q dep (dep g) (anc par g (e + 1)) (mv (anc par g e)) (anc par g e) ∧ (∀ k', k' < mv (anc par g e) → ∀ x', ¬ LEg nx (fun _ => 1) W N Q dep (dep g) (anc par g (e + 1)) k' x') ∧ mv (anc par g e) < 10 := by
  have a1 := h.up hg e (by omega)
  have hpos : 1 ≤ anc par g e := by
    rcases Nat.eq_zero_or_pos (anc par g e) with z | z
    · rw [z, h.2.2.1] at a1; omega
    · exact z
  have p := h.pr hpos a1.1
  have ld : ∀ e, e ≤ dep g → LDs nx (fun _ => 1) W Q dep (dep g) (anc par g e) := by
    intro e
    induction e with
    | zero => intro _; exact ⟨0, 0, Q g, ⟨rfl, rfl⟩, hW, rfl⟩
    | succ e ih =>
      intro he
      obtain ⟨n, m, w, w1, w2, w3⟩ := ih (by omega)
      have b1 := h.up hg e (by omega)
      have bpos : 1 ≤ anc par g e := by
        rcases Nat.eq_zero_or_pos (anc par g e) with z | z
        · rw [z, h.2.2.1] at b1; omega
        · exact z
      have p := h.pr bpos b1.1
      refine ⟨n + 1, 1 + m, w, ⟨mv (anc par g e), Q (anc par g e), m, p.2.1, p.2.2.1, w1, rfl⟩, w2, ?_⟩
      show dep (par (anc par g e)) + (1 + m) = dep g
      omega
  refine ⟨⟨a1.1, p.2.2.1, p.2.2.2, ld e (by omega)⟩, fun k' hk' x' hle => ?_, p.2.1⟩
  obtain ⟨c1, c2, c3, n, m, w, w1, w2, w3⟩ := hle
  have hjN : par (anc par g e) < N := by omega
  obtain ⟨y, y1, y2, y3⟩ := h.edge (a := par (anc par g e)) (b := k') hjN (by omega) c2
  have : y = x' := h.2.2.2.1 y x' y1 c1 y2
  subst this
  have dpar : dep (par (anc par g e)) + 1 = dep (anc par g e) := p.2.2.2.symm
  have c3' : dep y = dep (par (anc par g e)) + 1 := c3
  have hlt : y < anc par g e := by
    rcases Nat.lt_trichotomy y (anc par g e) with q | q | q
    · exact q
    · rcases y3 with y3 | y3
      · omega
      · rw [q] at y3
        omega
    · have l := h.2.2.2.2.2.1 (anc par g e) y hpos q y1
      unfold lx at l
      omega
  exact h.early hg h1 n e y m w (by omega) c1 w3 (by omega) hlt w1 w2
theorem BF.ga (h : BF nx s0 N Q par mv dep) {g : Nat} (hg : g < N) (hW : W (Q g)) (h1 : ∀ j, j < g → ¬ W (Q j)) : ∀ i e, e ≤ dep g → GA nx (fun _ => 1) W N Q dep (dep g) i (anc par g e) (if i < e then nI (mv (anc par g (e - 1 - i))) else -1)
  | 0, e, he => by
    have a := h.up hg e he
    rcases Nat.eq_zero_or_pos e with z | z
    · subst z
      exact Or.inl ⟨rfl, rfl⟩
    · obtain ⟨e', rfl⟩ : ∃ e', e = e' + 1 := ⟨e - 1, by omega⟩
      obtain ⟨b1, b2, b3⟩ := h.ga1 hg hW h1 he
      refine Or.inr ⟨by omega, mv (anc par g e'), anc par g e', b3, b1, b2, ?_⟩
      rw [if_pos (by omega)]
      rfl
  | i + 1, e, he => by
    have a := h.up hg e he
    rcases Nat.eq_zero_or_pos e with z | z
    · subst z
      exact Or.inl ⟨rfl, rfl⟩
    · obtain ⟨e', rfl⟩ : ∃ e', e = e' + 1 := ⟨e - 1, by omega⟩
      obtain ⟨b1, b2, b3⟩ := h.ga1 hg hW h1 he
      refine Or.inr ⟨by omega, mv (anc par g e'), anc par g e', b3, b1, b2, ?_⟩
      have ih := BF.ga h hg hW h1 i e' (by omega)
      have e1 : (if i + 1 < e' + 1 then nI (mv (anc par g (e' + 1 - 1 - (i + 1)))) else -1) = (if i < e' then nI (mv (anc par g (e' - 1 - i))) else -1) := by
        by_cases q : i < e'
        · rw [if_pos q, if_pos (by omega), show e' + 1 - 1 - (i + 1) = e' - 1 - i by omega]
        · rw [if_neg q, if_neg (by omega)]
      rw [e1]
      exact ih
theorem BF.up0 (h : BF nx s0 N Q par mv dep) {g : Nat} (hg : g < N) : anc par g (dep g) = 0 := by
  have a := h.up hg (dep g) (Nat.le_refl _)
  rcases Nat.eq_zero_or_pos (anc par g (dep g)) with z | z
  · exact z
  · have p := h.pr z a.1
    omega
/-! What is left to what is wished, by cost. -/
def CT (nx : Nat → St → Option St) (c : Nat → Nat) (W : St → Prop) (N : Nat) (Q : Nat → St) (C : Nat → Nat) : Prop := ∀ j, j < N → (C j = 1000000 ∧ ∀ n m w, wk nx c n (Q j) m w → ¬ W w) ∨ (C j < 1000000 ∧ (∃ n w, wk nx c n (Q j) (C j) w ∧ W w) ∧ ∀ n m w, wk nx c n (Q j) m w → W w → C j ≤ m)
theorem CT.near {C : Nat → Nat} (h : BF nx s0 N Q par mv dep) (hC : CT nx c W N Q C) : Near nx c W s0 (if C 0 = 1000000 then -1 else nI (C 0)) := by
  rcases hC 0 h.1 with ⟨a1, a2⟩ | ⟨a1, ⟨n, w, a2, a3⟩, a4⟩
  · rw [if_pos a1]
    refine Or.inr ⟨rfl, ?_⟩
    rw [h.2.1] at a2
    exact a2
  · rw [if_neg (by omega)]
    rw [h.2.1] at a2 a4
    exact Or.inl ⟨n, C 0, w, a2, a3, by omega, rfl, a4⟩
/-- of a state that leads: the cheap moves are those that lead -/
theorem CT.edge {C F : Nat → Nat} {en j k x : Nat} (h : BF nx s0 N Q par mv dep) (hF : PF nx c s0 N Q F) (hC : CT nx c W N Q C) (hmin : ∀ y, y < N → W (Q y) → en ≤ F y) (hj : j < N) (hl : F j + C j = en) (hCj : C j < 1000000) (hk : k < 10) (hx : x < N) (hn : nx k (Q j) = some (Q x)) : (C x + c k = C j ↔ LEg nx c W N Q F en j k x) ∧ (C x + c k = C j → F x + C x = en ∧ C x < 1000000) := by
  have fx := hF.2.1 j k x hj hk hx hn
  have low : ∀ y n m w, y < N → wk nx c n (Q y) m w → W w → en ≤ F y + m := by
    intro y n m w hy hw hW
    obtain ⟨z, hz, e⟩ := h.reach n y m w hy hw
    rw [← e] at hw hW
    have := h.pot hF.2.1 n y m z hy hz hw
    have := hmin z hz hW
    omega
  have key : C x + c k = C j → F x + C x = en ∧ C x < 1000000 ∧ F x = F j + c k := by
    intro e
    rcases hC x hx with ⟨a1, a2⟩ | ⟨a1, ⟨n, w, a2, a3⟩, a4⟩
    · omega
    · have := low x n (C x) w hx a2 a3
      omega
  refine ⟨⟨fun e => ?_, fun hle => ?_⟩, fun e => ⟨(key e).1, (key e).2.1⟩⟩
  · obtain ⟨k1, k2, k3⟩ := key e
    rcases hC x hx with ⟨a1, a2⟩ | ⟨a1, ⟨n, w, a2, a3⟩, a4⟩
    · omega
    · exact ⟨hx, hn, k3, n, C x, w, a2, a3, k1⟩
  · obtain ⟨b1, b2, b3, n, m, w, w1, w2, w3⟩ := hle
    rcases hC x hx with ⟨a1, a2⟩ | ⟨a1, ⟨n', w', a2, a3⟩, a4⟩
    · exact absurd w2 (a2 n m w w1)
    · have q1 := a4 n m w w1 w2
      have q2 := low x n' (C x) w' hx a2 a3
      omega
end PURE
