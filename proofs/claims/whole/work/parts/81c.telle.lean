/-! what a walk over letters holds: the constants, and that its own cells may change -/
def EA (adK adV : Nat → Nat) (zf : Option Nat) (A : Nat → Prop) (a : Nat → Nat) (N : Nat) (s : State) : Prop := SE adK adV zf A s s.heap ∧ SR adK s ∧ ∀ i, i < N → A (a i)
theorem EA_w {adK adV : Nat → Nat} {zf : Option Nat} {A : Nat → Prop} {a : Nat → Nat} {N : Nat} {s : State} (h : EA adK adV zf A a N s) (hA : ∀ q, s.heap.size ≤ q → A q) {wc : va_W} (hc : ∀ (k q : Nat) (e : va_E), wc[k]? = some (q, e) → ∃ i, i < N ∧ q = a i) : ∀ (H : Heap) (locs : List Loc) (U : State), va_S A s.heap H locs → U.heap = H → s.WarmedH U.vm → ES adK adV zf wc U := ES_w h.1 h.2.1 hA (fun k q e hk => by
  obtain ⟨i, hi, rfl⟩ := hc k q e hk
  exact h.2.2 i hi)
theorem EA_n {a : Nat → Nat} {N : Nat} : ∀ (k q : Nat) (e : va_E), ([] : va_W)[k]? = some (q, e) → ∃ i, i < N ∧ q = a i := fun k q e h => by simp at h
theorem T_in (cI cZ cO : ClassId) (a : Nat → Nat) (u : TS) : ∀ i, i < 2 → ∃ e : va_E, (wT cI cZ cO a u)[i]? = some (a i, e) := by
  intro i hi
  match i, hi with
  | 0, _ => exact ⟨_, rfl⟩
  | 1, _ => exact ⟨_, rfl⟩
theorem T_ad (cI cZ cO : ClassId) (a : Nat → Nat) (u : TS) : ∀ (k q : Nat) (e : va_E), (wT cI cZ cO a u)[k]? = some (q, e) → k < 2 ∧ q = a k := by
  intro k q e h
  rcases Nat.lt_or_ge k 2 with hk | hk
  · obtain ⟨e', h2⟩ := T_in cI cZ cO a u k hk
    rw [h2] at h
    exact ⟨hk, (congrArg Prod.fst (Option.some.inj h)).symm⟩
  · rw [List.getElem?_eq_none (show (wT cI cZ cO a u).length ≤ k from hk)] at h
    cases h
theorem T_EA {adK adV : Nat → Nat} {zf : Option Nat} {cI cZ cO : ClassId} {a : Nat → Nat} {u : TS} {s : State} {A : Nat → Prop} (h : ES adK adV zf (wT cI cZ cO a u) s) (hA : ∀ q : Nat, A q ↔ va_A (wT cI cZ cO a u) s.heap.size q) : EA adK adV zf A a 2 s := ⟨ES_at h hA, h.2, fun i hi => (hA _).mpr (Or.inl ⟨i, T_in cI cZ cO a u i hi⟩)⟩
theorem TV_in (cI cZ cO : ClassId) (a : Nat → Nat) (u : TS × VS) : ∀ i, i < 15 → ∃ e : va_E, (wTV cI cZ cO a u)[i]? = some (a i, e) := by
  intro i hi
  match i, hi with
  | 0, _ => exact ⟨_, rfl⟩
  | 1, _ => exact ⟨_, rfl⟩
  | 2, _ => exact ⟨_, rfl⟩
  | 3, _ => exact ⟨_, rfl⟩
  | 4, _ => exact ⟨_, rfl⟩
  | 5, _ => exact ⟨_, rfl⟩
  | 6, _ => exact ⟨_, rfl⟩
  | 7, _ => exact ⟨_, rfl⟩
  | 8, _ => exact ⟨_, rfl⟩
  | 9, _ => exact ⟨_, rfl⟩
  | 10, _ => exact ⟨_, rfl⟩
  | 11, _ => exact ⟨_, rfl⟩
  | 12, _ => exact ⟨_, rfl⟩
  | 13, _ => exact ⟨_, rfl⟩
  | 14, _ => exact ⟨_, rfl⟩
theorem TV_ad (cI cZ cO : ClassId) (a : Nat → Nat) (u : TS × VS) : ∀ (k q : Nat) (e : va_E), (wTV cI cZ cO a u)[k]? = some (q, e) → k < 15 ∧ q = a k := by
  intro k q e h
  rcases Nat.lt_or_ge k 15 with hk | hk
  · obtain ⟨e', h2⟩ := TV_in cI cZ cO a u k hk
    rw [h2] at h
    exact ⟨hk, (congrArg Prod.fst (Option.some.inj h)).symm⟩
  · rw [List.getElem?_eq_none (show (wTV cI cZ cO a u).length ≤ k from hk)] at h
    cases h
theorem TV_EA {adK adV : Nat → Nat} {zf : Option Nat} {cI cZ cO : ClassId} {a : Nat → Nat} {u : TS × VS} {s : State} {A : Nat → Prop} (h : ES adK adV zf (wTV cI cZ cO a u) s) (hA : ∀ q : Nat, A q ↔ va_A (wTV cI cZ cO a u) s.heap.size q) : EA adK adV zf A a 15 s := ⟨ES_at h hA, h.2, fun i hi => (hA _).mpr (Or.inl ⟨i, TV_in cI cZ cO a u i hi⟩)⟩
theorem X_in (cI cZ cO : ClassId) (a : Nat → Nat) (u : XS) : ∀ i, i < 47 → ∃ e : va_E, (wX cI cZ cO a u)[i]? = some (a i, e) := by
  intro i hi
  match i, hi with
  | 0, _ => exact ⟨_, rfl⟩
  | 1, _ => exact ⟨_, rfl⟩
  | 2, _ => exact ⟨_, rfl⟩
  | 3, _ => exact ⟨_, rfl⟩
  | 4, _ => exact ⟨_, rfl⟩
  | 5, _ => exact ⟨_, rfl⟩
  | 6, _ => exact ⟨_, rfl⟩
  | 7, _ => exact ⟨_, rfl⟩
  | 8, _ => exact ⟨_, rfl⟩
  | 9, _ => exact ⟨_, rfl⟩
  | 10, _ => exact ⟨_, rfl⟩
  | 11, _ => exact ⟨_, rfl⟩
  | 12, _ => exact ⟨_, rfl⟩
  | 13, _ => exact ⟨_, rfl⟩
  | 14, _ => exact ⟨_, rfl⟩
  | 15, _ => exact ⟨_, rfl⟩
  | 16, _ => exact ⟨_, rfl⟩
  | 17, _ => exact ⟨_, rfl⟩
  | 18, _ => exact ⟨_, rfl⟩
  | 19, _ => exact ⟨_, rfl⟩
  | 20, _ => exact ⟨_, rfl⟩
  | 21, _ => exact ⟨_, rfl⟩
  | 22, _ => exact ⟨_, rfl⟩
  | 23, _ => exact ⟨_, rfl⟩
  | 24, _ => exact ⟨_, rfl⟩
  | 25, _ => exact ⟨_, rfl⟩
  | 26, _ => exact ⟨_, rfl⟩
  | 27, _ => exact ⟨_, rfl⟩
  | 28, _ => exact ⟨_, rfl⟩
  | 29, _ => exact ⟨_, rfl⟩
  | 30, _ => exact ⟨_, rfl⟩
  | 31, _ => exact ⟨_, rfl⟩
  | 32, _ => exact ⟨_, rfl⟩
  | 33, _ => exact ⟨_, rfl⟩
  | 34, _ => exact ⟨_, rfl⟩
  | 35, _ => exact ⟨_, rfl⟩
  | 36, _ => exact ⟨_, rfl⟩
  | 37, _ => exact ⟨_, rfl⟩
  | 38, _ => exact ⟨_, rfl⟩
  | 39, _ => exact ⟨_, rfl⟩
  | 40, _ => exact ⟨_, rfl⟩
  | 41, _ => exact ⟨_, rfl⟩
  | 42, _ => exact ⟨_, rfl⟩
  | 43, _ => exact ⟨_, rfl⟩
  | 44, _ => exact ⟨_, rfl⟩
  | 45, _ => exact ⟨_, rfl⟩
  | 46, _ => exact ⟨_, rfl⟩
  | k + 47, h => exact absurd h (by omega)
theorem X_ad (cI cZ cO : ClassId) (a : Nat → Nat) (u : XS) : ∀ (k q : Nat) (e : va_E), (wX cI cZ cO a u)[k]? = some (q, e) → k < 47 ∧ q = a k := by
  intro k q e h
  rcases Nat.lt_or_ge k 47 with hk | hk
  · obtain ⟨e', h2⟩ := X_in cI cZ cO a u k hk
    rw [h2] at h
    exact ⟨hk, (congrArg Prod.fst (Option.some.inj h)).symm⟩
  · rw [List.getElem?_eq_none (show (wX cI cZ cO a u).length ≤ k from hk)] at h
    cases h
theorem X_EA {adK adV : Nat → Nat} {zf : Option Nat} {cI cZ cO : ClassId} {a : Nat → Nat} {u : XS} {s : State} {A : Nat → Prop} (h : ES adK adV zf (wX cI cZ cO a u) s) (hA : ∀ q : Nat, A q ↔ va_A (wX cI cZ cO a u) s.heap.size q) : EA adK adV zf A a 47 s := ⟨ES_at h hA, h.2, fun i hi => (hA _).mpr (Or.inl ⟨i, X_in cI cZ cO a u i hi⟩)⟩
theorem TV_sub (cI cZ cO : ClassId) (a : Nat → Nat) (u : TS × VS) : ∀ (k q : Nat) (e : va_E), (wTV cI cZ cO a u)[k]? = some (q, e) → ∃ i, i < 15 ∧ q = a i := fun k q e h => ⟨k, TV_ad cI cZ cO a u k q e h⟩
theorem TV_t_sub (cI cZ cO : ClassId) (a : Nat → Nat) (u : TS) : ∀ (k q : Nat) (e : va_E), (wT cI cZ cO (fun i => a (pm_TV_t i)) u)[k]? = some (q, e) → ∃ i, i < 15 ∧ q = a i := fun k q e h => by
  obtain ⟨h1, h2⟩ := T_ad cI cZ cO _ u k q e h
  refine ⟨pm_TV_t k, ?_, h2⟩
  match k, h1 with
  | 0, _ => decide
  | 1, _ => decide
