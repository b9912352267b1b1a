/-! who is forgotten next, and when; when nobody is left -/
/-- nobody comes back by himself -/
theorem spT_gone {u : VS} {n p : Nat} (h0 : gV_here u p = 0) : ∀ k, gV_here (spT u n k) p = 0 := by
  intro k
  induction k with
  | zero => exact h0
  | succ k ih =>
    simp only [spT]
    split
    · exact ih
    · rw [(fgt_keep _ n _).2.2.2.2.2]
      by_cases e : p = Int32.toNatClampNeg (ls (spT u n k) n)
      · rw [← e, us]
      · rw [un e]; exact ih
theorem wk_gone {u : VS} {n p : Nat} (h0 : gV_here u p = 0) : gV_here (wk u n) p = 0 := by
  have h1 : gV_here (wk1 u n) p = 0 := by
    unfold wk1
    rw [(wkT_keep _ n n).2.2.2.1]; exact h0
  unfold wk
  split
  · exact spT_gone h1 _
  · exact h1
theorem wks_gone {u : VS} {n p i : Nat} (h0 : gV_here (wks u n i) p = 0) : ∀ m, gV_here (wks u n (i + m)) p = 0 := by
  intro m
  induction m with
  | zero => exact h0
  | succ m ih => exact wk_gone ih
theorem guT_ex (u : VS) (n p m : Nat) : ∀ i, guT u n p m i < i + m → gV_here (wks u n (guT u n p m i)) p = 0 := by
  induction m with
  | zero => intro i h; simp only [guT] at h; omega
  | succ m ih =>
    intro i h
    simp only [guT] at h ⊢
    by_cases g : gV_here (wks u n i) p = 0
    · rw [if_pos g]; exact g
    · rw [if_neg g] at h ⊢
      exact ih (i + 1) (by omega)
theorem guT_min (u : VS) (n p m : Nat) : ∀ i j, i ≤ j → j < guT u n p m i → ¬ gV_here (wks u n j) p = 0 := by
  induction m with
  | zero => intro i j h1 h2; simp only [guT] at h2; omega
  | succ m ih =>
    intro i j h1 h2
    simp only [guT] at h2
    by_cases g : gV_here (wks u n i) p = 0
    · rw [if_pos g] at h2; omega
    · rw [if_neg g] at h2
      by_cases e : j = i
      · rw [e]; exact g
      · exact ih (i + 1) j (by omega) h2
theorem gu_ex {u : VS} {n p : Nat} (h : gu u n p < 100) : gV_here (wks u n (gu u n p)) p = 0 := guT_ex u n p 100 0 (by unfold gu at h; omega)
theorem gu_min {u : VS} {n p j : Nat} (h : j < gu u n p) : ¬ gV_here (wks u n j) p = 0 := guT_min u n p 100 0 j (by omega) h
theorem gu_iff {u : VS} {n p j : Nat} (hj : j < 100) : gV_here (wks u n j) p = 0 ↔ gu u n p ≤ j := by
  constructor
  · intro h
    rcases Nat.lt_or_ge j (gu u n p) with g | g
    · exact absurd h (gu_min g)
    · exact g
  · intro h
    have := wks_gone (gu_ex (show gu u n p < 100 by omega)) (j - gu u n p)
    rw [show gu u n p + (j - gu u n p) = j by omega] at this
    exact this
/-- the first week, of at most m more from week i, behind which those here are others -/
def flT (u : VS) (n : Nat) : Nat → Nat → Nat
  | 0, i => i
  | m + 1, i => if hbN (wks u n i) n = hbN u n then flT u n m (i + 1) else i
def fl (u : VS) (n : Nat) : Nat := flT u n 99 1
theorem flT_le (u : VS) (n m : Nat) : ∀ i, flT u n m i ≤ i + m ∧ i ≤ flT u n m i := by
  induction m with
  | zero => intro i; exact ⟨Nat.le_refl _, Nat.le_refl _⟩
  | succ m ih =>
    intro i
    simp only [flT]
    split
    · have := ih (i + 1); omega
    · exact ⟨by omega, Nat.le_refl _⟩
theorem fl_le (u : VS) (n : Nat) : fl u n ≤ 100 ∧ 1 ≤ fl u n := by have := flT_le u n 99 1; unfold fl; omega
theorem flT_ex (u : VS) (n m : Nat) : ∀ i, flT u n m i < i + m → ¬ hbN (wks u n (flT u n m i)) n = hbN u n := by
  induction m with
  | zero => intro i h; simp only [flT] at h; omega
  | succ m ih =>
    intro i h
    simp only [flT] at h ⊢
    by_cases g : hbN (wks u n i) n = hbN u n
    · rw [if_pos g] at h ⊢
      exact ih (i + 1) (by omega)
    · rw [if_neg g]; exact g
theorem flT_min (u : VS) (n m : Nat) : ∀ i j, i ≤ j → j < flT u n m i → hbN (wks u n j) n = hbN u n := by
  induction m with
  | zero => intro i j h1 h2; simp only [flT] at h2; omega
  | succ m ih =>
    intro i j h1 h2
    simp only [flT] at h2
    by_cases g : hbN (wks u n i) n = hbN u n
    · rw [if_pos g] at h2
      by_cases e : j = i
      · rw [e]; exact g
      · exact ih (i + 1) j (by omega) h2
    · rw [if_neg g] at h2; omega
theorem hb_ext {u w : VS} {n : Nat} : hbN u n = hbN w n ↔ ∀ p, p < n → (gV_here u p = 0 ↔ gV_here w p = 0) := by
  constructor
  · intro h p hp
    have h1 := hb_bit u n p
    have h2 := hb_bit w n p
    rw [h, h2] at h1
    simp only [hp, decide_true, Bool.true_and, Bool.not_eq_eq_eq_not, Bool.not_not] at h1
    have h3 := decide_eq_decide.mp h1
    exact h3.symm
  · intro h
    have key : ∀ m, m ≤ n → hbN u m = hbN w m := by
      intro m
      induction m with
      | zero => intro _; rfl
      | succ m ih =>
        intro hm
        simp only [hbN]
        rw [ih (by omega)]
        by_cases g : gV_here u m = 0
        · rw [if_pos g, if_pos ((h m (by omega)).mp g)]
        · rw [if_neg g, if_neg (fun e => g ((h m (by omega)).mpr e))]
    exact key n (Nat.le_refl _)
/-- the week when the first is forgotten, by each one's week -/
theorem fl_low {u : VS} {n p : Nat} (hp : p < n) (h1 : ¬ gV_here u p = 0) : fl u n ≤ gu u n p := by
  rcases Nat.lt_or_ge (gu u n p) (fl u n) with g | g
  · exfalso
    have hl := fl_le u n
    have e0 := gu_ex (u := u) (n := n) (p := p) (by omega)
    have hg : 1 ≤ gu u n p := by
      rcases Nat.lt_or_ge 0 (gu u n p) with k | k
      · exact k
      · rw [show gu u n p = 0 by omega] at e0; exact absurd e0 h1
    have e1 := flT_min u n 99 1 (gu u n p) hg g
    exact h1 ((hb_ext.mp e1 p hp).mp e0)
  · exact g
theorem fl_hit {u : VS} {n : Nat} (h : fl u n < 100) : ∃ p, p < n ∧ ¬ gV_here u p = 0 ∧ gu u n p = fl u n := by
  have e := flT_ex u n 99 1 (by unfold fl at h; omega)
  have : ¬ ∀ p, p < n → (gV_here (wks u n (fl u n)) p = 0 ↔ gV_here u p = 0) := fun k => e (hb_ext.mpr k)
  have ⟨p, hp⟩ := Classical.not_forall.mp this
  have ⟨hp, k⟩ := Classical.not_imp.mp hp
  have h1 : ¬ gV_here u p = 0 := by
    intro g
    have := wks_gone (u := u) (n := n) (i := 0) (p := p) g (fl u n)
    rw [Nat.zero_add] at this
    exact k ⟨fun _ => g, fun _ => this⟩
  have h2 : gV_here (wks u n (fl u n)) p = 0 := by
    rcases Classical.em (gV_here (wks u n (fl u n)) p = 0) with g | g
    · exact g
    · exact absurd ⟨fun q => absurd q g, fun q => absurd q h1⟩ k
  have h3 := (gu_iff h).mp h2
  have h4 := fl_low hp h1
  exact ⟨p, hp, h1, by omega⟩
/-- the first one who goes then -/
def fwT (u : VS) (n : Nat) : Nat → Nat → Int32
  | 0, _ => -9
  | m + 1, i => if gV_here u i = 0 then fwT u n m (i + 1) else if gu u n i = fl u n ∧ fl u n < 100 then nI i else fwT u n m (i + 1)
