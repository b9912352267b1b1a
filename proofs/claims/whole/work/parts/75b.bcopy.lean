/-! copies -/
theorem cpy0 {f g : Nat → Int32} {n : Nat} (hz : ∀ j, n ≤ j → f j = 0 ∧ g j = 0) : va_cpy f g 0 0 n = f := by
  funext j
  rcases Nat.lt_or_ge j n with h | h
  · rw [pk_cpy_in (by omega) (by omega)]
    congr 1; omega
  · rw [pk_cpy_out (by omega), (hz j h).1, (hz j h).2]
theorem cl8 : Int32.toNatClampNeg (8 : Int32) = 8 := by decide
theorem cl64 : Int32.toNatClampNeg (64 : Int32) = 64 := by decide
/-- the first i of the row f, then g -/
def cpT (f g : Nat → Int32) (i : Nat) : Nat → Int32 := fun j => if j < i then f j else g j
theorem cpT_0 (f g : Nat → Int32) : cpT f g 0 = g := by
  funext j
  simp only [cpT]
  exact if_neg (Nat.not_lt_zero j)
theorem cpT_s (f g : Nat → Int32) (i : Nat) : upd (cpT f g i) i (f i) = cpT f g (i + 1) := by
  funext j
  by_cases h : j = i
  · rw [h, us]; simp [cpT]
  · rw [un h]
    simp only [cpT]
    by_cases h2 : j < i
    · rw [if_pos h2, if_pos (by omega)]
    · rw [if_neg h2, if_neg (by omega)]
theorem copies_M (f g : Nat → Int32) : f_X11_copies (f, g) = some (f, cpT f g 99) := by
  unfold f_X11_copies f_X11_copies_2
  refine lq2_inv (fun i a b => a = (f, cpT f g i) ∧ b = nI i) (fun o => o = some (f, cpT f g 99)) 99 ?_ smN _ _ (smN_gt (by omega)) ⟨by rw [cpT_0], rfl⟩
  rintro i a b hi ⟨rfl, rfl⟩
  unfold b_X11_copies_2
  rcases Nat.lt_or_ge i 99 with h | h
  · left
    refine ⟨(f, cpT f g (i + 1)), nI (i + 1), h, ⟨rfl, rfl⟩, fun k => ?_⟩
    simp (disch := omega) only [l99, ile, icl, ck_ok, i1]
    rw [if_neg (by omega), cpT_s]
  · right
    obtain rfl : i = 99 := by omega
    refine ⟨_, rfl, fun k => ?_⟩
    rw [if_pos (by decide)]
theorem RV_cp {u : VS} {f : Nat → Int32} (g : Nat → Int32) (h : RV u f) : RV u (cpT f g 99) := by
  have e : ∀ j, j < 99 → cpT f g 99 j = f j := fun j hj => if_pos hj
  exact ⟨(e 0 (by decide)).trans h.1, (e 1 (by decide)).trans h.2.1, (e 2 (by decide)).trans h.2.2.1, fun p hp => ⟨(e _ (by omega)).trans (h.ki hp), (e _ (by omega)).trans (h.fi hp), (e _ (by omega)).trans (h.he hp), (e _ (by omega)).trans (h.ow hp)⟩, fun q p hq hp => (e _ (by omega)).trans (h.me hq hp)⟩
