/-! a feast: all who are here remember one another a little more -/
def mdf (u : VS) (P : Nat → Bool) : VS := sV_mem u (fun j => if P j = true then hold (gV_mem u j + 2) else gV_mem u j)
theorem mdf_0 (u : VS) {P : Nat → Bool} (h : ∀ j, P j = false) : mdf u P = u := by
  unfold mdf
  have e : (fun j => if P j = true then hold (gV_mem u j + 2) else gV_mem u j) = gV_mem u := by
    funext j
    rw [h j, if_neg (by decide)]
  rw [e]
theorem mdf_c (u : VS) {P Q : Nat → Bool} (h : ∀ j, P j = Q j) : mdf u P = mdf u Q := by rw [show P = Q from funext h]
theorem mdf_add (u : VS) (P : Nat → Bool) {a b : Nat} (h : P (8 * a + b) = false) : addm (mdf u P) a b 2 = mdf u (fun j => P j || decide (j = 8 * a + b)) := by
  unfold addm mdf
  show sV_mem u (upd (fun j => if P j = true then hold (gV_mem u j + 2) else gV_mem u j) (8 * a + b) (hold ((if P (8 * a + b) = true then hold (gV_mem u (8 * a + b) + 2) else gV_mem u (8 * a + b)) + 2))) = _
  congr 1
  funext j
  by_cases e : j = 8 * a + b
  · subst e
    rw [us, h]
    simp
  · rw [un e]
    simp [e]
theorem IV_mdf {n W : Nat} {u : VS} (hI : IV n W u) {P : Nat → Bool} (h : ∀ j, 64 ≤ j → P j = false) : IV n W (mdf u P) := by
  refine ⟨hI.1, hI.2.1, hI.2.2.1, hI.2.2.2.1, hI.2.2.2.2.1, fun j hj => ?_, hI.nz.1, fun j hj => ?_⟩
  · show ∃ v, v ≤ 99 ∧ (if P j = true then hold (gV_mem u j + 2) else gV_mem u j) = nI v
    split
    · exact hold_in _
    · exact hI.me hj
  · show (if P j = true then hold (gV_mem u j + 2) else gV_mem u j) = 0
    rw [h j hj, if_neg (by decide)]
    exact hI.nz.2 j hj
abbrev hr (u : VS) (j : Nat) : Prop := j / 8 ≠ j % 8 ∧ ¬ gV_here u (j / 8) = 0 ∧ ¬ gV_here u (j % 8) = 0
def Pc (u : VS) (n i q : Nat) (j : Nat) : Bool := decide (hr u j ∧ j / 8 < n ∧ (j % 8 < i ∨ (j % 8 = i ∧ j / 8 < q)))
def Pr (u : VS) (n a b : Nat) (j : Nat) : Bool := decide (hr u j ∧ j % 8 < n ∧ (j / 8 < a ∨ (j / 8 = a ∧ j % 8 < b)))
def fsV (u : VS) (n : Nat) : VS := mdf u (Pc u n n 0)
theorem Pc_64 {u : VS} {n i q : Nat} (hn : n ≤ 8) : ∀ j, 64 ≤ j → Pc u n i q j = false := by
  intro j hj
  unfold Pc
  rw [decide_eq_false_iff_not]
  intro h
  omega
theorem Pr_64 {u : VS} {n a b : Nat} (hn : n ≤ 8) (ha : a ≤ 7) : ∀ j, 64 ≤ j → Pr u n a b j = false := by
  intro j hj
  unfold Pr
  rw [decide_eq_false_iff_not]
  intro h
  omega
theorem Pr_64' {u : VS} {n : Nat} (hn : n ≤ 8) : ∀ j, 64 ≤ j → Pr u n n 0 j = false := by
  intro j hj
  unfold Pr
  rw [decide_eq_false_iff_not]
  intro h
  omega
theorem IV_fsV {n W : Nat} {u : VS} (hI : IV n W u) : IV n W (fsV u n) := IV_mdf hI (Pc_64 hI.n8)
theorem dm8 {a b : Nat} (hb : b < 8) : (8 * a + b) / 8 = a ∧ (8 * a + b) % 8 = b := by omega
theorem rmT_mdf (u : VS) {n i : Nat} (hi : i < 8) (hh : ¬ gV_here u i = 0) : ∀ q, q ≤ n → rmT (mdf u (Pc u n i 0)) i 2 q = mdf u (Pc u n i q) := by
  intro q
  induction q with
  | zero => intro _; rfl
  | succ q ih =>
    intro hq
    simp only [rmT]
    rw [ih (by omega)]
    have e0 : gV_here (mdf u (Pc u n i 0)) q = gV_here u q := rfl
    have key : ∀ j, Pc u n i (q + 1) j = (Pc u n i q j || decide (j = 8 * q + i ∧ ¬ q = i ∧ ¬ gV_here u q = 0)) := by
      intro j
      unfold Pc
      rw [← Bool.decide_or]
      apply decide_eq_decide.mpr
      constructor
      · rintro ⟨h1, h2, h3 | ⟨h3, h4⟩⟩
        · exact Or.inl ⟨h1, h2, Or.inl h3⟩
        · rcases Nat.lt_or_ge (j / 8) q with k | k
          · exact Or.inl ⟨h1, h2, Or.inr ⟨h3, k⟩⟩
          · have e1 : j / 8 = q := by omega
            refine Or.inr ⟨by omega, ?_, ?_⟩
            · have := h1.1; omega
            · rw [← e1]; exact h1.2.1
      · rintro (⟨h1, h2, h3⟩ | ⟨rfl, h2, h3⟩)
        · exact ⟨h1, h2, by omega⟩
        · have := dm8 (a := q) hi
          refine ⟨⟨by omega, by rw [this.1]; exact h3, by rw [this.2]; exact hh⟩, by omega, by omega⟩
    have hf : Pc u n i q (8 * q + i) = false := by
      unfold Pc
      rw [decide_eq_false_iff_not]
      have := dm8 (a := q) hi
      rintro ⟨-, -, h3⟩
      omega
    by_cases g1 : q = i
    · rw [if_pos g1]
      refine mdf_c u (fun j => ?_)
      rw [key j]
      simp [g1]
    · rw [if_neg g1, e0]
      by_cases g2 : gV_here u q = 0
      · rw [if_pos g2]
        refine mdf_c u (fun j => ?_)
        rw [key j]
        simp [g2]
      · rw [if_neg g2, mdf_add u _ hf]
        refine mdf_c u (fun j => ?_)
        rw [key j]
        simp [g1, g2]
theorem hf_X {u : VS} {n W : Nat} (hI : IV n W u) : f_X8_holdFeast u = some (fsV u n) := by
  have hn := hI.n8
  unfold f_X8_holdFeast f_X8_holdFeast_2 fsV
  refine lq2_inv (fun i a b => a = mdf u (Pc u n i 0) ∧ b = nI i) (fun o => o = some (mdf u (Pc u n n 0))) n ?_ smN _ _ (smN_gt (by omega)) ⟨(mdf_0 u (fun j => by unfold Pc; rw [decide_eq_false_iff_not]; intro h; omega)).symm, rfl⟩
  rintro i a b hi ⟨rfl, rfl⟩
  unfold b_X8_holdFeast_2
  have hIi := IV_mdf hI (Pc_64 (u := u) (i := i) (q := 0) hn)
  rw [hIi.pe]
  simp (disch := omega) only [ile, i1]
  rcases Nat.lt_or_ge i n with h | h
  · left
    have hi8 : i < 8 := by omega
    simp (disch := omega) only [ck_ok, icl]
    have e0 : gV_here (mdf u (Pc u n i 0)) i = gV_here u i := rfl
    rw [e0]
    have nx : (¬ gV_here u i = 0 → ∀ j, Pc u n i n j = Pc u n (i + 1) 0 j) ∧ (gV_here u i = 0 → ∀ j, Pc u n i 0 j = Pc u n (i + 1) 0 j) := by
      refine ⟨fun g j => ?_, fun g j => ?_⟩
      · unfold Pc
        apply decide_eq_decide.mpr
        constructor
        · rintro ⟨h1, h2, h3⟩; exact ⟨h1, h2, by omega⟩
        · rintro ⟨h1, h2, h3⟩; exact ⟨h1, h2, by omega⟩
      · unfold Pc
        apply decide_eq_decide.mpr
        constructor
        · rintro ⟨h1, h2, h3⟩; exact ⟨h1, h2, by omega⟩
        · rintro ⟨h1, h2, h3⟩
          refine ⟨h1, h2, ?_⟩
          rcases Nat.lt_or_ge (j % 8) i with k | k
          · exact Or.inl k
          · have e1 : j % 8 = i := by omega
            exact absurd (by rw [e1]; exact g) h1.2.2
    by_cases g : gV_here u i = 0
    · refine ⟨mdf u (Pc u n (i + 1) 0), nI (i + 1), h, ⟨rfl, rfl⟩, fun k => ?_⟩
      rw [if_neg (by omega), if_pos g, mdf_c u (nx.2 g)]
    · refine ⟨mdf u (Pc u n (i + 1) 0), nI (i + 1), h, ⟨rfl, rfl⟩, fun k => ?_⟩
      rw [if_neg (by omega), if_neg g, rm_X hIi hi8, Option.bind_some, rmT_mdf u hi8 g n (Nat.le_refl _), mdf_c u (nx.1 g)]
  · right
    obtain rfl : i = n := by omega
    refine ⟨_, rfl, fun k => ?_⟩
    rw [if_pos (Nat.le_refl _)]
theorem fs11_M {u : VS} {r : Nat → Int32} {n W a : Nat} (hI : IV n W u) (hR : RV (mdf u (Pr u n a 0)) r) (ha : a < n) (k2 : (Nat → Int32) → Int32 → Option (Nat → Int32)) : ∃ r', RV (mdf u (Pr u n (a + 1) 0)) r' ∧ f_X11_feasts_11 k2 smN r (nI a) 0 = k2 r' (nI (a + 1)) := by
  have hn := hI.n8
  unfold f_X11_feasts_11
  refine lq3_inv (fun i x b c => RV (mdf u (Pr u n a i)) x ∧ b = nI a ∧ c = nI i) (fun o => ∃ r', RV (mdf u (Pr u n (a + 1) 0)) r' ∧ o = k2 r' (nI (a + 1))) n ?_ smN _ _ _ (smN_gt (by omega)) ⟨hR, rfl, rfl⟩
  rintro i x b c hi ⟨h1, rfl, rfl⟩
  unfold b_X11_feasts_11
  have hIi := IV_mdf hI (Pr_64 (u := u) (n := n) (a := a) (b := i) hn (by omega))
  have ex : x 0 = nI n := h1.pe.trans hIi.pe
  simp (disch := omega) only [ck0, cl0, ex, ile, ieq, i1]
  rcases Nat.lt_or_ge i n with h | h
  · left
    have e1 : f_X11_isHere x (nI a) = some (gV_here u a) := here_M (u := mdf u (Pr u n a i)) hIi h1 (by omega)
    have e2 : f_X11_isHere x (nI i) = some (gV_here u i) := here_M (u := mdf u (Pr u n a i)) hIi h1 (by omega)
    have key : ∀ j, Pr u n a (i + 1) j = (Pr u n a i j || decide (j = 8 * a + i ∧ ¬ a = i ∧ ¬ gV_here u a = 0 ∧ ¬ gV_here u i = 0)) := by
      intro j
      unfold Pr
      rw [← Bool.decide_or]
      apply decide_eq_decide.mpr
      constructor
      · rintro ⟨q1, q2, q3 | ⟨q3, q4⟩⟩
        · exact Or.inl ⟨q1, q2, Or.inl q3⟩
        · rcases Nat.lt_or_ge (j % 8) i with k | k
          · exact Or.inl ⟨q1, q2, Or.inr ⟨q3, k⟩⟩
          · have e3 : j % 8 = i := by omega
            refine Or.inr ⟨by omega, ?_, by rw [← q3]; exact q1.2.1, by rw [← e3]; exact q1.2.2⟩
            have := q1.1; omega
      · rintro (⟨q1, q2, q3⟩ | ⟨rfl, q2, q3, q4⟩)
        · exact ⟨q1, q2, by omega⟩
        · have := dm8 (a := a) (b := i) (by omega)
          refine ⟨⟨by omega, by rw [this.1]; exact q3, by rw [this.2]; exact q4⟩, by omega, by omega⟩
    have hf : Pr u n a i (8 * a + i) = false := by
      unfold Pr
      rw [decide_eq_false_iff_not]
      have := dm8 (a := a) (b := i) (by omega)
      rintro ⟨-, -, q3⟩
      omega
    by_cases g1 : a = i
    · refine ⟨x, nI a, nI (i + 1), h, ⟨?_, rfl, rfl⟩, fun k => ?_⟩
      · rw [mdf_c u (key)]
        rw [mdf_c u (Q := Pr u n a i) (fun j => by simp [g1])]
        exact h1
      · rw [if_neg (by omega), if_pos g1]
    · by_cases g2 : gV_here u a = 0
      · refine ⟨x, nI a, nI (i + 1), h, ⟨?_, rfl, rfl⟩, fun k => ?_⟩
        · rw [mdf_c u (key)]
          rw [mdf_c u (Q := Pr u n a i) (fun j => by simp [g2])]
          exact h1
        · rw [if_neg (by omega), if_neg g1, e1, Option.bind_some, if_pos g2]
      · by_cases g3 : gV_here u i = 0
        · refine ⟨x, nI a, nI (i + 1), h, ⟨?_, rfl, rfl⟩, fun k => ?_⟩
          · rw [mdf_c u (key)]
            rw [mdf_c u (Q := Pr u n a i) (fun j => by simp [g3])]
            exact h1
          · rw [if_neg (by omega), if_neg g1, e1, Option.bind_some, if_neg g2, e2, Option.bind_some, if_pos g3]
        · refine ⟨upd x (35 + 8 * a + i) (hold (x (35 + 8 * a + i) + 2)), nI a, nI (i + 1), h, ⟨?_, rfl, rfl⟩, fun k => ?_⟩
          · rw [mdf_c u (key)]
            rw [mdf_c u (Q := fun j => Pr u n a i j || decide (j = 8 * a + i)) (fun j => by simp [g1, g2, g3])]
            rw [← mdf_add u _ hf, h1.me (show a < 8 by omega) (show i < 8 by omega)]
            exact RV_mem h1 (by omega) (by omega) _
          · rw [if_neg (by omega), if_neg g1, e1, Option.bind_some, if_neg g2, e2, Option.bind_some, if_neg g3, f_by, Option.bind_some, Option.bind_some, ck_ok (by omega) (by decide), icl (by omega), hold_M, Option.bind_some, ck_ok (by omega) (by decide)]
  · right
    obtain rfl : i = n := by omega
    refine ⟨_, ⟨x, ?_, rfl⟩, fun k => ?_⟩
    · rw [mdf_c u (Q := Pr u i a i) (fun j => ?_)]
      · exact h1
      · unfold Pr
        apply decide_eq_decide.mpr
        constructor
        · rintro ⟨q1, q2, q3⟩; exact ⟨q1, q2, by omega⟩
        · rintro ⟨q1, q2, q3⟩; exact ⟨q1, q2, by omega⟩
    · rw [if_pos (Nat.le_refl _)]
theorem fs_M {u : VS} {r : Nat → Int32} {n W : Nat} (hI : IV n W u) (hR : RV u r) : ∃ r', RV (fsV u n) r' ∧ f_X11_feasts r = some r' := by
  have hn := hI.n8
  unfold f_X11_feasts f_X11_feasts_2
  refine lq2_inw (fun i x b => RV (mdf u (Pr u n i 0)) x ∧ b = nI i) (fun o => ∃ r', RV (fsV u n) r' ∧ o = some r') n ?_ smN _ _ (smN_gt (by omega)) ⟨by rw [mdf_0 u (fun j => by unfold Pr; rw [decide_eq_false_iff_not]; intro h; omega)]; exact hR, rfl⟩
  rintro i x b kk hi ⟨h1, rfl⟩
  unfold b_X11_feasts_2
  rcases Nat.lt_or_ge i n with h | h
  · left
    have hIi := IV_mdf hI (Pr_64 (u := u) (n := n) (a := i) (b := 0) hn (by omega))
    have ex : x 0 = nI n := h1.pe.trans hIi.pe
    simp (disch := omega) only [ck0, cl0, ex, ile]
    obtain ⟨r', q1, q2⟩ := fs11_M hI h1 h kk
    refine ⟨r', nI (i + 1), h, ⟨q1, rfl⟩, ?_⟩
    rw [if_neg (by omega), q2]
  · right
    obtain rfl : i = n := by omega
    have hIi := IV_mdf hI (Pr_64' (u := u) (n := i) hn)
    have ex : x 0 = nI i := h1.pe.trans hIi.pe
    simp (disch := omega) only [ck0, cl0, ex, ile]
    rw [if_pos (Nat.le_refl _)]
    refine ⟨x, ?_, rfl⟩
    unfold fsV
    rw [mdf_c u (Q := Pr u i i 0) (fun j => ?_)]
    · exact h1
    · unfold Pc Pr
      apply decide_eq_decide.mpr
      constructor
      · rintro ⟨q1, q2, q3⟩; exact ⟨q1, by omega, by omega⟩
      · rintro ⟨q1, q2, q3⟩; exact ⟨q1, by omega, by omega⟩
