/-! the readers of the reference -/
theorem hr_M {d : DS} {N p : Nat} (hN : N ≤ 96) (hl : gD_letN d = nI N) (hp : p ≤ N) (m : Nat → Int32) : f_X11_here (sD_place (sD_num d m) (nI p)) = some (if p < N then gD_let d p else -1) := by
  unfold f_X11_here
  have e1 : gD_letN (sD_place (sD_num d m) (nI p)) = nI N := hl
  have e2 : gD_place (sD_place (sD_num d m) (nI p)) = nI p := rfl
  have e3 : gD_let (sD_place (sD_num d m) (nI p)) = gD_let d := rfl
  rw [e1, e2, e3]
  simp (disch := omega) only [ile]
  by_cases g : p < N
  · rw [if_neg (by omega), if_pos g, ck_ok (by omega) (by decide), icl (by omega)]
  · rw [if_pos (by omega), if_neg g]
theorem fit48 (c : Int32) : fitb c 48 = decide (¬ c < 48 ∧ ¬ 57 < c) := by unfold fitb; rw [if_pos rfl]
theorem in_dig (c : Int32) : f_X11_isIn c (48 : Int32) (57 : Int32) = some (if fitb c 48 = true then 1 else 0) := by
  rw [fit48]
  unfold f_X11_isIn
  by_cases g2 : c < 48
  · rw [if_pos g2, if_neg (by rw [decide_eq_true_eq]; exact fun k => k.1 g2)]
  · rw [if_neg g2]
    by_cases g3 : 57 < c
    · rw [if_pos g3, if_neg (by rw [decide_eq_true_eq]; exact fun k => k.2 g3)]
    · rw [if_neg g3, if_pos (decide_eq_true ⟨g2, g3⟩)]
def dgV (t : Nat → Int32) (p : Nat) : Int32 := t p - 48
def nmV (t : Nat → Int32) (p k : Nat) : Int32 := if k = 1 then dgV t p else 10 * dgV t p + dgV t (p + 1)
/-- one digit more -/
theorem rn_step {d : DS} {N p i k j : Nat} (hN : N ≤ 96) (hl : gD_letN d = nI N) (hp : p ≤ N) (hi : i < 3) (hj : j < k) (hk : k ≤ 2) (m : Nat → Int32) (k9 : DS → Int32 → Option (Int32 × DS)) : b_X11_readsNumber_9 (nI i) (nI k) k9 (sD_place (sD_num d m) (nI p)) (nI j) = if p < N ∧ fitb (gD_let d p) 48 = true then k9 (sD_place (sD_num d (upd m i (10 * m i + gD_let d p - 48))) (nI (p + 1))) (nI (j + 1)) else some (0, sD_place (sD_num d m) (nI p)) := by
  unfold b_X11_readsNumber_9
  rw [hr_M hN hl hp m]
  simp (disch := omega) only [ile, i1, Option.bind_some, in_dig]
  rw [if_neg (by omega)]
  by_cases g1 : p < N
  · rw [if_pos g1]
    by_cases g2 : fitb (gD_let d p) 48 = true
    · rw [if_pos g2, if_neg (show ¬ (1 : Int32) = 0 by decide), if_pos (show p < N ∧ fitb (gD_let d p) 48 = true from ⟨g1, g2⟩)]
      simp (disch := omega) only [ck_ok, icl]
      have e1 : gD_num (sD_place (sD_num d m) (nI p)) = m := rfl
      rw [e1]
      generalize (10 : Int32) * m i + gD_let d p - 48 = v
      have e2 : gD_place (sD_num (sD_place (sD_num d m) (nI p)) (upd m i v)) = nI p := rfl
      rw [e2, i1]
      try rfl
    · rw [if_neg g2, if_pos rfl, if_neg (fun q => g2 q.2)]
  · rw [if_neg g1, if_neg (show ¬ (p < N ∧ fitb (gD_let d p) 48 = true) from fun q => g1 q.1)]
    rw [if_neg (show ¬ fitb (-1) 48 = true by decide), if_pos rfl]
theorem rn_end {i k : Nat} (hk : k ≤ 2) (d : DS) (k9 : DS → Int32 → Option (Int32 × DS)) : b_X11_readsNumber_9 (nI i) (nI k) k9 d (nI k) = some (1, d) := by
  unfold b_X11_readsNumber_9
  rw [if_pos (by rw [ile (by omega) (by omega)]; exact Nat.le_refl _)]
theorem lqS {A1 A2 β : Type} (step : (A1 → A2 → Option β) → A1 → A2 → Option β) (n : Nat) (a : A1) (b : A2) : lq2 step (n + 1) a b = step (lq2 step n) a b := rfl
theorem i10 (x y : Int32) : (10 : Int32) * ((10 : Int32) * 0 + x - 48) + y - 48 = 10 * (x - 48) + (y - 48) := by
  rw [Int32.mul_zero, Int32.zero_add, Int32.sub_eq_add_neg (a := 10 * (x - 48) + y), Int32.add_assoc, ← Int32.sub_eq_add_neg]
theorem i01 (x : Int32) : (10 : Int32) * 0 + x - 48 = x - 48 := by rw [Int32.mul_zero, Int32.zero_add]
theorem rn_M {d : DS} {N p i k : Nat} (hN : N ≤ 96) (hl : gD_letN d = nI N) (hp : p ≤ N) (hi : i < 3) (hk : k = 1 ∨ k = 2) (m : Nat → Int32) : ((ffL (gD_let d) N (List.replicate k 48) p).1 = true → f_X11_readsNumber (sD_place (sD_num d m) (nI p)) (nI i) (nI k) = some (1, sD_place (sD_num d (upd m i (nmV (gD_let d) p k))) (nI (ffL (gD_let d) N (List.replicate k 48) p).2))) ∧ ((ffL (gD_let d) N (List.replicate k 48) p).1 = false → ∃ m', f_X11_readsNumber (sD_place (sD_num d m) (nI p)) (nI i) (nI k) = some (0, sD_place (sD_num d m') (nI (ffL (gD_let d) N (List.replicate k 48) p).2))) := by
  have e0 : f_X11_readsNumber (sD_place (sD_num d m) (nI p)) (nI i) (nI k) = f_X11_readsNumber_9 (nI i) (nI k) (997 + 1 + 1 + 1) (sD_place (sD_num d (upd m i 0)) (nI p)) (nI 0) := by
    unfold f_X11_readsNumber
    rw [ck_ok (by omega) (by decide), icl (by omega)]
    rfl
  rw [e0]
  unfold f_X11_readsNumber_9
  rw [lqS, rn_step hN hl hp hi (show 0 < k by omega) (by omega)]
  have u1 : ∀ v w : Int32, upd (upd m i v) i w = upd m i w := by
    intro v w
    funext j
    by_cases e : j = i
    · rw [e, us, us]
    · rw [un e, un e, un e]
  rw [us, u1]
  rcases hk with rfl | rfl
  · show ((ffL (gD_let d) N [48] p).1 = true → _) ∧ _
    by_cases g : p < N ∧ fitb (gD_let d p) 48 = true
    · rw [show List.replicate 1 (48 : Int32) = [48] from rfl, ffL_p _ g, if_pos g, lqS, rn_end (by omega), i01]
      refine ⟨fun _ => rfl, fun h => by cases h⟩
    · rw [show List.replicate 1 (48 : Int32) = [48] from rfl, ffL_n _ g, if_neg g]
      exact ⟨fun h => (by cases h), fun _ => ⟨_, rfl⟩⟩
  · rw [show List.replicate 2 (48 : Int32) = [48, 48] from rfl]
    by_cases g : p < N ∧ fitb (gD_let d p) 48 = true
    · rw [ffL_p _ g, if_pos g, lqS, rn_step hN hl (by omega) hi (show 1 < 2 by omega) (by omega), us, u1]
      by_cases g2 : p + 1 < N ∧ fitb (gD_let d (p + 1)) 48 = true
      · rw [ffL_p _ g2, if_pos g2, lqS, rn_end (by omega), i10]
        refine ⟨fun _ => rfl, fun h => by cases h⟩
      · rw [ffL_n _ g2, if_neg g2]
        exact ⟨fun h => (by cases h), fun _ => ⟨_, rfl⟩⟩
    · rw [ffL_n _ g, if_neg g]
      exact ⟨fun h => (by cases h), fun _ => ⟨_, rfl⟩⟩
/-- kinds by letters: the class's way and the reference's -/
def kbV (c : Int32) : Int32 := if c = 100 then (1 : Int32) else if c = 107 then 2 else if c = 112 then 0 else if c = 113 then 3 else if c = 119 then 5 else if c = 120 then 4 else -9
theorem kind_eq : ∀ c, c < 256 → (kix (i2cV (nI c)) < 0 ↔ kbV (nI c) < 0) ∧ (¬ kix (i2cV (nI c)) < 0 → kix (i2cV (nI c)) = kbV (nI c) ∧ ∃ k, k < 6 ∧ kix (i2cV (nI c)) = nI k) := by decide +kernel
theorem kb_M (c : Int32) : f_X11_kindBy c = some (kbV c) := by
  unfold f_X11_kindBy kbV
  split
  · rfl
  split
  · rfl
  split
  · rfl
  split
  · rfl
  split
  · rfl
  split <;> rfl
theorem fit107 (c : Int32) : fitb c 107 = decide (¬ kix (i2cV c) < 0) := by unfold fitb; rw [if_neg (by decide), if_pos rfl]
theorem rk_M {d : DS} {N p : Nat} (hN : N ≤ 96) (hl : gD_letN d = nI N) (hc : ∀ i, i < N → ∃ c, c < 256 ∧ gD_let d i = nI c) (hp : p ≤ N) (m : Nat → Int32) : ((p < N ∧ fitb (gD_let d p) 107 = true) → f_X11_readsKind (sD_place (sD_num d m) (nI p)) = some (1, sD_place (sD_num d (upd m 0 (kix (i2cV (gD_let d p))))) (nI (p + 1)))) ∧ (¬ (p < N ∧ fitb (gD_let d p) 107 = true) → ∃ m', f_X11_readsKind (sD_place (sD_num d m) (nI p)) = some (0, sD_place (sD_num d m') (nI p))) := by
  have key : ∀ c, f_X11_here (sD_place (sD_num d m) (nI p)) = some c → f_X11_readsKind (sD_place (sD_num d m) (nI p)) = if kbV c < 0 then some (0, sD_place (sD_num d (upd m 0 (kbV c))) (nI p)) else some (1, sD_place (sD_num d (upd m 0 (kbV c))) (nI (p + 1))) := by
    intro c h
    unfold f_X11_readsKind
    have ck3 : ∀ {α : Type} (y : Option α), ck (0 : Int32) 3 y = y := fun y => ck_ok (j := 0) (by decide) (by decide) y
    rw [h, Option.bind_some, kb_M, Option.bind_some, ck3, ck3, cl0]
    generalize kbV c = v
    have e1 : gD_num (sD_num (sD_place (sD_num d m) (nI p)) (upd (gD_num (sD_place (sD_num d m) (nI p))) 0 v)) 0 = v := by
      show upd m 0 v 0 = v
      exact us
    rw [e1]
    unfold f_X11_readsKind_32
    rw [ck3, ck3, cl0]
    have e2 : ∀ z : Int32, gD_num (sD_place (sD_num (sD_place (sD_num d m) (nI p)) (upd (gD_num (sD_place (sD_num d m) (nI p))) 0 v)) z) 0 = v := by
      intro z
      show upd m 0 v 0 = v
      exact us
    simp only [e2]
    have e3 : gD_place (sD_num (sD_place (sD_num d m) (nI p)) (upd (gD_num (sD_place (sD_num d m) (nI p))) 0 v)) = nI p := rfl
    rw [e3, i1, Int32.add_zero]
    by_cases g : v < 0
    · rw [if_neg (by rw [Int32.not_le]; exact g), if_pos g, if_pos g]
    · rw [if_pos (Int32.not_lt.mp g), if_neg g, if_neg g]
  have h1 := key _ (hr_M hN hl hp m)
  by_cases g1 : p < N
  · obtain ⟨c, hc1, hc2⟩ := hc p g1
    rw [if_pos g1, hc2] at h1
    rw [hc2, fit107]
    have q := kind_eq c hc1
    refine ⟨fun g => ?_, fun g => ?_⟩
    · have g := of_decide_eq_true g.2
      have q2 := q.2 g
      rw [h1, if_neg (fun z => g (q.1.mpr z)), q2.1]
    · have g : kix (i2cV (nI c)) < 0 := by
        rcases Classical.em (kix (i2cV (nI c)) < 0) with z | z
        · exact z
        · exact absurd ⟨g1, decide_eq_true z⟩ g
      exact ⟨_, by rw [h1, if_pos (q.1.mp g)]⟩
  · rw [if_neg g1] at h1
    refine ⟨fun g => absurd g.1 g1, fun _ => ⟨_, by rw [h1, if_pos (by decide)]⟩⟩
