/-! speaking -/
def tlk (u : VS) (a b : Nat) : VS := addm (addm u a b 10) b a 10
theorem IV_tlk {n W : Nat} {u : VS} (h : IV n W u) {a b : Nat} (ha : a < 8) (hb : b < 8) : IV n W (tlk u a b) := IV_addm (IV_addm h ha hb _) hb ha _
theorem tlk_X (u : VS) {a b : Nat} (ha : a < 8) (hb : b < 8) : f_X8_talk u (nI a) (nI b) = some (tlk u a b) := by
  unfold f_X8_talk
  rw [add_X _ ha hb, Option.bind_some, add_X _ hb ha, Option.bind_some]
  rfl
theorem tlk_M {u : VS} {r : Nat → Int32} (hR : RV u r) {a b : Nat} (ha : a < 8) (hb : b < 8) : ∃ r', RV (tlk u a b) r' ∧ f_X11_speaksIn r (nI a) (nI b) = some r' := by
  unfold f_X11_speaksIn
  simp (disch := omega) only [f_by, Option.bind_some, ck_ok, icl, hold_M]
  have h1 : RV (addm u a b 10) (upd r (35 + 8 * a + b) (hold (r (35 + 8 * a + b) + 10))) := by
    rw [hR.me ha hb]; exact RV_mem hR ha hb _
  refine ⟨_, ?_, rfl⟩
  rw [h1.me hb ha]
  exact RV_mem h1 hb ha _
/-! coming back -/
def bck (u : VS) (n p : Nat) : VS := raT (sV_here u (upd (gV_here u) p 1)) p 20 n
theorem IV_bck {n W : Nat} {u : VS} (h : IV n W u) {p : Nat} (hp : p < 8) : IV n W (bck u n p) := IV_raT (IV_here h hp (Or.inr rfl)) hp ⟨20, by decide, rfl⟩ n h.n8
theorem bck_X {u : VS} {n W p : Nat} (hI : IV n W u) (hp : p < 8) : f_X8_comeBack u (nI p) = some (bck u n p) := by
  unfold f_X8_comeBack
  simp (disch := omega) only [ck_ok, icl, nz1]
  rw [ra_X (IV_here hI hp (Or.inr rfl)) hp, Option.bind_some]
  rfl
theorem raT_here {u : VS} {p : Nat} (h0 : gV_here u p = 0) (x : Int32) : ∀ i, raT (sV_here u (upd (gV_here u) p 1)) p x i = sV_here (raT u p x i) (upd (gV_here u) p 1) := by
  intro i
  induction i with
  | zero => rfl
  | succ i ih =>
    simp only [raT]
    by_cases g1 : i = p
    · rw [if_pos g1, if_pos g1]; exact ih
    · rw [if_neg g1, if_neg g1]
      have e : gV_here (sV_here u (upd (gV_here u) p 1)) i = gV_here u i := un g1
      rw [e]
      split
      · exact ih
      · rw [ih]
theorem bck_M {u : VS} {r : Nat → Int32} {n W p : Nat} (hI : IV n W u) (hR : RV u r) (hp : p < 8) (h0 : gV_here u p = 0) : ∃ r', RV (bck u n p) r' ∧ f_X11_comesBack r (nI p) = some r' := by
  have hn := hI.n8
  unfold bck f_X11_comesBack f_X11_comesBack_2
  rw [raT_here h0]
  refine lq2_inv (fun i a b => RV (raT u p 20 i) a ∧ b = nI i) (fun o => ∃ r', RV (sV_here (raT u p 20 n) (upd (gV_here u) p 1)) r' ∧ o = some r') n ?_ smN _ _ (smN_gt (by omega)) ⟨hR, rfl⟩
  rintro i a b hi ⟨hRa, rfl⟩
  have hk := raT_keep u p 20 i
  have hIi := IV_raT (x := 20) hI hp ⟨20, by decide, rfl⟩ i (by omega)
  unfold b_X11_comesBack_2
  simp only [ck0, cl0, hRa.pe.trans hIi.pe]
  rcases Nat.lt_or_ge i n with h | h
  · left
    have hi8 : i < 8 := by omega
    rw [here_M hIi hRa hi8, f_by, hk.2.2.2.1]
    by_cases g1 : i = p
    · refine ⟨a, nI (i + 1), h, ⟨?_, rfl⟩, fun k => ?_⟩
      · simp only [raT, if_pos g1]; exact hRa
      · simp (disch := omega) only [ile, ieq, i1, Option.bind_some]
        rw [if_neg (by omega), g1, if_pos h0]
    · by_cases g3 : gV_here u i = 0
      · refine ⟨a, nI (i + 1), h, ⟨?_, rfl⟩, fun k => ?_⟩
        · simp only [raT, if_neg g1, if_pos g3]; exact hRa
        · simp (disch := omega) only [ile, ieq, i1, Option.bind_some]
          rw [if_neg (by omega), if_pos g3]
      · refine ⟨upd a (35 + 8 * i + p) 20, nI (i + 1), h, ⟨?_, rfl⟩, fun k => ?_⟩
        · simp only [raT, if_neg g1, if_neg g3]
          exact RV_mem hRa hi8 hp _
        · simp (disch := omega) only [ile, ieq, i1, Option.bind_some, ck_ok, icl]
          rw [if_neg (by omega), if_neg g3]
  · right
    obtain rfl : i = n := by omega
    have e2 : f_X11_of (nI p) (2 : Int32) = some (nI (3 + 4 * p + 2)) := f_of p 2
    refine ⟨some (upd a (3 + 4 * p + 2) 1), ⟨_, ?_, rfl⟩, fun k => ?_⟩
    · have := RV_here hRa hp 1
      rw [hk.2.2.2.1] at this
      exact this
    · simp (disch := omega) only [ile, i1, e2, Option.bind_some, ck_ok, icl]
      rw [if_pos (Nat.le_refl _)]
