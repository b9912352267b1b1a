/-! a week: how memory changes, the spring; class and reference -/
theorem IV.wk {n W : Nat} {u : VS} (h : IV n W u) : gV_week u = nI W := h.2.2.1
theorem IV.na {n W : Nat} {u : VS} (h : IV n W u) : ∃ k, k ≤ 3 ∧ gV_names u = nI k := h.2.2.2.1
def kdl (w : Int32) : Int32 := if 8 ≤ w - w / 10 * 10 then 2 else if w - w / 10 * 10 = 0 then 2 else -1
def chv (u : VS) (p : Nat) : Int32 := if gV_kind u p = 1 then -(gV_owed u p / 10) else if gV_kind u p = 2 then kdl (gV_week u) else if gV_kind u p = 3 then -(gV_owed u p / 10) + gV_fig u p else if gV_kind u p = 4 then 0 else if gV_kind u p = 5 then (if gV_week u - gV_week u / 2 * 2 = 1 then kdl (gV_week u) + 2 else kdl (gV_week u)) else -1
theorem ch_M {u : VS} {r : Nat → Int32} {p : Nat} (hR : RV u r) (hp : p < 8) : f_X11_changeBy r (nI p) = some (chv u p) := by
  unfold f_X11_changeBy
  have e1 : f_X11_of (nI p) (1 : Int32) = some (nI (3 + 4 * p + 1)) := f_of p 1
  have e3 : f_X11_of (nI p) (3 : Int32) = some (nI (3 + 4 * p + 3)) := f_of p 3
  have e0 : f_X11_of (nI p) (0 : Int32) = some (nI (3 + 4 * p + 0)) := f_of p 0
  rw [e1, Option.bind_some, ck_ok (by omega) (by decide), ck1, e3, Option.bind_some, ck_ok (by omega) (by decide), icl (by omega), icl (by omega), cl1, hR.we, hR.fi hp, hR.ow hp]
  have key : ∀ x2 x3 x4 y0 : Int32, f_X11_changeBy_46 r (nI p) x2 x3 x4 y0 = some (if gV_kind u p = 1 then x4 else if gV_kind u p = 2 then y0 else if gV_kind u p = 3 then x4 + x2 else if gV_kind u p = 4 then 0 else if gV_kind u p = 5 then (if x3 - x3 / 2 * 2 = 1 then y0 + 2 else y0) else -1) := by
    intro x2 x3 x4 y0
    unfold f_X11_changeBy_46
    rw [e0, Option.bind_some, ck_ok (by omega) (by decide), icl (by omega), hR.ki hp]
    by_cases g1 : gV_kind u p = 1
    · rw [if_pos g1, if_pos g1]
    rw [if_neg g1, if_neg g1]
    by_cases g2 : gV_kind u p = 2
    · rw [if_pos g2, if_pos g2]
    rw [if_neg g2, if_neg g2]
    by_cases g3 : gV_kind u p = 3
    · rw [if_pos g3, if_pos g3]
    rw [if_neg g3, if_neg g3]
    by_cases g4 : gV_kind u p = 4
    · rw [if_pos g4, if_pos g4]
    rw [if_neg g4, if_neg g4]
    by_cases g5 : gV_kind u p = 5
    · rw [if_pos g5, if_pos g5]
      split <;> rfl
    rw [if_neg g5, if_neg g5]
  rw [key, key]
  unfold chv kdl
  by_cases g1 : 8 ≤ gV_week u - gV_week u / 10 * 10
  · simp only [if_pos g1]
  · simp only [if_neg g1]
    by_cases g2 : gV_week u - gV_week u / 10 * 10 = 0
    · simp only [if_pos g2]
    · simp only [if_neg g2]
theorem kd_X {W : Nat} (hW : W < 2 ^ 31) (o g : Int32) : f_X2_change (nI W) o g = some (kdl (nI W)) := by
  unfold f_X2_change kdl
  rw [l10, pk_rem hW (by decide) (by decide)]
  have h10 : W % 10 < 10 := Nat.mod_lt _ (by decide)
  generalize W % 10 = d at h10 ⊢
  unfold f_X2_change_30 f_X4_change
  match d, h10 with
  | 0, _ => rfl
  | 1, _ => rfl
  | 2, _ => rfl
  | 3, _ => rfl
  | 4, _ => rfl
  | 5, _ => rfl
  | 6, _ => rfl
  | 7, _ => rfl
  | 8, _ => rfl
  | 9, _ => rfl
theorem ch_X {u : VS} {n W p : Nat} (hI : IV n W u) (hW : W < 2 ^ 31) (hp : p < 8) : f_K_change (gV_kind u p) (gV_week u) (gV_owed u p) (gV_fig u p) = some (chv u p) := by
  obtain ⟨k, hk, e⟩ := hI.ki hp
  unfold chv
  rw [e, hI.wk]
  have h2 := kd_X hW (gV_owed u p) (gV_fig u p)
  refine k6 (P := fun k => f_K_change (nI k) (nI W) (gV_owed u p) (gV_fig u p) = some (if nI k = 1 then -(gV_owed u p / 10) else if nI k = 2 then kdl (nI W) else if nI k = 3 then -(gV_owed u p / 10) + gV_fig u p else if nI k = 4 then 0 else if nI k = 5 then (if nI W - nI W / 2 * 2 = 1 then kdl (nI W) + 2 else kdl (nI W)) else -1)) ?_ ?_ ?_ ?_ ?_ ?_ hk
  · rfl
  · rfl
  · exact h2
  · rfl
  · rfl
  · show f_X9_change (nI W) (gV_owed u p) (gV_fig u p) = some (if nI W - nI W / 2 * 2 = 1 then kdl (nI W) + 2 else kdl (nI W))
    unfold f_X9_change
    rw [h2]
    simp only [Option.bind_some, Int32.add_zero]
    split <;> rfl
/-! writes keep the relation and the ranges -/
theorem us {f : Nat → Int32} {k : Nat} {x : Int32} : upd f k x k = x := pk_us
theorem un {f : Nat → Int32} {k j : Nat} {x : Int32} (h : j ≠ k) : upd f k x j = f j := pk_un h
theorem RV_mem {u : VS} {r : Nat → Int32} (h : RV u r) {q p : Nat} (hq : q < 8) (hp : p < 8) (x : Int32) : RV (sV_mem u (upd (gV_mem u) (8 * q + p) x)) (upd r (35 + 8 * q + p) x) := by
  refine ⟨(un (by omega)).trans h.1, (un (by omega)).trans h.2.1, (un (by omega)).trans h.2.2.1, fun p' hp' => ⟨(un (by omega)).trans (h.ki hp'), (un (by omega)).trans (h.fi hp'), (un (by omega)).trans (h.he hp'), (un (by omega)).trans (h.ow hp')⟩, fun q' p' hq' hp' => ?_⟩
  show upd r (35 + 8 * q + p) x (35 + 8 * q' + p') = upd (gV_mem u) (8 * q + p) x (8 * q' + p')
  by_cases e : 8 * q' + p' = 8 * q + p
  · rw [e, us, show 35 + 8 * q' + p' = 35 + 8 * q + p by omega, us]
  · rw [un e, un (by omega)]
    exact h.me hq' hp'
theorem RV_kind {u : VS} {r : Nat → Int32} (h : RV u r) {p : Nat} (hp : p < 8) (x : Int32) : RV (sV_kind u (upd (gV_kind u) p x)) (upd r (3 + 4 * p + 0) x) := by
  refine ⟨(un (by omega)).trans h.1, (un (by omega)).trans h.2.1, (un (by omega)).trans h.2.2.1, fun p' hp' => ⟨?_, (un (by omega)).trans (h.fi hp'), (un (by omega)).trans (h.he hp'), (un (by omega)).trans (h.ow hp')⟩, fun q' p' hq' hp' => (un (by omega)).trans (h.me hq' hp')⟩
  show upd r (3 + 4 * p + 0) x (3 + 4 * p' + 0) = upd (gV_kind u) p x p'
  by_cases e : p' = p
  · rw [e, us, us]
  · rw [un e, un (by omega)]; exact h.ki hp'
theorem RV_fig {u : VS} {r : Nat → Int32} (h : RV u r) {p : Nat} (hp : p < 8) (x : Int32) : RV (sV_fig u (upd (gV_fig u) p x)) (upd r (3 + 4 * p + 1) x) := by
  refine ⟨(un (by omega)).trans h.1, (un (by omega)).trans h.2.1, (un (by omega)).trans h.2.2.1, fun p' hp' => ⟨(un (by omega)).trans (h.ki hp'), ?_, (un (by omega)).trans (h.he hp'), (un (by omega)).trans (h.ow hp')⟩, fun q' p' hq' hp' => (un (by omega)).trans (h.me hq' hp')⟩
  show upd r (3 + 4 * p + 1) x (3 + 4 * p' + 1) = upd (gV_fig u) p x p'
  by_cases e : p' = p
  · rw [e, us, us]
  · rw [un e, un (by omega)]; exact h.fi hp'
theorem RV_here {u : VS} {r : Nat → Int32} (h : RV u r) {p : Nat} (hp : p < 8) (x : Int32) : RV (sV_here u (upd (gV_here u) p x)) (upd r (3 + 4 * p + 2) x) := by
  refine ⟨(un (by omega)).trans h.1, (un (by omega)).trans h.2.1, (un (by omega)).trans h.2.2.1, fun p' hp' => ⟨(un (by omega)).trans (h.ki hp'), (un (by omega)).trans (h.fi hp'), ?_, (un (by omega)).trans (h.ow hp')⟩, fun q' p' hq' hp' => (un (by omega)).trans (h.me hq' hp')⟩
  show upd r (3 + 4 * p + 2) x (3 + 4 * p' + 2) = upd (gV_here u) p x p'
  by_cases e : p' = p
  · rw [e, us, us]
  · rw [un e, un (by omega)]; exact h.he hp'
theorem RV_owed {u : VS} {r : Nat → Int32} (h : RV u r) {p : Nat} (hp : p < 8) (x : Int32) : RV (sV_owed u (upd (gV_owed u) p x)) (upd r (3 + 4 * p + 3) x) := by
  refine ⟨(un (by omega)).trans h.1, (un (by omega)).trans h.2.1, (un (by omega)).trans h.2.2.1, fun p' hp' => ⟨(un (by omega)).trans (h.ki hp'), (un (by omega)).trans (h.fi hp'), (un (by omega)).trans (h.he hp'), ?_⟩, fun q' p' hq' hp' => (un (by omega)).trans (h.me hq' hp')⟩
  show upd r (3 + 4 * p + 3) x (3 + 4 * p' + 3) = upd (gV_owed u) p x p'
  by_cases e : p' = p
  · rw [e, us, us]
  · rw [un e, un (by omega)]; exact h.ow hp'
theorem RV_people {u : VS} {r : Nat → Int32} (h : RV u r) (x : Int32) : RV (sV_people u x) (upd r 0 x) :=
  ⟨us, (un (by omega)).trans h.2.1, (un (by omega)).trans h.2.2.1, fun _ hp' => ⟨(un (by omega)).trans (h.ki hp'), (un (by omega)).trans (h.fi hp'), (un (by omega)).trans (h.he hp'), (un (by omega)).trans (h.ow hp')⟩, fun _ _ hq' hp' => (un (by omega)).trans (h.me hq' hp')⟩
theorem RV_week {u : VS} {r : Nat → Int32} (h : RV u r) (x : Int32) : RV (sV_week u x) (upd r 1 x) :=
  ⟨(un (by omega)).trans h.1, us, (un (by omega)).trans h.2.2.1, fun _ hp' => ⟨(un (by omega)).trans (h.ki hp'), (un (by omega)).trans (h.fi hp'), (un (by omega)).trans (h.he hp'), (un (by omega)).trans (h.ow hp')⟩, fun _ _ hq' hp' => (un (by omega)).trans (h.me hq' hp')⟩
theorem RV_names {u : VS} {r : Nat → Int32} (h : RV u r) (x : Int32) : RV (sV_names u x) (upd r 2 x) :=
  ⟨(un (by omega)).trans h.1, (un (by omega)).trans h.2.1, us, fun _ hp' => ⟨(un (by omega)).trans (h.ki hp'), (un (by omega)).trans (h.fi hp'), (un (by omega)).trans (h.he hp'), (un (by omega)).trans (h.ow hp')⟩, fun _ _ hq' hp' => (un (by omega)).trans (h.me hq' hp')⟩
theorem updP {P : Int32 → Prop} {f : Nat → Int32} {k j : Nat} {x : Int32} (hx : P x) (hf : P (f j)) : P (upd f k x j) := by
  by_cases e : j = k
  · rw [e, us]; exact hx
  · rw [un e]; exact hf
theorem IV_mem {n W : Nat} {u : VS} (h : IV n W u) {k : Nat} (hk : k < 64) {x : Int32} (hx : ∃ v, v ≤ 99 ∧ x = nI v) : IV n W (sV_mem u (upd (gV_mem u) k x)) :=
  ⟨h.1, h.2.1, h.2.2.1, h.2.2.2.1, h.2.2.2.2.1, fun _ hj => updP (P := fun y => ∃ v, v ≤ 99 ∧ y = nI v) hx (h.me hj), h.nz.1, fun j hj => (un (by omega)).trans (h.nz.2 j hj)⟩
theorem IV_here {n W : Nat} {u : VS} (h : IV n W u) {k : Nat} (hk : k < 8) {x : Int32} (hx : x = 0 ∨ x = 1) : IV n W (sV_here u (upd (gV_here u) k x)) :=
  ⟨h.1, h.2.1, h.2.2.1, h.2.2.2.1, fun _ hp => ⟨h.ki hp, h.fi hp, updP (P := fun y => y = 0 ∨ y = 1) hx (h.he hp), h.ow hp⟩, h.2.2.2.2.2.1, fun p hp => ⟨(h.nz.1 p hp).1, (h.nz.1 p hp).2.1, (h.nz.1 p hp).2.2.1, (un (by omega)).trans (h.nz.1 p hp).2.2.2⟩, h.nz.2⟩
theorem IV_owed {n W : Nat} {u : VS} (h : IV n W u) {k : Nat} (hk : k < 8) {x : Int32} (hx : ∃ v, v ≤ 99 ∧ x = nI v) : IV n W (sV_owed u (upd (gV_owed u) k x)) :=
  ⟨h.1, h.2.1, h.2.2.1, h.2.2.2.1, fun _ hp => ⟨h.ki hp, h.fi hp, h.he hp, updP (P := fun y => ∃ v, v ≤ 99 ∧ y = nI v) hx (h.ow hp)⟩, h.2.2.2.2.2.1, fun p hp => ⟨(h.nz.1 p hp).1, (h.nz.1 p hp).2.1, (un (by omega)).trans (h.nz.1 p hp).2.2.1, (h.nz.1 p hp).2.2.2⟩, h.nz.2⟩
theorem IV_kind {n W : Nat} {u : VS} (h : IV n W u) {k : Nat} (hk : k < 8) {x : Int32} (hx : ∃ v, v < 6 ∧ x = nI v) : IV n W (sV_kind u (upd (gV_kind u) k x)) :=
  ⟨h.1, h.2.1, h.2.2.1, h.2.2.2.1, fun _ hp => ⟨updP (P := fun y => ∃ v, v < 6 ∧ y = nI v) hx (h.ki hp), h.fi hp, h.he hp, h.ow hp⟩, h.2.2.2.2.2.1, fun p hp => ⟨(un (by omega)).trans (h.nz.1 p hp).1, (h.nz.1 p hp).2.1, (h.nz.1 p hp).2.2.1, (h.nz.1 p hp).2.2.2⟩, h.nz.2⟩
theorem IV_fig {n W : Nat} {u : VS} (h : IV n W u) {k : Nat} (hk : k < 8) {x : Int32} (hx : ∃ v, v < 10 ∧ x = nI v) : IV n W (sV_fig u (upd (gV_fig u) k x)) :=
  ⟨h.1, h.2.1, h.2.2.1, h.2.2.2.1, fun _ hp => ⟨h.ki hp, updP (P := fun y => ∃ v, v < 10 ∧ y = nI v) hx (h.fi hp), h.he hp, h.ow hp⟩, h.2.2.2.2.2.1, fun p hp => ⟨(h.nz.1 p hp).1, (un (by omega)).trans (h.nz.1 p hp).2.1, (h.nz.1 p hp).2.2.1, (h.nz.1 p hp).2.2.2⟩, h.nz.2⟩
theorem IV_week {n W W' : Nat} {u : VS} (h : IV n W u) {x : Int32} (hx : x = nI W') : IV n W' (sV_week u x) := ⟨h.1, h.2.1, hx, h.2.2.2⟩
theorem IV_names {n W : Nat} {u : VS} (h : IV n W u) {x : Int32} (hx : ∃ v, v ≤ 3 ∧ x = nI v) : IV n W (sV_names u x) := ⟨h.1, h.2.1, h.2.2.1, hx, h.2.2.2.2⟩
theorem IV_people {n n' W : Nat} {u : VS} (h : IV n W u) {x : Int32} (hn : n' ≤ 8) (hx : x = nI n') : IV n' W (sV_people u x) := ⟨hn, hx, h.2.2⟩
def hold (v : Int32) : Int32 := if 0 ≤ v then (if v ≤ 99 then v else 99) else 0
theorem hold_M (v : Int32) : f_X11_held v = some (hold v) := by
  unfold f_X11_held hold
  split
  · split <;> rfl
  · rfl
theorem hold_in (v : Int32) : ∃ k, k ≤ 99 ∧ hold v = nI k := by
  unfold hold
  split
  · rename_i h0
    split
    · rename_i h9
      obtain ⟨j, h1, h2⟩ := nI_of2 (x := v) (M := 99) (n := 99) (by decide) (Int32.not_lt.mpr h0) h9
      exact ⟨j, h1, h2⟩
    · exact ⟨99, by decide, rfl⟩
  · exact ⟨0, by decide, rfl⟩
theorem hold_id {k : Nat} (h : k ≤ 99) : hold (nI k) = nI k := by
  unfold hold
  rw [if_pos (nI_pos' (by omega)), l99, if_pos]
  rw [ile (by omega) (by decide)]; exact h
def addm (u : VS) (a b : Nat) (v : Int32) : VS := sV_mem u (upd (gV_mem u) (8 * a + b) (hold (gV_mem u (8 * a + b) + v)))
theorem add_X (u : VS) {a b : Nat} (ha : a < 8) (hb : b < 8) (v : Int32) : f_X8_addMemory u (nI a) (nI b) v = some (addm u a b v) := by
  unfold f_X8_addMemory addm hold
  simp (disch := omega) only [ix8, ck_ok, icl, Option.bind_some]
  generalize gV_mem u (8 * a + b) + v = e
  by_cases h0 : 0 ≤ e
  · rw [if_pos h0, if_pos h0]
    by_cases h9 : e ≤ 99
    · rw [if_pos h9, if_neg (Int32.not_lt.mpr h9)]
    · rw [if_neg h9, if_pos (Int32.not_le.mp h9)]
  · rw [if_neg h0, if_neg h0]
theorem IV_addm {n W : Nat} {u : VS} (h : IV n W u) {a b : Nat} (ha : a < 8) (hb : b < 8) (v : Int32) : IV n W (addm u a b v) := IV_mem h (by omega) (hold_in _)
/-- he is remembered by v more by the first i -/
def rmT (u : VS) (p : Nat) (v : Int32) : Nat → VS
  | 0 => u
  | i + 1 => if i = p then rmT u p v i else if gV_here u i = 0 then rmT u p v i else addm (rmT u p v i) i p v
theorem rmT_keep (u : VS) (p : Nat) (v : Int32) (i : Nat) : gV_kind (rmT u p v i) = gV_kind u ∧ gV_fig (rmT u p v i) = gV_fig u ∧ gV_owed (rmT u p v i) = gV_owed u ∧ gV_here (rmT u p v i) = gV_here u ∧ gV_people (rmT u p v i) = gV_people u ∧ gV_names (rmT u p v i) = gV_names u ∧ gV_week (rmT u p v i) = gV_week u := by
  induction i with
  | zero => exact ⟨rfl, rfl, rfl, rfl, rfl, rfl, rfl⟩
  | succ i ih =>
    simp only [rmT]
    split
    · exact ih
    · split
      · exact ih
      · exact ih
theorem IV_rmT {n W : Nat} {u : VS} (h : IV n W u) {p : Nat} (hp : p < 8) (v : Int32) : ∀ i, i ≤ 8 → IV n W (rmT u p v i) := by
  intro i
  induction i with
  | zero => intro _; exact h
  | succ i ih =>
    intro hi
    have ih := ih (by omega)
    simp only [rmT]
    split
    · exact ih
    · split
      · exact ih
      · exact IV_addm ih (by omega) hp _
theorem rm_X {u : VS} {n W p : Nat} (hI : IV n W u) (hp : p < 8) (v : Int32) : f_X8_rememberMore u (nI p) v = some (rmT u p v n) := by
  unfold f_X8_rememberMore f_X8_rememberMore_2
  have hn := hI.n8
  refine lq2_inv (fun i a b => a = rmT u p v i ∧ b = nI i) (fun o => o = some (rmT u p v n)) n ?_ smN _ _ (smN_gt (by omega)) ⟨rfl, rfl⟩
  rintro i a b hi ⟨rfl, rfl⟩
  have hk := rmT_keep u p v i
  unfold b_X8_rememberMore_2
  rw [hk.2.2.2.2.1, hk.2.2.2.1, hI.pe]
  rcases Nat.lt_or_ge i n with h | h
  · left
    refine ⟨rmT u p v (i + 1), nI (i + 1), h, ⟨rfl, rfl⟩, fun k => ?_⟩
    rw [add_X _ (show i < 8 by omega) hp]
    simp (disch := omega) only [ile, ieq, icl, ck_ok, i1, Option.bind_some]
    rw [if_neg (by omega)]
    simp only [rmT]
    split
    · rfl
    · split <;> rfl
  · right
    obtain rfl : i = n := by omega
    refine ⟨some (rmT u p v i), rfl, fun k => ?_⟩
    simp (disch := omega) only [ile]
    rw [if_pos (Nat.le_refl _)]
theorem VS_mem_same (u : VS) (k : Nat) : sV_mem u (upd (gV_mem u) k (gV_mem u k)) = u := by
  have e : upd (gV_mem u) k (gV_mem u k) = gV_mem u := by
    funext j
    by_cases h : j = k
    · rw [h, us]
    · rw [un h]
  rw [e]
theorem addm0 {n W : Nat} {u : VS} (h : IV n W u) {a b : Nat} (ha : a < 8) (hb : b < 8) : addm u a b 0 = u := by
  unfold addm
  obtain ⟨k, hk, e⟩ := h.me (show 8 * a + b < 64 by omega)
  rw [Int32.add_zero, e, hold_id hk, ← e]
  exact VS_mem_same u _
theorem rmT0 {n W : Nat} {u : VS} (h : IV n W u) {p : Nat} (hp : p < 8) : ∀ i, i ≤ 8 → rmT u p 0 i = u := by
  intro i
  induction i with
  | zero => intro _; rfl
  | succ i ih =>
    intro hi
    simp only [rmT, ih (by omega)]
    split
    · rfl
    · split
      · rfl
      · exact addm0 h (by omega) hp
