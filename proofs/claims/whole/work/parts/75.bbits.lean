/-! who is here, as bits; copies; speaking; coming back; until he is forgotten -/
def hbN (u : VS) : Nat → Nat
  | 0 => 0
  | i + 1 => if gV_here u i = 0 then hbN u i else hbN u i + 2 ^ i
theorem hbN_lt (u : VS) (i : Nat) : hbN u i < 2 ^ i := by
  induction i with
  | zero => decide
  | succ i ih =>
    simp only [hbN]
    have e : 2 ^ (i + 1) = 2 ^ i + 2 ^ i := by rw [Nat.pow_succ]; omega
    split <;> omega
theorem pow_le8 {i : Nat} (h : i ≤ 8) : 2 ^ i ≤ 256 := Nat.pow_le_pow_right (by decide) h
theorem hbN_256 (u : VS) {i : Nat} (h : i ≤ 8) : hbN u i < 256 := Nat.lt_of_lt_of_le (hbN_lt u i) (pow_le8 h)
set_option maxRecDepth 100000 in
theorem or_bit : ∀ i, i < 8 → ∀ a, a < 256 → a < 2 ^ i → nI a ||| ((1 : Int32) <<< (nI i &&& 31)) = nI (a + 2 ^ i) := by decide +kernel
set_option maxRecDepth 100000 in
theorem or_0 : ∀ a, a < 256 → nI a ||| (0 : Int32) = nI a := by decide +kernel
theorem shl_0 : ∀ i, i < 8 → (0 : Int32) <<< (nI i &&& 31) = 0 := by decide +kernel
theorem hb_X {u : VS} {n W : Nat} (hI : IV n W u) : f_X8_hereBits u = some (nI (hbN u n)) := by
  unfold f_X8_hereBits f_X8_hereBits_4
  have hn := hI.n8
  refine lq2_inv (fun i a b => a = nI (hbN u i) ∧ b = nI i) (fun o => o = some (nI (hbN u n))) n ?_ smN _ _ (smN_gt (by omega)) ⟨rfl, rfl⟩
  rintro i a b hi ⟨rfl, rfl⟩
  unfold b_X8_hereBits_4
  rw [hI.pe]
  rcases Nat.lt_or_ge i n with h | h
  · left
    have hi8 : i < 8 := by omega
    refine ⟨nI (hbN u (i + 1)), nI (i + 1), h, ⟨rfl, rfl⟩, fun k => ?_⟩
    rw [or_bit i hi8 _ (hbN_256 u (by omega)) (hbN_lt u i), or_0 _ (hbN_256 u (by omega))]
    simp (disch := omega) only [ile, icl, ck_ok, i1]
    rw [if_neg (by omega)]
    simp only [hbN]
    split <;> rfl
  · right
    obtain rfl : i = n := by omega
    refine ⟨_, rfl, fun k => ?_⟩
    simp (disch := omega) only [ile]
    rw [if_pos (Nat.le_refl _)]
theorem hb_M {u : VS} {r : Nat → Int32} {n W : Nat} (hI : IV n W u) (hR : RV u r) : f_X11_hereIn r = some (nI (hbN u n)) := by
  unfold f_X11_hereIn f_X11_hereIn_4
  have hn := hI.n8
  refine lq2_inv (fun i a b => a = nI (hbN u i) ∧ b = nI i) (fun o => o = some (nI (hbN u n))) n ?_ smN _ _ (smN_gt (by omega)) ⟨rfl, rfl⟩
  rintro i a b hi ⟨rfl, rfl⟩
  unfold b_X11_hereIn_4
  simp only [ck0, cl0, hR.pe.trans hI.pe]
  rcases Nat.lt_or_ge i n with h | h
  · left
    have hi8 : i < 8 := by omega
    have e2 : f_X11_of (nI i) (2 : Int32) = some (nI (3 + 4 * i + 2)) := f_of i 2
    refine ⟨nI (hbN u (i + 1)), nI (i + 1), h, ⟨rfl, rfl⟩, fun k => ?_⟩
    simp (disch := omega) only [e2, ile, icl, ck_ok, i1, Option.bind_some, hR.he hi8]
    rw [if_neg (by omega)]
    simp only [hbN]
    rcases hI.he hi8 with g | g
    · rw [g, if_pos rfl, shl_0 i hi8, or_0 _ (hbN_256 u (by omega))]
    · rw [g, if_neg (by decide), or_bit i hi8 _ (hbN_256 u (by omega)) (hbN_lt u i)]
  · right
    obtain rfl : i = n := by omega
    refine ⟨_, rfl, fun k => ?_⟩
    simp (disch := omega) only [ile]
    rw [if_pos (Nat.le_refl _)]
/-- how many bits -/
def pc8 (a : Nat) : Nat := a % 2 + a / 2 % 2 + a / 4 % 2 + a / 8 % 2 + a / 16 % 2 + a / 32 % 2 + a / 64 % 2 + a / 128 % 2
set_option maxRecDepth 100000 in
theorem bc_X : ∀ a, a < 256 → f_J6_bitCount_0f7a4 (nI a) = some (nI (pc8 a)) := by decide +kernel
set_option maxRecDepth 100000 in
theorem bc_M : ∀ a, a < 256 → f_X11_bits (nI a) = some (nI (pc8 a)) := by decide +kernel
def cnt (u : VS) (n : Nat) : Nat := pc8 (hbN u n)
theorem pc8_le (a : Nat) : pc8 a ≤ 8 := by unfold pc8; omega
theorem ch_cnt {u : VS} {n W : Nat} (hI : IV n W u) : f_X8_countHere u = some (nI (cnt u n)) := by
  unfold f_X8_countHere cnt
  rw [hb_X hI, Option.bind_some, bc_X _ (hbN_256 u hI.n8), Option.bind_some]
/-! copies -/
theorem cpy0 {f g : Nat → Int32} {n : Nat} (hz : ∀ j, n ≤ j → f j = 0 ∧ g j = 0) : va_cpy f g 0 0 n = f := by
  funext j
  rcases Nat.lt_or_ge j n with h | h
  · rw [pk_cpy_in (by omega) (by omega)]
    congr 1; omega
  · rw [pk_cpy_out (by omega), (hz j h).1, (hz j h).2]
theorem cl8 : Int32.toNatClampNeg (8 : Int32) = 8 := by decide
theorem cl64 : Int32.toNatClampNeg (64 : Int32) = 64 := by decide
/-- the first i of the row f, then g -/
def cpT (f g : Nat → Int32) (i : Nat) : Nat → Int32 := fun j => if j < i then f j else g j
theorem cpT_s (f g : Nat → Int32) (i : Nat) : upd (cpT f g i) i (f i) = cpT f g (i + 1) := by
  funext j
  by_cases h : j = i
  · rw [h, us]; simp [cpT]
  · rw [un h]
    simp only [cpT]
    by_cases h2 : j < i
    · rw [if_pos h2, if_pos (by omega)]
    · rw [if_neg h2, if_neg (by omega)]
theorem copy_X {u v : VS} {n W : Nat} (hu : NZ u) (hv : IV n W v) : f_X8_copy (u, v) = some (v, v) := by
  unfold f_X8_copy
  simp only [Option.bind_some, cl0, cl8]
  have hz := hv.nz
  have e1 : va_cpy (gV_kind v) (gV_kind u) 0 0 8 = gV_kind v := cpy0 (fun j h => ⟨(hz.1 j h).1, (hu.1 j h).1⟩)
  have e2 : va_cpy (gV_fig v) (gV_fig u) 0 0 8 = gV_fig v := cpy0 (fun j h => ⟨(hz.1 j h).2.1, (hu.1 j h).2.1⟩)
  have e3 : va_cpy (gV_owed v) (gV_owed u) 0 0 8 = gV_owed v := cpy0 (fun j h => ⟨(hz.1 j h).2.2.1, (hu.1 j h).2.2.1⟩)
  have e4 : va_cpy (gV_mem v) (gV_mem u) 0 0 64 = gV_mem v := cpy0 (fun j h => ⟨hz.2 j h, hu.2 j h⟩)
  rw [e1, e2, e3]
  unfold f_X8_copy_47
  refine lq2_inv (fun i a b => a = ((gV_kind v, gV_fig v, gV_owed v, cpT (gV_here v) (gV_here u) i, gV_mem u, gV_people u, gV_names u, gV_week u), v) ∧ b = nI i) (fun o => o = some (v, v)) 8 ?_ smN _ _ (smN_gt (by omega)) ⟨?_, rfl⟩
  · rintro i a b hi ⟨rfl, rfl⟩
    unfold b_X8_copy_47
    rcases Nat.lt_or_ge i 8 with h | h
    · left
      refine ⟨((gV_kind v, gV_fig v, gV_owed v, cpT (gV_here v) (gV_here u) (i + 1), gV_mem u, gV_people u, gV_names u, gV_week u), v), nI (i + 1), h, ⟨rfl, rfl⟩, fun k => ?_⟩
      have hb : vp_nar .boolean (gV_here v i) = gV_here v i := by
        rcases hv.he h with g | g <;> rw [g] <;> decide
      simp (disch := omega) only [l8, ile, icl, ck_ok, i1, Option.bind_some, hb]
      rw [if_neg (by omega), cpT_s]
    · right
      obtain rfl : i = 8 := by omega
      refine ⟨_, rfl, fun k => ?_⟩
      rw [if_pos (by decide)]
      simp only [Option.bind_some, cl0, cl64, e4]
      have e5 : cpT (gV_here v) (gV_here u) 8 = gV_here v := by
        funext j
        simp only [cpT]
        split
        · rfl
        · rw [(hz.1 j (by omega)).2.2.2, (hu.1 j (by omega)).2.2.2]
      rw [e5]
  · rfl
theorem copies_M (f g : Nat → Int32) : f_X11_copies (f, g) = some (f, cpT f g 99) := by
  unfold f_X11_copies f_X11_copies_2
  refine lq2_inv (fun i a b => a = (f, cpT f g i) ∧ b = nI i) (fun o => o = some (f, cpT f g 99)) 99 ?_ smN _ _ (smN_gt (by omega)) ⟨by rfl, rfl⟩
  rintro i a b hi ⟨rfl, rfl⟩
  unfold b_X11_copies_2
  rcases Nat.lt_or_ge i 99 with h | h
  · left
    refine ⟨(f, cpT f g (i + 1)), nI (i + 1), h, ⟨rfl, rfl⟩, fun k => ?_⟩
    simp (disch := omega) only [l99, ile, icl, ck_ok, i1]
    rw [if_neg (by omega), cpT_s]
  · right
    obtain rfl : i = 99 := by omega
    refine ⟨_, rfl, fun k => ?_⟩
    rw [if_pos (by decide)]
theorem RV_cp {u : VS} {f : Nat → Int32} (g : Nat → Int32) (h : RV u f) : RV u (cpT f g 99) := by
  have e : ∀ j, j < 99 → cpT f g 99 j = f j := fun j hj => if_pos hj
  exact ⟨(e 0 (by decide)).trans h.1, (e 1 (by decide)).trans h.2.1, (e 2 (by decide)).trans h.2.2.1, fun p hp => ⟨(e _ (by omega)).trans (h.ki hp), (e _ (by omega)).trans (h.fi hp), (e _ (by omega)).trans (h.he hp), (e _ (by omega)).trans (h.ow hp)⟩, fun q p hq hp => (e _ (by omega)).trans (h.me hq hp)⟩
/-! speaking -/
def tlk (u : VS) (a b : Nat) : VS := addm (addm u a b 10) b a 10
theorem IV_tlk {n W : Nat} {u : VS} (h : IV n W u) {a b : Nat} (ha : a < 8) (hb : b < 8) : IV n W (tlk u a b) := IV_addm (IV_addm h ha hb _) hb ha _
theorem tlk_X (u : VS) {a b : Nat} (ha : a < 8) (hb : b < 8) : f_X8_talk u (nI a) (nI b) = some (tlk u a b) := by
  unfold f_X8_talk
  rw [add_X _ ha hb, Option.bind_some, add_X _ hb ha, Option.bind_some]
  rfl
theorem tlk_M {u : VS} {r : Nat → Int32} (hR : RV u r) {a b : Nat} (ha : a < 8) (hb : b < 8) : ∃ r', RV (tlk u a b) r' ∧ f_X11_speaksIn r (nI a) (nI b) = some r' := by
  unfold f_X11_speaksIn
  simp (disch := omega) only [f_by, Option.bind_some, ck_ok, icl, hold_M]
  have h1 : RV (addm u a b 10) (upd r (35 + 8 * a + b) (hold (r (35 + 8 * a + b) + 10))) := by
    rw [hR.me ha hb]; exact RV_mem hR ha hb _
  refine ⟨_, ?_, rfl⟩
  rw [h1.me hb ha]
  exact RV_mem h1 hb ha _
/-! coming back -/
def bck (u : VS) (n p : Nat) : VS := raT (sV_here u (upd (gV_here u) p 1)) p 20 n
theorem IV_bck {n W : Nat} {u : VS} (h : IV n W u) {p : Nat} (hp : p < 8) : IV n W (bck u n p) := IV_raT (IV_here h hp (Or.inr rfl)) hp ⟨20, by decide, rfl⟩ n h.n8
theorem bck_X {u : VS} {n W p : Nat} (hI : IV n W u) (hp : p < 8) : f_X8_comeBack u (nI p) = some (bck u n p) := by
  unfold f_X8_comeBack
  simp (disch := omega) only [ck_ok, icl, nz1]
  rw [ra_X (IV_here hI hp (Or.inr rfl)) hp, Option.bind_some]
  rfl
theorem raT_here {u : VS} {p : Nat} (h0 : gV_here u p = 0) (x : Int32) : ∀ i, raT (sV_here u (upd (gV_here u) p 1)) p x i = sV_here (raT u p x i) (upd (gV_here u) p 1) := by
  intro i
  induction i with
  | zero => rfl
  | succ i ih =>
    simp only [raT]
    by_cases g1 : i = p
    · rw [if_pos g1, if_pos g1]; exact ih
    · rw [if_neg g1, if_neg g1]
      have e : gV_here (sV_here u (upd (gV_here u) p 1)) i = gV_here u i := un g1
      rw [e]
      split
      · exact ih
      · rw [ih]
theorem bck_M {u : VS} {r : Nat → Int32} {n W p : Nat} (hI : IV n W u) (hR : RV u r) (hp : p < 8) (h0 : gV_here u p = 0) : ∃ r', RV (bck u n p) r' ∧ f_X11_comesBack r (nI p) = some r' := by
  have hn := hI.n8
  unfold bck f_X11_comesBack f_X11_comesBack_2
  rw [raT_here h0]
  refine lq2_inv (fun i a b => RV (raT u p 20 i) a ∧ b = nI i) (fun o => ∃ r', RV (sV_here (raT u p 20 n) (upd (gV_here u) p 1)) r' ∧ o = some r') n ?_ smN _ _ (smN_gt (by omega)) ⟨hR, rfl⟩
  rintro i a b hi ⟨hRa, rfl⟩
  have hk := raT_keep u p 20 i
  have hIi := IV_raT (x := 20) hI hp ⟨20, by decide, rfl⟩ i (by omega)
  unfold b_X11_comesBack_2
  simp only [ck0, cl0, hRa.pe.trans hIi.pe]
  rcases Nat.lt_or_ge i n with h | h
  · left
    have hi8 : i < 8 := by omega
    rw [here_M hIi hRa hi8, f_by, hk.2.2.2.1]
    by_cases g1 : i = p
    · refine ⟨a, nI (i + 1), h, ⟨?_, rfl⟩, fun k => ?_⟩
      · simp only [raT, if_pos g1]; exact hRa
      · simp (disch := omega) only [ile, ieq, i1, Option.bind_some]
        rw [if_neg (by omega), g1, if_pos h0]
    · by_cases g3 : gV_here u i = 0
      · refine ⟨a, nI (i + 1), h, ⟨?_, rfl⟩, fun k => ?_⟩
        · simp only [raT, if_neg g1, if_pos g3]; exact hRa
        · simp (disch := omega) only [ile, ieq, i1, Option.bind_some]
          rw [if_neg (by omega), if_pos g3]
      · refine ⟨upd a (35 + 8 * i + p) 20, nI (i + 1), h, ⟨?_, rfl⟩, fun k => ?_⟩
        · simp only [raT, if_neg g1, if_neg g3]
          exact RV_mem hRa hi8 hp _
        · simp (disch := omega) only [ile, ieq, i1, Option.bind_some, ck_ok, icl]
          rw [if_neg (by omega), if_neg g3]
  · right
    obtain rfl : i = n := by omega
    have e2 : f_X11_of (nI p) (2 : Int32) = some (nI (3 + 4 * p + 2)) := f_of p 2
    refine ⟨some (upd a (3 + 4 * p + 2) 1), ⟨_, ?_, rfl⟩, fun k => ?_⟩
    · have := RV_here hRa hp 1
      rw [hk.2.2.2.1] at this
      exact this
    · simp (disch := omega) only [ile, i1, e2, Option.bind_some, ck_ok, icl]
      rw [if_pos (Nat.le_refl _)]
/-! until he is forgotten: behind how many weeks, of at most m more -/
def guT (u : VS) (n p : Nat) : Nat → Nat → Nat
  | 0, i => i
  | m + 1, i => if gV_here (wks u n i) p = 0 then i else guT u n p m (i + 1)
/-- 0 to 99, or 100: never -/
def gu (u : VS) (n p : Nat) : Nat := guT u n p 100 0
theorem guT_le (u : VS) (n p m : Nat) : ∀ i, guT u n p m i ≤ i + m ∧ i ≤ guT u n p m i := by
  induction m with
  | zero => intro i; exact ⟨Nat.le_refl _, Nat.le_refl _⟩
  | succ m ih =>
    intro i
    simp only [guT]
    split
    · exact ⟨by omega, Nat.le_refl _⟩
    · have := ih (i + 1); omega
theorem gu_le (u : VS) (n p : Nat) : gu u n p ≤ 100 := by have := (guT_le u n p 100 0).1; unfold gu; omega
theorem l100 : (100 : Int32) = nI 100 := rfl
theorem pu_X {u : VS} {n W p : Nat} (hI : IV n W u) (hW : W < 2 ^ 20) (hp : p < 8) : ∃ w, (∃ W', IV n W' w) ∧ f_X8_passUntilForgotten u (nI p) = some (nI (gu u n p), w) ∧ w = wks u n (gu u n p) := by
  unfold f_X8_passUntilForgotten f_X8_passUntilForgotten_2 gu
  refine ⟨wks u n (guT u n p 100 0), ⟨_, IV_wks hI _⟩, ?_, rfl⟩
  refine lq2_inv (fun i a b => a = wks u n i ∧ b = nI i ∧ guT u n p (100 - i) i = guT u n p 100 0) (fun o => o = some (nI (guT u n p 100 0), wks u n (guT u n p 100 0))) 100 ?_ smN _ _ (smN_gt (by omega)) ⟨rfl, rfl, rfl⟩
  rintro i a b hi ⟨rfl, rfl, hg⟩
  unfold b_X8_passUntilForgotten_2
  rcases Nat.lt_or_ge i 100 with h | h
  · rw [show 100 - i = (99 - i) + 1 by omega] at hg
    simp only [guT] at hg
    by_cases g : gV_here (wks u n i) p = 0
    · right
      rw [if_pos g] at hg
      refine ⟨_, rfl, fun k => ?_⟩
      simp (disch := omega) only [l99, ilt, icl, ck_ok]
      rw [if_neg (by omega), if_pos g, ← hg]
    · left
      rw [if_neg g] at hg
      refine ⟨wks u n (i + 1), nI (i + 1), h, ⟨rfl, rfl, by rw [← hg]; congr 1⟩, fun k => ?_⟩
      rw [wk_X (IV_wks hI i) (by omega)]
      simp (disch := omega) only [l99, ilt, icl, ck_ok, i1, Option.bind_some]
      rw [if_neg (by omega), if_neg g]
      rfl
  · right
    obtain rfl : i = 100 := by omega
    simp only [Nat.sub_self, guT] at hg
    refine ⟨_, rfl, fun k => ?_⟩
    simp (disch := omega) only [l99, ilt]
    rw [if_pos (by decide), ← hg]
    rfl
