/-! who is here, as bits; copies; speaking; coming back; until he is forgotten -/
def hbN (u : VS) : Nat → Nat
  | 0 => 0
  | i + 1 => if gV_here u i = 0 then hbN u i else hbN u i + 2 ^ i
theorem hbN_lt (u : VS) (i : Nat) : hbN u i < 2 ^ i := by
  induction i with
  | zero => exact Nat.one_pos
  | succ i ih =>
    simp only [hbN]
    have e : 2 ^ (i + 1) = 2 ^ i + 2 ^ i := by rw [Nat.pow_succ]; omega
    split <;> omega
theorem pow_le8 {i : Nat} (h : i ≤ 8) : 2 ^ i ≤ 256 := Nat.pow_le_pow_right (by decide) h
theorem hbN_256 (u : VS) {i : Nat} (h : i ≤ 8) : hbN u i < 256 := Nat.lt_of_lt_of_le (hbN_lt u i) (pow_le8 h)
set_option maxRecDepth 100000 in
theorem or_bit : ∀ i, i < 8 → ∀ a, a < 256 → a < 2 ^ i → nI a ||| ((1 : Int32) <<< (nI i &&& 31)) = nI (a + 2 ^ i) := by decide +kernel
set_option maxRecDepth 100000 in
theorem or_0 : ∀ a, a < 256 → nI a ||| (0 : Int32) = nI a := by decide +kernel
theorem shl_0 : ∀ i, i < 8 → (0 : Int32) <<< (nI i &&& 31) = 0 := by decide +kernel
theorem hb_X {u : VS} {n W : Nat} (hI : IV n W u) : f_X8_hereBits u = some (nI (hbN u n)) := by
  unfold f_X8_hereBits f_X8_hereBits_4
  have hn := hI.n8
  refine lq2_inv (fun i a b => a = nI (hbN u i) ∧ b = nI i) (fun o => o = some (nI (hbN u n))) n ?_ smN _ _ (smN_gt (by omega)) ⟨rfl, rfl⟩
  rintro i a b hi ⟨rfl, rfl⟩
  unfold b_X8_hereBits_4
  rw [hI.pe]
  rcases Nat.lt_or_ge i n with h | h
  · left
    have hi8 : i < 8 := by omega
    refine ⟨nI (hbN u (i + 1)), nI (i + 1), h, ⟨rfl, rfl⟩, fun k => ?_⟩
    rw [or_bit i hi8 _ (hbN_256 u (by omega)) (hbN_lt u i), or_0 _ (hbN_256 u (by omega))]
    simp (disch := omega) only [ile, icl, ck_ok, i1]
    rw [if_neg (by omega)]
    simp only [hbN]
    split <;> rfl
  · right
    obtain rfl : i = n := by omega
    refine ⟨_, rfl, fun k => ?_⟩
    simp (disch := omega) only [ile]
    rw [if_pos (Nat.le_refl _)]
theorem hb_M {u : VS} {r : Nat → Int32} {n W : Nat} (hI : IV n W u) (hR : RV u r) : f_X11_hereIn r = some (nI (hbN u n)) := by
  unfold f_X11_hereIn f_X11_hereIn_4
  have hn := hI.n8
  refine lq2_inv (fun i a b => a = nI (hbN u i) ∧ b = nI i) (fun o => o = some (nI (hbN u n))) n ?_ smN _ _ (smN_gt (by omega)) ⟨rfl, rfl⟩
  rintro i a b hi ⟨rfl, rfl⟩
  unfold b_X11_hereIn_4
  simp only [ck0, cl0, hR.pe.trans hI.pe]
  rcases Nat.lt_or_ge i n with h | h
  · left
    have hi8 : i < 8 := by omega
    have e2 : f_X11_of (nI i) (2 : Int32) = some (nI (3 + 4 * i + 2)) := f_of i 2
    refine ⟨nI (hbN u (i + 1)), nI (i + 1), h, ⟨rfl, rfl⟩, fun k => ?_⟩
    simp (disch := omega) only [e2, ile, icl, ck_ok, i1, Option.bind_some, hR.he hi8]
    rw [if_neg (by omega)]
    simp only [hbN]
    rcases hI.he hi8 with g | g
    · rw [g, if_pos rfl, shl_0 i hi8, or_0 _ (hbN_256 u (by omega))]
    · rw [g, if_neg (by decide), or_bit i hi8 _ (hbN_256 u (by omega)) (hbN_lt u i)]
  · right
    obtain rfl : i = n := by omega
    refine ⟨_, rfl, fun k => ?_⟩
    simp (disch := omega) only [ile]
    rw [if_pos (Nat.le_refl _)]
/-- how many bits -/
def pcT (a : Nat) : Nat → Nat
  | 0 => 0
  | i + 1 => pcT a i + a / 2 ^ i % 2
def pc8 (a : Nat) : Nat := pcT a 8
set_option maxRecDepth 100000 in
theorem bc_X : ∀ a, a < 256 → f_J6_bitCount_0f7a4 (nI a) = some (nI (pc8 a)) := by decide +kernel
set_option maxRecDepth 100000 in
theorem bit_M : ∀ i, i < 8 → ∀ a, a < 256 → ((nI a >>> (nI i &&& 31)) &&& (1 : Int32)) = nI (a / 2 ^ i % 2) := by decide +kernel
theorem bc_M {a : Nat} (ha : a < 256) : f_X11_bits (nI a) = some (nI (pc8 a)) := by
  unfold f_X11_bits f_X11_bits_4
  refine lq2_inv (fun i x b => x = nI (pcT a i) ∧ b = nI i) (fun o => o = some (nI (pc8 a))) 8 ?_ smN _ _ (smN_gt (by omega)) ⟨rfl, rfl⟩
  rintro i x b hi ⟨rfl, rfl⟩
  unfold b_X11_bits_4
  rcases Nat.lt_or_ge i 8 with h | h
  · left
    refine ⟨nI (pcT a (i + 1)), nI (i + 1), h, ⟨rfl, rfl⟩, fun k => ?_⟩
    rw [bit_M i h a ha, nI_add]
    simp (disch := omega) only [l8, ile, i1]
    rw [if_neg (by omega)]
    rfl
  · right
    obtain rfl : i = 8 := by omega
    refine ⟨_, rfl, fun k => ?_⟩
    rw [if_pos (by decide)]
    rfl
def cnt (u : VS) (n : Nat) : Nat := pc8 (hbN u n)
theorem pcT_le (a i : Nat) : pcT a i ≤ i := by
  induction i with
  | zero => exact Nat.le_refl _
  | succ i ih =>
    have : a / 2 ^ i % 2 < 2 := Nat.mod_lt _ (by decide)
    simp only [pcT]; omega
theorem pc8_le (a : Nat) : pc8 a ≤ 8 := pcT_le a 8
theorem ch_cnt {u : VS} {n W : Nat} (hI : IV n W u) : f_X8_countHere u = some (nI (cnt u n)) := by
  unfold f_X8_countHere cnt
  rw [hb_X hI, Option.bind_some, bc_X _ (hbN_256 u hI.n8), Option.bind_some]
