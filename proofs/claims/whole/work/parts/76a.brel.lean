/-! the relation between the class's state and the reference's; refusals -/
abbrev xNow (x : XS) : VS := gM_now (gX_mind x)
abbrev xThen (x : XS) : VS := gM_then (gX_mind x)
def AnyV (u : VS) : Prop := ∃ n W, IV n W u
theorem AnyV.nz {u : VS} (h : AnyV u) : NZ u := by obtain ⟨_, _, h⟩ := h; exact h.nz
theorem IV.any {n W : Nat} {u : VS} (h : IV n W u) : AnyV u := ⟨n, W, h⟩
/-- letters so far, and the row's numbers -/
def RLt (t : TS) (d : DS) : Prop := ∃ L, L ≤ 96 ∧ gT_size t = nI L ∧ gD_letN d = nI L ∧ ∀ i, i < L → gT_let t i = gD_let d i ∧ ∃ c, c < 256 ∧ gD_let d i = nI c
def RR (r : RS) (d : DS) : Prop := ∃ L, L ≤ 16 ∧ gR_size r = nI L ∧ gD_rowN d = nI L ∧ ∀ i, i < L → gR_num r i = gD_row d i ∧ ∃ c, c < 100 ∧ gD_row d i = nI c
def RK (x : XS) (d : DS) : Prop := AnyV (gX_kept x) ∧ ((gX_img x = 0 ∧ gD_has d = 0) ∨ (gX_img x = 1 ∧ gD_has d = 1 ∧ ∃ n W, W ≤ 999 ∧ IV n W (gX_kept x) ∧ RV (gX_kept x) (gD_image d)))
def XR (n W : Nat) (x : XS) (d : DS) : Prop := IV n W (xNow x) ∧ W ≤ 999 ∧ RV (xNow x) (gD_s d) ∧ AnyV (xThen x) ∧ AnyV (gM_oth (gX_mind x)) ∧ AnyV (gX_told x) ∧ RK x d ∧ (∀ k, k < 7 → gX_ref x k = gD_ref d k) ∧ RLt (gX_tell x) d ∧ RR (gM_row (gX_mind x)) d
theorem XR.iv {n W : Nat} {x : XS} {d : DS} (h : XR n W x d) : IV n W (xNow x) := h.1
theorem XR.w {n W : Nat} {x : XS} {d : DS} (h : XR n W x d) : W ≤ 999 := h.2.1
theorem XR.rv {n W : Nat} {x : XS} {d : DS} (h : XR n W x d) : RV (xNow x) (gD_s d) := h.2.2.1
theorem XR.th {n W : Nat} {x : XS} {d : DS} (h : XR n W x d) : AnyV (xThen x) := h.2.2.2.1
/-- another valley now -/
theorem XR_now {n W n' W' : Nat} {x : XS} {d : DS} (h : XR n W x d) {u : VS} {r : Nat → Int32} (hI : IV n' W' u) (hW : W' ≤ 999) (hR : RV u r) : XR n' W' (sX_mind x (sM_now (gX_mind x) u)) (sD_s d r) := ⟨hI, hW, hR, h.2.2.2⟩
/-- other things in mind -/
theorem XR_then {n W : Nat} {x : XS} {d : DS} (h : XR n W x d) {u : VS} (hI : AnyV u) (r : Nat → Int32) : XR n W (sX_mind x (sM_then (gX_mind x) u)) (sD_m d r) := ⟨h.1, h.2.1, h.2.2.1, hI, h.2.2.2.2⟩
def bX (x : XS) (j : Nat) : XS := sX_ref x (upd (gX_ref x) j (gX_ref x j + 1))
def bD (d : DS) (j : Nat) : DS := sD_ref d (upd (gD_ref d) j (gD_ref d j + 1))
theorem XR_b {n W : Nat} {x : XS} {d : DS} (h : XR n W x d) {j : Nat} (hj : j < 7) : XR n W (bX x j) (bD d j) := by
  refine ⟨h.1, h.2.1, h.2.2.1, h.2.2.2.1, h.2.2.2.2.1, h.2.2.2.2.2.1, h.2.2.2.2.2.2.1, fun k hk => ?_, h.2.2.2.2.2.2.2.2⟩
  show upd (gX_ref x) j (gX_ref x j + 1) k = upd (gD_ref d) j (gD_ref d j + 1) k
  have e := h.2.2.2.2.2.2.2.1
  by_cases g : k = j
  · rw [g, us, us, e j hj]
  · rw [un g, un g]; exact e k hk
def RC (c : Int32) : Prop := c = -1 ∨ c = -2 ∨ c = -3 ∨ c = -4 ∨ c = -6
def cj (c : Int32) : Nat := Int32.toNatClampNeg (-c)
theorem RC.lt {c : Int32} (h : RC c) : cj c < 7 := by rcases h with h | h | h | h | h <;> rw [h] <;> decide
theorem RC.ne {c : Int32} (h : RC c) : ¬ c = 0 := by rcases h with h | h | h | h | h <;> rw [h] <;> decide
theorem cnt_0 (x : XS) : f_X10_counted x 0 = some (0, x) := by unfold f_X10_counted; rw [if_pos (by decide)]
theorem cnt_c {c : Int32} (h : RC c) (x : XS) : f_X10_counted x c = some (c, bX x (cj c)) := by
  rcases h with h | h | h | h | h <;> rw [h] <;> rfl
theorem no_M {c : Int32} (h : RC c) (d : DS) : f_X11_no d c = some (c, bD d (cj c)) := by
  rcases h with h | h | h | h | h <;> rw [h] <;> rfl
/-- the first that fits is counted -/
theorem ref1 (x : XS) (c : Int32) : f_X10_refused x c = f_X10_counted x c := by
  unfold f_X10_refused
  cases f_X10_counted x c <;> rfl
theorem ref2 (x : XS) (a b : Int32) : f_X10_refused_ x a b = f_X10_counted x (if a = 0 then b else a) := by
  unfold f_X10_refused_ f_X10_firstThatFits
  split
  · rw [Option.bind_some]; cases f_X10_counted x b <;> rfl
  · rw [Option.bind_some]; cases f_X10_counted x a <;> rfl
theorem ref3 (x : XS) (a b c : Int32) : f_X10_refused__ x a b c = f_X10_counted x (if a = 0 then (if b = 0 then c else b) else a) := by
  unfold f_X10_refused__ f_X10_firstThatFits
  by_cases ha : a = 0
  · rw [if_pos ha, if_pos ha, Option.bind_some]
    by_cases hb : b = 0
    · rw [if_pos hb, if_pos hb, Option.bind_some]; cases f_X10_counted x c <;> rfl
    · rw [if_neg hb, if_neg hb, Option.bind_some]; cases f_X10_counted x b <;> rfl
  · rw [if_neg ha, if_neg ha, Option.bind_some, if_neg ha, Option.bind_some]; cases f_X10_counted x a <;> rfl
/-! who: one of the n, or nobody -/
theorem sub1 : ∀ n, n < 9 → (nI n - 1).toInt = (n : Int) - 1 := by decide
theorem who {n : Nat} (hn : n ≤ 8) (x : Int32) : (∃ p, p < n ∧ x = nI p) ∨ ((x < 0 ∨ nI n ≤ x) ∧ ∀ p, p < n → ¬ x = nI p) := by
  rcases pk_ix x (n := n) (by omega) with h | h | h
  · refine Or.inr ⟨Or.inl h, fun p hp e => ?_⟩
    rw [e] at h; exact nI_pos (by omega) h
  · refine Or.inr ⟨Or.inr h, fun p hp e => ?_⟩
    rw [e, ile (by omega) (by omega)] at h; omega
  · exact Or.inl h
theorem has_X {u : VS} {n W p : Nat} (hI : IV n W u) (hp : p < n) : f_X8_has u (nI p) = some 1 := by
  have hn := hI.n8
  unfold f_X8_has
  rw [hI.pe, if_neg (nI_pos (by omega)), if_neg]
  rw [ile (by omega) (by omega)]; omega
theorem has_X0 {u : VS} {n W : Nat} (hI : IV n W u) {x : Int32} (h : x < 0 ∨ nI n ≤ x) : f_X8_has u x = some 0 := by
  unfold f_X8_has
  rw [hI.pe]
  rcases h with h | h
  · rw [if_pos h]
  · by_cases g : x < 0
    · rw [if_pos g]
    · rw [if_neg g, if_pos h]
theorem one_M {d : DS} {u : VS} {n W p : Nat} (hI : IV n W u) (hR : RV u (gD_s d)) (hp : p < n) : f_X11_isOne d (nI p) = some 1 := by
  have hn := hI.n8
  unfold f_X11_isOne f_X11_isIn
  rw [ck0, cl0, hR.pe.trans hI.pe, if_neg (nI_pos (by omega)), if_neg]
  · rfl
  · intro h
    have h1 := Int32.lt_iff_toInt_lt.mp h
    rw [sub1 n (by omega), nI_toInt (by omega)] at h1
    omega
theorem one_M0 {d : DS} {u : VS} {n W : Nat} (hI : IV n W u) (hR : RV u (gD_s d)) {x : Int32} (h : x < 0 ∨ nI n ≤ x) : f_X11_isOne d x = some 0 := by
  have hn := hI.n8
  unfold f_X11_isOne f_X11_isIn
  rw [ck0, cl0, hR.pe.trans hI.pe]
  rcases h with h | h
  · rw [if_pos h]; rfl
  · split
    · rfl
    · rw [if_pos]
      · rfl
      · rw [Int32.lt_iff_toInt_lt, sub1 n (by omega)]
        have h1 := Int32.le_iff_toInt_le.mp h
        rw [nI_toInt (by omega)] at h1
        omega
