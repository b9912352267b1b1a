/-! (B): the pure functions of class and reference answer alike. Numbers first. -/
theorem ile {a b : Nat} (ha : a < 2 ^ 31) (hb : b < 2 ^ 31) : (nI a ≤ nI b) = (a ≤ b) := propext (nI_leI ha hb)
theorem ilt {a b : Nat} (ha : a < 2 ^ 31) (hb : b < 2 ^ 31) : (nI a < nI b) = (a < b) := propext (nI_ltI ha hb)
theorem ieq {a b : Nat} (ha : a < 2 ^ 31) (hb : b < 2 ^ 31) : (nI a = nI b) = (a = b) := propext (nI_eq ha hb)
theorem icl {a : Nat} (ha : a < 2 ^ 31) : Int32.toNatClampNeg (nI a) = a := nI_clamp ha
theorem i1 (a : Nat) : nI a + 1 = nI (a + 1) := nI_1 a
theorem ck_ok {α : Type} {j n : Nat} (h : j < n) (hn : n < 2 ^ 31) (x : Option α) : ck (nI j) n x = x := by
  unfold ck
  rw [if_neg]
  exact vp_in_nI h hn
theorem ck0 {α : Type} (x : Option α) : ck (0 : Int32) 99 x = x := ck_ok (j := 0) (by decide) (by decide) x
theorem ck1 {α : Type} (x : Option α) : ck (1 : Int32) 99 x = x := ck_ok (j := 1) (by decide) (by decide) x
theorem ck2 {α : Type} (x : Option α) : ck (2 : Int32) 99 x = x := ck_ok (j := 2) (by decide) (by decide) x
theorem l0 : (0 : Int32) = nI 0 := rfl
theorem l1 : (1 : Int32) = nI 1 := rfl
theorem l2 : (2 : Int32) = nI 2 := rfl
theorem l3 : (3 : Int32) = nI 3 := rfl
theorem l4 : (4 : Int32) = nI 4 := rfl
theorem l5 : (5 : Int32) = nI 5 := rfl
theorem l8 : (8 : Int32) = nI 8 := rfl
theorem l10 : (10 : Int32) = nI 10 := rfl
theorem l99 : (99 : Int32) = nI 99 := rfl
theorem l64 : (64 : Int32) = nI 64 := rfl
theorem ix8 (i p : Nat) : nI i * (8 : Int32) + nI p = nI (8 * i + p) := by
  rw [l8, pk_mul, nI_add, Nat.mul_comm]
theorem ix_of (p w : Nat) : (3 : Int32) + (4 : Int32) * nI p + nI w = nI (3 + 4 * p + w) := by
  rw [l3, l4, pk_mul, nI_add, nI_add]
theorem ix_by (q p : Nat) : (35 : Int32) + (8 : Int32) * nI q + nI p = nI (35 + 8 * q + p) := by
  rw [show (35 : Int32) = nI 35 from rfl, l8, pk_mul, nI_add, nI_add]
theorem smN_gt {n : Nat} (h : n ≤ 900) : n < smN := Nat.lt_of_le_of_lt h (by unfold smN; decide)
/-- a loop of at most n turns, by an invariant: each turn goes on, or ends with P -/
theorem lq1_inv {A1 β : Type} {step : (A1 → Option β) → A1 → Option β} (I : Nat → A1 → Prop) (P : Option β → Prop) (n : Nat)
    (hs : ∀ (i : Nat) (a1 : A1), i ≤ n → I i a1 → (∃ b1 : A1, i < n ∧ I (i + 1) b1 ∧ ∀ k, step k a1 = k b1) ∨ (∃ o, P o ∧ ∀ k, step k a1 = o)) :
    ∀ (N : Nat) (a1 : A1), n < N → I 0 a1 → P (lq1 step N a1) := by
  have key : ∀ (d i : Nat) (a1 : A1) (N : Nat), i + d = n → d < N → I i a1 → P (lq1 step N a1) := by
    intro d
    induction d with
    | zero =>
      intro i a1 N hi hN hI
      cases N with
      | zero => omega
      | succ N =>
        rcases hs i a1 (by omega) hI with ⟨b1, h1, -⟩ | ⟨o, ho, he⟩
        · omega
        · show P (step (lq1 step N) a1)
          rw [he]; exact ho
    | succ d ih =>
      intro i a1 N hi hN hI
      cases N with
      | zero => omega
      | succ N =>
        show P (step (lq1 step N) a1)
        rcases hs i a1 (by omega) hI with ⟨b1, h1, h2, h3⟩ | ⟨o, ho, he⟩
        · rw [h3]
          exact ih (i + 1) b1 N (by omega) (by omega) h2
        · rw [he]; exact ho
  intro N a1 hN hI
  exact key n 0 a1 N (by omega) hN hI
/-- a loop of at most n turns, by an invariant: each turn goes on, or ends with P -/
theorem lq2_inv {A1 A2 β : Type} {step : (A1 → A2 → Option β) → A1 → A2 → Option β} (I : Nat → A1 → A2 → Prop) (P : Option β → Prop) (n : Nat)
    (hs : ∀ (i : Nat) (a1 : A1) (a2 : A2), i ≤ n → I i a1 a2 → (∃ b1 : A1, ∃ b2 : A2, i < n ∧ I (i + 1) b1 b2 ∧ ∀ k, step k a1 a2 = k b1 b2) ∨ (∃ o, P o ∧ ∀ k, step k a1 a2 = o)) :
    ∀ (N : Nat) (a1 : A1) (a2 : A2), n < N → I 0 a1 a2 → P (lq2 step N a1 a2) := by
  have key : ∀ (d i : Nat) (a1 : A1) (a2 : A2) (N : Nat), i + d = n → d < N → I i a1 a2 → P (lq2 step N a1 a2) := by
    intro d
    induction d with
    | zero =>
      intro i a1 a2 N hi hN hI
      cases N with
      | zero => omega
      | succ N =>
        rcases hs i a1 a2 (by omega) hI with ⟨b1, b2, h1, -⟩ | ⟨o, ho, he⟩
        · omega
        · show P (step (lq2 step N) a1 a2)
          rw [he]; exact ho
    | succ d ih =>
      intro i a1 a2 N hi hN hI
      cases N with
      | zero => omega
      | succ N =>
        show P (step (lq2 step N) a1 a2)
        rcases hs i a1 a2 (by omega) hI with ⟨b1, b2, h1, h2, h3⟩ | ⟨o, ho, he⟩
        · rw [h3]
          exact ih (i + 1) b1 b2 N (by omega) (by omega) h2
        · rw [he]; exact ho
  intro N a1 a2 hN hI
  exact key n 0 a1 a2 N (by omega) hN hI
/-- a loop of at most n turns, by an invariant: each turn goes on, or ends with P -/
theorem lq3_inv {A1 A2 A3 β : Type} {step : (A1 → A2 → A3 → Option β) → A1 → A2 → A3 → Option β} (I : Nat → A1 → A2 → A3 → Prop) (P : Option β → Prop) (n : Nat)
    (hs : ∀ (i : Nat) (a1 : A1) (a2 : A2) (a3 : A3), i ≤ n → I i a1 a2 a3 → (∃ b1 : A1, ∃ b2 : A2, ∃ b3 : A3, i < n ∧ I (i + 1) b1 b2 b3 ∧ ∀ k, step k a1 a2 a3 = k b1 b2 b3) ∨ (∃ o, P o ∧ ∀ k, step k a1 a2 a3 = o)) :
    ∀ (N : Nat) (a1 : A1) (a2 : A2) (a3 : A3), n < N → I 0 a1 a2 a3 → P (lq3 step N a1 a2 a3) := by
  have key : ∀ (d i : Nat) (a1 : A1) (a2 : A2) (a3 : A3) (N : Nat), i + d = n → d < N → I i a1 a2 a3 → P (lq3 step N a1 a2 a3) := by
    intro d
    induction d with
    | zero =>
      intro i a1 a2 a3 N hi hN hI
      cases N with
      | zero => omega
      | succ N =>
        rcases hs i a1 a2 a3 (by omega) hI with ⟨b1, b2, b3, h1, -⟩ | ⟨o, ho, he⟩
        · omega
        · show P (step (lq3 step N) a1 a2 a3)
          rw [he]; exact ho
    | succ d ih =>
      intro i a1 a2 a3 N hi hN hI
      cases N with
      | zero => omega
      | succ N =>
        show P (step (lq3 step N) a1 a2 a3)
        rcases hs i a1 a2 a3 (by omega) hI with ⟨b1, b2, b3, h1, h2, h3⟩ | ⟨o, ho, he⟩
        · rw [h3]
          exact ih (i + 1) b1 b2 b3 N (by omega) (by omega) h2
        · rw [he]; exact ho
  intro N a1 a2 a3 hN hI
  exact key n 0 a1 a2 a3 N (by omega) hN hI
/-- a loop of at most n turns, by an invariant: each turn goes on, or ends with P -/
theorem lq4_inv {A1 A2 A3 A4 β : Type} {step : (A1 → A2 → A3 → A4 → Option β) → A1 → A2 → A3 → A4 → Option β} (I : Nat → A1 → A2 → A3 → A4 → Prop) (P : Option β → Prop) (n : Nat)
    (hs : ∀ (i : Nat) (a1 : A1) (a2 : A2) (a3 : A3) (a4 : A4), i ≤ n → I i a1 a2 a3 a4 → (∃ b1 : A1, ∃ b2 : A2, ∃ b3 : A3, ∃ b4 : A4, i < n ∧ I (i + 1) b1 b2 b3 b4 ∧ ∀ k, step k a1 a2 a3 a4 = k b1 b2 b3 b4) ∨ (∃ o, P o ∧ ∀ k, step k a1 a2 a3 a4 = o)) :
    ∀ (N : Nat) (a1 : A1) (a2 : A2) (a3 : A3) (a4 : A4), n < N → I 0 a1 a2 a3 a4 → P (lq4 step N a1 a2 a3 a4) := by
  have key : ∀ (d i : Nat) (a1 : A1) (a2 : A2) (a3 : A3) (a4 : A4) (N : Nat), i + d = n → d < N → I i a1 a2 a3 a4 → P (lq4 step N a1 a2 a3 a4) := by
    intro d
    induction d with
    | zero =>
      intro i a1 a2 a3 a4 N hi hN hI
      cases N with
      | zero => omega
      | succ N =>
        rcases hs i a1 a2 a3 a4 (by omega) hI with ⟨b1, b2, b3, b4, h1, -⟩ | ⟨o, ho, he⟩
        · omega
        · show P (step (lq4 step N) a1 a2 a3 a4)
          rw [he]; exact ho
    | succ d ih =>
      intro i a1 a2 a3 a4 N hi hN hI
      cases N with
      | zero => omega
      | succ N =>
        show P (step (lq4 step N) a1 a2 a3 a4)
        rcases hs i a1 a2 a3 a4 (by omega) hI with ⟨b1, b2, b3, b4, h1, h2, h3⟩ | ⟨o, ho, he⟩
        · rw [h3]
          exact ih (i + 1) b1 b2 b3 b4 N (by omega) (by omega) h2
        · rw [he]; exact ho
  intro N a1 a2 a3 a4 hN hI
  exact key n 0 a1 a2 a3 a4 N (by omega) hN hI
/-- a loop of at most n turns, by an invariant: each turn goes on, or ends with P -/
theorem lq5_inv {A1 A2 A3 A4 A5 β : Type} {step : (A1 → A2 → A3 → A4 → A5 → Option β) → A1 → A2 → A3 → A4 → A5 → Option β} (I : Nat → A1 → A2 → A3 → A4 → A5 → Prop) (P : Option β → Prop) (n : Nat)
    (hs : ∀ (i : Nat) (a1 : A1) (a2 : A2) (a3 : A3) (a4 : A4) (a5 : A5), i ≤ n → I i a1 a2 a3 a4 a5 → (∃ b1 : A1, ∃ b2 : A2, ∃ b3 : A3, ∃ b4 : A4, ∃ b5 : A5, i < n ∧ I (i + 1) b1 b2 b3 b4 b5 ∧ ∀ k, step k a1 a2 a3 a4 a5 = k b1 b2 b3 b4 b5) ∨ (∃ o, P o ∧ ∀ k, step k a1 a2 a3 a4 a5 = o)) :
    ∀ (N : Nat) (a1 : A1) (a2 : A2) (a3 : A3) (a4 : A4) (a5 : A5), n < N → I 0 a1 a2 a3 a4 a5 → P (lq5 step N a1 a2 a3 a4 a5) := by
  have key : ∀ (d i : Nat) (a1 : A1) (a2 : A2) (a3 : A3) (a4 : A4) (a5 : A5) (N : Nat), i + d = n → d < N → I i a1 a2 a3 a4 a5 → P (lq5 step N a1 a2 a3 a4 a5) := by
    intro d
    induction d with
    | zero =>
      intro i a1 a2 a3 a4 a5 N hi hN hI
      cases N with
      | zero => omega
      | succ N =>
        rcases hs i a1 a2 a3 a4 a5 (by omega) hI with ⟨b1, b2, b3, b4, b5, h1, -⟩ | ⟨o, ho, he⟩
        · omega
        · show P (step (lq5 step N) a1 a2 a3 a4 a5)
          rw [he]; exact ho
    | succ d ih =>
      intro i a1 a2 a3 a4 a5 N hi hN hI
      cases N with
      | zero => omega
      | succ N =>
        show P (step (lq5 step N) a1 a2 a3 a4 a5)
        rcases hs i a1 a2 a3 a4 a5 (by omega) hI with ⟨b1, b2, b3, b4, b5, h1, h2, h3⟩ | ⟨o, ho, he⟩
        · rw [h3]
          exact ih (i + 1) b1 b2 b3 b4 b5 N (by omega) (by omega) h2
        · rw [he]; exact ho
  intro N a1 a2 a3 a4 a5 hN hI
  exact key n 0 a1 a2 a3 a4 a5 N (by omega) hN hI
/-- a loop of at most n turns, by an invariant: each turn goes on, or ends with P -/
theorem lq6_inv {A1 A2 A3 A4 A5 A6 β : Type} {step : (A1 → A2 → A3 → A4 → A5 → A6 → Option β) → A1 → A2 → A3 → A4 → A5 → A6 → Option β} (I : Nat → A1 → A2 → A3 → A4 → A5 → A6 → Prop) (P : Option β → Prop) (n : Nat)
    (hs : ∀ (i : Nat) (a1 : A1) (a2 : A2) (a3 : A3) (a4 : A4) (a5 : A5) (a6 : A6), i ≤ n → I i a1 a2 a3 a4 a5 a6 → (∃ b1 : A1, ∃ b2 : A2, ∃ b3 : A3, ∃ b4 : A4, ∃ b5 : A5, ∃ b6 : A6, i < n ∧ I (i + 1) b1 b2 b3 b4 b5 b6 ∧ ∀ k, step k a1 a2 a3 a4 a5 a6 = k b1 b2 b3 b4 b5 b6) ∨ (∃ o, P o ∧ ∀ k, step k a1 a2 a3 a4 a5 a6 = o)) :
    ∀ (N : Nat) (a1 : A1) (a2 : A2) (a3 : A3) (a4 : A4) (a5 : A5) (a6 : A6), n < N → I 0 a1 a2 a3 a4 a5 a6 → P (lq6 step N a1 a2 a3 a4 a5 a6) := by
  have key : ∀ (d i : Nat) (a1 : A1) (a2 : A2) (a3 : A3) (a4 : A4) (a5 : A5) (a6 : A6) (N : Nat), i + d = n → d < N → I i a1 a2 a3 a4 a5 a6 → P (lq6 step N a1 a2 a3 a4 a5 a6) := by
    intro d
    induction d with
    | zero =>
      intro i a1 a2 a3 a4 a5 a6 N hi hN hI
      cases N with
      | zero => omega
      | succ N =>
        rcases hs i a1 a2 a3 a4 a5 a6 (by omega) hI with ⟨b1, b2, b3, b4, b5, b6, h1, -⟩ | ⟨o, ho, he⟩
        · omega
        · show P (step (lq6 step N) a1 a2 a3 a4 a5 a6)
          rw [he]; exact ho
    | succ d ih =>
      intro i a1 a2 a3 a4 a5 a6 N hi hN hI
      cases N with
      | zero => omega
      | succ N =>
        show P (step (lq6 step N) a1 a2 a3 a4 a5 a6)
        rcases hs i a1 a2 a3 a4 a5 a6 (by omega) hI with ⟨b1, b2, b3, b4, b5, b6, h1, h2, h3⟩ | ⟨o, ho, he⟩
        · rw [h3]
          exact ih (i + 1) b1 b2 b3 b4 b5 b6 N (by omega) (by omega) h2
        · rw [he]; exact ho
  intro N a1 a2 a3 a4 a5 a6 hN hI
  exact key n 0 a1 a2 a3 a4 a5 a6 N (by omega) hN hI
/-- nothing stands beyond the rows' ends -/
def NZ (u : VS) : Prop := (∀ p, 8 ≤ p → gV_kind u p = 0 ∧ gV_fig u p = 0 ∧ gV_owed u p = 0 ∧ gV_here u p = 0) ∧ ∀ j, 64 ≤ j → gV_mem u j = 0
/-- the numbers of a valley are in their ranges; n people -/
def IV (n W : Nat) (u : VS) : Prop := n ≤ 8 ∧ gV_people u = nI n ∧ gV_week u = nI W ∧ (∃ k, k ≤ 3 ∧ gV_names u = nI k) ∧ (∀ p, p < 8 → (∃ k, k < 6 ∧ gV_kind u p = nI k) ∧ (∃ f, f < 10 ∧ gV_fig u p = nI f) ∧ (gV_here u p = 0 ∨ gV_here u p = 1) ∧ (∃ o, o ≤ 99 ∧ gV_owed u p = nI o)) ∧ (∀ j, j < 64 → ∃ v, v ≤ 99 ∧ gV_mem u j = nI v) ∧ NZ u
/-- the reference's row holds the valley -/
def RV (u : VS) (r : Nat → Int32) : Prop := r 0 = gV_people u ∧ r 1 = gV_week u ∧ r 2 = gV_names u ∧ (∀ p, p < 8 → r (3 + 4 * p + 0) = gV_kind u p ∧ r (3 + 4 * p + 1) = gV_fig u p ∧ r (3 + 4 * p + 2) = gV_here u p ∧ r (3 + 4 * p + 3) = gV_owed u p) ∧ ∀ q p, q < 8 → p < 8 → r (35 + 8 * q + p) = gV_mem u (8 * q + p)
theorem f_of (p w : Nat) : f_X11_of (nI p) (nI w) = some (nI (3 + 4 * p + w)) := by unfold f_X11_of; rw [ix_of]
theorem f_by (q p : Nat) : f_X11_by (nI q) (nI p) = some (nI (35 + 8 * q + p)) := by unfold f_X11_by; rw [ix_by]
theorem cl0 : Int32.toNatClampNeg (0 : Int32) = 0 := by decide
theorem cl1 : Int32.toNatClampNeg (1 : Int32) = 1 := by decide
theorem cl2 : Int32.toNatClampNeg (2 : Int32) = 2 := by decide
theorem here_M {u : VS} {r : Nat → Int32} {n W p : Nat} (hI : IV n W u) (hR : RV u r) (hp : p < 8) : f_X11_isHere r (nI p) = some (gV_here u p) := by
  unfold f_X11_isHere
  rw [l2, f_of, Option.bind_some, ck_ok (by omega) (by decide), icl (by omega), (hR.2.2.2.1 p hp).2.2.1]
  rcases (hI.2.2.2.2.1 p hp).2.2.1 with h | h <;> rw [h] <;> decide
/-- how well p is known, by the first i -/
def knT (u : VS) (p : Nat) : Nat → Int32
  | 0 => 0
  | i + 1 => if i = p then knT u p i else if gV_here u i = 0 then knT u p i else knT u p i + gV_mem u (8 * i + p)
def kn (u : VS) (n p : Nat) : Int32 := knT u p n
theorem kn_X {u : VS} {n W p : Nat} (hI : IV n W u) (hp : p < 8) : f_X8_knownOf u (nI p) = some (kn u n p) := by
  unfold f_X8_knownOf f_X8_knownOf_4
  obtain ⟨hn, hpe, -⟩ := hI
  refine lq2_inv (fun i a b => a = knT u p i ∧ b = nI i) (fun o => o = some (kn u n p)) n ?_ smN 0 0 (smN_gt (by omega)) ⟨rfl, rfl⟩
  rintro i a b hi ⟨rfl, rfl⟩
  unfold b_X8_knownOf_4
  rw [hpe]
  rcases Nat.lt_or_ge i n with h | h
  · left
    refine ⟨knT u p (i + 1), nI (i + 1), h, ⟨rfl, rfl⟩, fun k => ?_⟩
    simp (disch := omega) only [ile, ieq, icl, ck_ok, ix8, i1]
    rw [if_neg (by omega)]
    simp only [knT]
    split
    · rfl
    · split <;> rfl
  · right
    obtain rfl : i = n := by omega
    refine ⟨some (knT u p i), rfl, fun k => ?_⟩
    simp (disch := omega) only [ile]
    rw [if_pos (Nat.le_refl _)]
theorem kn_M {u : VS} {r : Nat → Int32} {n W p : Nat} (hI : IV n W u) (hR : RV u r) (hp : p < 8) : f_X11_knownIn r (nI p) = some (kn u n p) := by
  unfold f_X11_knownIn f_X11_knownIn_4
  have hn := hI.1
  have hpe : r 0 = nI n := hR.1.trans hI.2.1
  refine lq2_inv (fun i a b => a = knT u p i ∧ b = nI i) (fun o => o = some (kn u n p)) n ?_ smN 0 0 (smN_gt (by omega)) ⟨rfl, rfl⟩
  rintro i a b hi ⟨rfl, rfl⟩
  unfold b_X11_knownIn_4
  simp only [ck0, cl0, hpe]
  rcases Nat.lt_or_ge i n with h | h
  · left
    refine ⟨knT u p (i + 1), nI (i + 1), h, ⟨rfl, rfl⟩, fun k => ?_⟩
    rw [here_M hI hR (show i < 8 by omega), f_by]
    simp (disch := omega) only [ile, ieq, icl, ck_ok, i1, Option.bind_some, Int32.add_zero]
    rw [if_neg (by omega), hR.2.2.2.2 i p (by omega) hp]
    simp only [knT]
    split
    · rfl
    · split <;> rfl
  · right
    obtain rfl : i = n := by omega
    refine ⟨some (knT u p i), rfl, fun k => ?_⟩
    simp (disch := omega) only [ile]
    rw [if_pos (Nat.le_refl _)]
