/-! loops whose step may choose by what comes behind -/
theorem lq1_inw {A1 β : Type} {step : (A1 → Option β) → A1 → Option β} (I : Nat → A1 → Prop) (P : Option β → Prop) (n : Nat)
    (hs : ∀ (i : Nat) (a1 : A1) (k : A1 → Option β), i ≤ n → I i a1 → (∃ b1 : A1, i < n ∧ I (i + 1) b1 ∧ step k a1 = k b1) ∨ P (step k a1)) :
    ∀ (N : Nat) (a1 : A1), n < N → I 0 a1 → P (lq1 step N a1) := by
  have key : ∀ (d i : Nat) (a1 : A1) (N : Nat), i + d = n → d < N → I i a1 → P (lq1 step N a1) := by
    intro d
    induction d with
    | zero =>
      intro i a1 N hi hN hI
      cases N with
      | zero => omega
      | succ N =>
        rcases hs i a1 (lq1 step N) (by omega) hI with ⟨b1, h1, -⟩ | ho
        · omega
        · exact ho
    | succ d ih =>
      intro i a1 N hi hN hI
      cases N with
      | zero => omega
      | succ N =>
        show P (step (lq1 step N) a1)
        rcases hs i a1 (lq1 step N) (by omega) hI with ⟨b1, h1, h2, h3⟩ | ho
        · rw [h3]; exact ih (i + 1) b1 N (by omega) (by omega) h2
        · exact ho
  intro N a1 hN hI
  exact key n 0 a1 N (by omega) hN hI
theorem lq2_inw {A1 A2 β : Type} {step : (A1 → A2 → Option β) → A1 → A2 → Option β} (I : Nat → A1 → A2 → Prop) (P : Option β → Prop) (n : Nat)
    (hs : ∀ (i : Nat) (a1 : A1) (a2 : A2) (k : A1 → A2 → Option β), i ≤ n → I i a1 a2 → (∃ b1 : A1, ∃ b2 : A2, i < n ∧ I (i + 1) b1 b2 ∧ step k a1 a2 = k b1 b2) ∨ P (step k a1 a2)) :
    ∀ (N : Nat) (a1 : A1) (a2 : A2), n < N → I 0 a1 a2 → P (lq2 step N a1 a2) := by
  have key : ∀ (d i : Nat) (a1 : A1) (a2 : A2) (N : Nat), i + d = n → d < N → I i a1 a2 → P (lq2 step N a1 a2) := by
    intro d
    induction d with
    | zero =>
      intro i a1 a2 N hi hN hI
      cases N with
      | zero => omega
      | succ N =>
        rcases hs i a1 a2 (lq2 step N) (by omega) hI with ⟨b1, b2, h1, -⟩ | ho
        · omega
        · exact ho
    | succ d ih =>
      intro i a1 a2 N hi hN hI
      cases N with
      | zero => omega
      | succ N =>
        show P (step (lq2 step N) a1 a2)
        rcases hs i a1 a2 (lq2 step N) (by omega) hI with ⟨b1, b2, h1, h2, h3⟩ | ho
        · rw [h3]; exact ih (i + 1) b1 b2 N (by omega) (by omega) h2
        · exact ho
  intro N a1 a2 hN hI
  exact key n 0 a1 a2 N (by omega) hN hI
theorem lq3_inw {A1 A2 A3 β : Type} {step : (A1 → A2 → A3 → Option β) → A1 → A2 → A3 → Option β} (I : Nat → A1 → A2 → A3 → Prop) (P : Option β → Prop) (n : Nat)
    (hs : ∀ (i : Nat) (a1 : A1) (a2 : A2) (a3 : A3) (k : A1 → A2 → A3 → Option β), i ≤ n → I i a1 a2 a3 → (∃ b1 : A1, ∃ b2 : A2, ∃ b3 : A3, i < n ∧ I (i + 1) b1 b2 b3 ∧ step k a1 a2 a3 = k b1 b2 b3) ∨ P (step k a1 a2 a3)) :
    ∀ (N : Nat) (a1 : A1) (a2 : A2) (a3 : A3), n < N → I 0 a1 a2 a3 → P (lq3 step N a1 a2 a3) := by
  have key : ∀ (d i : Nat) (a1 : A1) (a2 : A2) (a3 : A3) (N : Nat), i + d = n → d < N → I i a1 a2 a3 → P (lq3 step N a1 a2 a3) := by
    intro d
    induction d with
    | zero =>
      intro i a1 a2 a3 N hi hN hI
      cases N with
      | zero => omega
      | succ N =>
        rcases hs i a1 a2 a3 (lq3 step N) (by omega) hI with ⟨b1, b2, b3, h1, -⟩ | ho
        · omega
        · exact ho
    | succ d ih =>
      intro i a1 a2 a3 N hi hN hI
      cases N with
      | zero => omega
      | succ N =>
        show P (step (lq3 step N) a1 a2 a3)
        rcases hs i a1 a2 a3 (lq3 step N) (by omega) hI with ⟨b1, b2, b3, h1, h2, h3⟩ | ho
        · rw [h3]; exact ih (i + 1) b1 b2 b3 N (by omega) (by omega) h2
        · exact ho
  intro N a1 a2 a3 hN hI
  exact key n 0 a1 a2 a3 N (by omega) hN hI
theorem lq4_inw {A1 A2 A3 A4 β : Type} {step : (A1 → A2 → A3 → A4 → Option β) → A1 → A2 → A3 → A4 → Option β} (I : Nat → A1 → A2 → A3 → A4 → Prop) (P : Option β → Prop) (n : Nat)
    (hs : ∀ (i : Nat) (a1 : A1) (a2 : A2) (a3 : A3) (a4 : A4) (k : A1 → A2 → A3 → A4 → Option β), i ≤ n → I i a1 a2 a3 a4 → (∃ b1 : A1, ∃ b2 : A2, ∃ b3 : A3, ∃ b4 : A4, i < n ∧ I (i + 1) b1 b2 b3 b4 ∧ step k a1 a2 a3 a4 = k b1 b2 b3 b4) ∨ P (step k a1 a2 a3 a4)) :
    ∀ (N : Nat) (a1 : A1) (a2 : A2) (a3 : A3) (a4 : A4), n < N → I 0 a1 a2 a3 a4 → P (lq4 step N a1 a2 a3 a4) := by
  have key : ∀ (d i : Nat) (a1 : A1) (a2 : A2) (a3 : A3) (a4 : A4) (N : Nat), i + d = n → d < N → I i a1 a2 a3 a4 → P (lq4 step N a1 a2 a3 a4) := by
    intro d
    induction d with
    | zero =>
      intro i a1 a2 a3 a4 N hi hN hI
      cases N with
      | zero => omega
      | succ N =>
        rcases hs i a1 a2 a3 a4 (lq4 step N) (by omega) hI with ⟨b1, b2, b3, b4, h1, -⟩ | ho
        · omega
        · exact ho
    | succ d ih =>
      intro i a1 a2 a3 a4 N hi hN hI
      cases N with
      | zero => omega
      | succ N =>
        show P (step (lq4 step N) a1 a2 a3 a4)
        rcases hs i a1 a2 a3 a4 (lq4 step N) (by omega) hI with ⟨b1, b2, b3, b4, h1, h2, h3⟩ | ho
        · rw [h3]; exact ih (i + 1) b1 b2 b3 b4 N (by omega) (by omega) h2
        · exact ho
  intro N a1 a2 a3 a4 hN hI
  exact key n 0 a1 a2 a3 a4 N (by omega) hN hI
theorem lq5_inw {A1 A2 A3 A4 A5 β : Type} {step : (A1 → A2 → A3 → A4 → A5 → Option β) → A1 → A2 → A3 → A4 → A5 → Option β} (I : Nat → A1 → A2 → A3 → A4 → A5 → Prop) (P : Option β → Prop) (n : Nat)
    (hs : ∀ (i : Nat) (a1 : A1) (a2 : A2) (a3 : A3) (a4 : A4) (a5 : A5) (k : A1 → A2 → A3 → A4 → A5 → Option β), i ≤ n → I i a1 a2 a3 a4 a5 → (∃ b1 : A1, ∃ b2 : A2, ∃ b3 : A3, ∃ b4 : A4, ∃ b5 : A5, i < n ∧ I (i + 1) b1 b2 b3 b4 b5 ∧ step k a1 a2 a3 a4 a5 = k b1 b2 b3 b4 b5) ∨ P (step k a1 a2 a3 a4 a5)) :
    ∀ (N : Nat) (a1 : A1) (a2 : A2) (a3 : A3) (a4 : A4) (a5 : A5), n < N → I 0 a1 a2 a3 a4 a5 → P (lq5 step N a1 a2 a3 a4 a5) := by
  have key : ∀ (d i : Nat) (a1 : A1) (a2 : A2) (a3 : A3) (a4 : A4) (a5 : A5) (N : Nat), i + d = n → d < N → I i a1 a2 a3 a4 a5 → P (lq5 step N a1 a2 a3 a4 a5) := by
    intro d
    induction d with
    | zero =>
      intro i a1 a2 a3 a4 a5 N hi hN hI
      cases N with
      | zero => omega
      | succ N =>
        rcases hs i a1 a2 a3 a4 a5 (lq5 step N) (by omega) hI with ⟨b1, b2, b3, b4, b5, h1, -⟩ | ho
        · omega
        · exact ho
    | succ d ih =>
      intro i a1 a2 a3 a4 a5 N hi hN hI
      cases N with
      | zero => omega
      | succ N =>
        show P (step (lq5 step N) a1 a2 a3 a4 a5)
        rcases hs i a1 a2 a3 a4 a5 (lq5 step N) (by omega) hI with ⟨b1, b2, b3, b4, b5, h1, h2, h3⟩ | ho
        · rw [h3]; exact ih (i + 1) b1 b2 b3 b4 b5 N (by omega) (by omega) h2
        · exact ho
  intro N a1 a2 a3 a4 a5 hN hI
  exact key n 0 a1 a2 a3 a4 a5 N (by omega) hN hI
theorem lq6_inw {A1 A2 A3 A4 A5 A6 β : Type} {step : (A1 → A2 → A3 → A4 → A5 → A6 → Option β) → A1 → A2 → A3 → A4 → A5 → A6 → Option β} (I : Nat → A1 → A2 → A3 → A4 → A5 → A6 → Prop) (P : Option β → Prop) (n : Nat)
    (hs : ∀ (i : Nat) (a1 : A1) (a2 : A2) (a3 : A3) (a4 : A4) (a5 : A5) (a6 : A6) (k : A1 → A2 → A3 → A4 → A5 → A6 → Option β), i ≤ n → I i a1 a2 a3 a4 a5 a6 → (∃ b1 : A1, ∃ b2 : A2, ∃ b3 : A3, ∃ b4 : A4, ∃ b5 : A5, ∃ b6 : A6, i < n ∧ I (i + 1) b1 b2 b3 b4 b5 b6 ∧ step k a1 a2 a3 a4 a5 a6 = k b1 b2 b3 b4 b5 b6) ∨ P (step k a1 a2 a3 a4 a5 a6)) :
    ∀ (N : Nat) (a1 : A1) (a2 : A2) (a3 : A3) (a4 : A4) (a5 : A5) (a6 : A6), n < N → I 0 a1 a2 a3 a4 a5 a6 → P (lq6 step N a1 a2 a3 a4 a5 a6) := by
  have key : ∀ (d i : Nat) (a1 : A1) (a2 : A2) (a3 : A3) (a4 : A4) (a5 : A5) (a6 : A6) (N : Nat), i + d = n → d < N → I i a1 a2 a3 a4 a5 a6 → P (lq6 step N a1 a2 a3 a4 a5 a6) := by
    intro d
    induction d with
    | zero =>
      intro i a1 a2 a3 a4 a5 a6 N hi hN hI
      cases N with
      | zero => omega
      | succ N =>
        rcases hs i a1 a2 a3 a4 a5 a6 (lq6 step N) (by omega) hI with ⟨b1, b2, b3, b4, b5, b6, h1, -⟩ | ho
        · omega
        · exact ho
    | succ d ih =>
      intro i a1 a2 a3 a4 a5 a6 N hi hN hI
      cases N with
      | zero => omega
      | succ N =>
        show P (step (lq6 step N) a1 a2 a3 a4 a5 a6)
        rcases hs i a1 a2 a3 a4 a5 a6 (lq6 step N) (by omega) hI with ⟨b1, b2, b3, b4, b5, b6, h1, h2, h3⟩ | ho
        · rw [h3]; exact ih (i + 1) b1 b2 b3 b4 b5 b6 N (by omega) (by omega) h2
        · exact ho
  intro N a1 a2 a3 a4 a5 a6 hN hI
  exact key n 0 a1 a2 a3 a4 a5 a6 N (by omega) hN hI
theorem lq7_inw {A1 A2 A3 A4 A5 A6 A7 β : Type} {step : (A1 → A2 → A3 → A4 → A5 → A6 → A7 → Option β) → A1 → A2 → A3 → A4 → A5 → A6 → A7 → Option β} (I : Nat → A1 → A2 → A3 → A4 → A5 → A6 → A7 → Prop) (P : Option β → Prop) (n : Nat)
    (hs : ∀ (i : Nat) (a1 : A1) (a2 : A2) (a3 : A3) (a4 : A4) (a5 : A5) (a6 : A6) (a7 : A7) (k : A1 → A2 → A3 → A4 → A5 → A6 → A7 → Option β), i ≤ n → I i a1 a2 a3 a4 a5 a6 a7 → (∃ b1 : A1, ∃ b2 : A2, ∃ b3 : A3, ∃ b4 : A4, ∃ b5 : A5, ∃ b6 : A6, ∃ b7 : A7, i < n ∧ I (i + 1) b1 b2 b3 b4 b5 b6 b7 ∧ step k a1 a2 a3 a4 a5 a6 a7 = k b1 b2 b3 b4 b5 b6 b7) ∨ P (step k a1 a2 a3 a4 a5 a6 a7)) :
    ∀ (N : Nat) (a1 : A1) (a2 : A2) (a3 : A3) (a4 : A4) (a5 : A5) (a6 : A6) (a7 : A7), n < N → I 0 a1 a2 a3 a4 a5 a6 a7 → P (lq7 step N a1 a2 a3 a4 a5 a6 a7) := by
  have key : ∀ (d i : Nat) (a1 : A1) (a2 : A2) (a3 : A3) (a4 : A4) (a5 : A5) (a6 : A6) (a7 : A7) (N : Nat), i + d = n → d < N → I i a1 a2 a3 a4 a5 a6 a7 → P (lq7 step N a1 a2 a3 a4 a5 a6 a7) := by
    intro d
    induction d with
    | zero =>
      intro i a1 a2 a3 a4 a5 a6 a7 N hi hN hI
      cases N with
      | zero => omega
      | succ N =>
        rcases hs i a1 a2 a3 a4 a5 a6 a7 (lq7 step N) (by omega) hI with ⟨b1, b2, b3, b4, b5, b6, b7, h1, -⟩ | ho
        · omega
        · exact ho
    | succ d ih =>
      intro i a1 a2 a3 a4 a5 a6 a7 N hi hN hI
      cases N with
      | zero => omega
      | succ N =>
        show P (step (lq7 step N) a1 a2 a3 a4 a5 a6 a7)
        rcases hs i a1 a2 a3 a4 a5 a6 a7 (lq7 step N) (by omega) hI with ⟨b1, b2, b3, b4, b5, b6, b7, h1, h2, h3⟩ | ho
        · rw [h3]; exact ih (i + 1) b1 b2 b3 b4 b5 b6 b7 N (by omega) (by omega) h2
        · exact ho
  intro N a1 a2 a3 a4 a5 a6 a7 hN hI
  exact key n 0 a1 a2 a3 a4 a5 a6 a7 N (by omega) hN hI
