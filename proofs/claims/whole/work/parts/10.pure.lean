def smN : Nat := 1000
def ck {α : Type} (i : Int32) (n : Nat) (x : Option α) : Option α := if i < 0 ∨ n ≤ i.toNatClampNeg then none else x
theorem ck_some {α : Type} {i : Int32} {n : Nat} {x : Option α} {y : α} (h : ck i n x = some y) : vp_in i n ∧ x = some y := by
  unfold ck at h
  by_cases hc : i < 0 ∨ n ≤ i.toNatClampNeg
  · rw [if_pos hc] at h; cases h
  · rw [if_neg hc] at h; exact ⟨hc, h⟩
def dz {α : Type} (y : Int32) (x : Option α) : Option α := if y = 0 then none else x
theorem dz_some {α : Type} {y : Int32} {x : Option α} {z : α} (h : dz y x = some z) : ¬ y = 0 ∧ x = some z := by
  unfold dz at h
  by_cases hc : y = 0
  · rw [if_pos hc] at h; cases h
  · rw [if_neg hc] at h; exact ⟨hc, h⟩
def dzl {α : Type} (y : Int64) (x : Option α) : Option α := if y = 0 then none else x
theorem dzl_some {α : Type} {y : Int64} {x : Option α} {z : α} (h : dzl y x = some z) : ¬ y = 0 ∧ x = some z := by
  unfold dzl at h
  by_cases hc : y = 0
  · rw [if_pos hc] at h; cases h
  · rw [if_neg hc] at h; exact ⟨hc, h⟩
def zr {α : Type} (y : Int32) (x : Option α) : Option α := if y = 0 ∨ y = 1 then x else none
theorem zr_some {α : Type} {y : Int32} {x : Option α} {z : α} (h : zr y x = some z) : narrow .boolean (.int y) = .int y ∧ x = some z := by
  unfold zr at h
  by_cases hc : y = 0 ∨ y = 1
  · rw [if_pos hc] at h
    refine ⟨?_, h⟩
    rcases hc with rfl | rfl <;> rfl
  · rw [if_neg hc] at h; cases h
theorem if_t {α : Type} {c : Prop} [Decidable c] {x y z : α} (hc : c) (h : (if c then x else y) = z) : x = z := by rw [if_pos hc] at h; exact h
theorem if_f {α : Type} {c : Prop} [Decidable c] {x y z : α} (hc : ¬ c) (h : (if c then x else y) = z) : y = z := by rw [if_neg hc] at h; exact h
theorem bd_some {α β : Type} {x : Option α} {g : α → Option β} {y : β} (h : x.bind g = some y) : ∃ z, x = some z ∧ g z = some y := by
  cases x with
  | none => cases h
  | some z => exact ⟨z, rfl, h⟩
def lq1 {A1 β : Type} (step : (A1 → Option β) → A1 → Option β) : Nat → A1 → Option β
  | 0, _ => none
  | n + 1, a1 => step (lq1 step n) a1
theorem lq1_ind {A1 β : Type} {step : (A1 → Option β) → A1 → Option β} {o : β} {P : A1 → Prop} (h : ∀ k : A1 → Option β, (∀ (a1 : A1), k a1 = some o → P a1) → ∀ (a1 : A1), step k a1 = some o → P a1) : ∀ (n : Nat) (a1 : A1), lq1 step n a1 = some o → P a1 := by
  intro n
  induction n with
  | zero => intro a1 hf; cases hf
  | succ n ih => intro a1 hf; exact h (lq1 step n) ih a1 hf
def lq2 {A1 A2 β : Type} (step : (A1 → A2 → Option β) → A1 → A2 → Option β) : Nat → A1 → A2 → Option β
  | 0, _, _ => none
  | n + 1, a1, a2 => step (lq2 step n) a1 a2
theorem lq2_ind {A1 A2 β : Type} {step : (A1 → A2 → Option β) → A1 → A2 → Option β} {o : β} {P : A1 → A2 → Prop} (h : ∀ k : A1 → A2 → Option β, (∀ (a1 : A1) (a2 : A2), k a1 a2 = some o → P a1 a2) → ∀ (a1 : A1) (a2 : A2), step k a1 a2 = some o → P a1 a2) : ∀ (n : Nat) (a1 : A1) (a2 : A2), lq2 step n a1 a2 = some o → P a1 a2 := by
  intro n
  induction n with
  | zero => intro a1 a2 hf; cases hf
  | succ n ih => intro a1 a2 hf; exact h (lq2 step n) ih a1 a2 hf
def lq3 {A1 A2 A3 β : Type} (step : (A1 → A2 → A3 → Option β) → A1 → A2 → A3 → Option β) : Nat → A1 → A2 → A3 → Option β
  | 0, _, _, _ => none
  | n + 1, a1, a2, a3 => step (lq3 step n) a1 a2 a3
theorem lq3_ind {A1 A2 A3 β : Type} {step : (A1 → A2 → A3 → Option β) → A1 → A2 → A3 → Option β} {o : β} {P : A1 → A2 → A3 → Prop} (h : ∀ k : A1 → A2 → A3 → Option β, (∀ (a1 : A1) (a2 : A2) (a3 : A3), k a1 a2 a3 = some o → P a1 a2 a3) → ∀ (a1 : A1) (a2 : A2) (a3 : A3), step k a1 a2 a3 = some o → P a1 a2 a3) : ∀ (n : Nat) (a1 : A1) (a2 : A2) (a3 : A3), lq3 step n a1 a2 a3 = some o → P a1 a2 a3 := by
  intro n
  induction n with
  | zero => intro a1 a2 a3 hf; cases hf
  | succ n ih => intro a1 a2 a3 hf; exact h (lq3 step n) ih a1 a2 a3 hf
def lq4 {A1 A2 A3 A4 β : Type} (step : (A1 → A2 → A3 → A4 → Option β) → A1 → A2 → A3 → A4 → Option β) : Nat → A1 → A2 → A3 → A4 → Option β
  | 0, _, _, _, _ => none
  | n + 1, a1, a2, a3, a4 => step (lq4 step n) a1 a2 a3 a4
theorem lq4_ind {A1 A2 A3 A4 β : Type} {step : (A1 → A2 → A3 → A4 → Option β) → A1 → A2 → A3 → A4 → Option β} {o : β} {P : A1 → A2 → A3 → A4 → Prop} (h : ∀ k : A1 → A2 → A3 → A4 → Option β, (∀ (a1 : A1) (a2 : A2) (a3 : A3) (a4 : A4), k a1 a2 a3 a4 = some o → P a1 a2 a3 a4) → ∀ (a1 : A1) (a2 : A2) (a3 : A3) (a4 : A4), step k a1 a2 a3 a4 = some o → P a1 a2 a3 a4) : ∀ (n : Nat) (a1 : A1) (a2 : A2) (a3 : A3) (a4 : A4), lq4 step n a1 a2 a3 a4 = some o → P a1 a2 a3 a4 := by
  intro n
  induction n with
  | zero => intro a1 a2 a3 a4 hf; cases hf
  | succ n ih => intro a1 a2 a3 a4 hf; exact h (lq4 step n) ih a1 a2 a3 a4 hf
def lq5 {A1 A2 A3 A4 A5 β : Type} (step : (A1 → A2 → A3 → A4 → A5 → Option β) → A1 → A2 → A3 → A4 → A5 → Option β) : Nat → A1 → A2 → A3 → A4 → A5 → Option β
  | 0, _, _, _, _, _ => none
  | n + 1, a1, a2, a3, a4, a5 => step (lq5 step n) a1 a2 a3 a4 a5
theorem lq5_ind {A1 A2 A3 A4 A5 β : Type} {step : (A1 → A2 → A3 → A4 → A5 → Option β) → A1 → A2 → A3 → A4 → A5 → Option β} {o : β} {P : A1 → A2 → A3 → A4 → A5 → Prop} (h : ∀ k : A1 → A2 → A3 → A4 → A5 → Option β, (∀ (a1 : A1) (a2 : A2) (a3 : A3) (a4 : A4) (a5 : A5), k a1 a2 a3 a4 a5 = some o → P a1 a2 a3 a4 a5) → ∀ (a1 : A1) (a2 : A2) (a3 : A3) (a4 : A4) (a5 : A5), step k a1 a2 a3 a4 a5 = some o → P a1 a2 a3 a4 a5) : ∀ (n : Nat) (a1 : A1) (a2 : A2) (a3 : A3) (a4 : A4) (a5 : A5), lq5 step n a1 a2 a3 a4 a5 = some o → P a1 a2 a3 a4 a5 := by
  intro n
  induction n with
  | zero => intro a1 a2 a3 a4 a5 hf; cases hf
  | succ n ih => intro a1 a2 a3 a4 a5 hf; exact h (lq5 step n) ih a1 a2 a3 a4 a5 hf
def lq6 {A1 A2 A3 A4 A5 A6 β : Type} (step : (A1 → A2 → A3 → A4 → A5 → A6 → Option β) → A1 → A2 → A3 → A4 → A5 → A6 → Option β) : Nat → A1 → A2 → A3 → A4 → A5 → A6 → Option β
  | 0, _, _, _, _, _, _ => none
  | n + 1, a1, a2, a3, a4, a5, a6 => step (lq6 step n) a1 a2 a3 a4 a5 a6
theorem lq6_ind {A1 A2 A3 A4 A5 A6 β : Type} {step : (A1 → A2 → A3 → A4 → A5 → A6 → Option β) → A1 → A2 → A3 → A4 → A5 → A6 → Option β} {o : β} {P : A1 → A2 → A3 → A4 → A5 → A6 → Prop} (h : ∀ k : A1 → A2 → A3 → A4 → A5 → A6 → Option β, (∀ (a1 : A1) (a2 : A2) (a3 : A3) (a4 : A4) (a5 : A5) (a6 : A6), k a1 a2 a3 a4 a5 a6 = some o → P a1 a2 a3 a4 a5 a6) → ∀ (a1 : A1) (a2 : A2) (a3 : A3) (a4 : A4) (a5 : A5) (a6 : A6), step k a1 a2 a3 a4 a5 a6 = some o → P a1 a2 a3 a4 a5 a6) : ∀ (n : Nat) (a1 : A1) (a2 : A2) (a3 : A3) (a4 : A4) (a5 : A5) (a6 : A6), lq6 step n a1 a2 a3 a4 a5 a6 = some o → P a1 a2 a3 a4 a5 a6 := by
  intro n
  induction n with
  | zero => intro a1 a2 a3 a4 a5 a6 hf; cases hf
  | succ n ih => intro a1 a2 a3 a4 a5 a6 hf; exact h (lq6 step n) ih a1 a2 a3 a4 a5 a6 hf
def lq7 {A1 A2 A3 A4 A5 A6 A7 β : Type} (step : (A1 → A2 → A3 → A4 → A5 → A6 → A7 → Option β) → A1 → A2 → A3 → A4 → A5 → A6 → A7 → Option β) : Nat → A1 → A2 → A3 → A4 → A5 → A6 → A7 → Option β
  | 0, _, _, _, _, _, _, _ => none
  | n + 1, a1, a2, a3, a4, a5, a6, a7 => step (lq7 step n) a1 a2 a3 a4 a5 a6 a7
theorem lq7_ind {A1 A2 A3 A4 A5 A6 A7 β : Type} {step : (A1 → A2 → A3 → A4 → A5 → A6 → A7 → Option β) → A1 → A2 → A3 → A4 → A5 → A6 → A7 → Option β} {o : β} {P : A1 → A2 → A3 → A4 → A5 → A6 → A7 → Prop} (h : ∀ k : A1 → A2 → A3 → A4 → A5 → A6 → A7 → Option β, (∀ (a1 : A1) (a2 : A2) (a3 : A3) (a4 : A4) (a5 : A5) (a6 : A6) (a7 : A7), k a1 a2 a3 a4 a5 a6 a7 = some o → P a1 a2 a3 a4 a5 a6 a7) → ∀ (a1 : A1) (a2 : A2) (a3 : A3) (a4 : A4) (a5 : A5) (a6 : A6) (a7 : A7), step k a1 a2 a3 a4 a5 a6 a7 = some o → P a1 a2 a3 a4 a5 a6 a7) : ∀ (n : Nat) (a1 : A1) (a2 : A2) (a3 : A3) (a4 : A4) (a5 : A5) (a6 : A6) (a7 : A7), lq7 step n a1 a2 a3 a4 a5 a6 a7 = some o → P a1 a2 a3 a4 a5 a6 a7 := by
  intro n
  induction n with
  | zero => intro a1 a2 a3 a4 a5 a6 a7 hf; cases hf
  | succ n ih => intro a1 a2 a3 a4 a5 a6 a7 hf; exact h (lq7 step n) ih a1 a2 a3 a4 a5 a6 a7 hf
def lq8 {A1 A2 A3 A4 A5 A6 A7 A8 β : Type} (step : (A1 → A2 → A3 → A4 → A5 → A6 → A7 → A8 → Option β) → A1 → A2 → A3 → A4 → A5 → A6 → A7 → A8 → Option β) : Nat → A1 → A2 → A3 → A4 → A5 → A6 → A7 → A8 → Option β
  | 0, _, _, _, _, _, _, _, _ => none
  | n + 1, a1, a2, a3, a4, a5, a6, a7, a8 => step (lq8 step n) a1 a2 a3 a4 a5 a6 a7 a8
theorem lq8_ind {A1 A2 A3 A4 A5 A6 A7 A8 β : Type} {step : (A1 → A2 → A3 → A4 → A5 → A6 → A7 → A8 → Option β) → A1 → A2 → A3 → A4 → A5 → A6 → A7 → A8 → Option β} {o : β} {P : A1 → A2 → A3 → A4 → A5 → A6 → A7 → A8 → Prop} (h : ∀ k : A1 → A2 → A3 → A4 → A5 → A6 → A7 → A8 → Option β, (∀ (a1 : A1) (a2 : A2) (a3 : A3) (a4 : A4) (a5 : A5) (a6 : A6) (a7 : A7) (a8 : A8), k a1 a2 a3 a4 a5 a6 a7 a8 = some o → P a1 a2 a3 a4 a5 a6 a7 a8) → ∀ (a1 : A1) (a2 : A2) (a3 : A3) (a4 : A4) (a5 : A5) (a6 : A6) (a7 : A7) (a8 : A8), step k a1 a2 a3 a4 a5 a6 a7 a8 = some o → P a1 a2 a3 a4 a5 a6 a7 a8) : ∀ (n : Nat) (a1 : A1) (a2 : A2) (a3 : A3) (a4 : A4) (a5 : A5) (a6 : A6) (a7 : A7) (a8 : A8), lq8 step n a1 a2 a3 a4 a5 a6 a7 a8 = some o → P a1 a2 a3 a4 a5 a6 a7 a8 := by
  intro n
  induction n with
  | zero => intro a1 a2 a3 a4 a5 a6 a7 a8 hf; cases hf
  | succ n ih => intro a1 a2 a3 a4 a5 a6 a7 a8 hf; exact h (lq8 step n) ih a1 a2 a3 a4 a5 a6 a7 a8 hf
def lq9 {A1 A2 A3 A4 A5 A6 A7 A8 A9 β : Type} (step : (A1 → A2 → A3 → A4 → A5 → A6 → A7 → A8 → A9 → Option β) → A1 → A2 → A3 → A4 → A5 → A6 → A7 → A8 → A9 → Option β) : Nat → A1 → A2 → A3 → A4 → A5 → A6 → A7 → A8 → A9 → Option β
  | 0, _, _, _, _, _, _, _, _, _ => none
  | n + 1, a1, a2, a3, a4, a5, a6, a7, a8, a9 => step (lq9 step n) a1 a2 a3 a4 a5 a6 a7 a8 a9
theorem lq9_ind {A1 A2 A3 A4 A5 A6 A7 A8 A9 β : Type} {step : (A1 → A2 → A3 → A4 → A5 → A6 → A7 → A8 → A9 → Option β) → A1 → A2 → A3 → A4 → A5 → A6 → A7 → A8 → A9 → Option β} {o : β} {P : A1 → A2 → A3 → A4 → A5 → A6 → A7 → A8 → A9 → Prop} (h : ∀ k : A1 → A2 → A3 → A4 → A5 → A6 → A7 → A8 → A9 → Option β, (∀ (a1 : A1) (a2 : A2) (a3 : A3) (a4 : A4) (a5 : A5) (a6 : A6) (a7 : A7) (a8 : A8) (a9 : A9), k a1 a2 a3 a4 a5 a6 a7 a8 a9 = some o → P a1 a2 a3 a4 a5 a6 a7 a8 a9) → ∀ (a1 : A1) (a2 : A2) (a3 : A3) (a4 : A4) (a5 : A5) (a6 : A6) (a7 : A7) (a8 : A8) (a9 : A9), step k a1 a2 a3 a4 a5 a6 a7 a8 a9 = some o → P a1 a2 a3 a4 a5 a6 a7 a8 a9) : ∀ (n : Nat) (a1 : A1) (a2 : A2) (a3 : A3) (a4 : A4) (a5 : A5) (a6 : A6) (a7 : A7) (a8 : A8) (a9 : A9), lq9 step n a1 a2 a3 a4 a5 a6 a7 a8 a9 = some o → P a1 a2 a3 a4 a5 a6 a7 a8 a9 := by
  intro n
  induction n with
  | zero => intro a1 a2 a3 a4 a5 a6 a7 a8 a9 hf; cases hf
  | succ n ih => intro a1 a2 a3 a4 a5 a6 a7 a8 a9 hf; exact h (lq9 step n) ih a1 a2 a3 a4 a5 a6 a7 a8 a9 hf
abbrev VS : Type := (Nat → Int32) × (Nat → Int32) × (Nat → Int32) × (Nat → Int32) × (Nat → Int32) × (Int32) × (Int32) × (Int32)
abbrev gV_kind (u : VS) : Nat → Int32 := u.1
abbrev sV_kind (u : VS) (x : Nat → Int32) : VS := (x, u.2.1, u.2.2.1, u.2.2.2.1, u.2.2.2.2.1, u.2.2.2.2.2.1, u.2.2.2.2.2.2.1, u.2.2.2.2.2.2.2)
abbrev gV_fig (u : VS) : Nat → Int32 := u.2.1
abbrev sV_fig (u : VS) (x : Nat → Int32) : VS := (u.1, x, u.2.2.1, u.2.2.2.1, u.2.2.2.2.1, u.2.2.2.2.2.1, u.2.2.2.2.2.2.1, u.2.2.2.2.2.2.2)
abbrev gV_owed (u : VS) : Nat → Int32 := u.2.2.1
abbrev sV_owed (u : VS) (x : Nat → Int32) : VS := (u.1, u.2.1, x, u.2.2.2.1, u.2.2.2.2.1, u.2.2.2.2.2.1, u.2.2.2.2.2.2.1, u.2.2.2.2.2.2.2)
abbrev gV_here (u : VS) : Nat → Int32 := u.2.2.2.1
abbrev sV_here (u : VS) (x : Nat → Int32) : VS := (u.1, u.2.1, u.2.2.1, x, u.2.2.2.2.1, u.2.2.2.2.2.1, u.2.2.2.2.2.2.1, u.2.2.2.2.2.2.2)
abbrev gV_mem (u : VS) : Nat → Int32 := u.2.2.2.2.1
abbrev sV_mem (u : VS) (x : Nat → Int32) : VS := (u.1, u.2.1, u.2.2.1, u.2.2.2.1, x, u.2.2.2.2.2.1, u.2.2.2.2.2.2.1, u.2.2.2.2.2.2.2)
abbrev gV_people (u : VS) : Int32 := u.2.2.2.2.2.1
abbrev sV_people (u : VS) (x : Int32) : VS := (u.1, u.2.1, u.2.2.1, u.2.2.2.1, u.2.2.2.2.1, x, u.2.2.2.2.2.2.1, u.2.2.2.2.2.2.2)
abbrev gV_names (u : VS) : Int32 := u.2.2.2.2.2.2.1
abbrev sV_names (u : VS) (x : Int32) : VS := (u.1, u.2.1, u.2.2.1, u.2.2.2.1, u.2.2.2.2.1, u.2.2.2.2.2.1, x, u.2.2.2.2.2.2.2)
abbrev gV_week (u : VS) : Int32 := u.2.2.2.2.2.2.2
abbrev sV_week (u : VS) (x : Int32) : VS := (u.1, u.2.1, u.2.2.1, u.2.2.2.1, u.2.2.2.2.1, u.2.2.2.2.2.1, u.2.2.2.2.2.2.1, x)
abbrev TS : Type := (Nat → Int32) × (Int32)
abbrev gT_let (u : TS) : Nat → Int32 := u.1
abbrev sT_let (u : TS) (x : Nat → Int32) : TS := (x, u.2)
abbrev gT_size (u : TS) : Int32 := u.2
abbrev sT_size (u : TS) (x : Int32) : TS := (u.1, x)
abbrev RS : Type := (Nat → Int32) × (Int32)
abbrev gR_num (u : RS) : Nat → Int32 := u.1
abbrev sR_num (u : RS) (x : Nat → Int32) : RS := (x, u.2)
abbrev gR_size (u : RS) : Int32 := u.2
abbrev sR_size (u : RS) (x : Int32) : RS := (u.1, x)
abbrev MS : Type := (Nat → Int32) × (Nat → Int32) × (Nat → Int32) × (Int32) × (RS) × (VS) × (VS) × (VS)
abbrev gM_lg (u : MS) : Nat → Int32 := u.1
abbrev sM_lg (u : MS) (x : Nat → Int32) : MS := (x, u.2.1, u.2.2.1, u.2.2.2.1, u.2.2.2.2.1, u.2.2.2.2.2.1, u.2.2.2.2.2.2.1, u.2.2.2.2.2.2.2)
abbrev gM_fg (u : MS) : Nat → Int32 := u.2.1
abbrev sM_fg (u : MS) (x : Nat → Int32) : MS := (u.1, x, u.2.2.1, u.2.2.2.1, u.2.2.2.2.1, u.2.2.2.2.2.1, u.2.2.2.2.2.2.1, u.2.2.2.2.2.2.2)
abbrev gM_og (u : MS) : Nat → Int32 := u.2.2.1
abbrev sM_og (u : MS) (x : Nat → Int32) : MS := (u.1, u.2.1, x, u.2.2.2.1, u.2.2.2.2.1, u.2.2.2.2.2.1, u.2.2.2.2.2.2.1, u.2.2.2.2.2.2.2)
abbrev gM_z (u : MS) : Int32 := u.2.2.2.1
abbrev sM_z (u : MS) (x : Int32) : MS := (u.1, u.2.1, u.2.2.1, x, u.2.2.2.2.1, u.2.2.2.2.2.1, u.2.2.2.2.2.2.1, u.2.2.2.2.2.2.2)
abbrev gM_row (u : MS) : RS := u.2.2.2.2.1
abbrev sM_row (u : MS) (x : RS) : MS := (u.1, u.2.1, u.2.2.1, u.2.2.2.1, x, u.2.2.2.2.2.1, u.2.2.2.2.2.2.1, u.2.2.2.2.2.2.2)
abbrev gM_now (u : MS) : VS := u.2.2.2.2.2.1
abbrev sM_now (u : MS) (x : VS) : MS := (u.1, u.2.1, u.2.2.1, u.2.2.2.1, u.2.2.2.2.1, x, u.2.2.2.2.2.2.1, u.2.2.2.2.2.2.2)
abbrev gM_then (u : MS) : VS := u.2.2.2.2.2.2.1
abbrev sM_then (u : MS) (x : VS) : MS := (u.1, u.2.1, u.2.2.1, u.2.2.2.1, u.2.2.2.2.1, u.2.2.2.2.2.1, x, u.2.2.2.2.2.2.2)
abbrev gM_oth (u : MS) : VS := u.2.2.2.2.2.2.2
abbrev sM_oth (u : MS) (x : VS) : MS := (u.1, u.2.1, u.2.2.1, u.2.2.2.1, u.2.2.2.2.1, u.2.2.2.2.2.1, u.2.2.2.2.2.2.1, x)
abbrev XS : Type := (Nat → Int32) × (Int32) × (TS) × (VS) × (VS) × (MS)
abbrev gX_ref (u : XS) : Nat → Int32 := u.1
abbrev sX_ref (u : XS) (x : Nat → Int32) : XS := (x, u.2.1, u.2.2.1, u.2.2.2.1, u.2.2.2.2.1, u.2.2.2.2.2)
abbrev gX_img (u : XS) : Int32 := u.2.1
abbrev sX_img (u : XS) (x : Int32) : XS := (u.1, x, u.2.2.1, u.2.2.2.1, u.2.2.2.2.1, u.2.2.2.2.2)
abbrev gX_tell (u : XS) : TS := u.2.2.1
abbrev sX_tell (u : XS) (x : TS) : XS := (u.1, u.2.1, x, u.2.2.2.1, u.2.2.2.2.1, u.2.2.2.2.2)
abbrev gX_kept (u : XS) : VS := u.2.2.2.1
abbrev sX_kept (u : XS) (x : VS) : XS := (u.1, u.2.1, u.2.2.1, x, u.2.2.2.2.1, u.2.2.2.2.2)
abbrev gX_told (u : XS) : VS := u.2.2.2.2.1
abbrev sX_told (u : XS) (x : VS) : XS := (u.1, u.2.1, u.2.2.1, u.2.2.2.1, x, u.2.2.2.2.2)
abbrev gX_mind (u : XS) : MS := u.2.2.2.2.2
abbrev sX_mind (u : XS) (x : MS) : XS := (u.1, u.2.1, u.2.2.1, u.2.2.2.1, u.2.2.2.2.1, x)
abbrev DS : Type := (Nat → Int32) × (Nat → Int32) × (Nat → Int32) × (Nat → Int32) × (Int32) × (Nat → Int32) × (Nat → Int32) × (Nat → Int32) × (Int32) × (Int32) × (Int32) × (Nat → Int32) × (Int32)
abbrev gD_s (u : DS) : Nat → Int32 := u.1
abbrev sD_s (u : DS) (x : Nat → Int32) : DS := (x, u.2.1, u.2.2.1, u.2.2.2.1, u.2.2.2.2.1, u.2.2.2.2.2.1, u.2.2.2.2.2.2.1, u.2.2.2.2.2.2.2.1, u.2.2.2.2.2.2.2.2.1, u.2.2.2.2.2.2.2.2.2.1, u.2.2.2.2.2.2.2.2.2.2.1, u.2.2.2.2.2.2.2.2.2.2.2.1, u.2.2.2.2.2.2.2.2.2.2.2.2)
abbrev gD_m (u : DS) : Nat → Int32 := u.2.1
abbrev sD_m (u : DS) (x : Nat → Int32) : DS := (u.1, x, u.2.2.1, u.2.2.2.1, u.2.2.2.2.1, u.2.2.2.2.2.1, u.2.2.2.2.2.2.1, u.2.2.2.2.2.2.2.1, u.2.2.2.2.2.2.2.2.1, u.2.2.2.2.2.2.2.2.2.1, u.2.2.2.2.2.2.2.2.2.2.1, u.2.2.2.2.2.2.2.2.2.2.2.1, u.2.2.2.2.2.2.2.2.2.2.2.2)
abbrev gD_image (u : DS) : Nat → Int32 := u.2.2.1
abbrev sD_image (u : DS) (x : Nat → Int32) : DS := (u.1, u.2.1, x, u.2.2.2.1, u.2.2.2.2.1, u.2.2.2.2.2.1, u.2.2.2.2.2.2.1, u.2.2.2.2.2.2.2.1, u.2.2.2.2.2.2.2.2.1, u.2.2.2.2.2.2.2.2.2.1, u.2.2.2.2.2.2.2.2.2.2.1, u.2.2.2.2.2.2.2.2.2.2.2.1, u.2.2.2.2.2.2.2.2.2.2.2.2)
abbrev gD_was (u : DS) : Nat → Int32 := u.2.2.2.1
abbrev sD_was (u : DS) (x : Nat → Int32) : DS := (u.1, u.2.1, u.2.2.1, x, u.2.2.2.2.1, u.2.2.2.2.2.1, u.2.2.2.2.2.2.1, u.2.2.2.2.2.2.2.1, u.2.2.2.2.2.2.2.2.1, u.2.2.2.2.2.2.2.2.2.1, u.2.2.2.2.2.2.2.2.2.2.1, u.2.2.2.2.2.2.2.2.2.2.2.1, u.2.2.2.2.2.2.2.2.2.2.2.2)
abbrev gD_has (u : DS) : Int32 := u.2.2.2.2.1
abbrev sD_has (u : DS) (x : Int32) : DS := (u.1, u.2.1, u.2.2.1, u.2.2.2.1, x, u.2.2.2.2.2.1, u.2.2.2.2.2.2.1, u.2.2.2.2.2.2.2.1, u.2.2.2.2.2.2.2.2.1, u.2.2.2.2.2.2.2.2.2.1, u.2.2.2.2.2.2.2.2.2.2.1, u.2.2.2.2.2.2.2.2.2.2.2.1, u.2.2.2.2.2.2.2.2.2.2.2.2)
abbrev gD_let (u : DS) : Nat → Int32 := u.2.2.2.2.2.1
abbrev sD_let (u : DS) (x : Nat → Int32) : DS := (u.1, u.2.1, u.2.2.1, u.2.2.2.1, u.2.2.2.2.1, x, u.2.2.2.2.2.2.1, u.2.2.2.2.2.2.2.1, u.2.2.2.2.2.2.2.2.1, u.2.2.2.2.2.2.2.2.2.1, u.2.2.2.2.2.2.2.2.2.2.1, u.2.2.2.2.2.2.2.2.2.2.2.1, u.2.2.2.2.2.2.2.2.2.2.2.2)
abbrev gD_row (u : DS) : Nat → Int32 := u.2.2.2.2.2.2.1
abbrev sD_row (u : DS) (x : Nat → Int32) : DS := (u.1, u.2.1, u.2.2.1, u.2.2.2.1, u.2.2.2.2.1, u.2.2.2.2.2.1, x, u.2.2.2.2.2.2.2.1, u.2.2.2.2.2.2.2.2.1, u.2.2.2.2.2.2.2.2.2.1, u.2.2.2.2.2.2.2.2.2.2.1, u.2.2.2.2.2.2.2.2.2.2.2.1, u.2.2.2.2.2.2.2.2.2.2.2.2)
abbrev gD_ref (u : DS) : Nat → Int32 := u.2.2.2.2.2.2.2.1
abbrev sD_ref (u : DS) (x : Nat → Int32) : DS := (u.1, u.2.1, u.2.2.1, u.2.2.2.1, u.2.2.2.2.1, u.2.2.2.2.2.1, u.2.2.2.2.2.2.1, x, u.2.2.2.2.2.2.2.2.1, u.2.2.2.2.2.2.2.2.2.1, u.2.2.2.2.2.2.2.2.2.2.1, u.2.2.2.2.2.2.2.2.2.2.2.1, u.2.2.2.2.2.2.2.2.2.2.2.2)
abbrev gD_letN (u : DS) : Int32 := u.2.2.2.2.2.2.2.2.1
abbrev sD_letN (u : DS) (x : Int32) : DS := (u.1, u.2.1, u.2.2.1, u.2.2.2.1, u.2.2.2.2.1, u.2.2.2.2.2.1, u.2.2.2.2.2.2.1, u.2.2.2.2.2.2.2.1, x, u.2.2.2.2.2.2.2.2.2.1, u.2.2.2.2.2.2.2.2.2.2.1, u.2.2.2.2.2.2.2.2.2.2.2.1, u.2.2.2.2.2.2.2.2.2.2.2.2)
abbrev gD_rowN (u : DS) : Int32 := u.2.2.2.2.2.2.2.2.2.1
abbrev sD_rowN (u : DS) (x : Int32) : DS := (u.1, u.2.1, u.2.2.1, u.2.2.2.1, u.2.2.2.2.1, u.2.2.2.2.2.1, u.2.2.2.2.2.2.1, u.2.2.2.2.2.2.2.1, u.2.2.2.2.2.2.2.2.1, x, u.2.2.2.2.2.2.2.2.2.2.1, u.2.2.2.2.2.2.2.2.2.2.2.1, u.2.2.2.2.2.2.2.2.2.2.2.2)
abbrev gD_place (u : DS) : Int32 := u.2.2.2.2.2.2.2.2.2.2.1
abbrev sD_place (u : DS) (x : Int32) : DS := (u.1, u.2.1, u.2.2.1, u.2.2.2.1, u.2.2.2.2.1, u.2.2.2.2.2.1, u.2.2.2.2.2.2.1, u.2.2.2.2.2.2.2.1, u.2.2.2.2.2.2.2.2.1, u.2.2.2.2.2.2.2.2.2.1, x, u.2.2.2.2.2.2.2.2.2.2.2.1, u.2.2.2.2.2.2.2.2.2.2.2.2)
abbrev gD_num (u : DS) : Nat → Int32 := u.2.2.2.2.2.2.2.2.2.2.2.1
abbrev sD_num (u : DS) (x : Nat → Int32) : DS := (u.1, u.2.1, u.2.2.1, u.2.2.2.1, u.2.2.2.2.1, u.2.2.2.2.2.1, u.2.2.2.2.2.2.1, u.2.2.2.2.2.2.2.1, u.2.2.2.2.2.2.2.2.1, u.2.2.2.2.2.2.2.2.2.1, u.2.2.2.2.2.2.2.2.2.2.1, x, u.2.2.2.2.2.2.2.2.2.2.2.2)
abbrev gD_seed (u : DS) : Int32 := u.2.2.2.2.2.2.2.2.2.2.2.2
abbrev sD_seed (u : DS) (x : Int32) : DS := (u.1, u.2.1, u.2.2.1, u.2.2.2.1, u.2.2.2.2.1, u.2.2.2.2.2.1, u.2.2.2.2.2.2.1, u.2.2.2.2.2.2.2.1, u.2.2.2.2.2.2.2.2.1, u.2.2.2.2.2.2.2.2.2.1, u.2.2.2.2.2.2.2.2.2.2.1, u.2.2.2.2.2.2.2.2.2.2.2.1, x)
def f_X0_change (x1 : Int32) (x2 : Int32) (x3 : Int32) : Option Int32 :=
  (some (-(x2 / (10 : Int32))))
def f_X1_change (x1 : Int32) (x2 : Int32) (x3 : Int32) : Option Int32 :=
  (some (0 : Int32))
def f_X1_isNamed (x1 : Int32) : Option Int32 :=
  (some (0 : Int32))
def f_X4_change (x1 : Int32) (x2 : Int32) (x3 : Int32) : Option Int32 :=
  (some ((-1) : Int32))
def f_X2_change_30 (x1 : Int32) (x2 : Int32) (x3 : Int32)  (y0 : Int32) : Option Int32 :=
  ((f_X4_change x1 x2 x3).bind fun z36 => (if y0 = 0 then (some (z36 + (0 : Int32))) else (some (z36 + (3 : Int32)))))
def f_X2_change (x1 : Int32) (x2 : Int32) (x3 : Int32) : Option Int32 :=
  (if (x1 - x1 / (10 : Int32) * (10 : Int32)) = (8 : Int32) then (f_X2_change_30 x1 x2 x3  (1 : Int32)) else (if (x1 - x1 / (10 : Int32) * (10 : Int32)) = (9 : Int32) then (f_X2_change_30 x1 x2 x3  (1 : Int32)) else (if (x1 - x1 / (10 : Int32) * (10 : Int32)) = 0 then (f_X2_change_30 x1 x2 x3  (1 : Int32)) else (f_X2_change_30 x1 x2 x3  (0 : Int32)))))
def f_X5_change (x1 : Int32) (x2 : Int32) (x3 : Int32) : Option Int32 :=
  ((f_X0_change x1 x2 x3).bind fun z4 => (some (z4 + x3)))
def f_X9_change (x1 : Int32) (x2 : Int32) (x3 : Int32) : Option Int32 :=
  ((f_X2_change x1 x2 x3).bind fun z4 => (if (x1 - x1 / (2 : Int32) * (2 : Int32)) = (1 : Int32) then (some (z4 + (2 : Int32))) else (some (z4 + (0 : Int32)))))
def f_X4_isNamed (x1 : Int32) : Option Int32 :=
  (some (1 : Int32))
def f_X9_isNamed (x1 : Int32) : Option Int32 :=
  (if (5 : Int32) ≤ x1 then (some (0 : Int32)) else (some (1 : Int32)))
def f_K_change (i : Int32) (w0 w1 w2 : Int32) : Option Int32 := (if i = 0 then f_X4_change w0 w1 w2 else (if i = 1 then f_X0_change w0 w1 w2 else (if i = 2 then f_X2_change w0 w1 w2 else (if i = 3 then f_X5_change w0 w1 w2 else (if i = 4 then f_X1_change w0 w1 w2 else (if i = 5 then f_X9_change w0 w1 w2 else none))))))
def f_K_isNamed (i : Int32) (w0 : Int32) : Option Int32 := (if i = 0 then f_X4_isNamed w0 else (if i = 1 then f_X4_isNamed w0 else (if i = 2 then f_X4_isNamed w0 else (if i = 3 then f_X4_isNamed w0 else (if i = 4 then f_X1_isNamed w0 else (if i = 5 then f_X9_isNamed w0 else none))))))
/-! SoManyForgotten$Valley.copy -/
def b_X8_copy_47   (k47 : (VS × VS) → Int32 → Option (VS × VS)) (u : VS × VS) (x2 : Int32) : Option (VS × VS) :=
  (if (8 : Int32) ≤ x2 then ((some (sV_mem u.1 (va_cpy (gV_mem u.2) (gV_mem u.1) (Int32.toNatClampNeg (0 : Int32)) (Int32.toNatClampNeg (0 : Int32)) (Int32.toNatClampNeg (64 : Int32))), u.2)).bind fun u83 => ((some (sV_names (sV_people u83.1 (gV_people u83.2), u83.2).1 (gV_names (sV_people u83.1 (gV_people u83.2), u83.2).2), (sV_people u83.1 (gV_people u83.2), u83.2).2)).bind fun u99 => (some (sV_week u99.1 (gV_week u99.2), u99.2)))) else (ck x2 8 (ck x2 8 ((some (sV_here u.1 (upd (gV_here u.1) (Int32.toNatClampNeg x2) (vp_nar .boolean ((gV_here u.2) (Int32.toNatClampNeg x2)))), u.2)).bind fun u64 => (k47 u64 (x2 + 1))))))
def f_X8_copy_47   : Nat → (VS × VS) → Int32 → Option (VS × VS) := lq2 (b_X8_copy_47  )
def f_X8_copy (u : VS × VS) : Option (VS × VS) :=
  ((some (sV_kind u.1 (va_cpy (gV_kind u.2) (gV_kind u.1) (Int32.toNatClampNeg (0 : Int32)) (Int32.toNatClampNeg (0 : Int32)) (Int32.toNatClampNeg (8 : Int32))), u.2)).bind fun u12 => ((some (sV_fig u12.1 (va_cpy (gV_fig u12.2) (gV_fig u12.1) (Int32.toNatClampNeg (0 : Int32)) (Int32.toNatClampNeg (0 : Int32)) (Int32.toNatClampNeg (8 : Int32))), u12.2)).bind fun u27 => ((some (sV_owed u27.1 (va_cpy (gV_owed u27.2) (gV_owed u27.1) (Int32.toNatClampNeg (0 : Int32)) (Int32.toNatClampNeg (0 : Int32)) (Int32.toNatClampNeg (8 : Int32))), u27.2)).bind fun u42 => (f_X8_copy_47   smN u42 (0 : Int32)))))
/-! SoManyForgotten$Mind.startAgain -/
def f_X3_startAgain (u : MS) : Option (MS) :=
  ((f_X8_copy ((gM_then u), (gM_now u))).bind fun z8 => (some (sM_now (sM_then u z8.1) z8.2)))
/-! SoManyForgotten$Valley.addMemory -/
def f_X8_addMemory (u : VS) (x1 : Int32) (x2 : Int32) (x3 : Int32) : Option (VS) :=
  (ck ((x1 * (8 : Int32)) + x2) 64 (if 0 ≤ (((gV_mem u) (Int32.toNatClampNeg ((x1 * (8 : Int32)) + x2))) + x3) then ((some (if (99 : Int32) < (((gV_mem u) (Int32.toNatClampNeg ((x1 * (8 : Int32)) + x2))) + x3) then (99 : Int32) else (((gV_mem u) (Int32.toNatClampNeg ((x1 * (8 : Int32)) + x2))) + x3))).bind fun v41 => (ck ((x1 * (8 : Int32)) + x2) 64 (some (sV_mem u (upd (gV_mem u) (Int32.toNatClampNeg ((x1 * (8 : Int32)) + x2)) v41))))) else (ck ((x1 * (8 : Int32)) + x2) 64 (some (sV_mem u (upd (gV_mem u) (Int32.toNatClampNeg ((x1 * (8 : Int32)) + x2)) (0 : Int32)))))))
/-! SoManyForgotten$Valley.rememberMore -/
def b_X8_rememberMore_2 (x1 : Int32) (x2 : Int32)  (k2 : VS → Int32 → Option (VS)) (u : VS) (x3 : Int32) : Option (VS) :=
  (if (gV_people u) ≤ x3 then (some u) else (if x3 = x1 then (k2 u (x3 + 1)) else (ck x3 8 (if ((gV_here u) (Int32.toNatClampNeg x3)) = 0 then (k2 u (x3 + 1)) else ((f_X8_addMemory u x3 x1 x2).bind fun z28 => (k2 z28 (x3 + 1)))))))
def f_X8_rememberMore_2 (x1 : Int32) (x2 : Int32)  : Nat → VS → Int32 → Option (VS) := lq2 (b_X8_rememberMore_2 x1 x2 )
def f_X8_rememberMore (u : VS) (x1 : Int32) (x2 : Int32) : Option (VS) :=
  (f_X8_rememberMore_2 x1 x2  smN u (0 : Int32))
/-! SoManyForgotten$Valley.knownOf -/
def b_X8_knownOf_4 (u : VS) (x1 : Int32)  (k4 : Int32 → Int32 → Option Int32) (x2 : Int32) (x3 : Int32) : Option Int32 :=
  (if (gV_people u) ≤ x3 then (some x2) else (if x3 = x1 then (k4 x2 (x3 + 1)) else (ck x3 8 (if ((gV_here u) (Int32.toNatClampNeg x3)) = 0 then (k4 x2 (x3 + 1)) else (ck ((x3 * (8 : Int32)) + x1) 64 (k4 (x2 + ((gV_mem u) (Int32.toNatClampNeg ((x3 * (8 : Int32)) + x1)))) (x3 + 1)))))))
def f_X8_knownOf_4 (u : VS) (x1 : Int32)  : Nat → Int32 → Int32 → Option Int32 := lq2 (b_X8_knownOf_4 u x1 )
def f_X8_knownOf (u : VS) (x1 : Int32) : Option Int32 :=
  (f_X8_knownOf_4 u x1  smN (0 : Int32) (0 : Int32))
/-! SoManyForgotten$Valley.leastKnown -/
def f_X8_leastKnown_44 (u : VS) (k7 : Int32 → Int32 → Int32 → Option Int32) (x1 : Int32) (x2 : Int32) (x3 : Int32) (y0 : Int32) : Option Int32 :=
  (if y0 = 0 then (k7 x1 x2 (x3 + 1)) else ((f_X8_knownOf u x3).bind fun z49 => (if x1 = ((-9) : Int32) then (k7 x3 z49 (x3 + 1)) else (if x2 ≤ z49 then (k7 x1 x2 (x3 + 1)) else (k7 x3 z49 (x3 + 1))))))
def b_X8_leastKnown_7 (u : VS)  (k7 : Int32 → Int32 → Int32 → Option Int32) (x1 : Int32) (x2 : Int32) (x3 : Int32) : Option Int32 :=
  (if (gV_people u) ≤ x3 then (some x1) else (ck x3 8 (if ((gV_here u) (Int32.toNatClampNeg x3)) = 0 then (k7 x1 x2 (x3 + 1)) else (ck x3 8 (ck ((gV_kind u) (Int32.toNatClampNeg x3)) 6 (ck x3 8 ((f_K_isNamed ((gV_kind u) (Int32.toNatClampNeg x3)) ((gV_fig u) (Int32.toNatClampNeg x3))).bind fun z41 => (f_X8_leastKnown_44 u k7 x1 x2 x3 z41))))))))
def f_X8_leastKnown_7 (u : VS)  : Nat → Int32 → Int32 → Int32 → Option Int32 := lq3 (b_X8_leastKnown_7 u )
def f_X8_leastKnown (u : VS) : Option Int32 :=
  (f_X8_leastKnown_7 u  smN ((-9) : Int32) (0 : Int32) (0 : Int32))
/-! SoManyForgotten$Valley.rememberAs -/
def b_X8_rememberAs_2 (x1 : Int32) (x2 : Int32)  (k2 : VS → Int32 → Option (VS)) (u : VS) (x3 : Int32) : Option (VS) :=
  (if (gV_people u) ≤ x3 then (some u) else (if x3 = x1 then (k2 u (x3 + 1)) else (ck x3 8 (if ((gV_here u) (Int32.toNatClampNeg x3)) = 0 then (k2 u (x3 + 1)) else (ck ((x3 * (8 : Int32)) + x1) 64 (k2 (sV_mem u (upd (gV_mem u) (Int32.toNatClampNeg ((x3 * (8 : Int32)) + x1)) x2)) (x3 + 1)))))))
def f_X8_rememberAs_2 (x1 : Int32) (x2 : Int32)  : Nat → VS → Int32 → Option (VS) := lq2 (b_X8_rememberAs_2 x1 x2 )
def f_X8_rememberAs (u : VS) (x1 : Int32) (x2 : Int32) : Option (VS) :=
  (f_X8_rememberAs_2 x1 x2  smN u (0 : Int32))
/-! SoManyForgotten$Valley.forget -/
def f_X8_forget (u : VS) (x1 : Int32) : Option (VS) :=
  (ck x1 8 (ck x1 8 ((some (sV_owed (sV_here u (upd (gV_here u) (Int32.toNatClampNeg x1) (vp_nar .boolean (0 : Int32)))) (upd (gV_owed (sV_here u (upd (gV_here u) (Int32.toNatClampNeg x1) (vp_nar .boolean (0 : Int32))))) (Int32.toNatClampNeg x1) (0 : Int32)))).bind fun u13 => ((f_X8_rememberAs u13 x1 (0 : Int32)).bind fun z17 => (some z17)))))
/-! SoManyForgotten$Valley.passSpring -/
def b_X8_passSpring_2   (k2 : VS → Int32 → Option (VS)) (u : VS) (x1 : Int32) : Option (VS) :=
  (if (gV_names u) ≤ x1 then (some u) else ((f_X8_leastKnown u).bind fun z11 => (if z11 = ((-9) : Int32) then (k2 u (x1 + 1)) else ((f_X8_forget u z11).bind fun z23 => (k2 z23 (x1 + 1))))))
def f_X8_passSpring_2   : Nat → VS → Int32 → Option (VS) := lq2 (b_X8_passSpring_2  )
def f_X8_passSpring (u : VS) : Option (VS) :=
  (f_X8_passSpring_2   smN u (0 : Int32))
/-! SoManyForgotten$Valley.passWeek -/
def f_X8_passWeek_63  (k12 : VS → Int32 → Option (VS)) (u : VS) (x1 : Int32) (y0 : Int32) : Option (VS) :=
  (if y0 = 0 then (k12 u (x1 + 1)) else ((f_X8_rememberMore u x1 y0).bind fun z71 => (k12 z71 (x1 + 1))))
def f_X8_passWeek_59  (k12 : VS → Int32 → Option (VS)) (u : VS) (x1 : Int32) (y0 : Int32) : Option (VS) :=
  (f_X8_passWeek_63  k12 u x1 y0)
def b_X8_passWeek_12   (k12 : VS → Int32 → Option (VS)) (u : VS) (x1 : Int32) : Option (VS) :=
  (if (gV_people u) ≤ x1 then (if ((gV_week u) - (gV_week u) / (10 : Int32) * (10 : Int32)) = 0 then ((f_X8_passSpring u).bind fun z91 => (some z91)) else (some u)) else (ck x1 8 (if ((gV_here u) (Int32.toNatClampNeg x1)) = 0 then (f_X8_passWeek_63  k12 u x1 (0 : Int32)) else (ck x1 8 (ck ((gV_kind u) (Int32.toNatClampNeg x1)) 6 (ck x1 8 (ck x1 8 ((f_K_change ((gV_kind u) (Int32.toNatClampNeg x1)) (gV_week u) ((gV_owed u) (Int32.toNatClampNeg x1)) ((gV_fig u) (Int32.toNatClampNeg x1))).bind fun z56 => (f_X8_passWeek_59  k12 u x1 z56)))))))))
def f_X8_passWeek_12   : Nat → VS → Int32 → Option (VS) := lq2 (b_X8_passWeek_12  )
def f_X8_passWeek (u : VS) : Option (VS) :=
  (f_X8_passWeek_12   smN (sV_week u ((gV_week u) + (1 : Int32))) (0 : Int32))
/-! SoManyForgotten$Valley.passWeeks -/
def b_X8_passWeeks_2 (x1 : Int32)  (k2 : VS → Int32 → Option (VS)) (u : VS) (x2 : Int32) : Option (VS) :=
  (if x1 ≤ x2 then (some u) else ((f_X8_passWeek u).bind fun z8 => (k2 z8 (x2 + 1))))
def f_X8_passWeeks_2 (x1 : Int32)  : Nat → VS → Int32 → Option (VS) := lq2 (b_X8_passWeeks_2 x1 )
def f_X8_passWeeks (u : VS) (x1 : Int32) : Option (VS) :=
  (f_X8_passWeeks_2 x1  smN u (0 : Int32))
/-! SoManyForgotten$Mind.after -/
def f_X3_after (u : MS) (x1 : Int32) : Option (MS) :=
  ((f_X3_startAgain u).bind fun z1 => ((f_X8_passWeeks (gM_then z1) x1).bind fun z9 => (some (sM_then z1 z9))))
/-! SoManyForgotten$Valley.passUntilForgotten -/
def b_X8_passUntilForgotten_2 (x1 : Int32)  (k2 : VS → Int32 → Option (Int32 × (VS))) (u : VS) (x2 : Int32) : Option (Int32 × (VS)) :=
  (if (99 : Int32) < x2 then (some ((100 : Int32), u)) else (ck x1 8 (if ((gV_here u) (Int32.toNatClampNeg x1)) = 0 then (some (x2, u)) else ((f_X8_passWeek u).bind fun z20 => (k2 z20 (x2 + 1))))))
def f_X8_passUntilForgotten_2 (x1 : Int32)  : Nat → VS → Int32 → Option (Int32 × (VS)) := lq2 (b_X8_passUntilForgotten_2 x1 )
def f_X8_passUntilForgotten (u : VS) (x1 : Int32) : Option (Int32 × (VS)) :=
  (f_X8_passUntilForgotten_2 x1  smN u (0 : Int32))
/-! SoManyForgotten$Mind.untilForgotten -/
def f_X3_untilForgotten (u : MS) (x1 : Int32) : Option (Int32 × (MS)) :=
  ((f_X3_startAgain u).bind fun z1 => ((f_X8_passUntilForgotten (gM_then z1) x1).bind fun z9 => (some (z9.1, (sM_then z1 z9.2)))))
/-! SoManyForgotten$Valley.hereBits -/
def b_X8_hereBits_4 (u : VS)  (k4 : Int32 → Int32 → Option Int32) (x1 : Int32) (x2 : Int32) : Option Int32 :=
  (if (gV_people u) ≤ x2 then (some x1) else (ck x2 8 (if ((gV_here u) (Int32.toNatClampNeg x2)) = 0 then (k4 (x1 ||| (0 : Int32)) (x2 + 1)) else (k4 (x1 ||| ((1 : Int32) <<< (x2 &&& 31))) (x2 + 1)))))
def f_X8_hereBits_4 (u : VS)  : Nat → Int32 → Int32 → Option Int32 := lq2 (b_X8_hereBits_4 u )
def f_X8_hereBits (u : VS) : Option Int32 :=
  (f_X8_hereBits_4 u  smN (0 : Int32) (0 : Int32))
/-! SoManyForgotten$Mind.untilFirstForgotten -/
def b_X3_untilFirstForgotten_14   (k14 : MS → Int32 → Int32 → Option (Int32 × (MS))) (u : MS) (x1 : Int32) (x2 : Int32) : Option (Int32 × (MS)) :=
  (if (99 : Int32) < x2 then (some ((100 : Int32), u)) else ((f_X8_passWeek (gM_then u)).bind fun z24 => ((f_X8_hereBits (gM_then (sM_then u z24))).bind fun z31 => (if z31 = x1 then (k14 (sM_then u z24) x1 (x2 + 1)) else (some (x2, (sM_then u z24)))))))
def f_X3_untilFirstForgotten_14   : Nat → MS → Int32 → Int32 → Option (Int32 × (MS)) := lq3 (b_X3_untilFirstForgotten_14  )
def f_X3_untilFirstForgotten (u : MS) : Option (Int32 × (MS)) :=
  ((f_X3_startAgain u).bind fun z1 => ((f_X8_hereBits (gM_now z1)).bind fun z8 => (f_X3_untilFirstForgotten_14   smN z1 z8 (1 : Int32))))
/-! SoManyForgotten$Mind.firstForgotten -/
def b_X3_firstForgotten_7   (k7 : MS → Int32 → Option (Int32 × (MS))) (u : MS) (x1 : Int32) : Option (Int32 × (MS)) :=
  (if (gV_people (gM_now u)) ≤ x1 then (some (((-9) : Int32), u)) else (ck x1 8 (if ((gV_here (gM_now u)) (Int32.toNatClampNeg x1)) = 0 then (k7 u (x1 + 1)) else (ck x1 8 (if ((gV_here (gM_then u)) (Int32.toNatClampNeg x1)) = 0 then (some (x1, u)) else (k7 u (x1 + 1)))))))
def f_X3_firstForgotten_7   : Nat → MS → Int32 → Option (Int32 × (MS)) := lq2 (b_X3_firstForgotten_7  )
def f_X3_firstForgotten (u : MS) : Option (Int32 × (MS)) :=
  ((f_X3_untilFirstForgotten u).bind fun z1 => (f_X3_firstForgotten_7   smN z1.2 (0 : Int32)))
/-! SoManyForgotten$Mind.untilEmpty -/
def b_X3_untilEmpty_6   (k6 : MS → Int32 → Option (Int32 × (MS))) (u : MS) (x1 : Int32) : Option (Int32 × (MS)) :=
  (if (99 : Int32) < x1 then (some ((100 : Int32), u)) else ((f_X8_hereBits (gM_then u)).bind fun z16 => (if z16 = 0 then (some (x1, u)) else ((f_X8_passWeek (gM_then u)).bind fun z28 => (k6 (sM_then u z28) (x1 + 1))))))
def f_X3_untilEmpty_6   : Nat → MS → Int32 → Option (Int32 × (MS)) := lq2 (b_X3_untilEmpty_6  )
def f_X3_untilEmpty (u : MS) : Option (Int32 × (MS)) :=
  ((f_X3_startAgain u).bind fun z1 => (f_X3_untilEmpty_6   smN z1 (0 : Int32)))
/-! SoManyForgotten$Valley.has -/
def f_X8_has (u : VS) (x1 : Int32) : Option Int32 :=
  (if x1 < 0 then (some (0 : Int32)) else (if (gV_people u) ≤ x1 then (some (0 : Int32)) else (some (1 : Int32))))
/-! SoManyForgotten$Valley.isHere -/
def f_X8_isHere (u : VS) (x1 : Int32) : Option Int32 :=
  ((f_X8_has u x1).bind fun z2 => (if z2 = 0 then (some (0 : Int32)) else (ck x1 8 (if ((gV_here u) (Int32.toNatClampNeg x1)) = 0 then (some (0 : Int32)) else (some (1 : Int32))))))
/-! SoManyForgotten$Valley.areTwoHere -/
def f_X8_areTwoHere (u : VS) (x1 : Int32) (x2 : Int32) : Option Int32 :=
  (if x1 = x2 then (some (0 : Int32)) else ((f_X8_isHere u x1).bind fun z7 => (if z7 = 0 then (some (0 : Int32)) else ((f_X8_isHere u x2).bind fun z15 => (if z15 = 0 then (some (0 : Int32)) else (some (1 : Int32)))))))
/-! SoManyForgotten$Valley.talk -/
def f_X8_talk (u : VS) (x1 : Int32) (x2 : Int32) : Option (VS) :=
  ((f_X8_addMemory u x1 x2 (10 : Int32)).bind fun z5 => ((f_X8_addMemory z5 x2 x1 (10 : Int32)).bind fun z13 => (some z13)))
/-! SoManyForgotten$Mind.bestToSpeakTo -/
def b_X3_bestToSpeakTo_12 (x1 : Int32)  (k12 : MS → Int32 → Int32 → Int32 → Option (Int32 × (MS))) (u : MS) (x2 : Int32) (x3 : Int32) (x4 : Int32) : Option (Int32 × (MS)) :=
  (if (gV_people (gM_now u)) ≤ x4 then (some (x2, u)) else ((f_X8_areTwoHere (gM_now u) x1 x4).bind fun z31 => (if z31 = 0 then (k12 u x2 x3 (x4 + 1)) else ((f_X3_startAgain u).bind fun z38 => ((f_X8_talk (gM_then z38) x1 x4).bind fun z48 => ((f_X8_passUntilForgotten (gM_then (sM_then z38 z48)) x1).bind fun z56 => (if z56.1 ≤ x3 then (k12 (sM_then (sM_then z38 z48) z56.2) x2 x3 (x4 + 1)) else (k12 (sM_then (sM_then z38 z48) z56.2) x4 z56.1 (x4 + 1)))))))))
def f_X3_bestToSpeakTo_12 (x1 : Int32)  : Nat → MS → Int32 → Int32 → Int32 → Option (Int32 × (MS)) := lq4 (b_X3_bestToSpeakTo_12 x1 )
def f_X3_bestToSpeakTo (u : MS) (x1 : Int32) : Option (Int32 × (MS)) :=
  ((f_X3_untilForgotten u x1).bind fun z5 => (f_X3_bestToSpeakTo_12 x1  smN z5.2 ((-9) : Int32) z5.1 (0 : Int32)))
/-! SoManyForgotten$Mind.listenerAt -/
def f_X3_listenerAt (x0 : Int32) (x1 : Int32) : Option Int32 :=
  (some ((x0 >>> (((3 : Int32) * x1) &&& 31)) &&& (7 : Int32)))
/-! SoManyForgotten$Mind.areListeners -/
def b_X3_areListeners_6 (u : MS) (x1 : Int32) (x2 : Int32) (x3 : Int32)  (k6 : Int32 → Int32 → Option Int32) (x4 : Int32) (x5 : Int32) : Option Int32 :=
  (if x2 ≤ x5 then (some (1 : Int32)) else ((f_X3_listenerAt x3 x5).bind fun z15 => (if z15 < x4 then (some (0 : Int32)) else ((f_X8_areTwoHere (gM_now u) x1 z15).bind fun z34 => (if z34 = 0 then (some (0 : Int32)) else (k6 z15 (x5 + 1)))))))
def f_X3_areListeners_6 (u : MS) (x1 : Int32) (x2 : Int32) (x3 : Int32)  : Nat → Int32 → Int32 → Option Int32 := lq2 (b_X3_areListeners_6 u x1 x2 x3 )
def f_X3_areListeners (u : MS) (x1 : Int32) (x2 : Int32) (x3 : Int32) : Option Int32 :=
  (f_X3_areListeners_6 u x1 x2 x3  smN (0 : Int32) (0 : Int32))
/-! SoManyForgotten$Valley.keeps -/
def b_X8_keeps_2 (x1 : Int32) (x2 : Int32)  (k2 : VS → Int32 → Option (Int32 × (VS))) (u : VS) (x3 : Int32) : Option (Int32 × (VS)) :=
  (if x2 ≤ x3 then (ck x1 8 (zr ((gV_here u) (Int32.toNatClampNeg x1)) (some (((gV_here u) (Int32.toNatClampNeg x1)), u)))) else (ck x1 8 (if ((gV_here u) (Int32.toNatClampNeg x1)) = 0 then (ck x1 8 (zr ((gV_here u) (Int32.toNatClampNeg x1)) (some (((gV_here u) (Int32.toNatClampNeg x1)), u)))) else ((f_X8_passWeek u).bind fun z17 => (k2 z17 (x3 + 1))))))
def f_X8_keeps_2 (x1 : Int32) (x2 : Int32)  : Nat → VS → Int32 → Option (Int32 × (VS)) := lq2 (b_X8_keeps_2 x1 x2 )
def f_X8_keeps (u : VS) (x1 : Int32) (x2 : Int32) : Option (Int32 × (VS)) :=
  (f_X8_keeps_2 x1 x2  smN u (0 : Int32))
/-! SoManyForgotten$Mind.isKeptBy -/
def b_X3_isKeptBy_7 (x1 : Int32) (x2 : Int32) (x3 : Int32) (x4 : Int32)  (k7 : MS → Int32 → Option (Int32 × (MS))) (u : MS) (x5 : Int32) : Option (Int32 × (MS)) :=
  (if x3 ≤ x5 then ((f_X8_keeps (gM_then u) x1 x2).bind fun z40 => (zr z40.1 (some (z40.1, (sM_then u z40.2))))) else ((f_X3_listenerAt x4 x5).bind fun z22 => ((f_X8_talk (gM_then u) x1 z22).bind fun z25 => (k7 (sM_then u z25) (x5 + 1)))))
def f_X3_isKeptBy_7 (x1 : Int32) (x2 : Int32) (x3 : Int32) (x4 : Int32)  : Nat → MS → Int32 → Option (Int32 × (MS)) := lq2 (b_X3_isKeptBy_7 x1 x2 x3 x4 )
def f_X3_isKeptBy (u : MS) (x1 : Int32) (x2 : Int32) (x3 : Int32) (x4 : Int32) : Option (Int32 × (MS)) :=
  ((f_X3_startAgain u).bind fun z1 => (f_X3_isKeptBy_7 x1 x2 x3 x4  smN z1 (0 : Int32)))
/-! SoManyForgotten$Mind.fewestTimes -/
def b_X3_fewestTimes_10 (x1 : Int32) (x2 : Int32) (k2 : MS → Int32 → Option (Int32 × (MS))) (k10 : MS → Int32 → Int32 → Option (Int32 × (MS))) (u : MS) (x3 : Int32) (x4 : Int32) : Option (Int32 × (MS)) :=
  (if ((1 : Int32) <<< (((3 : Int32) * x3) &&& 31)) ≤ x4 then (k2 u (x3 + 1)) else ((f_X3_areListeners u x1 x3 x4).bind fun z25 => (if z25 = 0 then (k10 u x3 (x4 + 1)) else ((f_X3_isKeptBy u x1 x2 x3 x4).bind fun z37 => (if z37.1 = 0 then (k10 z37.2 x3 (x4 + 1)) else (some (x3, z37.2)))))))
def f_X3_fewestTimes_10 (x1 : Int32) (x2 : Int32) (k2 : MS → Int32 → Option (Int32 × (MS))) : Nat → MS → Int32 → Int32 → Option (Int32 × (MS)) := lq3 (b_X3_fewestTimes_10 x1 x2 k2)
def b_X3_fewestTimes_2 (x1 : Int32) (x2 : Int32)  (k2 : MS → Int32 → Option (Int32 × (MS))) (u : MS) (x3 : Int32) : Option (Int32 × (MS)) :=
  (if (3 : Int32) < x3 then (some (((-9) : Int32), u)) else (f_X3_fewestTimes_10 x1 x2 k2 smN u x3 (0 : Int32)))
def f_X3_fewestTimes_2 (x1 : Int32) (x2 : Int32)  : Nat → MS → Int32 → Option (Int32 × (MS)) := lq2 (b_X3_fewestTimes_2 x1 x2 )
def f_X3_fewestTimes (u : MS) (x1 : Int32) (x2 : Int32) : Option (Int32 × (MS)) :=
  (f_X3_fewestTimes_2 x1 x2  smN u (0 : Int32))
/-! java/lang/Integer.bitCount -/
def f_J6_bitCount_0f7a4 (x0 : Int32) : Option Int32 :=
  ((some (x0 - ((((x0).toUInt32 >>> (((1 : Int32)).toUInt32 &&& Int32.toUInt32 31)).toInt32) &&& (1431655765 : Int32)))).bind fun v9 => ((some ((v9 &&& (858993459 : Int32)) + ((((v9).toUInt32 >>> (((2 : Int32)).toUInt32 &&& Int32.toUInt32 31)).toInt32) &&& (858993459 : Int32)))).bind fun v23 => ((some ((v23 + (((v23).toUInt32 >>> (((4 : Int32)).toUInt32 &&& Int32.toUInt32 31)).toInt32)) &&& (252645135 : Int32))).bind fun v33 => ((some (v33 + (((v33).toUInt32 >>> (((8 : Int32)).toUInt32 &&& Int32.toUInt32 31)).toInt32))).bind fun v40 => ((some (v40 + (((v40).toUInt32 >>> (((16 : Int32)).toUInt32 &&& Int32.toUInt32 31)).toInt32))).bind fun v47 => (some (v47 &&& (63 : Int32))))))))
/-! SoManyForgotten$Valley.countHere -/
def f_X8_countHere (u : VS) : Option Int32 :=
  ((f_X8_hereBits u).bind fun z1 => ((f_J6_bitCount_0f7a4 z1).bind fun z4 => (some z4)))
/-! SoManyForgotten$Mind.bestAsDog -/
def b_X3_bestAsDog_15 (x1 : Int32)  (k15 : MS → Int32 → Int32 → Int32 → Option (Int32 × (MS))) (u : MS) (x2 : Int32) (x3 : Int32) (x4 : Int32) : Option (Int32 × (MS)) :=
  (if (gV_people (gM_now u)) ≤ x4 then (some (x2, u)) else (ck x4 8 (if ((gV_here (gM_now u)) (Int32.toNatClampNeg x4)) = 0 then (k15 u x2 x3 (x4 + 1)) else ((f_X3_startAgain u).bind fun z41 => (ck x4 8 ((f_X8_passWeeks (gM_then (sM_then z41 (sV_kind (gM_then z41) (upd (gV_kind (gM_then z41)) (Int32.toNatClampNeg x4) (4 : Int32))))) x1).bind fun z60 => ((some (sM_then (sM_then z41 (sV_kind (gM_then z41) (upd (gV_kind (gM_then z41)) (Int32.toNatClampNeg x4) (4 : Int32)))) z60)).bind fun u60 => ((f_X8_countHere (gM_then u60)).bind fun z67 => (if z67 ≤ x3 then (k15 u60 x2 x3 (x4 + 1)) else ((f_X8_countHere (gM_then u60)).bind fun z81 => (k15 u60 x4 z81 (x4 + 1))))))))))))
def f_X3_bestAsDog_15 (x1 : Int32)  : Nat → MS → Int32 → Int32 → Int32 → Option (Int32 × (MS)) := lq4 (b_X3_bestAsDog_15 x1 )
def f_X3_bestAsDog (u : MS) (x1 : Int32) : Option (Int32 × (MS)) :=
  ((f_X3_after u x1).bind fun z5 => ((f_X8_countHere (gM_then z5)).bind fun z8 => (f_X3_bestAsDog_15 x1  smN z5 ((-9) : Int32) z8 (0 : Int32))))
/-! SoManyForgotten$Valley.comeBack -/
def f_X8_comeBack (u : VS) (x1 : Int32) : Option (VS) :=
  (ck x1 8 ((f_X8_rememberAs (sV_here u (upd (gV_here u) (Int32.toNatClampNeg x1) (vp_nar .boolean (1 : Int32)))) x1 (20 : Int32)).bind fun z11 => (some z11)))
/-! SoManyForgotten$Mind.weeksIfBack -/
def f_X3_weeksIfBack (u : MS) (x1 : Int32) : Option (Int32 × (MS)) :=
  ((f_X3_startAgain u).bind fun z1 => ((f_X8_comeBack (gM_then z1) x1).bind fun z9 => ((f_X8_passUntilForgotten (gM_then (sM_then z1 z9)) x1).bind fun z19 => (some ((if z19.1 < (99 : Int32) then z19.1 else (99 : Int32)), (sM_then (sM_then z1 z9) z19.2))))))
/-! SoManyForgotten$Mind.bestToBring -/
def b_X3_bestToBring_7   (k7 : MS → Int32 → Int32 → Int32 → Option (Int32 × (MS))) (u : MS) (x1 : Int32) (x2 : Int32) (x3 : Int32) : Option (Int32 × (MS)) :=
  (if (gV_people (gM_now u)) ≤ x3 then (some (x1, u)) else (ck x3 8 (if ((gV_here (gM_now u)) (Int32.toNatClampNeg x3)) = 0 then ((f_X3_weeksIfBack u x3).bind fun z32 => (if x1 = ((-9) : Int32) then (k7 z32.2 x3 z32.1 (x3 + 1)) else (if z32.1 ≤ x2 then (k7 z32.2 x1 x2 (x3 + 1)) else (k7 z32.2 x3 z32.1 (x3 + 1))))) else (k7 u x1 x2 (x3 + 1)))))
def f_X3_bestToBring_7   : Nat → MS → Int32 → Int32 → Int32 → Option (Int32 × (MS)) := lq4 (b_X3_bestToBring_7  )
def f_X3_bestToBring (u : MS) : Option (Int32 × (MS)) :=
  (f_X3_bestToBring_7   smN u ((-9) : Int32) (0 : Int32) (0 : Int32))
/-! SoManyForgotten$Valley.memoryOf -/
def f_X8_memoryOf (u : VS) (x1 : Int32) (x2 : Int32) : Option Int32 :=
  (ck ((x1 * (8 : Int32)) + x2) 64 (some ((gV_mem u) (Int32.toNatClampNeg ((x1 * (8 : Int32)) + x2)))))
/-! SoManyForgotten$Valley.leagueOf -/
def b_X8_leagueOf_4 (u : VS) (x1 : Int32)  (k4 : Int32 → Int32 → Option Int32) (x2 : Int32) (x3 : Int32) : Option Int32 :=
  (if (gV_people u) ≤ x3 then (some x2) else ((f_X8_areTwoHere u x1 x3).bind fun z15 => (if z15 = 0 then (k4 x2 (x3 + 1)) else ((f_X8_memoryOf u x1 x3).bind fun z24 => (if z24 < (50 : Int32) then (k4 x2 (x3 + 1)) else ((f_X8_memoryOf u x3 x1).bind fun z35 => (if z35 < (50 : Int32) then (k4 x2 (x3 + 1)) else (k4 (x2 ||| ((1 : Int32) <<< (x3 &&& 31))) (x3 + 1)))))))))
def f_X8_leagueOf_4 (u : VS) (x1 : Int32)  : Nat → Int32 → Int32 → Option Int32 := lq2 (b_X8_leagueOf_4 u x1 )
def f_X8_leagueOf (u : VS) (x1 : Int32) : Option Int32 :=
  (f_X8_leagueOf_4 u x1  smN (0 : Int32) (0 : Int32))
/-! SoManyForgotten$Mind.isLeague -/
def f_X3_isLeague_28 (u : MS) (x1 : Int32) (k2 : Int32 → Option Int32) (x2 : Int32) (x3 : Int32) (y0 : Int32) : Option Int32 :=
  (if y0 = 0 then (k2 (x2 + 1)) else (ck x2 8 (if ((gV_here (gM_now u)) (Int32.toNatClampNeg x2)) = 0 then (some (0 : Int32)) else (ck x2 8 (if (x1 &&& ((((gM_lg u) (Int32.toNatClampNeg x2)) ||| x3) ^^^ ((-1) : Int32))) = 0 then (k2 (x2 + 1)) else (some (0 : Int32)))))))
def b_X3_isLeague_2 (u : MS) (x1 : Int32)  (k2 : Int32 → Option Int32) (x2 : Int32) : Option Int32 :=
  (if (gV_people (gM_now u)) ≤ x2 then (some (1 : Int32)) else (if (x1 &&& ((1 : Int32) <<< (x2 &&& 31))) = 0 then (f_X3_isLeague_28 u x1 k2 x2 ((1 : Int32) <<< (x2 &&& 31)) (0 : Int32)) else (f_X3_isLeague_28 u x1 k2 x2 ((1 : Int32) <<< (x2 &&& 31)) (1 : Int32))))
def f_X3_isLeague_2 (u : MS) (x1 : Int32)  : Nat → Int32 → Option Int32 := lq1 (b_X3_isLeague_2 u x1 )
def f_X3_isLeague (u : MS) (x1 : Int32) : Option Int32 :=
  (f_X3_isLeague_2 u x1  smN (0 : Int32))
/-! SoManyForgotten$Mind.largestLeague -/
def b_X3_largestLeague_37   (k37 : MS → Int32 → Int32 → Option (Int32 × (MS))) (u : MS) (x1 : Int32) (x2 : Int32) : Option (Int32 × (MS)) :=
  (if ((1 : Int32) <<< ((gV_people (gM_now u)) &&& 31)) ≤ x2 then (some (x1, u)) else ((f_J6_bitCount_0f7a4 x2).bind fun z51 => ((f_J6_bitCount_0f7a4 x1).bind fun z55 => (if z51 ≤ z55 then (k37 u x1 (x2 + 1)) else ((f_X3_isLeague u x2).bind fun z63 => (if z63 = 0 then (k37 u x1 (x2 + 1)) else (k37 u x2 (x2 + 1))))))))
def f_X3_largestLeague_37   : Nat → MS → Int32 → Int32 → Option (Int32 × (MS)) := lq3 (b_X3_largestLeague_37  )
def b_X3_largestLeague_2   (k2 : MS → Int32 → Option (Int32 × (MS))) (u : MS) (x1 : Int32) : Option (Int32 × (MS)) :=
  (if (gV_people (gM_now u)) ≤ x1 then (f_X3_largestLeague_37   smN u (0 : Int32) (1 : Int32)) else ((f_X8_leagueOf (gM_now u) x1).bind fun z23 => (ck x1 8 (k2 (sM_lg u (upd (gM_lg u) (Int32.toNatClampNeg x1) z23)) (x1 + 1)))))
def f_X3_largestLeague_2   : Nat → MS → Int32 → Option (Int32 × (MS)) := lq2 (b_X3_largestLeague_2  )
def f_X3_largestLeague (u : MS) : Option (Int32 × (MS)) :=
  (f_X3_largestLeague_2   smN u (0 : Int32))
/-! SoManyForgotten$Valley.setMemory -/
def f_X8_setMemory (u : VS) (x1 : Int32) (x2 : Int32) (x3 : Int32) : Option (VS) :=
  (ck ((x1 * (8 : Int32)) + x2) 64 (some (sV_mem u (upd (gV_mem u) (Int32.toNatClampNeg ((x1 * (8 : Int32)) + x2)) x3))))
/-! SoManyForgotten$Valley.forgetOthers -/
def b_X8_forgetOthers_2 (x1 : Int32)  (k2 : VS → Int32 → Option (VS)) (u : VS) (x2 : Int32) : Option (VS) :=
  (if (gV_people u) ≤ x2 then (some u) else ((f_X8_setMemory u x1 x2 (0 : Int32)).bind fun z14 => (k2 z14 (x2 + 1))))
def f_X8_forgetOthers_2 (x1 : Int32)  : Nat → VS → Int32 → Option (VS) := lq2 (b_X8_forgetOthers_2 x1 )
def f_X8_forgetOthers (u : VS) (x1 : Int32) : Option (VS) :=
  (f_X8_forgetOthers_2 x1  smN u (0 : Int32))
/-! SoManyForgotten$Mind.powerOf -/
def b_X3_powerOf_28 (x2 : Int32)  (k28 : MS → Int32 → Int32 → Option (Int32 × (MS))) (u : MS) (x3 : Int32) (x4 : Int32) : Option (Int32 × (MS)) :=
  (if x2 ≤ x4 then (some (x3, u)) else ((f_X8_passWeek (gM_then u)).bind fun z38 => ((f_X8_passWeek (gM_oth (sM_then u z38))).bind fun z45 => ((f_X8_leastKnown (gM_then (sM_oth (sM_then u z38) z45))).bind fun z53 => ((f_X8_leastKnown (gM_oth (sM_oth (sM_then u z38) z45))).bind fun z60 => (if z53 = z60 then (k28 (sM_oth (sM_then u z38) z45) (x3 + (0 : Int32)) (x4 + 1)) else (k28 (sM_oth (sM_then u z38) z45) (x3 + (1 : Int32)) (x4 + 1))))))))
def f_X3_powerOf_28 (x2 : Int32)  : Nat → MS → Int32 → Int32 → Option (Int32 × (MS)) := lq3 (b_X3_powerOf_28 x2 )
def f_X3_powerOf (u : MS) (x1 : Int32) (x2 : Int32) : Option (Int32 × (MS)) :=
  ((f_X3_startAgain u).bind fun z1 => ((f_X8_copy ((gM_oth z1), (gM_now z1))).bind fun z12 => ((f_X8_forgetOthers (gM_oth (sM_now (sM_oth z1 z12.1) z12.2)) x1).bind fun z20 => (f_X3_powerOf_28 x2  smN (sM_oth (sM_now (sM_oth z1 z12.1) z12.2) z20) (0 : Int32) (0 : Int32)))))
/-! SoManyForgotten$Mind.debtsVoid -/
def b_X3_debtsVoid_24   (k24 : MS → Int32 → Int32 → Int32 → Option (Int32 × (MS))) (u : MS) (x2 : Int32) (x3 : Int32) (x4 : Int32) : Option (Int32 × (MS)) :=
  (if (gV_people (gM_now u)) ≤ x4 then (some (x3, u)) else (if ((x2 >>> (x4 &&& 31)) &&& (1 : Int32)) = (1 : Int32) then (ck x4 8 (k24 u x2 (x3 + ((gV_owed (gM_now u)) (Int32.toNatClampNeg x4))) (x4 + 1))) else (k24 u x2 (x3 + (0 : Int32)) (x4 + 1))))
def f_X3_debtsVoid_24   : Nat → MS → Int32 → Int32 → Int32 → Option (Int32 × (MS)) := lq4 (b_X3_debtsVoid_24  )
def f_X3_debtsVoid (u : MS) (x1 : Int32) : Option (Int32 × (MS)) :=
  ((f_X8_hereBits (gM_now u)).bind fun z4 => ((f_X3_after u x1).bind fun z9 => ((f_X8_hereBits (gM_then z9)).bind fun z12 => (f_X3_debtsVoid_24   smN z9 (z4 &&& (z12 ^^^ ((-1) : Int32))) (0 : Int32) (0 : Int32)))))
/-! SoManyForgotten$Valley.talkToAll -/
def b_X8_talkToAll_2 (x1 : Int32)  (k2 : VS → Int32 → Option (VS)) (u : VS) (x2 : Int32) : Option (VS) :=
  (if (gV_people u) ≤ x2 then (some u) else ((f_X8_areTwoHere u x1 x2).bind fun z13 => (if z13 = 0 then (k2 u (x2 + 1)) else ((f_X8_talk u x1 x2).bind fun z22 => (k2 z22 (x2 + 1))))))
def f_X8_talkToAll_2 (x1 : Int32)  : Nat → VS → Int32 → Option (VS) := lq2 (b_X8_talkToAll_2 x1 )
def f_X8_talkToAll (u : VS) (x1 : Int32) : Option (VS) :=
  (f_X8_talkToAll_2 x1  smN u (0 : Int32))
/-! SoManyForgotten$Mind.weighPair -/
def f_X3_weighPair_44 (x1 : Int32) (x2 : Int32) (x3 : Int32) (x4 : Int32)  (u : MS) (x5 : Int32) (x6 : Int32) : Option (MS) :=
  ((f_X8_passWeeks (gM_then u) x3).bind fun z49 => ((f_X8_knownOf (gM_then (sM_then u z49)) x1).bind fun z63 => ((some (z63 - ((30 : Int32) * x5))).bind fun v72 => (ck x4 4 ((f_X8_knownOf (gM_then (sM_fg (sM_then u z49) (upd (gM_fg (sM_then u z49)) (Int32.toNatClampNeg x4) v72))) x2).bind fun z84 => ((some (z84 - ((30 : Int32) * x6))).bind fun v93 => (ck x4 4 ((some (sM_og (sM_fg (sM_then u z49) (upd (gM_fg (sM_then u z49)) (Int32.toNatClampNeg x4) v72)) (upd (gM_og (sM_fg (sM_then u z49) (upd (gM_fg (sM_then u z49)) (Int32.toNatClampNeg x4) v72))) (Int32.toNatClampNeg x4) v93))).bind fun u93 => (some u93)))))))))
def f_X3_weighPair_30 (x1 : Int32) (x2 : Int32) (x3 : Int32) (x4 : Int32)  (u : MS) (x5 : Int32) (x6 : Int32) : Option (MS) :=
  (if x6 = (1 : Int32) then ((f_X8_talkToAll (gM_then u) x2).bind fun z41 => (f_X3_weighPair_44 x1 x2 x3 x4  (sM_then u z41) x5 x6)) else (f_X3_weighPair_44 x1 x2 x3 x4  u x5 x6))
def f_X3_weighPair (u : MS) (x1 : Int32) (x2 : Int32) (x3 : Int32) (x4 : Int32) : Option (MS) :=
  ((f_X3_startAgain u).bind fun z13 => (if (x4 >>> ((1 : Int32) &&& 31)) = (1 : Int32) then ((f_X8_talkToAll (gM_then z13) x1).bind fun z27 => (f_X3_weighPair_30 x1 x2 x3 x4  (sM_then z13 z27) (x4 >>> ((1 : Int32) &&& 31)) (x4 &&& (1 : Int32)))) else (f_X3_weighPair_30 x1 x2 x3 x4  z13 (x4 >>> ((1 : Int32) &&& 31)) (x4 &&& (1 : Int32)))))
/-! SoManyForgotten$Mind.settled -/
def b_X3_settled_27   (k27 : MS → Int32 → Option (Int32 × (MS))) (u : MS) (x4 : Int32) : Option (Int32 × (MS)) :=
  (if (4 : Int32) ≤ x4 then (some (((-9) : Int32), u)) else (ck x4 4 (ck (x4 ^^^ (2 : Int32)) 4 (if ((gM_fg u) (Int32.toNatClampNeg x4)) < ((gM_fg u) (Int32.toNatClampNeg (x4 ^^^ (2 : Int32)))) then (k27 u (x4 + 1)) else (ck x4 4 (ck (x4 ^^^ (1 : Int32)) 4 (if ((gM_og u) (Int32.toNatClampNeg x4)) < ((gM_og u) (Int32.toNatClampNeg (x4 ^^^ (1 : Int32)))) then (k27 u (x4 + 1)) else (some ((((10 : Int32) * (x4 >>> ((1 : Int32) &&& 31))) + (x4 &&& (1 : Int32))), u)))))))))
def f_X3_settled_27   : Nat → MS → Int32 → Option (Int32 × (MS)) := lq2 (b_X3_settled_27  )
def b_X3_settled_3 (x1 : Int32) (x2 : Int32) (x3 : Int32)  (k3 : MS → Int32 → Option (Int32 × (MS))) (u : MS) (x4 : Int32) : Option (Int32 × (MS)) :=
  (if (4 : Int32) ≤ x4 then (f_X3_settled_27   smN u (0 : Int32)) else ((f_X3_weighPair u x1 x2 x3 x4).bind fun z15 => (k3 z15 (x4 + 1))))
def f_X3_settled_3 (x1 : Int32) (x2 : Int32) (x3 : Int32)  : Nat → MS → Int32 → Option (Int32 × (MS)) := lq2 (b_X3_settled_3 x1 x2 x3 )
def f_X3_settled (u : MS) (x1 : Int32) (x2 : Int32) (x3 : Int32) : Option (Int32 × (MS)) :=
  (f_X3_settled_3 x1 x2 x3  smN u (0 : Int32))
/-! SoManyForgotten$Valley.holdFeast -/
def b_X8_holdFeast_2   (k2 : VS → Int32 → Option (VS)) (u : VS) (x1 : Int32) : Option (VS) :=
  (if (gV_people u) ≤ x1 then (some u) else (ck x1 8 (if ((gV_here u) (Int32.toNatClampNeg x1)) = 0 then (k2 u (x1 + 1)) else ((f_X8_rememberMore u x1 (2 : Int32)).bind fun z22 => (k2 z22 (x1 + 1))))))
def f_X8_holdFeast_2   : Nat → VS → Int32 → Option (VS) := lq2 (b_X8_holdFeast_2  )
def f_X8_holdFeast (u : VS) : Option (VS) :=
  (f_X8_holdFeast_2   smN u (0 : Int32))
/-! SoManyForgotten$Mind.isHereBehind -/
def f_X3_isHereBehind_30 (x1 : Int32) (x2 : Int32) (x3 : Int32) (k7 : MS → Int32 → Option (Int32 × (MS))) (u : MS) (x4 : Int32) : Option (Int32 × (MS)) :=
  ((f_X8_passWeek (gM_then u)).bind fun z34 => (k7 (sM_then u z34) (x4 + 1)))
def b_X3_isHereBehind_7 (x1 : Int32) (x2 : Int32) (x3 : Int32)  (k7 : MS → Int32 → Option (Int32 × (MS))) (u : MS) (x4 : Int32) : Option (Int32 × (MS)) :=
  (if x2 ≤ x4 then (ck x1 8 (zr ((gV_here (gM_then u)) (Int32.toNatClampNeg x1)) (some (((gV_here (gM_then u)) (Int32.toNatClampNeg x1)), u)))) else (if ((x3 >>> (x4 &&& 31)) &&& (1 : Int32)) = (1 : Int32) then ((f_X8_holdFeast (gM_then u)).bind fun z27 => (f_X3_isHereBehind_30 x1 x2 x3 k7 (sM_then u z27) x4)) else (f_X3_isHereBehind_30 x1 x2 x3 k7 u x4)))
def f_X3_isHereBehind_7 (x1 : Int32) (x2 : Int32) (x3 : Int32)  : Nat → MS → Int32 → Option (Int32 × (MS)) := lq2 (b_X3_isHereBehind_7 x1 x2 x3 )
def f_X3_isHereBehind (u : MS) (x1 : Int32) (x2 : Int32) (x3 : Int32) : Option (Int32 × (MS)) :=
  ((f_X3_startAgain u).bind fun z1 => (f_X3_isHereBehind_7 x1 x2 x3  smN z1 (0 : Int32)))
/-! SoManyForgotten.raised -/
def b_X10_raised_5 (x0 : Int32) (x1 : Int32)  (k5 : Int64 → Int32 → Option Int64) (x2 : Int64) (x4 : Int32) : Option Int64 :=
  (if x1 ≤ x4 then (some x2) else (k5 (x2 * (Int32.toInt64 x0)) (x4 + 1)))
def f_X10_raised_5 (x0 : Int32) (x1 : Int32)  : Nat → Int64 → Int32 → Option Int64 := lq2 (b_X10_raised_5 x0 x1 )
def f_X10_raised (x0 : Int32) (x1 : Int32) : Option Int64 :=
  (f_X10_raised_5 x0 x1  smN (1 : Int64) (0 : Int32))
/-! SoManyForgotten$Mind.isMemoryAsTold -/
def b_X3_isMemoryAsTold_3 (x1 : Int32) (x2 : Int32)  (k3 : MS → Int32 → Option (Int32 × (MS))) (u : MS) (x4 : Int32) : Option (Int32 × (MS)) :=
  (if (gR_size (gM_row u)) ≤ x4 then (some ((1 : Int32), u)) else ((f_X8_memoryOf (gM_then u) x2 x1).bind fun z18 => (ck x4 16 (if z18 = ((gR_num (gM_row u)) (Int32.toNatClampNeg x4)) then ((f_X8_passWeek (gM_then u)).bind fun z37 => (k3 (sM_then u z37) (x4 + 1))) else (some ((0 : Int32), u))))))
def f_X3_isMemoryAsTold_3 (x1 : Int32) (x2 : Int32)  : Nat → MS → Int32 → Option (Int32 × (MS)) := lq2 (b_X3_isMemoryAsTold_3 x1 x2 )
def f_X3_isMemoryAsTold (u : MS) (x1 : Int32) (x2 : Int32) : Option (Int32 × (MS)) :=
  (f_X3_isMemoryAsTold_3 x1 x2  smN u (0 : Int32))
/-! SoManyForgotten$Mind.kindsThatFit -/
def b_X3_kindsThatFit_6 (x1 : Int32) (x2 : Int32)  (k6 : MS → Int32 → Int32 → Option (Int32 × (MS))) (u : MS) (x4 : Int32) (x5 : Int32) : Option (Int32 × (MS)) :=
  (if (6 : Int32) ≤ x5 then (some (x4, u)) else ((f_X3_startAgain u).bind fun z14 => (ck x1 8 ((f_X3_isMemoryAsTold (sM_then z14 (sV_kind (gM_then z14) (upd (gV_kind (gM_then z14)) (Int32.toNatClampNeg x1) x5))) x1 x2).bind fun z34 => (if z34.1 = 0 then (k6 z34.2 (x4 ||| (0 : Int32)) (x5 + 1)) else (k6 z34.2 (x4 ||| ((1 : Int32) <<< (x5 &&& 31))) (x5 + 1)))))))
def f_X3_kindsThatFit_6 (x1 : Int32) (x2 : Int32)  : Nat → MS → Int32 → Int32 → Option (Int32 × (MS)) := lq3 (b_X3_kindsThatFit_6 x1 x2 )
def f_X3_kindsThatFit (u : MS) (x1 : Int32) (x2 : Int32) : Option (Int32 × (MS)) :=
  (f_X3_kindsThatFit_6 x1 x2  smN u (0 : Int32) (0 : Int32))
/-! SoManyForgotten$Mind.figuresThatFit -/
def b_X3_figuresThatFit_6 (x1 : Int32) (x2 : Int32)  (k6 : MS → Int32 → Int32 → Option (Int32 × (MS))) (u : MS) (x4 : Int32) (x5 : Int32) : Option (Int32 × (MS)) :=
  (if (9 : Int32) < x5 then (some (x4, u)) else ((f_X3_startAgain u).bind fun z14 => (ck x1 8 ((f_X3_isMemoryAsTold (sM_then z14 (sV_fig (gM_then z14) (upd (gV_fig (gM_then z14)) (Int32.toNatClampNeg x1) x5))) x1 x2).bind fun z34 => (if z34.1 = 0 then (k6 z34.2 (x4 ||| (0 : Int32)) (x5 + 1)) else (k6 z34.2 (x4 ||| ((1 : Int32) <<< (x5 &&& 31))) (x5 + 1)))))))
def f_X3_figuresThatFit_6 (x1 : Int32) (x2 : Int32)  : Nat → MS → Int32 → Int32 → Option (Int32 × (MS)) := lq3 (b_X3_figuresThatFit_6 x1 x2 )
def f_X3_figuresThatFit (u : MS) (x1 : Int32) (x2 : Int32) : Option (Int32 × (MS)) :=
  (f_X3_figuresThatFit_6 x1 x2  smN u (0 : Int32) (0 : Int32))
/-! SoManyForgotten$Mind.firstNotSo -/
def b_X3_firstNotSo_6   (k6 : MS → Int32 → Option (Int32 × (MS))) (u : MS) (x2 : Int32) : Option (Int32 × (MS)) :=
  (if (gR_size (gM_row u)) ≤ x2 then (some (((-9) : Int32), u)) else ((f_X8_countHere (gM_then u)).bind fun z18 => (ck x2 16 (if z18 = ((gR_num (gM_row u)) (Int32.toNatClampNeg x2)) then ((f_X8_passWeek (gM_then u)).bind fun z36 => (k6 (sM_then u z36) (x2 + 1))) else (some (x2, u))))))
def f_X3_firstNotSo_6   : Nat → MS → Int32 → Option (Int32 × (MS)) := lq2 (b_X3_firstNotSo_6  )
def f_X3_firstNotSo (u : MS) : Option (Int32 × (MS)) :=
  ((f_X3_startAgain u).bind fun z1 => (f_X3_firstNotSo_6   smN z1 (0 : Int32)))
/-! SoManyForgotten$Mind.drawBelowHundred -/
def f_X3_drawBelowHundred (u : MS) : Option (Int32 × (MS)) :=
  ((some (((gM_z u) * (1664525 : Int32)) + (1013904223 : Int32))).bind fun v11 => (some (((((gM_z (sM_z u v11)) &&& (2147483647 : Int32)) / (256 : Int32)) - (((gM_z (sM_z u v11)) &&& (2147483647 : Int32)) / (256 : Int32)) / (100 : Int32) * (100 : Int32)), (sM_z u v11))))
/-! SoManyForgotten$Mind.drawMemories -/
def b_X3_drawMemories_15  (k2 : MS → Int32 → Option (MS)) (k15 : MS → Int32 → Int32 → Option (MS)) (u : MS) (x1 : Int32) (x2 : Int32) : Option (MS) :=
  (if (gV_people (gM_then u)) ≤ x2 then (k2 u (x1 + 1)) else (if x1 = x2 then (k15 u x1 (x2 + 1)) else ((f_X3_drawBelowHundred u).bind fun z38 => ((f_X8_setMemory (gM_then z38.2) x1 x2 z38.1).bind fun z41 => (k15 (sM_then z38.2 z41) x1 (x2 + 1))))))
def f_X3_drawMemories_15  (k2 : MS → Int32 → Option (MS)) : Nat → MS → Int32 → Int32 → Option (MS) := lq3 (b_X3_drawMemories_15  k2)
def b_X3_drawMemories_2   (k2 : MS → Int32 → Option (MS)) (u : MS) (x1 : Int32) : Option (MS) :=
  (if (gV_people (gM_then u)) ≤ x1 then (some u) else (f_X3_drawMemories_15  k2 smN u x1 (0 : Int32)))
def f_X3_drawMemories_2   : Nat → MS → Int32 → Option (MS) := lq2 (b_X3_drawMemories_2  )
def f_X3_drawMemories (u : MS) : Option (MS) :=
  (f_X3_drawMemories_2   smN u (0 : Int32))
/-! SoManyForgotten$Valley.knownTogether -/
def b_X8_knownTogether_4 (u : VS)  (k4 : Int32 → Int32 → Option Int32) (x1 : Int32) (x2 : Int32) : Option Int32 :=
  (if (gV_people u) ≤ x2 then (some x1) else (ck x2 8 (if ((gV_here u) (Int32.toNatClampNeg x2)) = 0 then (k4 (x1 + (0 : Int32)) (x2 + 1)) else ((f_X8_knownOf u x2).bind fun z24 => (k4 (x1 + z24) (x2 + 1))))))
def f_X8_knownTogether_4 (u : VS)  : Nat → Int32 → Int32 → Option Int32 := lq2 (b_X8_knownTogether_4 u )
def f_X8_knownTogether (u : VS) : Option Int32 :=
  (f_X8_knownTogether_4 u  smN (0 : Int32) (0 : Int32))
/-! SoManyForgotten$Mind.byLot -/
def b_X3_byLot_11 (x1 : Int32) (x3 : Int32)  (k11 : MS → Int32 → Int32 → Option (Int32 × (MS))) (u : MS) (x4 : Int32) (x5 : Int32) : Option (Int32 × (MS)) :=
  (if x1 ≤ x5 then (some (x4, u)) else ((f_X3_startAgain u).bind fun z18 => ((f_X3_drawMemories z18).bind fun z22 => ((f_X8_passWeeks (gM_then z22) (20 : Int32)).bind fun z31 => (if x3 = 0 then ((f_X8_countHere (gM_then (sM_then z22 z31))).bind fun z54 => (k11 (sM_then z22 z31) (x4 + z54) (x5 + 1))) else ((f_X8_knownTogether (gM_then (sM_then z22 z31))).bind fun z44 => (k11 (sM_then z22 z31) (x4 + z44) (x5 + 1))))))))
def f_X3_byLot_11 (x1 : Int32) (x3 : Int32)  : Nat → MS → Int32 → Int32 → Option (Int32 × (MS)) := lq3 (b_X3_byLot_11 x1 x3 )
def f_X3_byLot (u : MS) (x1 : Int32) (x2 : Int32) (x3 : Int32) : Option (Int32 × (MS)) :=
  (f_X3_byLot_11 x1 x3  smN (sM_z u x2) (0 : Int32) (0 : Int32))
/-! SoManyForgotten$Row.isFull -/
def f_X6_isFull (u : RS) : Option Int32 :=
  (if (gR_size u) < (16 : Int32) then (some (0 : Int32)) else (some (1 : Int32)))
/-! SoManyForgotten$Row.add -/
def f_X6_add (u : RS) (x1 : Int32) : Option (Int32 × (RS)) :=
  (ck (gR_size u) 16 ((some ((gR_size (sR_num u (upd (gR_num u) (Int32.toNatClampNeg (gR_size u)) x1))) + (1 : Int32))).bind fun v17 => (some ((gR_size (sR_size (sR_num u (upd (gR_num u) (Int32.toNatClampNeg (gR_size u)) x1)) v17)), (sR_size (sR_num u (upd (gR_num u) (Int32.toNatClampNeg (gR_size u)) x1)) v17)))))
/-! SoManyForgotten$Row.empty -/
def f_X6_empty (u : RS) : Option (Int32 × (RS)) :=
  (some ((gR_size u), (sR_size u (0 : Int32))))
/-! SoManyForgotten$Telling.isFull -/
def f_X7_isFull (u : TS) : Option Int32 :=
  (if (gT_size u) < (96 : Int32) then (some (0 : Int32)) else (some (1 : Int32)))
/-! SoManyForgotten$Telling.add -/
def f_X7_add (u : TS) (x1 : Int32) : Option (Int32 × (TS)) :=
  (ck (gT_size u) 96 ((some ((gT_size (sT_let u (upd (gT_let u) (Int32.toNatClampNeg (gT_size u)) x1))) + (1 : Int32))).bind fun v17 => (some ((gT_size (sT_size (sT_let u (upd (gT_let u) (Int32.toNatClampNeg (gT_size u)) x1)) v17)), (sT_size (sT_let u (upd (gT_let u) (Int32.toNatClampNeg (gT_size u)) x1)) v17)))))
/-! SoManyForgotten$Telling.forgetLetters -/
def f_X7_forgetLetters (u : TS) : Option (TS) :=
  (some (sT_size u (0 : Int32)))
/-! SoManyForgotten$Telling.isStart -/
def f_X7_isStart (u : TS) (x1 : Int32) : Option Int32 :=
  (if x1 = 0 then (some (1 : Int32)) else (ck (x1 - (1 : Int32)) 96 (if ((gT_let u) (Int32.toNatClampNeg (x1 - (1 : Int32)))) = (59 : Int32) then (some (1 : Int32)) else (some (0 : Int32)))))
/-! SoManyForgotten$Telling.digit -/
def f_X7_digit (u : TS) (x1 : Int32) : Option Int32 :=
  (if (gT_size u) ≤ x1 then (some (0 : Int32)) else (ck x1 96 (some (((gT_let u) (Int32.toNatClampNeg x1)) - (48 : Int32)))))
/-! SoManyForgotten$Valley.comes -/
def b_X8_comes_36   (k36 : VS → Int32 → Int32 → Option (VS)) (u : VS) (x3 : Int32) (x4 : Int32) : Option (VS) :=
  (if x3 ≤ x4 then (some (sV_people u ((gV_people u) + (1 : Int32)))) else ((f_X8_setMemory u x3 x4 (50 : Int32)).bind fun z48 => ((f_X8_setMemory z48 x4 x3 (50 : Int32)).bind fun z57 => (k36 z57 x3 (x4 + 1)))))
def f_X8_comes_36   : Nat → VS → Int32 → Int32 → Option (VS) := lq3 (b_X8_comes_36  )
def f_X8_comes (u : VS) (x1 : Int32) (x2 : Int32) : Option (VS) :=
  (ck (gV_people u) 8 (ck (gV_people u) 8 ((some (sV_fig (sV_kind u (upd (gV_kind u) (Int32.toNatClampNeg (gV_people u)) x1)) (upd (gV_fig (sV_kind u (upd (gV_kind u) (Int32.toNatClampNeg (gV_people u)) x1))) (Int32.toNatClampNeg (gV_people u)) x2))).bind fun u18 => (ck (gV_people u) 8 (ck (gV_people u) 8 ((some (sV_here (sV_owed u18 (upd (gV_owed u18) (Int32.toNatClampNeg (gV_people u)) (0 : Int32))) (upd (gV_here (sV_owed u18 (upd (gV_owed u18) (Int32.toNatClampNeg (gV_people u)) (0 : Int32)))) (Int32.toNatClampNeg (gV_people u)) (vp_nar .boolean (1 : Int32))))).bind fun u32 => (f_X8_comes_36   smN u32 (gV_people u) (0 : Int32))))))))
/-! SoManyForgotten$Telling.number -/
def f_X7_number (u : TS) (x1 : Int32) : Option Int32 :=
  ((f_X7_digit u x1).bind fun z4 => ((f_X7_digit u (x1 + (1 : Int32))).bind fun z12 => (some (((10 : Int32) * z4) + z12))))
/-! SoManyForgotten$Valley.areTwo -/
def f_X8_areTwo (u : VS) (x1 : Int32) (x2 : Int32) : Option Int32 :=
  ((f_X8_has u x1).bind fun z2 => (if z2 = 0 then (some (0 : Int32)) else ((f_X8_has u x2).bind fun z10 => (if z10 = 0 then (some (0 : Int32)) else (if x1 = x2 then (some (0 : Int32)) else (some (1 : Int32)))))))
/-! SoManyForgotten$Telling.carryOutRecalls -/
def f_X7_carryOutRecalls (u : VS) (x1 : Int32) (x2 : Int32) (x3 : Int32) : Option (Int32 × (VS)) :=
  ((f_X8_areTwo u x1 x2).bind fun z3 => (if z3 = 0 then (some ((0 : Int32), u)) else ((f_X8_setMemory u x1 x2 x3).bind fun z15 => (some ((1 : Int32), z15)))))
/-! SoManyForgotten$Telling.carryOutOwes -/
def f_X7_carryOutOwes (u : VS) (x1 : Int32) (x2 : Int32) : Option (Int32 × (VS)) :=
  ((f_X8_has u x1).bind fun z2 => (if z2 = 0 then (some ((0 : Int32), u)) else (ck x1 8 (some ((1 : Int32), (sV_owed u (upd (gV_owed u) (Int32.toNatClampNeg x1) x2)))))))
/-! SoManyForgotten$Telling.carryOutSpeaks -/
def f_X7_carryOutSpeaks (u : VS) (x1 : Int32) (x2 : Int32) : Option (Int32 × (VS)) :=
  ((f_X8_areTwoHere u x1 x2).bind fun z3 => (if z3 = 0 then (some ((0 : Int32), u)) else ((f_X8_talk u x1 x2).bind fun z14 => (some ((1 : Int32), z14)))))
/-! SoManyForgotten$Telling.carryOutBack -/
def f_X7_carryOutBack (u : VS) (x1 : Int32) : Option (Int32 × (VS)) :=
  ((f_X8_has u x1).bind fun z2 => (if z2 = 0 then (some ((0 : Int32), u)) else (ck x1 8 (if ((gV_here u) (Int32.toNatClampNeg x1)) = 0 then ((f_X8_comeBack u x1).bind fun z21 => (some ((1 : Int32), z21))) else (some ((0 : Int32), u))))))
/-! SoManyForgotten$Telling.carryOutNames -/
def f_X7_carryOutNames (u : VS) (x1 : Int32) : Option (Int32 × (VS)) :=
  (if x1 ≤ (3 : Int32) then (some ((1 : Int32), (sV_names u x1))) else (some ((0 : Int32), u)))
/-! SoManyForgotten$Telling.carryOutWeeks -/
def b_X7_carryOutWeeks_27 (x1 : Int32)  (k27 : VS → Int32 → Option (Int32 × (VS))) (u : VS) (x2 : Int32) : Option (Int32 × (VS)) :=
  (if x1 ≤ x2 then (some ((1 : Int32), u)) else ((f_X8_passWeek u).bind fun z33 => (k27 z33 (x2 + 1))))
def f_X7_carryOutWeeks_27 (x1 : Int32)  : Nat → VS → Int32 → Option (Int32 × (VS)) := lq2 (b_X7_carryOutWeeks_27 x1 )
def f_X7_carryOutWeeks (u : VS) (x1 : Int32) : Option (Int32 × (VS)) :=
  (if x1 < (1 : Int32) then (some ((0 : Int32), u)) else (if (60 : Int32) < x1 then (some ((0 : Int32), u)) else (if ((gV_week u) + x1) ≤ (999 : Int32) then (f_X7_carryOutWeeks_27 x1  smN u (0 : Int32)) else (some ((0 : Int32), u)))))
/-! SoManyForgotten$Valley.mayBeNamed -/
def f_X8_mayBeNamed_20 (u : VS)  (y0 : Int32) : Option Int32 :=
  (zr y0 (some y0))
def f_X8_mayBeNamed (u : VS) (x1 : Int32) : Option Int32 :=
  (ck x1 8 (ck ((gV_kind u) (Int32.toNatClampNeg x1)) 6 (ck x1 8 ((f_K_isNamed ((gV_kind u) (Int32.toNatClampNeg x1)) ((gV_fig u) (Int32.toNatClampNeg x1))).bind fun z17 => (f_X8_mayBeNamed_20 u  z17)))))
/-! SoManyForgotten$Valley.bestKnown -/
def b_X8_bestKnown_7 (u : VS)  (k7 : Int32 → Int32 → Int32 → Option Int32) (x1 : Int32) (x2 : Int32) (x3 : Int32) : Option Int32 :=
  (if (gV_people u) ≤ x3 then (some x1) else (ck x3 8 (if ((gV_here u) (Int32.toNatClampNeg x3)) = 0 then (k7 x1 x2 (x3 + 1)) else ((f_X8_knownOf u x3).bind fun z26 => (if z26 ≤ x2 then (k7 x1 x2 (x3 + 1)) else ((f_X8_knownOf u x3).bind fun z37 => (k7 x3 z37 (x3 + 1))))))))
def f_X8_bestKnown_7 (u : VS)  : Nat → Int32 → Int32 → Int32 → Option Int32 := lq3 (b_X8_bestKnown_7 u )
def f_X8_bestKnown (u : VS) : Option Int32 :=
  (f_X8_bestKnown_7 u  smN ((-9) : Int32) ((-1) : Int32) (0 : Int32))
/-! SoManyForgotten$Valley.forgottenBits -/
def f_X8_forgottenBits (u : VS) : Option Int32 :=
  ((f_X8_hereBits u).bind fun z9 => (some ((((1 : Int32) <<< ((gV_people u) &&& 31)) - (1 : Int32)) &&& (z9 ^^^ ((-1) : Int32)))))
/-! SoManyForgotten$Valley.owedTogether -/
def b_X8_owedTogether_4 (u : VS)  (k4 : Int32 → Int32 → Option Int32) (x1 : Int32) (x2 : Int32) : Option Int32 :=
  (if (gV_people u) ≤ x2 then (some x1) else (ck x2 8 (k4 (x1 + ((gV_owed u) (Int32.toNatClampNeg x2))) (x2 + 1))))
def f_X8_owedTogether_4 (u : VS)  : Nat → Int32 → Int32 → Option Int32 := lq2 (b_X8_owedTogether_4 u )
def f_X8_owedTogether (u : VS) : Option Int32 :=
  (f_X8_owedTogether_4 u  smN (0 : Int32) (0 : Int32))
/-! SoManyForgotten$Valley.areCold -/
def f_X8_areCold (u : VS) (x1 : Int32) (x2 : Int32) : Option Int32 :=
  ((f_X8_areTwoHere u x1 x2).bind fun z3 => (if z3 = 0 then (some (0 : Int32)) else ((f_X8_memoryOf u x1 x2).bind fun z12 => (if z12 = 0 then ((f_X8_memoryOf u x2 x1).bind fun z21 => (if z21 = 0 then (some (1 : Int32)) else (some (0 : Int32)))) else (some (0 : Int32))))))
/-! SoManyForgotten$Valley.countCold -/
def b_X8_countCold_16 (u : VS) (k4 : Int32 → Int32 → Option Int32) (k16 : Int32 → Int32 → Int32 → Option Int32) (x1 : Int32) (x2 : Int32) (x3 : Int32) : Option Int32 :=
  (if (gV_people u) ≤ x3 then (k4 x1 (x2 + 1)) else ((f_X8_areCold u x2 x3).bind fun z28 => (if z28 = 0 then (k16 (x1 + (0 : Int32)) x2 (x3 + 1)) else (k16 (x1 + (1 : Int32)) x2 (x3 + 1)))))
def f_X8_countCold_16 (u : VS) (k4 : Int32 → Int32 → Option Int32) : Nat → Int32 → Int32 → Int32 → Option Int32 := lq3 (b_X8_countCold_16 u k4)
def b_X8_countCold_4 (u : VS)  (k4 : Int32 → Int32 → Option Int32) (x1 : Int32) (x2 : Int32) : Option Int32 :=
  (if (gV_people u) ≤ x2 then (some x1) else (f_X8_countCold_16 u k4 smN x1 x2 (x2 + (1 : Int32))))
def f_X8_countCold_4 (u : VS)  : Nat → Int32 → Int32 → Option Int32 := lq2 (b_X8_countCold_4 u )
def f_X8_countCold (u : VS) : Option Int32 :=
  (f_X8_countCold_4 u  smN (0 : Int32) (0 : Int32))
/-! SoManyForgotten$Valley.firstCold -/
def b_X8_firstCold_14 (u : VS) (k2 : Int32 → Option Int32) (k14 : Int32 → Int32 → Option Int32) (x1 : Int32) (x2 : Int32) : Option Int32 :=
  (if (gV_people u) ≤ x2 then (k2 (x1 + 1)) else ((f_X8_areCold u x1 x2).bind fun z25 => (if z25 = 0 then (k14 x1 (x2 + 1)) else (some (((10 : Int32) * x1) + x2)))))
def f_X8_firstCold_14 (u : VS) (k2 : Int32 → Option Int32) : Nat → Int32 → Int32 → Option Int32 := lq2 (b_X8_firstCold_14 u k2)
def b_X8_firstCold_2 (u : VS)  (k2 : Int32 → Option Int32) (x1 : Int32) : Option Int32 :=
  (if (gV_people u) ≤ x1 then (some ((-9) : Int32)) else (f_X8_firstCold_14 u k2 smN x1 (x1 + (1 : Int32))))
def f_X8_firstCold_2 (u : VS)  : Nat → Int32 → Option Int32 := lq1 (b_X8_firstCold_2 u )
def f_X8_firstCold (u : VS) : Option Int32 :=
  (f_X8_firstCold_2 u  smN (0 : Int32))
/-! SoManyForgotten$Valley.leastRemembered -/
def b_X8_leastRemembered_5 (u : VS) (x1 : Int32)  (k5 : Int32 → Int32 → Option Int32) (x2 : Int32) (x3 : Int32) : Option Int32 :=
  (if (gV_people u) ≤ x3 then (some x2) else ((f_X8_areTwoHere u x1 x3).bind fun z16 => (if z16 = 0 then (k5 x2 (x3 + 1)) else (if x2 = ((-9) : Int32) then (k5 x3 (x3 + 1)) else ((f_X8_memoryOf u x1 x3).bind fun z31 => ((f_X8_memoryOf u x1 x2).bind fun z37 => (if z37 ≤ z31 then (k5 x2 (x3 + 1)) else (k5 x3 (x3 + 1)))))))))
def f_X8_leastRemembered_5 (u : VS) (x1 : Int32)  : Nat → Int32 → Int32 → Option Int32 := lq2 (b_X8_leastRemembered_5 u x1 )
def f_X8_leastRemembered (u : VS) (x1 : Int32) : Option Int32 :=
  (f_X8_leastRemembered_5 u x1  smN ((-9) : Int32) (0 : Int32))
/-! SoManyForgotten$Valley.memoryOverTheHill -/
def b_X8_memoryOverTheHill_14 (u : VS) (k4 : Int32 → Int32 → Option Int32) (k14 : Int32 → Int32 → Int32 → Option Int32) (x1 : Int32) (x2 : Int32) (x3 : Int32) : Option Int32 :=
  (if (gV_people u) ≤ x3 then (k4 x1 (x2 + 1)) else (if x2 = x3 then (k14 (x1 + (0 : Int32)) x2 (x3 + 1)) else (ck x2 8 (if ((gV_here u) (Int32.toNatClampNeg x2)) = 0 then (ck x3 8 (if ((gV_here u) (Int32.toNatClampNeg x3)) = 0 then ((f_X8_memoryOf u x2 x3).bind fun z49 => (k14 (x1 + z49) x2 (x3 + 1))) else (k14 (x1 + (0 : Int32)) x2 (x3 + 1)))) else (k14 (x1 + (0 : Int32)) x2 (x3 + 1))))))
def f_X8_memoryOverTheHill_14 (u : VS) (k4 : Int32 → Int32 → Option Int32) : Nat → Int32 → Int32 → Int32 → Option Int32 := lq3 (b_X8_memoryOverTheHill_14 u k4)
def b_X8_memoryOverTheHill_4 (u : VS)  (k4 : Int32 → Int32 → Option Int32) (x1 : Int32) (x2 : Int32) : Option Int32 :=
  (if (gV_people u) ≤ x2 then (some x1) else (f_X8_memoryOverTheHill_14 u k4 smN x1 x2 (0 : Int32)))
def f_X8_memoryOverTheHill_4 (u : VS)  : Nat → Int32 → Int32 → Option Int32 := lq2 (b_X8_memoryOverTheHill_4 u )
def f_X8_memoryOverTheHill (u : VS) : Option Int32 :=
  (f_X8_memoryOverTheHill_4 u  smN (0 : Int32) (0 : Int32))
/-! SoManyForgotten.outside -/
def f_X10_outside (x0 : Int32) (x1 : Int32) (x2 : Int32) : Option Int32 :=
  (if x1 ≤ x0 then (if x0 ≤ x2 then (some (0 : Int32)) else (some ((-6) : Int32))) else (some ((-4) : Int32)))
/-! SoManyForgotten.firstThatFits -/
def f_X10_firstThatFits (x0 : Int32) (x1 : Int32) : Option Int32 :=
  (if x0 = 0 then (some x1) else (some x0))
/-! SoManyForgotten.counted -/
def f_X10_counted (u : XS) (x1 : Int32) : Option (Int32 × (XS)) :=
  (if ((-1) : Int32) < x1 then (some (x1, u)) else (if x1 < ((-6) : Int32) then (some (x1, u)) else (ck (-x1) 7 (ck (-x1) 7 ((some (sX_ref u (upd (gX_ref u) (Int32.toNatClampNeg (-x1)) (((gX_ref u) (Int32.toNatClampNeg (-x1))) + (1 : Int32))))).bind fun u21 => (some (x1, u21)))))))
/-! SoManyForgotten.refused -/
def f_X10_refused_ (u : XS) (x1 : Int32) (x2 : Int32) : Option (Int32 × (XS)) :=
  ((f_X10_firstThatFits x1 x2).bind fun z3 => ((f_X10_counted u z3).bind fun z6 => (some (z6.1, z6.2))))
/-! SoManyForgotten.letter -/
def f_X10_letter_25 (x1 : Int32)  (u : XS) (y0 : Int32) (y1 : Int32) : Option (Int32 × (XS)) :=
  ((f_X10_refused_ u y1 y0).bind fun z25 => (if z25.1 = 0 then ((f_X7_add (gX_tell z25.2) x1).bind fun z42 => (some (z42.1, (sX_tell z25.2 z42.2)))) else (some (z25.1, z25.2))))
def f_X10_letter (u : XS) (x1 : Int32) : Option (Int32 × (XS)) :=
  ((f_X10_outside x1 (0 : Int32) (255 : Int32)).bind fun z6 => ((f_X7_isFull (gX_tell u)).bind fun z13 => (if z13 = 0 then (f_X10_letter_25 x1  u (0 : Int32) z6) else (f_X10_letter_25 x1  u ((-6) : Int32) z6))))
/-! SoManyForgotten.nobody -/
def f_X10_nobody (u : XS) (x1 : Int32) : Option Int32 :=
  ((f_X8_has (gM_now (gX_mind u)) x1).bind fun z5 => (if z5 = 0 then (some ((-1) : Int32)) else (some (0 : Int32))))
/-! SoManyForgotten.wrongWhat -/
def f_X10_wrongWhat (x0 : Int32) (x1 : Int32) : Option Int32 :=
  (if x0 < 0 then (some ((-2) : Int32)) else (if x0 ≤ x1 then (some (0 : Int32)) else (some ((-2) : Int32))))
/-! SoManyForgotten.person -/
def f_X10_person (u : XS) (x1 : Int32) (x2 : Int32) : Option (Int32 × (XS)) :=
  ((f_X10_nobody u x1).bind fun z3 => ((f_X10_wrongWhat x2 (5 : Int32)).bind fun z8 => ((f_X10_refused_ u z3 z8).bind fun z11 => (if z11.1 = 0 then (if x2 = 0 then (ck x1 8 (some (((gV_kind (gM_now (gX_mind z11.2))) (Int32.toNatClampNeg x1)), z11.2))) else (if x2 = 1 then (ck x1 8 (some (((gV_fig (gM_now (gX_mind z11.2))) (Int32.toNatClampNeg x1)), z11.2))) else (if x2 = 2 then (ck x1 8 (if ((gV_here (gM_now (gX_mind z11.2))) (Int32.toNatClampNeg x1)) = 0 then (some ((0 : Int32), z11.2)) else (some ((1 : Int32), z11.2)))) else (if x2 = 3 then (ck x1 8 (some (((gV_owed (gM_now (gX_mind z11.2))) (Int32.toNatClampNeg x1)), z11.2))) else (if x2 = 4 then ((f_X8_knownOf (gM_now (gX_mind z11.2)) x1).bind fun z109 => (some (z109, z11.2))) else ((f_X8_mayBeNamed (gM_now (gX_mind z11.2)) x1).bind fun z118 => (if z118 = 0 then (some ((0 : Int32), z11.2)) else (some ((1 : Int32), z11.2))))))))) else (some (z11.1, z11.2))))))
/-! SoManyForgotten.notTwo -/
def f_X10_notTwo (u : XS) (x1 : Int32) (x2 : Int32) : Option Int32 :=
  ((f_X8_areTwo (gM_now (gX_mind u)) x1 x2).bind fun z6 => (if z6 = 0 then (some ((-1) : Int32)) else (some (0 : Int32))))
/-! SoManyForgotten.refused -/
def f_X10_refused (u : XS) (x1 : Int32) : Option (Int32 × (XS)) :=
  ((f_X10_counted u x1).bind fun z2 => (some (z2.1, z2.2)))
/-! SoManyForgotten.memory -/
def f_X10_memory (u : XS) (x1 : Int32) (x2 : Int32) : Option (Int32 × (XS)) :=
  ((f_X10_notTwo u x1 x2).bind fun z4 => ((f_X10_refused u z4).bind fun z7 => (if z7.1 = 0 then ((f_X8_memoryOf (gM_now (gX_mind z7.2)) x1 x2).bind fun z25 => (some (z25, z7.2))) else (some (z7.1, z7.2)))))
/-! SoManyForgotten.recalls -/
def f_X10_recalls (u : XS) (x1 : Int32) (x2 : Int32) (x3 : Int32) : Option (Int32 × (XS)) :=
  ((f_X10_notTwo u x1 x2).bind fun z4 => ((f_X10_outside x3 (0 : Int32) (99 : Int32)).bind fun z11 => ((f_X10_refused_ u z4 z11).bind fun z14 => (if z14.1 = 0 then ((f_X8_memoryOf (gM_now (gX_mind z14.2)) x1 x2).bind fun z33 => ((f_X8_setMemory (gM_now (gX_mind z14.2)) x1 x2 x3).bind fun z45 => (some (z33, (sX_mind z14.2 (sM_now (gX_mind z14.2) z45)))))) else (some (z14.1, z14.2))))))
/-! SoManyForgotten.forgotten -/
def f_X10_forgotten (u : XS) (x1 : Int32) : Option Int32 :=
  ((f_X8_has (gM_now (gX_mind u)) x1).bind fun z5 => (if z5 = 0 then (some (0 : Int32)) else (ck x1 8 (if ((gV_here (gM_now (gX_mind u))) (Int32.toNatClampNeg x1)) = 0 then (some ((-3) : Int32)) else (some (0 : Int32))))))
/-! SoManyForgotten.refused -/
def f_X10_refused__ (u : XS) (x1 : Int32) (x2 : Int32) (x3 : Int32) : Option (Int32 × (XS)) :=
  ((f_X10_firstThatFits x1 x2).bind fun z3 => ((f_X10_firstThatFits z3 x3).bind fun z7 => ((f_X10_counted u z7).bind fun z10 => (some (z10.1, z10.2)))))
/-! SoManyForgotten.speaks -/
def f_X10_speaks (u : XS) (x1 : Int32) (x2 : Int32) : Option (Int32 × (XS)) :=
  ((f_X10_notTwo u x1 x2).bind fun z4 => ((f_X10_forgotten u x1).bind fun z9 => ((f_X10_forgotten u x2).bind fun z14 => ((f_X10_refused__ u z4 z9 z14).bind fun z17 => (if z17.1 = 0 then ((f_X8_talk (gM_now (gX_mind z17.2)) x1 x2).bind fun z33 => ((f_X8_memoryOf (gM_now (gX_mind (sX_mind z17.2 (sM_now (gX_mind z17.2) z33)))) x1 x2).bind fun z42 => ((f_X8_memoryOf (gM_now (gX_mind (sX_mind z17.2 (sM_now (gX_mind z17.2) z33)))) x2 x1).bind fun z51 => (some ((z42 + z51), (sX_mind z17.2 (sM_now (gX_mind z17.2) z33))))))) else (some (z17.1, z17.2)))))))
/-! SoManyForgotten.owes -/
def f_X10_owes (u : XS) (x1 : Int32) (x2 : Int32) : Option (Int32 × (XS)) :=
  ((f_X10_nobody u x1).bind fun z3 => ((f_X10_outside x2 (0 : Int32) (99 : Int32)).bind fun z10 => ((f_X10_refused_ u z3 z10).bind fun z13 => (if z13.1 = 0 then (ck x1 8 (ck x1 8 ((some (sX_mind z13.2 (sM_now (gX_mind z13.2) (sV_owed (gM_now (gX_mind z13.2)) (upd (gV_owed (gM_now (gX_mind z13.2))) (Int32.toNatClampNeg x1) x2))))).bind fun u43 => (some (((gV_owed (gM_now (gX_mind z13.2))) (Int32.toNatClampNeg x1)), u43))))) else (some (z13.1, z13.2))))))
/-! SoManyForgotten.back -/
def f_X10_back_23 (x1 : Int32)  (u : XS) (y0 : Int32) (y1 : Int32) : Option (Int32 × (XS)) :=
  ((f_X10_refused_ u y1 y0).bind fun z23 => (if z23.1 = 0 then ((f_X8_comeBack (gM_now (gX_mind z23.2)) x1).bind fun z38 => ((f_X8_countHere (gM_now (gX_mind (sX_mind z23.2 (sM_now (gX_mind z23.2) z38))))).bind fun z45 => (some (z45, (sX_mind z23.2 (sM_now (gX_mind z23.2) z38)))))) else (some (z23.1, z23.2))))
def f_X10_back (u : XS) (x1 : Int32) : Option (Int32 × (XS)) :=
  ((f_X10_nobody u x1).bind fun z3 => ((f_X8_isHere (gM_now (gX_mind u)) x1).bind fun z11 => (if z11 = 0 then (f_X10_back_23 x1  u (0 : Int32) z3) else (f_X10_back_23 x1  u ((-3) : Int32) z3))))
/-! SoManyForgotten.names -/
def f_X10_names (u : XS) (x1 : Int32) : Option (Int32 × (XS)) :=
  ((f_X10_outside x1 (0 : Int32) (3 : Int32)).bind fun z4 => ((f_X10_refused u z4).bind fun z7 => (if z7.1 = 0 then (some ((gV_names (gM_now (gX_mind z7.2))), (sX_mind z7.2 (sM_now (gX_mind z7.2) (sV_names (gM_now (gX_mind z7.2)) x1))))) else (some (z7.1, z7.2)))))
/-! SoManyForgotten.turn -/
def f_X10_turn (u : XS) (x1 : Int32) (x2 : Int32) (x3 : Int32) : Option (Int32 × (XS)) :=
  ((f_X10_nobody u x1).bind fun z3 => ((f_X10_wrongWhat x2 (5 : Int32)).bind fun z8 => ((f_X10_outside x3 (0 : Int32) (9 : Int32)).bind fun z15 => ((f_X10_refused__ u z3 z8 z15).bind fun z18 => (if z18.1 = 0 then (ck x1 8 (ck x1 8 ((some (((10 : Int32) * ((gV_kind (gM_now (gX_mind z18.2))) (Int32.toNatClampNeg x1))) + ((gV_fig (gM_now (gX_mind z18.2))) (Int32.toNatClampNeg x1)))).bind fun v53 => (ck x1 8 ((some (sX_mind z18.2 (sM_now (gX_mind z18.2) (sV_kind (gM_now (gX_mind z18.2)) (upd (gV_kind (gM_now (gX_mind z18.2))) (Int32.toNatClampNeg x1) x2))))).bind fun u64 => (ck x1 8 ((some (sX_mind u64 (sM_now (gX_mind u64) (sV_fig (gM_now (gX_mind u64)) (upd (gV_fig (gM_now (gX_mind u64))) (Int32.toNatClampNeg x1) x3))))).bind fun u74 => (some (v53, u74))))))))) else (some (z18.1, z18.2)))))))
/-! SoManyForgotten.weeks -/
def f_X10_weeks (u : XS) (x1 : Int32) : Option (Int32 × (XS)) :=
  ((f_X10_outside x1 (1 : Int32) (if ((999 : Int32) - (gV_week (gM_now (gX_mind u)))) < (60 : Int32) then ((999 : Int32) - (gV_week (gM_now (gX_mind u)))) else (60 : Int32))).bind fun z19 => ((f_X10_refused u z19).bind fun z22 => (if z22.1 = 0 then ((f_X8_passWeeks (gM_now (gX_mind z22.2)) x1).bind fun z37 => ((f_X8_countHere (gM_now (gX_mind (sX_mind z22.2 (sM_now (gX_mind z22.2) z37))))).bind fun z44 => (some (z44, (sX_mind z22.2 (sM_now (gX_mind z22.2) z37)))))) else (some (z22.1, z22.2)))))
/-! SoManyForgotten.memoryThen -/
def f_X10_memoryThen (u : XS) (x1 : Int32) (x2 : Int32) (x3 : Int32) : Option (Int32 × (XS)) :=
  ((f_X10_notTwo u x1 x2).bind fun z4 => ((f_X10_outside x3 (0 : Int32) (99 : Int32)).bind fun z11 => ((f_X10_refused_ u z4 z11).bind fun z14 => (if z14.1 = 0 then ((f_X3_after (gX_mind z14.2) x3).bind fun z34 => ((f_X8_memoryOf (gM_then (gX_mind (sX_mind z14.2 z34))) x1 x2).bind fun z39 => (some (z39, (sX_mind z14.2 z34))))) else (some (z14.1, z14.2))))))
/-! SoManyForgotten.knownThen -/
def f_X10_knownThen (u : XS) (x1 : Int32) (x2 : Int32) : Option (Int32 × (XS)) :=
  ((f_X10_nobody u x1).bind fun z3 => ((f_X10_outside x2 (0 : Int32) (99 : Int32)).bind fun z10 => ((f_X10_refused_ u z3 z10).bind fun z13 => (if z13.1 = 0 then ((f_X3_after (gX_mind z13.2) x2).bind fun z30 => ((f_X8_knownOf (gM_then (gX_mind (sX_mind z13.2 z30))) x1).bind fun z34 => (some (z34, (sX_mind z13.2 z30))))) else (some (z13.1, z13.2))))))
/-! SoManyForgotten.gone -/
def f_X10_gone (u : XS) (x1 : Int32) : Option (Int32 × (XS)) :=
  ((f_X10_outside x1 (0 : Int32) (99 : Int32)).bind fun z5 => ((f_X10_refused u z5).bind fun z8 => (if z8.1 = 0 then ((f_X3_after (gX_mind z8.2) x1).bind fun z25 => ((f_X8_forgottenBits (gM_then (gX_mind (sX_mind z8.2 z25)))).bind fun z28 => (some (z28, (sX_mind z8.2 z25))))) else (some (z8.1, z8.2)))))
/-! SoManyForgotten.noneIfNever -/
def f_X10_noneIfNever (x0 : Int32) : Option Int32 :=
  (if x0 = (100 : Int32) then (some ((-9) : Int32)) else (some x0))
/-! SoManyForgotten.goes -/
def f_X10_goes (u : XS) (x1 : Int32) : Option (Int32 × (XS)) :=
  ((f_X10_nobody u x1).bind fun z3 => ((f_X10_refused u z3).bind fun z6 => (if z6.1 = 0 then ((f_X3_untilForgotten (gX_mind z6.2) x1).bind fun z23 => ((f_X10_noneIfNever z23.1).bind fun z26 => (some (z26, (sX_mind z6.2 z23.2))))) else (some (z6.1, z6.2)))))
/-! SoManyForgotten.next -/
def f_X10_next (u : XS) (x1 : Int32) : Option (Int32 × (XS)) :=
  ((f_X10_wrongWhat x1 (3 : Int32)).bind fun z3 => ((f_X10_refused u z3).bind fun z6 => (if z6.1 = 0 then (if x1 = 0 then ((f_X3_firstForgotten (gX_mind z6.2)).bind fun z48 => (some (z48.1, (sX_mind z6.2 z48.2)))) else (if x1 = 1 then ((f_X3_untilFirstForgotten (gX_mind z6.2)).bind fun z56 => ((f_X10_noneIfNever z56.1).bind fun z59 => (some (z59, (sX_mind z6.2 z56.2))))) else (if x1 = 2 then ((f_X3_untilEmpty (gX_mind z6.2)).bind fun z67 => ((f_X10_noneIfNever z67.1).bind fun z70 => (some (z70, (sX_mind z6.2 z67.2))))) else (some (((10 : Int32) - ((gV_week (gM_now (gX_mind z6.2))) - (gV_week (gM_now (gX_mind z6.2))) / (10 : Int32) * (10 : Int32))), z6.2))))) else (some (z6.1, z6.2)))))
/-! SoManyForgotten.least -/
def f_X10_least (u : XS) (x1 : Int32) : Option (Int32 × (XS)) :=
  ((f_X10_wrongWhat x1 (1 : Int32)).bind fun z3 => ((f_X10_refused u z3).bind fun z6 => (if z6.1 = 0 then (if x1 = 0 then ((f_X8_leastKnown (gM_now (gX_mind z6.2))).bind fun z24 => (some (z24, z6.2))) else ((f_X8_bestKnown (gM_now (gX_mind z6.2))).bind fun z34 => (some (z34, z6.2)))) else (some (z6.1, z6.2)))))
/-! SoManyForgotten.speak -/
def f_X10_speak (u : XS) (x1 : Int32) : Option (Int32 × (XS)) :=
  ((f_X10_nobody u x1).bind fun z3 => ((f_X10_forgotten u x1).bind fun z8 => ((f_X10_refused_ u z3 z8).bind fun z11 => (if z11.1 = 0 then ((f_X3_bestToSpeakTo (gX_mind z11.2) x1).bind fun z28 => (some (z28.1, (sX_mind z11.2 z28.2)))) else (some (z11.1, z11.2))))))
/-! SoManyForgotten.fewest -/
def f_X10_fewest (u : XS) (x1 : Int32) (x2 : Int32) : Option (Int32 × (XS)) :=
  ((f_X10_nobody u x1).bind fun z3 => ((f_X10_outside x2 (0 : Int32) (60 : Int32)).bind fun z10 => ((f_X10_forgotten u x1).bind fun z15 => ((f_X10_refused__ u z3 z10 z15).bind fun z18 => (if z18.1 = 0 then ((f_X3_fewestTimes (gX_mind z18.2) x1 x2).bind fun z36 => (some (z36.1, (sX_mind z18.2 z36.2)))) else (some (z18.1, z18.2)))))))
/-! SoManyForgotten.save -/
def f_X10_save (u : XS) (x1 : Int32) : Option (Int32 × (XS)) :=
  ((f_X10_outside x1 (0 : Int32) (60 : Int32)).bind fun z5 => ((f_X10_refused u z5).bind fun z8 => (if z8.1 = 0 then ((f_X3_bestAsDog (gX_mind z8.2) x1).bind fun z25 => (some (z25.1, (sX_mind z8.2 z25.2)))) else (some (z8.1, z8.2)))))
/-! SoManyForgotten.bring -/
def f_X10_bring (u : XS) (x1 : Int32) : Option (Int32 × (XS)) :=
  ((f_X10_wrongWhat x1 (1 : Int32)).bind fun z3 => ((f_X10_refused u z3).bind fun z6 => (if z6.1 = 0 then ((f_X3_bestToBring (gX_mind z6.2)).bind fun z20 => (if x1 = 0 then (some (z20.1, (sX_mind z6.2 z20.2))) else (if z20.1 = ((-9) : Int32) then (some (z20.1, (sX_mind z6.2 z20.2))) else ((f_X3_weeksIfBack (gX_mind (sX_mind z6.2 z20.2)) z20.1).bind fun z43 => (some (z43.1, (sX_mind (sX_mind z6.2 z20.2) z43.2))))))) else (some (z6.1, z6.2)))))
/-! SoManyForgotten.league -/
def f_X10_league (u : XS) (x1 : Int32) : Option (Int32 × (XS)) :=
  ((f_X10_nobody u x1).bind fun z3 => ((f_X10_forgotten u x1).bind fun z8 => ((f_X10_refused_ u z3 z8).bind fun z11 => (if z11.1 = 0 then ((f_X8_leagueOf (gM_now (gX_mind z11.2)) x1).bind fun z28 => (some (z28, z11.2))) else (some (z11.1, z11.2))))))
/-! SoManyForgotten.largest -/
def f_X10_largest (u : XS) (x1 : Int32) : Option (Int32 × (XS)) :=
  ((f_X10_wrongWhat x1 (1 : Int32)).bind fun z3 => ((f_X10_refused u z3).bind fun z6 => (if z6.1 = 0 then ((f_X3_largestLeague (gX_mind z6.2)).bind fun z20 => (if x1 = 0 then (some (z20.1, (sX_mind z6.2 z20.2))) else ((f_J6_bitCount_0f7a4 z20.1).bind fun z33 => (some (z33, (sX_mind z6.2 z20.2)))))) else (some (z6.1, z6.2)))))
/-! SoManyForgotten.cold -/
def f_X10_cold (u : XS) (x1 : Int32) : Option (Int32 × (XS)) :=
  ((f_X10_wrongWhat x1 (1 : Int32)).bind fun z3 => ((f_X10_refused u z3).bind fun z6 => (if z6.1 = 0 then (if x1 = 0 then ((f_X8_countCold (gM_now (gX_mind z6.2))).bind fun z24 => (some (z24, z6.2))) else ((f_X8_firstCold (gM_now (gX_mind z6.2))).bind fun z34 => (some (z34, z6.2)))) else (some (z6.1, z6.2)))))
/-! SoManyForgotten.envy -/
def f_X10_envy (u : XS) (x1 : Int32) : Option (Int32 × (XS)) :=
  ((f_X10_nobody u x1).bind fun z3 => ((f_X10_forgotten u x1).bind fun z8 => ((f_X10_refused_ u z3 z8).bind fun z11 => (if z11.1 = 0 then ((f_X8_leastRemembered (gM_now (gX_mind z11.2)) x1).bind fun z28 => (some (z28, z11.2))) else (some (z11.1, z11.2))))))
/-! SoManyForgotten.power -/
def f_X10_power (u : XS) (x1 : Int32) (x2 : Int32) : Option (Int32 × (XS)) :=
  ((f_X10_nobody u x1).bind fun z3 => ((f_X10_outside x2 (1 : Int32) (60 : Int32)).bind fun z10 => ((f_X10_forgotten u x1).bind fun z15 => ((f_X10_refused__ u z3 z10 z15).bind fun z18 => (if z18.1 = 0 then ((f_X3_powerOf (gX_mind z18.2) x1 x2).bind fun z36 => (some (z36.1, (sX_mind z18.2 z36.2)))) else (some (z18.1, z18.2)))))))
/-! SoManyForgotten.voids -/
def f_X10_voids (u : XS) (x1 : Int32) : Option (Int32 × (XS)) :=
  ((f_X10_outside x1 (1 : Int32) (99 : Int32)).bind fun z5 => ((f_X10_refused u z5).bind fun z8 => (if z8.1 = 0 then ((f_X3_debtsVoid (gX_mind z8.2) x1).bind fun z25 => (some (z25.1, (sX_mind z8.2 z25.2)))) else (some (z8.1, z8.2)))))
/-! SoManyForgotten.hill -/
def f_X10_hill (u : XS) : Option Int32 :=
  ((f_X8_memoryOverTheHill (gM_now (gX_mind u))).bind fun z4 => (some z4))
/-! SoManyForgotten.refused -/
def f_X10_refused___ (u : XS) (x1 : Int32) (x2 : Int32) (x3 : Int32) (x4 : Int32) : Option (Int32 × (XS)) :=
  ((f_X10_firstThatFits x1 x2).bind fun z3 => ((f_X10_firstThatFits x3 x4).bind fun z9 => ((f_X10_firstThatFits z3 z9).bind fun z12 => ((f_X10_counted u z12).bind fun z15 => (some (z15.1, z15.2))))))
/-! SoManyForgotten.two -/
def f_X10_two (u : XS) (x1 : Int32) (x2 : Int32) (x3 : Int32) : Option (Int32 × (XS)) :=
  ((f_X10_notTwo u x1 x2).bind fun z4 => ((f_X10_outside x3 (0 : Int32) (30 : Int32)).bind fun z11 => ((f_X10_forgotten u x1).bind fun z16 => ((f_X10_forgotten u x2).bind fun z21 => ((f_X10_refused___ u z4 z11 z16 z21).bind fun z24 => (if z24.1 = 0 then ((f_X3_settled (gX_mind z24.2) x1 x2 x3).bind fun z46 => (some (z46.1, (sX_mind z24.2 z46.2)))) else (some (z24.1, z24.2))))))))
/-! SoManyForgotten.greatestDivisor -/
def b_X10_greatestDivisor_9   (k9 : Int64 → Int64 → Int32 → Option Int64) (x4 : Int64) (x6 : Int64) (x8 : Int32) : Option Int64 :=
  (if (100 : Int32) ≤ x8 then (some x4) else (if (lg_cmp x6 (0 : Int64)) = 0 then (some x4) else (dzl x6 (k9 x6 (x4 - x4 / x6 * x6) (x8 + 1)))))
def f_X10_greatestDivisor_9   : Nat → Int64 → Int64 → Int32 → Option Int64 := lq3 (b_X10_greatestDivisor_9  )
def f_X10_greatestDivisor (x0 : Int64) (x2 : Int64) : Option Int64 :=
  (f_X10_greatestDivisor_9   smN x0 x2 (0 : Int32))
/-! SoManyForgotten.partOf -/
def f_X10_partOf (x0 : Int64) (x2 : Int64) (x4 : Int32) : Option Int64 :=
  ((f_X10_greatestDivisor x0 x2).bind fun z2 => (if 0 ≤ (lg_cmp z2 (1 : Int64)) then (if x4 = 0 then (dzl z2 (some (x0 / z2))) else (dzl z2 (some (x2 / z2)))) else (some (Int32.toInt64 x4))))
/-! SoManyForgotten.mean -/
def f_X10_mean (u : XS) (x1 : Int32) : Option (Int64 × (XS)) :=
  ((f_X10_wrongWhat x1 (1 : Int32)).bind fun z3 => ((f_X10_refused u z3).bind fun z6 => (if z6.1 = 0 then ((f_X8_knownTogether (gM_now (gX_mind z6.2))).bind fun z25 => ((f_X8_countHere (gM_now (gX_mind z6.2))).bind fun z34 => ((f_X10_partOf (Int32.toInt64 z25) (Int32.toInt64 (if (1 : Int32) < z34 then z34 else (1 : Int32))) x1).bind fun z42 => (some (z42, z6.2))))) else (some (((4000000000000000000 : Int64) - (Int32.toInt64 z6.1)), z6.2)))))
/-! SoManyForgotten.whatIs -/
def f_X10_whatIs (u : XS) (x1 : Int32) (x2 : Int32) (x3 : Int32) : Option (Int32 × (XS)) :=
  ((f_X10_notTwo u x1 x2).bind fun z4 => ((f_X10_wrongWhat x3 (1 : Int32)).bind fun z9 => ((f_X10_refused_ u z4 z9).bind fun z12 => (if z12.1 = 0 then (if x3 = 0 then ((f_X3_kindsThatFit (gX_mind z12.2) x1 x2).bind fun z39 => (some (z39.1, (sX_mind z12.2 z39.2)))) else ((f_X3_figuresThatFit (gX_mind z12.2) x1 x2).bind fun z55 => (some (z55.1, (sX_mind z12.2 z55.2))))) else (some (z12.1, z12.2))))))
/-! SoManyForgotten.row -/
def f_X10_row_24 (x1 : Int32)  (u : XS) (y0 : Int32) (y1 : Int32) : Option (Int32 × (XS)) :=
  ((f_X10_refused_ u y1 y0).bind fun z24 => (if z24.1 = 0 then ((f_X6_add (gM_row (gX_mind z24.2)) x1).bind fun z41 => (some (z41.1, (sX_mind z24.2 (sM_row (gX_mind z24.2) z41.2))))) else (some (z24.1, z24.2))))
def f_X10_row (u : XS) (x1 : Int32) : Option (Int32 × (XS)) :=
  ((f_X10_outside x1 (0 : Int32) (99 : Int32)).bind fun z5 => ((f_X6_isFull (gM_row (gX_mind u))).bind fun z12 => (if z12 = 0 then (f_X10_row_24 x1  u (0 : Int32) z5) else (f_X10_row_24 x1  u ((-6) : Int32) z5))))
/-! SoManyForgotten.judge -/
def f_X10_judge (u : XS) : Option (Int32 × (XS)) :=
  ((f_X3_firstNotSo (gX_mind u)).bind fun z8 => ((f_X6_empty (gM_row (gX_mind (sX_mind u z8.2)))).bind fun z16 => (some (z8.1, (sX_mind (sX_mind u z8.2) (sM_row (gX_mind (sX_mind u z8.2)) z16.2))))))
/-! SoManyForgotten.clear -/
def f_X10_clear (u : XS) : Option (Int32 × (XS)) :=
  ((f_X6_empty (gM_row (gX_mind u))).bind fun z4 => (some (z4.1, (sX_mind u (sM_row (gX_mind u) z4.2)))))
/-! SoManyForgotten.lots -/
def f_X10_lots_44   (u : XS) (y0 : Int32) (y1 : Int32) (y2 : Int32) : Option (Int32 × (XS)) :=
  ((f_X3_byLot (gX_mind u) y2 y1 y0).bind fun z44 => (some (z44.1, (sX_mind u z44.2))))
def f_X10_lots (u : XS) (x1 : Int32) (x2 : Int32) (x3 : Int32) : Option (Int32 × (XS)) :=
  ((f_X10_outside x1 (1 : Int32) (20 : Int32)).bind fun z5 => ((f_X10_wrongWhat x3 (1 : Int32)).bind fun z10 => ((f_X10_refused_ u z5 z10).bind fun z13 => (if z13.1 = 0 then (if x3 = (1 : Int32) then (f_X10_lots_44   z13.2 (1 : Int32) x2 x1) else (f_X10_lots_44   z13.2 (0 : Int32) x2 x1)) else (some (z13.1, z13.2))))))
/-! SoManyForgotten.image -/
def f_X10_image (u : XS) : Option (Int32 × (XS)) :=
  ((f_X8_copy ((gX_kept u), (gM_now (gX_mind u)))).bind fun z8 => (some ((gV_week (gM_now (gX_mind (sX_img (sX_mind (sX_kept u z8.1) (sM_now (gX_mind (sX_kept u z8.1)) z8.2)) (1 : Int32))))), (sX_img (sX_mind (sX_kept u z8.1) (sM_now (gX_mind (sX_kept u z8.1)) z8.2)) (1 : Int32)))))
/-! SoManyForgotten.on -/
def f_X10_on_14   (u : XS) (y0 : Int32) : Option (Int32 × (XS)) :=
  ((f_X10_refused u y0).bind fun z14 => (if z14.1 = 0 then ((f_X8_copy ((gM_now (gX_mind z14.2)), (gX_kept z14.2))).bind fun z32 => (some ((gV_week (gM_now (gX_mind (sX_kept (sX_mind z14.2 (sM_now (gX_mind z14.2) z32.1)) z32.2)))), (sX_kept (sX_mind z14.2 (sM_now (gX_mind z14.2) z32.1)) z32.2)))) else (some (z14.1, z14.2))))
def f_X10_on (u : XS) : Option (Int32 × (XS)) :=
  (if (gX_img u) = 0 then (f_X10_on_14   u ((-3) : Int32)) else (f_X10_on_14   u (0 : Int32)))
/-! SoManyForgotten.count -/
def f_X10_count_22 (u : XS) (x1 : Int32)   : Option Int32 :=
  (if x1 = 0 then (some (gV_people (gM_now (gX_mind u)))) else (if x1 = 1 then (some (gV_week (gM_now (gX_mind u)))) else (if x1 = 2 then ((f_X8_hereBits (gM_now (gX_mind u))).bind fun z88 => (some z88)) else (if x1 = 3 then (some (gV_names (gM_now (gX_mind u)))) else (if x1 = 4 then ((f_X8_knownTogether (gM_now (gX_mind u))).bind fun z104 => (some z104)) else (if x1 = 5 then ((f_X8_owedTogether (gM_now (gX_mind u))).bind fun z112 => (some z112)) else (if x1 = 6 then (some (gR_size (gM_row (gX_mind u)))) else (if x1 = 7 then (some (gT_size (gX_tell u))) else (some ((-9) : Int32))))))))))
def f_X10_count (u : XS) (x1 : Int32) : Option Int32 :=
  (if x1 < (11 : Int32) then (f_X10_count_22 u x1  ) else (if (16 : Int32) < x1 then (f_X10_count_22 u x1  ) else (ck (x1 - (10 : Int32)) 7 (some ((gX_ref u) (Int32.toNatClampNeg (x1 - (10 : Int32))))))))
/-! SoManyForgottenModel.isIn -/
def f_X11_isIn (x0 : Int32) (x1 : Int32) (x2 : Int32) : Option Int32 :=
  (if x0 < x1 then (some (0 : Int32)) else (if x2 < x0 then (some (0 : Int32)) else (some (1 : Int32))))
/-! SoManyForgottenModel.held -/
def f_X11_held (x0 : Int32) : Option Int32 :=
  (if 0 ≤ x0 then (if x0 ≤ (99 : Int32) then (some x0) else (some (99 : Int32))) else (some (0 : Int32)))
/-! SoManyForgottenModel.copies -/
def b_X11_copies_2   (k2 : ((Nat → Int32) × (Nat → Int32)) → Int32 → Option ((Nat → Int32) × (Nat → Int32))) (u : (Nat → Int32) × (Nat → Int32)) (x2 : Int32) : Option ((Nat → Int32) × (Nat → Int32)) :=
  (if (99 : Int32) ≤ x2 then (some u) else (ck x2 99 (ck x2 99 (k2 (u.1, (upd u.2 (Int32.toNatClampNeg x2) (u.1 (Int32.toNatClampNeg x2)))) (x2 + 1)))))
def f_X11_copies_2   : Nat → ((Nat → Int32) × (Nat → Int32)) → Int32 → Option ((Nat → Int32) × (Nat → Int32)) := lq2 (b_X11_copies_2  )
def f_X11_copies (u : (Nat → Int32) × (Nat → Int32)) : Option ((Nat → Int32) × (Nat → Int32)) :=
  (f_X11_copies_2   smN u (0 : Int32))
/-! SoManyForgottenModel.no -/
def f_X11_no (u : DS) (x1 : Int32) : Option (Int32 × (DS)) :=
  (ck (-x1) 7 (ck (-x1) 7 ((some (sD_ref u (upd (gD_ref u) (Int32.toNatClampNeg (-x1)) (((gD_ref u) (Int32.toNatClampNeg (-x1))) + (1 : Int32))))).bind fun u10 => (some (x1, u10)))))
/-! SoManyForgottenModel.noWide -/
def f_X11_noWide (u : DS) (x1 : Int32) : Option (Int64 × (DS)) :=
  ((f_X11_no u x1).bind fun z5 => (some (((4000000000000000000 : Int64) - (Int32.toInt64 z5.1)), z5.2)))
/-! SoManyForgottenModel.of -/
def f_X11_of (x0 : Int32) (x1 : Int32) : Option Int32 :=
  (some (((3 : Int32) + ((4 : Int32) * x0)) + x1))
/-! SoManyForgottenModel.by -/
def f_X11_by (x0 : Int32) (x1 : Int32) : Option Int32 :=
  (some (((35 : Int32) + ((8 : Int32) * x0)) + x1))
/-! SoManyForgottenModel.isOne -/
def f_X11_isOne (u : DS) (x1 : Int32) : Option Int32 :=
  (ck (0 : Int32) 99 ((f_X11_isIn x1 (0 : Int32) (((gD_s u) (Int32.toNatClampNeg (0 : Int32))) - (1 : Int32))).bind fun z10 => (zr z10 (some z10))))
/-! SoManyForgottenModel.areTwo -/
def f_X11_areTwo (u : DS) (x1 : Int32) (x2 : Int32) : Option Int32 :=
  ((f_X11_isOne u x1).bind fun z2 => (if z2 = 0 then (some (0 : Int32)) else ((f_X11_isOne u x2).bind fun z10 => (if z10 = 0 then (some (0 : Int32)) else (if x1 = x2 then (some (0 : Int32)) else (some (1 : Int32)))))))
/-! SoManyForgottenModel.isHere -/
def f_X11_isHere (u : Nat → Int32) (x1 : Int32) : Option Int32 :=
  ((f_X11_of x1 (2 : Int32)).bind fun z3 => (ck z3 99 (if (u (Int32.toNatClampNeg z3)) = (1 : Int32) then (some (1 : Int32)) else (some (0 : Int32)))))
/-! SoManyForgottenModel.has -/
def f_X11_has (x0 : Int32) (x1 : Int32) : Option Int32 :=
  (if ((x0 >>> (x1 &&& 31)) &&& (1 : Int32)) = (1 : Int32) then (some (1 : Int32)) else (some (0 : Int32)))
/-! SoManyForgottenModel.bits -/
def b_X11_bits_4 (x0 : Int32)  (k4 : Int32 → Int32 → Option Int32) (x1 : Int32) (x2 : Int32) : Option Int32 :=
  (if (8 : Int32) ≤ x2 then (some x1) else (k4 (x1 + ((x0 >>> (x2 &&& 31)) &&& (1 : Int32))) (x2 + 1)))
def f_X11_bits_4 (x0 : Int32)  : Nat → Int32 → Int32 → Option Int32 := lq2 (b_X11_bits_4 x0 )
def f_X11_bits (x0 : Int32) : Option Int32 :=
  (f_X11_bits_4 x0  smN (0 : Int32) (0 : Int32))
/-! SoManyForgottenModel.changeBy -/
def f_X11_changeBy_46 (u : Nat → Int32) (x1 : Int32)  (x2 : Int32) (x3 : Int32) (x4 : Int32) (y0 : Int32) : Option Int32 :=
  ((f_X11_of x1 (0 : Int32)).bind fun z51 => (ck z51 99 (if (u (Int32.toNatClampNeg z51)) = 1 then (some x4) else (if (u (Int32.toNatClampNeg z51)) = 2 then (some y0) else (if (u (Int32.toNatClampNeg z51)) = 3 then (some (x4 + x2)) else (if (u (Int32.toNatClampNeg z51)) = 4 then (some (0 : Int32)) else (if (u (Int32.toNatClampNeg z51)) = 5 then (if (x3 - x3 / (2 : Int32) * (2 : Int32)) = (1 : Int32) then (some (y0 + (2 : Int32))) else (some y0)) else (some ((-1) : Int32)))))))))
def f_X11_changeBy (u : Nat → Int32) (x1 : Int32) : Option Int32 :=
  ((f_X11_of x1 (1 : Int32)).bind fun z3 => (ck z3 99 (ck (1 : Int32) 99 ((f_X11_of x1 (3 : Int32)).bind fun z15 => (ck z15 99 (if (8 : Int32) ≤ ((u (Int32.toNatClampNeg (1 : Int32))) - (u (Int32.toNatClampNeg (1 : Int32))) / (10 : Int32) * (10 : Int32)) then (f_X11_changeBy_46 u x1  (u (Int32.toNatClampNeg z3)) (u (Int32.toNatClampNeg (1 : Int32))) (-((u (Int32.toNatClampNeg z15)) / (10 : Int32))) (2 : Int32)) else (if ((u (Int32.toNatClampNeg (1 : Int32))) - (u (Int32.toNatClampNeg (1 : Int32))) / (10 : Int32) * (10 : Int32)) = 0 then (f_X11_changeBy_46 u x1  (u (Int32.toNatClampNeg z3)) (u (Int32.toNatClampNeg (1 : Int32))) (-((u (Int32.toNatClampNeg z15)) / (10 : Int32))) (2 : Int32)) else (f_X11_changeBy_46 u x1  (u (Int32.toNatClampNeg z3)) (u (Int32.toNatClampNeg (1 : Int32))) (-((u (Int32.toNatClampNeg z15)) / (10 : Int32))) ((-1) : Int32)))))))))
/-! SoManyForgottenModel.mayBeNamed -/
def f_X11_mayBeNamed (u : Nat → Int32) (x1 : Int32) : Option Int32 :=
  ((f_X11_of x1 (0 : Int32)).bind fun z3 => (ck z3 99 (if (u (Int32.toNatClampNeg z3)) = (4 : Int32) then (some (0 : Int32)) else (if (u (Int32.toNatClampNeg z3)) = (5 : Int32) then ((f_X11_of x1 (1 : Int32)).bind fun z21 => (ck z21 99 (if (5 : Int32) ≤ (u (Int32.toNatClampNeg z21)) then (some (0 : Int32)) else (some (1 : Int32))))) else (some (1 : Int32))))))
/-! SoManyForgottenModel.knownIn -/
def b_X11_knownIn_4 (u : Nat → Int32) (x1 : Int32)  (k4 : Int32 → Int32 → Option Int32) (x2 : Int32) (x3 : Int32) : Option Int32 :=
  (ck (0 : Int32) 99 (if (u (Int32.toNatClampNeg (0 : Int32))) ≤ x3 then (some x2) else (if x3 = x1 then (k4 (x2 + (0 : Int32)) (x3 + 1)) else ((f_X11_isHere u x3).bind fun z19 => (if z19 = 0 then (k4 (x2 + (0 : Int32)) (x3 + 1)) else ((f_X11_by x3 x1).bind fun z28 => (ck z28 99 (k4 (x2 + (u (Int32.toNatClampNeg z28))) (x3 + 1)))))))))
def f_X11_knownIn_4 (u : Nat → Int32) (x1 : Int32)  : Nat → Int32 → Int32 → Option Int32 := lq2 (b_X11_knownIn_4 u x1 )
def f_X11_knownIn (u : Nat → Int32) (x1 : Int32) : Option Int32 :=
  (f_X11_knownIn_4 u x1  smN (0 : Int32) (0 : Int32))
/-! SoManyForgottenModel.leastIn -/
def b_X11_leastIn_5 (u : Nat → Int32)  (k5 : Int32 → Int32 → Option Int32) (x1 : Int32) (x2 : Int32) : Option Int32 :=
  (ck (0 : Int32) 99 (if (u (Int32.toNatClampNeg (0 : Int32))) ≤ x2 then (some x1) else ((f_X11_isHere u x2).bind fun z14 => (if z14 = 0 then (k5 x1 (x2 + 1)) else ((f_X11_mayBeNamed u x2).bind fun z22 => (if z22 = 0 then (k5 x1 (x2 + 1)) else (if x1 < 0 then (k5 x2 (x2 + 1)) else ((f_X11_knownIn u x2).bind fun z34 => ((f_X11_knownIn u x1).bind fun z39 => (if z39 ≤ z34 then (k5 x1 (x2 + 1)) else (k5 x2 (x2 + 1))))))))))))
def f_X11_leastIn_5 (u : Nat → Int32)  : Nat → Int32 → Int32 → Option Int32 := lq2 (b_X11_leastIn_5 u )
def f_X11_leastIn (u : Nat → Int32) : Option Int32 :=
  (f_X11_leastIn_5 u  smN ((-9) : Int32) (0 : Int32))
/-! SoManyForgottenModel.forgets -/
def b_X11_forgets_18 (x1 : Int32)  (k18 : (Nat → Int32) → Int32 → Option (Nat → Int32)) (u : Nat → Int32) (x2 : Int32) : Option (Nat → Int32) :=
  (ck (0 : Int32) 99 (if (u (Int32.toNatClampNeg (0 : Int32))) ≤ x2 then (some u) else ((f_X11_isHere u x2).bind fun z27 => (if z27 = 0 then (k18 u (x2 + 1)) else ((f_X11_by x2 x1).bind fun z36 => (ck z36 99 (k18 (upd u (Int32.toNatClampNeg z36) (0 : Int32)) (x2 + 1))))))))
def f_X11_forgets_18 (x1 : Int32)  : Nat → (Nat → Int32) → Int32 → Option (Nat → Int32) := lq2 (b_X11_forgets_18 x1 )
def f_X11_forgets (u : Nat → Int32) (x1 : Int32) : Option (Nat → Int32) :=
  ((f_X11_of x1 (2 : Int32)).bind fun z3 => (ck z3 99 ((f_X11_of x1 (3 : Int32)).bind fun z11 => (ck z11 99 (f_X11_forgets_18 x1  smN (upd (upd u (Int32.toNatClampNeg z3) (0 : Int32)) (Int32.toNatClampNeg z11) (0 : Int32)) (0 : Int32))))))
/-! SoManyForgottenModel.week -/
def b_X11_week_24  (k9 : (Nat → Int32) → Int32 → Option (Nat → Int32)) (k24 : (Nat → Int32) → Int32 → Int32 → Int32 → Option (Nat → Int32)) (u : Nat → Int32) (x1 : Int32) (x2 : Int32) (x3 : Int32) : Option (Nat → Int32) :=
  (ck (0 : Int32) 99 (if (u (Int32.toNatClampNeg (0 : Int32))) ≤ x3 then (k9 u (x1 + 1)) else (if x3 = x1 then (k24 u x1 x2 (x3 + 1)) else ((f_X11_isHere u x1).bind fun z38 => (if z38 = 0 then (k24 u x1 x2 (x3 + 1)) else ((f_X11_isHere u x3).bind fun z46 => (if z46 = 0 then (k24 u x1 x2 (x3 + 1)) else ((f_X11_by x3 x1).bind fun z55 => ((f_X11_by x3 x1).bind fun z61 => (ck z61 99 ((f_X11_held ((u (Int32.toNatClampNeg z61)) + x2)).bind fun z67 => (ck z55 99 (k24 (upd u (Int32.toNatClampNeg z55) z67) x1 x2 (x3 + 1))))))))))))))
def f_X11_week_24  (k9 : (Nat → Int32) → Int32 → Option (Nat → Int32)) : Nat → (Nat → Int32) → Int32 → Int32 → Int32 → Option (Nat → Int32) := lq4 (b_X11_week_24  k9)
def b_X11_week_85   (k85 : (Nat → Int32) → Int32 → Option (Nat → Int32)) (u : Nat → Int32) (x1 : Int32) : Option (Nat → Int32) :=
  (ck (2 : Int32) 99 (if (u (Int32.toNatClampNeg (2 : Int32))) ≤ x1 then (some u) else (ck (1 : Int32) 99 (if ((u (Int32.toNatClampNeg (1 : Int32))) - (u (Int32.toNatClampNeg (1 : Int32))) / (10 : Int32) * (10 : Int32)) = 0 then ((f_X11_leastIn u).bind fun z102 => (if z102 < 0 then (k85 u (x1 + 1)) else ((f_X11_forgets u z102).bind fun z112 => (k85 z112 (x1 + 1))))) else (some u)))))
def f_X11_week_85   : Nat → (Nat → Int32) → Int32 → Option (Nat → Int32) := lq2 (b_X11_week_85  )
def b_X11_week_9   (k9 : (Nat → Int32) → Int32 → Option (Nat → Int32)) (u : Nat → Int32) (x1 : Int32) : Option (Nat → Int32) :=
  (ck (0 : Int32) 99 (if (u (Int32.toNatClampNeg (0 : Int32))) ≤ x1 then (f_X11_week_85   smN u (0 : Int32)) else ((f_X11_changeBy u x1).bind fun z18 => (f_X11_week_24  k9 smN u x1 z18 (0 : Int32)))))
def f_X11_week_9   : Nat → (Nat → Int32) → Int32 → Option (Nat → Int32) := lq2 (b_X11_week_9  )
def f_X11_week (u : Nat → Int32) : Option (Nat → Int32) :=
  (ck (1 : Int32) 99 (ck (1 : Int32) 99 (f_X11_week_9   smN (upd u (Int32.toNatClampNeg (1 : Int32)) ((u (Int32.toNatClampNeg (1 : Int32))) + (1 : Int32))) (0 : Int32))))
/-! SoManyForgottenModel.weeksOn -/
def b_X11_weeksOn_2 (x1 : Int32)  (k2 : (Nat → Int32) → Int32 → Option (Nat → Int32)) (u : Nat → Int32) (x2 : Int32) : Option (Nat → Int32) :=
  (if x1 ≤ x2 then (some u) else ((f_X11_week u).bind fun z8 => (k2 z8 (x2 + 1))))
def f_X11_weeksOn_2 (x1 : Int32)  : Nat → (Nat → Int32) → Int32 → Option (Nat → Int32) := lq2 (b_X11_weeksOn_2 x1 )
def f_X11_weeksOn (u : Nat → Int32) (x1 : Int32) : Option (Nat → Int32) :=
  (f_X11_weeksOn_2 x1  smN u (0 : Int32))
/-! SoManyForgottenModel.hereIn -/
def b_X11_hereIn_4 (u : Nat → Int32)  (k4 : Int32 → Int32 → Option Int32) (x1 : Int32) (x2 : Int32) : Option Int32 :=
  (ck (0 : Int32) 99 (if (u (Int32.toNatClampNeg (0 : Int32))) ≤ x2 then (some x1) else ((f_X11_of x2 (2 : Int32)).bind fun z15 => (ck z15 99 (k4 (x1 ||| ((u (Int32.toNatClampNeg z15)) <<< (x2 &&& 31))) (x2 + 1))))))
def f_X11_hereIn_4 (u : Nat → Int32)  : Nat → Int32 → Int32 → Option Int32 := lq2 (b_X11_hereIn_4 u )
def f_X11_hereIn (u : Nat → Int32) : Option Int32 :=
  (f_X11_hereIn_4 u  smN (0 : Int32) (0 : Int32))
/-! SoManyForgottenModel.speaksIn -/
def f_X11_speaksIn (u : Nat → Int32) (x1 : Int32) (x2 : Int32) : Option (Nat → Int32) :=
  ((f_X11_by x1 x2).bind fun z3 => ((f_X11_by x1 x2).bind fun z9 => (ck z9 99 ((f_X11_held ((u (Int32.toNatClampNeg z9)) + (10 : Int32))).bind fun z16 => (ck z3 99 ((f_X11_by x2 x1).bind fun z23 => ((f_X11_by x2 x1).bind fun z29 => (ck z29 99 ((f_X11_held (((upd u (Int32.toNatClampNeg z3) z16) (Int32.toNatClampNeg z29)) + (10 : Int32))).bind fun z36 => (ck z23 99 (some (upd (upd u (Int32.toNatClampNeg z3) z16) (Int32.toNatClampNeg z23) z36))))))))))))
/-! SoManyForgottenModel.comesBack -/
def b_X11_comesBack_2 (x1 : Int32)  (k2 : (Nat → Int32) → Int32 → Option (Nat → Int32)) (u : Nat → Int32) (x2 : Int32) : Option (Nat → Int32) :=
  (ck (0 : Int32) 99 (if (u (Int32.toNatClampNeg (0 : Int32))) ≤ x2 then ((f_X11_of x1 (2 : Int32)).bind fun z35 => (ck z35 99 (some (upd u (Int32.toNatClampNeg z35) (1 : Int32))))) else ((f_X11_isHere u x2).bind fun z11 => (if z11 = 0 then (k2 u (x2 + 1)) else ((f_X11_by x2 x1).bind fun z20 => (ck z20 99 (k2 (upd u (Int32.toNatClampNeg z20) (20 : Int32)) (x2 + 1))))))))
def f_X11_comesBack_2 (x1 : Int32)  : Nat → (Nat → Int32) → Int32 → Option (Nat → Int32) := lq2 (b_X11_comesBack_2 x1 )
def f_X11_comesBack (u : Nat → Int32) (x1 : Int32) : Option (Nat → Int32) :=
  (f_X11_comesBack_2 x1  smN u (0 : Int32))
/-! SoManyForgottenModel.letter -/
def f_X11_letter_27   (u : DS) : Option (Int32 × (DS)) :=
  ((f_X11_no u ((-6) : Int32)).bind fun z30 => (some (z30.1, z30.2)))
def f_X11_letter (u : DS) (x1 : Int32) : Option (Int32 × (DS)) :=
  (if 0 ≤ x1 then (if (255 : Int32) < x1 then (f_X11_letter_27   u) else (if (gD_letN u) = (96 : Int32) then (f_X11_letter_27   u) else (ck (gD_letN u) 96 ((some ((gD_letN (sD_let u (upd (gD_let u) (Int32.toNatClampNeg (gD_letN u)) x1))) + (1 : Int32))).bind fun v51 => (some ((gD_letN (sD_letN (sD_let u (upd (gD_let u) (Int32.toNatClampNeg (gD_letN u)) x1)) v51)), (sD_letN (sD_let u (upd (gD_let u) (Int32.toNatClampNeg (gD_letN u)) x1)) v51))))))) else ((f_X11_no u ((-4) : Int32)).bind fun z7 => (some (z7.1, z7.2))))
/-! SoManyForgottenModel.here -/
def f_X11_here (u : DS) : Option Int32 :=
  (if (gD_letN u) ≤ (gD_place u) then (some ((-1) : Int32)) else (ck (gD_place u) 96 (some ((gD_let u) (Int32.toNatClampNeg (gD_place u))))))
/-! SoManyForgottenModel.readsNumber -/
def b_X11_readsNumber_9 (x1 : Int32) (x2 : Int32)  (k9 : DS → Int32 → Option (Int32 × (DS))) (u : DS) (x3 : Int32) : Option (Int32 × (DS)) :=
  (if x2 ≤ x3 then (some ((1 : Int32), u)) else ((f_X11_here u).bind fun z15 => ((f_X11_isIn z15 (48 : Int32) (57 : Int32)).bind fun z22 => (if z22 = 0 then (some ((0 : Int32), u)) else (ck x1 3 ((f_X11_here u).bind fun z45 => ((some ((((10 : Int32) * ((gD_num u) (Int32.toNatClampNeg x1))) + z45) - (48 : Int32))).bind fun v52 => (ck x1 3 ((some ((gD_place (sD_num u (upd (gD_num u) (Int32.toNatClampNeg x1) v52))) + (1 : Int32))).bind fun v60 => (k9 (sD_place (sD_num u (upd (gD_num u) (Int32.toNatClampNeg x1) v52)) v60) (x3 + 1)))))))))))
def f_X11_readsNumber_9 (x1 : Int32) (x2 : Int32)  : Nat → DS → Int32 → Option (Int32 × (DS)) := lq2 (b_X11_readsNumber_9 x1 x2 )
def f_X11_readsNumber (u : DS) (x1 : Int32) (x2 : Int32) : Option (Int32 × (DS)) :=
  (ck x1 3 (f_X11_readsNumber_9 x1 x2  smN (sD_num u (upd (gD_num u) (Int32.toNatClampNeg x1) (0 : Int32))) (0 : Int32)))
/-! SoManyForgottenModel.kindBy -/
def f_X11_kindBy (x0 : Int32) : Option Int32 :=
  (if x0 = 100 then (some (1 : Int32)) else (if x0 = 107 then (some (2 : Int32)) else (if x0 = 112 then (some (0 : Int32)) else (if x0 = 113 then (some (3 : Int32)) else (if x0 = 119 then (some (5 : Int32)) else (if x0 = 120 then (some (4 : Int32)) else (some ((-9) : Int32))))))))
/-! SoManyForgottenModel.readsKind -/
def f_X11_readsKind_32   (u : DS) (y0 : Int32) (y1 : Int32) : Option (Int32 × (DS)) :=
  (ck (0 : Int32) 3 (if ((gD_num (sD_place u (y1 + y0))) (Int32.toNatClampNeg (0 : Int32))) < 0 then (some ((0 : Int32), (sD_place u (y1 + y0)))) else (some ((1 : Int32), (sD_place u (y1 + y0))))))
def f_X11_readsKind (u : DS) : Option (Int32 × (DS)) :=
  ((f_X11_here u).bind fun z6 => ((f_X11_kindBy z6).bind fun z9 => (ck (0 : Int32) 3 (ck (0 : Int32) 3 (if 0 ≤ ((gD_num (sD_num u (upd (gD_num u) (Int32.toNatClampNeg (0 : Int32)) z9))) (Int32.toNatClampNeg (0 : Int32))) then (f_X11_readsKind_32   (sD_num u (upd (gD_num u) (Int32.toNatClampNeg (0 : Int32)) z9)) (1 : Int32) (gD_place (sD_num u (upd (gD_num u) (Int32.toNatClampNeg (0 : Int32)) z9)))) else (f_X11_readsKind_32   (sD_num u (upd (gD_num u) (Int32.toNatClampNeg (0 : Int32)) z9)) (0 : Int32) (gD_place (sD_num u (upd (gD_num u) (Int32.toNatClampNeg (0 : Int32)) z9)))))))))
/-! SoManyForgottenModel.readsStatement -/
def f_X11_readsStatement_267   (u : DS) (x2 : Int32) : Option (Int32 × (DS)) :=
  (if x2 = 0 then (some ((0 : Int32), u)) else ((f_X11_here u).bind fun z272 => (if z272 = (59 : Int32) then (some ((1 : Int32), (sD_place u ((gD_place u) + (1 : Int32))))) else (some ((0 : Int32), u)))))
def f_X11_readsStatement (u : DS) : Option (Int32 × (DS)) :=
  ((f_X11_here u).bind fun z1 => (if z1 = 98 then ((f_X11_readsNumber (sD_place u ((gD_place u) + (1 : Int32))) (0 : Int32) (1 : Int32)).bind fun z238 => (f_X11_readsStatement_267   z238.2 z238.1)) else (if z1 = 110 then ((f_X11_readsNumber (sD_place u ((gD_place u) + (1 : Int32))) (0 : Int32) (1 : Int32)).bind fun z238 => (f_X11_readsStatement_267   z238.2 z238.1)) else (if z1 = 111 then ((f_X11_readsNumber (sD_place u ((gD_place u) + (1 : Int32))) (0 : Int32) (1 : Int32)).bind fun z184 => (if z184.1 = 0 then (f_X11_readsStatement_267   z184.2 (0 : Int32)) else ((f_X11_readsNumber z184.2 (1 : Int32) (2 : Int32)).bind fun z193 => (if z193.1 = 0 then (f_X11_readsStatement_267   z193.2 (0 : Int32)) else (f_X11_readsStatement_267   z193.2 (1 : Int32)))))) else (if z1 = 112 then ((f_X11_readsKind (sD_place u ((gD_place u) + (1 : Int32)))).bind fun z121 => (if z121.1 = 0 then (f_X11_readsStatement_267   z121.2 (0 : Int32)) else ((f_X11_readsNumber z121.2 (1 : Int32) (1 : Int32)).bind fun z130 => (if z130.1 = 0 then (f_X11_readsStatement_267   z130.2 (0 : Int32)) else (f_X11_readsStatement_267   z130.2 (1 : Int32)))))) else (if z1 = 114 then ((f_X11_readsNumber (sD_place u ((gD_place u) + (1 : Int32))) (0 : Int32) (1 : Int32)).bind fun z148 => (if z148.1 = 0 then (f_X11_readsStatement_267   z148.2 (0 : Int32)) else ((f_X11_readsNumber z148.2 (1 : Int32) (1 : Int32)).bind fun z157 => (if z157.1 = 0 then (f_X11_readsStatement_267   z157.2 (0 : Int32)) else ((f_X11_readsNumber z157.2 (2 : Int32) (2 : Int32)).bind fun z166 => (if z166.1 = 0 then (f_X11_readsStatement_267   z166.2 (0 : Int32)) else (f_X11_readsStatement_267   z166.2 (1 : Int32)))))))) else (if z1 = 115 then ((f_X11_readsNumber (sD_place u ((gD_place u) + (1 : Int32))) (0 : Int32) (1 : Int32)).bind fun z211 => (if z211.1 = 0 then (f_X11_readsStatement_267   z211.2 (0 : Int32)) else ((f_X11_readsNumber z211.2 (1 : Int32) (1 : Int32)).bind fun z220 => (if z220.1 = 0 then (f_X11_readsStatement_267   z220.2 (0 : Int32)) else (f_X11_readsStatement_267   z220.2 (1 : Int32)))))) else (if z1 = 119 then ((f_X11_readsNumber (sD_place u ((gD_place u) + (1 : Int32))) (0 : Int32) (2 : Int32)).bind fun z248 => (f_X11_readsStatement_267   z248.2 z248.1)) else ((some ((gD_place (sD_place u ((gD_place u) + (1 : Int32)))) - (1 : Int32))).bind fun v262 => (some ((0 : Int32), (sD_place (sD_place u ((gD_place u) + (1 : Int32))) v262))))))))))))
/-! SoManyForgottenModel.adds -/
def b_X11_adds_67   (k67 : DS → Int32 → Int32 → Option (Int32 × (DS))) (u : DS) (x3 : Int32) (x4 : Int32) : Option (Int32 × (DS)) :=
  (if x3 ≤ x4 then (ck (0 : Int32) 99 (ck (0 : Int32) 99 ((some (sD_s u (upd (gD_s u) (Int32.toNatClampNeg (0 : Int32)) (((gD_s u) (Int32.toNatClampNeg (0 : Int32))) + (1 : Int32))))).bind fun u114 => (some ((1 : Int32), u114))))) else ((f_X11_by x4 x3).bind fun z80 => (ck z80 99 ((f_X11_by x3 x4).bind fun z93 => (ck z93 99 ((some (sD_s (sD_s u (upd (gD_s u) (Int32.toNatClampNeg z80) (50 : Int32))) (upd (gD_s (sD_s u (upd (gD_s u) (Int32.toNatClampNeg z80) (50 : Int32)))) (Int32.toNatClampNeg z93) (50 : Int32)))).bind fun u98 => (k67 u98 x3 (x4 + 1))))))))
def f_X11_adds_67   : Nat → DS → Int32 → Int32 → Option (Int32 × (DS)) := lq3 (b_X11_adds_67  )
def f_X11_adds (u : DS) (x1 : Int32) (x2 : Int32) : Option (Int32 × (DS)) :=
  (ck (0 : Int32) 99 (if ((gD_s u) (Int32.toNatClampNeg (0 : Int32))) = (8 : Int32) then (some ((0 : Int32), u)) else (ck (0 : Int32) 99 ((f_X11_of ((gD_s u) (Int32.toNatClampNeg (0 : Int32))) (0 : Int32)).bind fun z26 => (ck z26 99 ((f_X11_of ((gD_s u) (Int32.toNatClampNeg (0 : Int32))) (1 : Int32)).bind fun z37 => (ck z37 99 ((some (sD_s (sD_s u (upd (gD_s u) (Int32.toNatClampNeg z26) x1)) (upd (gD_s (sD_s u (upd (gD_s u) (Int32.toNatClampNeg z26) x1))) (Int32.toNatClampNeg z37) x2))).bind fun u41 => ((f_X11_of ((gD_s u) (Int32.toNatClampNeg (0 : Int32))) (2 : Int32)).bind fun z48 => (ck z48 99 ((f_X11_of ((gD_s u) (Int32.toNatClampNeg (0 : Int32))) (3 : Int32)).bind fun z59 => (ck z59 99 ((some (sD_s (sD_s u41 (upd (gD_s u41) (Int32.toNatClampNeg z48) (1 : Int32))) (upd (gD_s (sD_s u41 (upd (gD_s u41) (Int32.toNatClampNeg z48) (1 : Int32)))) (Int32.toNatClampNeg z59) (0 : Int32)))).bind fun u63 => (f_X11_adds_67   smN u63 ((gD_s u) (Int32.toNatClampNeg (0 : Int32))) (0 : Int32)))))))))))))))
/-! SoManyForgottenModel.isDone -/
def f_X11_isDone (u : DS) (x1 : Int32) : Option (Int32 × (DS)) :=
  (ck (0 : Int32) 3 (ck (1 : Int32) 3 (if x1 = 98 then ((f_X11_isOne u ((gD_num u) (Int32.toNatClampNeg (0 : Int32)))).bind fun z205 => (if z205 = 0 then (some ((0 : Int32), u)) else ((f_X11_isHere (gD_s u) ((gD_num u) (Int32.toNatClampNeg (0 : Int32)))).bind fun z216 => (if z216 = 0 then ((f_X11_comesBack (gD_s u) ((gD_num u) (Int32.toNatClampNeg (0 : Int32)))).bind fun z229 => (some ((1 : Int32), (sD_s u z229)))) else (some ((0 : Int32), u)))))) else (if x1 = 110 then (ck (2 : Int32) 99 (if (3 : Int32) < ((gD_num u) (Int32.toNatClampNeg (0 : Int32))) then (some ((0 : Int32), (sD_s u (upd (gD_s u) (Int32.toNatClampNeg (2 : Int32)) ((gD_num u) (Int32.toNatClampNeg (0 : Int32))))))) else (some ((1 : Int32), (sD_s u (upd (gD_s u) (Int32.toNatClampNeg (2 : Int32)) ((gD_num u) (Int32.toNatClampNeg (0 : Int32))))))))) else (if x1 = 111 then ((f_X11_isOne u ((gD_num u) (Int32.toNatClampNeg (0 : Int32)))).bind fun z138 => (if z138 = 0 then (some ((0 : Int32), u)) else ((f_X11_of ((gD_num u) (Int32.toNatClampNeg (0 : Int32))) (3 : Int32)).bind fun z152 => (ck z152 99 (some ((1 : Int32), (sD_s u (upd (gD_s u) (Int32.toNatClampNeg z152) ((gD_num u) (Int32.toNatClampNeg (1 : Int32))))))))))) else (if x1 = 112 then ((f_X11_adds u ((gD_num u) (Int32.toNatClampNeg (0 : Int32))) ((gD_num u) (Int32.toNatClampNeg (1 : Int32)))).bind fun z103 => (zr z103.1 (some (z103.1, z103.2)))) else (if x1 = 114 then ((f_X11_areTwo u ((gD_num u) (Int32.toNatClampNeg (0 : Int32))) ((gD_num u) (Int32.toNatClampNeg (1 : Int32)))).bind fun z110 => (if z110 = 0 then (some ((0 : Int32), u)) else ((f_X11_by ((gD_num u) (Int32.toNatClampNeg (0 : Int32))) ((gD_num u) (Int32.toNatClampNeg (1 : Int32)))).bind fun z124 => (ck (2 : Int32) 3 (ck z124 99 (some ((1 : Int32), (sD_s u (upd (gD_s u) (Int32.toNatClampNeg z124) ((gD_num u) (Int32.toNatClampNeg (2 : Int32)))))))))))) else (if x1 = 115 then ((f_X11_areTwo u ((gD_num u) (Int32.toNatClampNeg (0 : Int32))) ((gD_num u) (Int32.toNatClampNeg (1 : Int32)))).bind fun z162 => (if z162 = 0 then (some ((0 : Int32), u)) else ((f_X11_isHere (gD_s u) ((gD_num u) (Int32.toNatClampNeg (0 : Int32)))).bind fun z173 => (if z173 = 0 then (some ((0 : Int32), u)) else ((f_X11_isHere (gD_s u) ((gD_num u) (Int32.toNatClampNeg (1 : Int32)))).bind fun z184 => (if z184 = 0 then (some ((0 : Int32), u)) else ((f_X11_speaksIn (gD_s u) ((gD_num u) (Int32.toNatClampNeg (0 : Int32))) ((gD_num u) (Int32.toNatClampNeg (1 : Int32)))).bind fun z198 => (some ((1 : Int32), (sD_s u z198)))))))))) else ((f_X11_isIn ((gD_num u) (Int32.toNatClampNeg (0 : Int32))) (1 : Int32) (60 : Int32)).bind fun z256 => (if z256 = 0 then (some ((0 : Int32), u)) else (ck (1 : Int32) 99 (if (((gD_s u) (Int32.toNatClampNeg (1 : Int32))) + ((gD_num u) (Int32.toNatClampNeg (0 : Int32)))) ≤ (999 : Int32) then ((f_X11_weeksOn (gD_s u) ((gD_num u) (Int32.toNatClampNeg (0 : Int32)))).bind fun z283 => (some ((1 : Int32), (sD_s u z283)))) else (some ((0 : Int32), u))))))))))))))
/-! SoManyForgottenModel.valley -/
def f_X11_valley_128   (u : DS) (x1 : Int32) (x2 : Int32) : Option (Int32 × (DS)) :=
  (if x2 = ((-9) : Int32) then (some (x1, (sD_letN u (0 : Int32)))) else (some (x2, (sD_letN u (0 : Int32)))))
def b_X11_valley_62   (k62 : DS → Int32 → Int32 → Option (Int32 × (DS))) (u : DS) (x1 : Int32) (x2 : Int32) : Option (Int32 × (DS)) :=
  (if x2 = ((-9) : Int32) then (if (gD_letN u) ≤ (gD_place u) then (f_X11_valley_128   u x1 x2) else ((f_X11_here u).bind fun z85 => ((f_X11_readsStatement u).bind fun z91 => ((f_X11_isDone z91.2 z85).bind fun z99 => (if z99.1 = 0 then ((f_X11_copies (gD_was z99.2, gD_s z99.2)).bind fun z122 => (k62 (sD_s (sD_was z99.2 z122.1) z122.2) x1 (((-2000) : Int32) - (gD_place u)))) else (k62 z99.2 x1 x2)))))) else (f_X11_valley_128   u x1 x2))
def f_X11_valley_62   : Nat → DS → Int32 → Int32 → Option (Int32 × (DS)) := lq3 (b_X11_valley_62  )
def f_X11_valley_46   (u : DS) (x1 : Int32) (x2 : Int32) : Option (Int32 × (DS)) :=
  ((f_X11_copies (gD_s u, gD_was u)).bind fun z54 => (f_X11_valley_62   smN (sD_place (sD_was (sD_s u z54.1) z54.2) (0 : Int32)) x1 x2))
def f_X11_valley_26  (k10 : DS → Int32 → Int32 → Option (Int32 × (DS))) (u : DS) (x1 : Int32) (x2 : Int32) : Option (Int32 × (DS)) :=
  (if x2 = ((-9) : Int32) then (if (gD_place u) < (gD_letN u) then (k10 u (x1 + 1) x2) else (f_X11_valley_46   u (x1 + 1) x2)) else (f_X11_valley_46   u (x1 + 1) x2))
def b_X11_valley_10   (k10 : DS → Int32 → Int32 → Option (Int32 × (DS))) (u : DS) (x1 : Int32) (x2 : Int32) : Option (Int32 × (DS)) :=
  ((f_X11_readsStatement u).bind fun z11 => (if z11.1 = 0 then (f_X11_valley_26  k10 z11.2 x1 (((-1000) : Int32) - (gD_place z11.2))) else (f_X11_valley_26  k10 z11.2 x1 x2)))
def f_X11_valley_10   : Nat → DS → Int32 → Int32 → Option (Int32 × (DS)) := lq3 (b_X11_valley_10  )
def f_X11_valley (u : DS) : Option (Int32 × (DS)) :=
  (f_X11_valley_10   smN (sD_place u (0 : Int32)) (0 : Int32) ((-9) : Int32))
/-! SoManyForgottenModel.person -/
def f_X11_person (u : DS) (x1 : Int32) (x2 : Int32) : Option (Int32 × (DS)) :=
  ((f_X11_isOne u x1).bind fun z2 => (if z2 = 0 then ((f_X11_no u ((-1) : Int32)).bind fun z10 => (some (z10.1, z10.2))) else ((f_X11_isIn x2 (0 : Int32) (3 : Int32)).bind fun z17 => (if z17 = 0 then (if x2 = (4 : Int32) then ((f_X11_knownIn (gD_s u) x1).bind fun z44 => (some (z44, u))) else (if x2 = (5 : Int32) then ((f_X11_mayBeNamed (gD_s u) x1).bind fun z69 => (if z69 = 0 then (some ((0 : Int32), u)) else (some ((1 : Int32), u)))) else ((f_X11_no u ((-2) : Int32)).bind fun z58 => (some (z58.1, z58.2))))) else ((f_X11_of x1 x2).bind fun z29 => (ck z29 99 (some (((gD_s u) (Int32.toNatClampNeg z29)), u))))))))
/-! SoManyForgottenModel.memory -/
def f_X11_memory (u : DS) (x1 : Int32) (x2 : Int32) : Option (Int32 × (DS)) :=
  ((f_X11_areTwo u x1 x2).bind fun z3 => (if z3 = 0 then ((f_X11_no u ((-1) : Int32)).bind fun z24 => (some (z24.1, z24.2))) else ((f_X11_by x1 x2).bind fun z15 => (ck z15 99 (some (((gD_s u) (Int32.toNatClampNeg z15)), u))))))
/-! SoManyForgottenModel.wrongBy -/
def f_X11_wrongBy (x0 : Int32) (x1 : Int32) (x2 : Int32) : Option Int32 :=
  (if x1 ≤ x0 then (if x0 ≤ x2 then (some (0 : Int32)) else (some ((-6) : Int32))) else (some ((-4) : Int32)))
/-! SoManyForgottenModel.recalls -/
def f_X11_recalls_20 (x1 : Int32) (x2 : Int32) (x3 : Int32)  (u : DS) (y0 : Int32) : Option (Int32 × (DS)) :=
  (if y0 = 0 then ((f_X11_by x1 x2).bind fun z40 => (ck z40 99 ((f_X11_by x1 x2).bind fun z52 => (ck z52 99 (some (((gD_s u) (Int32.toNatClampNeg z40)), (sD_s u (upd (gD_s u) (Int32.toNatClampNeg z52) x3)))))))) else ((f_X11_no u y0).bind fun z30 => (some (z30.1, z30.2))))
def f_X11_recalls (u : DS) (x1 : Int32) (x2 : Int32) (x3 : Int32) : Option (Int32 × (DS)) :=
  ((f_X11_areTwo u x1 x2).bind fun z3 => (if z3 = 0 then (f_X11_recalls_20 x1 x2 x3  u ((-1) : Int32)) else ((f_X11_wrongBy x3 (0 : Int32) (99 : Int32)).bind fun z13 => (f_X11_recalls_20 x1 x2 x3  u z13))))
/-! SoManyForgottenModel.speaks -/
def f_X11_speaks_37   (u : DS) : Option (Int32 × (DS)) :=
  ((f_X11_no u ((-3) : Int32)).bind fun z40 => (some (z40.1, z40.2)))
def f_X11_speaks (u : DS) (x1 : Int32) (x2 : Int32) : Option (Int32 × (DS)) :=
  ((f_X11_areTwo u x1 x2).bind fun z3 => (if z3 = 0 then ((f_X11_no u ((-1) : Int32)).bind fun z11 => (some (z11.1, z11.2))) else ((f_X11_isHere (gD_s u) x1).bind fun z20 => (if z20 = 0 then (f_X11_speaks_37   u) else ((f_X11_isHere (gD_s u) x2).bind fun z31 => (if z31 = 0 then (f_X11_speaks_37   u) else ((f_X11_speaksIn (gD_s u) x1 x2).bind fun z50 => ((f_X11_by x1 x2).bind fun z59 => (ck z59 99 ((f_X11_by x2 x1).bind fun z69 => (ck z69 99 (some ((((gD_s (sD_s u z50)) (Int32.toNatClampNeg z59)) + ((gD_s (sD_s u z50)) (Int32.toNatClampNeg z69))), (sD_s u z50))))))))))))))
/-! SoManyForgottenModel.owes -/
def f_X11_owes_19 (x1 : Int32) (x2 : Int32)  (u : DS) (y0 : Int32) : Option (Int32 × (DS)) :=
  (if y0 = 0 then ((f_X11_of x1 (3 : Int32)).bind fun z36 => (ck z36 99 ((f_X11_of x1 (3 : Int32)).bind fun z48 => (ck z48 99 (some (((gD_s u) (Int32.toNatClampNeg z36)), (sD_s u (upd (gD_s u) (Int32.toNatClampNeg z48) x2)))))))) else ((f_X11_no u y0).bind fun z26 => (some (z26.1, z26.2))))
def f_X11_owes (u : DS) (x1 : Int32) (x2 : Int32) : Option (Int32 × (DS)) :=
  ((f_X11_isOne u x1).bind fun z2 => (if z2 = 0 then (f_X11_owes_19 x1 x2  u ((-1) : Int32)) else ((f_X11_wrongBy x2 (0 : Int32) (99 : Int32)).bind fun z12 => (f_X11_owes_19 x1 x2  u z12))))
/-! SoManyForgottenModel.back -/
def f_X11_back (u : DS) (x1 : Int32) : Option (Int32 × (DS)) :=
  ((f_X11_isOne u x1).bind fun z2 => (if z2 = 0 then ((f_X11_no u ((-1) : Int32)).bind fun z10 => (some (z10.1, z10.2))) else ((f_X11_isHere (gD_s u) x1).bind fun z19 => (if z19 = 0 then ((f_X11_comesBack (gD_s u) x1).bind fun z37 => ((f_X11_hereIn (gD_s (sD_s u z37))).bind fun z44 => ((f_X11_bits z44).bind fun z47 => (some (z47, (sD_s u z37)))))) else ((f_X11_no u ((-3) : Int32)).bind fun z28 => (some (z28.1, z28.2)))))))
/-! SoManyForgottenModel.names -/
def f_X11_names (u : DS) (x1 : Int32) : Option (Int32 × (DS)) :=
  ((f_X11_wrongBy x1 (0 : Int32) (3 : Int32)).bind fun z3 => (if z3 = 0 then (ck (2 : Int32) 99 (ck (2 : Int32) 99 (some (((gD_s u) (Int32.toNatClampNeg (2 : Int32))), (sD_s u (upd (gD_s u) (Int32.toNatClampNeg (2 : Int32)) x1)))))) else ((f_X11_no u z3).bind fun z13 => (some (z13.1, z13.2)))))
/-! SoManyForgottenModel.turn -/
def f_X11_turn_33 (x1 : Int32) (x2 : Int32) (x3 : Int32)  (u : DS) (y0 : Int32) : Option (Int32 × (DS)) :=
  (if y0 = 0 then ((f_X11_of x1 (0 : Int32)).bind fun z55 => (ck z55 99 ((f_X11_of x1 (1 : Int32)).bind fun z66 => (ck z66 99 ((some (((10 : Int32) * ((gD_s u) (Int32.toNatClampNeg z55))) + ((gD_s u) (Int32.toNatClampNeg z66)))).bind fun v71 => ((f_X11_of x1 (0 : Int32)).bind fun z79 => (ck z79 99 ((f_X11_of x1 (1 : Int32)).bind fun z90 => (ck z90 99 ((some (sD_s (sD_s u (upd (gD_s u) (Int32.toNatClampNeg z79) x2)) (upd (gD_s (sD_s u (upd (gD_s u) (Int32.toNatClampNeg z79) x2))) (Int32.toNatClampNeg z90) x3))).bind fun u94 => (some (v71, u94)))))))))))) else ((f_X11_no u y0).bind fun z43 => (some (z43.1, z43.2))))
def f_X11_turn (u : DS) (x1 : Int32) (x2 : Int32) (x3 : Int32) : Option (Int32 × (DS)) :=
  ((f_X11_isOne u x1).bind fun z2 => (if z2 = 0 then (f_X11_turn_33 x1 x2 x3  u ((-1) : Int32)) else ((f_X11_isIn x2 (0 : Int32) (5 : Int32)).bind fun z15 => (if z15 = 0 then (f_X11_turn_33 x1 x2 x3  u ((-2) : Int32)) else ((f_X11_wrongBy x3 (0 : Int32) (9 : Int32)).bind fun z30 => (f_X11_turn_33 x1 x2 x3  u z30))))))
/-! SoManyForgottenModel.weeks -/
def f_X11_weeks_32   (u : DS) : Option (Int32 × (DS)) :=
  ((f_X11_no u ((-6) : Int32)).bind fun z35 => (some (z35.1, z35.2)))
def f_X11_weeks (u : DS) (x1 : Int32) : Option (Int32 × (DS)) :=
  (if (1 : Int32) ≤ x1 then (if (60 : Int32) < x1 then (f_X11_weeks_32   u) else (ck (1 : Int32) 99 (if (((gD_s u) (Int32.toNatClampNeg (1 : Int32))) + x1) ≤ (999 : Int32) then ((f_X11_weeksOn (gD_s u) x1).bind fun z44 => ((f_X11_hereIn (gD_s (sD_s u z44))).bind fun z51 => ((f_X11_bits z51).bind fun z54 => (some (z54, (sD_s u z44)))))) else (f_X11_weeks_32   u)))) else ((f_X11_no u ((-4) : Int32)).bind fun z8 => (some (z8.1, z8.2))))
/-! SoManyForgottenModel.takes -/
def f_X11_takes (u : DS) (x1 : Int32) : Option (DS) :=
  ((f_X11_copies (gD_s u, gD_m u)).bind fun z8 => ((f_X11_weeksOn (gD_m (sD_m (sD_s u z8.1) z8.2)) x1).bind fun z16 => (some (sD_m (sD_m (sD_s u z8.1) z8.2) z16))))
/-! SoManyForgottenModel.memoryThen -/
def f_X11_memoryThen_20 (x1 : Int32) (x2 : Int32) (x3 : Int32)  (u : DS) (y0 : Int32) : Option (Int32 × (DS)) :=
  (if y0 = 0 then ((f_X11_takes u x3).bind fun z36 => ((f_X11_by x1 x2).bind fun z45 => (ck z45 99 (some (((gD_m z36) (Int32.toNatClampNeg z45)), z36))))) else ((f_X11_no u y0).bind fun z30 => (some (z30.1, z30.2))))
def f_X11_memoryThen (u : DS) (x1 : Int32) (x2 : Int32) (x3 : Int32) : Option (Int32 × (DS)) :=
  ((f_X11_areTwo u x1 x2).bind fun z3 => (if z3 = 0 then (f_X11_memoryThen_20 x1 x2 x3  u ((-1) : Int32)) else ((f_X11_wrongBy x3 (0 : Int32) (99 : Int32)).bind fun z13 => (f_X11_memoryThen_20 x1 x2 x3  u z13))))
/-! SoManyForgottenModel.knownThen -/
def f_X11_knownThen_19 (x1 : Int32) (x2 : Int32)  (u : DS) (y0 : Int32) : Option (Int32 × (DS)) :=
  (if y0 = 0 then ((f_X11_takes u x2).bind fun z32 => ((f_X11_knownIn (gD_m z32) x1).bind fun z40 => (some (z40, z32)))) else ((f_X11_no u y0).bind fun z26 => (some (z26.1, z26.2))))
def f_X11_knownThen (u : DS) (x1 : Int32) (x2 : Int32) : Option (Int32 × (DS)) :=
  ((f_X11_isOne u x1).bind fun z2 => (if z2 = 0 then (f_X11_knownThen_19 x1 x2  u ((-1) : Int32)) else ((f_X11_wrongBy x2 (0 : Int32) (99 : Int32)).bind fun z12 => (f_X11_knownThen_19 x1 x2  u z12))))
/-! SoManyForgottenModel.gone -/
def f_X11_gone (u : DS) (x1 : Int32) : Option (Int32 × (DS)) :=
  ((f_X11_wrongBy x1 (0 : Int32) (99 : Int32)).bind fun z4 => (if z4 = 0 then ((f_X11_takes u x1).bind fun z20 => (ck (0 : Int32) 99 ((f_X11_hereIn (gD_m z20)).bind fun z37 => (some (((((1 : Int32) <<< (((gD_m z20) (Int32.toNatClampNeg (0 : Int32))) &&& 31)) - (1 : Int32)) &&& (z37 ^^^ ((-1) : Int32))), z20))))) else ((f_X11_no u z4).bind fun z14 => (some (z14.1, z14.2)))))
/-! SoManyForgottenModel.goesIn -/
def b_X11_goesIn_2 (x1 : Int32)  (k2 : DS → Int32 → Option (Int32 × (DS))) (u : DS) (x2 : Int32) : Option (Int32 × (DS)) :=
  (if (99 : Int32) < x2 then (some (((-9) : Int32), u)) else ((f_X11_isHere (gD_m u) x1).bind fun z13 => (if z13 = 0 then (some (x2, u)) else ((f_X11_week (gD_m u)).bind fun z25 => (k2 (sD_m u z25) (x2 + 1))))))
def f_X11_goesIn_2 (x1 : Int32)  : Nat → DS → Int32 → Option (Int32 × (DS)) := lq2 (b_X11_goesIn_2 x1 )
def f_X11_goesIn (u : DS) (x1 : Int32) : Option (Int32 × (DS)) :=
  (f_X11_goesIn_2 x1  smN u (0 : Int32))
/-! SoManyForgottenModel.goesOf -/
def f_X11_goesOf (u : DS) (x1 : Int32) : Option (Int32 × (DS)) :=
  ((f_X11_copies (gD_s u, gD_m u)).bind fun z8 => ((f_X11_goesIn (sD_m (sD_s u z8.1) z8.2) x1).bind fun z13 => (some (z13.1, z13.2))))
/-! SoManyForgottenModel.goes -/
def f_X11_goes (u : DS) (x1 : Int32) : Option (Int32 × (DS)) :=
  ((f_X11_isOne u x1).bind fun z2 => (if z2 = 0 then ((f_X11_no u ((-1) : Int32)).bind fun z18 => (some (z18.1, z18.2))) else ((f_X11_goesOf u x1).bind fun z10 => (some (z10.1, z10.2)))))
/-! SoManyForgottenModel.emptyBehind -/
def b_X11_emptyBehind_13   (k13 : DS → Int32 → Option (Int32 × (DS))) (u : DS) (x1 : Int32) : Option (Int32 × (DS)) :=
  (if (99 : Int32) < x1 then (some (((-9) : Int32), u)) else ((f_X11_hereIn (gD_m u)).bind fun z23 => (if z23 = 0 then (some (x1, u)) else ((f_X11_week (gD_m u)).bind fun z35 => (k13 (sD_m u z35) (x1 + 1))))))
def f_X11_emptyBehind_13   : Nat → DS → Int32 → Option (Int32 × (DS)) := lq2 (b_X11_emptyBehind_13  )
def f_X11_emptyBehind (u : DS) : Option (Int32 × (DS)) :=
  ((f_X11_copies (gD_s u, gD_m u)).bind fun z8 => (f_X11_emptyBehind_13   smN (sD_m (sD_s u z8.1) z8.2) (0 : Int32)))
/-! SoManyForgottenModel.next -/
def f_X11_next_87 (x1 : Int32) (k53 : DS → Int32 → Int32 → Int32 → Option (Int32 × (DS))) (u : DS) (x2 : Int32) (x3 : Int32) (x4 : Int32) (y0 : Int32) : Option (Int32 × (DS)) :=
  (if y0 < 0 then (k53 u x2 x3 (x4 + 1)) else (if y0 < x3 then (k53 u x4 y0 (x4 + 1)) else (k53 u x2 x3 (x4 + 1))))
def b_X11_next_53 (x1 : Int32)  (k53 : DS → Int32 → Int32 → Int32 → Option (Int32 × (DS))) (u : DS) (x2 : Int32) (x3 : Int32) (x4 : Int32) : Option (Int32 × (DS)) :=
  (ck (0 : Int32) 99 (if ((gD_s u) (Int32.toNatClampNeg (0 : Int32))) ≤ x4 then (if x2 < 0 then (some (x2, u)) else (if x1 = 0 then (some (x2, u)) else (some (x3, u)))) else ((f_X11_isHere (gD_s u) x4).bind fun z70 => (if z70 = 0 then (f_X11_next_87 x1 k53 u x2 x3 x4 ((-9) : Int32)) else ((f_X11_goesOf u x4).bind fun z79 => (f_X11_next_87 x1 k53 z79.2 x2 x3 x4 z79.1))))))
def f_X11_next_53 (x1 : Int32)  : Nat → DS → Int32 → Int32 → Int32 → Option (Int32 × (DS)) := lq4 (b_X11_next_53 x1 )
def f_X11_next (u : DS) (x1 : Int32) : Option (Int32 × (DS)) :=
  ((f_X11_isIn x1 (0 : Int32) (3 : Int32)).bind fun z3 => (if z3 = 0 then ((f_X11_no u ((-2) : Int32)).bind fun z12 => (some (z12.1, z12.2))) else (if x1 = (2 : Int32) then ((f_X11_emptyBehind u).bind fun z22 => (some (z22.1, z22.2))) else (if x1 = (3 : Int32) then (ck (1 : Int32) 99 (some (((10 : Int32) - (((gD_s u) (Int32.toNatClampNeg (1 : Int32))) - ((gD_s u) (Int32.toNatClampNeg (1 : Int32))) / (10 : Int32) * (10 : Int32))), u))) else (f_X11_next_53 x1  smN u ((-9) : Int32) (1000000000 : Int32) (0 : Int32))))))
/-! SoManyForgottenModel.least -/
def b_X11_least_33   (k33 : DS → Int32 → Int32 → Option (Int32 × (DS))) (u : DS) (x2 : Int32) (x3 : Int32) : Option (Int32 × (DS)) :=
  (ck (0 : Int32) 99 (if ((gD_s u) (Int32.toNatClampNeg (0 : Int32))) ≤ x3 then (some (x2, u)) else ((f_X11_isHere (gD_s u) x3).bind fun z48 => (if z48 = 0 then (k33 u x2 (x3 + 1)) else (if x2 < 0 then (k33 u x3 (x3 + 1)) else ((f_X11_knownIn (gD_s u) x3).bind fun z63 => ((f_X11_knownIn (gD_s u) x2).bind fun z71 => (if z63 ≤ z71 then (k33 u x2 (x3 + 1)) else (k33 u x3 (x3 + 1))))))))))
def f_X11_least_33   : Nat → DS → Int32 → Int32 → Option (Int32 × (DS)) := lq3 (b_X11_least_33  )
def f_X11_least (u : DS) (x1 : Int32) : Option (Int32 × (DS)) :=
  ((f_X11_isIn x1 (0 : Int32) (1 : Int32)).bind fun z3 => (if z3 = 0 then ((f_X11_no u ((-2) : Int32)).bind fun z12 => (some (z12.1, z12.2))) else (if x1 = 0 then ((f_X11_leastIn (gD_s u)).bind fun z24 => (some (z24, u))) else (f_X11_least_33   smN u ((-9) : Int32) (0 : Int32)))))
/-! SoManyForgottenModel.orNever -/
def f_X11_orNever (x0 : Int32) : Option Int32 :=
  (if 0 ≤ x0 then (some x0) else (some (100 : Int32)))
/-! SoManyForgottenModel.wrongOne -/
def f_X11_wrongOne (u : DS) (x1 : Int32) : Option Int32 :=
  ((f_X11_isOne u x1).bind fun z2 => (if z2 = 0 then (some ((-1) : Int32)) else ((f_X11_isHere (gD_s u) x1).bind fun z17 => (if z17 = 0 then (some ((-3) : Int32)) else (some (0 : Int32))))))
/-! SoManyForgottenModel.speak -/
def b_X11_speak_32 (x1 : Int32)  (k32 : DS → Int32 → Int32 → Int32 → Option (Int32 × (DS))) (u : DS) (x3 : Int32) (x4 : Int32) (x5 : Int32) : Option (Int32 × (DS)) :=
  (ck (0 : Int32) 99 (if ((gD_s u) (Int32.toNatClampNeg (0 : Int32))) ≤ x5 then (some (x3, u)) else (if x5 = x1 then (k32 u x3 x4 (x5 + 1)) else ((f_X11_isHere (gD_s u) x5).bind fun z55 => (if z55 = 0 then (k32 u x3 x4 (x5 + 1)) else ((f_X11_copies (gD_s u, gD_m u)).bind fun z72 => ((f_X11_speaksIn (gD_m (sD_m (sD_s u z72.1) z72.2)) x1 x5).bind fun z82 => ((f_X11_goesIn (sD_m (sD_m (sD_s u z72.1) z72.2) z82) x1).bind fun z87 => ((f_X11_orNever z87.1).bind fun z90 => (if x4 < z90 then (k32 z87.2 x5 z90 (x5 + 1)) else (k32 z87.2 x3 x4 (x5 + 1))))))))))))
def f_X11_speak_32 (x1 : Int32)  : Nat → DS → Int32 → Int32 → Int32 → Option (Int32 × (DS)) := lq4 (b_X11_speak_32 x1 )
def f_X11_speak (u : DS) (x1 : Int32) : Option (Int32 × (DS)) :=
  ((f_X11_wrongOne u x1).bind fun z2 => (if z2 = 0 then ((f_X11_goesOf u x1).bind fun z21 => ((f_X11_orNever z21.1).bind fun z24 => (f_X11_speak_32 x1  smN z21.2 ((-9) : Int32) z24 (0 : Int32)))) else ((f_X11_no u z2).bind fun z12 => (some (z12.1, z12.2)))))
/-! SoManyForgottenModel.isHereBy -/
def b_X11_isHereBy_17 (x1 : Int32) (x2 : Int32) (x4 : Int32)  (k17 : DS → Int32 → Int32 → Option (Int32 × (DS))) (u : DS) (x5 : Int32) (x6 : Int32) : Option (Int32 × (DS)) :=
  (if x2 ≤ x6 then ((f_X11_weeksOn (gD_m u) x4).bind fun z90 => ((f_X11_isHere (gD_m (sD_m u z90)) x1).bind fun z98 => (zr z98 (some (z98, (sD_m u z90)))))) else (if (x5 - x5 / (8 : Int32) * (8 : Int32)) = x1 then (some ((0 : Int32), u)) else (ck (0 : Int32) 99 (if ((gD_s u) (Int32.toNatClampNeg (0 : Int32))) ≤ (x5 - x5 / (8 : Int32) * (8 : Int32)) then (some ((0 : Int32), u)) else ((f_X11_isHere (gD_s u) (x5 - x5 / (8 : Int32) * (8 : Int32))).bind fun z53 => (if z53 = 0 then (some ((0 : Int32), u)) else ((f_X11_speaksIn (gD_m u) x1 (x5 - x5 / (8 : Int32) * (8 : Int32))).bind fun z68 => (k17 (sD_m u z68) (x5 / (8 : Int32)) (x6 + 1)))))))))
def f_X11_isHereBy_17 (x1 : Int32) (x2 : Int32) (x4 : Int32)  : Nat → DS → Int32 → Int32 → Option (Int32 × (DS)) := lq3 (b_X11_isHereBy_17 x1 x2 x4 )
def f_X11_isHereBy (u : DS) (x1 : Int32) (x2 : Int32) (x3 : Int32) (x4 : Int32) : Option (Int32 × (DS)) :=
  ((f_X11_copies (gD_s u, gD_m u)).bind fun z8 => (f_X11_isHereBy_17 x1 x2 x4  smN (sD_m (sD_s u z8.1) z8.2) x3 (0 : Int32)))
/-! SoManyForgottenModel.fewest -/
def b_X11_fewest_63 (x1 : Int32) (x2 : Int32) (k54 : DS → Int32 → Int32 → Option (Int32 × (DS))) (k63 : DS → Int32 → Int32 → Int32 → Option (Int32 × (DS))) (u : DS) (x4 : Int32) (x5 : Int32) (x6 : Int32) : Option (Int32 × (DS)) :=
  (if x4 ≤ x6 then (k54 u (x4 * (8 : Int32)) (x5 + 1)) else ((f_X11_isHereBy u x1 x5 x6 x2).bind fun z77 => (if z77.1 = 0 then (k63 z77.2 x4 x5 (x6 + 1)) else (some (x5, z77.2)))))
def f_X11_fewest_63 (x1 : Int32) (x2 : Int32) (k54 : DS → Int32 → Int32 → Option (Int32 × (DS))) : Nat → DS → Int32 → Int32 → Int32 → Option (Int32 × (DS)) := lq4 (b_X11_fewest_63 x1 x2 k54)
def b_X11_fewest_54 (x1 : Int32) (x2 : Int32)  (k54 : DS → Int32 → Int32 → Option (Int32 × (DS))) (u : DS) (x4 : Int32) (x5 : Int32) : Option (Int32 × (DS)) :=
  (if (3 : Int32) < x5 then (some (((-9) : Int32), u)) else (f_X11_fewest_63 x1 x2 k54 smN u x4 x5 (0 : Int32)))
def f_X11_fewest_54 (x1 : Int32) (x2 : Int32)  : Nat → DS → Int32 → Int32 → Option (Int32 × (DS)) := lq3 (b_X11_fewest_54 x1 x2 )
def f_X11_fewest_38 (x1 : Int32) (x2 : Int32)  (u : DS) (x3 : Int32) : Option (Int32 × (DS)) :=
  (if x3 = 0 then (f_X11_fewest_54 x1 x2  smN u (1 : Int32) (0 : Int32)) else ((f_X11_no u x3).bind fun z44 => (some (z44.1, z44.2))))
def f_X11_fewest_19 (x1 : Int32) (x2 : Int32)  (u : DS) (y0 : Int32) : Option (Int32 × (DS)) :=
  (if y0 = 0 then ((f_X11_isHere (gD_s u) x1).bind fun z29 => (if z29 = 0 then (f_X11_fewest_38 x1 x2  u ((-3) : Int32)) else (f_X11_fewest_38 x1 x2  u y0))) else (f_X11_fewest_38 x1 x2  u y0))
def f_X11_fewest (u : DS) (x1 : Int32) (x2 : Int32) : Option (Int32 × (DS)) :=
  ((f_X11_isOne u x1).bind fun z2 => (if z2 = 0 then (f_X11_fewest_19 x1 x2  u ((-1) : Int32)) else ((f_X11_wrongBy x2 (0 : Int32) (60 : Int32)).bind fun z12 => (f_X11_fewest_19 x1 x2  u z12))))
/-! SoManyForgottenModel.save -/
def b_X11_save_41 (x1 : Int32)  (k41 : DS → Int32 → Int32 → Int32 → Option (Int32 × (DS))) (u : DS) (x3 : Int32) (x4 : Int32) (x5 : Int32) : Option (Int32 × (DS)) :=
  (ck (0 : Int32) 99 (if ((gD_s u) (Int32.toNatClampNeg (0 : Int32))) ≤ x5 then (some (x4, u)) else ((f_X11_isHere (gD_s u) x5).bind fun z58 => (if z58 = 0 then (k41 u x3 x4 (x5 + 1)) else ((f_X11_copies (gD_s u, gD_m u)).bind fun z75 => ((f_X11_of x5 (0 : Int32)).bind fun z85 => (ck z85 99 ((some (sD_m (sD_m (sD_s u z75.1) z75.2) (upd (gD_m (sD_m (sD_s u z75.1) z75.2)) (Int32.toNatClampNeg z85) (4 : Int32)))).bind fun u89 => ((f_X11_weeksOn (gD_m u89) x1).bind fun z95 => ((f_X11_hereIn (gD_m (sD_m u89 z95))).bind fun z102 => ((f_X11_bits z102).bind fun z105 => (if x3 < z105 then (k41 (sD_m u89 z95) z105 x5 (x5 + 1)) else (k41 (sD_m u89 z95) x3 x4 (x5 + 1))))))))))))))
def f_X11_save_41 (x1 : Int32)  : Nat → DS → Int32 → Int32 → Int32 → Option (Int32 × (DS)) := lq4 (b_X11_save_41 x1 )
def f_X11_save (u : DS) (x1 : Int32) : Option (Int32 × (DS)) :=
  ((f_X11_wrongBy x1 (0 : Int32) (60 : Int32)).bind fun z4 => (if z4 = 0 then ((f_X11_takes u x1).bind fun z20 => ((f_X11_hereIn (gD_m z20)).bind fun z27 => ((f_X11_bits z27).bind fun z30 => (f_X11_save_41 x1  smN z20 z30 ((-9) : Int32) (0 : Int32))))) else ((f_X11_no u z4).bind fun z14 => (some (z14.1, z14.2)))))
/-! SoManyForgottenModel.bring -/
def f_X11_bring_90 (x1 : Int32) (k24 : DS → Int32 → Int32 → Int32 → Option (Int32 × (DS))) (u : DS) (x2 : Int32) (x3 : Int32) (x4 : Int32) (y0 : Int32) : Option (Int32 × (DS)) :=
  (if x3 < y0 then (k24 u x4 y0 (x4 + 1)) else (k24 u x2 x3 (x4 + 1)))
def b_X11_bring_24 (x1 : Int32)  (k24 : DS → Int32 → Int32 → Int32 → Option (Int32 × (DS))) (u : DS) (x2 : Int32) (x3 : Int32) (x4 : Int32) : Option (Int32 × (DS)) :=
  (ck (0 : Int32) 99 (if ((gD_s u) (Int32.toNatClampNeg (0 : Int32))) ≤ x4 then (if x2 < 0 then (some (x2, u)) else (if x1 = 0 then (some (x2, u)) else (some (x3, u)))) else ((f_X11_isHere (gD_s u) x4).bind fun z41 => (if z41 = 0 then ((f_X11_copies (gD_s u, gD_m u)).bind fun z58 => ((f_X11_comesBack (gD_m (sD_m (sD_s u z58.1) z58.2)) x4).bind fun z67 => ((f_X11_goesIn (sD_m (sD_m (sD_s u z58.1) z58.2) z67) x4).bind fun z73 => (if 0 ≤ z73.1 then (f_X11_bring_90 x1 k24 z73.2 x2 x3 x4 z73.1) else (f_X11_bring_90 x1 k24 z73.2 x2 x3 x4 (99 : Int32)))))) else (k24 u x2 x3 (x4 + 1))))))
def f_X11_bring_24 (x1 : Int32)  : Nat → DS → Int32 → Int32 → Int32 → Option (Int32 × (DS)) := lq4 (b_X11_bring_24 x1 )
def f_X11_bring (u : DS) (x1 : Int32) : Option (Int32 × (DS)) :=
  ((f_X11_isIn x1 (0 : Int32) (1 : Int32)).bind fun z3 => (if z3 = 0 then ((f_X11_no u ((-2) : Int32)).bind fun z12 => (some (z12.1, z12.2))) else (f_X11_bring_24 x1  smN u ((-9) : Int32) ((-1) : Int32) (0 : Int32))))
/-! SoManyForgottenModel.areLeagued -/
def f_X11_areLeagued (u : DS) (x1 : Int32) (x2 : Int32) : Option Int32 :=
  ((f_X11_isHere (gD_s u) x1).bind fun z5 => (if z5 = 0 then (some (0 : Int32)) else ((f_X11_isHere (gD_s u) x2).bind fun z16 => (if z16 = 0 then (some (0 : Int32)) else ((f_X11_by x1 x2).bind fun z28 => (ck z28 99 (if ((gD_s u) (Int32.toNatClampNeg z28)) < (50 : Int32) then (some (0 : Int32)) else ((f_X11_by x2 x1).bind fun z43 => (ck z43 99 (if ((gD_s u) (Int32.toNatClampNeg z43)) < (50 : Int32) then (some (0 : Int32)) else (some (1 : Int32))))))))))))
/-! SoManyForgottenModel.league -/
def b_X11_league_21 (x1 : Int32)  (k21 : DS → Int32 → Int32 → Option (Int32 × (DS))) (u : DS) (x3 : Int32) (x4 : Int32) : Option (Int32 × (DS)) :=
  (ck (0 : Int32) 99 (if ((gD_s u) (Int32.toNatClampNeg (0 : Int32))) ≤ x4 then (some (x3, u)) else (if x4 = x1 then (k21 u (x3 ||| (0 : Int32)) (x4 + 1)) else ((f_X11_areLeagued u x1 x4).bind fun z43 => (if z43 = 0 then (k21 u (x3 ||| (0 : Int32)) (x4 + 1)) else (k21 u (x3 ||| ((1 : Int32) <<< (x4 &&& 31))) (x4 + 1)))))))
def f_X11_league_21 (x1 : Int32)  : Nat → DS → Int32 → Int32 → Option (Int32 × (DS)) := lq3 (b_X11_league_21 x1 )
def f_X11_league (u : DS) (x1 : Int32) : Option (Int32 × (DS)) :=
  ((f_X11_wrongOne u x1).bind fun z2 => (if z2 = 0 then (f_X11_league_21 x1  smN u (0 : Int32) (0 : Int32)) else ((f_X11_no u z2).bind fun z12 => (some (z12.1, z12.2)))))
/-! SoManyForgottenModel.largest -/
def b_X11_largest_85 (x1 : Int32) (k29 : DS → Int32 → Int32 → Int32 → Option (Int32 × (DS))) (k66 : DS → Int32 → Int32 → Int32 → Int32 → Int32 → Option (Int32 × (DS))) (k85 : DS → Int32 → Int32 → Int32 → Int32 → Int32 → Int32 → Option (Int32 × (DS))) (u : DS) (x2 : Int32) (x3 : Int32) (x4 : Int32) (x5 : Int32) (x6 : Int32) (x7 : Int32) : Option (Int32 × (DS)) :=
  (if x6 ≤ x7 then (k66 u x2 x3 x4 x5 (x6 + 1)) else (if x5 = 0 then (k66 u x2 x3 x4 x5 (x6 + 1)) else ((f_X11_has x4 x6).bind fun z101 => (if z101 = 0 then (k85 u x2 x3 x4 (1 : Int32) x6 (x7 + 1)) else ((f_X11_has x4 x7).bind fun z111 => (if z111 = 0 then (k85 u x2 x3 x4 (1 : Int32) x6 (x7 + 1)) else ((f_X11_areLeagued u x6 x7).bind fun z122 => (if z122 = 0 then (k85 u x2 x3 x4 (0 : Int32) x6 (x7 + 1)) else (k85 u x2 x3 x4 (1 : Int32) x6 (x7 + 1))))))))))
def f_X11_largest_85 (x1 : Int32) (k29 : DS → Int32 → Int32 → Int32 → Option (Int32 × (DS))) (k66 : DS → Int32 → Int32 → Int32 → Int32 → Int32 → Option (Int32 × (DS))) : Nat → DS → Int32 → Int32 → Int32 → Int32 → Int32 → Int32 → Option (Int32 × (DS)) := lq7 (b_X11_largest_85 x1 k29 k66)
def f_X11_largest_147 (x1 : Int32) (k29 : DS → Int32 → Int32 → Int32 → Option (Int32 × (DS))) (u : DS) (x2 : Int32) (x3 : Int32) (x4 : Int32) (x5 : Int32) : Option (Int32 × (DS)) :=
  (if x5 = 0 then (k29 u x2 x3 (x4 + 1)) else (k29 u x2 x4 (x4 + 1)))
def b_X11_largest_66 (x1 : Int32) (k29 : DS → Int32 → Int32 → Int32 → Option (Int32 × (DS))) (k66 : DS → Int32 → Int32 → Int32 → Int32 → Int32 → Option (Int32 × (DS))) (u : DS) (x2 : Int32) (x3 : Int32) (x4 : Int32) (x5 : Int32) (x6 : Int32) : Option (Int32 × (DS)) :=
  (ck (0 : Int32) 99 (if ((gD_s u) (Int32.toNatClampNeg (0 : Int32))) ≤ x6 then (f_X11_largest_147 x1 k29 u x2 x3 x4 x5) else (if x5 = 0 then (f_X11_largest_147 x1 k29 u x2 x3 x4 x5) else (f_X11_largest_85 x1 k29 k66 smN u x2 x3 x4 x5 x6 (0 : Int32)))))
def f_X11_largest_66 (x1 : Int32) (k29 : DS → Int32 → Int32 → Int32 → Option (Int32 × (DS))) : Nat → DS → Int32 → Int32 → Int32 → Int32 → Int32 → Option (Int32 × (DS)) := lq6 (b_X11_largest_66 x1 k29)
def b_X11_largest_29 (x1 : Int32)  (k29 : DS → Int32 → Int32 → Int32 → Option (Int32 × (DS))) (u : DS) (x2 : Int32) (x3 : Int32) (x4 : Int32) : Option (Int32 × (DS)) :=
  (if x2 < x4 then (if x1 = 0 then (some (x3, u)) else ((f_X11_bits x3).bind fun z174 => (some (z174, u)))) else (if (x4 &&& (x2 ^^^ ((-1) : Int32))) = 0 then ((f_X11_bits x4).bind fun z46 => ((f_X11_bits x3).bind fun z50 => (if z46 ≤ z50 then (f_X11_largest_66 x1 k29 smN u x2 x3 x4 (0 : Int32) (0 : Int32)) else (f_X11_largest_66 x1 k29 smN u x2 x3 x4 (1 : Int32) (0 : Int32))))) else (f_X11_largest_66 x1 k29 smN u x2 x3 x4 (0 : Int32) (0 : Int32))))
def f_X11_largest_29 (x1 : Int32)  : Nat → DS → Int32 → Int32 → Int32 → Option (Int32 × (DS)) := lq4 (b_X11_largest_29 x1 )
def f_X11_largest (u : DS) (x1 : Int32) : Option (Int32 × (DS)) :=
  ((f_X11_isIn x1 (0 : Int32) (1 : Int32)).bind fun z3 => (if z3 = 0 then ((f_X11_no u ((-2) : Int32)).bind fun z12 => (some (z12.1, z12.2))) else ((f_X11_hereIn (gD_s u)).bind fun z20 => (f_X11_largest_29 x1  smN u z20 (0 : Int32) (0 : Int32)))))
/-! SoManyForgottenModel.cold -/
def b_X11_cold_41 (x1 : Int32) (k24 : DS → Int32 → Int32 → Int32 → Option (Int32 × (DS))) (k41 : DS → Int32 → Int32 → Int32 → Int32 → Option (Int32 × (DS))) (u : DS) (x2 : Int32) (x3 : Int32) (x4 : Int32) (x5 : Int32) : Option (Int32 × (DS)) :=
  (ck (0 : Int32) 99 (if ((gD_s u) (Int32.toNatClampNeg (0 : Int32))) ≤ x5 then (k24 u x2 x3 (x4 + 1)) else ((f_X11_isHere (gD_s u) x4).bind fun z58 => (if z58 = 0 then (k41 u x2 x3 x4 (x5 + 1)) else ((f_X11_isHere (gD_s u) x5).bind fun z70 => (if z70 = 0 then (k41 u x2 x3 x4 (x5 + 1)) else ((f_X11_by x4 x5).bind fun z84 => (ck z84 99 ((f_X11_by x5 x4).bind fun z96 => (ck z96 99 (if (((gD_s u) (Int32.toNatClampNeg z84)) + ((gD_s u) (Int32.toNatClampNeg z96))) ≤ 0 then (if x2 = 0 then (k41 u (x2 + 1) (((10 : Int32) * x4) + x5) x4 (x5 + 1)) else (k41 u (x2 + 1) x3 x4 (x5 + 1))) else (k41 u x2 x3 x4 (x5 + 1)))))))))))))
def f_X11_cold_41 (x1 : Int32) (k24 : DS → Int32 → Int32 → Int32 → Option (Int32 × (DS))) : Nat → DS → Int32 → Int32 → Int32 → Int32 → Option (Int32 × (DS)) := lq5 (b_X11_cold_41 x1 k24)
def b_X11_cold_24 (x1 : Int32)  (k24 : DS → Int32 → Int32 → Int32 → Option (Int32 × (DS))) (u : DS) (x2 : Int32) (x3 : Int32) (x4 : Int32) : Option (Int32 × (DS)) :=
  (ck (0 : Int32) 99 (if ((gD_s u) (Int32.toNatClampNeg (0 : Int32))) ≤ x4 then (if x1 = 0 then (some (x2, u)) else (some (x3, u))) else (f_X11_cold_41 x1 k24 smN u x2 x3 x4 (x4 + (1 : Int32)))))
def f_X11_cold_24 (x1 : Int32)  : Nat → DS → Int32 → Int32 → Int32 → Option (Int32 × (DS)) := lq4 (b_X11_cold_24 x1 )
def f_X11_cold (u : DS) (x1 : Int32) : Option (Int32 × (DS)) :=
  ((f_X11_isIn x1 (0 : Int32) (1 : Int32)).bind fun z3 => (if z3 = 0 then ((f_X11_no u ((-2) : Int32)).bind fun z12 => (some (z12.1, z12.2))) else (f_X11_cold_24 x1  smN u (0 : Int32) ((-9) : Int32) (0 : Int32))))
/-! SoManyForgottenModel.envy -/
def b_X11_envy_22 (x1 : Int32)  (k22 : DS → Int32 → Int32 → Option (Int32 × (DS))) (u : DS) (x3 : Int32) (x4 : Int32) : Option (Int32 × (DS)) :=
  (ck (0 : Int32) 99 (if ((gD_s u) (Int32.toNatClampNeg (0 : Int32))) ≤ x4 then (some (x3, u)) else (if x4 = x1 then (k22 u x3 (x4 + 1)) else ((f_X11_isHere (gD_s u) x4).bind fun z45 => (if z45 = 0 then (k22 u x3 (x4 + 1)) else (if x3 < 0 then (k22 u x4 (x4 + 1)) else ((f_X11_by x1 x4).bind fun z62 => (ck z62 99 ((f_X11_by x1 x3).bind fun z72 => (ck z72 99 (if ((gD_s u) (Int32.toNatClampNeg z72)) ≤ ((gD_s u) (Int32.toNatClampNeg z62)) then (k22 u x3 (x4 + 1)) else (k22 u x4 (x4 + 1)))))))))))))
def f_X11_envy_22 (x1 : Int32)  : Nat → DS → Int32 → Int32 → Option (Int32 × (DS)) := lq3 (b_X11_envy_22 x1 )
def f_X11_envy (u : DS) (x1 : Int32) : Option (Int32 × (DS)) :=
  ((f_X11_wrongOne u x1).bind fun z2 => (if z2 = 0 then (f_X11_envy_22 x1  smN u ((-9) : Int32) (0 : Int32)) else ((f_X11_no u z2).bind fun z12 => (some (z12.1, z12.2)))))
/-! SoManyForgottenModel.power -/
def b_X11_power_108 (x2 : Int32)  (k108 : DS → Int32 → Int32 → Option (Int32 × (DS))) (u : DS) (x4 : Int32) (x5 : Int32) : Option (Int32 × (DS)) :=
  (if x2 ≤ x5 then (some (x4, u)) else ((f_X11_week (gD_m u)).bind fun z118 => ((f_X11_week (gD_was (sD_m u z118))).bind fun z125 => ((f_X11_leastIn (gD_m (sD_was (sD_m u z118) z125))).bind fun z134 => ((f_X11_leastIn (gD_was (sD_was (sD_m u z118) z125))).bind fun z141 => (if z134 = z141 then (k108 (sD_was (sD_m u z118) z125) (x4 + (0 : Int32)) (x5 + 1)) else (k108 (sD_was (sD_m u z118) z125) (x4 + (1 : Int32)) (x5 + 1))))))))
def f_X11_power_108 (x2 : Int32)  : Nat → DS → Int32 → Int32 → Option (Int32 × (DS)) := lq3 (b_X11_power_108 x2 )
def b_X11_power_73 (x1 : Int32) (x2 : Int32)  (k73 : DS → Int32 → Option (Int32 × (DS))) (u : DS) (x4 : Int32) : Option (Int32 × (DS)) :=
  (ck (0 : Int32) 99 (if ((gD_s u) (Int32.toNatClampNeg (0 : Int32))) ≤ x4 then (f_X11_power_108 x2  smN u (0 : Int32) (0 : Int32)) else ((f_X11_by x1 x4).bind fun z91 => (ck z91 99 (k73 (sD_was u (upd (gD_was u) (Int32.toNatClampNeg z91) (0 : Int32))) (x4 + 1))))))
def f_X11_power_73 (x1 : Int32) (x2 : Int32)  : Nat → DS → Int32 → Option (Int32 × (DS)) := lq2 (b_X11_power_73 x1 x2 )
def f_X11_power_38 (x1 : Int32) (x2 : Int32)  (u : DS) (x3 : Int32) : Option (Int32 × (DS)) :=
  (if x3 = 0 then ((f_X11_copies (gD_s u, gD_m u)).bind fun z56 => ((f_X11_copies (gD_s (sD_m (sD_s u z56.1) z56.2), gD_was (sD_m (sD_s u z56.1) z56.2))).bind fun z67 => (f_X11_power_73 x1 x2  smN (sD_was (sD_s (sD_m (sD_s u z56.1) z56.2) z67.1) z67.2) (0 : Int32)))) else ((f_X11_no u x3).bind fun z44 => (some (z44.1, z44.2))))
def f_X11_power_19 (x1 : Int32) (x2 : Int32)  (u : DS) (y0 : Int32) : Option (Int32 × (DS)) :=
  (if y0 = 0 then ((f_X11_isHere (gD_s u) x1).bind fun z29 => (if z29 = 0 then (f_X11_power_38 x1 x2  u ((-3) : Int32)) else (f_X11_power_38 x1 x2  u y0))) else (f_X11_power_38 x1 x2  u y0))
def f_X11_power (u : DS) (x1 : Int32) (x2 : Int32) : Option (Int32 × (DS)) :=
  ((f_X11_isOne u x1).bind fun z2 => (if z2 = 0 then (f_X11_power_19 x1 x2  u ((-1) : Int32)) else ((f_X11_wrongBy x2 (1 : Int32) (60 : Int32)).bind fun z12 => (f_X11_power_19 x1 x2  u z12))))
/-! SoManyForgottenModel.voids -/
def b_X11_voids_28   (k28 : DS → Int32 → Int32 → Option (Int32 × (DS))) (u : DS) (x3 : Int32) (x4 : Int32) : Option (Int32 × (DS)) :=
  (ck (0 : Int32) 99 (if ((gD_s u) (Int32.toNatClampNeg (0 : Int32))) ≤ x4 then (some (x3, u)) else ((f_X11_isHere (gD_s u) x4).bind fun z46 => (if z46 = 0 then (k28 u (x3 + (0 : Int32)) (x4 + 1)) else ((f_X11_isHere (gD_m u) x4).bind fun z58 => (if z58 = 0 then ((f_X11_of x4 (3 : Int32)).bind fun z71 => (ck z71 99 (k28 u (x3 + ((gD_s u) (Int32.toNatClampNeg z71))) (x4 + 1)))) else (k28 u (x3 + (0 : Int32)) (x4 + 1))))))))
def f_X11_voids_28   : Nat → DS → Int32 → Int32 → Option (Int32 × (DS)) := lq3 (b_X11_voids_28  )
def f_X11_voids (u : DS) (x1 : Int32) : Option (Int32 × (DS)) :=
  ((f_X11_wrongBy x1 (1 : Int32) (99 : Int32)).bind fun z4 => (if z4 = 0 then ((f_X11_takes u x1).bind fun z20 => (f_X11_voids_28   smN z20 (0 : Int32) (0 : Int32))) else ((f_X11_no u z4).bind fun z14 => (some (z14.1, z14.2)))))
/-! SoManyForgottenModel.hill -/
def b_X11_hill_16 (u : DS) (k4 : Int32 → Int32 → Option Int32) (k16 : Int32 → Int32 → Int32 → Option Int32) (x1 : Int32) (x2 : Int32) (x3 : Int32) : Option Int32 :=
  (ck (0 : Int32) 99 (if ((gD_s u) (Int32.toNatClampNeg (0 : Int32))) ≤ x3 then (k4 x1 (x2 + 1)) else (if x2 = x3 then (k16 (x1 + (0 : Int32)) x2 (x3 + 1)) else ((f_X11_isHere (gD_s u) x2).bind fun z37 => (if z37 = 0 then ((f_X11_isHere (gD_s u) x3).bind fun z48 => (if z48 = 0 then ((f_X11_by x2 x3).bind fun z60 => (ck z60 99 (k16 (x1 + ((gD_s u) (Int32.toNatClampNeg z60))) x2 (x3 + 1)))) else (k16 (x1 + (0 : Int32)) x2 (x3 + 1)))) else (k16 (x1 + (0 : Int32)) x2 (x3 + 1)))))))
def f_X11_hill_16 (u : DS) (k4 : Int32 → Int32 → Option Int32) : Nat → Int32 → Int32 → Int32 → Option Int32 := lq3 (b_X11_hill_16 u k4)
def b_X11_hill_4 (u : DS)  (k4 : Int32 → Int32 → Option Int32) (x1 : Int32) (x2 : Int32) : Option Int32 :=
  (ck (0 : Int32) 99 (if ((gD_s u) (Int32.toNatClampNeg (0 : Int32))) ≤ x2 then (some x1) else (f_X11_hill_16 u k4 smN x1 x2 (0 : Int32))))
def f_X11_hill_4 (u : DS)  : Nat → Int32 → Int32 → Option Int32 := lq2 (b_X11_hill_4 u )
def f_X11_hill (u : DS) : Option Int32 :=
  (f_X11_hill_4 u  smN (0 : Int32) (0 : Int32))
/-! SoManyForgottenModel.speaksToAll -/
def b_X11_speaksToAll_2 (x1 : Int32)  (k2 : DS → Int32 → Option (DS)) (u : DS) (x2 : Int32) : Option (DS) :=
  (ck (0 : Int32) 99 (if ((gD_m u) (Int32.toNatClampNeg (0 : Int32))) ≤ x2 then (some u) else (if x2 = x1 then (k2 u (x2 + 1)) else ((f_X11_isHere (gD_m u) x2).bind fun z22 => (if z22 = 0 then (k2 u (x2 + 1)) else ((f_X11_speaksIn (gD_m u) x1 x2).bind fun z34 => (k2 (sD_m u z34) (x2 + 1))))))))
def f_X11_speaksToAll_2 (x1 : Int32)  : Nat → DS → Int32 → Option (DS) := lq2 (b_X11_speaksToAll_2 x1 )
def f_X11_speaksToAll (u : DS) (x1 : Int32) : Option (DS) :=
  (f_X11_speaksToAll_2 x1  smN u (0 : Int32))
/-! SoManyForgottenModel.hasBy -/
def f_X11_hasBy_33 (x1 : Int32) (x2 : Int32) (x3 : Int32) (x5 : Int32) (x6 : Int32)  (u : DS) : Option (Int32 × (DS)) :=
  ((f_X11_weeksOn (gD_m u) x6).bind fun z39 => ((f_X11_knownIn (gD_m (sD_m u z39)) x1).bind fun z47 => (if x1 = x2 then (some ((z47 - ((30 : Int32) * x3)), (sD_m u z39))) else (some ((z47 - ((30 : Int32) * x5)), (sD_m u z39))))))
def f_X11_hasBy_21 (x1 : Int32) (x2 : Int32) (x3 : Int32) (x4 : Int32) (x5 : Int32) (x6 : Int32)  (u : DS) : Option (Int32 × (DS)) :=
  (if x5 = (1 : Int32) then ((f_X11_speaksToAll u x4).bind fun z30 => (f_X11_hasBy_33 x1 x2 x3 x5 x6  z30)) else (f_X11_hasBy_33 x1 x2 x3 x5 x6  u))
def f_X11_hasBy (u : DS) (x1 : Int32) (x2 : Int32) (x3 : Int32) (x4 : Int32) (x5 : Int32) (x6 : Int32) : Option (Int32 × (DS)) :=
  ((f_X11_copies (gD_s u, gD_m u)).bind fun z8 => (if x3 = (1 : Int32) then ((f_X11_speaksToAll (sD_m (sD_s u z8.1) z8.2) x2).bind fun z18 => (f_X11_hasBy_21 x1 x2 x3 x4 x5 x6  z18)) else (f_X11_hasBy_21 x1 x2 x3 x4 x5 x6  (sD_m (sD_s u z8.1) z8.2))))
/-! SoManyForgottenModel.two -/
def b_X11_two_68 (x1 : Int32) (x2 : Int32) (x3 : Int32)  (k68 : DS → Int32 → Option (Int32 × (DS))) (u : DS) (x5 : Int32) : Option (Int32 × (DS)) :=
  (if (4 : Int32) ≤ x5 then (some (((-9) : Int32), u)) else ((f_X11_hasBy u x1 x1 ((1 : Int32) - (x5 / (2 : Int32))) x2 (x5 - x5 / (2 : Int32) * (2 : Int32)) x3).bind fun z97 => ((f_X11_hasBy z97.2 x1 x1 (x5 / (2 : Int32)) x2 (x5 - x5 / (2 : Int32) * (2 : Int32)) x3).bind fun z109 => (if z109.1 < z97.1 then (k68 z109.2 (x5 + 1)) else ((f_X11_hasBy z109.2 x2 x1 (x5 / (2 : Int32)) x2 ((1 : Int32) - (x5 - x5 / (2 : Int32) * (2 : Int32))) x3).bind fun z126 => ((f_X11_hasBy z126.2 x2 x1 (x5 / (2 : Int32)) x2 (x5 - x5 / (2 : Int32) * (2 : Int32)) x3).bind fun z138 => (if z138.1 < z126.1 then (k68 z138.2 (x5 + 1)) else (some ((((10 : Int32) * (x5 / (2 : Int32))) + (x5 - x5 / (2 : Int32) * (2 : Int32))), z138.2)))))))))
def f_X11_two_68 (x1 : Int32) (x2 : Int32) (x3 : Int32)  : Nat → DS → Int32 → Option (Int32 × (DS)) := lq2 (b_X11_two_68 x1 x2 x3 )
def f_X11_two_53 (x1 : Int32) (x2 : Int32) (x3 : Int32)  (u : DS) (x4 : Int32) : Option (Int32 × (DS)) :=
  (if x4 = 0 then (f_X11_two_68 x1 x2 x3  smN u (0 : Int32)) else ((f_X11_no u x4).bind fun z61 => (some (z61.1, z61.2))))
def f_X11_two_20 (x1 : Int32) (x2 : Int32) (x3 : Int32)  (u : DS) (y0 : Int32) : Option (Int32 × (DS)) :=
  (if y0 = 0 then ((f_X11_isHere (gD_s u) x1).bind fun z32 => (if z32 = 0 then (f_X11_two_53 x1 x2 x3  u ((-3) : Int32)) else ((f_X11_isHere (gD_s u) x2).bind fun z43 => (if z43 = 0 then (f_X11_two_53 x1 x2 x3  u ((-3) : Int32)) else (f_X11_two_53 x1 x2 x3  u y0))))) else (f_X11_two_53 x1 x2 x3  u y0))
def f_X11_two (u : DS) (x1 : Int32) (x2 : Int32) (x3 : Int32) : Option (Int32 × (DS)) :=
  ((f_X11_areTwo u x1 x2).bind fun z3 => (if z3 = 0 then (f_X11_two_20 x1 x2 x3  u ((-1) : Int32)) else ((f_X11_wrongBy x3 (0 : Int32) (30 : Int32)).bind fun z13 => (f_X11_two_20 x1 x2 x3  u z13))))
/-! SoManyForgottenModel.gcd -/
def b_X11_gcd_6   (k6 : Int64 → Int64 → Option Int64) (x4 : Int64) (x6 : Int64) : Option Int64 :=
  (if (lg_cmp x6 (0 : Int64)) = 0 then (some x4) else (dzl x6 (k6 x6 (x4 - x4 / x6 * x6))))
def f_X11_gcd_6   : Nat → Int64 → Int64 → Option Int64 := lq2 (b_X11_gcd_6  )
def f_X11_gcd (x0 : Int64) (x2 : Int64) : Option Int64 :=
  (f_X11_gcd_6   smN x0 x2)
/-! SoManyForgottenModel.partOf -/
def f_X11_partOf_20 (x0 : Int64) (x2 : Int64)  (y0 : Int64) : Option Int64 :=
  ((f_X11_gcd x0 x2).bind fun z22 => (dzl z22 (some (y0 / z22))))
def f_X11_partOf (x0 : Int64) (x2 : Int64) (x4 : Int32) : Option Int64 :=
  (if (lg_cmp x0 (0 : Int64)) = 0 then (some (Int32.toInt64 x4)) else (if x4 = 0 then (f_X11_partOf_20 x0 x2  x0) else (f_X11_partOf_20 x0 x2  x2)))
/-! SoManyForgottenModel.feasts -/
def b_X11_feasts_11  (k2 : (Nat → Int32) → Int32 → Option (Nat → Int32)) (k11 : (Nat → Int32) → Int32 → Int32 → Option (Nat → Int32)) (u : Nat → Int32) (x1 : Int32) (x2 : Int32) : Option (Nat → Int32) :=
  (ck (0 : Int32) 99 (if (u (Int32.toNatClampNeg (0 : Int32))) ≤ x2 then (k2 u (x1 + 1)) else (if x1 = x2 then (k11 u x1 (x2 + 1)) else ((f_X11_isHere u x1).bind fun z25 => (if z25 = 0 then (k11 u x1 (x2 + 1)) else ((f_X11_isHere u x2).bind fun z33 => (if z33 = 0 then (k11 u x1 (x2 + 1)) else ((f_X11_by x1 x2).bind fun z42 => ((f_X11_by x1 x2).bind fun z48 => (ck z48 99 ((f_X11_held ((u (Int32.toNatClampNeg z48)) + (2 : Int32))).bind fun z54 => (ck z42 99 (k11 (upd u (Int32.toNatClampNeg z42) z54) x1 (x2 + 1))))))))))))))
def f_X11_feasts_11  (k2 : (Nat → Int32) → Int32 → Option (Nat → Int32)) : Nat → (Nat → Int32) → Int32 → Int32 → Option (Nat → Int32) := lq3 (b_X11_feasts_11  k2)
def b_X11_feasts_2   (k2 : (Nat → Int32) → Int32 → Option (Nat → Int32)) (u : Nat → Int32) (x1 : Int32) : Option (Nat → Int32) :=
  (ck (0 : Int32) 99 (if (u (Int32.toNatClampNeg (0 : Int32))) ≤ x1 then (some u) else (f_X11_feasts_11  k2 smN u x1 (0 : Int32))))
def f_X11_feasts_2   : Nat → (Nat → Int32) → Int32 → Option (Nat → Int32) := lq2 (b_X11_feasts_2  )
def f_X11_feasts (u : Nat → Int32) : Option (Nat → Int32) :=
  (f_X11_feasts_2   smN u (0 : Int32))
/-! SoManyForgottenModel.feast -/
def f_X11_feast_23   (u : DS) : Option (Int64 × (DS)) :=
  ((f_X11_noWide u ((-4) : Int32)).bind fun z26 => (some (z26.1, z26.2)))
def f_X11_feast_42   (u : DS) : Option (Int64 × (DS)) :=
  ((f_X11_noWide u ((-6) : Int32)).bind fun z45 => (some (z45.1, z45.2)))
def f_X11_feast_168 (x1 : Int32) (x2 : Int32) (x3 : Int32) (x4 : Int32) (k97 : DS → Int64 → Int64 → Int32 → Option (Int64 × (DS))) (k122 : DS → Int64 → Int64 → Int32 → Int64 → Int32 → Option (Int64 × (DS))) (u : DS) (x5 : Int64) (x7 : Int64) (x9 : Int32) (x10 : Int64) (x12 : Int32) : Option (Int64 × (DS)) :=
  ((f_X11_week (gD_m u)).bind fun z172 => (k122 (sD_m u z172) x5 x7 x9 x10 (x12 + 1)))
def f_X11_feast_148 (x1 : Int32) (x2 : Int32) (x3 : Int32) (x4 : Int32) (k97 : DS → Int64 → Int64 → Int32 → Option (Int64 × (DS))) (k122 : DS → Int64 → Int64 → Int32 → Int64 → Int32 → Option (Int64 × (DS))) (u : DS) (x5 : Int64) (x7 : Int64) (x9 : Int32) (x12 : Int32) (y0 : Int64) (y1 : Int64) : Option (Int64 × (DS)) :=
  ((f_X11_has x9 x12).bind fun z155 => (if z155 = 0 then (f_X11_feast_168 x1 x2 x3 x4 k97 k122 u x5 x7 x9 (y1 * y0) x12) else ((f_X11_feasts (gD_m u)).bind fun z165 => (f_X11_feast_168 x1 x2 x3 x4 k97 k122 (sD_m u z165) x5 x7 x9 (y1 * y0) x12))))
def b_X11_feast_122 (x1 : Int32) (x2 : Int32) (x3 : Int32) (x4 : Int32) (k97 : DS → Int64 → Int64 → Int32 → Option (Int64 × (DS))) (k122 : DS → Int64 → Int64 → Int32 → Int64 → Int32 → Option (Int64 × (DS))) (u : DS) (x5 : Int64) (x7 : Int64) (x9 : Int32) (x10 : Int64) (x12 : Int32) : Option (Int64 × (DS)) :=
  (if x2 ≤ x12 then ((f_X11_isHere (gD_m u) x1).bind fun z188 => (if z188 = 0 then (k97 u (x5 + (0 : Int64)) x7 (x9 + 1)) else (k97 u (x5 + x10) x7 (x9 + 1)))) else ((f_X11_has x9 x12).bind fun z134 => (if z134 = 0 then (f_X11_feast_148 x1 x2 x3 x4 k97 k122 u x5 x7 x9 x12 (Int32.toInt64 (x3 - (1 : Int32))) x10) else (f_X11_feast_148 x1 x2 x3 x4 k97 k122 u x5 x7 x9 x12 (1 : Int64) x10))))
def f_X11_feast_122 (x1 : Int32) (x2 : Int32) (x3 : Int32) (x4 : Int32) (k97 : DS → Int64 → Int64 → Int32 → Option (Int64 × (DS))) : Nat → DS → Int64 → Int64 → Int32 → Int64 → Int32 → Option (Int64 × (DS)) := lq6 (b_X11_feast_122 x1 x2 x3 x4 k97)
def b_X11_feast_97 (x1 : Int32) (x2 : Int32) (x3 : Int32) (x4 : Int32)  (k97 : DS → Int64 → Int64 → Int32 → Option (Int64 × (DS))) (u : DS) (x5 : Int64) (x7 : Int64) (x9 : Int32) : Option (Int64 × (DS)) :=
  (if ((1 : Int32) <<< (x2 &&& 31)) ≤ x9 then ((f_X11_partOf x5 x7 x4).bind fun z215 => (some (z215, u))) else ((f_X11_copies (gD_s u, gD_m u)).bind fun z116 => (f_X11_feast_122 x1 x2 x3 x4 k97 smN (sD_m (sD_s u z116.1) z116.2) x5 x7 x9 (1 : Int64) (0 : Int32))))
def f_X11_feast_97 (x1 : Int32) (x2 : Int32) (x3 : Int32) (x4 : Int32)  : Nat → DS → Int64 → Int64 → Int32 → Option (Int64 × (DS)) := lq4 (b_X11_feast_97 x1 x2 x3 x4 )
def b_X11_feast_75 (x1 : Int32) (x2 : Int32) (x3 : Int32) (x4 : Int32)  (k75 : DS → Int64 → Int64 → Int32 → Option (Int64 × (DS))) (u : DS) (x5 : Int64) (x7 : Int64) (x9 : Int32) : Option (Int64 × (DS)) :=
  (if x2 ≤ x9 then (f_X11_feast_97 x1 x2 x3 x4  smN u x5 x7 (0 : Int32)) else (k75 u x5 (x7 * (Int32.toInt64 x3)) (x9 + 1)))
def f_X11_feast_75 (x1 : Int32) (x2 : Int32) (x3 : Int32) (x4 : Int32)  : Nat → DS → Int64 → Int64 → Int32 → Option (Int64 × (DS)) := lq4 (b_X11_feast_75 x1 x2 x3 x4 )
def f_X11_feast (u : DS) (x1 : Int32) (x2 : Int32) (x3 : Int32) (x4 : Int32) : Option (Int64 × (DS)) :=
  ((f_X11_isOne u x1).bind fun z2 => (if z2 = 0 then ((f_X11_noWide u ((-1) : Int32)).bind fun z10 => (some (z10.1, z10.2))) else (if x2 < 0 then (f_X11_feast_23   u) else (if (2 : Int32) ≤ x3 then (if (7 : Int32) < x2 then (f_X11_feast_42   u) else (if x3 ≤ (20 : Int32) then ((f_X11_isIn x4 (0 : Int32) (1 : Int32)).bind fun z53 => (if z53 = 0 then ((f_X11_noWide u ((-2) : Int32)).bind fun z62 => (some (z62.1, z62.2))) else (f_X11_feast_75 x1 x2 x3 x4  smN u (0 : Int64) (1 : Int64) (0 : Int32)))) else (f_X11_feast_42   u))) else (f_X11_feast_23   u)))))
/-! SoManyForgottenModel.knownAll -/
def b_X11_knownAll_4 (u : Nat → Int32)  (k4 : Int32 → Int32 → Option Int32) (x1 : Int32) (x2 : Int32) : Option Int32 :=
  (ck (0 : Int32) 99 (if (u (Int32.toNatClampNeg (0 : Int32))) ≤ x2 then (some x1) else ((f_X11_isHere u x2).bind fun z14 => (if z14 = 0 then (k4 (x1 + (0 : Int32)) (x2 + 1)) else ((f_X11_knownIn u x2).bind fun z22 => (k4 (x1 + z22) (x2 + 1)))))))
def f_X11_knownAll_4 (u : Nat → Int32)  : Nat → Int32 → Int32 → Option Int32 := lq2 (b_X11_knownAll_4 u )
def f_X11_knownAll (u : Nat → Int32) : Option Int32 :=
  (f_X11_knownAll_4 u  smN (0 : Int32) (0 : Int32))
/-! SoManyForgottenModel.mean -/
def f_X11_mean (u : DS) (x1 : Int32) : Option (Int64 × (DS)) :=
  ((f_X11_isIn x1 (0 : Int32) (1 : Int32)).bind fun z3 => (if z3 = 0 then ((f_X11_noWide u ((-2) : Int32)).bind fun z38 => (some (z38.1, z38.2))) else ((f_X11_knownAll (gD_s u)).bind fun z13 => ((f_X11_hereIn (gD_s u)).bind fun z21 => ((f_X11_bits z21).bind fun z24 => ((f_X11_partOf (Int32.toInt64 z13) (Int32.toInt64 z24) x1).bind fun z29 => (some (z29, u))))))))
/-! SoManyForgottenModel.whatIs -/
def f_X11_whatIs_118 (x1 : Int32) (x2 : Int32) (x3 : Int32) (k37 : DS → Int32 → Int32 → Option (Int32 × (DS))) (k82 : DS → Int32 → Int32 → Int32 → Int32 → Option (Int32 × (DS))) (u : DS) (x4 : Int32) (x5 : Int32) (x7 : Int32) (y0 : Int32) (y1 : Int32) : Option (Int32 × (DS)) :=
  ((f_X11_week (gD_m u)).bind fun z125 => (k82 (sD_m u z125) x4 x5 (y1 &&& y0) (x7 + 1)))
def b_X11_whatIs_82 (x1 : Int32) (x2 : Int32) (x3 : Int32) (k37 : DS → Int32 → Int32 → Option (Int32 × (DS))) (k82 : DS → Int32 → Int32 → Int32 → Int32 → Option (Int32 × (DS))) (u : DS) (x4 : Int32) (x5 : Int32) (x6 : Int32) (x7 : Int32) : Option (Int32 × (DS)) :=
  (if (gD_rowN u) ≤ x7 then (if x6 = 0 then (k37 u (x4 ||| (0 : Int32)) (x5 + 1)) else (k37 u (x4 ||| ((1 : Int32) <<< (x5 &&& 31))) (x5 + 1))) else ((f_X11_by x2 x1).bind fun z99 => (ck z99 99 (ck x7 16 (if ((gD_m u) (Int32.toNatClampNeg z99)) = ((gD_row u) (Int32.toNatClampNeg x7)) then (f_X11_whatIs_118 x1 x2 x3 k37 k82 u x4 x5 x7 (1 : Int32) x6) else (f_X11_whatIs_118 x1 x2 x3 k37 k82 u x4 x5 x7 (0 : Int32) x6))))))
def f_X11_whatIs_82 (x1 : Int32) (x2 : Int32) (x3 : Int32) (k37 : DS → Int32 → Int32 → Option (Int32 × (DS))) : Nat → DS → Int32 → Int32 → Int32 → Int32 → Option (Int32 × (DS)) := lq5 (b_X11_whatIs_82 x1 x2 x3 k37)
def f_X11_whatIs_50 (x1 : Int32) (x2 : Int32) (x3 : Int32) (k37 : DS → Int32 → Int32 → Option (Int32 × (DS))) (u : DS) (x4 : Int32) (x5 : Int32) (y0 : Int32) (y1 : Int32) : Option (Int32 × (DS)) :=
  (if y0 ≤ y1 then (some (x4, u)) else ((f_X11_copies (gD_s u, gD_m u)).bind fun z64 => ((f_X11_of x1 x3).bind fun z73 => (ck z73 99 (f_X11_whatIs_82 x1 x2 x3 k37 smN (sD_m (sD_m (sD_s u z64.1) z64.2) (upd (gD_m (sD_m (sD_s u z64.1) z64.2)) (Int32.toNatClampNeg z73) x5)) x4 x5 (1 : Int32) (0 : Int32))))))
def b_X11_whatIs_37 (x1 : Int32) (x2 : Int32) (x3 : Int32)  (k37 : DS → Int32 → Int32 → Option (Int32 × (DS))) (u : DS) (x4 : Int32) (x5 : Int32) : Option (Int32 × (DS)) :=
  (if x3 = 0 then (f_X11_whatIs_50 x1 x2 x3 k37 u x4 x5 (6 : Int32) x5) else (f_X11_whatIs_50 x1 x2 x3 k37 u x4 x5 (10 : Int32) x5))
def f_X11_whatIs_37 (x1 : Int32) (x2 : Int32) (x3 : Int32)  : Nat → DS → Int32 → Int32 → Option (Int32 × (DS)) := lq3 (b_X11_whatIs_37 x1 x2 x3 )
def f_X11_whatIs (u : DS) (x1 : Int32) (x2 : Int32) (x3 : Int32) : Option (Int32 × (DS)) :=
  ((f_X11_areTwo u x1 x2).bind fun z3 => (if z3 = 0 then ((f_X11_no u ((-1) : Int32)).bind fun z11 => (some (z11.1, z11.2))) else ((f_X11_isIn x3 (0 : Int32) (1 : Int32)).bind fun z18 => (if z18 = 0 then ((f_X11_no u ((-2) : Int32)).bind fun z27 => (some (z27.1, z27.2))) else (f_X11_whatIs_37 x1 x2 x3  smN u (0 : Int32) (0 : Int32))))))
/-! SoManyForgottenModel.row -/
def f_X11_row_24 (x1 : Int32)  (u : DS) (x2 : Int32) : Option (Int32 × (DS)) :=
  (if x2 = 0 then (ck (gD_rowN u) 16 ((some ((gD_rowN (sD_row u (upd (gD_row u) (Int32.toNatClampNeg (gD_rowN u)) x1))) + (1 : Int32))).bind fun v51 => (some ((gD_rowN (sD_rowN (sD_row u (upd (gD_row u) (Int32.toNatClampNeg (gD_rowN u)) x1)) v51)), (sD_rowN (sD_row u (upd (gD_row u) (Int32.toNatClampNeg (gD_rowN u)) x1)) v51))))) else ((f_X11_no u x2).bind fun z30 => (some (z30.1, z30.2))))
def f_X11_row (u : DS) (x1 : Int32) : Option (Int32 × (DS)) :=
  ((f_X11_wrongBy x1 (0 : Int32) (99 : Int32)).bind fun z4 => (if z4 = 0 then (if (gD_rowN u) = (16 : Int32) then (f_X11_row_24 x1  u ((-6) : Int32)) else (f_X11_row_24 x1  u z4)) else (f_X11_row_24 x1  u z4)))
/-! SoManyForgottenModel.judge -/
def b_X11_judge_23   (k23 : DS → Int32 → Int32 → Option (Int32 × (DS))) (u : DS) (x1 : Int32) (x2 : Int32) : Option (Int32 × (DS)) :=
  (if x1 ≤ x2 then (some (((-9) : Int32), u)) else ((f_X11_hereIn (gD_m u)).bind fun z32 => ((f_X11_bits z32).bind fun z35 => (ck x2 16 (if z35 = ((gD_row u) (Int32.toNatClampNeg x2)) then ((f_X11_week (gD_m u)).bind fun z53 => (k23 (sD_m u z53) x1 (x2 + 1))) else (some (x2, u)))))))
def f_X11_judge_23   : Nat → DS → Int32 → Int32 → Option (Int32 × (DS)) := lq3 (b_X11_judge_23  )
def f_X11_judge (u : DS) : Option (Int32 × (DS)) :=
  ((f_X11_copies (gD_s (sD_rowN u (0 : Int32)), gD_m (sD_rowN u (0 : Int32)))).bind fun z18 => (f_X11_judge_23   smN (sD_m (sD_s (sD_rowN u (0 : Int32)) z18.1) z18.2) (gD_rowN u) (0 : Int32)))
/-! SoManyForgottenModel.clear -/
def f_X11_clear (u : DS) : Option (Int32 × (DS)) :=
  (some ((gD_rowN u), (sD_rowN u (0 : Int32))))
/-! SoManyForgottenModel.drawn -/
def f_X11_drawn (u : DS) (x1 : Int32) : Option (Int32 × (DS)) :=
  ((some (((gD_seed u) * (1664525 : Int32)) + (1013904223 : Int32))).bind fun v11 => (dz x1 (some (((((gD_seed (sD_seed u v11)) &&& (2147483647 : Int32)) / (256 : Int32)) - (((gD_seed (sD_seed u v11)) &&& (2147483647 : Int32)) / (256 : Int32)) / x1 * x1), (sD_seed u v11)))))
/-! SoManyForgottenModel.lots -/
def b_X11_lots_86 (x1 : Int32) (x3 : Int32) (k52 : DS → Int32 → Int32 → Option (Int32 × (DS))) (k72 : DS → Int32 → Int32 → Int32 → Option (Int32 × (DS))) (k86 : DS → Int32 → Int32 → Int32 → Int32 → Option (Int32 × (DS))) (u : DS) (x4 : Int32) (x5 : Int32) (x6 : Int32) (x7 : Int32) : Option (Int32 × (DS)) :=
  (ck (0 : Int32) 99 (if ((gD_s u) (Int32.toNatClampNeg (0 : Int32))) ≤ x7 then (k72 u x4 x5 (x6 + 1)) else (if x6 = x7 then (k86 u x4 x5 x6 (x7 + 1)) else ((f_X11_by x6 x7).bind fun z112 => ((f_X11_drawn u (100 : Int32)).bind fun z118 => (ck z112 99 (k86 (sD_m z118.2 (upd (gD_m z118.2) (Int32.toNatClampNeg z112) z118.1)) x4 x5 x6 (x7 + 1))))))))
def f_X11_lots_86 (x1 : Int32) (x3 : Int32) (k52 : DS → Int32 → Int32 → Option (Int32 × (DS))) (k72 : DS → Int32 → Int32 → Int32 → Option (Int32 × (DS))) : Nat → DS → Int32 → Int32 → Int32 → Int32 → Option (Int32 × (DS)) := lq5 (b_X11_lots_86 x1 x3 k52 k72)
def b_X11_lots_72 (x1 : Int32) (x3 : Int32) (k52 : DS → Int32 → Int32 → Option (Int32 × (DS))) (k72 : DS → Int32 → Int32 → Int32 → Option (Int32 × (DS))) (u : DS) (x4 : Int32) (x5 : Int32) (x6 : Int32) : Option (Int32 × (DS)) :=
  (ck (0 : Int32) 99 (if ((gD_s u) (Int32.toNatClampNeg (0 : Int32))) ≤ x6 then ((f_X11_weeksOn (gD_m u) (20 : Int32)).bind fun z140 => (if x3 = 0 then ((f_X11_hereIn (gD_m (sD_m u z140))).bind fun z153 => ((f_X11_bits z153).bind fun z156 => (k52 (sD_m u z140) (x4 + z156) (x5 + 1)))) else ((f_X11_knownAll (gD_m (sD_m u z140))).bind fun z166 => (k52 (sD_m u z140) (x4 + z166) (x5 + 1))))) else (f_X11_lots_86 x1 x3 k52 k72 smN u x4 x5 x6 (0 : Int32))))
def f_X11_lots_72 (x1 : Int32) (x3 : Int32) (k52 : DS → Int32 → Int32 → Option (Int32 × (DS))) : Nat → DS → Int32 → Int32 → Int32 → Option (Int32 × (DS)) := lq4 (b_X11_lots_72 x1 x3 k52)
def b_X11_lots_52 (x1 : Int32) (x3 : Int32)  (k52 : DS → Int32 → Int32 → Option (Int32 × (DS))) (u : DS) (x4 : Int32) (x5 : Int32) : Option (Int32 × (DS)) :=
  (if x1 ≤ x5 then (some (x4, u)) else ((f_X11_copies (gD_s u, gD_m u)).bind fun z66 => (f_X11_lots_72 x1 x3 k52 smN (sD_m (sD_s u z66.1) z66.2) x4 x5 (0 : Int32))))
def f_X11_lots_52 (x1 : Int32) (x3 : Int32)  : Nat → DS → Int32 → Int32 → Option (Int32 × (DS)) := lq3 (b_X11_lots_52 x1 x3 )
def f_X11_lots (u : DS) (x1 : Int32) (x2 : Int32) (x3 : Int32) : Option (Int32 × (DS)) :=
  (if (1 : Int32) ≤ x1 then (if x1 ≤ (20 : Int32) then ((f_X11_isIn x3 (0 : Int32) (1 : Int32)).bind fun z28 => (if z28 = 0 then ((f_X11_no u ((-2) : Int32)).bind fun z37 => (some (z37.1, z37.2))) else (f_X11_lots_52 x1 x3  smN (sD_seed u x2) (0 : Int32) (0 : Int32)))) else ((f_X11_no u ((-6) : Int32)).bind fun z21 => (some (z21.1, z21.2)))) else ((f_X11_no u ((-4) : Int32)).bind fun z8 => (some (z8.1, z8.2))))
/-! SoManyForgottenModel.image -/
def f_X11_image (u : DS) : Option (Int32 × (DS)) :=
  ((f_X11_copies (gD_s u, gD_image u)).bind fun z8 => (ck (1 : Int32) 99 (some (((gD_s (sD_has (sD_image (sD_s u z8.1) z8.2) (1 : Int32))) (Int32.toNatClampNeg (1 : Int32))), (sD_has (sD_image (sD_s u z8.1) z8.2) (1 : Int32))))))
/-! SoManyForgottenModel.on -/
def f_X11_on (u : DS) : Option (Int32 × (DS)) :=
  (if (gD_has u) = 0 then ((f_X11_no u ((-3) : Int32)).bind fun z10 => (some (z10.1, z10.2))) else ((f_X11_copies (gD_image u, gD_s u)).bind fun z22 => (ck (1 : Int32) 99 (some (((gD_s (sD_s (sD_image u z22.1) z22.2)) (Int32.toNatClampNeg (1 : Int32))), (sD_s (sD_image u z22.1) z22.2))))))
/-! SoManyForgottenModel.count -/
def b_X11_count_104 (u : DS)  (k104 : Int32 → Int32 → Option Int32) (x2 : Int32) (x3 : Int32) : Option Int32 :=
  (ck (0 : Int32) 99 (if ((gD_s u) (Int32.toNatClampNeg (0 : Int32))) ≤ x3 then (some x2) else ((f_X11_of x3 (3 : Int32)).bind fun z121 => (ck z121 99 (k104 (x2 + ((gD_s u) (Int32.toNatClampNeg z121))) (x3 + 1))))))
def f_X11_count_104 (u : DS)  : Nat → Int32 → Int32 → Option Int32 := lq2 (b_X11_count_104 u )
def f_X11_count (u : DS) (x1 : Int32) : Option Int32 :=
  ((f_X11_isIn x1 (11 : Int32) (16 : Int32)).bind fun z5 => (if z5 = 0 then (if x1 = 0 then (ck x1 99 (some ((gD_s u) (Int32.toNatClampNeg x1)))) else (if x1 = 1 then (ck x1 99 (some ((gD_s u) (Int32.toNatClampNeg x1)))) else (if x1 = 2 then ((f_X11_hereIn (gD_s u)).bind fun z83 => (some z83)) else (if x1 = 3 then (ck (2 : Int32) 99 (some ((gD_s u) (Int32.toNatClampNeg (2 : Int32))))) else (if x1 = 4 then ((f_X11_knownAll (gD_s u)).bind fun z98 => (some z98)) else (if x1 = 5 then (f_X11_count_104 u  smN (0 : Int32) (0 : Int32)) else (if x1 = 6 then (some (gD_rowN u)) else (if x1 = 7 then (some (gD_letN u)) else (some ((-9) : Int32)))))))))) else (ck (x1 - (10 : Int32)) 7 (some ((gD_ref u) (Int32.toNatClampNeg (x1 - (10 : Int32))))))))
