/-! the constants at the law's start -/
def tmS (i : Nat) : Term := .string RX7 (kxS i)
set_option maxRecDepth 100000 in
set_option maxHeartbeats 4000000 in
theorem ls_ex {s : State} {b : Nat} (hs : ∀ c ∈ flatC (Jvm.Cond.and given_1 narrow_1), c.before #[Value.ref b] s = true) : ∀ i : Nat, i < 9 → (Cond.exactly (tmS i) "java/lang/String").before #[Value.ref b] s = true := by
  intro i hi
  match i, hi with
  | 0, _ => exact hs (Cond.exactly (.string "SoManyForgotten$Telling" 31) "java/lang/String") (by decide +kernel)
  | 1, _ => exact hs (Cond.exactly (.string "SoManyForgotten$Telling" 54) "java/lang/String") (by decide +kernel)
  | 2, _ => exact hs (Cond.exactly (.string "SoManyForgotten$Telling" 56) "java/lang/String") (by decide +kernel)
  | 3, _ => exact hs (Cond.exactly (.string "SoManyForgotten$Telling" 58) "java/lang/String") (by decide +kernel)
  | 4, _ => exact hs (Cond.exactly (.string "SoManyForgotten$Telling" 60) "java/lang/String") (by decide +kernel)
  | 5, _ => exact hs (Cond.exactly (.string "SoManyForgotten$Telling" 62) "java/lang/String") (by decide +kernel)
  | 6, _ => exact hs (Cond.exactly (.string "SoManyForgotten$Telling" 64) "java/lang/String") (by decide +kernel)
  | 7, _ => exact hs (Cond.exactly (.string "SoManyForgotten$Telling" 66) "java/lang/String") (by decide +kernel)
  | 8, _ => exact hs (Cond.exactly (.string "SoManyForgotten$Telling" 68) "java/lang/String") (by decide +kernel)
set_option maxRecDepth 100000 in
set_option maxHeartbeats 4000000 in
theorem ls_co {s : State} {b : Nat} (hs : ∀ c ∈ flatC (Jvm.Cond.and given_1 narrow_1), c.before #[Value.ref b] s = true) : ∀ i : Nat, i < 9 → (Cond.eq (.field (tmS i) "java/lang/String" "coder" "B") (.int 0)).before #[Value.ref b] s = true := by
  intro i hi
  match i, hi with
  | 0, _ => exact hs (Cond.eq (.field (.string "SoManyForgotten$Telling" 31) "java/lang/String" "coder" "B") (.int 0)) (by decide +kernel)
  | 1, _ => exact hs (Cond.eq (.field (.string "SoManyForgotten$Telling" 54) "java/lang/String" "coder" "B") (.int 0)) (by decide +kernel)
  | 2, _ => exact hs (Cond.eq (.field (.string "SoManyForgotten$Telling" 56) "java/lang/String" "coder" "B") (.int 0)) (by decide +kernel)
  | 3, _ => exact hs (Cond.eq (.field (.string "SoManyForgotten$Telling" 58) "java/lang/String" "coder" "B") (.int 0)) (by decide +kernel)
  | 4, _ => exact hs (Cond.eq (.field (.string "SoManyForgotten$Telling" 60) "java/lang/String" "coder" "B") (.int 0)) (by decide +kernel)
  | 5, _ => exact hs (Cond.eq (.field (.string "SoManyForgotten$Telling" 62) "java/lang/String" "coder" "B") (.int 0)) (by decide +kernel)
  | 6, _ => exact hs (Cond.eq (.field (.string "SoManyForgotten$Telling" 64) "java/lang/String" "coder" "B") (.int 0)) (by decide +kernel)
  | 7, _ => exact hs (Cond.eq (.field (.string "SoManyForgotten$Telling" 66) "java/lang/String" "coder" "B") (.int 0)) (by decide +kernel)
  | 8, _ => exact hs (Cond.eq (.field (.string "SoManyForgotten$Telling" 68) "java/lang/String" "coder" "B") (.int 0)) (by decide +kernel)
set_option maxRecDepth 100000 in
set_option maxHeartbeats 4000000 in
theorem ls_ar {s : State} {b : Nat} (hs : ∀ c ∈ flatC (Jvm.Cond.and given_1 narrow_1), c.before #[Value.ref b] s = true) : ∀ i : Nat, i < 9 → (Cond.arrayOf (.field (tmS i) "java/lang/String" "value" "[B") .byte).before #[Value.ref b] s = true := by
  intro i hi
  match i, hi with
  | 0, _ => exact hs (Cond.arrayOf (.field (.string "SoManyForgotten$Telling" 31) "java/lang/String" "value" "[B") .byte) (by decide +kernel)
  | 1, _ => exact hs (Cond.arrayOf (.field (.string "SoManyForgotten$Telling" 54) "java/lang/String" "value" "[B") .byte) (by decide +kernel)
  | 2, _ => exact hs (Cond.arrayOf (.field (.string "SoManyForgotten$Telling" 56) "java/lang/String" "value" "[B") .byte) (by decide +kernel)
  | 3, _ => exact hs (Cond.arrayOf (.field (.string "SoManyForgotten$Telling" 58) "java/lang/String" "value" "[B") .byte) (by decide +kernel)
  | 4, _ => exact hs (Cond.arrayOf (.field (.string "SoManyForgotten$Telling" 60) "java/lang/String" "value" "[B") .byte) (by decide +kernel)
  | 5, _ => exact hs (Cond.arrayOf (.field (.string "SoManyForgotten$Telling" 62) "java/lang/String" "value" "[B") .byte) (by decide +kernel)
  | 6, _ => exact hs (Cond.arrayOf (.field (.string "SoManyForgotten$Telling" 64) "java/lang/String" "value" "[B") .byte) (by decide +kernel)
  | 7, _ => exact hs (Cond.arrayOf (.field (.string "SoManyForgotten$Telling" 66) "java/lang/String" "value" "[B") .byte) (by decide +kernel)
  | 8, _ => exact hs (Cond.arrayOf (.field (.string "SoManyForgotten$Telling" 68) "java/lang/String" "value" "[B") .byte) (by decide +kernel)
set_option maxRecDepth 100000 in
set_option maxHeartbeats 4000000 in
theorem ls_le {s : State} {b : Nat} (hs : ∀ c ∈ flatC (Jvm.Cond.and given_1 narrow_1), c.before #[Value.ref b] s = true) : ∀ i : Nat, i < 9 → (Cond.eq (.length (.field (tmS i) "java/lang/String" "value" "[B")) (.int (Int32.ofNat (lnT.getD i 0)))).before #[Value.ref b] s = true := by
  intro i hi
  match i, hi with
  | 0, _ => exact hs (Cond.eq (.length (.field (.string "SoManyForgotten$Telling" 31) "java/lang/String" "value" "[B")) (.int 0)) (by decide +kernel)
  | 1, _ => exact hs (Cond.eq (.length (.field (.string "SoManyForgotten$Telling" 54) "java/lang/String" "value" "[B")) (.int 4)) (by decide +kernel)
  | 2, _ => exact hs (Cond.eq (.length (.field (.string "SoManyForgotten$Telling" 56) "java/lang/String" "value" "[B")) (.int 6)) (by decide +kernel)
  | 3, _ => exact hs (Cond.eq (.length (.field (.string "SoManyForgotten$Telling" 58) "java/lang/String" "value" "[B")) (.int 5)) (by decide +kernel)
  | 4, _ => exact hs (Cond.eq (.length (.field (.string "SoManyForgotten$Telling" 60) "java/lang/String" "value" "[B")) (.int 4)) (by decide +kernel)
  | 5, _ => exact hs (Cond.eq (.length (.field (.string "SoManyForgotten$Telling" 62) "java/lang/String" "value" "[B")) (.int 3)) (by decide +kernel)
  | 6, _ => exact hs (Cond.eq (.length (.field (.string "SoManyForgotten$Telling" 64) "java/lang/String" "value" "[B")) (.int 3)) (by decide +kernel)
  | 7, _ => exact hs (Cond.eq (.length (.field (.string "SoManyForgotten$Telling" 66) "java/lang/String" "value" "[B")) (.int 4)) (by decide +kernel)
  | 8, _ => exact hs (Cond.eq (.length (.field (.string "SoManyForgotten$Telling" 68) "java/lang/String" "value" "[B")) (.int 6)) (by decide +kernel)
set_option maxRecDepth 100000 in
set_option maxHeartbeats 4000000 in
theorem ls_el {s : State} {b : Nat} (hs : ∀ c ∈ flatC (Jvm.Cond.and given_1 narrow_1), c.before #[Value.ref b] s = true) : ∀ i : Nat, i < 9 → ∀ j : Nat, j < lnT.getD i 0 → (Cond.eq (.elem (.field (tmS i) "java/lang/String" "value" "[B") (.int (Int32.ofNat j))) (.int ((shT.getD i []).getD j 0))).before #[Value.ref b] s = true := by
  intro i hi j hj
  match i, hi, j, hj with
  | 1, _, 0, _ => exact hs (Cond.eq (.elem (.field (.string "SoManyForgotten$Telling" 54) "java/lang/String" "value" "[B") (.int 0)) (.int 112)) (by decide +kernel)
  | 1, _, 1, _ => exact hs (Cond.eq (.elem (.field (.string "SoManyForgotten$Telling" 54) "java/lang/String" "value" "[B") (.int 1)) (.int 107)) (by decide +kernel)
  | 1, _, 2, _ => exact hs (Cond.eq (.elem (.field (.string "SoManyForgotten$Telling" 54) "java/lang/String" "value" "[B") (.int 2)) (.int 48)) (by decide +kernel)
  | 1, _, 3, _ => exact hs (Cond.eq (.elem (.field (.string "SoManyForgotten$Telling" 54) "java/lang/String" "value" "[B") (.int 3)) (.int 59)) (by decide +kernel)
  | 2, _, 0, _ => exact hs (Cond.eq (.elem (.field (.string "SoManyForgotten$Telling" 56) "java/lang/String" "value" "[B") (.int 0)) (.int 114)) (by decide +kernel)
  | 2, _, 1, _ => exact hs (Cond.eq (.elem (.field (.string "SoManyForgotten$Telling" 56) "java/lang/String" "value" "[B") (.int 1)) (.int 48)) (by decide +kernel)
  | 2, _, 2, _ => exact hs (Cond.eq (.elem (.field (.string "SoManyForgotten$Telling" 56) "java/lang/String" "value" "[B") (.int 2)) (.int 48)) (by decide +kernel)
  | 2, _, 3, _ => exact hs (Cond.eq (.elem (.field (.string "SoManyForgotten$Telling" 56) "java/lang/String" "value" "[B") (.int 3)) (.int 48)) (by decide +kernel)
  | 2, _, 4, _ => exact hs (Cond.eq (.elem (.field (.string "SoManyForgotten$Telling" 56) "java/lang/String" "value" "[B") (.int 4)) (.int 48)) (by decide +kernel)
  | 2, _, 5, _ => exact hs (Cond.eq (.elem (.field (.string "SoManyForgotten$Telling" 56) "java/lang/String" "value" "[B") (.int 5)) (.int 59)) (by decide +kernel)
  | 3, _, 0, _ => exact hs (Cond.eq (.elem (.field (.string "SoManyForgotten$Telling" 58) "java/lang/String" "value" "[B") (.int 0)) (.int 111)) (by decide +kernel)
  | 3, _, 1, _ => exact hs (Cond.eq (.elem (.field (.string "SoManyForgotten$Telling" 58) "java/lang/String" "value" "[B") (.int 1)) (.int 48)) (by decide +kernel)
  | 3, _, 2, _ => exact hs (Cond.eq (.elem (.field (.string "SoManyForgotten$Telling" 58) "java/lang/String" "value" "[B") (.int 2)) (.int 48)) (by decide +kernel)
  | 3, _, 3, _ => exact hs (Cond.eq (.elem (.field (.string "SoManyForgotten$Telling" 58) "java/lang/String" "value" "[B") (.int 3)) (.int 48)) (by decide +kernel)
  | 3, _, 4, _ => exact hs (Cond.eq (.elem (.field (.string "SoManyForgotten$Telling" 58) "java/lang/String" "value" "[B") (.int 4)) (.int 59)) (by decide +kernel)
  | 4, _, 0, _ => exact hs (Cond.eq (.elem (.field (.string "SoManyForgotten$Telling" 60) "java/lang/String" "value" "[B") (.int 0)) (.int 115)) (by decide +kernel)
  | 4, _, 1, _ => exact hs (Cond.eq (.elem (.field (.string "SoManyForgotten$Telling" 60) "java/lang/String" "value" "[B") (.int 1)) (.int 48)) (by decide +kernel)
  | 4, _, 2, _ => exact hs (Cond.eq (.elem (.field (.string "SoManyForgotten$Telling" 60) "java/lang/String" "value" "[B") (.int 2)) (.int 48)) (by decide +kernel)
  | 4, _, 3, _ => exact hs (Cond.eq (.elem (.field (.string "SoManyForgotten$Telling" 60) "java/lang/String" "value" "[B") (.int 3)) (.int 59)) (by decide +kernel)
  | 5, _, 0, _ => exact hs (Cond.eq (.elem (.field (.string "SoManyForgotten$Telling" 62) "java/lang/String" "value" "[B") (.int 0)) (.int 98)) (by decide +kernel)
  | 5, _, 1, _ => exact hs (Cond.eq (.elem (.field (.string "SoManyForgotten$Telling" 62) "java/lang/String" "value" "[B") (.int 1)) (.int 48)) (by decide +kernel)
  | 5, _, 2, _ => exact hs (Cond.eq (.elem (.field (.string "SoManyForgotten$Telling" 62) "java/lang/String" "value" "[B") (.int 2)) (.int 59)) (by decide +kernel)
  | 6, _, 0, _ => exact hs (Cond.eq (.elem (.field (.string "SoManyForgotten$Telling" 64) "java/lang/String" "value" "[B") (.int 0)) (.int 110)) (by decide +kernel)
  | 6, _, 1, _ => exact hs (Cond.eq (.elem (.field (.string "SoManyForgotten$Telling" 64) "java/lang/String" "value" "[B") (.int 1)) (.int 48)) (by decide +kernel)
  | 6, _, 2, _ => exact hs (Cond.eq (.elem (.field (.string "SoManyForgotten$Telling" 64) "java/lang/String" "value" "[B") (.int 2)) (.int 59)) (by decide +kernel)
  | 7, _, 0, _ => exact hs (Cond.eq (.elem (.field (.string "SoManyForgotten$Telling" 66) "java/lang/String" "value" "[B") (.int 0)) (.int 119)) (by decide +kernel)
  | 7, _, 1, _ => exact hs (Cond.eq (.elem (.field (.string "SoManyForgotten$Telling" 66) "java/lang/String" "value" "[B") (.int 1)) (.int 48)) (by decide +kernel)
  | 7, _, 2, _ => exact hs (Cond.eq (.elem (.field (.string "SoManyForgotten$Telling" 66) "java/lang/String" "value" "[B") (.int 2)) (.int 48)) (by decide +kernel)
  | 7, _, 3, _ => exact hs (Cond.eq (.elem (.field (.string "SoManyForgotten$Telling" 66) "java/lang/String" "value" "[B") (.int 3)) (.int 59)) (by decide +kernel)
  | 8, _, 0, _ => exact hs (Cond.eq (.elem (.field (.string "SoManyForgotten$Telling" 68) "java/lang/String" "value" "[B") (.int 0)) (.int 112)) (by decide +kernel)
  | 8, _, 1, _ => exact hs (Cond.eq (.elem (.field (.string "SoManyForgotten$Telling" 68) "java/lang/String" "value" "[B") (.int 1)) (.int 100)) (by decide +kernel)
  | 8, _, 2, _ => exact hs (Cond.eq (.elem (.field (.string "SoManyForgotten$Telling" 68) "java/lang/String" "value" "[B") (.int 2)) (.int 107)) (by decide +kernel)
  | 8, _, 3, _ => exact hs (Cond.eq (.elem (.field (.string "SoManyForgotten$Telling" 68) "java/lang/String" "value" "[B") (.int 3)) (.int 113)) (by decide +kernel)
  | 8, _, 4, _ => exact hs (Cond.eq (.elem (.field (.string "SoManyForgotten$Telling" 68) "java/lang/String" "value" "[B") (.int 4)) (.int 120)) (by decide +kernel)
  | 8, _, 5, _ => exact hs (Cond.eq (.elem (.field (.string "SoManyForgotten$Telling" 68) "java/lang/String" "value" "[B") (.int 5)) (.int 119)) (by decide +kernel)
  | 0, _, j + 0, h => exact absurd h (by show ¬ (j + 0 < 0); omega)
  | 1, _, j + 4, h => exact absurd h (by show ¬ (j + 4 < 4); omega)
  | 2, _, j + 6, h => exact absurd h (by show ¬ (j + 6 < 6); omega)
  | 3, _, j + 5, h => exact absurd h (by show ¬ (j + 5 < 5); omega)
  | 4, _, j + 4, h => exact absurd h (by show ¬ (j + 4 < 4); omega)
  | 5, _, j + 3, h => exact absurd h (by show ¬ (j + 3 < 3); omega)
  | 6, _, j + 3, h => exact absurd h (by show ¬ (j + 3 < 3); omega)
  | 7, _, j + 4, h => exact absurd h (by show ¬ (j + 4 < 4); omega)
  | 8, _, j + 6, h => exact absurd h (by show ¬ (j + 6 < 6); omega)
set_option maxRecDepth 100000 in
set_option maxHeartbeats 4000000 in
theorem ls_lt {s : State} {b : Nat} (hs : ∀ c ∈ flatC (Jvm.Cond.and given_1 narrow_1), c.before #[Value.ref b] s = true) : ∀ i j : Nat, i < j → j < 9 → (Cond.not (Cond.eq (tmS i) (tmS j))).before #[Value.ref b] s = true := by
  intro i j hij hj
  match j, hj, i, hij with
  | 1, _, 0, _ => exact hs (Cond.not (Cond.eq (.string "SoManyForgotten$Telling" 31) (.string "SoManyForgotten$Telling" 54))) (by decide +kernel)
  | 2, _, 0, _ => exact hs (Cond.not (Cond.eq (.string "SoManyForgotten$Telling" 31) (.string "SoManyForgotten$Telling" 56))) (by decide +kernel)
  | 2, _, 1, _ => exact hs (Cond.not (Cond.eq (.string "SoManyForgotten$Telling" 54) (.string "SoManyForgotten$Telling" 56))) (by decide +kernel)
  | 3, _, 0, _ => exact hs (Cond.not (Cond.eq (.string "SoManyForgotten$Telling" 31) (.string "SoManyForgotten$Telling" 58))) (by decide +kernel)
  | 3, _, 1, _ => exact hs (Cond.not (Cond.eq (.string "SoManyForgotten$Telling" 54) (.string "SoManyForgotten$Telling" 58))) (by decide +kernel)
  | 3, _, 2, _ => exact hs (Cond.not (Cond.eq (.string "SoManyForgotten$Telling" 56) (.string "SoManyForgotten$Telling" 58))) (by decide +kernel)
  | 4, _, 0, _ => exact hs (Cond.not (Cond.eq (.string "SoManyForgotten$Telling" 31) (.string "SoManyForgotten$Telling" 60))) (by decide +kernel)
  | 4, _, 1, _ => exact hs (Cond.not (Cond.eq (.string "SoManyForgotten$Telling" 54) (.string "SoManyForgotten$Telling" 60))) (by decide +kernel)
  | 4, _, 2, _ => exact hs (Cond.not (Cond.eq (.string "SoManyForgotten$Telling" 56) (.string "SoManyForgotten$Telling" 60))) (by decide +kernel)
  | 4, _, 3, _ => exact hs (Cond.not (Cond.eq (.string "SoManyForgotten$Telling" 58) (.string "SoManyForgotten$Telling" 60))) (by decide +kernel)
  | 5, _, 0, _ => exact hs (Cond.not (Cond.eq (.string "SoManyForgotten$Telling" 31) (.string "SoManyForgotten$Telling" 62))) (by decide +kernel)
  | 5, _, 1, _ => exact hs (Cond.not (Cond.eq (.string "SoManyForgotten$Telling" 54) (.string "SoManyForgotten$Telling" 62))) (by decide +kernel)
  | 5, _, 2, _ => exact hs (Cond.not (Cond.eq (.string "SoManyForgotten$Telling" 56) (.string "SoManyForgotten$Telling" 62))) (by decide +kernel)
  | 5, _, 3, _ => exact hs (Cond.not (Cond.eq (.string "SoManyForgotten$Telling" 58) (.string "SoManyForgotten$Telling" 62))) (by decide +kernel)
  | 5, _, 4, _ => exact hs (Cond.not (Cond.eq (.string "SoManyForgotten$Telling" 60) (.string "SoManyForgotten$Telling" 62))) (by decide +kernel)
  | 6, _, 0, _ => exact hs (Cond.not (Cond.eq (.string "SoManyForgotten$Telling" 31) (.string "SoManyForgotten$Telling" 64))) (by decide +kernel)
  | 6, _, 1, _ => exact hs (Cond.not (Cond.eq (.string "SoManyForgotten$Telling" 54) (.string "SoManyForgotten$Telling" 64))) (by decide +kernel)
  | 6, _, 2, _ => exact hs (Cond.not (Cond.eq (.string "SoManyForgotten$Telling" 56) (.string "SoManyForgotten$Telling" 64))) (by decide +kernel)
  | 6, _, 3, _ => exact hs (Cond.not (Cond.eq (.string "SoManyForgotten$Telling" 58) (.string "SoManyForgotten$Telling" 64))) (by decide +kernel)
  | 6, _, 4, _ => exact hs (Cond.not (Cond.eq (.string "SoManyForgotten$Telling" 60) (.string "SoManyForgotten$Telling" 64))) (by decide +kernel)
  | 6, _, 5, _ => exact hs (Cond.not (Cond.eq (.string "SoManyForgotten$Telling" 62) (.string "SoManyForgotten$Telling" 64))) (by decide +kernel)
  | 7, _, 0, _ => exact hs (Cond.not (Cond.eq (.string "SoManyForgotten$Telling" 31) (.string "SoManyForgotten$Telling" 66))) (by decide +kernel)
  | 7, _, 1, _ => exact hs (Cond.not (Cond.eq (.string "SoManyForgotten$Telling" 54) (.string "SoManyForgotten$Telling" 66))) (by decide +kernel)
  | 7, _, 2, _ => exact hs (Cond.not (Cond.eq (.string "SoManyForgotten$Telling" 56) (.string "SoManyForgotten$Telling" 66))) (by decide +kernel)
  | 7, _, 3, _ => exact hs (Cond.not (Cond.eq (.string "SoManyForgotten$Telling" 58) (.string "SoManyForgotten$Telling" 66))) (by decide +kernel)
  | 7, _, 4, _ => exact hs (Cond.not (Cond.eq (.string "SoManyForgotten$Telling" 60) (.string "SoManyForgotten$Telling" 66))) (by decide +kernel)
  | 7, _, 5, _ => exact hs (Cond.not (Cond.eq (.string "SoManyForgotten$Telling" 62) (.string "SoManyForgotten$Telling" 66))) (by decide +kernel)
  | 7, _, 6, _ => exact hs (Cond.not (Cond.eq (.string "SoManyForgotten$Telling" 64) (.string "SoManyForgotten$Telling" 66))) (by decide +kernel)
  | 8, _, 0, _ => exact hs (Cond.not (Cond.eq (.string "SoManyForgotten$Telling" 31) (.string "SoManyForgotten$Telling" 68))) (by decide +kernel)
  | 8, _, 1, _ => exact hs (Cond.not (Cond.eq (.string "SoManyForgotten$Telling" 54) (.string "SoManyForgotten$Telling" 68))) (by decide +kernel)
  | 8, _, 2, _ => exact hs (Cond.not (Cond.eq (.string "SoManyForgotten$Telling" 56) (.string "SoManyForgotten$Telling" 68))) (by decide +kernel)
  | 8, _, 3, _ => exact hs (Cond.not (Cond.eq (.string "SoManyForgotten$Telling" 58) (.string "SoManyForgotten$Telling" 68))) (by decide +kernel)
  | 8, _, 4, _ => exact hs (Cond.not (Cond.eq (.string "SoManyForgotten$Telling" 60) (.string "SoManyForgotten$Telling" 68))) (by decide +kernel)
  | 8, _, 5, _ => exact hs (Cond.not (Cond.eq (.string "SoManyForgotten$Telling" 62) (.string "SoManyForgotten$Telling" 68))) (by decide +kernel)
  | 8, _, 6, _ => exact hs (Cond.not (Cond.eq (.string "SoManyForgotten$Telling" 64) (.string "SoManyForgotten$Telling" 68))) (by decide +kernel)
  | 8, _, 7, _ => exact hs (Cond.not (Cond.eq (.string "SoManyForgotten$Telling" 66) (.string "SoManyForgotten$Telling" 68))) (by decide +kernel)
  | 0, _, i + 0, h => exact absurd h (by omega)
  | 1, _, i + 1, h => exact absurd h (by omega)
  | 2, _, i + 2, h => exact absurd h (by omega)
  | 3, _, i + 3, h => exact absurd h (by omega)
  | 4, _, i + 4, h => exact absurd h (by omega)
  | 5, _, i + 5, h => exact absurd h (by omega)
  | 6, _, i + 6, h => exact absurd h (by omega)
  | 7, _, i + 7, h => exact absurd h (by omega)
  | 8, _, i + 8, h => exact absurd h (by omega)
theorem law_S {s : State} {b : Nat} (hts : ∀ w ∈ lw_tbl, w.before #[Value.ref b] s = true) (hg : (Jvm.Cond.and given_1 narrow_1).before #[Value.ref b] s = true) : ∃ (adK adV : Nat → Nat) (zf : Option Nat), SE adK adV zf (fun q => s.heap.size ≤ q) s s.heap ∧ SR adK s := by
  have hs := flat_of_before _ hg
  have hA : ∀ a : Nat, a < s.heap.size → ¬ (fun q => s.heap.size ≤ q) a := fun a h => Nat.not_le.mpr h
  have hl31 : ∀ i : Nat, i < 9 → lnT.getD i 0 < 2 ^ 31 := by decide
  obtain ⟨adK, adV, hS, hev⟩ := vk_Sof (N := 9) (tm := tmS) (len := lnT) (byt := shT) (A := fun q => s.heap.size ≤ q) (args := #[Value.ref b]) (s := s) hl31 (ls_ex hs) (ls_co hs) (ls_ar hs) (ls_le hs) (ls_el hs) (fun i j hi hj hne => by
    rcases Nat.lt_or_gt_of_ne hne with h | h
    · exact Or.inl (ls_lt hs i j h hj)
    · exact Or.inr (ls_lt hs j i h hi)) hA
  have hZ1 := va_Zof (A := fun q => s.heap.size ≤ q) (hts _ (tb2 (List.mem_of_getElem? (i := 25) (by decide +kernel)))) (hts (Cond.initialized "java/lang/String") (lw_sub qw1_14)) (va_eqi (hs (Cond.eq (.static "java/lang/String" "COMPACT_STRINGS" "Z") (.int 1)) (by decide +kernel))) hA
  have hZ2 := va_Zqof (A := fun q => s.heap.size ≤ q) (hts _ (tb2 (List.mem_of_getElem? (i := 55) (by decide +kernel)))) (hts (Cond.initialized "jdk/internal/util/Preconditions") (lw_sub qw1_16)) (hs (Cond.isRef (.static "jdk/internal/util/Preconditions" "SIOOBE_FORMATTER" "Ljava/util/function/BiFunction;")) (by decide +kernel)) hA
  have hR : SR adK s := by
    intro i hi
    have h2 := hev i hi
    match i, hi, h2 with
    | 0, _, h2 => exact vk_R.of (own := RX7) (hts (Cond.stringRef RX7 31 "") (tb2 (List.mem_of_getElem? (i := 15) (by decide +kernel)))) h2
    | 1, _, h2 => exact vk_R.of (own := RX7) (hts (Cond.stringRef RX7 54 "pk0;") (tb2 (List.mem_of_getElem? (i := 29) (by decide +kernel)))) h2
    | 2, _, h2 => exact vk_R.of (own := RX7) (hts (Cond.stringRef RX7 56 "r0000;") (tb2 (List.mem_of_getElem? (i := 30) (by decide +kernel)))) h2
    | 3, _, h2 => exact vk_R.of (own := RX7) (hts (Cond.stringRef RX7 58 "o000;") (tb2 (List.mem_of_getElem? (i := 31) (by decide +kernel)))) h2
    | 4, _, h2 => exact vk_R.of (own := RX7) (hts (Cond.stringRef RX7 60 "s00;") (tb2 (List.mem_of_getElem? (i := 32) (by decide +kernel)))) h2
    | 5, _, h2 => exact vk_R.of (own := RX7) (hts (Cond.stringRef RX7 62 "b0;") (tb2 (List.mem_of_getElem? (i := 33) (by decide +kernel)))) h2
    | 6, _, h2 => exact vk_R.of (own := RX7) (hts (Cond.stringRef RX7 64 "n0;") (tb2 (List.mem_of_getElem? (i := 34) (by decide +kernel)))) h2
    | 7, _, h2 => exact vk_R.of (own := RX7) (hts (Cond.stringRef RX7 66 "w00;") (tb2 (List.mem_of_getElem? (i := 35) (by decide +kernel)))) h2
    | 8, _, h2 => exact vk_R.of (own := RX7) (hts (Cond.stringRef RX7 68 "pdkqxw") (tb2 (List.mem_of_getElem? (i := 81) (by decide +kernel)))) h2
  rcases hZ2 with hZ2 | ⟨t, hZ2⟩
  · exact ⟨adK, adV, none, ⟨hS, hZ1, hZ2⟩, hR⟩
  · exact ⟨adK, adV, some t, ⟨hS, hZ1, hZ2⟩, hR⟩
theorem law_C {s : State} {args : Array Value} (hts : ∀ w ∈ lw_tbl, w.before args s = true) : EC s ∧ EN s := by
  have w : ∀ (i : Nat) (w : Cond), tables_1_6[i]? = some w → w.before args s = true := fun i w h => hts w (tb6 (List.mem_of_getElem? h))
  refine ⟨⟨va_AO.of (hts (Cond.arrayOver (.object "SoManyForgotten$Person")) (tb1 (List.mem_of_getElem? (i := 30) (by decide +kernel)))), fun ci hci => ?_⟩, va_Nw.of rfl (hts (Cond.methodLinkNest "SoManyForgotten$Mind" 153 ⟨"SoManyForgotten", "raised", "(II)J"⟩ "SoManyForgotten") (tb4 (List.mem_of_getElem? (i := 147) (by decide +kernel))))⟩
  rcases hci with rfl | rfl | rfl | rfl | rfl
  · exact va_Nw.of rfl (w 133 (Cond.castable "SoManyForgotten$Debtor" "SoManyForgotten$Person") (by decide +kernel))
  · exact va_Nw.of rfl (w 136 (Cond.castable "SoManyForgotten$Dog" "SoManyForgotten$Person") (by decide +kernel))
  · exact va_Nw.of rfl (w 134 (Cond.castable "SoManyForgotten$Kindly" "SoManyForgotten$Person") (by decide +kernel))
  · exact va_Nw.of rfl (w 135 (Cond.castable "SoManyForgotten$Quarreller" "SoManyForgotten$Person") (by decide +kernel))
  · exact va_Nw.of rfl (w 137 (Cond.castable "SoManyForgotten$Wife" "SoManyForgotten$Person") (by decide +kernel))
