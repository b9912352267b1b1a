/-! one statement carried out -/
abbrev EX (d : DS) (ox : Option (Int32 × VS)) (od : Option (Int32 × DS)) : Prop := ∃ ok v' r', ox = some (ok, v') ∧ od = some (ok, sD_s d r') ∧ ((ok = 1 ∧ ∃ n' W', IV n' W' v' ∧ W' ≤ 999 ∧ RV v' r') ∨ (ok = 0 ∧ AnyV v'))
theorem EX_no {n W : Nat} {v : VS} {d : DS} {ox : Option (Int32 × VS)} {od : Option (Int32 × DS)} (hI : IV n W v) (h1 : ox = some (0, v)) (h2 : od = some (0, d)) : EX d ox od := ⟨0, v, gD_s d, h1, h2, Or.inr ⟨rfl, hI.any⟩⟩
theorem wh_k {n k : Nat} (hn : n ≤ 8) (hk : k < 2 ^ 31) : k < n ∨ (nI k < 0 ∨ nI n ≤ nI k) := by
  rcases Nat.lt_or_ge k n with h | h
  · exact Or.inl h
  · exact Or.inr (Or.inr (by rw [ile (by omega) hk]; exact h))
theorem ck03 {α : Type} (y : Option α) : ck (0 : Int32) 3 y = y := ck_ok (j := 0) (by decide) (by decide) y
theorem ck13 {α : Type} (y : Option α) : ck (1 : Int32) 3 y = y := ck_ok (j := 1) (by decide) (by decide) y
theorem ck23 {α : Type} (y : Option α) : ck (2 : Int32) 3 y = y := ck_ok (j := 2) (by decide) (by decide) y
theorem ex_back {n W k : Nat} {v : VS} {d : DS} (hI : IV n W v) (hW : W ≤ 999) (hR : RV v (gD_s d)) (hk : k ≤ 9) (hm : gD_num d 0 = nI k) : EX d (f_X7_carryOutBack v (nI k)) (f_X11_isDone d 98) := by
  have hn := hI.n8
  unfold f_X7_carryOutBack f_X11_isDone
  rw [ck03, ck13, if_pos rfl, cl0, hm]
  rcases wh_k hn (show k < 2 ^ 31 by omega) with h | h
  · rw [has_X hI h, one_M hI hR h, Option.bind_some, Option.bind_some, if_neg (show ¬ (1 : Int32) = 0 by decide), if_neg (show ¬ (1 : Int32) = 0 by decide), here_M hI hR (by omega), Option.bind_some, ck_ok (by omega) (by decide), icl (by omega)]
    by_cases g : gV_here v k = 0
    · obtain ⟨r', q1, q2⟩ := bck_M hI hR (show k < 8 by omega) g
      rw [if_pos g, if_pos g, bck_X hI (by omega), Option.bind_some, q2, Option.bind_some]
      exact ⟨1, _, r', rfl, rfl, Or.inl ⟨rfl, n, W, IV_bck hI (by omega), hW, q1⟩⟩
    · rw [if_neg g, if_neg g]
      exact EX_no hI rfl rfl
  · rw [has_X0 hI h, one_M0 hI hR h, Option.bind_some, Option.bind_some, if_pos rfl, if_pos rfl]
    exact EX_no hI rfl rfl
theorem ex_names {n W k : Nat} {v : VS} {d : DS} (hI : IV n W v) (hW : W ≤ 999) (hR : RV v (gD_s d)) (hk : k ≤ 9) (hm : gD_num d 0 = nI k) : EX d (f_X7_carryOutNames v (nI k)) (f_X11_isDone d 110) := by
  unfold f_X7_carryOutNames f_X11_isDone
  rw [ck03, ck13, if_neg (show ¬ (110 : Int32) = 98 by decide), if_pos rfl, cl0, hm, ck2, cl2]
  simp (disch := omega) only [l3, ile, ilt]
  by_cases g : k ≤ 3
  · rw [if_pos g, if_neg (by omega)]
    exact ⟨1, _, _, rfl, rfl, Or.inl ⟨rfl, n, W, IV_names hI ⟨k, g, rfl⟩, hW, RV_names hR _⟩⟩
  · rw [if_neg g, if_pos (by omega)]
    exact ⟨0, _, _, rfl, rfl, Or.inr ⟨rfl, hI.any⟩⟩
theorem ex_owes {n W k a : Nat} {v : VS} {d : DS} (hI : IV n W v) (hW : W ≤ 999) (hR : RV v (gD_s d)) (hk : k ≤ 9) (ha : a ≤ 99) (hm : gD_num d 0 = nI k) (hm1 : gD_num d 1 = nI a) : EX d (f_X7_carryOutOwes v (nI k) (nI a)) (f_X11_isDone d 111) := by
  have hn := hI.n8
  unfold f_X7_carryOutOwes f_X11_isDone
  rw [ck03, ck13, if_neg (show ¬ (111 : Int32) = 98 by decide), if_neg (show ¬ (111 : Int32) = 110 by decide), if_pos rfl, cl0, cl1, hm, hm1]
  rcases wh_k hn (show k < 2 ^ 31 by omega) with h | h
  · have e2 : f_X11_of (nI k) (3 : Int32) = some (nI (3 + 4 * k + 3)) := f_of k 3
    rw [has_X hI h, one_M hI hR h, Option.bind_some, Option.bind_some, if_neg (show ¬ (1 : Int32) = 0 by decide), if_neg (show ¬ (1 : Int32) = 0 by decide), e2, Option.bind_some, ck_ok (by omega) (by decide), ck_ok (by omega) (by decide), icl (by omega), icl (by omega)]
    exact ⟨1, _, _, rfl, rfl, Or.inl ⟨rfl, n, W, IV_owed hI (by omega) ⟨a, ha, rfl⟩, hW, RV_owed hR (by omega) _⟩⟩
  · rw [has_X0 hI h, one_M0 hI hR h, Option.bind_some, Option.bind_some, if_pos rfl, if_pos rfl]
    exact EX_no hI rfl rfl
theorem two_k {n W k j : Nat} {v : VS} {d : DS} (hI : IV n W v) (hR : RV v (gD_s d)) (hk : k ≤ 9) (hj : j ≤ 9) : (k < n ∧ j < n ∧ ¬ k = j ∧ f_X8_areTwo v (nI k) (nI j) = some 1 ∧ f_X11_areTwo d (nI k) (nI j) = some 1) ∨ (f_X8_areTwo v (nI k) (nI j) = some 0 ∧ f_X11_areTwo d (nI k) (nI j) = some 0 ∧ ¬ (k < n ∧ j < n ∧ ¬ k = j)) := by
  have hn := hI.n8
  unfold f_X8_areTwo f_X11_areTwo
  rcases wh_k hn (show k < 2 ^ 31 by omega) with h | h
  · rw [has_X hI h, one_M hI hR h]
    rcases wh_k hn (show j < 2 ^ 31 by omega) with h2 | h2
    · rw [has_X hI h2, one_M hI hR h2]
      by_cases e : k = j
      · right
        subst e
        exact ⟨by simp, by simp, fun q => q.2.2 rfl⟩
      · left
        have e' : ¬ nI k = nI j := by rw [ieq (by omega) (by omega)]; exact e
        exact ⟨h, h2, e, by simp [e'], by simp [e']⟩
    · right
      rw [has_X0 hI h2, one_M0 hI hR h2]
      refine ⟨rfl, rfl, fun q => ?_⟩
      rcases h2 with h2 | h2
      · exact nI_pos (by omega) h2
      · rw [ile (by omega) (by omega)] at h2; omega
  · right
    rw [has_X0 hI h, one_M0 hI hR h]
    refine ⟨rfl, rfl, fun q => ?_⟩
    rcases h with h | h
    · exact nI_pos (by omega) h
    · rw [ile (by omega) (by omega)] at h; omega
theorem ex_recalls {n W k j a : Nat} {v : VS} {d : DS} (hI : IV n W v) (hW : W ≤ 999) (hR : RV v (gD_s d)) (hk : k ≤ 9) (hj : j ≤ 9) (ha : a ≤ 99) (hm : gD_num d 0 = nI k) (hm1 : gD_num d 1 = nI j) (hm2 : gD_num d 2 = nI a) : EX d (f_X7_carryOutRecalls v (nI k) (nI j) (nI a)) (f_X11_isDone d 114) := by
  have hn := hI.n8
  unfold f_X7_carryOutRecalls f_X11_isDone
  rw [ck03, ck13, if_neg (show ¬ (114 : Int32) = 98 by decide), if_neg (show ¬ (114 : Int32) = 110 by decide), if_neg (show ¬ (114 : Int32) = 111 by decide), if_neg (show ¬ (114 : Int32) = 112 by decide), if_pos rfl, cl0, cl1, cl2, hm, hm1, hm2]
  rcases two_k hI hR hk hj with ⟨h1, h2, h3, e1, e2⟩ | ⟨e1, e2, -⟩
  · rw [e1, e2, Option.bind_some, Option.bind_some, if_neg (show ¬ (1 : Int32) = 0 by decide), if_neg (show ¬ (1 : Int32) = 0 by decide), sm_X v (by omega) (by omega), Option.bind_some, f_by, Option.bind_some, ck23, ck_ok (by omega) (by decide), icl (by omega)]
    exact ⟨1, _, _, rfl, rfl, Or.inl ⟨rfl, n, W, IV_mem hI (by omega) ⟨a, ha, rfl⟩, hW, RV_mem hR (by omega) (by omega) _⟩⟩
  · rw [e1, e2, Option.bind_some, Option.bind_some, if_pos rfl, if_pos rfl]
    exact EX_no hI rfl rfl
theorem ex_speaks {n W k j : Nat} {v : VS} {d : DS} (hI : IV n W v) (hW : W ≤ 999) (hR : RV v (gD_s d)) (hk : k ≤ 9) (hj : j ≤ 9) (hm : gD_num d 0 = nI k) (hm1 : gD_num d 1 = nI j) : EX d (f_X7_carryOutSpeaks v (nI k) (nI j)) (f_X11_isDone d 115) := by
  have hn := hI.n8
  have isg : ∀ q, n ≤ q → q ≤ 9 → f_X8_isHere v (nI q) = some 0 := by
    intro q h1 h2
    unfold f_X8_isHere
    rw [has_X0 hI (Or.inr (by rw [ile (by omega) (by omega)]; exact h1)), Option.bind_some, if_pos rfl]
  have isl : ∀ q, q < n → f_X8_isHere v (nI q) = some (gV_here v q) := fun q h => ish_X hI h
  unfold f_X7_carryOutSpeaks f_X11_isDone
  rw [ck03, ck13, if_neg (show ¬ (115 : Int32) = 98 by decide), if_neg (show ¬ (115 : Int32) = 110 by decide), if_neg (show ¬ (115 : Int32) = 111 by decide), if_neg (show ¬ (115 : Int32) = 112 by decide), if_neg (show ¬ (115 : Int32) = 114 by decide), if_pos rfl, cl0, cl1, hm, hm1]
  rcases two_k hI hR hk hj with ⟨h1, h2, h3, e1, e2⟩ | ⟨e1, e2, h3⟩
  · have e4 : f_X11_isHere (gD_s d) (nI k) = some (gV_here v k) := here_M hI hR (by omega)
    have e5 : f_X11_isHere (gD_s d) (nI j) = some (gV_here v j) := here_M hI hR (by omega)
    rw [e2, Option.bind_some, if_neg (show ¬ (1 : Int32) = 0 by decide), e4, Option.bind_some]
    by_cases g1 : gV_here v k = 0
    · have e3 : f_X8_areTwoHere v (nI k) (nI j) = some 0 := by
        unfold f_X8_areTwoHere
        rw [if_neg (by rw [ieq (by omega) (by omega)]; exact h3), isl k h1, Option.bind_some, if_pos g1]
      rw [e3, Option.bind_some, if_pos rfl, if_pos g1]
      exact EX_no hI rfl rfl
    · rw [ath_X hI h1 h2 g1, if_neg h3, if_neg g1, e5, Option.bind_some, Option.bind_some]
      by_cases g2 : gV_here v j = 0
      · rw [if_pos g2, if_pos g2, if_pos rfl]
        exact EX_no hI rfl rfl
      · obtain ⟨r', q1, q2⟩ := tlk_M hR (show k < 8 by omega) (show j < 8 by omega)
        rw [if_neg g2, if_neg g2, if_neg (show ¬ (1 : Int32) = 0 by decide), tlk_X v (by omega) (by omega), Option.bind_some, q2, Option.bind_some]
        exact ⟨1, _, r', rfl, rfl, Or.inl ⟨rfl, n, W, IV_tlk hI (by omega) (by omega), hW, q1⟩⟩
  · have e3 : f_X8_areTwoHere v (nI k) (nI j) = some 0 := by
      unfold f_X8_areTwoHere
      by_cases g1 : k = j
      · rw [if_pos (by rw [g1])]
      · rw [if_neg (by rw [ieq (by omega) (by omega)]; exact g1)]
        rcases Nat.lt_or_ge k n with h1 | h1
        · have h2 : n ≤ j := by
            rcases Nat.lt_or_ge j n with q | q
            · exact absurd ⟨h1, q, g1⟩ h3
            · exact q
          rw [isl k h1, isg j h2 hj, Option.bind_some, Option.bind_some, if_pos rfl]
          exact ite_self _
        · rw [isg k h1 hk, Option.bind_some, if_pos rfl]
    rw [e2, e3, Option.bind_some, Option.bind_some, if_pos rfl, if_pos rfl]
    exact EX_no hI rfl rfl
theorem wk27 {n W k : Nat} {v : VS} (hI : IV n W v) (hW : W < 2 ^ 20) (hk : k ≤ 60) : f_X7_carryOutWeeks_27 (nI k) smN v 0 = some (1, wks v n k) := by
  unfold f_X7_carryOutWeeks_27
  refine lq2_inv (fun i a b => a = wks v n i ∧ b = nI i) (fun o => o = some (1, wks v n k)) k ?_ smN _ _ (smN_gt (by omega)) ⟨rfl, rfl⟩
  rintro i a b hi ⟨rfl, rfl⟩
  unfold b_X7_carryOutWeeks_27
  simp (disch := omega) only [ile, i1]
  rcases Nat.lt_or_ge i k with h | h
  · left
    refine ⟨wks v n (i + 1), nI (i + 1), h, ⟨rfl, rfl⟩, fun kk => ?_⟩
    rw [if_neg (by omega), wk_X (IV_wks hI i) (by omega), Option.bind_some]
    try rfl
  · right
    obtain rfl : i = k := by omega
    refine ⟨_, rfl, fun kk => ?_⟩
    rw [if_pos (Nat.le_refl _)]
theorem ex_weeks {n W k : Nat} {v : VS} {d : DS} {c : Int32} (hI : IV n W v) (hW : W ≤ 999) (hR : RV v (gD_s d)) (hk : k ≤ 99) (hm : gD_num d 0 = nI k) (hc : c = 119) : EX d (f_X7_carryOutWeeks v (nI k)) (f_X11_isDone d c) := by
  subst hc
  unfold f_X7_carryOutWeeks f_X11_isDone
  rw [ck03, ck13, if_neg (show ¬ (119 : Int32) = 98 by decide), if_neg (show ¬ (119 : Int32) = 110 by decide), if_neg (show ¬ (119 : Int32) = 111 by decide), if_neg (show ¬ (119 : Int32) = 112 by decide), if_neg (show ¬ (119 : Int32) = 114 by decide), if_neg (show ¬ (119 : Int32) = 115 by decide), cl0, hm]
  unfold f_X11_isIn
  rw [hI.wk, ck1, cl1, hR.2.1, hI.wk, nI_add]
  simp (disch := omega) only [l1, ilt, ile, show (60 : Int32) = nI 60 from rfl, show (999 : Int32) = nI 999 from rfl]
  by_cases g1 : k < 1
  · rw [if_pos g1, if_pos g1, Option.bind_some, if_pos rfl]
    exact EX_no hI rfl rfl
  rw [if_neg g1, if_neg g1]
  by_cases g2 : 60 < k
  · rw [if_pos g2, if_pos g2, Option.bind_some, if_pos rfl]
    exact EX_no hI rfl rfl
  rw [if_neg g2, if_neg g2, Option.bind_some, if_neg (show ¬ nI 1 = 0 by decide)]
  by_cases g3 : W + k ≤ 999
  · obtain ⟨r', q1, q2⟩ := wks_M (k := k) hI hR (by omega)
    rw [if_pos g3, if_pos g3, wk27 hI (by omega) (by omega), q2, Option.bind_some]
    exact ⟨1, _, r', rfl, rfl, Or.inl ⟨rfl, n, W + k, IV_wks hI k, g3, q1⟩⟩
  · rw [if_neg g3, if_neg g3]
    exact EX_no hI rfl rfl
/-- one more comes -/
def cm0 (v : VS) (n k f : Nat) : VS := sV_here (sV_owed (sV_fig (sV_kind v (upd (gV_kind v) n (nI k))) (upd (gV_fig v) n (nI f))) (upd (gV_owed v) n 0)) (upd (gV_here v) n 1)
def cmT (v : VS) (n : Nat) : Nat → VS
  | 0 => v
  | j + 1 => sV_mem (sV_mem (cmT v n j) (upd (gV_mem (cmT v n j)) (8 * n + j) 50)) (upd (upd (gV_mem (cmT v n j)) (8 * n + j) 50) (8 * j + n) 50)
theorem IV_cmT {n m W : Nat} {v : VS} (hI : IV m W v) (hn : n < 8) : ∀ j, j ≤ n → IV m W (cmT v n j) := by
  intro j
  induction j with
  | zero => intro _; exact hI
  | succ j ih =>
    intro hj
    exact IV_mem (IV_mem (ih (by omega)) (by omega) ⟨50, by decide, rfl⟩) (by omega) ⟨50, by decide, rfl⟩
theorem IV_cm0 {n m W k f : Nat} {v : VS} (hI : IV m W v) (hn : n < 8) (hk : k < 6) (hf : f < 10) : IV m W (cm0 v n k f) := IV_here (IV_owed (IV_fig (IV_kind hI hn ⟨k, hk, rfl⟩) hn ⟨f, hf, rfl⟩) hn ⟨0, by decide, rfl⟩) hn (Or.inr rfl)
theorem cm_X {n W k f : Nat} {v : VS} (hI : IV n W v) (hn : n < 8) (hk : k < 6) (hf : f < 10) : f_X8_comes v (nI k) (nI f) = some (sV_people (cmT (cm0 v n k f) n n) (nI (n + 1))) := by
  unfold f_X8_comes
  rw [hI.pe]
  simp (disch := omega) only [ck_ok, icl, Option.bind_some]
  have e0 : vp_nar .boolean (1 : Int32) = 1 := by decide
  rw [e0]
  have hI0 := IV_cm0 (n := n) (k := k) (f := f) hI hn hk hf
  show f_X8_comes_36 smN (cm0 v n k f) (nI n) 0 = _
  generalize cm0 v n k f = w at hI0
  unfold f_X8_comes_36
  refine lq3_inv (fun i a b c => a = cmT w n i ∧ b = nI n ∧ c = nI i) (fun o => o = some (sV_people (cmT w n n) (nI (n + 1)))) n ?_ smN _ _ _ (smN_gt (by omega)) ⟨rfl, rfl, rfl⟩
  rintro i a b c hi ⟨rfl, rfl, rfl⟩
  unfold b_X8_comes_36
  simp (disch := omega) only [ile, i1]
  rcases Nat.lt_or_ge i n with h | h
  · left
    refine ⟨cmT w n (i + 1), nI n, nI (i + 1), h, ⟨rfl, rfl, rfl⟩, fun kk => ?_⟩
    rw [if_neg (by omega), sm_X _ (by omega) (by omega), Option.bind_some, sm_X _ (by omega) (by omega), Option.bind_some]
    rfl
  · right
    obtain rfl : i = n := by omega
    refine ⟨_, rfl, fun kk => ?_⟩
    rw [if_pos (Nat.le_refl _), (IV_cmT hI0 hn i (Nat.le_refl _)).pe, i1]
theorem ad_M {n W k f : Nat} {v : VS} {d : DS} (hI : IV n W v) (hR : RV v (gD_s d)) (hn : n < 8) (hk : k < 6) (hf : f < 10) : ∃ r', RV (sV_people (cmT (cm0 v n k f) n n) (nI (n + 1))) r' ∧ f_X11_adds d (nI k) (nI f) = some (1, sD_s d r') := by
  unfold f_X11_adds
  have e1 : gD_s d 0 = nI n := hR.pe.trans hI.pe
  have o0 : f_X11_of (nI n) (0 : Int32) = some (nI (3 + 4 * n + 0)) := f_of n 0
  have o1 : f_X11_of (nI n) (1 : Int32) = some (nI (3 + 4 * n + 1)) := f_of n 1
  have o2 : f_X11_of (nI n) (2 : Int32) = some (nI (3 + 4 * n + 2)) := f_of n 2
  have o3 : f_X11_of (nI n) (3 : Int32) = some (nI (3 + 4 * n + 3)) := f_of n 3
  rw [ck0, ck0, cl0, e1, if_neg (by rw [l8, ieq (by omega) (by omega)]; omega), o0, o1, o2, o3]
  simp (disch := omega) only [Option.bind_some, ck_ok, icl]
  have hR0 : RV (cm0 v n k f) (upd (upd (upd (upd (gD_s d) (3 + 4 * n + 0) (nI k)) (3 + 4 * n + 1) (nI f)) (3 + 4 * n + 2) 1) (3 + 4 * n + 3) 0) := RV_owed (RV_here (RV_fig (RV_kind hR hn (nI k)) hn (nI f)) hn 1) hn 0
  have hI0 := IV_cm0 (n := n) (k := k) (f := f) hI hn hk hf
  generalize hr : upd (upd (upd (upd (gD_s d) (3 + 4 * n + 0) (nI k)) (3 + 4 * n + 1) (nI f)) (3 + 4 * n + 2) 1) (3 + 4 * n + 3) 0 = r0 at hR0
  show ∃ r', RV (sV_people (cmT (cm0 v n k f) n n) (nI (n + 1))) r' ∧ f_X11_adds_67 smN (sD_s d r0) (nI n) 0 = some (1, sD_s d r')
  generalize cm0 v n k f = w at hR0 hI0
  unfold f_X11_adds_67
  refine lq3_inv (fun i a b c => (∃ r, RV (cmT w n i) r ∧ a = sD_s d r) ∧ b = nI n ∧ c = nI i) (fun o => ∃ r', RV (sV_people (cmT w n n) (nI (n + 1))) r' ∧ o = some (1, sD_s d r')) n ?_ smN _ _ _ (smN_gt (by omega)) ⟨⟨r0, hR0, rfl⟩, rfl, rfl⟩
  rintro i a b c hi ⟨⟨r, h1, rfl⟩, rfl, rfl⟩
  unfold b_X11_adds_67
  simp (disch := omega) only [ile, i1]
  rcases Nat.lt_or_ge i n with h | h
  · left
    refine ⟨sD_s d (upd (upd r (35 + 8 * i + n) 50) (35 + 8 * n + i) 50), nI n, nI (i + 1), h, ⟨⟨_, ?_, rfl⟩, rfl, rfl⟩, fun kk => ?_⟩
    · rw [upd_comm (show 35 + 8 * i + n ≠ 35 + 8 * n + i by omega)]
      exact RV_mem (RV_mem h1 (show n < 8 by omega) (show i < 8 by omega) 50) (by omega) (by omega) 50
    · rw [if_neg (by omega), f_by, Option.bind_some, ck_ok (by omega) (by decide), f_by, Option.bind_some, ck_ok (by omega) (by decide), Option.bind_some, icl (by omega), icl (by omega)]
      try rfl
  · right
    obtain rfl : i = n := by omega
    have ep : gD_s (sD_s d r) 0 = nI i := h1.pe.trans (IV_cmT hI0 hn i (Nat.le_refl _)).pe
    refine ⟨_, ⟨upd r 0 (nI (i + 1)), RV_people h1 _, rfl⟩, fun kk => ?_⟩
    rw [if_pos (Nat.le_refl _), ck0, ck0, Option.bind_some, cl0, ep, i1]
    try rfl
theorem ex_person {n W k f : Nat} {v : VS} {d : DS} (hI : IV n W v) (hW : W ≤ 999) (hR : RV v (gD_s d)) (hk : k < 6) (hf : f ≤ 9) (hm : gD_num d 0 = nI k) (hm1 : gD_num d 1 = nI f) : EX d (if gV_people v < (8 : Int32) then (f_X8_comes v (nI k) (nI f)).bind fun z => some ((1 : Int32), z) else some (0, v)) (f_X11_isDone d 112) := by
  have hn := hI.n8
  unfold f_X11_isDone
  rw [ck03, ck13, if_neg (show ¬ (112 : Int32) = 98 by decide), if_neg (show ¬ (112 : Int32) = 110 by decide), if_neg (show ¬ (112 : Int32) = 111 by decide), if_pos rfl, cl0, cl1, hm, hm1, hI.pe]
  simp (disch := omega) only [l8, ilt]
  rcases Nat.lt_or_ge n 8 with h | h
  · obtain ⟨r', q1, q2⟩ := ad_M hI hR h hk (show f < 10 by omega)
    rw [if_pos h, cm_X hI h hk (by omega), Option.bind_some, q2, Option.bind_some, zr01 (Or.inr rfl)]
    refine ⟨1, _, r', rfl, rfl, Or.inl ⟨rfl, n + 1, W, ?_, hW, q1⟩⟩
    exact IV_people (IV_cmT (IV_cm0 hI h hk (by omega)) h n (Nat.le_refl _)) (by omega) rfl
  · have e1 : gD_s d 0 = nI n := hR.pe.trans hI.pe
    have e2 : f_X11_adds d (nI k) (nI f) = some (0, d) := by
      unfold f_X11_adds
      rw [ck0, cl0, e1, if_pos (by rw [show n = 8 by omega]; rfl)]
    rw [if_neg (by omega), e2, Option.bind_some, zr01 (Or.inl rfl)]
    exact EX_no hI rfl rfl
