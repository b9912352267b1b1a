/-! methods: what they answer, class and reference -/
def OKi (fx : Option (Int32 × XS)) (fd : Option (Int32 × DS)) : Prop := ∃ r x' d' n' W', fx = some (r, x') ∧ fd = some (r, d') ∧ XR n' W' x' d'
def OKl (fx : Option (Int64 × XS)) (fd : Option (Int64 × DS)) : Prop := ∃ r x' d' n' W', fx = some (r, x') ∧ fd = some (r, d') ∧ XR n' W' x' d'
theorem rc1 : RC (-1) := Or.inl rfl
theorem rc2 : RC (-2) := Or.inr (Or.inl rfl)
theorem rc3 : RC (-3) := Or.inr (Or.inr (Or.inl rfl))
theorem rc4 : RC (-4) := Or.inr (Or.inr (Or.inr (Or.inl rfl)))
theorem rc6 : RC (-6) := Or.inr (Or.inr (Or.inr (Or.inr rfl)))
theorem OK_ref {n W : Nat} {x : XS} {d : DS} (h : XR n W x d) {c : Int32} (hc : RC c) {fx : Option (Int32 × XS)} {fd : Option (Int32 × DS)} (hx : fx = some (c, bX x (cj c))) (hd : fd = some (c, bD d (cj c))) : OKi fx fd := ⟨c, _, _, n, W, hx, hd, XR_b h hc.lt⟩
/-- a number in its range, or one of two refusals -/
theorem rng (v : Int32) {lo hi : Nat} (hh : hi < 2 ^ 31) (hl : lo < 2 ^ 31) : (∃ k, lo ≤ k ∧ k ≤ hi ∧ v = nI k ∧ f_X11_wrongBy v (nI lo) (nI hi) = some 0) ∨ ∃ c, RC c ∧ f_X11_wrongBy v (nI lo) (nI hi) = some c := by
  unfold f_X11_wrongBy
  by_cases g1 : nI lo ≤ v
  · by_cases g2 : v ≤ nI hi
    · by_cases g0 : v < 0
      · exfalso
        have h1 := Int32.le_iff_toInt_le.mp g1
        rw [nI_toInt hl] at h1
        have h2 := Int32.lt_iff_toInt_lt.mp g0
        rw [Int32.toInt_zero] at h2
        omega
      · obtain ⟨k, hk, e⟩ := nI_of2 (x := v) (M := nI hi) (n := hi) (nI_toInt hh) g0 g2
        left
        refine ⟨k, ?_, hk, e, by rw [if_pos g1, if_pos g2]⟩
        rw [e] at g1
        rw [ile hl (by omega)] at g1; exact g1
    · right
      exact ⟨-6, rc6, by rw [if_pos g1, if_neg g2]⟩
  · right
    exact ⟨-4, rc4, by rw [if_neg g1]⟩
theorem wb_any (v lo hi : Int32) : ∃ c, f_X11_wrongBy v lo hi = some c := by
  unfold f_X11_wrongBy
  split
  · split
    · exact ⟨_, rfl⟩
    · exact ⟨_, rfl⟩
  · exact ⟨_, rfl⟩
theorem out_eq (a b c : Int32) : f_X10_outside a b c = f_X11_wrongBy a b c := rfl
/-- nobody, or one of them -/
theorem nob {n W : Nat} {x : XS} {d : DS} (h : XR n W x d) (a : Int32) : (∃ p, p < n ∧ a = nI p ∧ f_X10_nobody x a = some 0 ∧ f_X11_isOne d a = some 1) ∨ (f_X10_nobody x a = some (-1) ∧ f_X11_isOne d a = some 0 ∧ f_X8_has (xNow x) a = some 0) := by
  rcases who h.iv.n8 a with ⟨p, hp, rfl⟩ | ⟨g, -⟩
  · left
    refine ⟨p, hp, rfl, ?_, one_M h.iv h.rv hp⟩
    unfold f_X10_nobody
    rw [has_X h.iv hp]; rfl
  · right
    refine ⟨?_, one_M0 h.iv h.rv g, has_X0 h.iv g⟩
    unfold f_X10_nobody
    rw [has_X0 h.iv g]; rfl
theorem ntwo {n W : Nat} {x : XS} {d : DS} (h : XR n W x d) (a b : Int32) : (∃ p q, p < n ∧ q < n ∧ p ≠ q ∧ a = nI p ∧ b = nI q ∧ f_X10_notTwo x a b = some 0 ∧ f_X11_areTwo d a b = some 1) ∨ (f_X10_notTwo x a b = some (-1) ∧ f_X11_areTwo d a b = some 0) := by
  have hn := h.iv.n8
  unfold f_X10_notTwo f_X8_areTwo f_X11_areTwo
  rcases who hn a with ⟨p, hp, rfl⟩ | ⟨g, -⟩
  · rw [has_X h.iv hp, one_M h.iv h.rv hp]
    rcases who hn b with ⟨q, hq, rfl⟩ | ⟨g, -⟩
    · rw [has_X h.iv hq, one_M h.iv h.rv hq]
      by_cases e : p = q
      · right
        subst e
        exact ⟨by simp, by simp⟩
      · left
        have e' : ¬ nI p = nI q := by rw [ieq (by omega) (by omega)]; exact e
        exact ⟨p, q, hp, hq, e, rfl, rfl, by simp [e'], by simp [e']⟩
    · right
      rw [has_X0 h.iv g, one_M0 h.iv h.rv g]
      exact ⟨rfl, rfl⟩
  · right
    rw [has_X0 h.iv g, one_M0 h.iv h.rv g]
    exact ⟨rfl, rfl⟩
theorem mo_X (u : VS) {p q : Nat} (hp : p < 8) (hq : q < 8) : f_X8_memoryOf u (nI p) (nI q) = some (gV_mem u (8 * p + q)) := by
  unfold f_X8_memoryOf
  simp (disch := omega) only [ix8, ck_ok, icl]
theorem sm_X (u : VS) {p q : Nat} (hp : p < 8) (hq : q < 8) (v : Int32) : f_X8_setMemory u (nI p) (nI q) v = some (sV_mem u (upd (gV_mem u) (8 * p + q) v)) := by
  unfold f_X8_setMemory
  simp (disch := omega) only [ix8, ck_ok, icl]
theorem m_memory {n W : Nat} {x : XS} {d : DS} (h : XR n W x d) (a b : Int32) : OKi (f_X10_memory x a b) (f_X11_memory d a b) := by
  have hn := h.iv.n8
  unfold f_X10_memory f_X11_memory
  rcases ntwo h a b with ⟨p, q, hp, hq, hpq, rfl, rfl, e1, e2⟩ | ⟨e1, e2⟩
  · rw [e1, e2]
    refine ⟨gV_mem (xNow x) (8 * p + q), x, d, n, W, ?_, ?_, h⟩
    · rw [Option.bind_some, ref1, cnt_0, Option.bind_some, if_pos rfl, mo_X _ (by omega) (by omega)]; rfl
    · rw [Option.bind_some, if_neg (by decide), f_by, Option.bind_some, ck_ok (by omega) (by decide), icl (by omega), h.rv.me (by omega) (by omega)]
  · rw [e1, e2]
    refine OK_ref h rc1 ?_ ?_
    · rw [Option.bind_some, ref1, cnt_c rc1, Option.bind_some, if_neg rc1.ne]
    · rw [Option.bind_some, if_pos rfl, no_M rc1, Option.bind_some]
theorem m_recalls {n W : Nat} {x : XS} {d : DS} (h : XR n W x d) (a b v : Int32) : OKi (f_X10_recalls x a b v) (f_X11_recalls d a b v) := by
  have hn := h.iv.n8
  unfold f_X10_recalls f_X11_recalls
  rw [out_eq]
  rcases ntwo h a b with ⟨p, q, hp, hq, hpq, rfl, rfl, e1, e2⟩ | ⟨e1, e2⟩
  · rw [e1, e2]
    rcases rng v (lo := 0) (hi := 99) (by decide) (by decide) with ⟨k, -, hk, rfl, e3⟩ | ⟨c, hc, e3⟩
    · rw [show f_X11_wrongBy (nI k) (0 : Int32) (99 : Int32) = some 0 from e3]
      refine ⟨gV_mem (xNow x) (8 * p + q), sX_mind x (sM_now (gX_mind x) (sV_mem (xNow x) (upd (gV_mem (xNow x)) (8 * p + q) (nI k)))), sD_s d (upd (gD_s d) (35 + 8 * p + q) (nI k)), n, W, ?_, ?_, XR_now h (IV_mem h.iv (by omega) ⟨k, hk, rfl⟩) h.w (RV_mem h.rv (by omega) (by omega) _)⟩
      · rw [Option.bind_some, Option.bind_some, ref2, if_pos rfl, cnt_0, Option.bind_some, if_pos rfl, mo_X _ (by omega) (by omega), Option.bind_some, sm_X _ (by omega) (by omega), Option.bind_some]
      · rw [Option.bind_some, if_neg (by decide), Option.bind_some]
        unfold f_X11_recalls_20
        rw [if_pos rfl, f_by, Option.bind_some, ck_ok (by omega) (by decide), Option.bind_some, ck_ok (by omega) (by decide), icl (by omega), h.rv.me (by omega) (by omega)]
    · rw [show f_X11_wrongBy v (0 : Int32) (99 : Int32) = some c from e3]
      refine OK_ref h hc ?_ ?_
      · rw [Option.bind_some, Option.bind_some, ref2, if_pos rfl, cnt_c hc, Option.bind_some, if_neg hc.ne]
      · rw [Option.bind_some, if_neg (by decide), Option.bind_some]
        unfold f_X11_recalls_20
        rw [if_neg hc.ne, no_M hc, Option.bind_some]
  · rw [e1, e2]
    obtain ⟨c9, e9⟩ := wb_any v 0 99
    rw [e9]
    refine OK_ref h rc1 ?_ ?_
    · rw [Option.bind_some, Option.bind_some, ref2, if_neg (by decide), cnt_c rc1, Option.bind_some, if_neg rc1.ne]
    · rw [Option.bind_some, if_pos rfl]
      unfold f_X11_recalls_20
      rw [if_neg (by decide), no_M rc1, Option.bind_some]
