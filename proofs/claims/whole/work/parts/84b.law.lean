theorem lgt {L i : Nat} (hL : L < 2 ^ 30) (hi : i < 2 ^ 30) : (nI L - (5 : Int32) < nI i) ↔ L < i + 5 := by
  rw [Int32.lt_iff_toInt_lt, show (5 : Int32) = nI 5 from rfl, pk_sub_toInt hL (by decide), nI_toInt (by omega)]
  omega
set_option maxRecDepth 100000 in
set_option maxHeartbeats 4000000 in
theorem lw_sw {p : Program} {l : Launch} {e : Env} {s : State} {m : MethodId} {below : List Frame} {meth : Method} {c : Code} {D : va_G} {A : Nat → Prop} {cI cZ cO : ClassId} {b L : Nat} {xs : Nat → Int32} {a a' : Nat → Nat} {adK adV : Nat → Nat} {zf : Option Nat} {i : Nat} (F : smF p s m #[Value.ref b] meth c cL_law 4 ret RL D (tyL cI cZ cO) A) (hE : LE s b L xs A adK adV zf) (hi : i + 5 ≤ L) (kk : ∀ (n W : Nat) (x : XS) (d : DS), XR n W x d → Sm p l e room_1 s m #[Value.ref b] below meth c D A 4 56 1216 (lw_Z below #[Value.ref b] s) 1263 [(0, .ref b), (1, .ref (a 0)), (2, .ref (a' 0)), (3, .int (nI i))] [] (wX cI cZ cO a x ++ wD cI cZ cO a' d)) {n W : Nat} {x : XS} {d : DS} (h : XR n W x d) {t : Nat} (ht : t < 64) : Sm p l e room_1 s m #[Value.ref b] below meth c D A 4 56 1216 (lw_Z below #[Value.ref b] s) 32 [(0, .ref b), (1, .ref (a 0)), (2, .ref (a' 0)), (3, .int (nI i))] [.int (nI t)] (wX cI cZ cO a x ++ wD cI cZ cO a' d) := by
  rcases Nat.lt_or_ge t 39 with h9 | h9
  · match t, h9 with
    | 0, _ => exact sm_tableIn (off := 172) (tgt := 204) F dL_law_32 (by decide) (by decide) rfl (by decide) (lw_c0 F hE hi kk h)
    | 1, _ => exact sm_tableIn (off := 195) (tgt := 227) F dL_law_32 (by decide) (by decide) rfl (by decide) (lw_c1 F hE hi kk h)
    | 2, _ => exact sm_tableIn (off := 208) (tgt := 240) F dL_law_32 (by decide) (by decide) rfl (by decide) (lw_c2 F hE hi kk h)
    | 3, _ => exact sm_tableIn (off := 241) (tgt := 273) F dL_law_32 (by decide) (by decide) rfl (by decide) (lw_c3 F hE hi kk h)
    | 4, _ => exact sm_tableIn (off := 274) (tgt := 306) F dL_law_32 (by decide) (by decide) rfl (by decide) (lw_c4 F hE hi kk h)
    | 5, _ => exact sm_tableIn (off := 317) (tgt := 349) F dL_law_32 (by decide) (by decide) rfl (by decide) (lw_c5 F hE hi kk h)
    | 6, _ => exact sm_tableIn (off := 350) (tgt := 382) F dL_law_32 (by decide) (by decide) rfl (by decide) (lw_c6 F hE hi kk h)
    | 7, _ => exact sm_tableIn (off := 383) (tgt := 415) F dL_law_32 (by decide) (by decide) rfl (by decide) (lw_c7 F hE hi kk h)
    | 8, _ => exact sm_tableIn (off := 406) (tgt := 438) F dL_law_32 (by decide) (by decide) rfl (by decide) (lw_c8 F hE hi kk h)
    | 9, _ => exact sm_tableIn (off := 429) (tgt := 461) F dL_law_32 (by decide) (by decide) rfl (by decide) (lw_c9 F hE hi kk h)
    | 10, _ => exact sm_tableIn (off := 472) (tgt := 504) F dL_law_32 (by decide) (by decide) rfl (by decide) (lw_c10 F hE hi kk h)
    | 11, _ => exact sm_tableIn (off := 495) (tgt := 527) F dL_law_32 (by decide) (by decide) rfl (by decide) (lw_c11 F hE hi kk h)
    | 12, _ => exact sm_tableIn (off := 538) (tgt := 570) F dL_law_32 (by decide) (by decide) rfl (by decide) (lw_c12 F hE hi kk h)
    | 13, _ => exact sm_tableIn (off := 571) (tgt := 603) F dL_law_32 (by decide) (by decide) rfl (by decide) (lw_c13 F hE hi kk h)
    | 14, _ => exact sm_tableIn (off := 594) (tgt := 626) F dL_law_32 (by decide) (by decide) rfl (by decide) (lw_c14 F hE hi kk h)
    | 15, _ => exact sm_tableIn (off := 617) (tgt := 649) F dL_law_32 (by decide) (by decide) rfl (by decide) (lw_c15 F hE hi kk h)
    | 16, _ => exact sm_tableIn (off := 640) (tgt := 672) F dL_law_32 (by decide) (by decide) rfl (by decide) (lw_c16 F hE hi kk h)
    | 17, _ => exact sm_tableIn (off := 663) (tgt := 695) F dL_law_32 (by decide) (by decide) rfl (by decide) (lw_c17 F hE hi kk h)
    | 18, _ => exact sm_tableIn (off := 686) (tgt := 718) F dL_law_32 (by decide) (by decide) rfl (by decide) (lw_c18 F hE hi kk h)
    | 19, _ => exact sm_tableIn (off := 719) (tgt := 751) F dL_law_32 (by decide) (by decide) rfl (by decide) (lw_c19 F hE hi kk h)
    | 20, _ => exact sm_tableIn (off := 742) (tgt := 774) F dL_law_32 (by decide) (by decide) rfl (by decide) (lw_c20 F hE hi kk h)
    | 21, _ => exact sm_tableIn (off := 765) (tgt := 797) F dL_law_32 (by decide) (by decide) rfl (by decide) (lw_c21 F hE hi kk h)
    | 22, _ => exact sm_tableIn (off := 788) (tgt := 820) F dL_law_32 (by decide) (by decide) rfl (by decide) (lw_c22 F hE hi kk h)
    | 23, _ => exact sm_tableIn (off := 811) (tgt := 843) F dL_law_32 (by decide) (by decide) rfl (by decide) (lw_c23 F hE hi kk h)
    | 24, _ => exact sm_tableIn (off := 834) (tgt := 866) F dL_law_32 (by decide) (by decide) rfl (by decide) (lw_c24 F hE hi kk h)
    | 25, _ => exact sm_tableIn (off := 857) (tgt := 889) F dL_law_32 (by decide) (by decide) rfl (by decide) (lw_c25 F hE hi kk h)
    | 26, _ => exact sm_tableIn (off := 890) (tgt := 922) F dL_law_32 (by decide) (by decide) rfl (by decide) (lw_c26 F hE hi kk h)
    | 27, _ => exact sm_tableIn (off := 913) (tgt := 945) F dL_law_32 (by decide) (by decide) rfl (by decide) (lw_c27 F hE hi kk h)
    | 28, _ => exact sm_tableIn (off := 926) (tgt := 958) F dL_law_32 (by decide) (by decide) rfl (by decide) (lw_c28 F hE hi kk h)
    | 29, _ => exact sm_tableIn (off := 969) (tgt := 1001) F dL_law_32 (by decide) (by decide) rfl (by decide) (lw_c29 F hE hi kk h)
    | 30, _ => exact sm_tableIn (off := 1023) (tgt := 1055) F dL_law_32 (by decide) (by decide) rfl (by decide) (lw_c30 F hE hi kk h)
    | 31, _ => exact sm_tableIn (off := 1047) (tgt := 1079) F dL_law_32 (by decide) (by decide) rfl (by decide) (lw_c31 F hE hi kk h)
    | 32, _ => exact sm_tableIn (off := 1090) (tgt := 1122) F dL_law_32 (by decide) (by decide) rfl (by decide) (lw_c32 F hE hi kk h)
    | 33, _ => exact sm_tableIn (off := 1113) (tgt := 1145) F dL_law_32 (by decide) (by decide) rfl (by decide) (lw_c33 F hE hi kk h)
    | 34, _ => exact sm_tableIn (off := 1126) (tgt := 1158) F dL_law_32 (by decide) (by decide) rfl (by decide) (lw_c34 F hE hi kk h)
    | 35, _ => exact sm_tableIn (off := 1139) (tgt := 1171) F dL_law_32 (by decide) (by decide) rfl (by decide) (lw_c35 F hE hi kk h)
    | 36, _ => exact sm_tableIn (off := 1182) (tgt := 1214) F dL_law_32 (by decide) (by decide) rfl (by decide) (lw_c36 F hE hi kk h)
    | 37, _ => exact sm_tableIn (off := 1195) (tgt := 1227) F dL_law_32 (by decide) (by decide) rfl (by decide) (lw_c37 F hE hi kk h)
    | 38, _ => exact sm_tableIn (off := 1208) (tgt := 1240) F dL_law_32 (by decide) (by decide) rfl (by decide) (lw_c38 F hE hi kk h)
    | k + 39, h9 => exact absurd h9 (by omega)
  · refine sm_tableOut (tgt := 1263) F dL_law_32 (Or.inr (by rw [nI_toInt (by omega)]; omega)) (by decide) (kk n W x d h)
set_option maxRecDepth 100000 in
set_option maxHeartbeats 4000000 in
theorem lw_loop {p : Program} {l : Launch} {e : Env} {s : State} {m : MethodId} {below : List Frame} {meth : Method} {c : Code} {D : va_G} {A : Nat → Prop} {cI cZ cO : ClassId} {b L : Nat} {xs : Nat → Int32} {a a' : Nat → Nat} {adK adV : Nat → Nat} {zf : Option Nat} (F : smF p s m #[Value.ref b] meth c cL_law 4 ret RL D (tyL cI cZ cO) A) (hE : LE s b L xs A adK adV zf) (hA : ∀ q, A q → s.heap.size ≤ q) : ∀ (f i n W : Nat) (x : XS) (d : DS), L < i + f → i ≤ 2565 → XR n W x d → Sm p l e room_1 s m #[Value.ref b] below meth c D A 4 56 1216 (lw_Z below #[Value.ref b] s) 18 [(0, .ref b), (1, .ref (a 0)), (2, .ref (a' 0)), (3, .int (nI i))] [] (wX cI cZ cO a x ++ wD cI cZ cO a' d) := by
  have hL := hE.2.2.2
  intro f
  induction f with
  | zero =>
    intro i n W x d hf hi h
    refine sm_iload_n F dL_law_18 rfl 3 rfl ?_
    refine sm_aload_n F dL_law_19 rfl 0 rfl ?_
    refine sm_slen F hE.1.1 hE.1.2.1 hE.1.2.2 dL_law_20 ?_
    refine sm_iconst F dL_law_21 kc_i_5 ?_
    refine sm_isub F dL_law_22 ?_
    refine sm_icmp_gt (tgt := 1269) F dL_law_23 (by decide) (fun _ => ?_) (fun z => absurd ((lgt (by omega) (by omega)).mpr (by omega)) z)
    refine sm_iconst F dL_law_1269 kc_i_1 ?_
    exact sm_lawret F hA dL_law_1270
  | succ f ih =>
    intro i n W x d hf hi h
    refine sm_iload_n F dL_law_18 rfl 3 rfl ?_
    refine sm_aload_n F dL_law_19 rfl 0 rfl ?_
    refine sm_slen F hE.1.1 hE.1.2.1 hE.1.2.2 dL_law_20 ?_
    refine sm_iconst F dL_law_21 kc_i_5 ?_
    refine sm_isub F dL_law_22 ?_
    refine sm_icmp_gt (tgt := 1269) F dL_law_23 (by decide) (fun _ => ?_) (fun z => ?_)
    · refine sm_iconst F dL_law_1269 kc_i_1 ?_
      exact sm_lawret F hA dL_law_1270
    · have hi5 : i + 5 ≤ L := by
        rcases Nat.lt_or_ge L (i + 5) with k | k
        · exact absurd ((lgt (by omega) (by omega)).mpr k) z
        · exact k
      refine sm_aload_n F dL_law_26 rfl 0 rfl ?_
      refine sm_iload_n F dL_law_27 rfl 3 rfl ?_
      refine sm_sld F hE.1.1 hE.1.2.1 hE.1.2.2 (vpin (show i < L by omega) (by omega)) dL_law_28 ?_
      refine sm_bipush F dL_law_29 kc_b_63 ?_
      refine sm_iand F dL_law_31 ?_
      refine sm_topi (pk_and _ (m := (63 : Int32)) 6 (by decide)) ?_
      refine lw_sw F hE hi5 (fun n' W' x' d' h' => ?_) h (Nat.mod_lt _ (by decide))
      refine sm_iinc F [(0, .ref b), (1, .ref (a 0)), (2, .ref (a' 0)), (3, .int (nI (i + 5)))] 3 [1, 2, 3, 0] dL_law_1263 rfl kc_i_5 (by decide) (by rw [show (5 : Int32) = nI 5 from rfl, nI_add]; rfl) ?_
      refine sm_goto (tgt := 18) F dL_law_1266 (by decide) ?_
      exact ih (i + 5) n' W' x' d' (by omega) (by omega) h'
