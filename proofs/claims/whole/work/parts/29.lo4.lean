set_option maxHeartbeats 4000000 in
set_option maxRecDepth 100000 in
theorem lo_raise {p : Program} {l : Launch} {e : Env} {s : State} {m : MethodId} {below : List Frame} {meth : Method} {c : Code} {sb L : Nat} {xs : Nat → Int32} {dC : Nat → ClassId} {dI : Nat → Nat → Nat} {cA : Nat → ClassId} {A : Nat → Prop} {Q : State → Prop} (hC : lC p l s m c sb L xs dC dI cA A) {t : Nat} (ht6 : 6 * t + 6 ≤ L) {ls : Array Slot} {H : Heap} {locs : List Loc} (hI : lI A s dC dI cA sb t ls H locs) (kk : ∀ (ls : Array Slot) (H : Heap) (locs : List Loc), lI A s dC dI cA sb t ls H locs → W p l e room_1 s m #[Value.ref sb] below meth c H locs (40 + 3 * t + 3) (900 + 20 * t + 20) Q (F0 m 1386 ls [])) : W p l e room_1 s m #[Value.ref sb] below meth c H locs (40 + 3 * t) (900 + 20 * t) Q (F0 m 1314 ls []) := by
  obtain ⟨hx, hb, hml, hown, h, hb0, hX, hbl, hA, hz, hL⟩ := hC
  have hK := h.K hb0
  have hbA : ¬ A sb := fun z => absurd hbl (Nat.not_lt.mpr (hz _ z))
  have hwk : ∀ w1 : va_W, va_D A w1 → va_D (fun q => s.heap.size ≤ q) w1 := fun w1 g => g.weaken (fun _ _ _ z => hz _ z)
  obtain ⟨b, ro, b0, b1, b2, b3, b4, b5, b6, b7, b8, gr, gc, br, pl, mo, mr, ml, ms, mv, lk, ga, n, g, f, so, va, wr, ca, gm, gh, gw, bm, bd, bc, th, pf, LP, bx, lf, hl, hP, hD, hS, hR, hgm, ⟨GH, hGH, hgh⟩, ⟨GW, hGW, hgw⟩, hbm, BC, hBC, hbc, hB⟩ := hI
  by_cases z1 : (xs (6 * t + 1)) = 0
  · refine lv_aload_n hx hb dL_law_1314 rfl (lv_at hl 3 rfl) ?_
    refine lv_aload_n hx hb dL_law_1315 rfl (lv_at hl 4 rfl) ?_
    refine lv_iload hx hb dL_law_1316 (lv_at hl 0 rfl) ?_
    refine lv_iconst (v := 1) hx hb dL_law_1318 (by decide) ?_
    refine lv_iadd hx hb dL_law_1319 ?_
    rw [show nI (6 * t) + 1 = nI (6 * t + 1) from nI_add _ 1]
    refine va_sld hx hb hX hbl hbA hS (vp_in_nI (show 6 * t + 1 < L by omega) (by omega)) dL_law_1320 ?_
    rw [nI_clamp (show 6 * t + 1 < 2 ^ 31 by omega)]
    refine lv_if_eq (tgt := 1328) hx hb dL_law_1321 (by decide) (fun c_101 => ?_) (fun c_101 => ?_)
    · refine lv_iconst (v := 0) hx hb dL_law_1328 (by decide) ?_
      refine lv_aload_n hx hb dL_law_1329 rfl (lv_at hl 1 rfl) ?_
      refine xm_ofQ (X9 := [(b, .inr (5, [.ref ro, .ref gr, .ref br, .int wr, .int ca])), (ro, .inr (4, [.ref b0, .ref b1, .ref b2, .ref b3, .ref b4, .ref b5, .ref b6, .ref b7, .ref b8])), (b0, .inl (cA 0, 8, .inl n)), (b1, .inl (cA 0, 39, .inl (r0 g))), (b2, .inl (cA 1, 39, .inr (.inl (r1 g)))), (b3, .inl (cA 2, 39, .inl (r2 g))), (b4, .inl (cA 3, 39, .inl (r3 g))), (b5, .inl (cA 4, 39, .inl (r4 g))), (b6, .inl (cA 5, 39, .inl (r5 g))), (b7, .inl (cA 6, 39, .inr (.inr (.inl (r6 g))))), (b8, .inl (cA 7, 39, .inr (.inr (.inr (.inl (r7 g)))))), (gr, .inr (3, [.ref gc, .int gm, .int gh, .int gw])), (gc, .inl (cA 9, 8, .inr (.inr (.inr (.inr (fun i => some (ga i))))))), (br, .inr (1, [.ref pl, .int bm, .int bd, .int bc])), (pl, .inl (cA 8, 19, .inr (.inr (.inr (.inr pf))))), (mo, .inr (6, [.int th, .ref mr, .ref ml, .int wr, .int gm, .int gh, .int gw, .int bm, .int bd, .int bc, .int ca, .ref ms, .ref mv])), (mr, .inl (cA 1, 320, .inr (.inl f))), (ml, .inl (cA 0, 8, .inl n)), (ms, .inl (cA 0, 20, .inl so)), (mv, .inl (cA 0, 20, .inl va)), (lk, .inl (cA 1, 1, .inr (.inl lf)))]) (pl := (rws (cA 0) ga (gmx 8 0) ++ va_pl LP bx)) (wc := [(lk, .inl (cA 1, 1, .inr (.inl lf)))]) (wo := [(b, .inr (5, [.ref ro, .ref gr, .ref br, .int wr, .int ca])), (ro, .inr (4, [.ref b0, .ref b1, .ref b2, .ref b3, .ref b4, .ref b5, .ref b6, .ref b7, .ref b8])), (b0, .inl (cA 0, 8, .inl n)), (b1, .inl (cA 0, 39, .inl (r0 g))), (b2, .inl (cA 1, 39, .inr (.inl (r1 g)))), (b3, .inl (cA 2, 39, .inl (r2 g))), (b4, .inl (cA 3, 39, .inl (r3 g))), (b5, .inl (cA 4, 39, .inl (r4 g))), (b6, .inl (cA 5, 39, .inl (r5 g))), (b7, .inl (cA 6, 39, .inr (.inr (.inl (r6 g))))), (b8, .inl (cA 7, 39, .inr (.inr (.inr (.inl (r7 g)))))), (gr, .inr (3, [.ref gc, .int gm, .int gh, .int gw])), (gc, .inl (cA 9, 8, .inr (.inr (.inr (.inr (fun i => some (ga i))))))), (br, .inr (1, [.ref pl, .int bm, .int bd, .int bc])), (pl, .inl (cA 8, 19, .inr (.inr (.inr (.inr pf))))), (mo, .inr (6, [.int th, .ref mr, .ref ml, .int wr, .int gm, .int gh, .int gw, .int bm, .int bd, .int bc, .int ca, .ref ms, .ref mv])), (mr, .inl (cA 1, 320, .inr (.inl f))), (ml, .inl (cA 0, 8, .inl n)), (ms, .inl (cA 0, 20, .inl so)), (mv, .inl (cA 0, 20, .inl va))]) (xw_runS (As := [.ref b, .int 0, .ref lk]) (rest := []) hx hb hml hown (l_t_raise_N h b 0 lk lf ro gr br wr ca _ rfl) (k_519 h hb0) (k_0 h hb0) (k_517 h hb0) (k_518 h hb0) (by decide) rfl rfl rfl (by decide) (by decide) (xpMS (wr := [(b, .inr (5, [.ref ro, .ref gr, .ref br, .int wr, .int ca]))]) (wc := [(lk, .inl (cA 1, 1, .inr (.inl lf)))]) hb0 hS hz (va_P.sub hP [0] rfl) (va_P.sub hP [20] rfl) (va_D.sub (hwk _ hD) [0, 20] rfl rfl)) rfl rfl hl.1 rfl (lv_room (Nat.le_of_ble_eq_true rfl)) dL_law_1330 ⟨(by show _ ≤ 806833; omega), (by show _ ≤ 6675604; omega)⟩) hP hD hS hA [20] [0, 1, 2, 3, 4, 5, 6, 7, 8, 9, 10, 11, 12, 13, 14, 15, 16, 17, 18, 19] rfl rfl rfl (by decide) (fun r w1 H locs hΦ hP hD hS => ?_)
      obtain ⟨rfl, rfl⟩ := hΦ
      have hP : va_P (dC, dI) vwCl ([(b, .inr (5, [.ref ro, .ref gr, .ref br, .int wr, .int ca])), (ro, .inr (4, [.ref b0, .ref b1, .ref b2, .ref b3, .ref b4, .ref b5, .ref b6, .ref b7, .ref b8])), (b0, .inl (cA 0, 8, .inl n)), (b1, .inl (cA 0, 39, .inl (r0 g))), (b2, .inl (cA 1, 39, .inr (.inl (r1 g)))), (b3, .inl (cA 2, 39, .inl (r2 g))), (b4, .inl (cA 3, 39, .inl (r3 g))), (b5, .inl (cA 4, 39, .inl (r4 g))), (b6, .inl (cA 5, 39, .inl (r5 g))), (b7, .inl (cA 6, 39, .inr (.inr (.inl (r6 g))))), (b8, .inl (cA 7, 39, .inr (.inr (.inr (.inl (r7 g)))))), (gr, .inr (3, [.ref gc, .int gm, .int gh, .int gw])), (gc, .inl (cA 9, 8, .inr (.inr (.inr (.inr (fun i => some (ga i))))))), (br, .inr (1, [.ref pl, .int bm, .int bd, .int bc])), (pl, .inl (cA 8, 19, .inr (.inr (.inr (.inr pf))))), (mo, .inr (6, [.int th, .ref mr, .ref ml, .int wr, .int gm, .int gh, .int gw, .int bm, .int bd, .int bc, .int ca, .ref ms, .ref mv])), (mr, .inl (cA 1, 320, .inr (.inl f))), (ml, .inl (cA 0, 8, .inl n)), (ms, .inl (cA 0, 20, .inl so)), (mv, .inl (cA 0, 20, .inl va)), (lk, .inl (cA 1, 1, .inr (.inl lf)))] ++ (rws (cA 0) ga (gmx 8 0) ++ va_pl LP bx)) H := hP
      have hD : va_D A ([(b, .inr (5, [.ref ro, .ref gr, .ref br, .int wr, .int ca])), (ro, .inr (4, [.ref b0, .ref b1, .ref b2, .ref b3, .ref b4, .ref b5, .ref b6, .ref b7, .ref b8])), (b0, .inl (cA 0, 8, .inl n)), (b1, .inl (cA 0, 39, .inl (r0 g))), (b2, .inl (cA 1, 39, .inr (.inl (r1 g)))), (b3, .inl (cA 2, 39, .inl (r2 g))), (b4, .inl (cA 3, 39, .inl (r3 g))), (b5, .inl (cA 4, 39, .inl (r4 g))), (b6, .inl (cA 5, 39, .inl (r5 g))), (b7, .inl (cA 6, 39, .inr (.inr (.inl (r6 g))))), (b8, .inl (cA 7, 39, .inr (.inr (.inr (.inl (r7 g)))))), (gr, .inr (3, [.ref gc, .int gm, .int gh, .int gw])), (gc, .inl (cA 9, 8, .inr (.inr (.inr (.inr (fun i => some (ga i))))))), (br, .inr (1, [.ref pl, .int bm, .int bd, .int bc])), (pl, .inl (cA 8, 19, .inr (.inr (.inr (.inr pf))))), (mo, .inr (6, [.int th, .ref mr, .ref ml, .int wr, .int gm, .int gh, .int gw, .int bm, .int bd, .int bc, .int ca, .ref ms, .ref mv])), (mr, .inl (cA 1, 320, .inr (.inl f))), (ml, .inl (cA 0, 8, .inl n)), (ms, .inl (cA 0, 20, .inl so)), (mv, .inl (cA 0, 20, .inl va)), (lk, .inl (cA 1, 1, .inr (.inl lf)))] ++ (rws (cA 0) ga (gmx 8 0) ++ va_pl LP bx)) := hD
      refine lv_istore (lv' := [(5, .int 1), (4, .int (nI (6 * t))), (3, .ref lk), (2, .ref mo), (1, .ref b), (0, .ref sb)]) hx hb dL_law_1333 hl (by decide) rfl (fun ls hl => ?_)
      refine lv_aload_n hx hb dL_law_1335 rfl (lv_at hl 3 rfl) ?_
      refine lv_aload_n hx hb dL_law_1336 rfl (lv_at hl 5 rfl) ?_
      refine lv_iload hx hb dL_law_1337 (lv_at hl 1 rfl) ?_
      refine lv_iconst (v := 1) hx hb dL_law_1339 (by decide) ?_
      refine lv_iadd hx hb dL_law_1340 ?_
      rw [show nI (6 * t) + 1 = nI (6 * t + 1) from nI_add _ 1]
      refine va_sld hx hb hX hbl hbA hS (vp_in_nI (show 6 * t + 1 < L by omega) (by omega)) dL_law_1341 ?_
      rw [nI_clamp (show 6 * t + 1 < 2 ^ 31 by omega)]
      refine lv_if_eq (tgt := 1349) hx hb dL_law_1342 (by decide) (fun c_102 => ?_) (fun c_102 => ?_)
      · refine lv_iconst (v := 0) hx hb dL_law_1349 (by decide) ?_
        refine xm_ofQ (X9 := [(b, .inr (5, [.ref ro, .ref gr, .ref br, .int wr, .int ca])), (ro, .inr (4, [.ref b0, .ref b1, .ref b2, .ref b3, .ref b4, .ref b5, .ref b6, .ref b7, .ref b8])), (b0, .inl (cA 0, 8, .inl n)), (b1, .inl (cA 0, 39, .inl (r0 g))), (b2, .inl (cA 1, 39, .inr (.inl (r1 g)))), (b3, .inl (cA 2, 39, .inl (r2 g))), (b4, .inl (cA 3, 39, .inl (r3 g))), (b5, .inl (cA 4, 39, .inl (r4 g))), (b6, .inl (cA 5, 39, .inl (r5 g))), (b7, .inl (cA 6, 39, .inr (.inr (.inl (r6 g))))), (b8, .inl (cA 7, 39, .inr (.inr (.inr (.inl (r7 g)))))), (gr, .inr (3, [.ref gc, .int gm, .int gh, .int gw])), (gc, .inl (cA 9, 8, .inr (.inr (.inr (.inr (fun i => some (ga i))))))), (br, .inr (1, [.ref pl, .int bm, .int bd, .int bc])), (pl, .inl (cA 8, 19, .inr (.inr (.inr (.inr pf))))), (mo, .inr (6, [.int th, .ref mr, .ref ml, .int wr, .int gm, .int gh, .int gw, .int bm, .int bd, .int bc, .int ca, .ref ms, .ref mv])), (mr, .inl (cA 1, 320, .inr (.inl f))), (ml, .inl (cA 0, 8, .inl n)), (ms, .inl (cA 0, 20, .inl so)), (mv, .inl (cA 0, 20, .inl va)), (lk, .inl (cA 1, 1, .inr (.inl lf)))]) (pl := (rws (cA 0) ga (gmx 8 0) ++ va_pl LP bx)) (wc := [(mo, .inr (6, [.int th, .ref mr, .ref ml, .int wr, .int gm, .int gh, .int gw, .int bm, .int bd, .int bc, .int ca, .ref ms, .ref mv]))]) (wo := [(b, .inr (5, [.ref ro, .ref gr, .ref br, .int wr, .int ca])), (ro, .inr (4, [.ref b0, .ref b1, .ref b2, .ref b3, .ref b4, .ref b5, .ref b6, .ref b7, .ref b8])), (b0, .inl (cA 0, 8, .inl n)), (b1, .inl (cA 0, 39, .inl (r0 g))), (b2, .inl (cA 1, 39, .inr (.inl (r1 g)))), (b3, .inl (cA 2, 39, .inl (r2 g))), (b4, .inl (cA 3, 39, .inl (r3 g))), (b5, .inl (cA 4, 39, .inl (r4 g))), (b6, .inl (cA 5, 39, .inl (r5 g))), (b7, .inl (cA 6, 39, .inr (.inr (.inl (r6 g))))), (b8, .inl (cA 7, 39, .inr (.inr (.inr (.inl (r7 g)))))), (gr, .inr (3, [.ref gc, .int gm, .int gh, .int gw])), (gc, .inl (cA 9, 8, .inr (.inr (.inr (.inr (fun i => some (ga i))))))), (br, .inr (1, [.ref pl, .int bm, .int bd, .int bc])), (pl, .inl (cA 8, 19, .inr (.inr (.inr (.inr pf))))), (mr, .inl (cA 1, 320, .inr (.inl f))), (ml, .inl (cA 0, 8, .inl n)), (ms, .inl (cA 0, 20, .inl so)), (mv, .inl (cA 0, 20, .inl va)), (lk, .inl (cA 1, 1, .inr (.inl lf)))]) (va_runV (As := [.int 0]) (rest := []) ⟨hx, hb, hml, hown, xTs⟩ (m_raise_N h mo mr ml ms mv th wr gm gh gw bm bd bc ca 0 _ rfl) ⟨xB (n := 1) (k_652 h hb0) (k_5 h hb0) (k_649 h hb0) (by decide) rfl rfl rfl (by decide) (by decide), (k_650 h hb0), (k_651 h hb0)⟩ (xpMV (wr := []) (wc := [(mo, .inr (6, [.int th, .ref mr, .ref ml, .int wr, .int gm, .int gh, .int gw, .int bm, .int bd, .int bc, .int ca, .ref ms, .ref mv]))]) hb0 hS hz (va_P.sub hP [] rfl) (va_P.sub hP [15] rfl) (va_D.sub (hwk _ hD) [15] rfl rfl) (va_recv hK hP (ci := 6) (q0 := 15) rfl rfl)) rfl rfl hl.1 rfl (lv_room (Nat.le_of_ble_eq_true rfl)) dL_law_1350 ⟨(by show _ ≤ 806833; omega), (by show _ ≤ 6675604; omega)⟩) hP hD hS hA [15] [0, 1, 2, 3, 4, 5, 6, 7, 8, 9, 10, 11, 12, 13, 14, 16, 17, 18, 19, 20] rfl rfl rfl (by decide) (fun r w1 H locs hΦ hP hD hS => ?_)
        obtain ⟨rfl, rfl⟩ := hΦ
        have hP : va_P (dC, dI) vwCl ([(b, .inr (5, [.ref ro, .ref gr, .ref br, .int wr, .int ca])), (ro, .inr (4, [.ref b0, .ref b1, .ref b2, .ref b3, .ref b4, .ref b5, .ref b6, .ref b7, .ref b8])), (b0, .inl (cA 0, 8, .inl n)), (b1, .inl (cA 0, 39, .inl (r0 g))), (b2, .inl (cA 1, 39, .inr (.inl (r1 g)))), (b3, .inl (cA 2, 39, .inl (r2 g))), (b4, .inl (cA 3, 39, .inl (r3 g))), (b5, .inl (cA 4, 39, .inl (r4 g))), (b6, .inl (cA 5, 39, .inl (r5 g))), (b7, .inl (cA 6, 39, .inr (.inr (.inl (r6 g))))), (b8, .inl (cA 7, 39, .inr (.inr (.inr (.inl (r7 g)))))), (gr, .inr (3, [.ref gc, .int gm, .int gh, .int gw])), (gc, .inl (cA 9, 8, .inr (.inr (.inr (.inr (fun i => some (ga i))))))), (br, .inr (1, [.ref pl, .int bm, .int bd, .int bc])), (pl, .inl (cA 8, 19, .inr (.inr (.inr (.inr pf))))), (mr, .inl (cA 1, 320, .inr (.inl f))), (ml, .inl (cA 0, 8, .inl n)), (ms, .inl (cA 0, 20, .inl so)), (mv, .inl (cA 0, 20, .inl va)), (lk, .inl (cA 1, 1, .inr (.inl lf))), (mo, .inr (6, [.int 1, .ref mr, .ref ml, .int wr, .int gm, .int gh, .int gw, .int bm, .int bd, .int bc, .int ca, .ref ms, .ref mv]))] ++ (rws (cA 0) ga (gmx 8 0) ++ va_pl LP bx)) H := hP
        have hD : va_D A ([(b, .inr (5, [.ref ro, .ref gr, .ref br, .int wr, .int ca])), (ro, .inr (4, [.ref b0, .ref b1, .ref b2, .ref b3, .ref b4, .ref b5, .ref b6, .ref b7, .ref b8])), (b0, .inl (cA 0, 8, .inl n)), (b1, .inl (cA 0, 39, .inl (r0 g))), (b2, .inl (cA 1, 39, .inr (.inl (r1 g)))), (b3, .inl (cA 2, 39, .inl (r2 g))), (b4, .inl (cA 3, 39, .inl (r3 g))), (b5, .inl (cA 4, 39, .inl (r4 g))), (b6, .inl (cA 5, 39, .inl (r5 g))), (b7, .inl (cA 6, 39, .inr (.inr (.inl (r6 g))))), (b8, .inl (cA 7, 39, .inr (.inr (.inr (.inl (r7 g)))))), (gr, .inr (3, [.ref gc, .int gm, .int gh, .int gw])), (gc, .inl (cA 9, 8, .inr (.inr (.inr (.inr (fun i => some (ga i))))))), (br, .inr (1, [.ref pl, .int bm, .int bd, .int bc])), (pl, .inl (cA 8, 19, .inr (.inr (.inr (.inr pf))))), (mr, .inl (cA 1, 320, .inr (.inl f))), (ml, .inl (cA 0, 8, .inl n)), (ms, .inl (cA 0, 20, .inl so)), (mv, .inl (cA 0, 20, .inl va)), (lk, .inl (cA 1, 1, .inr (.inl lf))), (mo, .inr (6, [.int 1, .ref mr, .ref ml, .int wr, .int gm, .int gh, .int gw, .int bm, .int bd, .int bc, .int ca, .ref ms, .ref mv]))] ++ (rws (cA 0) ga (gmx 8 0) ++ va_pl LP bx)) := hD
        refine lv_istore (lv' := [(6, .int 0), (5, .int 1), (4, .int (nI (6 * t))), (3, .ref lk), (2, .ref mo), (1, .ref b), (0, .ref sb)]) hx hb dL_law_1353 hl (by decide) rfl (fun ls hl => ?_)
        refine lv_aload_n hx hb dL_law_1355 rfl (lv_at hl 4 rfl) ?_
        refine xr_1 (va_runV (As := []) (rest := []) ⟨hx, hb, hml, hown, xTs⟩ (c_thrown h mo mr ml ms mv 1 wr gm gh gw bm bd bc ca) ⟨xB (n := 0) (k_574 h hb0) (k_5 h hb0) (k_571 h hb0) (by decide) rfl rfl rfl (by decide) (by decide), (k_572 h hb0), (k_573 h hb0)⟩ (xpV hb0 hS hz (va_P.sub hP [20] rfl) (va_recv hK hP (ci := 6) (q0 := 20) rfl rfl)) rfl rfl hl.1 rfl (lv_room (Nat.le_of_ble_eq_true rfl)) dL_law_1356 ⟨(by show _ ≤ 806833; omega), (by show _ ≤ 6675604; omega)⟩) ?_
        refine lv_iload hx hb dL_law_1359 (lv_at hl 1 rfl) ?_
        refine lv_icmp_eq (tgt := 1366) hx hb dL_law_1361 (by decide) (fun c_103 => ?_) (fun c_103 => ?_)
        · refine lv_iload hx hb dL_law_1366 (lv_at hl 1 rfl) ?_
          refine lv_if_ne (tgt := 1383) hx hb dL_law_1368 (by decide) (fun c_104 => ?_) (fun c_104 => ?_)
          · refine lv_goto (tgt := 1386) hx hb dL_law_1383 (by decide) ?_
            refine W.widen (k := 40 + 3 * t + 3) (n := 900 + 20 * t + 20) (by omega) (by omega) ?_
            exact kk ls H locs ⟨b, ro, b0, b1, b2, b3, b4, b5, b6, b7, b8, gr, gc, br, pl, mo, mr, ml, ms, mv, lk, ga, n, g, f, so, va, wr, ca, gm, gh, gw, bm, bd, bc, 1, pf, LP, bx, lf, lv_sub hl [2, 3, 4, 5, 6] rfl, va_P.part hP [0, 1, 2, 3, 4, 5, 6, 7, 8, 9, 10, 11, 12, 13, 14, 20, 15, 16, 17, 18, 19] rfl, va_D.part hD [0, 1, 2, 3, 4, 5, 6, 7, 8, 9, 10, 11, 12, 13, 14, 20, 15, 16, 17, 18, 19] rfl rfl, hS, ⟨hR, hgm, ⟨GH, hGH, hgh⟩, ⟨GW, hGW, hgw⟩, hbm, BC, hBC, hbc, hB⟩⟩
          · exact absurd c_104 (by decide)
        · exact absurd rfl c_103
      · exact absurd z1 c_102
    · exact absurd z1 c_101
  · refine lv_aload_n hx hb dL_law_1314 rfl (lv_at hl 3 rfl) ?_
    refine lv_aload_n hx hb dL_law_1315 rfl (lv_at hl 4 rfl) ?_
    refine lv_iload hx hb dL_law_1316 (lv_at hl 0 rfl) ?_
    refine lv_iconst (v := 1) hx hb dL_law_1318 (by decide) ?_
    refine lv_iadd hx hb dL_law_1319 ?_
    rw [show nI (6 * t) + 1 = nI (6 * t + 1) from nI_add _ 1]
    refine va_sld hx hb hX hbl hbA hS (vp_in_nI (show 6 * t + 1 < L by omega) (by omega)) dL_law_1320 ?_
    rw [nI_clamp (show 6 * t + 1 < 2 ^ 31 by omega)]
    refine lv_if_eq (tgt := 1328) hx hb dL_law_1321 (by decide) (fun c_101 => ?_) (fun c_101 => ?_)
    · exact absurd c_101 z1
    · refine lv_iconst (v := 1) hx hb dL_law_1324 (by decide) ?_
      refine lv_goto (tgt := 1329) hx hb dL_law_1325 (by decide) ?_
      refine lv_aload_n hx hb dL_law_1329 rfl (lv_at hl 1 rfl) ?_
      refine xm_ofQ (X9 := [(b, .inr (5, [.ref ro, .ref gr, .ref br, .int wr, .int ca])), (ro, .inr (4, [.ref b0, .ref b1, .ref b2, .ref b3, .ref b4, .ref b5, .ref b6, .ref b7, .ref b8])), (b0, .inl (cA 0, 8, .inl n)), (b1, .inl (cA 0, 39, .inl (r0 g))), (b2, .inl (cA 1, 39, .inr (.inl (r1 g)))), (b3, .inl (cA 2, 39, .inl (r2 g))), (b4, .inl (cA 3, 39, .inl (r3 g))), (b5, .inl (cA 4, 39, .inl (r4 g))), (b6, .inl (cA 5, 39, .inl (r5 g))), (b7, .inl (cA 6, 39, .inr (.inr (.inl (r6 g))))), (b8, .inl (cA 7, 39, .inr (.inr (.inr (.inl (r7 g)))))), (gr, .inr (3, [.ref gc, .int gm, .int gh, .int gw])), (gc, .inl (cA 9, 8, .inr (.inr (.inr (.inr (fun i => some (ga i))))))), (br, .inr (1, [.ref pl, .int bm, .int bd, .int bc])), (pl, .inl (cA 8, 19, .inr (.inr (.inr (.inr pf))))), (mo, .inr (6, [.int th, .ref mr, .ref ml, .int wr, .int gm, .int gh, .int gw, .int bm, .int bd, .int bc, .int ca, .ref ms, .ref mv])), (mr, .inl (cA 1, 320, .inr (.inl f))), (ml, .inl (cA 0, 8, .inl n)), (ms, .inl (cA 0, 20, .inl so)), (mv, .inl (cA 0, 20, .inl va)), (lk, .inl (cA 1, 1, .inr (.inl lf)))]) (pl := (rws (cA 0) ga (gmx 8 0) ++ va_pl LP bx)) (wc := [(lk, .inl (cA 1, 1, .inr (.inl lf)))]) (wo := [(b, .inr (5, [.ref ro, .ref gr, .ref br, .int wr, .int ca])), (ro, .inr (4, [.ref b0, .ref b1, .ref b2, .ref b3, .ref b4, .ref b5, .ref b6, .ref b7, .ref b8])), (b0, .inl (cA 0, 8, .inl n)), (b1, .inl (cA 0, 39, .inl (r0 g))), (b2, .inl (cA 1, 39, .inr (.inl (r1 g)))), (b3, .inl (cA 2, 39, .inl (r2 g))), (b4, .inl (cA 3, 39, .inl (r3 g))), (b5, .inl (cA 4, 39, .inl (r4 g))), (b6, .inl (cA 5, 39, .inl (r5 g))), (b7, .inl (cA 6, 39, .inr (.inr (.inl (r6 g))))), (b8, .inl (cA 7, 39, .inr (.inr (.inr (.inl (r7 g)))))), (gr, .inr (3, [.ref gc, .int gm, .int gh, .int gw])), (gc, .inl (cA 9, 8, .inr (.inr (.inr (.inr (fun i => some (ga i))))))), (br, .inr (1, [.ref pl, .int bm, .int bd, .int bc])), (pl, .inl (cA 8, 19, .inr (.inr (.inr (.inr pf))))), (mo, .inr (6, [.int th, .ref mr, .ref ml, .int wr, .int gm, .int gh, .int gw, .int bm, .int bd, .int bc, .int ca, .ref ms, .ref mv])), (mr, .inl (cA 1, 320, .inr (.inl f))), (ml, .inl (cA 0, 8, .inl n)), (ms, .inl (cA 0, 20, .inl so)), (mv, .inl (cA 0, 20, .inl va))]) (xw_runS (As := [.ref b, .int 1, .ref lk]) (rest := []) hx hb hml hown (l_t_raise_Z h b 1 lk lf ro gr br wr ca _ (by decide)) (k_519 h hb0) (k_0 h hb0) (k_517 h hb0) (k_518 h hb0) (by decide) rfl rfl rfl (by decide) (by decide) (xpMS (wr := [(b, .inr (5, [.ref ro, .ref gr, .ref br, .int wr, .int ca]))]) (wc := [(lk, .inl (cA 1, 1, .inr (.inl lf)))]) hb0 hS hz (va_P.sub hP [0] rfl) (va_P.sub hP [20] rfl) (va_D.sub (hwk _ hD) [0, 20] rfl rfl)) rfl rfl hl.1 rfl (lv_room (Nat.le_of_ble_eq_true rfl)) dL_law_1330 ⟨(by show _ ≤ 806833; omega), (by show _ ≤ 6675604; omega)⟩) hP hD hS hA [20] [0, 1, 2, 3, 4, 5, 6, 7, 8, 9, 10, 11, 12, 13, 14, 15, 16, 17, 18, 19] rfl rfl rfl (by decide) (fun r w1 H locs hΦ hP hD hS => ?_)
      obtain ⟨rfl, rfl⟩ := hΦ
      have hP : va_P (dC, dI) vwCl ([(b, .inr (5, [.ref ro, .ref gr, .ref br, .int wr, .int ca])), (ro, .inr (4, [.ref b0, .ref b1, .ref b2, .ref b3, .ref b4, .ref b5, .ref b6, .ref b7, .ref b8])), (b0, .inl (cA 0, 8, .inl n)), (b1, .inl (cA 0, 39, .inl (r0 g))), (b2, .inl (cA 1, 39, .inr (.inl (r1 g)))), (b3, .inl (cA 2, 39, .inl (r2 g))), (b4, .inl (cA 3, 39, .inl (r3 g))), (b5, .inl (cA 4, 39, .inl (r4 g))), (b6, .inl (cA 5, 39, .inl (r5 g))), (b7, .inl (cA 6, 39, .inr (.inr (.inl (r6 g))))), (b8, .inl (cA 7, 39, .inr (.inr (.inr (.inl (r7 g)))))), (gr, .inr (3, [.ref gc, .int gm, .int gh, .int gw])), (gc, .inl (cA 9, 8, .inr (.inr (.inr (.inr (fun i => some (ga i))))))), (br, .inr (1, [.ref pl, .int bm, .int bd, .int bc])), (pl, .inl (cA 8, 19, .inr (.inr (.inr (.inr pf))))), (mo, .inr (6, [.int th, .ref mr, .ref ml, .int wr, .int gm, .int gh, .int gw, .int bm, .int bd, .int bc, .int ca, .ref ms, .ref mv])), (mr, .inl (cA 1, 320, .inr (.inl f))), (ml, .inl (cA 0, 8, .inl n)), (ms, .inl (cA 0, 20, .inl so)), (mv, .inl (cA 0, 20, .inl va)), (lk, .inl (cA 1, 1, .inr (.inl lf)))] ++ (rws (cA 0) ga (gmx 8 0) ++ va_pl LP bx)) H := hP
      have hD : va_D A ([(b, .inr (5, [.ref ro, .ref gr, .ref br, .int wr, .int ca])), (ro, .inr (4, [.ref b0, .ref b1, .ref b2, .ref b3, .ref b4, .ref b5, .ref b6, .ref b7, .ref b8])), (b0, .inl (cA 0, 8, .inl n)), (b1, .inl (cA 0, 39, .inl (r0 g))), (b2, .inl (cA 1, 39, .inr (.inl (r1 g)))), (b3, .inl (cA 2, 39, .inl (r2 g))), (b4, .inl (cA 3, 39, .inl (r3 g))), (b5, .inl (cA 4, 39, .inl (r4 g))), (b6, .inl (cA 5, 39, .inl (r5 g))), (b7, .inl (cA 6, 39, .inr (.inr (.inl (r6 g))))), (b8, .inl (cA 7, 39, .inr (.inr (.inr (.inl (r7 g)))))), (gr, .inr (3, [.ref gc, .int gm, .int gh, .int gw])), (gc, .inl (cA 9, 8, .inr (.inr (.inr (.inr (fun i => some (ga i))))))), (br, .inr (1, [.ref pl, .int bm, .int bd, .int bc])), (pl, .inl (cA 8, 19, .inr (.inr (.inr (.inr pf))))), (mo, .inr (6, [.int th, .ref mr, .ref ml, .int wr, .int gm, .int gh, .int gw, .int bm, .int bd, .int bc, .int ca, .ref ms, .ref mv])), (mr, .inl (cA 1, 320, .inr (.inl f))), (ml, .inl (cA 0, 8, .inl n)), (ms, .inl (cA 0, 20, .inl so)), (mv, .inl (cA 0, 20, .inl va)), (lk, .inl (cA 1, 1, .inr (.inl lf)))] ++ (rws (cA 0) ga (gmx 8 0) ++ va_pl LP bx)) := hD
      refine lv_istore (lv' := [(5, .int 2), (4, .int (nI (6 * t))), (3, .ref lk), (2, .ref mo), (1, .ref b), (0, .ref sb)]) hx hb dL_law_1333 hl (by decide) rfl (fun ls hl => ?_)
      refine lv_aload_n hx hb dL_law_1335 rfl (lv_at hl 3 rfl) ?_
      refine lv_aload_n hx hb dL_law_1336 rfl (lv_at hl 5 rfl) ?_
      refine lv_iload hx hb dL_law_1337 (lv_at hl 1 rfl) ?_
      refine lv_iconst (v := 1) hx hb dL_law_1339 (by decide) ?_
      refine lv_iadd hx hb dL_law_1340 ?_
      rw [show nI (6 * t) + 1 = nI (6 * t + 1) from nI_add _ 1]
      refine va_sld hx hb hX hbl hbA hS (vp_in_nI (show 6 * t + 1 < L by omega) (by omega)) dL_law_1341 ?_
      rw [nI_clamp (show 6 * t + 1 < 2 ^ 31 by omega)]
      refine lv_if_eq (tgt := 1349) hx hb dL_law_1342 (by decide) (fun c_102 => ?_) (fun c_102 => ?_)
      · exact absurd c_102 z1
      · refine lv_iconst (v := 1) hx hb dL_law_1345 (by decide) ?_
        refine lv_goto (tgt := 1350) hx hb dL_law_1346 (by decide) ?_
        refine xm_ofQ (X9 := [(b, .inr (5, [.ref ro, .ref gr, .ref br, .int wr, .int ca])), (ro, .inr (4, [.ref b0, .ref b1, .ref b2, .ref b3, .ref b4, .ref b5, .ref b6, .ref b7, .ref b8])), (b0, .inl (cA 0, 8, .inl n)), (b1, .inl (cA 0, 39, .inl (r0 g))), (b2, .inl (cA 1, 39, .inr (.inl (r1 g)))), (b3, .inl (cA 2, 39, .inl (r2 g))), (b4, .inl (cA 3, 39, .inl (r3 g))), (b5, .inl (cA 4, 39, .inl (r4 g))), (b6, .inl (cA 5, 39, .inl (r5 g))), (b7, .inl (cA 6, 39, .inr (.inr (.inl (r6 g))))), (b8, .inl (cA 7, 39, .inr (.inr (.inr (.inl (r7 g)))))), (gr, .inr (3, [.ref gc, .int gm, .int gh, .int gw])), (gc, .inl (cA 9, 8, .inr (.inr (.inr (.inr (fun i => some (ga i))))))), (br, .inr (1, [.ref pl, .int bm, .int bd, .int bc])), (pl, .inl (cA 8, 19, .inr (.inr (.inr (.inr pf))))), (mo, .inr (6, [.int th, .ref mr, .ref ml, .int wr, .int gm, .int gh, .int gw, .int bm, .int bd, .int bc, .int ca, .ref ms, .ref mv])), (mr, .inl (cA 1, 320, .inr (.inl f))), (ml, .inl (cA 0, 8, .inl n)), (ms, .inl (cA 0, 20, .inl so)), (mv, .inl (cA 0, 20, .inl va)), (lk, .inl (cA 1, 1, .inr (.inl lf)))]) (pl := (rws (cA 0) ga (gmx 8 0) ++ va_pl LP bx)) (wc := [(mo, .inr (6, [.int th, .ref mr, .ref ml, .int wr, .int gm, .int gh, .int gw, .int bm, .int bd, .int bc, .int ca, .ref ms, .ref mv]))]) (wo := [(b, .inr (5, [.ref ro, .ref gr, .ref br, .int wr, .int ca])), (ro, .inr (4, [.ref b0, .ref b1, .ref b2, .ref b3, .ref b4, .ref b5, .ref b6, .ref b7, .ref b8])), (b0, .inl (cA 0, 8, .inl n)), (b1, .inl (cA 0, 39, .inl (r0 g))), (b2, .inl (cA 1, 39, .inr (.inl (r1 g)))), (b3, .inl (cA 2, 39, .inl (r2 g))), (b4, .inl (cA 3, 39, .inl (r3 g))), (b5, .inl (cA 4, 39, .inl (r4 g))), (b6, .inl (cA 5, 39, .inl (r5 g))), (b7, .inl (cA 6, 39, .inr (.inr (.inl (r6 g))))), (b8, .inl (cA 7, 39, .inr (.inr (.inr (.inl (r7 g)))))), (gr, .inr (3, [.ref gc, .int gm, .int gh, .int gw])), (gc, .inl (cA 9, 8, .inr (.inr (.inr (.inr (fun i => some (ga i))))))), (br, .inr (1, [.ref pl, .int bm, .int bd, .int bc])), (pl, .inl (cA 8, 19, .inr (.inr (.inr (.inr pf))))), (mr, .inl (cA 1, 320, .inr (.inl f))), (ml, .inl (cA 0, 8, .inl n)), (ms, .inl (cA 0, 20, .inl so)), (mv, .inl (cA 0, 20, .inl va)), (lk, .inl (cA 1, 1, .inr (.inl lf)))]) (va_runV (As := [.int 1]) (rest := []) ⟨hx, hb, hml, hown, xTs⟩ (m_raise_Z h mo mr ml ms mv th wr gm gh gw bm bd bc ca 1 _ (by decide)) ⟨xB (n := 1) (k_652 h hb0) (k_5 h hb0) (k_649 h hb0) (by decide) rfl rfl rfl (by decide) (by decide), (k_650 h hb0), (k_651 h hb0)⟩ (xpMV (wr := []) (wc := [(mo, .inr (6, [.int th, .ref mr, .ref ml, .int wr, .int gm, .int gh, .int gw, .int bm, .int bd, .int bc, .int ca, .ref ms, .ref mv]))]) hb0 hS hz (va_P.sub hP [] rfl) (va_P.sub hP [15] rfl) (va_D.sub (hwk _ hD) [15] rfl rfl) (va_recv hK hP (ci := 6) (q0 := 15) rfl rfl)) rfl rfl hl.1 rfl (lv_room (Nat.le_of_ble_eq_true rfl)) dL_law_1350 ⟨(by show _ ≤ 806833; omega), (by show _ ≤ 6675604; omega)⟩) hP hD hS hA [15] [0, 1, 2, 3, 4, 5, 6, 7, 8, 9, 10, 11, 12, 13, 14, 16, 17, 18, 19, 20] rfl rfl rfl (by decide) (fun r w1 H locs hΦ hP hD hS => ?_)
        obtain ⟨rfl, rfl⟩ := hΦ
        have hP : va_P (dC, dI) vwCl ([(b, .inr (5, [.ref ro, .ref gr, .ref br, .int wr, .int ca])), (ro, .inr (4, [.ref b0, .ref b1, .ref b2, .ref b3, .ref b4, .ref b5, .ref b6, .ref b7, .ref b8])), (b0, .inl (cA 0, 8, .inl n)), (b1, .inl (cA 0, 39, .inl (r0 g))), (b2, .inl (cA 1, 39, .inr (.inl (r1 g)))), (b3, .inl (cA 2, 39, .inl (r2 g))), (b4, .inl (cA 3, 39, .inl (r3 g))), (b5, .inl (cA 4, 39, .inl (r4 g))), (b6, .inl (cA 5, 39, .inl (r5 g))), (b7, .inl (cA 6, 39, .inr (.inr (.inl (r6 g))))), (b8, .inl (cA 7, 39, .inr (.inr (.inr (.inl (r7 g)))))), (gr, .inr (3, [.ref gc, .int gm, .int gh, .int gw])), (gc, .inl (cA 9, 8, .inr (.inr (.inr (.inr (fun i => some (ga i))))))), (br, .inr (1, [.ref pl, .int bm, .int bd, .int bc])), (pl, .inl (cA 8, 19, .inr (.inr (.inr (.inr pf))))), (mr, .inl (cA 1, 320, .inr (.inl f))), (ml, .inl (cA 0, 8, .inl n)), (ms, .inl (cA 0, 20, .inl so)), (mv, .inl (cA 0, 20, .inl va)), (lk, .inl (cA 1, 1, .inr (.inl lf))), (mo, .inr (6, [.int 2, .ref mr, .ref ml, .int wr, .int gm, .int gh, .int gw, .int bm, .int bd, .int bc, .int ca, .ref ms, .ref mv]))] ++ (rws (cA 0) ga (gmx 8 0) ++ va_pl LP bx)) H := hP
        have hD : va_D A ([(b, .inr (5, [.ref ro, .ref gr, .ref br, .int wr, .int ca])), (ro, .inr (4, [.ref b0, .ref b1, .ref b2, .ref b3, .ref b4, .ref b5, .ref b6, .ref b7, .ref b8])), (b0, .inl (cA 0, 8, .inl n)), (b1, .inl (cA 0, 39, .inl (r0 g))), (b2, .inl (cA 1, 39, .inr (.inl (r1 g)))), (b3, .inl (cA 2, 39, .inl (r2 g))), (b4, .inl (cA 3, 39, .inl (r3 g))), (b5, .inl (cA 4, 39, .inl (r4 g))), (b6, .inl (cA 5, 39, .inl (r5 g))), (b7, .inl (cA 6, 39, .inr (.inr (.inl (r6 g))))), (b8, .inl (cA 7, 39, .inr (.inr (.inr (.inl (r7 g)))))), (gr, .inr (3, [.ref gc, .int gm, .int gh, .int gw])), (gc, .inl (cA 9, 8, .inr (.inr (.inr (.inr (fun i => some (ga i))))))), (br, .inr (1, [.ref pl, .int bm, .int bd, .int bc])), (pl, .inl (cA 8, 19, .inr (.inr (.inr (.inr pf))))), (mr, .inl (cA 1, 320, .inr (.inl f))), (ml, .inl (cA 0, 8, .inl n)), (ms, .inl (cA 0, 20, .inl so)), (mv, .inl (cA 0, 20, .inl va)), (lk, .inl (cA 1, 1, .inr (.inl lf))), (mo, .inr (6, [.int 2, .ref mr, .ref ml, .int wr, .int gm, .int gh, .int gw, .int bm, .int bd, .int bc, .int ca, .ref ms, .ref mv]))] ++ (rws (cA 0) ga (gmx 8 0) ++ va_pl LP bx)) := hD
        refine lv_istore (lv' := [(6, .int 0), (5, .int 2), (4, .int (nI (6 * t))), (3, .ref lk), (2, .ref mo), (1, .ref b), (0, .ref sb)]) hx hb dL_law_1353 hl (by decide) rfl (fun ls hl => ?_)
        refine lv_aload_n hx hb dL_law_1355 rfl (lv_at hl 4 rfl) ?_
        refine xr_1 (va_runV (As := []) (rest := []) ⟨hx, hb, hml, hown, xTs⟩ (c_thrown h mo mr ml ms mv 2 wr gm gh gw bm bd bc ca) ⟨xB (n := 0) (k_574 h hb0) (k_5 h hb0) (k_571 h hb0) (by decide) rfl rfl rfl (by decide) (by decide), (k_572 h hb0), (k_573 h hb0)⟩ (xpV hb0 hS hz (va_P.sub hP [20] rfl) (va_recv hK hP (ci := 6) (q0 := 20) rfl rfl)) rfl rfl hl.1 rfl (lv_room (Nat.le_of_ble_eq_true rfl)) dL_law_1356 ⟨(by show _ ≤ 806833; omega), (by show _ ≤ 6675604; omega)⟩) ?_
        refine lv_iload hx hb dL_law_1359 (lv_at hl 1 rfl) ?_
        refine lv_icmp_eq (tgt := 1366) hx hb dL_law_1361 (by decide) (fun c_103 => ?_) (fun c_103 => ?_)
        · refine lv_iload hx hb dL_law_1366 (lv_at hl 1 rfl) ?_
          refine lv_if_ne (tgt := 1383) hx hb dL_law_1368 (by decide) (fun c_104 => ?_) (fun c_104 => ?_)
          · refine lv_goto (tgt := 1386) hx hb dL_law_1383 (by decide) ?_
            refine W.widen (k := 40 + 3 * t + 3) (n := 900 + 20 * t + 20) (by omega) (by omega) ?_
            exact kk ls H locs ⟨b, ro, b0, b1, b2, b3, b4, b5, b6, b7, b8, gr, gc, br, pl, mo, mr, ml, ms, mv, lk, ga, n, g, f, so, va, wr, ca, gm, gh, gw, bm, bd, bc, 2, pf, LP, bx, lf, lv_sub hl [2, 3, 4, 5, 6] rfl, va_P.part hP [0, 1, 2, 3, 4, 5, 6, 7, 8, 9, 10, 11, 12, 13, 14, 20, 15, 16, 17, 18, 19] rfl, va_D.part hD [0, 1, 2, 3, 4, 5, 6, 7, 8, 9, 10, 11, 12, 13, 14, 20, 15, 16, 17, 18, 19] rfl rfl, hS, ⟨hR, hgm, ⟨GH, hGH, hgh⟩, ⟨GW, hGW, hgw⟩, hbm, BC, hBC, hbc, hB⟩⟩
          · exact absurd c_104 (by decide)
        · exact absurd rfl c_103
set_option maxHeartbeats 4000000 in
set_option maxRecDepth 100000 in
theorem lo_divideLong {p : Program} {l : Launch} {e : Env} {s : State} {m : MethodId} {below : List Frame} {meth : Method} {c : Code} {sb L : Nat} {xs : Nat → Int32} {dC : Nat → ClassId} {dI : Nat → Nat → Nat} {cA : Nat → ClassId} {A : Nat → Prop} {Q : State → Prop} (hC : lC p l s m c sb L xs dC dI cA A) {t : Nat} (ht6 : 6 * t + 6 ≤ L) {ls : Array Slot} {H : Heap} {locs : List Loc} (hI : lI A s dC dI cA sb t ls H locs) (kk : ∀ (ls : Array Slot) (H : Heap) (locs : List Loc), lI A s dC dI cA sb t ls H locs → W p l e room_1 s m #[Value.ref sb] below meth c H locs (40 + 3 * t + 3) (900 + 20 * t + 20) Q (F0 m 1386 ls [])) : W p l e room_1 s m #[Value.ref sb] below meth c H locs (40 + 3 * t) (900 + 20 * t) Q (F0 m 1155 ls []) := by
  obtain ⟨hx, hb, hml, hown, h, hb0, hX, hbl, hA, hz, hL⟩ := hC
  have hK := h.K hb0
  have hbA : ¬ A sb := fun z => absurd hbl (Nat.not_lt.mpr (hz _ z))
  have hwk : ∀ w1 : va_W, va_D A w1 → va_D (fun q => s.heap.size ≤ q) w1 := fun w1 g => g.weaken (fun _ _ _ z => hz _ z)
  obtain ⟨b, ro, b0, b1, b2, b3, b4, b5, b6, b7, b8, gr, gc, br, pl, mo, mr, ml, ms, mv, lk, ga, n, g, f, so, va, wr, ca, gm, gh, gw, bm, bd, bc, th, pf, LP, bx, lf, hl, hP, hD, hS, hR, hgm, ⟨GH, hGH, hgh⟩, ⟨GW, hGW, hgw⟩, hbm, BC, hBC, hbc, hB⟩ := hI
  by_cases z5 : (xs (6 * t + 5)) = 0
  · by_cases hc : (((xs (6 * t + 3)).toInt64 <<< ((32 : Int32).toInt64 &&& 63)) ||| ((xs (6 * t + 4)).toInt64 &&& 4294967295)) = 0
    · refine lv_aload_n hx hb dL_law_1155 rfl (lv_at hl 3 rfl) ?_
      refine lv_aload_n hx hb dL_law_1156 rfl (lv_at hl 4 rfl) ?_
      refine lv_iload hx hb dL_law_1157 (lv_at hl 0 rfl) ?_
      refine lv_iconst (v := 1) hx hb dL_law_1159 (by decide) ?_
      refine lv_iadd hx hb dL_law_1160 ?_
      rw [show nI (6 * t) + 1 = nI (6 * t + 1) from nI_add _ 1]
      refine va_sld hx hb hX hbl hbA hS (vp_in_nI (show 6 * t + 1 < L by omega) (by omega)) dL_law_1161 ?_
      rw [nI_clamp (show 6 * t + 1 < 2 ^ 31 by omega)]
      refine lv_i2l hx hb dL_law_1162 rfl ?_
      refine lv_bipush (v := 32) hx hb dL_law_1163 (by decide) ?_
      refine lv_lshl hx hb dL_law_1165 rfl ?_
      refine lv_aload_n hx hb dL_law_1166 rfl (lv_at hl 4 rfl) ?_
      refine lv_iload hx hb dL_law_1167 (lv_at hl 0 rfl) ?_
      refine lv_iconst (v := 2) hx hb dL_law_1169 (by decide) ?_
      refine lv_iadd hx hb dL_law_1170 ?_
      rw [show nI (6 * t) + 2 = nI (6 * t + 2) from nI_add _ 2]
      refine va_sld hx hb hX hbl hbA hS (vp_in_nI (show 6 * t + 2 < L by omega) (by omega)) dL_law_1171 ?_
      rw [nI_clamp (show 6 * t + 2 < 2 ^ 31 by omega)]
      refine lv_i2l hx hb dL_law_1172 rfl ?_
      refine lv_ldc2 hx hb hown (k_653 h hb0) dL_law_1173 ?_
      refine lv_land hx hb dL_law_1176 ?_
      refine lv_lor hx hb dL_law_1177 ?_
      refine lv_aload_n hx hb dL_law_1178 rfl (lv_at hl 4 rfl) ?_
      refine lv_iload hx hb dL_law_1179 (lv_at hl 0 rfl) ?_
      refine lv_iconst (v := 3) hx hb dL_law_1181 (by decide) ?_
      refine lv_iadd hx hb dL_law_1182 ?_
      rw [show nI (6 * t) + 3 = nI (6 * t + 3) from nI_add _ 3]
      refine va_sld hx hb hX hbl hbA hS (vp_in_nI (show 6 * t + 3 < L by omega) (by omega)) dL_law_1183 ?_
      rw [nI_clamp (show 6 * t + 3 < 2 ^ 31 by omega)]
      refine lv_i2l hx hb dL_law_1184 rfl ?_
      refine lv_bipush (v := 32) hx hb dL_law_1185 (by decide) ?_
      refine lv_lshl hx hb dL_law_1187 rfl ?_
      refine lv_aload_n hx hb dL_law_1188 rfl (lv_at hl 4 rfl) ?_
      refine lv_iload hx hb dL_law_1189 (lv_at hl 0 rfl) ?_
      refine lv_iconst (v := 4) hx hb dL_law_1191 (by decide) ?_
      refine lv_iadd hx hb dL_law_1192 ?_
      rw [show nI (6 * t) + 4 = nI (6 * t + 4) from nI_add _ 4]
      refine va_sld hx hb hX hbl hbA hS (vp_in_nI (show 6 * t + 4 < L by omega) (by omega)) dL_law_1193 ?_
      rw [nI_clamp (show 6 * t + 4 < 2 ^ 31 by omega)]
      refine lv_i2l hx hb dL_law_1194 rfl ?_
      refine lv_ldc2 hx hb hown (k_653 h hb0) dL_law_1195 ?_
      refine lv_land hx hb dL_law_1198 ?_
      refine lv_lor hx hb dL_law_1199 ?_
      refine lv_aload_n hx hb dL_law_1200 rfl (lv_at hl 4 rfl) ?_
      refine lv_iload hx hb dL_law_1201 (lv_at hl 0 rfl) ?_
      refine lv_iconst (v := 5) hx hb dL_law_1203 (by decide) ?_
      refine lv_iadd hx hb dL_law_1204 ?_
      rw [show nI (6 * t) + 5 = nI (6 * t + 5) from nI_add _ 5]
      refine va_sld hx hb hX hbl hbA hS (vp_in_nI (show 6 * t + 5 < L by omega) (by omega)) dL_law_1205 ?_
      rw [nI_clamp (show 6 * t + 5 < 2 ^ 31 by omega)]
      refine lv_if_eq (tgt := 1213) hx hb dL_law_1206 (by decide) (fun c_101 => ?_) (fun c_101 => ?_)
      · refine lv_iconst (v := 0) hx hb dL_law_1213 (by decide) ?_
        refine lv_aload_n hx hb dL_law_1214 rfl (lv_at hl 1 rfl) ?_
        refine xm_ofQ (X9 := [(b, .inr (5, [.ref ro, .ref gr, .ref br, .int wr, .int ca])), (ro, .inr (4, [.ref b0, .ref b1, .ref b2, .ref b3, .ref b4, .ref b5, .ref b6, .ref b7, .ref b8])), (b0, .inl (cA 0, 8, .inl n)), (b1, .inl (cA 0, 39, .inl (r0 g))), (b2, .inl (cA 1, 39, .inr (.inl (r1 g)))), (b3, .inl (cA 2, 39, .inl (r2 g))), (b4, .inl (cA 3, 39, .inl (r3 g))), (b5, .inl (cA 4, 39, .inl (r4 g))), (b6, .inl (cA 5, 39, .inl (r5 g))), (b7, .inl (cA 6, 39, .inr (.inr (.inl (r6 g))))), (b8, .inl (cA 7, 39, .inr (.inr (.inr (.inl (r7 g)))))), (gr, .inr (3, [.ref gc, .int gm, .int gh, .int gw])), (gc, .inl (cA 9, 8, .inr (.inr (.inr (.inr (fun i => some (ga i))))))), (br, .inr (1, [.ref pl, .int bm, .int bd, .int bc])), (pl, .inl (cA 8, 19, .inr (.inr (.inr (.inr pf))))), (mo, .inr (6, [.int th, .ref mr, .ref ml, .int wr, .int gm, .int gh, .int gw, .int bm, .int bd, .int bc, .int ca, .ref ms, .ref mv])), (mr, .inl (cA 1, 320, .inr (.inl f))), (ml, .inl (cA 0, 8, .inl n)), (ms, .inl (cA 0, 20, .inl so)), (mv, .inl (cA 0, 20, .inl va)), (lk, .inl (cA 1, 1, .inr (.inl lf)))]) (pl := (rws (cA 0) ga (gmx 8 0) ++ va_pl LP bx)) (wc := [(lk, .inl (cA 1, 1, .inr (.inl lf)))]) (wo := [(b, .inr (5, [.ref ro, .ref gr, .ref br, .int wr, .int ca])), (ro, .inr (4, [.ref b0, .ref b1, .ref b2, .ref b3, .ref b4, .ref b5, .ref b6, .ref b7, .ref b8])), (b0, .inl (cA 0, 8, .inl n)), (b1, .inl (cA 0, 39, .inl (r0 g))), (b2, .inl (cA 1, 39, .inr (.inl (r1 g)))), (b3, .inl (cA 2, 39, .inl (r2 g))), (b4, .inl (cA 3, 39, .inl (r3 g))), (b5, .inl (cA 4, 39, .inl (r4 g))), (b6, .inl (cA 5, 39, .inl (r5 g))), (b7, .inl (cA 6, 39, .inr (.inr (.inl (r6 g))))), (b8, .inl (cA 7, 39, .inr (.inr (.inr (.inl (r7 g)))))), (gr, .inr (3, [.ref gc, .int gm, .int gh, .int gw])), (gc, .inl (cA 9, 8, .inr (.inr (.inr (.inr (fun i => some (ga i))))))), (br, .inr (1, [.ref pl, .int bm, .int bd, .int bc])), (pl, .inl (cA 8, 19, .inr (.inr (.inr (.inr pf))))), (mo, .inr (6, [.int th, .ref mr, .ref ml, .int wr, .int gm, .int gh, .int gw, .int bm, .int bd, .int bc, .int ca, .ref ms, .ref mv])), (mr, .inl (cA 1, 320, .inr (.inl f))), (ml, .inl (cA 0, 8, .inl n)), (ms, .inl (cA 0, 20, .inl so)), (mv, .inl (cA 0, 20, .inl va))]) (xw_runS (As := [.ref b, .long ((((xs (6 * t + 1)).toInt64) <<< ((32 : Int32).toInt64 &&& 63)) ||| (((xs (6 * t + 2)).toInt64) &&& 4294967295)), .long ((((xs (6 * t + 3)).toInt64) <<< ((32 : Int32).toInt64 &&& 63)) ||| (((xs (6 * t + 4)).toInt64) &&& 4294967295)), .int 0, .ref lk]) (rest := []) hx hb hml hown (l_t_divideLong_Z h b (((xs (6 * t + 1)).toInt64 <<< ((32 : Int32).toInt64 &&& 63)) ||| ((xs (6 * t + 2)).toInt64 &&& 4294967295)) (((xs (6 * t + 3)).toInt64 <<< ((32 : Int32).toInt64 &&& 63)) ||| ((xs (6 * t + 4)).toInt64 &&& 4294967295)) 0 lk lf ro gr br wr ca _ hc) (k_512 h hb0) (k_0 h hb0) (k_510 h hb0) (k_511 h hb0) (by decide) rfl rfl rfl (by decide) (by decide) (xpMS (wr := [(b, .inr (5, [.ref ro, .ref gr, .ref br, .int wr, .int ca]))]) (wc := [(lk, .inl (cA 1, 1, .inr (.inl lf)))]) hb0 hS hz (va_P.sub hP [0] rfl) (va_P.sub hP [20] rfl) (va_D.sub (hwk _ hD) [0, 20] rfl rfl)) rfl rfl hl.1 rfl (lv_room (Nat.le_of_ble_eq_true rfl)) dL_law_1215 ⟨(by show _ ≤ 806833; omega), (by show _ ≤ 6675604; omega)⟩) hP hD hS hA [20] [0, 1, 2, 3, 4, 5, 6, 7, 8, 9, 10, 11, 12, 13, 14, 15, 16, 17, 18, 19] rfl rfl rfl (by decide) (fun r w1 H locs hΦ hP hD hS => ?_)
        obtain ⟨rfl, rfl⟩ := hΦ
        have hP : va_P (dC, dI) vwCl ([(b, .inr (5, [.ref ro, .ref gr, .ref br, .int wr, .int ca])), (ro, .inr (4, [.ref b0, .ref b1, .ref b2, .ref b3, .ref b4, .ref b5, .ref b6, .ref b7, .ref b8])), (b0, .inl (cA 0, 8, .inl n)), (b1, .inl (cA 0, 39, .inl (r0 g))), (b2, .inl (cA 1, 39, .inr (.inl (r1 g)))), (b3, .inl (cA 2, 39, .inl (r2 g))), (b4, .inl (cA 3, 39, .inl (r3 g))), (b5, .inl (cA 4, 39, .inl (r4 g))), (b6, .inl (cA 5, 39, .inl (r5 g))), (b7, .inl (cA 6, 39, .inr (.inr (.inl (r6 g))))), (b8, .inl (cA 7, 39, .inr (.inr (.inr (.inl (r7 g)))))), (gr, .inr (3, [.ref gc, .int gm, .int gh, .int gw])), (gc, .inl (cA 9, 8, .inr (.inr (.inr (.inr (fun i => some (ga i))))))), (br, .inr (1, [.ref pl, .int bm, .int bd, .int bc])), (pl, .inl (cA 8, 19, .inr (.inr (.inr (.inr pf))))), (mo, .inr (6, [.int th, .ref mr, .ref ml, .int wr, .int gm, .int gh, .int gw, .int bm, .int bd, .int bc, .int ca, .ref ms, .ref mv])), (mr, .inl (cA 1, 320, .inr (.inl f))), (ml, .inl (cA 0, 8, .inl n)), (ms, .inl (cA 0, 20, .inl so)), (mv, .inl (cA 0, 20, .inl va)), (lk, .inl (cA 1, 1, .inr (.inl lf)))] ++ (rws (cA 0) ga (gmx 8 0) ++ va_pl LP bx)) H := hP
        have hD : va_D A ([(b, .inr (5, [.ref ro, .ref gr, .ref br, .int wr, .int ca])), (ro, .inr (4, [.ref b0, .ref b1, .ref b2, .ref b3, .ref b4, .ref b5, .ref b6, .ref b7, .ref b8])), (b0, .inl (cA 0, 8, .inl n)), (b1, .inl (cA 0, 39, .inl (r0 g))), (b2, .inl (cA 1, 39, .inr (.inl (r1 g)))), (b3, .inl (cA 2, 39, .inl (r2 g))), (b4, .inl (cA 3, 39, .inl (r3 g))), (b5, .inl (cA 4, 39, .inl (r4 g))), (b6, .inl (cA 5, 39, .inl (r5 g))), (b7, .inl (cA 6, 39, .inr (.inr (.inl (r6 g))))), (b8, .inl (cA 7, 39, .inr (.inr (.inr (.inl (r7 g)))))), (gr, .inr (3, [.ref gc, .int gm, .int gh, .int gw])), (gc, .inl (cA 9, 8, .inr (.inr (.inr (.inr (fun i => some (ga i))))))), (br, .inr (1, [.ref pl, .int bm, .int bd, .int bc])), (pl, .inl (cA 8, 19, .inr (.inr (.inr (.inr pf))))), (mo, .inr (6, [.int th, .ref mr, .ref ml, .int wr, .int gm, .int gh, .int gw, .int bm, .int bd, .int bc, .int ca, .ref ms, .ref mv])), (mr, .inl (cA 1, 320, .inr (.inl f))), (ml, .inl (cA 0, 8, .inl n)), (ms, .inl (cA 0, 20, .inl so)), (mv, .inl (cA 0, 20, .inl va)), (lk, .inl (cA 1, 1, .inr (.inl lf)))] ++ (rws (cA 0) ga (gmx 8 0) ++ va_pl LP bx)) := hD
        refine lv_istore (lv' := [(5, .int 1), (4, .int (nI (6 * t))), (3, .ref lk), (2, .ref mo), (1, .ref b), (0, .ref sb)]) hx hb dL_law_1218 hl (by decide) rfl (fun ls hl => ?_)
        refine lv_aload_n hx hb dL_law_1220 rfl (lv_at hl 3 rfl) ?_
        refine lv_aload_n hx hb dL_law_1221 rfl (lv_at hl 5 rfl) ?_
        refine lv_iload hx hb dL_law_1222 (lv_at hl 1 rfl) ?_
        refine lv_iconst (v := 1) hx hb dL_law_1224 (by decide) ?_
        refine lv_iadd hx hb dL_law_1225 ?_
        rw [show nI (6 * t) + 1 = nI (6 * t + 1) from nI_add _ 1]
        refine va_sld hx hb hX hbl hbA hS (vp_in_nI (show 6 * t + 1 < L by omega) (by omega)) dL_law_1226 ?_
        rw [nI_clamp (show 6 * t + 1 < 2 ^ 31 by omega)]
        refine lv_i2l hx hb dL_law_1227 rfl ?_
        refine lv_bipush (v := 32) hx hb dL_law_1228 (by decide) ?_
        refine lv_lshl hx hb dL_law_1230 rfl ?_
        refine lv_aload_n hx hb dL_law_1231 rfl (lv_at hl 5 rfl) ?_
        refine lv_iload hx hb dL_law_1232 (lv_at hl 1 rfl) ?_
        refine lv_iconst (v := 2) hx hb dL_law_1234 (by decide) ?_
        refine lv_iadd hx hb dL_law_1235 ?_
        rw [show nI (6 * t) + 2 = nI (6 * t + 2) from nI_add _ 2]
        refine va_sld hx hb hX hbl hbA hS (vp_in_nI (show 6 * t + 2 < L by omega) (by omega)) dL_law_1236 ?_
        rw [nI_clamp (show 6 * t + 2 < 2 ^ 31 by omega)]
        refine lv_i2l hx hb dL_law_1237 rfl ?_
        refine lv_ldc2 hx hb hown (k_653 h hb0) dL_law_1238 ?_
        refine lv_land hx hb dL_law_1241 ?_
        refine lv_lor hx hb dL_law_1242 ?_
        refine lv_aload_n hx hb dL_law_1243 rfl (lv_at hl 5 rfl) ?_
        refine lv_iload hx hb dL_law_1244 (lv_at hl 1 rfl) ?_
        refine lv_iconst (v := 3) hx hb dL_law_1246 (by decide) ?_
        refine lv_iadd hx hb dL_law_1247 ?_
        rw [show nI (6 * t) + 3 = nI (6 * t + 3) from nI_add _ 3]
        refine va_sld hx hb hX hbl hbA hS (vp_in_nI (show 6 * t + 3 < L by omega) (by omega)) dL_law_1248 ?_
        rw [nI_clamp (show 6 * t + 3 < 2 ^ 31 by omega)]
        refine lv_i2l hx hb dL_law_1249 rfl ?_
        refine lv_bipush (v := 32) hx hb dL_law_1250 (by decide) ?_
        refine lv_lshl hx hb dL_law_1252 rfl ?_
        refine lv_aload_n hx hb dL_law_1253 rfl (lv_at hl 5 rfl) ?_
        refine lv_iload hx hb dL_law_1254 (lv_at hl 1 rfl) ?_
        refine lv_iconst (v := 4) hx hb dL_law_1256 (by decide) ?_
        refine lv_iadd hx hb dL_law_1257 ?_
        rw [show nI (6 * t) + 4 = nI (6 * t + 4) from nI_add _ 4]
        refine va_sld hx hb hX hbl hbA hS (vp_in_nI (show 6 * t + 4 < L by omega) (by omega)) dL_law_1258 ?_
        rw [nI_clamp (show 6 * t + 4 < 2 ^ 31 by omega)]
        refine lv_i2l hx hb dL_law_1259 rfl ?_
        refine lv_ldc2 hx hb hown (k_653 h hb0) dL_law_1260 ?_
        refine lv_land hx hb dL_law_1263 ?_
        refine lv_lor hx hb dL_law_1264 ?_
        refine lv_aload_n hx hb dL_law_1265 rfl (lv_at hl 5 rfl) ?_
        refine lv_iload hx hb dL_law_1266 (lv_at hl 1 rfl) ?_
        refine lv_iconst (v := 5) hx hb dL_law_1268 (by decide) ?_
        refine lv_iadd hx hb dL_law_1269 ?_
        rw [show nI (6 * t) + 5 = nI (6 * t + 5) from nI_add _ 5]
        refine va_sld hx hb hX hbl hbA hS (vp_in_nI (show 6 * t + 5 < L by omega) (by omega)) dL_law_1270 ?_
        rw [nI_clamp (show 6 * t + 5 < 2 ^ 31 by omega)]
        refine lv_if_eq (tgt := 1278) hx hb dL_law_1271 (by decide) (fun c_102 => ?_) (fun c_102 => ?_)
        · refine lv_iconst (v := 0) hx hb dL_law_1278 (by decide) ?_
          refine xm_ofQ (X9 := [(b, .inr (5, [.ref ro, .ref gr, .ref br, .int wr, .int ca])), (ro, .inr (4, [.ref b0, .ref b1, .ref b2, .ref b3, .ref b4, .ref b5, .ref b6, .ref b7, .ref b8])), (b0, .inl (cA 0, 8, .inl n)), (b1, .inl (cA 0, 39, .inl (r0 g))), (b2, .inl (cA 1, 39, .inr (.inl (r1 g)))), (b3, .inl (cA 2, 39, .inl (r2 g))), (b4, .inl (cA 3, 39, .inl (r3 g))), (b5, .inl (cA 4, 39, .inl (r4 g))), (b6, .inl (cA 5, 39, .inl (r5 g))), (b7, .inl (cA 6, 39, .inr (.inr (.inl (r6 g))))), (b8, .inl (cA 7, 39, .inr (.inr (.inr (.inl (r7 g)))))), (gr, .inr (3, [.ref gc, .int gm, .int gh, .int gw])), (gc, .inl (cA 9, 8, .inr (.inr (.inr (.inr (fun i => some (ga i))))))), (br, .inr (1, [.ref pl, .int bm, .int bd, .int bc])), (pl, .inl (cA 8, 19, .inr (.inr (.inr (.inr pf))))), (mo, .inr (6, [.int th, .ref mr, .ref ml, .int wr, .int gm, .int gh, .int gw, .int bm, .int bd, .int bc, .int ca, .ref ms, .ref mv])), (mr, .inl (cA 1, 320, .inr (.inl f))), (ml, .inl (cA 0, 8, .inl n)), (ms, .inl (cA 0, 20, .inl so)), (mv, .inl (cA 0, 20, .inl va)), (lk, .inl (cA 1, 1, .inr (.inl lf)))]) (pl := (rws (cA 0) ga (gmx 8 0) ++ va_pl LP bx)) (wc := [(mo, .inr (6, [.int th, .ref mr, .ref ml, .int wr, .int gm, .int gh, .int gw, .int bm, .int bd, .int bc, .int ca, .ref ms, .ref mv]))]) (wo := [(b, .inr (5, [.ref ro, .ref gr, .ref br, .int wr, .int ca])), (ro, .inr (4, [.ref b0, .ref b1, .ref b2, .ref b3, .ref b4, .ref b5, .ref b6, .ref b7, .ref b8])), (b0, .inl (cA 0, 8, .inl n)), (b1, .inl (cA 0, 39, .inl (r0 g))), (b2, .inl (cA 1, 39, .inr (.inl (r1 g)))), (b3, .inl (cA 2, 39, .inl (r2 g))), (b4, .inl (cA 3, 39, .inl (r3 g))), (b5, .inl (cA 4, 39, .inl (r4 g))), (b6, .inl (cA 5, 39, .inl (r5 g))), (b7, .inl (cA 6, 39, .inr (.inr (.inl (r6 g))))), (b8, .inl (cA 7, 39, .inr (.inr (.inr (.inl (r7 g)))))), (gr, .inr (3, [.ref gc, .int gm, .int gh, .int gw])), (gc, .inl (cA 9, 8, .inr (.inr (.inr (.inr (fun i => some (ga i))))))), (br, .inr (1, [.ref pl, .int bm, .int bd, .int bc])), (pl, .inl (cA 8, 19, .inr (.inr (.inr (.inr pf))))), (mr, .inl (cA 1, 320, .inr (.inl f))), (ml, .inl (cA 0, 8, .inl n)), (ms, .inl (cA 0, 20, .inl so)), (mv, .inl (cA 0, 20, .inl va)), (lk, .inl (cA 1, 1, .inr (.inl lf)))]) (va_runV (As := [.long ((((xs (6 * t + 1)).toInt64) <<< ((32 : Int32).toInt64 &&& 63)) ||| (((xs (6 * t + 2)).toInt64) &&& 4294967295)), .long ((((xs (6 * t + 3)).toInt64) <<< ((32 : Int32).toInt64 &&& 63)) ||| (((xs (6 * t + 4)).toInt64) &&& 4294967295)), .int 0]) (rest := []) ⟨hx, hb, hml, hown, xTs⟩ (m_divideLong_Z h mo mr ml ms mv th wr gm gh gw bm bd bc ca (((xs (6 * t + 1)).toInt64 <<< ((32 : Int32).toInt64 &&& 63)) ||| ((xs (6 * t + 2)).toInt64 &&& 4294967295)) (((xs (6 * t + 3)).toInt64 <<< ((32 : Int32).toInt64 &&& 63)) ||| ((xs (6 * t + 4)).toInt64 &&& 4294967295)) 0 _ hc) ⟨xB (n := 3) (k_648 h hb0) (k_5 h hb0) (k_645 h hb0) (by decide) rfl rfl rfl (by decide) (by decide), (k_646 h hb0), (k_647 h hb0)⟩ (xpMV (wr := []) (wc := [(mo, .inr (6, [.int th, .ref mr, .ref ml, .int wr, .int gm, .int gh, .int gw, .int bm, .int bd, .int bc, .int ca, .ref ms, .ref mv]))]) hb0 hS hz (va_P.sub hP [] rfl) (va_P.sub hP [15] rfl) (va_D.sub (hwk _ hD) [15] rfl rfl) (va_recv hK hP (ci := 6) (q0 := 15) rfl rfl)) rfl rfl hl.1 rfl (lv_room (Nat.le_of_ble_eq_true rfl)) dL_law_1279 ⟨(by show _ ≤ 806833; omega), (by show _ ≤ 6675604; omega)⟩) hP hD hS hA [15] [0, 1, 2, 3, 4, 5, 6, 7, 8, 9, 10, 11, 12, 13, 14, 16, 17, 18, 19, 20] rfl rfl rfl (by decide) (fun r w1 H locs hΦ hP hD hS => ?_)
          obtain ⟨rfl, rfl⟩ := hΦ
          have hP : va_P (dC, dI) vwCl ([(b, .inr (5, [.ref ro, .ref gr, .ref br, .int wr, .int ca])), (ro, .inr (4, [.ref b0, .ref b1, .ref b2, .ref b3, .ref b4, .ref b5, .ref b6, .ref b7, .ref b8])), (b0, .inl (cA 0, 8, .inl n)), (b1, .inl (cA 0, 39, .inl (r0 g))), (b2, .inl (cA 1, 39, .inr (.inl (r1 g)))), (b3, .inl (cA 2, 39, .inl (r2 g))), (b4, .inl (cA 3, 39, .inl (r3 g))), (b5, .inl (cA 4, 39, .inl (r4 g))), (b6, .inl (cA 5, 39, .inl (r5 g))), (b7, .inl (cA 6, 39, .inr (.inr (.inl (r6 g))))), (b8, .inl (cA 7, 39, .inr (.inr (.inr (.inl (r7 g)))))), (gr, .inr (3, [.ref gc, .int gm, .int gh, .int gw])), (gc, .inl (cA 9, 8, .inr (.inr (.inr (.inr (fun i => some (ga i))))))), (br, .inr (1, [.ref pl, .int bm, .int bd, .int bc])), (pl, .inl (cA 8, 19, .inr (.inr (.inr (.inr pf))))), (mr, .inl (cA 1, 320, .inr (.inl f))), (ml, .inl (cA 0, 8, .inl n)), (ms, .inl (cA 0, 20, .inl so)), (mv, .inl (cA 0, 20, .inl va)), (lk, .inl (cA 1, 1, .inr (.inl lf))), (mo, .inr (6, [.int 1, .ref mr, .ref ml, .int wr, .int gm, .int gh, .int gw, .int bm, .int bd, .int bc, .int ca, .ref ms, .ref mv]))] ++ (rws (cA 0) ga (gmx 8 0) ++ va_pl LP bx)) H := hP
          have hD : va_D A ([(b, .inr (5, [.ref ro, .ref gr, .ref br, .int wr, .int ca])), (ro, .inr (4, [.ref b0, .ref b1, .ref b2, .ref b3, .ref b4, .ref b5, .ref b6, .ref b7, .ref b8])), (b0, .inl (cA 0, 8, .inl n)), (b1, .inl (cA 0, 39, .inl (r0 g))), (b2, .inl (cA 1, 39, .inr (.inl (r1 g)))), (b3, .inl (cA 2, 39, .inl (r2 g))), (b4, .inl (cA 3, 39, .inl (r3 g))), (b5, .inl (cA 4, 39, .inl (r4 g))), (b6, .inl (cA 5, 39, .inl (r5 g))), (b7, .inl (cA 6, 39, .inr (.inr (.inl (r6 g))))), (b8, .inl (cA 7, 39, .inr (.inr (.inr (.inl (r7 g)))))), (gr, .inr (3, [.ref gc, .int gm, .int gh, .int gw])), (gc, .inl (cA 9, 8, .inr (.inr (.inr (.inr (fun i => some (ga i))))))), (br, .inr (1, [.ref pl, .int bm, .int bd, .int bc])), (pl, .inl (cA 8, 19, .inr (.inr (.inr (.inr pf))))), (mr, .inl (cA 1, 320, .inr (.inl f))), (ml, .inl (cA 0, 8, .inl n)), (ms, .inl (cA 0, 20, .inl so)), (mv, .inl (cA 0, 20, .inl va)), (lk, .inl (cA 1, 1, .inr (.inl lf))), (mo, .inr (6, [.int 1, .ref mr, .ref ml, .int wr, .int gm, .int gh, .int gw, .int bm, .int bd, .int bc, .int ca, .ref ms, .ref mv]))] ++ (rws (cA 0) ga (gmx 8 0) ++ va_pl LP bx)) := hD
          refine lv_lstore (lv' := [(6, .long 0), (5, .int 1), (4, .int (nI (6 * t))), (3, .ref lk), (2, .ref mo), (1, .ref b), (0, .ref sb)]) hx hb dL_law_1282 hl (by decide) rfl (fun ls hl => ?_)
          refine lv_aload_n hx hb dL_law_1284 rfl (lv_at hl 4 rfl) ?_
          refine xr_1 (va_runV (As := []) (rest := []) ⟨hx, hb, hml, hown, xTs⟩ (c_thrown h mo mr ml ms mv 1 wr gm gh gw bm bd bc ca) ⟨xB (n := 0) (k_574 h hb0) (k_5 h hb0) (k_571 h hb0) (by decide) rfl rfl rfl (by decide) (by decide), (k_572 h hb0), (k_573 h hb0)⟩ (xpV hb0 hS hz (va_P.sub hP [20] rfl) (va_recv hK hP (ci := 6) (q0 := 20) rfl rfl)) rfl rfl hl.1 rfl (lv_room (Nat.le_of_ble_eq_true rfl)) dL_law_1285 ⟨(by show _ ≤ 806833; omega), (by show _ ≤ 6675604; omega)⟩) ?_
          refine lv_iload hx hb dL_law_1288 (lv_at hl 1 rfl) ?_
          refine lv_icmp_eq (tgt := 1295) hx hb dL_law_1290 (by decide) (fun c_103 => ?_) (fun c_103 => ?_)
          · refine lv_iload hx hb dL_law_1295 (lv_at hl 1 rfl) ?_
            refine lv_if_ne (tgt := 1311) hx hb dL_law_1297 (by decide) (fun c_104 => ?_) (fun c_104 => ?_)
            · refine lv_goto (tgt := 1386) hx hb dL_law_1311 (by decide) ?_
              refine W.widen (k := 40 + 3 * t + 3) (n := 900 + 20 * t + 20) (by omega) (by omega) ?_
              exact kk ls H locs ⟨b, ro, b0, b1, b2, b3, b4, b5, b6, b7, b8, gr, gc, br, pl, mo, mr, ml, ms, mv, lk, ga, n, g, f, so, va, wr, ca, gm, gh, gw, bm, bd, bc, 1, pf, LP, bx, lf, lv_sub hl [2, 3, 4, 5, 6] rfl, va_P.part hP [0, 1, 2, 3, 4, 5, 6, 7, 8, 9, 10, 11, 12, 13, 14, 20, 15, 16, 17, 18, 19] rfl, va_D.part hD [0, 1, 2, 3, 4, 5, 6, 7, 8, 9, 10, 11, 12, 13, 14, 20, 15, 16, 17, 18, 19] rfl rfl, hS, ⟨hR, hgm, ⟨GH, hGH, hgh⟩, ⟨GW, hGW, hgw⟩, hbm, BC, hBC, hbc, hB⟩⟩
            · exact absurd c_104 (by decide)
          · exact absurd rfl c_103
        · exact absurd z5 c_102
      · exact absurd z5 c_101
    · refine lv_aload_n hx hb dL_law_1155 rfl (lv_at hl 3 rfl) ?_
      refine lv_aload_n hx hb dL_law_1156 rfl (lv_at hl 4 rfl) ?_
      refine lv_iload hx hb dL_law_1157 (lv_at hl 0 rfl) ?_
      refine lv_iconst (v := 1) hx hb dL_law_1159 (by decide) ?_
      refine lv_iadd hx hb dL_law_1160 ?_
      rw [show nI (6 * t) + 1 = nI (6 * t + 1) from nI_add _ 1]
      refine va_sld hx hb hX hbl hbA hS (vp_in_nI (show 6 * t + 1 < L by omega) (by omega)) dL_law_1161 ?_
      rw [nI_clamp (show 6 * t + 1 < 2 ^ 31 by omega)]
      refine lv_i2l hx hb dL_law_1162 rfl ?_
      refine lv_bipush (v := 32) hx hb dL_law_1163 (by decide) ?_
      refine lv_lshl hx hb dL_law_1165 rfl ?_
      refine lv_aload_n hx hb dL_law_1166 rfl (lv_at hl 4 rfl) ?_
      refine lv_iload hx hb dL_law_1167 (lv_at hl 0 rfl) ?_
      refine lv_iconst (v := 2) hx hb dL_law_1169 (by decide) ?_
      refine lv_iadd hx hb dL_law_1170 ?_
      rw [show nI (6 * t) + 2 = nI (6 * t + 2) from nI_add _ 2]
      refine va_sld hx hb hX hbl hbA hS (vp_in_nI (show 6 * t + 2 < L by omega) (by omega)) dL_law_1171 ?_
      rw [nI_clamp (show 6 * t + 2 < 2 ^ 31 by omega)]
      refine lv_i2l hx hb dL_law_1172 rfl ?_
      refine lv_ldc2 hx hb hown (k_653 h hb0) dL_law_1173 ?_
      refine lv_land hx hb dL_law_1176 ?_
      refine lv_lor hx hb dL_law_1177 ?_
      refine lv_aload_n hx hb dL_law_1178 rfl (lv_at hl 4 rfl) ?_
      refine lv_iload hx hb dL_law_1179 (lv_at hl 0 rfl) ?_
      refine lv_iconst (v := 3) hx hb dL_law_1181 (by decide) ?_
      refine lv_iadd hx hb dL_law_1182 ?_
      rw [show nI (6 * t) + 3 = nI (6 * t + 3) from nI_add _ 3]
      refine va_sld hx hb hX hbl hbA hS (vp_in_nI (show 6 * t + 3 < L by omega) (by omega)) dL_law_1183 ?_
      rw [nI_clamp (show 6 * t + 3 < 2 ^ 31 by omega)]
      refine lv_i2l hx hb dL_law_1184 rfl ?_
      refine lv_bipush (v := 32) hx hb dL_law_1185 (by decide) ?_
      refine lv_lshl hx hb dL_law_1187 rfl ?_
      refine lv_aload_n hx hb dL_law_1188 rfl (lv_at hl 4 rfl) ?_
      refine lv_iload hx hb dL_law_1189 (lv_at hl 0 rfl) ?_
      refine lv_iconst (v := 4) hx hb dL_law_1191 (by decide) ?_
      refine lv_iadd hx hb dL_law_1192 ?_
      rw [show nI (6 * t) + 4 = nI (6 * t + 4) from nI_add _ 4]
      refine va_sld hx hb hX hbl hbA hS (vp_in_nI (show 6 * t + 4 < L by omega) (by omega)) dL_law_1193 ?_
      rw [nI_clamp (show 6 * t + 4 < 2 ^ 31 by omega)]
      refine lv_i2l hx hb dL_law_1194 rfl ?_
      refine lv_ldc2 hx hb hown (k_653 h hb0) dL_law_1195 ?_
      refine lv_land hx hb dL_law_1198 ?_
      refine lv_lor hx hb dL_law_1199 ?_
      refine lv_aload_n hx hb dL_law_1200 rfl (lv_at hl 4 rfl) ?_
      refine lv_iload hx hb dL_law_1201 (lv_at hl 0 rfl) ?_
      refine lv_iconst (v := 5) hx hb dL_law_1203 (by decide) ?_
      refine lv_iadd hx hb dL_law_1204 ?_
      rw [show nI (6 * t) + 5 = nI (6 * t + 5) from nI_add _ 5]
      refine va_sld hx hb hX hbl hbA hS (vp_in_nI (show 6 * t + 5 < L by omega) (by omega)) dL_law_1205 ?_
      rw [nI_clamp (show 6 * t + 5 < 2 ^ 31 by omega)]
      refine lv_if_eq (tgt := 1213) hx hb dL_law_1206 (by decide) (fun c_101 => ?_) (fun c_101 => ?_)
      · refine lv_iconst (v := 0) hx hb dL_law_1213 (by decide) ?_
        refine lv_aload_n hx hb dL_law_1214 rfl (lv_at hl 1 rfl) ?_
        refine xm_ofQ (X9 := [(b, .inr (5, [.ref ro, .ref gr, .ref br, .int wr, .int ca])), (ro, .inr (4, [.ref b0, .ref b1, .ref b2, .ref b3, .ref b4, .ref b5, .ref b6, .ref b7, .ref b8])), (b0, .inl (cA 0, 8, .inl n)), (b1, .inl (cA 0, 39, .inl (r0 g))), (b2, .inl (cA 1, 39, .inr (.inl (r1 g)))), (b3, .inl (cA 2, 39, .inl (r2 g))), (b4, .inl (cA 3, 39, .inl (r3 g))), (b5, .inl (cA 4, 39, .inl (r4 g))), (b6, .inl (cA 5, 39, .inl (r5 g))), (b7, .inl (cA 6, 39, .inr (.inr (.inl (r6 g))))), (b8, .inl (cA 7, 39, .inr (.inr (.inr (.inl (r7 g)))))), (gr, .inr (3, [.ref gc, .int gm, .int gh, .int gw])), (gc, .inl (cA 9, 8, .inr (.inr (.inr (.inr (fun i => some (ga i))))))), (br, .inr (1, [.ref pl, .int bm, .int bd, .int bc])), (pl, .inl (cA 8, 19, .inr (.inr (.inr (.inr pf))))), (mo, .inr (6, [.int th, .ref mr, .ref ml, .int wr, .int gm, .int gh, .int gw, .int bm, .int bd, .int bc, .int ca, .ref ms, .ref mv])), (mr, .inl (cA 1, 320, .inr (.inl f))), (ml, .inl (cA 0, 8, .inl n)), (ms, .inl (cA 0, 20, .inl so)), (mv, .inl (cA 0, 20, .inl va)), (lk, .inl (cA 1, 1, .inr (.inl lf)))]) (pl := (rws (cA 0) ga (gmx 8 0) ++ va_pl LP bx)) (wc := [(lk, .inl (cA 1, 1, .inr (.inl lf)))]) (wo := [(b, .inr (5, [.ref ro, .ref gr, .ref br, .int wr, .int ca])), (ro, .inr (4, [.ref b0, .ref b1, .ref b2, .ref b3, .ref b4, .ref b5, .ref b6, .ref b7, .ref b8])), (b0, .inl (cA 0, 8, .inl n)), (b1, .inl (cA 0, 39, .inl (r0 g))), (b2, .inl (cA 1, 39, .inr (.inl (r1 g)))), (b3, .inl (cA 2, 39, .inl (r2 g))), (b4, .inl (cA 3, 39, .inl (r3 g))), (b5, .inl (cA 4, 39, .inl (r4 g))), (b6, .inl (cA 5, 39, .inl (r5 g))), (b7, .inl (cA 6, 39, .inr (.inr (.inl (r6 g))))), (b8, .inl (cA 7, 39, .inr (.inr (.inr (.inl (r7 g)))))), (gr, .inr (3, [.ref gc, .int gm, .int gh, .int gw])), (gc, .inl (cA 9, 8, .inr (.inr (.inr (.inr (fun i => some (ga i))))))), (br, .inr (1, [.ref pl, .int bm, .int bd, .int bc])), (pl, .inl (cA 8, 19, .inr (.inr (.inr (.inr pf))))), (mo, .inr (6, [.int th, .ref mr, .ref ml, .int wr, .int gm, .int gh, .int gw, .int bm, .int bd, .int bc, .int ca, .ref ms, .ref mv])), (mr, .inl (cA 1, 320, .inr (.inl f))), (ml, .inl (cA 0, 8, .inl n)), (ms, .inl (cA 0, 20, .inl so)), (mv, .inl (cA 0, 20, .inl va))]) (xw_runS (As := [.ref b, .long ((((xs (6 * t + 1)).toInt64) <<< ((32 : Int32).toInt64 &&& 63)) ||| (((xs (6 * t + 2)).toInt64) &&& 4294967295)), .long ((((xs (6 * t + 3)).toInt64) <<< ((32 : Int32).toInt64 &&& 63)) ||| (((xs (6 * t + 4)).toInt64) &&& 4294967295)), .int 0, .ref lk]) (rest := []) hx hb hml hown (l_c_divideLong h b (((xs (6 * t + 1)).toInt64 <<< ((32 : Int32).toInt64 &&& 63)) ||| ((xs (6 * t + 2)).toInt64 &&& 4294967295)) (((xs (6 * t + 3)).toInt64 <<< ((32 : Int32).toInt64 &&& 63)) ||| ((xs (6 * t + 4)).toInt64 &&& 4294967295)) 0 lk lf ro gr br wr ca _ hc) (k_512 h hb0) (k_0 h hb0) (k_510 h hb0) (k_511 h hb0) (by decide) rfl rfl rfl (by decide) (by decide) (xpMS (wr := [(b, .inr (5, [.ref ro, .ref gr, .ref br, .int wr, .int ca]))]) (wc := [(lk, .inl (cA 1, 1, .inr (.inl lf)))]) hb0 hS hz (va_P.sub hP [0] rfl) (va_P.sub hP [20] rfl) (va_D.sub (hwk _ hD) [0, 20] rfl rfl)) rfl rfl hl.1 rfl (lv_room (Nat.le_of_ble_eq_true rfl)) dL_law_1215 ⟨(by show _ ≤ 806833; omega), (by show _ ≤ 6675604; omega)⟩) hP hD hS hA [20] [0, 1, 2, 3, 4, 5, 6, 7, 8, 9, 10, 11, 12, 13, 14, 15, 16, 17, 18, 19] rfl rfl rfl (by decide) (fun r w1 H locs hΦ hP hD hS => ?_)
        obtain ⟨rfl, rfl⟩ := hΦ
        have hP : va_P (dC, dI) vwCl ([(b, .inr (5, [.ref ro, .ref gr, .ref br, .int wr, .int ca])), (ro, .inr (4, [.ref b0, .ref b1, .ref b2, .ref b3, .ref b4, .ref b5, .ref b6, .ref b7, .ref b8])), (b0, .inl (cA 0, 8, .inl n)), (b1, .inl (cA 0, 39, .inl (r0 g))), (b2, .inl (cA 1, 39, .inr (.inl (r1 g)))), (b3, .inl (cA 2, 39, .inl (r2 g))), (b4, .inl (cA 3, 39, .inl (r3 g))), (b5, .inl (cA 4, 39, .inl (r4 g))), (b6, .inl (cA 5, 39, .inl (r5 g))), (b7, .inl (cA 6, 39, .inr (.inr (.inl (r6 g))))), (b8, .inl (cA 7, 39, .inr (.inr (.inr (.inl (r7 g)))))), (gr, .inr (3, [.ref gc, .int gm, .int gh, .int gw])), (gc, .inl (cA 9, 8, .inr (.inr (.inr (.inr (fun i => some (ga i))))))), (br, .inr (1, [.ref pl, .int bm, .int bd, .int bc])), (pl, .inl (cA 8, 19, .inr (.inr (.inr (.inr pf))))), (mo, .inr (6, [.int th, .ref mr, .ref ml, .int wr, .int gm, .int gh, .int gw, .int bm, .int bd, .int bc, .int ca, .ref ms, .ref mv])), (mr, .inl (cA 1, 320, .inr (.inl f))), (ml, .inl (cA 0, 8, .inl n)), (ms, .inl (cA 0, 20, .inl so)), (mv, .inl (cA 0, 20, .inl va)), (lk, .inl (cA 1, 1, .inr (.inl (vp_updL lf 0 ((if 0 = 0 then (((xs (6 * t + 1)).toInt64 <<< ((32 : Int32).toInt64 &&& 63)) ||| ((xs (6 * t + 2)).toInt64 &&& 4294967295)) / (((xs (6 * t + 3)).toInt64 <<< ((32 : Int32).toInt64 &&& 63)) ||| ((xs (6 * t + 4)).toInt64 &&& 4294967295)) else (((xs (6 * t + 1)).toInt64 <<< ((32 : Int32).toInt64 &&& 63)) ||| ((xs (6 * t + 2)).toInt64 &&& 4294967295)) - (((xs (6 * t + 1)).toInt64 <<< ((32 : Int32).toInt64 &&& 63)) ||| ((xs (6 * t + 2)).toInt64 &&& 4294967295)) / (((xs (6 * t + 3)).toInt64 <<< ((32 : Int32).toInt64 &&& 63)) ||| ((xs (6 * t + 4)).toInt64 &&& 4294967295)) * (((xs (6 * t + 3)).toInt64 <<< ((32 : Int32).toInt64 &&& 63)) ||| ((xs (6 * t + 4)).toInt64 &&& 4294967295))))))))] ++ (rws (cA 0) ga (gmx 8 0) ++ va_pl LP bx)) H := hP
        have hD : va_D A ([(b, .inr (5, [.ref ro, .ref gr, .ref br, .int wr, .int ca])), (ro, .inr (4, [.ref b0, .ref b1, .ref b2, .ref b3, .ref b4, .ref b5, .ref b6, .ref b7, .ref b8])), (b0, .inl (cA 0, 8, .inl n)), (b1, .inl (cA 0, 39, .inl (r0 g))), (b2, .inl (cA 1, 39, .inr (.inl (r1 g)))), (b3, .inl (cA 2, 39, .inl (r2 g))), (b4, .inl (cA 3, 39, .inl (r3 g))), (b5, .inl (cA 4, 39, .inl (r4 g))), (b6, .inl (cA 5, 39, .inl (r5 g))), (b7, .inl (cA 6, 39, .inr (.inr (.inl (r6 g))))), (b8, .inl (cA 7, 39, .inr (.inr (.inr (.inl (r7 g)))))), (gr, .inr (3, [.ref gc, .int gm, .int gh, .int gw])), (gc, .inl (cA 9, 8, .inr (.inr (.inr (.inr (fun i => some (ga i))))))), (br, .inr (1, [.ref pl, .int bm, .int bd, .int bc])), (pl, .inl (cA 8, 19, .inr (.inr (.inr (.inr pf))))), (mo, .inr (6, [.int th, .ref mr, .ref ml, .int wr, .int gm, .int gh, .int gw, .int bm, .int bd, .int bc, .int ca, .ref ms, .ref mv])), (mr, .inl (cA 1, 320, .inr (.inl f))), (ml, .inl (cA 0, 8, .inl n)), (ms, .inl (cA 0, 20, .inl so)), (mv, .inl (cA 0, 20, .inl va)), (lk, .inl (cA 1, 1, .inr (.inl (vp_updL lf 0 ((if 0 = 0 then (((xs (6 * t + 1)).toInt64 <<< ((32 : Int32).toInt64 &&& 63)) ||| ((xs (6 * t + 2)).toInt64 &&& 4294967295)) / (((xs (6 * t + 3)).toInt64 <<< ((32 : Int32).toInt64 &&& 63)) ||| ((xs (6 * t + 4)).toInt64 &&& 4294967295)) else (((xs (6 * t + 1)).toInt64 <<< ((32 : Int32).toInt64 &&& 63)) ||| ((xs (6 * t + 2)).toInt64 &&& 4294967295)) - (((xs (6 * t + 1)).toInt64 <<< ((32 : Int32).toInt64 &&& 63)) ||| ((xs (6 * t + 2)).toInt64 &&& 4294967295)) / (((xs (6 * t + 3)).toInt64 <<< ((32 : Int32).toInt64 &&& 63)) ||| ((xs (6 * t + 4)).toInt64 &&& 4294967295)) * (((xs (6 * t + 3)).toInt64 <<< ((32 : Int32).toInt64 &&& 63)) ||| ((xs (6 * t + 4)).toInt64 &&& 4294967295))))))))] ++ (rws (cA 0) ga (gmx 8 0) ++ va_pl LP bx)) := hD
        refine lv_istore (lv' := [(5, .int 0), (4, .int (nI (6 * t))), (3, .ref lk), (2, .ref mo), (1, .ref b), (0, .ref sb)]) hx hb dL_law_1218 hl (by decide) rfl (fun ls hl => ?_)
        refine lv_aload_n hx hb dL_law_1220 rfl (lv_at hl 3 rfl) ?_
        refine lv_aload_n hx hb dL_law_1221 rfl (lv_at hl 5 rfl) ?_
        refine lv_iload hx hb dL_law_1222 (lv_at hl 1 rfl) ?_
        refine lv_iconst (v := 1) hx hb dL_law_1224 (by decide) ?_
        refine lv_iadd hx hb dL_law_1225 ?_
        rw [show nI (6 * t) + 1 = nI (6 * t + 1) from nI_add _ 1]
        refine va_sld hx hb hX hbl hbA hS (vp_in_nI (show 6 * t + 1 < L by omega) (by omega)) dL_law_1226 ?_
        rw [nI_clamp (show 6 * t + 1 < 2 ^ 31 by omega)]
        refine lv_i2l hx hb dL_law_1227 rfl ?_
        refine lv_bipush (v := 32) hx hb dL_law_1228 (by decide) ?_
        refine lv_lshl hx hb dL_law_1230 rfl ?_
        refine lv_aload_n hx hb dL_law_1231 rfl (lv_at hl 5 rfl) ?_
        refine lv_iload hx hb dL_law_1232 (lv_at hl 1 rfl) ?_
        refine lv_iconst (v := 2) hx hb dL_law_1234 (by decide) ?_
        refine lv_iadd hx hb dL_law_1235 ?_
        rw [show nI (6 * t) + 2 = nI (6 * t + 2) from nI_add _ 2]
        refine va_sld hx hb hX hbl hbA hS (vp_in_nI (show 6 * t + 2 < L by omega) (by omega)) dL_law_1236 ?_
        rw [nI_clamp (show 6 * t + 2 < 2 ^ 31 by omega)]
        refine lv_i2l hx hb dL_law_1237 rfl ?_
        refine lv_ldc2 hx hb hown (k_653 h hb0) dL_law_1238 ?_
        refine lv_land hx hb dL_law_1241 ?_
        refine lv_lor hx hb dL_law_1242 ?_
        refine lv_aload_n hx hb dL_law_1243 rfl (lv_at hl 5 rfl) ?_
        refine lv_iload hx hb dL_law_1244 (lv_at hl 1 rfl) ?_
        refine lv_iconst (v := 3) hx hb dL_law_1246 (by decide) ?_
        refine lv_iadd hx hb dL_law_1247 ?_
        rw [show nI (6 * t) + 3 = nI (6 * t + 3) from nI_add _ 3]
        refine va_sld hx hb hX hbl hbA hS (vp_in_nI (show 6 * t + 3 < L by omega) (by omega)) dL_law_1248 ?_
        rw [nI_clamp (show 6 * t + 3 < 2 ^ 31 by omega)]
        refine lv_i2l hx hb dL_law_1249 rfl ?_
        refine lv_bipush (v := 32) hx hb dL_law_1250 (by decide) ?_
        refine lv_lshl hx hb dL_law_1252 rfl ?_
        refine lv_aload_n hx hb dL_law_1253 rfl (lv_at hl 5 rfl) ?_
        refine lv_iload hx hb dL_law_1254 (lv_at hl 1 rfl) ?_
        refine lv_iconst (v := 4) hx hb dL_law_1256 (by decide) ?_
        refine lv_iadd hx hb dL_law_1257 ?_
        rw [show nI (6 * t) + 4 = nI (6 * t + 4) from nI_add _ 4]
        refine va_sld hx hb hX hbl hbA hS (vp_in_nI (show 6 * t + 4 < L by omega) (by omega)) dL_law_1258 ?_
        rw [nI_clamp (show 6 * t + 4 < 2 ^ 31 by omega)]
        refine lv_i2l hx hb dL_law_1259 rfl ?_
        refine lv_ldc2 hx hb hown (k_653 h hb0) dL_law_1260 ?_
        refine lv_land hx hb dL_law_1263 ?_
        refine lv_lor hx hb dL_law_1264 ?_
        refine lv_aload_n hx hb dL_law_1265 rfl (lv_at hl 5 rfl) ?_
        refine lv_iload hx hb dL_law_1266 (lv_at hl 1 rfl) ?_
        refine lv_iconst (v := 5) hx hb dL_law_1268 (by decide) ?_
        refine lv_iadd hx hb dL_law_1269 ?_
        rw [show nI (6 * t) + 5 = nI (6 * t + 5) from nI_add _ 5]
        refine va_sld hx hb hX hbl hbA hS (vp_in_nI (show 6 * t + 5 < L by omega) (by omega)) dL_law_1270 ?_
        rw [nI_clamp (show 6 * t + 5 < 2 ^ 31 by omega)]
        refine lv_if_eq (tgt := 1278) hx hb dL_law_1271 (by decide) (fun c_102 => ?_) (fun c_102 => ?_)
        · refine lv_iconst (v := 0) hx hb dL_law_1278 (by decide) ?_
          refine xm_ofQ (X9 := [(b, .inr (5, [.ref ro, .ref gr, .ref br, .int wr, .int ca])), (ro, .inr (4, [.ref b0, .ref b1, .ref b2, .ref b3, .ref b4, .ref b5, .ref b6, .ref b7, .ref b8])), (b0, .inl (cA 0, 8, .inl n)), (b1, .inl (cA 0, 39, .inl (r0 g))), (b2, .inl (cA 1, 39, .inr (.inl (r1 g)))), (b3, .inl (cA 2, 39, .inl (r2 g))), (b4, .inl (cA 3, 39, .inl (r3 g))), (b5, .inl (cA 4, 39, .inl (r4 g))), (b6, .inl (cA 5, 39, .inl (r5 g))), (b7, .inl (cA 6, 39, .inr (.inr (.inl (r6 g))))), (b8, .inl (cA 7, 39, .inr (.inr (.inr (.inl (r7 g)))))), (gr, .inr (3, [.ref gc, .int gm, .int gh, .int gw])), (gc, .inl (cA 9, 8, .inr (.inr (.inr (.inr (fun i => some (ga i))))))), (br, .inr (1, [.ref pl, .int bm, .int bd, .int bc])), (pl, .inl (cA 8, 19, .inr (.inr (.inr (.inr pf))))), (mo, .inr (6, [.int th, .ref mr, .ref ml, .int wr, .int gm, .int gh, .int gw, .int bm, .int bd, .int bc, .int ca, .ref ms, .ref mv])), (mr, .inl (cA 1, 320, .inr (.inl f))), (ml, .inl (cA 0, 8, .inl n)), (ms, .inl (cA 0, 20, .inl so)), (mv, .inl (cA 0, 20, .inl va)), (lk, .inl (cA 1, 1, .inr (.inl (vp_updL lf 0 ((if 0 = 0 then (((xs (6 * t + 1)).toInt64 <<< ((32 : Int32).toInt64 &&& 63)) ||| ((xs (6 * t + 2)).toInt64 &&& 4294967295)) / (((xs (6 * t + 3)).toInt64 <<< ((32 : Int32).toInt64 &&& 63)) ||| ((xs (6 * t + 4)).toInt64 &&& 4294967295)) else (((xs (6 * t + 1)).toInt64 <<< ((32 : Int32).toInt64 &&& 63)) ||| ((xs (6 * t + 2)).toInt64 &&& 4294967295)) - (((xs (6 * t + 1)).toInt64 <<< ((32 : Int32).toInt64 &&& 63)) ||| ((xs (6 * t + 2)).toInt64 &&& 4294967295)) / (((xs (6 * t + 3)).toInt64 <<< ((32 : Int32).toInt64 &&& 63)) ||| ((xs (6 * t + 4)).toInt64 &&& 4294967295)) * (((xs (6 * t + 3)).toInt64 <<< ((32 : Int32).toInt64 &&& 63)) ||| ((xs (6 * t + 4)).toInt64 &&& 4294967295))))))))]) (pl := (rws (cA 0) ga (gmx 8 0) ++ va_pl LP bx)) (wc := [(mo, .inr (6, [.int th, .ref mr, .ref ml, .int wr, .int gm, .int gh, .int gw, .int bm, .int bd, .int bc, .int ca, .ref ms, .ref mv]))]) (wo := [(b, .inr (5, [.ref ro, .ref gr, .ref br, .int wr, .int ca])), (ro, .inr (4, [.ref b0, .ref b1, .ref b2, .ref b3, .ref b4, .ref b5, .ref b6, .ref b7, .ref b8])), (b0, .inl (cA 0, 8, .inl n)), (b1, .inl (cA 0, 39, .inl (r0 g))), (b2, .inl (cA 1, 39, .inr (.inl (r1 g)))), (b3, .inl (cA 2, 39, .inl (r2 g))), (b4, .inl (cA 3, 39, .inl (r3 g))), (b5, .inl (cA 4, 39, .inl (r4 g))), (b6, .inl (cA 5, 39, .inl (r5 g))), (b7, .inl (cA 6, 39, .inr (.inr (.inl (r6 g))))), (b8, .inl (cA 7, 39, .inr (.inr (.inr (.inl (r7 g)))))), (gr, .inr (3, [.ref gc, .int gm, .int gh, .int gw])), (gc, .inl (cA 9, 8, .inr (.inr (.inr (.inr (fun i => some (ga i))))))), (br, .inr (1, [.ref pl, .int bm, .int bd, .int bc])), (pl, .inl (cA 8, 19, .inr (.inr (.inr (.inr pf))))), (mr, .inl (cA 1, 320, .inr (.inl f))), (ml, .inl (cA 0, 8, .inl n)), (ms, .inl (cA 0, 20, .inl so)), (mv, .inl (cA 0, 20, .inl va)), (lk, .inl (cA 1, 1, .inr (.inl (vp_updL lf 0 ((if 0 = 0 then (((xs (6 * t + 1)).toInt64 <<< ((32 : Int32).toInt64 &&& 63)) ||| ((xs (6 * t + 2)).toInt64 &&& 4294967295)) / (((xs (6 * t + 3)).toInt64 <<< ((32 : Int32).toInt64 &&& 63)) ||| ((xs (6 * t + 4)).toInt64 &&& 4294967295)) else (((xs (6 * t + 1)).toInt64 <<< ((32 : Int32).toInt64 &&& 63)) ||| ((xs (6 * t + 2)).toInt64 &&& 4294967295)) - (((xs (6 * t + 1)).toInt64 <<< ((32 : Int32).toInt64 &&& 63)) ||| ((xs (6 * t + 2)).toInt64 &&& 4294967295)) / (((xs (6 * t + 3)).toInt64 <<< ((32 : Int32).toInt64 &&& 63)) ||| ((xs (6 * t + 4)).toInt64 &&& 4294967295)) * (((xs (6 * t + 3)).toInt64 <<< ((32 : Int32).toInt64 &&& 63)) ||| ((xs (6 * t + 4)).toInt64 &&& 4294967295))))))))]) (va_runV (As := [.long ((((xs (6 * t + 1)).toInt64) <<< ((32 : Int32).toInt64 &&& 63)) ||| (((xs (6 * t + 2)).toInt64) &&& 4294967295)), .long ((((xs (6 * t + 3)).toInt64) <<< ((32 : Int32).toInt64 &&& 63)) ||| (((xs (6 * t + 4)).toInt64) &&& 4294967295)), .int 0]) (rest := []) ⟨hx, hb, hml, hown, xTs⟩ (m_divideLong_c h mo mr ml ms mv th wr gm gh gw bm bd bc ca (((xs (6 * t + 1)).toInt64 <<< ((32 : Int32).toInt64 &&& 63)) ||| ((xs (6 * t + 2)).toInt64 &&& 4294967295)) (((xs (6 * t + 3)).toInt64 <<< ((32 : Int32).toInt64 &&& 63)) ||| ((xs (6 * t + 4)).toInt64 &&& 4294967295)) 0 _ hc) ⟨xB (n := 3) (k_648 h hb0) (k_5 h hb0) (k_645 h hb0) (by decide) rfl rfl rfl (by decide) (by decide), (k_646 h hb0), (k_647 h hb0)⟩ (xpMV (wr := []) (wc := [(mo, .inr (6, [.int th, .ref mr, .ref ml, .int wr, .int gm, .int gh, .int gw, .int bm, .int bd, .int bc, .int ca, .ref ms, .ref mv]))]) hb0 hS hz (va_P.sub hP [] rfl) (va_P.sub hP [15] rfl) (va_D.sub (hwk _ hD) [15] rfl rfl) (va_recv hK hP (ci := 6) (q0 := 15) rfl rfl)) rfl rfl hl.1 rfl (lv_room (Nat.le_of_ble_eq_true rfl)) dL_law_1279 ⟨(by show _ ≤ 806833; omega), (by show _ ≤ 6675604; omega)⟩) hP hD hS hA [15] [0, 1, 2, 3, 4, 5, 6, 7, 8, 9, 10, 11, 12, 13, 14, 16, 17, 18, 19, 20] rfl rfl rfl (by decide) (fun r w1 H locs hΦ hP hD hS => ?_)
          obtain ⟨rfl, rfl⟩ := hΦ
          have hP : va_P (dC, dI) vwCl ([(b, .inr (5, [.ref ro, .ref gr, .ref br, .int wr, .int ca])), (ro, .inr (4, [.ref b0, .ref b1, .ref b2, .ref b3, .ref b4, .ref b5, .ref b6, .ref b7, .ref b8])), (b0, .inl (cA 0, 8, .inl n)), (b1, .inl (cA 0, 39, .inl (r0 g))), (b2, .inl (cA 1, 39, .inr (.inl (r1 g)))), (b3, .inl (cA 2, 39, .inl (r2 g))), (b4, .inl (cA 3, 39, .inl (r3 g))), (b5, .inl (cA 4, 39, .inl (r4 g))), (b6, .inl (cA 5, 39, .inl (r5 g))), (b7, .inl (cA 6, 39, .inr (.inr (.inl (r6 g))))), (b8, .inl (cA 7, 39, .inr (.inr (.inr (.inl (r7 g)))))), (gr, .inr (3, [.ref gc, .int gm, .int gh, .int gw])), (gc, .inl (cA 9, 8, .inr (.inr (.inr (.inr (fun i => some (ga i))))))), (br, .inr (1, [.ref pl, .int bm, .int bd, .int bc])), (pl, .inl (cA 8, 19, .inr (.inr (.inr (.inr pf))))), (mr, .inl (cA 1, 320, .inr (.inl f))), (ml, .inl (cA 0, 8, .inl n)), (ms, .inl (cA 0, 20, .inl so)), (mv, .inl (cA 0, 20, .inl va)), (lk, .inl (cA 1, 1, .inr (.inl (vp_updL lf 0 ((if 0 = 0 then (((xs (6 * t + 1)).toInt64 <<< ((32 : Int32).toInt64 &&& 63)) ||| ((xs (6 * t + 2)).toInt64 &&& 4294967295)) / (((xs (6 * t + 3)).toInt64 <<< ((32 : Int32).toInt64 &&& 63)) ||| ((xs (6 * t + 4)).toInt64 &&& 4294967295)) else (((xs (6 * t + 1)).toInt64 <<< ((32 : Int32).toInt64 &&& 63)) ||| ((xs (6 * t + 2)).toInt64 &&& 4294967295)) - (((xs (6 * t + 1)).toInt64 <<< ((32 : Int32).toInt64 &&& 63)) ||| ((xs (6 * t + 2)).toInt64 &&& 4294967295)) / (((xs (6 * t + 3)).toInt64 <<< ((32 : Int32).toInt64 &&& 63)) ||| ((xs (6 * t + 4)).toInt64 &&& 4294967295)) * (((xs (6 * t + 3)).toInt64 <<< ((32 : Int32).toInt64 &&& 63)) ||| ((xs (6 * t + 4)).toInt64 &&& 4294967295)))))))), (mo, .inr (6, [.int 0, .ref mr, .ref ml, .int wr, .int gm, .int gh, .int gw, .int bm, .int bd, .int bc, .int ca, .ref ms, .ref mv]))] ++ (rws (cA 0) ga (gmx 8 0) ++ va_pl LP bx)) H := hP
          have hD : va_D A ([(b, .inr (5, [.ref ro, .ref gr, .ref br, .int wr, .int ca])), (ro, .inr (4, [.ref b0, .ref b1, .ref b2, .ref b3, .ref b4, .ref b5, .ref b6, .ref b7, .ref b8])), (b0, .inl (cA 0, 8, .inl n)), (b1, .inl (cA 0, 39, .inl (r0 g))), (b2, .inl (cA 1, 39, .inr (.inl (r1 g)))), (b3, .inl (cA 2, 39, .inl (r2 g))), (b4, .inl (cA 3, 39, .inl (r3 g))), (b5, .inl (cA 4, 39, .inl (r4 g))), (b6, .inl (cA 5, 39, .inl (r5 g))), (b7, .inl (cA 6, 39, .inr (.inr (.inl (r6 g))))), (b8, .inl (cA 7, 39, .inr (.inr (.inr (.inl (r7 g)))))), (gr, .inr (3, [.ref gc, .int gm, .int gh, .int gw])), (gc, .inl (cA 9, 8, .inr (.inr (.inr (.inr (fun i => some (ga i))))))), (br, .inr (1, [.ref pl, .int bm, .int bd, .int bc])), (pl, .inl (cA 8, 19, .inr (.inr (.inr (.inr pf))))), (mr, .inl (cA 1, 320, .inr (.inl f))), (ml, .inl (cA 0, 8, .inl n)), (ms, .inl (cA 0, 20, .inl so)), (mv, .inl (cA 0, 20, .inl va)), (lk, .inl (cA 1, 1, .inr (.inl (vp_updL lf 0 ((if 0 = 0 then (((xs (6 * t + 1)).toInt64 <<< ((32 : Int32).toInt64 &&& 63)) ||| ((xs (6 * t + 2)).toInt64 &&& 4294967295)) / (((xs (6 * t + 3)).toInt64 <<< ((32 : Int32).toInt64 &&& 63)) ||| ((xs (6 * t + 4)).toInt64 &&& 4294967295)) else (((xs (6 * t + 1)).toInt64 <<< ((32 : Int32).toInt64 &&& 63)) ||| ((xs (6 * t + 2)).toInt64 &&& 4294967295)) - (((xs (6 * t + 1)).toInt64 <<< ((32 : Int32).toInt64 &&& 63)) ||| ((xs (6 * t + 2)).toInt64 &&& 4294967295)) / (((xs (6 * t + 3)).toInt64 <<< ((32 : Int32).toInt64 &&& 63)) ||| ((xs (6 * t + 4)).toInt64 &&& 4294967295)) * (((xs (6 * t + 3)).toInt64 <<< ((32 : Int32).toInt64 &&& 63)) ||| ((xs (6 * t + 4)).toInt64 &&& 4294967295)))))))), (mo, .inr (6, [.int 0, .ref mr, .ref ml, .int wr, .int gm, .int gh, .int gw, .int bm, .int bd, .int bc, .int ca, .ref ms, .ref mv]))] ++ (rws (cA 0) ga (gmx 8 0) ++ va_pl LP bx)) := hD
          refine lv_lstore (lv' := [(6, .long (if 0 = 0 then (((xs (6 * t + 1)).toInt64 <<< ((32 : Int32).toInt64 &&& 63)) ||| ((xs (6 * t + 2)).toInt64 &&& 4294967295)) / (((xs (6 * t + 3)).toInt64 <<< ((32 : Int32).toInt64 &&& 63)) ||| ((xs (6 * t + 4)).toInt64 &&& 4294967295)) else (((xs (6 * t + 1)).toInt64 <<< ((32 : Int32).toInt64 &&& 63)) ||| ((xs (6 * t + 2)).toInt64 &&& 4294967295)) - (((xs (6 * t + 1)).toInt64 <<< ((32 : Int32).toInt64 &&& 63)) ||| ((xs (6 * t + 2)).toInt64 &&& 4294967295)) / (((xs (6 * t + 3)).toInt64 <<< ((32 : Int32).toInt64 &&& 63)) ||| ((xs (6 * t + 4)).toInt64 &&& 4294967295)) * (((xs (6 * t + 3)).toInt64 <<< ((32 : Int32).toInt64 &&& 63)) ||| ((xs (6 * t + 4)).toInt64 &&& 4294967295)))), (5, .int 0), (4, .int (nI (6 * t))), (3, .ref lk), (2, .ref mo), (1, .ref b), (0, .ref sb)]) hx hb dL_law_1282 hl (by decide) rfl (fun ls hl => ?_)
          refine lv_aload_n hx hb dL_law_1284 rfl (lv_at hl 4 rfl) ?_
          refine xr_1 (va_runV (As := []) (rest := []) ⟨hx, hb, hml, hown, xTs⟩ (c_thrown h mo mr ml ms mv 0 wr gm gh gw bm bd bc ca) ⟨xB (n := 0) (k_574 h hb0) (k_5 h hb0) (k_571 h hb0) (by decide) rfl rfl rfl (by decide) (by decide), (k_572 h hb0), (k_573 h hb0)⟩ (xpV hb0 hS hz (va_P.sub hP [20] rfl) (va_recv hK hP (ci := 6) (q0 := 20) rfl rfl)) rfl rfl hl.1 rfl (lv_room (Nat.le_of_ble_eq_true rfl)) dL_law_1285 ⟨(by show _ ≤ 806833; omega), (by show _ ≤ 6675604; omega)⟩) ?_
          refine lv_iload hx hb dL_law_1288 (lv_at hl 1 rfl) ?_
          refine lv_icmp_eq (tgt := 1295) hx hb dL_law_1290 (by decide) (fun c_103 => ?_) (fun c_103 => ?_)
          · refine lv_iload hx hb dL_law_1295 (lv_at hl 1 rfl) ?_
            refine lv_if_ne (tgt := 1311) hx hb dL_law_1297 (by decide) (fun c_104 => ?_) (fun c_104 => ?_)
            · exact absurd rfl c_104
            · refine lv_aload_n hx hb dL_law_1300 rfl (lv_at hl 3 rfl) ?_
              refine lv_iconst (v := 0) hx hb dL_law_1301 (by decide) ?_
              refine va_lald hx hb hK hP 19 1 rfl rfl xin0 dL_law_1302 ?_
              refine lv_topl (fun y ey => ?_)
              refine lv_lload hx hb dL_law_1303 (lv_at hl 0 rfl) ?_
              refine xlcmp hx hb dL_law_1305 (fun v hv => ?_)
              refine lv_if_eq (tgt := 1311) hx hb dL_law_1306 (by decide) (fun c_105 => ?_) (fun c_105 => ?_)
              · refine lv_goto (tgt := 1386) hx hb dL_law_1311 (by decide) ?_
                refine W.widen (k := 40 + 3 * t + 3) (n := 900 + 20 * t + 20) (by omega) (by omega) ?_
                exact kk ls H locs ⟨b, ro, b0, b1, b2, b3, b4, b5, b6, b7, b8, gr, gc, br, pl, mo, mr, ml, ms, mv, lk, ga, n, g, f, so, va, wr, ca, gm, gh, gw, bm, bd, bc, 0, pf, LP, bx, (vp_updL lf 0 ((if 0 = 0 then (((xs (6 * t + 1)).toInt64 <<< ((32 : Int32).toInt64 &&& 63)) ||| ((xs (6 * t + 2)).toInt64 &&& 4294967295)) / (((xs (6 * t + 3)).toInt64 <<< ((32 : Int32).toInt64 &&& 63)) ||| ((xs (6 * t + 4)).toInt64 &&& 4294967295)) else (((xs (6 * t + 1)).toInt64 <<< ((32 : Int32).toInt64 &&& 63)) ||| ((xs (6 * t + 2)).toInt64 &&& 4294967295)) - (((xs (6 * t + 1)).toInt64 <<< ((32 : Int32).toInt64 &&& 63)) ||| ((xs (6 * t + 2)).toInt64 &&& 4294967295)) / (((xs (6 * t + 3)).toInt64 <<< ((32 : Int32).toInt64 &&& 63)) ||| ((xs (6 * t + 4)).toInt64 &&& 4294967295)) * (((xs (6 * t + 3)).toInt64 <<< ((32 : Int32).toInt64 &&& 63)) ||| ((xs (6 * t + 4)).toInt64 &&& 4294967295))))), lv_sub hl [2, 3, 4, 5, 6] rfl, va_P.part hP [0, 1, 2, 3, 4, 5, 6, 7, 8, 9, 10, 11, 12, 13, 14, 20, 15, 16, 17, 18, 19] rfl, va_D.part hD [0, 1, 2, 3, 4, 5, 6, 7, 8, 9, 10, 11, 12, 13, 14, 20, 15, 16, 17, 18, 19] rfl rfl, hS, ⟨hR, hgm, ⟨GH, hGH, hgh⟩, ⟨GW, hGW, hgw⟩, hbm, BC, hBC, hbc, hB⟩⟩
              · exact absurd (hv.mpr (ey.trans (pk_uLs.trans rfl))) c_105
          · exact absurd rfl c_103
        · exact absurd z5 c_102
      · exact absurd z5 c_101
  · by_cases hc : (((xs (6 * t + 3)).toInt64 <<< ((32 : Int32).toInt64 &&& 63)) ||| ((xs (6 * t + 4)).toInt64 &&& 4294967295)) = 0
    · refine lv_aload_n hx hb dL_law_1155 rfl (lv_at hl 3 rfl) ?_
      refine lv_aload_n hx hb dL_law_1156 rfl (lv_at hl 4 rfl) ?_
      refine lv_iload hx hb dL_law_1157 (lv_at hl 0 rfl) ?_
      refine lv_iconst (v := 1) hx hb dL_law_1159 (by decide) ?_
      refine lv_iadd hx hb dL_law_1160 ?_
      rw [show nI (6 * t) + 1 = nI (6 * t + 1) from nI_add _ 1]
      refine va_sld hx hb hX hbl hbA hS (vp_in_nI (show 6 * t + 1 < L by omega) (by omega)) dL_law_1161 ?_
      rw [nI_clamp (show 6 * t + 1 < 2 ^ 31 by omega)]
      refine lv_i2l hx hb dL_law_1162 rfl ?_
      refine lv_bipush (v := 32) hx hb dL_law_1163 (by decide) ?_
      refine lv_lshl hx hb dL_law_1165 rfl ?_
      refine lv_aload_n hx hb dL_law_1166 rfl (lv_at hl 4 rfl) ?_
      refine lv_iload hx hb dL_law_1167 (lv_at hl 0 rfl) ?_
      refine lv_iconst (v := 2) hx hb dL_law_1169 (by decide) ?_
      refine lv_iadd hx hb dL_law_1170 ?_
      rw [show nI (6 * t) + 2 = nI (6 * t + 2) from nI_add _ 2]
      refine va_sld hx hb hX hbl hbA hS (vp_in_nI (show 6 * t + 2 < L by omega) (by omega)) dL_law_1171 ?_
      rw [nI_clamp (show 6 * t + 2 < 2 ^ 31 by omega)]
      refine lv_i2l hx hb dL_law_1172 rfl ?_
      refine lv_ldc2 hx hb hown (k_653 h hb0) dL_law_1173 ?_
      refine lv_land hx hb dL_law_1176 ?_
      refine lv_lor hx hb dL_law_1177 ?_
      refine lv_aload_n hx hb dL_law_1178 rfl (lv_at hl 4 rfl) ?_
      refine lv_iload hx hb dL_law_1179 (lv_at hl 0 rfl) ?_
      refine lv_iconst (v := 3) hx hb dL_law_1181 (by decide) ?_
      refine lv_iadd hx hb dL_law_1182 ?_
      rw [show nI (6 * t) + 3 = nI (6 * t + 3) from nI_add _ 3]
      refine va_sld hx hb hX hbl hbA hS (vp_in_nI (show 6 * t + 3 < L by omega) (by omega)) dL_law_1183 ?_
      rw [nI_clamp (show 6 * t + 3 < 2 ^ 31 by omega)]
      refine lv_i2l hx hb dL_law_1184 rfl ?_
      refine lv_bipush (v := 32) hx hb dL_law_1185 (by decide) ?_
      refine lv_lshl hx hb dL_law_1187 rfl ?_
      refine lv_aload_n hx hb dL_law_1188 rfl (lv_at hl 4 rfl) ?_
      refine lv_iload hx hb dL_law_1189 (lv_at hl 0 rfl) ?_
      refine lv_iconst (v := 4) hx hb dL_law_1191 (by decide) ?_
      refine lv_iadd hx hb dL_law_1192 ?_
      rw [show nI (6 * t) + 4 = nI (6 * t + 4) from nI_add _ 4]
      refine va_sld hx hb hX hbl hbA hS (vp_in_nI (show 6 * t + 4 < L by omega) (by omega)) dL_law_1193 ?_
      rw [nI_clamp (show 6 * t + 4 < 2 ^ 31 by omega)]
      refine lv_i2l hx hb dL_law_1194 rfl ?_
      refine lv_ldc2 hx hb hown (k_653 h hb0) dL_law_1195 ?_
      refine lv_land hx hb dL_law_1198 ?_
      refine lv_lor hx hb dL_law_1199 ?_
      refine lv_aload_n hx hb dL_law_1200 rfl (lv_at hl 4 rfl) ?_
      refine lv_iload hx hb dL_law_1201 (lv_at hl 0 rfl) ?_
      refine lv_iconst (v := 5) hx hb dL_law_1203 (by decide) ?_
      refine lv_iadd hx hb dL_law_1204 ?_
      rw [show nI (6 * t) + 5 = nI (6 * t + 5) from nI_add _ 5]
      refine va_sld hx hb hX hbl hbA hS (vp_in_nI (show 6 * t + 5 < L by omega) (by omega)) dL_law_1205 ?_
      rw [nI_clamp (show 6 * t + 5 < 2 ^ 31 by omega)]
      refine lv_if_eq (tgt := 1213) hx hb dL_law_1206 (by decide) (fun c_101 => ?_) (fun c_101 => ?_)
      · exact absurd c_101 z5
      · refine lv_iconst (v := 1) hx hb dL_law_1209 (by decide) ?_
        refine lv_goto (tgt := 1214) hx hb dL_law_1210 (by decide) ?_
        refine lv_aload_n hx hb dL_law_1214 rfl (lv_at hl 1 rfl) ?_
        refine xm_ofQ (X9 := [(b, .inr (5, [.ref ro, .ref gr, .ref br, .int wr, .int ca])), (ro, .inr (4, [.ref b0, .ref b1, .ref b2, .ref b3, .ref b4, .ref b5, .ref b6, .ref b7, .ref b8])), (b0, .inl (cA 0, 8, .inl n)), (b1, .inl (cA 0, 39, .inl (r0 g))), (b2, .inl (cA 1, 39, .inr (.inl (r1 g)))), (b3, .inl (cA 2, 39, .inl (r2 g))), (b4, .inl (cA 3, 39, .inl (r3 g))), (b5, .inl (cA 4, 39, .inl (r4 g))), (b6, .inl (cA 5, 39, .inl (r5 g))), (b7, .inl (cA 6, 39, .inr (.inr (.inl (r6 g))))), (b8, .inl (cA 7, 39, .inr (.inr (.inr (.inl (r7 g)))))), (gr, .inr (3, [.ref gc, .int gm, .int gh, .int gw])), (gc, .inl (cA 9, 8, .inr (.inr (.inr (.inr (fun i => some (ga i))))))), (br, .inr (1, [.ref pl, .int bm, .int bd, .int bc])), (pl, .inl (cA 8, 19, .inr (.inr (.inr (.inr pf))))), (mo, .inr (6, [.int th, .ref mr, .ref ml, .int wr, .int gm, .int gh, .int gw, .int bm, .int bd, .int bc, .int ca, .ref ms, .ref mv])), (mr, .inl (cA 1, 320, .inr (.inl f))), (ml, .inl (cA 0, 8, .inl n)), (ms, .inl (cA 0, 20, .inl so)), (mv, .inl (cA 0, 20, .inl va)), (lk, .inl (cA 1, 1, .inr (.inl lf)))]) (pl := (rws (cA 0) ga (gmx 8 0) ++ va_pl LP bx)) (wc := [(lk, .inl (cA 1, 1, .inr (.inl lf)))]) (wo := [(b, .inr (5, [.ref ro, .ref gr, .ref br, .int wr, .int ca])), (ro, .inr (4, [.ref b0, .ref b1, .ref b2, .ref b3, .ref b4, .ref b5, .ref b6, .ref b7, .ref b8])), (b0, .inl (cA 0, 8, .inl n)), (b1, .inl (cA 0, 39, .inl (r0 g))), (b2, .inl (cA 1, 39, .inr (.inl (r1 g)))), (b3, .inl (cA 2, 39, .inl (r2 g))), (b4, .inl (cA 3, 39, .inl (r3 g))), (b5, .inl (cA 4, 39, .inl (r4 g))), (b6, .inl (cA 5, 39, .inl (r5 g))), (b7, .inl (cA 6, 39, .inr (.inr (.inl (r6 g))))), (b8, .inl (cA 7, 39, .inr (.inr (.inr (.inl (r7 g)))))), (gr, .inr (3, [.ref gc, .int gm, .int gh, .int gw])), (gc, .inl (cA 9, 8, .inr (.inr (.inr (.inr (fun i => some (ga i))))))), (br, .inr (1, [.ref pl, .int bm, .int bd, .int bc])), (pl, .inl (cA 8, 19, .inr (.inr (.inr (.inr pf))))), (mo, .inr (6, [.int th, .ref mr, .ref ml, .int wr, .int gm, .int gh, .int gw, .int bm, .int bd, .int bc, .int ca, .ref ms, .ref mv])), (mr, .inl (cA 1, 320, .inr (.inl f))), (ml, .inl (cA 0, 8, .inl n)), (ms, .inl (cA 0, 20, .inl so)), (mv, .inl (cA 0, 20, .inl va))]) (xw_runS (As := [.ref b, .long ((((xs (6 * t + 1)).toInt64) <<< ((32 : Int32).toInt64 &&& 63)) ||| (((xs (6 * t + 2)).toInt64) &&& 4294967295)), .long ((((xs (6 * t + 3)).toInt64) <<< ((32 : Int32).toInt64 &&& 63)) ||| (((xs (6 * t + 4)).toInt64) &&& 4294967295)), .int 1, .ref lk]) (rest := []) hx hb hml hown (l_t_divideLong_Z h b (((xs (6 * t + 1)).toInt64 <<< ((32 : Int32).toInt64 &&& 63)) ||| ((xs (6 * t + 2)).toInt64 &&& 4294967295)) (((xs (6 * t + 3)).toInt64 <<< ((32 : Int32).toInt64 &&& 63)) ||| ((xs (6 * t + 4)).toInt64 &&& 4294967295)) 1 lk lf ro gr br wr ca _ hc) (k_512 h hb0) (k_0 h hb0) (k_510 h hb0) (k_511 h hb0) (by decide) rfl rfl rfl (by decide) (by decide) (xpMS (wr := [(b, .inr (5, [.ref ro, .ref gr, .ref br, .int wr, .int ca]))]) (wc := [(lk, .inl (cA 1, 1, .inr (.inl lf)))]) hb0 hS hz (va_P.sub hP [0] rfl) (va_P.sub hP [20] rfl) (va_D.sub (hwk _ hD) [0, 20] rfl rfl)) rfl rfl hl.1 rfl (lv_room (Nat.le_of_ble_eq_true rfl)) dL_law_1215 ⟨(by show _ ≤ 806833; omega), (by show _ ≤ 6675604; omega)⟩) hP hD hS hA [20] [0, 1, 2, 3, 4, 5, 6, 7, 8, 9, 10, 11, 12, 13, 14, 15, 16, 17, 18, 19] rfl rfl rfl (by decide) (fun r w1 H locs hΦ hP hD hS => ?_)
        obtain ⟨rfl, rfl⟩ := hΦ
        have hP : va_P (dC, dI) vwCl ([(b, .inr (5, [.ref ro, .ref gr, .ref br, .int wr, .int ca])), (ro, .inr (4, [.ref b0, .ref b1, .ref b2, .ref b3, .ref b4, .ref b5, .ref b6, .ref b7, .ref b8])), (b0, .inl (cA 0, 8, .inl n)), (b1, .inl (cA 0, 39, .inl (r0 g))), (b2, .inl (cA 1, 39, .inr (.inl (r1 g)))), (b3, .inl (cA 2, 39, .inl (r2 g))), (b4, .inl (cA 3, 39, .inl (r3 g))), (b5, .inl (cA 4, 39, .inl (r4 g))), (b6, .inl (cA 5, 39, .inl (r5 g))), (b7, .inl (cA 6, 39, .inr (.inr (.inl (r6 g))))), (b8, .inl (cA 7, 39, .inr (.inr (.inr (.inl (r7 g)))))), (gr, .inr (3, [.ref gc, .int gm, .int gh, .int gw])), (gc, .inl (cA 9, 8, .inr (.inr (.inr (.inr (fun i => some (ga i))))))), (br, .inr (1, [.ref pl, .int bm, .int bd, .int bc])), (pl, .inl (cA 8, 19, .inr (.inr (.inr (.inr pf))))), (mo, .inr (6, [.int th, .ref mr, .ref ml, .int wr, .int gm, .int gh, .int gw, .int bm, .int bd, .int bc, .int ca, .ref ms, .ref mv])), (mr, .inl (cA 1, 320, .inr (.inl f))), (ml, .inl (cA 0, 8, .inl n)), (ms, .inl (cA 0, 20, .inl so)), (mv, .inl (cA 0, 20, .inl va)), (lk, .inl (cA 1, 1, .inr (.inl lf)))] ++ (rws (cA 0) ga (gmx 8 0) ++ va_pl LP bx)) H := hP
        have hD : va_D A ([(b, .inr (5, [.ref ro, .ref gr, .ref br, .int wr, .int ca])), (ro, .inr (4, [.ref b0, .ref b1, .ref b2, .ref b3, .ref b4, .ref b5, .ref b6, .ref b7, .ref b8])), (b0, .inl (cA 0, 8, .inl n)), (b1, .inl (cA 0, 39, .inl (r0 g))), (b2, .inl (cA 1, 39, .inr (.inl (r1 g)))), (b3, .inl (cA 2, 39, .inl (r2 g))), (b4, .inl (cA 3, 39, .inl (r3 g))), (b5, .inl (cA 4, 39, .inl (r4 g))), (b6, .inl (cA 5, 39, .inl (r5 g))), (b7, .inl (cA 6, 39, .inr (.inr (.inl (r6 g))))), (b8, .inl (cA 7, 39, .inr (.inr (.inr (.inl (r7 g)))))), (gr, .inr (3, [.ref gc, .int gm, .int gh, .int gw])), (gc, .inl (cA 9, 8, .inr (.inr (.inr (.inr (fun i => some (ga i))))))), (br, .inr (1, [.ref pl, .int bm, .int bd, .int bc])), (pl, .inl (cA 8, 19, .inr (.inr (.inr (.inr pf))))), (mo, .inr (6, [.int th, .ref mr, .ref ml, .int wr, .int gm, .int gh, .int gw, .int bm, .int bd, .int bc, .int ca, .ref ms, .ref mv])), (mr, .inl (cA 1, 320, .inr (.inl f))), (ml, .inl (cA 0, 8, .inl n)), (ms, .inl (cA 0, 20, .inl so)), (mv, .inl (cA 0, 20, .inl va)), (lk, .inl (cA 1, 1, .inr (.inl lf)))] ++ (rws (cA 0) ga (gmx 8 0) ++ va_pl LP bx)) := hD
        refine lv_istore (lv' := [(5, .int 1), (4, .int (nI (6 * t))), (3, .ref lk), (2, .ref mo), (1, .ref b), (0, .ref sb)]) hx hb dL_law_1218 hl (by decide) rfl (fun ls hl => ?_)
        refine lv_aload_n hx hb dL_law_1220 rfl (lv_at hl 3 rfl) ?_
        refine lv_aload_n hx hb dL_law_1221 rfl (lv_at hl 5 rfl) ?_
        refine lv_iload hx hb dL_law_1222 (lv_at hl 1 rfl) ?_
        refine lv_iconst (v := 1) hx hb dL_law_1224 (by decide) ?_
        refine lv_iadd hx hb dL_law_1225 ?_
        rw [show nI (6 * t) + 1 = nI (6 * t + 1) from nI_add _ 1]
        refine va_sld hx hb hX hbl hbA hS (vp_in_nI (show 6 * t + 1 < L by omega) (by omega)) dL_law_1226 ?_
        rw [nI_clamp (show 6 * t + 1 < 2 ^ 31 by omega)]
        refine lv_i2l hx hb dL_law_1227 rfl ?_
        refine lv_bipush (v := 32) hx hb dL_law_1228 (by decide) ?_
        refine lv_lshl hx hb dL_law_1230 rfl ?_
        refine lv_aload_n hx hb dL_law_1231 rfl (lv_at hl 5 rfl) ?_
        refine lv_iload hx hb dL_law_1232 (lv_at hl 1 rfl) ?_
        refine lv_iconst (v := 2) hx hb dL_law_1234 (by decide) ?_
        refine lv_iadd hx hb dL_law_1235 ?_
        rw [show nI (6 * t) + 2 = nI (6 * t + 2) from nI_add _ 2]
        refine va_sld hx hb hX hbl hbA hS (vp_in_nI (show 6 * t + 2 < L by omega) (by omega)) dL_law_1236 ?_
        rw [nI_clamp (show 6 * t + 2 < 2 ^ 31 by omega)]
        refine lv_i2l hx hb dL_law_1237 rfl ?_
        refine lv_ldc2 hx hb hown (k_653 h hb0) dL_law_1238 ?_
        refine lv_land hx hb dL_law_1241 ?_
        refine lv_lor hx hb dL_law_1242 ?_
        refine lv_aload_n hx hb dL_law_1243 rfl (lv_at hl 5 rfl) ?_
        refine lv_iload hx hb dL_law_1244 (lv_at hl 1 rfl) ?_
        refine lv_iconst (v := 3) hx hb dL_law_1246 (by decide) ?_
        refine lv_iadd hx hb dL_law_1247 ?_
        rw [show nI (6 * t) + 3 = nI (6 * t + 3) from nI_add _ 3]
        refine va_sld hx hb hX hbl hbA hS (vp_in_nI (show 6 * t + 3 < L by omega) (by omega)) dL_law_1248 ?_
        rw [nI_clamp (show 6 * t + 3 < 2 ^ 31 by omega)]
        refine lv_i2l hx hb dL_law_1249 rfl ?_
        refine lv_bipush (v := 32) hx hb dL_law_1250 (by decide) ?_
        refine lv_lshl hx hb dL_law_1252 rfl ?_
        refine lv_aload_n hx hb dL_law_1253 rfl (lv_at hl 5 rfl) ?_
        refine lv_iload hx hb dL_law_1254 (lv_at hl 1 rfl) ?_
        refine lv_iconst (v := 4) hx hb dL_law_1256 (by decide) ?_
        refine lv_iadd hx hb dL_law_1257 ?_
        rw [show nI (6 * t) + 4 = nI (6 * t + 4) from nI_add _ 4]
        refine va_sld hx hb hX hbl hbA hS (vp_in_nI (show 6 * t + 4 < L by omega) (by omega)) dL_law_1258 ?_
        rw [nI_clamp (show 6 * t + 4 < 2 ^ 31 by omega)]
        refine lv_i2l hx hb dL_law_1259 rfl ?_
        refine lv_ldc2 hx hb hown (k_653 h hb0) dL_law_1260 ?_
        refine lv_land hx hb dL_law_1263 ?_
        refine lv_lor hx hb dL_law_1264 ?_
        refine lv_aload_n hx hb dL_law_1265 rfl (lv_at hl 5 rfl) ?_
        refine lv_iload hx hb dL_law_1266 (lv_at hl 1 rfl) ?_
        refine lv_iconst (v := 5) hx hb dL_law_1268 (by decide) ?_
        refine lv_iadd hx hb dL_law_1269 ?_
        rw [show nI (6 * t) + 5 = nI (6 * t + 5) from nI_add _ 5]
        refine va_sld hx hb hX hbl hbA hS (vp_in_nI (show 6 * t + 5 < L by omega) (by omega)) dL_law_1270 ?_
        rw [nI_clamp (show 6 * t + 5 < 2 ^ 31 by omega)]
        refine lv_if_eq (tgt := 1278) hx hb dL_law_1271 (by decide) (fun c_102 => ?_) (fun c_102 => ?_)
        · exact absurd c_102 z5
        · refine lv_iconst (v := 1) hx hb dL_law_1274 (by decide) ?_
          refine lv_goto (tgt := 1279) hx hb dL_law_1275 (by decide) ?_
          refine xm_ofQ (X9 := [(b, .inr (5, [.ref ro, .ref gr, .ref br, .int wr, .int ca])), (ro, .inr (4, [.ref b0, .ref b1, .ref b2, .ref b3, .ref b4, .ref b5, .ref b6, .ref b7, .ref b8])), (b0, .inl (cA 0, 8, .inl n)), (b1, .inl (cA 0, 39, .inl (r0 g))), (b2, .inl (cA 1, 39, .inr (.inl (r1 g)))), (b3, .inl (cA 2, 39, .inl (r2 g))), (b4, .inl (cA 3, 39, .inl (r3 g))), (b5, .inl (cA 4, 39, .inl (r4 g))), (b6, .inl (cA 5, 39, .inl (r5 g))), (b7, .inl (cA 6, 39, .inr (.inr (.inl (r6 g))))), (b8, .inl (cA 7, 39, .inr (.inr (.inr (.inl (r7 g)))))), (gr, .inr (3, [.ref gc, .int gm, .int gh, .int gw])), (gc, .inl (cA 9, 8, .inr (.inr (.inr (.inr (fun i => some (ga i))))))), (br, .inr (1, [.ref pl, .int bm, .int bd, .int bc])), (pl, .inl (cA 8, 19, .inr (.inr (.inr (.inr pf))))), (mo, .inr (6, [.int th, .ref mr, .ref ml, .int wr, .int gm, .int gh, .int gw, .int bm, .int bd, .int bc, .int ca, .ref ms, .ref mv])), (mr, .inl (cA 1, 320, .inr (.inl f))), (ml, .inl (cA 0, 8, .inl n)), (ms, .inl (cA 0, 20, .inl so)), (mv, .inl (cA 0, 20, .inl va)), (lk, .inl (cA 1, 1, .inr (.inl lf)))]) (pl := (rws (cA 0) ga (gmx 8 0) ++ va_pl LP bx)) (wc := [(mo, .inr (6, [.int th, .ref mr, .ref ml, .int wr, .int gm, .int gh, .int gw, .int bm, .int bd, .int bc, .int ca, .ref ms, .ref mv]))]) (wo := [(b, .inr (5, [.ref ro, .ref gr, .ref br, .int wr, .int ca])), (ro, .inr (4, [.ref b0, .ref b1, .ref b2, .ref b3, .ref b4, .ref b5, .ref b6, .ref b7, .ref b8])), (b0, .inl (cA 0, 8, .inl n)), (b1, .inl (cA 0, 39, .inl (r0 g))), (b2, .inl (cA 1, 39, .inr (.inl (r1 g)))), (b3, .inl (cA 2, 39, .inl (r2 g))), (b4, .inl (cA 3, 39, .inl (r3 g))), (b5, .inl (cA 4, 39, .inl (r4 g))), (b6, .inl (cA 5, 39, .inl (r5 g))), (b7, .inl (cA 6, 39, .inr (.inr (.inl (r6 g))))), (b8, .inl (cA 7, 39, .inr (.inr (.inr (.inl (r7 g)))))), (gr, .inr (3, [.ref gc, .int gm, .int gh, .int gw])), (gc, .inl (cA 9, 8, .inr (.inr (.inr (.inr (fun i => some (ga i))))))), (br, .inr (1, [.ref pl, .int bm, .int bd, .int bc])), (pl, .inl (cA 8, 19, .inr (.inr (.inr (.inr pf))))), (mr, .inl (cA 1, 320, .inr (.inl f))), (ml, .inl (cA 0, 8, .inl n)), (ms, .inl (cA 0, 20, .inl so)), (mv, .inl (cA 0, 20, .inl va)), (lk, .inl (cA 1, 1, .inr (.inl lf)))]) (va_runV (As := [.long ((((xs (6 * t + 1)).toInt64) <<< ((32 : Int32).toInt64 &&& 63)) ||| (((xs (6 * t + 2)).toInt64) &&& 4294967295)), .long ((((xs (6 * t + 3)).toInt64) <<< ((32 : Int32).toInt64 &&& 63)) ||| (((xs (6 * t + 4)).toInt64) &&& 4294967295)), .int 1]) (rest := []) ⟨hx, hb, hml, hown, xTs⟩ (m_divideLong_Z h mo mr ml ms mv th wr gm gh gw bm bd bc ca (((xs (6 * t + 1)).toInt64 <<< ((32 : Int32).toInt64 &&& 63)) ||| ((xs (6 * t + 2)).toInt64 &&& 4294967295)) (((xs (6 * t + 3)).toInt64 <<< ((32 : Int32).toInt64 &&& 63)) ||| ((xs (6 * t + 4)).toInt64 &&& 4294967295)) 1 _ hc) ⟨xB (n := 3) (k_648 h hb0) (k_5 h hb0) (k_645 h hb0) (by decide) rfl rfl rfl (by decide) (by decide), (k_646 h hb0), (k_647 h hb0)⟩ (xpMV (wr := []) (wc := [(mo, .inr (6, [.int th, .ref mr, .ref ml, .int wr, .int gm, .int gh, .int gw, .int bm, .int bd, .int bc, .int ca, .ref ms, .ref mv]))]) hb0 hS hz (va_P.sub hP [] rfl) (va_P.sub hP [15] rfl) (va_D.sub (hwk _ hD) [15] rfl rfl) (va_recv hK hP (ci := 6) (q0 := 15) rfl rfl)) rfl rfl hl.1 rfl (lv_room (Nat.le_of_ble_eq_true rfl)) dL_law_1279 ⟨(by show _ ≤ 806833; omega), (by show _ ≤ 6675604; omega)⟩) hP hD hS hA [15] [0, 1, 2, 3, 4, 5, 6, 7, 8, 9, 10, 11, 12, 13, 14, 16, 17, 18, 19, 20] rfl rfl rfl (by decide) (fun r w1 H locs hΦ hP hD hS => ?_)
          obtain ⟨rfl, rfl⟩ := hΦ
          have hP : va_P (dC, dI) vwCl ([(b, .inr (5, [.ref ro, .ref gr, .ref br, .int wr, .int ca])), (ro, .inr (4, [.ref b0, .ref b1, .ref b2, .ref b3, .ref b4, .ref b5, .ref b6, .ref b7, .ref b8])), (b0, .inl (cA 0, 8, .inl n)), (b1, .inl (cA 0, 39, .inl (r0 g))), (b2, .inl (cA 1, 39, .inr (.inl (r1 g)))), (b3, .inl (cA 2, 39, .inl (r2 g))), (b4, .inl (cA 3, 39, .inl (r3 g))), (b5, .inl (cA 4, 39, .inl (r4 g))), (b6, .inl (cA 5, 39, .inl (r5 g))), (b7, .inl (cA 6, 39, .inr (.inr (.inl (r6 g))))), (b8, .inl (cA 7, 39, .inr (.inr (.inr (.inl (r7 g)))))), (gr, .inr (3, [.ref gc, .int gm, .int gh, .int gw])), (gc, .inl (cA 9, 8, .inr (.inr (.inr (.inr (fun i => some (ga i))))))), (br, .inr (1, [.ref pl, .int bm, .int bd, .int bc])), (pl, .inl (cA 8, 19, .inr (.inr (.inr (.inr pf))))), (mr, .inl (cA 1, 320, .inr (.inl f))), (ml, .inl (cA 0, 8, .inl n)), (ms, .inl (cA 0, 20, .inl so)), (mv, .inl (cA 0, 20, .inl va)), (lk, .inl (cA 1, 1, .inr (.inl lf))), (mo, .inr (6, [.int 1, .ref mr, .ref ml, .int wr, .int gm, .int gh, .int gw, .int bm, .int bd, .int bc, .int ca, .ref ms, .ref mv]))] ++ (rws (cA 0) ga (gmx 8 0) ++ va_pl LP bx)) H := hP
          have hD : va_D A ([(b, .inr (5, [.ref ro, .ref gr, .ref br, .int wr, .int ca])), (ro, .inr (4, [.ref b0, .ref b1, .ref b2, .ref b3, .ref b4, .ref b5, .ref b6, .ref b7, .ref b8])), (b0, .inl (cA 0, 8, .inl n)), (b1, .inl (cA 0, 39, .inl (r0 g))), (b2, .inl (cA 1, 39, .inr (.inl (r1 g)))), (b3, .inl (cA 2, 39, .inl (r2 g))), (b4, .inl (cA 3, 39, .inl (r3 g))), (b5, .inl (cA 4, 39, .inl (r4 g))), (b6, .inl (cA 5, 39, .inl (r5 g))), (b7, .inl (cA 6, 39, .inr (.inr (.inl (r6 g))))), (b8, .inl (cA 7, 39, .inr (.inr (.inr (.inl (r7 g)))))), (gr, .inr (3, [.ref gc, .int gm, .int gh, .int gw])), (gc, .inl (cA 9, 8, .inr (.inr (.inr (.inr (fun i => some (ga i))))))), (br, .inr (1, [.ref pl, .int bm, .int bd, .int bc])), (pl, .inl (cA 8, 19, .inr (.inr (.inr (.inr pf))))), (mr, .inl (cA 1, 320, .inr (.inl f))), (ml, .inl (cA 0, 8, .inl n)), (ms, .inl (cA 0, 20, .inl so)), (mv, .inl (cA 0, 20, .inl va)), (lk, .inl (cA 1, 1, .inr (.inl lf))), (mo, .inr (6, [.int 1, .ref mr, .ref ml, .int wr, .int gm, .int gh, .int gw, .int bm, .int bd, .int bc, .int ca, .ref ms, .ref mv]))] ++ (rws (cA 0) ga (gmx 8 0) ++ va_pl LP bx)) := hD
          refine lv_lstore (lv' := [(6, .long 0), (5, .int 1), (4, .int (nI (6 * t))), (3, .ref lk), (2, .ref mo), (1, .ref b), (0, .ref sb)]) hx hb dL_law_1282 hl (by decide) rfl (fun ls hl => ?_)
          refine lv_aload_n hx hb dL_law_1284 rfl (lv_at hl 4 rfl) ?_
          refine xr_1 (va_runV (As := []) (rest := []) ⟨hx, hb, hml, hown, xTs⟩ (c_thrown h mo mr ml ms mv 1 wr gm gh gw bm bd bc ca) ⟨xB (n := 0) (k_574 h hb0) (k_5 h hb0) (k_571 h hb0) (by decide) rfl rfl rfl (by decide) (by decide), (k_572 h hb0), (k_573 h hb0)⟩ (xpV hb0 hS hz (va_P.sub hP [20] rfl) (va_recv hK hP (ci := 6) (q0 := 20) rfl rfl)) rfl rfl hl.1 rfl (lv_room (Nat.le_of_ble_eq_true rfl)) dL_law_1285 ⟨(by show _ ≤ 806833; omega), (by show _ ≤ 6675604; omega)⟩) ?_
          refine lv_iload hx hb dL_law_1288 (lv_at hl 1 rfl) ?_
          refine lv_icmp_eq (tgt := 1295) hx hb dL_law_1290 (by decide) (fun c_103 => ?_) (fun c_103 => ?_)
          · refine lv_iload hx hb dL_law_1295 (lv_at hl 1 rfl) ?_
            refine lv_if_ne (tgt := 1311) hx hb dL_law_1297 (by decide) (fun c_104 => ?_) (fun c_104 => ?_)
            · refine lv_goto (tgt := 1386) hx hb dL_law_1311 (by decide) ?_
              refine W.widen (k := 40 + 3 * t + 3) (n := 900 + 20 * t + 20) (by omega) (by omega) ?_
              exact kk ls H locs ⟨b, ro, b0, b1, b2, b3, b4, b5, b6, b7, b8, gr, gc, br, pl, mo, mr, ml, ms, mv, lk, ga, n, g, f, so, va, wr, ca, gm, gh, gw, bm, bd, bc, 1, pf, LP, bx, lf, lv_sub hl [2, 3, 4, 5, 6] rfl, va_P.part hP [0, 1, 2, 3, 4, 5, 6, 7, 8, 9, 10, 11, 12, 13, 14, 20, 15, 16, 17, 18, 19] rfl, va_D.part hD [0, 1, 2, 3, 4, 5, 6, 7, 8, 9, 10, 11, 12, 13, 14, 20, 15, 16, 17, 18, 19] rfl rfl, hS, ⟨hR, hgm, ⟨GH, hGH, hgh⟩, ⟨GW, hGW, hgw⟩, hbm, BC, hBC, hbc, hB⟩⟩
            · exact absurd c_104 (by decide)
          · exact absurd rfl c_103
    · refine lv_aload_n hx hb dL_law_1155 rfl (lv_at hl 3 rfl) ?_
      refine lv_aload_n hx hb dL_law_1156 rfl (lv_at hl 4 rfl) ?_
      refine lv_iload hx hb dL_law_1157 (lv_at hl 0 rfl) ?_
      refine lv_iconst (v := 1) hx hb dL_law_1159 (by decide) ?_
      refine lv_iadd hx hb dL_law_1160 ?_
      rw [show nI (6 * t) + 1 = nI (6 * t + 1) from nI_add _ 1]
      refine va_sld hx hb hX hbl hbA hS (vp_in_nI (show 6 * t + 1 < L by omega) (by omega)) dL_law_1161 ?_
      rw [nI_clamp (show 6 * t + 1 < 2 ^ 31 by omega)]
      refine lv_i2l hx hb dL_law_1162 rfl ?_
      refine lv_bipush (v := 32) hx hb dL_law_1163 (by decide) ?_
      refine lv_lshl hx hb dL_law_1165 rfl ?_
      refine lv_aload_n hx hb dL_law_1166 rfl (lv_at hl 4 rfl) ?_
      refine lv_iload hx hb dL_law_1167 (lv_at hl 0 rfl) ?_
      refine lv_iconst (v := 2) hx hb dL_law_1169 (by decide) ?_
      refine lv_iadd hx hb dL_law_1170 ?_
      rw [show nI (6 * t) + 2 = nI (6 * t + 2) from nI_add _ 2]
      refine va_sld hx hb hX hbl hbA hS (vp_in_nI (show 6 * t + 2 < L by omega) (by omega)) dL_law_1171 ?_
      rw [nI_clamp (show 6 * t + 2 < 2 ^ 31 by omega)]
      refine lv_i2l hx hb dL_law_1172 rfl ?_
      refine lv_ldc2 hx hb hown (k_653 h hb0) dL_law_1173 ?_
      refine lv_land hx hb dL_law_1176 ?_
      refine lv_lor hx hb dL_law_1177 ?_
      refine lv_aload_n hx hb dL_law_1178 rfl (lv_at hl 4 rfl) ?_
      refine lv_iload hx hb dL_law_1179 (lv_at hl 0 rfl) ?_
      refine lv_iconst (v := 3) hx hb dL_law_1181 (by decide) ?_
      refine lv_iadd hx hb dL_law_1182 ?_
      rw [show nI (6 * t) + 3 = nI (6 * t + 3) from nI_add _ 3]
      refine va_sld hx hb hX hbl hbA hS (vp_in_nI (show 6 * t + 3 < L by omega) (by omega)) dL_law_1183 ?_
      rw [nI_clamp (show 6 * t + 3 < 2 ^ 31 by omega)]
      refine lv_i2l hx hb dL_law_1184 rfl ?_
      refine lv_bipush (v := 32) hx hb dL_law_1185 (by decide) ?_
      refine lv_lshl hx hb dL_law_1187 rfl ?_
      refine lv_aload_n hx hb dL_law_1188 rfl (lv_at hl 4 rfl) ?_
      refine lv_iload hx hb dL_law_1189 (lv_at hl 0 rfl) ?_
      refine lv_iconst (v := 4) hx hb dL_law_1191 (by decide) ?_
      refine lv_iadd hx hb dL_law_1192 ?_
      rw [show nI (6 * t) + 4 = nI (6 * t + 4) from nI_add _ 4]
      refine va_sld hx hb hX hbl hbA hS (vp_in_nI (show 6 * t + 4 < L by omega) (by omega)) dL_law_1193 ?_
      rw [nI_clamp (show 6 * t + 4 < 2 ^ 31 by omega)]
      refine lv_i2l hx hb dL_law_1194 rfl ?_
      refine lv_ldc2 hx hb hown (k_653 h hb0) dL_law_1195 ?_
      refine lv_land hx hb dL_law_1198 ?_
      refine lv_lor hx hb dL_law_1199 ?_
      refine lv_aload_n hx hb dL_law_1200 rfl (lv_at hl 4 rfl) ?_
      refine lv_iload hx hb dL_law_1201 (lv_at hl 0 rfl) ?_
      refine lv_iconst (v := 5) hx hb dL_law_1203 (by decide) ?_
      refine lv_iadd hx hb dL_law_1204 ?_
      rw [show nI (6 * t) + 5 = nI (6 * t + 5) from nI_add _ 5]
      refine va_sld hx hb hX hbl hbA hS (vp_in_nI (show 6 * t + 5 < L by omega) (by omega)) dL_law_1205 ?_
      rw [nI_clamp (show 6 * t + 5 < 2 ^ 31 by omega)]
      refine lv_if_eq (tgt := 1213) hx hb dL_law_1206 (by decide) (fun c_101 => ?_) (fun c_101 => ?_)
      · exact absurd c_101 z5
      · refine lv_iconst (v := 1) hx hb dL_law_1209 (by decide) ?_
        refine lv_goto (tgt := 1214) hx hb dL_law_1210 (by decide) ?_
        refine lv_aload_n hx hb dL_law_1214 rfl (lv_at hl 1 rfl) ?_
        refine xm_ofQ (X9 := [(b, .inr (5, [.ref ro, .ref gr, .ref br, .int wr, .int ca])), (ro, .inr (4, [.ref b0, .ref b1, .ref b2, .ref b3, .ref b4, .ref b5, .ref b6, .ref b7, .ref b8])), (b0, .inl (cA 0, 8, .inl n)), (b1, .inl (cA 0, 39, .inl (r0 g))), (b2, .inl (cA 1, 39, .inr (.inl (r1 g)))), (b3, .inl (cA 2, 39, .inl (r2 g))), (b4, .inl (cA 3, 39, .inl (r3 g))), (b5, .inl (cA 4, 39, .inl (r4 g))), (b6, .inl (cA 5, 39, .inl (r5 g))), (b7, .inl (cA 6, 39, .inr (.inr (.inl (r6 g))))), (b8, .inl (cA 7, 39, .inr (.inr (.inr (.inl (r7 g)))))), (gr, .inr (3, [.ref gc, .int gm, .int gh, .int gw])), (gc, .inl (cA 9, 8, .inr (.inr (.inr (.inr (fun i => some (ga i))))))), (br, .inr (1, [.ref pl, .int bm, .int bd, .int bc])), (pl, .inl (cA 8, 19, .inr (.inr (.inr (.inr pf))))), (mo, .inr (6, [.int th, .ref mr, .ref ml, .int wr, .int gm, .int gh, .int gw, .int bm, .int bd, .int bc, .int ca, .ref ms, .ref mv])), (mr, .inl (cA 1, 320, .inr (.inl f))), (ml, .inl (cA 0, 8, .inl n)), (ms, .inl (cA 0, 20, .inl so)), (mv, .inl (cA 0, 20, .inl va)), (lk, .inl (cA 1, 1, .inr (.inl lf)))]) (pl := (rws (cA 0) ga (gmx 8 0) ++ va_pl LP bx)) (wc := [(lk, .inl (cA 1, 1, .inr (.inl lf)))]) (wo := [(b, .inr (5, [.ref ro, .ref gr, .ref br, .int wr, .int ca])), (ro, .inr (4, [.ref b0, .ref b1, .ref b2, .ref b3, .ref b4, .ref b5, .ref b6, .ref b7, .ref b8])), (b0, .inl (cA 0, 8, .inl n)), (b1, .inl (cA 0, 39, .inl (r0 g))), (b2, .inl (cA 1, 39, .inr (.inl (r1 g)))), (b3, .inl (cA 2, 39, .inl (r2 g))), (b4, .inl (cA 3, 39, .inl (r3 g))), (b5, .inl (cA 4, 39, .inl (r4 g))), (b6, .inl (cA 5, 39, .inl (r5 g))), (b7, .inl (cA 6, 39, .inr (.inr (.inl (r6 g))))), (b8, .inl (cA 7, 39, .inr (.inr (.inr (.inl (r7 g)))))), (gr, .inr (3, [.ref gc, .int gm, .int gh, .int gw])), (gc, .inl (cA 9, 8, .inr (.inr (.inr (.inr (fun i => some (ga i))))))), (br, .inr (1, [.ref pl, .int bm, .int bd, .int bc])), (pl, .inl (cA 8, 19, .inr (.inr (.inr (.inr pf))))), (mo, .inr (6, [.int th, .ref mr, .ref ml, .int wr, .int gm, .int gh, .int gw, .int bm, .int bd, .int bc, .int ca, .ref ms, .ref mv])), (mr, .inl (cA 1, 320, .inr (.inl f))), (ml, .inl (cA 0, 8, .inl n)), (ms, .inl (cA 0, 20, .inl so)), (mv, .inl (cA 0, 20, .inl va))]) (xw_runS (As := [.ref b, .long ((((xs (6 * t + 1)).toInt64) <<< ((32 : Int32).toInt64 &&& 63)) ||| (((xs (6 * t + 2)).toInt64) &&& 4294967295)), .long ((((xs (6 * t + 3)).toInt64) <<< ((32 : Int32).toInt64 &&& 63)) ||| (((xs (6 * t + 4)).toInt64) &&& 4294967295)), .int 1, .ref lk]) (rest := []) hx hb hml hown (l_c_divideLong h b (((xs (6 * t + 1)).toInt64 <<< ((32 : Int32).toInt64 &&& 63)) ||| ((xs (6 * t + 2)).toInt64 &&& 4294967295)) (((xs (6 * t + 3)).toInt64 <<< ((32 : Int32).toInt64 &&& 63)) ||| ((xs (6 * t + 4)).toInt64 &&& 4294967295)) 1 lk lf ro gr br wr ca _ hc) (k_512 h hb0) (k_0 h hb0) (k_510 h hb0) (k_511 h hb0) (by decide) rfl rfl rfl (by decide) (by decide) (xpMS (wr := [(b, .inr (5, [.ref ro, .ref gr, .ref br, .int wr, .int ca]))]) (wc := [(lk, .inl (cA 1, 1, .inr (.inl lf)))]) hb0 hS hz (va_P.sub hP [0] rfl) (va_P.sub hP [20] rfl) (va_D.sub (hwk _ hD) [0, 20] rfl rfl)) rfl rfl hl.1 rfl (lv_room (Nat.le_of_ble_eq_true rfl)) dL_law_1215 ⟨(by show _ ≤ 806833; omega), (by show _ ≤ 6675604; omega)⟩) hP hD hS hA [20] [0, 1, 2, 3, 4, 5, 6, 7, 8, 9, 10, 11, 12, 13, 14, 15, 16, 17, 18, 19] rfl rfl rfl (by decide) (fun r w1 H locs hΦ hP hD hS => ?_)
        obtain ⟨rfl, rfl⟩ := hΦ
        have hP : va_P (dC, dI) vwCl ([(b, .inr (5, [.ref ro, .ref gr, .ref br, .int wr, .int ca])), (ro, .inr (4, [.ref b0, .ref b1, .ref b2, .ref b3, .ref b4, .ref b5, .ref b6, .ref b7, .ref b8])), (b0, .inl (cA 0, 8, .inl n)), (b1, .inl (cA 0, 39, .inl (r0 g))), (b2, .inl (cA 1, 39, .inr (.inl (r1 g)))), (b3, .inl (cA 2, 39, .inl (r2 g))), (b4, .inl (cA 3, 39, .inl (r3 g))), (b5, .inl (cA 4, 39, .inl (r4 g))), (b6, .inl (cA 5, 39, .inl (r5 g))), (b7, .inl (cA 6, 39, .inr (.inr (.inl (r6 g))))), (b8, .inl (cA 7, 39, .inr (.inr (.inr (.inl (r7 g)))))), (gr, .inr (3, [.ref gc, .int gm, .int gh, .int gw])), (gc, .inl (cA 9, 8, .inr (.inr (.inr (.inr (fun i => some (ga i))))))), (br, .inr (1, [.ref pl, .int bm, .int bd, .int bc])), (pl, .inl (cA 8, 19, .inr (.inr (.inr (.inr pf))))), (mo, .inr (6, [.int th, .ref mr, .ref ml, .int wr, .int gm, .int gh, .int gw, .int bm, .int bd, .int bc, .int ca, .ref ms, .ref mv])), (mr, .inl (cA 1, 320, .inr (.inl f))), (ml, .inl (cA 0, 8, .inl n)), (ms, .inl (cA 0, 20, .inl so)), (mv, .inl (cA 0, 20, .inl va)), (lk, .inl (cA 1, 1, .inr (.inl (vp_updL lf 0 ((if 1 = 0 then (((xs (6 * t + 1)).toInt64 <<< ((32 : Int32).toInt64 &&& 63)) ||| ((xs (6 * t + 2)).toInt64 &&& 4294967295)) / (((xs (6 * t + 3)).toInt64 <<< ((32 : Int32).toInt64 &&& 63)) ||| ((xs (6 * t + 4)).toInt64 &&& 4294967295)) else (((xs (6 * t + 1)).toInt64 <<< ((32 : Int32).toInt64 &&& 63)) ||| ((xs (6 * t + 2)).toInt64 &&& 4294967295)) - (((xs (6 * t + 1)).toInt64 <<< ((32 : Int32).toInt64 &&& 63)) ||| ((xs (6 * t + 2)).toInt64 &&& 4294967295)) / (((xs (6 * t + 3)).toInt64 <<< ((32 : Int32).toInt64 &&& 63)) ||| ((xs (6 * t + 4)).toInt64 &&& 4294967295)) * (((xs (6 * t + 3)).toInt64 <<< ((32 : Int32).toInt64 &&& 63)) ||| ((xs (6 * t + 4)).toInt64 &&& 4294967295))))))))] ++ (rws (cA 0) ga (gmx 8 0) ++ va_pl LP bx)) H := hP
        have hD : va_D A ([(b, .inr (5, [.ref ro, .ref gr, .ref br, .int wr, .int ca])), (ro, .inr (4, [.ref b0, .ref b1, .ref b2, .ref b3, .ref b4, .ref b5, .ref b6, .ref b7, .ref b8])), (b0, .inl (cA 0, 8, .inl n)), (b1, .inl (cA 0, 39, .inl (r0 g))), (b2, .inl (cA 1, 39, .inr (.inl (r1 g)))), (b3, .inl (cA 2, 39, .inl (r2 g))), (b4, .inl (cA 3, 39, .inl (r3 g))), (b5, .inl (cA 4, 39, .inl (r4 g))), (b6, .inl (cA 5, 39, .inl (r5 g))), (b7, .inl (cA 6, 39, .inr (.inr (.inl (r6 g))))), (b8, .inl (cA 7, 39, .inr (.inr (.inr (.inl (r7 g)))))), (gr, .inr (3, [.ref gc, .int gm, .int gh, .int gw])), (gc, .inl (cA 9, 8, .inr (.inr (.inr (.inr (fun i => some (ga i))))))), (br, .inr (1, [.ref pl, .int bm, .int bd, .int bc])), (pl, .inl (cA 8, 19, .inr (.inr (.inr (.inr pf))))), (mo, .inr (6, [.int th, .ref mr, .ref ml, .int wr, .int gm, .int gh, .int gw, .int bm, .int bd, .int bc, .int ca, .ref ms, .ref mv])), (mr, .inl (cA 1, 320, .inr (.inl f))), (ml, .inl (cA 0, 8, .inl n)), (ms, .inl (cA 0, 20, .inl so)), (mv, .inl (cA 0, 20, .inl va)), (lk, .inl (cA 1, 1, .inr (.inl (vp_updL lf 0 ((if 1 = 0 then (((xs (6 * t + 1)).toInt64 <<< ((32 : Int32).toInt64 &&& 63)) ||| ((xs (6 * t + 2)).toInt64 &&& 4294967295)) / (((xs (6 * t + 3)).toInt64 <<< ((32 : Int32).toInt64 &&& 63)) ||| ((xs (6 * t + 4)).toInt64 &&& 4294967295)) else (((xs (6 * t + 1)).toInt64 <<< ((32 : Int32).toInt64 &&& 63)) ||| ((xs (6 * t + 2)).toInt64 &&& 4294967295)) - (((xs (6 * t + 1)).toInt64 <<< ((32 : Int32).toInt64 &&& 63)) ||| ((xs (6 * t + 2)).toInt64 &&& 4294967295)) / (((xs (6 * t + 3)).toInt64 <<< ((32 : Int32).toInt64 &&& 63)) ||| ((xs (6 * t + 4)).toInt64 &&& 4294967295)) * (((xs (6 * t + 3)).toInt64 <<< ((32 : Int32).toInt64 &&& 63)) ||| ((xs (6 * t + 4)).toInt64 &&& 4294967295))))))))] ++ (rws (cA 0) ga (gmx 8 0) ++ va_pl LP bx)) := hD
        refine lv_istore (lv' := [(5, .int 0), (4, .int (nI (6 * t))), (3, .ref lk), (2, .ref mo), (1, .ref b), (0, .ref sb)]) hx hb dL_law_1218 hl (by decide) rfl (fun ls hl => ?_)
        refine lv_aload_n hx hb dL_law_1220 rfl (lv_at hl 3 rfl) ?_
        refine lv_aload_n hx hb dL_law_1221 rfl (lv_at hl 5 rfl) ?_
        refine lv_iload hx hb dL_law_1222 (lv_at hl 1 rfl) ?_
        refine lv_iconst (v := 1) hx hb dL_law_1224 (by decide) ?_
        refine lv_iadd hx hb dL_law_1225 ?_
        rw [show nI (6 * t) + 1 = nI (6 * t + 1) from nI_add _ 1]
        refine va_sld hx hb hX hbl hbA hS (vp_in_nI (show 6 * t + 1 < L by omega) (by omega)) dL_law_1226 ?_
        rw [nI_clamp (show 6 * t + 1 < 2 ^ 31 by omega)]
        refine lv_i2l hx hb dL_law_1227 rfl ?_
        refine lv_bipush (v := 32) hx hb dL_law_1228 (by decide) ?_
        refine lv_lshl hx hb dL_law_1230 rfl ?_
        refine lv_aload_n hx hb dL_law_1231 rfl (lv_at hl 5 rfl) ?_
        refine lv_iload hx hb dL_law_1232 (lv_at hl 1 rfl) ?_
        refine lv_iconst (v := 2) hx hb dL_law_1234 (by decide) ?_
        refine lv_iadd hx hb dL_law_1235 ?_
        rw [show nI (6 * t) + 2 = nI (6 * t + 2) from nI_add _ 2]
        refine va_sld hx hb hX hbl hbA hS (vp_in_nI (show 6 * t + 2 < L by omega) (by omega)) dL_law_1236 ?_
        rw [nI_clamp (show 6 * t + 2 < 2 ^ 31 by omega)]
        refine lv_i2l hx hb dL_law_1237 rfl ?_
        refine lv_ldc2 hx hb hown (k_653 h hb0) dL_law_1238 ?_
        refine lv_land hx hb dL_law_1241 ?_
        refine lv_lor hx hb dL_law_1242 ?_
        refine lv_aload_n hx hb dL_law_1243 rfl (lv_at hl 5 rfl) ?_
        refine lv_iload hx hb dL_law_1244 (lv_at hl 1 rfl) ?_
        refine lv_iconst (v := 3) hx hb dL_law_1246 (by decide) ?_
        refine lv_iadd hx hb dL_law_1247 ?_
        rw [show nI (6 * t) + 3 = nI (6 * t + 3) from nI_add _ 3]
        refine va_sld hx hb hX hbl hbA hS (vp_in_nI (show 6 * t + 3 < L by omega) (by omega)) dL_law_1248 ?_
        rw [nI_clamp (show 6 * t + 3 < 2 ^ 31 by omega)]
        refine lv_i2l hx hb dL_law_1249 rfl ?_
        refine lv_bipush (v := 32) hx hb dL_law_1250 (by decide) ?_
        refine lv_lshl hx hb dL_law_1252 rfl ?_
        refine lv_aload_n hx hb dL_law_1253 rfl (lv_at hl 5 rfl) ?_
        refine lv_iload hx hb dL_law_1254 (lv_at hl 1 rfl) ?_
        refine lv_iconst (v := 4) hx hb dL_law_1256 (by decide) ?_
        refine lv_iadd hx hb dL_law_1257 ?_
        rw [show nI (6 * t) + 4 = nI (6 * t + 4) from nI_add _ 4]
        refine va_sld hx hb hX hbl hbA hS (vp_in_nI (show 6 * t + 4 < L by omega) (by omega)) dL_law_1258 ?_
        rw [nI_clamp (show 6 * t + 4 < 2 ^ 31 by omega)]
        refine lv_i2l hx hb dL_law_1259 rfl ?_
        refine lv_ldc2 hx hb hown (k_653 h hb0) dL_law_1260 ?_
        refine lv_land hx hb dL_law_1263 ?_
        refine lv_lor hx hb dL_law_1264 ?_
        refine lv_aload_n hx hb dL_law_1265 rfl (lv_at hl 5 rfl) ?_
        refine lv_iload hx hb dL_law_1266 (lv_at hl 1 rfl) ?_
        refine lv_iconst (v := 5) hx hb dL_law_1268 (by decide) ?_
        refine lv_iadd hx hb dL_law_1269 ?_
        rw [show nI (6 * t) + 5 = nI (6 * t + 5) from nI_add _ 5]
        refine va_sld hx hb hX hbl hbA hS (vp_in_nI (show 6 * t + 5 < L by omega) (by omega)) dL_law_1270 ?_
        rw [nI_clamp (show 6 * t + 5 < 2 ^ 31 by omega)]
        refine lv_if_eq (tgt := 1278) hx hb dL_law_1271 (by decide) (fun c_102 => ?_) (fun c_102 => ?_)
        · exact absurd c_102 z5
        · refine lv_iconst (v := 1) hx hb dL_law_1274 (by decide) ?_
          refine lv_goto (tgt := 1279) hx hb dL_law_1275 (by decide) ?_
          refine xm_ofQ (X9 := [(b, .inr (5, [.ref ro, .ref gr, .ref br, .int wr, .int ca])), (ro, .inr (4, [.ref b0, .ref b1, .ref b2, .ref b3, .ref b4, .ref b5, .ref b6, .ref b7, .ref b8])), (b0, .inl (cA 0, 8, .inl n)), (b1, .inl (cA 0, 39, .inl (r0 g))), (b2, .inl (cA 1, 39, .inr (.inl (r1 g)))), (b3, .inl (cA 2, 39, .inl (r2 g))), (b4, .inl (cA 3, 39, .inl (r3 g))), (b5, .inl (cA 4, 39, .inl (r4 g))), (b6, .inl (cA 5, 39, .inl (r5 g))), (b7, .inl (cA 6, 39, .inr (.inr (.inl (r6 g))))), (b8, .inl (cA 7, 39, .inr (.inr (.inr (.inl (r7 g)))))), (gr, .inr (3, [.ref gc, .int gm, .int gh, .int gw])), (gc, .inl (cA 9, 8, .inr (.inr (.inr (.inr (fun i => some (ga i))))))), (br, .inr (1, [.ref pl, .int bm, .int bd, .int bc])), (pl, .inl (cA 8, 19, .inr (.inr (.inr (.inr pf))))), (mo, .inr (6, [.int th, .ref mr, .ref ml, .int wr, .int gm, .int gh, .int gw, .int bm, .int bd, .int bc, .int ca, .ref ms, .ref mv])), (mr, .inl (cA 1, 320, .inr (.inl f))), (ml, .inl (cA 0, 8, .inl n)), (ms, .inl (cA 0, 20, .inl so)), (mv, .inl (cA 0, 20, .inl va)), (lk, .inl (cA 1, 1, .inr (.inl (vp_updL lf 0 ((if 1 = 0 then (((xs (6 * t + 1)).toInt64 <<< ((32 : Int32).toInt64 &&& 63)) ||| ((xs (6 * t + 2)).toInt64 &&& 4294967295)) / (((xs (6 * t + 3)).toInt64 <<< ((32 : Int32).toInt64 &&& 63)) ||| ((xs (6 * t + 4)).toInt64 &&& 4294967295)) else (((xs (6 * t + 1)).toInt64 <<< ((32 : Int32).toInt64 &&& 63)) ||| ((xs (6 * t + 2)).toInt64 &&& 4294967295)) - (((xs (6 * t + 1)).toInt64 <<< ((32 : Int32).toInt64 &&& 63)) ||| ((xs (6 * t + 2)).toInt64 &&& 4294967295)) / (((xs (6 * t + 3)).toInt64 <<< ((32 : Int32).toInt64 &&& 63)) ||| ((xs (6 * t + 4)).toInt64 &&& 4294967295)) * (((xs (6 * t + 3)).toInt64 <<< ((32 : Int32).toInt64 &&& 63)) ||| ((xs (6 * t + 4)).toInt64 &&& 4294967295))))))))]) (pl := (rws (cA 0) ga (gmx 8 0) ++ va_pl LP bx)) (wc := [(mo, .inr (6, [.int th, .ref mr, .ref ml, .int wr, .int gm, .int gh, .int gw, .int bm, .int bd, .int bc, .int ca, .ref ms, .ref mv]))]) (wo := [(b, .inr (5, [.ref ro, .ref gr, .ref br, .int wr, .int ca])), (ro, .inr (4, [.ref b0, .ref b1, .ref b2, .ref b3, .ref b4, .ref b5, .ref b6, .ref b7, .ref b8])), (b0, .inl (cA 0, 8, .inl n)), (b1, .inl (cA 0, 39, .inl (r0 g))), (b2, .inl (cA 1, 39, .inr (.inl (r1 g)))), (b3, .inl (cA 2, 39, .inl (r2 g))), (b4, .inl (cA 3, 39, .inl (r3 g))), (b5, .inl (cA 4, 39, .inl (r4 g))), (b6, .inl (cA 5, 39, .inl (r5 g))), (b7, .inl (cA 6, 39, .inr (.inr (.inl (r6 g))))), (b8, .inl (cA 7, 39, .inr (.inr (.inr (.inl (r7 g)))))), (gr, .inr (3, [.ref gc, .int gm, .int gh, .int gw])), (gc, .inl (cA 9, 8, .inr (.inr (.inr (.inr (fun i => some (ga i))))))), (br, .inr (1, [.ref pl, .int bm, .int bd, .int bc])), (pl, .inl (cA 8, 19, .inr (.inr (.inr (.inr pf))))), (mr, .inl (cA 1, 320, .inr (.inl f))), (ml, .inl (cA 0, 8, .inl n)), (ms, .inl (cA 0, 20, .inl so)), (mv, .inl (cA 0, 20, .inl va)), (lk, .inl (cA 1, 1, .inr (.inl (vp_updL lf 0 ((if 1 = 0 then (((xs (6 * t + 1)).toInt64 <<< ((32 : Int32).toInt64 &&& 63)) ||| ((xs (6 * t + 2)).toInt64 &&& 4294967295)) / (((xs (6 * t + 3)).toInt64 <<< ((32 : Int32).toInt64 &&& 63)) ||| ((xs (6 * t + 4)).toInt64 &&& 4294967295)) else (((xs (6 * t + 1)).toInt64 <<< ((32 : Int32).toInt64 &&& 63)) ||| ((xs (6 * t + 2)).toInt64 &&& 4294967295)) - (((xs (6 * t + 1)).toInt64 <<< ((32 : Int32).toInt64 &&& 63)) ||| ((xs (6 * t + 2)).toInt64 &&& 4294967295)) / (((xs (6 * t + 3)).toInt64 <<< ((32 : Int32).toInt64 &&& 63)) ||| ((xs (6 * t + 4)).toInt64 &&& 4294967295)) * (((xs (6 * t + 3)).toInt64 <<< ((32 : Int32).toInt64 &&& 63)) ||| ((xs (6 * t + 4)).toInt64 &&& 4294967295))))))))]) (va_runV (As := [.long ((((xs (6 * t + 1)).toInt64) <<< ((32 : Int32).toInt64 &&& 63)) ||| (((xs (6 * t + 2)).toInt64) &&& 4294967295)), .long ((((xs (6 * t + 3)).toInt64) <<< ((32 : Int32).toInt64 &&& 63)) ||| (((xs (6 * t + 4)).toInt64) &&& 4294967295)), .int 1]) (rest := []) ⟨hx, hb, hml, hown, xTs⟩ (m_divideLong_c h mo mr ml ms mv th wr gm gh gw bm bd bc ca (((xs (6 * t + 1)).toInt64 <<< ((32 : Int32).toInt64 &&& 63)) ||| ((xs (6 * t + 2)).toInt64 &&& 4294967295)) (((xs (6 * t + 3)).toInt64 <<< ((32 : Int32).toInt64 &&& 63)) ||| ((xs (6 * t + 4)).toInt64 &&& 4294967295)) 1 _ hc) ⟨xB (n := 3) (k_648 h hb0) (k_5 h hb0) (k_645 h hb0) (by decide) rfl rfl rfl (by decide) (by decide), (k_646 h hb0), (k_647 h hb0)⟩ (xpMV (wr := []) (wc := [(mo, .inr (6, [.int th, .ref mr, .ref ml, .int wr, .int gm, .int gh, .int gw, .int bm, .int bd, .int bc, .int ca, .ref ms, .ref mv]))]) hb0 hS hz (va_P.sub hP [] rfl) (va_P.sub hP [15] rfl) (va_D.sub (hwk _ hD) [15] rfl rfl) (va_recv hK hP (ci := 6) (q0 := 15) rfl rfl)) rfl rfl hl.1 rfl (lv_room (Nat.le_of_ble_eq_true rfl)) dL_law_1279 ⟨(by show _ ≤ 806833; omega), (by show _ ≤ 6675604; omega)⟩) hP hD hS hA [15] [0, 1, 2, 3, 4, 5, 6, 7, 8, 9, 10, 11, 12, 13, 14, 16, 17, 18, 19, 20] rfl rfl rfl (by decide) (fun r w1 H locs hΦ hP hD hS => ?_)
          obtain ⟨rfl, rfl⟩ := hΦ
          have hP : va_P (dC, dI) vwCl ([(b, .inr (5, [.ref ro, .ref gr, .ref br, .int wr, .int ca])), (ro, .inr (4, [.ref b0, .ref b1, .ref b2, .ref b3, .ref b4, .ref b5, .ref b6, .ref b7, .ref b8])), (b0, .inl (cA 0, 8, .inl n)), (b1, .inl (cA 0, 39, .inl (r0 g))), (b2, .inl (cA 1, 39, .inr (.inl (r1 g)))), (b3, .inl (cA 2, 39, .inl (r2 g))), (b4, .inl (cA 3, 39, .inl (r3 g))), (b5, .inl (cA 4, 39, .inl (r4 g))), (b6, .inl (cA 5, 39, .inl (r5 g))), (b7, .inl (cA 6, 39, .inr (.inr (.inl (r6 g))))), (b8, .inl (cA 7, 39, .inr (.inr (.inr (.inl (r7 g)))))), (gr, .inr (3, [.ref gc, .int gm, .int gh, .int gw])), (gc, .inl (cA 9, 8, .inr (.inr (.inr (.inr (fun i => some (ga i))))))), (br, .inr (1, [.ref pl, .int bm, .int bd, .int bc])), (pl, .inl (cA 8, 19, .inr (.inr (.inr (.inr pf))))), (mr, .inl (cA 1, 320, .inr (.inl f))), (ml, .inl (cA 0, 8, .inl n)), (ms, .inl (cA 0, 20, .inl so)), (mv, .inl (cA 0, 20, .inl va)), (lk, .inl (cA 1, 1, .inr (.inl (vp_updL lf 0 ((if 1 = 0 then (((xs (6 * t + 1)).toInt64 <<< ((32 : Int32).toInt64 &&& 63)) ||| ((xs (6 * t + 2)).toInt64 &&& 4294967295)) / (((xs (6 * t + 3)).toInt64 <<< ((32 : Int32).toInt64 &&& 63)) ||| ((xs (6 * t + 4)).toInt64 &&& 4294967295)) else (((xs (6 * t + 1)).toInt64 <<< ((32 : Int32).toInt64 &&& 63)) ||| ((xs (6 * t + 2)).toInt64 &&& 4294967295)) - (((xs (6 * t + 1)).toInt64 <<< ((32 : Int32).toInt64 &&& 63)) ||| ((xs (6 * t + 2)).toInt64 &&& 4294967295)) / (((xs (6 * t + 3)).toInt64 <<< ((32 : Int32).toInt64 &&& 63)) ||| ((xs (6 * t + 4)).toInt64 &&& 4294967295)) * (((xs (6 * t + 3)).toInt64 <<< ((32 : Int32).toInt64 &&& 63)) ||| ((xs (6 * t + 4)).toInt64 &&& 4294967295)))))))), (mo, .inr (6, [.int 0, .ref mr, .ref ml, .int wr, .int gm, .int gh, .int gw, .int bm, .int bd, .int bc, .int ca, .ref ms, .ref mv]))] ++ (rws (cA 0) ga (gmx 8 0) ++ va_pl LP bx)) H := hP
          have hD : va_D A ([(b, .inr (5, [.ref ro, .ref gr, .ref br, .int wr, .int ca])), (ro, .inr (4, [.ref b0, .ref b1, .ref b2, .ref b3, .ref b4, .ref b5, .ref b6, .ref b7, .ref b8])), (b0, .inl (cA 0, 8, .inl n)), (b1, .inl (cA 0, 39, .inl (r0 g))), (b2, .inl (cA 1, 39, .inr (.inl (r1 g)))), (b3, .inl (cA 2, 39, .inl (r2 g))), (b4, .inl (cA 3, 39, .inl (r3 g))), (b5, .inl (cA 4, 39, .inl (r4 g))), (b6, .inl (cA 5, 39, .inl (r5 g))), (b7, .inl (cA 6, 39, .inr (.inr (.inl (r6 g))))), (b8, .inl (cA 7, 39, .inr (.inr (.inr (.inl (r7 g)))))), (gr, .inr (3, [.ref gc, .int gm, .int gh, .int gw])), (gc, .inl (cA 9, 8, .inr (.inr (.inr (.inr (fun i => some (ga i))))))), (br, .inr (1, [.ref pl, .int bm, .int bd, .int bc])), (pl, .inl (cA 8, 19, .inr (.inr (.inr (.inr pf))))), (mr, .inl (cA 1, 320, .inr (.inl f))), (ml, .inl (cA 0, 8, .inl n)), (ms, .inl (cA 0, 20, .inl so)), (mv, .inl (cA 0, 20, .inl va)), (lk, .inl (cA 1, 1, .inr (.inl (vp_updL lf 0 ((if 1 = 0 then (((xs (6 * t + 1)).toInt64 <<< ((32 : Int32).toInt64 &&& 63)) ||| ((xs (6 * t + 2)).toInt64 &&& 4294967295)) / (((xs (6 * t + 3)).toInt64 <<< ((32 : Int32).toInt64 &&& 63)) ||| ((xs (6 * t + 4)).toInt64 &&& 4294967295)) else (((xs (6 * t + 1)).toInt64 <<< ((32 : Int32).toInt64 &&& 63)) ||| ((xs (6 * t + 2)).toInt64 &&& 4294967295)) - (((xs (6 * t + 1)).toInt64 <<< ((32 : Int32).toInt64 &&& 63)) ||| ((xs (6 * t + 2)).toInt64 &&& 4294967295)) / (((xs (6 * t + 3)).toInt64 <<< ((32 : Int32).toInt64 &&& 63)) ||| ((xs (6 * t + 4)).toInt64 &&& 4294967295)) * (((xs (6 * t + 3)).toInt64 <<< ((32 : Int32).toInt64 &&& 63)) ||| ((xs (6 * t + 4)).toInt64 &&& 4294967295)))))))), (mo, .inr (6, [.int 0, .ref mr, .ref ml, .int wr, .int gm, .int gh, .int gw, .int bm, .int bd, .int bc, .int ca, .ref ms, .ref mv]))] ++ (rws (cA 0) ga (gmx 8 0) ++ va_pl LP bx)) := hD
          refine lv_lstore (lv' := [(6, .long (if 1 = 0 then (((xs (6 * t + 1)).toInt64 <<< ((32 : Int32).toInt64 &&& 63)) ||| ((xs (6 * t + 2)).toInt64 &&& 4294967295)) / (((xs (6 * t + 3)).toInt64 <<< ((32 : Int32).toInt64 &&& 63)) ||| ((xs (6 * t + 4)).toInt64 &&& 4294967295)) else (((xs (6 * t + 1)).toInt64 <<< ((32 : Int32).toInt64 &&& 63)) ||| ((xs (6 * t + 2)).toInt64 &&& 4294967295)) - (((xs (6 * t + 1)).toInt64 <<< ((32 : Int32).toInt64 &&& 63)) ||| ((xs (6 * t + 2)).toInt64 &&& 4294967295)) / (((xs (6 * t + 3)).toInt64 <<< ((32 : Int32).toInt64 &&& 63)) ||| ((xs (6 * t + 4)).toInt64 &&& 4294967295)) * (((xs (6 * t + 3)).toInt64 <<< ((32 : Int32).toInt64 &&& 63)) ||| ((xs (6 * t + 4)).toInt64 &&& 4294967295)))), (5, .int 0), (4, .int (nI (6 * t))), (3, .ref lk), (2, .ref mo), (1, .ref b), (0, .ref sb)]) hx hb dL_law_1282 hl (by decide) rfl (fun ls hl => ?_)
          refine lv_aload_n hx hb dL_law_1284 rfl (lv_at hl 4 rfl) ?_
          refine xr_1 (va_runV (As := []) (rest := []) ⟨hx, hb, hml, hown, xTs⟩ (c_thrown h mo mr ml ms mv 0 wr gm gh gw bm bd bc ca) ⟨xB (n := 0) (k_574 h hb0) (k_5 h hb0) (k_571 h hb0) (by decide) rfl rfl rfl (by decide) (by decide), (k_572 h hb0), (k_573 h hb0)⟩ (xpV hb0 hS hz (va_P.sub hP [20] rfl) (va_recv hK hP (ci := 6) (q0 := 20) rfl rfl)) rfl rfl hl.1 rfl (lv_room (Nat.le_of_ble_eq_true rfl)) dL_law_1285 ⟨(by show _ ≤ 806833; omega), (by show _ ≤ 6675604; omega)⟩) ?_
          refine lv_iload hx hb dL_law_1288 (lv_at hl 1 rfl) ?_
          refine lv_icmp_eq (tgt := 1295) hx hb dL_law_1290 (by decide) (fun c_103 => ?_) (fun c_103 => ?_)
          · refine lv_iload hx hb dL_law_1295 (lv_at hl 1 rfl) ?_
            refine lv_if_ne (tgt := 1311) hx hb dL_law_1297 (by decide) (fun c_104 => ?_) (fun c_104 => ?_)
            · exact absurd rfl c_104
            · refine lv_aload_n hx hb dL_law_1300 rfl (lv_at hl 3 rfl) ?_
              refine lv_iconst (v := 0) hx hb dL_law_1301 (by decide) ?_
              refine va_lald hx hb hK hP 19 1 rfl rfl xin0 dL_law_1302 ?_
              refine lv_topl (fun y ey => ?_)
              refine lv_lload hx hb dL_law_1303 (lv_at hl 0 rfl) ?_
              refine xlcmp hx hb dL_law_1305 (fun v hv => ?_)
              refine lv_if_eq (tgt := 1311) hx hb dL_law_1306 (by decide) (fun c_105 => ?_) (fun c_105 => ?_)
              · refine lv_goto (tgt := 1386) hx hb dL_law_1311 (by decide) ?_
                refine W.widen (k := 40 + 3 * t + 3) (n := 900 + 20 * t + 20) (by omega) (by omega) ?_
                exact kk ls H locs ⟨b, ro, b0, b1, b2, b3, b4, b5, b6, b7, b8, gr, gc, br, pl, mo, mr, ml, ms, mv, lk, ga, n, g, f, so, va, wr, ca, gm, gh, gw, bm, bd, bc, 0, pf, LP, bx, (vp_updL lf 0 ((if 1 = 0 then (((xs (6 * t + 1)).toInt64 <<< ((32 : Int32).toInt64 &&& 63)) ||| ((xs (6 * t + 2)).toInt64 &&& 4294967295)) / (((xs (6 * t + 3)).toInt64 <<< ((32 : Int32).toInt64 &&& 63)) ||| ((xs (6 * t + 4)).toInt64 &&& 4294967295)) else (((xs (6 * t + 1)).toInt64 <<< ((32 : Int32).toInt64 &&& 63)) ||| ((xs (6 * t + 2)).toInt64 &&& 4294967295)) - (((xs (6 * t + 1)).toInt64 <<< ((32 : Int32).toInt64 &&& 63)) ||| ((xs (6 * t + 2)).toInt64 &&& 4294967295)) / (((xs (6 * t + 3)).toInt64 <<< ((32 : Int32).toInt64 &&& 63)) ||| ((xs (6 * t + 4)).toInt64 &&& 4294967295)) * (((xs (6 * t + 3)).toInt64 <<< ((32 : Int32).toInt64 &&& 63)) ||| ((xs (6 * t + 4)).toInt64 &&& 4294967295))))), lv_sub hl [2, 3, 4, 5, 6] rfl, va_P.part hP [0, 1, 2, 3, 4, 5, 6, 7, 8, 9, 10, 11, 12, 13, 14, 20, 15, 16, 17, 18, 19] rfl, va_D.part hD [0, 1, 2, 3, 4, 5, 6, 7, 8, 9, 10, 11, 12, 13, 14, 20, 15, 16, 17, 18, 19] rfl rfl, hS, ⟨hR, hgm, ⟨GH, hGH, hgh⟩, ⟨GW, hGW, hgw⟩, hbm, BC, hBC, hbc, hB⟩⟩
              · exact absurd (hv.mpr (ey.trans (pk_uLs.trans rfl))) c_105
          · exact absurd rfl c_103
