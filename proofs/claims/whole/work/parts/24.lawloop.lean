set_option maxHeartbeats 40000000 in
set_option maxRecDepth 100000 in
theorem law_loop {p : Program} {l : Launch} (hst : l.stackTraces = false) {e : Env} {s : State} {m : MethodId} {below : List Frame} {meth : Method} {c0v : Code} {G : wG} {b L : Nat} {xs : Nat → Int32} (hL : L ≤ 2048) (C0 : lw_At p s m meth c0v b L xs) (hK : wK G s) (hT : wT (fun q : Nat => s.heap.size ≤ q) s s.heap) (c0 l0 l1 l2 l3 m0 m1 m2 m3 m4 m5 r0 r1 r2 r3 g0 d0 d1 d2 d3 d4 d5 d6 d7 d8 d9 d10 d11 d12 o1 : Nat) (N : Nat) :
    ∀ (n i : Nat), i ≤ L → ∀ (c : CS) (d : DS) (o : Nat → Int64), lawOK N L xs n i c d o → ∀ (H : Heap) (locs : List Loc) (ls : Array Slot), va_P G.1 vwCl (w_W G c0 l0 l1 l2 l3 m0 m1 m2 m3 m4 m5 r0 r1 r2 r3 g0 d0 d1 d2 d3 d4 d5 d6 d7 d8 d9 d10 d11 d12 o1 c.1 c.2.1 c.2.2.1 c.2.2.2.1 c.2.2.2.2.1 c.2.2.2.2.2.1 c.2.2.2.2.2.2.1 c.2.2.2.2.2.2.2.1 c.2.2.2.2.2.2.2.2.1 c.2.2.2.2.2.2.2.2.2.1 c.2.2.2.2.2.2.2.2.2.2.1 c.2.2.2.2.2.2.2.2.2.2.2.1 c.2.2.2.2.2.2.2.2.2.2.2.2.1 c.2.2.2.2.2.2.2.2.2.2.2.2.2.1 c.2.2.2.2.2.2.2.2.2.2.2.2.2.2 d.1 d.2.1 d.2.2.1 d.2.2.2.1 d.2.2.2.2.1 d.2.2.2.2.2.1 d.2.2.2.2.2.2.1 d.2.2.2.2.2.2.2.1 d.2.2.2.2.2.2.2.2.1 d.2.2.2.2.2.2.2.2.2.1 d.2.2.2.2.2.2.2.2.2.2.1 d.2.2.2.2.2.2.2.2.2.2.2.1 d.2.2.2.2.2.2.2.2.2.2.2.2.1 d.2.2.2.2.2.2.2.2.2.2.2.2.2.1 d.2.2.2.2.2.2.2.2.2.2.2.2.2.2.1 d.2.2.2.2.2.2.2.2.2.2.2.2.2.2.2.1 d.2.2.2.2.2.2.2.2.2.2.2.2.2.2.2.2.1 d.2.2.2.2.2.2.2.2.2.2.2.2.2.2.2.2.2.1 d.2.2.2.2.2.2.2.2.2.2.2.2.2.2.2.2.2.2 o) H → va_D (fun q : Nat => s.heap.size ≤ q) (w_W G c0 l0 l1 l2 l3 m0 m1 m2 m3 m4 m5 r0 r1 r2 r3 g0 d0 d1 d2 d3 d4 d5 d6 d7 d8 d9 d10 d11 d12 o1 c.1 c.2.1 c.2.2.1 c.2.2.2.1 c.2.2.2.2.1 c.2.2.2.2.2.1 c.2.2.2.2.2.2.1 c.2.2.2.2.2.2.2.1 c.2.2.2.2.2.2.2.2.1 c.2.2.2.2.2.2.2.2.2.1 c.2.2.2.2.2.2.2.2.2.2.1 c.2.2.2.2.2.2.2.2.2.2.2.1 c.2.2.2.2.2.2.2.2.2.2.2.2.1 c.2.2.2.2.2.2.2.2.2.2.2.2.2.1 c.2.2.2.2.2.2.2.2.2.2.2.2.2.2 d.1 d.2.1 d.2.2.1 d.2.2.2.1 d.2.2.2.2.1 d.2.2.2.2.2.1 d.2.2.2.2.2.2.1 d.2.2.2.2.2.2.2.1 d.2.2.2.2.2.2.2.2.1 d.2.2.2.2.2.2.2.2.2.1 d.2.2.2.2.2.2.2.2.2.2.1 d.2.2.2.2.2.2.2.2.2.2.2.1 d.2.2.2.2.2.2.2.2.2.2.2.2.1 d.2.2.2.2.2.2.2.2.2.2.2.2.2.1 d.2.2.2.2.2.2.2.2.2.2.2.2.2.2.1 d.2.2.2.2.2.2.2.2.2.2.2.2.2.2.2.1 d.2.2.2.2.2.2.2.2.2.2.2.2.2.2.2.2.1 d.2.2.2.2.2.2.2.2.2.2.2.2.2.2.2.2.2.1 d.2.2.2.2.2.2.2.2.2.2.2.2.2.2.2.2.2.2 o) → va_S (fun q : Nat => s.heap.size ≤ q) s.heap H locs → lv_has ls 7 [(0, .ref b), (1, .ref c0), (2, .ref d0), (3, .ref o1), (4, .int (nI i))] → W p l e room_1 s m #[Value.ref b] below meth c0v H locs (30 + i) (2517 + 6 * i) (lw_Z below #[Value.ref b] s) (F0 m 23 ls []) := by
  have C0x := C0
  obtain ⟨hx, hb, hr, hml, hown0, hts0, hX, hbl, hlocks, hgv⟩ := C0
  have hown : s.vm.findClass RL = some m.cls := hown0
  have hts : ∀ w ∈ wsL_law, w.before #[Value.ref b] s = true := fun w h => hts0 w (wsL_law_in w h)
  have hA : ∀ q : Nat, s.heap.size ≤ q → (fun q : Nat => s.heap.size ≤ q) q := fun _ h => h
  have hbA : ¬ (fun q : Nat => s.heap.size ≤ q) b := Nat.not_le.mpr hbl
  intro n
  induction n with
  | zero =>
    intro i hi c d o h
    exact h.elim
  | succ n ih =>
    intro i hi c d o h H locs ls hP hD hS hl
    refine lv_iload hx hb dL_law_23 (lv_at hl 4 rfl) ?_
    refine lv_aload_n hx hb dL_law_25 rfl (lv_at hl 0 rfl) ?_
    refine va_slen hx hb hX hbl hbA hS dL_law_26 ?_
    refine lv_iconst (v := 4) hx hb dL_law_27 (by decide) ?_
    refine lv_isub hx hb dL_law_28 ?_
    have hcmp : nI L - 4 < nI i ↔ ¬ i + 4 ≤ L := by
      have e1 : (nI L - nI 4).toInt = (L : Int) - 4 := pk_sub_toInt (by omega) (by omega)
      have e2 : (nI i).toInt = (i : Int) := nI_toInt (by omega)
      have e3 : (nI L - 4) = nI L - nI 4 := rfl
      rw [e3, Int32.lt_iff_toInt_lt, e1, e2]
      omega
    refine lv_icmp_gt (tgt := 1413) hx hb dL_law_29 (by decide) (fun c_1 => ?_) (fun c_1 => ?_)
    · refine va_forget (fun q hq => hS.2.2 q hq) ?_
      refine lv_iconst (v := 1) hx hb dL_law_1413 (by decide) ?_
      refine W.widen (k := 601024) (n := 7293033) (by omega) (by omega) ?_
      exact lw_ret hx hb hr hlocks dL_law_1414
    · have hi4 : i + 4 ≤ L := by
        rcases Nat.lt_or_ge L (i + 4) with q | q
        · exact absurd (hcmp.mpr (by omega)) c_1
        · exact q
      have h := ipP hi4 h
      have hv0 : vp_in (nI i) L := vp_in_nI (by omega) (by omega)
      have he0 : (nI i).toNatClampNeg = i := nI_clamp (by omega)
      have hv1 : vp_in (nI i + 1) L := by rw [show nI i + 1 = nI (i + 1) from nI_add i 1]; exact vp_in_nI (by omega) (by omega)
      have he1 : (nI i + 1).toNatClampNeg = i + 1 := by rw [show nI i + 1 = nI (i + 1) from nI_add i 1]; exact nI_clamp (by omega)
      have hv2 : vp_in (nI i + 2) L := by rw [show nI i + 2 = nI (i + 2) from nI_add i 2]; exact vp_in_nI (by omega) (by omega)
      have he2 : (nI i + 2).toNatClampNeg = i + 2 := by rw [show nI i + 2 = nI (i + 2) from nI_add i 2]; exact nI_clamp (by omega)
      have hv3 : vp_in (nI i + 3) L := by rw [show nI i + 3 = nI (i + 3) from nI_add i 3]; exact vp_in_nI (by omega) (by omega)
      have he3 : (nI i + 3).toNatClampNeg = i + 3 := by rw [show nI i + 3 = nI (i + 3) from nI_add i 3]; exact nI_clamp (by omega)
      refine lv_aload_n hx hb dL_law_32 rfl (lv_at hl 0 rfl) ?_
      refine lv_iload hx hb dL_law_33 (lv_at hl 4 rfl) ?_
      refine va_sld hx hb hX hbl hbA hS hv0 dL_law_35 ?_
      rw [he0]
      refine lv_bipush (v := 31) hx hb dL_law_36 (by decide) ?_
      refine lv_iand hx hb dL_law_38 ?_
      unfold lawStep at h
      by_cases z0 : xs i &&& 31 = 0
      · have h := ipP z0 h
        refine lv_tableIn (tgt := 152) hx hb dL_law_39 (by rw [z0]; decide) (by rw [z0]; decide) (by rw [z0]; rfl) (by decide) ?_
        exact law_case_0 hst hL C0x hK hT c0 l0 l1 l2 l3 m0 m1 m2 m3 m4 m5 r0 r1 r2 r3 g0 d0 d1 d2 d3 d4 d5 d6 d7 d8 d9 d10 d11 d12 o1 N n i hi4 ih c d o h H locs ls hP hD hS hl
      have h := iqP z0 h
      by_cases z1 : xs i &&& 31 = 1
      · have h := ipP z1 h
        refine lv_tableIn (tgt := 232) hx hb dL_law_39 (by rw [z1]; decide) (by rw [z1]; decide) (by rw [z1]; rfl) (by decide) ?_
        exact law_case_1 hst hL C0x hK hT c0 l0 l1 l2 l3 m0 m1 m2 m3 m4 m5 r0 r1 r2 r3 g0 d0 d1 d2 d3 d4 d5 d6 d7 d8 d9 d10 d11 d12 o1 N n i hi4 ih c d o h H locs ls hP hD hS hl
      have h := iqP z1 h
      by_cases z2 : xs i &&& 31 = 2
      · have h := ipP z2 h
        refine lv_tableIn (tgt := 288) hx hb dL_law_39 (by rw [z2]; decide) (by rw [z2]; decide) (by rw [z2]; rfl) (by decide) ?_
        exact law_case_2 hst hL C0x hK hT c0 l0 l1 l2 l3 m0 m1 m2 m3 m4 m5 r0 r1 r2 r3 g0 d0 d1 d2 d3 d4 d5 d6 d7 d8 d9 d10 d11 d12 o1 N n i hi4 ih c d o h H locs ls hP hD hS hl
      have h := iqP z2 h
      by_cases z3 : xs i &&& 31 = 3
      · have h := ipP z3 h
        refine lv_tableIn (tgt := 301) hx hb dL_law_39 (by rw [z3]; decide) (by rw [z3]; decide) (by rw [z3]; rfl) (by decide) ?_
        exact law_case_3 hst hL C0x hK hT c0 l0 l1 l2 l3 m0 m1 m2 m3 m4 m5 r0 r1 r2 r3 g0 d0 d1 d2 d3 d4 d5 d6 d7 d8 d9 d10 d11 d12 o1 N n i hi4 ih c d o h H locs ls hP hD hS hl
      have h := iqP z3 h
      by_cases z4 : xs i &&& 31 = 4
      · have h := ipP z4 h
        refine lv_tableIn (tgt := 369) hx hb dL_law_39 (by rw [z4]; decide) (by rw [z4]; decide) (by rw [z4]; rfl) (by decide) ?_
        exact law_case_4 hst hL C0x hK hT c0 l0 l1 l2 l3 m0 m1 m2 m3 m4 m5 r0 r1 r2 r3 g0 d0 d1 d2 d3 d4 d5 d6 d7 d8 d9 d10 d11 d12 o1 N n i hi4 ih c d o h H locs ls hP hD hS hl
      have h := iqP z4 h
      by_cases z5 : xs i &&& 31 = 5
      · have h := ipP z5 h
        refine lv_tableIn (tgt := 425) hx hb dL_law_39 (by rw [z5]; decide) (by rw [z5]; decide) (by rw [z5]; rfl) (by decide) ?_
        exact law_case_5 hst hL C0x hK hT c0 l0 l1 l2 l3 m0 m1 m2 m3 m4 m5 r0 r1 r2 r3 g0 d0 d1 d2 d3 d4 d5 d6 d7 d8 d9 d10 d11 d12 o1 N n i hi4 ih c d o h H locs ls hP hD hS hl
      have h := iqP z5 h
      by_cases z6 : xs i &&& 31 = 6
      · have h := ipP z6 h
        refine lv_tableIn (tgt := 481) hx hb dL_law_39 (by rw [z6]; decide) (by rw [z6]; decide) (by rw [z6]; rfl) (by decide) ?_
        exact law_case_6 hst hL C0x hK hT c0 l0 l1 l2 l3 m0 m1 m2 m3 m4 m5 r0 r1 r2 r3 g0 d0 d1 d2 d3 d4 d5 d6 d7 d8 d9 d10 d11 d12 o1 N n i hi4 ih c d o h H locs ls hP hD hS hl
      have h := iqP z6 h
      by_cases z7 : xs i &&& 31 = 7
      · have h := ipP z7 h
        refine lv_tableIn (tgt := 537) hx hb dL_law_39 (by rw [z7]; decide) (by rw [z7]; decide) (by rw [z7]; rfl) (by decide) ?_
        exact law_case_7 hst hL C0x hK hT c0 l0 l1 l2 l3 m0 m1 m2 m3 m4 m5 r0 r1 r2 r3 g0 d0 d1 d2 d3 d4 d5 d6 d7 d8 d9 d10 d11 d12 o1 N n i hi4 ih c d o h H locs ls hP hD hS hl
      have h := iqP z7 h
      by_cases z8 : xs i &&& 31 = 8
      · have h := ipP z8 h
        refine lv_tableIn (tgt := 550) hx hb dL_law_39 (by rw [z8]; decide) (by rw [z8]; decide) (by rw [z8]; rfl) (by decide) ?_
        exact law_case_8 hst hL C0x hK hT c0 l0 l1 l2 l3 m0 m1 m2 m3 m4 m5 r0 r1 r2 r3 g0 d0 d1 d2 d3 d4 d5 d6 d7 d8 d9 d10 d11 d12 o1 N n i hi4 ih c d o h H locs ls hP hD hS hl
      have h := iqP z8 h
      by_cases z9 : xs i &&& 31 = 9
      · have h := ipP z9 h
        refine lv_tableIn (tgt := 563) hx hb dL_law_39 (by rw [z9]; decide) (by rw [z9]; decide) (by rw [z9]; rfl) (by decide) ?_
        exact law_case_9 hst hL C0x hK hT c0 l0 l1 l2 l3 m0 m1 m2 m3 m4 m5 r0 r1 r2 r3 g0 d0 d1 d2 d3 d4 d5 d6 d7 d8 d9 d10 d11 d12 o1 N n i hi4 ih c d o h H locs ls hP hD hS hl
      have h := iqP z9 h
      by_cases z10 : xs i &&& 31 = 10
      · have h := ipP z10 h
        refine lv_tableIn (tgt := 631) hx hb dL_law_39 (by rw [z10]; decide) (by rw [z10]; decide) (by rw [z10]; rfl) (by decide) ?_
        exact law_case_10 hst hL C0x hK hT c0 l0 l1 l2 l3 m0 m1 m2 m3 m4 m5 r0 r1 r2 r3 g0 d0 d1 d2 d3 d4 d5 d6 d7 d8 d9 d10 d11 d12 o1 N n i hi4 ih c d o h H locs ls hP hD hS hl
      have h := iqP z10 h
      by_cases z11 : xs i &&& 31 = 11
      · have h := ipP z11 h
        refine lv_tableIn (tgt := 687) hx hb dL_law_39 (by rw [z11]; decide) (by rw [z11]; decide) (by rw [z11]; rfl) (by decide) ?_
        exact law_case_11 hst hL C0x hK hT c0 l0 l1 l2 l3 m0 m1 m2 m3 m4 m5 r0 r1 r2 r3 g0 d0 d1 d2 d3 d4 d5 d6 d7 d8 d9 d10 d11 d12 o1 N n i hi4 ih c d o h H locs ls hP hD hS hl
      have h := iqP z11 h
      by_cases z12 : xs i &&& 31 = 12
      · have h := ipP z12 h
        refine lv_tableIn (tgt := 755) hx hb dL_law_39 (by rw [z12]; decide) (by rw [z12]; decide) (by rw [z12]; rfl) (by decide) ?_
        exact law_case_12 hst hL C0x hK hT c0 l0 l1 l2 l3 m0 m1 m2 m3 m4 m5 r0 r1 r2 r3 g0 d0 d1 d2 d3 d4 d5 d6 d7 d8 d9 d10 d11 d12 o1 N n i hi4 ih c d o h H locs ls hP hD hS hl
      have h := iqP z12 h
      by_cases z13 : xs i &&& 31 = 13
      · have h := ipP z13 h
        refine lv_tableIn (tgt := 823) hx hb dL_law_39 (by rw [z13]; decide) (by rw [z13]; decide) (by rw [z13]; rfl) (by decide) ?_
        exact law_case_13 hst hL C0x hK hT c0 l0 l1 l2 l3 m0 m1 m2 m3 m4 m5 r0 r1 r2 r3 g0 d0 d1 d2 d3 d4 d5 d6 d7 d8 d9 d10 d11 d12 o1 N n i hi4 ih c d o h H locs ls hP hD hS hl
      have h := iqP z13 h
      by_cases z14 : xs i &&& 31 = 14
      · have h := ipP z14 h
        refine lv_tableIn (tgt := 903) hx hb dL_law_39 (by rw [z14]; decide) (by rw [z14]; decide) (by rw [z14]; rfl) (by decide) ?_
        exact law_case_14 hst hL C0x hK hT c0 l0 l1 l2 l3 m0 m1 m2 m3 m4 m5 r0 r1 r2 r3 g0 d0 d1 d2 d3 d4 d5 d6 d7 d8 d9 d10 d11 d12 o1 N n i hi4 ih c d o h H locs ls hP hD hS hl
      have h := iqP z14 h
      by_cases z15 : xs i &&& 31 = 15
      · have h := ipP z15 h
        refine lv_tableIn (tgt := 971) hx hb dL_law_39 (by rw [z15]; decide) (by rw [z15]; decide) (by rw [z15]; rfl) (by decide) ?_
        exact law_case_15 hst hL C0x hK hT c0 l0 l1 l2 l3 m0 m1 m2 m3 m4 m5 r0 r1 r2 r3 g0 d0 d1 d2 d3 d4 d5 d6 d7 d8 d9 d10 d11 d12 o1 N n i hi4 ih c d o h H locs ls hP hD hS hl
      have h := iqP z15 h
      by_cases z16 : xs i &&& 31 = 16
      · have h := ipP z16 h
        refine lv_tableIn (tgt := 1051) hx hb dL_law_39 (by rw [z16]; decide) (by rw [z16]; decide) (by rw [z16]; rfl) (by decide) ?_
        exact law_case_16 hst hL C0x hK hT c0 l0 l1 l2 l3 m0 m1 m2 m3 m4 m5 r0 r1 r2 r3 g0 d0 d1 d2 d3 d4 d5 d6 d7 d8 d9 d10 d11 d12 o1 N n i hi4 ih c d o h H locs ls hP hD hS hl
      have h := iqP z16 h
      by_cases z17 : xs i &&& 31 = 17
      · have h := ipP z17 h
        refine lv_tableIn (tgt := 1119) hx hb dL_law_39 (by rw [z17]; decide) (by rw [z17]; decide) (by rw [z17]; rfl) (by decide) ?_
        exact law_case_17 hst hL C0x hK hT c0 l0 l1 l2 l3 m0 m1 m2 m3 m4 m5 r0 r1 r2 r3 g0 d0 d1 d2 d3 d4 d5 d6 d7 d8 d9 d10 d11 d12 o1 N n i hi4 ih c d o h H locs ls hP hD hS hl
      have h := iqP z17 h
      by_cases z18 : xs i &&& 31 = 18
      · have h := ipP z18 h
        refine lv_tableIn (tgt := 1132) hx hb dL_law_39 (by rw [z18]; decide) (by rw [z18]; decide) (by rw [z18]; rfl) (by decide) ?_
        exact law_case_18 hst hL C0x hK hT c0 l0 l1 l2 l3 m0 m1 m2 m3 m4 m5 r0 r1 r2 r3 g0 d0 d1 d2 d3 d4 d5 d6 d7 d8 d9 d10 d11 d12 o1 N n i hi4 ih c d o h H locs ls hP hD hS hl
      have h := iqP z18 h
      by_cases z19 : xs i &&& 31 = 19
      · have h := ipP z19 h
        refine lv_tableIn (tgt := 1145) hx hb dL_law_39 (by rw [z19]; decide) (by rw [z19]; decide) (by rw [z19]; rfl) (by decide) ?_
        exact law_case_19 hst hL C0x hK hT c0 l0 l1 l2 l3 m0 m1 m2 m3 m4 m5 r0 r1 r2 r3 g0 d0 d1 d2 d3 d4 d5 d6 d7 d8 d9 d10 d11 d12 o1 N n i hi4 ih c d o h H locs ls hP hD hS hl
      have h := iqP z19 h
      by_cases z20 : xs i &&& 31 = 20
      · have h := ipP z20 h
        refine lv_tableIn (tgt := 1201) hx hb dL_law_39 (by rw [z20]; decide) (by rw [z20]; decide) (by rw [z20]; rfl) (by decide) ?_
        exact law_case_20 hst hL C0x hK hT c0 l0 l1 l2 l3 m0 m1 m2 m3 m4 m5 r0 r1 r2 r3 g0 d0 d1 d2 d3 d4 d5 d6 d7 d8 d9 d10 d11 d12 o1 N n i hi4 ih c d o h H locs ls hP hD hS hl
      have h := iqP z20 h
      by_cases z21 : xs i &&& 31 = 21
      · have h := ipP z21 h
        refine lv_tableIn (tgt := 1269) hx hb dL_law_39 (by rw [z21]; decide) (by rw [z21]; decide) (by rw [z21]; rfl) (by decide) ?_
        exact law_case_21 hst hL C0x hK hT c0 l0 l1 l2 l3 m0 m1 m2 m3 m4 m5 r0 r1 r2 r3 g0 d0 d1 d2 d3 d4 d5 d6 d7 d8 d9 d10 d11 d12 o1 N n i hi4 ih c d o h H locs ls hP hD hS hl
      have h := iqP z21 h
      by_cases z22 : xs i &&& 31 = 22
      · have h := ipP z22 h
        refine lv_tableIn (tgt := 1325) hx hb dL_law_39 (by rw [z22]; decide) (by rw [z22]; decide) (by rw [z22]; rfl) (by decide) ?_
        exact law_case_22 hst hL C0x hK hT c0 l0 l1 l2 l3 m0 m1 m2 m3 m4 m5 r0 r1 r2 r3 g0 d0 d1 d2 d3 d4 d5 d6 d7 d8 d9 d10 d11 d12 o1 N n i hi4 ih c d o h H locs ls hP hD hS hl
      have h := iqP z22 h
      by_cases z23 : xs i &&& 31 = 23
      · have h := ipP z23 h
        refine lv_tableIn (tgt := 1381) hx hb dL_law_39 (by rw [z23]; decide) (by rw [z23]; decide) (by rw [z23]; rfl) (by decide) ?_
        exact law_case_23 hst hL C0x hK hT c0 l0 l1 l2 l3 m0 m1 m2 m3 m4 m5 r0 r1 r2 r3 g0 d0 d1 d2 d3 d4 d5 d6 d7 d8 d9 d10 d11 d12 o1 N n i hi4 ih c d o h H locs ls hP hD hS hl
      have h := iqP z23 h
      by_cases z24 : xs i &&& 31 = 24
      · have h := ipP z24 h
        refine lv_tableIn (tgt := 1394) hx hb dL_law_39 (by rw [z24]; decide) (by rw [z24]; decide) (by rw [z24]; rfl) (by decide) ?_
        exact law_case_24 hst hL C0x hK hT c0 l0 l1 l2 l3 m0 m1 m2 m3 m4 m5 r0 r1 r2 r3 g0 d0 d1 d2 d3 d4 d5 d6 d7 d8 d9 d10 d11 d12 o1 N n i hi4 ih c d o h H locs ls hP hD hS hl
      have h := iqP z24 h
      refine lv_tableOut (tgt := 1407) hx hb dL_law_39 (w_sw24 z0 z1 z2 z3 z4 z5 z6 z7 z8 z9 z10 z11 z12 z13 z14 z15 z16 z17 z18 z19 z20 z21 z22 z23 z24) (by decide) ?_
      have hK9 := h
      refine W.widen (k := 30 + (i + 4)) (n := 2517 + 6 * (i + 4)) (by omega) (by omega) ?_
      refine lv_iinc (v := nI (i + 4)) (lv' := [(4, .int (nI (i + 4))), (0, .ref b), (1, .ref c0), (2, .ref d0), (3, .ref o1)]) hx hb dL_law_1407 hl (k := 4) rfl (nI_add i 4) (by decide) rfl (fun ls hl => ?_)
      refine lv_goto (tgt := 23) hx hb dL_law_1410 (by decide) ?_
      exact ih (i + 4) (by omega) c d o hK9 _ _ _ hP hD hS (lv_sub hl [1, 2, 3, 4, 0] rfl)
