theorem wNest_tbl : ∀ w ∈ wNest, w ∈ lw_tbl := by decide +kernel
theorem xNg_tbl2 : ∀ w ∈ xNg, w ∈ lw_tbl := by decide +kernel
theorem xStr_tbl : ∀ q ∈ xStr, Cond.stringRef RX4 q.1 q.2 ∈ lw_tbl := by decide +kernel
theorem st_arr {args : Array Value} {s : State} {ty : FieldType} (h : (Cond.arrayClass ty).before args s = true) : ∃ cA : ClassId, s.vm.findClass ("[" ++ ty.toString) = some cA ∧ ArrOfT s cA ty := by
  obtain ⟨cA, kA, comp, h1, h2, h3⟩ := Cond.arrayClass_spec h
  exact ⟨cA, h1, fun n z => ⟨fun k h => (by cases h), kA, h2, comp, h3⟩⟩
theorem st_K {args : Array Value} {s : State} (hts : ∀ w ∈ lw_tbl, w.before args s = true) : ∃ G : wG, wK G s ∧ ∃ cur, s.vm.findClass RX4 = some cur := by
  obtain ⟨c0, i0, h0⟩ := u_known (C := RX0) (T := TX0) (N := 1) (n := 1) hts inX0 (hts (.instantiable RX0 1) (by decide +kernel))
  obtain ⟨c1, i1, h1⟩ := u_known (C := RX1) (T := TX1) (N := 4) (n := 4) hts inX1 (hts (.instantiable RX1 4) (by decide +kernel))
  obtain ⟨c2, i2, h2⟩ := u_known (C := RX2) (T := TX2) (N := 6) (n := 6) hts inX2 (hts (.instantiable RX2 6) (by decide +kernel))
  obtain ⟨c3, i3, h3⟩ := u_known (C := RX3) (T := TX3) (N := 4) (n := 4) hts inX3 (hts (.instantiable RX3 4) (by decide +kernel))
  obtain ⟨c4, i4, h4⟩ := u_known (C := RX4) (T := TX4) (N := 4) (n := 4) hts inX4 (hts (.instantiable RX4 4) (by decide +kernel))
  obtain ⟨cI, hI1, hI2⟩ := st_arr (hts (.arrayClass .int) (by decide +kernel))
  refine ⟨((fun k => if k = 0 then c0 else if k = 1 then c1 else if k = 2 then c2 else if k = 3 then c3 else c4, fun k => if k = 0 then i0 else if k = 1 then i1 else if k = 2 then i2 else if k = 3 then i3 else i4), cI, cI, cI), ⟨⟨?_, ?_⟩, ?_⟩, ?_⟩
  · intro k q hq
    match k, hq with
    | 0, hq => cases hq; exact h0
    | 1, hq => cases hq; exact h1
    | 2, hq => cases hq; exact h2
    | 3, hq => cases hq; exact h3
    | 4, hq => cases hq; exact h4
    | k + 5, hq => simp [vwCl] at hq
  · intro k q hq
    match k, hq with
    | 0, hq => cases hq; exact ⟨hI2, hI1⟩
    | k + 1, hq => simp [wTy] at hq
  · exact fun w hw => va_Nw.of (wNest_tab w hw) (hts w (wNest_tbl w hw))
  · exact ⟨c4, h4.2.1⟩
theorem st_T {args : Array Value} {s : State} (hts : ∀ w ∈ lw_tbl, w.before args s = true) (hgv : (Jvm.Cond.and given_1 narrow_1).before args s = true) {cur : ClassId} (hcur : s.vm.findClass RX4 = some cur) : wT (fun q : Nat => s.heap.size ≤ q) s s.heap := by
  have hf := flat_of_before _ hgv
  have hA : ∀ a : Nat, a < s.heap.size → ¬ (fun q : Nat => s.heap.size ≤ q) a := fun a h => Nat.not_le.mpr h
  refine ⟨?_, ?_, ?_, ?_, ?_⟩
  · intro q hq
    have h1 := hts _ (xStr_tbl q hq)
    obtain ⟨k, cf, i, a, -, -, -, -, -, h6⟩ := Cond.stringRef_spec (args := args) (o := none) (idx := []) hcur h1
    exact ⟨a, vk_R.of h1 h6⟩
  · exact fun w hw => va_Nw.of (xNg_tab w hw) (hts w (xNg_tbl2 w hw))
  · exact vx_Zqof (hts (.laysStatic Bundle.tN "UNASSIGNED_STACK" Bundle.steD) (by decide +kernel)) (hts (.initialized Bundle.tN) (by decide +kernel)) (hf (.isRef (.static Bundle.tN "UNASSIGNED_STACK" Bundle.steD)) (by decide +kernel)) hA
  · exact vx_Zqof (hts (.laysStatic Bundle.tN "SUPPRESSED_SENTINEL" Bundle.listD) (by decide +kernel)) (hts (.initialized Bundle.tN) (by decide +kernel)) (hf (.isRef (.static Bundle.tN "SUPPRESSED_SENTINEL" Bundle.listD)) (by decide +kernel)) hA
  · exact va_Nc.of (hf (.not (.castable xISE xIAE)) (by decide +kernel))
set_option maxHeartbeats 40000000 in
set_option maxRecDepth 100000 in
theorem whole_start_open (hgood : ∀ (L : Nat) (xs : Nat → Int32), L ≤ 260 → ∃ N, fL_law_b21 N L xs 25 0 0 0 0 (fun _ => 0) (fun _ => 0) (fun _ => 0) 0 (fun _ => 0) (fun _ => 0) (fun _ => 0) (fun _ => 0) (fun _ => 0) 0 (fun _ => 0) (rInit (fun _ => 0) 511) (fun _ => 0) 1 (fun _ => 0) = some ()) {p : Program} {e : Env} {s : State} {m : MethodId} {below : List Frame} {meth : Method} {c : Code} (l : Launch) (hflags : l.flags = flags0) {b L : Nat} {xs : Nat → Int32} (hL : L ≤ 260) (C0 : lw_At p s m meth c b L xs) : W p l e room_1 s m #[Value.ref b] below meth c s.heap [] 0 0 (lw_Z below #[Value.ref b] s) (entryFrame m ([Value.ref b] : List Value).toArray 14) := by
  obtain ⟨hx, hb, hr, hml, hown0, hts0, hX, hbl, hlocks, hgv⟩ := id C0
  have hst : l.stackTraces = false := by rw [Launch.stackTraces, hflags]; decide +kernel
  obtain ⟨G, hK, cur, hcur⟩ := st_K hts0
  have hT := st_T hts0 hgv hcur
  have hown : s.vm.findClass RL = some m.cls := hown0
  have hts : ∀ w ∈ wsL_law, w.before #[Value.ref b] s = true := fun w h => hts0 w (wsL_law_in w h)
  have hA : ∀ q : Nat, s.heap.size ≤ q → (fun q : Nat => s.heap.size ≤ q) q := fun _ h => h
  have hS : va_S (fun q : Nat => s.heap.size ≤ q) s.heap s.heap [] := va_S.rf
  have hP : va_P G.1 vwCl [] s.heap := fun k q h => by simp at h
  have hD : va_D (fun q : Nat => s.heap.size ≤ q) [] := ⟨fun i j p q h => by simp at h, fun k q h => by simp at h⟩
  have hl := lv_entry ([.ref b]) (n := 14) (Nat.le_of_ble_eq_true rfl)
  rw [lg_entry_eq]
  generalize (lg_sl ([.ref b]) ++ List.replicate (14 - (lg_sl ([.ref b])).length) Slot.unset).toArray = ls at hl ⊢
  have hl : lv_has ls 14 [(0, .ref b)] := hl
  refine va_new (ci := 4) (fs := [.null, .null, .null, .null]) (C := RX4) (T := TX4) (N := 4) hx hb hts0 inX4 tyX4 tyX4_ok hown (hts0 (.classLink RL 11 RX4) (by decide +kernel)) (hts0 (.instantiable RX4 4) (by decide +kernel)) (hts0 (.initialized RX4) (by decide +kernel)) hK.1 hP hD hS hA rfl (fun j hj => by rcases (show j = 0 ∨ j = 1 ∨ j = 2 ∨ j = 3 by omega) with rfl | rfl | rfl | rfl <;> rfl) (Nat.le_of_ble_eq_true rfl) (Nat.le_of_ble_eq_true rfl) dL_law_0 (fun q0 H hP hD hS => ?_)
  have hP : va_P G.1 vwCl [(q0, .inr (4, [.null, .null, .null, .null]))] H := hP
  have hD : va_D (fun q : Nat => s.heap.size ≤ q) [(q0, .inr (4, [.null, .null, .null, .null]))] := hD
  refine lv_dup hx hb dL_law_3 rfl ?_
  refine wafter_n (wr := []) (va_runI (As := []) (rest := [.ref q0]) ⟨hx, hb, hml, hown, hts⟩ (kX4_init (l := l) (G := G) q0 _) (cwI 0 hts gL_law_X4_init rfl rfl rfl (hts0 (.initialized RX4) (by decide +kernel)) (hts0 (.methodLink RL 92 yX4_init) (by decide +kernel)) (hts0 (.instanceMethod yX4_init) (by decide +kernel)) rfl (by decide +kernel) ⟨(Nat.le_of_ble_eq_true rfl), (Nat.le_of_ble_eq_true rfl)⟩) (wPreS hP hD hK [0] rfl rfl) rfl rfl hl.1 rfl (lv_room (Nat.le_of_ble_eq_true rfl)) dL_law_4 ⟨(Nat.le_of_ble_eq_true rfl), (Nat.le_of_ble_eq_true rfl)⟩) hP hD hS hA [0] [] rfl rfl rfl (by decide) (fun t4 H locs hP hD hS => ?_)
  have hP : va_P G.1 vwCl [(q0, .inr (4, [.ref t4.1, .ref t4.2.2.2.2.1, .ref t4.2.2.2.2.2.2.2.2.2.2.1, .ref t4.2.2.2.2.2.2.2.2.2.2.2.2.2.2])), (t4.1, .inr (1, [.ref t4.2.1, .ref t4.2.2.1, .ref t4.2.2.2.1, .int 0])), (t4.2.1, .inl (G.2.1, 9, .inl (fun _ => 0))), (t4.2.2.1, .inl (G.2.1, 9, .inl (fun _ => 0))), (t4.2.2.2.1, .inl (G.2.1, 9, .inl (fun _ => 0))), (t4.2.2.2.2.1, .inr (2, [.ref t4.2.2.2.2.2.1, .ref t4.2.2.2.2.2.2.1, .ref t4.2.2.2.2.2.2.2.1, .ref t4.2.2.2.2.2.2.2.2.1, .ref t4.2.2.2.2.2.2.2.2.2.1, .int 0])), (t4.2.2.2.2.2.1, .inl (G.2.1, 36, .inl (fun _ => 0))), (t4.2.2.2.2.2.2.1, .inl (G.2.1, 36, .inl (fun _ => 0))), (t4.2.2.2.2.2.2.2.1, .inl (G.2.1, 36, .inl (fun _ => 0))), (t4.2.2.2.2.2.2.2.2.1, .inl (G.2.1, 36, .inl (fun _ => 0))), (t4.2.2.2.2.2.2.2.2.2.1, .inl (G.2.1, 36, .inl (fun _ => 0))), (t4.2.2.2.2.2.2.2.2.2.2.1, .inr (3, [.ref t4.2.2.2.2.2.2.2.2.2.2.2.1, .ref t4.2.2.2.2.2.2.2.2.2.2.2.2.1, .ref t4.2.2.2.2.2.2.2.2.2.2.2.2.2.1, .int 1])), (t4.2.2.2.2.2.2.2.2.2.2.2.1, .inl (G.2.1, 46, .inl (fun _ => 0))), (t4.2.2.2.2.2.2.2.2.2.2.2.2.1, .inl (G.2.1, 512, .inl (rInit (fun _ => 0) 511))), (t4.2.2.2.2.2.2.2.2.2.2.2.2.2.1, .inl (G.2.1, 512, .inl (fun _ => 0))), (t4.2.2.2.2.2.2.2.2.2.2.2.2.2.2, .inr (0, [.long 0]))] H := hP
  have hD : va_D (fun q : Nat => s.heap.size ≤ q) [(q0, .inr (4, [.ref t4.1, .ref t4.2.2.2.2.1, .ref t4.2.2.2.2.2.2.2.2.2.2.1, .ref t4.2.2.2.2.2.2.2.2.2.2.2.2.2.2])), (t4.1, .inr (1, [.ref t4.2.1, .ref t4.2.2.1, .ref t4.2.2.2.1, .int 0])), (t4.2.1, .inl (G.2.1, 9, .inl (fun _ => 0))), (t4.2.2.1, .inl (G.2.1, 9, .inl (fun _ => 0))), (t4.2.2.2.1, .inl (G.2.1, 9, .inl (fun _ => 0))), (t4.2.2.2.2.1, .inr (2, [.ref t4.2.2.2.2.2.1, .ref t4.2.2.2.2.2.2.1, .ref t4.2.2.2.2.2.2.2.1, .ref t4.2.2.2.2.2.2.2.2.1, .ref t4.2.2.2.2.2.2.2.2.2.1, .int 0])), (t4.2.2.2.2.2.1, .inl (G.2.1, 36, .inl (fun _ => 0))), (t4.2.2.2.2.2.2.1, .inl (G.2.1, 36, .inl (fun _ => 0))), (t4.2.2.2.2.2.2.2.1, .inl (G.2.1, 36, .inl (fun _ => 0))), (t4.2.2.2.2.2.2.2.2.1, .inl (G.2.1, 36, .inl (fun _ => 0))), (t4.2.2.2.2.2.2.2.2.2.1, .inl (G.2.1, 36, .inl (fun _ => 0))), (t4.2.2.2.2.2.2.2.2.2.2.1, .inr (3, [.ref t4.2.2.2.2.2.2.2.2.2.2.2.1, .ref t4.2.2.2.2.2.2.2.2.2.2.2.2.1, .ref t4.2.2.2.2.2.2.2.2.2.2.2.2.2.1, .int 1])), (t4.2.2.2.2.2.2.2.2.2.2.2.1, .inl (G.2.1, 46, .inl (fun _ => 0))), (t4.2.2.2.2.2.2.2.2.2.2.2.2.1, .inl (G.2.1, 512, .inl (rInit (fun _ => 0) 511))), (t4.2.2.2.2.2.2.2.2.2.2.2.2.2.1, .inl (G.2.1, 512, .inl (fun _ => 0))), (t4.2.2.2.2.2.2.2.2.2.2.2.2.2.2, .inr (0, [.long 0]))] := hD
  refine lv_astore_n (lv' := [(1, .ref q0), (0, .ref b)]) hx hb dL_law_7 rfl hl (by decide) rfl (fun ls hl => ?_)
  refine lv_bipush (v := 36) hx hb dL_law_8 (by decide) ?_
  refine wnewaI (N := 36) hx hb (hts0 (.arrayClass .int) (by decide +kernel)) hK hP hD hS hA (by decide) (by decide) (Nat.le_of_ble_eq_true rfl) (Nat.le_of_ble_eq_true rfl) (Nat.le_of_ble_eq_true rfl) dL_law_10 (fun q10 H hP hD hS => ?_)
  have hP : va_P G.1 vwCl [(q0, .inr (4, [.ref t4.1, .ref t4.2.2.2.2.1, .ref t4.2.2.2.2.2.2.2.2.2.2.1, .ref t4.2.2.2.2.2.2.2.2.2.2.2.2.2.2])), (t4.1, .inr (1, [.ref t4.2.1, .ref t4.2.2.1, .ref t4.2.2.2.1, .int 0])), (t4.2.1, .inl (G.2.1, 9, .inl (fun _ => 0))), (t4.2.2.1, .inl (G.2.1, 9, .inl (fun _ => 0))), (t4.2.2.2.1, .inl (G.2.1, 9, .inl (fun _ => 0))), (t4.2.2.2.2.1, .inr (2, [.ref t4.2.2.2.2.2.1, .ref t4.2.2.2.2.2.2.1, .ref t4.2.2.2.2.2.2.2.1, .ref t4.2.2.2.2.2.2.2.2.1, .ref t4.2.2.2.2.2.2.2.2.2.1, .int 0])), (t4.2.2.2.2.2.1, .inl (G.2.1, 36, .inl (fun _ => 0))), (t4.2.2.2.2.2.2.1, .inl (G.2.1, 36, .inl (fun _ => 0))), (t4.2.2.2.2.2.2.2.1, .inl (G.2.1, 36, .inl (fun _ => 0))), (t4.2.2.2.2.2.2.2.2.1, .inl (G.2.1, 36, .inl (fun _ => 0))), (t4.2.2.2.2.2.2.2.2.2.1, .inl (G.2.1, 36, .inl (fun _ => 0))), (t4.2.2.2.2.2.2.2.2.2.2.1, .inr (3, [.ref t4.2.2.2.2.2.2.2.2.2.2.2.1, .ref t4.2.2.2.2.2.2.2.2.2.2.2.2.1, .ref t4.2.2.2.2.2.2.2.2.2.2.2.2.2.1, .int 1])), (t4.2.2.2.2.2.2.2.2.2.2.2.1, .inl (G.2.1, 46, .inl (fun _ => 0))), (t4.2.2.2.2.2.2.2.2.2.2.2.2.1, .inl (G.2.1, 512, .inl (rInit (fun _ => 0) 511))), (t4.2.2.2.2.2.2.2.2.2.2.2.2.2.1, .inl (G.2.1, 512, .inl (fun _ => 0))), (t4.2.2.2.2.2.2.2.2.2.2.2.2.2.2, .inr (0, [.long 0])), (q10, .inl (G.2.1, 36, .inl (fun _ => 0)))] H := hP
  have hD : va_D (fun q : Nat => s.heap.size ≤ q) [(q0, .inr (4, [.ref t4.1, .ref t4.2.2.2.2.1, .ref t4.2.2.2.2.2.2.2.2.2.2.1, .ref t4.2.2.2.2.2.2.2.2.2.2.2.2.2.2])), (t4.1, .inr (1, [.ref t4.2.1, .ref t4.2.2.1, .ref t4.2.2.2.1, .int 0])), (t4.2.1, .inl (G.2.1, 9, .inl (fun _ => 0))), (t4.2.2.1, .inl (G.2.1, 9, .inl (fun _ => 0))), (t4.2.2.2.1, .inl (G.2.1, 9, .inl (fun _ => 0))), (t4.2.2.2.2.1, .inr (2, [.ref t4.2.2.2.2.2.1, .ref t4.2.2.2.2.2.2.1, .ref t4.2.2.2.2.2.2.2.1, .ref t4.2.2.2.2.2.2.2.2.1, .ref t4.2.2.2.2.2.2.2.2.2.1, .int 0])), (t4.2.2.2.2.2.1, .inl (G.2.1, 36, .inl (fun _ => 0))), (t4.2.2.2.2.2.2.1, .inl (G.2.1, 36, .inl (fun _ => 0))), (t4.2.2.2.2.2.2.2.1, .inl (G.2.1, 36, .inl (fun _ => 0))), (t4.2.2.2.2.2.2.2.2.1, .inl (G.2.1, 36, .inl (fun _ => 0))), (t4.2.2.2.2.2.2.2.2.2.1, .inl (G.2.1, 36, .inl (fun _ => 0))), (t4.2.2.2.2.2.2.2.2.2.2.1, .inr (3, [.ref t4.2.2.2.2.2.2.2.2.2.2.2.1, .ref t4.2.2.2.2.2.2.2.2.2.2.2.2.1, .ref t4.2.2.2.2.2.2.2.2.2.2.2.2.2.1, .int 1])), (t4.2.2.2.2.2.2.2.2.2.2.2.1, .inl (G.2.1, 46, .inl (fun _ => 0))), (t4.2.2.2.2.2.2.2.2.2.2.2.2.1, .inl (G.2.1, 512, .inl (rInit (fun _ => 0) 511))), (t4.2.2.2.2.2.2.2.2.2.2.2.2.2.1, .inl (G.2.1, 512, .inl (fun _ => 0))), (t4.2.2.2.2.2.2.2.2.2.2.2.2.2.2, .inr (0, [.long 0])), (q10, .inl (G.2.1, 36, .inl (fun _ => 0)))] := hD
  refine lv_astore_n (lv' := [(2, .ref q10), (1, .ref q0), (0, .ref b)]) hx hb dL_law_12 rfl hl (by decide) rfl (fun ls hl => ?_)
  refine lv_iconst (v := 0) hx hb dL_law_13 (by decide) ?_
  refine lv_istore_n (lv' := [(3, .int 0), (2, .ref q10), (1, .ref q0), (0, .ref b)]) hx hb dL_law_14 rfl hl (by decide) rfl (fun ls hl => ?_)
  refine lv_iconst (v := 0) hx hb dL_law_15 (by decide) ?_
  refine lv_istore (lv' := [(4, .int 0), (3, .int 0), (2, .ref q10), (1, .ref q0), (0, .ref b)]) hx hb dL_law_16 hl (by decide) rfl (fun ls hl => ?_)
  refine lv_iconst (v := 0) hx hb dL_law_18 (by decide) ?_
  refine lv_istore (lv' := [(5, .int 0), (4, .int 0), (3, .int 0), (2, .ref q10), (1, .ref q0), (0, .ref b)]) hx hb dL_law_19 hl (by decide) rfl (fun ls hl => ?_)
  obtain ⟨N, hgo⟩ := hgood L xs hL
  refine W.widen (k := 30 + 8 * 0 + 0) (n := 2600 + 48 * 0 + 0) (Nat.le_of_ble_eq_true rfl) (Nat.le_of_ble_eq_true rfl) ?_
  exact law_walk hst hL C0 hK hT hA (fun _ h => h) q0 (t4.1) (t4.2.1) (t4.2.2.1) (t4.2.2.2.1) (t4.2.2.2.2.1) (t4.2.2.2.2.2.1) (t4.2.2.2.2.2.2.1) (t4.2.2.2.2.2.2.2.1) (t4.2.2.2.2.2.2.2.2.1) (t4.2.2.2.2.2.2.2.2.2.1) (t4.2.2.2.2.2.2.2.2.2.2.1) (t4.2.2.2.2.2.2.2.2.2.2.2.1) (t4.2.2.2.2.2.2.2.2.2.2.2.2.1) (t4.2.2.2.2.2.2.2.2.2.2.2.2.2.1) (t4.2.2.2.2.2.2.2.2.2.2.2.2.2.2) q10 N 0 0 0 0 (fun _ => 0) (fun _ => 0) (fun _ => 0) 0 (fun _ => 0) (fun _ => 0) (fun _ => 0) (fun _ => 0) (fun _ => 0) 0 (fun _ => 0) (rInit (fun _ => 0) 511) (fun _ => 0) 1 (fun _ => 0) _ _ _ hP hD hS (lv_sub hl [5, 4, 3, 2, 1, 0] rfl) hgo
