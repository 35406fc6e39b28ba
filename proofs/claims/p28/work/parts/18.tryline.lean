theorem wXi.mkH {T : Type} {l : Launch} {G : wG} {y : MethodName} {ws ws' : List Cond} {rm : Room} {as : List Value} {w0 : va_W} {v : String ⊕ T} {w1 : T → va_W} {r : T → Int32} {mc ms : Nat} {cc : ByteArray} {maxL : Nat} {ty : FieldType} {hh : List (Nat × Nat × Nat × Nat)} (hy : plainName y.cls = true) (hw : ws = Cond.codeWith y cc maxL (some ty) hh :: ws') (hn : (lg_sl as).length ≤ maxL)
    (body : ∀ (p : Program) (e : Env) (s : State) (m : MethodId) (below : List Frame) (meth : Method) (c : Code) (A : Nat → Prop) (ls : Array Slot),
      p.tables.exec = Jvm.exec → c.code = cc → c.maxLocals = maxL → meth.sig.returnType = some ty → meth.locks = false → (∀ w ∈ ws, w.before as.toArray s = true) → s.vm.findClass y.cls = some m.cls → wK G s → (∀ q : Nat, s.heap.size ≤ q → A q) → va_P G.1 vwCl w0 s.heap → va_D A w0 → wT A s s.heap → c.exceptionTable.toList = tableOf hh → lv_has ls maxL (lv_args 0 as) →
      W p l e rm s m as.toArray below meth c s.heap [] 0 0 (wQxi G A below as.toArray s w0 v w1 r mc ms) (F0 m 0 ls [])) : wXi l G y ws rm as w0 v w1 r mc ms := by
  intro sz
  refine vx_ofWH (cc := cc) (maxL := maxL) (ret := some ty) (hh := hh) hy hw ?_
  intro p e s m args below meth c s₁ B hml hv
  obtain ⟨rfl, ⟨hsz, hP, hK, hD0⟩, hT⟩ := hv
  subst hsz
  have hl := lv_entry as (n := maxL) hn
  rw [lg_entry_eq]
  have hts := atoms_spec (ws := ws) B.pre
  exact body p e s m below meth c _ _ B.exec B.bytes hml B.returns B.notSynchronized hts (findClass_of_methodNamed B.named) hK (fun q h => Or.inr h) hP hD0.self hT (vx_table (x := y) B (hts _ (by rw [hw]; exact List.mem_cons_self))) hl
def bdc {α β : Type} (x : Option (String ⊕ β)) (ke : String → Option α) (k : β → Option α) : Option α := match x with
  | none => none
  | some (.inl e) => ke e
  | some (.inr y) => k y
theorem bdc_inv {α β : Type} {x : Option (String ⊕ β)} {ke : String → Option α} {k : β → Option α} {r : α} (h : bdc x ke k = some r) : ∃ y, x = some y ∧ (∀ e, y = .inl e → ke e = some r) ∧ (∀ z, y = .inr z → k z = some r) := by
  cases x with
  | none => cases h
  | some y => cases y with
    | inl e => exact ⟨_, rfl, fun e2 h2 => (by cases h2; exact h), fun z h2 => (by cases h2)⟩
    | inr z => exact ⟨_, rfl, fun e2 h2 => (by cases h2), fun z2 h2 => (by cases h2; exact h)⟩
/-! the script's cells -/
def fL_cell (L : Nat) (xs : Nat → Int32) (k : Int32) : Option Int32 := if nI L ≤ k then some (34410097 * k + 89891) else rd xs L k (fun v => some v)
def wCx (l : Launch) (G : wG) (b L : Nat) (xs : Nat → Int32) (y : MethodName) (ws : List Cond) (rm : Room) (as : List Value) (r : Int32) : Prop := ∀ sz : Nat, Met l y ws rm (va_Pc as (fun U => wPre G sz [] U ∧ va_X b L xs U U.heap ∧ b < sz)) (va_Qi (fun (x : Int32) (_ : Unit) => x = r) (wPost G (va_A [] sz) []) (va_A [] sz)) 0 0 (va_A [] sz)
theorem wCx.mk {l : Launch} {G : wG} {b L : Nat} {xs : Nat → Int32} {y : MethodName} {ws ws' : List Cond} {rm : Room} {as : List Value} {r : Int32} {cc : ByteArray} {maxL : Nat} {ty : FieldType} (hy : plainName y.cls = true) (hw : ws = Cond.code y cc maxL (some ty) :: ws') (hn : (lg_sl as).length ≤ maxL)
    (body : ∀ (p : Program) (e : Env) (s : State) (m : MethodId) (below : List Frame) (meth : Method) (c : Code) (A : Nat → Prop) (ls : Array Slot),
      p.tables.exec = Jvm.exec → c.code = cc → c.maxLocals = maxL → meth.sig.returnType = some ty → meth.locks = false → (∀ w ∈ ws, w.before as.toArray s = true) → s.vm.findClass y.cls = some m.cls → va_P G.1 vwCl [] s.heap → va_D A [] → va_X b L xs s s.heap → b < s.heap.size → ¬ A b → lv_has ls maxL (lv_args 0 as) →
      W p l e rm s m as.toArray below meth c s.heap [] 0 0 (wQi G A below as.toArray s [] 0 0 r) (F0 m 0 ls [])) : wCx l G b L xs y ws rm as r := by
  intro sz
  refine Met.ofW (cc := cc) (maxL := maxL) (ret := some ty) hy hw ?_
  intro p e s m args below meth c s₁ B hml hv
  obtain ⟨rfl, ⟨hsz, hP, hK, hD0⟩, hX, hbl⟩ := hv
  subst hsz
  have hl := lv_entry as (n := maxL) hn
  rw [lg_entry_eq]
  refine body p e s m below meth c _ _ B.exec B.bytes hml B.returns B.notSynchronized (atoms_spec B.pre) (findClass_of_methodNamed B.named) hP hD0.self hX hbl ?_ hl
  rintro (⟨k, e9, h9⟩ | h9)
  · simp at h9
  · omega
theorem wPreSx {s : State} {H H0 : Heap} {locs : List Loc} {G : wG} {A : Nat → Prop} {w : va_W} {as : List Value} {b L : Nat} {xs : Nat → Int32} (hP : va_P G.1 vwCl w H) (hD : va_D A w) (hK : wK G s) (hS : va_S A H0 H locs) (hX : va_X b L xs s H0) (hbl : b < H0.size) (hbA : ¬ A b) : PreS s H (va_Pc as (fun U => wPre G H.size [] U ∧ va_X b L xs U U.heap ∧ b < H.size)) as := by
  have h0 := wPreS (as := as) (wc := []) hP hD hK [] rfl rfl
  refine ⟨fun av U g mk q => ⟨q.1, (h0.1 av U g mk ⟨q.1, q.2.1⟩).2, ?_, q.2.2.2⟩, fun U hU hW => ⟨rfl, (h0.2 U hU hW).2, ?_, ?_⟩⟩
  · exact va_X.moved (u := U) (U := U.calling g mk _) (Vm.Alike.refl U.vm) q.2.2.1
  · rw [hU]
    exact (hX.moved hW.alike).kept (hS.2.1 b hbl hbA)
  · exact Nat.lt_of_lt_of_le hbl hS.1
set_option maxRecDepth 100000 in
theorem kL_cell {l : Launch} {G : wG} (b L : Nat) (xs : Nat → Int32) (x1 : Int32) (v : Int32) (h : fL_cell L xs x1 = some v) : wCx l G b L xs yL_cell wsL_cell ({ frames := 0, cells := 0, slots := 0, locals := 0 } : Room) [.ref b, .int x1] v := by
  refine wCx.mk (cc := cL_cell) (maxL := 2) (ty := .int) (by decide) rfl (Nat.le_of_ble_eq_true rfl) ?_
  intro p e s m below meth c A ls hx hb hml hr hlocks hts hown hP hD hX hbl hbA hl
  have hown : s.vm.findClass RL = some m.cls := hown
  have hS : va_S A s.heap s.heap [] := va_S.rf
  have hl : lv_has ls 2 [(0, .ref b), (1, .int x1)] := hl
  obtain ⟨args, hargs⟩ : ∃ z : Array Value, z = ([.ref b, .int x1] : List Value).toArray := ⟨_, rfl⟩
  rw [← hargs]
  rw [← hargs] at hts
  unfold fL_cell at h
  refine lv_iload_n hx hb dL_cell_0 rfl (lv_at hl 1 rfl) ?_
  refine lv_aload_n hx hb dL_cell_1 rfl (lv_at hl 0 rfl) ?_
  refine va_slen hx hb hX hbl hbA hS dL_cell_2 ?_
  refine lv_icmp_ge (tgt := 12) hx hb dL_cell_3 (by decide) (fun c_1 => ?_) (fun c_1 => ?_)
  · have h := ip c_1 h
    obtain rfl := Option.some.inj h
    refine lv_ldc (v := 34410097) hx hb hown (hts (.constant RL 7 (34410097)) (by decide +kernel)) dL_cell_12 ?_
    refine lv_iload_n hx hb dL_cell_14 rfl (lv_at hl 1 rfl) ?_
    refine lv_imul hx hb dL_cell_15 ?_
    refine lv_ldc (v := 89891) hx hb hown (hts (.constant RL 8 (89891)) (by decide +kernel)) dL_cell_16 ?_
    refine lv_iadd hx hb dL_cell_18 ?_
    exact wri hx hb hr hlocks hP hD hS (Nat.le_of_ble_eq_true rfl) (Nat.le_of_ble_eq_true rfl) rfl dL_cell_19
  · have h := iq c_1 h
    obtain ⟨hv, h⟩ := rd_inv h
    obtain rfl := Option.some.inj h
    refine lv_aload_n hx hb dL_cell_6 rfl (lv_at hl 0 rfl) ?_
    refine lv_iload_n hx hb dL_cell_7 rfl (lv_at hl 1 rfl) ?_
    refine va_sld hx hb hX hbl hbA hS hv dL_cell_8 ?_
    refine lv_goto (tgt := 19) hx hb dL_cell_9 (by decide) ?_
    exact wri hx hb hr hlocks hP hD hS (Nat.le_of_ble_eq_true rfl) (Nat.le_of_ble_eq_true rfl) rfl dL_cell_19
def fL_tryLine (N : Nat) (l_a : Nat → Int32) (l_b : Nat → Int32) (l_c : Nat → Int32) (l_n : Int32) (m_x : Nat → Int32) (m_y : Nat → Int32) (m_d : Nat → Int32) (m_t : Nat → Int32) (m_v : Nat → Int32) (m_n : Int32) (r_s : Nat → Int32) (r_n : Nat → Int32) (r_k : Int32) (x1 : Int32) (x2 : Int32) (x3 : Int32) : Option (Int32 × (Nat → Int32) × (Nat → Int32) × (Nat → Int32) × Int32 × (Nat → Int32) × (Nat → Int32) × (Nat → Int32) × (Nat → Int32) × (Nat → Int32) × Int32 × (Nat → Int32) × (Nat → Int32) × Int32) := bdc (fX4_line N l_a l_b l_c l_n m_x m_y m_d m_t m_v m_n r_s r_n r_k x1 x2 x3) (fun e => if e = xIAE then some ((-100), l_a, l_b, l_c, l_n, m_x, m_y, m_d, m_t, m_v, m_n, r_s, r_n, r_k) else if e = xISE then some ((-200), l_a, l_b, l_c, l_n, m_x, m_y, m_d, m_t, m_v, m_n, r_s, r_n, r_k) else none) (fun t => some t)
set_option maxHeartbeats 4000000 in
set_option maxRecDepth 100000 in
theorem kL_tryLine {l : Launch} (hst : l.stackTraces = false) {G : wG} (c0 l0 l1 l2 l3 m0 m1 m2 m3 m4 m5 r0 r1 r2 r3 g0 : Nat) (g_e : Int64) (l_a : Nat → Int32) (l_b : Nat → Int32) (l_c : Nat → Int32) (l_n : Int32) (m_x : Nat → Int32) (m_y : Nat → Int32) (m_d : Nat → Int32) (m_t : Nat → Int32) (m_v : Nat → Int32) (m_n : Int32) (r_s : Nat → Int32) (r_n : Nat → Int32) (r_w : Nat → Int32) (r_k : Int32) (x1 : Int32) (x2 : Int32) (x3 : Int32) (N : Nat) (v : Int32 × (Nat → Int32) × (Nat → Int32) × (Nat → Int32) × Int32 × (Nat → Int32) × (Nat → Int32) × (Nat → Int32) × (Nat → Int32) × (Nat → Int32) × Int32 × (Nat → Int32) × (Nat → Int32) × Int32) (h : fL_tryLine N l_a l_b l_c l_n m_x m_y m_d m_t m_v m_n r_s r_n r_k x1 x2 x3 = some v) : wXi l G yL_tryLine wsL_tryLine ({ frames := 7, cells := 4, slots := 24, locals := 171 } : Room) [.ref c0, .int x1, .int x2, .int x3] (w_C G c0 l0 l1 l2 l3 m0 m1 m2 m3 m4 m5 r0 r1 r2 r3 g0 g_e l_a l_b l_c l_n m_x m_y m_d m_t m_v m_n r_s r_n r_w r_k) (.inr v) (fun t : Int32 × (Nat → Int32) × (Nat → Int32) × (Nat → Int32) × Int32 × (Nat → Int32) × (Nat → Int32) × (Nat → Int32) × (Nat → Int32) × (Nat → Int32) × Int32 × (Nat → Int32) × (Nat → Int32) × Int32 => (w_C G c0 l0 l1 l2 l3 m0 m1 m2 m3 m4 m5 r0 r1 r2 r3 g0 g_e t.2.1 t.2.2.1 t.2.2.2.1 t.2.2.2.2.1 t.2.2.2.2.2.1 t.2.2.2.2.2.2.1 t.2.2.2.2.2.2.2.1 t.2.2.2.2.2.2.2.2.1 t.2.2.2.2.2.2.2.2.2.1 t.2.2.2.2.2.2.2.2.2.2.1 t.2.2.2.2.2.2.2.2.2.2.2.1 t.2.2.2.2.2.2.2.2.2.2.2.2.1 r_w t.2.2.2.2.2.2.2.2.2.2.2.2.2)) (fun t : Int32 × (Nat → Int32) × (Nat → Int32) × (Nat → Int32) × Int32 × (Nat → Int32) × (Nat → Int32) × (Nat → Int32) × (Nat → Int32) × (Nat → Int32) × Int32 × (Nat → Int32) × (Nat → Int32) × Int32 => t.1) 4 24 := by
  refine wXi.mkH (cc := cL_tryLine) (maxL := 5) (ty := .int) (hh := [(0, 7, 8, 16), (0, 7, 13, 18)]) (by decide) rfl (Nat.le_of_ble_eq_true rfl) ?_
  intro p e s m below meth c A ls hx hb hml hr hlocks hts hown hK hA hP hD hT htab hl
  have hown : s.vm.findClass RL = some m.cls := hown
  have hS : va_S A s.heap s.heap [] := va_S.rf
  have hP : va_P G.1 vwCl (w_C G c0 l0 l1 l2 l3 m0 m1 m2 m3 m4 m5 r0 r1 r2 r3 g0 g_e l_a l_b l_c l_n m_x m_y m_d m_t m_v m_n r_s r_n r_w r_k) s.heap := hP
  have hD : va_D A (w_C G c0 l0 l1 l2 l3 m0 m1 m2 m3 m4 m5 r0 r1 r2 r3 g0 g_e l_a l_b l_c l_n m_x m_y m_d m_t m_v m_n r_s r_n r_w r_k) := hD
  have hl : lv_has ls 5 [(0, .ref c0), (1, .int x1), (2, .int x2), (3, .int x3)] := hl
  obtain ⟨args, hargs⟩ : ∃ z : Array Value, z = ([.ref c0, .int x1, .int x2, .int x3] : List Value).toArray := ⟨_, rfl⟩
  rw [← hargs]
  rw [← hargs] at hts
  have lkIAE := hts (.classLink RL 16 xIAE) (by decide +kernel)
  have lkISE := hts (.classLink RL 18 xISE) (by decide +kernel)
  rw [fL_tryLine.eq_1] at h
  refine lv_aload_n hx hb dL_tryLine_0 rfl (lv_at hl 0 rfl) ?_
  refine lv_iload_n hx hb dL_tryLine_1 rfl (lv_at hl 1 rfl) ?_
  refine lv_iload_n hx hb dL_tryLine_2 rfl (lv_at hl 2 rfl) ?_
  refine lv_iload_n hx hb dL_tryLine_3 rfl (lv_at hl 3 rfl) ?_
  obtain ⟨xu, hc, hke, hkt⟩ := bdc_inv h
  refine wafterx_i (wr := []) (vx_runV (As := [.int x1, .int x2, .int x3]) (rest := []) ⟨hx, hb, hml, hown, hts⟩ (kX4_line (l := l) hst (G := G) c0 l0 l1 l2 l3 m0 m1 m2 m3 m4 m5 r0 r1 r2 r3 g0 g_e l_a l_b l_c l_n m_x m_y m_d m_t m_v m_n r_s r_n r_w r_k x1 x2 x3 N xu hc _) (cwV 3 hts gL_tryLine_X4_line rfl rfl rfl (by decide +kernel) ⟨(Nat.le_of_ble_eq_true rfl), (Nat.le_of_ble_eq_true rfl)⟩) (wPreVX hP hD hK hS hA hT [0, 1, 2, 3, 4, 5, 6, 7, 8, 9, 10, 11, 12, 13, 14, 15] rfl rfl (ci := 4) (qb := 0) rfl rfl rfl) rfl rfl hl.1 rfl (lv_room (Nat.le_of_ble_eq_true rfl)) dL_tryLine_4 ⟨(Nat.le_of_ble_eq_true rfl), (Nat.le_of_ble_eq_true rfl)⟩) hP hD hS hA [0, 1, 2, 3, 4, 5, 6, 7, 8, 9, 10, 11, 12, 13, 14, 15] [] [0, 1, 2, 3, 4, 5, 6, 7, 8, 9, 10, 11, 12, 13, 14, 15] rfl rfl rfl (by decide) rfl rfl (fun E ce q9 H locs he hP hD hS hce hcv hcl => ?_) (fun u H locs hu hP hD hS => ?_)
  · have h := hke E he
    by_cases cE : E = xIAE
    · have h := ip cE h
      subst cE
      obtain rfl := Option.some.inj h
      refine vx_catch (name := xIAE) hown [] ⟨0, 7, 8, 16⟩ [⟨0, 7, 13, 18⟩] (by rw [htab]; rfl) (fun z hz => by cases hz) (by decide) (by decide) lkIAE (va_Nw.use rfl (hT.2.1 (.castable xIAE xIAE) (by simp [xNg]))) hce hcv hcl ?_
      refine lv_astore (lv' := [(4, .ref q9), (0, .ref c0), (1, .int x1), (2, .int x2), (3, .int x3)]) hx hb dL_tryLine_8 hl (by decide) rfl (fun ls hl => ?_)
      refine lv_bipush (v := (-100)) hx hb dL_tryLine_10 (by decide) ?_
      exact wrxi (ty := .int) (t0 := ((-100), l_a, l_b, l_c, l_n, m_x, m_y, m_d, m_t, m_v, m_n, r_s, r_n, r_k)) hx hb hr hlocks hP hD hS (Nat.le_of_ble_eq_true rfl) (Nat.le_of_ble_eq_true rfl) rfl rfl dL_tryLine_12
    · have h := iq cE h
      by_cases cE : E = xISE
      · have h := ip cE h
        subst cE
        obtain rfl := Option.some.inj h
        refine vx_catch (name := xISE) hown [⟨0, 7, 8, 16⟩] ⟨0, 7, 13, 18⟩ [] (by rw [htab]; rfl) (fun z hz => by obtain rfl := List.mem_singleton.mp hz; exact Or.inr ⟨by decide, xIAE, lkIAE, hT.2.2.2.2⟩) (by decide) (by decide) lkISE (va_Nw.use rfl (hT.2.1 (.castable xISE xISE) (by simp [xNg]))) hce hcv hcl ?_
        refine lv_astore (lv' := [(4, .ref q9), (0, .ref c0), (1, .int x1), (2, .int x2), (3, .int x3)]) hx hb dL_tryLine_13 hl (by decide) rfl (fun ls hl => ?_)
        refine lv_sipush (v := (-200)) hx hb dL_tryLine_15 (by decide) ?_
        exact wrxi (ty := .int) (t0 := ((-200), l_a, l_b, l_c, l_n, m_x, m_y, m_d, m_t, m_v, m_n, r_s, r_n, r_k)) hx hb hr hlocks hP hD hS (Nat.le_of_ble_eq_true rfl) (Nat.le_of_ble_eq_true rfl) rfl rfl dL_tryLine_18
      · have h := iq cE h
        cases h
  · have h := hkt u hu
    obtain rfl := Option.some.inj h
    have hP : va_P G.1 vwCl (w_C G c0 l0 l1 l2 l3 m0 m1 m2 m3 m4 m5 r0 r1 r2 r3 g0 g_e u.2.1 u.2.2.1 u.2.2.2.1 u.2.2.2.2.1 u.2.2.2.2.2.1 u.2.2.2.2.2.2.1 u.2.2.2.2.2.2.2.1 u.2.2.2.2.2.2.2.2.1 u.2.2.2.2.2.2.2.2.2.1 u.2.2.2.2.2.2.2.2.2.2.1 u.2.2.2.2.2.2.2.2.2.2.2.1 u.2.2.2.2.2.2.2.2.2.2.2.2.1 r_w u.2.2.2.2.2.2.2.2.2.2.2.2.2) H := hP.sub [0, 1, 2, 3, 4, 5, 6, 7, 8, 9, 10, 11, 12, 13, 14, 15] rfl
    have hD : va_D A (w_C G c0 l0 l1 l2 l3 m0 m1 m2 m3 m4 m5 r0 r1 r2 r3 g0 g_e u.2.1 u.2.2.1 u.2.2.2.1 u.2.2.2.2.1 u.2.2.2.2.2.1 u.2.2.2.2.2.2.1 u.2.2.2.2.2.2.2.1 u.2.2.2.2.2.2.2.2.1 u.2.2.2.2.2.2.2.2.2.1 u.2.2.2.2.2.2.2.2.2.2.1 u.2.2.2.2.2.2.2.2.2.2.2.1 u.2.2.2.2.2.2.2.2.2.2.2.2.1 r_w u.2.2.2.2.2.2.2.2.2.2.2.2.2) := hD.sub [0, 1, 2, 3, 4, 5, 6, 7, 8, 9, 10, 11, 12, 13, 14, 15] rfl rfl
    exact wrxi (ty := .int) (t0 := u) hx hb hr hlocks hP hD hS (Nat.le_of_ble_eq_true rfl) (Nat.le_of_ble_eq_true rfl) rfl rfl dL_tryLine_7
