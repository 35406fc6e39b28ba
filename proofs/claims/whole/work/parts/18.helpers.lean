abbrev w_H (G : wG) (c0 l0 l1 l2 l3 m0 m1 m2 m3 m4 m5 r0 r1 r2 r3 g0 o1 : Nat) (g_e : Int64) (l_a : Nat → Int32) (l_b : Nat → Int32) (l_c : Nat → Int32) (l_n : Int32) (m_x : Nat → Int32) (m_y : Nat → Int32) (m_d : Nat → Int32) (m_t : Nat → Int32) (m_v : Nat → Int32) (m_n : Int32) (r_s : Nat → Int32) (r_n : Nat → Int32) (r_w : Nat → Int32) (r_k : Int32) (o_v : Nat → Int64) : va_W := [(c0, .inr (4, [.ref l0, .ref m0, .ref r0, .ref g0])), (l0, .inr (1, [.ref l1, .ref l2, .ref l3, .int l_n])), (l1, .inl (G.2.1, 9, .inl l_a)), (l2, .inl (G.2.1, 9, .inl l_b)), (l3, .inl (G.2.1, 9, .inl l_c)), (m0, .inr (2, [.ref m1, .ref m2, .ref m3, .ref m4, .ref m5, .int m_n])), (m1, .inl (G.2.1, 36, .inl m_x)), (m2, .inl (G.2.1, 36, .inl m_y)), (m3, .inl (G.2.1, 36, .inl m_d)), (m4, .inl (G.2.1, 36, .inl m_t)), (m5, .inl (G.2.1, 36, .inl m_v)), (r0, .inr (3, [.ref r1, .ref r2, .ref r3, .int r_k])), (r1, .inl (G.2.1, 46, .inl r_s)), (r2, .inl (G.2.1, 512, .inl r_n)), (r3, .inl (G.2.1, 512, .inl r_w)), (g0, .inr (0, [.long g_e])), (o1, .inl (G.2.2.2, 1, .inr (.inl o_v)))]
def bdc {α β : Type} (x : Option (String ⊕ β)) (ke : String → Option α) (k : β → Option α) : Option α := match x with
  | none => none
  | some (.inl e) => ke e
  | some (.inr y) => k y
theorem bdc_inv {α β : Type} {x : Option (String ⊕ β)} {ke : String → Option α} {k : β → Option α} {r : α} (h : bdc x ke k = some r) : ∃ y, x = some y ∧ (∀ e, y = .inl e → ke e = some r) ∧ (∀ z, y = .inr z → k z = some r) := by
  cases x with
  | none => cases h
  | some y => cases y with
    | inl e => exact ⟨_, rfl, fun e2 h2 => (by cases h2; exact h), fun z h2 => (by cases h2)⟩
    | inr z => exact ⟨_, rfl, fun e2 h2 => (by cases h2), fun z2 h2 => (by cases h2; exact h)⟩
theorem wXi.mkH {T : Type} {l : Launch} {G : wG} {y : MethodName} {ws ws' : List Cond} {rm : Room} {as : List Value} {w0 : va_W} {v : String ⊕ T} {w1 : T → va_W} {r : T → Int32} {mc ms : Nat} {cc : ByteArray} {maxL : Nat} {ty : FieldType} {hh : List (Nat × Nat × Nat × Nat)} (hy : plainName y.cls = true) (hw : ws = Cond.codeWith y cc maxL (some ty) hh :: ws') (hn : (lg_sl as).length ≤ maxL)
    (body : ∀ (p : Program) (e : Env) (s : State) (m : MethodId) (below : List Frame) (meth : Method) (c : Code) (A : Nat → Prop) (ls : Array Slot),
      p.tables.exec = Jvm.exec → c.code = cc → c.maxLocals = maxL → meth.sig.returnType = some ty → meth.locks = false → (∀ w ∈ ws, w.before as.toArray s = true) → s.vm.findClass y.cls = some m.cls → wK G s → (∀ q : Nat, s.heap.size ≤ q → A q) → va_P G.1 vwCl w0 s.heap → va_D A w0 → wT A s s.heap → c.exceptionTable.toList = tableOf hh → lv_has ls maxL (lv_args 0 as) →
      W p l e rm s m as.toArray below meth c s.heap [] 0 0 (wQxi G A below as.toArray s w0 v w1 r mc ms) (F0 m 0 ls [])) : wXi l G y ws rm as w0 v w1 r mc ms := by
  intro sz
  refine vx_ofWH (cc := cc) (maxL := maxL) (ret := some ty) (hh := hh) hy hw ?_
  intro p e s m args below meth c s₁ B hml hv
  obtain ⟨rfl, ⟨hsz, hP, hK, hD0⟩, hT⟩ := hv
  subst hsz
  have hl := lv_entry as (n := maxL) hn
  rw [lg_entry_eq]
  have hts := atoms_spec (ws := ws) B.pre
  exact body p e s m below meth c _ _ B.exec B.bytes hml B.returns B.notSynchronized hts (findClass_of_methodNamed B.named) hK (fun q h => Or.inr h) hP hD0.self hT (vx_table (x := y) B (hts _ (by rw [hw]; exact List.mem_cons_self))) hl

def fL_line (N : Nat) (l_a : Nat → Int32) (l_b : Nat → Int32) (l_c : Nat → Int32) (l_n : Int32) (m_x : Nat → Int32) (m_y : Nat → Int32) (m_d : Nat → Int32) (m_t : Nat → Int32) (m_v : Nat → Int32) (m_n : Int32) (r_s : Nat → Int32) (r_n : Nat → Int32) (r_k : Int32) (o_v : Nat → Int64) (x1 : Int32) (x2 : Int32) (x3 : Int32) : Option (Int32 × (Nat → Int32) × (Nat → Int32) × (Nat → Int32) × Int32 × (Nat → Int32) × (Nat → Int32) × (Nat → Int32) × (Nat → Int32) × (Nat → Int32) × Int32 × (Nat → Int32) × (Nat → Int32) × Int32 × (Nat → Int64)) := bdc (fX4_line N l_a l_b l_c l_n m_x m_y m_d m_t m_v m_n r_s r_n r_k x1 x2 x3) (fun e => if e = xIAE then some (1, l_a, l_b, l_c, l_n, m_x, m_y, m_d, m_t, m_v, m_n, r_s, r_n, r_k, o_v) else if e = xISE then some (2, l_a, l_b, l_c, l_n, m_x, m_y, m_d, m_t, m_v, m_n, r_s, r_n, r_k, o_v) else none) (fun t => some (0, t.2.1, t.2.2.1, t.2.2.2.1, t.2.2.2.2.1, t.2.2.2.2.2.1, t.2.2.2.2.2.2.1, t.2.2.2.2.2.2.2.1, t.2.2.2.2.2.2.2.2.1, t.2.2.2.2.2.2.2.2.2.1, t.2.2.2.2.2.2.2.2.2.2.1, t.2.2.2.2.2.2.2.2.2.2.2.1, t.2.2.2.2.2.2.2.2.2.2.2.2.1, t.2.2.2.2.2.2.2.2.2.2.2.2.2, (vp_updL o_v 0 (Int32.toInt64 t.1))))
set_option maxHeartbeats 4000000 in
set_option maxRecDepth 100000 in
theorem kL_line {l : Launch} (hst : l.stackTraces = false) {G : wG} (c0 l0 l1 l2 l3 m0 m1 m2 m3 m4 m5 r0 r1 r2 r3 g0 o1 : Nat) (g_e : Int64) (l_a : Nat → Int32) (l_b : Nat → Int32) (l_c : Nat → Int32) (l_n : Int32) (m_x : Nat → Int32) (m_y : Nat → Int32) (m_d : Nat → Int32) (m_t : Nat → Int32) (m_v : Nat → Int32) (m_n : Int32) (r_s : Nat → Int32) (r_n : Nat → Int32) (r_w : Nat → Int32) (r_k : Int32) (o_v : Nat → Int64) (x1 : Int32) (x2 : Int32) (x3 : Int32) (N : Nat) (v : Int32 × (Nat → Int32) × (Nat → Int32) × (Nat → Int32) × Int32 × (Nat → Int32) × (Nat → Int32) × (Nat → Int32) × (Nat → Int32) × (Nat → Int32) × Int32 × (Nat → Int32) × (Nat → Int32) × Int32 × (Nat → Int64)) (h : fL_line N l_a l_b l_c l_n m_x m_y m_d m_t m_v m_n r_s r_n r_k o_v x1 x2 x3 = some v) : wXi l G yL_line wsL_line ({ frames := 7, cells := 4, slots := 24, locals := 171 } : Room) [.ref c0, .int x1, .int x2, .int x3, .ref o1] (w_H G c0 l0 l1 l2 l3 m0 m1 m2 m3 m4 m5 r0 r1 r2 r3 g0 o1 g_e l_a l_b l_c l_n m_x m_y m_d m_t m_v m_n r_s r_n r_w r_k o_v) (.inr v) (fun t : Int32 × (Nat → Int32) × (Nat → Int32) × (Nat → Int32) × Int32 × (Nat → Int32) × (Nat → Int32) × (Nat → Int32) × (Nat → Int32) × (Nat → Int32) × Int32 × (Nat → Int32) × (Nat → Int32) × Int32 × (Nat → Int64) => (w_H G c0 l0 l1 l2 l3 m0 m1 m2 m3 m4 m5 r0 r1 r2 r3 g0 o1 g_e t.2.1 t.2.2.1 t.2.2.2.1 t.2.2.2.2.1 t.2.2.2.2.2.1 t.2.2.2.2.2.2.1 t.2.2.2.2.2.2.2.1 t.2.2.2.2.2.2.2.2.1 t.2.2.2.2.2.2.2.2.2.1 t.2.2.2.2.2.2.2.2.2.2.1 t.2.2.2.2.2.2.2.2.2.2.2.1 t.2.2.2.2.2.2.2.2.2.2.2.2.1 r_w t.2.2.2.2.2.2.2.2.2.2.2.2.2.1 t.2.2.2.2.2.2.2.2.2.2.2.2.2.2)) (fun t : Int32 × (Nat → Int32) × (Nat → Int32) × (Nat → Int32) × Int32 × (Nat → Int32) × (Nat → Int32) × (Nat → Int32) × (Nat → Int32) × (Nat → Int32) × Int32 × (Nat → Int32) × (Nat → Int32) × Int32 × (Nat → Int64) => t.1) 4 24 := by
  refine wXi.mkH (cc := cL_line) (maxL := 6) (ty := .int) (hh := [(0, 12, 15, 13), (0, 12, 19, 15)]) (by decide) rfl (Nat.le_of_ble_eq_true rfl) ?_
  intro p e s m below meth c A ls hx hb hml hr hlocks hts hown hK hA hP hD hT htab hl
  have hown : s.vm.findClass RL = some m.cls := hown
  have hS : va_S A s.heap s.heap [] := va_S.rf
  have hP : va_P G.1 vwCl (w_H G c0 l0 l1 l2 l3 m0 m1 m2 m3 m4 m5 r0 r1 r2 r3 g0 o1 g_e l_a l_b l_c l_n m_x m_y m_d m_t m_v m_n r_s r_n r_w r_k o_v) s.heap := hP
  have hD : va_D A (w_H G c0 l0 l1 l2 l3 m0 m1 m2 m3 m4 m5 r0 r1 r2 r3 g0 o1 g_e l_a l_b l_c l_n m_x m_y m_d m_t m_v m_n r_s r_n r_w r_k o_v) := hD
  have hl : lv_has ls 6 [(0, .ref c0), (1, .int x1), (2, .int x2), (3, .int x3), (4, .ref o1)] := hl
  obtain ⟨args, hargs⟩ : ∃ z : Array Value, z = ([.ref c0, .int x1, .int x2, .int x3, .ref o1] : List Value).toArray := ⟨_, rfl⟩
  rw [← hargs]
  rw [← hargs] at hts
  have lkIAE := hts (.classLink RL 13 xIAE) (by decide +kernel)
  have lkISE := hts (.classLink RL 15 xISE) (by decide +kernel)
  rw [fL_line.eq_1] at h
  refine lv_aload hx hb dL_line_0 (lv_at hl 4 rfl) ?_
  refine lv_iconst (v := 0) hx hb dL_line_2 (by decide) ?_
  refine lv_aload_n hx hb dL_line_3 rfl (lv_at hl 0 rfl) ?_
  refine lv_iload_n hx hb dL_line_4 rfl (lv_at hl 1 rfl) ?_
  refine lv_iload_n hx hb dL_line_5 rfl (lv_at hl 2 rfl) ?_
  refine lv_iload_n hx hb dL_line_6 rfl (lv_at hl 3 rfl) ?_
  obtain ⟨xu, hc, hke, hkt⟩ := bdc_inv h
  refine wafterx_i (wr := [(o1, .inl (G.2.2.2, 1, .inr (.inl o_v)))]) (vx_runV (As := [.int x1, .int x2, .int x3]) (rest := [.int 0, .ref o1]) ⟨hx, hb, hml, hown, hts⟩ (kX4_line (l := l) hst (G := G) c0 l0 l1 l2 l3 m0 m1 m2 m3 m4 m5 r0 r1 r2 r3 g0 g_e l_a l_b l_c l_n m_x m_y m_d m_t m_v m_n r_s r_n r_w r_k x1 x2 x3 N xu hc _) (cwV 3 hts gL_line_X4_line rfl rfl rfl (by decide +kernel) ⟨(Nat.le_of_ble_eq_true rfl), (Nat.le_of_ble_eq_true rfl)⟩) (wPreVX hP hD hK hS hA hT [0, 1, 2, 3, 4, 5, 6, 7, 8, 9, 10, 11, 12, 13, 14, 15] rfl rfl (ci := 4) (qb := 0) rfl rfl rfl) rfl rfl hl.1 rfl (lv_room (Nat.le_of_ble_eq_true rfl)) dL_line_7 ⟨(Nat.le_of_ble_eq_true rfl), (Nat.le_of_ble_eq_true rfl)⟩) hP hD hS hA [0, 1, 2, 3, 4, 5, 6, 7, 8, 9, 10, 11, 12, 13, 14, 15] [16] [1, 2, 3, 4, 5, 6, 7, 8, 9, 10, 11, 12, 13, 14, 15, 16, 0] rfl rfl rfl (by decide) rfl rfl (fun E ce q9 H locs he hP hD hS hce hcv hcl => ?_) (fun u H locs hu hP hD hS => ?_)
  · have h := hke E he
    by_cases cE : E = xIAE
    · have h := ip cE h
      subst cE
      obtain rfl := Option.some.inj h
      refine vx_catch (name := xIAE) hown [] ⟨0, 12, 15, 13⟩ [⟨0, 12, 19, 15⟩] (by rw [htab]; rfl) (fun z hz => by cases hz) (by decide) (by decide) lkIAE (va_Nw.use rfl (hT.2.1 (.castable xIAE xIAE) (by simp [xNg]))) hce hcv hcl ?_
      refine lv_astore (lv' := [(5, .ref q9), (0, .ref c0), (1, .int x1), (2, .int x2), (3, .int x3), (4, .ref o1)]) hx hb dL_line_15 hl (by decide) rfl (fun ls hl => ?_)
      refine lv_iconst (v := 1) hx hb dL_line_17 (by decide) ?_
      exact wrxi (ty := .int) (t0 := (1, l_a, l_b, l_c, l_n, m_x, m_y, m_d, m_t, m_v, m_n, r_s, r_n, r_k, o_v)) hx hb hr hlocks hP hD hS (Nat.le_of_ble_eq_true rfl) (Nat.le_of_ble_eq_true rfl) rfl rfl dL_line_18
    · have h := iq cE h
      by_cases cE : E = xISE
      · have h := ip cE h
        subst cE
        obtain rfl := Option.some.inj h
        refine vx_catch (name := xISE) hown [⟨0, 12, 15, 13⟩] ⟨0, 12, 19, 15⟩ [] (by rw [htab]; rfl) (fun z hz => by obtain rfl := List.mem_singleton.mp hz; exact Or.inr ⟨by decide, xIAE, lkIAE, hT.2.2.2.2.2.1⟩) (by decide) (by decide) lkISE (va_Nw.use rfl (hT.2.1 (.castable xISE xISE) (by simp [xNg]))) hce hcv hcl ?_
        refine lv_astore (lv' := [(5, .ref q9), (0, .ref c0), (1, .int x1), (2, .int x2), (3, .int x3), (4, .ref o1)]) hx hb dL_line_19 hl (by decide) rfl (fun ls hl => ?_)
        refine lv_iconst (v := 2) hx hb dL_line_21 (by decide) ?_
        exact wrxi (ty := .int) (t0 := (2, l_a, l_b, l_c, l_n, m_x, m_y, m_d, m_t, m_v, m_n, r_s, r_n, r_k, o_v)) hx hb hr hlocks hP hD hS (Nat.le_of_ble_eq_true rfl) (Nat.le_of_ble_eq_true rfl) rfl rfl dL_line_22
      · have h := iq cE h
        cases h
  · have h := hkt u hu
    obtain rfl := Option.some.inj h
    have hP : va_P G.1 vwCl (w_H G c0 l0 l1 l2 l3 m0 m1 m2 m3 m4 m5 r0 r1 r2 r3 g0 o1 g_e u.2.1 u.2.2.1 u.2.2.2.1 u.2.2.2.2.1 u.2.2.2.2.2.1 u.2.2.2.2.2.2.1 u.2.2.2.2.2.2.2.1 u.2.2.2.2.2.2.2.2.1 u.2.2.2.2.2.2.2.2.2.1 u.2.2.2.2.2.2.2.2.2.2.1 u.2.2.2.2.2.2.2.2.2.2.2.1 u.2.2.2.2.2.2.2.2.2.2.2.2.1 r_w u.2.2.2.2.2.2.2.2.2.2.2.2.2 o_v) H := hP.sub [1, 2, 3, 4, 5, 6, 7, 8, 9, 10, 11, 12, 13, 14, 15, 16, 0] rfl
    have hD : va_D A (w_H G c0 l0 l1 l2 l3 m0 m1 m2 m3 m4 m5 r0 r1 r2 r3 g0 o1 g_e u.2.1 u.2.2.1 u.2.2.2.1 u.2.2.2.2.1 u.2.2.2.2.2.1 u.2.2.2.2.2.2.1 u.2.2.2.2.2.2.2.1 u.2.2.2.2.2.2.2.2.1 u.2.2.2.2.2.2.2.2.2.1 u.2.2.2.2.2.2.2.2.2.2.1 u.2.2.2.2.2.2.2.2.2.2.2.1 u.2.2.2.2.2.2.2.2.2.2.2.2.1 r_w u.2.2.2.2.2.2.2.2.2.2.2.2.2 o_v) := hD.sub [1, 2, 3, 4, 5, 6, 7, 8, 9, 10, 11, 12, 13, 14, 15, 16, 0] rfl rfl
    refine lv_i2l hx hb dL_line_10 rfl ?_
    refine va_last hx hb hK.1 hP hD hS 16 2 rfl rfl (vp_in_nI (n := 0) (N := 1) (by omega) (by omega)) dL_line_11 (fun H locs hP hD hS => ?_)
    have hP : va_P G.1 vwCl (w_H G c0 l0 l1 l2 l3 m0 m1 m2 m3 m4 m5 r0 r1 r2 r3 g0 o1 g_e u.2.1 u.2.2.1 u.2.2.2.1 u.2.2.2.2.1 u.2.2.2.2.2.1 u.2.2.2.2.2.2.1 u.2.2.2.2.2.2.2.1 u.2.2.2.2.2.2.2.2.1 u.2.2.2.2.2.2.2.2.2.1 u.2.2.2.2.2.2.2.2.2.2.1 u.2.2.2.2.2.2.2.2.2.2.2.1 u.2.2.2.2.2.2.2.2.2.2.2.2.1 r_w u.2.2.2.2.2.2.2.2.2.2.2.2.2 ((vp_updL o_v 0 (Int32.toInt64 u.1)))) H := hP
    have hD : va_D A (w_H G c0 l0 l1 l2 l3 m0 m1 m2 m3 m4 m5 r0 r1 r2 r3 g0 o1 g_e u.2.1 u.2.2.1 u.2.2.2.1 u.2.2.2.2.1 u.2.2.2.2.2.1 u.2.2.2.2.2.2.1 u.2.2.2.2.2.2.2.1 u.2.2.2.2.2.2.2.2.1 u.2.2.2.2.2.2.2.2.2.1 u.2.2.2.2.2.2.2.2.2.2.1 u.2.2.2.2.2.2.2.2.2.2.2.1 u.2.2.2.2.2.2.2.2.2.2.2.2.1 r_w u.2.2.2.2.2.2.2.2.2.2.2.2.2 ((vp_updL o_v 0 (Int32.toInt64 u.1)))) := hD
    refine lv_goto (tgt := 23) hx hb dL_line_12 (by decide) ?_
    refine lv_iconst (v := 0) hx hb dL_line_23 (by decide) ?_
    exact wrxi (ty := .int) (t0 := (0, u.2.1, u.2.2.1, u.2.2.2.1, u.2.2.2.2.1, u.2.2.2.2.2.1, u.2.2.2.2.2.2.1, u.2.2.2.2.2.2.2.1, u.2.2.2.2.2.2.2.2.1, u.2.2.2.2.2.2.2.2.2.1, u.2.2.2.2.2.2.2.2.2.2.1, u.2.2.2.2.2.2.2.2.2.2.2.1, u.2.2.2.2.2.2.2.2.2.2.2.2.1, u.2.2.2.2.2.2.2.2.2.2.2.2.2, (vp_updL o_v 0 (Int32.toInt64 u.1)))) hx hb hr hlocks hP hD hS (Nat.le_of_ble_eq_true rfl) (Nat.le_of_ble_eq_true rfl) rfl rfl dL_line_24
def fL_takeAway (N : Nat) (l_a : Nat → Int32) (l_b : Nat → Int32) (l_c : Nat → Int32) (l_n : Int32) (m_x : Nat → Int32) (m_y : Nat → Int32) (m_d : Nat → Int32) (m_t : Nat → Int32) (m_v : Nat → Int32) (m_n : Int32) (r_s : Nat → Int32) (r_n : Nat → Int32) (r_k : Int32) (o_v : Nat → Int64) (x1 : Int32) : Option (Int32 × (Nat → Int32) × (Nat → Int32) × (Nat → Int32) × Int32 × (Nat → Int32) × (Nat → Int32) × (Nat → Int32) × (Nat → Int32) × (Nat → Int32) × Int32 × (Nat → Int32) × (Nat → Int32) × Int32 × (Nat → Int64)) := bdc (fX4_takeAway N l_a l_b l_c l_n m_x m_y m_d m_t m_v m_n r_s r_n r_k x1) (fun e => if e = xIOO then some (1, l_a, l_b, l_c, l_n, m_x, m_y, m_d, m_t, m_v, m_n, r_s, r_n, r_k, o_v) else none) (fun t => some (0, t.2.1, t.2.2.1, t.2.2.2.1, t.2.2.2.2.1, t.2.2.2.2.2.1, t.2.2.2.2.2.2.1, t.2.2.2.2.2.2.2.1, t.2.2.2.2.2.2.2.2.1, t.2.2.2.2.2.2.2.2.2.1, t.2.2.2.2.2.2.2.2.2.2.1, t.2.2.2.2.2.2.2.2.2.2.2.1, t.2.2.2.2.2.2.2.2.2.2.2.2.1, t.2.2.2.2.2.2.2.2.2.2.2.2.2, (vp_updL o_v 0 (Int32.toInt64 t.1))))
set_option maxHeartbeats 4000000 in
set_option maxRecDepth 100000 in
theorem kL_takeAway {l : Launch} (hst : l.stackTraces = false) {G : wG} (c0 l0 l1 l2 l3 m0 m1 m2 m3 m4 m5 r0 r1 r2 r3 g0 o1 : Nat) (g_e : Int64) (l_a : Nat → Int32) (l_b : Nat → Int32) (l_c : Nat → Int32) (l_n : Int32) (m_x : Nat → Int32) (m_y : Nat → Int32) (m_d : Nat → Int32) (m_t : Nat → Int32) (m_v : Nat → Int32) (m_n : Int32) (r_s : Nat → Int32) (r_n : Nat → Int32) (r_w : Nat → Int32) (r_k : Int32) (o_v : Nat → Int64) (x1 : Int32) (N : Nat) (v : Int32 × (Nat → Int32) × (Nat → Int32) × (Nat → Int32) × Int32 × (Nat → Int32) × (Nat → Int32) × (Nat → Int32) × (Nat → Int32) × (Nat → Int32) × Int32 × (Nat → Int32) × (Nat → Int32) × Int32 × (Nat → Int64)) (h : fL_takeAway N l_a l_b l_c l_n m_x m_y m_d m_t m_v m_n r_s r_n r_k o_v x1 = some v) : wXi l G yL_takeAway wsL_takeAway ({ frames := 8, cells := 4, slots := 24, locals := 169 } : Room) [.ref c0, .int x1, .ref o1] (w_H G c0 l0 l1 l2 l3 m0 m1 m2 m3 m4 m5 r0 r1 r2 r3 g0 o1 g_e l_a l_b l_c l_n m_x m_y m_d m_t m_v m_n r_s r_n r_w r_k o_v) (.inr v) (fun t : Int32 × (Nat → Int32) × (Nat → Int32) × (Nat → Int32) × Int32 × (Nat → Int32) × (Nat → Int32) × (Nat → Int32) × (Nat → Int32) × (Nat → Int32) × Int32 × (Nat → Int32) × (Nat → Int32) × Int32 × (Nat → Int64) => (w_H G c0 l0 l1 l2 l3 m0 m1 m2 m3 m4 m5 r0 r1 r2 r3 g0 o1 g_e t.2.1 t.2.2.1 t.2.2.2.1 t.2.2.2.2.1 t.2.2.2.2.2.1 t.2.2.2.2.2.2.1 t.2.2.2.2.2.2.2.1 t.2.2.2.2.2.2.2.2.1 t.2.2.2.2.2.2.2.2.2.1 t.2.2.2.2.2.2.2.2.2.2.1 t.2.2.2.2.2.2.2.2.2.2.2.1 t.2.2.2.2.2.2.2.2.2.2.2.2.1 r_w t.2.2.2.2.2.2.2.2.2.2.2.2.2.1 t.2.2.2.2.2.2.2.2.2.2.2.2.2.2)) (fun t : Int32 × (Nat → Int32) × (Nat → Int32) × (Nat → Int32) × Int32 × (Nat → Int32) × (Nat → Int32) × (Nat → Int32) × (Nat → Int32) × (Nat → Int32) × Int32 × (Nat → Int32) × (Nat → Int32) × Int32 × (Nat → Int64) => t.1) 4 24 := by
  refine wXi.mkH (cc := cL_takeAway) (maxL := 4) (ty := .int) (hh := [(0, 9, 12, 21)]) (by decide) rfl (Nat.le_of_ble_eq_true rfl) ?_
  intro p e s m below meth c A ls hx hb hml hr hlocks hts hown hK hA hP hD hT htab hl
  have hown : s.vm.findClass RL = some m.cls := hown
  have hS : va_S A s.heap s.heap [] := va_S.rf
  have hP : va_P G.1 vwCl (w_H G c0 l0 l1 l2 l3 m0 m1 m2 m3 m4 m5 r0 r1 r2 r3 g0 o1 g_e l_a l_b l_c l_n m_x m_y m_d m_t m_v m_n r_s r_n r_w r_k o_v) s.heap := hP
  have hD : va_D A (w_H G c0 l0 l1 l2 l3 m0 m1 m2 m3 m4 m5 r0 r1 r2 r3 g0 o1 g_e l_a l_b l_c l_n m_x m_y m_d m_t m_v m_n r_s r_n r_w r_k o_v) := hD
  have hl : lv_has ls 4 [(0, .ref c0), (1, .int x1), (2, .ref o1)] := hl
  obtain ⟨args, hargs⟩ : ∃ z : Array Value, z = ([.ref c0, .int x1, .ref o1] : List Value).toArray := ⟨_, rfl⟩
  rw [← hargs]
  rw [← hargs] at hts
  have lkIOO := hts (.classLink RL 21 xIOO) (by decide +kernel)
  rw [fL_takeAway.eq_1] at h
  refine lv_aload_n hx hb dL_takeAway_0 rfl (lv_at hl 2 rfl) ?_
  refine lv_iconst (v := 0) hx hb dL_takeAway_1 (by decide) ?_
  refine lv_aload_n hx hb dL_takeAway_2 rfl (lv_at hl 0 rfl) ?_
  refine lv_iload_n hx hb dL_takeAway_3 rfl (lv_at hl 1 rfl) ?_
  obtain ⟨xu, hc, hke, hkt⟩ := bdc_inv h
  refine wafterx_i (wr := [(o1, .inl (G.2.2.2, 1, .inr (.inl o_v)))]) (vx_runV (As := [.int x1]) (rest := [.int 0, .ref o1]) ⟨hx, hb, hml, hown, hts⟩ (kX4_takeAway (l := l) hst (G := G) c0 l0 l1 l2 l3 m0 m1 m2 m3 m4 m5 r0 r1 r2 r3 g0 g_e l_a l_b l_c l_n m_x m_y m_d m_t m_v m_n r_s r_n r_w r_k x1 N xu hc _) (cwV 1 hts gL_takeAway_X4_takeAway rfl rfl rfl (by decide +kernel) ⟨(Nat.le_of_ble_eq_true rfl), (Nat.le_of_ble_eq_true rfl)⟩) (wPreVX hP hD hK hS hA hT [0, 1, 2, 3, 4, 5, 6, 7, 8, 9, 10, 11, 12, 13, 14, 15] rfl rfl (ci := 4) (qb := 0) rfl rfl rfl) rfl rfl hl.1 rfl (lv_room (Nat.le_of_ble_eq_true rfl)) dL_takeAway_4 ⟨(Nat.le_of_ble_eq_true rfl), (Nat.le_of_ble_eq_true rfl)⟩) hP hD hS hA [0, 1, 2, 3, 4, 5, 6, 7, 8, 9, 10, 11, 12, 13, 14, 15] [16] [1, 2, 3, 4, 5, 6, 7, 8, 9, 10, 11, 12, 13, 14, 15, 16, 0] rfl rfl rfl (by decide) rfl rfl (fun E ce q9 H locs he hP hD hS hce hcv hcl => ?_) (fun u H locs hu hP hD hS => ?_)
  · have h := hke E he
    by_cases cE : E = xIOO
    · have h := ip cE h
      subst cE
      obtain rfl := Option.some.inj h
      refine vx_catch (name := xIOO) hown [] ⟨0, 9, 12, 21⟩ [] (by rw [htab]; rfl) (fun z hz => by cases hz) (by decide) (by decide) lkIOO (va_Nw.use rfl (hT.2.1 (.castable xIOO xIOO) (by simp [xNg]))) hce hcv hcl ?_
      refine lv_astore_n (lv' := [(3, .ref q9), (0, .ref c0), (1, .int x1), (2, .ref o1)]) hx hb dL_takeAway_12 rfl hl (by decide) rfl (fun ls hl => ?_)
      refine lv_iconst (v := 1) hx hb dL_takeAway_13 (by decide) ?_
      exact wrxi (ty := .int) (t0 := (1, l_a, l_b, l_c, l_n, m_x, m_y, m_d, m_t, m_v, m_n, r_s, r_n, r_k, o_v)) hx hb hr hlocks hP hD hS (Nat.le_of_ble_eq_true rfl) (Nat.le_of_ble_eq_true rfl) rfl rfl dL_takeAway_14
    · have h := iq cE h
      cases h
  · have h := hkt u hu
    obtain rfl := Option.some.inj h
    have hP : va_P G.1 vwCl (w_H G c0 l0 l1 l2 l3 m0 m1 m2 m3 m4 m5 r0 r1 r2 r3 g0 o1 g_e u.2.1 u.2.2.1 u.2.2.2.1 u.2.2.2.2.1 u.2.2.2.2.2.1 u.2.2.2.2.2.2.1 u.2.2.2.2.2.2.2.1 u.2.2.2.2.2.2.2.2.1 u.2.2.2.2.2.2.2.2.2.1 u.2.2.2.2.2.2.2.2.2.2.1 u.2.2.2.2.2.2.2.2.2.2.2.1 u.2.2.2.2.2.2.2.2.2.2.2.2.1 r_w u.2.2.2.2.2.2.2.2.2.2.2.2.2 o_v) H := hP.sub [1, 2, 3, 4, 5, 6, 7, 8, 9, 10, 11, 12, 13, 14, 15, 16, 0] rfl
    have hD : va_D A (w_H G c0 l0 l1 l2 l3 m0 m1 m2 m3 m4 m5 r0 r1 r2 r3 g0 o1 g_e u.2.1 u.2.2.1 u.2.2.2.1 u.2.2.2.2.1 u.2.2.2.2.2.1 u.2.2.2.2.2.2.1 u.2.2.2.2.2.2.2.1 u.2.2.2.2.2.2.2.2.1 u.2.2.2.2.2.2.2.2.2.1 u.2.2.2.2.2.2.2.2.2.2.1 u.2.2.2.2.2.2.2.2.2.2.2.1 u.2.2.2.2.2.2.2.2.2.2.2.2.1 r_w u.2.2.2.2.2.2.2.2.2.2.2.2.2 o_v) := hD.sub [1, 2, 3, 4, 5, 6, 7, 8, 9, 10, 11, 12, 13, 14, 15, 16, 0] rfl rfl
    refine lv_i2l hx hb dL_takeAway_7 rfl ?_
    refine va_last hx hb hK.1 hP hD hS 16 2 rfl rfl (vp_in_nI (n := 0) (N := 1) (by omega) (by omega)) dL_takeAway_8 (fun H locs hP hD hS => ?_)
    have hP : va_P G.1 vwCl (w_H G c0 l0 l1 l2 l3 m0 m1 m2 m3 m4 m5 r0 r1 r2 r3 g0 o1 g_e u.2.1 u.2.2.1 u.2.2.2.1 u.2.2.2.2.1 u.2.2.2.2.2.1 u.2.2.2.2.2.2.1 u.2.2.2.2.2.2.2.1 u.2.2.2.2.2.2.2.2.1 u.2.2.2.2.2.2.2.2.2.1 u.2.2.2.2.2.2.2.2.2.2.1 u.2.2.2.2.2.2.2.2.2.2.2.1 u.2.2.2.2.2.2.2.2.2.2.2.2.1 r_w u.2.2.2.2.2.2.2.2.2.2.2.2.2 ((vp_updL o_v 0 (Int32.toInt64 u.1)))) H := hP
    have hD : va_D A (w_H G c0 l0 l1 l2 l3 m0 m1 m2 m3 m4 m5 r0 r1 r2 r3 g0 o1 g_e u.2.1 u.2.2.1 u.2.2.2.1 u.2.2.2.2.1 u.2.2.2.2.2.1 u.2.2.2.2.2.2.1 u.2.2.2.2.2.2.2.1 u.2.2.2.2.2.2.2.2.1 u.2.2.2.2.2.2.2.2.2.1 u.2.2.2.2.2.2.2.2.2.2.1 u.2.2.2.2.2.2.2.2.2.2.2.1 u.2.2.2.2.2.2.2.2.2.2.2.2.1 r_w u.2.2.2.2.2.2.2.2.2.2.2.2.2 ((vp_updL o_v 0 (Int32.toInt64 u.1)))) := hD
    refine lv_goto (tgt := 15) hx hb dL_takeAway_9 (by decide) ?_
    refine lv_iconst (v := 0) hx hb dL_takeAway_15 (by decide) ?_
    exact wrxi (ty := .int) (t0 := (0, u.2.1, u.2.2.1, u.2.2.2.1, u.2.2.2.2.1, u.2.2.2.2.2.1, u.2.2.2.2.2.2.1, u.2.2.2.2.2.2.2.1, u.2.2.2.2.2.2.2.2.1, u.2.2.2.2.2.2.2.2.2.1, u.2.2.2.2.2.2.2.2.2.2.1, u.2.2.2.2.2.2.2.2.2.2.2.1, u.2.2.2.2.2.2.2.2.2.2.2.2.1, u.2.2.2.2.2.2.2.2.2.2.2.2.2, (vp_updL o_v 0 (Int32.toInt64 u.1)))) hx hb hr hlocks hP hD hS (Nat.le_of_ble_eq_true rfl) (Nat.le_of_ble_eq_true rfl) rfl rfl dL_takeAway_16
def fL_meet (N : Nat) (m_x : Nat → Int32) (m_y : Nat → Int32) (m_d : Nat → Int32) (m_t : Nat → Int32) (m_n : Int32) (o_v : Nat → Int64) (x1 : Int32) (x2 : Int32) : Option (Int32 × (Nat → Int64)) := bdc (fX4_meet N m_x m_y m_d m_t m_n x1 x2) (fun e => if e = xIOO then some (1, o_v) else if e = xIAE then some (2, o_v) else none) (fun t => some (0, (vp_updL o_v 0 (Int32.toInt64 t))))
set_option maxHeartbeats 4000000 in
set_option maxRecDepth 100000 in
theorem kL_meet {l : Launch} (hst : l.stackTraces = false) {G : wG} (c0 l0 l1 l2 l3 m0 m1 m2 m3 m4 m5 r0 r1 r2 r3 g0 o1 : Nat) (g_e : Int64) (l_a : Nat → Int32) (l_b : Nat → Int32) (l_c : Nat → Int32) (l_n : Int32) (m_x : Nat → Int32) (m_y : Nat → Int32) (m_d : Nat → Int32) (m_t : Nat → Int32) (m_v : Nat → Int32) (m_n : Int32) (r_s : Nat → Int32) (r_n : Nat → Int32) (r_w : Nat → Int32) (r_k : Int32) (o_v : Nat → Int64) (x1 : Int32) (x2 : Int32) (N : Nat) (v : Int32 × (Nat → Int64)) (h : fL_meet N m_x m_y m_d m_t m_n o_v x1 x2 = some v) : wXi l G yL_meet wsL_meet ({ frames := 8, cells := 4, slots := 24, locals := 143 } : Room) [.ref c0, .int x1, .int x2, .ref o1] (w_H G c0 l0 l1 l2 l3 m0 m1 m2 m3 m4 m5 r0 r1 r2 r3 g0 o1 g_e l_a l_b l_c l_n m_x m_y m_d m_t m_v m_n r_s r_n r_w r_k o_v) (.inr v) (fun t : Int32 × (Nat → Int64) => (w_H G c0 l0 l1 l2 l3 m0 m1 m2 m3 m4 m5 r0 r1 r2 r3 g0 o1 g_e l_a l_b l_c l_n m_x m_y m_d m_t m_v m_n r_s r_n r_w r_k t.2)) (fun t : Int32 × (Nat → Int64) => t.1) 4 24 := by
  refine wXi.mkH (cc := cL_meet) (maxL := 5) (ty := .int) (hh := [(0, 10, 13, 21), (0, 10, 17, 13)]) (by decide) rfl (Nat.le_of_ble_eq_true rfl) ?_
  intro p e s m below meth c A ls hx hb hml hr hlocks hts hown hK hA hP hD hT htab hl
  have hown : s.vm.findClass RL = some m.cls := hown
  have hS : va_S A s.heap s.heap [] := va_S.rf
  have hP : va_P G.1 vwCl (w_H G c0 l0 l1 l2 l3 m0 m1 m2 m3 m4 m5 r0 r1 r2 r3 g0 o1 g_e l_a l_b l_c l_n m_x m_y m_d m_t m_v m_n r_s r_n r_w r_k o_v) s.heap := hP
  have hD : va_D A (w_H G c0 l0 l1 l2 l3 m0 m1 m2 m3 m4 m5 r0 r1 r2 r3 g0 o1 g_e l_a l_b l_c l_n m_x m_y m_d m_t m_v m_n r_s r_n r_w r_k o_v) := hD
  have hl : lv_has ls 5 [(0, .ref c0), (1, .int x1), (2, .int x2), (3, .ref o1)] := hl
  obtain ⟨args, hargs⟩ : ∃ z : Array Value, z = ([.ref c0, .int x1, .int x2, .ref o1] : List Value).toArray := ⟨_, rfl⟩
  rw [← hargs]
  rw [← hargs] at hts
  have lkIOO := hts (.classLink RL 21 xIOO) (by decide +kernel)
  have lkIAE := hts (.classLink RL 13 xIAE) (by decide +kernel)
  rw [fL_meet.eq_1] at h
  refine lv_aload_n hx hb dL_meet_0 rfl (lv_at hl 3 rfl) ?_
  refine lv_iconst (v := 0) hx hb dL_meet_1 (by decide) ?_
  refine lv_aload_n hx hb dL_meet_2 rfl (lv_at hl 0 rfl) ?_
  refine lv_iload_n hx hb dL_meet_3 rfl (lv_at hl 1 rfl) ?_
  refine lv_iload_n hx hb dL_meet_4 rfl (lv_at hl 2 rfl) ?_
  obtain ⟨xu, hc, hke, hkt⟩ := bdc_inv h
  refine wafterx_i (wr := [(o1, .inl (G.2.2.2, 1, .inr (.inl o_v)))]) (vx_runV (As := [.int x1, .int x2]) (rest := [.int 0, .ref o1]) ⟨hx, hb, hml, hown, hts⟩ (kX4_meet (l := l) hst (G := G) c0 l0 l1 l2 l3 m0 m1 m2 m3 m4 m5 r0 r1 r2 r3 g0 g_e l_a l_b l_c l_n m_x m_y m_d m_t m_v m_n r_s r_n r_w r_k x1 x2 N xu hc _) (cwV 2 hts gL_meet_X4_meet rfl rfl rfl (by decide +kernel) ⟨(Nat.le_of_ble_eq_true rfl), (Nat.le_of_ble_eq_true rfl)⟩) (wPreVX hP hD hK hS hA hT [0, 1, 2, 3, 4, 5, 6, 7, 8, 9, 10, 11, 12, 13, 14, 15] rfl rfl (ci := 4) (qb := 0) rfl rfl rfl) rfl rfl hl.1 rfl (lv_room (Nat.le_of_ble_eq_true rfl)) dL_meet_5 ⟨(Nat.le_of_ble_eq_true rfl), (Nat.le_of_ble_eq_true rfl)⟩) hP hD hS hA [0, 1, 2, 3, 4, 5, 6, 7, 8, 9, 10, 11, 12, 13, 14, 15] [16] [1, 2, 3, 4, 5, 6, 7, 8, 9, 10, 11, 12, 13, 14, 15, 16, 0] rfl rfl rfl (by decide) rfl rfl (fun E ce q9 H locs he hP hD hS hce hcv hcl => ?_) (fun u H locs hu hP hD hS => ?_)
  · have h := hke E he
    by_cases cE : E = xIOO
    · have h := ip cE h
      subst cE
      obtain rfl := Option.some.inj h
      refine vx_catch (name := xIOO) hown [] ⟨0, 10, 13, 21⟩ [⟨0, 10, 17, 13⟩] (by rw [htab]; rfl) (fun z hz => by cases hz) (by decide) (by decide) lkIOO (va_Nw.use rfl (hT.2.1 (.castable xIOO xIOO) (by simp [xNg]))) hce hcv hcl ?_
      refine lv_astore (lv' := [(4, .ref q9), (0, .ref c0), (1, .int x1), (2, .int x2), (3, .ref o1)]) hx hb dL_meet_13 hl (by decide) rfl (fun ls hl => ?_)
      refine lv_iconst (v := 1) hx hb dL_meet_15 (by decide) ?_
      exact wrxi (ty := .int) (t0 := (1, o_v)) hx hb hr hlocks hP hD hS (Nat.le_of_ble_eq_true rfl) (Nat.le_of_ble_eq_true rfl) rfl rfl dL_meet_16
    · have h := iq cE h
      by_cases cE : E = xIAE
      · have h := ip cE h
        subst cE
        obtain rfl := Option.some.inj h
        refine vx_catch (name := xIAE) hown [⟨0, 10, 13, 21⟩] ⟨0, 10, 17, 13⟩ [] (by rw [htab]; rfl) (fun z hz => by obtain rfl := List.mem_singleton.mp hz; exact Or.inr ⟨by decide, xIOO, lkIOO, hT.2.2.2.2.2.2⟩) (by decide) (by decide) lkIAE (va_Nw.use rfl (hT.2.1 (.castable xIAE xIAE) (by simp [xNg]))) hce hcv hcl ?_
        refine lv_astore (lv' := [(4, .ref q9), (0, .ref c0), (1, .int x1), (2, .int x2), (3, .ref o1)]) hx hb dL_meet_17 hl (by decide) rfl (fun ls hl => ?_)
        refine lv_iconst (v := 2) hx hb dL_meet_19 (by decide) ?_
        exact wrxi (ty := .int) (t0 := (2, o_v)) hx hb hr hlocks hP hD hS (Nat.le_of_ble_eq_true rfl) (Nat.le_of_ble_eq_true rfl) rfl rfl dL_meet_20
      · have h := iq cE h
        cases h
  · have h := hkt u hu
    obtain rfl := Option.some.inj h
    have hP : va_P G.1 vwCl (w_H G c0 l0 l1 l2 l3 m0 m1 m2 m3 m4 m5 r0 r1 r2 r3 g0 o1 g_e l_a l_b l_c l_n m_x m_y m_d m_t m_v m_n r_s r_n r_w r_k o_v) H := hP.sub [1, 2, 3, 4, 5, 6, 7, 8, 9, 10, 11, 12, 13, 14, 15, 16, 0] rfl
    have hD : va_D A (w_H G c0 l0 l1 l2 l3 m0 m1 m2 m3 m4 m5 r0 r1 r2 r3 g0 o1 g_e l_a l_b l_c l_n m_x m_y m_d m_t m_v m_n r_s r_n r_w r_k o_v) := hD.sub [1, 2, 3, 4, 5, 6, 7, 8, 9, 10, 11, 12, 13, 14, 15, 16, 0] rfl rfl
    refine lv_i2l hx hb dL_meet_8 rfl ?_
    refine va_last hx hb hK.1 hP hD hS 16 2 rfl rfl (vp_in_nI (n := 0) (N := 1) (by omega) (by omega)) dL_meet_9 (fun H locs hP hD hS => ?_)
    have hP : va_P G.1 vwCl (w_H G c0 l0 l1 l2 l3 m0 m1 m2 m3 m4 m5 r0 r1 r2 r3 g0 o1 g_e l_a l_b l_c l_n m_x m_y m_d m_t m_v m_n r_s r_n r_w r_k ((vp_updL o_v 0 (Int32.toInt64 u)))) H := hP
    have hD : va_D A (w_H G c0 l0 l1 l2 l3 m0 m1 m2 m3 m4 m5 r0 r1 r2 r3 g0 o1 g_e l_a l_b l_c l_n m_x m_y m_d m_t m_v m_n r_s r_n r_w r_k ((vp_updL o_v 0 (Int32.toInt64 u)))) := hD
    refine lv_goto (tgt := 21) hx hb dL_meet_10 (by decide) ?_
    refine lv_iconst (v := 0) hx hb dL_meet_21 (by decide) ?_
    exact wrxi (ty := .int) (t0 := (0, (vp_updL o_v 0 (Int32.toInt64 u)))) hx hb hr hlocks hP hD hS (Nat.le_of_ble_eq_true rfl) (Nat.le_of_ble_eq_true rfl) rfl rfl dL_meet_22
def fL_polynomial (N : Nat) (l_n : Int32) (m_t : Nat → Int32) (m_n : Int32) (o_v : Nat → Int64) (x1 : Int32) : Option (Int32 × (Nat → Int64)) := bdc (fX4_polynomial N l_n m_t m_n x1) (fun e => if e = xIAE then some (1, o_v) else none) (fun t => some (0, (vp_updL o_v 0 (Int32.toInt64 t))))
set_option maxHeartbeats 4000000 in
set_option maxRecDepth 100000 in
theorem kL_polynomial {l : Launch} (hst : l.stackTraces = false) {G : wG} (c0 l0 l1 l2 l3 m0 m1 m2 m3 m4 m5 r0 r1 r2 r3 g0 o1 : Nat) (g_e : Int64) (l_a : Nat → Int32) (l_b : Nat → Int32) (l_c : Nat → Int32) (l_n : Int32) (m_x : Nat → Int32) (m_y : Nat → Int32) (m_d : Nat → Int32) (m_t : Nat → Int32) (m_v : Nat → Int32) (m_n : Int32) (r_s : Nat → Int32) (r_n : Nat → Int32) (r_w : Nat → Int32) (r_k : Int32) (o_v : Nat → Int64) (x1 : Int32) (N : Nat) (v : Int32 × (Nat → Int64)) (h : fL_polynomial N l_n m_t m_n o_v x1 = some v) : wXi l G yL_polynomial wsL_polynomial ({ frames := 8, cells := 4, slots := 24, locals := 141 } : Room) [.ref c0, .int x1, .ref o1] (w_H G c0 l0 l1 l2 l3 m0 m1 m2 m3 m4 m5 r0 r1 r2 r3 g0 o1 g_e l_a l_b l_c l_n m_x m_y m_d m_t m_v m_n r_s r_n r_w r_k o_v) (.inr v) (fun t : Int32 × (Nat → Int64) => (w_H G c0 l0 l1 l2 l3 m0 m1 m2 m3 m4 m5 r0 r1 r2 r3 g0 o1 g_e l_a l_b l_c l_n m_x m_y m_d m_t m_v m_n r_s r_n r_w r_k t.2)) (fun t : Int32 × (Nat → Int64) => t.1) 4 24 := by
  refine wXi.mkH (cc := cL_polynomial) (maxL := 4) (ty := .int) (hh := [(0, 9, 12, 13)]) (by decide) rfl (Nat.le_of_ble_eq_true rfl) ?_
  intro p e s m below meth c A ls hx hb hml hr hlocks hts hown hK hA hP hD hT htab hl
  have hown : s.vm.findClass RL = some m.cls := hown
  have hS : va_S A s.heap s.heap [] := va_S.rf
  have hP : va_P G.1 vwCl (w_H G c0 l0 l1 l2 l3 m0 m1 m2 m3 m4 m5 r0 r1 r2 r3 g0 o1 g_e l_a l_b l_c l_n m_x m_y m_d m_t m_v m_n r_s r_n r_w r_k o_v) s.heap := hP
  have hD : va_D A (w_H G c0 l0 l1 l2 l3 m0 m1 m2 m3 m4 m5 r0 r1 r2 r3 g0 o1 g_e l_a l_b l_c l_n m_x m_y m_d m_t m_v m_n r_s r_n r_w r_k o_v) := hD
  have hl : lv_has ls 4 [(0, .ref c0), (1, .int x1), (2, .ref o1)] := hl
  obtain ⟨args, hargs⟩ : ∃ z : Array Value, z = ([.ref c0, .int x1, .ref o1] : List Value).toArray := ⟨_, rfl⟩
  rw [← hargs]
  rw [← hargs] at hts
  have lkIAE := hts (.classLink RL 13 xIAE) (by decide +kernel)
  rw [fL_polynomial.eq_1] at h
  refine lv_aload_n hx hb dL_polynomial_0 rfl (lv_at hl 2 rfl) ?_
  refine lv_iconst (v := 0) hx hb dL_polynomial_1 (by decide) ?_
  refine lv_aload_n hx hb dL_polynomial_2 rfl (lv_at hl 0 rfl) ?_
  refine lv_iload_n hx hb dL_polynomial_3 rfl (lv_at hl 1 rfl) ?_
  obtain ⟨xu, hc, hke, hkt⟩ := bdc_inv h
  refine wafterx_i (wr := [(o1, .inl (G.2.2.2, 1, .inr (.inl o_v)))]) (vx_runV (As := [.int x1]) (rest := [.int 0, .ref o1]) ⟨hx, hb, hml, hown, hts⟩ (kX4_polynomial (l := l) hst (G := G) c0 l0 l1 l2 l3 m0 m1 m2 m3 m4 m5 r0 r1 r2 r3 g0 g_e l_a l_b l_c l_n m_x m_y m_d m_t m_v m_n r_s r_n r_w r_k x1 N xu hc _) (cwV 1 hts gL_polynomial_X4_polynomial rfl rfl rfl (by decide +kernel) ⟨(Nat.le_of_ble_eq_true rfl), (Nat.le_of_ble_eq_true rfl)⟩) (wPreVX hP hD hK hS hA hT [0, 1, 2, 3, 4, 5, 6, 7, 8, 9, 10, 11, 12, 13, 14, 15] rfl rfl (ci := 4) (qb := 0) rfl rfl rfl) rfl rfl hl.1 rfl (lv_room (Nat.le_of_ble_eq_true rfl)) dL_polynomial_4 ⟨(Nat.le_of_ble_eq_true rfl), (Nat.le_of_ble_eq_true rfl)⟩) hP hD hS hA [0, 1, 2, 3, 4, 5, 6, 7, 8, 9, 10, 11, 12, 13, 14, 15] [16] [1, 2, 3, 4, 5, 6, 7, 8, 9, 10, 11, 12, 13, 14, 15, 16, 0] rfl rfl rfl (by decide) rfl rfl (fun E ce q9 H locs he hP hD hS hce hcv hcl => ?_) (fun u H locs hu hP hD hS => ?_)
  · have h := hke E he
    by_cases cE : E = xIAE
    · have h := ip cE h
      subst cE
      obtain rfl := Option.some.inj h
      refine vx_catch (name := xIAE) hown [] ⟨0, 9, 12, 13⟩ [] (by rw [htab]; rfl) (fun z hz => by cases hz) (by decide) (by decide) lkIAE (va_Nw.use rfl (hT.2.1 (.castable xIAE xIAE) (by simp [xNg]))) hce hcv hcl ?_
      refine lv_astore_n (lv' := [(3, .ref q9), (0, .ref c0), (1, .int x1), (2, .ref o1)]) hx hb dL_polynomial_12 rfl hl (by decide) rfl (fun ls hl => ?_)
      refine lv_iconst (v := 1) hx hb dL_polynomial_13 (by decide) ?_
      exact wrxi (ty := .int) (t0 := (1, o_v)) hx hb hr hlocks hP hD hS (Nat.le_of_ble_eq_true rfl) (Nat.le_of_ble_eq_true rfl) rfl rfl dL_polynomial_14
    · have h := iq cE h
      cases h
  · have h := hkt u hu
    obtain rfl := Option.some.inj h
    have hP : va_P G.1 vwCl (w_H G c0 l0 l1 l2 l3 m0 m1 m2 m3 m4 m5 r0 r1 r2 r3 g0 o1 g_e l_a l_b l_c l_n m_x m_y m_d m_t m_v m_n r_s r_n r_w r_k o_v) H := hP.sub [1, 2, 3, 4, 5, 6, 7, 8, 9, 10, 11, 12, 13, 14, 15, 16, 0] rfl
    have hD : va_D A (w_H G c0 l0 l1 l2 l3 m0 m1 m2 m3 m4 m5 r0 r1 r2 r3 g0 o1 g_e l_a l_b l_c l_n m_x m_y m_d m_t m_v m_n r_s r_n r_w r_k o_v) := hD.sub [1, 2, 3, 4, 5, 6, 7, 8, 9, 10, 11, 12, 13, 14, 15, 16, 0] rfl rfl
    refine lv_i2l hx hb dL_polynomial_7 rfl ?_
    refine va_last hx hb hK.1 hP hD hS 16 2 rfl rfl (vp_in_nI (n := 0) (N := 1) (by omega) (by omega)) dL_polynomial_8 (fun H locs hP hD hS => ?_)
    have hP : va_P G.1 vwCl (w_H G c0 l0 l1 l2 l3 m0 m1 m2 m3 m4 m5 r0 r1 r2 r3 g0 o1 g_e l_a l_b l_c l_n m_x m_y m_d m_t m_v m_n r_s r_n r_w r_k ((vp_updL o_v 0 (Int32.toInt64 u)))) H := hP
    have hD : va_D A (w_H G c0 l0 l1 l2 l3 m0 m1 m2 m3 m4 m5 r0 r1 r2 r3 g0 o1 g_e l_a l_b l_c l_n m_x m_y m_d m_t m_v m_n r_s r_n r_w r_k ((vp_updL o_v 0 (Int32.toInt64 u)))) := hD
    refine lv_goto (tgt := 15) hx hb dL_polynomial_9 (by decide) ?_
    refine lv_iconst (v := 0) hx hb dL_polynomial_15 (by decide) ?_
    exact wrxi (ty := .int) (t0 := (0, (vp_updL o_v 0 (Int32.toInt64 u)))) hx hb hr hlocks hP hD hS (Nat.le_of_ble_eq_true rfl) (Nat.le_of_ble_eq_true rfl) rfl rfl dL_polynomial_16
def fL_polynomialAnew (N : Nat) (l_a : Nat → Int32) (l_b : Nat → Int32) (l_c : Nat → Int32) (l_n : Int32) (o_v : Nat → Int64) (x1 : Int32) : Option (Int32 × (Nat → Int64)) := bdc (fX4_polynomialAnew N l_a l_b l_c l_n x1) (fun e => if e = xIAE then some (1, o_v) else none) (fun t => some (0, (vp_updL o_v 0 (Int32.toInt64 t))))
set_option maxHeartbeats 4000000 in
set_option maxRecDepth 100000 in
theorem kL_polynomialAnew {l : Launch} (hst : l.stackTraces = false) {G : wG} (c0 l0 l1 l2 l3 m0 m1 m2 m3 m4 m5 r0 r1 r2 r3 g0 o1 : Nat) (g_e : Int64) (l_a : Nat → Int32) (l_b : Nat → Int32) (l_c : Nat → Int32) (l_n : Int32) (m_x : Nat → Int32) (m_y : Nat → Int32) (m_d : Nat → Int32) (m_t : Nat → Int32) (m_v : Nat → Int32) (m_n : Int32) (r_s : Nat → Int32) (r_n : Nat → Int32) (r_w : Nat → Int32) (r_k : Int32) (o_v : Nat → Int64) (x1 : Int32) (N : Nat) (v : Int32 × (Nat → Int64)) (h : fL_polynomialAnew N l_a l_b l_c l_n o_v x1 = some v) : wXi l G yL_polynomialAnew wsL_polynomialAnew ({ frames := 8, cells := 4, slots := 24, locals := 143 } : Room) [.ref c0, .int x1, .ref o1] (w_H G c0 l0 l1 l2 l3 m0 m1 m2 m3 m4 m5 r0 r1 r2 r3 g0 o1 g_e l_a l_b l_c l_n m_x m_y m_d m_t m_v m_n r_s r_n r_w r_k o_v) (.inr v) (fun t : Int32 × (Nat → Int64) => (w_H G c0 l0 l1 l2 l3 m0 m1 m2 m3 m4 m5 r0 r1 r2 r3 g0 o1 g_e l_a l_b l_c l_n m_x m_y m_d m_t m_v m_n r_s r_n r_w r_k t.2)) (fun t : Int32 × (Nat → Int64) => t.1) 4 24 := by
  refine wXi.mkH (cc := cL_polynomialAnew) (maxL := 4) (ty := .int) (hh := [(0, 9, 12, 13)]) (by decide) rfl (Nat.le_of_ble_eq_true rfl) ?_
  intro p e s m below meth c A ls hx hb hml hr hlocks hts hown hK hA hP hD hT htab hl
  have hown : s.vm.findClass RL = some m.cls := hown
  have hS : va_S A s.heap s.heap [] := va_S.rf
  have hP : va_P G.1 vwCl (w_H G c0 l0 l1 l2 l3 m0 m1 m2 m3 m4 m5 r0 r1 r2 r3 g0 o1 g_e l_a l_b l_c l_n m_x m_y m_d m_t m_v m_n r_s r_n r_w r_k o_v) s.heap := hP
  have hD : va_D A (w_H G c0 l0 l1 l2 l3 m0 m1 m2 m3 m4 m5 r0 r1 r2 r3 g0 o1 g_e l_a l_b l_c l_n m_x m_y m_d m_t m_v m_n r_s r_n r_w r_k o_v) := hD
  have hl : lv_has ls 4 [(0, .ref c0), (1, .int x1), (2, .ref o1)] := hl
  obtain ⟨args, hargs⟩ : ∃ z : Array Value, z = ([.ref c0, .int x1, .ref o1] : List Value).toArray := ⟨_, rfl⟩
  rw [← hargs]
  rw [← hargs] at hts
  have lkIAE := hts (.classLink RL 13 xIAE) (by decide +kernel)
  rw [fL_polynomialAnew.eq_1] at h
  refine lv_aload_n hx hb dL_polynomialAnew_0 rfl (lv_at hl 2 rfl) ?_
  refine lv_iconst (v := 0) hx hb dL_polynomialAnew_1 (by decide) ?_
  refine lv_aload_n hx hb dL_polynomialAnew_2 rfl (lv_at hl 0 rfl) ?_
  refine lv_iload_n hx hb dL_polynomialAnew_3 rfl (lv_at hl 1 rfl) ?_
  obtain ⟨xu, hc, hke, hkt⟩ := bdc_inv h
  refine wafterx_i (wr := [(o1, .inl (G.2.2.2, 1, .inr (.inl o_v)))]) (vx_runV (As := [.int x1]) (rest := [.int 0, .ref o1]) ⟨hx, hb, hml, hown, hts⟩ (kX4_polynomialAnew (l := l) hst (G := G) c0 l0 l1 l2 l3 m0 m1 m2 m3 m4 m5 r0 r1 r2 r3 g0 g_e l_a l_b l_c l_n m_x m_y m_d m_t m_v m_n r_s r_n r_w r_k x1 N xu hc _) (cwV 1 hts gL_polynomialAnew_X4_polynomialAnew rfl rfl rfl (by decide +kernel) ⟨(Nat.le_of_ble_eq_true rfl), (Nat.le_of_ble_eq_true rfl)⟩) (wPreVX hP hD hK hS hA hT [0, 1, 2, 3, 4, 5, 6, 7, 8, 9, 10, 11, 12, 13, 14, 15] rfl rfl (ci := 4) (qb := 0) rfl rfl rfl) rfl rfl hl.1 rfl (lv_room (Nat.le_of_ble_eq_true rfl)) dL_polynomialAnew_4 ⟨(Nat.le_of_ble_eq_true rfl), (Nat.le_of_ble_eq_true rfl)⟩) hP hD hS hA [0, 1, 2, 3, 4, 5, 6, 7, 8, 9, 10, 11, 12, 13, 14, 15] [16] [1, 2, 3, 4, 5, 6, 7, 8, 9, 10, 11, 12, 13, 14, 15, 16, 0] rfl rfl rfl (by decide) rfl rfl (fun E ce q9 H locs he hP hD hS hce hcv hcl => ?_) (fun u H locs hu hP hD hS => ?_)
  · have h := hke E he
    by_cases cE : E = xIAE
    · have h := ip cE h
      subst cE
      obtain rfl := Option.some.inj h
      refine vx_catch (name := xIAE) hown [] ⟨0, 9, 12, 13⟩ [] (by rw [htab]; rfl) (fun z hz => by cases hz) (by decide) (by decide) lkIAE (va_Nw.use rfl (hT.2.1 (.castable xIAE xIAE) (by simp [xNg]))) hce hcv hcl ?_
      refine lv_astore_n (lv' := [(3, .ref q9), (0, .ref c0), (1, .int x1), (2, .ref o1)]) hx hb dL_polynomialAnew_12 rfl hl (by decide) rfl (fun ls hl => ?_)
      refine lv_iconst (v := 1) hx hb dL_polynomialAnew_13 (by decide) ?_
      exact wrxi (ty := .int) (t0 := (1, o_v)) hx hb hr hlocks hP hD hS (Nat.le_of_ble_eq_true rfl) (Nat.le_of_ble_eq_true rfl) rfl rfl dL_polynomialAnew_14
    · have h := iq cE h
      cases h
  · have h := hkt u hu
    obtain rfl := Option.some.inj h
    have hP : va_P G.1 vwCl (w_H G c0 l0 l1 l2 l3 m0 m1 m2 m3 m4 m5 r0 r1 r2 r3 g0 o1 g_e l_a l_b l_c l_n m_x m_y m_d m_t m_v m_n r_s r_n r_w r_k o_v) H := hP.sub [1, 2, 3, 4, 5, 6, 7, 8, 9, 10, 11, 12, 13, 14, 15, 16, 0] rfl
    have hD : va_D A (w_H G c0 l0 l1 l2 l3 m0 m1 m2 m3 m4 m5 r0 r1 r2 r3 g0 o1 g_e l_a l_b l_c l_n m_x m_y m_d m_t m_v m_n r_s r_n r_w r_k o_v) := hD.sub [1, 2, 3, 4, 5, 6, 7, 8, 9, 10, 11, 12, 13, 14, 15, 16, 0] rfl rfl
    refine lv_i2l hx hb dL_polynomialAnew_7 rfl ?_
    refine va_last hx hb hK.1 hP hD hS 16 2 rfl rfl (vp_in_nI (n := 0) (N := 1) (by omega) (by omega)) dL_polynomialAnew_8 (fun H locs hP hD hS => ?_)
    have hP : va_P G.1 vwCl (w_H G c0 l0 l1 l2 l3 m0 m1 m2 m3 m4 m5 r0 r1 r2 r3 g0 o1 g_e l_a l_b l_c l_n m_x m_y m_d m_t m_v m_n r_s r_n r_w r_k ((vp_updL o_v 0 (Int32.toInt64 u)))) H := hP
    have hD : va_D A (w_H G c0 l0 l1 l2 l3 m0 m1 m2 m3 m4 m5 r0 r1 r2 r3 g0 o1 g_e l_a l_b l_c l_n m_x m_y m_d m_t m_v m_n r_s r_n r_w r_k ((vp_updL o_v 0 (Int32.toInt64 u)))) := hD
    refine lv_goto (tgt := 15) hx hb dL_polynomialAnew_9 (by decide) ?_
    refine lv_iconst (v := 0) hx hb dL_polynomialAnew_15 (by decide) ?_
    exact wrxi (ty := .int) (t0 := (0, (vp_updL o_v 0 (Int32.toInt64 u)))) hx hb hr hlocks hP hD hS (Nat.le_of_ble_eq_true rfl) (Nat.le_of_ble_eq_true rfl) rfl rfl dL_polynomialAnew_16
def fL_points (N : Nat) (l_a : Nat → Int32) (l_b : Nat → Int32) (l_c : Nat → Int32) (l_n : Int32) (o_v : Nat → Int64) (x1 : Int32) : Option (Int32 × (Nat → Int64)) := bdc (fX4_points N l_a l_b l_c l_n x1) (fun e => if e = xIAE then some (1, o_v) else none) (fun t => some (0, (vp_updL o_v 0 (Int32.toInt64 t))))
set_option maxHeartbeats 4000000 in
set_option maxRecDepth 100000 in
theorem kL_points {l : Launch} (hst : l.stackTraces = false) {G : wG} (c0 l0 l1 l2 l3 m0 m1 m2 m3 m4 m5 r0 r1 r2 r3 g0 o1 : Nat) (g_e : Int64) (l_a : Nat → Int32) (l_b : Nat → Int32) (l_c : Nat → Int32) (l_n : Int32) (m_x : Nat → Int32) (m_y : Nat → Int32) (m_d : Nat → Int32) (m_t : Nat → Int32) (m_v : Nat → Int32) (m_n : Int32) (r_s : Nat → Int32) (r_n : Nat → Int32) (r_w : Nat → Int32) (r_k : Int32) (o_v : Nat → Int64) (x1 : Int32) (N : Nat) (v : Int32 × (Nat → Int64)) (h : fL_points N l_a l_b l_c l_n o_v x1 = some v) : wXi l G yL_points wsL_points ({ frames := 7, cells := 4, slots := 24, locals := 124 } : Room) [.ref c0, .int x1, .ref o1] (w_H G c0 l0 l1 l2 l3 m0 m1 m2 m3 m4 m5 r0 r1 r2 r3 g0 o1 g_e l_a l_b l_c l_n m_x m_y m_d m_t m_v m_n r_s r_n r_w r_k o_v) (.inr v) (fun t : Int32 × (Nat → Int64) => (w_H G c0 l0 l1 l2 l3 m0 m1 m2 m3 m4 m5 r0 r1 r2 r3 g0 o1 g_e l_a l_b l_c l_n m_x m_y m_d m_t m_v m_n r_s r_n r_w r_k t.2)) (fun t : Int32 × (Nat → Int64) => t.1) 4 24 := by
  refine wXi.mkH (cc := cL_points) (maxL := 4) (ty := .int) (hh := [(0, 9, 12, 13)]) (by decide) rfl (Nat.le_of_ble_eq_true rfl) ?_
  intro p e s m below meth c A ls hx hb hml hr hlocks hts hown hK hA hP hD hT htab hl
  have hown : s.vm.findClass RL = some m.cls := hown
  have hS : va_S A s.heap s.heap [] := va_S.rf
  have hP : va_P G.1 vwCl (w_H G c0 l0 l1 l2 l3 m0 m1 m2 m3 m4 m5 r0 r1 r2 r3 g0 o1 g_e l_a l_b l_c l_n m_x m_y m_d m_t m_v m_n r_s r_n r_w r_k o_v) s.heap := hP
  have hD : va_D A (w_H G c0 l0 l1 l2 l3 m0 m1 m2 m3 m4 m5 r0 r1 r2 r3 g0 o1 g_e l_a l_b l_c l_n m_x m_y m_d m_t m_v m_n r_s r_n r_w r_k o_v) := hD
  have hl : lv_has ls 4 [(0, .ref c0), (1, .int x1), (2, .ref o1)] := hl
  obtain ⟨args, hargs⟩ : ∃ z : Array Value, z = ([.ref c0, .int x1, .ref o1] : List Value).toArray := ⟨_, rfl⟩
  rw [← hargs]
  rw [← hargs] at hts
  have lkIAE := hts (.classLink RL 13 xIAE) (by decide +kernel)
  rw [fL_points.eq_1] at h
  refine lv_aload_n hx hb dL_points_0 rfl (lv_at hl 2 rfl) ?_
  refine lv_iconst (v := 0) hx hb dL_points_1 (by decide) ?_
  refine lv_aload_n hx hb dL_points_2 rfl (lv_at hl 0 rfl) ?_
  refine lv_iload_n hx hb dL_points_3 rfl (lv_at hl 1 rfl) ?_
  obtain ⟨xu, hc, hke, hkt⟩ := bdc_inv h
  refine wafterx_i (wr := [(o1, .inl (G.2.2.2, 1, .inr (.inl o_v)))]) (vx_runV (As := [.int x1]) (rest := [.int 0, .ref o1]) ⟨hx, hb, hml, hown, hts⟩ (kX4_points (l := l) hst (G := G) c0 l0 l1 l2 l3 m0 m1 m2 m3 m4 m5 r0 r1 r2 r3 g0 g_e l_a l_b l_c l_n m_x m_y m_d m_t m_v m_n r_s r_n r_w r_k x1 N xu hc _) (cwV 1 hts gL_points_X4_points rfl rfl rfl (by decide +kernel) ⟨(Nat.le_of_ble_eq_true rfl), (Nat.le_of_ble_eq_true rfl)⟩) (wPreVX hP hD hK hS hA hT [0, 1, 2, 3, 4, 5, 6, 7, 8, 9, 10, 11, 12, 13, 14, 15] rfl rfl (ci := 4) (qb := 0) rfl rfl rfl) rfl rfl hl.1 rfl (lv_room (Nat.le_of_ble_eq_true rfl)) dL_points_4 ⟨(Nat.le_of_ble_eq_true rfl), (Nat.le_of_ble_eq_true rfl)⟩) hP hD hS hA [0, 1, 2, 3, 4, 5, 6, 7, 8, 9, 10, 11, 12, 13, 14, 15] [16] [1, 2, 3, 4, 5, 6, 7, 8, 9, 10, 11, 12, 13, 14, 15, 16, 0] rfl rfl rfl (by decide) rfl rfl (fun E ce q9 H locs he hP hD hS hce hcv hcl => ?_) (fun u H locs hu hP hD hS => ?_)
  · have h := hke E he
    by_cases cE : E = xIAE
    · have h := ip cE h
      subst cE
      obtain rfl := Option.some.inj h
      refine vx_catch (name := xIAE) hown [] ⟨0, 9, 12, 13⟩ [] (by rw [htab]; rfl) (fun z hz => by cases hz) (by decide) (by decide) lkIAE (va_Nw.use rfl (hT.2.1 (.castable xIAE xIAE) (by simp [xNg]))) hce hcv hcl ?_
      refine lv_astore_n (lv' := [(3, .ref q9), (0, .ref c0), (1, .int x1), (2, .ref o1)]) hx hb dL_points_12 rfl hl (by decide) rfl (fun ls hl => ?_)
      refine lv_iconst (v := 1) hx hb dL_points_13 (by decide) ?_
      exact wrxi (ty := .int) (t0 := (1, o_v)) hx hb hr hlocks hP hD hS (Nat.le_of_ble_eq_true rfl) (Nat.le_of_ble_eq_true rfl) rfl rfl dL_points_14
    · have h := iq cE h
      cases h
  · have h := hkt u hu
    obtain rfl := Option.some.inj h
    have hP : va_P G.1 vwCl (w_H G c0 l0 l1 l2 l3 m0 m1 m2 m3 m4 m5 r0 r1 r2 r3 g0 o1 g_e l_a l_b l_c l_n m_x m_y m_d m_t m_v m_n r_s r_n r_w r_k o_v) H := hP.sub [1, 2, 3, 4, 5, 6, 7, 8, 9, 10, 11, 12, 13, 14, 15, 16, 0] rfl
    have hD : va_D A (w_H G c0 l0 l1 l2 l3 m0 m1 m2 m3 m4 m5 r0 r1 r2 r3 g0 o1 g_e l_a l_b l_c l_n m_x m_y m_d m_t m_v m_n r_s r_n r_w r_k o_v) := hD.sub [1, 2, 3, 4, 5, 6, 7, 8, 9, 10, 11, 12, 13, 14, 15, 16, 0] rfl rfl
    refine lv_i2l hx hb dL_points_7 rfl ?_
    refine va_last hx hb hK.1 hP hD hS 16 2 rfl rfl (vp_in_nI (n := 0) (N := 1) (by omega) (by omega)) dL_points_8 (fun H locs hP hD hS => ?_)
    have hP : va_P G.1 vwCl (w_H G c0 l0 l1 l2 l3 m0 m1 m2 m3 m4 m5 r0 r1 r2 r3 g0 o1 g_e l_a l_b l_c l_n m_x m_y m_d m_t m_v m_n r_s r_n r_w r_k ((vp_updL o_v 0 (Int32.toInt64 u)))) H := hP
    have hD : va_D A (w_H G c0 l0 l1 l2 l3 m0 m1 m2 m3 m4 m5 r0 r1 r2 r3 g0 o1 g_e l_a l_b l_c l_n m_x m_y m_d m_t m_v m_n r_s r_n r_w r_k ((vp_updL o_v 0 (Int32.toInt64 u)))) := hD
    refine lv_goto (tgt := 15) hx hb dL_points_9 (by decide) ?_
    refine lv_iconst (v := 0) hx hb dL_points_15 (by decide) ?_
    exact wrxi (ty := .int) (t0 := (0, (vp_updL o_v 0 (Int32.toInt64 u)))) hx hb hr hlocks hP hD hS (Nat.le_of_ble_eq_true rfl) (Nat.le_of_ble_eq_true rfl) rfl rfl dL_points_16
def fL_room (N : Nat) (l_a : Nat → Int32) (l_b : Nat → Int32) (l_n : Int32) (m_t : Nat → Int32) (m_v : Nat → Int32) (m_n : Int32) (r_s : Nat → Int32) (r_n : Nat → Int32) (r_k : Int32) (o_v : Nat → Int64) (x1 : Int32) (x2 : Int32) : Option (Int32 × (Nat → Int64)) := bdc (fX4_room N l_a l_b l_n m_t m_v m_n r_s r_n r_k x1 x2) (fun e => if e = xIOO then some (1, o_v) else if e = xIAE then some (2, o_v) else none) (fun t => some (0, (vp_updL o_v 0 (Int32.toInt64 t))))
set_option maxHeartbeats 4000000 in
set_option maxRecDepth 100000 in
theorem kL_room {l : Launch} (hst : l.stackTraces = false) {G : wG} (c0 l0 l1 l2 l3 m0 m1 m2 m3 m4 m5 r0 r1 r2 r3 g0 o1 : Nat) (g_e : Int64) (l_a : Nat → Int32) (l_b : Nat → Int32) (l_c : Nat → Int32) (l_n : Int32) (m_x : Nat → Int32) (m_y : Nat → Int32) (m_d : Nat → Int32) (m_t : Nat → Int32) (m_v : Nat → Int32) (m_n : Int32) (r_s : Nat → Int32) (r_n : Nat → Int32) (r_w : Nat → Int32) (r_k : Int32) (o_v : Nat → Int64) (x1 : Int32) (x2 : Int32) (N : Nat) (v : Int32 × (Nat → Int64)) (h : fL_room N l_a l_b l_n m_t m_v m_n r_s r_n r_k o_v x1 x2 = some v) : wXi l G yL_room wsL_room ({ frames := 8, cells := 4, slots := 24, locals := 143 } : Room) [.ref c0, .int x1, .int x2, .ref o1] (w_H G c0 l0 l1 l2 l3 m0 m1 m2 m3 m4 m5 r0 r1 r2 r3 g0 o1 g_e l_a l_b l_c l_n m_x m_y m_d m_t m_v m_n r_s r_n r_w r_k o_v) (.inr v) (fun t : Int32 × (Nat → Int64) => (w_H G c0 l0 l1 l2 l3 m0 m1 m2 m3 m4 m5 r0 r1 r2 r3 g0 o1 g_e l_a l_b l_c l_n m_x m_y m_d m_t m_v m_n r_s r_n r_w r_k t.2)) (fun t : Int32 × (Nat → Int64) => t.1) 4 24 := by
  refine wXi.mkH (cc := cL_room) (maxL := 5) (ty := .int) (hh := [(0, 10, 13, 21), (0, 10, 17, 13)]) (by decide) rfl (Nat.le_of_ble_eq_true rfl) ?_
  intro p e s m below meth c A ls hx hb hml hr hlocks hts hown hK hA hP hD hT htab hl
  have hown : s.vm.findClass RL = some m.cls := hown
  have hS : va_S A s.heap s.heap [] := va_S.rf
  have hP : va_P G.1 vwCl (w_H G c0 l0 l1 l2 l3 m0 m1 m2 m3 m4 m5 r0 r1 r2 r3 g0 o1 g_e l_a l_b l_c l_n m_x m_y m_d m_t m_v m_n r_s r_n r_w r_k o_v) s.heap := hP
  have hD : va_D A (w_H G c0 l0 l1 l2 l3 m0 m1 m2 m3 m4 m5 r0 r1 r2 r3 g0 o1 g_e l_a l_b l_c l_n m_x m_y m_d m_t m_v m_n r_s r_n r_w r_k o_v) := hD
  have hl : lv_has ls 5 [(0, .ref c0), (1, .int x1), (2, .int x2), (3, .ref o1)] := hl
  obtain ⟨args, hargs⟩ : ∃ z : Array Value, z = ([.ref c0, .int x1, .int x2, .ref o1] : List Value).toArray := ⟨_, rfl⟩
  rw [← hargs]
  rw [← hargs] at hts
  have lkIOO := hts (.classLink RL 21 xIOO) (by decide +kernel)
  have lkIAE := hts (.classLink RL 13 xIAE) (by decide +kernel)
  rw [fL_room.eq_1] at h
  refine lv_aload_n hx hb dL_room_0 rfl (lv_at hl 3 rfl) ?_
  refine lv_iconst (v := 0) hx hb dL_room_1 (by decide) ?_
  refine lv_aload_n hx hb dL_room_2 rfl (lv_at hl 0 rfl) ?_
  refine lv_iload_n hx hb dL_room_3 rfl (lv_at hl 1 rfl) ?_
  refine lv_iload_n hx hb dL_room_4 rfl (lv_at hl 2 rfl) ?_
  obtain ⟨xu, hc, hke, hkt⟩ := bdc_inv h
  refine wafterx_i (wr := [(o1, .inl (G.2.2.2, 1, .inr (.inl o_v)))]) (vx_runV (As := [.int x1, .int x2]) (rest := [.int 0, .ref o1]) ⟨hx, hb, hml, hown, hts⟩ (kX4_room (l := l) hst (G := G) c0 l0 l1 l2 l3 m0 m1 m2 m3 m4 m5 r0 r1 r2 r3 g0 g_e l_a l_b l_c l_n m_x m_y m_d m_t m_v m_n r_s r_n r_w r_k x1 x2 N xu hc _) (cwV 2 hts gL_room_X4_room rfl rfl rfl (by decide +kernel) ⟨(Nat.le_of_ble_eq_true rfl), (Nat.le_of_ble_eq_true rfl)⟩) (wPreVX hP hD hK hS hA hT [0, 1, 2, 3, 4, 5, 6, 7, 8, 9, 10, 11, 12, 13, 14, 15] rfl rfl (ci := 4) (qb := 0) rfl rfl rfl) rfl rfl hl.1 rfl (lv_room (Nat.le_of_ble_eq_true rfl)) dL_room_5 ⟨(Nat.le_of_ble_eq_true rfl), (Nat.le_of_ble_eq_true rfl)⟩) hP hD hS hA [0, 1, 2, 3, 4, 5, 6, 7, 8, 9, 10, 11, 12, 13, 14, 15] [16] [1, 2, 3, 4, 5, 6, 7, 8, 9, 10, 11, 12, 13, 14, 15, 16, 0] rfl rfl rfl (by decide) rfl rfl (fun E ce q9 H locs he hP hD hS hce hcv hcl => ?_) (fun u H locs hu hP hD hS => ?_)
  · have h := hke E he
    by_cases cE : E = xIOO
    · have h := ip cE h
      subst cE
      obtain rfl := Option.some.inj h
      refine vx_catch (name := xIOO) hown [] ⟨0, 10, 13, 21⟩ [⟨0, 10, 17, 13⟩] (by rw [htab]; rfl) (fun z hz => by cases hz) (by decide) (by decide) lkIOO (va_Nw.use rfl (hT.2.1 (.castable xIOO xIOO) (by simp [xNg]))) hce hcv hcl ?_
      refine lv_astore (lv' := [(4, .ref q9), (0, .ref c0), (1, .int x1), (2, .int x2), (3, .ref o1)]) hx hb dL_room_13 hl (by decide) rfl (fun ls hl => ?_)
      refine lv_iconst (v := 1) hx hb dL_room_15 (by decide) ?_
      exact wrxi (ty := .int) (t0 := (1, o_v)) hx hb hr hlocks hP hD hS (Nat.le_of_ble_eq_true rfl) (Nat.le_of_ble_eq_true rfl) rfl rfl dL_room_16
    · have h := iq cE h
      by_cases cE : E = xIAE
      · have h := ip cE h
        subst cE
        obtain rfl := Option.some.inj h
        refine vx_catch (name := xIAE) hown [⟨0, 10, 13, 21⟩] ⟨0, 10, 17, 13⟩ [] (by rw [htab]; rfl) (fun z hz => by obtain rfl := List.mem_singleton.mp hz; exact Or.inr ⟨by decide, xIOO, lkIOO, hT.2.2.2.2.2.2⟩) (by decide) (by decide) lkIAE (va_Nw.use rfl (hT.2.1 (.castable xIAE xIAE) (by simp [xNg]))) hce hcv hcl ?_
        refine lv_astore (lv' := [(4, .ref q9), (0, .ref c0), (1, .int x1), (2, .int x2), (3, .ref o1)]) hx hb dL_room_17 hl (by decide) rfl (fun ls hl => ?_)
        refine lv_iconst (v := 2) hx hb dL_room_19 (by decide) ?_
        exact wrxi (ty := .int) (t0 := (2, o_v)) hx hb hr hlocks hP hD hS (Nat.le_of_ble_eq_true rfl) (Nat.le_of_ble_eq_true rfl) rfl rfl dL_room_20
      · have h := iq cE h
        cases h
  · have h := hkt u hu
    obtain rfl := Option.some.inj h
    have hP : va_P G.1 vwCl (w_H G c0 l0 l1 l2 l3 m0 m1 m2 m3 m4 m5 r0 r1 r2 r3 g0 o1 g_e l_a l_b l_c l_n m_x m_y m_d m_t m_v m_n r_s r_n r_w r_k o_v) H := hP.sub [1, 2, 3, 4, 5, 6, 7, 8, 9, 10, 11, 12, 13, 14, 15, 16, 0] rfl
    have hD : va_D A (w_H G c0 l0 l1 l2 l3 m0 m1 m2 m3 m4 m5 r0 r1 r2 r3 g0 o1 g_e l_a l_b l_c l_n m_x m_y m_d m_t m_v m_n r_s r_n r_w r_k o_v) := hD.sub [1, 2, 3, 4, 5, 6, 7, 8, 9, 10, 11, 12, 13, 14, 15, 16, 0] rfl rfl
    refine lv_i2l hx hb dL_room_8 rfl ?_
    refine va_last hx hb hK.1 hP hD hS 16 2 rfl rfl (vp_in_nI (n := 0) (N := 1) (by omega) (by omega)) dL_room_9 (fun H locs hP hD hS => ?_)
    have hP : va_P G.1 vwCl (w_H G c0 l0 l1 l2 l3 m0 m1 m2 m3 m4 m5 r0 r1 r2 r3 g0 o1 g_e l_a l_b l_c l_n m_x m_y m_d m_t m_v m_n r_s r_n r_w r_k ((vp_updL o_v 0 (Int32.toInt64 u)))) H := hP
    have hD : va_D A (w_H G c0 l0 l1 l2 l3 m0 m1 m2 m3 m4 m5 r0 r1 r2 r3 g0 o1 g_e l_a l_b l_c l_n m_x m_y m_d m_t m_v m_n r_s r_n r_w r_k ((vp_updL o_v 0 (Int32.toInt64 u)))) := hD
    refine lv_goto (tgt := 21) hx hb dL_room_10 (by decide) ?_
    refine lv_iconst (v := 0) hx hb dL_room_21 (by decide) ?_
    exact wrxi (ty := .int) (t0 := (0, (vp_updL o_v 0 (Int32.toInt64 u)))) hx hb hr hlocks hP hD hS (Nat.le_of_ble_eq_true rfl) (Nat.le_of_ble_eq_true rfl) rfl rfl dL_room_22
def fL_roomOf (N : Nat) (r_n : Nat → Int32) (o_v : Nat → Int64) (x1 : Int32) : Option (Int32 × (Nat → Int64)) := bdc (fX4_roomOf N r_n x1) (fun e => if e = xIAE then some (1, o_v) else none) (fun t => some (0, (vp_updL o_v 0 (Int32.toInt64 t))))
set_option maxHeartbeats 4000000 in
set_option maxRecDepth 100000 in
theorem kL_roomOf {l : Launch} (hst : l.stackTraces = false) {G : wG} (c0 l0 l1 l2 l3 m0 m1 m2 m3 m4 m5 r0 r1 r2 r3 g0 o1 : Nat) (g_e : Int64) (l_a : Nat → Int32) (l_b : Nat → Int32) (l_c : Nat → Int32) (l_n : Int32) (m_x : Nat → Int32) (m_y : Nat → Int32) (m_d : Nat → Int32) (m_t : Nat → Int32) (m_v : Nat → Int32) (m_n : Int32) (r_s : Nat → Int32) (r_n : Nat → Int32) (r_w : Nat → Int32) (r_k : Int32) (o_v : Nat → Int64) (x1 : Int32) (N : Nat) (v : Int32 × (Nat → Int64)) (h : fL_roomOf N r_n o_v x1 = some v) : wXi l G yL_roomOf wsL_roomOf ({ frames := 7, cells := 4, slots := 24, locals := 121 } : Room) [.ref c0, .int x1, .ref o1] (w_H G c0 l0 l1 l2 l3 m0 m1 m2 m3 m4 m5 r0 r1 r2 r3 g0 o1 g_e l_a l_b l_c l_n m_x m_y m_d m_t m_v m_n r_s r_n r_w r_k o_v) (.inr v) (fun t : Int32 × (Nat → Int64) => (w_H G c0 l0 l1 l2 l3 m0 m1 m2 m3 m4 m5 r0 r1 r2 r3 g0 o1 g_e l_a l_b l_c l_n m_x m_y m_d m_t m_v m_n r_s r_n r_w r_k t.2)) (fun t : Int32 × (Nat → Int64) => t.1) 4 24 := by
  refine wXi.mkH (cc := cL_roomOf) (maxL := 4) (ty := .int) (hh := [(0, 9, 12, 13)]) (by decide) rfl (Nat.le_of_ble_eq_true rfl) ?_
  intro p e s m below meth c A ls hx hb hml hr hlocks hts hown hK hA hP hD hT htab hl
  have hown : s.vm.findClass RL = some m.cls := hown
  have hS : va_S A s.heap s.heap [] := va_S.rf
  have hP : va_P G.1 vwCl (w_H G c0 l0 l1 l2 l3 m0 m1 m2 m3 m4 m5 r0 r1 r2 r3 g0 o1 g_e l_a l_b l_c l_n m_x m_y m_d m_t m_v m_n r_s r_n r_w r_k o_v) s.heap := hP
  have hD : va_D A (w_H G c0 l0 l1 l2 l3 m0 m1 m2 m3 m4 m5 r0 r1 r2 r3 g0 o1 g_e l_a l_b l_c l_n m_x m_y m_d m_t m_v m_n r_s r_n r_w r_k o_v) := hD
  have hl : lv_has ls 4 [(0, .ref c0), (1, .int x1), (2, .ref o1)] := hl
  obtain ⟨args, hargs⟩ : ∃ z : Array Value, z = ([.ref c0, .int x1, .ref o1] : List Value).toArray := ⟨_, rfl⟩
  rw [← hargs]
  rw [← hargs] at hts
  have lkIAE := hts (.classLink RL 13 xIAE) (by decide +kernel)
  rw [fL_roomOf.eq_1] at h
  refine lv_aload_n hx hb dL_roomOf_0 rfl (lv_at hl 2 rfl) ?_
  refine lv_iconst (v := 0) hx hb dL_roomOf_1 (by decide) ?_
  refine lv_aload_n hx hb dL_roomOf_2 rfl (lv_at hl 0 rfl) ?_
  refine lv_iload_n hx hb dL_roomOf_3 rfl (lv_at hl 1 rfl) ?_
  obtain ⟨xu, hc, hke, hkt⟩ := bdc_inv h
  refine wafterx_i (wr := [(o1, .inl (G.2.2.2, 1, .inr (.inl o_v)))]) (vx_runV (As := [.int x1]) (rest := [.int 0, .ref o1]) ⟨hx, hb, hml, hown, hts⟩ (kX4_roomOf (l := l) hst (G := G) c0 l0 l1 l2 l3 m0 m1 m2 m3 m4 m5 r0 r1 r2 r3 g0 g_e l_a l_b l_c l_n m_x m_y m_d m_t m_v m_n r_s r_n r_w r_k x1 N xu hc _) (cwV 1 hts gL_roomOf_X4_roomOf rfl rfl rfl (by decide +kernel) ⟨(Nat.le_of_ble_eq_true rfl), (Nat.le_of_ble_eq_true rfl)⟩) (wPreVX hP hD hK hS hA hT [0, 1, 2, 3, 4, 5, 6, 7, 8, 9, 10, 11, 12, 13, 14, 15] rfl rfl (ci := 4) (qb := 0) rfl rfl rfl) rfl rfl hl.1 rfl (lv_room (Nat.le_of_ble_eq_true rfl)) dL_roomOf_4 ⟨(Nat.le_of_ble_eq_true rfl), (Nat.le_of_ble_eq_true rfl)⟩) hP hD hS hA [0, 1, 2, 3, 4, 5, 6, 7, 8, 9, 10, 11, 12, 13, 14, 15] [16] [1, 2, 3, 4, 5, 6, 7, 8, 9, 10, 11, 12, 13, 14, 15, 16, 0] rfl rfl rfl (by decide) rfl rfl (fun E ce q9 H locs he hP hD hS hce hcv hcl => ?_) (fun u H locs hu hP hD hS => ?_)
  · have h := hke E he
    by_cases cE : E = xIAE
    · have h := ip cE h
      subst cE
      obtain rfl := Option.some.inj h
      refine vx_catch (name := xIAE) hown [] ⟨0, 9, 12, 13⟩ [] (by rw [htab]; rfl) (fun z hz => by cases hz) (by decide) (by decide) lkIAE (va_Nw.use rfl (hT.2.1 (.castable xIAE xIAE) (by simp [xNg]))) hce hcv hcl ?_
      refine lv_astore_n (lv' := [(3, .ref q9), (0, .ref c0), (1, .int x1), (2, .ref o1)]) hx hb dL_roomOf_12 rfl hl (by decide) rfl (fun ls hl => ?_)
      refine lv_iconst (v := 1) hx hb dL_roomOf_13 (by decide) ?_
      exact wrxi (ty := .int) (t0 := (1, o_v)) hx hb hr hlocks hP hD hS (Nat.le_of_ble_eq_true rfl) (Nat.le_of_ble_eq_true rfl) rfl rfl dL_roomOf_14
    · have h := iq cE h
      cases h
  · have h := hkt u hu
    obtain rfl := Option.some.inj h
    have hP : va_P G.1 vwCl (w_H G c0 l0 l1 l2 l3 m0 m1 m2 m3 m4 m5 r0 r1 r2 r3 g0 o1 g_e l_a l_b l_c l_n m_x m_y m_d m_t m_v m_n r_s r_n r_w r_k o_v) H := hP.sub [1, 2, 3, 4, 5, 6, 7, 8, 9, 10, 11, 12, 13, 14, 15, 16, 0] rfl
    have hD : va_D A (w_H G c0 l0 l1 l2 l3 m0 m1 m2 m3 m4 m5 r0 r1 r2 r3 g0 o1 g_e l_a l_b l_c l_n m_x m_y m_d m_t m_v m_n r_s r_n r_w r_k o_v) := hD.sub [1, 2, 3, 4, 5, 6, 7, 8, 9, 10, 11, 12, 13, 14, 15, 16, 0] rfl rfl
    refine lv_i2l hx hb dL_roomOf_7 rfl ?_
    refine va_last hx hb hK.1 hP hD hS 16 2 rfl rfl (vp_in_nI (n := 0) (N := 1) (by omega) (by omega)) dL_roomOf_8 (fun H locs hP hD hS => ?_)
    have hP : va_P G.1 vwCl (w_H G c0 l0 l1 l2 l3 m0 m1 m2 m3 m4 m5 r0 r1 r2 r3 g0 o1 g_e l_a l_b l_c l_n m_x m_y m_d m_t m_v m_n r_s r_n r_w r_k ((vp_updL o_v 0 (Int32.toInt64 u)))) H := hP
    have hD : va_D A (w_H G c0 l0 l1 l2 l3 m0 m1 m2 m3 m4 m5 r0 r1 r2 r3 g0 o1 g_e l_a l_b l_c l_n m_x m_y m_d m_t m_v m_n r_s r_n r_w r_k ((vp_updL o_v 0 (Int32.toInt64 u)))) := hD
    refine lv_goto (tgt := 15) hx hb dL_roomOf_9 (by decide) ?_
    refine lv_iconst (v := 0) hx hb dL_roomOf_15 (by decide) ?_
    exact wrxi (ty := .int) (t0 := (0, (vp_updL o_v 0 (Int32.toInt64 u)))) hx hb hr hlocks hP hD hS (Nat.le_of_ble_eq_true rfl) (Nat.le_of_ble_eq_true rfl) rfl rfl dL_roomOf_16
def fL_corner (N : Nat) (m_t : Nat → Int32) (m_v : Nat → Int32) (m_n : Int32) (r_s : Nat → Int32) (r_k : Int32) (o_v : Nat → Int64) (x1 : Int32) (x2 : Int32) : Option (Int32 × (Nat → Int64)) := bdc (fX4_corner N m_t m_v m_n r_s r_k x1 x2) (fun e => if e = xIOO then some (1, o_v) else none) (fun t => some (0, (vp_updL o_v 0 (Int32.toInt64 t))))
set_option maxHeartbeats 4000000 in
set_option maxRecDepth 100000 in
theorem kL_corner {l : Launch} (hst : l.stackTraces = false) {G : wG} (c0 l0 l1 l2 l3 m0 m1 m2 m3 m4 m5 r0 r1 r2 r3 g0 o1 : Nat) (g_e : Int64) (l_a : Nat → Int32) (l_b : Nat → Int32) (l_c : Nat → Int32) (l_n : Int32) (m_x : Nat → Int32) (m_y : Nat → Int32) (m_d : Nat → Int32) (m_t : Nat → Int32) (m_v : Nat → Int32) (m_n : Int32) (r_s : Nat → Int32) (r_n : Nat → Int32) (r_w : Nat → Int32) (r_k : Int32) (o_v : Nat → Int64) (x1 : Int32) (x2 : Int32) (N : Nat) (v : Int32 × (Nat → Int64)) (h : fL_corner N m_t m_v m_n r_s r_k o_v x1 x2 = some v) : wXi l G yL_corner wsL_corner ({ frames := 8, cells := 4, slots := 24, locals := 143 } : Room) [.ref c0, .int x1, .int x2, .ref o1] (w_H G c0 l0 l1 l2 l3 m0 m1 m2 m3 m4 m5 r0 r1 r2 r3 g0 o1 g_e l_a l_b l_c l_n m_x m_y m_d m_t m_v m_n r_s r_n r_w r_k o_v) (.inr v) (fun t : Int32 × (Nat → Int64) => (w_H G c0 l0 l1 l2 l3 m0 m1 m2 m3 m4 m5 r0 r1 r2 r3 g0 o1 g_e l_a l_b l_c l_n m_x m_y m_d m_t m_v m_n r_s r_n r_w r_k t.2)) (fun t : Int32 × (Nat → Int64) => t.1) 4 24 := by
  refine wXi.mkH (cc := cL_corner) (maxL := 5) (ty := .int) (hh := [(0, 10, 13, 21)]) (by decide) rfl (Nat.le_of_ble_eq_true rfl) ?_
  intro p e s m below meth c A ls hx hb hml hr hlocks hts hown hK hA hP hD hT htab hl
  have hown : s.vm.findClass RL = some m.cls := hown
  have hS : va_S A s.heap s.heap [] := va_S.rf
  have hP : va_P G.1 vwCl (w_H G c0 l0 l1 l2 l3 m0 m1 m2 m3 m4 m5 r0 r1 r2 r3 g0 o1 g_e l_a l_b l_c l_n m_x m_y m_d m_t m_v m_n r_s r_n r_w r_k o_v) s.heap := hP
  have hD : va_D A (w_H G c0 l0 l1 l2 l3 m0 m1 m2 m3 m4 m5 r0 r1 r2 r3 g0 o1 g_e l_a l_b l_c l_n m_x m_y m_d m_t m_v m_n r_s r_n r_w r_k o_v) := hD
  have hl : lv_has ls 5 [(0, .ref c0), (1, .int x1), (2, .int x2), (3, .ref o1)] := hl
  obtain ⟨args, hargs⟩ : ∃ z : Array Value, z = ([.ref c0, .int x1, .int x2, .ref o1] : List Value).toArray := ⟨_, rfl⟩
  rw [← hargs]
  rw [← hargs] at hts
  have lkIOO := hts (.classLink RL 21 xIOO) (by decide +kernel)
  rw [fL_corner.eq_1] at h
  refine lv_aload_n hx hb dL_corner_0 rfl (lv_at hl 3 rfl) ?_
  refine lv_iconst (v := 0) hx hb dL_corner_1 (by decide) ?_
  refine lv_aload_n hx hb dL_corner_2 rfl (lv_at hl 0 rfl) ?_
  refine lv_iload_n hx hb dL_corner_3 rfl (lv_at hl 1 rfl) ?_
  refine lv_iload_n hx hb dL_corner_4 rfl (lv_at hl 2 rfl) ?_
  obtain ⟨xu, hc, hke, hkt⟩ := bdc_inv h
  refine wafterx_i (wr := [(o1, .inl (G.2.2.2, 1, .inr (.inl o_v)))]) (vx_runV (As := [.int x1, .int x2]) (rest := [.int 0, .ref o1]) ⟨hx, hb, hml, hown, hts⟩ (kX4_corner (l := l) hst (G := G) c0 l0 l1 l2 l3 m0 m1 m2 m3 m4 m5 r0 r1 r2 r3 g0 g_e l_a l_b l_c l_n m_x m_y m_d m_t m_v m_n r_s r_n r_w r_k x1 x2 N xu hc _) (cwV 2 hts gL_corner_X4_corner rfl rfl rfl (by decide +kernel) ⟨(Nat.le_of_ble_eq_true rfl), (Nat.le_of_ble_eq_true rfl)⟩) (wPreVX hP hD hK hS hA hT [0, 1, 2, 3, 4, 5, 6, 7, 8, 9, 10, 11, 12, 13, 14, 15] rfl rfl (ci := 4) (qb := 0) rfl rfl rfl) rfl rfl hl.1 rfl (lv_room (Nat.le_of_ble_eq_true rfl)) dL_corner_5 ⟨(Nat.le_of_ble_eq_true rfl), (Nat.le_of_ble_eq_true rfl)⟩) hP hD hS hA [0, 1, 2, 3, 4, 5, 6, 7, 8, 9, 10, 11, 12, 13, 14, 15] [16] [1, 2, 3, 4, 5, 6, 7, 8, 9, 10, 11, 12, 13, 14, 15, 16, 0] rfl rfl rfl (by decide) rfl rfl (fun E ce q9 H locs he hP hD hS hce hcv hcl => ?_) (fun u H locs hu hP hD hS => ?_)
  · have h := hke E he
    by_cases cE : E = xIOO
    · have h := ip cE h
      subst cE
      obtain rfl := Option.some.inj h
      refine vx_catch (name := xIOO) hown [] ⟨0, 10, 13, 21⟩ [] (by rw [htab]; rfl) (fun z hz => by cases hz) (by decide) (by decide) lkIOO (va_Nw.use rfl (hT.2.1 (.castable xIOO xIOO) (by simp [xNg]))) hce hcv hcl ?_
      refine lv_astore (lv' := [(4, .ref q9), (0, .ref c0), (1, .int x1), (2, .int x2), (3, .ref o1)]) hx hb dL_corner_13 hl (by decide) rfl (fun ls hl => ?_)
      refine lv_iconst (v := 1) hx hb dL_corner_15 (by decide) ?_
      exact wrxi (ty := .int) (t0 := (1, o_v)) hx hb hr hlocks hP hD hS (Nat.le_of_ble_eq_true rfl) (Nat.le_of_ble_eq_true rfl) rfl rfl dL_corner_16
    · have h := iq cE h
      cases h
  · have h := hkt u hu
    obtain rfl := Option.some.inj h
    have hP : va_P G.1 vwCl (w_H G c0 l0 l1 l2 l3 m0 m1 m2 m3 m4 m5 r0 r1 r2 r3 g0 o1 g_e l_a l_b l_c l_n m_x m_y m_d m_t m_v m_n r_s r_n r_w r_k o_v) H := hP.sub [1, 2, 3, 4, 5, 6, 7, 8, 9, 10, 11, 12, 13, 14, 15, 16, 0] rfl
    have hD : va_D A (w_H G c0 l0 l1 l2 l3 m0 m1 m2 m3 m4 m5 r0 r1 r2 r3 g0 o1 g_e l_a l_b l_c l_n m_x m_y m_d m_t m_v m_n r_s r_n r_w r_k o_v) := hD.sub [1, 2, 3, 4, 5, 6, 7, 8, 9, 10, 11, 12, 13, 14, 15, 16, 0] rfl rfl
    refine lv_i2l hx hb dL_corner_8 rfl ?_
    refine va_last hx hb hK.1 hP hD hS 16 2 rfl rfl (vp_in_nI (n := 0) (N := 1) (by omega) (by omega)) dL_corner_9 (fun H locs hP hD hS => ?_)
    have hP : va_P G.1 vwCl (w_H G c0 l0 l1 l2 l3 m0 m1 m2 m3 m4 m5 r0 r1 r2 r3 g0 o1 g_e l_a l_b l_c l_n m_x m_y m_d m_t m_v m_n r_s r_n r_w r_k ((vp_updL o_v 0 (Int32.toInt64 u)))) H := hP
    have hD : va_D A (w_H G c0 l0 l1 l2 l3 m0 m1 m2 m3 m4 m5 r0 r1 r2 r3 g0 o1 g_e l_a l_b l_c l_n m_x m_y m_d m_t m_v m_n r_s r_n r_w r_k ((vp_updL o_v 0 (Int32.toInt64 u)))) := hD
    refine lv_goto (tgt := 17) hx hb dL_corner_10 (by decide) ?_
    refine lv_iconst (v := 0) hx hb dL_corner_17 (by decide) ?_
    exact wrxi (ty := .int) (t0 := (0, (vp_updL o_v 0 (Int32.toInt64 u)))) hx hb hr hlocks hP hD hS (Nat.le_of_ble_eq_true rfl) (Nat.le_of_ble_eq_true rfl) rfl rfl dL_corner_18
def fL_galleries (N : Nat) (r_s : Nat → Int32) (r_n : Nat → Int32) (r_w : Nat → Int32) (r_k : Int32) (o_v : Nat → Int64) (x1 : Int32) (x2 : Int32) : Option (Int32 × (Nat → Int32) × (Nat → Int64)) := bdc (fX4_galleries N r_s r_n r_w r_k x1 x2) (fun e => if e = xIOO then some (1, r_w, o_v) else none) (fun t => some (0, t.2, (vp_updL o_v 0 (Int32.toInt64 t.1))))
set_option maxHeartbeats 4000000 in
set_option maxRecDepth 100000 in
theorem kL_galleries {l : Launch} (hst : l.stackTraces = false) {G : wG} (c0 l0 l1 l2 l3 m0 m1 m2 m3 m4 m5 r0 r1 r2 r3 g0 o1 : Nat) (g_e : Int64) (l_a : Nat → Int32) (l_b : Nat → Int32) (l_c : Nat → Int32) (l_n : Int32) (m_x : Nat → Int32) (m_y : Nat → Int32) (m_d : Nat → Int32) (m_t : Nat → Int32) (m_v : Nat → Int32) (m_n : Int32) (r_s : Nat → Int32) (r_n : Nat → Int32) (r_w : Nat → Int32) (r_k : Int32) (o_v : Nat → Int64) (x1 : Int32) (x2 : Int32) (N : Nat) (v : Int32 × (Nat → Int32) × (Nat → Int64)) (h : fL_galleries N r_s r_n r_w r_k o_v x1 x2 = some v) : wXi l G yL_galleries wsL_galleries ({ frames := 8, cells := 4, slots := 24, locals := 143 } : Room) [.ref c0, .int x1, .int x2, .ref o1] (w_H G c0 l0 l1 l2 l3 m0 m1 m2 m3 m4 m5 r0 r1 r2 r3 g0 o1 g_e l_a l_b l_c l_n m_x m_y m_d m_t m_v m_n r_s r_n r_w r_k o_v) (.inr v) (fun t : Int32 × (Nat → Int32) × (Nat → Int64) => (w_H G c0 l0 l1 l2 l3 m0 m1 m2 m3 m4 m5 r0 r1 r2 r3 g0 o1 g_e l_a l_b l_c l_n m_x m_y m_d m_t m_v m_n r_s r_n t.2.1 r_k t.2.2)) (fun t : Int32 × (Nat → Int32) × (Nat → Int64) => t.1) 4 24 := by
  refine wXi.mkH (cc := cL_galleries) (maxL := 5) (ty := .int) (hh := [(0, 10, 13, 21)]) (by decide) rfl (Nat.le_of_ble_eq_true rfl) ?_
  intro p e s m below meth c A ls hx hb hml hr hlocks hts hown hK hA hP hD hT htab hl
  have hown : s.vm.findClass RL = some m.cls := hown
  have hS : va_S A s.heap s.heap [] := va_S.rf
  have hP : va_P G.1 vwCl (w_H G c0 l0 l1 l2 l3 m0 m1 m2 m3 m4 m5 r0 r1 r2 r3 g0 o1 g_e l_a l_b l_c l_n m_x m_y m_d m_t m_v m_n r_s r_n r_w r_k o_v) s.heap := hP
  have hD : va_D A (w_H G c0 l0 l1 l2 l3 m0 m1 m2 m3 m4 m5 r0 r1 r2 r3 g0 o1 g_e l_a l_b l_c l_n m_x m_y m_d m_t m_v m_n r_s r_n r_w r_k o_v) := hD
  have hl : lv_has ls 5 [(0, .ref c0), (1, .int x1), (2, .int x2), (3, .ref o1)] := hl
  obtain ⟨args, hargs⟩ : ∃ z : Array Value, z = ([.ref c0, .int x1, .int x2, .ref o1] : List Value).toArray := ⟨_, rfl⟩
  rw [← hargs]
  rw [← hargs] at hts
  have lkIOO := hts (.classLink RL 21 xIOO) (by decide +kernel)
  rw [fL_galleries.eq_1] at h
  refine lv_aload_n hx hb dL_galleries_0 rfl (lv_at hl 3 rfl) ?_
  refine lv_iconst (v := 0) hx hb dL_galleries_1 (by decide) ?_
  refine lv_aload_n hx hb dL_galleries_2 rfl (lv_at hl 0 rfl) ?_
  refine lv_iload_n hx hb dL_galleries_3 rfl (lv_at hl 1 rfl) ?_
  refine lv_iload_n hx hb dL_galleries_4 rfl (lv_at hl 2 rfl) ?_
  obtain ⟨xu, hc, hke, hkt⟩ := bdc_inv h
  refine wafterx_i (wr := [(o1, .inl (G.2.2.2, 1, .inr (.inl o_v)))]) (vx_runV (As := [.int x1, .int x2]) (rest := [.int 0, .ref o1]) ⟨hx, hb, hml, hown, hts⟩ (kX4_galleries (l := l) hst (G := G) c0 l0 l1 l2 l3 m0 m1 m2 m3 m4 m5 r0 r1 r2 r3 g0 g_e l_a l_b l_c l_n m_x m_y m_d m_t m_v m_n r_s r_n r_w r_k x1 x2 N xu hc _) (cwV 2 hts gL_galleries_X4_galleries rfl rfl rfl (by decide +kernel) ⟨(Nat.le_of_ble_eq_true rfl), (Nat.le_of_ble_eq_true rfl)⟩) (wPreVX hP hD hK hS hA hT [0, 1, 2, 3, 4, 5, 6, 7, 8, 9, 10, 11, 12, 13, 14, 15] rfl rfl (ci := 4) (qb := 0) rfl rfl rfl) rfl rfl hl.1 rfl (lv_room (Nat.le_of_ble_eq_true rfl)) dL_galleries_5 ⟨(Nat.le_of_ble_eq_true rfl), (Nat.le_of_ble_eq_true rfl)⟩) hP hD hS hA [0, 1, 2, 3, 4, 5, 6, 7, 8, 9, 10, 11, 12, 13, 14, 15] [16] [1, 2, 3, 4, 5, 6, 7, 8, 9, 10, 11, 12, 13, 14, 15, 16, 0] rfl rfl rfl (by decide) rfl rfl (fun E ce q9 H locs he hP hD hS hce hcv hcl => ?_) (fun u H locs hu hP hD hS => ?_)
  · have h := hke E he
    by_cases cE : E = xIOO
    · have h := ip cE h
      subst cE
      obtain rfl := Option.some.inj h
      refine vx_catch (name := xIOO) hown [] ⟨0, 10, 13, 21⟩ [] (by rw [htab]; rfl) (fun z hz => by cases hz) (by decide) (by decide) lkIOO (va_Nw.use rfl (hT.2.1 (.castable xIOO xIOO) (by simp [xNg]))) hce hcv hcl ?_
      refine lv_astore (lv' := [(4, .ref q9), (0, .ref c0), (1, .int x1), (2, .int x2), (3, .ref o1)]) hx hb dL_galleries_13 hl (by decide) rfl (fun ls hl => ?_)
      refine lv_iconst (v := 1) hx hb dL_galleries_15 (by decide) ?_
      exact wrxi (ty := .int) (t0 := (1, r_w, o_v)) hx hb hr hlocks hP hD hS (Nat.le_of_ble_eq_true rfl) (Nat.le_of_ble_eq_true rfl) rfl rfl dL_galleries_16
    · have h := iq cE h
      cases h
  · have h := hkt u hu
    obtain rfl := Option.some.inj h
    have hP : va_P G.1 vwCl (w_H G c0 l0 l1 l2 l3 m0 m1 m2 m3 m4 m5 r0 r1 r2 r3 g0 o1 g_e l_a l_b l_c l_n m_x m_y m_d m_t m_v m_n r_s r_n u.2 r_k o_v) H := hP.sub [1, 2, 3, 4, 5, 6, 7, 8, 9, 10, 11, 12, 13, 14, 15, 16, 0] rfl
    have hD : va_D A (w_H G c0 l0 l1 l2 l3 m0 m1 m2 m3 m4 m5 r0 r1 r2 r3 g0 o1 g_e l_a l_b l_c l_n m_x m_y m_d m_t m_v m_n r_s r_n u.2 r_k o_v) := hD.sub [1, 2, 3, 4, 5, 6, 7, 8, 9, 10, 11, 12, 13, 14, 15, 16, 0] rfl rfl
    refine lv_i2l hx hb dL_galleries_8 rfl ?_
    refine va_last hx hb hK.1 hP hD hS 16 2 rfl rfl (vp_in_nI (n := 0) (N := 1) (by omega) (by omega)) dL_galleries_9 (fun H locs hP hD hS => ?_)
    have hP : va_P G.1 vwCl (w_H G c0 l0 l1 l2 l3 m0 m1 m2 m3 m4 m5 r0 r1 r2 r3 g0 o1 g_e l_a l_b l_c l_n m_x m_y m_d m_t m_v m_n r_s r_n u.2 r_k ((vp_updL o_v 0 (Int32.toInt64 u.1)))) H := hP
    have hD : va_D A (w_H G c0 l0 l1 l2 l3 m0 m1 m2 m3 m4 m5 r0 r1 r2 r3 g0 o1 g_e l_a l_b l_c l_n m_x m_y m_d m_t m_v m_n r_s r_n u.2 r_k ((vp_updL o_v 0 (Int32.toInt64 u.1)))) := hD
    refine lv_goto (tgt := 17) hx hb dL_galleries_10 (by decide) ?_
    refine lv_iconst (v := 0) hx hb dL_galleries_17 (by decide) ?_
    exact wrxi (ty := .int) (t0 := (0, u.2, (vp_updL o_v 0 (Int32.toInt64 u.1)))) hx hb hr hlocks hP hD hS (Nat.le_of_ble_eq_true rfl) (Nat.le_of_ble_eq_true rfl) rfl rfl dL_galleries_18
def fL_gallery (N : Nat) (r_s : Nat → Int32) (r_n : Nat → Int32) (r_k : Int32) (o_v : Nat → Int64) (x1 : Int32) (x2 : Int32) (x3 : Int32) : Option (Int32 × (Nat → Int64)) := bdc (fX4_gallery N r_s r_n r_k x1 x2 x3) (fun e => if e = xIOO then some (1, o_v) else none) (fun t => some (0, (vp_updL o_v 0 (Int32.toInt64 t))))
set_option maxHeartbeats 4000000 in
set_option maxRecDepth 100000 in
theorem kL_gallery {l : Launch} (hst : l.stackTraces = false) {G : wG} (c0 l0 l1 l2 l3 m0 m1 m2 m3 m4 m5 r0 r1 r2 r3 g0 o1 : Nat) (g_e : Int64) (l_a : Nat → Int32) (l_b : Nat → Int32) (l_c : Nat → Int32) (l_n : Int32) (m_x : Nat → Int32) (m_y : Nat → Int32) (m_d : Nat → Int32) (m_t : Nat → Int32) (m_v : Nat → Int32) (m_n : Int32) (r_s : Nat → Int32) (r_n : Nat → Int32) (r_w : Nat → Int32) (r_k : Int32) (o_v : Nat → Int64) (x1 : Int32) (x2 : Int32) (x3 : Int32) (N : Nat) (v : Int32 × (Nat → Int64)) (h : fL_gallery N r_s r_n r_k o_v x1 x2 x3 = some v) : wXi l G yL_gallery wsL_gallery ({ frames := 8, cells := 4, slots := 24, locals := 144 } : Room) [.ref c0, .int x1, .int x2, .int x3, .ref o1] (w_H G c0 l0 l1 l2 l3 m0 m1 m2 m3 m4 m5 r0 r1 r2 r3 g0 o1 g_e l_a l_b l_c l_n m_x m_y m_d m_t m_v m_n r_s r_n r_w r_k o_v) (.inr v) (fun t : Int32 × (Nat → Int64) => (w_H G c0 l0 l1 l2 l3 m0 m1 m2 m3 m4 m5 r0 r1 r2 r3 g0 o1 g_e l_a l_b l_c l_n m_x m_y m_d m_t m_v m_n r_s r_n r_w r_k t.2)) (fun t : Int32 × (Nat → Int64) => t.1) 4 24 := by
  refine wXi.mkH (cc := cL_gallery) (maxL := 6) (ty := .int) (hh := [(0, 12, 15, 21)]) (by decide) rfl (Nat.le_of_ble_eq_true rfl) ?_
  intro p e s m below meth c A ls hx hb hml hr hlocks hts hown hK hA hP hD hT htab hl
  have hown : s.vm.findClass RL = some m.cls := hown
  have hS : va_S A s.heap s.heap [] := va_S.rf
  have hP : va_P G.1 vwCl (w_H G c0 l0 l1 l2 l3 m0 m1 m2 m3 m4 m5 r0 r1 r2 r3 g0 o1 g_e l_a l_b l_c l_n m_x m_y m_d m_t m_v m_n r_s r_n r_w r_k o_v) s.heap := hP
  have hD : va_D A (w_H G c0 l0 l1 l2 l3 m0 m1 m2 m3 m4 m5 r0 r1 r2 r3 g0 o1 g_e l_a l_b l_c l_n m_x m_y m_d m_t m_v m_n r_s r_n r_w r_k o_v) := hD
  have hl : lv_has ls 6 [(0, .ref c0), (1, .int x1), (2, .int x2), (3, .int x3), (4, .ref o1)] := hl
  obtain ⟨args, hargs⟩ : ∃ z : Array Value, z = ([.ref c0, .int x1, .int x2, .int x3, .ref o1] : List Value).toArray := ⟨_, rfl⟩
  rw [← hargs]
  rw [← hargs] at hts
  have lkIOO := hts (.classLink RL 21 xIOO) (by decide +kernel)
  rw [fL_gallery.eq_1] at h
  refine lv_aload hx hb dL_gallery_0 (lv_at hl 4 rfl) ?_
  refine lv_iconst (v := 0) hx hb dL_gallery_2 (by decide) ?_
  refine lv_aload_n hx hb dL_gallery_3 rfl (lv_at hl 0 rfl) ?_
  refine lv_iload_n hx hb dL_gallery_4 rfl (lv_at hl 1 rfl) ?_
  refine lv_iload_n hx hb dL_gallery_5 rfl (lv_at hl 2 rfl) ?_
  refine lv_iload_n hx hb dL_gallery_6 rfl (lv_at hl 3 rfl) ?_
  obtain ⟨xu, hc, hke, hkt⟩ := bdc_inv h
  refine wafterx_i (wr := [(o1, .inl (G.2.2.2, 1, .inr (.inl o_v)))]) (vx_runV (As := [.int x1, .int x2, .int x3]) (rest := [.int 0, .ref o1]) ⟨hx, hb, hml, hown, hts⟩ (kX4_gallery (l := l) hst (G := G) c0 l0 l1 l2 l3 m0 m1 m2 m3 m4 m5 r0 r1 r2 r3 g0 g_e l_a l_b l_c l_n m_x m_y m_d m_t m_v m_n r_s r_n r_w r_k x1 x2 x3 N xu hc _) (cwV 3 hts gL_gallery_X4_gallery rfl rfl rfl (by decide +kernel) ⟨(Nat.le_of_ble_eq_true rfl), (Nat.le_of_ble_eq_true rfl)⟩) (wPreVX hP hD hK hS hA hT [0, 1, 2, 3, 4, 5, 6, 7, 8, 9, 10, 11, 12, 13, 14, 15] rfl rfl (ci := 4) (qb := 0) rfl rfl rfl) rfl rfl hl.1 rfl (lv_room (Nat.le_of_ble_eq_true rfl)) dL_gallery_7 ⟨(Nat.le_of_ble_eq_true rfl), (Nat.le_of_ble_eq_true rfl)⟩) hP hD hS hA [0, 1, 2, 3, 4, 5, 6, 7, 8, 9, 10, 11, 12, 13, 14, 15] [16] [1, 2, 3, 4, 5, 6, 7, 8, 9, 10, 11, 12, 13, 14, 15, 16, 0] rfl rfl rfl (by decide) rfl rfl (fun E ce q9 H locs he hP hD hS hce hcv hcl => ?_) (fun u H locs hu hP hD hS => ?_)
  · have h := hke E he
    by_cases cE : E = xIOO
    · have h := ip cE h
      subst cE
      obtain rfl := Option.some.inj h
      refine vx_catch (name := xIOO) hown [] ⟨0, 12, 15, 21⟩ [] (by rw [htab]; rfl) (fun z hz => by cases hz) (by decide) (by decide) lkIOO (va_Nw.use rfl (hT.2.1 (.castable xIOO xIOO) (by simp [xNg]))) hce hcv hcl ?_
      refine lv_astore (lv' := [(5, .ref q9), (0, .ref c0), (1, .int x1), (2, .int x2), (3, .int x3), (4, .ref o1)]) hx hb dL_gallery_15 hl (by decide) rfl (fun ls hl => ?_)
      refine lv_iconst (v := 1) hx hb dL_gallery_17 (by decide) ?_
      exact wrxi (ty := .int) (t0 := (1, o_v)) hx hb hr hlocks hP hD hS (Nat.le_of_ble_eq_true rfl) (Nat.le_of_ble_eq_true rfl) rfl rfl dL_gallery_18
    · have h := iq cE h
      cases h
  · have h := hkt u hu
    obtain rfl := Option.some.inj h
    have hP : va_P G.1 vwCl (w_H G c0 l0 l1 l2 l3 m0 m1 m2 m3 m4 m5 r0 r1 r2 r3 g0 o1 g_e l_a l_b l_c l_n m_x m_y m_d m_t m_v m_n r_s r_n r_w r_k o_v) H := hP.sub [1, 2, 3, 4, 5, 6, 7, 8, 9, 10, 11, 12, 13, 14, 15, 16, 0] rfl
    have hD : va_D A (w_H G c0 l0 l1 l2 l3 m0 m1 m2 m3 m4 m5 r0 r1 r2 r3 g0 o1 g_e l_a l_b l_c l_n m_x m_y m_d m_t m_v m_n r_s r_n r_w r_k o_v) := hD.sub [1, 2, 3, 4, 5, 6, 7, 8, 9, 10, 11, 12, 13, 14, 15, 16, 0] rfl rfl
    refine lv_i2l hx hb dL_gallery_10 rfl ?_
    refine va_last hx hb hK.1 hP hD hS 16 2 rfl rfl (vp_in_nI (n := 0) (N := 1) (by omega) (by omega)) dL_gallery_11 (fun H locs hP hD hS => ?_)
    have hP : va_P G.1 vwCl (w_H G c0 l0 l1 l2 l3 m0 m1 m2 m3 m4 m5 r0 r1 r2 r3 g0 o1 g_e l_a l_b l_c l_n m_x m_y m_d m_t m_v m_n r_s r_n r_w r_k ((vp_updL o_v 0 (Int32.toInt64 u)))) H := hP
    have hD : va_D A (w_H G c0 l0 l1 l2 l3 m0 m1 m2 m3 m4 m5 r0 r1 r2 r3 g0 o1 g_e l_a l_b l_c l_n m_x m_y m_d m_t m_v m_n r_s r_n r_w r_k ((vp_updL o_v 0 (Int32.toInt64 u)))) := hD
    refine lv_goto (tgt := 19) hx hb dL_gallery_12 (by decide) ?_
    refine lv_iconst (v := 0) hx hb dL_gallery_19 (by decide) ?_
    exact wrxi (ty := .int) (t0 := (0, (vp_updL o_v 0 (Int32.toInt64 u)))) hx hb hr hlocks hP hD hS (Nat.le_of_ble_eq_true rfl) (Nat.le_of_ble_eq_true rfl) rfl rfl dL_gallery_20
def fL_project (N : Nat) (m_t : Nat → Int32) (m_v : Nat → Int32) (m_n : Int32) (r_s : Nat → Int32) (r_n : Nat → Int32) (r_k : Int32) (o_v : Nat → Int64) (x1 : Int32) (x2 : Int32) : Option (Int32 × (Nat → Int64)) := bdc (fX4_project N m_t m_v m_n r_s r_n r_k x1 x2) (fun e => if e = xIOO then some (1, o_v) else none) (fun t => some (0, (vp_updL o_v 0 (Int32.toInt64 t))))
set_option maxHeartbeats 4000000 in
set_option maxRecDepth 100000 in
theorem kL_project {l : Launch} (hst : l.stackTraces = false) {G : wG} (c0 l0 l1 l2 l3 m0 m1 m2 m3 m4 m5 r0 r1 r2 r3 g0 o1 : Nat) (g_e : Int64) (l_a : Nat → Int32) (l_b : Nat → Int32) (l_c : Nat → Int32) (l_n : Int32) (m_x : Nat → Int32) (m_y : Nat → Int32) (m_d : Nat → Int32) (m_t : Nat → Int32) (m_v : Nat → Int32) (m_n : Int32) (r_s : Nat → Int32) (r_n : Nat → Int32) (r_w : Nat → Int32) (r_k : Int32) (o_v : Nat → Int64) (x1 : Int32) (x2 : Int32) (N : Nat) (v : Int32 × (Nat → Int64)) (h : fL_project N m_t m_v m_n r_s r_n r_k o_v x1 x2 = some v) : wXi l G yL_project wsL_project ({ frames := 8, cells := 4, slots := 24, locals := 143 } : Room) [.ref c0, .int x1, .int x2, .ref o1] (w_H G c0 l0 l1 l2 l3 m0 m1 m2 m3 m4 m5 r0 r1 r2 r3 g0 o1 g_e l_a l_b l_c l_n m_x m_y m_d m_t m_v m_n r_s r_n r_w r_k o_v) (.inr v) (fun t : Int32 × (Nat → Int64) => (w_H G c0 l0 l1 l2 l3 m0 m1 m2 m3 m4 m5 r0 r1 r2 r3 g0 o1 g_e l_a l_b l_c l_n m_x m_y m_d m_t m_v m_n r_s r_n r_w r_k t.2)) (fun t : Int32 × (Nat → Int64) => t.1) 4 24 := by
  refine wXi.mkH (cc := cL_project) (maxL := 5) (ty := .int) (hh := [(0, 10, 13, 21)]) (by decide) rfl (Nat.le_of_ble_eq_true rfl) ?_
  intro p e s m below meth c A ls hx hb hml hr hlocks hts hown hK hA hP hD hT htab hl
  have hown : s.vm.findClass RL = some m.cls := hown
  have hS : va_S A s.heap s.heap [] := va_S.rf
  have hP : va_P G.1 vwCl (w_H G c0 l0 l1 l2 l3 m0 m1 m2 m3 m4 m5 r0 r1 r2 r3 g0 o1 g_e l_a l_b l_c l_n m_x m_y m_d m_t m_v m_n r_s r_n r_w r_k o_v) s.heap := hP
  have hD : va_D A (w_H G c0 l0 l1 l2 l3 m0 m1 m2 m3 m4 m5 r0 r1 r2 r3 g0 o1 g_e l_a l_b l_c l_n m_x m_y m_d m_t m_v m_n r_s r_n r_w r_k o_v) := hD
  have hl : lv_has ls 5 [(0, .ref c0), (1, .int x1), (2, .int x2), (3, .ref o1)] := hl
  obtain ⟨args, hargs⟩ : ∃ z : Array Value, z = ([.ref c0, .int x1, .int x2, .ref o1] : List Value).toArray := ⟨_, rfl⟩
  rw [← hargs]
  rw [← hargs] at hts
  have lkIOO := hts (.classLink RL 21 xIOO) (by decide +kernel)
  rw [fL_project.eq_1] at h
  refine lv_aload_n hx hb dL_project_0 rfl (lv_at hl 3 rfl) ?_
  refine lv_iconst (v := 0) hx hb dL_project_1 (by decide) ?_
  refine lv_aload_n hx hb dL_project_2 rfl (lv_at hl 0 rfl) ?_
  refine lv_iload_n hx hb dL_project_3 rfl (lv_at hl 1 rfl) ?_
  refine lv_iload_n hx hb dL_project_4 rfl (lv_at hl 2 rfl) ?_
  obtain ⟨xu, hc, hke, hkt⟩ := bdc_inv h
  refine wafterx_i (wr := [(o1, .inl (G.2.2.2, 1, .inr (.inl o_v)))]) (vx_runV (As := [.int x1, .int x2]) (rest := [.int 0, .ref o1]) ⟨hx, hb, hml, hown, hts⟩ (kX4_project (l := l) hst (G := G) c0 l0 l1 l2 l3 m0 m1 m2 m3 m4 m5 r0 r1 r2 r3 g0 g_e l_a l_b l_c l_n m_x m_y m_d m_t m_v m_n r_s r_n r_w r_k x1 x2 N xu hc _) (cwV 2 hts gL_project_X4_project rfl rfl rfl (by decide +kernel) ⟨(Nat.le_of_ble_eq_true rfl), (Nat.le_of_ble_eq_true rfl)⟩) (wPreVX hP hD hK hS hA hT [0, 1, 2, 3, 4, 5, 6, 7, 8, 9, 10, 11, 12, 13, 14, 15] rfl rfl (ci := 4) (qb := 0) rfl rfl rfl) rfl rfl hl.1 rfl (lv_room (Nat.le_of_ble_eq_true rfl)) dL_project_5 ⟨(Nat.le_of_ble_eq_true rfl), (Nat.le_of_ble_eq_true rfl)⟩) hP hD hS hA [0, 1, 2, 3, 4, 5, 6, 7, 8, 9, 10, 11, 12, 13, 14, 15] [16] [1, 2, 3, 4, 5, 6, 7, 8, 9, 10, 11, 12, 13, 14, 15, 16, 0] rfl rfl rfl (by decide) rfl rfl (fun E ce q9 H locs he hP hD hS hce hcv hcl => ?_) (fun u H locs hu hP hD hS => ?_)
  · have h := hke E he
    by_cases cE : E = xIOO
    · have h := ip cE h
      subst cE
      obtain rfl := Option.some.inj h
      refine vx_catch (name := xIOO) hown [] ⟨0, 10, 13, 21⟩ [] (by rw [htab]; rfl) (fun z hz => by cases hz) (by decide) (by decide) lkIOO (va_Nw.use rfl (hT.2.1 (.castable xIOO xIOO) (by simp [xNg]))) hce hcv hcl ?_
      refine lv_astore (lv' := [(4, .ref q9), (0, .ref c0), (1, .int x1), (2, .int x2), (3, .ref o1)]) hx hb dL_project_13 hl (by decide) rfl (fun ls hl => ?_)
      refine lv_iconst (v := 1) hx hb dL_project_15 (by decide) ?_
      exact wrxi (ty := .int) (t0 := (1, o_v)) hx hb hr hlocks hP hD hS (Nat.le_of_ble_eq_true rfl) (Nat.le_of_ble_eq_true rfl) rfl rfl dL_project_16
    · have h := iq cE h
      cases h
  · have h := hkt u hu
    obtain rfl := Option.some.inj h
    have hP : va_P G.1 vwCl (w_H G c0 l0 l1 l2 l3 m0 m1 m2 m3 m4 m5 r0 r1 r2 r3 g0 o1 g_e l_a l_b l_c l_n m_x m_y m_d m_t m_v m_n r_s r_n r_w r_k o_v) H := hP.sub [1, 2, 3, 4, 5, 6, 7, 8, 9, 10, 11, 12, 13, 14, 15, 16, 0] rfl
    have hD : va_D A (w_H G c0 l0 l1 l2 l3 m0 m1 m2 m3 m4 m5 r0 r1 r2 r3 g0 o1 g_e l_a l_b l_c l_n m_x m_y m_d m_t m_v m_n r_s r_n r_w r_k o_v) := hD.sub [1, 2, 3, 4, 5, 6, 7, 8, 9, 10, 11, 12, 13, 14, 15, 16, 0] rfl rfl
    refine lv_i2l hx hb dL_project_8 rfl ?_
    refine va_last hx hb hK.1 hP hD hS 16 2 rfl rfl (vp_in_nI (n := 0) (N := 1) (by omega) (by omega)) dL_project_9 (fun H locs hP hD hS => ?_)
    have hP : va_P G.1 vwCl (w_H G c0 l0 l1 l2 l3 m0 m1 m2 m3 m4 m5 r0 r1 r2 r3 g0 o1 g_e l_a l_b l_c l_n m_x m_y m_d m_t m_v m_n r_s r_n r_w r_k ((vp_updL o_v 0 (Int32.toInt64 u)))) H := hP
    have hD : va_D A (w_H G c0 l0 l1 l2 l3 m0 m1 m2 m3 m4 m5 r0 r1 r2 r3 g0 o1 g_e l_a l_b l_c l_n m_x m_y m_d m_t m_v m_n r_s r_n r_w r_k ((vp_updL o_v 0 (Int32.toInt64 u)))) := hD
    refine lv_goto (tgt := 17) hx hb dL_project_10 (by decide) ?_
    refine lv_iconst (v := 0) hx hb dL_project_17 (by decide) ?_
    exact wrxi (ty := .int) (t0 := (0, (vp_updL o_v 0 (Int32.toInt64 u)))) hx hb hr hlocks hP hD hS (Nat.le_of_ble_eq_true rfl) (Nat.le_of_ble_eq_true rfl) rfl rfl dL_project_18
def fL_best (N : Nat) (l_a : Nat → Int32) (l_b : Nat → Int32) (l_n : Int32) (m_x : Nat → Int32) (m_y : Nat → Int32) (m_d : Nat → Int32) (m_t : Nat → Int32) (m_v : Nat → Int32) (m_n : Int32) (r_s : Nat → Int32) (r_k : Int32) (o_v : Nat → Int64) (x1 : Int32) (x2 : Int32) (x3 : Int32) : Option (Int32 × (Nat → Int64)) := bdc (fX4_best N l_a l_b l_n m_x m_y m_d m_t m_v m_n r_s r_k x1 x2 x3) (fun e => if e = xIOO then some (1, o_v) else if e = xIAE then some (2, o_v) else none) (fun t => some (0, (vp_updL o_v 0 (Int32.toInt64 t))))
set_option maxHeartbeats 4000000 in
set_option maxRecDepth 100000 in
theorem kL_best {l : Launch} (hst : l.stackTraces = false) {G : wG} (c0 l0 l1 l2 l3 m0 m1 m2 m3 m4 m5 r0 r1 r2 r3 g0 o1 : Nat) (g_e : Int64) (l_a : Nat → Int32) (l_b : Nat → Int32) (l_c : Nat → Int32) (l_n : Int32) (m_x : Nat → Int32) (m_y : Nat → Int32) (m_d : Nat → Int32) (m_t : Nat → Int32) (m_v : Nat → Int32) (m_n : Int32) (r_s : Nat → Int32) (r_n : Nat → Int32) (r_w : Nat → Int32) (r_k : Int32) (o_v : Nat → Int64) (x1 : Int32) (x2 : Int32) (x3 : Int32) (N : Nat) (v : Int32 × (Nat → Int64)) (h : fL_best N l_a l_b l_n m_x m_y m_d m_t m_v m_n r_s r_k o_v x1 x2 x3 = some v) : wXi l G yL_best wsL_best ({ frames := 8, cells := 4, slots := 24, locals := 144 } : Room) [.ref c0, .int x1, .int x2, .int x3, .ref o1] (w_H G c0 l0 l1 l2 l3 m0 m1 m2 m3 m4 m5 r0 r1 r2 r3 g0 o1 g_e l_a l_b l_c l_n m_x m_y m_d m_t m_v m_n r_s r_n r_w r_k o_v) (.inr v) (fun t : Int32 × (Nat → Int64) => (w_H G c0 l0 l1 l2 l3 m0 m1 m2 m3 m4 m5 r0 r1 r2 r3 g0 o1 g_e l_a l_b l_c l_n m_x m_y m_d m_t m_v m_n r_s r_n r_w r_k t.2)) (fun t : Int32 × (Nat → Int64) => t.1) 4 24 := by
  refine wXi.mkH (cc := cL_best) (maxL := 6) (ty := .int) (hh := [(0, 12, 15, 21), (0, 12, 19, 13)]) (by decide) rfl (Nat.le_of_ble_eq_true rfl) ?_
  intro p e s m below meth c A ls hx hb hml hr hlocks hts hown hK hA hP hD hT htab hl
  have hown : s.vm.findClass RL = some m.cls := hown
  have hS : va_S A s.heap s.heap [] := va_S.rf
  have hP : va_P G.1 vwCl (w_H G c0 l0 l1 l2 l3 m0 m1 m2 m3 m4 m5 r0 r1 r2 r3 g0 o1 g_e l_a l_b l_c l_n m_x m_y m_d m_t m_v m_n r_s r_n r_w r_k o_v) s.heap := hP
  have hD : va_D A (w_H G c0 l0 l1 l2 l3 m0 m1 m2 m3 m4 m5 r0 r1 r2 r3 g0 o1 g_e l_a l_b l_c l_n m_x m_y m_d m_t m_v m_n r_s r_n r_w r_k o_v) := hD
  have hl : lv_has ls 6 [(0, .ref c0), (1, .int x1), (2, .int x2), (3, .int x3), (4, .ref o1)] := hl
  obtain ⟨args, hargs⟩ : ∃ z : Array Value, z = ([.ref c0, .int x1, .int x2, .int x3, .ref o1] : List Value).toArray := ⟨_, rfl⟩
  rw [← hargs]
  rw [← hargs] at hts
  have lkIOO := hts (.classLink RL 21 xIOO) (by decide +kernel)
  have lkIAE := hts (.classLink RL 13 xIAE) (by decide +kernel)
  rw [fL_best.eq_1] at h
  refine lv_aload hx hb dL_best_0 (lv_at hl 4 rfl) ?_
  refine lv_iconst (v := 0) hx hb dL_best_2 (by decide) ?_
  refine lv_aload_n hx hb dL_best_3 rfl (lv_at hl 0 rfl) ?_
  refine lv_iload_n hx hb dL_best_4 rfl (lv_at hl 1 rfl) ?_
  refine lv_iload_n hx hb dL_best_5 rfl (lv_at hl 2 rfl) ?_
  refine lv_iload_n hx hb dL_best_6 rfl (lv_at hl 3 rfl) ?_
  obtain ⟨xu, hc, hke, hkt⟩ := bdc_inv h
  refine wafterx_i (wr := [(o1, .inl (G.2.2.2, 1, .inr (.inl o_v)))]) (vx_runV (As := [.int x1, .int x2, .int x3]) (rest := [.int 0, .ref o1]) ⟨hx, hb, hml, hown, hts⟩ (kX4_best (l := l) hst (G := G) c0 l0 l1 l2 l3 m0 m1 m2 m3 m4 m5 r0 r1 r2 r3 g0 g_e l_a l_b l_c l_n m_x m_y m_d m_t m_v m_n r_s r_n r_w r_k x1 x2 x3 N xu hc _) (cwV 3 hts gL_best_X4_best rfl rfl rfl (by decide +kernel) ⟨(Nat.le_of_ble_eq_true rfl), (Nat.le_of_ble_eq_true rfl)⟩) (wPreVX hP hD hK hS hA hT [0, 1, 2, 3, 4, 5, 6, 7, 8, 9, 10, 11, 12, 13, 14, 15] rfl rfl (ci := 4) (qb := 0) rfl rfl rfl) rfl rfl hl.1 rfl (lv_room (Nat.le_of_ble_eq_true rfl)) dL_best_7 ⟨(Nat.le_of_ble_eq_true rfl), (Nat.le_of_ble_eq_true rfl)⟩) hP hD hS hA [0, 1, 2, 3, 4, 5, 6, 7, 8, 9, 10, 11, 12, 13, 14, 15] [16] [1, 2, 3, 4, 5, 6, 7, 8, 9, 10, 11, 12, 13, 14, 15, 16, 0] rfl rfl rfl (by decide) rfl rfl (fun E ce q9 H locs he hP hD hS hce hcv hcl => ?_) (fun u H locs hu hP hD hS => ?_)
  · have h := hke E he
    by_cases cE : E = xIOO
    · have h := ip cE h
      subst cE
      obtain rfl := Option.some.inj h
      refine vx_catch (name := xIOO) hown [] ⟨0, 12, 15, 21⟩ [⟨0, 12, 19, 13⟩] (by rw [htab]; rfl) (fun z hz => by cases hz) (by decide) (by decide) lkIOO (va_Nw.use rfl (hT.2.1 (.castable xIOO xIOO) (by simp [xNg]))) hce hcv hcl ?_
      refine lv_astore (lv' := [(5, .ref q9), (0, .ref c0), (1, .int x1), (2, .int x2), (3, .int x3), (4, .ref o1)]) hx hb dL_best_15 hl (by decide) rfl (fun ls hl => ?_)
      refine lv_iconst (v := 1) hx hb dL_best_17 (by decide) ?_
      exact wrxi (ty := .int) (t0 := (1, o_v)) hx hb hr hlocks hP hD hS (Nat.le_of_ble_eq_true rfl) (Nat.le_of_ble_eq_true rfl) rfl rfl dL_best_18
    · have h := iq cE h
      by_cases cE : E = xIAE
      · have h := ip cE h
        subst cE
        obtain rfl := Option.some.inj h
        refine vx_catch (name := xIAE) hown [⟨0, 12, 15, 21⟩] ⟨0, 12, 19, 13⟩ [] (by rw [htab]; rfl) (fun z hz => by obtain rfl := List.mem_singleton.mp hz; exact Or.inr ⟨by decide, xIOO, lkIOO, hT.2.2.2.2.2.2⟩) (by decide) (by decide) lkIAE (va_Nw.use rfl (hT.2.1 (.castable xIAE xIAE) (by simp [xNg]))) hce hcv hcl ?_
        refine lv_astore (lv' := [(5, .ref q9), (0, .ref c0), (1, .int x1), (2, .int x2), (3, .int x3), (4, .ref o1)]) hx hb dL_best_19 hl (by decide) rfl (fun ls hl => ?_)
        refine lv_iconst (v := 2) hx hb dL_best_21 (by decide) ?_
        exact wrxi (ty := .int) (t0 := (2, o_v)) hx hb hr hlocks hP hD hS (Nat.le_of_ble_eq_true rfl) (Nat.le_of_ble_eq_true rfl) rfl rfl dL_best_22
      · have h := iq cE h
        cases h
  · have h := hkt u hu
    obtain rfl := Option.some.inj h
    have hP : va_P G.1 vwCl (w_H G c0 l0 l1 l2 l3 m0 m1 m2 m3 m4 m5 r0 r1 r2 r3 g0 o1 g_e l_a l_b l_c l_n m_x m_y m_d m_t m_v m_n r_s r_n r_w r_k o_v) H := hP.sub [1, 2, 3, 4, 5, 6, 7, 8, 9, 10, 11, 12, 13, 14, 15, 16, 0] rfl
    have hD : va_D A (w_H G c0 l0 l1 l2 l3 m0 m1 m2 m3 m4 m5 r0 r1 r2 r3 g0 o1 g_e l_a l_b l_c l_n m_x m_y m_d m_t m_v m_n r_s r_n r_w r_k o_v) := hD.sub [1, 2, 3, 4, 5, 6, 7, 8, 9, 10, 11, 12, 13, 14, 15, 16, 0] rfl rfl
    refine lv_i2l hx hb dL_best_10 rfl ?_
    refine va_last hx hb hK.1 hP hD hS 16 2 rfl rfl (vp_in_nI (n := 0) (N := 1) (by omega) (by omega)) dL_best_11 (fun H locs hP hD hS => ?_)
    have hP : va_P G.1 vwCl (w_H G c0 l0 l1 l2 l3 m0 m1 m2 m3 m4 m5 r0 r1 r2 r3 g0 o1 g_e l_a l_b l_c l_n m_x m_y m_d m_t m_v m_n r_s r_n r_w r_k ((vp_updL o_v 0 (Int32.toInt64 u)))) H := hP
    have hD : va_D A (w_H G c0 l0 l1 l2 l3 m0 m1 m2 m3 m4 m5 r0 r1 r2 r3 g0 o1 g_e l_a l_b l_c l_n m_x m_y m_d m_t m_v m_n r_s r_n r_w r_k ((vp_updL o_v 0 (Int32.toInt64 u)))) := hD
    refine lv_goto (tgt := 23) hx hb dL_best_12 (by decide) ?_
    refine lv_iconst (v := 0) hx hb dL_best_23 (by decide) ?_
    exact wrxi (ty := .int) (t0 := (0, (vp_updL o_v 0 (Int32.toInt64 u)))) hx hb hr hlocks hP hD hS (Nat.le_of_ble_eq_true rfl) (Nat.le_of_ble_eq_true rfl) rfl rfl dL_best_24
def fL_reflected (N : Nat) (l_a : Nat → Int32) (l_b : Nat → Int32) (l_c : Nat → Int32) (l_n : Int32) (o_v : Nat → Int64) (x1 : Int32) (x2 : Int32) : Option (Int32 × (Nat → Int64)) := bdc (fX4_reflected N l_a l_b l_c l_n x1 x2) (fun e => if e = xIOO then some (1, o_v) else none) (fun t => some (0, (vp_updL o_v 0 (Int32.toInt64 t))))
set_option maxHeartbeats 4000000 in
set_option maxRecDepth 100000 in
theorem kL_reflected {l : Launch} (hst : l.stackTraces = false) {G : wG} (c0 l0 l1 l2 l3 m0 m1 m2 m3 m4 m5 r0 r1 r2 r3 g0 o1 : Nat) (g_e : Int64) (l_a : Nat → Int32) (l_b : Nat → Int32) (l_c : Nat → Int32) (l_n : Int32) (m_x : Nat → Int32) (m_y : Nat → Int32) (m_d : Nat → Int32) (m_t : Nat → Int32) (m_v : Nat → Int32) (m_n : Int32) (r_s : Nat → Int32) (r_n : Nat → Int32) (r_w : Nat → Int32) (r_k : Int32) (o_v : Nat → Int64) (x1 : Int32) (x2 : Int32) (N : Nat) (v : Int32 × (Nat → Int64)) (h : fL_reflected N l_a l_b l_c l_n o_v x1 x2 = some v) : wXi l G yL_reflected wsL_reflected ({ frames := 8, cells := 4, slots := 24, locals := 143 } : Room) [.ref c0, .int x1, .int x2, .ref o1] (w_H G c0 l0 l1 l2 l3 m0 m1 m2 m3 m4 m5 r0 r1 r2 r3 g0 o1 g_e l_a l_b l_c l_n m_x m_y m_d m_t m_v m_n r_s r_n r_w r_k o_v) (.inr v) (fun t : Int32 × (Nat → Int64) => (w_H G c0 l0 l1 l2 l3 m0 m1 m2 m3 m4 m5 r0 r1 r2 r3 g0 o1 g_e l_a l_b l_c l_n m_x m_y m_d m_t m_v m_n r_s r_n r_w r_k t.2)) (fun t : Int32 × (Nat → Int64) => t.1) 4 24 := by
  refine wXi.mkH (cc := cL_reflected) (maxL := 5) (ty := .int) (hh := [(0, 10, 13, 21)]) (by decide) rfl (Nat.le_of_ble_eq_true rfl) ?_
  intro p e s m below meth c A ls hx hb hml hr hlocks hts hown hK hA hP hD hT htab hl
  have hown : s.vm.findClass RL = some m.cls := hown
  have hS : va_S A s.heap s.heap [] := va_S.rf
  have hP : va_P G.1 vwCl (w_H G c0 l0 l1 l2 l3 m0 m1 m2 m3 m4 m5 r0 r1 r2 r3 g0 o1 g_e l_a l_b l_c l_n m_x m_y m_d m_t m_v m_n r_s r_n r_w r_k o_v) s.heap := hP
  have hD : va_D A (w_H G c0 l0 l1 l2 l3 m0 m1 m2 m3 m4 m5 r0 r1 r2 r3 g0 o1 g_e l_a l_b l_c l_n m_x m_y m_d m_t m_v m_n r_s r_n r_w r_k o_v) := hD
  have hl : lv_has ls 5 [(0, .ref c0), (1, .int x1), (2, .int x2), (3, .ref o1)] := hl
  obtain ⟨args, hargs⟩ : ∃ z : Array Value, z = ([.ref c0, .int x1, .int x2, .ref o1] : List Value).toArray := ⟨_, rfl⟩
  rw [← hargs]
  rw [← hargs] at hts
  have lkIOO := hts (.classLink RL 21 xIOO) (by decide +kernel)
  rw [fL_reflected.eq_1] at h
  refine lv_aload_n hx hb dL_reflected_0 rfl (lv_at hl 3 rfl) ?_
  refine lv_iconst (v := 0) hx hb dL_reflected_1 (by decide) ?_
  refine lv_aload_n hx hb dL_reflected_2 rfl (lv_at hl 0 rfl) ?_
  refine lv_iload_n hx hb dL_reflected_3 rfl (lv_at hl 1 rfl) ?_
  refine lv_iload_n hx hb dL_reflected_4 rfl (lv_at hl 2 rfl) ?_
  obtain ⟨xu, hc, hke, hkt⟩ := bdc_inv h
  refine wafterx_i (wr := [(o1, .inl (G.2.2.2, 1, .inr (.inl o_v)))]) (vx_runV (As := [.int x1, .int x2]) (rest := [.int 0, .ref o1]) ⟨hx, hb, hml, hown, hts⟩ (kX4_reflected (l := l) hst (G := G) c0 l0 l1 l2 l3 m0 m1 m2 m3 m4 m5 r0 r1 r2 r3 g0 g_e l_a l_b l_c l_n m_x m_y m_d m_t m_v m_n r_s r_n r_w r_k x1 x2 N xu hc _) (cwV 2 hts gL_reflected_X4_reflected rfl rfl rfl (by decide +kernel) ⟨(Nat.le_of_ble_eq_true rfl), (Nat.le_of_ble_eq_true rfl)⟩) (wPreVX hP hD hK hS hA hT [0, 1, 2, 3, 4, 5, 6, 7, 8, 9, 10, 11, 12, 13, 14, 15] rfl rfl (ci := 4) (qb := 0) rfl rfl rfl) rfl rfl hl.1 rfl (lv_room (Nat.le_of_ble_eq_true rfl)) dL_reflected_5 ⟨(Nat.le_of_ble_eq_true rfl), (Nat.le_of_ble_eq_true rfl)⟩) hP hD hS hA [0, 1, 2, 3, 4, 5, 6, 7, 8, 9, 10, 11, 12, 13, 14, 15] [16] [1, 2, 3, 4, 5, 6, 7, 8, 9, 10, 11, 12, 13, 14, 15, 16, 0] rfl rfl rfl (by decide) rfl rfl (fun E ce q9 H locs he hP hD hS hce hcv hcl => ?_) (fun u H locs hu hP hD hS => ?_)
  · have h := hke E he
    by_cases cE : E = xIOO
    · have h := ip cE h
      subst cE
      obtain rfl := Option.some.inj h
      refine vx_catch (name := xIOO) hown [] ⟨0, 10, 13, 21⟩ [] (by rw [htab]; rfl) (fun z hz => by cases hz) (by decide) (by decide) lkIOO (va_Nw.use rfl (hT.2.1 (.castable xIOO xIOO) (by simp [xNg]))) hce hcv hcl ?_
      refine lv_astore (lv' := [(4, .ref q9), (0, .ref c0), (1, .int x1), (2, .int x2), (3, .ref o1)]) hx hb dL_reflected_13 hl (by decide) rfl (fun ls hl => ?_)
      refine lv_iconst (v := 1) hx hb dL_reflected_15 (by decide) ?_
      exact wrxi (ty := .int) (t0 := (1, o_v)) hx hb hr hlocks hP hD hS (Nat.le_of_ble_eq_true rfl) (Nat.le_of_ble_eq_true rfl) rfl rfl dL_reflected_16
    · have h := iq cE h
      cases h
  · have h := hkt u hu
    obtain rfl := Option.some.inj h
    have hP : va_P G.1 vwCl (w_H G c0 l0 l1 l2 l3 m0 m1 m2 m3 m4 m5 r0 r1 r2 r3 g0 o1 g_e l_a l_b l_c l_n m_x m_y m_d m_t m_v m_n r_s r_n r_w r_k o_v) H := hP.sub [1, 2, 3, 4, 5, 6, 7, 8, 9, 10, 11, 12, 13, 14, 15, 16, 0] rfl
    have hD : va_D A (w_H G c0 l0 l1 l2 l3 m0 m1 m2 m3 m4 m5 r0 r1 r2 r3 g0 o1 g_e l_a l_b l_c l_n m_x m_y m_d m_t m_v m_n r_s r_n r_w r_k o_v) := hD.sub [1, 2, 3, 4, 5, 6, 7, 8, 9, 10, 11, 12, 13, 14, 15, 16, 0] rfl rfl
    refine lv_i2l hx hb dL_reflected_8 rfl ?_
    refine va_last hx hb hK.1 hP hD hS 16 2 rfl rfl (vp_in_nI (n := 0) (N := 1) (by omega) (by omega)) dL_reflected_9 (fun H locs hP hD hS => ?_)
    have hP : va_P G.1 vwCl (w_H G c0 l0 l1 l2 l3 m0 m1 m2 m3 m4 m5 r0 r1 r2 r3 g0 o1 g_e l_a l_b l_c l_n m_x m_y m_d m_t m_v m_n r_s r_n r_w r_k ((vp_updL o_v 0 (Int32.toInt64 u)))) H := hP
    have hD : va_D A (w_H G c0 l0 l1 l2 l3 m0 m1 m2 m3 m4 m5 r0 r1 r2 r3 g0 o1 g_e l_a l_b l_c l_n m_x m_y m_d m_t m_v m_n r_s r_n r_w r_k ((vp_updL o_v 0 (Int32.toInt64 u)))) := hD
    refine lv_goto (tgt := 17) hx hb dL_reflected_10 (by decide) ?_
    refine lv_iconst (v := 0) hx hb dL_reflected_17 (by decide) ?_
    exact wrxi (ty := .int) (t0 := (0, (vp_updL o_v 0 (Int32.toInt64 u)))) hx hb hr hlocks hP hD hS (Nat.le_of_ble_eq_true rfl) (Nat.le_of_ble_eq_true rfl) rfl rfl dL_reflected_18
def fL_pair (N : Nat) (l_n : Int32) (m_t : Nat → Int32) (m_n : Int32) (o_v : Nat → Int64) (x1 : Int32) : Option (Int32 × (Nat → Int64)) := bdc (fX4_pair N l_n m_t m_n x1) (fun e => if e = xIOO then some (1, o_v) else none) (fun t => some (0, (vp_updL o_v 0 (Int32.toInt64 t))))
set_option maxHeartbeats 4000000 in
set_option maxRecDepth 100000 in
theorem kL_pair {l : Launch} (hst : l.stackTraces = false) {G : wG} (c0 l0 l1 l2 l3 m0 m1 m2 m3 m4 m5 r0 r1 r2 r3 g0 o1 : Nat) (g_e : Int64) (l_a : Nat → Int32) (l_b : Nat → Int32) (l_c : Nat → Int32) (l_n : Int32) (m_x : Nat → Int32) (m_y : Nat → Int32) (m_d : Nat → Int32) (m_t : Nat → Int32) (m_v : Nat → Int32) (m_n : Int32) (r_s : Nat → Int32) (r_n : Nat → Int32) (r_w : Nat → Int32) (r_k : Int32) (o_v : Nat → Int64) (x1 : Int32) (N : Nat) (v : Int32 × (Nat → Int64)) (h : fL_pair N l_n m_t m_n o_v x1 = some v) : wXi l G yL_pair wsL_pair ({ frames := 8, cells := 4, slots := 24, locals := 144 } : Room) [.ref c0, .int x1, .ref o1] (w_H G c0 l0 l1 l2 l3 m0 m1 m2 m3 m4 m5 r0 r1 r2 r3 g0 o1 g_e l_a l_b l_c l_n m_x m_y m_d m_t m_v m_n r_s r_n r_w r_k o_v) (.inr v) (fun t : Int32 × (Nat → Int64) => (w_H G c0 l0 l1 l2 l3 m0 m1 m2 m3 m4 m5 r0 r1 r2 r3 g0 o1 g_e l_a l_b l_c l_n m_x m_y m_d m_t m_v m_n r_s r_n r_w r_k t.2)) (fun t : Int32 × (Nat → Int64) => t.1) 4 24 := by
  refine wXi.mkH (cc := cL_pair) (maxL := 4) (ty := .int) (hh := [(0, 9, 12, 21)]) (by decide) rfl (Nat.le_of_ble_eq_true rfl) ?_
  intro p e s m below meth c A ls hx hb hml hr hlocks hts hown hK hA hP hD hT htab hl
  have hown : s.vm.findClass RL = some m.cls := hown
  have hS : va_S A s.heap s.heap [] := va_S.rf
  have hP : va_P G.1 vwCl (w_H G c0 l0 l1 l2 l3 m0 m1 m2 m3 m4 m5 r0 r1 r2 r3 g0 o1 g_e l_a l_b l_c l_n m_x m_y m_d m_t m_v m_n r_s r_n r_w r_k o_v) s.heap := hP
  have hD : va_D A (w_H G c0 l0 l1 l2 l3 m0 m1 m2 m3 m4 m5 r0 r1 r2 r3 g0 o1 g_e l_a l_b l_c l_n m_x m_y m_d m_t m_v m_n r_s r_n r_w r_k o_v) := hD
  have hl : lv_has ls 4 [(0, .ref c0), (1, .int x1), (2, .ref o1)] := hl
  obtain ⟨args, hargs⟩ : ∃ z : Array Value, z = ([.ref c0, .int x1, .ref o1] : List Value).toArray := ⟨_, rfl⟩
  rw [← hargs]
  rw [← hargs] at hts
  have lkIOO := hts (.classLink RL 21 xIOO) (by decide +kernel)
  rw [fL_pair.eq_1] at h
  refine lv_aload_n hx hb dL_pair_0 rfl (lv_at hl 2 rfl) ?_
  refine lv_iconst (v := 0) hx hb dL_pair_1 (by decide) ?_
  refine lv_aload_n hx hb dL_pair_2 rfl (lv_at hl 0 rfl) ?_
  refine lv_iload_n hx hb dL_pair_3 rfl (lv_at hl 1 rfl) ?_
  obtain ⟨xu, hc, hke, hkt⟩ := bdc_inv h
  refine wafterx_i (wr := [(o1, .inl (G.2.2.2, 1, .inr (.inl o_v)))]) (vx_runV (As := [.int x1]) (rest := [.int 0, .ref o1]) ⟨hx, hb, hml, hown, hts⟩ (kX4_pair (l := l) hst (G := G) c0 l0 l1 l2 l3 m0 m1 m2 m3 m4 m5 r0 r1 r2 r3 g0 g_e l_a l_b l_c l_n m_x m_y m_d m_t m_v m_n r_s r_n r_w r_k x1 N xu hc _) (cwV 1 hts gL_pair_X4_pair rfl rfl rfl (by decide +kernel) ⟨(Nat.le_of_ble_eq_true rfl), (Nat.le_of_ble_eq_true rfl)⟩) (wPreVX hP hD hK hS hA hT [0, 1, 2, 3, 4, 5, 6, 7, 8, 9, 10, 11, 12, 13, 14, 15] rfl rfl (ci := 4) (qb := 0) rfl rfl rfl) rfl rfl hl.1 rfl (lv_room (Nat.le_of_ble_eq_true rfl)) dL_pair_4 ⟨(Nat.le_of_ble_eq_true rfl), (Nat.le_of_ble_eq_true rfl)⟩) hP hD hS hA [0, 1, 2, 3, 4, 5, 6, 7, 8, 9, 10, 11, 12, 13, 14, 15] [16] [1, 2, 3, 4, 5, 6, 7, 8, 9, 10, 11, 12, 13, 14, 15, 16, 0] rfl rfl rfl (by decide) rfl rfl (fun E ce q9 H locs he hP hD hS hce hcv hcl => ?_) (fun u H locs hu hP hD hS => ?_)
  · have h := hke E he
    by_cases cE : E = xIOO
    · have h := ip cE h
      subst cE
      obtain rfl := Option.some.inj h
      refine vx_catch (name := xIOO) hown [] ⟨0, 9, 12, 21⟩ [] (by rw [htab]; rfl) (fun z hz => by cases hz) (by decide) (by decide) lkIOO (va_Nw.use rfl (hT.2.1 (.castable xIOO xIOO) (by simp [xNg]))) hce hcv hcl ?_
      refine lv_astore_n (lv' := [(3, .ref q9), (0, .ref c0), (1, .int x1), (2, .ref o1)]) hx hb dL_pair_12 rfl hl (by decide) rfl (fun ls hl => ?_)
      refine lv_iconst (v := 1) hx hb dL_pair_13 (by decide) ?_
      exact wrxi (ty := .int) (t0 := (1, o_v)) hx hb hr hlocks hP hD hS (Nat.le_of_ble_eq_true rfl) (Nat.le_of_ble_eq_true rfl) rfl rfl dL_pair_14
    · have h := iq cE h
      cases h
  · have h := hkt u hu
    obtain rfl := Option.some.inj h
    have hP : va_P G.1 vwCl (w_H G c0 l0 l1 l2 l3 m0 m1 m2 m3 m4 m5 r0 r1 r2 r3 g0 o1 g_e l_a l_b l_c l_n m_x m_y m_d m_t m_v m_n r_s r_n r_w r_k o_v) H := hP.sub [1, 2, 3, 4, 5, 6, 7, 8, 9, 10, 11, 12, 13, 14, 15, 16, 0] rfl
    have hD : va_D A (w_H G c0 l0 l1 l2 l3 m0 m1 m2 m3 m4 m5 r0 r1 r2 r3 g0 o1 g_e l_a l_b l_c l_n m_x m_y m_d m_t m_v m_n r_s r_n r_w r_k o_v) := hD.sub [1, 2, 3, 4, 5, 6, 7, 8, 9, 10, 11, 12, 13, 14, 15, 16, 0] rfl rfl
    refine lv_i2l hx hb dL_pair_7 rfl ?_
    refine va_last hx hb hK.1 hP hD hS 16 2 rfl rfl (vp_in_nI (n := 0) (N := 1) (by omega) (by omega)) dL_pair_8 (fun H locs hP hD hS => ?_)
    have hP : va_P G.1 vwCl (w_H G c0 l0 l1 l2 l3 m0 m1 m2 m3 m4 m5 r0 r1 r2 r3 g0 o1 g_e l_a l_b l_c l_n m_x m_y m_d m_t m_v m_n r_s r_n r_w r_k ((vp_updL o_v 0 (Int32.toInt64 u)))) H := hP
    have hD : va_D A (w_H G c0 l0 l1 l2 l3 m0 m1 m2 m3 m4 m5 r0 r1 r2 r3 g0 o1 g_e l_a l_b l_c l_n m_x m_y m_d m_t m_v m_n r_s r_n r_w r_k ((vp_updL o_v 0 (Int32.toInt64 u)))) := hD
    refine lv_goto (tgt := 15) hx hb dL_pair_9 (by decide) ?_
    refine lv_iconst (v := 0) hx hb dL_pair_15 (by decide) ?_
    exact wrxi (ty := .int) (t0 := (0, (vp_updL o_v 0 (Int32.toInt64 u)))) hx hb hr hlocks hP hD hS (Nat.le_of_ble_eq_true rfl) (Nat.le_of_ble_eq_true rfl) rfl rfl dL_pair_16
def fL_edge (N : Nat) (g_e : Int64) (o_v : Nat → Int64) (x1 : Int32) (x2 : Int32) : Option (Int32 × Int64 × (Nat → Int64)) := bdc (fX4_edge N g_e x1 x2) (fun e => if e = xIOO then some (1, g_e, o_v) else if e = xIAE then some (2, g_e, o_v) else none) (fun t => some (0, t.2, (vp_updL o_v 0 (Int32.toInt64 t.1))))
set_option maxHeartbeats 4000000 in
set_option maxRecDepth 100000 in
theorem kL_edge {l : Launch} (hst : l.stackTraces = false) {G : wG} (c0 l0 l1 l2 l3 m0 m1 m2 m3 m4 m5 r0 r1 r2 r3 g0 o1 : Nat) (g_e : Int64) (l_a : Nat → Int32) (l_b : Nat → Int32) (l_c : Nat → Int32) (l_n : Int32) (m_x : Nat → Int32) (m_y : Nat → Int32) (m_d : Nat → Int32) (m_t : Nat → Int32) (m_v : Nat → Int32) (m_n : Int32) (r_s : Nat → Int32) (r_n : Nat → Int32) (r_w : Nat → Int32) (r_k : Int32) (o_v : Nat → Int64) (x1 : Int32) (x2 : Int32) (N : Nat) (v : Int32 × Int64 × (Nat → Int64)) (h : fL_edge N g_e o_v x1 x2 = some v) : wXi l G yL_edge wsL_edge ({ frames := 7, cells := 4, slots := 24, locals := 122 } : Room) [.ref c0, .int x1, .int x2, .ref o1] (w_H G c0 l0 l1 l2 l3 m0 m1 m2 m3 m4 m5 r0 r1 r2 r3 g0 o1 g_e l_a l_b l_c l_n m_x m_y m_d m_t m_v m_n r_s r_n r_w r_k o_v) (.inr v) (fun t : Int32 × Int64 × (Nat → Int64) => (w_H G c0 l0 l1 l2 l3 m0 m1 m2 m3 m4 m5 r0 r1 r2 r3 g0 o1 t.2.1 l_a l_b l_c l_n m_x m_y m_d m_t m_v m_n r_s r_n r_w r_k t.2.2)) (fun t : Int32 × Int64 × (Nat → Int64) => t.1) 4 24 := by
  refine wXi.mkH (cc := cL_edge) (maxL := 5) (ty := .int) (hh := [(0, 10, 13, 21), (0, 10, 17, 13)]) (by decide) rfl (Nat.le_of_ble_eq_true rfl) ?_
  intro p e s m below meth c A ls hx hb hml hr hlocks hts hown hK hA hP hD hT htab hl
  have hown : s.vm.findClass RL = some m.cls := hown
  have hS : va_S A s.heap s.heap [] := va_S.rf
  have hP : va_P G.1 vwCl (w_H G c0 l0 l1 l2 l3 m0 m1 m2 m3 m4 m5 r0 r1 r2 r3 g0 o1 g_e l_a l_b l_c l_n m_x m_y m_d m_t m_v m_n r_s r_n r_w r_k o_v) s.heap := hP
  have hD : va_D A (w_H G c0 l0 l1 l2 l3 m0 m1 m2 m3 m4 m5 r0 r1 r2 r3 g0 o1 g_e l_a l_b l_c l_n m_x m_y m_d m_t m_v m_n r_s r_n r_w r_k o_v) := hD
  have hl : lv_has ls 5 [(0, .ref c0), (1, .int x1), (2, .int x2), (3, .ref o1)] := hl
  obtain ⟨args, hargs⟩ : ∃ z : Array Value, z = ([.ref c0, .int x1, .int x2, .ref o1] : List Value).toArray := ⟨_, rfl⟩
  rw [← hargs]
  rw [← hargs] at hts
  have lkIOO := hts (.classLink RL 21 xIOO) (by decide +kernel)
  have lkIAE := hts (.classLink RL 13 xIAE) (by decide +kernel)
  rw [fL_edge.eq_1] at h
  refine lv_aload_n hx hb dL_edge_0 rfl (lv_at hl 3 rfl) ?_
  refine lv_iconst (v := 0) hx hb dL_edge_1 (by decide) ?_
  refine lv_aload_n hx hb dL_edge_2 rfl (lv_at hl 0 rfl) ?_
  refine lv_iload_n hx hb dL_edge_3 rfl (lv_at hl 1 rfl) ?_
  refine lv_iload_n hx hb dL_edge_4 rfl (lv_at hl 2 rfl) ?_
  obtain ⟨xu, hc, hke, hkt⟩ := bdc_inv h
  refine wafterx_i (wr := [(o1, .inl (G.2.2.2, 1, .inr (.inl o_v)))]) (vx_runV (As := [.int x1, .int x2]) (rest := [.int 0, .ref o1]) ⟨hx, hb, hml, hown, hts⟩ (kX4_edge (l := l) hst (G := G) c0 l0 l1 l2 l3 m0 m1 m2 m3 m4 m5 r0 r1 r2 r3 g0 g_e l_a l_b l_c l_n m_x m_y m_d m_t m_v m_n r_s r_n r_w r_k x1 x2 N xu hc _) (cwV 2 hts gL_edge_X4_edge rfl rfl rfl (by decide +kernel) ⟨(Nat.le_of_ble_eq_true rfl), (Nat.le_of_ble_eq_true rfl)⟩) (wPreVX hP hD hK hS hA hT [0, 1, 2, 3, 4, 5, 6, 7, 8, 9, 10, 11, 12, 13, 14, 15] rfl rfl (ci := 4) (qb := 0) rfl rfl rfl) rfl rfl hl.1 rfl (lv_room (Nat.le_of_ble_eq_true rfl)) dL_edge_5 ⟨(Nat.le_of_ble_eq_true rfl), (Nat.le_of_ble_eq_true rfl)⟩) hP hD hS hA [0, 1, 2, 3, 4, 5, 6, 7, 8, 9, 10, 11, 12, 13, 14, 15] [16] [1, 2, 3, 4, 5, 6, 7, 8, 9, 10, 11, 12, 13, 14, 15, 16, 0] rfl rfl rfl (by decide) rfl rfl (fun E ce q9 H locs he hP hD hS hce hcv hcl => ?_) (fun u H locs hu hP hD hS => ?_)
  · have h := hke E he
    by_cases cE : E = xIOO
    · have h := ip cE h
      subst cE
      obtain rfl := Option.some.inj h
      refine vx_catch (name := xIOO) hown [] ⟨0, 10, 13, 21⟩ [⟨0, 10, 17, 13⟩] (by rw [htab]; rfl) (fun z hz => by cases hz) (by decide) (by decide) lkIOO (va_Nw.use rfl (hT.2.1 (.castable xIOO xIOO) (by simp [xNg]))) hce hcv hcl ?_
      refine lv_astore (lv' := [(4, .ref q9), (0, .ref c0), (1, .int x1), (2, .int x2), (3, .ref o1)]) hx hb dL_edge_13 hl (by decide) rfl (fun ls hl => ?_)
      refine lv_iconst (v := 1) hx hb dL_edge_15 (by decide) ?_
      exact wrxi (ty := .int) (t0 := (1, g_e, o_v)) hx hb hr hlocks hP hD hS (Nat.le_of_ble_eq_true rfl) (Nat.le_of_ble_eq_true rfl) rfl rfl dL_edge_16
    · have h := iq cE h
      by_cases cE : E = xIAE
      · have h := ip cE h
        subst cE
        obtain rfl := Option.some.inj h
        refine vx_catch (name := xIAE) hown [⟨0, 10, 13, 21⟩] ⟨0, 10, 17, 13⟩ [] (by rw [htab]; rfl) (fun z hz => by obtain rfl := List.mem_singleton.mp hz; exact Or.inr ⟨by decide, xIOO, lkIOO, hT.2.2.2.2.2.2⟩) (by decide) (by decide) lkIAE (va_Nw.use rfl (hT.2.1 (.castable xIAE xIAE) (by simp [xNg]))) hce hcv hcl ?_
        refine lv_astore (lv' := [(4, .ref q9), (0, .ref c0), (1, .int x1), (2, .int x2), (3, .ref o1)]) hx hb dL_edge_17 hl (by decide) rfl (fun ls hl => ?_)
        refine lv_iconst (v := 2) hx hb dL_edge_19 (by decide) ?_
        exact wrxi (ty := .int) (t0 := (2, g_e, o_v)) hx hb hr hlocks hP hD hS (Nat.le_of_ble_eq_true rfl) (Nat.le_of_ble_eq_true rfl) rfl rfl dL_edge_20
      · have h := iq cE h
        cases h
  · have h := hkt u hu
    obtain rfl := Option.some.inj h
    have hP : va_P G.1 vwCl (w_H G c0 l0 l1 l2 l3 m0 m1 m2 m3 m4 m5 r0 r1 r2 r3 g0 o1 u.2 l_a l_b l_c l_n m_x m_y m_d m_t m_v m_n r_s r_n r_w r_k o_v) H := hP.sub [1, 2, 3, 4, 5, 6, 7, 8, 9, 10, 11, 12, 13, 14, 15, 16, 0] rfl
    have hD : va_D A (w_H G c0 l0 l1 l2 l3 m0 m1 m2 m3 m4 m5 r0 r1 r2 r3 g0 o1 u.2 l_a l_b l_c l_n m_x m_y m_d m_t m_v m_n r_s r_n r_w r_k o_v) := hD.sub [1, 2, 3, 4, 5, 6, 7, 8, 9, 10, 11, 12, 13, 14, 15, 16, 0] rfl rfl
    refine lv_i2l hx hb dL_edge_8 rfl ?_
    refine va_last hx hb hK.1 hP hD hS 16 2 rfl rfl (vp_in_nI (n := 0) (N := 1) (by omega) (by omega)) dL_edge_9 (fun H locs hP hD hS => ?_)
    have hP : va_P G.1 vwCl (w_H G c0 l0 l1 l2 l3 m0 m1 m2 m3 m4 m5 r0 r1 r2 r3 g0 o1 u.2 l_a l_b l_c l_n m_x m_y m_d m_t m_v m_n r_s r_n r_w r_k ((vp_updL o_v 0 (Int32.toInt64 u.1)))) H := hP
    have hD : va_D A (w_H G c0 l0 l1 l2 l3 m0 m1 m2 m3 m4 m5 r0 r1 r2 r3 g0 o1 u.2 l_a l_b l_c l_n m_x m_y m_d m_t m_v m_n r_s r_n r_w r_k ((vp_updL o_v 0 (Int32.toInt64 u.1)))) := hD
    refine lv_goto (tgt := 21) hx hb dL_edge_10 (by decide) ?_
    refine lv_iconst (v := 0) hx hb dL_edge_21 (by decide) ?_
    exact wrxi (ty := .int) (t0 := (0, u.2, (vp_updL o_v 0 (Int32.toInt64 u.1)))) hx hb hr hlocks hP hD hS (Nat.le_of_ble_eq_true rfl) (Nat.le_of_ble_eq_true rfl) rfl rfl dL_edge_22
def fL_colourings (N : Nat) (g_e : Int64) (o_v : Nat → Int64) (x1 : Int32) : Option (Int32 × (Nat → Int64)) := bdc (fX4_colourings N g_e x1) (fun e => if e = xIAE then some (1, o_v) else none) (fun t => some (0, (vp_updL o_v 0 (Int32.toInt64 t))))
set_option maxHeartbeats 4000000 in
set_option maxRecDepth 100000 in
theorem kL_colourings {l : Launch} (hst : l.stackTraces = false) {G : wG} (c0 l0 l1 l2 l3 m0 m1 m2 m3 m4 m5 r0 r1 r2 r3 g0 o1 : Nat) (g_e : Int64) (l_a : Nat → Int32) (l_b : Nat → Int32) (l_c : Nat → Int32) (l_n : Int32) (m_x : Nat → Int32) (m_y : Nat → Int32) (m_d : Nat → Int32) (m_t : Nat → Int32) (m_v : Nat → Int32) (m_n : Int32) (r_s : Nat → Int32) (r_n : Nat → Int32) (r_w : Nat → Int32) (r_k : Int32) (o_v : Nat → Int64) (x1 : Int32) (N : Nat) (v : Int32 × (Nat → Int64)) (h : fL_colourings N g_e o_v x1 = some v) : wXi l G yL_colourings wsL_colourings ({ frames := 20, cells := 4, slots := 24, locals := 540 } : Room) [.ref c0, .int x1, .ref o1] (w_H G c0 l0 l1 l2 l3 m0 m1 m2 m3 m4 m5 r0 r1 r2 r3 g0 o1 g_e l_a l_b l_c l_n m_x m_y m_d m_t m_v m_n r_s r_n r_w r_k o_v) (.inr v) (fun t : Int32 × (Nat → Int64) => (w_H G c0 l0 l1 l2 l3 m0 m1 m2 m3 m4 m5 r0 r1 r2 r3 g0 o1 g_e l_a l_b l_c l_n m_x m_y m_d m_t m_v m_n r_s r_n r_w r_k t.2)) (fun t : Int32 × (Nat → Int64) => t.1) 4 24 := by
  refine wXi.mkH (cc := cL_colourings) (maxL := 4) (ty := .int) (hh := [(0, 9, 12, 13)]) (by decide) rfl (Nat.le_of_ble_eq_true rfl) ?_
  intro p e s m below meth c A ls hx hb hml hr hlocks hts hown hK hA hP hD hT htab hl
  have hown : s.vm.findClass RL = some m.cls := hown
  have hS : va_S A s.heap s.heap [] := va_S.rf
  have hP : va_P G.1 vwCl (w_H G c0 l0 l1 l2 l3 m0 m1 m2 m3 m4 m5 r0 r1 r2 r3 g0 o1 g_e l_a l_b l_c l_n m_x m_y m_d m_t m_v m_n r_s r_n r_w r_k o_v) s.heap := hP
  have hD : va_D A (w_H G c0 l0 l1 l2 l3 m0 m1 m2 m3 m4 m5 r0 r1 r2 r3 g0 o1 g_e l_a l_b l_c l_n m_x m_y m_d m_t m_v m_n r_s r_n r_w r_k o_v) := hD
  have hl : lv_has ls 4 [(0, .ref c0), (1, .int x1), (2, .ref o1)] := hl
  obtain ⟨args, hargs⟩ : ∃ z : Array Value, z = ([.ref c0, .int x1, .ref o1] : List Value).toArray := ⟨_, rfl⟩
  rw [← hargs]
  rw [← hargs] at hts
  have lkIAE := hts (.classLink RL 13 xIAE) (by decide +kernel)
  rw [fL_colourings.eq_1] at h
  refine lv_aload_n hx hb dL_colourings_0 rfl (lv_at hl 2 rfl) ?_
  refine lv_iconst (v := 0) hx hb dL_colourings_1 (by decide) ?_
  refine lv_aload_n hx hb dL_colourings_2 rfl (lv_at hl 0 rfl) ?_
  refine lv_iload_n hx hb dL_colourings_3 rfl (lv_at hl 1 rfl) ?_
  obtain ⟨xu, hc, hke, hkt⟩ := bdc_inv h
  refine wafterx_i (wr := [(o1, .inl (G.2.2.2, 1, .inr (.inl o_v)))]) (vx_runV (As := [.int x1]) (rest := [.int 0, .ref o1]) ⟨hx, hb, hml, hown, hts⟩ (kX4_colourings (l := l) hst (G := G) c0 l0 l1 l2 l3 m0 m1 m2 m3 m4 m5 r0 r1 r2 r3 g0 g_e l_a l_b l_c l_n m_x m_y m_d m_t m_v m_n r_s r_n r_w r_k x1 N xu hc _) (cwV 1 hts gL_colourings_X4_colourings rfl rfl rfl (by decide +kernel) ⟨(Nat.le_of_ble_eq_true rfl), (Nat.le_of_ble_eq_true rfl)⟩) (wPreVX hP hD hK hS hA hT [0, 1, 2, 3, 4, 5, 6, 7, 8, 9, 10, 11, 12, 13, 14, 15] rfl rfl (ci := 4) (qb := 0) rfl rfl rfl) rfl rfl hl.1 rfl (lv_room (Nat.le_of_ble_eq_true rfl)) dL_colourings_4 ⟨(Nat.le_of_ble_eq_true rfl), (Nat.le_of_ble_eq_true rfl)⟩) hP hD hS hA [0, 1, 2, 3, 4, 5, 6, 7, 8, 9, 10, 11, 12, 13, 14, 15] [16] [1, 2, 3, 4, 5, 6, 7, 8, 9, 10, 11, 12, 13, 14, 15, 16, 0] rfl rfl rfl (by decide) rfl rfl (fun E ce q9 H locs he hP hD hS hce hcv hcl => ?_) (fun u H locs hu hP hD hS => ?_)
  · have h := hke E he
    by_cases cE : E = xIAE
    · have h := ip cE h
      subst cE
      obtain rfl := Option.some.inj h
      refine vx_catch (name := xIAE) hown [] ⟨0, 9, 12, 13⟩ [] (by rw [htab]; rfl) (fun z hz => by cases hz) (by decide) (by decide) lkIAE (va_Nw.use rfl (hT.2.1 (.castable xIAE xIAE) (by simp [xNg]))) hce hcv hcl ?_
      refine lv_astore_n (lv' := [(3, .ref q9), (0, .ref c0), (1, .int x1), (2, .ref o1)]) hx hb dL_colourings_12 rfl hl (by decide) rfl (fun ls hl => ?_)
      refine lv_iconst (v := 1) hx hb dL_colourings_13 (by decide) ?_
      exact wrxi (ty := .int) (t0 := (1, o_v)) hx hb hr hlocks hP hD hS (Nat.le_of_ble_eq_true rfl) (Nat.le_of_ble_eq_true rfl) rfl rfl dL_colourings_14
    · have h := iq cE h
      cases h
  · have h := hkt u hu
    obtain rfl := Option.some.inj h
    have hP : va_P G.1 vwCl (w_H G c0 l0 l1 l2 l3 m0 m1 m2 m3 m4 m5 r0 r1 r2 r3 g0 o1 g_e l_a l_b l_c l_n m_x m_y m_d m_t m_v m_n r_s r_n r_w r_k o_v) H := hP.sub [1, 2, 3, 4, 5, 6, 7, 8, 9, 10, 11, 12, 13, 14, 15, 16, 0] rfl
    have hD : va_D A (w_H G c0 l0 l1 l2 l3 m0 m1 m2 m3 m4 m5 r0 r1 r2 r3 g0 o1 g_e l_a l_b l_c l_n m_x m_y m_d m_t m_v m_n r_s r_n r_w r_k o_v) := hD.sub [1, 2, 3, 4, 5, 6, 7, 8, 9, 10, 11, 12, 13, 14, 15, 16, 0] rfl rfl
    refine lv_i2l hx hb dL_colourings_7 rfl ?_
    refine va_last hx hb hK.1 hP hD hS 16 2 rfl rfl (vp_in_nI (n := 0) (N := 1) (by omega) (by omega)) dL_colourings_8 (fun H locs hP hD hS => ?_)
    have hP : va_P G.1 vwCl (w_H G c0 l0 l1 l2 l3 m0 m1 m2 m3 m4 m5 r0 r1 r2 r3 g0 o1 g_e l_a l_b l_c l_n m_x m_y m_d m_t m_v m_n r_s r_n r_w r_k ((vp_updL o_v 0 (Int32.toInt64 u)))) H := hP
    have hD : va_D A (w_H G c0 l0 l1 l2 l3 m0 m1 m2 m3 m4 m5 r0 r1 r2 r3 g0 o1 g_e l_a l_b l_c l_n m_x m_y m_d m_t m_v m_n r_s r_n r_w r_k ((vp_updL o_v 0 (Int32.toInt64 u)))) := hD
    refine lv_goto (tgt := 15) hx hb dL_colourings_9 (by decide) ?_
    refine lv_iconst (v := 0) hx hb dL_colourings_15 (by decide) ?_
    exact wrxi (ty := .int) (t0 := (0, (vp_updL o_v 0 (Int32.toInt64 u)))) hx hb hr hlocks hP hD hS (Nat.le_of_ble_eq_true rfl) (Nat.le_of_ble_eq_true rfl) rfl rfl dL_colourings_16
def fL_colouringsAnew (N : Nat) (g_e : Int64) (o_v : Nat → Int64) (x1 : Int32) : Option (Int32 × (Nat → Int64)) := bdc (fX4_colouringsAnew N g_e x1) (fun e => if e = xIAE then some (1, o_v) else none) (fun t => some (0, (vp_updL o_v 0 (Int32.toInt64 t))))
set_option maxHeartbeats 4000000 in
set_option maxRecDepth 100000 in
theorem kL_colouringsAnew {l : Launch} (hst : l.stackTraces = false) {G : wG} (c0 l0 l1 l2 l3 m0 m1 m2 m3 m4 m5 r0 r1 r2 r3 g0 o1 : Nat) (g_e : Int64) (l_a : Nat → Int32) (l_b : Nat → Int32) (l_c : Nat → Int32) (l_n : Int32) (m_x : Nat → Int32) (m_y : Nat → Int32) (m_d : Nat → Int32) (m_t : Nat → Int32) (m_v : Nat → Int32) (m_n : Int32) (r_s : Nat → Int32) (r_n : Nat → Int32) (r_w : Nat → Int32) (r_k : Int32) (o_v : Nat → Int64) (x1 : Int32) (N : Nat) (v : Int32 × (Nat → Int64)) (h : fL_colouringsAnew N g_e o_v x1 = some v) : wXi l G yL_colouringsAnew wsL_colouringsAnew ({ frames := 22, cells := 4, slots := 24, locals := 586 } : Room) [.ref c0, .int x1, .ref o1] (w_H G c0 l0 l1 l2 l3 m0 m1 m2 m3 m4 m5 r0 r1 r2 r3 g0 o1 g_e l_a l_b l_c l_n m_x m_y m_d m_t m_v m_n r_s r_n r_w r_k o_v) (.inr v) (fun t : Int32 × (Nat → Int64) => (w_H G c0 l0 l1 l2 l3 m0 m1 m2 m3 m4 m5 r0 r1 r2 r3 g0 o1 g_e l_a l_b l_c l_n m_x m_y m_d m_t m_v m_n r_s r_n r_w r_k t.2)) (fun t : Int32 × (Nat → Int64) => t.1) 4 24 := by
  refine wXi.mkH (cc := cL_colouringsAnew) (maxL := 4) (ty := .int) (hh := [(0, 9, 12, 13)]) (by decide) rfl (Nat.le_of_ble_eq_true rfl) ?_
  intro p e s m below meth c A ls hx hb hml hr hlocks hts hown hK hA hP hD hT htab hl
  have hown : s.vm.findClass RL = some m.cls := hown
  have hS : va_S A s.heap s.heap [] := va_S.rf
  have hP : va_P G.1 vwCl (w_H G c0 l0 l1 l2 l3 m0 m1 m2 m3 m4 m5 r0 r1 r2 r3 g0 o1 g_e l_a l_b l_c l_n m_x m_y m_d m_t m_v m_n r_s r_n r_w r_k o_v) s.heap := hP
  have hD : va_D A (w_H G c0 l0 l1 l2 l3 m0 m1 m2 m3 m4 m5 r0 r1 r2 r3 g0 o1 g_e l_a l_b l_c l_n m_x m_y m_d m_t m_v m_n r_s r_n r_w r_k o_v) := hD
  have hl : lv_has ls 4 [(0, .ref c0), (1, .int x1), (2, .ref o1)] := hl
  obtain ⟨args, hargs⟩ : ∃ z : Array Value, z = ([.ref c0, .int x1, .ref o1] : List Value).toArray := ⟨_, rfl⟩
  rw [← hargs]
  rw [← hargs] at hts
  have lkIAE := hts (.classLink RL 13 xIAE) (by decide +kernel)
  rw [fL_colouringsAnew.eq_1] at h
  refine lv_aload_n hx hb dL_colouringsAnew_0 rfl (lv_at hl 2 rfl) ?_
  refine lv_iconst (v := 0) hx hb dL_colouringsAnew_1 (by decide) ?_
  refine lv_aload_n hx hb dL_colouringsAnew_2 rfl (lv_at hl 0 rfl) ?_
  refine lv_iload_n hx hb dL_colouringsAnew_3 rfl (lv_at hl 1 rfl) ?_
  obtain ⟨xu, hc, hke, hkt⟩ := bdc_inv h
  refine wafterx_i (wr := [(o1, .inl (G.2.2.2, 1, .inr (.inl o_v)))]) (vx_runV (As := [.int x1]) (rest := [.int 0, .ref o1]) ⟨hx, hb, hml, hown, hts⟩ (kX4_colouringsAnew (l := l) hst (G := G) c0 l0 l1 l2 l3 m0 m1 m2 m3 m4 m5 r0 r1 r2 r3 g0 g_e l_a l_b l_c l_n m_x m_y m_d m_t m_v m_n r_s r_n r_w r_k x1 N xu hc _) (cwV 1 hts gL_colouringsAnew_X4_colouringsAnew rfl rfl rfl (by decide +kernel) ⟨(Nat.le_of_ble_eq_true rfl), (Nat.le_of_ble_eq_true rfl)⟩) (wPreVX hP hD hK hS hA hT [0, 1, 2, 3, 4, 5, 6, 7, 8, 9, 10, 11, 12, 13, 14, 15] rfl rfl (ci := 4) (qb := 0) rfl rfl rfl) rfl rfl hl.1 rfl (lv_room (Nat.le_of_ble_eq_true rfl)) dL_colouringsAnew_4 ⟨(Nat.le_of_ble_eq_true rfl), (Nat.le_of_ble_eq_true rfl)⟩) hP hD hS hA [0, 1, 2, 3, 4, 5, 6, 7, 8, 9, 10, 11, 12, 13, 14, 15] [16] [1, 2, 3, 4, 5, 6, 7, 8, 9, 10, 11, 12, 13, 14, 15, 16, 0] rfl rfl rfl (by decide) rfl rfl (fun E ce q9 H locs he hP hD hS hce hcv hcl => ?_) (fun u H locs hu hP hD hS => ?_)
  · have h := hke E he
    by_cases cE : E = xIAE
    · have h := ip cE h
      subst cE
      obtain rfl := Option.some.inj h
      refine vx_catch (name := xIAE) hown [] ⟨0, 9, 12, 13⟩ [] (by rw [htab]; rfl) (fun z hz => by cases hz) (by decide) (by decide) lkIAE (va_Nw.use rfl (hT.2.1 (.castable xIAE xIAE) (by simp [xNg]))) hce hcv hcl ?_
      refine lv_astore_n (lv' := [(3, .ref q9), (0, .ref c0), (1, .int x1), (2, .ref o1)]) hx hb dL_colouringsAnew_12 rfl hl (by decide) rfl (fun ls hl => ?_)
      refine lv_iconst (v := 1) hx hb dL_colouringsAnew_13 (by decide) ?_
      exact wrxi (ty := .int) (t0 := (1, o_v)) hx hb hr hlocks hP hD hS (Nat.le_of_ble_eq_true rfl) (Nat.le_of_ble_eq_true rfl) rfl rfl dL_colouringsAnew_14
    · have h := iq cE h
      cases h
  · have h := hkt u hu
    obtain rfl := Option.some.inj h
    have hP : va_P G.1 vwCl (w_H G c0 l0 l1 l2 l3 m0 m1 m2 m3 m4 m5 r0 r1 r2 r3 g0 o1 g_e l_a l_b l_c l_n m_x m_y m_d m_t m_v m_n r_s r_n r_w r_k o_v) H := hP.sub [1, 2, 3, 4, 5, 6, 7, 8, 9, 10, 11, 12, 13, 14, 15, 16, 0] rfl
    have hD : va_D A (w_H G c0 l0 l1 l2 l3 m0 m1 m2 m3 m4 m5 r0 r1 r2 r3 g0 o1 g_e l_a l_b l_c l_n m_x m_y m_d m_t m_v m_n r_s r_n r_w r_k o_v) := hD.sub [1, 2, 3, 4, 5, 6, 7, 8, 9, 10, 11, 12, 13, 14, 15, 16, 0] rfl rfl
    refine lv_i2l hx hb dL_colouringsAnew_7 rfl ?_
    refine va_last hx hb hK.1 hP hD hS 16 2 rfl rfl (vp_in_nI (n := 0) (N := 1) (by omega) (by omega)) dL_colouringsAnew_8 (fun H locs hP hD hS => ?_)
    have hP : va_P G.1 vwCl (w_H G c0 l0 l1 l2 l3 m0 m1 m2 m3 m4 m5 r0 r1 r2 r3 g0 o1 g_e l_a l_b l_c l_n m_x m_y m_d m_t m_v m_n r_s r_n r_w r_k ((vp_updL o_v 0 (Int32.toInt64 u)))) H := hP
    have hD : va_D A (w_H G c0 l0 l1 l2 l3 m0 m1 m2 m3 m4 m5 r0 r1 r2 r3 g0 o1 g_e l_a l_b l_c l_n m_x m_y m_d m_t m_v m_n r_s r_n r_w r_k ((vp_updL o_v 0 (Int32.toInt64 u)))) := hD
    refine lv_goto (tgt := 15) hx hb dL_colouringsAnew_9 (by decide) ?_
    refine lv_iconst (v := 0) hx hb dL_colouringsAnew_15 (by decide) ?_
    exact wrxi (ty := .int) (t0 := (0, (vp_updL o_v 0 (Int32.toInt64 u)))) hx hb hr hlocks hP hD hS (Nat.le_of_ble_eq_true rfl) (Nat.le_of_ble_eq_true rfl) rfl rfl dL_colouringsAnew_16
