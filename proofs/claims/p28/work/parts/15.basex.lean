section WBX
def xStr : List (Nat × String) := [(43, "a, b or c is out of range, or a and b are both 0"), (58, "the LINE is there, or there are 9"), (96, "what is 0 to 3"), (137, "a set is 0 to 511"), (156, "gx or gy is out of range, or both are 0"), (180, "a DOT is 0 to 5"), (183, "an EDGE is between two DOTS"), (209, "there is no such LINE"), (211, "there is no such MEET"), (213, "there is no such ROOM"), (215, "places and steps are counted from 0"), (217, "a power is 0 to 2"), (219, "colours are 0 to 6")]
def xNms : List String := ["java/lang/RuntimeException", "java/lang/Exception"]
def xIAE : String := "java/lang/IllegalArgumentException"
def xISE : String := "java/lang/IllegalStateException"
def xIOO : String := "java/lang/IndexOutOfBoundsException"
def xNg : List Cond := [.castable xIAE xIAE, .castable xISE xISE, .castable xIOO xIOO, .declares (Bundle.initS "java/lang/RuntimeException"), .declares (Bundle.initS "java/lang/Exception"), .declares (Bundle.initS Bundle.tN)]
def wT (A : Nat → Prop) (U : State) (H : Heap) : Prop := (∀ q ∈ xStr, ∃ a : Nat, vk_R RX4 q.1 q.2 a U) ∧ (∀ w ∈ xNg, va_Nw w U) ∧ vx_Zq Bundle.tN "UNASSIGNED_STACK" Bundle.steD A U H ∧ vx_Zq Bundle.tN "SUPPRESSED_SENTINEL" Bundle.listD A U H ∧ va_Nc xISE xIAE U
theorem xNg_warm : ∀ w ∈ xNg, ∀ {s U : State}, s.WarmedH U.vm → va_Nw w s → va_Nw w U := by
  intro w hw s U hW h
  simp only [xNg, List.mem_cons, List.not_mem_nil, or_false] at hw
  rcases hw with rfl | rfl | rfl | rfl | rfl | rfl <;> first | exact va_Nw.warmC hW h | exact va_Nw.warmD hW h
theorem xNg_tab : ∀ w ∈ xNg, w.onTables = true := by
  intro w hw
  simp only [xNg, List.mem_cons, List.not_mem_nil, or_false] at hw
  rcases hw with rfl | rfl | rfl | rfl | rfl | rfl <;> rfl
theorem wT.warm {A : Nat → Prop} {s U : State} {H : Heap} (hW : s.WarmedH U.vm) (h : wT A s H) : wT A U H :=
  ⟨fun q hq => by obtain ⟨a, ha⟩ := h.1 q hq; exact ⟨a, vk_R.warm hW ha⟩, fun w hw => xNg_warm w hw hW (h.2.1 w hw), vx_Zq.moved hW.alike h.2.2.1, vx_Zq.moved hW.alike h.2.2.2.1, h.2.2.2.2.moved hW.alike⟩
theorem wT.same {A : Nat → Prop} {u U : State} {H : Heap} (e : U.vm = u.vm) (h : wT A u H) : wT A U H :=
  ⟨fun q hq => by obtain ⟨a, ha⟩ := h.1 q hq; exact ⟨a, vk_R.same e ha⟩, fun w hw => va_Nw.same (xNg_tab w hw) e.symm (h.2.1 w hw), vx_Zq.moved (by rw [e]; exact Vm.Alike.refl u.vm) h.2.2.1, vx_Zq.moved (by rw [e]; exact Vm.Alike.refl u.vm) h.2.2.2.1, h.2.2.2.2.moved (by rw [e]; exact Vm.Alike.refl u.vm)⟩
theorem wT.kept {A : Nat → Prop} {U : State} {H H1 : Heap} (h : wT A U H) (hq : ∀ a : Nat, a < H.size → ¬ A a → H1[a]? = H[a]?) : wT A U H1 := ⟨h.1, h.2.1, h.2.2.1.kept hq, h.2.2.2.1.kept hq, h.2.2.2.2⟩
theorem wT.narrow {A B : Nat → Prop} {U : State} {H : Heap} (h : wT A U H) (hAB : ∀ q, B q → A q) : wT B U H := ⟨h.1, h.2.1, h.2.2.1.narrow hAB, h.2.2.2.1.narrow hAB, h.2.2.2.2⟩
def wPreX (G : wG) (sz : Nat) (w : va_W) : State → Prop := fun U => wPre G sz w U ∧ wT (va_A w sz) U U.heap
def wBX (G : wG) (A : Nat → Prop) (w : va_W) : String → String → State → Prop := fun E u U => E = u ∧ va_P G.1 vwCl w U.heap ∧ va_D A w
def wBT {T : Type} (G : wG) (A : Nat → Prop) (w1 : T → va_W) : T → State → Prop := fun t U => va_P G.1 vwCl (w1 t) U.heap ∧ va_D A (w1 t)
def wXi {T : Type} (l : Launch) (G : wG) (y : MethodName) (ws : List Cond) (rm : Room) (as : List Value) (w0 : va_W) (v : String ⊕ T) (w1 : T → va_W) (r : T → Int32) (mc ms : Nat) : Prop := ∀ sz : Nat, vx_Met l y ws rm (va_Pc as (wPreX G sz w0)) (va_Qi (fun (x : Int32) (t : T) => v = .inr t ∧ x = r t) (wBT G (va_A w0 sz) w1) (va_A w0 sz)) (vx_X (fun u => v = .inl u) (wBX G (va_A w0 sz) w0) (va_A w0 sz)) mc ms (va_A w0 sz)
def wXv {T : Type} (l : Launch) (G : wG) (y : MethodName) (ws : List Cond) (rm : Room) (as : List Value) (w0 : va_W) (v : String ⊕ T) (w1 : T → va_W) (mc ms : Nat) : Prop := ∀ sz : Nat, vx_Met l y ws rm (va_Pc as (wPreX G sz w0)) (va_Qv (fun (t : T) => v = .inr t) (wBT G (va_A w0 sz) w1) (va_A w0 sz)) (vx_X (fun u => v = .inl u) (wBX G (va_A w0 sz) w0) (va_A w0 sz)) mc ms (va_A w0 sz)
def wQxi {T : Type} (G : wG) (A : Nat → Prop) (below : List Frame) (args : Array Value) (s : State) (w0 : va_W) (v : String ⊕ T) (w1 : T → va_W) (r : T → Int32) (mc ms : Nat) : State → Prop := vx_MQ below (va_Qi (fun (x : Int32) (t : T) => v = .inr t ∧ x = r t) (wBT G A w1) A) (vx_X (fun u => v = .inl u) (wBX G A w0) A) args s mc ms A
def wQxv {T : Type} (G : wG) (A : Nat → Prop) (below : List Frame) (args : Array Value) (s : State) (w0 : va_W) (v : String ⊕ T) (w1 : T → va_W) (mc ms : Nat) : State → Prop := vx_MQ below (va_Qv (fun (t : T) => v = .inr t) (wBT G A w1) A) (vx_X (fun u => v = .inl u) (wBX G A w0) A) args s mc ms A
theorem wXi.mk {T : Type} {l : Launch} {G : wG} {y : MethodName} {ws ws' : List Cond} {rm : Room} {as : List Value} {w0 : va_W} {v : String ⊕ T} {w1 : T → va_W} {r : T → Int32} {mc ms : Nat} {cc : ByteArray} {maxL : Nat} {ty : FieldType} (hy : plainName y.cls = true) (hw : ws = Cond.code y cc maxL (some ty) :: ws') (hn : (lg_sl as).length ≤ maxL)
    (body : ∀ (p : Program) (e : Env) (s : State) (m : MethodId) (below : List Frame) (meth : Method) (c : Code) (A : Nat → Prop) (ls : Array Slot),
      p.tables.exec = Jvm.exec → c.code = cc → c.maxLocals = maxL → meth.sig.returnType = some ty → meth.locks = false → (∀ w ∈ ws, w.before as.toArray s = true) → s.vm.findClass y.cls = some m.cls → wK G s → (∀ q : Nat, s.heap.size ≤ q → A q) → va_P G.1 vwCl w0 s.heap → va_D A w0 → wT A s s.heap → (∀ x ∈ c.exceptionTable.toList, False) → lv_has ls maxL (lv_args 0 as) →
      W p l e rm s m as.toArray below meth c s.heap [] 0 0 (wQxi G A below as.toArray s w0 v w1 r mc ms) (F0 m 0 ls [])) : wXi l G y ws rm as w0 v w1 r mc ms := by
  intro sz
  refine vx_ofW (cc := cc) (maxL := maxL) (ret := some ty) hy hw ?_
  intro p e s m args below meth c s₁ B hml hnoh hv
  obtain ⟨rfl, ⟨hsz, hP, hK, hD0⟩, hT⟩ := hv
  subst hsz
  have hl := lv_entry as (n := maxL) hn
  rw [lg_entry_eq]
  exact body p e s m below meth c _ _ B.exec B.bytes hml B.returns B.notSynchronized (atoms_spec B.pre) (findClass_of_methodNamed B.named) hK (fun q h => Or.inr h) hP hD0.self hT hnoh hl
theorem wXv.mk {T : Type} {l : Launch} {G : wG} {y : MethodName} {ws ws' : List Cond} {rm : Room} {as : List Value} {w0 : va_W} {v : String ⊕ T} {w1 : T → va_W} {mc ms : Nat} {cc : ByteArray} {maxL : Nat} (hy : plainName y.cls = true) (hw : ws = Cond.code y cc maxL none :: ws') (hn : (lg_sl as).length ≤ maxL)
    (body : ∀ (p : Program) (e : Env) (s : State) (m : MethodId) (below : List Frame) (meth : Method) (c : Code) (A : Nat → Prop) (ls : Array Slot),
      p.tables.exec = Jvm.exec → c.code = cc → c.maxLocals = maxL → meth.sig.returnType = none → meth.locks = false → (∀ w ∈ ws, w.before as.toArray s = true) → s.vm.findClass y.cls = some m.cls → wK G s → (∀ q : Nat, s.heap.size ≤ q → A q) → va_P G.1 vwCl w0 s.heap → va_D A w0 → wT A s s.heap → (∀ x ∈ c.exceptionTable.toList, False) → lv_has ls maxL (lv_args 0 as) →
      W p l e rm s m as.toArray below meth c s.heap [] 0 0 (wQxv G A below as.toArray s w0 v w1 mc ms) (F0 m 0 ls [])) : wXv l G y ws rm as w0 v w1 mc ms := by
  intro sz
  refine vx_ofW (cc := cc) (maxL := maxL) (ret := none) hy hw ?_
  intro p e s m args below meth c s₁ B hml hnoh hv
  obtain ⟨rfl, ⟨hsz, hP, hK, hD0⟩, hT⟩ := hv
  subst hsz
  have hl := lv_entry as (n := maxL) hn
  rw [lg_entry_eq]
  exact body p e s m below meth c _ _ B.exec B.bytes hml B.returns B.notSynchronized (atoms_spec B.pre) (findClass_of_methodNamed B.named) hK (fun q h => Or.inr h) hP hD0.self hT hnoh hl
end WBX
section WRX
variable {p : Program} {l : Launch} {e : Env} {R : Room} {s : State} {m : MethodId} {args : Array Value} {below : List Frame} {meth : Method} {c : Code} {H H0 : Heap} {locs : List Loc} {cells slots mc ms mc2 ms2 : Nat} {Q : State → Prop} {G : wG} {A : Nat → Prop} {w wc wr w0 w2 : va_W} {pc : Nat} {ls : Array Slot} {rest st0 : List Value} {as : List Value} {a : Array Value} {cc : ByteArray} {T : Type} {v : String ⊕ T} {w1 : T → va_W}
theorem wrxi {ty : FieldType} {r : T → Int32} {x : Int32} {t0 : T} (hx : p.tables.exec = Jvm.exec) (hb : c.code = cc) (hr : meth.sig.returnType = some .int) (hlocks : meth.locks = false) (hP : va_P G.1 vwCl (w1 t0) H) (hD : va_D A (w1 t0)) (hS : va_S A s.heap H locs) (hc : cells ≤ mc) (hs : slots ≤ ms) (hv : v = .inr t0) (hr0 : x = r t0) (hdg : decode cc pc = .ok (.ireturn, 1)) : W p l e R s m args below meth c H locs cells slots (wQxi G A below args s w0 v w1 r mc ms) (F0 m pc ls [.int x]) := by
  refine vx_ret ?_
  refine W.widen (k := mc) (n := ms) hc hs ?_
  exact W.iret hx hb hr (fun t ht hW => ⟨⟨x, t0, rfl, ⟨hv, hr0⟩, by rw [ht]; exact hP, hD⟩, hS.F ht⟩) hS.2.2 hdg hlocks
theorem wrxz {r : T → Int32} {x : Int32} {t0 : T} (hx : p.tables.exec = Jvm.exec) (hb : c.code = cc) (hr : meth.sig.returnType = some .boolean) (hlocks : meth.locks = false) (hP : va_P G.1 vwCl (w1 t0) H) (hD : va_D A (w1 t0)) (hS : va_S A s.heap H locs) (hc : cells ≤ mc) (hs : slots ≤ ms) (hz : x = 0 ∨ x = 1) (hv : v = .inr t0) (hr0 : x = r t0) (hdg : decode cc pc = .ok (.ireturn, 1)) : W p l e R s m args below meth c H locs cells slots (wQxi G A below args s w0 v w1 r mc ms) (F0 m pc ls [.int x]) := by
  refine vx_ret ?_
  refine W.widen (k := mc) (n := ms) hc hs ?_
  exact W.zret hx hb hr (narrow_zo hz) (fun t ht hW => ⟨⟨x, t0, rfl, ⟨hv, hr0⟩, by rw [ht]; exact hP, hD⟩, hS.F ht⟩) hS.2.2 hdg hlocks
theorem wrxv {t0 : T} (hx : p.tables.exec = Jvm.exec) (hb : c.code = cc) (hr : meth.sig.returnType = none) (hlocks : meth.locks = false) (hP : va_P G.1 vwCl (w1 t0) H) (hD : va_D A (w1 t0)) (hS : va_S A s.heap H locs) (hc : cells ≤ mc) (hs : slots ≤ ms) (hv : v = .inr t0) (hdg : decode cc pc = .ok (.return_, 1)) : W p l e R s m args below meth c H locs cells slots (wQxv G A below args s w0 v w1 mc ms) (F0 m pc ls []) := by
  refine vx_ret ?_
  refine W.widen (k := mc) (n := ms) hc hs ?_
  exact W.vret hx hb hr (fun t ht hW => ⟨⟨t0, rfl, hv, by rw [ht]; exact hP, hD⟩, hS.F ht⟩) hS.2.2 hdg hlocks
theorem wPreSX (hP : va_P G.1 vwCl w H) (hD : va_D A w) (hK : wK G s) (hS : va_S A H0 H locs) (hA : ∀ q : Nat, H0.size ≤ q → A q) (hT : wT A s H0) (isC : List Nat) (hnC : va_nd isC = true) (hisC : isC.map (fun i => w[i]?) = wc.map some) : PreS s H (va_Pc as (wPreX G H.size wc)) as := by
  have h0 := wPreS (as := as) hP hD hK isC hnC hisC
  have hF := va_free (wc := wc) hD hS hA isC hisC
  refine ⟨fun av U g mk q => ⟨q.1, (h0.1 av U g mk ⟨q.1, q.2.1⟩).2, wT.same (u := U) (U := U.calling g mk _) rfl q.2.2⟩, fun U hU hW => ⟨rfl, (h0.2 U hU hW).2, ?_⟩⟩
  rw [hU]
  exact ((hT.kept hS.2.1).narrow hF).warm hW
theorem wPreVX {C : String} {b : Nat} (hP : va_P G.1 vwCl w H) (hD : va_D A w) (hK : wK G s) (hS : va_S A H0 H locs) (hA : ∀ q : Nat, H0.size ≤ q → A q) (hT : wT A s H0) (isC : List Nat) (hnC : va_nd isC = true) (hisC : isC.map (fun i => w[i]?) = wc.map some) {ci qb : Nat} {q : vw_C} {fs : List Value} (hc : vwCl[ci]? = some q) (he : w[qb]? = some (b, .inr (ci, fs))) (hC : q.1 = C) : PreV s H C b (va_Pc (.ref b :: as) (wPreX G H.size wc)) as := by
  subst hC
  have h := wPreSX (as := .ref b :: as) hP hD hK hS hA hT isC hnC hisC
  exact ⟨h.1, va_recv hK.1 hP hc he, h.2⟩
/-- behind a call that may throw, in a method without handlers: it goes on, or the throw passes through -/
theorem wafterx_v {U : Type} {vc : String ⊕ U} {w1c : U → va_W} (hr : vx_Run p l e R s m args below meth c H locs cells slots mc2 ms2 (F0 m pc ls st0) rest (va_Qv (fun (t : U) => vc = .inr t) (wBT G (va_A wc H.size) w1c) (va_A wc H.size) a) (vx_X (fun u => vc = .inl u) (wBX G (va_A wc H.size) wc) (va_A wc H.size)) (va_A wc H.size))
    (hP : va_P G.1 vwCl w H) (hD : va_D A w) (hS : va_S A H0 H locs) (hA : ∀ q : Nat, H0.size ≤ q → A q) (isC isR perm : List Nat) (hisC : isC.map (fun i => w[i]?) = wc.map some) (hisR : isR.map (fun i => w[i]?) = wr.map some) (hnd : va_nd isR = true) (hdis : ∀ i ∈ isR, i ∉ isC) (hpn : va_nd perm = true) (hpermx : perm.map (fun i => (wr ++ wc)[i]?) = w.map some)
    (kx : ∀ (E : String) (ce : Cell) (q9 : Nat) (H1 : Heap) (locs1 : List Loc), vc = .inl E → va_P G.1 vwCl w H1 → va_D A w → va_S A H0 H1 locs1 → H1[q9]? = some ce → ce.vm = .none → s.vm.findClass E = some ce.cls → vx_W p l e R s m args below meth c H1 locs1 (cells + mc2) (slots + ms2) Q (F0 m pc ls rest) q9)
    (kk : ∀ (t : U) (H1 : Heap) (locs1 : List Loc), vc = .inr t → va_P G.1 vwCl (wr ++ w1c t) H1 → va_D A (wr ++ w1c t) → va_S A H0 H1 locs1 → W p l e R s m args below meth c H1 locs1 (cells + mc2) (slots + ms2) Q (F0 m (pc + 3) ls rest)) : W p l e R s m args below meth c H locs cells slots Q (F0 m pc ls st0) := by
  have hFc := va_free (wc := wc) hD hS hA isC hisC
  refine vx_callv hr hS (fun q _ h => hFc q h) hFc (fun q _ h => hFc q h) (fun E ce q9 u t H1 locs1 ht hvm hu hB hz1 hk1 hS1 hce hcv hcl => ?_) (fun t0 t H1 locs1 ht hvm hw hB hz1 hk1 hS1 => ?_)
  · obtain ⟨rfl, hP1, hD1⟩ := hB
    rw [ht] at hP1
    obtain ⟨hP2, hD2⟩ := va_join (wr := wr) (w1 := wc) hP hD isC isR hisC hisR hnd hdis hk1 hFc hP1 hD1
    exact kx E ce q9 H1 locs1 hu (hP2.sub perm (fm_of hpermx)) (hD2.sub perm hpn hpermx) hS1 hce hcv hcl
  · obtain ⟨hP1, hD1⟩ := hB
    rw [ht] at hP1
    obtain ⟨hP2, hD2⟩ := va_join (wr := wr) (w1 := w1c t0) hP hD isC isR hisC hisR hnd hdis hk1 hFc hP1 hD1
    exact kk t0 H1 locs1 hw hP2 hD2 hS1
theorem wafterx_i {U : Type} {vc : String ⊕ U} {w1c : U → va_W} {rc : U → Int32} (hr : vx_Run p l e R s m args below meth c H locs cells slots mc2 ms2 (F0 m pc ls st0) rest (va_Qi (fun (x : Int32) (t : U) => vc = .inr t ∧ x = rc t) (wBT G (va_A wc H.size) w1c) (va_A wc H.size) a) (vx_X (fun u => vc = .inl u) (wBX G (va_A wc H.size) wc) (va_A wc H.size)) (va_A wc H.size))
    (hP : va_P G.1 vwCl w H) (hD : va_D A w) (hS : va_S A H0 H locs) (hA : ∀ q : Nat, H0.size ≤ q → A q) (isC isR perm : List Nat) (hisC : isC.map (fun i => w[i]?) = wc.map some) (hisR : isR.map (fun i => w[i]?) = wr.map some) (hnd : va_nd isR = true) (hdis : ∀ i ∈ isR, i ∉ isC) (hpn : va_nd perm = true) (hpermx : perm.map (fun i => (wr ++ wc)[i]?) = w.map some)
    (kx : ∀ (E : String) (ce : Cell) (q9 : Nat) (H1 : Heap) (locs1 : List Loc), vc = .inl E → va_P G.1 vwCl w H1 → va_D A w → va_S A H0 H1 locs1 → H1[q9]? = some ce → ce.vm = .none → s.vm.findClass E = some ce.cls → vx_W p l e R s m args below meth c H1 locs1 (cells + mc2) (slots + ms2) Q (F0 m pc ls rest) q9)
    (kk : ∀ (t : U) (H1 : Heap) (locs1 : List Loc), vc = .inr t → va_P G.1 vwCl (wr ++ w1c t) H1 → va_D A (wr ++ w1c t) → va_S A H0 H1 locs1 → W p l e R s m args below meth c H1 locs1 (cells + mc2) (slots + ms2) Q (F0 m (pc + 3) ls (.int (rc t) :: rest))) : W p l e R s m args below meth c H locs cells slots Q (F0 m pc ls st0) := by
  have hFc := va_free (wc := wc) hD hS hA isC hisC
  refine vx_calli hr hS (fun q _ h => hFc q h) hFc (fun q _ h => hFc q h) (fun E ce q9 u t H1 locs1 ht hvm hu hB hz1 hk1 hS1 hce hcv hcl => ?_) (fun x t0 t H1 locs1 ht hvm hw hB hz1 hk1 hS1 => ?_)
  · obtain ⟨rfl, hP1, hD1⟩ := hB
    rw [ht] at hP1
    obtain ⟨hP2, hD2⟩ := va_join (wr := wr) (w1 := wc) hP hD isC isR hisC hisR hnd hdis hk1 hFc hP1 hD1
    exact kx E ce q9 H1 locs1 hu (hP2.sub perm (fm_of hpermx)) (hD2.sub perm hpn hpermx) hS1 hce hcv hcl
  · obtain ⟨hP1, hD1⟩ := hB
    rw [ht] at hP1
    obtain ⟨hP2, hD2⟩ := va_join (wr := wr) (w1 := w1c t0) hP hD isC isR hisC hisR hnd hdis hk1 hFc hP1 hD1
    obtain ⟨hw1, rfl⟩ := hw
    exact kk t0 H1 locs1 hw1 hP2 hD2 hS1
/-- a throw that passes through a method of ours that has written nothing -/
theorem wpass_i {r : T → Int32} {E : String} {ce : Cell} {q9 : Nat} (hnoh : ∀ x ∈ c.exceptionTable.toList, False) (hlocks : meth.locks = false) (hP : va_P G.1 vwCl w0 H) (hD : va_D A w0) (hS : va_S A s.heap H locs) (hce : H[q9]? = some ce) (hcv : ce.vm = .none) (hcl : s.vm.findClass E = some ce.cls) (hv : v = .inl E) (hc : cells ≤ mc) (hs : slots ≤ ms) : vx_W p l e R s m args below meth c H locs cells slots (wQxi G A below args s w0 v w1 r mc ms) (F0 m pc ls rest) q9 :=
  vx_out (fun x hx => (hnoh x hx).elim) hlocks hce hcv hcl (fun t ht _ => ⟨E, hv, ⟨rfl, by rw [ht]; exact hP, hD⟩, hS.F ht⟩) hS.2.2 hc hs
theorem wpass_v {E : String} {ce : Cell} {q9 : Nat} (hnoh : ∀ x ∈ c.exceptionTable.toList, False) (hlocks : meth.locks = false) (hP : va_P G.1 vwCl w0 H) (hD : va_D A w0) (hS : va_S A s.heap H locs) (hce : H[q9]? = some ce) (hcv : ce.vm = .none) (hcl : s.vm.findClass E = some ce.cls) (hv : v = .inl E) (hc : cells ≤ mc) (hs : slots ≤ ms) : vx_W p l e R s m args below meth c H locs cells slots (wQxv G A below args s w0 v w1 mc ms) (F0 m pc ls rest) q9 :=
  vx_out (fun x hx => (hnoh x hx).elim) hlocks hce hcv hcl (fun t ht _ => ⟨E, hv, ⟨rfl, by rw [ht]; exact hP, hD⟩, hS.F ht⟩) hS.2.2 hc hs
theorem va_S.grow {A : Nat → Prop} {s t : State} {H : Heap} {locs : List Loc} (h : va_S A s.heap H locs) (hz : H.size ≤ t.heap.size) (hq : ∀ q : Nat, q < H.size → t.heap[q]? = H[q]?) : va_F A s t := ⟨Nat.le_trans h.1 hz, fun q h1 h2 => by rw [hq q (Nat.lt_of_lt_of_le h1 h.1)]; exact h.2.1 q h1 h2⟩
theorem va_P.grow {D : va_G} {cl : List vw_C} {ws : va_W} {H H1 : Heap} (h : va_P D cl ws H) (hq : ∀ q : Nat, q < H.size → H1[q]? = H[q]?) : va_P D cl ws H1 := h.kept (fun k q hk => hq q.1 (h k q hk).lt)
theorem wthrow_i {r : T → Int32} {cls text : String} {ik is ic : Nat} (hx : p.tables.exec = Jvm.exec) (hb : c.code = cc) (hst : l.stackTraces = false) (hown : s.vm.findClass RX4 = some m.cls) (hcls : Bundle.fit cls = true) (hk : (Cond.classLink RX4 ik cls).before args s = true) (hini : (Cond.initialized cls).before args s = true)
    (hT : wT A s s.heap) (hstr : (is, text) ∈ xStr) (hgw : ∀ w ∈ (vx_atS RX4 ic cls xNms).filter goodWord, w.before args s = true) (hng : ∀ w ∈ (vx_atS RX4 ic cls xNms).filter (fun w => !goodWord w), w ∈ xNg) (hgood : ∀ w ∈ Cond.classLink RX4 ik cls :: Cond.initialized cls :: vx_atS RX4 ic cls xNms, vx_ot w = true)
    (hP : va_P G.1 vwCl w0 H) (hD : va_D A w0) (hS : va_S A s.heap H locs) (hsize : ls.size = c.maxLocals)
    (d0 : decode cc pc = .ok (.new ik, 3)) (d3 : decode cc (pc + 3) = .ok (.dup, 1)) (d4 : decode cc (pc + 4) = .ok (.ldc is, 2)) (d6 : decode cc (pc + 6) = .ok (.invokespecial ic, 3)) (d9 : decode cc (pc + 9) = .ok (.athrow, 1))
    (hnoh : ∀ x ∈ c.exceptionTable.toList, False) (hlocks : meth.locks = false) (hRf : 5 < R.frames) (hRl : (rest.map fun v => v.category).sum + 82 ≤ R.locals) (hRc : cells + 1 ≤ R.cells) (hRs : slots + 6 ≤ R.slots) (hc : cells + 1 ≤ mc) (hs : slots + 6 ≤ ms) (hv : v = .inl cls) : W p l e R s m args below meth c H locs cells slots (wQxi G A below args s w0 v w1 r mc ms) (F0 m pc ls rest) := by
  obtain ⟨sa, hsa⟩ := hT.1 _ hstr
  have hat : ∀ w ∈ vx_atS RX4 ic cls xNms, w.before args s = true := vx_hat hgw hng (fun w hw => va_Nw.use (xNg_tab w hw) (hT.2.1 w hw))
  exact vx_throwS (own := RX4) (cls := cls) (text := text) (names := xNms) (sa := sa) (A := A) hx hb hst hown hcls (by decide +kernel) hk hini hsa hat hgood hT.2.2.1 hT.2.2.2.1 hS hsize d0 d3 d4 d6 d9 (fun x hx => (hnoh x hx).elim) hRf hRl hRc hRs hlocks (fun t _ hz hq => ⟨cls, hv, ⟨rfl, hP.grow hq, hD⟩, hS.grow hz hq⟩) hS.2.2 hc hs
theorem wthrow_v {cls text : String} {ik is ic : Nat} (hx : p.tables.exec = Jvm.exec) (hb : c.code = cc) (hst : l.stackTraces = false) (hown : s.vm.findClass RX4 = some m.cls) (hcls : Bundle.fit cls = true) (hk : (Cond.classLink RX4 ik cls).before args s = true) (hini : (Cond.initialized cls).before args s = true)
    (hT : wT A s s.heap) (hstr : (is, text) ∈ xStr) (hgw : ∀ w ∈ (vx_atS RX4 ic cls xNms).filter goodWord, w.before args s = true) (hng : ∀ w ∈ (vx_atS RX4 ic cls xNms).filter (fun w => !goodWord w), w ∈ xNg) (hgood : ∀ w ∈ Cond.classLink RX4 ik cls :: Cond.initialized cls :: vx_atS RX4 ic cls xNms, vx_ot w = true)
    (hP : va_P G.1 vwCl w0 H) (hD : va_D A w0) (hS : va_S A s.heap H locs) (hsize : ls.size = c.maxLocals)
    (d0 : decode cc pc = .ok (.new ik, 3)) (d3 : decode cc (pc + 3) = .ok (.dup, 1)) (d4 : decode cc (pc + 4) = .ok (.ldc is, 2)) (d6 : decode cc (pc + 6) = .ok (.invokespecial ic, 3)) (d9 : decode cc (pc + 9) = .ok (.athrow, 1))
    (hnoh : ∀ x ∈ c.exceptionTable.toList, False) (hlocks : meth.locks = false) (hRf : 5 < R.frames) (hRl : (rest.map fun v => v.category).sum + 82 ≤ R.locals) (hRc : cells + 1 ≤ R.cells) (hRs : slots + 6 ≤ R.slots) (hc : cells + 1 ≤ mc) (hs : slots + 6 ≤ ms) (hv : v = .inl cls) : W p l e R s m args below meth c H locs cells slots (wQxv G A below args s w0 v w1 mc ms) (F0 m pc ls rest) := by
  obtain ⟨sa, hsa⟩ := hT.1 _ hstr
  have hat : ∀ w ∈ vx_atS RX4 ic cls xNms, w.before args s = true := vx_hat hgw hng (fun w hw => va_Nw.use (xNg_tab w hw) (hT.2.1 w hw))
  exact vx_throwS (own := RX4) (cls := cls) (text := text) (names := xNms) (sa := sa) (A := A) hx hb hst hown hcls (by decide +kernel) hk hini hsa hat hgood hT.2.2.1 hT.2.2.2.1 hS hsize d0 d3 d4 d6 d9 (fun x hx => (hnoh x hx).elim) hRf hRl hRc hRs hlocks (fun t _ hz hq => ⟨cls, hv, ⟨rfl, hP.grow hq, hD⟩, hS.grow hz hq⟩) hS.2.2 hc hs
theorem w_sw3 {x : Int32} (h0 : ¬ x = 0) (h1 : ¬ x = 1) (h2 : ¬ x = 2) (h3 : ¬ x = 3) : x.toInt < 0 ∨ 3 < x.toInt := by
  have g : ∀ k : Int32, ¬ x = k → x.toInt ≠ k.toInt := fun k h e => h (Int32.toInt_inj.mp e)
  have a0 := g 0 h0
  have a1 := g 1 h1
  have a2 := g 2 h2
  have a3 := g 3 h3
  have e0 : (0 : Int32).toInt = 0 := by decide
  have e1 : (1 : Int32).toInt = 1 := by decide
  have e2 : (2 : Int32).toInt = 2 := by decide
  have e3 : (3 : Int32).toInt = 3 := by decide
  omega
def bdx {α β : Type} (x : Option (String ⊕ β)) (k : β → Option (String ⊕ α)) : Option (String ⊕ α) := match x with
  | none => none
  | some (.inl e) => some (.inl e)
  | some (.inr y) => k y
theorem bdx_inv {α β : Type} {x : Option (String ⊕ β)} {k : β → Option (String ⊕ α)} {r : String ⊕ α} (h : bdx x k = some r) : ∃ y, x = some y ∧ (∀ e, y = .inl e → r = .inl e) ∧ (∀ z, y = .inr z → k z = some r) := by
  cases x with
  | none => cases h
  | some y => cases y with
    | inl e => exact ⟨_, rfl, fun e2 h2 => (by cases h2; exact (Option.some.inj h).symm), fun z h2 => (by cases h2)⟩
    | inr z => exact ⟨_, rfl, fun e2 h2 => (by cases h2), fun z2 h2 => (by cases h2; exact h)⟩
end WRX
theorem xng_IAE : ∀ w ∈ (vx_atS RX4 45 xIAE xNms).filter (fun w => !goodWord w), w ∈ xNg := by decide +kernel
theorem xot_IAE : ∀ w ∈ Cond.classLink RX4 41 xIAE :: Cond.initialized xIAE :: vx_atS RX4 45 xIAE xNms, vx_ot w = true := by decide +kernel
theorem xng_ISE : ∀ w ∈ (vx_atS RX4 60 xISE xNms).filter (fun w => !goodWord w), w ∈ xNg := by decide +kernel
theorem xot_ISE : ∀ w ∈ Cond.classLink RX4 56 xISE :: Cond.initialized xISE :: vx_atS RX4 60 xISE xNms, vx_ot w = true := by decide +kernel
theorem xng_IOO : ∀ w ∈ (vx_atS RX4 182 xIOO xNms).filter (fun w => !goodWord w), w ∈ xNg := by decide +kernel
theorem xot_IOO : ∀ w ∈ Cond.classLink RX4 178 xIOO :: Cond.initialized xIOO :: vx_atS RX4 182 xIOO xNms, vx_ot w = true := by decide +kernel
