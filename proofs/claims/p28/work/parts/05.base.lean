section WBASE
def wNest : List Cond := [.methodLinkNest RX0 61 yX4_isIn RX4, .methodLinkNest RX0 68 yX4_bit RX4, .methodLinkNest RX1 33 yX4_bit RX4, .methodLinkNest RX1 55 yX4_isIn RX4, .methodLinkNest RX2 40 yX4_bit RX4, .methodLinkNest RX2 79 yX4_isIn RX4, .methodLinkNest RX3 82 yX4_bit RX4, .methodLinkNest RX3 93 yX4_isIn RX4]
abbrev wG : Type := va_G × (ClassId × ClassId × ClassId)
def wTy (G : wG) : List (ClassId × FieldType) := [(G.2.1, .int)]
def wK (G : wG) (U : State) : Prop := va_K G.1 vwCl (wTy G) U ∧ ∀ w ∈ wNest, va_Nw w U
theorem wNest_warm : ∀ w ∈ wNest, ∀ {s U : State}, s.WarmedH U.vm → va_Nw w s → va_Nw w U := by
  intro w hw s U hW h
  simp only [wNest, List.mem_cons, List.not_mem_nil, or_false] at hw
  rcases hw with rfl | rfl | rfl | rfl | rfl | rfl | rfl | rfl <;> exact va_Nw.warmM hW h
theorem wNest_tab : ∀ w ∈ wNest, w.onTables = true := by
  intro w hw
  simp only [wNest, List.mem_cons, List.not_mem_nil, or_false] at hw
  rcases hw with rfl | rfl | rfl | rfl | rfl | rfl | rfl | rfl <;> rfl
theorem wK.warm {G : wG} {s U : State} (hW : s.WarmedH U.vm) (h : wK G s) : wK G U := ⟨va_K.moved hW.alike h.1, fun w hw => wNest_warm w hw hW (h.2 w hw)⟩
theorem wK.same {G : wG} {u U : State} (e : u.vm = U.vm) (h : wK G u) : wK G U := ⟨va_K.moved (by rw [e]; exact Vm.Alike.refl U.vm) h.1, fun w hw => va_Nw.same (wNest_tab w hw) e (h.2 w hw)⟩
def wPre (G : wG) (sz : Nat) (w : va_W) : State → Prop := fun U => U.heap.size = sz ∧ va_P G.1 vwCl w U.heap ∧ wK G U ∧ va_D (fun _ => True) w
def wPost (G : wG) (A : Nat → Prop) (w : va_W) : Unit → State → Prop := fun _ t => va_P G.1 vwCl w t.heap ∧ va_D A w
def wCi (l : Launch) (G : wG) (y : MethodName) (ws : List Cond) (rm : Room) (as : List Value) (w0 w1 : va_W) (mc ms : Nat) (r : Int32) : Prop := ∀ sz : Nat, Met l y ws rm (va_Pc as (wPre G sz w0)) (va_Qi (fun (x : Int32) (_ : Unit) => x = r) (wPost G (va_A w0 sz) w1) (va_A w0 sz)) mc ms (va_A w0 sz)
def wCl (l : Launch) (G : wG) (y : MethodName) (ws : List Cond) (rm : Room) (as : List Value) (w0 w1 : va_W) (mc ms : Nat) (r : Int64) : Prop := ∀ sz : Nat, Met l y ws rm (va_Pc as (wPre G sz w0)) (va_Ql (fun (x : Int64) (_ : Unit) => x = r) (wPost G (va_A w0 sz) w1) (va_A w0 sz)) mc ms (va_A w0 sz)
def wCv (l : Launch) (G : wG) (y : MethodName) (ws : List Cond) (rm : Room) (as : List Value) (w0 w1 : va_W) (mc ms : Nat) : Prop := ∀ sz : Nat, Met l y ws rm (va_Pc as (wPre G sz w0)) (va_Qv (fun (_ : Unit) => True) (wPost G (va_A w0 sz) w1) (va_A w0 sz)) mc ms (va_A w0 sz)
def wQi (G : wG) (A : Nat → Prop) (below : List Frame) (args : Array Value) (s : State) (w1 : va_W) (mc ms : Nat) (r : Int32) : State → Prop := MQ below (va_Qi (fun (x : Int32) (_ : Unit) => x = r) (wPost G A w1) A) args s mc ms A
def wQl (G : wG) (A : Nat → Prop) (below : List Frame) (args : Array Value) (s : State) (w1 : va_W) (mc ms : Nat) (r : Int64) : State → Prop := MQ below (va_Ql (fun (x : Int64) (_ : Unit) => x = r) (wPost G A w1) A) args s mc ms A
def wQv (G : wG) (A : Nat → Prop) (below : List Frame) (args : Array Value) (s : State) (w1 : va_W) (mc ms : Nat) : State → Prop := MQ below (va_Qv (fun (_ : Unit) => True) (wPost G A w1) A) args s mc ms A
theorem wCi.mk {l : Launch} {G : wG} {y : MethodName} {ws ws' : List Cond} {rm : Room} {as : List Value} {w0 w1 : va_W} {mc ms : Nat} {r : Int32} {cc : ByteArray} {maxL : Nat} {ty : FieldType} (hy : plainName y.cls = true) (hw : ws = Cond.code y cc maxL (some ty) :: ws') (hn : (lg_sl as).length ≤ maxL)
    (body : ∀ (p : Program) (e : Env) (s : State) (m : MethodId) (below : List Frame) (meth : Method) (c : Code) (A : Nat → Prop) (ls : Array Slot),
      p.tables.exec = Jvm.exec → c.code = cc → c.maxLocals = maxL → meth.sig.returnType = some ty → meth.locks = false → (∀ w ∈ ws, w.before as.toArray s = true) → s.vm.findClass y.cls = some m.cls → wK G s → (∀ q : Nat, s.heap.size ≤ q → A q) → va_P G.1 vwCl w0 s.heap → va_D A w0 → lv_has ls maxL (lv_args 0 as) →
      W p l e rm s m as.toArray below meth c s.heap [] 0 0 (wQi G A below as.toArray s w1 mc ms r) (F0 m 0 ls [])) : wCi l G y ws rm as w0 w1 mc ms r := by
  intro sz
  refine Met.ofW (cc := cc) (maxL := maxL) (ret := some ty) hy hw ?_
  intro p e s m args below meth c s₁ B hml hv
  obtain ⟨rfl, hsz, hP, hK, hD0⟩ := hv
  subst hsz
  have hl := lv_entry as (n := maxL) hn
  rw [lg_entry_eq]
  exact body p e s m below meth c _ _ B.exec B.bytes hml B.returns B.notSynchronized (atoms_spec B.pre) (findClass_of_methodNamed B.named) hK (fun q h => Or.inr h) hP hD0.self hl
theorem wCl.mk {l : Launch} {G : wG} {y : MethodName} {ws ws' : List Cond} {rm : Room} {as : List Value} {w0 w1 : va_W} {mc ms : Nat} {r : Int64} {cc : ByteArray} {maxL : Nat} {ty : FieldType} (hy : plainName y.cls = true) (hw : ws = Cond.code y cc maxL (some ty) :: ws') (hn : (lg_sl as).length ≤ maxL)
    (body : ∀ (p : Program) (e : Env) (s : State) (m : MethodId) (below : List Frame) (meth : Method) (c : Code) (A : Nat → Prop) (ls : Array Slot),
      p.tables.exec = Jvm.exec → c.code = cc → c.maxLocals = maxL → meth.sig.returnType = some ty → meth.locks = false → (∀ w ∈ ws, w.before as.toArray s = true) → s.vm.findClass y.cls = some m.cls → wK G s → (∀ q : Nat, s.heap.size ≤ q → A q) → va_P G.1 vwCl w0 s.heap → va_D A w0 → lv_has ls maxL (lv_args 0 as) →
      W p l e rm s m as.toArray below meth c s.heap [] 0 0 (wQl G A below as.toArray s w1 mc ms r) (F0 m 0 ls [])) : wCl l G y ws rm as w0 w1 mc ms r := by
  intro sz
  refine Met.ofW (cc := cc) (maxL := maxL) (ret := some ty) hy hw ?_
  intro p e s m args below meth c s₁ B hml hv
  obtain ⟨rfl, hsz, hP, hK, hD0⟩ := hv
  subst hsz
  have hl := lv_entry as (n := maxL) hn
  rw [lg_entry_eq]
  exact body p e s m below meth c _ _ B.exec B.bytes hml B.returns B.notSynchronized (atoms_spec B.pre) (findClass_of_methodNamed B.named) hK (fun q h => Or.inr h) hP hD0.self hl
theorem wCv.mk {l : Launch} {G : wG} {y : MethodName} {ws ws' : List Cond} {rm : Room} {as : List Value} {w0 w1 : va_W} {mc ms : Nat} {cc : ByteArray} {maxL : Nat} (hy : plainName y.cls = true) (hw : ws = Cond.code y cc maxL none :: ws') (hn : (lg_sl as).length ≤ maxL)
    (body : ∀ (p : Program) (e : Env) (s : State) (m : MethodId) (below : List Frame) (meth : Method) (c : Code) (A : Nat → Prop) (ls : Array Slot),
      p.tables.exec = Jvm.exec → c.code = cc → c.maxLocals = maxL → meth.sig.returnType = none → meth.locks = false → (∀ w ∈ ws, w.before as.toArray s = true) → s.vm.findClass y.cls = some m.cls → wK G s → (∀ q : Nat, s.heap.size ≤ q → A q) → va_P G.1 vwCl w0 s.heap → va_D A w0 → lv_has ls maxL (lv_args 0 as) →
      W p l e rm s m as.toArray below meth c s.heap [] 0 0 (wQv G A below as.toArray s w1 mc ms) (F0 m 0 ls [])) : wCv l G y ws rm as w0 w1 mc ms := by
  intro sz
  refine Met.ofW (cc := cc) (maxL := maxL) (ret := none) hy hw ?_
  intro p e s m args below meth c s₁ B hml hv
  obtain ⟨rfl, hsz, hP, hK, hD0⟩ := hv
  subst hsz
  have hl := lv_entry as (n := maxL) hn
  rw [lg_entry_eq]
  exact body p e s m below meth c _ _ B.exec B.bytes hml B.returns B.notSynchronized (atoms_spec B.pre) (findClass_of_methodNamed B.named) hK (fun q h => Or.inr h) hP hD0.self hl
theorem fm_of {α β : Type} {is : List α} {f : α → Option β} {ws : List β} (h : is.map f = ws.map some) : is.filterMap f = ws := by
  induction is generalizing ws with
  | nil => cases ws with
    | nil => rfl
    | cons a b => simp at h
  | cons i t ih => cases ws with
    | nil => simp at h
    | cons a b =>
      simp only [List.map_cons, List.cons.injEq] at h
      simp [List.filterMap_cons, h.1, ih h.2]
end WBASE
section WROWS
variable {p : Program} {l : Launch} {e : Env} {R : Room} {s : State} {m : MethodId} {args : Array Value} {below : List Frame} {meth : Method} {c : Code} {H H0 : Heap} {locs : List Loc} {cells slots mc ms : Nat} {Q : State → Prop} {G : wG} {A : Nat → Prop} {w wc wr w1 w2 : va_W} {pc : Nat} {ls : Array Slot} {rest st0 : List Value} {as : List Value} {a : Array Value} {cc : ByteArray}
theorem wPreS (hP : va_P G.1 vwCl w H) (hD : va_D A w) (hK : wK G s) (isC : List Nat) (hnC : va_nd isC = true) (hisC : isC.map (fun i => w[i]?) = wc.map some) : PreS s H (va_Pc as (wPre G H.size wc)) as :=
  ⟨fun _ U g mk q => ⟨q.1, q.2.1, q.2.2.1, wK.same (u := U) (U := U.calling g mk _) rfl q.2.2.2.1, q.2.2.2.2⟩, fun U hU hW => ⟨rfl, by rw [hU], by rw [hU]; exact hP.sub isC (fm_of hisC), hK.warm hW, (hD.sub isC hnC hisC).weaken (fun _ _ _ _ => trivial)⟩⟩
theorem wPreV {C : String} {b : Nat} (hP : va_P G.1 vwCl w H) (hD : va_D A w) (hK : wK G s) (isC : List Nat) (hnC : va_nd isC = true) (hisC : isC.map (fun i => w[i]?) = wc.map some) {ci qb : Nat} {q : vw_C} {fs : List Value} (hc : vwCl[ci]? = some q) (he : w[qb]? = some (b, .inr (ci, fs))) (hC : q.1 = C) : PreV s H C b (va_Pc (.ref b :: as) (wPre G H.size wc)) as := by
  subst hC
  exact ⟨(wPreS (as := .ref b :: as) hP hD hK isC hnC hisC).1, va_recv hK.1 hP hc he, (wPreS (as := .ref b :: as) hP hD hK isC hnC hisC).2⟩
theorem wafter_i {r : Int32} (hr : va_Run p l e R s m args below meth c H locs cells slots mc ms (F0 m pc ls st0) rest (va_Qi (fun (x : Int32) (_ : Unit) => x = r) (wPost G (va_A wc H.size) w1) (va_A wc H.size) a) (va_A wc H.size))
    (hP : va_P G.1 vwCl w H) (hD : va_D A w) (hS : va_S A H0 H locs) (hA : ∀ q : Nat, H0.size ≤ q → A q) (isC isR perm : List Nat) (hisC : isC.map (fun i => w[i]?) = wc.map some) (hisR : isR.map (fun i => w[i]?) = wr.map some) (hnd : va_nd isR = true) (hdis : ∀ i ∈ isR, i ∉ isC) (hpn : va_nd perm = true) (hperm : perm.map (fun i => (wr ++ w1)[i]?) = w2.map some)
    (kk : ∀ (H1 : Heap) (locs1 : List Loc), va_P G.1 vwCl w2 H1 → va_D A w2 → va_S A H0 H1 locs1 → W p l e R s m args below meth c H1 locs1 (cells + mc) (slots + ms) Q (F0 m (pc + 3) ls (.int r :: rest))) : W p l e R s m args below meth c H locs cells slots Q (F0 m pc ls st0) := by
  have hFc := va_free (wc := wc) hD hS hA isC hisC
  refine va_calli hr hS (fun q _ h => hFc q h) hFc (fun x u t H1 locs1 ht hvm hw hB hz1 hk1 hS1 => ?_)
  obtain ⟨hP1, hD1⟩ := hB
  rw [ht] at hP1
  obtain ⟨hP2, hD2⟩ := va_join (wr := wr) (w1 := w1) hP hD isC isR hisC hisR hnd hdis hk1 hFc hP1 hD1
  subst hw
  exact kk H1 locs1 (hP2.sub perm (fm_of hperm)) (hD2.sub perm hpn hperm) hS1
theorem wafter_l {r : Int64} (hr : va_Run p l e R s m args below meth c H locs cells slots mc ms (F0 m pc ls st0) rest (va_Ql (fun (x : Int64) (_ : Unit) => x = r) (wPost G (va_A wc H.size) w1) (va_A wc H.size) a) (va_A wc H.size))
    (hP : va_P G.1 vwCl w H) (hD : va_D A w) (hS : va_S A H0 H locs) (hA : ∀ q : Nat, H0.size ≤ q → A q) (isC isR perm : List Nat) (hisC : isC.map (fun i => w[i]?) = wc.map some) (hisR : isR.map (fun i => w[i]?) = wr.map some) (hnd : va_nd isR = true) (hdis : ∀ i ∈ isR, i ∉ isC) (hpn : va_nd perm = true) (hperm : perm.map (fun i => (wr ++ w1)[i]?) = w2.map some)
    (kk : ∀ (H1 : Heap) (locs1 : List Loc), va_P G.1 vwCl w2 H1 → va_D A w2 → va_S A H0 H1 locs1 → W p l e R s m args below meth c H1 locs1 (cells + mc) (slots + ms) Q (F0 m (pc + 3) ls (.long r :: rest))) : W p l e R s m args below meth c H locs cells slots Q (F0 m pc ls st0) := by
  have hFc := va_free (wc := wc) hD hS hA isC hisC
  refine va_calll hr hS (fun q _ h => hFc q h) hFc (fun x u t H1 locs1 ht hvm hw hB hz1 hk1 hS1 => ?_)
  obtain ⟨hP1, hD1⟩ := hB
  rw [ht] at hP1
  obtain ⟨hP2, hD2⟩ := va_join (wr := wr) (w1 := w1) hP hD isC isR hisC hisR hnd hdis hk1 hFc hP1 hD1
  subst hw
  exact kk H1 locs1 (hP2.sub perm (fm_of hperm)) (hD2.sub perm hpn hperm) hS1
theorem wafter_v (hr : va_Run p l e R s m args below meth c H locs cells slots mc ms (F0 m pc ls st0) rest (va_Qv (fun (_ : Unit) => True) (wPost G (va_A wc H.size) w1) (va_A wc H.size) a) (va_A wc H.size))
    (hP : va_P G.1 vwCl w H) (hD : va_D A w) (hS : va_S A H0 H locs) (hA : ∀ q : Nat, H0.size ≤ q → A q) (isC isR perm : List Nat) (hisC : isC.map (fun i => w[i]?) = wc.map some) (hisR : isR.map (fun i => w[i]?) = wr.map some) (hnd : va_nd isR = true) (hdis : ∀ i ∈ isR, i ∉ isC) (hpn : va_nd perm = true) (hperm : perm.map (fun i => (wr ++ w1)[i]?) = w2.map some)
    (kk : ∀ (H1 : Heap) (locs1 : List Loc), va_P G.1 vwCl w2 H1 → va_D A w2 → va_S A H0 H1 locs1 → W p l e R s m args below meth c H1 locs1 (cells + mc) (slots + ms) Q (F0 m (pc + 3) ls rest)) : W p l e R s m args below meth c H locs cells slots Q (F0 m pc ls st0) := by
  have hFc := va_free (wc := wc) hD hS hA isC hisC
  refine va_callv hr hS (fun q _ h => hFc q h) hFc (fun u t H1 locs1 ht hvm hw hB hz1 hk1 hS1 => ?_)
  obtain ⟨hP1, hD1⟩ := hB
  rw [ht] at hP1
  obtain ⟨hP2, hD2⟩ := va_join (wr := wr) (w1 := w1) hP hD isC isR hisC hisR hnd hdis hk1 hFc hP1 hD1
  exact kk H1 locs1 (hP2.sub perm (fm_of hperm)) (hD2.sub perm hpn hperm) hS1
theorem wri {r v : Int32} (hx : p.tables.exec = Jvm.exec) (hb : c.code = cc) (hr : meth.sig.returnType = some .int) (hlocks : meth.locks = false) (hP : va_P G.1 vwCl w1 H) (hD : va_D A w1) (hS : va_S A s.heap H locs) (hc : cells ≤ mc) (hs : slots ≤ ms) (hv : v = r) (hdg : decode cc pc = .ok (.ireturn, 1)) : W p l e R s m args below meth c H locs cells slots (wQi G A below args s w1 mc ms r) (F0 m pc ls [.int v]) := by
  refine W.widen (k := mc) (n := ms) hc hs ?_
  exact W.iret hx hb hr (fun t ht hW => ⟨⟨v, (), rfl, hv, by rw [ht]; exact hP, hD⟩, hS.F ht⟩) hS.2.2 hdg hlocks
theorem narrow_zo {v : Int32} (h : v = 0 ∨ v = 1) : narrow .boolean (.int v) = .int v := by
  rcases h with rfl | rfl <;> rfl
theorem wrz {r v : Int32} (hx : p.tables.exec = Jvm.exec) (hb : c.code = cc) (hr : meth.sig.returnType = some .boolean) (hlocks : meth.locks = false) (hP : va_P G.1 vwCl w1 H) (hD : va_D A w1) (hS : va_S A s.heap H locs) (hc : cells ≤ mc) (hs : slots ≤ ms) (hz : v = 0 ∨ v = 1) (hv : v = r) (hdg : decode cc pc = .ok (.ireturn, 1)) : W p l e R s m args below meth c H locs cells slots (wQi G A below args s w1 mc ms r) (F0 m pc ls [.int v]) := by
  refine W.widen (k := mc) (n := ms) hc hs ?_
  exact W.zret hx hb hr (narrow_zo hz) (fun t ht hW => ⟨⟨v, (), rfl, hv, by rw [ht]; exact hP, hD⟩, hS.F ht⟩) hS.2.2 hdg hlocks
theorem wrl {r v : Int64} (hx : p.tables.exec = Jvm.exec) (hb : c.code = cc) (hr : meth.sig.returnType = some .long) (hlocks : meth.locks = false) (hP : va_P G.1 vwCl w1 H) (hD : va_D A w1) (hS : va_S A s.heap H locs) (hc : cells ≤ mc) (hs : slots ≤ ms) (hv : v = r) (hdg : decode cc pc = .ok (.lreturn, 1)) : W p l e R s m args below meth c H locs cells slots (wQl G A below args s w1 mc ms r) (F0 m pc ls [.long v]) := by
  refine W.widen (k := mc) (n := ms) hc hs ?_
  exact W.lret hx hb hr (fun t ht hW => ⟨⟨v, (), rfl, hv, by rw [ht]; exact hP, hD⟩, hS.F ht⟩) hS.2.2 hdg hlocks
theorem wrv (hx : p.tables.exec = Jvm.exec) (hb : c.code = cc) (hr : meth.sig.returnType = none) (hlocks : meth.locks = false) (hP : va_P G.1 vwCl w1 H) (hD : va_D A w1) (hS : va_S A s.heap H locs) (hc : cells ≤ mc) (hs : slots ≤ ms) (hdg : decode cc pc = .ok (.return_, 1)) : W p l e R s m args below meth c H locs cells slots (wQv G A below args s w1 mc ms) (F0 m pc ls []) := by
  refine W.widen (k := mc) (n := ms) hc hs ?_
  exact W.vret hx hb hr (fun t ht hW => ⟨⟨(), rfl, trivial, by rw [ht]; exact hP, hD⟩, hS.F ht⟩) hS.2.2 hdg hlocks
end WROWS
section WPURE
def rd {α : Type} (f : Nat → Int32) (n : Nat) (i : Int32) (k : Int32 → Option α) : Option α := if i < 0 ∨ n ≤ i.toNatClampNeg then none else k (f i.toNatClampNeg)
def ck {α : Type} (n : Nat) (i : Int32) (k : Option α) : Option α := if i < 0 ∨ n ≤ i.toNatClampNeg then none else k
def nz {α : Type} (y : Int32) (k : Option α) : Option α := if y = 0 then none else k
def zo {α : Type} (y : Int32) (k : Option α) : Option α := if y = 0 ∨ y = 1 then k else none
def nm {α β : Type} (x : β) (k : β → Option α) : Option α := k x
def bd {α β : Type} (x : Option β) (k : β → Option α) : Option α := match x with
  | none => none
  | some y => k y
theorem rd_inv {α : Type} {f : Nat → Int32} {n : Nat} {i : Int32} {k : Int32 → Option α} {r : α} (h : rd f n i k = some r) : vp_in i n ∧ k (f i.toNatClampNeg) = some r := by
  unfold rd at h
  by_cases hc : i < 0 ∨ n ≤ i.toNatClampNeg
  · rw [if_pos hc] at h; cases h
  · rw [if_neg hc] at h; exact ⟨hc, h⟩
theorem ck_inv {α : Type} {n : Nat} {i : Int32} {k : Option α} {r : α} (h : ck n i k = some r) : vp_in i n ∧ k = some r := by
  unfold ck at h
  by_cases hc : i < 0 ∨ n ≤ i.toNatClampNeg
  · rw [if_pos hc] at h; cases h
  · rw [if_neg hc] at h; exact ⟨hc, h⟩
theorem nz_inv {α : Type} {y : Int32} {k : Option α} {r : α} (h : nz y k = some r) : ¬ y = 0 ∧ k = some r := by
  unfold nz at h
  by_cases hc : y = 0
  · rw [if_pos hc] at h; cases h
  · rw [if_neg hc] at h; exact ⟨hc, h⟩
theorem zo_inv {α : Type} {y : Int32} {k : Option α} {r : α} (h : zo y k = some r) : (y = 0 ∨ y = 1) ∧ k = some r := by
  unfold zo at h
  by_cases hc : y = 0 ∨ y = 1
  · rw [if_pos hc] at h; exact ⟨hc, h⟩
  · rw [if_neg hc] at h; cases h
theorem bd_inv {α β : Type} {x : Option β} {k : β → Option α} {r : α} (h : bd x k = some r) : ∃ y, x = some y ∧ k y = some r := by
  cases x with
  | none => cases h
  | some y => exact ⟨y, rfl, h⟩
theorem ip {α : Type} {q : Prop} [Decidable q] {a b r : Option α} (hc : q) (h : (if q then a else b) = r) : a = r := by rwa [if_pos hc] at h
theorem iq {α : Type} {q : Prop} [Decidable q] {a b r : Option α} (hc : ¬ q) (h : (if q then a else b) = r) : b = r := by rwa [if_neg hc] at h
end WPURE
section WROWS2
variable {p : Program} {l : Launch} {e : Env} {R : Room} {s : State} {m : MethodId} {args : Array Value} {below : List Frame} {meth : Method} {c : Code} {H H0 : Heap} {locs : List Loc} {cells slots : Nat} {Q : State → Prop} {G : wG} {A : Nat → Prop} {w : va_W} {pc : Nat} {ls : Array Slot} {rest : List Value} {cc : ByteArray} {α : Type} {v : α}
theorem wiald {n : Nat} {f : Nat → Int32} {i : Int32} {k : Int32 → Option α} {ad : Nat} (h : rd f n i k = some v) (hx : p.tables.exec = Jvm.exec) (hb : c.code = cc) (hK : wK G s) (hP : va_P G.1 vwCl w H) (q0 : Nat) (ha : w[q0]? = some (ad, .inl (G.2.1, n, .inl f))) (hdg : decode cc pc = .ok (.iaload, 1))
    (kk : ∀ y : Int32, k y = some v → W p l e R s m args below meth c H locs cells slots Q (F0 m (pc + 1) ls (.int y :: rest))) : W p l e R s m args below meth c H locs cells slots Q (F0 m pc ls (.int i :: .ref ad :: rest)) := by
  obtain ⟨hi, h⟩ := rd_inv h
  exact va_iald hx hb hK.1 hP q0 0 ha rfl hi hdg (kk _ h)
theorem wiast {n : Nat} {f : Nat → Int32} {i x : Int32} {k : Option α} {ad : Nat} (h : ck n i k = some v) (hx : p.tables.exec = Jvm.exec) (hb : c.code = cc) (hK : wK G s) (hP : va_P G.1 vwCl w H) (hD : va_D A w) (hS : va_S A H0 H locs) (q0 : Nat) (ha : w[q0]? = some (ad, .inl (G.2.1, n, .inl f))) (hdg : decode cc pc = .ok (.iastore, 1))
    (kk : ∀ (H1 : Heap) (locs1 : List Loc), va_P G.1 vwCl (w.set q0 (ad, .inl (G.2.1, n, .inl (upd f i.toNatClampNeg x)))) H1 → va_D A (w.set q0 (ad, .inl (G.2.1, n, .inl (upd f i.toNatClampNeg x)))) → va_S A H0 H1 locs1 → k = some v → W p l e R s m args below meth c H1 locs1 cells slots Q (F0 m (pc + 1) ls rest)) : W p l e R s m args below meth c H locs cells slots Q (F0 m pc ls (.int x :: .int i :: .ref ad :: rest)) := by
  obtain ⟨hi, h⟩ := ck_inv h
  exact va_iast hx hb hK.1 hP hD hS q0 0 ha rfl hi hdg (fun H1 locs1 a b d => kk H1 locs1 a b d h)
theorem wnmi {x : Int32} {k : Int32 → Option α} (h : nm x k = some v) (kk : ∀ y : Int32, k y = some v → W p l e R s m args below meth c H locs cells slots Q (F0 m pc ls (.int y :: rest))) : W p l e R s m args below meth c H locs cells slots Q (F0 m pc ls (.int x :: rest)) := kk x h
theorem wnml {x : Int64} {k : Int64 → Option α} (h : nm x k = some v) (kk : ∀ y : Int64, k y = some v → W p l e R s m args below meth c H locs cells slots Q (F0 m pc ls (.long y :: rest))) : W p l e R s m args below meth c H locs cells slots Q (F0 m pc ls (.long x :: rest)) := kk x h
end WROWS2
section WJ
def jLshl (x : Int64) (y : Int32) : Int64 := x <<< (y.toInt64 &&& 63)
def jLushr (x : Int64) (y : Int32) : Int64 := (x.toUInt64 >>> (y.toInt64.toUInt64 &&& Int64.toUInt64 63)).toInt64
def jIushr (x y : Int32) : Int32 := (x.toUInt32 >>> (y.toUInt32 &&& Int32.toUInt32 31)).toInt32
def jAbs (x : Int32) : Int32 := if 0 ≤ x then x else 0 - x
end WJ
/-! the worlds -/
abbrev w_G (G : wG) (g0 : Nat) (g_e : Int64) : va_W := [(g0, .inr (0, [.long g_e]))]
abbrev w_L (G : wG) (l0 l1 l2 l3 : Nat) (l_a : Nat → Int32) (l_b : Nat → Int32) (l_c : Nat → Int32) (l_n : Int32) : va_W := [(l0, .inr (1, [.ref l1, .ref l2, .ref l3, .int l_n])), (l1, .inl (G.2.1, 9, .inl l_a)), (l2, .inl (G.2.1, 9, .inl l_b)), (l3, .inl (G.2.1, 9, .inl l_c))]
abbrev w_M (G : wG) (m0 m1 m2 m3 m4 m5 : Nat) (m_x : Nat → Int32) (m_y : Nat → Int32) (m_d : Nat → Int32) (m_t : Nat → Int32) (m_v : Nat → Int32) (m_n : Int32) : va_W := [(m0, .inr (2, [.ref m1, .ref m2, .ref m3, .ref m4, .ref m5, .int m_n])), (m1, .inl (G.2.1, 36, .inl m_x)), (m2, .inl (G.2.1, 36, .inl m_y)), (m3, .inl (G.2.1, 36, .inl m_d)), (m4, .inl (G.2.1, 36, .inl m_t)), (m5, .inl (G.2.1, 36, .inl m_v))]
abbrev w_R (G : wG) (r0 r1 r2 r3 : Nat) (r_s : Nat → Int32) (r_n : Nat → Int32) (r_w : Nat → Int32) (r_k : Int32) : va_W := [(r0, .inr (3, [.ref r1, .ref r2, .ref r3, .int r_k])), (r1, .inl (G.2.1, 46, .inl r_s)), (r2, .inl (G.2.1, 512, .inl r_n)), (r3, .inl (G.2.1, 512, .inl r_w))]
abbrev w_ML (G : wG) (m0 m1 m2 m3 m4 m5 l0 l1 l2 l3 : Nat) (l_a : Nat → Int32) (l_b : Nat → Int32) (l_c : Nat → Int32) (l_n : Int32) (m_x : Nat → Int32) (m_y : Nat → Int32) (m_d : Nat → Int32) (m_t : Nat → Int32) (m_v : Nat → Int32) (m_n : Int32) : va_W := [(m0, .inr (2, [.ref m1, .ref m2, .ref m3, .ref m4, .ref m5, .int m_n])), (m1, .inl (G.2.1, 36, .inl m_x)), (m2, .inl (G.2.1, 36, .inl m_y)), (m3, .inl (G.2.1, 36, .inl m_d)), (m4, .inl (G.2.1, 36, .inl m_t)), (m5, .inl (G.2.1, 36, .inl m_v)), (l0, .inr (1, [.ref l1, .ref l2, .ref l3, .int l_n])), (l1, .inl (G.2.1, 9, .inl l_a)), (l2, .inl (G.2.1, 9, .inl l_b)), (l3, .inl (G.2.1, 9, .inl l_c))]
abbrev w_RL (G : wG) (r0 r1 r2 r3 l0 l1 l2 l3 : Nat) (l_a : Nat → Int32) (l_b : Nat → Int32) (l_c : Nat → Int32) (l_n : Int32) (r_s : Nat → Int32) (r_n : Nat → Int32) (r_w : Nat → Int32) (r_k : Int32) : va_W := [(r0, .inr (3, [.ref r1, .ref r2, .ref r3, .int r_k])), (r1, .inl (G.2.1, 46, .inl r_s)), (r2, .inl (G.2.1, 512, .inl r_n)), (r3, .inl (G.2.1, 512, .inl r_w)), (l0, .inr (1, [.ref l1, .ref l2, .ref l3, .int l_n])), (l1, .inl (G.2.1, 9, .inl l_a)), (l2, .inl (G.2.1, 9, .inl l_b)), (l3, .inl (G.2.1, 9, .inl l_c))]
abbrev w_RLM (G : wG) (r0 r1 r2 r3 l0 l1 l2 l3 m0 m1 m2 m3 m4 m5 : Nat) (l_a : Nat → Int32) (l_b : Nat → Int32) (l_c : Nat → Int32) (l_n : Int32) (m_x : Nat → Int32) (m_y : Nat → Int32) (m_d : Nat → Int32) (m_t : Nat → Int32) (m_v : Nat → Int32) (m_n : Int32) (r_s : Nat → Int32) (r_n : Nat → Int32) (r_w : Nat → Int32) (r_k : Int32) : va_W := [(r0, .inr (3, [.ref r1, .ref r2, .ref r3, .int r_k])), (r1, .inl (G.2.1, 46, .inl r_s)), (r2, .inl (G.2.1, 512, .inl r_n)), (r3, .inl (G.2.1, 512, .inl r_w)), (l0, .inr (1, [.ref l1, .ref l2, .ref l3, .int l_n])), (l1, .inl (G.2.1, 9, .inl l_a)), (l2, .inl (G.2.1, 9, .inl l_b)), (l3, .inl (G.2.1, 9, .inl l_c)), (m0, .inr (2, [.ref m1, .ref m2, .ref m3, .ref m4, .ref m5, .int m_n])), (m1, .inl (G.2.1, 36, .inl m_x)), (m2, .inl (G.2.1, 36, .inl m_y)), (m3, .inl (G.2.1, 36, .inl m_d)), (m4, .inl (G.2.1, 36, .inl m_t)), (m5, .inl (G.2.1, 36, .inl m_v))]
abbrev w_C (G : wG) (c0 l0 l1 l2 l3 m0 m1 m2 m3 m4 m5 r0 r1 r2 r3 g0 : Nat) (g_e : Int64) (l_a : Nat → Int32) (l_b : Nat → Int32) (l_c : Nat → Int32) (l_n : Int32) (m_x : Nat → Int32) (m_y : Nat → Int32) (m_d : Nat → Int32) (m_t : Nat → Int32) (m_v : Nat → Int32) (m_n : Int32) (r_s : Nat → Int32) (r_n : Nat → Int32) (r_w : Nat → Int32) (r_k : Int32) : va_W := [(c0, .inr (4, [.ref l0, .ref m0, .ref r0, .ref g0])), (l0, .inr (1, [.ref l1, .ref l2, .ref l3, .int l_n])), (l1, .inl (G.2.1, 9, .inl l_a)), (l2, .inl (G.2.1, 9, .inl l_b)), (l3, .inl (G.2.1, 9, .inl l_c)), (m0, .inr (2, [.ref m1, .ref m2, .ref m3, .ref m4, .ref m5, .int m_n])), (m1, .inl (G.2.1, 36, .inl m_x)), (m2, .inl (G.2.1, 36, .inl m_y)), (m3, .inl (G.2.1, 36, .inl m_d)), (m4, .inl (G.2.1, 36, .inl m_t)), (m5, .inl (G.2.1, 36, .inl m_v)), (r0, .inr (3, [.ref r1, .ref r2, .ref r3, .int r_k])), (r1, .inl (G.2.1, 46, .inl r_s)), (r2, .inl (G.2.1, 512, .inl r_n)), (r3, .inl (G.2.1, 512, .inl r_w)), (g0, .inr (0, [.long g_e]))]
def bdn {α β : Type} (x : Option (String ⊕ β)) (k : β → Option α) : Option α := match x with
  | none => none
  | some (.inl _) => none
  | some (.inr y) => k y
theorem bdn_n {α β : Type} {x : Option (String ⊕ β)} {k : β → Option α} {r : α} (h : bdn x k = some r) : ∃ y, x = some (.inr y) ∧ k y = some r := by
  cases x with
  | none => cases h
  | some y => cases y with
    | inl e => cases h
    | inr z => exact ⟨z, rfl, h⟩
theorem bdn_s {α β : Type} (y : β) (k : β → Option α) : bdn (some (.inr y)) k = k y := rfl
