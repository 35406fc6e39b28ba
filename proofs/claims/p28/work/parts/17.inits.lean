section WIN
def wCn {S : Type} (l : Launch) (G : wG) (y : MethodName) (ws : List Cond) (rm : Room) (as : List Value) (w0 : va_W) (w1 : S → va_W) (mc ms : Nat) : Prop := ∀ sz : Nat, Met l y ws rm (va_Pc as (wPre G sz w0)) (va_Qv (fun (_ : S) => True) (wBT G (va_A w0 sz) w1) (va_A w0 sz)) mc ms (va_A w0 sz)
def wQn {S : Type} (G : wG) (A : Nat → Prop) (below : List Frame) (args : Array Value) (s : State) (w1 : S → va_W) (mc ms : Nat) : State → Prop := MQ below (va_Qv (fun (_ : S) => True) (wBT G A w1) A) args s mc ms A
theorem wCn.mk {S : Type} {l : Launch} {G : wG} {y : MethodName} {ws ws' : List Cond} {rm : Room} {as : List Value} {w0 : va_W} {w1 : S → va_W} {mc ms : Nat} {cc : ByteArray} {maxL : Nat} (hy : plainName y.cls = true) (hw : ws = Cond.code y cc maxL none :: ws') (hn : (lg_sl as).length ≤ maxL)
    (body : ∀ (p : Program) (e : Env) (s : State) (m : MethodId) (below : List Frame) (meth : Method) (c : Code) (A : Nat → Prop) (ls : Array Slot),
      p.tables.exec = Jvm.exec → c.code = cc → c.maxLocals = maxL → meth.sig.returnType = none → meth.locks = false → (∀ w ∈ ws, w.before as.toArray s = true) → s.vm.findClass y.cls = some m.cls → meth.name = y.name → wK G s → (∀ q : Nat, s.heap.size ≤ q → A q) → va_P G.1 vwCl w0 s.heap → va_D A w0 → lv_has ls maxL (lv_args 0 as) →
      W p l e rm s m as.toArray below meth c s.heap [] 0 0 (wQn G A below as.toArray s w1 mc ms) (F0 m 0 ls [])) : wCn l G y ws rm as w0 w1 mc ms := by
  intro sz
  refine Met.ofW (cc := cc) (maxL := maxL) (ret := none) hy hw ?_
  intro p e s m args below meth c s₁ B hml hv
  obtain ⟨rfl, hsz, hP, hK, hD0⟩ := hv
  subst hsz
  have hl := lv_entry as (n := maxL) hn
  rw [lg_entry_eq]
  exact body p e s m below meth c _ _ B.exec B.bytes hml B.returns B.notSynchronized (atoms_spec B.pre) (findClass_of_methodNamed B.named) (name_of_methodNamed B.named B.method).1 hK (fun q h => Or.inr h) hP hD0.self hl
end WIN
section WRI
variable {p : Program} {l : Launch} {e : Env} {R : Room} {s : State} {m : MethodId} {args : Array Value} {below : List Frame} {meth : Method} {c : Code} {H H0 : Heap} {locs : List Loc} {cells slots mc ms : Nat} {Q : State → Prop} {G : wG} {A : Nat → Prop} {w wc wr : va_W} {pc : Nat} {ls : Array Slot} {rest st0 : List Value} {as : List Value} {a : Array Value} {cc : ByteArray} {S : Type} {w1 : S → va_W}
theorem wrn {t0 : S} (hx : p.tables.exec = Jvm.exec) (hb : c.code = cc) (hr : meth.sig.returnType = none) (hlocks : meth.locks = false) (hP : va_P G.1 vwCl (w1 t0) H) (hD : va_D A (w1 t0)) (hS : va_S A s.heap H locs) (hc : cells ≤ mc) (hs : slots ≤ ms) (hdg : decode cc pc = .ok (.return_, 1)) : W p l e R s m args below meth c H locs cells slots (wQn G A below args s w1 mc ms) (F0 m pc ls []) := by
  refine W.widen (k := mc) (n := ms) hc hs ?_
  exact W.vret hx hb hr (fun t ht hW => ⟨⟨t0, rfl, trivial, by rw [ht]; exact hP, hD⟩, hS.F ht⟩) hS.2.2 hdg hlocks
theorem wafter_n (hr : va_Run p l e R s m args below meth c H locs cells slots mc ms (F0 m pc ls st0) rest (va_Qv (fun (_ : S) => True) (wBT G (va_A wc H.size) w1) (va_A wc H.size) a) (va_A wc H.size))
    (hP : va_P G.1 vwCl w H) (hD : va_D A w) (hS : va_S A H0 H locs) (hA : ∀ q : Nat, H0.size ≤ q → A q) (isC isR : List Nat) (hisC : isC.map (fun i => w[i]?) = wc.map some) (hisR : isR.map (fun i => w[i]?) = wr.map some) (hnd : va_nd isR = true) (hdis : ∀ i ∈ isR, i ∉ isC)
    (kk : ∀ (t : S) (H1 : Heap) (locs1 : List Loc), va_P G.1 vwCl (wr ++ w1 t) H1 → va_D A (wr ++ w1 t) → va_S A H0 H1 locs1 → W p l e R s m args below meth c H1 locs1 (cells + mc) (slots + ms) Q (F0 m (pc + 3) ls rest)) : W p l e R s m args below meth c H locs cells slots Q (F0 m pc ls st0) := by
  have hFc := va_free (wc := wc) hD hS hA isC hisC
  refine va_callv hr hS (fun q _ h => hFc q h) hFc (fun u t H1 locs1 ht hvm hw hB hz1 hk1 hS1 => ?_)
  obtain ⟨hP1, hD1⟩ := hB
  rw [ht] at hP1
  obtain ⟨hP2, hD2⟩ := va_join (wr := wr) (w1 := w1 u) hP hD isC isR hisC hisR hnd hdis hk1 hFc hP1 hD1
  exact kk u H1 locs1 hP2 hD2 hS1
theorem wnewaI (hx : p.tables.exec = Jvm.exec) (hb : c.code = cc) (harr : (Cond.arrayClass .int).before args s = true) (hK : wK G s) (hP : va_P G.1 vwCl w H) (hD : va_D A w) (hS : va_S A H0 H locs) (hA : ∀ q : Nat, H0.size ≤ q → A q)
    {n : Int32} {N : Nat} (hn : ¬ n < 0) (hN : n.toNatClampNeg = N) (hbytes : N * componentBytes .int ≤ 536870912) (hcells : cells + 1 ≤ R.cells) (hslots : slots + N ≤ R.slots) (hdg : decode cc pc = .ok (.newarray .int, 2))
    (kk : ∀ (q : Nat) (H1 : Heap), va_P G.1 vwCl (w ++ [(q, .inl (G.2.1, N, .inl (fun _ => 0)))]) H1 → va_D A (w ++ [(q, .inl (G.2.1, N, .inl (fun _ => 0)))]) → va_S A H0 H1 locs → W p l e R s m args below meth c H1 locs (cells + 1) (slots + N) Q (F0 m (pc + 2) ls (.ref q :: rest))) : W p l e R s m args below meth c H locs cells slots Q (F0 m pc ls (.int n :: rest)) := by
  refine va_newa (atype := .int) (ty := .int) (a0 := (N, .inl (fun _ => 0))) hx hb harr rfl hK.1 hP hD hS hA (fun cA => by rw [vp_cell_i] <;> rfl) hn hN hbytes hcells hslots hdg (fun q cA H1 hK1 hP1 hD1 hS1 => ?_)
  have e1 := (hK1.2 1 _ rfl).2
  have e2 := (hK.1.2 0 _ rfl).2
  obtain rfl : cA = G.2.1 := Option.some.inj (e1.symm.trans e2)
  exact kk q H1 hP1 hD1 hS1
end WRI
/-- the row of Rooms' numbers, as far as the loop has filled it -/
def rInit (f : Nat → Int32) : Nat → Nat → Int32
  | 0 => f
  | k + 1 => upd (rInit f k) (k + 1) (-1)

set_option maxHeartbeats 4000000 in
set_option maxRecDepth 100000 in
theorem kX0_init {l : Launch} {G : wG} (g0 : Nat) : wCn l G yX0_init wsX0_init ({ frames := 1, cells := 0, slots := 0, locals := 12 } : Room) [.ref g0] [(g0, .inr (0, [.long 0]))] (fun t : Unit => w_G G g0 0) 0 0 := by
  refine wCn.mk (cc := cX0_init) (maxL := 1) (by decide) rfl (Nat.le_of_ble_eq_true rfl) ?_
  intro p e s m below meth c A ls hx hb hml hr hlocks hts hown hin hK hA hP hD hl
  have hown : s.vm.findClass RX0 = some m.cls := hown
  have hin : meth.name = "<init>" := hin
  have hinX0 : ∀ w ∈ wsX00, w ∈ wsX0_init := by decide +kernel
  have hobj : (Cond.code objectInit ⟨#[0xb1]⟩ 1 none) ∈ wsX0_init := by decide +kernel
  have hS : va_S A s.heap s.heap [] := va_S.rf
  have hP : va_P G.1 vwCl [(g0, .inr (0, [.long 0]))] s.heap := hP
  have hD : va_D A [(g0, .inr (0, [.long 0]))] := hD
  have hl : lv_has ls 1 [(0, .ref g0)] := hl
  obtain ⟨args, hargs⟩ : ∃ z : Array Value, z = ([.ref g0] : List Value).toArray := ⟨_, rfl⟩
  rw [← hargs]
  rw [← hargs] at hts
  refine lv_aload_n hx hb dX0_init_0 rfl (lv_at hl 0 rfl) ?_
  refine W.objInit hx hb hown (hts (.methodLink RX0 3 objectInit) (by decide +kernel)) (hts (.instanceMethod objectInit) (by decide +kernel)) (hts _ hobj) rfl (by rw [hml]; exact hl.1) rfl dX0_init_1 (Nat.le_of_ble_eq_true rfl) (Nat.le_of_ble_eq_true rfl) ?_
  refine W.eq (g2 := F0 m 4 ls []) rfl ?_
  refine lv_aload_n hx hb dX0_init_4 rfl (lv_at hl 0 rfl) ?_
  refine lv_lconst (v := 0) hx hb dX0_init_5 (by decide) ?_
  refine va_put (D := G.1) (ci := 0) (v := .long 0) (ty := .long) (C := RX0) (T := TX0) (N := 1) hx hb hts hinX0 tyX0 tyX0_ok nmX0 hown hK.1 hP hD hS 0 rfl rfl 0 (by decide) (hts (.fieldLink RX0 9 "Chamberwright$Graph" "edges" "J") (by decide +kernel)) (fun _ h9 => h9) rfl (by decide +kernel) rfl rfl (Nat.le_of_ble_eq_true rfl) dX0_init_6 (fun H locs hP hD hS => ?_)
  have hP : va_P G.1 vwCl [(g0, .inr (0, [.long 0]))] H := hP
  have hD : va_D A [(g0, .inr (0, [.long 0]))] := hD
  exact wrn (t0 := ()) hx hb hr hlocks hP hD hS (Nat.le_of_ble_eq_true rfl) (Nat.le_of_ble_eq_true rfl) dX0_init_9
set_option maxHeartbeats 4000000 in
set_option maxRecDepth 100000 in
theorem kX1_init {l : Launch} {G : wG} (l0 : Nat) : wCn l G yX1_init wsX1_init ({ frames := 1, cells := 3, slots := 27, locals := 12 } : Room) [.ref l0] [(l0, .inr (1, [.null, .null, .null, .int 0]))] (fun t : Nat × Nat × Nat => w_L G l0 t.1 t.2.1 t.2.2 (fun _ => 0) (fun _ => 0) (fun _ => 0) 0) 3 27 := by
  refine wCn.mk (cc := cX1_init) (maxL := 1) (by decide) rfl (Nat.le_of_ble_eq_true rfl) ?_
  intro p e s m below meth c A ls hx hb hml hr hlocks hts hown hin hK hA hP hD hl
  have hown : s.vm.findClass RX1 = some m.cls := hown
  have hin : meth.name = "<init>" := hin
  have hinX1 : ∀ w ∈ wsX10, w ∈ wsX1_init := by decide +kernel
  have hobj : (Cond.code objectInit ⟨#[0xb1]⟩ 1 none) ∈ wsX1_init := by decide +kernel
  have hS : va_S A s.heap s.heap [] := va_S.rf
  have hP : va_P G.1 vwCl [(l0, .inr (1, [.null, .null, .null, .int 0]))] s.heap := hP
  have hD : va_D A [(l0, .inr (1, [.null, .null, .null, .int 0]))] := hD
  have hl : lv_has ls 1 [(0, .ref l0)] := hl
  obtain ⟨args, hargs⟩ : ∃ z : Array Value, z = ([.ref l0] : List Value).toArray := ⟨_, rfl⟩
  rw [← hargs]
  rw [← hargs] at hts
  refine lv_aload_n hx hb dX1_init_0 rfl (lv_at hl 0 rfl) ?_
  refine W.objInit hx hb hown (hts (.methodLink RX1 3 objectInit) (by decide +kernel)) (hts (.instanceMethod objectInit) (by decide +kernel)) (hts _ hobj) rfl (by rw [hml]; exact hl.1) rfl dX1_init_1 (Nat.le_of_ble_eq_true rfl) (Nat.le_of_ble_eq_true rfl) ?_
  refine W.eq (g2 := F0 m 4 ls []) rfl ?_
  refine lv_aload_n hx hb dX1_init_4 rfl (lv_at hl 0 rfl) ?_
  refine lv_bipush (v := 9) hx hb dX1_init_5 (by decide) ?_
  refine wnewaI (N := 9) hx hb (hts (.arrayClass .int) (by decide +kernel)) hK hP hD hS hA (by decide) (by decide) (Nat.le_of_ble_eq_true rfl) (Nat.le_of_ble_eq_true rfl) (Nat.le_of_ble_eq_true rfl) dX1_init_7 (fun q7 H hP hD hS => ?_)
  have hP : va_P G.1 vwCl [(l0, .inr (1, [.null, .null, .null, .int 0])), (q7, .inl (G.2.1, 9, .inl (fun _ => 0)))] H := hP
  have hD : va_D A [(l0, .inr (1, [.null, .null, .null, .int 0])), (q7, .inl (G.2.1, 9, .inl (fun _ => 0)))] := hD
  refine va_putF (D := G.1) (ci := 1) (v := .ref q7) (ty := .array .int) (C := RX1) (T := TX1) (N := 4) hx hb hts hinX1 tyX1 tyX1_ok nmX1 hown hK.1 hP hD hS 0 rfl rfl 0 (by decide) (hts (.fieldLink RX1 9 "Chamberwright$Lines" "as" "[I") (by decide +kernel)) (fun _ h9 => h9) rfl hin rfl (by decide +kernel) rfl rfl (Nat.le_of_ble_eq_true rfl) dX1_init_9 (fun H locs hP hD hS => ?_)
  have hP : va_P G.1 vwCl [(l0, .inr (1, [.ref q7, .null, .null, .int 0])), (q7, .inl (G.2.1, 9, .inl (fun _ => 0)))] H := hP
  have hD : va_D A [(l0, .inr (1, [.ref q7, .null, .null, .int 0])), (q7, .inl (G.2.1, 9, .inl (fun _ => 0)))] := hD
  refine lv_aload_n hx hb dX1_init_12 rfl (lv_at hl 0 rfl) ?_
  refine lv_bipush (v := 9) hx hb dX1_init_13 (by decide) ?_
  refine wnewaI (N := 9) hx hb (hts (.arrayClass .int) (by decide +kernel)) hK hP hD hS hA (by decide) (by decide) (Nat.le_of_ble_eq_true rfl) (Nat.le_of_ble_eq_true rfl) (Nat.le_of_ble_eq_true rfl) dX1_init_15 (fun q15 H hP hD hS => ?_)
  have hP : va_P G.1 vwCl [(l0, .inr (1, [.ref q7, .null, .null, .int 0])), (q7, .inl (G.2.1, 9, .inl (fun _ => 0))), (q15, .inl (G.2.1, 9, .inl (fun _ => 0)))] H := hP
  have hD : va_D A [(l0, .inr (1, [.ref q7, .null, .null, .int 0])), (q7, .inl (G.2.1, 9, .inl (fun _ => 0))), (q15, .inl (G.2.1, 9, .inl (fun _ => 0)))] := hD
  refine va_putF (D := G.1) (ci := 1) (v := .ref q15) (ty := .array .int) (C := RX1) (T := TX1) (N := 4) hx hb hts hinX1 tyX1 tyX1_ok nmX1 hown hK.1 hP hD hS 0 rfl rfl 1 (by decide) (hts (.fieldLink RX1 15 "Chamberwright$Lines" "bs" "[I") (by decide +kernel)) (fun _ h9 => h9) rfl hin rfl (by decide +kernel) rfl rfl (Nat.le_of_ble_eq_true rfl) dX1_init_17 (fun H locs hP hD hS => ?_)
  have hP : va_P G.1 vwCl [(l0, .inr (1, [.ref q7, .ref q15, .null, .int 0])), (q7, .inl (G.2.1, 9, .inl (fun _ => 0))), (q15, .inl (G.2.1, 9, .inl (fun _ => 0)))] H := hP
  have hD : va_D A [(l0, .inr (1, [.ref q7, .ref q15, .null, .int 0])), (q7, .inl (G.2.1, 9, .inl (fun _ => 0))), (q15, .inl (G.2.1, 9, .inl (fun _ => 0)))] := hD
  refine lv_aload_n hx hb dX1_init_20 rfl (lv_at hl 0 rfl) ?_
  refine lv_bipush (v := 9) hx hb dX1_init_21 (by decide) ?_
  refine wnewaI (N := 9) hx hb (hts (.arrayClass .int) (by decide +kernel)) hK hP hD hS hA (by decide) (by decide) (Nat.le_of_ble_eq_true rfl) (Nat.le_of_ble_eq_true rfl) (Nat.le_of_ble_eq_true rfl) dX1_init_23 (fun q23 H hP hD hS => ?_)
  have hP : va_P G.1 vwCl [(l0, .inr (1, [.ref q7, .ref q15, .null, .int 0])), (q7, .inl (G.2.1, 9, .inl (fun _ => 0))), (q15, .inl (G.2.1, 9, .inl (fun _ => 0))), (q23, .inl (G.2.1, 9, .inl (fun _ => 0)))] H := hP
  have hD : va_D A [(l0, .inr (1, [.ref q7, .ref q15, .null, .int 0])), (q7, .inl (G.2.1, 9, .inl (fun _ => 0))), (q15, .inl (G.2.1, 9, .inl (fun _ => 0))), (q23, .inl (G.2.1, 9, .inl (fun _ => 0)))] := hD
  refine va_putF (D := G.1) (ci := 1) (v := .ref q23) (ty := .array .int) (C := RX1) (T := TX1) (N := 4) hx hb hts hinX1 tyX1 tyX1_ok nmX1 hown hK.1 hP hD hS 0 rfl rfl 2 (by decide) (hts (.fieldLink RX1 18 "Chamberwright$Lines" "cs" "[I") (by decide +kernel)) (fun _ h9 => h9) rfl hin rfl (by decide +kernel) rfl rfl (Nat.le_of_ble_eq_true rfl) dX1_init_25 (fun H locs hP hD hS => ?_)
  have hP : va_P G.1 vwCl [(l0, .inr (1, [.ref q7, .ref q15, .ref q23, .int 0])), (q7, .inl (G.2.1, 9, .inl (fun _ => 0))), (q15, .inl (G.2.1, 9, .inl (fun _ => 0))), (q23, .inl (G.2.1, 9, .inl (fun _ => 0)))] H := hP
  have hD : va_D A [(l0, .inr (1, [.ref q7, .ref q15, .ref q23, .int 0])), (q7, .inl (G.2.1, 9, .inl (fun _ => 0))), (q15, .inl (G.2.1, 9, .inl (fun _ => 0))), (q23, .inl (G.2.1, 9, .inl (fun _ => 0)))] := hD
  refine lv_aload_n hx hb dX1_init_28 rfl (lv_at hl 0 rfl) ?_
  refine lv_iconst (v := 0) hx hb dX1_init_29 (by decide) ?_
  refine va_put (D := G.1) (ci := 1) (v := .int 0) (ty := .int) (C := RX1) (T := TX1) (N := 4) hx hb hts hinX1 tyX1 tyX1_ok nmX1 hown hK.1 hP hD hS 0 rfl rfl 3 (by decide) (hts (.fieldLink RX1 21 "Chamberwright$Lines" "count" "I") (by decide +kernel)) (fun _ h9 => h9) rfl (by decide +kernel) rfl rfl (Nat.le_of_ble_eq_true rfl) dX1_init_30 (fun H locs hP hD hS => ?_)
  have hP : va_P G.1 vwCl [(l0, .inr (1, [.ref q7, .ref q15, .ref q23, .int 0])), (q7, .inl (G.2.1, 9, .inl (fun _ => 0))), (q15, .inl (G.2.1, 9, .inl (fun _ => 0))), (q23, .inl (G.2.1, 9, .inl (fun _ => 0)))] H := hP
  have hD : va_D A [(l0, .inr (1, [.ref q7, .ref q15, .ref q23, .int 0])), (q7, .inl (G.2.1, 9, .inl (fun _ => 0))), (q15, .inl (G.2.1, 9, .inl (fun _ => 0))), (q23, .inl (G.2.1, 9, .inl (fun _ => 0)))] := hD
  exact wrn (t0 := (q7, q15, q23)) hx hb hr hlocks hP hD hS (Nat.le_of_ble_eq_true rfl) (Nat.le_of_ble_eq_true rfl) dX1_init_33
set_option maxHeartbeats 4000000 in
set_option maxRecDepth 100000 in
theorem kX2_init {l : Launch} {G : wG} (m0 : Nat) : wCn l G yX2_init wsX2_init ({ frames := 1, cells := 5, slots := 180, locals := 12 } : Room) [.ref m0] [(m0, .inr (2, [.null, .null, .null, .null, .null, .int 0]))] (fun t : Nat × Nat × Nat × Nat × Nat => w_M G m0 t.1 t.2.1 t.2.2.1 t.2.2.2.1 t.2.2.2.2 (fun _ => 0) (fun _ => 0) (fun _ => 0) (fun _ => 0) (fun _ => 0) 0) 5 180 := by
  refine wCn.mk (cc := cX2_init) (maxL := 1) (by decide) rfl (Nat.le_of_ble_eq_true rfl) ?_
  intro p e s m below meth c A ls hx hb hml hr hlocks hts hown hin hK hA hP hD hl
  have hown : s.vm.findClass RX2 = some m.cls := hown
  have hin : meth.name = "<init>" := hin
  have hinX2 : ∀ w ∈ wsX20, w ∈ wsX2_init := by decide +kernel
  have hobj : (Cond.code objectInit ⟨#[0xb1]⟩ 1 none) ∈ wsX2_init := by decide +kernel
  have hS : va_S A s.heap s.heap [] := va_S.rf
  have hP : va_P G.1 vwCl [(m0, .inr (2, [.null, .null, .null, .null, .null, .int 0]))] s.heap := hP
  have hD : va_D A [(m0, .inr (2, [.null, .null, .null, .null, .null, .int 0]))] := hD
  have hl : lv_has ls 1 [(0, .ref m0)] := hl
  obtain ⟨args, hargs⟩ : ∃ z : Array Value, z = ([.ref m0] : List Value).toArray := ⟨_, rfl⟩
  rw [← hargs]
  rw [← hargs] at hts
  refine lv_aload_n hx hb dX2_init_0 rfl (lv_at hl 0 rfl) ?_
  refine W.objInit hx hb hown (hts (.methodLink RX2 3 objectInit) (by decide +kernel)) (hts (.instanceMethod objectInit) (by decide +kernel)) (hts _ hobj) rfl (by rw [hml]; exact hl.1) rfl dX2_init_1 (Nat.le_of_ble_eq_true rfl) (Nat.le_of_ble_eq_true rfl) ?_
  refine W.eq (g2 := F0 m 4 ls []) rfl ?_
  refine lv_aload_n hx hb dX2_init_4 rfl (lv_at hl 0 rfl) ?_
  refine lv_bipush (v := 36) hx hb dX2_init_5 (by decide) ?_
  refine wnewaI (N := 36) hx hb (hts (.arrayClass .int) (by decide +kernel)) hK hP hD hS hA (by decide) (by decide) (Nat.le_of_ble_eq_true rfl) (Nat.le_of_ble_eq_true rfl) (Nat.le_of_ble_eq_true rfl) dX2_init_7 (fun q7 H hP hD hS => ?_)
  have hP : va_P G.1 vwCl [(m0, .inr (2, [.null, .null, .null, .null, .null, .int 0])), (q7, .inl (G.2.1, 36, .inl (fun _ => 0)))] H := hP
  have hD : va_D A [(m0, .inr (2, [.null, .null, .null, .null, .null, .int 0])), (q7, .inl (G.2.1, 36, .inl (fun _ => 0)))] := hD
  refine va_putF (D := G.1) (ci := 2) (v := .ref q7) (ty := .array .int) (C := RX2) (T := TX2) (N := 6) hx hb hts hinX2 tyX2 tyX2_ok nmX2 hown hK.1 hP hD hS 0 rfl rfl 0 (by decide) (hts (.fieldLink RX2 9 "Chamberwright$Meets" "xs" "[I") (by decide +kernel)) (fun _ h9 => h9) rfl hin rfl (by decide +kernel) rfl rfl (Nat.le_of_ble_eq_true rfl) dX2_init_9 (fun H locs hP hD hS => ?_)
  have hP : va_P G.1 vwCl [(m0, .inr (2, [.ref q7, .null, .null, .null, .null, .int 0])), (q7, .inl (G.2.1, 36, .inl (fun _ => 0)))] H := hP
  have hD : va_D A [(m0, .inr (2, [.ref q7, .null, .null, .null, .null, .int 0])), (q7, .inl (G.2.1, 36, .inl (fun _ => 0)))] := hD
  refine lv_aload_n hx hb dX2_init_12 rfl (lv_at hl 0 rfl) ?_
  refine lv_bipush (v := 36) hx hb dX2_init_13 (by decide) ?_
  refine wnewaI (N := 36) hx hb (hts (.arrayClass .int) (by decide +kernel)) hK hP hD hS hA (by decide) (by decide) (Nat.le_of_ble_eq_true rfl) (Nat.le_of_ble_eq_true rfl) (Nat.le_of_ble_eq_true rfl) dX2_init_15 (fun q15 H hP hD hS => ?_)
  have hP : va_P G.1 vwCl [(m0, .inr (2, [.ref q7, .null, .null, .null, .null, .int 0])), (q7, .inl (G.2.1, 36, .inl (fun _ => 0))), (q15, .inl (G.2.1, 36, .inl (fun _ => 0)))] H := hP
  have hD : va_D A [(m0, .inr (2, [.ref q7, .null, .null, .null, .null, .int 0])), (q7, .inl (G.2.1, 36, .inl (fun _ => 0))), (q15, .inl (G.2.1, 36, .inl (fun _ => 0)))] := hD
  refine va_putF (D := G.1) (ci := 2) (v := .ref q15) (ty := .array .int) (C := RX2) (T := TX2) (N := 6) hx hb hts hinX2 tyX2 tyX2_ok nmX2 hown hK.1 hP hD hS 0 rfl rfl 1 (by decide) (hts (.fieldLink RX2 15 "Chamberwright$Meets" "ys" "[I") (by decide +kernel)) (fun _ h9 => h9) rfl hin rfl (by decide +kernel) rfl rfl (Nat.le_of_ble_eq_true rfl) dX2_init_17 (fun H locs hP hD hS => ?_)
  have hP : va_P G.1 vwCl [(m0, .inr (2, [.ref q7, .ref q15, .null, .null, .null, .int 0])), (q7, .inl (G.2.1, 36, .inl (fun _ => 0))), (q15, .inl (G.2.1, 36, .inl (fun _ => 0)))] H := hP
  have hD : va_D A [(m0, .inr (2, [.ref q7, .ref q15, .null, .null, .null, .int 0])), (q7, .inl (G.2.1, 36, .inl (fun _ => 0))), (q15, .inl (G.2.1, 36, .inl (fun _ => 0)))] := hD
  refine lv_aload_n hx hb dX2_init_20 rfl (lv_at hl 0 rfl) ?_
  refine lv_bipush (v := 36) hx hb dX2_init_21 (by decide) ?_
  refine wnewaI (N := 36) hx hb (hts (.arrayClass .int) (by decide +kernel)) hK hP hD hS hA (by decide) (by decide) (Nat.le_of_ble_eq_true rfl) (Nat.le_of_ble_eq_true rfl) (Nat.le_of_ble_eq_true rfl) dX2_init_23 (fun q23 H hP hD hS => ?_)
  have hP : va_P G.1 vwCl [(m0, .inr (2, [.ref q7, .ref q15, .null, .null, .null, .int 0])), (q7, .inl (G.2.1, 36, .inl (fun _ => 0))), (q15, .inl (G.2.1, 36, .inl (fun _ => 0))), (q23, .inl (G.2.1, 36, .inl (fun _ => 0)))] H := hP
  have hD : va_D A [(m0, .inr (2, [.ref q7, .ref q15, .null, .null, .null, .int 0])), (q7, .inl (G.2.1, 36, .inl (fun _ => 0))), (q15, .inl (G.2.1, 36, .inl (fun _ => 0))), (q23, .inl (G.2.1, 36, .inl (fun _ => 0)))] := hD
  refine va_putF (D := G.1) (ci := 2) (v := .ref q23) (ty := .array .int) (C := RX2) (T := TX2) (N := 6) hx hb hts hinX2 tyX2 tyX2_ok nmX2 hown hK.1 hP hD hS 0 rfl rfl 2 (by decide) (hts (.fieldLink RX2 18 "Chamberwright$Meets" "ds" "[I") (by decide +kernel)) (fun _ h9 => h9) rfl hin rfl (by decide +kernel) rfl rfl (Nat.le_of_ble_eq_true rfl) dX2_init_25 (fun H locs hP hD hS => ?_)
  have hP : va_P G.1 vwCl [(m0, .inr (2, [.ref q7, .ref q15, .ref q23, .null, .null, .int 0])), (q7, .inl (G.2.1, 36, .inl (fun _ => 0))), (q15, .inl (G.2.1, 36, .inl (fun _ => 0))), (q23, .inl (G.2.1, 36, .inl (fun _ => 0)))] H := hP
  have hD : va_D A [(m0, .inr (2, [.ref q7, .ref q15, .ref q23, .null, .null, .int 0])), (q7, .inl (G.2.1, 36, .inl (fun _ => 0))), (q15, .inl (G.2.1, 36, .inl (fun _ => 0))), (q23, .inl (G.2.1, 36, .inl (fun _ => 0)))] := hD
  refine lv_aload_n hx hb dX2_init_28 rfl (lv_at hl 0 rfl) ?_
  refine lv_bipush (v := 36) hx hb dX2_init_29 (by decide) ?_
  refine wnewaI (N := 36) hx hb (hts (.arrayClass .int) (by decide +kernel)) hK hP hD hS hA (by decide) (by decide) (Nat.le_of_ble_eq_true rfl) (Nat.le_of_ble_eq_true rfl) (Nat.le_of_ble_eq_true rfl) dX2_init_31 (fun q31 H hP hD hS => ?_)
  have hP : va_P G.1 vwCl [(m0, .inr (2, [.ref q7, .ref q15, .ref q23, .null, .null, .int 0])), (q7, .inl (G.2.1, 36, .inl (fun _ => 0))), (q15, .inl (G.2.1, 36, .inl (fun _ => 0))), (q23, .inl (G.2.1, 36, .inl (fun _ => 0))), (q31, .inl (G.2.1, 36, .inl (fun _ => 0)))] H := hP
  have hD : va_D A [(m0, .inr (2, [.ref q7, .ref q15, .ref q23, .null, .null, .int 0])), (q7, .inl (G.2.1, 36, .inl (fun _ => 0))), (q15, .inl (G.2.1, 36, .inl (fun _ => 0))), (q23, .inl (G.2.1, 36, .inl (fun _ => 0))), (q31, .inl (G.2.1, 36, .inl (fun _ => 0)))] := hD
  refine va_putF (D := G.1) (ci := 2) (v := .ref q31) (ty := .array .int) (C := RX2) (T := TX2) (N := 6) hx hb hts hinX2 tyX2 tyX2_ok nmX2 hown hK.1 hP hD hS 0 rfl rfl 3 (by decide) (hts (.fieldLink RX2 21 "Chamberwright$Meets" "through" "[I") (by decide +kernel)) (fun _ h9 => h9) rfl hin rfl (by decide +kernel) rfl rfl (Nat.le_of_ble_eq_true rfl) dX2_init_33 (fun H locs hP hD hS => ?_)
  have hP : va_P G.1 vwCl [(m0, .inr (2, [.ref q7, .ref q15, .ref q23, .ref q31, .null, .int 0])), (q7, .inl (G.2.1, 36, .inl (fun _ => 0))), (q15, .inl (G.2.1, 36, .inl (fun _ => 0))), (q23, .inl (G.2.1, 36, .inl (fun _ => 0))), (q31, .inl (G.2.1, 36, .inl (fun _ => 0)))] H := hP
  have hD : va_D A [(m0, .inr (2, [.ref q7, .ref q15, .ref q23, .ref q31, .null, .int 0])), (q7, .inl (G.2.1, 36, .inl (fun _ => 0))), (q15, .inl (G.2.1, 36, .inl (fun _ => 0))), (q23, .inl (G.2.1, 36, .inl (fun _ => 0))), (q31, .inl (G.2.1, 36, .inl (fun _ => 0)))] := hD
  refine lv_aload_n hx hb dX2_init_36 rfl (lv_at hl 0 rfl) ?_
  refine lv_bipush (v := 36) hx hb dX2_init_37 (by decide) ?_
  refine wnewaI (N := 36) hx hb (hts (.arrayClass .int) (by decide +kernel)) hK hP hD hS hA (by decide) (by decide) (Nat.le_of_ble_eq_true rfl) (Nat.le_of_ble_eq_true rfl) (Nat.le_of_ble_eq_true rfl) dX2_init_39 (fun q39 H hP hD hS => ?_)
  have hP : va_P G.1 vwCl [(m0, .inr (2, [.ref q7, .ref q15, .ref q23, .ref q31, .null, .int 0])), (q7, .inl (G.2.1, 36, .inl (fun _ => 0))), (q15, .inl (G.2.1, 36, .inl (fun _ => 0))), (q23, .inl (G.2.1, 36, .inl (fun _ => 0))), (q31, .inl (G.2.1, 36, .inl (fun _ => 0))), (q39, .inl (G.2.1, 36, .inl (fun _ => 0)))] H := hP
  have hD : va_D A [(m0, .inr (2, [.ref q7, .ref q15, .ref q23, .ref q31, .null, .int 0])), (q7, .inl (G.2.1, 36, .inl (fun _ => 0))), (q15, .inl (G.2.1, 36, .inl (fun _ => 0))), (q23, .inl (G.2.1, 36, .inl (fun _ => 0))), (q31, .inl (G.2.1, 36, .inl (fun _ => 0))), (q39, .inl (G.2.1, 36, .inl (fun _ => 0)))] := hD
  refine va_putF (D := G.1) (ci := 2) (v := .ref q39) (ty := .array .int) (C := RX2) (T := TX2) (N := 6) hx hb hts hinX2 tyX2 tyX2_ok nmX2 hown hK.1 hP hD hS 0 rfl rfl 4 (by decide) (hts (.fieldLink RX2 24 "Chamberwright$Meets" "above" "[I") (by decide +kernel)) (fun _ h9 => h9) rfl hin rfl (by decide +kernel) rfl rfl (Nat.le_of_ble_eq_true rfl) dX2_init_41 (fun H locs hP hD hS => ?_)
  have hP : va_P G.1 vwCl [(m0, .inr (2, [.ref q7, .ref q15, .ref q23, .ref q31, .ref q39, .int 0])), (q7, .inl (G.2.1, 36, .inl (fun _ => 0))), (q15, .inl (G.2.1, 36, .inl (fun _ => 0))), (q23, .inl (G.2.1, 36, .inl (fun _ => 0))), (q31, .inl (G.2.1, 36, .inl (fun _ => 0))), (q39, .inl (G.2.1, 36, .inl (fun _ => 0)))] H := hP
  have hD : va_D A [(m0, .inr (2, [.ref q7, .ref q15, .ref q23, .ref q31, .ref q39, .int 0])), (q7, .inl (G.2.1, 36, .inl (fun _ => 0))), (q15, .inl (G.2.1, 36, .inl (fun _ => 0))), (q23, .inl (G.2.1, 36, .inl (fun _ => 0))), (q31, .inl (G.2.1, 36, .inl (fun _ => 0))), (q39, .inl (G.2.1, 36, .inl (fun _ => 0)))] := hD
  refine lv_aload_n hx hb dX2_init_44 rfl (lv_at hl 0 rfl) ?_
  refine lv_iconst (v := 0) hx hb dX2_init_45 (by decide) ?_
  refine va_put (D := G.1) (ci := 2) (v := .int 0) (ty := .int) (C := RX2) (T := TX2) (N := 6) hx hb hts hinX2 tyX2 tyX2_ok nmX2 hown hK.1 hP hD hS 0 rfl rfl 5 (by decide) (hts (.fieldLink RX2 27 "Chamberwright$Meets" "count" "I") (by decide +kernel)) (fun _ h9 => h9) rfl (by decide +kernel) rfl rfl (Nat.le_of_ble_eq_true rfl) dX2_init_46 (fun H locs hP hD hS => ?_)
  have hP : va_P G.1 vwCl [(m0, .inr (2, [.ref q7, .ref q15, .ref q23, .ref q31, .ref q39, .int 0])), (q7, .inl (G.2.1, 36, .inl (fun _ => 0))), (q15, .inl (G.2.1, 36, .inl (fun _ => 0))), (q23, .inl (G.2.1, 36, .inl (fun _ => 0))), (q31, .inl (G.2.1, 36, .inl (fun _ => 0))), (q39, .inl (G.2.1, 36, .inl (fun _ => 0)))] H := hP
  have hD : va_D A [(m0, .inr (2, [.ref q7, .ref q15, .ref q23, .ref q31, .ref q39, .int 0])), (q7, .inl (G.2.1, 36, .inl (fun _ => 0))), (q15, .inl (G.2.1, 36, .inl (fun _ => 0))), (q23, .inl (G.2.1, 36, .inl (fun _ => 0))), (q31, .inl (G.2.1, 36, .inl (fun _ => 0))), (q39, .inl (G.2.1, 36, .inl (fun _ => 0)))] := hD
  exact wrn (t0 := (q7, q15, q23, q31, q39)) hx hb hr hlocks hP hD hS (Nat.le_of_ble_eq_true rfl) (Nat.le_of_ble_eq_true rfl) dX2_init_49
set_option maxHeartbeats 4000000 in
set_option maxRecDepth 100000 in
theorem kX3_init {l : Launch} {G : wG} (r0 : Nat) : wCn l G yX3_init wsX3_init ({ frames := 1, cells := 3, slots := 1070, locals := 12 } : Room) [.ref r0] [(r0, .inr (3, [.null, .null, .null, .int 0]))] (fun t : Nat × Nat × Nat => w_R G r0 t.1 t.2.1 t.2.2 (fun _ => 0) (rInit (fun _ => 0) 511) (fun _ => 0) 1) 3 1070 := by
  refine wCn.mk (cc := cX3_init) (maxL := 2) (by decide) rfl (Nat.le_of_ble_eq_true rfl) ?_
  intro p e s m below meth c A ls hx hb hml hr hlocks hts hown hin hK hA hP hD hl
  have hown : s.vm.findClass RX3 = some m.cls := hown
  have hin : meth.name = "<init>" := hin
  have hinX3 : ∀ w ∈ wsX30, w ∈ wsX3_init := by decide +kernel
  have hobj : (Cond.code objectInit ⟨#[0xb1]⟩ 1 none) ∈ wsX3_init := by decide +kernel
  have hS : va_S A s.heap s.heap [] := va_S.rf
  have hP : va_P G.1 vwCl [(r0, .inr (3, [.null, .null, .null, .int 0]))] s.heap := hP
  have hD : va_D A [(r0, .inr (3, [.null, .null, .null, .int 0]))] := hD
  have hl : lv_has ls 2 [(0, .ref r0)] := hl
  obtain ⟨args, hargs⟩ : ∃ z : Array Value, z = ([.ref r0] : List Value).toArray := ⟨_, rfl⟩
  rw [← hargs]
  rw [← hargs] at hts
  refine lv_aload_n hx hb dX3_init_0 rfl (lv_at hl 0 rfl) ?_
  refine W.objInit hx hb hown (hts (.methodLink RX3 3 objectInit) (by decide +kernel)) (hts (.instanceMethod objectInit) (by decide +kernel)) (hts _ hobj) rfl (by rw [hml]; exact hl.1) rfl dX3_init_1 (Nat.le_of_ble_eq_true rfl) (Nat.le_of_ble_eq_true rfl) ?_
  refine W.eq (g2 := F0 m 4 ls []) rfl ?_
  refine lv_aload_n hx hb dX3_init_4 rfl (lv_at hl 0 rfl) ?_
  refine lv_bipush (v := 46) hx hb dX3_init_5 (by decide) ?_
  refine wnewaI (N := 46) hx hb (hts (.arrayClass .int) (by decide +kernel)) hK hP hD hS hA (by decide) (by decide) (Nat.le_of_ble_eq_true rfl) (Nat.le_of_ble_eq_true rfl) (Nat.le_of_ble_eq_true rfl) dX3_init_7 (fun q7 H hP hD hS => ?_)
  have hP : va_P G.1 vwCl [(r0, .inr (3, [.null, .null, .null, .int 0])), (q7, .inl (G.2.1, 46, .inl (fun _ => 0)))] H := hP
  have hD : va_D A [(r0, .inr (3, [.null, .null, .null, .int 0])), (q7, .inl (G.2.1, 46, .inl (fun _ => 0)))] := hD
  refine va_putF (D := G.1) (ci := 3) (v := .ref q7) (ty := .array .int) (C := RX3) (T := TX3) (N := 4) hx hb hts hinX3 tyX3 tyX3_ok nmX3 hown hK.1 hP hD hS 0 rfl rfl 0 (by decide) (hts (.fieldLink RX3 9 "Chamberwright$Rooms" "sets" "[I") (by decide +kernel)) (fun _ h9 => h9) rfl hin rfl (by decide +kernel) rfl rfl (Nat.le_of_ble_eq_true rfl) dX3_init_9 (fun H locs hP hD hS => ?_)
  have hP : va_P G.1 vwCl [(r0, .inr (3, [.ref q7, .null, .null, .int 0])), (q7, .inl (G.2.1, 46, .inl (fun _ => 0)))] H := hP
  have hD : va_D A [(r0, .inr (3, [.ref q7, .null, .null, .int 0])), (q7, .inl (G.2.1, 46, .inl (fun _ => 0)))] := hD
  refine lv_aload_n hx hb dX3_init_12 rfl (lv_at hl 0 rfl) ?_
  refine lv_sipush (v := 512) hx hb dX3_init_13 (by decide) ?_
  refine wnewaI (N := 512) hx hb (hts (.arrayClass .int) (by decide +kernel)) hK hP hD hS hA (by decide) (by decide) (Nat.le_of_ble_eq_true rfl) (Nat.le_of_ble_eq_true rfl) (Nat.le_of_ble_eq_true rfl) dX3_init_16 (fun q16 H hP hD hS => ?_)
  have hP : va_P G.1 vwCl [(r0, .inr (3, [.ref q7, .null, .null, .int 0])), (q7, .inl (G.2.1, 46, .inl (fun _ => 0))), (q16, .inl (G.2.1, 512, .inl (fun _ => 0)))] H := hP
  have hD : va_D A [(r0, .inr (3, [.ref q7, .null, .null, .int 0])), (q7, .inl (G.2.1, 46, .inl (fun _ => 0))), (q16, .inl (G.2.1, 512, .inl (fun _ => 0)))] := hD
  refine va_putF (D := G.1) (ci := 3) (v := .ref q16) (ty := .array .int) (C := RX3) (T := TX3) (N := 4) hx hb hts hinX3 tyX3 tyX3_ok nmX3 hown hK.1 hP hD hS 0 rfl rfl 1 (by decide) (hts (.fieldLink RX3 15 "Chamberwright$Rooms" "numbers" "[I") (by decide +kernel)) (fun _ h9 => h9) rfl hin rfl (by decide +kernel) rfl rfl (Nat.le_of_ble_eq_true rfl) dX3_init_18 (fun H locs hP hD hS => ?_)
  have hP : va_P G.1 vwCl [(r0, .inr (3, [.ref q7, .ref q16, .null, .int 0])), (q7, .inl (G.2.1, 46, .inl (fun _ => 0))), (q16, .inl (G.2.1, 512, .inl (fun _ => 0)))] H := hP
  have hD : va_D A [(r0, .inr (3, [.ref q7, .ref q16, .null, .int 0])), (q7, .inl (G.2.1, 46, .inl (fun _ => 0))), (q16, .inl (G.2.1, 512, .inl (fun _ => 0)))] := hD
  refine lv_aload_n hx hb dX3_init_21 rfl (lv_at hl 0 rfl) ?_
  refine lv_sipush (v := 512) hx hb dX3_init_22 (by decide) ?_
  refine wnewaI (N := 512) hx hb (hts (.arrayClass .int) (by decide +kernel)) hK hP hD hS hA (by decide) (by decide) (Nat.le_of_ble_eq_true rfl) (Nat.le_of_ble_eq_true rfl) (Nat.le_of_ble_eq_true rfl) dX3_init_25 (fun q25 H hP hD hS => ?_)
  have hP : va_P G.1 vwCl [(r0, .inr (3, [.ref q7, .ref q16, .null, .int 0])), (q7, .inl (G.2.1, 46, .inl (fun _ => 0))), (q16, .inl (G.2.1, 512, .inl (fun _ => 0))), (q25, .inl (G.2.1, 512, .inl (fun _ => 0)))] H := hP
  have hD : va_D A [(r0, .inr (3, [.ref q7, .ref q16, .null, .int 0])), (q7, .inl (G.2.1, 46, .inl (fun _ => 0))), (q16, .inl (G.2.1, 512, .inl (fun _ => 0))), (q25, .inl (G.2.1, 512, .inl (fun _ => 0)))] := hD
  refine va_putF (D := G.1) (ci := 3) (v := .ref q25) (ty := .array .int) (C := RX3) (T := TX3) (N := 4) hx hb hts hinX3 tyX3 tyX3_ok nmX3 hown hK.1 hP hD hS 0 rfl rfl 2 (by decide) (hts (.fieldLink RX3 18 "Chamberwright$Rooms" "ways" "[I") (by decide +kernel)) (fun _ h9 => h9) rfl hin rfl (by decide +kernel) rfl rfl (Nat.le_of_ble_eq_true rfl) dX3_init_27 (fun H locs hP hD hS => ?_)
  have hP : va_P G.1 vwCl [(r0, .inr (3, [.ref q7, .ref q16, .ref q25, .int 0])), (q7, .inl (G.2.1, 46, .inl (fun _ => 0))), (q16, .inl (G.2.1, 512, .inl (fun _ => 0))), (q25, .inl (G.2.1, 512, .inl (fun _ => 0)))] H := hP
  have hD : va_D A [(r0, .inr (3, [.ref q7, .ref q16, .ref q25, .int 0])), (q7, .inl (G.2.1, 46, .inl (fun _ => 0))), (q16, .inl (G.2.1, 512, .inl (fun _ => 0))), (q25, .inl (G.2.1, 512, .inl (fun _ => 0)))] := hD
  refine lv_iconst (v := 1) hx hb dX3_init_30 (by decide) ?_
  refine lv_istore_n (lv' := [(1, .int 1), (0, .ref r0)]) hx hb dX3_init_31 rfl hl (by decide) rfl (fun ls hl => ?_)
  have loop : ∀ (n k : Nat) (x1 : Int32), k + n = 511 → x1 = nI (k + 1) → ∀ (H : Heap) (locs : List Loc) (ls : Array Slot), va_P G.1 vwCl [(r0, .inr (3, [.ref q7, .ref q16, .ref q25, .int 0])), (q7, .inl (G.2.1, 46, .inl (fun _ => 0))), (q16, .inl (G.2.1, 512, .inl (rInit (fun _ => 0) k))), (q25, .inl (G.2.1, 512, .inl (fun _ => 0)))] H → va_D A [(r0, .inr (3, [.ref q7, .ref q16, .ref q25, .int 0])), (q7, .inl (G.2.1, 46, .inl (fun _ => 0))), (q16, .inl (G.2.1, 512, .inl (rInit (fun _ => 0) k))), (q25, .inl (G.2.1, 512, .inl (fun _ => 0)))] → va_S A s.heap H locs → lv_has ls 2 [(0, .ref r0), (1, .int x1)] → W p l e ({ frames := 1, cells := 3, slots := 1070, locals := 12 } : Room) s m args below meth c H locs 3 1070 (wQn G A below args s (fun t : Nat × Nat × Nat => w_R G r0 t.1 t.2.1 t.2.2 (fun _ => 0) (rInit (fun _ => 0) 511) (fun _ => 0) 1) 3 1070) (F0 m 32 ls []) := by
    intro n
    induction n with
    | zero =>
      intro k x1 hk hx1 H locs ls hP hD hS hl
      obtain rfl : k = 511 := by omega
      subst hx1
      refine lv_iload_n hx hb dX3_init_32 rfl (lv_at hl 1 rfl) ?_
      refine lv_sipush (v := 512) hx hb dX3_init_33 (by decide) ?_
      refine lv_icmp_ge (tgt := 52) hx hb dX3_init_36 (by decide) (fun c_1 => ?_) (fun c_1 => absurd (by decide) c_1)
      refine lv_aload_n hx hb dX3_init_52 rfl (lv_at hl 0 rfl) ?_
      refine lv_iconst (v := 1) hx hb dX3_init_53 (by decide) ?_
      refine va_put (D := G.1) (ci := 3) (v := .int 1) (ty := .int) (C := RX3) (T := TX3) (N := 4) hx hb hts hinX3 tyX3 tyX3_ok nmX3 hown hK.1 hP hD hS 0 rfl rfl 3 (by decide) (hts (.fieldLink RX3 21 "Chamberwright$Rooms" "count" "I") (by decide +kernel)) (fun _ h9 => h9) rfl (by decide +kernel) rfl rfl (Nat.le_of_ble_eq_true rfl) dX3_init_54 (fun H locs hP hD hS => ?_)
      exact wrn (t0 := (q7, q16, q25)) hx hb hr hlocks hP hD hS (Nat.le_refl _) (Nat.le_refl _) dX3_init_57
    | succ n ih =>
      intro k x1 hk hx1 H locs ls hP hD hS hl
      subst hx1
      refine lv_iload_n hx hb dX3_init_32 rfl (lv_at hl 1 rfl) ?_
      refine lv_sipush (v := 512) hx hb dX3_init_33 (by decide) ?_
      refine lv_icmp_ge (tgt := 52) hx hb dX3_init_36 (by decide) (fun c_1 => absurd c_1 (nI_ge (a := k + 1) (b := 512) (by omega) (by omega))) (fun c_1 => ?_)
      refine lv_aload_n hx hb dX3_init_39 rfl (lv_at hl 0 rfl) ?_
      refine va_get (D := G.1) (ci := 3) (v := .ref q16) (C := RX3) (T := TX3) (N := 4) hx hb hts hinX3 hown hK.1 hP 0 rfl rfl 1 (by decide) (hts (.fieldLink RX3 15 "Chamberwright$Rooms" "numbers" "[I") (by decide +kernel)) (fun _ h9 => h9) rfl dX3_init_40 ?_
      refine lv_iload_n hx hb dX3_init_43 rfl (lv_at hl 1 rfl) ?_
      refine lv_iconst (v := (-1)) hx hb dX3_init_44 (by decide) ?_
      refine va_iast hx hb hK.1 hP hD hS 2 0 rfl rfl (vp_in_nI (n := k + 1) (N := 512) (by omega) (by omega)) dX3_init_45 (fun H locs hP hD hS => ?_)
      refine lv_iinc (v := nI (k + 1 + 1)) (lv' := [(1, .int (nI (k + 1 + 1))), (0, .ref r0)]) hx hb dX3_init_46 hl (k := 1) rfl (nI_1 (k + 1)) (by decide) rfl (fun ls hl => ?_)
      refine lv_goto (tgt := 32) hx hb dX3_init_49 (by decide) ?_
      rw [nI_clamp (n := k + 1) (by omega)] at hP hD
      exact ih (k + 1) _ (by omega) rfl _ _ _ hP hD hS (lv_sub hl [1, 0] rfl)
  exact loop 511 0 _ rfl rfl _ _ _ hP hD hS (lv_sub hl [1, 0] rfl)
set_option maxHeartbeats 4000000 in
set_option maxRecDepth 100000 in
theorem kX4_init {l : Launch} {G : wG} (c0 : Nat) : wCn l G yX4_init wsX4_init ({ frames := 2, cells := 15, slots := 1292, locals := 40 } : Room) [.ref c0] [(c0, .inr (4, [.null, .null, .null, .null]))] (fun t : Nat × Nat × Nat × Nat × Nat × Nat × Nat × Nat × Nat × Nat × Nat × Nat × Nat × Nat × Nat => w_C G c0 t.1 t.2.1 t.2.2.1 t.2.2.2.1 t.2.2.2.2.1 t.2.2.2.2.2.1 t.2.2.2.2.2.2.1 t.2.2.2.2.2.2.2.1 t.2.2.2.2.2.2.2.2.1 t.2.2.2.2.2.2.2.2.2.1 t.2.2.2.2.2.2.2.2.2.2.1 t.2.2.2.2.2.2.2.2.2.2.2.1 t.2.2.2.2.2.2.2.2.2.2.2.2.1 t.2.2.2.2.2.2.2.2.2.2.2.2.2.1 t.2.2.2.2.2.2.2.2.2.2.2.2.2.2 0 (fun _ => 0) (fun _ => 0) (fun _ => 0) 0 (fun _ => 0) (fun _ => 0) (fun _ => 0) (fun _ => 0) (fun _ => 0) 0 (fun _ => 0) (rInit (fun _ => 0) 511) (fun _ => 0) 1) 15 1292 := by
  refine wCn.mk (cc := cX4_init) (maxL := 1) (by decide) rfl (Nat.le_of_ble_eq_true rfl) ?_
  intro p e s m below meth c A ls hx hb hml hr hlocks hts hown hin hK hA hP hD hl
  have hown : s.vm.findClass RX4 = some m.cls := hown
  have hin : meth.name = "<init>" := hin
  have hinX4 : ∀ w ∈ wsX40, w ∈ wsX4_init := by decide +kernel
  have hobj : (Cond.code objectInit ⟨#[0xb1]⟩ 1 none) ∈ wsX4_init := by decide +kernel
  have hS : va_S A s.heap s.heap [] := va_S.rf
  have hP : va_P G.1 vwCl [(c0, .inr (4, [.null, .null, .null, .null]))] s.heap := hP
  have hD : va_D A [(c0, .inr (4, [.null, .null, .null, .null]))] := hD
  have hl : lv_has ls 1 [(0, .ref c0)] := hl
  obtain ⟨args, hargs⟩ : ∃ z : Array Value, z = ([.ref c0] : List Value).toArray := ⟨_, rfl⟩
  rw [← hargs]
  rw [← hargs] at hts
  refine lv_aload_n hx hb dX4_init_0 rfl (lv_at hl 0 rfl) ?_
  refine W.objInit hx hb hown (hts (.methodLink RX4 1 objectInit) (by decide +kernel)) (hts (.instanceMethod objectInit) (by decide +kernel)) (hts _ hobj) rfl (by rw [hml]; exact hl.1) rfl dX4_init_1 (Nat.le_of_ble_eq_true rfl) (Nat.le_of_ble_eq_true rfl) ?_
  refine W.eq (g2 := F0 m 4 ls []) rfl ?_
  refine lv_aload_n hx hb dX4_init_4 rfl (lv_at hl 0 rfl) ?_
  refine va_new (ci := 1) (fs := [.null, .null, .null, .int 0]) (C := RX1) (T := TX1) (N := 4) hx hb hts (by decide +kernel) tyX1 tyX1_ok hown (hts (.classLink RX4 7 RX1) (by decide +kernel)) (hts (.instantiable RX1 4) (by decide +kernel)) (hts (.initialized RX1) (by decide +kernel)) hK.1 hP hD hS hA rfl (fun j hj => by rcases (show j = 0 ∨ j = 1 ∨ j = 2 ∨ j = 3 by omega) with rfl | rfl | rfl | rfl <;> rfl) (Nat.le_of_ble_eq_true rfl) (Nat.le_of_ble_eq_true rfl) dX4_init_5 (fun q5 H hP hD hS => ?_)
  have hP : va_P G.1 vwCl [(c0, .inr (4, [.null, .null, .null, .null])), (q5, .inr (1, [.null, .null, .null, .int 0]))] H := hP
  have hD : va_D A [(c0, .inr (4, [.null, .null, .null, .null])), (q5, .inr (1, [.null, .null, .null, .int 0]))] := hD
  refine lv_dup hx hb dX4_init_8 rfl ?_
  refine wafter_n (wr := [(c0, .inr (4, [.null, .null, .null, .null]))]) (va_runI (As := []) (rest := [.ref q5, .ref c0]) ⟨hx, hb, hml, hown, hts⟩ (kX1_init (l := l) (G := G) q5 _) (cwI 0 hts gX4_init_X1_init rfl rfl rfl (hts (.initialized RX1) (by decide +kernel)) (hts (.methodLink RX4 9 yX1_init) (by decide +kernel)) (hts (.instanceMethod yX1_init) (by decide +kernel)) rfl (by decide +kernel) ⟨(Nat.le_of_ble_eq_true rfl), (Nat.le_of_ble_eq_true rfl)⟩) (wPreS hP hD hK [1] rfl rfl) rfl rfl hl.1 rfl (lv_room (Nat.le_of_ble_eq_true rfl)) dX4_init_9 ⟨(Nat.le_of_ble_eq_true rfl), (Nat.le_of_ble_eq_true rfl)⟩) hP hD hS hA [1] [0] rfl rfl rfl (by decide) (fun t9 H locs hP hD hS => ?_)
  have hP : va_P G.1 vwCl [(c0, .inr (4, [.null, .null, .null, .null])), (q5, .inr (1, [.ref t9.1, .ref t9.2.1, .ref t9.2.2, .int 0])), (t9.1, .inl (G.2.1, 9, .inl (fun _ => 0))), (t9.2.1, .inl (G.2.1, 9, .inl (fun _ => 0))), (t9.2.2, .inl (G.2.1, 9, .inl (fun _ => 0)))] H := hP
  have hD : va_D A [(c0, .inr (4, [.null, .null, .null, .null])), (q5, .inr (1, [.ref t9.1, .ref t9.2.1, .ref t9.2.2, .int 0])), (t9.1, .inl (G.2.1, 9, .inl (fun _ => 0))), (t9.2.1, .inl (G.2.1, 9, .inl (fun _ => 0))), (t9.2.2, .inl (G.2.1, 9, .inl (fun _ => 0)))] := hD
  refine va_putF (D := G.1) (ci := 4) (v := .ref q5) (ty := .object "Chamberwright$Lines") (C := RX4) (T := TX4) (N := 4) hx hb hts hinX4 tyX4 tyX4_ok nmX4 hown hK.1 hP hD hS 0 rfl rfl 0 (by decide) (hts (.fieldLink RX4 10 "Chamberwright" "lines" "LChamberwright$Lines;") (by decide +kernel)) (fun _ h9 => h9) rfl hin rfl (by decide +kernel) rfl rfl (Nat.le_of_ble_eq_true rfl) dX4_init_12 (fun H locs hP hD hS => ?_)
  have hP : va_P G.1 vwCl [(c0, .inr (4, [.ref q5, .null, .null, .null])), (q5, .inr (1, [.ref t9.1, .ref t9.2.1, .ref t9.2.2, .int 0])), (t9.1, .inl (G.2.1, 9, .inl (fun _ => 0))), (t9.2.1, .inl (G.2.1, 9, .inl (fun _ => 0))), (t9.2.2, .inl (G.2.1, 9, .inl (fun _ => 0)))] H := hP
  have hD : va_D A [(c0, .inr (4, [.ref q5, .null, .null, .null])), (q5, .inr (1, [.ref t9.1, .ref t9.2.1, .ref t9.2.2, .int 0])), (t9.1, .inl (G.2.1, 9, .inl (fun _ => 0))), (t9.2.1, .inl (G.2.1, 9, .inl (fun _ => 0))), (t9.2.2, .inl (G.2.1, 9, .inl (fun _ => 0)))] := hD
  refine lv_aload_n hx hb dX4_init_15 rfl (lv_at hl 0 rfl) ?_
  refine va_new (ci := 2) (fs := [.null, .null, .null, .null, .null, .int 0]) (C := RX2) (T := TX2) (N := 6) hx hb hts (by decide +kernel) tyX2 tyX2_ok hown (hts (.classLink RX4 16 RX2) (by decide +kernel)) (hts (.instantiable RX2 6) (by decide +kernel)) (hts (.initialized RX2) (by decide +kernel)) hK.1 hP hD hS hA rfl (fun j hj => by rcases (show j = 0 ∨ j = 1 ∨ j = 2 ∨ j = 3 ∨ j = 4 ∨ j = 5 by omega) with rfl | rfl | rfl | rfl | rfl | rfl <;> rfl) (Nat.le_of_ble_eq_true rfl) (Nat.le_of_ble_eq_true rfl) dX4_init_16 (fun q16 H hP hD hS => ?_)
  have hP : va_P G.1 vwCl [(c0, .inr (4, [.ref q5, .null, .null, .null])), (q5, .inr (1, [.ref t9.1, .ref t9.2.1, .ref t9.2.2, .int 0])), (t9.1, .inl (G.2.1, 9, .inl (fun _ => 0))), (t9.2.1, .inl (G.2.1, 9, .inl (fun _ => 0))), (t9.2.2, .inl (G.2.1, 9, .inl (fun _ => 0))), (q16, .inr (2, [.null, .null, .null, .null, .null, .int 0]))] H := hP
  have hD : va_D A [(c0, .inr (4, [.ref q5, .null, .null, .null])), (q5, .inr (1, [.ref t9.1, .ref t9.2.1, .ref t9.2.2, .int 0])), (t9.1, .inl (G.2.1, 9, .inl (fun _ => 0))), (t9.2.1, .inl (G.2.1, 9, .inl (fun _ => 0))), (t9.2.2, .inl (G.2.1, 9, .inl (fun _ => 0))), (q16, .inr (2, [.null, .null, .null, .null, .null, .int 0]))] := hD
  refine lv_dup hx hb dX4_init_19 rfl ?_
  refine wafter_n (wr := [(c0, .inr (4, [.ref q5, .null, .null, .null])), (q5, .inr (1, [.ref t9.1, .ref t9.2.1, .ref t9.2.2, .int 0])), (t9.1, .inl (G.2.1, 9, .inl (fun _ => 0))), (t9.2.1, .inl (G.2.1, 9, .inl (fun _ => 0))), (t9.2.2, .inl (G.2.1, 9, .inl (fun _ => 0)))]) (va_runI (As := []) (rest := [.ref q16, .ref c0]) ⟨hx, hb, hml, hown, hts⟩ (kX2_init (l := l) (G := G) q16 _) (cwI 0 hts gX4_init_X2_init rfl rfl rfl (hts (.initialized RX2) (by decide +kernel)) (hts (.methodLink RX4 18 yX2_init) (by decide +kernel)) (hts (.instanceMethod yX2_init) (by decide +kernel)) rfl (by decide +kernel) ⟨(Nat.le_of_ble_eq_true rfl), (Nat.le_of_ble_eq_true rfl)⟩) (wPreS hP hD hK [5] rfl rfl) rfl rfl hl.1 rfl (lv_room (Nat.le_of_ble_eq_true rfl)) dX4_init_20 ⟨(Nat.le_of_ble_eq_true rfl), (Nat.le_of_ble_eq_true rfl)⟩) hP hD hS hA [5] [0, 1, 2, 3, 4] rfl rfl rfl (by decide) (fun t20 H locs hP hD hS => ?_)
  have hP : va_P G.1 vwCl [(c0, .inr (4, [.ref q5, .null, .null, .null])), (q5, .inr (1, [.ref t9.1, .ref t9.2.1, .ref t9.2.2, .int 0])), (t9.1, .inl (G.2.1, 9, .inl (fun _ => 0))), (t9.2.1, .inl (G.2.1, 9, .inl (fun _ => 0))), (t9.2.2, .inl (G.2.1, 9, .inl (fun _ => 0))), (q16, .inr (2, [.ref t20.1, .ref t20.2.1, .ref t20.2.2.1, .ref t20.2.2.2.1, .ref t20.2.2.2.2, .int 0])), (t20.1, .inl (G.2.1, 36, .inl (fun _ => 0))), (t20.2.1, .inl (G.2.1, 36, .inl (fun _ => 0))), (t20.2.2.1, .inl (G.2.1, 36, .inl (fun _ => 0))), (t20.2.2.2.1, .inl (G.2.1, 36, .inl (fun _ => 0))), (t20.2.2.2.2, .inl (G.2.1, 36, .inl (fun _ => 0)))] H := hP
  have hD : va_D A [(c0, .inr (4, [.ref q5, .null, .null, .null])), (q5, .inr (1, [.ref t9.1, .ref t9.2.1, .ref t9.2.2, .int 0])), (t9.1, .inl (G.2.1, 9, .inl (fun _ => 0))), (t9.2.1, .inl (G.2.1, 9, .inl (fun _ => 0))), (t9.2.2, .inl (G.2.1, 9, .inl (fun _ => 0))), (q16, .inr (2, [.ref t20.1, .ref t20.2.1, .ref t20.2.2.1, .ref t20.2.2.2.1, .ref t20.2.2.2.2, .int 0])), (t20.1, .inl (G.2.1, 36, .inl (fun _ => 0))), (t20.2.1, .inl (G.2.1, 36, .inl (fun _ => 0))), (t20.2.2.1, .inl (G.2.1, 36, .inl (fun _ => 0))), (t20.2.2.2.1, .inl (G.2.1, 36, .inl (fun _ => 0))), (t20.2.2.2.2, .inl (G.2.1, 36, .inl (fun _ => 0)))] := hD
  refine va_putF (D := G.1) (ci := 4) (v := .ref q16) (ty := .object "Chamberwright$Meets") (C := RX4) (T := TX4) (N := 4) hx hb hts hinX4 tyX4 tyX4_ok nmX4 hown hK.1 hP hD hS 0 rfl rfl 1 (by decide) (hts (.fieldLink RX4 19 "Chamberwright" "meets" "LChamberwright$Meets;") (by decide +kernel)) (fun _ h9 => h9) rfl hin rfl (by decide +kernel) rfl rfl (Nat.le_of_ble_eq_true rfl) dX4_init_23 (fun H locs hP hD hS => ?_)
  have hP : va_P G.1 vwCl [(c0, .inr (4, [.ref q5, .ref q16, .null, .null])), (q5, .inr (1, [.ref t9.1, .ref t9.2.1, .ref t9.2.2, .int 0])), (t9.1, .inl (G.2.1, 9, .inl (fun _ => 0))), (t9.2.1, .inl (G.2.1, 9, .inl (fun _ => 0))), (t9.2.2, .inl (G.2.1, 9, .inl (fun _ => 0))), (q16, .inr (2, [.ref t20.1, .ref t20.2.1, .ref t20.2.2.1, .ref t20.2.2.2.1, .ref t20.2.2.2.2, .int 0])), (t20.1, .inl (G.2.1, 36, .inl (fun _ => 0))), (t20.2.1, .inl (G.2.1, 36, .inl (fun _ => 0))), (t20.2.2.1, .inl (G.2.1, 36, .inl (fun _ => 0))), (t20.2.2.2.1, .inl (G.2.1, 36, .inl (fun _ => 0))), (t20.2.2.2.2, .inl (G.2.1, 36, .inl (fun _ => 0)))] H := hP
  have hD : va_D A [(c0, .inr (4, [.ref q5, .ref q16, .null, .null])), (q5, .inr (1, [.ref t9.1, .ref t9.2.1, .ref t9.2.2, .int 0])), (t9.1, .inl (G.2.1, 9, .inl (fun _ => 0))), (t9.2.1, .inl (G.2.1, 9, .inl (fun _ => 0))), (t9.2.2, .inl (G.2.1, 9, .inl (fun _ => 0))), (q16, .inr (2, [.ref t20.1, .ref t20.2.1, .ref t20.2.2.1, .ref t20.2.2.2.1, .ref t20.2.2.2.2, .int 0])), (t20.1, .inl (G.2.1, 36, .inl (fun _ => 0))), (t20.2.1, .inl (G.2.1, 36, .inl (fun _ => 0))), (t20.2.2.1, .inl (G.2.1, 36, .inl (fun _ => 0))), (t20.2.2.2.1, .inl (G.2.1, 36, .inl (fun _ => 0))), (t20.2.2.2.2, .inl (G.2.1, 36, .inl (fun _ => 0)))] := hD
  refine lv_aload_n hx hb dX4_init_26 rfl (lv_at hl 0 rfl) ?_
  refine va_new (ci := 3) (fs := [.null, .null, .null, .int 0]) (C := RX3) (T := TX3) (N := 4) hx hb hts (by decide +kernel) tyX3 tyX3_ok hown (hts (.classLink RX4 23 RX3) (by decide +kernel)) (hts (.instantiable RX3 4) (by decide +kernel)) (hts (.initialized RX3) (by decide +kernel)) hK.1 hP hD hS hA rfl (fun j hj => by rcases (show j = 0 ∨ j = 1 ∨ j = 2 ∨ j = 3 by omega) with rfl | rfl | rfl | rfl <;> rfl) (Nat.le_of_ble_eq_true rfl) (Nat.le_of_ble_eq_true rfl) dX4_init_27 (fun q27 H hP hD hS => ?_)
  have hP : va_P G.1 vwCl [(c0, .inr (4, [.ref q5, .ref q16, .null, .null])), (q5, .inr (1, [.ref t9.1, .ref t9.2.1, .ref t9.2.2, .int 0])), (t9.1, .inl (G.2.1, 9, .inl (fun _ => 0))), (t9.2.1, .inl (G.2.1, 9, .inl (fun _ => 0))), (t9.2.2, .inl (G.2.1, 9, .inl (fun _ => 0))), (q16, .inr (2, [.ref t20.1, .ref t20.2.1, .ref t20.2.2.1, .ref t20.2.2.2.1, .ref t20.2.2.2.2, .int 0])), (t20.1, .inl (G.2.1, 36, .inl (fun _ => 0))), (t20.2.1, .inl (G.2.1, 36, .inl (fun _ => 0))), (t20.2.2.1, .inl (G.2.1, 36, .inl (fun _ => 0))), (t20.2.2.2.1, .inl (G.2.1, 36, .inl (fun _ => 0))), (t20.2.2.2.2, .inl (G.2.1, 36, .inl (fun _ => 0))), (q27, .inr (3, [.null, .null, .null, .int 0]))] H := hP
  have hD : va_D A [(c0, .inr (4, [.ref q5, .ref q16, .null, .null])), (q5, .inr (1, [.ref t9.1, .ref t9.2.1, .ref t9.2.2, .int 0])), (t9.1, .inl (G.2.1, 9, .inl (fun _ => 0))), (t9.2.1, .inl (G.2.1, 9, .inl (fun _ => 0))), (t9.2.2, .inl (G.2.1, 9, .inl (fun _ => 0))), (q16, .inr (2, [.ref t20.1, .ref t20.2.1, .ref t20.2.2.1, .ref t20.2.2.2.1, .ref t20.2.2.2.2, .int 0])), (t20.1, .inl (G.2.1, 36, .inl (fun _ => 0))), (t20.2.1, .inl (G.2.1, 36, .inl (fun _ => 0))), (t20.2.2.1, .inl (G.2.1, 36, .inl (fun _ => 0))), (t20.2.2.2.1, .inl (G.2.1, 36, .inl (fun _ => 0))), (t20.2.2.2.2, .inl (G.2.1, 36, .inl (fun _ => 0))), (q27, .inr (3, [.null, .null, .null, .int 0]))] := hD
  refine lv_dup hx hb dX4_init_30 rfl ?_
  refine wafter_n (wr := [(c0, .inr (4, [.ref q5, .ref q16, .null, .null])), (q5, .inr (1, [.ref t9.1, .ref t9.2.1, .ref t9.2.2, .int 0])), (t9.1, .inl (G.2.1, 9, .inl (fun _ => 0))), (t9.2.1, .inl (G.2.1, 9, .inl (fun _ => 0))), (t9.2.2, .inl (G.2.1, 9, .inl (fun _ => 0))), (q16, .inr (2, [.ref t20.1, .ref t20.2.1, .ref t20.2.2.1, .ref t20.2.2.2.1, .ref t20.2.2.2.2, .int 0])), (t20.1, .inl (G.2.1, 36, .inl (fun _ => 0))), (t20.2.1, .inl (G.2.1, 36, .inl (fun _ => 0))), (t20.2.2.1, .inl (G.2.1, 36, .inl (fun _ => 0))), (t20.2.2.2.1, .inl (G.2.1, 36, .inl (fun _ => 0))), (t20.2.2.2.2, .inl (G.2.1, 36, .inl (fun _ => 0)))]) (va_runI (As := []) (rest := [.ref q27, .ref c0]) ⟨hx, hb, hml, hown, hts⟩ (kX3_init (l := l) (G := G) q27 _) (cwI 0 hts gX4_init_X3_init rfl rfl rfl (hts (.initialized RX3) (by decide +kernel)) (hts (.methodLink RX4 25 yX3_init) (by decide +kernel)) (hts (.instanceMethod yX3_init) (by decide +kernel)) rfl (by decide +kernel) ⟨(Nat.le_of_ble_eq_true rfl), (Nat.le_of_ble_eq_true rfl)⟩) (wPreS hP hD hK [11] rfl rfl) rfl rfl hl.1 rfl (lv_room (Nat.le_of_ble_eq_true rfl)) dX4_init_31 ⟨(Nat.le_of_ble_eq_true rfl), (Nat.le_of_ble_eq_true rfl)⟩) hP hD hS hA [11] [0, 1, 2, 3, 4, 5, 6, 7, 8, 9, 10] rfl rfl rfl (by decide) (fun t31 H locs hP hD hS => ?_)
  have hP : va_P G.1 vwCl [(c0, .inr (4, [.ref q5, .ref q16, .null, .null])), (q5, .inr (1, [.ref t9.1, .ref t9.2.1, .ref t9.2.2, .int 0])), (t9.1, .inl (G.2.1, 9, .inl (fun _ => 0))), (t9.2.1, .inl (G.2.1, 9, .inl (fun _ => 0))), (t9.2.2, .inl (G.2.1, 9, .inl (fun _ => 0))), (q16, .inr (2, [.ref t20.1, .ref t20.2.1, .ref t20.2.2.1, .ref t20.2.2.2.1, .ref t20.2.2.2.2, .int 0])), (t20.1, .inl (G.2.1, 36, .inl (fun _ => 0))), (t20.2.1, .inl (G.2.1, 36, .inl (fun _ => 0))), (t20.2.2.1, .inl (G.2.1, 36, .inl (fun _ => 0))), (t20.2.2.2.1, .inl (G.2.1, 36, .inl (fun _ => 0))), (t20.2.2.2.2, .inl (G.2.1, 36, .inl (fun _ => 0))), (q27, .inr (3, [.ref t31.1, .ref t31.2.1, .ref t31.2.2, .int 1])), (t31.1, .inl (G.2.1, 46, .inl (fun _ => 0))), (t31.2.1, .inl (G.2.1, 512, .inl (rInit (fun _ => 0) 511))), (t31.2.2, .inl (G.2.1, 512, .inl (fun _ => 0)))] H := hP
  have hD : va_D A [(c0, .inr (4, [.ref q5, .ref q16, .null, .null])), (q5, .inr (1, [.ref t9.1, .ref t9.2.1, .ref t9.2.2, .int 0])), (t9.1, .inl (G.2.1, 9, .inl (fun _ => 0))), (t9.2.1, .inl (G.2.1, 9, .inl (fun _ => 0))), (t9.2.2, .inl (G.2.1, 9, .inl (fun _ => 0))), (q16, .inr (2, [.ref t20.1, .ref t20.2.1, .ref t20.2.2.1, .ref t20.2.2.2.1, .ref t20.2.2.2.2, .int 0])), (t20.1, .inl (G.2.1, 36, .inl (fun _ => 0))), (t20.2.1, .inl (G.2.1, 36, .inl (fun _ => 0))), (t20.2.2.1, .inl (G.2.1, 36, .inl (fun _ => 0))), (t20.2.2.2.1, .inl (G.2.1, 36, .inl (fun _ => 0))), (t20.2.2.2.2, .inl (G.2.1, 36, .inl (fun _ => 0))), (q27, .inr (3, [.ref t31.1, .ref t31.2.1, .ref t31.2.2, .int 1])), (t31.1, .inl (G.2.1, 46, .inl (fun _ => 0))), (t31.2.1, .inl (G.2.1, 512, .inl (rInit (fun _ => 0) 511))), (t31.2.2, .inl (G.2.1, 512, .inl (fun _ => 0)))] := hD
  refine va_putF (D := G.1) (ci := 4) (v := .ref q27) (ty := .object "Chamberwright$Rooms") (C := RX4) (T := TX4) (N := 4) hx hb hts hinX4 tyX4 tyX4_ok nmX4 hown hK.1 hP hD hS 0 rfl rfl 2 (by decide) (hts (.fieldLink RX4 26 "Chamberwright" "rooms" "LChamberwright$Rooms;") (by decide +kernel)) (fun _ h9 => h9) rfl hin rfl (by decide +kernel) rfl rfl (Nat.le_of_ble_eq_true rfl) dX4_init_34 (fun H locs hP hD hS => ?_)
  have hP : va_P G.1 vwCl [(c0, .inr (4, [.ref q5, .ref q16, .ref q27, .null])), (q5, .inr (1, [.ref t9.1, .ref t9.2.1, .ref t9.2.2, .int 0])), (t9.1, .inl (G.2.1, 9, .inl (fun _ => 0))), (t9.2.1, .inl (G.2.1, 9, .inl (fun _ => 0))), (t9.2.2, .inl (G.2.1, 9, .inl (fun _ => 0))), (q16, .inr (2, [.ref t20.1, .ref t20.2.1, .ref t20.2.2.1, .ref t20.2.2.2.1, .ref t20.2.2.2.2, .int 0])), (t20.1, .inl (G.2.1, 36, .inl (fun _ => 0))), (t20.2.1, .inl (G.2.1, 36, .inl (fun _ => 0))), (t20.2.2.1, .inl (G.2.1, 36, .inl (fun _ => 0))), (t20.2.2.2.1, .inl (G.2.1, 36, .inl (fun _ => 0))), (t20.2.2.2.2, .inl (G.2.1, 36, .inl (fun _ => 0))), (q27, .inr (3, [.ref t31.1, .ref t31.2.1, .ref t31.2.2, .int 1])), (t31.1, .inl (G.2.1, 46, .inl (fun _ => 0))), (t31.2.1, .inl (G.2.1, 512, .inl (rInit (fun _ => 0) 511))), (t31.2.2, .inl (G.2.1, 512, .inl (fun _ => 0)))] H := hP
  have hD : va_D A [(c0, .inr (4, [.ref q5, .ref q16, .ref q27, .null])), (q5, .inr (1, [.ref t9.1, .ref t9.2.1, .ref t9.2.2, .int 0])), (t9.1, .inl (G.2.1, 9, .inl (fun _ => 0))), (t9.2.1, .inl (G.2.1, 9, .inl (fun _ => 0))), (t9.2.2, .inl (G.2.1, 9, .inl (fun _ => 0))), (q16, .inr (2, [.ref t20.1, .ref t20.2.1, .ref t20.2.2.1, .ref t20.2.2.2.1, .ref t20.2.2.2.2, .int 0])), (t20.1, .inl (G.2.1, 36, .inl (fun _ => 0))), (t20.2.1, .inl (G.2.1, 36, .inl (fun _ => 0))), (t20.2.2.1, .inl (G.2.1, 36, .inl (fun _ => 0))), (t20.2.2.2.1, .inl (G.2.1, 36, .inl (fun _ => 0))), (t20.2.2.2.2, .inl (G.2.1, 36, .inl (fun _ => 0))), (q27, .inr (3, [.ref t31.1, .ref t31.2.1, .ref t31.2.2, .int 1])), (t31.1, .inl (G.2.1, 46, .inl (fun _ => 0))), (t31.2.1, .inl (G.2.1, 512, .inl (rInit (fun _ => 0) 511))), (t31.2.2, .inl (G.2.1, 512, .inl (fun _ => 0)))] := hD
  refine lv_aload_n hx hb dX4_init_37 rfl (lv_at hl 0 rfl) ?_
  refine va_new (ci := 0) (fs := [.long 0]) (C := RX0) (T := TX0) (N := 1) hx hb hts (by decide +kernel) tyX0 tyX0_ok hown (hts (.classLink RX4 30 RX0) (by decide +kernel)) (hts (.instantiable RX0 1) (by decide +kernel)) (hts (.initialized RX0) (by decide +kernel)) hK.1 hP hD hS hA rfl (fun j hj => by rcases (show j = 0 by omega) with rfl <;> rfl) (Nat.le_of_ble_eq_true rfl) (Nat.le_of_ble_eq_true rfl) dX4_init_38 (fun q38 H hP hD hS => ?_)
  have hP : va_P G.1 vwCl [(c0, .inr (4, [.ref q5, .ref q16, .ref q27, .null])), (q5, .inr (1, [.ref t9.1, .ref t9.2.1, .ref t9.2.2, .int 0])), (t9.1, .inl (G.2.1, 9, .inl (fun _ => 0))), (t9.2.1, .inl (G.2.1, 9, .inl (fun _ => 0))), (t9.2.2, .inl (G.2.1, 9, .inl (fun _ => 0))), (q16, .inr (2, [.ref t20.1, .ref t20.2.1, .ref t20.2.2.1, .ref t20.2.2.2.1, .ref t20.2.2.2.2, .int 0])), (t20.1, .inl (G.2.1, 36, .inl (fun _ => 0))), (t20.2.1, .inl (G.2.1, 36, .inl (fun _ => 0))), (t20.2.2.1, .inl (G.2.1, 36, .inl (fun _ => 0))), (t20.2.2.2.1, .inl (G.2.1, 36, .inl (fun _ => 0))), (t20.2.2.2.2, .inl (G.2.1, 36, .inl (fun _ => 0))), (q27, .inr (3, [.ref t31.1, .ref t31.2.1, .ref t31.2.2, .int 1])), (t31.1, .inl (G.2.1, 46, .inl (fun _ => 0))), (t31.2.1, .inl (G.2.1, 512, .inl (rInit (fun _ => 0) 511))), (t31.2.2, .inl (G.2.1, 512, .inl (fun _ => 0))), (q38, .inr (0, [.long 0]))] H := hP
  have hD : va_D A [(c0, .inr (4, [.ref q5, .ref q16, .ref q27, .null])), (q5, .inr (1, [.ref t9.1, .ref t9.2.1, .ref t9.2.2, .int 0])), (t9.1, .inl (G.2.1, 9, .inl (fun _ => 0))), (t9.2.1, .inl (G.2.1, 9, .inl (fun _ => 0))), (t9.2.2, .inl (G.2.1, 9, .inl (fun _ => 0))), (q16, .inr (2, [.ref t20.1, .ref t20.2.1, .ref t20.2.2.1, .ref t20.2.2.2.1, .ref t20.2.2.2.2, .int 0])), (t20.1, .inl (G.2.1, 36, .inl (fun _ => 0))), (t20.2.1, .inl (G.2.1, 36, .inl (fun _ => 0))), (t20.2.2.1, .inl (G.2.1, 36, .inl (fun _ => 0))), (t20.2.2.2.1, .inl (G.2.1, 36, .inl (fun _ => 0))), (t20.2.2.2.2, .inl (G.2.1, 36, .inl (fun _ => 0))), (q27, .inr (3, [.ref t31.1, .ref t31.2.1, .ref t31.2.2, .int 1])), (t31.1, .inl (G.2.1, 46, .inl (fun _ => 0))), (t31.2.1, .inl (G.2.1, 512, .inl (rInit (fun _ => 0) 511))), (t31.2.2, .inl (G.2.1, 512, .inl (fun _ => 0))), (q38, .inr (0, [.long 0]))] := hD
  refine lv_dup hx hb dX4_init_41 rfl ?_
  refine wafter_n (wr := [(c0, .inr (4, [.ref q5, .ref q16, .ref q27, .null])), (q5, .inr (1, [.ref t9.1, .ref t9.2.1, .ref t9.2.2, .int 0])), (t9.1, .inl (G.2.1, 9, .inl (fun _ => 0))), (t9.2.1, .inl (G.2.1, 9, .inl (fun _ => 0))), (t9.2.2, .inl (G.2.1, 9, .inl (fun _ => 0))), (q16, .inr (2, [.ref t20.1, .ref t20.2.1, .ref t20.2.2.1, .ref t20.2.2.2.1, .ref t20.2.2.2.2, .int 0])), (t20.1, .inl (G.2.1, 36, .inl (fun _ => 0))), (t20.2.1, .inl (G.2.1, 36, .inl (fun _ => 0))), (t20.2.2.1, .inl (G.2.1, 36, .inl (fun _ => 0))), (t20.2.2.2.1, .inl (G.2.1, 36, .inl (fun _ => 0))), (t20.2.2.2.2, .inl (G.2.1, 36, .inl (fun _ => 0))), (q27, .inr (3, [.ref t31.1, .ref t31.2.1, .ref t31.2.2, .int 1])), (t31.1, .inl (G.2.1, 46, .inl (fun _ => 0))), (t31.2.1, .inl (G.2.1, 512, .inl (rInit (fun _ => 0) 511))), (t31.2.2, .inl (G.2.1, 512, .inl (fun _ => 0)))]) (va_runI (As := []) (rest := [.ref q38, .ref c0]) ⟨hx, hb, hml, hown, hts⟩ (kX0_init (l := l) (G := G) q38 _) (cwI 0 hts gX4_init_X0_init rfl rfl rfl (hts (.initialized RX0) (by decide +kernel)) (hts (.methodLink RX4 32 yX0_init) (by decide +kernel)) (hts (.instanceMethod yX0_init) (by decide +kernel)) rfl (by decide +kernel) ⟨(Nat.le_of_ble_eq_true rfl), (Nat.le_of_ble_eq_true rfl)⟩) (wPreS hP hD hK [15] rfl rfl) rfl rfl hl.1 rfl (lv_room (Nat.le_of_ble_eq_true rfl)) dX4_init_42 ⟨(Nat.le_of_ble_eq_true rfl), (Nat.le_of_ble_eq_true rfl)⟩) hP hD hS hA [15] [0, 1, 2, 3, 4, 5, 6, 7, 8, 9, 10, 11, 12, 13, 14] rfl rfl rfl (by decide) (fun t42 H locs hP hD hS => ?_)
  have hP : va_P G.1 vwCl [(c0, .inr (4, [.ref q5, .ref q16, .ref q27, .null])), (q5, .inr (1, [.ref t9.1, .ref t9.2.1, .ref t9.2.2, .int 0])), (t9.1, .inl (G.2.1, 9, .inl (fun _ => 0))), (t9.2.1, .inl (G.2.1, 9, .inl (fun _ => 0))), (t9.2.2, .inl (G.2.1, 9, .inl (fun _ => 0))), (q16, .inr (2, [.ref t20.1, .ref t20.2.1, .ref t20.2.2.1, .ref t20.2.2.2.1, .ref t20.2.2.2.2, .int 0])), (t20.1, .inl (G.2.1, 36, .inl (fun _ => 0))), (t20.2.1, .inl (G.2.1, 36, .inl (fun _ => 0))), (t20.2.2.1, .inl (G.2.1, 36, .inl (fun _ => 0))), (t20.2.2.2.1, .inl (G.2.1, 36, .inl (fun _ => 0))), (t20.2.2.2.2, .inl (G.2.1, 36, .inl (fun _ => 0))), (q27, .inr (3, [.ref t31.1, .ref t31.2.1, .ref t31.2.2, .int 1])), (t31.1, .inl (G.2.1, 46, .inl (fun _ => 0))), (t31.2.1, .inl (G.2.1, 512, .inl (rInit (fun _ => 0) 511))), (t31.2.2, .inl (G.2.1, 512, .inl (fun _ => 0))), (q38, .inr (0, [.long 0]))] H := hP
  have hD : va_D A [(c0, .inr (4, [.ref q5, .ref q16, .ref q27, .null])), (q5, .inr (1, [.ref t9.1, .ref t9.2.1, .ref t9.2.2, .int 0])), (t9.1, .inl (G.2.1, 9, .inl (fun _ => 0))), (t9.2.1, .inl (G.2.1, 9, .inl (fun _ => 0))), (t9.2.2, .inl (G.2.1, 9, .inl (fun _ => 0))), (q16, .inr (2, [.ref t20.1, .ref t20.2.1, .ref t20.2.2.1, .ref t20.2.2.2.1, .ref t20.2.2.2.2, .int 0])), (t20.1, .inl (G.2.1, 36, .inl (fun _ => 0))), (t20.2.1, .inl (G.2.1, 36, .inl (fun _ => 0))), (t20.2.2.1, .inl (G.2.1, 36, .inl (fun _ => 0))), (t20.2.2.2.1, .inl (G.2.1, 36, .inl (fun _ => 0))), (t20.2.2.2.2, .inl (G.2.1, 36, .inl (fun _ => 0))), (q27, .inr (3, [.ref t31.1, .ref t31.2.1, .ref t31.2.2, .int 1])), (t31.1, .inl (G.2.1, 46, .inl (fun _ => 0))), (t31.2.1, .inl (G.2.1, 512, .inl (rInit (fun _ => 0) 511))), (t31.2.2, .inl (G.2.1, 512, .inl (fun _ => 0))), (q38, .inr (0, [.long 0]))] := hD
  refine va_putF (D := G.1) (ci := 4) (v := .ref q38) (ty := .object "Chamberwright$Graph") (C := RX4) (T := TX4) (N := 4) hx hb hts hinX4 tyX4 tyX4_ok nmX4 hown hK.1 hP hD hS 0 rfl rfl 3 (by decide) (hts (.fieldLink RX4 33 "Chamberwright" "graph" "LChamberwright$Graph;") (by decide +kernel)) (fun _ h9 => h9) rfl hin rfl (by decide +kernel) rfl rfl (Nat.le_of_ble_eq_true rfl) dX4_init_45 (fun H locs hP hD hS => ?_)
  have hP : va_P G.1 vwCl [(c0, .inr (4, [.ref q5, .ref q16, .ref q27, .ref q38])), (q5, .inr (1, [.ref t9.1, .ref t9.2.1, .ref t9.2.2, .int 0])), (t9.1, .inl (G.2.1, 9, .inl (fun _ => 0))), (t9.2.1, .inl (G.2.1, 9, .inl (fun _ => 0))), (t9.2.2, .inl (G.2.1, 9, .inl (fun _ => 0))), (q16, .inr (2, [.ref t20.1, .ref t20.2.1, .ref t20.2.2.1, .ref t20.2.2.2.1, .ref t20.2.2.2.2, .int 0])), (t20.1, .inl (G.2.1, 36, .inl (fun _ => 0))), (t20.2.1, .inl (G.2.1, 36, .inl (fun _ => 0))), (t20.2.2.1, .inl (G.2.1, 36, .inl (fun _ => 0))), (t20.2.2.2.1, .inl (G.2.1, 36, .inl (fun _ => 0))), (t20.2.2.2.2, .inl (G.2.1, 36, .inl (fun _ => 0))), (q27, .inr (3, [.ref t31.1, .ref t31.2.1, .ref t31.2.2, .int 1])), (t31.1, .inl (G.2.1, 46, .inl (fun _ => 0))), (t31.2.1, .inl (G.2.1, 512, .inl (rInit (fun _ => 0) 511))), (t31.2.2, .inl (G.2.1, 512, .inl (fun _ => 0))), (q38, .inr (0, [.long 0]))] H := hP
  have hD : va_D A [(c0, .inr (4, [.ref q5, .ref q16, .ref q27, .ref q38])), (q5, .inr (1, [.ref t9.1, .ref t9.2.1, .ref t9.2.2, .int 0])), (t9.1, .inl (G.2.1, 9, .inl (fun _ => 0))), (t9.2.1, .inl (G.2.1, 9, .inl (fun _ => 0))), (t9.2.2, .inl (G.2.1, 9, .inl (fun _ => 0))), (q16, .inr (2, [.ref t20.1, .ref t20.2.1, .ref t20.2.2.1, .ref t20.2.2.2.1, .ref t20.2.2.2.2, .int 0])), (t20.1, .inl (G.2.1, 36, .inl (fun _ => 0))), (t20.2.1, .inl (G.2.1, 36, .inl (fun _ => 0))), (t20.2.2.1, .inl (G.2.1, 36, .inl (fun _ => 0))), (t20.2.2.2.1, .inl (G.2.1, 36, .inl (fun _ => 0))), (t20.2.2.2.2, .inl (G.2.1, 36, .inl (fun _ => 0))), (q27, .inr (3, [.ref t31.1, .ref t31.2.1, .ref t31.2.2, .int 1])), (t31.1, .inl (G.2.1, 46, .inl (fun _ => 0))), (t31.2.1, .inl (G.2.1, 512, .inl (rInit (fun _ => 0) 511))), (t31.2.2, .inl (G.2.1, 512, .inl (fun _ => 0))), (q38, .inr (0, [.long 0]))] := hD
  exact wrn (t0 := (q5, t9.1, t9.2.1, t9.2.2, q16, t20.1, t20.2.1, t20.2.2.1, t20.2.2.2.1, t20.2.2.2.2, q27, t31.1, t31.2.1, t31.2.2, q38)) hx hb hr hlocks hP hD hS (Nat.le_of_ble_eq_true rfl) (Nat.le_of_ble_eq_true rfl) dX4_init_48
