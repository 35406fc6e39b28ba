def fX2_commonDivisor_b13 (N : Nat) : Nat → Int32 → Int32 → Int32 → Option (Int32)
  | 0, _, _, _ => none
  | n + 1, x2, x3, x4 => if 64 ≤ x4 then some x2 else if x3 = 0 then some x2 else nz x3 (fX2_commonDivisor_b13 N n x3 (x2 - x2 / x3 * x3) (x4 + 1))
def fX2_commonDivisor (N : Nat) (x0 : Int32) (x1 : Int32) : Option (Int32) := fX2_commonDivisor_b13 N N (jAbs x0) (jAbs x1) 0
set_option maxHeartbeats 4000000 in
set_option maxRecDepth 100000 in
theorem kX2_commonDivisor {l : Launch} {G : wG} (x0 : Int32) (x1 : Int32) (N : Nat) (v : Int32) (h : fX2_commonDivisor N x0 x1 = some v) : wCi l G yX2_commonDivisor wsX2_commonDivisor ({ frames := 1, cells := 0, slots := 0, locals := 20 } : Room) [.int x0, .int x1] [] [] 0 0 v := by
  refine wCi.mk (cc := cX2_commonDivisor) (maxL := 6) (ty := .int) (by decide) rfl (Nat.le_of_ble_eq_true rfl) ?_
  intro p e s m below meth c A ls hx hb hml hr hlocks hts hown hK hA hP hD hl
  have hx : p.tables.exec = Jvm.exec := hx
  have hown : s.vm.findClass RX2 = some m.cls := hown
  have hS : va_S A s.heap s.heap [] := va_S.rf
  have hP : va_P G.1 vwCl [] s.heap := hP
  have hD : va_D A [] := hD
  have hl : lv_has ls 6 [(0, .int x0), (1, .int x1)] := hl
  obtain ⟨args, hargs⟩ : ∃ z : Array Value, z = ([.int x0, .int x1] : List Value).toArray := ⟨_, rfl⟩
  rw [← hargs]
  rw [← hargs] at hts
  have w_13 : ∀   (_z : Unit), ∀ (n : Nat) (x2 : Int32) (x3 : Int32) (x4 : Int32)  (H : Heap) (locs : List Loc) (ls : Array Slot), va_P G.1 vwCl [] H → va_D A [] → va_S A s.heap H locs → lv_has ls 6 [(2, .int x2), (3, .int x3), (4, .int x4)] → fX2_commonDivisor_b13 N n x2 x3 x4 = some v → W p l e ({ frames := 1, cells := 0, slots := 0, locals := 20 } : Room) s m args below meth c H locs 0 0 (wQi G A below args s [] 0 0 v) (F0 m 13 ls []) := by
    intro _z n
    induction n with
    | zero =>
      intro x2 x3 x4 H locs ls hP hD hS hl h
      rw [fX2_commonDivisor_b13.eq_1] at h
      cases h
    | succ n ih =>
      intro x2 x3 x4 H locs ls hP hD hS hl h
      rw [fX2_commonDivisor_b13.eq_2] at h
      refine lv_iload hx hb dX2_commonDivisor_13 (lv_at hl 2 rfl) ?_
      refine lv_bipush (v := 64) hx hb dX2_commonDivisor_15 (by decide) ?_
      refine lv_icmp_ge (tgt := 40) hx hb dX2_commonDivisor_17 (by decide) (fun c_205 => ?_) (fun c_205 => ?_)
      · have h := ip c_205 h
        refine lv_iload_n hx hb dX2_commonDivisor_40 rfl (lv_at hl 0 rfl) ?_
        obtain rfl := Option.some.inj h
        exact wri hx hb hr hlocks hP hD hS (Nat.le_of_ble_eq_true rfl) (Nat.le_of_ble_eq_true rfl) rfl dX2_commonDivisor_41
      · have h := iq c_205 h
        refine lv_iload_n hx hb dX2_commonDivisor_20 rfl (lv_at hl 1 rfl) ?_
        refine lv_if_eq (tgt := 40) hx hb dX2_commonDivisor_21 (by decide) (fun c_206 => ?_) (fun c_206 => ?_)
        · have h := ip c_206 h
          refine lv_iload_n hx hb dX2_commonDivisor_40 rfl (lv_at hl 0 rfl) ?_
          obtain rfl := Option.some.inj h
          exact wri hx hb hr hlocks hP hD hS (Nat.le_of_ble_eq_true rfl) (Nat.le_of_ble_eq_true rfl) rfl dX2_commonDivisor_41
        · have h := iq c_206 h
          refine lv_iload_n hx hb dX2_commonDivisor_24 rfl (lv_at hl 0 rfl) ?_
          refine lv_iload_n hx hb dX2_commonDivisor_25 rfl (lv_at hl 1 rfl) ?_
          obtain ⟨hz, h⟩ := nz_inv h
          refine lv_irem hx hb dX2_commonDivisor_26 hz ?_
          refine lv_istore (lv' := [(5, .int (x2 - x2 / x3 * x3)), (2, .int x2), (3, .int x3), (4, .int x4)]) hx hb dX2_commonDivisor_27 hl (by decide) rfl (fun ls hl => ?_)
          refine lv_iload_n hx hb dX2_commonDivisor_29 rfl (lv_at hl 2 rfl) ?_
          refine lv_istore_n (lv' := [(2, .int x3), (5, .int (x2 - x2 / x3 * x3)), (3, .int x3), (4, .int x4)]) hx hb dX2_commonDivisor_30 rfl hl (by decide) rfl (fun ls hl => ?_)
          refine lv_iload hx hb dX2_commonDivisor_31 (lv_at hl 1 rfl) ?_
          refine lv_istore_n (lv' := [(3, .int (x2 - x2 / x3 * x3)), (2, .int x3), (5, .int (x2 - x2 / x3 * x3)), (4, .int x4)]) hx hb dX2_commonDivisor_33 rfl hl (by decide) rfl (fun ls hl => ?_)
          refine lv_iinc (v := (x4 + 1)) (lv' := [(4, .int (x4 + 1)), (3, .int (x2 - x2 / x3 * x3)), (2, .int x3), (5, .int (x2 - x2 / x3 * x3))]) hx hb dX2_commonDivisor_34 hl (k := 3) rfl rfl (by decide) rfl (fun ls hl => ?_)
          refine lv_goto (tgt := 13) hx hb dX2_commonDivisor_37 (by decide) ?_
          exact ih _ _ _ _ _ _ hP hD hS (lv_sub hl [2, 1, 0] rfl) h
  rw [fX2_commonDivisor.eq_1] at h
  refine lv_iload_n hx hb dX2_commonDivisor_0 rfl (lv_at hl 0 rfl) ?_
  refine va_mabs hx hb (hml.trans hl.1.symm) hown (hts (.methodLink RX2 69 Lib.Math.abs.name) (by decide +kernel)) (hts (.static Lib.Math.abs.name) (by decide +kernel)) (hts (.initialized "java/lang/Math") (by decide +kernel)) (hts (.code Lib.Math.abs.name Lib.Math.abs.code 1 (some .int)) (by decide +kernel)) (Nat.le_of_ble_eq_true rfl) (Nat.le_of_ble_eq_true rfl) (Nat.zero_le _) (Nat.zero_le _) dX2_commonDivisor_1 ?_
  refine lv_istore_n (lv' := [(2, .int (jAbs x0)), (0, .int x0), (1, .int x1)]) hx hb dX2_commonDivisor_4 rfl hl (by decide) rfl (fun ls hl => ?_)
  refine lv_iload_n hx hb dX2_commonDivisor_5 rfl (lv_at hl 2 rfl) ?_
  refine va_mabs hx hb (hml.trans hl.1.symm) hown (hts (.methodLink RX2 69 Lib.Math.abs.name) (by decide +kernel)) (hts (.static Lib.Math.abs.name) (by decide +kernel)) (hts (.initialized "java/lang/Math") (by decide +kernel)) (hts (.code Lib.Math.abs.name Lib.Math.abs.code 1 (some .int)) (by decide +kernel)) (Nat.le_of_ble_eq_true rfl) (Nat.le_of_ble_eq_true rfl) (Nat.zero_le _) (Nat.zero_le _) dX2_commonDivisor_6 ?_
  refine lv_istore_n (lv' := [(3, .int (jAbs x1)), (2, .int (jAbs x0)), (0, .int x0), (1, .int x1)]) hx hb dX2_commonDivisor_9 rfl hl (by decide) rfl (fun ls hl => ?_)
  refine lv_iconst (v := 0) hx hb dX2_commonDivisor_10 (by decide) ?_
  refine lv_istore (lv' := [(4, .int 0), (3, .int (jAbs x1)), (2, .int (jAbs x0)), (0, .int x0), (1, .int x1)]) hx hb dX2_commonDivisor_11 hl (by decide) rfl (fun ls hl => ?_)
  exact w_13    ()  N _ _ _  _ _ _ hP hD hS (lv_sub hl [2, 1, 0] rfl) h
def fX2_order (N : Nat) (m_x : Nat → Int32) (m_y : Nat → Int32) (m_d : Nat → Int32) (x1 : Int32) (x2 : Int32) (x3 : Int32) (x4 : Int32) : Option (Int32) := rd m_x 36 x1 (fun v_207 => rd m_d 36 x1 (fun v_208 => nm ((v_207 * x4) - (x2 * v_208)) (fun x5_209 => if x5_209 = 0 then rd m_y 36 x1 (fun v_211 => rd m_d 36 x1 (fun v_212 => some (((v_211 * x4) - (x3 * v_212))))) else some x5_209)))
set_option maxHeartbeats 4000000 in
set_option maxRecDepth 100000 in
theorem kX2_order {l : Launch} {G : wG} (m0 m1 m2 m3 m4 m5 : Nat) (m_x : Nat → Int32) (m_y : Nat → Int32) (m_d : Nat → Int32) (m_t : Nat → Int32) (m_v : Nat → Int32) (m_n : Int32) (x1 : Int32) (x2 : Int32) (x3 : Int32) (x4 : Int32) (N : Nat) (v : Int32) (h : fX2_order N m_x m_y m_d x1 x2 x3 x4 = some v) : wCi l G yX2_order wsX2_order ({ frames := 0, cells := 0, slots := 0, locals := 0 } : Room) [.ref m0, .int x1, .int x2, .int x3, .int x4] (w_M G m0 m1 m2 m3 m4 m5 m_x m_y m_d m_t m_v m_n) (w_M G m0 m1 m2 m3 m4 m5 m_x m_y m_d m_t m_v m_n) 0 0 v := by
  refine wCi.mk (cc := cX2_order) (maxL := 6) (ty := .int) (by decide) rfl (Nat.le_of_ble_eq_true rfl) ?_
  intro p e s m below meth c A ls hx hb hml hr hlocks hts hown hK hA hP hD hl
  have hx : p.tables.exec = Jvm.exec := hx
  have hown : s.vm.findClass RX2 = some m.cls := hown
  have hinX2 : ∀ w ∈ wsX20, w ∈ wsX2_order := by decide +kernel
  have lk15 := hts (.fieldLink RX2 15 "Chamberwright$Meets" "ys" "[I") (by decide +kernel)
  have lk18 := hts (.fieldLink RX2 18 "Chamberwright$Meets" "ds" "[I") (by decide +kernel)
  have lk9 := hts (.fieldLink RX2 9 "Chamberwright$Meets" "xs" "[I") (by decide +kernel)
  have hS : va_S A s.heap s.heap [] := va_S.rf
  have hP : va_P G.1 vwCl (w_M G m0 m1 m2 m3 m4 m5 m_x m_y m_d m_t m_v m_n) s.heap := hP
  have hD : va_D A (w_M G m0 m1 m2 m3 m4 m5 m_x m_y m_d m_t m_v m_n) := hD
  have hl : lv_has ls 6 [(0, .ref m0), (1, .int x1), (2, .int x2), (3, .int x3), (4, .int x4)] := hl
  obtain ⟨args, hargs⟩ : ∃ z : Array Value, z = ([.ref m0, .int x1, .int x2, .int x3, .int x4] : List Value).toArray := ⟨_, rfl⟩
  rw [← hargs]
  rw [← hargs] at hts
  rw [fX2_order.eq_1] at h
  refine lv_aload_n hx hb dX2_order_0 rfl (lv_at hl 0 rfl) ?_
  refine va_get (D := G.1) (ci := 2) (v := .ref m1) (C := RX2) (T := TX2) (N := 6) hx hb hts hinX2 hown hK.1 hP 0 rfl rfl 0 (by decide) lk9 (fun _ h9 => h9) rfl dX2_order_1 ?_
  refine lv_iload_n hx hb dX2_order_4 rfl (lv_at hl 1 rfl) ?_
  refine wiald h hx hb hK hP 1 rfl dX2_order_5 (fun v_207 h => ?_)
  refine lv_iload hx hb dX2_order_6 (lv_at hl 4 rfl) ?_
  refine lv_imul hx hb dX2_order_8 ?_
  refine lv_iload_n hx hb dX2_order_9 rfl (lv_at hl 2 rfl) ?_
  refine lv_aload_n hx hb dX2_order_10 rfl (lv_at hl 0 rfl) ?_
  refine va_get (D := G.1) (ci := 2) (v := .ref m3) (C := RX2) (T := TX2) (N := 6) hx hb hts hinX2 hown hK.1 hP 0 rfl rfl 2 (by decide) lk18 (fun _ h9 => h9) rfl dX2_order_11 ?_
  refine lv_iload_n hx hb dX2_order_14 rfl (lv_at hl 1 rfl) ?_
  refine wiald h hx hb hK hP 3 rfl dX2_order_15 (fun v_208 h => ?_)
  refine lv_imul hx hb dX2_order_16 ?_
  refine lv_isub hx hb dX2_order_17 ?_
  refine wnmi h (fun x5_209 h => ?_)
  refine lv_istore (lv' := [(5, .int x5_209), (0, .ref m0), (1, .int x1), (2, .int x2), (3, .int x3), (4, .int x4)]) hx hb dX2_order_18 hl (by decide) rfl (fun ls hl => ?_)
  refine lv_iload hx hb dX2_order_20 (lv_at hl 0 rfl) ?_
  refine lv_if_eq (tgt := 30) hx hb dX2_order_22 (by decide) (fun c_210 => ?_) (fun c_210 => ?_)
  · have h := ip c_210 h
    refine lv_aload_n hx hb dX2_order_30 rfl (lv_at hl 1 rfl) ?_
    refine va_get (D := G.1) (ci := 2) (v := .ref m2) (C := RX2) (T := TX2) (N := 6) hx hb hts hinX2 hown hK.1 hP 0 rfl rfl 1 (by decide) lk15 (fun _ h9 => h9) rfl dX2_order_31 ?_
    refine lv_iload_n hx hb dX2_order_34 rfl (lv_at hl 2 rfl) ?_
    refine wiald h hx hb hK hP 2 rfl dX2_order_35 (fun v_211 h => ?_)
    refine lv_iload hx hb dX2_order_36 (lv_at hl 5 rfl) ?_
    refine lv_imul hx hb dX2_order_38 ?_
    refine lv_iload_n hx hb dX2_order_39 rfl (lv_at hl 4 rfl) ?_
    refine lv_aload_n hx hb dX2_order_40 rfl (lv_at hl 1 rfl) ?_
    refine va_get (D := G.1) (ci := 2) (v := .ref m3) (C := RX2) (T := TX2) (N := 6) hx hb hts hinX2 hown hK.1 hP 0 rfl rfl 2 (by decide) lk18 (fun _ h9 => h9) rfl dX2_order_41 ?_
    refine lv_iload_n hx hb dX2_order_44 rfl (lv_at hl 2 rfl) ?_
    refine wiald h hx hb hK hP 3 rfl dX2_order_45 (fun v_212 h => ?_)
    refine lv_imul hx hb dX2_order_46 ?_
    refine lv_isub hx hb dX2_order_47 ?_
    obtain rfl := Option.some.inj h
    exact wri hx hb hr hlocks hP hD hS (Nat.le_of_ble_eq_true rfl) (Nat.le_of_ble_eq_true rfl) rfl dX2_order_48
  · have h := iq c_210 h
    refine lv_iload hx hb dX2_order_25 (lv_at hl 0 rfl) ?_
    refine lv_goto (tgt := 48) hx hb dX2_order_27 (by decide) ?_
    obtain rfl := Option.some.inj h
    exact wri hx hb hr hlocks hP hD hS (Nat.le_of_ble_eq_true rfl) (Nat.le_of_ble_eq_true rfl) rfl dX2_order_48
def fX2_makeWay_b5 (N : Nat) (x1 : Int32) : Nat → Int32 → (Nat → Int32) → (Nat → Int32) → (Nat → Int32) → (Nat → Int32) → Int32 → Option ((Nat → Int32) × (Nat → Int32) × (Nat → Int32) × (Nat → Int32) × Int32)
  | 0, _, _, _, _, _, _ => none
  | n + 1, x2, m_x, m_y, m_d, m_t, m_n => if x2 ≤ x1 then some (m_x, m_y, m_d, m_t, (m_n + 1)) else rd m_x 36 (x2 - 1) (fun v_214 => ck 36 x2 (rd m_y 36 (x2 - 1) (fun v_215 => ck 36 x2 (rd m_d 36 (x2 - 1) (fun v_216 => ck 36 x2 (rd m_t 36 (x2 - 1) (fun v_217 => ck 36 x2 (fX2_makeWay_b5 N x1 n (x2 + (-1)) ((upd m_x (Int32.toNatClampNeg x2) v_214)) ((upd m_y (Int32.toNatClampNeg x2) v_215)) ((upd m_d (Int32.toNatClampNeg x2) v_216)) ((upd m_t (Int32.toNatClampNeg x2) v_217)) m_n))))))))
def fX2_makeWay (N : Nat) (m_x : Nat → Int32) (m_y : Nat → Int32) (m_d : Nat → Int32) (m_t : Nat → Int32) (m_n : Int32) (x1 : Int32) : Option ((Nat → Int32) × (Nat → Int32) × (Nat → Int32) × (Nat → Int32) × Int32) := fX2_makeWay_b5 N x1 N m_n m_x m_y m_d m_t m_n
set_option maxHeartbeats 4000000 in
set_option maxRecDepth 100000 in
theorem kX2_makeWay {l : Launch} {G : wG} (m0 m1 m2 m3 m4 m5 : Nat) (m_x : Nat → Int32) (m_y : Nat → Int32) (m_d : Nat → Int32) (m_t : Nat → Int32) (m_v : Nat → Int32) (m_n : Int32) (x1 : Int32) (N : Nat) (v : (Nat → Int32) × (Nat → Int32) × (Nat → Int32) × (Nat → Int32) × Int32) (h : fX2_makeWay N m_x m_y m_d m_t m_n x1 = some v) : wCv l G yX2_makeWay wsX2_makeWay ({ frames := 0, cells := 0, slots := 0, locals := 0 } : Room) [.ref m0, .int x1] (w_M G m0 m1 m2 m3 m4 m5 m_x m_y m_d m_t m_v m_n) (w_M G m0 m1 m2 m3 m4 m5 v.1 v.2.1 v.2.2.1 v.2.2.2.1 m_v v.2.2.2.2) 0 0 := by
  refine wCv.mk (cc := cX2_makeWay) (maxL := 3) (by decide) rfl (Nat.le_of_ble_eq_true rfl) ?_
  intro p e s m below meth c A ls hx hb hml hr hlocks hts hown hK hA hP hD hl
  have hx : p.tables.exec = Jvm.exec := hx
  have hown : s.vm.findClass RX2 = some m.cls := hown
  have hinX2 : ∀ w ∈ wsX20, w ∈ wsX2_makeWay := by decide +kernel
  have lk15 := hts (.fieldLink RX2 15 "Chamberwright$Meets" "ys" "[I") (by decide +kernel)
  have lk18 := hts (.fieldLink RX2 18 "Chamberwright$Meets" "ds" "[I") (by decide +kernel)
  have lk21 := hts (.fieldLink RX2 21 "Chamberwright$Meets" "through" "[I") (by decide +kernel)
  have lk27 := hts (.fieldLink RX2 27 "Chamberwright$Meets" "count" "I") (by decide +kernel)
  have lk9 := hts (.fieldLink RX2 9 "Chamberwright$Meets" "xs" "[I") (by decide +kernel)
  have hS : va_S A s.heap s.heap [] := va_S.rf
  have hP : va_P G.1 vwCl (w_M G m0 m1 m2 m3 m4 m5 m_x m_y m_d m_t m_v m_n) s.heap := hP
  have hD : va_D A (w_M G m0 m1 m2 m3 m4 m5 m_x m_y m_d m_t m_v m_n) := hD
  have hl : lv_has ls 3 [(0, .ref m0), (1, .int x1)] := hl
  obtain ⟨args, hargs⟩ : ∃ z : Array Value, z = ([.ref m0, .int x1] : List Value).toArray := ⟨_, rfl⟩
  rw [← hargs]
  rw [← hargs] at hts
  have w_5 : ∀ (x1 : Int32)  (_z : Unit), ∀ (n : Nat) (x2 : Int32) (m_x : Nat → Int32) (m_y : Nat → Int32) (m_d : Nat → Int32) (m_t : Nat → Int32) (m_n : Int32) (H : Heap) (locs : List Loc) (ls : Array Slot), va_P G.1 vwCl (w_M G m0 m1 m2 m3 m4 m5 m_x m_y m_d m_t m_v m_n) H → va_D A (w_M G m0 m1 m2 m3 m4 m5 m_x m_y m_d m_t m_v m_n) → va_S A s.heap H locs → lv_has ls 3 [(0, .ref m0), (1, .int x1), (2, .int x2)] → fX2_makeWay_b5 N x1 n x2 m_x m_y m_d m_t m_n = some v → W p l e ({ frames := 0, cells := 0, slots := 0, locals := 0 } : Room) s m args below meth c H locs 0 0 (wQv G A below args s (w_M G m0 m1 m2 m3 m4 m5 v.1 v.2.1 v.2.2.1 v.2.2.2.1 m_v v.2.2.2.2) 0 0) (F0 m 5 ls []) := by
    intro x1 _z n
    induction n with
    | zero =>
      intro x2 m_x m_y m_d m_t m_n H locs ls hP hD hS hl h
      rw [fX2_makeWay_b5.eq_1] at h
      cases h
    | succ n ih =>
      intro x2 m_x m_y m_d m_t m_n H locs ls hP hD hS hl h
      rw [fX2_makeWay_b5.eq_2] at h
      refine lv_iload_n hx hb dX2_makeWay_5 rfl (lv_at hl 2 rfl) ?_
      refine lv_iload_n hx hb dX2_makeWay_6 rfl (lv_at hl 1 rfl) ?_
      refine lv_icmp_le (tgt := 72) hx hb dX2_makeWay_7 (by decide) (fun c_213 => ?_) (fun c_213 => ?_)
      · have h := ip c_213 h
        refine lv_aload_n hx hb dX2_makeWay_72 rfl (lv_at hl 0 rfl) ?_
        refine lv_dup hx hb dX2_makeWay_73 rfl ?_
        refine va_get (D := G.1) (ci := 2) (v := .int m_n) (C := RX2) (T := TX2) (N := 6) hx hb hts hinX2 hown hK.1 hP 0 rfl rfl 5 (by decide) lk27 (fun _ h9 => h9) rfl dX2_makeWay_74 ?_
        refine lv_iconst (v := 1) hx hb dX2_makeWay_77 (by decide) ?_
        refine lv_iadd hx hb dX2_makeWay_78 ?_
        refine va_put (D := G.1) (ci := 2) (v := .int (m_n + 1)) (ty := .int) (C := RX2) (T := TX2) (N := 6) hx hb hts hinX2 tyX2 tyX2_ok nmX2 hown hK.1 hP hD hS 0 rfl rfl 5 (by decide) lk27 (fun _ h9 => h9) rfl (by decide +kernel) rfl rfl (Nat.le_of_ble_eq_true rfl) dX2_makeWay_79 (fun H locs hP hD hS => ?_)
        have hP : va_P G.1 vwCl (w_M G m0 m1 m2 m3 m4 m5 m_x m_y m_d m_t m_v ((m_n + 1))) H := hP
        have hD : va_D A (w_M G m0 m1 m2 m3 m4 m5 m_x m_y m_d m_t m_v ((m_n + 1))) := hD
        obtain rfl := Option.some.inj h
        exact wrv hx hb hr hlocks hP hD hS (Nat.le_of_ble_eq_true rfl) (Nat.le_of_ble_eq_true rfl) dX2_makeWay_82
      · have h := iq c_213 h
        refine lv_aload_n hx hb dX2_makeWay_10 rfl (lv_at hl 0 rfl) ?_
        refine va_get (D := G.1) (ci := 2) (v := .ref m1) (C := RX2) (T := TX2) (N := 6) hx hb hts hinX2 hown hK.1 hP 0 rfl rfl 0 (by decide) lk9 (fun _ h9 => h9) rfl dX2_makeWay_11 ?_
        refine lv_iload_n hx hb dX2_makeWay_14 rfl (lv_at hl 2 rfl) ?_
        refine lv_aload_n hx hb dX2_makeWay_15 rfl (lv_at hl 0 rfl) ?_
        refine va_get (D := G.1) (ci := 2) (v := .ref m1) (C := RX2) (T := TX2) (N := 6) hx hb hts hinX2 hown hK.1 hP 0 rfl rfl 0 (by decide) lk9 (fun _ h9 => h9) rfl dX2_makeWay_16 ?_
        refine lv_iload_n hx hb dX2_makeWay_19 rfl (lv_at hl 2 rfl) ?_
        refine lv_iconst (v := 1) hx hb dX2_makeWay_20 (by decide) ?_
        refine lv_isub hx hb dX2_makeWay_21 ?_
        refine wiald h hx hb hK hP 1 rfl dX2_makeWay_22 (fun v_214 h => ?_)
        refine wiast h hx hb hK hP hD hS 1 rfl dX2_makeWay_23 (fun H locs hP hD hS h => ?_)
        have hP : va_P G.1 vwCl (w_M G m0 m1 m2 m3 m4 m5 ((upd m_x (Int32.toNatClampNeg x2) v_214)) m_y m_d m_t m_v m_n) H := hP
        have hD : va_D A (w_M G m0 m1 m2 m3 m4 m5 ((upd m_x (Int32.toNatClampNeg x2) v_214)) m_y m_d m_t m_v m_n) := hD
        refine lv_aload_n hx hb dX2_makeWay_24 rfl (lv_at hl 0 rfl) ?_
        refine va_get (D := G.1) (ci := 2) (v := .ref m2) (C := RX2) (T := TX2) (N := 6) hx hb hts hinX2 hown hK.1 hP 0 rfl rfl 1 (by decide) lk15 (fun _ h9 => h9) rfl dX2_makeWay_25 ?_
        refine lv_iload_n hx hb dX2_makeWay_28 rfl (lv_at hl 2 rfl) ?_
        refine lv_aload_n hx hb dX2_makeWay_29 rfl (lv_at hl 0 rfl) ?_
        refine va_get (D := G.1) (ci := 2) (v := .ref m2) (C := RX2) (T := TX2) (N := 6) hx hb hts hinX2 hown hK.1 hP 0 rfl rfl 1 (by decide) lk15 (fun _ h9 => h9) rfl dX2_makeWay_30 ?_
        refine lv_iload_n hx hb dX2_makeWay_33 rfl (lv_at hl 2 rfl) ?_
        refine lv_iconst (v := 1) hx hb dX2_makeWay_34 (by decide) ?_
        refine lv_isub hx hb dX2_makeWay_35 ?_
        refine wiald h hx hb hK hP 2 rfl dX2_makeWay_36 (fun v_215 h => ?_)
        refine wiast h hx hb hK hP hD hS 2 rfl dX2_makeWay_37 (fun H locs hP hD hS h => ?_)
        have hP : va_P G.1 vwCl (w_M G m0 m1 m2 m3 m4 m5 ((upd m_x (Int32.toNatClampNeg x2) v_214)) ((upd m_y (Int32.toNatClampNeg x2) v_215)) m_d m_t m_v m_n) H := hP
        have hD : va_D A (w_M G m0 m1 m2 m3 m4 m5 ((upd m_x (Int32.toNatClampNeg x2) v_214)) ((upd m_y (Int32.toNatClampNeg x2) v_215)) m_d m_t m_v m_n) := hD
        refine lv_aload_n hx hb dX2_makeWay_38 rfl (lv_at hl 0 rfl) ?_
        refine va_get (D := G.1) (ci := 2) (v := .ref m3) (C := RX2) (T := TX2) (N := 6) hx hb hts hinX2 hown hK.1 hP 0 rfl rfl 2 (by decide) lk18 (fun _ h9 => h9) rfl dX2_makeWay_39 ?_
        refine lv_iload_n hx hb dX2_makeWay_42 rfl (lv_at hl 2 rfl) ?_
        refine lv_aload_n hx hb dX2_makeWay_43 rfl (lv_at hl 0 rfl) ?_
        refine va_get (D := G.1) (ci := 2) (v := .ref m3) (C := RX2) (T := TX2) (N := 6) hx hb hts hinX2 hown hK.1 hP 0 rfl rfl 2 (by decide) lk18 (fun _ h9 => h9) rfl dX2_makeWay_44 ?_
        refine lv_iload_n hx hb dX2_makeWay_47 rfl (lv_at hl 2 rfl) ?_
        refine lv_iconst (v := 1) hx hb dX2_makeWay_48 (by decide) ?_
        refine lv_isub hx hb dX2_makeWay_49 ?_
        refine wiald h hx hb hK hP 3 rfl dX2_makeWay_50 (fun v_216 h => ?_)
        refine wiast h hx hb hK hP hD hS 3 rfl dX2_makeWay_51 (fun H locs hP hD hS h => ?_)
        have hP : va_P G.1 vwCl (w_M G m0 m1 m2 m3 m4 m5 ((upd m_x (Int32.toNatClampNeg x2) v_214)) ((upd m_y (Int32.toNatClampNeg x2) v_215)) ((upd m_d (Int32.toNatClampNeg x2) v_216)) m_t m_v m_n) H := hP
        have hD : va_D A (w_M G m0 m1 m2 m3 m4 m5 ((upd m_x (Int32.toNatClampNeg x2) v_214)) ((upd m_y (Int32.toNatClampNeg x2) v_215)) ((upd m_d (Int32.toNatClampNeg x2) v_216)) m_t m_v m_n) := hD
        refine lv_aload_n hx hb dX2_makeWay_52 rfl (lv_at hl 0 rfl) ?_
        refine va_get (D := G.1) (ci := 2) (v := .ref m4) (C := RX2) (T := TX2) (N := 6) hx hb hts hinX2 hown hK.1 hP 0 rfl rfl 3 (by decide) lk21 (fun _ h9 => h9) rfl dX2_makeWay_53 ?_
        refine lv_iload_n hx hb dX2_makeWay_56 rfl (lv_at hl 2 rfl) ?_
        refine lv_aload_n hx hb dX2_makeWay_57 rfl (lv_at hl 0 rfl) ?_
        refine va_get (D := G.1) (ci := 2) (v := .ref m4) (C := RX2) (T := TX2) (N := 6) hx hb hts hinX2 hown hK.1 hP 0 rfl rfl 3 (by decide) lk21 (fun _ h9 => h9) rfl dX2_makeWay_58 ?_
        refine lv_iload_n hx hb dX2_makeWay_61 rfl (lv_at hl 2 rfl) ?_
        refine lv_iconst (v := 1) hx hb dX2_makeWay_62 (by decide) ?_
        refine lv_isub hx hb dX2_makeWay_63 ?_
        refine wiald h hx hb hK hP 4 rfl dX2_makeWay_64 (fun v_217 h => ?_)
        refine wiast h hx hb hK hP hD hS 4 rfl dX2_makeWay_65 (fun H locs hP hD hS h => ?_)
        have hP : va_P G.1 vwCl (w_M G m0 m1 m2 m3 m4 m5 ((upd m_x (Int32.toNatClampNeg x2) v_214)) ((upd m_y (Int32.toNatClampNeg x2) v_215)) ((upd m_d (Int32.toNatClampNeg x2) v_216)) ((upd m_t (Int32.toNatClampNeg x2) v_217)) m_v m_n) H := hP
        have hD : va_D A (w_M G m0 m1 m2 m3 m4 m5 ((upd m_x (Int32.toNatClampNeg x2) v_214)) ((upd m_y (Int32.toNatClampNeg x2) v_215)) ((upd m_d (Int32.toNatClampNeg x2) v_216)) ((upd m_t (Int32.toNatClampNeg x2) v_217)) m_v m_n) := hD
        refine lv_iinc (v := (x2 + (-1))) (lv' := [(2, .int (x2 + (-1))), (0, .ref m0), (1, .int x1)]) hx hb dX2_makeWay_66 hl (k := 2) rfl rfl (by decide) rfl (fun ls hl => ?_)
        refine lv_goto (tgt := 5) hx hb dX2_makeWay_69 (by decide) ?_
        exact ih _ _ _ _ _ _ _ _ _ hP hD hS (lv_sub hl [1, 2, 0] rfl) h
  rw [fX2_makeWay.eq_1] at h
  refine lv_aload_n hx hb dX2_makeWay_0 rfl (lv_at hl 0 rfl) ?_
  refine va_get (D := G.1) (ci := 2) (v := .int m_n) (C := RX2) (T := TX2) (N := 6) hx hb hts hinX2 hown hK.1 hP 0 rfl rfl 5 (by decide) lk27 (fun _ h9 => h9) rfl dX2_makeWay_1 ?_
  refine lv_istore_n (lv' := [(2, .int m_n), (0, .ref m0), (1, .int x1)]) hx hb dX2_makeWay_4 rfl hl (by decide) rfl (fun ls hl => ?_)
  exact w_5  _  ()  N _ _ _ _ _ _ _ _ _ hP hD hS (lv_sub hl [1, 2, 0] rfl) h
def fX2_enter_b62 (N : Nat) (m_x : Nat → Int32) (m_y : Nat → Int32) (m_d : Nat → Int32) (m_n : Int32) (x6 : Int32) (x7 : Int32) (x8 : Int32) (k_92 : Int32 → Option ((Nat → Int32) × (Nat → Int32) × (Nat → Int32) × (Nat → Int32) × Int32)) : Nat → Int32 → Option ((Nat → Int32) × (Nat → Int32) × (Nat → Int32) × (Nat → Int32) × Int32)
  | 0, _ => none
  | n + 1, x9 => if m_n ≤ x9 then k_92 x9 else bd (fX2_order N m_x m_y m_d x9 x6 x7 x8) (fun u_219 => if 0 ≤ u_219 then k_92 x9 else fX2_enter_b62 N m_x m_y m_d m_n x6 x7 x8 k_92 n (x9 + 1))
def fX2_enter_b131 (N : Nat) (x4 : Int32) (x6 : Int32) (x7 : Int32) (x8 : Int32) (x9 : Int32) (m_x : Nat → Int32) (m_y : Nat → Int32) (m_d : Nat → Int32) (m_t : Nat → Int32) (m_n : Int32) : Option ((Nat → Int32) × (Nat → Int32) × (Nat → Int32) × (Nat → Int32) × Int32) := if 36 ≤ m_n then some (m_x, m_y, m_d, m_t, m_n) else bd (fX2_makeWay N m_x m_y m_d m_t m_n x9) (fun u_223 => ck 36 x9 (ck 36 x9 (ck 36 x9 (ck 36 x9 (some ((upd u_223.1 (Int32.toNatClampNeg x9) x6), (upd u_223.2.1 (Int32.toNatClampNeg x9) x7), (upd u_223.2.2.1 (Int32.toNatClampNeg x9) x8), (upd u_223.2.2.2.1 (Int32.toNatClampNeg x9) x4), u_223.2.2.2.2))))))
def fX2_enter_b41 (N : Nat) (x3 : Int32) (x4 : Int32) (x5 : Int32) (x6 : Int32) (m_x : Nat → Int32) (m_y : Nat → Int32) (m_d : Nat → Int32) (m_t : Nat → Int32) (m_n : Int32) (s0 : Int32) : Option ((Nat → Int32) × (Nat → Int32) × (Nat → Int32) × (Nat → Int32) × Int32) := if x5 ≤ 1 then fX2_enter_b62 N m_x m_y m_d m_n x6 s0 x3 (fun (x9_226 : Int32) => if m_n ≤ x9_226 then fX2_enter_b131 N x4 x6 s0 x3 x9_226 m_x m_y m_d m_t m_n else bd (fX2_order N m_x m_y m_d x9_226 x6 s0 x3) (fun u_228 => if u_228 = 0 then rd m_t 36 x9_226 (fun v_231 => ck 36 x9_226 (some (m_x, m_y, m_d, (upd m_t (Int32.toNatClampNeg x9_226) (v_231 ||| x4)), m_n))) else fX2_enter_b131 N x4 x6 s0 x3 x9_226 m_x m_y m_d m_t m_n)) N 0 else nz x5 (fX2_enter_b62 N m_x m_y m_d m_n x6 s0 (x3 / x5) (fun (x9_232 : Int32) => if m_n ≤ x9_232 then fX2_enter_b131 N x4 x6 s0 (x3 / x5) x9_232 m_x m_y m_d m_t m_n else bd (fX2_order N m_x m_y m_d x9_232 x6 s0 (x3 / x5)) (fun u_234 => if u_234 = 0 then rd m_t 36 x9_232 (fun v_237 => ck 36 x9_232 (some (m_x, m_y, m_d, (upd m_t (Int32.toNatClampNeg x9_232) (v_237 ||| x4)), m_n))) else fX2_enter_b131 N x4 x6 s0 (x3 / x5) x9_232 m_x m_y m_d m_t m_n)) N 0)
def fX2_enter_b25 (N : Nat) (x2 : Int32) (x3 : Int32) (x4 : Int32) (x5 : Int32) (m_x : Nat → Int32) (m_y : Nat → Int32) (m_d : Nat → Int32) (m_t : Nat → Int32) (m_n : Int32) (s0 : Int32) : Option ((Nat → Int32) × (Nat → Int32) × (Nat → Int32) × (Nat → Int32) × Int32) := if x5 ≤ 1 then fX2_enter_b41 N x3 x4 x5 s0 m_x m_y m_d m_t m_n x2 else nz x5 (fX2_enter_b41 N x3 x4 x5 s0 m_x m_y m_d m_t m_n (x2 / x5))
def fX2_enter (N : Nat) (m_x : Nat → Int32) (m_y : Nat → Int32) (m_d : Nat → Int32) (m_t : Nat → Int32) (m_n : Int32) (x1 : Int32) (x2 : Int32) (x3 : Int32) (x4 : Int32) : Option ((Nat → Int32) × (Nat → Int32) × (Nat → Int32) × (Nat → Int32) × Int32) := bd (fX2_commonDivisor N x1 x2) (fun u_239 => bd (fX2_commonDivisor N u_239 x3) (fun u_241 => if u_241 ≤ 1 then fX2_enter_b25 N x2 x3 x4 u_241 m_x m_y m_d m_t m_n x1 else nz u_241 (fX2_enter_b25 N x2 x3 x4 u_241 m_x m_y m_d m_t m_n (x1 / u_241))))
set_option maxHeartbeats 4000000 in
set_option maxRecDepth 100000 in
theorem kX2_enter {l : Launch} {G : wG} (m0 m1 m2 m3 m4 m5 : Nat) (m_x : Nat → Int32) (m_y : Nat → Int32) (m_d : Nat → Int32) (m_t : Nat → Int32) (m_v : Nat → Int32) (m_n : Int32) (x1 : Int32) (x2 : Int32) (x3 : Int32) (x4 : Int32) (N : Nat) (v : (Nat → Int32) × (Nat → Int32) × (Nat → Int32) × (Nat → Int32) × Int32) (h : fX2_enter N m_x m_y m_d m_t m_n x1 x2 x3 x4 = some v) : wCv l G yX2_enter wsX2_enter ({ frames := 2, cells := 0, slots := 0, locals := 45 } : Room) [.ref m0, .int x1, .int x2, .int x3, .int x4] (w_M G m0 m1 m2 m3 m4 m5 m_x m_y m_d m_t m_v m_n) (w_M G m0 m1 m2 m3 m4 m5 v.1 v.2.1 v.2.2.1 v.2.2.2.1 m_v v.2.2.2.2) 0 0 := by
  refine wCv.mk (cc := cX2_enter) (maxL := 10) (by decide) rfl (Nat.le_of_ble_eq_true rfl) ?_
  intro p e s m below meth c A ls hx hb hml hr hlocks hts hown hK hA hP hD hl
  have hx : p.tables.exec = Jvm.exec := hx
  have hown : s.vm.findClass RX2 = some m.cls := hown
  have hinX2 : ∀ w ∈ wsX20, w ∈ wsX2_enter := by decide +kernel
  have lk15 := hts (.fieldLink RX2 15 "Chamberwright$Meets" "ys" "[I") (by decide +kernel)
  have lk18 := hts (.fieldLink RX2 18 "Chamberwright$Meets" "ds" "[I") (by decide +kernel)
  have lk21 := hts (.fieldLink RX2 21 "Chamberwright$Meets" "through" "[I") (by decide +kernel)
  have lk27 := hts (.fieldLink RX2 27 "Chamberwright$Meets" "count" "I") (by decide +kernel)
  have lk9 := hts (.fieldLink RX2 9 "Chamberwright$Meets" "xs" "[I") (by decide +kernel)
  have hS : va_S A s.heap s.heap [] := va_S.rf
  have hP : va_P G.1 vwCl (w_M G m0 m1 m2 m3 m4 m5 m_x m_y m_d m_t m_v m_n) s.heap := hP
  have hD : va_D A (w_M G m0 m1 m2 m3 m4 m5 m_x m_y m_d m_t m_v m_n) := hD
  have hl : lv_has ls 10 [(0, .ref m0), (1, .int x1), (2, .int x2), (3, .int x3), (4, .int x4)] := hl
  obtain ⟨args, hargs⟩ : ∃ z : Array Value, z = ([.ref m0, .int x1, .int x2, .int x3, .int x4] : List Value).toArray := ⟨_, rfl⟩
  rw [← hargs]
  rw [← hargs] at hts
  have w_62 : ∀ (k_92 : Int32 → Option ((Nat → Int32) × (Nat → Int32) × (Nat → Int32) × (Nat → Int32) × Int32)) (x4 : Int32) (x6 : Int32) (x7 : Int32) (x8 : Int32) (m_x : Nat → Int32) (m_y : Nat → Int32) (m_d : Nat → Int32) (m_t : Nat → Int32) (m_n : Int32) (_z : Unit), (∀ (y9 : Int32) (H : Heap) (locs : List Loc) (ls : Array Slot), va_P G.1 vwCl (w_M G m0 m1 m2 m3 m4 m5 m_x m_y m_d m_t m_v m_n) H → va_D A (w_M G m0 m1 m2 m3 m4 m5 m_x m_y m_d m_t m_v m_n) → va_S A s.heap H locs → lv_has ls 10 [(0, .ref m0), (4, .int x4), (6, .int x6), (7, .int x7), (8, .int x8), (9, .int y9)] → k_92 y9 = some v → W p l e ({ frames := 2, cells := 0, slots := 0, locals := 45 } : Room) s m args below meth c H locs 0 0 (wQv G A below args s (w_M G m0 m1 m2 m3 m4 m5 v.1 v.2.1 v.2.2.1 v.2.2.2.1 m_v v.2.2.2.2) 0 0) (F0 m 92 ls [])) → ∀ (n : Nat) (x9 : Int32)  (H : Heap) (locs : List Loc) (ls : Array Slot), va_P G.1 vwCl (w_M G m0 m1 m2 m3 m4 m5 m_x m_y m_d m_t m_v m_n) H → va_D A (w_M G m0 m1 m2 m3 m4 m5 m_x m_y m_d m_t m_v m_n) → va_S A s.heap H locs → lv_has ls 10 [(0, .ref m0), (4, .int x4), (6, .int x6), (7, .int x7), (8, .int x8), (9, .int x9)] → fX2_enter_b62 N m_x m_y m_d m_n x6 x7 x8 k_92 n x9 = some v → W p l e ({ frames := 2, cells := 0, slots := 0, locals := 45 } : Room) s m args below meth c H locs 0 0 (wQv G A below args s (w_M G m0 m1 m2 m3 m4 m5 v.1 v.2.1 v.2.2.1 v.2.2.2.1 m_v v.2.2.2.2) 0 0) (F0 m 62 ls []) := by
    intro k_92 x4 x6 x7 x8 m_x m_y m_d m_t m_n _z hk_92 n
    induction n with
    | zero =>
      intro x9 H locs ls hP hD hS hl h
      rw [fX2_enter_b62.eq_1] at h
      cases h
    | succ n ih =>
      intro x9 H locs ls hP hD hS hl h
      rw [fX2_enter_b62.eq_2] at h
      refine lv_iload hx hb dX2_enter_62 (lv_at hl 5 rfl) ?_
      refine lv_aload_n hx hb dX2_enter_64 rfl (lv_at hl 0 rfl) ?_
      refine va_get (D := G.1) (ci := 2) (v := .int m_n) (C := RX2) (T := TX2) (N := 6) hx hb hts hinX2 hown hK.1 hP 0 rfl rfl 5 (by decide) lk27 (fun _ h9 => h9) rfl dX2_enter_65 ?_
      refine lv_icmp_ge (tgt := 92) hx hb dX2_enter_68 (by decide) (fun c_218 => ?_) (fun c_218 => ?_)
      · have h := ip c_218 h
        exact hk_92 _ _ _ _ hP hD hS (lv_sub hl [0, 1, 2, 3, 4, 5] rfl) h
      · have h := iq c_218 h
        refine lv_aload_n hx hb dX2_enter_71 rfl (lv_at hl 0 rfl) ?_
        refine lv_iload hx hb dX2_enter_72 (lv_at hl 5 rfl) ?_
        refine lv_iload hx hb dX2_enter_74 (lv_at hl 2 rfl) ?_
        refine lv_iload hx hb dX2_enter_76 (lv_at hl 3 rfl) ?_
        refine lv_iload hx hb dX2_enter_78 (lv_at hl 4 rfl) ?_
        obtain ⟨u_219, hc_220, h⟩ := bd_inv h
        refine wafter_i (wr := []) (w2 := (w_M G m0 m1 m2 m3 m4 m5 m_x m_y m_d m_t m_v m_n)) (va_runV (As := [.int x9, .int x6, .int x7, .int x8]) (rest := []) ⟨hx, hb, hml, hown, hts⟩ (kX2_order (l := l) (G := G) m0 m1 m2 m3 m4 m5 m_x m_y m_d m_t m_v m_n x9 x6 x7 x8 N u_219 hc_220 _) (cwV 4 hts gX2_enter_X2_order rfl rfl rfl (by decide +kernel) ⟨Nat.le_of_ble_eq_true rfl, Nat.le_of_ble_eq_true rfl⟩) (wPreV hP hD hK [0, 1, 2, 3, 4, 5] rfl rfl (ci := 2) (qb := 0) rfl rfl rfl) rfl rfl hl.1 rfl (lv_room (Nat.le_of_ble_eq_true rfl)) dX2_enter_80 ⟨Nat.zero_le _, Nat.zero_le _⟩) hP hD hS hA [0, 1, 2, 3, 4, 5] [] [0, 1, 2, 3, 4, 5] rfl rfl rfl (by decide) rfl rfl (fun H locs hP hD hS => ?_)
        refine lv_if_ge (tgt := 92) hx hb dX2_enter_83 (by decide) (fun c_221 => ?_) (fun c_221 => ?_)
        · have h := ip c_221 h
          exact hk_92 _ _ _ _ hP hD hS (lv_sub hl [0, 1, 2, 3, 4, 5] rfl) h
        · have h := iq c_221 h
          refine lv_iinc (v := (x9 + 1)) (lv' := [(9, .int (x9 + 1)), (0, .ref m0), (4, .int x4), (6, .int x6), (7, .int x7), (8, .int x8)]) hx hb dX2_enter_86 hl (k := 5) rfl rfl (by decide) rfl (fun ls hl => ?_)
          refine lv_goto (tgt := 62) hx hb dX2_enter_89 (by decide) ?_
          exact ih _ _ _ _ hP hD hS (lv_sub hl [1, 2, 3, 4, 5, 0] rfl) h
  have w_131 : ∀ (x4 : Int32) (x6 : Int32) (x7 : Int32) (x8 : Int32) (x9 : Int32) (m_x : Nat → Int32) (m_y : Nat → Int32) (m_d : Nat → Int32) (m_t : Nat → Int32) (m_n : Int32)  (H : Heap) (locs : List Loc) (ls : Array Slot), va_P G.1 vwCl (w_M G m0 m1 m2 m3 m4 m5 m_x m_y m_d m_t m_v m_n) H → va_D A (w_M G m0 m1 m2 m3 m4 m5 m_x m_y m_d m_t m_v m_n) → va_S A s.heap H locs → lv_has ls 10 [(0, .ref m0), (4, .int x4), (6, .int x6), (7, .int x7), (8, .int x8), (9, .int x9)] → fX2_enter_b131 N x4 x6 x7 x8 x9 m_x m_y m_d m_t m_n = some v → W p l e ({ frames := 2, cells := 0, slots := 0, locals := 45 } : Room) s m args below meth c H locs 0 0 (wQv G A below args s (w_M G m0 m1 m2 m3 m4 m5 v.1 v.2.1 v.2.2.1 v.2.2.2.1 m_v v.2.2.2.2) 0 0) (F0 m 131 ls []) := by
    intro x4 x6 x7 x8 x9 m_x m_y m_d m_t m_n H locs ls hP hD hS hl h
    rw [fX2_enter_b131.eq_1] at h
    refine lv_aload_n hx hb dX2_enter_131 rfl (lv_at hl 0 rfl) ?_
    refine va_get (D := G.1) (ci := 2) (v := .int m_n) (C := RX2) (T := TX2) (N := 6) hx hb hts hinX2 hown hK.1 hP 0 rfl rfl 5 (by decide) lk27 (fun _ h9 => h9) rfl dX2_enter_132 ?_
    refine lv_bipush (v := 36) hx hb dX2_enter_135 (by decide) ?_
    refine lv_icmp_ge (tgt := 182) hx hb dX2_enter_137 (by decide) (fun c_222 => ?_) (fun c_222 => ?_)
    · have h := ip c_222 h
      obtain rfl := Option.some.inj h
      exact wrv hx hb hr hlocks hP hD hS (Nat.le_of_ble_eq_true rfl) (Nat.le_of_ble_eq_true rfl) dX2_enter_182
    · have h := iq c_222 h
      refine lv_aload_n hx hb dX2_enter_140 rfl (lv_at hl 0 rfl) ?_
      refine lv_iload hx hb dX2_enter_141 (lv_at hl 5 rfl) ?_
      obtain ⟨u_223, hc_224, h⟩ := bd_inv h
      refine wafter_v (wr := []) (w2 := (w_M G m0 m1 m2 m3 m4 m5 u_223.1 u_223.2.1 u_223.2.2.1 u_223.2.2.2.1 m_v u_223.2.2.2.2)) (va_runV (As := [.int x9]) (rest := []) ⟨hx, hb, hml, hown, hts⟩ (kX2_makeWay (l := l) (G := G) m0 m1 m2 m3 m4 m5 m_x m_y m_d m_t m_v m_n x9 N u_223 hc_224 _) (cwV 1 hts gX2_enter_X2_makeWay rfl rfl rfl (by decide +kernel) ⟨Nat.le_of_ble_eq_true rfl, Nat.le_of_ble_eq_true rfl⟩) (wPreV hP hD hK [0, 1, 2, 3, 4, 5] rfl rfl (ci := 2) (qb := 0) rfl rfl rfl) rfl rfl hl.1 rfl (lv_room (Nat.le_of_ble_eq_true rfl)) dX2_enter_143 ⟨Nat.zero_le _, Nat.zero_le _⟩) hP hD hS hA [0, 1, 2, 3, 4, 5] [] [0, 1, 2, 3, 4, 5] rfl rfl rfl (by decide) rfl rfl (fun H locs hP hD hS => ?_)
      refine lv_aload_n hx hb dX2_enter_146 rfl (lv_at hl 0 rfl) ?_
      refine va_get (D := G.1) (ci := 2) (v := .ref m1) (C := RX2) (T := TX2) (N := 6) hx hb hts hinX2 hown hK.1 hP 0 rfl rfl 0 (by decide) lk9 (fun _ h9 => h9) rfl dX2_enter_147 ?_
      refine lv_iload hx hb dX2_enter_150 (lv_at hl 5 rfl) ?_
      refine lv_iload hx hb dX2_enter_152 (lv_at hl 2 rfl) ?_
      refine wiast h hx hb hK hP hD hS 1 rfl dX2_enter_154 (fun H locs hP hD hS h => ?_)
      have hP : va_P G.1 vwCl (w_M G m0 m1 m2 m3 m4 m5 ((upd u_223.1 (Int32.toNatClampNeg x9) x6)) u_223.2.1 u_223.2.2.1 u_223.2.2.2.1 m_v u_223.2.2.2.2) H := hP
      have hD : va_D A (w_M G m0 m1 m2 m3 m4 m5 ((upd u_223.1 (Int32.toNatClampNeg x9) x6)) u_223.2.1 u_223.2.2.1 u_223.2.2.2.1 m_v u_223.2.2.2.2) := hD
      refine lv_aload_n hx hb dX2_enter_155 rfl (lv_at hl 0 rfl) ?_
      refine va_get (D := G.1) (ci := 2) (v := .ref m2) (C := RX2) (T := TX2) (N := 6) hx hb hts hinX2 hown hK.1 hP 0 rfl rfl 1 (by decide) lk15 (fun _ h9 => h9) rfl dX2_enter_156 ?_
      refine lv_iload hx hb dX2_enter_159 (lv_at hl 5 rfl) ?_
      refine lv_iload hx hb dX2_enter_161 (lv_at hl 3 rfl) ?_
      refine wiast h hx hb hK hP hD hS 2 rfl dX2_enter_163 (fun H locs hP hD hS h => ?_)
      have hP : va_P G.1 vwCl (w_M G m0 m1 m2 m3 m4 m5 ((upd u_223.1 (Int32.toNatClampNeg x9) x6)) ((upd u_223.2.1 (Int32.toNatClampNeg x9) x7)) u_223.2.2.1 u_223.2.2.2.1 m_v u_223.2.2.2.2) H := hP
      have hD : va_D A (w_M G m0 m1 m2 m3 m4 m5 ((upd u_223.1 (Int32.toNatClampNeg x9) x6)) ((upd u_223.2.1 (Int32.toNatClampNeg x9) x7)) u_223.2.2.1 u_223.2.2.2.1 m_v u_223.2.2.2.2) := hD
      refine lv_aload_n hx hb dX2_enter_164 rfl (lv_at hl 0 rfl) ?_
      refine va_get (D := G.1) (ci := 2) (v := .ref m3) (C := RX2) (T := TX2) (N := 6) hx hb hts hinX2 hown hK.1 hP 0 rfl rfl 2 (by decide) lk18 (fun _ h9 => h9) rfl dX2_enter_165 ?_
      refine lv_iload hx hb dX2_enter_168 (lv_at hl 5 rfl) ?_
      refine lv_iload hx hb dX2_enter_170 (lv_at hl 4 rfl) ?_
      refine wiast h hx hb hK hP hD hS 3 rfl dX2_enter_172 (fun H locs hP hD hS h => ?_)
      have hP : va_P G.1 vwCl (w_M G m0 m1 m2 m3 m4 m5 ((upd u_223.1 (Int32.toNatClampNeg x9) x6)) ((upd u_223.2.1 (Int32.toNatClampNeg x9) x7)) ((upd u_223.2.2.1 (Int32.toNatClampNeg x9) x8)) u_223.2.2.2.1 m_v u_223.2.2.2.2) H := hP
      have hD : va_D A (w_M G m0 m1 m2 m3 m4 m5 ((upd u_223.1 (Int32.toNatClampNeg x9) x6)) ((upd u_223.2.1 (Int32.toNatClampNeg x9) x7)) ((upd u_223.2.2.1 (Int32.toNatClampNeg x9) x8)) u_223.2.2.2.1 m_v u_223.2.2.2.2) := hD
      refine lv_aload_n hx hb dX2_enter_173 rfl (lv_at hl 0 rfl) ?_
      refine va_get (D := G.1) (ci := 2) (v := .ref m4) (C := RX2) (T := TX2) (N := 6) hx hb hts hinX2 hown hK.1 hP 0 rfl rfl 3 (by decide) lk21 (fun _ h9 => h9) rfl dX2_enter_174 ?_
      refine lv_iload hx hb dX2_enter_177 (lv_at hl 5 rfl) ?_
      refine lv_iload hx hb dX2_enter_179 (lv_at hl 1 rfl) ?_
      refine wiast h hx hb hK hP hD hS 4 rfl dX2_enter_181 (fun H locs hP hD hS h => ?_)
      have hP : va_P G.1 vwCl (w_M G m0 m1 m2 m3 m4 m5 ((upd u_223.1 (Int32.toNatClampNeg x9) x6)) ((upd u_223.2.1 (Int32.toNatClampNeg x9) x7)) ((upd u_223.2.2.1 (Int32.toNatClampNeg x9) x8)) ((upd u_223.2.2.2.1 (Int32.toNatClampNeg x9) x4)) m_v u_223.2.2.2.2) H := hP
      have hD : va_D A (w_M G m0 m1 m2 m3 m4 m5 ((upd u_223.1 (Int32.toNatClampNeg x9) x6)) ((upd u_223.2.1 (Int32.toNatClampNeg x9) x7)) ((upd u_223.2.2.1 (Int32.toNatClampNeg x9) x8)) ((upd u_223.2.2.2.1 (Int32.toNatClampNeg x9) x4)) m_v u_223.2.2.2.2) := hD
      obtain rfl := Option.some.inj h
      exact wrv hx hb hr hlocks hP hD hS (Nat.le_of_ble_eq_true rfl) (Nat.le_of_ble_eq_true rfl) dX2_enter_182
  have w_41 : ∀ (x3 : Int32) (x4 : Int32) (x5 : Int32) (x6 : Int32) (m_x : Nat → Int32) (m_y : Nat → Int32) (m_d : Nat → Int32) (m_t : Nat → Int32) (m_n : Int32) (s0 : Int32) (H : Heap) (locs : List Loc) (ls : Array Slot), va_P G.1 vwCl (w_M G m0 m1 m2 m3 m4 m5 m_x m_y m_d m_t m_v m_n) H → va_D A (w_M G m0 m1 m2 m3 m4 m5 m_x m_y m_d m_t m_v m_n) → va_S A s.heap H locs → lv_has ls 10 [(0, .ref m0), (3, .int x3), (4, .int x4), (5, .int x5), (6, .int x6)] → fX2_enter_b41 N x3 x4 x5 x6 m_x m_y m_d m_t m_n s0 = some v → W p l e ({ frames := 2, cells := 0, slots := 0, locals := 45 } : Room) s m args below meth c H locs 0 0 (wQv G A below args s (w_M G m0 m1 m2 m3 m4 m5 v.1 v.2.1 v.2.2.1 v.2.2.2.1 m_v v.2.2.2.2) 0 0) (F0 m 41 ls [.int s0]) := by
    intro x3 x4 x5 x6 m_x m_y m_d m_t m_n s0 H locs ls hP hD hS hl h
    rw [fX2_enter_b41.eq_1] at h
    refine lv_istore (lv' := [(7, .int s0), (0, .ref m0), (3, .int x3), (4, .int x4), (5, .int x5), (6, .int x6)]) hx hb dX2_enter_41 hl (by decide) rfl (fun ls hl => ?_)
    refine lv_iload hx hb dX2_enter_43 (lv_at hl 4 rfl) ?_
    refine lv_iconst (v := 1) hx hb dX2_enter_45 (by decide) ?_
    refine lv_icmp_le (tgt := 56) hx hb dX2_enter_46 (by decide) (fun c_225 => ?_) (fun c_225 => ?_)
    · have h := ip c_225 h
      refine lv_iload_n hx hb dX2_enter_56 rfl (lv_at hl 2 rfl) ?_
      refine lv_istore (lv' := [(8, .int x3), (7, .int s0), (0, .ref m0), (3, .int x3), (4, .int x4), (5, .int x5), (6, .int x6)]) hx hb dX2_enter_57 hl (by decide) rfl (fun ls hl => ?_)
      refine lv_iconst (v := 0) hx hb dX2_enter_59 (by decide) ?_
      refine lv_istore (lv' := [(9, .int 0), (8, .int x3), (7, .int s0), (0, .ref m0), (3, .int x3), (4, .int x4), (5, .int x5), (6, .int x6)]) hx hb dX2_enter_60 hl (by decide) rfl (fun ls hl => ?_)
      refine w_62 _ _ _ _ _ _ _ _ _ _ () (fun x9_226 H locs ls hP hD hS hl h => ?_) N _  _ _ _ hP hD hS (lv_sub hl [3, 5, 7, 2, 1, 0] rfl) h
      refine lv_iload hx hb dX2_enter_92 (lv_at hl 5 rfl) ?_
      refine lv_aload_n hx hb dX2_enter_94 rfl (lv_at hl 0 rfl) ?_
      refine va_get (D := G.1) (ci := 2) (v := .int m_n) (C := RX2) (T := TX2) (N := 6) hx hb hts hinX2 hown hK.1 hP 0 rfl rfl 5 (by decide) lk27 (fun _ h9 => h9) rfl dX2_enter_95 ?_
      refine lv_icmp_ge (tgt := 131) hx hb dX2_enter_98 (by decide) (fun c_227 => ?_) (fun c_227 => ?_)
      · have h := ip c_227 h
        exact w_131  _ _ _ _ _ _ _ _ _ _  _ _ _  hP hD hS (lv_sub hl [0, 1, 2, 3, 4, 5] rfl) h
      · have h := iq c_227 h
        refine lv_aload_n hx hb dX2_enter_101 rfl (lv_at hl 0 rfl) ?_
        refine lv_iload hx hb dX2_enter_102 (lv_at hl 5 rfl) ?_
        refine lv_iload hx hb dX2_enter_104 (lv_at hl 2 rfl) ?_
        refine lv_iload hx hb dX2_enter_106 (lv_at hl 3 rfl) ?_
        refine lv_iload hx hb dX2_enter_108 (lv_at hl 4 rfl) ?_
        obtain ⟨u_228, hc_229, h⟩ := bd_inv h
        refine wafter_i (wr := []) (w2 := (w_M G m0 m1 m2 m3 m4 m5 m_x m_y m_d m_t m_v m_n)) (va_runV (As := [.int x9_226, .int x6, .int s0, .int x3]) (rest := []) ⟨hx, hb, hml, hown, hts⟩ (kX2_order (l := l) (G := G) m0 m1 m2 m3 m4 m5 m_x m_y m_d m_t m_v m_n x9_226 x6 s0 x3 N u_228 hc_229 _) (cwV 4 hts gX2_enter_X2_order rfl rfl rfl (by decide +kernel) ⟨Nat.le_of_ble_eq_true rfl, Nat.le_of_ble_eq_true rfl⟩) (wPreV hP hD hK [0, 1, 2, 3, 4, 5] rfl rfl (ci := 2) (qb := 0) rfl rfl rfl) rfl rfl hl.1 rfl (lv_room (Nat.le_of_ble_eq_true rfl)) dX2_enter_110 ⟨Nat.zero_le _, Nat.zero_le _⟩) hP hD hS hA [0, 1, 2, 3, 4, 5] [] [0, 1, 2, 3, 4, 5] rfl rfl rfl (by decide) rfl rfl (fun H locs hP hD hS => ?_)
        refine lv_if_ne (tgt := 131) hx hb dX2_enter_113 (by decide) (fun c_230 => ?_) (fun c_230 => ?_)
        · have h := iq c_230 h
          exact w_131  _ _ _ _ _ _ _ _ _ _  _ _ _  hP hD hS (lv_sub hl [0, 1, 2, 3, 4, 5] rfl) h
        · have h := ip c_230 h
          refine lv_aload_n hx hb dX2_enter_116 rfl (lv_at hl 0 rfl) ?_
          refine va_get (D := G.1) (ci := 2) (v := .ref m4) (C := RX2) (T := TX2) (N := 6) hx hb hts hinX2 hown hK.1 hP 0 rfl rfl 3 (by decide) lk21 (fun _ h9 => h9) rfl dX2_enter_117 ?_
          refine lv_iload hx hb dX2_enter_120 (lv_at hl 5 rfl) ?_
          refine lv_dup2_11 hx hb dX2_enter_122 rfl rfl ?_
          refine wiald h hx hb hK hP 4 rfl dX2_enter_123 (fun v_231 h => ?_)
          refine lv_iload hx hb dX2_enter_124 (lv_at hl 1 rfl) ?_
          refine lv_ior hx hb dX2_enter_126 ?_
          refine wiast h hx hb hK hP hD hS 4 rfl dX2_enter_127 (fun H locs hP hD hS h => ?_)
          have hP : va_P G.1 vwCl (w_M G m0 m1 m2 m3 m4 m5 m_x m_y m_d ((upd m_t (Int32.toNatClampNeg x9_226) (v_231 ||| x4))) m_v m_n) H := hP
          have hD : va_D A (w_M G m0 m1 m2 m3 m4 m5 m_x m_y m_d ((upd m_t (Int32.toNatClampNeg x9_226) (v_231 ||| x4))) m_v m_n) := hD
          refine lv_goto (tgt := 182) hx hb dX2_enter_128 (by decide) ?_
          obtain rfl := Option.some.inj h
          exact wrv hx hb hr hlocks hP hD hS (Nat.le_of_ble_eq_true rfl) (Nat.le_of_ble_eq_true rfl) dX2_enter_182
    · have h := iq c_225 h
      refine lv_iload_n hx hb dX2_enter_49 rfl (lv_at hl 2 rfl) ?_
      refine lv_iload hx hb dX2_enter_50 (lv_at hl 4 rfl) ?_
      obtain ⟨hz, h⟩ := nz_inv h
      refine lv_idiv hx hb dX2_enter_52 hz ?_
      refine lv_goto (tgt := 57) hx hb dX2_enter_53 (by decide) ?_
      refine lv_istore (lv' := [(8, .int (x3 / x5)), (7, .int s0), (0, .ref m0), (3, .int x3), (4, .int x4), (5, .int x5), (6, .int x6)]) hx hb dX2_enter_57 hl (by decide) rfl (fun ls hl => ?_)
      refine lv_iconst (v := 0) hx hb dX2_enter_59 (by decide) ?_
      refine lv_istore (lv' := [(9, .int 0), (8, .int (x3 / x5)), (7, .int s0), (0, .ref m0), (3, .int x3), (4, .int x4), (5, .int x5), (6, .int x6)]) hx hb dX2_enter_60 hl (by decide) rfl (fun ls hl => ?_)
      refine w_62 _ _ _ _ _ _ _ _ _ _ () (fun x9_232 H locs ls hP hD hS hl h => ?_) N _  _ _ _ hP hD hS (lv_sub hl [3, 5, 7, 2, 1, 0] rfl) h
      refine lv_iload hx hb dX2_enter_92 (lv_at hl 5 rfl) ?_
      refine lv_aload_n hx hb dX2_enter_94 rfl (lv_at hl 0 rfl) ?_
      refine va_get (D := G.1) (ci := 2) (v := .int m_n) (C := RX2) (T := TX2) (N := 6) hx hb hts hinX2 hown hK.1 hP 0 rfl rfl 5 (by decide) lk27 (fun _ h9 => h9) rfl dX2_enter_95 ?_
      refine lv_icmp_ge (tgt := 131) hx hb dX2_enter_98 (by decide) (fun c_233 => ?_) (fun c_233 => ?_)
      · have h := ip c_233 h
        exact w_131  _ _ _ _ _ _ _ _ _ _  _ _ _  hP hD hS (lv_sub hl [0, 1, 2, 3, 4, 5] rfl) h
      · have h := iq c_233 h
        refine lv_aload_n hx hb dX2_enter_101 rfl (lv_at hl 0 rfl) ?_
        refine lv_iload hx hb dX2_enter_102 (lv_at hl 5 rfl) ?_
        refine lv_iload hx hb dX2_enter_104 (lv_at hl 2 rfl) ?_
        refine lv_iload hx hb dX2_enter_106 (lv_at hl 3 rfl) ?_
        refine lv_iload hx hb dX2_enter_108 (lv_at hl 4 rfl) ?_
        obtain ⟨u_234, hc_235, h⟩ := bd_inv h
        refine wafter_i (wr := []) (w2 := (w_M G m0 m1 m2 m3 m4 m5 m_x m_y m_d m_t m_v m_n)) (va_runV (As := [.int x9_232, .int x6, .int s0, .int (x3 / x5)]) (rest := []) ⟨hx, hb, hml, hown, hts⟩ (kX2_order (l := l) (G := G) m0 m1 m2 m3 m4 m5 m_x m_y m_d m_t m_v m_n x9_232 x6 s0 (x3 / x5) N u_234 hc_235 _) (cwV 4 hts gX2_enter_X2_order rfl rfl rfl (by decide +kernel) ⟨Nat.le_of_ble_eq_true rfl, Nat.le_of_ble_eq_true rfl⟩) (wPreV hP hD hK [0, 1, 2, 3, 4, 5] rfl rfl (ci := 2) (qb := 0) rfl rfl rfl) rfl rfl hl.1 rfl (lv_room (Nat.le_of_ble_eq_true rfl)) dX2_enter_110 ⟨Nat.zero_le _, Nat.zero_le _⟩) hP hD hS hA [0, 1, 2, 3, 4, 5] [] [0, 1, 2, 3, 4, 5] rfl rfl rfl (by decide) rfl rfl (fun H locs hP hD hS => ?_)
        refine lv_if_ne (tgt := 131) hx hb dX2_enter_113 (by decide) (fun c_236 => ?_) (fun c_236 => ?_)
        · have h := iq c_236 h
          exact w_131  _ _ _ _ _ _ _ _ _ _  _ _ _  hP hD hS (lv_sub hl [0, 1, 2, 3, 4, 5] rfl) h
        · have h := ip c_236 h
          refine lv_aload_n hx hb dX2_enter_116 rfl (lv_at hl 0 rfl) ?_
          refine va_get (D := G.1) (ci := 2) (v := .ref m4) (C := RX2) (T := TX2) (N := 6) hx hb hts hinX2 hown hK.1 hP 0 rfl rfl 3 (by decide) lk21 (fun _ h9 => h9) rfl dX2_enter_117 ?_
          refine lv_iload hx hb dX2_enter_120 (lv_at hl 5 rfl) ?_
          refine lv_dup2_11 hx hb dX2_enter_122 rfl rfl ?_
          refine wiald h hx hb hK hP 4 rfl dX2_enter_123 (fun v_237 h => ?_)
          refine lv_iload hx hb dX2_enter_124 (lv_at hl 1 rfl) ?_
          refine lv_ior hx hb dX2_enter_126 ?_
          refine wiast h hx hb hK hP hD hS 4 rfl dX2_enter_127 (fun H locs hP hD hS h => ?_)
          have hP : va_P G.1 vwCl (w_M G m0 m1 m2 m3 m4 m5 m_x m_y m_d ((upd m_t (Int32.toNatClampNeg x9_232) (v_237 ||| x4))) m_v m_n) H := hP
          have hD : va_D A (w_M G m0 m1 m2 m3 m4 m5 m_x m_y m_d ((upd m_t (Int32.toNatClampNeg x9_232) (v_237 ||| x4))) m_v m_n) := hD
          refine lv_goto (tgt := 182) hx hb dX2_enter_128 (by decide) ?_
          obtain rfl := Option.some.inj h
          exact wrv hx hb hr hlocks hP hD hS (Nat.le_of_ble_eq_true rfl) (Nat.le_of_ble_eq_true rfl) dX2_enter_182
  have w_25 : ∀ (x2 : Int32) (x3 : Int32) (x4 : Int32) (x5 : Int32) (m_x : Nat → Int32) (m_y : Nat → Int32) (m_d : Nat → Int32) (m_t : Nat → Int32) (m_n : Int32) (s0 : Int32) (H : Heap) (locs : List Loc) (ls : Array Slot), va_P G.1 vwCl (w_M G m0 m1 m2 m3 m4 m5 m_x m_y m_d m_t m_v m_n) H → va_D A (w_M G m0 m1 m2 m3 m4 m5 m_x m_y m_d m_t m_v m_n) → va_S A s.heap H locs → lv_has ls 10 [(0, .ref m0), (2, .int x2), (3, .int x3), (4, .int x4), (5, .int x5)] → fX2_enter_b25 N x2 x3 x4 x5 m_x m_y m_d m_t m_n s0 = some v → W p l e ({ frames := 2, cells := 0, slots := 0, locals := 45 } : Room) s m args below meth c H locs 0 0 (wQv G A below args s (w_M G m0 m1 m2 m3 m4 m5 v.1 v.2.1 v.2.2.1 v.2.2.2.1 m_v v.2.2.2.2) 0 0) (F0 m 25 ls [.int s0]) := by
    intro x2 x3 x4 x5 m_x m_y m_d m_t m_n s0 H locs ls hP hD hS hl h
    rw [fX2_enter_b25.eq_1] at h
    refine lv_istore (lv' := [(6, .int s0), (0, .ref m0), (2, .int x2), (3, .int x3), (4, .int x4), (5, .int x5)]) hx hb dX2_enter_25 hl (by decide) rfl (fun ls hl => ?_)
    refine lv_iload hx hb dX2_enter_27 (lv_at hl 5 rfl) ?_
    refine lv_iconst (v := 1) hx hb dX2_enter_29 (by decide) ?_
    refine lv_icmp_le (tgt := 40) hx hb dX2_enter_30 (by decide) (fun c_238 => ?_) (fun c_238 => ?_)
    · have h := ip c_238 h
      refine lv_iload_n hx hb dX2_enter_40 rfl (lv_at hl 2 rfl) ?_
      exact w_41  _ _ _ _ _ _ _ _ _ _ _ _ _  hP hD hS (lv_sub hl [1, 3, 4, 5, 0] rfl) h
    · have h := iq c_238 h
      refine lv_iload_n hx hb dX2_enter_33 rfl (lv_at hl 2 rfl) ?_
      refine lv_iload hx hb dX2_enter_34 (lv_at hl 5 rfl) ?_
      obtain ⟨hz, h⟩ := nz_inv h
      refine lv_idiv hx hb dX2_enter_36 hz ?_
      refine lv_goto (tgt := 41) hx hb dX2_enter_37 (by decide) ?_
      exact w_41  _ _ _ _ _ _ _ _ _ _ _ _ _  hP hD hS (lv_sub hl [1, 3, 4, 5, 0] rfl) h
  rw [fX2_enter.eq_1] at h
  refine lv_iload_n hx hb dX2_enter_0 rfl (lv_at hl 1 rfl) ?_
  refine lv_iload_n hx hb dX2_enter_1 rfl (lv_at hl 2 rfl) ?_
  obtain ⟨u_239, hc_240, h⟩ := bd_inv h
  refine wafter_i (wr := (w_M G m0 m1 m2 m3 m4 m5 m_x m_y m_d m_t m_v m_n)) (w2 := (w_M G m0 m1 m2 m3 m4 m5 m_x m_y m_d m_t m_v m_n)) (va_runS (As := [.int x1, .int x2]) (rest := []) ⟨hx, hb, hml, hown, hts⟩ (kX2_commonDivisor (l := l) (G := G)   x1 x2 N u_239 hc_240 _) (va_cwS 2 hts gX2_enter_X2_commonDivisor rfl rfl rfl (by decide +kernel) ⟨Nat.le_of_ble_eq_true rfl, Nat.le_of_ble_eq_true rfl⟩) (wPreS hP hD hK [] rfl rfl) rfl rfl hl.1 rfl (lv_room (Nat.le_of_ble_eq_true rfl)) dX2_enter_2 ⟨Nat.zero_le _, Nat.zero_le _⟩) hP hD hS hA [] [0, 1, 2, 3, 4, 5] [0, 1, 2, 3, 4, 5] rfl rfl rfl (by decide) rfl rfl (fun H locs hP hD hS => ?_)
  refine lv_iload_n hx hb dX2_enter_5 rfl (lv_at hl 3 rfl) ?_
  obtain ⟨u_241, hc_242, h⟩ := bd_inv h
  refine wafter_i (wr := (w_M G m0 m1 m2 m3 m4 m5 m_x m_y m_d m_t m_v m_n)) (w2 := (w_M G m0 m1 m2 m3 m4 m5 m_x m_y m_d m_t m_v m_n)) (va_runS (As := [.int u_239, .int x3]) (rest := []) ⟨hx, hb, hml, hown, hts⟩ (kX2_commonDivisor (l := l) (G := G)   u_239 x3 N u_241 hc_242 _) (va_cwS 2 hts gX2_enter_X2_commonDivisor rfl rfl rfl (by decide +kernel) ⟨Nat.le_of_ble_eq_true rfl, Nat.le_of_ble_eq_true rfl⟩) (wPreS hP hD hK [] rfl rfl) rfl rfl hl.1 rfl (lv_room (Nat.le_of_ble_eq_true rfl)) dX2_enter_6 ⟨Nat.zero_le _, Nat.zero_le _⟩) hP hD hS hA [] [0, 1, 2, 3, 4, 5] [0, 1, 2, 3, 4, 5] rfl rfl rfl (by decide) rfl rfl (fun H locs hP hD hS => ?_)
  refine lv_istore (lv' := [(5, .int u_241), (0, .ref m0), (1, .int x1), (2, .int x2), (3, .int x3), (4, .int x4)]) hx hb dX2_enter_9 hl (by decide) rfl (fun ls hl => ?_)
  refine lv_iload hx hb dX2_enter_11 (lv_at hl 0 rfl) ?_
  refine lv_iconst (v := 1) hx hb dX2_enter_13 (by decide) ?_
  refine lv_icmp_le (tgt := 24) hx hb dX2_enter_14 (by decide) (fun c_243 => ?_) (fun c_243 => ?_)
  · have h := ip c_243 h
    refine lv_iload_n hx hb dX2_enter_24 rfl (lv_at hl 2 rfl) ?_
    exact w_25  _ _ _ _ _ _ _ _ _ _ _ _ _  hP hD hS (lv_sub hl [1, 3, 4, 5, 0] rfl) h
  · have h := iq c_243 h
    refine lv_iload_n hx hb dX2_enter_17 rfl (lv_at hl 2 rfl) ?_
    refine lv_iload hx hb dX2_enter_18 (lv_at hl 0 rfl) ?_
    obtain ⟨hz, h⟩ := nz_inv h
    refine lv_idiv hx hb dX2_enter_20 hz ?_
    refine lv_goto (tgt := 25) hx hb dX2_enter_21 (by decide) ?_
    exact w_25  _ _ _ _ _ _ _ _ _ _ _ _ _  hP hD hS (lv_sub hl [1, 3, 4, 5, 0] rfl) h
def fX2_find_b50 (N : Nat) (l_a : Nat → Int32) (l_b : Nat → Int32) (l_c : Nat → Int32) (x2 : Int32) (x4 : Int32) (x3 : Int32) (m_x : Nat → Int32) (m_y : Nat → Int32) (m_d : Nat → Int32) (m_t : Nat → Int32) (m_n : Int32) (s0 : Int32) (k_19 : Int32 → (Nat → Int32) → (Nat → Int32) → (Nat → Int32) → (Nat → Int32) → Int32 → Option ((Nat → Int32) × (Nat → Int32) × (Nat → Int32) × (Nat → Int32) × (Nat → Int32) × Int32)) : Option ((Nat → Int32) × (Nat → Int32) × (Nat → Int32) × (Nat → Int32) × (Nat → Int32) × Int32) := bd (fX4_bit N x2) (fun u_244 => bd (fX4_bit N x3) (fun u_246 => bd (fX1_crossX N l_b l_c x2 x3) (fun u_248 => bd (fX1_crossY N l_a l_c x2 x3) (fun u_250 => bd (fX2_enter N m_x m_y m_d m_t m_n (s0 * u_248) (s0 * u_250) (s0 * x4) (u_244 ||| u_246)) (fun u_252 => k_19 (x3 + 1) u_252.1 u_252.2.1 u_252.2.2.1 u_252.2.2.2.1 u_252.2.2.2.2)))))
def fX2_find_b19 (N : Nat) (l_a : Nat → Int32) (l_b : Nat → Int32) (l_c : Nat → Int32) (l_n : Int32) (x2 : Int32) (k_98 : (Nat → Int32) → (Nat → Int32) → (Nat → Int32) → (Nat → Int32) → Int32 → Option ((Nat → Int32) × (Nat → Int32) × (Nat → Int32) × (Nat → Int32) × (Nat → Int32) × Int32)) : Nat → Int32 → (Nat → Int32) → (Nat → Int32) → (Nat → Int32) → (Nat → Int32) → Int32 → Option ((Nat → Int32) × (Nat → Int32) × (Nat → Int32) × (Nat → Int32) × (Nat → Int32) × Int32)
  | 0, _, _, _, _, _, _ => none
  | n + 1, x3, m_x, m_y, m_d, m_t, m_n => bd (fX1_count N l_n) (fun u_254 => if u_254 ≤ x3 then k_98 m_x m_y m_d m_t m_n else bd (fX1_crossD N l_a l_b x2 x3) (fun u_257 => if u_257 = 0 then fX2_find_b19 N l_a l_b l_c l_n x2 k_98 n (x3 + 1) m_x m_y m_d m_t m_n else if 0 ≤ u_257 then fX2_find_b50 N l_a l_b l_c x2 u_257 x3 m_x m_y m_d m_t m_n 1 (fun (x3_261 : Int32) (m_x_262 : Nat → Int32) (m_y_263 : Nat → Int32) (m_d_264 : Nat → Int32) (m_t_265 : Nat → Int32) (m_n_266 : Int32) => fX2_find_b19 N l_a l_b l_c l_n x2 k_98 n x3_261 m_x_262 m_y_263 m_d_264 m_t_265 m_n_266) else fX2_find_b50 N l_a l_b l_c x2 u_257 x3 m_x m_y m_d m_t m_n (-1) (fun (x3_267 : Int32) (m_x_268 : Nat → Int32) (m_y_269 : Nat → Int32) (m_d_270 : Nat → Int32) (m_t_271 : Nat → Int32) (m_n_272 : Int32) => fX2_find_b19 N l_a l_b l_c l_n x2 k_98 n x3_267 m_x_268 m_y_269 m_d_270 m_t_271 m_n_272)))
def fX2_find_b7 (N : Nat) (l_a : Nat → Int32) (l_b : Nat → Int32) (l_c : Nat → Int32) (l_n : Int32) (k_104 : (Nat → Int32) → (Nat → Int32) → (Nat → Int32) → (Nat → Int32) → Int32 → Option ((Nat → Int32) × (Nat → Int32) × (Nat → Int32) × (Nat → Int32) × (Nat → Int32) × Int32)) : Nat → Int32 → (Nat → Int32) → (Nat → Int32) → (Nat → Int32) → (Nat → Int32) → Int32 → Option ((Nat → Int32) × (Nat → Int32) × (Nat → Int32) × (Nat → Int32) × (Nat → Int32) × Int32)
  | 0, _, _, _, _, _, _ => none
  | n + 1, x2, m_x, m_y, m_d, m_t, m_n => bd (fX1_count N l_n) (fun u_273 => if u_273 ≤ x2 then k_104 m_x m_y m_d m_t m_n else fX2_find_b19 N l_a l_b l_c l_n x2 (fun (m_x_276 : Nat → Int32) (m_y_277 : Nat → Int32) (m_d_278 : Nat → Int32) (m_t_279 : Nat → Int32) (m_n_280 : Int32) => fX2_find_b7 N l_a l_b l_c l_n k_104 n (x2 + 1) m_x_276 m_y_277 m_d_278 m_t_279 m_n_280) N (x2 + 1) m_x m_y m_d m_t m_n)
def fX2_find_b106 (N : Nat) (l_a : Nat → Int32) (l_b : Nat → Int32) (l_c : Nat → Int32) (l_n : Int32) (m_x : Nat → Int32) (m_y : Nat → Int32) (m_d : Nat → Int32) (m_t : Nat → Int32) (m_n : Int32) : Nat → Int32 → (Nat → Int32) → Option ((Nat → Int32) × (Nat → Int32) × (Nat → Int32) × (Nat → Int32) × (Nat → Int32) × Int32)
  | 0, _, _ => none
  | n + 1, x2, m_v => if m_n ≤ x2 then some (m_x, m_y, m_d, m_t, m_v, m_n) else rd m_x 36 x2 (fun v_282 => rd m_y 36 x2 (fun v_283 => rd m_d 36 x2 (fun v_284 => bd (fX1_setBelow N l_a l_b l_c l_n v_282 v_283 v_284) (fun u_285 => ck 36 x2 (fX2_find_b106 N l_a l_b l_c l_n m_x m_y m_d m_t m_n n (x2 + 1) ((upd m_v (Int32.toNatClampNeg x2) u_285)))))))
def fX2_find (N : Nat) (l_a : Nat → Int32) (l_b : Nat → Int32) (l_c : Nat → Int32) (l_n : Int32) (m_x : Nat → Int32) (m_y : Nat → Int32) (m_d : Nat → Int32) (m_t : Nat → Int32) (m_v : Nat → Int32) (m_n : Int32) : Option ((Nat → Int32) × (Nat → Int32) × (Nat → Int32) × (Nat → Int32) × (Nat → Int32) × Int32) := fX2_find_b7 N l_a l_b l_c l_n (fun (m_x_287 : Nat → Int32) (m_y_288 : Nat → Int32) (m_d_289 : Nat → Int32) (m_t_290 : Nat → Int32) (m_n_291 : Int32) => fX2_find_b106 N l_a l_b l_c l_n m_x_287 m_y_288 m_d_289 m_t_290 m_n_291 N 0 m_v) N 0 m_x m_y m_d m_t 0
set_option maxHeartbeats 4000000 in
set_option maxRecDepth 100000 in
theorem kX2_find {l : Launch} {G : wG} (m0 m1 m2 m3 m4 m5 l0 l1 l2 l3 : Nat) (l_a : Nat → Int32) (l_b : Nat → Int32) (l_c : Nat → Int32) (l_n : Int32) (m_x : Nat → Int32) (m_y : Nat → Int32) (m_d : Nat → Int32) (m_t : Nat → Int32) (m_v : Nat → Int32) (m_n : Int32) (N : Nat) (v : (Nat → Int32) × (Nat → Int32) × (Nat → Int32) × (Nat → Int32) × (Nat → Int32) × Int32) (h : fX2_find N l_a l_b l_c l_n m_x m_y m_d m_t m_v m_n = some v) : wCv l G yX2_find wsX2_find ({ frames := 3, cells := 0, slots := 0, locals := 74 } : Room) [.ref m0, .ref l0] (w_ML G m0 m1 m2 m3 m4 m5 l0 l1 l2 l3 l_a l_b l_c l_n m_x m_y m_d m_t m_v m_n) (w_ML G m0 m1 m2 m3 m4 m5 l0 l1 l2 l3 l_a l_b l_c l_n v.1 v.2.1 v.2.2.1 v.2.2.2.1 v.2.2.2.2.1 v.2.2.2.2.2) 0 0 := by
  refine wCv.mk (cc := cX2_find) (maxL := 7) (by decide) rfl (Nat.le_of_ble_eq_true rfl) ?_
  intro p e s m below meth c A ls hx hb hml hr hlocks hts hown hK hA hP hD hl
  have hx : p.tables.exec = Jvm.exec := hx
  have hown : s.vm.findClass RX2 = some m.cls := hown
  have hinX2 : ∀ w ∈ wsX20, w ∈ wsX2_find := by decide +kernel
  have lk15 := hts (.fieldLink RX2 15 "Chamberwright$Meets" "ys" "[I") (by decide +kernel)
  have lk18 := hts (.fieldLink RX2 18 "Chamberwright$Meets" "ds" "[I") (by decide +kernel)
  have lk24 := hts (.fieldLink RX2 24 "Chamberwright$Meets" "above" "[I") (by decide +kernel)
  have lk27 := hts (.fieldLink RX2 27 "Chamberwright$Meets" "count" "I") (by decide +kernel)
  have lk9 := hts (.fieldLink RX2 9 "Chamberwright$Meets" "xs" "[I") (by decide +kernel)
  have hS : va_S A s.heap s.heap [] := va_S.rf
  have hP : va_P G.1 vwCl (w_ML G m0 m1 m2 m3 m4 m5 l0 l1 l2 l3 l_a l_b l_c l_n m_x m_y m_d m_t m_v m_n) s.heap := hP
  have hD : va_D A (w_ML G m0 m1 m2 m3 m4 m5 l0 l1 l2 l3 l_a l_b l_c l_n m_x m_y m_d m_t m_v m_n) := hD
  have hl : lv_has ls 7 [(0, .ref m0), (1, .ref l0)] := hl
  obtain ⟨args, hargs⟩ : ∃ z : Array Value, z = ([.ref m0, .ref l0] : List Value).toArray := ⟨_, rfl⟩
  rw [← hargs]
  rw [← hargs] at hts
  have w_50 : ∀ (k_19 : Int32 → (Nat → Int32) → (Nat → Int32) → (Nat → Int32) → (Nat → Int32) → Int32 → Option ((Nat → Int32) × (Nat → Int32) × (Nat → Int32) × (Nat → Int32) × (Nat → Int32) × Int32)) (x2 : Int32) (x3 : Int32) (x4 : Int32) (m_x : Nat → Int32) (m_y : Nat → Int32) (m_d : Nat → Int32) (m_t : Nat → Int32) (m_v : Nat → Int32) (m_n : Int32) (s0 : Int32) (H : Heap) (locs : List Loc) (ls : Array Slot), (∀ (y3 : Int32) (ym_x : Nat → Int32) (ym_y : Nat → Int32) (ym_d : Nat → Int32) (ym_t : Nat → Int32) (ym_n : Int32) (H : Heap) (locs : List Loc) (ls : Array Slot), va_P G.1 vwCl (w_ML G m0 m1 m2 m3 m4 m5 l0 l1 l2 l3 l_a l_b l_c l_n ym_x ym_y ym_d ym_t m_v ym_n) H → va_D A (w_ML G m0 m1 m2 m3 m4 m5 l0 l1 l2 l3 l_a l_b l_c l_n ym_x ym_y ym_d ym_t m_v ym_n) → va_S A s.heap H locs → lv_has ls 7 [(0, .ref m0), (1, .ref l0), (2, .int x2), (3, .int y3)] → k_19 y3 ym_x ym_y ym_d ym_t ym_n = some v → W p l e ({ frames := 3, cells := 0, slots := 0, locals := 74 } : Room) s m args below meth c H locs 0 0 (wQv G A below args s (w_ML G m0 m1 m2 m3 m4 m5 l0 l1 l2 l3 l_a l_b l_c l_n v.1 v.2.1 v.2.2.1 v.2.2.2.1 v.2.2.2.2.1 v.2.2.2.2.2) 0 0) (F0 m 19 ls [])) → va_P G.1 vwCl (w_ML G m0 m1 m2 m3 m4 m5 l0 l1 l2 l3 l_a l_b l_c l_n m_x m_y m_d m_t m_v m_n) H → va_D A (w_ML G m0 m1 m2 m3 m4 m5 l0 l1 l2 l3 l_a l_b l_c l_n m_x m_y m_d m_t m_v m_n) → va_S A s.heap H locs → lv_has ls 7 [(0, .ref m0), (1, .ref l0), (2, .int x2), (3, .int x3), (4, .int x4)] → fX2_find_b50 N l_a l_b l_c x2 x4 x3 m_x m_y m_d m_t m_n s0 k_19 = some v → W p l e ({ frames := 3, cells := 0, slots := 0, locals := 74 } : Room) s m args below meth c H locs 0 0 (wQv G A below args s (w_ML G m0 m1 m2 m3 m4 m5 l0 l1 l2 l3 l_a l_b l_c l_n v.1 v.2.1 v.2.2.1 v.2.2.2.1 v.2.2.2.2.1 v.2.2.2.2.2) 0 0) (F0 m 50 ls [.int s0]) := by
    intro k_19 x2 x3 x4 m_x m_y m_d m_t m_v m_n s0 H locs ls hk_19 hP hD hS hl h
    rw [fX2_find_b50.eq_1] at h
    refine lv_istore (lv' := [(5, .int s0), (0, .ref m0), (1, .ref l0), (2, .int x2), (3, .int x3), (4, .int x4)]) hx hb dX2_find_50 hl (by decide) rfl (fun ls hl => ?_)
    refine lv_iload_n hx hb dX2_find_52 rfl (lv_at hl 3 rfl) ?_
    obtain ⟨u_244, hc_245, h⟩ := bd_inv h
    refine wafter_i (wr := (w_ML G m0 m1 m2 m3 m4 m5 l0 l1 l2 l3 l_a l_b l_c l_n m_x m_y m_d m_t m_v m_n)) (w2 := (w_ML G m0 m1 m2 m3 m4 m5 l0 l1 l2 l3 l_a l_b l_c l_n m_x m_y m_d m_t m_v m_n)) (va_runSN (As := [.int x2]) (rest := []) ⟨hx, hb, hml, hown, hts⟩ (kX4_bit (l := l) (G := G)   x2 N u_244 hc_245 _) ⟨va_cnB 1 hts gX2_find_X4_bit_n40 rfl rfl rfl (hK.2 (.methodLinkNest RX2 40 yX4_bit RX4) (by simp [wNest])) (hts (.initialized RX4) (by decide +kernel)) (by decide +kernel) ⟨Nat.le_of_ble_eq_true rfl, Nat.le_of_ble_eq_true rfl⟩, hts (.static yX4_bit) (by decide +kernel), trivial⟩ (wPreS hP hD hK [] rfl rfl) rfl rfl hl.1 rfl (lv_room (Nat.le_of_ble_eq_true rfl)) dX2_find_53 ⟨Nat.zero_le _, Nat.zero_le _⟩) hP hD hS hA [] [0, 1, 2, 3, 4, 5, 6, 7, 8, 9] [0, 1, 2, 3, 4, 5, 6, 7, 8, 9] rfl rfl rfl (by decide) rfl rfl (fun H locs hP hD hS => ?_)
    refine lv_iload_n hx hb dX2_find_56 rfl (lv_at hl 4 rfl) ?_
    obtain ⟨u_246, hc_247, h⟩ := bd_inv h
    refine wafter_i (wr := (w_ML G m0 m1 m2 m3 m4 m5 l0 l1 l2 l3 l_a l_b l_c l_n m_x m_y m_d m_t m_v m_n)) (w2 := (w_ML G m0 m1 m2 m3 m4 m5 l0 l1 l2 l3 l_a l_b l_c l_n m_x m_y m_d m_t m_v m_n)) (va_runSN (As := [.int x3]) (rest := [.int u_244]) ⟨hx, hb, hml, hown, hts⟩ (kX4_bit (l := l) (G := G)   x3 N u_246 hc_247 _) ⟨va_cnB 1 hts gX2_find_X4_bit_n40 rfl rfl rfl (hK.2 (.methodLinkNest RX2 40 yX4_bit RX4) (by simp [wNest])) (hts (.initialized RX4) (by decide +kernel)) (by decide +kernel) ⟨Nat.le_of_ble_eq_true rfl, Nat.le_of_ble_eq_true rfl⟩, hts (.static yX4_bit) (by decide +kernel), trivial⟩ (wPreS hP hD hK [] rfl rfl) rfl rfl hl.1 rfl (lv_room (Nat.le_of_ble_eq_true rfl)) dX2_find_57 ⟨Nat.zero_le _, Nat.zero_le _⟩) hP hD hS hA [] [0, 1, 2, 3, 4, 5, 6, 7, 8, 9] [0, 1, 2, 3, 4, 5, 6, 7, 8, 9] rfl rfl rfl (by decide) rfl rfl (fun H locs hP hD hS => ?_)
    refine lv_ior hx hb dX2_find_60 ?_
    refine lv_istore (lv' := [(6, .int (u_244 ||| u_246)), (5, .int s0), (0, .ref m0), (1, .ref l0), (2, .int x2), (3, .int x3), (4, .int x4)]) hx hb dX2_find_61 hl (by decide) rfl (fun ls hl => ?_)
    refine lv_aload_n hx hb dX2_find_63 rfl (lv_at hl 2 rfl) ?_
    refine lv_iload hx hb dX2_find_64 (lv_at hl 1 rfl) ?_
    refine lv_aload_n hx hb dX2_find_66 rfl (lv_at hl 3 rfl) ?_
    refine lv_iload_n hx hb dX2_find_67 rfl (lv_at hl 4 rfl) ?_
    refine lv_iload_n hx hb dX2_find_68 rfl (lv_at hl 5 rfl) ?_
    obtain ⟨u_248, hc_249, h⟩ := bd_inv h
    refine wafter_i (wr := [(m0, .inr (2, [.ref m1, .ref m2, .ref m3, .ref m4, .ref m5, .int m_n])), (m1, .inl (G.2.1, 36, .inl m_x)), (m2, .inl (G.2.1, 36, .inl m_y)), (m3, .inl (G.2.1, 36, .inl m_d)), (m4, .inl (G.2.1, 36, .inl m_t)), (m5, .inl (G.2.1, 36, .inl m_v))]) (w2 := (w_ML G m0 m1 m2 m3 m4 m5 l0 l1 l2 l3 l_a l_b l_c l_n m_x m_y m_d m_t m_v m_n)) (va_runV (As := [.int x2, .int x3]) (rest := [.int s0, .ref m0]) ⟨hx, hb, hml, hown, hts⟩ (kX1_crossX (l := l) (G := G) l0 l1 l2 l3 l_a l_b l_c l_n x2 x3 N u_248 hc_249 _) (cwV 2 hts gX2_find_X1_crossX rfl rfl rfl (by decide +kernel) ⟨Nat.le_of_ble_eq_true rfl, Nat.le_of_ble_eq_true rfl⟩) (wPreV hP hD hK [6, 7, 8, 9] rfl rfl (ci := 1) (qb := 6) rfl rfl rfl) rfl rfl hl.1 rfl (lv_room (Nat.le_of_ble_eq_true rfl)) dX2_find_69 ⟨Nat.zero_le _, Nat.zero_le _⟩) hP hD hS hA [6, 7, 8, 9] [0, 1, 2, 3, 4, 5] [0, 1, 2, 3, 4, 5, 6, 7, 8, 9] rfl rfl rfl (by decide) rfl rfl (fun H locs hP hD hS => ?_)
    refine lv_imul hx hb dX2_find_72 ?_
    refine lv_iload hx hb dX2_find_73 (lv_at hl 1 rfl) ?_
    refine lv_aload_n hx hb dX2_find_75 rfl (lv_at hl 3 rfl) ?_
    refine lv_iload_n hx hb dX2_find_76 rfl (lv_at hl 4 rfl) ?_
    refine lv_iload_n hx hb dX2_find_77 rfl (lv_at hl 5 rfl) ?_
    obtain ⟨u_250, hc_251, h⟩ := bd_inv h
    refine wafter_i (wr := [(m0, .inr (2, [.ref m1, .ref m2, .ref m3, .ref m4, .ref m5, .int m_n])), (m1, .inl (G.2.1, 36, .inl m_x)), (m2, .inl (G.2.1, 36, .inl m_y)), (m3, .inl (G.2.1, 36, .inl m_d)), (m4, .inl (G.2.1, 36, .inl m_t)), (m5, .inl (G.2.1, 36, .inl m_v))]) (w2 := (w_ML G m0 m1 m2 m3 m4 m5 l0 l1 l2 l3 l_a l_b l_c l_n m_x m_y m_d m_t m_v m_n)) (va_runV (As := [.int x2, .int x3]) (rest := [.int s0, .int (s0 * u_248), .ref m0]) ⟨hx, hb, hml, hown, hts⟩ (kX1_crossY (l := l) (G := G) l0 l1 l2 l3 l_a l_b l_c l_n x2 x3 N u_250 hc_251 _) (cwV 2 hts gX2_find_X1_crossY rfl rfl rfl (by decide +kernel) ⟨Nat.le_of_ble_eq_true rfl, Nat.le_of_ble_eq_true rfl⟩) (wPreV hP hD hK [6, 7, 8, 9] rfl rfl (ci := 1) (qb := 6) rfl rfl rfl) rfl rfl hl.1 rfl (lv_room (Nat.le_of_ble_eq_true rfl)) dX2_find_78 ⟨Nat.zero_le _, Nat.zero_le _⟩) hP hD hS hA [6, 7, 8, 9] [0, 1, 2, 3, 4, 5] [0, 1, 2, 3, 4, 5, 6, 7, 8, 9] rfl rfl rfl (by decide) rfl rfl (fun H locs hP hD hS => ?_)
    refine lv_imul hx hb dX2_find_81 ?_
    refine lv_iload hx hb dX2_find_82 (lv_at hl 1 rfl) ?_
    refine lv_iload hx hb dX2_find_84 (lv_at hl 6 rfl) ?_
    refine lv_imul hx hb dX2_find_86 ?_
    refine lv_iload hx hb dX2_find_87 (lv_at hl 0 rfl) ?_
    obtain ⟨u_252, hc_253, h⟩ := bd_inv h
    refine wafter_v (wr := [(l0, .inr (1, [.ref l1, .ref l2, .ref l3, .int l_n])), (l1, .inl (G.2.1, 9, .inl l_a)), (l2, .inl (G.2.1, 9, .inl l_b)), (l3, .inl (G.2.1, 9, .inl l_c))]) (w2 := (w_ML G m0 m1 m2 m3 m4 m5 l0 l1 l2 l3 l_a l_b l_c l_n u_252.1 u_252.2.1 u_252.2.2.1 u_252.2.2.2.1 m_v u_252.2.2.2.2)) (va_runV (As := [.int (s0 * u_248), .int (s0 * u_250), .int (s0 * x4), .int (u_244 ||| u_246)]) (rest := []) ⟨hx, hb, hml, hown, hts⟩ (kX2_enter (l := l) (G := G) m0 m1 m2 m3 m4 m5 m_x m_y m_d m_t m_v m_n (s0 * u_248) (s0 * u_250) (s0 * x4) (u_244 ||| u_246) N u_252 hc_253 _) (cwV 4 hts gX2_find_X2_enter rfl rfl rfl (by decide +kernel) ⟨Nat.le_of_ble_eq_true rfl, Nat.le_of_ble_eq_true rfl⟩) (wPreV hP hD hK [0, 1, 2, 3, 4, 5] rfl rfl (ci := 2) (qb := 0) rfl rfl rfl) rfl rfl hl.1 rfl (lv_room (Nat.le_of_ble_eq_true rfl)) dX2_find_89 ⟨Nat.zero_le _, Nat.zero_le _⟩) hP hD hS hA [0, 1, 2, 3, 4, 5] [6, 7, 8, 9] [4, 5, 6, 7, 8, 9, 0, 1, 2, 3] rfl rfl rfl (by decide) rfl rfl (fun H locs hP hD hS => ?_)
    refine lv_iinc (v := (x3 + 1)) (lv' := [(3, .int (x3 + 1)), (6, .int (u_244 ||| u_246)), (5, .int s0), (0, .ref m0), (1, .ref l0), (2, .int x2), (4, .int x4)]) hx hb dX2_find_92 hl (k := 5) rfl rfl (by decide) rfl (fun ls hl => ?_)
    refine lv_goto (tgt := 19) hx hb dX2_find_95 (by decide) ?_
    exact hk_19 _ _ _ _ _ _ _ _ _ hP hD hS (lv_sub hl [3, 4, 5, 0] rfl) h
  have w_19 : ∀ (k_98 : (Nat → Int32) → (Nat → Int32) → (Nat → Int32) → (Nat → Int32) → Int32 → Option ((Nat → Int32) × (Nat → Int32) × (Nat → Int32) × (Nat → Int32) × (Nat → Int32) × Int32)) (x2 : Int32) (m_v : Nat → Int32) (_z : Unit), (∀ (ym_x : Nat → Int32) (ym_y : Nat → Int32) (ym_d : Nat → Int32) (ym_t : Nat → Int32) (ym_n : Int32) (H : Heap) (locs : List Loc) (ls : Array Slot), va_P G.1 vwCl (w_ML G m0 m1 m2 m3 m4 m5 l0 l1 l2 l3 l_a l_b l_c l_n ym_x ym_y ym_d ym_t m_v ym_n) H → va_D A (w_ML G m0 m1 m2 m3 m4 m5 l0 l1 l2 l3 l_a l_b l_c l_n ym_x ym_y ym_d ym_t m_v ym_n) → va_S A s.heap H locs → lv_has ls 7 [(0, .ref m0), (1, .ref l0), (2, .int x2)] → k_98 ym_x ym_y ym_d ym_t ym_n = some v → W p l e ({ frames := 3, cells := 0, slots := 0, locals := 74 } : Room) s m args below meth c H locs 0 0 (wQv G A below args s (w_ML G m0 m1 m2 m3 m4 m5 l0 l1 l2 l3 l_a l_b l_c l_n v.1 v.2.1 v.2.2.1 v.2.2.2.1 v.2.2.2.2.1 v.2.2.2.2.2) 0 0) (F0 m 98 ls [])) → ∀ (n : Nat) (x3 : Int32) (m_x : Nat → Int32) (m_y : Nat → Int32) (m_d : Nat → Int32) (m_t : Nat → Int32) (m_n : Int32) (H : Heap) (locs : List Loc) (ls : Array Slot), va_P G.1 vwCl (w_ML G m0 m1 m2 m3 m4 m5 l0 l1 l2 l3 l_a l_b l_c l_n m_x m_y m_d m_t m_v m_n) H → va_D A (w_ML G m0 m1 m2 m3 m4 m5 l0 l1 l2 l3 l_a l_b l_c l_n m_x m_y m_d m_t m_v m_n) → va_S A s.heap H locs → lv_has ls 7 [(0, .ref m0), (1, .ref l0), (2, .int x2), (3, .int x3)] → fX2_find_b19 N l_a l_b l_c l_n x2 k_98 n x3 m_x m_y m_d m_t m_n = some v → W p l e ({ frames := 3, cells := 0, slots := 0, locals := 74 } : Room) s m args below meth c H locs 0 0 (wQv G A below args s (w_ML G m0 m1 m2 m3 m4 m5 l0 l1 l2 l3 l_a l_b l_c l_n v.1 v.2.1 v.2.2.1 v.2.2.2.1 v.2.2.2.2.1 v.2.2.2.2.2) 0 0) (F0 m 19 ls []) := by
    intro k_98 x2 m_v _z hk_98 n
    induction n with
    | zero =>
      intro x3 m_x m_y m_d m_t m_n H locs ls hP hD hS hl h
      rw [fX2_find_b19.eq_1] at h
      cases h
    | succ n ih =>
      intro x3 m_x m_y m_d m_t m_n H locs ls hP hD hS hl h
      rw [fX2_find_b19.eq_2] at h
      refine lv_iload_n hx hb dX2_find_19 rfl (lv_at hl 3 rfl) ?_
      refine lv_aload_n hx hb dX2_find_20 rfl (lv_at hl 1 rfl) ?_
      obtain ⟨u_254, hc_255, h⟩ := bd_inv h
      refine wafter_i (wr := [(m0, .inr (2, [.ref m1, .ref m2, .ref m3, .ref m4, .ref m5, .int m_n])), (m1, .inl (G.2.1, 36, .inl m_x)), (m2, .inl (G.2.1, 36, .inl m_y)), (m3, .inl (G.2.1, 36, .inl m_d)), (m4, .inl (G.2.1, 36, .inl m_t)), (m5, .inl (G.2.1, 36, .inl m_v))]) (w2 := (w_ML G m0 m1 m2 m3 m4 m5 l0 l1 l2 l3 l_a l_b l_c l_n m_x m_y m_d m_t m_v m_n)) (va_runV (As := []) (rest := [.int x3]) ⟨hx, hb, hml, hown, hts⟩ (kX1_count (l := l) (G := G) l0 l1 l2 l3 l_a l_b l_c l_n  N u_254 hc_255 _) (cwV 0 hts gX2_find_X1_count rfl rfl rfl (by decide +kernel) ⟨Nat.le_of_ble_eq_true rfl, Nat.le_of_ble_eq_true rfl⟩) (wPreV hP hD hK [6, 7, 8, 9] rfl rfl (ci := 1) (qb := 6) rfl rfl rfl) rfl rfl hl.1 rfl (lv_room (Nat.le_of_ble_eq_true rfl)) dX2_find_21 ⟨Nat.zero_le _, Nat.zero_le _⟩) hP hD hS hA [6, 7, 8, 9] [0, 1, 2, 3, 4, 5] [0, 1, 2, 3, 4, 5, 6, 7, 8, 9] rfl rfl rfl (by decide) rfl rfl (fun H locs hP hD hS => ?_)
      refine lv_icmp_ge (tgt := 98) hx hb dX2_find_24 (by decide) (fun c_256 => ?_) (fun c_256 => ?_)
      · have h := ip c_256 h
        exact hk_98 _ _ _ _ _ _ _ _ hP hD hS (lv_sub hl [0, 1, 2] rfl) h
      · have h := iq c_256 h
        refine lv_aload_n hx hb dX2_find_27 rfl (lv_at hl 1 rfl) ?_
        refine lv_iload_n hx hb dX2_find_28 rfl (lv_at hl 2 rfl) ?_
        refine lv_iload_n hx hb dX2_find_29 rfl (lv_at hl 3 rfl) ?_
        obtain ⟨u_257, hc_258, h⟩ := bd_inv h
        refine wafter_i (wr := [(m0, .inr (2, [.ref m1, .ref m2, .ref m3, .ref m4, .ref m5, .int m_n])), (m1, .inl (G.2.1, 36, .inl m_x)), (m2, .inl (G.2.1, 36, .inl m_y)), (m3, .inl (G.2.1, 36, .inl m_d)), (m4, .inl (G.2.1, 36, .inl m_t)), (m5, .inl (G.2.1, 36, .inl m_v))]) (w2 := (w_ML G m0 m1 m2 m3 m4 m5 l0 l1 l2 l3 l_a l_b l_c l_n m_x m_y m_d m_t m_v m_n)) (va_runV (As := [.int x2, .int x3]) (rest := []) ⟨hx, hb, hml, hown, hts⟩ (kX1_crossD (l := l) (G := G) l0 l1 l2 l3 l_a l_b l_c l_n x2 x3 N u_257 hc_258 _) (cwV 2 hts gX2_find_X1_crossD rfl rfl rfl (by decide +kernel) ⟨Nat.le_of_ble_eq_true rfl, Nat.le_of_ble_eq_true rfl⟩) (wPreV hP hD hK [6, 7, 8, 9] rfl rfl (ci := 1) (qb := 6) rfl rfl rfl) rfl rfl hl.1 rfl (lv_room (Nat.le_of_ble_eq_true rfl)) dX2_find_30 ⟨Nat.zero_le _, Nat.zero_le _⟩) hP hD hS hA [6, 7, 8, 9] [0, 1, 2, 3, 4, 5] [0, 1, 2, 3, 4, 5, 6, 7, 8, 9] rfl rfl rfl (by decide) rfl rfl (fun H locs hP hD hS => ?_)
        refine lv_istore (lv' := [(4, .int u_257), (0, .ref m0), (1, .ref l0), (2, .int x2), (3, .int x3)]) hx hb dX2_find_33 hl (by decide) rfl (fun ls hl => ?_)
        refine lv_iload hx hb dX2_find_35 (lv_at hl 0 rfl) ?_
        refine lv_if_eq (tgt := 92) hx hb dX2_find_37 (by decide) (fun c_259 => ?_) (fun c_259 => ?_)
        · have h := ip c_259 h
          refine lv_iinc (v := (x3 + 1)) (lv' := [(3, .int (x3 + 1)), (4, .int u_257), (0, .ref m0), (1, .ref l0), (2, .int x2)]) hx hb dX2_find_92 hl (k := 4) rfl rfl (by decide) rfl (fun ls hl => ?_)
          refine lv_goto (tgt := 19) hx hb dX2_find_95 (by decide) ?_
          exact ih _ _ _ _ _ _ _ _ _ hP hD hS (lv_sub hl [2, 3, 4, 0] rfl) h
        · have h := iq c_259 h
          refine lv_iload hx hb dX2_find_40 (lv_at hl 0 rfl) ?_
          refine lv_if_ge (tgt := 49) hx hb dX2_find_42 (by decide) (fun c_260 => ?_) (fun c_260 => ?_)
          · have h := ip c_260 h
            refine lv_iconst (v := 1) hx hb dX2_find_49 (by decide) ?_
            refine w_50 _ _ _ _ _ _ _ _ _ _ _ _ _ _ (fun x3_261 m_x_262 m_y_263 m_d_264 m_t_265 m_n_266 H locs ls hP hD hS hl h => ?_) hP hD hS (lv_sub hl [1, 2, 3, 4, 0] rfl) h
            exact ih _ _ _ _ _ _ _ _ _ hP hD hS (lv_sub hl [0, 1, 2, 3] rfl) h
          · have h := iq c_260 h
            refine lv_iconst (v := (-1)) hx hb dX2_find_45 (by decide) ?_
            refine lv_goto (tgt := 50) hx hb dX2_find_46 (by decide) ?_
            refine w_50 _ _ _ _ _ _ _ _ _ _ _ _ _ _ (fun x3_267 m_x_268 m_y_269 m_d_270 m_t_271 m_n_272 H locs ls hP hD hS hl h => ?_) hP hD hS (lv_sub hl [1, 2, 3, 4, 0] rfl) h
            exact ih _ _ _ _ _ _ _ _ _ hP hD hS (lv_sub hl [0, 1, 2, 3] rfl) h
  have w_7 : ∀ (k_104 : (Nat → Int32) → (Nat → Int32) → (Nat → Int32) → (Nat → Int32) → Int32 → Option ((Nat → Int32) × (Nat → Int32) × (Nat → Int32) × (Nat → Int32) × (Nat → Int32) × Int32))  (m_v : Nat → Int32) (_z : Unit), (∀ (ym_x : Nat → Int32) (ym_y : Nat → Int32) (ym_d : Nat → Int32) (ym_t : Nat → Int32) (ym_n : Int32) (H : Heap) (locs : List Loc) (ls : Array Slot), va_P G.1 vwCl (w_ML G m0 m1 m2 m3 m4 m5 l0 l1 l2 l3 l_a l_b l_c l_n ym_x ym_y ym_d ym_t m_v ym_n) H → va_D A (w_ML G m0 m1 m2 m3 m4 m5 l0 l1 l2 l3 l_a l_b l_c l_n ym_x ym_y ym_d ym_t m_v ym_n) → va_S A s.heap H locs → lv_has ls 7 [(0, .ref m0), (1, .ref l0)] → k_104 ym_x ym_y ym_d ym_t ym_n = some v → W p l e ({ frames := 3, cells := 0, slots := 0, locals := 74 } : Room) s m args below meth c H locs 0 0 (wQv G A below args s (w_ML G m0 m1 m2 m3 m4 m5 l0 l1 l2 l3 l_a l_b l_c l_n v.1 v.2.1 v.2.2.1 v.2.2.2.1 v.2.2.2.2.1 v.2.2.2.2.2) 0 0) (F0 m 104 ls [])) → ∀ (n : Nat) (x2 : Int32) (m_x : Nat → Int32) (m_y : Nat → Int32) (m_d : Nat → Int32) (m_t : Nat → Int32) (m_n : Int32) (H : Heap) (locs : List Loc) (ls : Array Slot), va_P G.1 vwCl (w_ML G m0 m1 m2 m3 m4 m5 l0 l1 l2 l3 l_a l_b l_c l_n m_x m_y m_d m_t m_v m_n) H → va_D A (w_ML G m0 m1 m2 m3 m4 m5 l0 l1 l2 l3 l_a l_b l_c l_n m_x m_y m_d m_t m_v m_n) → va_S A s.heap H locs → lv_has ls 7 [(0, .ref m0), (1, .ref l0), (2, .int x2)] → fX2_find_b7 N l_a l_b l_c l_n k_104 n x2 m_x m_y m_d m_t m_n = some v → W p l e ({ frames := 3, cells := 0, slots := 0, locals := 74 } : Room) s m args below meth c H locs 0 0 (wQv G A below args s (w_ML G m0 m1 m2 m3 m4 m5 l0 l1 l2 l3 l_a l_b l_c l_n v.1 v.2.1 v.2.2.1 v.2.2.2.1 v.2.2.2.2.1 v.2.2.2.2.2) 0 0) (F0 m 7 ls []) := by
    intro k_104 m_v _z hk_104 n
    induction n with
    | zero =>
      intro x2 m_x m_y m_d m_t m_n H locs ls hP hD hS hl h
      rw [fX2_find_b7.eq_1] at h
      cases h
    | succ n ih =>
      intro x2 m_x m_y m_d m_t m_n H locs ls hP hD hS hl h
      rw [fX2_find_b7.eq_2] at h
      refine lv_iload_n hx hb dX2_find_7 rfl (lv_at hl 2 rfl) ?_
      refine lv_aload_n hx hb dX2_find_8 rfl (lv_at hl 1 rfl) ?_
      obtain ⟨u_273, hc_274, h⟩ := bd_inv h
      refine wafter_i (wr := [(m0, .inr (2, [.ref m1, .ref m2, .ref m3, .ref m4, .ref m5, .int m_n])), (m1, .inl (G.2.1, 36, .inl m_x)), (m2, .inl (G.2.1, 36, .inl m_y)), (m3, .inl (G.2.1, 36, .inl m_d)), (m4, .inl (G.2.1, 36, .inl m_t)), (m5, .inl (G.2.1, 36, .inl m_v))]) (w2 := (w_ML G m0 m1 m2 m3 m4 m5 l0 l1 l2 l3 l_a l_b l_c l_n m_x m_y m_d m_t m_v m_n)) (va_runV (As := []) (rest := [.int x2]) ⟨hx, hb, hml, hown, hts⟩ (kX1_count (l := l) (G := G) l0 l1 l2 l3 l_a l_b l_c l_n  N u_273 hc_274 _) (cwV 0 hts gX2_find_X1_count rfl rfl rfl (by decide +kernel) ⟨Nat.le_of_ble_eq_true rfl, Nat.le_of_ble_eq_true rfl⟩) (wPreV hP hD hK [6, 7, 8, 9] rfl rfl (ci := 1) (qb := 6) rfl rfl rfl) rfl rfl hl.1 rfl (lv_room (Nat.le_of_ble_eq_true rfl)) dX2_find_9 ⟨Nat.zero_le _, Nat.zero_le _⟩) hP hD hS hA [6, 7, 8, 9] [0, 1, 2, 3, 4, 5] [0, 1, 2, 3, 4, 5, 6, 7, 8, 9] rfl rfl rfl (by decide) rfl rfl (fun H locs hP hD hS => ?_)
      refine lv_icmp_ge (tgt := 104) hx hb dX2_find_12 (by decide) (fun c_275 => ?_) (fun c_275 => ?_)
      · have h := ip c_275 h
        exact hk_104 _ _ _ _ _ _ _ _ hP hD hS (lv_sub hl [0, 1] rfl) h
      · have h := iq c_275 h
        refine lv_iload_n hx hb dX2_find_15 rfl (lv_at hl 2 rfl) ?_
        refine lv_iconst (v := 1) hx hb dX2_find_16 (by decide) ?_
        refine lv_iadd hx hb dX2_find_17 ?_
        refine lv_istore_n (lv' := [(3, .int (x2 + 1)), (0, .ref m0), (1, .ref l0), (2, .int x2)]) hx hb dX2_find_18 rfl hl (by decide) rfl (fun ls hl => ?_)
        refine w_19 _ _ _ () (fun m_x_276 m_y_277 m_d_278 m_t_279 m_n_280 H locs ls hP hD hS hl h => ?_) N _ _ _ _ _ _ _ _ _ hP hD hS (lv_sub hl [1, 2, 3, 0] rfl) h
        refine lv_iinc (v := (x2 + 1)) (lv' := [(2, .int (x2 + 1)), (0, .ref m0), (1, .ref l0)]) hx hb dX2_find_98 hl (k := 2) rfl rfl (by decide) rfl (fun ls hl => ?_)
        refine lv_goto (tgt := 7) hx hb dX2_find_101 (by decide) ?_
        exact ih _ _ _ _ _ _ _ _ _ hP hD hS (lv_sub hl [1, 2, 0] rfl) h
  have w_106 : ∀  (m_x : Nat → Int32) (m_y : Nat → Int32) (m_d : Nat → Int32) (m_t : Nat → Int32) (m_n : Int32) (_z : Unit), ∀ (n : Nat) (x2 : Int32) (m_v : Nat → Int32) (H : Heap) (locs : List Loc) (ls : Array Slot), va_P G.1 vwCl (w_ML G m0 m1 m2 m3 m4 m5 l0 l1 l2 l3 l_a l_b l_c l_n m_x m_y m_d m_t m_v m_n) H → va_D A (w_ML G m0 m1 m2 m3 m4 m5 l0 l1 l2 l3 l_a l_b l_c l_n m_x m_y m_d m_t m_v m_n) → va_S A s.heap H locs → lv_has ls 7 [(0, .ref m0), (1, .ref l0), (2, .int x2)] → fX2_find_b106 N l_a l_b l_c l_n m_x m_y m_d m_t m_n n x2 m_v = some v → W p l e ({ frames := 3, cells := 0, slots := 0, locals := 74 } : Room) s m args below meth c H locs 0 0 (wQv G A below args s (w_ML G m0 m1 m2 m3 m4 m5 l0 l1 l2 l3 l_a l_b l_c l_n v.1 v.2.1 v.2.2.1 v.2.2.2.1 v.2.2.2.2.1 v.2.2.2.2.2) 0 0) (F0 m 106 ls []) := by
    intro m_x m_y m_d m_t m_n _z n
    induction n with
    | zero =>
      intro x2 m_v H locs ls hP hD hS hl h
      rw [fX2_find_b106.eq_1] at h
      cases h
    | succ n ih =>
      intro x2 m_v H locs ls hP hD hS hl h
      rw [fX2_find_b106.eq_2] at h
      refine lv_iload_n hx hb dX2_find_106 rfl (lv_at hl 2 rfl) ?_
      refine lv_aload_n hx hb dX2_find_107 rfl (lv_at hl 0 rfl) ?_
      refine va_get (D := G.1) (ci := 2) (v := .int m_n) (C := RX2) (T := TX2) (N := 6) hx hb hts hinX2 hown hK.1 hP 0 rfl rfl 5 (by decide) lk27 (fun _ h9 => h9) rfl dX2_find_108 ?_
      refine lv_icmp_ge (tgt := 148) hx hb dX2_find_111 (by decide) (fun c_281 => ?_) (fun c_281 => ?_)
      · have h := ip c_281 h
        obtain rfl := Option.some.inj h
        exact wrv hx hb hr hlocks hP hD hS (Nat.le_of_ble_eq_true rfl) (Nat.le_of_ble_eq_true rfl) dX2_find_148
      · have h := iq c_281 h
        refine lv_aload_n hx hb dX2_find_114 rfl (lv_at hl 0 rfl) ?_
        refine va_get (D := G.1) (ci := 2) (v := .ref m5) (C := RX2) (T := TX2) (N := 6) hx hb hts hinX2 hown hK.1 hP 0 rfl rfl 4 (by decide) lk24 (fun _ h9 => h9) rfl dX2_find_115 ?_
        refine lv_iload_n hx hb dX2_find_118 rfl (lv_at hl 2 rfl) ?_
        refine lv_aload_n hx hb dX2_find_119 rfl (lv_at hl 1 rfl) ?_
        refine lv_aload_n hx hb dX2_find_120 rfl (lv_at hl 0 rfl) ?_
        refine va_get (D := G.1) (ci := 2) (v := .ref m1) (C := RX2) (T := TX2) (N := 6) hx hb hts hinX2 hown hK.1 hP 0 rfl rfl 0 (by decide) lk9 (fun _ h9 => h9) rfl dX2_find_121 ?_
        refine lv_iload_n hx hb dX2_find_124 rfl (lv_at hl 2 rfl) ?_
        refine wiald h hx hb hK hP 1 rfl dX2_find_125 (fun v_282 h => ?_)
        refine lv_aload_n hx hb dX2_find_126 rfl (lv_at hl 0 rfl) ?_
        refine va_get (D := G.1) (ci := 2) (v := .ref m2) (C := RX2) (T := TX2) (N := 6) hx hb hts hinX2 hown hK.1 hP 0 rfl rfl 1 (by decide) lk15 (fun _ h9 => h9) rfl dX2_find_127 ?_
        refine lv_iload_n hx hb dX2_find_130 rfl (lv_at hl 2 rfl) ?_
        refine wiald h hx hb hK hP 2 rfl dX2_find_131 (fun v_283 h => ?_)
        refine lv_aload_n hx hb dX2_find_132 rfl (lv_at hl 0 rfl) ?_
        refine va_get (D := G.1) (ci := 2) (v := .ref m3) (C := RX2) (T := TX2) (N := 6) hx hb hts hinX2 hown hK.1 hP 0 rfl rfl 2 (by decide) lk18 (fun _ h9 => h9) rfl dX2_find_133 ?_
        refine lv_iload_n hx hb dX2_find_136 rfl (lv_at hl 2 rfl) ?_
        refine wiald h hx hb hK hP 3 rfl dX2_find_137 (fun v_284 h => ?_)
        obtain ⟨u_285, hc_286, h⟩ := bd_inv h
        refine wafter_i (wr := [(m0, .inr (2, [.ref m1, .ref m2, .ref m3, .ref m4, .ref m5, .int m_n])), (m1, .inl (G.2.1, 36, .inl m_x)), (m2, .inl (G.2.1, 36, .inl m_y)), (m3, .inl (G.2.1, 36, .inl m_d)), (m4, .inl (G.2.1, 36, .inl m_t)), (m5, .inl (G.2.1, 36, .inl m_v))]) (w2 := (w_ML G m0 m1 m2 m3 m4 m5 l0 l1 l2 l3 l_a l_b l_c l_n m_x m_y m_d m_t m_v m_n)) (va_runV (As := [.int v_282, .int v_283, .int v_284]) (rest := [.int x2, .ref m5]) ⟨hx, hb, hml, hown, hts⟩ (kX1_setBelow (l := l) (G := G) l0 l1 l2 l3 l_a l_b l_c l_n v_282 v_283 v_284 N u_285 hc_286 _) (cwV 3 hts gX2_find_X1_setBelow rfl rfl rfl (by decide +kernel) ⟨Nat.le_of_ble_eq_true rfl, Nat.le_of_ble_eq_true rfl⟩) (wPreV hP hD hK [6, 7, 8, 9] rfl rfl (ci := 1) (qb := 6) rfl rfl rfl) rfl rfl hl.1 rfl (lv_room (Nat.le_of_ble_eq_true rfl)) dX2_find_138 ⟨Nat.zero_le _, Nat.zero_le _⟩) hP hD hS hA [6, 7, 8, 9] [0, 1, 2, 3, 4, 5] [0, 1, 2, 3, 4, 5, 6, 7, 8, 9] rfl rfl rfl (by decide) rfl rfl (fun H locs hP hD hS => ?_)
        refine wiast h hx hb hK hP hD hS 5 rfl dX2_find_141 (fun H locs hP hD hS h => ?_)
        have hP : va_P G.1 vwCl (w_ML G m0 m1 m2 m3 m4 m5 l0 l1 l2 l3 l_a l_b l_c l_n m_x m_y m_d m_t ((upd m_v (Int32.toNatClampNeg x2) u_285)) m_n) H := hP
        have hD : va_D A (w_ML G m0 m1 m2 m3 m4 m5 l0 l1 l2 l3 l_a l_b l_c l_n m_x m_y m_d m_t ((upd m_v (Int32.toNatClampNeg x2) u_285)) m_n) := hD
        refine lv_iinc (v := (x2 + 1)) (lv' := [(2, .int (x2 + 1)), (0, .ref m0), (1, .ref l0)]) hx hb dX2_find_142 hl (k := 2) rfl rfl (by decide) rfl (fun ls hl => ?_)
        refine lv_goto (tgt := 106) hx hb dX2_find_145 (by decide) ?_
        exact ih _ _ _ _ _ hP hD hS (lv_sub hl [1, 2, 0] rfl) h
  rw [fX2_find.eq_1] at h
  refine lv_aload_n hx hb dX2_find_0 rfl (lv_at hl 0 rfl) ?_
  refine lv_iconst (v := 0) hx hb dX2_find_1 (by decide) ?_
  refine va_put (D := G.1) (ci := 2) (v := .int 0) (ty := .int) (C := RX2) (T := TX2) (N := 6) hx hb hts hinX2 tyX2 tyX2_ok nmX2 hown hK.1 hP hD hS 0 rfl rfl 5 (by decide) lk27 (fun _ h9 => h9) rfl (by decide +kernel) rfl rfl (Nat.le_of_ble_eq_true rfl) dX2_find_2 (fun H locs hP hD hS => ?_)
  have hP : va_P G.1 vwCl (w_ML G m0 m1 m2 m3 m4 m5 l0 l1 l2 l3 l_a l_b l_c l_n m_x m_y m_d m_t m_v 0) H := hP
  have hD : va_D A (w_ML G m0 m1 m2 m3 m4 m5 l0 l1 l2 l3 l_a l_b l_c l_n m_x m_y m_d m_t m_v 0) := hD
  refine lv_iconst (v := 0) hx hb dX2_find_5 (by decide) ?_
  refine lv_istore_n (lv' := [(2, .int 0), (0, .ref m0), (1, .ref l0)]) hx hb dX2_find_6 rfl hl (by decide) rfl (fun ls hl => ?_)
  refine w_7 _  _ () (fun m_x_287 m_y_288 m_d_289 m_t_290 m_n_291 H locs ls hP hD hS hl h => ?_) N _ _ _ _ _ _ _ _ _ hP hD hS (lv_sub hl [1, 2, 0] rfl) h
  refine lv_iconst (v := 0) hx hb dX2_find_104 (by decide) ?_
  refine lv_istore_n (lv' := [(2, .int 0), (0, .ref m0), (1, .ref l0)]) hx hb dX2_find_105 rfl hl (by decide) rfl (fun ls hl => ?_)
  exact w_106   _ _ _ _ _ ()  N _ _ _ _ _ hP hD hS (lv_sub hl [1, 2, 0] rfl) h
def fX2_count (N : Nat) (m_n : Int32) : Option (Int32) := some m_n
set_option maxHeartbeats 4000000 in
set_option maxRecDepth 100000 in
theorem kX2_count {l : Launch} {G : wG} (m0 m1 m2 m3 m4 m5 : Nat) (m_x : Nat → Int32) (m_y : Nat → Int32) (m_d : Nat → Int32) (m_t : Nat → Int32) (m_v : Nat → Int32) (m_n : Int32) (N : Nat) (v : Int32) (h : fX2_count N m_n = some v) : wCi l G yX2_count wsX2_count ({ frames := 0, cells := 0, slots := 0, locals := 0 } : Room) [.ref m0] (w_M G m0 m1 m2 m3 m4 m5 m_x m_y m_d m_t m_v m_n) (w_M G m0 m1 m2 m3 m4 m5 m_x m_y m_d m_t m_v m_n) 0 0 v := by
  refine wCi.mk (cc := cX2_count) (maxL := 1) (ty := .int) (by decide) rfl (Nat.le_of_ble_eq_true rfl) ?_
  intro p e s m below meth c A ls hx hb hml hr hlocks hts hown hK hA hP hD hl
  have hx : p.tables.exec = Jvm.exec := hx
  have hown : s.vm.findClass RX2 = some m.cls := hown
  have hinX2 : ∀ w ∈ wsX20, w ∈ wsX2_count := by decide +kernel
  have lk27 := hts (.fieldLink RX2 27 "Chamberwright$Meets" "count" "I") (by decide +kernel)
  have hS : va_S A s.heap s.heap [] := va_S.rf
  have hP : va_P G.1 vwCl (w_M G m0 m1 m2 m3 m4 m5 m_x m_y m_d m_t m_v m_n) s.heap := hP
  have hD : va_D A (w_M G m0 m1 m2 m3 m4 m5 m_x m_y m_d m_t m_v m_n) := hD
  have hl : lv_has ls 1 [(0, .ref m0)] := hl
  obtain ⟨args, hargs⟩ : ∃ z : Array Value, z = ([.ref m0] : List Value).toArray := ⟨_, rfl⟩
  rw [← hargs]
  rw [← hargs] at hts
  rw [fX2_count.eq_1] at h
  refine lv_aload_n hx hb dX2_count_0 rfl (lv_at hl 0 rfl) ?_
  refine va_get (D := G.1) (ci := 2) (v := .int m_n) (C := RX2) (T := TX2) (N := 6) hx hb hts hinX2 hown hK.1 hP 0 rfl rfl 5 (by decide) lk27 (fun _ h9 => h9) rfl dX2_count_1 ?_
  obtain rfl := Option.some.inj h
  exact wri hx hb hr hlocks hP hD hS (Nat.le_of_ble_eq_true rfl) (Nat.le_of_ble_eq_true rfl) rfl dX2_count_4
def fX2_isOn (N : Nat) (m_t : Nat → Int32) (x1 : Int32) (x2 : Int32) : Option (Int32) := rd m_t 36 x1 (fun v_292 => bd (fX4_isIn N v_292 x2) (fun u_293 => zo u_293 (some u_293)))
set_option maxHeartbeats 4000000 in
set_option maxRecDepth 100000 in
theorem kX2_isOn {l : Launch} {G : wG} (m0 m1 m2 m3 m4 m5 : Nat) (m_x : Nat → Int32) (m_y : Nat → Int32) (m_d : Nat → Int32) (m_t : Nat → Int32) (m_v : Nat → Int32) (m_n : Int32) (x1 : Int32) (x2 : Int32) (N : Nat) (v : Int32) (h : fX2_isOn N m_t x1 x2 = some v) : wCi l G yX2_isOn wsX2_isOn ({ frames := 2, cells := 0, slots := 0, locals := 41 } : Room) [.ref m0, .int x1, .int x2] (w_M G m0 m1 m2 m3 m4 m5 m_x m_y m_d m_t m_v m_n) (w_M G m0 m1 m2 m3 m4 m5 m_x m_y m_d m_t m_v m_n) 0 0 v := by
  refine wCi.mk (cc := cX2_isOn) (maxL := 3) (ty := .boolean) (by decide) rfl (Nat.le_of_ble_eq_true rfl) ?_
  intro p e s m below meth c A ls hx hb hml hr hlocks hts hown hK hA hP hD hl
  have hx : p.tables.exec = Jvm.exec := hx
  have hown : s.vm.findClass RX2 = some m.cls := hown
  have hinX2 : ∀ w ∈ wsX20, w ∈ wsX2_isOn := by decide +kernel
  have lk21 := hts (.fieldLink RX2 21 "Chamberwright$Meets" "through" "[I") (by decide +kernel)
  have hS : va_S A s.heap s.heap [] := va_S.rf
  have hP : va_P G.1 vwCl (w_M G m0 m1 m2 m3 m4 m5 m_x m_y m_d m_t m_v m_n) s.heap := hP
  have hD : va_D A (w_M G m0 m1 m2 m3 m4 m5 m_x m_y m_d m_t m_v m_n) := hD
  have hl : lv_has ls 3 [(0, .ref m0), (1, .int x1), (2, .int x2)] := hl
  obtain ⟨args, hargs⟩ : ∃ z : Array Value, z = ([.ref m0, .int x1, .int x2] : List Value).toArray := ⟨_, rfl⟩
  rw [← hargs]
  rw [← hargs] at hts
  rw [fX2_isOn.eq_1] at h
  refine lv_aload_n hx hb dX2_isOn_0 rfl (lv_at hl 0 rfl) ?_
  refine va_get (D := G.1) (ci := 2) (v := .ref m4) (C := RX2) (T := TX2) (N := 6) hx hb hts hinX2 hown hK.1 hP 0 rfl rfl 3 (by decide) lk21 (fun _ h9 => h9) rfl dX2_isOn_1 ?_
  refine lv_iload_n hx hb dX2_isOn_4 rfl (lv_at hl 1 rfl) ?_
  refine wiald h hx hb hK hP 4 rfl dX2_isOn_5 (fun v_292 h => ?_)
  refine lv_iload_n hx hb dX2_isOn_6 rfl (lv_at hl 2 rfl) ?_
  obtain ⟨u_293, hc_294, h⟩ := bd_inv h
  refine wafter_i (wr := (w_M G m0 m1 m2 m3 m4 m5 m_x m_y m_d m_t m_v m_n)) (w2 := (w_M G m0 m1 m2 m3 m4 m5 m_x m_y m_d m_t m_v m_n)) (va_runSN (As := [.int v_292, .int x2]) (rest := []) ⟨hx, hb, hml, hown, hts⟩ (kX4_isIn (l := l) (G := G)   v_292 x2 N u_293 hc_294 _) ⟨va_cnB 2 hts gX2_isOn_X4_isIn_n79 rfl rfl rfl (hK.2 (.methodLinkNest RX2 79 yX4_isIn RX4) (by simp [wNest])) (hts (.initialized RX4) (by decide +kernel)) (by decide +kernel) ⟨Nat.le_of_ble_eq_true rfl, Nat.le_of_ble_eq_true rfl⟩, hts (.static yX4_isIn) (by decide +kernel), trivial⟩ (wPreS hP hD hK [] rfl rfl) rfl rfl hl.1 rfl (lv_room (Nat.le_of_ble_eq_true rfl)) dX2_isOn_7 ⟨Nat.zero_le _, Nat.zero_le _⟩) hP hD hS hA [] [0, 1, 2, 3, 4, 5] [0, 1, 2, 3, 4, 5] rfl rfl rfl (by decide) rfl rfl (fun H locs hP hD hS => ?_)
  obtain ⟨hz, h⟩ := zo_inv h
  obtain rfl := Option.some.inj h
  exact wrz hx hb hr hlocks hP hD hS (Nat.le_of_ble_eq_true rfl) (Nat.le_of_ble_eq_true rfl) hz rfl dX2_isOn_10
def fX2_d (N : Nat) (m_d : Nat → Int32) (x1 : Int32) : Option (Int32) := rd m_d 36 x1 (fun v_295 => some v_295)
set_option maxHeartbeats 4000000 in
set_option maxRecDepth 100000 in
theorem kX2_d {l : Launch} {G : wG} (m0 m1 m2 m3 m4 m5 : Nat) (m_x : Nat → Int32) (m_y : Nat → Int32) (m_d : Nat → Int32) (m_t : Nat → Int32) (m_v : Nat → Int32) (m_n : Int32) (x1 : Int32) (N : Nat) (v : Int32) (h : fX2_d N m_d x1 = some v) : wCi l G yX2_d wsX2_d ({ frames := 0, cells := 0, slots := 0, locals := 0 } : Room) [.ref m0, .int x1] (w_M G m0 m1 m2 m3 m4 m5 m_x m_y m_d m_t m_v m_n) (w_M G m0 m1 m2 m3 m4 m5 m_x m_y m_d m_t m_v m_n) 0 0 v := by
  refine wCi.mk (cc := cX2_d) (maxL := 2) (ty := .int) (by decide) rfl (Nat.le_of_ble_eq_true rfl) ?_
  intro p e s m below meth c A ls hx hb hml hr hlocks hts hown hK hA hP hD hl
  have hx : p.tables.exec = Jvm.exec := hx
  have hown : s.vm.findClass RX2 = some m.cls := hown
  have hinX2 : ∀ w ∈ wsX20, w ∈ wsX2_d := by decide +kernel
  have lk18 := hts (.fieldLink RX2 18 "Chamberwright$Meets" "ds" "[I") (by decide +kernel)
  have hS : va_S A s.heap s.heap [] := va_S.rf
  have hP : va_P G.1 vwCl (w_M G m0 m1 m2 m3 m4 m5 m_x m_y m_d m_t m_v m_n) s.heap := hP
  have hD : va_D A (w_M G m0 m1 m2 m3 m4 m5 m_x m_y m_d m_t m_v m_n) := hD
  have hl : lv_has ls 2 [(0, .ref m0), (1, .int x1)] := hl
  obtain ⟨args, hargs⟩ : ∃ z : Array Value, z = ([.ref m0, .int x1] : List Value).toArray := ⟨_, rfl⟩
  rw [← hargs]
  rw [← hargs] at hts
  rw [fX2_d.eq_1] at h
  refine lv_aload_n hx hb dX2_d_0 rfl (lv_at hl 0 rfl) ?_
  refine va_get (D := G.1) (ci := 2) (v := .ref m3) (C := RX2) (T := TX2) (N := 6) hx hb hts hinX2 hown hK.1 hP 0 rfl rfl 2 (by decide) lk18 (fun _ h9 => h9) rfl dX2_d_1 ?_
  refine lv_iload_n hx hb dX2_d_4 rfl (lv_at hl 1 rfl) ?_
  refine wiald h hx hb hK hP 3 rfl dX2_d_5 (fun v_295 h => ?_)
  obtain rfl := Option.some.inj h
  exact wri hx hb hr hlocks hP hD hS (Nat.le_of_ble_eq_true rfl) (Nat.le_of_ble_eq_true rfl) rfl dX2_d_6
def fX2_x (N : Nat) (m_x : Nat → Int32) (x1 : Int32) : Option (Int32) := rd m_x 36 x1 (fun v_296 => some v_296)
set_option maxHeartbeats 4000000 in
set_option maxRecDepth 100000 in
theorem kX2_x {l : Launch} {G : wG} (m0 m1 m2 m3 m4 m5 : Nat) (m_x : Nat → Int32) (m_y : Nat → Int32) (m_d : Nat → Int32) (m_t : Nat → Int32) (m_v : Nat → Int32) (m_n : Int32) (x1 : Int32) (N : Nat) (v : Int32) (h : fX2_x N m_x x1 = some v) : wCi l G yX2_x wsX2_x ({ frames := 0, cells := 0, slots := 0, locals := 0 } : Room) [.ref m0, .int x1] (w_M G m0 m1 m2 m3 m4 m5 m_x m_y m_d m_t m_v m_n) (w_M G m0 m1 m2 m3 m4 m5 m_x m_y m_d m_t m_v m_n) 0 0 v := by
  refine wCi.mk (cc := cX2_x) (maxL := 2) (ty := .int) (by decide) rfl (Nat.le_of_ble_eq_true rfl) ?_
  intro p e s m below meth c A ls hx hb hml hr hlocks hts hown hK hA hP hD hl
  have hx : p.tables.exec = Jvm.exec := hx
  have hown : s.vm.findClass RX2 = some m.cls := hown
  have hinX2 : ∀ w ∈ wsX20, w ∈ wsX2_x := by decide +kernel
  have lk9 := hts (.fieldLink RX2 9 "Chamberwright$Meets" "xs" "[I") (by decide +kernel)
  have hS : va_S A s.heap s.heap [] := va_S.rf
  have hP : va_P G.1 vwCl (w_M G m0 m1 m2 m3 m4 m5 m_x m_y m_d m_t m_v m_n) s.heap := hP
  have hD : va_D A (w_M G m0 m1 m2 m3 m4 m5 m_x m_y m_d m_t m_v m_n) := hD
  have hl : lv_has ls 2 [(0, .ref m0), (1, .int x1)] := hl
  obtain ⟨args, hargs⟩ : ∃ z : Array Value, z = ([.ref m0, .int x1] : List Value).toArray := ⟨_, rfl⟩
  rw [← hargs]
  rw [← hargs] at hts
  rw [fX2_x.eq_1] at h
  refine lv_aload_n hx hb dX2_x_0 rfl (lv_at hl 0 rfl) ?_
  refine va_get (D := G.1) (ci := 2) (v := .ref m1) (C := RX2) (T := TX2) (N := 6) hx hb hts hinX2 hown hK.1 hP 0 rfl rfl 0 (by decide) lk9 (fun _ h9 => h9) rfl dX2_x_1 ?_
  refine lv_iload_n hx hb dX2_x_4 rfl (lv_at hl 1 rfl) ?_
  refine wiald h hx hb hK hP 1 rfl dX2_x_5 (fun v_296 h => ?_)
  obtain rfl := Option.some.inj h
  exact wri hx hb hr hlocks hP hD hS (Nat.le_of_ble_eq_true rfl) (Nat.le_of_ble_eq_true rfl) rfl dX2_x_6
def fX2_y (N : Nat) (m_y : Nat → Int32) (x1 : Int32) : Option (Int32) := rd m_y 36 x1 (fun v_297 => some v_297)
set_option maxHeartbeats 4000000 in
set_option maxRecDepth 100000 in
theorem kX2_y {l : Launch} {G : wG} (m0 m1 m2 m3 m4 m5 : Nat) (m_x : Nat → Int32) (m_y : Nat → Int32) (m_d : Nat → Int32) (m_t : Nat → Int32) (m_v : Nat → Int32) (m_n : Int32) (x1 : Int32) (N : Nat) (v : Int32) (h : fX2_y N m_y x1 = some v) : wCi l G yX2_y wsX2_y ({ frames := 0, cells := 0, slots := 0, locals := 0 } : Room) [.ref m0, .int x1] (w_M G m0 m1 m2 m3 m4 m5 m_x m_y m_d m_t m_v m_n) (w_M G m0 m1 m2 m3 m4 m5 m_x m_y m_d m_t m_v m_n) 0 0 v := by
  refine wCi.mk (cc := cX2_y) (maxL := 2) (ty := .int) (by decide) rfl (Nat.le_of_ble_eq_true rfl) ?_
  intro p e s m below meth c A ls hx hb hml hr hlocks hts hown hK hA hP hD hl
  have hx : p.tables.exec = Jvm.exec := hx
  have hown : s.vm.findClass RX2 = some m.cls := hown
  have hinX2 : ∀ w ∈ wsX20, w ∈ wsX2_y := by decide +kernel
  have lk15 := hts (.fieldLink RX2 15 "Chamberwright$Meets" "ys" "[I") (by decide +kernel)
  have hS : va_S A s.heap s.heap [] := va_S.rf
  have hP : va_P G.1 vwCl (w_M G m0 m1 m2 m3 m4 m5 m_x m_y m_d m_t m_v m_n) s.heap := hP
  have hD : va_D A (w_M G m0 m1 m2 m3 m4 m5 m_x m_y m_d m_t m_v m_n) := hD
  have hl : lv_has ls 2 [(0, .ref m0), (1, .int x1)] := hl
  obtain ⟨args, hargs⟩ : ∃ z : Array Value, z = ([.ref m0, .int x1] : List Value).toArray := ⟨_, rfl⟩
  rw [← hargs]
  rw [← hargs] at hts
  rw [fX2_y.eq_1] at h
  refine lv_aload_n hx hb dX2_y_0 rfl (lv_at hl 0 rfl) ?_
  refine va_get (D := G.1) (ci := 2) (v := .ref m2) (C := RX2) (T := TX2) (N := 6) hx hb hts hinX2 hown hK.1 hP 0 rfl rfl 1 (by decide) lk15 (fun _ h9 => h9) rfl dX2_y_1 ?_
  refine lv_iload_n hx hb dX2_y_4 rfl (lv_at hl 1 rfl) ?_
  refine wiald h hx hb hK hP 2 rfl dX2_y_5 (fun v_297 h => ?_)
  obtain rfl := Option.some.inj h
  exact wri hx hb hr hlocks hP hD hS (Nat.le_of_ble_eq_true rfl) (Nat.le_of_ble_eq_true rfl) rfl dX2_y_6
def fX2_through (N : Nat) (m_t : Nat → Int32) (x1 : Int32) : Option (Int32) := rd m_t 36 x1 (fun v_298 => some v_298)
set_option maxHeartbeats 4000000 in
set_option maxRecDepth 100000 in
theorem kX2_through {l : Launch} {G : wG} (m0 m1 m2 m3 m4 m5 : Nat) (m_x : Nat → Int32) (m_y : Nat → Int32) (m_d : Nat → Int32) (m_t : Nat → Int32) (m_v : Nat → Int32) (m_n : Int32) (x1 : Int32) (N : Nat) (v : Int32) (h : fX2_through N m_t x1 = some v) : wCi l G yX2_through wsX2_through ({ frames := 0, cells := 0, slots := 0, locals := 0 } : Room) [.ref m0, .int x1] (w_M G m0 m1 m2 m3 m4 m5 m_x m_y m_d m_t m_v m_n) (w_M G m0 m1 m2 m3 m4 m5 m_x m_y m_d m_t m_v m_n) 0 0 v := by
  refine wCi.mk (cc := cX2_through) (maxL := 2) (ty := .int) (by decide) rfl (Nat.le_of_ble_eq_true rfl) ?_
  intro p e s m below meth c A ls hx hb hml hr hlocks hts hown hK hA hP hD hl
  have hx : p.tables.exec = Jvm.exec := hx
  have hown : s.vm.findClass RX2 = some m.cls := hown
  have hinX2 : ∀ w ∈ wsX20, w ∈ wsX2_through := by decide +kernel
  have lk21 := hts (.fieldLink RX2 21 "Chamberwright$Meets" "through" "[I") (by decide +kernel)
  have hS : va_S A s.heap s.heap [] := va_S.rf
  have hP : va_P G.1 vwCl (w_M G m0 m1 m2 m3 m4 m5 m_x m_y m_d m_t m_v m_n) s.heap := hP
  have hD : va_D A (w_M G m0 m1 m2 m3 m4 m5 m_x m_y m_d m_t m_v m_n) := hD
  have hl : lv_has ls 2 [(0, .ref m0), (1, .int x1)] := hl
  obtain ⟨args, hargs⟩ : ∃ z : Array Value, z = ([.ref m0, .int x1] : List Value).toArray := ⟨_, rfl⟩
  rw [← hargs]
  rw [← hargs] at hts
  rw [fX2_through.eq_1] at h
  refine lv_aload_n hx hb dX2_through_0 rfl (lv_at hl 0 rfl) ?_
  refine va_get (D := G.1) (ci := 2) (v := .ref m4) (C := RX2) (T := TX2) (N := 6) hx hb hts hinX2 hown hK.1 hP 0 rfl rfl 3 (by decide) lk21 (fun _ h9 => h9) rfl dX2_through_1 ?_
  refine lv_iload_n hx hb dX2_through_4 rfl (lv_at hl 1 rfl) ?_
  refine wiald h hx hb hK hP 4 rfl dX2_through_5 (fun v_298 h => ?_)
  obtain rfl := Option.some.inj h
  exact wri hx hb hr hlocks hP hD hS (Nat.le_of_ble_eq_true rfl) (Nat.le_of_ble_eq_true rfl) rfl dX2_through_6
def fX2_surplus_b4 (N : Nat) (m_t : Nat → Int32) (m_n : Int32) : Nat → Int32 → Int32 → Option (Int32)
  | 0, _, _ => none
  | n + 1, x1, x2 => if m_n ≤ x2 then some x1 else rd m_t 36 x2 (fun v_300 => bd (fJ6_bitCount_0f7a4 N v_300) (fun u_301 => fX2_surplus_b4 N m_t m_n n (x1 + (u_301 - 1)) (x2 + 1)))
def fX2_surplus (N : Nat) (m_t : Nat → Int32) (m_n : Int32) : Option (Int32) := fX2_surplus_b4 N m_t m_n N 0 0
set_option maxHeartbeats 4000000 in
set_option maxRecDepth 100000 in
theorem kX2_surplus {l : Launch} {G : wG} (m0 m1 m2 m3 m4 m5 : Nat) (m_x : Nat → Int32) (m_y : Nat → Int32) (m_d : Nat → Int32) (m_t : Nat → Int32) (m_v : Nat → Int32) (m_n : Int32) (N : Nat) (v : Int32) (h : fX2_surplus N m_t m_n = some v) : wCi l G yX2_surplus wsX2_surplus ({ frames := 1, cells := 0, slots := 0, locals := 20 } : Room) [.ref m0] (w_M G m0 m1 m2 m3 m4 m5 m_x m_y m_d m_t m_v m_n) (w_M G m0 m1 m2 m3 m4 m5 m_x m_y m_d m_t m_v m_n) 0 0 v := by
  refine wCi.mk (cc := cX2_surplus) (maxL := 3) (ty := .int) (by decide) rfl (Nat.le_of_ble_eq_true rfl) ?_
  intro p e s m below meth c A ls hx hb hml hr hlocks hts hown hK hA hP hD hl
  have hx : p.tables.exec = Jvm.exec := hx
  have hown : s.vm.findClass RX2 = some m.cls := hown
  have hinX2 : ∀ w ∈ wsX20, w ∈ wsX2_surplus := by decide +kernel
  have lk21 := hts (.fieldLink RX2 21 "Chamberwright$Meets" "through" "[I") (by decide +kernel)
  have lk27 := hts (.fieldLink RX2 27 "Chamberwright$Meets" "count" "I") (by decide +kernel)
  have hS : va_S A s.heap s.heap [] := va_S.rf
  have hP : va_P G.1 vwCl (w_M G m0 m1 m2 m3 m4 m5 m_x m_y m_d m_t m_v m_n) s.heap := hP
  have hD : va_D A (w_M G m0 m1 m2 m3 m4 m5 m_x m_y m_d m_t m_v m_n) := hD
  have hl : lv_has ls 3 [(0, .ref m0)] := hl
  obtain ⟨args, hargs⟩ : ∃ z : Array Value, z = ([.ref m0] : List Value).toArray := ⟨_, rfl⟩
  rw [← hargs]
  rw [← hargs] at hts
  have w_4 : ∀   (_z : Unit), ∀ (n : Nat) (x1 : Int32) (x2 : Int32)  (H : Heap) (locs : List Loc) (ls : Array Slot), va_P G.1 vwCl (w_M G m0 m1 m2 m3 m4 m5 m_x m_y m_d m_t m_v m_n) H → va_D A (w_M G m0 m1 m2 m3 m4 m5 m_x m_y m_d m_t m_v m_n) → va_S A s.heap H locs → lv_has ls 3 [(0, .ref m0), (1, .int x1), (2, .int x2)] → fX2_surplus_b4 N m_t m_n n x1 x2 = some v → W p l e ({ frames := 1, cells := 0, slots := 0, locals := 20 } : Room) s m args below meth c H locs 0 0 (wQi G A below args s (w_M G m0 m1 m2 m3 m4 m5 m_x m_y m_d m_t m_v m_n) 0 0 v) (F0 m 4 ls []) := by
    intro _z n
    induction n with
    | zero =>
      intro x1 x2 H locs ls hP hD hS hl h
      rw [fX2_surplus_b4.eq_1] at h
      cases h
    | succ n ih =>
      intro x1 x2 H locs ls hP hD hS hl h
      rw [fX2_surplus_b4.eq_2] at h
      refine lv_iload_n hx hb dX2_surplus_4 rfl (lv_at hl 2 rfl) ?_
      refine lv_aload_n hx hb dX2_surplus_5 rfl (lv_at hl 0 rfl) ?_
      refine va_get (D := G.1) (ci := 2) (v := .int m_n) (C := RX2) (T := TX2) (N := 6) hx hb hts hinX2 hown hK.1 hP 0 rfl rfl 5 (by decide) lk27 (fun _ h9 => h9) rfl dX2_surplus_6 ?_
      refine lv_icmp_ge (tgt := 32) hx hb dX2_surplus_9 (by decide) (fun c_299 => ?_) (fun c_299 => ?_)
      · have h := ip c_299 h
        refine lv_iload_n hx hb dX2_surplus_32 rfl (lv_at hl 1 rfl) ?_
        obtain rfl := Option.some.inj h
        exact wri hx hb hr hlocks hP hD hS (Nat.le_of_ble_eq_true rfl) (Nat.le_of_ble_eq_true rfl) rfl dX2_surplus_33
      · have h := iq c_299 h
        refine lv_iload_n hx hb dX2_surplus_12 rfl (lv_at hl 1 rfl) ?_
        refine lv_aload_n hx hb dX2_surplus_13 rfl (lv_at hl 0 rfl) ?_
        refine va_get (D := G.1) (ci := 2) (v := .ref m4) (C := RX2) (T := TX2) (N := 6) hx hb hts hinX2 hown hK.1 hP 0 rfl rfl 3 (by decide) lk21 (fun _ h9 => h9) rfl dX2_surplus_14 ?_
        refine lv_iload_n hx hb dX2_surplus_17 rfl (lv_at hl 2 rfl) ?_
        refine wiald h hx hb hK hP 4 rfl dX2_surplus_18 (fun v_300 h => ?_)
        obtain ⟨u_301, hc_302, h⟩ := bd_inv h
        refine wafter_i (wr := (w_M G m0 m1 m2 m3 m4 m5 m_x m_y m_d m_t m_v m_n)) (w2 := (w_M G m0 m1 m2 m3 m4 m5 m_x m_y m_d m_t m_v m_n)) (va_runS (As := [.int v_300]) (rest := [.int x1]) ⟨hx, hb, hml, hown, hts⟩ (kJ6_bitCount_0f7a4 (l := l) (G := G)   v_300 N u_301 hc_302 _) (va_cwS 1 hts gX2_surplus_J6_bitCount_0f7a4 rfl rfl rfl (by decide +kernel) ⟨Nat.le_of_ble_eq_true rfl, Nat.le_of_ble_eq_true rfl⟩) (wPreS hP hD hK [] rfl rfl) rfl rfl hl.1 rfl (lv_room (Nat.le_of_ble_eq_true rfl)) dX2_surplus_19 ⟨Nat.zero_le _, Nat.zero_le _⟩) hP hD hS hA [] [0, 1, 2, 3, 4, 5] [0, 1, 2, 3, 4, 5] rfl rfl rfl (by decide) rfl rfl (fun H locs hP hD hS => ?_)
        refine lv_iconst (v := 1) hx hb dX2_surplus_22 (by decide) ?_
        refine lv_isub hx hb dX2_surplus_23 ?_
        refine lv_iadd hx hb dX2_surplus_24 ?_
        refine lv_istore_n (lv' := [(1, .int (x1 + (u_301 - 1))), (0, .ref m0), (2, .int x2)]) hx hb dX2_surplus_25 rfl hl (by decide) rfl (fun ls hl => ?_)
        refine lv_iinc (v := (x2 + 1)) (lv' := [(2, .int (x2 + 1)), (1, .int (x1 + (u_301 - 1))), (0, .ref m0)]) hx hb dX2_surplus_26 hl (k := 2) rfl rfl (by decide) rfl (fun ls hl => ?_)
        refine lv_goto (tgt := 4) hx hb dX2_surplus_29 (by decide) ?_
        exact ih _ _ _ _ _ hP hD hS (lv_sub hl [2, 1, 0] rfl) h
  rw [fX2_surplus.eq_1] at h
  refine lv_iconst (v := 0) hx hb dX2_surplus_0 (by decide) ?_
  refine lv_istore_n (lv' := [(1, .int 0), (0, .ref m0)]) hx hb dX2_surplus_1 rfl hl (by decide) rfl (fun ls hl => ?_)
  refine lv_iconst (v := 0) hx hb dX2_surplus_2 (by decide) ?_
  refine lv_istore_n (lv' := [(2, .int 0), (1, .int 0), (0, .ref m0)]) hx hb dX2_surplus_3 rfl hl (by decide) rfl (fun ls hl => ?_)
  exact w_4    ()  N _ _  _ _ _ hP hD hS (lv_sub hl [2, 1, 0] rfl) h
def fX2_projected (N : Nat) (m_t : Nat → Int32) (m_v : Nat → Int32) (x1 : Int32) (x2 : Int32) : Option (Int32) := rd m_t 36 x1 (fun v_303 => rd m_v 36 x1 (fun v_304 => some (((x2 &&& v_303) ||| v_304))))
set_option maxHeartbeats 4000000 in
set_option maxRecDepth 100000 in
theorem kX2_projected {l : Launch} {G : wG} (m0 m1 m2 m3 m4 m5 : Nat) (m_x : Nat → Int32) (m_y : Nat → Int32) (m_d : Nat → Int32) (m_t : Nat → Int32) (m_v : Nat → Int32) (m_n : Int32) (x1 : Int32) (x2 : Int32) (N : Nat) (v : Int32) (h : fX2_projected N m_t m_v x1 x2 = some v) : wCi l G yX2_projected wsX2_projected ({ frames := 0, cells := 0, slots := 0, locals := 0 } : Room) [.ref m0, .int x1, .int x2] (w_M G m0 m1 m2 m3 m4 m5 m_x m_y m_d m_t m_v m_n) (w_M G m0 m1 m2 m3 m4 m5 m_x m_y m_d m_t m_v m_n) 0 0 v := by
  refine wCi.mk (cc := cX2_projected) (maxL := 3) (ty := .int) (by decide) rfl (Nat.le_of_ble_eq_true rfl) ?_
  intro p e s m below meth c A ls hx hb hml hr hlocks hts hown hK hA hP hD hl
  have hx : p.tables.exec = Jvm.exec := hx
  have hown : s.vm.findClass RX2 = some m.cls := hown
  have hinX2 : ∀ w ∈ wsX20, w ∈ wsX2_projected := by decide +kernel
  have lk21 := hts (.fieldLink RX2 21 "Chamberwright$Meets" "through" "[I") (by decide +kernel)
  have lk24 := hts (.fieldLink RX2 24 "Chamberwright$Meets" "above" "[I") (by decide +kernel)
  have hS : va_S A s.heap s.heap [] := va_S.rf
  have hP : va_P G.1 vwCl (w_M G m0 m1 m2 m3 m4 m5 m_x m_y m_d m_t m_v m_n) s.heap := hP
  have hD : va_D A (w_M G m0 m1 m2 m3 m4 m5 m_x m_y m_d m_t m_v m_n) := hD
  have hl : lv_has ls 3 [(0, .ref m0), (1, .int x1), (2, .int x2)] := hl
  obtain ⟨args, hargs⟩ : ∃ z : Array Value, z = ([.ref m0, .int x1, .int x2] : List Value).toArray := ⟨_, rfl⟩
  rw [← hargs]
  rw [← hargs] at hts
  rw [fX2_projected.eq_1] at h
  refine lv_iload_n hx hb dX2_projected_0 rfl (lv_at hl 2 rfl) ?_
  refine lv_aload_n hx hb dX2_projected_1 rfl (lv_at hl 0 rfl) ?_
  refine va_get (D := G.1) (ci := 2) (v := .ref m4) (C := RX2) (T := TX2) (N := 6) hx hb hts hinX2 hown hK.1 hP 0 rfl rfl 3 (by decide) lk21 (fun _ h9 => h9) rfl dX2_projected_2 ?_
  refine lv_iload_n hx hb dX2_projected_5 rfl (lv_at hl 1 rfl) ?_
  refine wiald h hx hb hK hP 4 rfl dX2_projected_6 (fun v_303 h => ?_)
  refine lv_iand hx hb dX2_projected_7 ?_
  refine lv_aload_n hx hb dX2_projected_8 rfl (lv_at hl 0 rfl) ?_
  refine va_get (D := G.1) (ci := 2) (v := .ref m5) (C := RX2) (T := TX2) (N := 6) hx hb hts hinX2 hown hK.1 hP 0 rfl rfl 4 (by decide) lk24 (fun _ h9 => h9) rfl dX2_projected_9 ?_
  refine lv_iload_n hx hb dX2_projected_12 rfl (lv_at hl 1 rfl) ?_
  refine wiald h hx hb hK hP 5 rfl dX2_projected_13 (fun v_304 h => ?_)
  refine lv_ior hx hb dX2_projected_14 ?_
  obtain rfl := Option.some.inj h
  exact wri hx hb hr hlocks hP hD hS (Nat.le_of_ble_eq_true rfl) (Nat.le_of_ble_eq_true rfl) rfl dX2_projected_15
def fX2_isCornerOf (N : Nat) (m_t : Nat → Int32) (m_v : Nat → Int32) (x1 : Int32) (x2 : Int32) : Option (Int32) := bd (fX2_projected N m_t m_v x1 x2) (fun u_305 => if u_305 = x2 then zo 1 (some 1) else zo 0 (some 0))
set_option maxHeartbeats 4000000 in
set_option maxRecDepth 100000 in
theorem kX2_isCornerOf {l : Launch} {G : wG} (m0 m1 m2 m3 m4 m5 : Nat) (m_x : Nat → Int32) (m_y : Nat → Int32) (m_d : Nat → Int32) (m_t : Nat → Int32) (m_v : Nat → Int32) (m_n : Int32) (x1 : Int32) (x2 : Int32) (N : Nat) (v : Int32) (h : fX2_isCornerOf N m_t m_v x1 x2 = some v) : wCi l G yX2_isCornerOf wsX2_isCornerOf ({ frames := 1, cells := 0, slots := 0, locals := 22 } : Room) [.ref m0, .int x1, .int x2] (w_M G m0 m1 m2 m3 m4 m5 m_x m_y m_d m_t m_v m_n) (w_M G m0 m1 m2 m3 m4 m5 m_x m_y m_d m_t m_v m_n) 0 0 v := by
  refine wCi.mk (cc := cX2_isCornerOf) (maxL := 3) (ty := .boolean) (by decide) rfl (Nat.le_of_ble_eq_true rfl) ?_
  intro p e s m below meth c A ls hx hb hml hr hlocks hts hown hK hA hP hD hl
  have hx : p.tables.exec = Jvm.exec := hx
  have hown : s.vm.findClass RX2 = some m.cls := hown
  have hS : va_S A s.heap s.heap [] := va_S.rf
  have hP : va_P G.1 vwCl (w_M G m0 m1 m2 m3 m4 m5 m_x m_y m_d m_t m_v m_n) s.heap := hP
  have hD : va_D A (w_M G m0 m1 m2 m3 m4 m5 m_x m_y m_d m_t m_v m_n) := hD
  have hl : lv_has ls 3 [(0, .ref m0), (1, .int x1), (2, .int x2)] := hl
  obtain ⟨args, hargs⟩ : ∃ z : Array Value, z = ([.ref m0, .int x1, .int x2] : List Value).toArray := ⟨_, rfl⟩
  rw [← hargs]
  rw [← hargs] at hts
  rw [fX2_isCornerOf.eq_1] at h
  refine lv_aload_n hx hb dX2_isCornerOf_0 rfl (lv_at hl 0 rfl) ?_
  refine lv_iload_n hx hb dX2_isCornerOf_1 rfl (lv_at hl 1 rfl) ?_
  refine lv_iload_n hx hb dX2_isCornerOf_2 rfl (lv_at hl 2 rfl) ?_
  obtain ⟨u_305, hc_306, h⟩ := bd_inv h
  refine wafter_i (wr := []) (w2 := (w_M G m0 m1 m2 m3 m4 m5 m_x m_y m_d m_t m_v m_n)) (va_runV (As := [.int x1, .int x2]) (rest := []) ⟨hx, hb, hml, hown, hts⟩ (kX2_projected (l := l) (G := G) m0 m1 m2 m3 m4 m5 m_x m_y m_d m_t m_v m_n x1 x2 N u_305 hc_306 _) (cwV 2 hts gX2_isCornerOf_X2_projected rfl rfl rfl (by decide +kernel) ⟨Nat.le_of_ble_eq_true rfl, Nat.le_of_ble_eq_true rfl⟩) (wPreV hP hD hK [0, 1, 2, 3, 4, 5] rfl rfl (ci := 2) (qb := 0) rfl rfl rfl) rfl rfl hl.1 rfl (lv_room (Nat.le_of_ble_eq_true rfl)) dX2_isCornerOf_3 ⟨Nat.zero_le _, Nat.zero_le _⟩) hP hD hS hA [0, 1, 2, 3, 4, 5] [] [0, 1, 2, 3, 4, 5] rfl rfl rfl (by decide) rfl rfl (fun H locs hP hD hS => ?_)
  refine lv_iload_n hx hb dX2_isCornerOf_6 rfl (lv_at hl 2 rfl) ?_
  refine lv_icmp_ne (tgt := 14) hx hb dX2_isCornerOf_7 (by decide) (fun c_307 => ?_) (fun c_307 => ?_)
  · have h := iq c_307 h
    refine lv_iconst (v := 0) hx hb dX2_isCornerOf_14 (by decide) ?_
    obtain ⟨hz, h⟩ := zo_inv h
    obtain rfl := Option.some.inj h
    exact wrz hx hb hr hlocks hP hD hS (Nat.le_of_ble_eq_true rfl) (Nat.le_of_ble_eq_true rfl) hz rfl dX2_isCornerOf_15
  · have h := ip c_307 h
    refine lv_iconst (v := 1) hx hb dX2_isCornerOf_10 (by decide) ?_
    refine lv_goto (tgt := 15) hx hb dX2_isCornerOf_11 (by decide) ?_
    obtain ⟨hz, h⟩ := zo_inv h
    obtain rfl := Option.some.inj h
    exact wrz hx hb hr hlocks hP hD hS (Nat.le_of_ble_eq_true rfl) (Nat.le_of_ble_eq_true rfl) hz rfl dX2_isCornerOf_15
def fX2_cornersOf_b4 (N : Nat) (m_t : Nat → Int32) (m_v : Nat → Int32) (m_n : Int32) (x1 : Int32) : Nat → Int32 → Int32 → Option (Int32)
  | 0, _, _ => none
  | n + 1, x2, x3 => if m_n ≤ x3 then some x2 else bd (fX2_isCornerOf N m_t m_v x3 x1) (fun u_309 => if u_309 = 0 then fX2_cornersOf_b4 N m_t m_v m_n x1 n x2 (x3 + 1) else fX2_cornersOf_b4 N m_t m_v m_n x1 n (x2 + 1) (x3 + 1))
def fX2_cornersOf (N : Nat) (m_t : Nat → Int32) (m_v : Nat → Int32) (m_n : Int32) (x1 : Int32) : Option (Int32) := fX2_cornersOf_b4 N m_t m_v m_n x1 N 0 0
set_option maxHeartbeats 4000000 in
set_option maxRecDepth 100000 in
theorem kX2_cornersOf {l : Launch} {G : wG} (m0 m1 m2 m3 m4 m5 : Nat) (m_x : Nat → Int32) (m_y : Nat → Int32) (m_d : Nat → Int32) (m_t : Nat → Int32) (m_v : Nat → Int32) (m_n : Int32) (x1 : Int32) (N : Nat) (v : Int32) (h : fX2_cornersOf N m_t m_v m_n x1 = some v) : wCi l G yX2_cornersOf wsX2_cornersOf ({ frames := 2, cells := 0, slots := 0, locals := 44 } : Room) [.ref m0, .int x1] (w_M G m0 m1 m2 m3 m4 m5 m_x m_y m_d m_t m_v m_n) (w_M G m0 m1 m2 m3 m4 m5 m_x m_y m_d m_t m_v m_n) 0 0 v := by
  refine wCi.mk (cc := cX2_cornersOf) (maxL := 4) (ty := .int) (by decide) rfl (Nat.le_of_ble_eq_true rfl) ?_
  intro p e s m below meth c A ls hx hb hml hr hlocks hts hown hK hA hP hD hl
  have hx : p.tables.exec = Jvm.exec := hx
  have hown : s.vm.findClass RX2 = some m.cls := hown
  have hinX2 : ∀ w ∈ wsX20, w ∈ wsX2_cornersOf := by decide +kernel
  have lk27 := hts (.fieldLink RX2 27 "Chamberwright$Meets" "count" "I") (by decide +kernel)
  have hS : va_S A s.heap s.heap [] := va_S.rf
  have hP : va_P G.1 vwCl (w_M G m0 m1 m2 m3 m4 m5 m_x m_y m_d m_t m_v m_n) s.heap := hP
  have hD : va_D A (w_M G m0 m1 m2 m3 m4 m5 m_x m_y m_d m_t m_v m_n) := hD
  have hl : lv_has ls 4 [(0, .ref m0), (1, .int x1)] := hl
  obtain ⟨args, hargs⟩ : ∃ z : Array Value, z = ([.ref m0, .int x1] : List Value).toArray := ⟨_, rfl⟩
  rw [← hargs]
  rw [← hargs] at hts
  have w_4 : ∀ (x1 : Int32)  (_z : Unit), ∀ (n : Nat) (x2 : Int32) (x3 : Int32)  (H : Heap) (locs : List Loc) (ls : Array Slot), va_P G.1 vwCl (w_M G m0 m1 m2 m3 m4 m5 m_x m_y m_d m_t m_v m_n) H → va_D A (w_M G m0 m1 m2 m3 m4 m5 m_x m_y m_d m_t m_v m_n) → va_S A s.heap H locs → lv_has ls 4 [(0, .ref m0), (1, .int x1), (2, .int x2), (3, .int x3)] → fX2_cornersOf_b4 N m_t m_v m_n x1 n x2 x3 = some v → W p l e ({ frames := 2, cells := 0, slots := 0, locals := 44 } : Room) s m args below meth c H locs 0 0 (wQi G A below args s (w_M G m0 m1 m2 m3 m4 m5 m_x m_y m_d m_t m_v m_n) 0 0 v) (F0 m 4 ls []) := by
    intro x1 _z n
    induction n with
    | zero =>
      intro x2 x3 H locs ls hP hD hS hl h
      rw [fX2_cornersOf_b4.eq_1] at h
      cases h
    | succ n ih =>
      intro x2 x3 H locs ls hP hD hS hl h
      rw [fX2_cornersOf_b4.eq_2] at h
      refine lv_iload_n hx hb dX2_cornersOf_4 rfl (lv_at hl 3 rfl) ?_
      refine lv_aload_n hx hb dX2_cornersOf_5 rfl (lv_at hl 0 rfl) ?_
      refine va_get (D := G.1) (ci := 2) (v := .int m_n) (C := RX2) (T := TX2) (N := 6) hx hb hts hinX2 hown hK.1 hP 0 rfl rfl 5 (by decide) lk27 (fun _ h9 => h9) rfl dX2_cornersOf_6 ?_
      refine lv_icmp_ge (tgt := 30) hx hb dX2_cornersOf_9 (by decide) (fun c_308 => ?_) (fun c_308 => ?_)
      · have h := ip c_308 h
        refine lv_iload_n hx hb dX2_cornersOf_30 rfl (lv_at hl 2 rfl) ?_
        obtain rfl := Option.some.inj h
        exact wri hx hb hr hlocks hP hD hS (Nat.le_of_ble_eq_true rfl) (Nat.le_of_ble_eq_true rfl) rfl dX2_cornersOf_31
      · have h := iq c_308 h
        refine lv_aload_n hx hb dX2_cornersOf_12 rfl (lv_at hl 0 rfl) ?_
        refine lv_iload_n hx hb dX2_cornersOf_13 rfl (lv_at hl 3 rfl) ?_
        refine lv_iload_n hx hb dX2_cornersOf_14 rfl (lv_at hl 1 rfl) ?_
        obtain ⟨u_309, hc_310, h⟩ := bd_inv h
        refine wafter_i (wr := []) (w2 := (w_M G m0 m1 m2 m3 m4 m5 m_x m_y m_d m_t m_v m_n)) (va_runV (As := [.int x3, .int x1]) (rest := []) ⟨hx, hb, hml, hown, hts⟩ (kX2_isCornerOf (l := l) (G := G) m0 m1 m2 m3 m4 m5 m_x m_y m_d m_t m_v m_n x3 x1 N u_309 hc_310 _) (cwV 2 hts gX2_cornersOf_X2_isCornerOf rfl rfl rfl (by decide +kernel) ⟨Nat.le_of_ble_eq_true rfl, Nat.le_of_ble_eq_true rfl⟩) (wPreV hP hD hK [0, 1, 2, 3, 4, 5] rfl rfl (ci := 2) (qb := 0) rfl rfl rfl) rfl rfl hl.1 rfl (lv_room (Nat.le_of_ble_eq_true rfl)) dX2_cornersOf_15 ⟨Nat.zero_le _, Nat.zero_le _⟩) hP hD hS hA [0, 1, 2, 3, 4, 5] [] [0, 1, 2, 3, 4, 5] rfl rfl rfl (by decide) rfl rfl (fun H locs hP hD hS => ?_)
        refine lv_if_eq (tgt := 24) hx hb dX2_cornersOf_18 (by decide) (fun c_311 => ?_) (fun c_311 => ?_)
        · have h := ip c_311 h
          refine lv_iinc (v := (x3 + 1)) (lv' := [(3, .int (x3 + 1)), (0, .ref m0), (1, .int x1), (2, .int x2)]) hx hb dX2_cornersOf_24 hl (k := 3) rfl rfl (by decide) rfl (fun ls hl => ?_)
          refine lv_goto (tgt := 4) hx hb dX2_cornersOf_27 (by decide) ?_
          exact ih _ _ _ _ _ hP hD hS (lv_sub hl [1, 2, 3, 0] rfl) h
        · have h := iq c_311 h
          refine lv_iinc (v := (x2 + 1)) (lv' := [(2, .int (x2 + 1)), (0, .ref m0), (1, .int x1), (3, .int x3)]) hx hb dX2_cornersOf_21 hl (k := 2) rfl rfl (by decide) rfl (fun ls hl => ?_)
          refine lv_iinc (v := (x3 + 1)) (lv' := [(3, .int (x3 + 1)), (2, .int (x2 + 1)), (0, .ref m0), (1, .int x1)]) hx hb dX2_cornersOf_24 hl (k := 3) rfl rfl (by decide) rfl (fun ls hl => ?_)
          refine lv_goto (tgt := 4) hx hb dX2_cornersOf_27 (by decide) ?_
          exact ih _ _ _ _ _ hP hD hS (lv_sub hl [2, 3, 1, 0] rfl) h
  rw [fX2_cornersOf.eq_1] at h
  refine lv_iconst (v := 0) hx hb dX2_cornersOf_0 (by decide) ?_
  refine lv_istore_n (lv' := [(2, .int 0), (0, .ref m0), (1, .int x1)]) hx hb dX2_cornersOf_1 rfl hl (by decide) rfl (fun ls hl => ?_)
  refine lv_iconst (v := 0) hx hb dX2_cornersOf_2 (by decide) ?_
  refine lv_istore_n (lv' := [(3, .int 0), (2, .int 0), (0, .ref m0), (1, .int x1)]) hx hb dX2_cornersOf_3 rfl hl (by decide) rfl (fun ls hl => ?_)
  exact w_4  _  ()  N _ _  _ _ _ hP hD hS (lv_sub hl [2, 3, 1, 0] rfl) h
def fX2_cornerAt_b5 (N : Nat) (m_t : Nat → Int32) (m_v : Nat → Int32) (m_n : Int32) (x1 : Int32) (x2 : Int32) : Nat → Int32 → Int32 → Option (Int32)
  | 0, _, _ => none
  | n + 1, x3, x4 => if m_n ≤ x4 then some ((-1)) else bd (fX2_isCornerOf N m_t m_v x4 x1) (fun u_313 => if u_313 = 0 then fX2_cornerAt_b5 N m_t m_v m_n x1 x2 n x3 (x4 + 1) else if x3 = x2 then some x4 else fX2_cornerAt_b5 N m_t m_v m_n x1 x2 n (x3 + 1) (x4 + 1))
def fX2_cornerAt (N : Nat) (m_t : Nat → Int32) (m_v : Nat → Int32) (m_n : Int32) (x1 : Int32) (x2 : Int32) : Option (Int32) := fX2_cornerAt_b5 N m_t m_v m_n x1 x2 N 0 0
set_option maxHeartbeats 4000000 in
set_option maxRecDepth 100000 in
theorem kX2_cornerAt {l : Launch} {G : wG} (m0 m1 m2 m3 m4 m5 : Nat) (m_x : Nat → Int32) (m_y : Nat → Int32) (m_d : Nat → Int32) (m_t : Nat → Int32) (m_v : Nat → Int32) (m_n : Int32) (x1 : Int32) (x2 : Int32) (N : Nat) (v : Int32) (h : fX2_cornerAt N m_t m_v m_n x1 x2 = some v) : wCi l G yX2_cornerAt wsX2_cornerAt ({ frames := 2, cells := 0, slots := 0, locals := 44 } : Room) [.ref m0, .int x1, .int x2] (w_M G m0 m1 m2 m3 m4 m5 m_x m_y m_d m_t m_v m_n) (w_M G m0 m1 m2 m3 m4 m5 m_x m_y m_d m_t m_v m_n) 0 0 v := by
  refine wCi.mk (cc := cX2_cornerAt) (maxL := 5) (ty := .int) (by decide) rfl (Nat.le_of_ble_eq_true rfl) ?_
  intro p e s m below meth c A ls hx hb hml hr hlocks hts hown hK hA hP hD hl
  have hx : p.tables.exec = Jvm.exec := hx
  have hown : s.vm.findClass RX2 = some m.cls := hown
  have hinX2 : ∀ w ∈ wsX20, w ∈ wsX2_cornerAt := by decide +kernel
  have lk27 := hts (.fieldLink RX2 27 "Chamberwright$Meets" "count" "I") (by decide +kernel)
  have hS : va_S A s.heap s.heap [] := va_S.rf
  have hP : va_P G.1 vwCl (w_M G m0 m1 m2 m3 m4 m5 m_x m_y m_d m_t m_v m_n) s.heap := hP
  have hD : va_D A (w_M G m0 m1 m2 m3 m4 m5 m_x m_y m_d m_t m_v m_n) := hD
  have hl : lv_has ls 5 [(0, .ref m0), (1, .int x1), (2, .int x2)] := hl
  obtain ⟨args, hargs⟩ : ∃ z : Array Value, z = ([.ref m0, .int x1, .int x2] : List Value).toArray := ⟨_, rfl⟩
  rw [← hargs]
  rw [← hargs] at hts
  have w_5 : ∀ (x1 : Int32) (x2 : Int32)  (_z : Unit), ∀ (n : Nat) (x3 : Int32) (x4 : Int32)  (H : Heap) (locs : List Loc) (ls : Array Slot), va_P G.1 vwCl (w_M G m0 m1 m2 m3 m4 m5 m_x m_y m_d m_t m_v m_n) H → va_D A (w_M G m0 m1 m2 m3 m4 m5 m_x m_y m_d m_t m_v m_n) → va_S A s.heap H locs → lv_has ls 5 [(0, .ref m0), (1, .int x1), (2, .int x2), (3, .int x3), (4, .int x4)] → fX2_cornerAt_b5 N m_t m_v m_n x1 x2 n x3 x4 = some v → W p l e ({ frames := 2, cells := 0, slots := 0, locals := 44 } : Room) s m args below meth c H locs 0 0 (wQi G A below args s (w_M G m0 m1 m2 m3 m4 m5 m_x m_y m_d m_t m_v m_n) 0 0 v) (F0 m 5 ls []) := by
    intro x1 x2 _z n
    induction n with
    | zero =>
      intro x3 x4 H locs ls hP hD hS hl h
      rw [fX2_cornerAt_b5.eq_1] at h
      cases h
    | succ n ih =>
      intro x3 x4 H locs ls hP hD hS hl h
      rw [fX2_cornerAt_b5.eq_2] at h
      refine lv_iload hx hb dX2_cornerAt_5 (lv_at hl 4 rfl) ?_
      refine lv_aload_n hx hb dX2_cornerAt_7 rfl (lv_at hl 0 rfl) ?_
      refine va_get (D := G.1) (ci := 2) (v := .int m_n) (C := RX2) (T := TX2) (N := 6) hx hb hts hinX2 hown hK.1 hP 0 rfl rfl 5 (by decide) lk27 (fun _ h9 => h9) rfl dX2_cornerAt_8 ?_
      refine lv_icmp_ge (tgt := 44) hx hb dX2_cornerAt_11 (by decide) (fun c_312 => ?_) (fun c_312 => ?_)
      · have h := ip c_312 h
        refine lv_iconst (v := (-1)) hx hb dX2_cornerAt_44 (by decide) ?_
        obtain rfl := Option.some.inj h
        exact wri hx hb hr hlocks hP hD hS (Nat.le_of_ble_eq_true rfl) (Nat.le_of_ble_eq_true rfl) rfl dX2_cornerAt_45
      · have h := iq c_312 h
        refine lv_aload_n hx hb dX2_cornerAt_14 rfl (lv_at hl 0 rfl) ?_
        refine lv_iload hx hb dX2_cornerAt_15 (lv_at hl 4 rfl) ?_
        refine lv_iload_n hx hb dX2_cornerAt_17 rfl (lv_at hl 1 rfl) ?_
        obtain ⟨u_313, hc_314, h⟩ := bd_inv h
        refine wafter_i (wr := []) (w2 := (w_M G m0 m1 m2 m3 m4 m5 m_x m_y m_d m_t m_v m_n)) (va_runV (As := [.int x4, .int x1]) (rest := []) ⟨hx, hb, hml, hown, hts⟩ (kX2_isCornerOf (l := l) (G := G) m0 m1 m2 m3 m4 m5 m_x m_y m_d m_t m_v m_n x4 x1 N u_313 hc_314 _) (cwV 2 hts gX2_cornerAt_X2_isCornerOf rfl rfl rfl (by decide +kernel) ⟨Nat.le_of_ble_eq_true rfl, Nat.le_of_ble_eq_true rfl⟩) (wPreV hP hD hK [0, 1, 2, 3, 4, 5] rfl rfl (ci := 2) (qb := 0) rfl rfl rfl) rfl rfl hl.1 rfl (lv_room (Nat.le_of_ble_eq_true rfl)) dX2_cornerAt_18 ⟨Nat.zero_le _, Nat.zero_le _⟩) hP hD hS hA [0, 1, 2, 3, 4, 5] [] [0, 1, 2, 3, 4, 5] rfl rfl rfl (by decide) rfl rfl (fun H locs hP hD hS => ?_)
        refine lv_if_ne (tgt := 27) hx hb dX2_cornerAt_21 (by decide) (fun c_315 => ?_) (fun c_315 => ?_)
        · have h := iq c_315 h
          refine lv_iload_n hx hb dX2_cornerAt_27 rfl (lv_at hl 3 rfl) ?_
          refine lv_iload_n hx hb dX2_cornerAt_28 rfl (lv_at hl 2 rfl) ?_
          refine lv_icmp_ne (tgt := 35) hx hb dX2_cornerAt_29 (by decide) (fun c_316 => ?_) (fun c_316 => ?_)
          · have h := iq c_316 h
            refine lv_iinc (v := (x3 + 1)) (lv' := [(3, .int (x3 + 1)), (0, .ref m0), (1, .int x1), (2, .int x2), (4, .int x4)]) hx hb dX2_cornerAt_35 hl (k := 3) rfl rfl (by decide) rfl (fun ls hl => ?_)
            refine lv_iinc (v := (x4 + 1)) (lv' := [(4, .int (x4 + 1)), (3, .int (x3 + 1)), (0, .ref m0), (1, .int x1), (2, .int x2)]) hx hb dX2_cornerAt_38 hl (k := 4) rfl rfl (by decide) rfl (fun ls hl => ?_)
            refine lv_goto (tgt := 5) hx hb dX2_cornerAt_41 (by decide) ?_
            exact ih _ _ _ _ _ hP hD hS (lv_sub hl [2, 3, 4, 1, 0] rfl) h
          · have h := ip c_316 h
            refine lv_iload hx hb dX2_cornerAt_32 (lv_at hl 4 rfl) ?_
            obtain rfl := Option.some.inj h
            exact wri hx hb hr hlocks hP hD hS (Nat.le_of_ble_eq_true rfl) (Nat.le_of_ble_eq_true rfl) rfl dX2_cornerAt_34
        · have h := ip c_315 h
          refine lv_goto (tgt := 38) hx hb dX2_cornerAt_24 (by decide) ?_
          refine lv_iinc (v := (x4 + 1)) (lv' := [(4, .int (x4 + 1)), (0, .ref m0), (1, .int x1), (2, .int x2), (3, .int x3)]) hx hb dX2_cornerAt_38 hl (k := 4) rfl rfl (by decide) rfl (fun ls hl => ?_)
          refine lv_goto (tgt := 5) hx hb dX2_cornerAt_41 (by decide) ?_
          exact ih _ _ _ _ _ hP hD hS (lv_sub hl [1, 2, 3, 4, 0] rfl) h
  rw [fX2_cornerAt.eq_1] at h
  refine lv_iconst (v := 0) hx hb dX2_cornerAt_0 (by decide) ?_
  refine lv_istore_n (lv' := [(3, .int 0), (0, .ref m0), (1, .int x1), (2, .int x2)]) hx hb dX2_cornerAt_1 rfl hl (by decide) rfl (fun ls hl => ?_)
  refine lv_iconst (v := 0) hx hb dX2_cornerAt_2 (by decide) ?_
  refine lv_istore (lv' := [(4, .int 0), (3, .int 0), (0, .ref m0), (1, .int x1), (2, .int x2)]) hx hb dX2_cornerAt_3 hl (by decide) rfl (fun ls hl => ?_)
  exact w_5  _ _  ()  N _ _  _ _ _ hP hD hS (lv_sub hl [2, 3, 4, 1, 0] rfl) h
def fX2_isBetter (N : Nat) (m_x : Nat → Int32) (m_y : Nat → Int32) (m_d : Nat → Int32) (x1 : Int32) (x2 : Int32) (x3 : Int32) (x4 : Int32) : Option (Int32) := rd m_x 36 x1 (fun v_317 => rd m_y 36 x1 (fun v_318 => nm ((x3 * v_317) + (x4 * v_318)) (fun x5_319 => rd m_x 36 x2 (fun v_320 => rd m_y 36 x2 (fun v_321 => nm ((x3 * v_320) + (x4 * v_321)) (fun x6_322 => rd m_d 36 x2 (fun v_323 => rd m_d 36 x1 (fun v_324 => if (x5_319 * v_323) ≤ (x6_322 * v_324) then zo 0 (some 0) else zo 1 (some 1)))))))))
set_option maxHeartbeats 4000000 in
set_option maxRecDepth 100000 in
theorem kX2_isBetter {l : Launch} {G : wG} (m0 m1 m2 m3 m4 m5 : Nat) (m_x : Nat → Int32) (m_y : Nat → Int32) (m_d : Nat → Int32) (m_t : Nat → Int32) (m_v : Nat → Int32) (m_n : Int32) (x1 : Int32) (x2 : Int32) (x3 : Int32) (x4 : Int32) (N : Nat) (v : Int32) (h : fX2_isBetter N m_x m_y m_d x1 x2 x3 x4 = some v) : wCi l G yX2_isBetter wsX2_isBetter ({ frames := 0, cells := 0, slots := 0, locals := 0 } : Room) [.ref m0, .int x1, .int x2, .int x3, .int x4] (w_M G m0 m1 m2 m3 m4 m5 m_x m_y m_d m_t m_v m_n) (w_M G m0 m1 m2 m3 m4 m5 m_x m_y m_d m_t m_v m_n) 0 0 v := by
  refine wCi.mk (cc := cX2_isBetter) (maxL := 7) (ty := .boolean) (by decide) rfl (Nat.le_of_ble_eq_true rfl) ?_
  intro p e s m below meth c A ls hx hb hml hr hlocks hts hown hK hA hP hD hl
  have hx : p.tables.exec = Jvm.exec := hx
  have hown : s.vm.findClass RX2 = some m.cls := hown
  have hinX2 : ∀ w ∈ wsX20, w ∈ wsX2_isBetter := by decide +kernel
  have lk15 := hts (.fieldLink RX2 15 "Chamberwright$Meets" "ys" "[I") (by decide +kernel)
  have lk18 := hts (.fieldLink RX2 18 "Chamberwright$Meets" "ds" "[I") (by decide +kernel)
  have lk9 := hts (.fieldLink RX2 9 "Chamberwright$Meets" "xs" "[I") (by decide +kernel)
  have hS : va_S A s.heap s.heap [] := va_S.rf
  have hP : va_P G.1 vwCl (w_M G m0 m1 m2 m3 m4 m5 m_x m_y m_d m_t m_v m_n) s.heap := hP
  have hD : va_D A (w_M G m0 m1 m2 m3 m4 m5 m_x m_y m_d m_t m_v m_n) := hD
  have hl : lv_has ls 7 [(0, .ref m0), (1, .int x1), (2, .int x2), (3, .int x3), (4, .int x4)] := hl
  obtain ⟨args, hargs⟩ : ∃ z : Array Value, z = ([.ref m0, .int x1, .int x2, .int x3, .int x4] : List Value).toArray := ⟨_, rfl⟩
  rw [← hargs]
  rw [← hargs] at hts
  rw [fX2_isBetter.eq_1] at h
  refine lv_iload_n hx hb dX2_isBetter_0 rfl (lv_at hl 3 rfl) ?_
  refine lv_aload_n hx hb dX2_isBetter_1 rfl (lv_at hl 0 rfl) ?_
  refine va_get (D := G.1) (ci := 2) (v := .ref m1) (C := RX2) (T := TX2) (N := 6) hx hb hts hinX2 hown hK.1 hP 0 rfl rfl 0 (by decide) lk9 (fun _ h9 => h9) rfl dX2_isBetter_2 ?_
  refine lv_iload_n hx hb dX2_isBetter_5 rfl (lv_at hl 1 rfl) ?_
  refine wiald h hx hb hK hP 1 rfl dX2_isBetter_6 (fun v_317 h => ?_)
  refine lv_imul hx hb dX2_isBetter_7 ?_
  refine lv_iload hx hb dX2_isBetter_8 (lv_at hl 4 rfl) ?_
  refine lv_aload_n hx hb dX2_isBetter_10 rfl (lv_at hl 0 rfl) ?_
  refine va_get (D := G.1) (ci := 2) (v := .ref m2) (C := RX2) (T := TX2) (N := 6) hx hb hts hinX2 hown hK.1 hP 0 rfl rfl 1 (by decide) lk15 (fun _ h9 => h9) rfl dX2_isBetter_11 ?_
  refine lv_iload_n hx hb dX2_isBetter_14 rfl (lv_at hl 1 rfl) ?_
  refine wiald h hx hb hK hP 2 rfl dX2_isBetter_15 (fun v_318 h => ?_)
  refine lv_imul hx hb dX2_isBetter_16 ?_
  refine lv_iadd hx hb dX2_isBetter_17 ?_
  refine wnmi h (fun x5_319 h => ?_)
  refine lv_istore (lv' := [(5, .int x5_319), (0, .ref m0), (1, .int x1), (2, .int x2), (3, .int x3), (4, .int x4)]) hx hb dX2_isBetter_18 hl (by decide) rfl (fun ls hl => ?_)
  refine lv_iload_n hx hb dX2_isBetter_20 rfl (lv_at hl 4 rfl) ?_
  refine lv_aload_n hx hb dX2_isBetter_21 rfl (lv_at hl 1 rfl) ?_
  refine va_get (D := G.1) (ci := 2) (v := .ref m1) (C := RX2) (T := TX2) (N := 6) hx hb hts hinX2 hown hK.1 hP 0 rfl rfl 0 (by decide) lk9 (fun _ h9 => h9) rfl dX2_isBetter_22 ?_
  refine lv_iload_n hx hb dX2_isBetter_25 rfl (lv_at hl 3 rfl) ?_
  refine wiald h hx hb hK hP 1 rfl dX2_isBetter_26 (fun v_320 h => ?_)
  refine lv_imul hx hb dX2_isBetter_27 ?_
  refine lv_iload hx hb dX2_isBetter_28 (lv_at hl 5 rfl) ?_
  refine lv_aload_n hx hb dX2_isBetter_30 rfl (lv_at hl 1 rfl) ?_
  refine va_get (D := G.1) (ci := 2) (v := .ref m2) (C := RX2) (T := TX2) (N := 6) hx hb hts hinX2 hown hK.1 hP 0 rfl rfl 1 (by decide) lk15 (fun _ h9 => h9) rfl dX2_isBetter_31 ?_
  refine lv_iload_n hx hb dX2_isBetter_34 rfl (lv_at hl 3 rfl) ?_
  refine wiald h hx hb hK hP 2 rfl dX2_isBetter_35 (fun v_321 h => ?_)
  refine lv_imul hx hb dX2_isBetter_36 ?_
  refine lv_iadd hx hb dX2_isBetter_37 ?_
  refine wnmi h (fun x6_322 h => ?_)
  refine lv_istore (lv' := [(6, .int x6_322), (5, .int x5_319), (0, .ref m0), (1, .int x1), (2, .int x2), (3, .int x3), (4, .int x4)]) hx hb dX2_isBetter_38 hl (by decide) rfl (fun ls hl => ?_)
  refine lv_iload hx hb dX2_isBetter_40 (lv_at hl 1 rfl) ?_
  refine lv_aload_n hx hb dX2_isBetter_42 rfl (lv_at hl 2 rfl) ?_
  refine va_get (D := G.1) (ci := 2) (v := .ref m3) (C := RX2) (T := TX2) (N := 6) hx hb hts hinX2 hown hK.1 hP 0 rfl rfl 2 (by decide) lk18 (fun _ h9 => h9) rfl dX2_isBetter_43 ?_
  refine lv_iload_n hx hb dX2_isBetter_46 rfl (lv_at hl 4 rfl) ?_
  refine wiald h hx hb hK hP 3 rfl dX2_isBetter_47 (fun v_323 h => ?_)
  refine lv_imul hx hb dX2_isBetter_48 ?_
  refine lv_iload hx hb dX2_isBetter_49 (lv_at hl 0 rfl) ?_
  refine lv_aload_n hx hb dX2_isBetter_51 rfl (lv_at hl 2 rfl) ?_
  refine va_get (D := G.1) (ci := 2) (v := .ref m3) (C := RX2) (T := TX2) (N := 6) hx hb hts hinX2 hown hK.1 hP 0 rfl rfl 2 (by decide) lk18 (fun _ h9 => h9) rfl dX2_isBetter_52 ?_
  refine lv_iload_n hx hb dX2_isBetter_55 rfl (lv_at hl 3 rfl) ?_
  refine wiald h hx hb hK hP 3 rfl dX2_isBetter_56 (fun v_324 h => ?_)
  refine lv_imul hx hb dX2_isBetter_57 ?_
  refine lv_icmp_le (tgt := 65) hx hb dX2_isBetter_58 (by decide) (fun c_325 => ?_) (fun c_325 => ?_)
  · have h := ip c_325 h
    refine lv_iconst (v := 0) hx hb dX2_isBetter_65 (by decide) ?_
    obtain ⟨hz, h⟩ := zo_inv h
    obtain rfl := Option.some.inj h
    exact wrz hx hb hr hlocks hP hD hS (Nat.le_of_ble_eq_true rfl) (Nat.le_of_ble_eq_true rfl) hz rfl dX2_isBetter_66
  · have h := iq c_325 h
    refine lv_iconst (v := 1) hx hb dX2_isBetter_61 (by decide) ?_
    refine lv_goto (tgt := 66) hx hb dX2_isBetter_62 (by decide) ?_
    obtain ⟨hz, h⟩ := zo_inv h
    obtain rfl := Option.some.inj h
    exact wrz hx hb hr hlocks hP hD hS (Nat.le_of_ble_eq_true rfl) (Nat.le_of_ble_eq_true rfl) hz rfl dX2_isBetter_66
def fX2_bestCorner_b6 (N : Nat) (m_x : Nat → Int32) (m_y : Nat → Int32) (m_d : Nat → Int32) (m_t : Nat → Int32) (m_v : Nat → Int32) (m_n : Int32) (x1 : Int32) (x2 : Int32) (x3 : Int32) : Nat → Int32 → Int32 → Option (Int32)
  | 0, _, _ => none
  | n + 1, x4, x5 => if m_n ≤ x5 then some x4 else bd (fX2_isCornerOf N m_t m_v x5 x1) (fun u_327 => if u_327 = 0 then fX2_bestCorner_b6 N m_x m_y m_d m_t m_v m_n x1 x2 x3 n x4 (x5 + 1) else if x4 = (-1) then fX2_bestCorner_b6 N m_x m_y m_d m_t m_v m_n x1 x2 x3 n x5 (x5 + 1) else bd (fX2_isBetter N m_x m_y m_d x5 x4 x2 x3) (fun u_331 => if u_331 = 0 then fX2_bestCorner_b6 N m_x m_y m_d m_t m_v m_n x1 x2 x3 n x4 (x5 + 1) else fX2_bestCorner_b6 N m_x m_y m_d m_t m_v m_n x1 x2 x3 n x5 (x5 + 1)))
def fX2_bestCorner (N : Nat) (m_x : Nat → Int32) (m_y : Nat → Int32) (m_d : Nat → Int32) (m_t : Nat → Int32) (m_v : Nat → Int32) (m_n : Int32) (x1 : Int32) (x2 : Int32) (x3 : Int32) : Option (Int32) := fX2_bestCorner_b6 N m_x m_y m_d m_t m_v m_n x1 x2 x3 N (-1) 0
set_option maxHeartbeats 4000000 in
set_option maxRecDepth 100000 in
theorem kX2_bestCorner {l : Launch} {G : wG} (m0 m1 m2 m3 m4 m5 : Nat) (m_x : Nat → Int32) (m_y : Nat → Int32) (m_d : Nat → Int32) (m_t : Nat → Int32) (m_v : Nat → Int32) (m_n : Int32) (x1 : Int32) (x2 : Int32) (x3 : Int32) (N : Nat) (v : Int32) (h : fX2_bestCorner N m_x m_y m_d m_t m_v m_n x1 x2 x3 = some v) : wCi l G yX2_bestCorner wsX2_bestCorner ({ frames := 2, cells := 0, slots := 0, locals := 44 } : Room) [.ref m0, .int x1, .int x2, .int x3] (w_M G m0 m1 m2 m3 m4 m5 m_x m_y m_d m_t m_v m_n) (w_M G m0 m1 m2 m3 m4 m5 m_x m_y m_d m_t m_v m_n) 0 0 v := by
  refine wCi.mk (cc := cX2_bestCorner) (maxL := 6) (ty := .int) (by decide) rfl (Nat.le_of_ble_eq_true rfl) ?_
  intro p e s m below meth c A ls hx hb hml hr hlocks hts hown hK hA hP hD hl
  have hx : p.tables.exec = Jvm.exec := hx
  have hown : s.vm.findClass RX2 = some m.cls := hown
  have hinX2 : ∀ w ∈ wsX20, w ∈ wsX2_bestCorner := by decide +kernel
  have lk27 := hts (.fieldLink RX2 27 "Chamberwright$Meets" "count" "I") (by decide +kernel)
  have hS : va_S A s.heap s.heap [] := va_S.rf
  have hP : va_P G.1 vwCl (w_M G m0 m1 m2 m3 m4 m5 m_x m_y m_d m_t m_v m_n) s.heap := hP
  have hD : va_D A (w_M G m0 m1 m2 m3 m4 m5 m_x m_y m_d m_t m_v m_n) := hD
  have hl : lv_has ls 6 [(0, .ref m0), (1, .int x1), (2, .int x2), (3, .int x3)] := hl
  obtain ⟨args, hargs⟩ : ∃ z : Array Value, z = ([.ref m0, .int x1, .int x2, .int x3] : List Value).toArray := ⟨_, rfl⟩
  rw [← hargs]
  rw [← hargs] at hts
  have w_6 : ∀ (x1 : Int32) (x2 : Int32) (x3 : Int32)  (_z : Unit), ∀ (n : Nat) (x4 : Int32) (x5 : Int32)  (H : Heap) (locs : List Loc) (ls : Array Slot), va_P G.1 vwCl (w_M G m0 m1 m2 m3 m4 m5 m_x m_y m_d m_t m_v m_n) H → va_D A (w_M G m0 m1 m2 m3 m4 m5 m_x m_y m_d m_t m_v m_n) → va_S A s.heap H locs → lv_has ls 6 [(0, .ref m0), (1, .int x1), (2, .int x2), (3, .int x3), (4, .int x4), (5, .int x5)] → fX2_bestCorner_b6 N m_x m_y m_d m_t m_v m_n x1 x2 x3 n x4 x5 = some v → W p l e ({ frames := 2, cells := 0, slots := 0, locals := 44 } : Room) s m args below meth c H locs 0 0 (wQi G A below args s (w_M G m0 m1 m2 m3 m4 m5 m_x m_y m_d m_t m_v m_n) 0 0 v) (F0 m 6 ls []) := by
    intro x1 x2 x3 _z n
    induction n with
    | zero =>
      intro x4 x5 H locs ls hP hD hS hl h
      rw [fX2_bestCorner_b6.eq_1] at h
      cases h
    | succ n ih =>
      intro x4 x5 H locs ls hP hD hS hl h
      rw [fX2_bestCorner_b6.eq_2] at h
      refine lv_iload hx hb dX2_bestCorner_6 (lv_at hl 5 rfl) ?_
      refine lv_aload_n hx hb dX2_bestCorner_8 rfl (lv_at hl 0 rfl) ?_
      refine va_get (D := G.1) (ci := 2) (v := .int m_n) (C := RX2) (T := TX2) (N := 6) hx hb hts hinX2 hown hK.1 hP 0 rfl rfl 5 (by decide) lk27 (fun _ h9 => h9) rfl dX2_bestCorner_9 ?_
      refine lv_icmp_ge (tgt := 54) hx hb dX2_bestCorner_12 (by decide) (fun c_326 => ?_) (fun c_326 => ?_)
      · have h := ip c_326 h
        refine lv_iload hx hb dX2_bestCorner_54 (lv_at hl 4 rfl) ?_
        obtain rfl := Option.some.inj h
        exact wri hx hb hr hlocks hP hD hS (Nat.le_of_ble_eq_true rfl) (Nat.le_of_ble_eq_true rfl) rfl dX2_bestCorner_56
      · have h := iq c_326 h
        refine lv_aload_n hx hb dX2_bestCorner_15 rfl (lv_at hl 0 rfl) ?_
        refine lv_iload hx hb dX2_bestCorner_16 (lv_at hl 5 rfl) ?_
        refine lv_iload_n hx hb dX2_bestCorner_18 rfl (lv_at hl 1 rfl) ?_
        obtain ⟨u_327, hc_328, h⟩ := bd_inv h
        refine wafter_i (wr := []) (w2 := (w_M G m0 m1 m2 m3 m4 m5 m_x m_y m_d m_t m_v m_n)) (va_runV (As := [.int x5, .int x1]) (rest := []) ⟨hx, hb, hml, hown, hts⟩ (kX2_isCornerOf (l := l) (G := G) m0 m1 m2 m3 m4 m5 m_x m_y m_d m_t m_v m_n x5 x1 N u_327 hc_328 _) (cwV 2 hts gX2_bestCorner_X2_isCornerOf rfl rfl rfl (by decide +kernel) ⟨Nat.le_of_ble_eq_true rfl, Nat.le_of_ble_eq_true rfl⟩) (wPreV hP hD hK [0, 1, 2, 3, 4, 5] rfl rfl (ci := 2) (qb := 0) rfl rfl rfl) rfl rfl hl.1 rfl (lv_room (Nat.le_of_ble_eq_true rfl)) dX2_bestCorner_19 ⟨Nat.zero_le _, Nat.zero_le _⟩) hP hD hS hA [0, 1, 2, 3, 4, 5] [] [0, 1, 2, 3, 4, 5] rfl rfl rfl (by decide) rfl rfl (fun H locs hP hD hS => ?_)
        refine lv_if_eq (tgt := 48) hx hb dX2_bestCorner_22 (by decide) (fun c_329 => ?_) (fun c_329 => ?_)
        · have h := ip c_329 h
          refine lv_iinc (v := (x5 + 1)) (lv' := [(5, .int (x5 + 1)), (0, .ref m0), (1, .int x1), (2, .int x2), (3, .int x3), (4, .int x4)]) hx hb dX2_bestCorner_48 hl (k := 5) rfl rfl (by decide) rfl (fun ls hl => ?_)
          refine lv_goto (tgt := 6) hx hb dX2_bestCorner_51 (by decide) ?_
          exact ih _ _ _ _ _ hP hD hS (lv_sub hl [1, 2, 3, 4, 5, 0] rfl) h
        · have h := iq c_329 h
          refine lv_iload hx hb dX2_bestCorner_25 (lv_at hl 4 rfl) ?_
          refine lv_iconst (v := (-1)) hx hb dX2_bestCorner_27 (by decide) ?_
          refine lv_icmp_eq (tgt := 44) hx hb dX2_bestCorner_28 (by decide) (fun c_330 => ?_) (fun c_330 => ?_)
          · have h := ip c_330 h
            refine lv_iload hx hb dX2_bestCorner_44 (lv_at hl 5 rfl) ?_
            refine lv_istore (lv' := [(4, .int x5), (0, .ref m0), (1, .int x1), (2, .int x2), (3, .int x3), (5, .int x5)]) hx hb dX2_bestCorner_46 hl (by decide) rfl (fun ls hl => ?_)
            refine lv_iinc (v := (x5 + 1)) (lv' := [(5, .int (x5 + 1)), (4, .int x5), (0, .ref m0), (1, .int x1), (2, .int x2), (3, .int x3)]) hx hb dX2_bestCorner_48 hl (k := 5) rfl rfl (by decide) rfl (fun ls hl => ?_)
            refine lv_goto (tgt := 6) hx hb dX2_bestCorner_51 (by decide) ?_
            exact ih _ _ _ _ _ hP hD hS (lv_sub hl [2, 3, 4, 5, 1, 0] rfl) h
          · have h := iq c_330 h
            refine lv_aload_n hx hb dX2_bestCorner_31 rfl (lv_at hl 0 rfl) ?_
            refine lv_iload hx hb dX2_bestCorner_32 (lv_at hl 5 rfl) ?_
            refine lv_iload hx hb dX2_bestCorner_34 (lv_at hl 4 rfl) ?_
            refine lv_iload_n hx hb dX2_bestCorner_36 rfl (lv_at hl 2 rfl) ?_
            refine lv_iload_n hx hb dX2_bestCorner_37 rfl (lv_at hl 3 rfl) ?_
            obtain ⟨u_331, hc_332, h⟩ := bd_inv h
            refine wafter_i (wr := []) (w2 := (w_M G m0 m1 m2 m3 m4 m5 m_x m_y m_d m_t m_v m_n)) (va_runV (As := [.int x5, .int x4, .int x2, .int x3]) (rest := []) ⟨hx, hb, hml, hown, hts⟩ (kX2_isBetter (l := l) (G := G) m0 m1 m2 m3 m4 m5 m_x m_y m_d m_t m_v m_n x5 x4 x2 x3 N u_331 hc_332 _) (cwV 4 hts gX2_bestCorner_X2_isBetter rfl rfl rfl (by decide +kernel) ⟨Nat.le_of_ble_eq_true rfl, Nat.le_of_ble_eq_true rfl⟩) (wPreV hP hD hK [0, 1, 2, 3, 4, 5] rfl rfl (ci := 2) (qb := 0) rfl rfl rfl) rfl rfl hl.1 rfl (lv_room (Nat.le_of_ble_eq_true rfl)) dX2_bestCorner_38 ⟨Nat.zero_le _, Nat.zero_le _⟩) hP hD hS hA [0, 1, 2, 3, 4, 5] [] [0, 1, 2, 3, 4, 5] rfl rfl rfl (by decide) rfl rfl (fun H locs hP hD hS => ?_)
            refine lv_if_eq (tgt := 48) hx hb dX2_bestCorner_41 (by decide) (fun c_333 => ?_) (fun c_333 => ?_)
            · have h := ip c_333 h
              refine lv_iinc (v := (x5 + 1)) (lv' := [(5, .int (x5 + 1)), (0, .ref m0), (1, .int x1), (2, .int x2), (3, .int x3), (4, .int x4)]) hx hb dX2_bestCorner_48 hl (k := 5) rfl rfl (by decide) rfl (fun ls hl => ?_)
              refine lv_goto (tgt := 6) hx hb dX2_bestCorner_51 (by decide) ?_
              exact ih _ _ _ _ _ hP hD hS (lv_sub hl [1, 2, 3, 4, 5, 0] rfl) h
            · have h := iq c_333 h
              refine lv_iload hx hb dX2_bestCorner_44 (lv_at hl 5 rfl) ?_
              refine lv_istore (lv' := [(4, .int x5), (0, .ref m0), (1, .int x1), (2, .int x2), (3, .int x3), (5, .int x5)]) hx hb dX2_bestCorner_46 hl (by decide) rfl (fun ls hl => ?_)
              refine lv_iinc (v := (x5 + 1)) (lv' := [(5, .int (x5 + 1)), (4, .int x5), (0, .ref m0), (1, .int x1), (2, .int x2), (3, .int x3)]) hx hb dX2_bestCorner_48 hl (k := 5) rfl rfl (by decide) rfl (fun ls hl => ?_)
              refine lv_goto (tgt := 6) hx hb dX2_bestCorner_51 (by decide) ?_
              exact ih _ _ _ _ _ hP hD hS (lv_sub hl [2, 3, 4, 5, 1, 0] rfl) h
  rw [fX2_bestCorner.eq_1] at h
  refine lv_iconst (v := (-1)) hx hb dX2_bestCorner_0 (by decide) ?_
  refine lv_istore (lv' := [(4, .int (-1)), (0, .ref m0), (1, .int x1), (2, .int x2), (3, .int x3)]) hx hb dX2_bestCorner_1 hl (by decide) rfl (fun ls hl => ?_)
  refine lv_iconst (v := 0) hx hb dX2_bestCorner_3 (by decide) ?_
  refine lv_istore (lv' := [(5, .int 0), (4, .int (-1)), (0, .ref m0), (1, .int x1), (2, .int x2), (3, .int x3)]) hx hb dX2_bestCorner_4 hl (by decide) rfl (fun ls hl => ?_)
  exact w_6  _ _ _  ()  N _ _  _ _ _ hP hD hS (lv_sub hl [2, 3, 4, 5, 1, 0] rfl) h
def fX2_isLowestPair_b2 (N : Nat) (m_t : Nat → Int32) (m_n : Int32) (x1 : Int32) (x2 : Int32) (k_28 : Int32 → Option (Int32)) : Nat → Int32 → Option (Int32)
  | 0, _ => none
  | n + 1, x3 => if m_n ≤ x3 then zo 0 (some 0) else bd (fX2_isOn N m_t x3 x1) (fun u_335 => if u_335 = 0 then fX2_isLowestPair_b2 N m_t m_n x1 x2 k_28 n (x3 + 1) else bd (fX2_isOn N m_t x3 x2) (fun u_338 => if u_338 = 0 then fX2_isLowestPair_b2 N m_t m_n x1 x2 k_28 n (x3 + 1) else k_28 x3))
def fX2_isLowestPair (N : Nat) (m_t : Nat → Int32) (m_n : Int32) (x1 : Int32) (x2 : Int32) : Option (Int32) := fX2_isLowestPair_b2 N m_t m_n x1 x2 (fun (x3_341 : Int32) => rd m_t 36 x3_341 (fun v_342 => bd (fX4_bit N x1) (fun u_343 => if (v_342 &&& (u_343 - 1)) = 0 then zo 1 (some 1) else zo 0 (some 0)))) N 0
set_option maxHeartbeats 4000000 in
set_option maxRecDepth 100000 in
theorem kX2_isLowestPair {l : Launch} {G : wG} (m0 m1 m2 m3 m4 m5 : Nat) (m_x : Nat → Int32) (m_y : Nat → Int32) (m_d : Nat → Int32) (m_t : Nat → Int32) (m_v : Nat → Int32) (m_n : Int32) (x1 : Int32) (x2 : Int32) (N : Nat) (v : Int32) (h : fX2_isLowestPair N m_t m_n x1 x2 = some v) : wCi l G yX2_isLowestPair wsX2_isLowestPair ({ frames := 3, cells := 0, slots := 0, locals := 63 } : Room) [.ref m0, .int x1, .int x2] (w_M G m0 m1 m2 m3 m4 m5 m_x m_y m_d m_t m_v m_n) (w_M G m0 m1 m2 m3 m4 m5 m_x m_y m_d m_t m_v m_n) 0 0 v := by
  refine wCi.mk (cc := cX2_isLowestPair) (maxL := 4) (ty := .boolean) (by decide) rfl (Nat.le_of_ble_eq_true rfl) ?_
  intro p e s m below meth c A ls hx hb hml hr hlocks hts hown hK hA hP hD hl
  have hx : p.tables.exec = Jvm.exec := hx
  have hown : s.vm.findClass RX2 = some m.cls := hown
  have hinX2 : ∀ w ∈ wsX20, w ∈ wsX2_isLowestPair := by decide +kernel
  have lk21 := hts (.fieldLink RX2 21 "Chamberwright$Meets" "through" "[I") (by decide +kernel)
  have lk27 := hts (.fieldLink RX2 27 "Chamberwright$Meets" "count" "I") (by decide +kernel)
  have hS : va_S A s.heap s.heap [] := va_S.rf
  have hP : va_P G.1 vwCl (w_M G m0 m1 m2 m3 m4 m5 m_x m_y m_d m_t m_v m_n) s.heap := hP
  have hD : va_D A (w_M G m0 m1 m2 m3 m4 m5 m_x m_y m_d m_t m_v m_n) := hD
  have hl : lv_has ls 4 [(0, .ref m0), (1, .int x1), (2, .int x2)] := hl
  obtain ⟨args, hargs⟩ : ∃ z : Array Value, z = ([.ref m0, .int x1, .int x2] : List Value).toArray := ⟨_, rfl⟩
  rw [← hargs]
  rw [← hargs] at hts
  have w_2 : ∀ (k_28 : Int32 → Option (Int32)) (x1 : Int32) (x2 : Int32)  (_z : Unit), (∀ (y3 : Int32) (H : Heap) (locs : List Loc) (ls : Array Slot), va_P G.1 vwCl (w_M G m0 m1 m2 m3 m4 m5 m_x m_y m_d m_t m_v m_n) H → va_D A (w_M G m0 m1 m2 m3 m4 m5 m_x m_y m_d m_t m_v m_n) → va_S A s.heap H locs → lv_has ls 4 [(0, .ref m0), (1, .int x1), (3, .int y3)] → k_28 y3 = some v → W p l e ({ frames := 3, cells := 0, slots := 0, locals := 63 } : Room) s m args below meth c H locs 0 0 (wQi G A below args s (w_M G m0 m1 m2 m3 m4 m5 m_x m_y m_d m_t m_v m_n) 0 0 v) (F0 m 28 ls [])) → ∀ (n : Nat) (x3 : Int32)  (H : Heap) (locs : List Loc) (ls : Array Slot), va_P G.1 vwCl (w_M G m0 m1 m2 m3 m4 m5 m_x m_y m_d m_t m_v m_n) H → va_D A (w_M G m0 m1 m2 m3 m4 m5 m_x m_y m_d m_t m_v m_n) → va_S A s.heap H locs → lv_has ls 4 [(0, .ref m0), (1, .int x1), (2, .int x2), (3, .int x3)] → fX2_isLowestPair_b2 N m_t m_n x1 x2 k_28 n x3 = some v → W p l e ({ frames := 3, cells := 0, slots := 0, locals := 63 } : Room) s m args below meth c H locs 0 0 (wQi G A below args s (w_M G m0 m1 m2 m3 m4 m5 m_x m_y m_d m_t m_v m_n) 0 0 v) (F0 m 2 ls []) := by
    intro k_28 x1 x2 _z hk_28 n
    induction n with
    | zero =>
      intro x3 H locs ls hP hD hS hl h
      rw [fX2_isLowestPair_b2.eq_1] at h
      cases h
    | succ n ih =>
      intro x3 H locs ls hP hD hS hl h
      rw [fX2_isLowestPair_b2.eq_2] at h
      refine lv_iload_n hx hb dX2_isLowestPair_2 rfl (lv_at hl 3 rfl) ?_
      refine lv_aload_n hx hb dX2_isLowestPair_3 rfl (lv_at hl 0 rfl) ?_
      refine va_get (D := G.1) (ci := 2) (v := .int m_n) (C := RX2) (T := TX2) (N := 6) hx hb hts hinX2 hown hK.1 hP 0 rfl rfl 5 (by decide) lk27 (fun _ h9 => h9) rfl dX2_isLowestPair_4 ?_
      refine lv_icmp_ge (tgt := 56) hx hb dX2_isLowestPair_7 (by decide) (fun c_334 => ?_) (fun c_334 => ?_)
      · have h := ip c_334 h
        refine lv_iconst (v := 0) hx hb dX2_isLowestPair_56 (by decide) ?_
        obtain ⟨hz, h⟩ := zo_inv h
        obtain rfl := Option.some.inj h
        exact wrz hx hb hr hlocks hP hD hS (Nat.le_of_ble_eq_true rfl) (Nat.le_of_ble_eq_true rfl) hz rfl dX2_isLowestPair_57
      · have h := iq c_334 h
        refine lv_aload_n hx hb dX2_isLowestPair_10 rfl (lv_at hl 0 rfl) ?_
        refine lv_iload_n hx hb dX2_isLowestPair_11 rfl (lv_at hl 3 rfl) ?_
        refine lv_iload_n hx hb dX2_isLowestPair_12 rfl (lv_at hl 1 rfl) ?_
        obtain ⟨u_335, hc_336, h⟩ := bd_inv h
        refine wafter_i (wr := []) (w2 := (w_M G m0 m1 m2 m3 m4 m5 m_x m_y m_d m_t m_v m_n)) (va_runV (As := [.int x3, .int x1]) (rest := []) ⟨hx, hb, hml, hown, hts⟩ (kX2_isOn (l := l) (G := G) m0 m1 m2 m3 m4 m5 m_x m_y m_d m_t m_v m_n x3 x1 N u_335 hc_336 _) (cwV 2 hts gX2_isLowestPair_X2_isOn rfl rfl rfl (by decide +kernel) ⟨Nat.le_of_ble_eq_true rfl, Nat.le_of_ble_eq_true rfl⟩) (wPreV hP hD hK [0, 1, 2, 3, 4, 5] rfl rfl (ci := 2) (qb := 0) rfl rfl rfl) rfl rfl hl.1 rfl (lv_room (Nat.le_of_ble_eq_true rfl)) dX2_isLowestPair_13 ⟨Nat.zero_le _, Nat.zero_le _⟩) hP hD hS hA [0, 1, 2, 3, 4, 5] [] [0, 1, 2, 3, 4, 5] rfl rfl rfl (by decide) rfl rfl (fun H locs hP hD hS => ?_)
        refine lv_if_eq (tgt := 50) hx hb dX2_isLowestPair_16 (by decide) (fun c_337 => ?_) (fun c_337 => ?_)
        · have h := ip c_337 h
          refine lv_iinc (v := (x3 + 1)) (lv' := [(3, .int (x3 + 1)), (0, .ref m0), (1, .int x1), (2, .int x2)]) hx hb dX2_isLowestPair_50 hl (k := 3) rfl rfl (by decide) rfl (fun ls hl => ?_)
          refine lv_goto (tgt := 2) hx hb dX2_isLowestPair_53 (by decide) ?_
          exact ih _ _ _ _ hP hD hS (lv_sub hl [1, 2, 3, 0] rfl) h
        · have h := iq c_337 h
          refine lv_aload_n hx hb dX2_isLowestPair_19 rfl (lv_at hl 0 rfl) ?_
          refine lv_iload_n hx hb dX2_isLowestPair_20 rfl (lv_at hl 3 rfl) ?_
          refine lv_iload_n hx hb dX2_isLowestPair_21 rfl (lv_at hl 2 rfl) ?_
          obtain ⟨u_338, hc_339, h⟩ := bd_inv h
          refine wafter_i (wr := []) (w2 := (w_M G m0 m1 m2 m3 m4 m5 m_x m_y m_d m_t m_v m_n)) (va_runV (As := [.int x3, .int x2]) (rest := []) ⟨hx, hb, hml, hown, hts⟩ (kX2_isOn (l := l) (G := G) m0 m1 m2 m3 m4 m5 m_x m_y m_d m_t m_v m_n x3 x2 N u_338 hc_339 _) (cwV 2 hts gX2_isLowestPair_X2_isOn rfl rfl rfl (by decide +kernel) ⟨Nat.le_of_ble_eq_true rfl, Nat.le_of_ble_eq_true rfl⟩) (wPreV hP hD hK [0, 1, 2, 3, 4, 5] rfl rfl (ci := 2) (qb := 0) rfl rfl rfl) rfl rfl hl.1 rfl (lv_room (Nat.le_of_ble_eq_true rfl)) dX2_isLowestPair_22 ⟨Nat.zero_le _, Nat.zero_le _⟩) hP hD hS hA [0, 1, 2, 3, 4, 5] [] [0, 1, 2, 3, 4, 5] rfl rfl rfl (by decide) rfl rfl (fun H locs hP hD hS => ?_)
          refine lv_if_eq (tgt := 50) hx hb dX2_isLowestPair_25 (by decide) (fun c_340 => ?_) (fun c_340 => ?_)
          · have h := ip c_340 h
            refine lv_iinc (v := (x3 + 1)) (lv' := [(3, .int (x3 + 1)), (0, .ref m0), (1, .int x1), (2, .int x2)]) hx hb dX2_isLowestPair_50 hl (k := 3) rfl rfl (by decide) rfl (fun ls hl => ?_)
            refine lv_goto (tgt := 2) hx hb dX2_isLowestPair_53 (by decide) ?_
            exact ih _ _ _ _ hP hD hS (lv_sub hl [1, 2, 3, 0] rfl) h
          · have h := iq c_340 h
            exact hk_28 _ _ _ _ hP hD hS (lv_sub hl [0, 1, 3] rfl) h
  rw [fX2_isLowestPair.eq_1] at h
  refine lv_iconst (v := 0) hx hb dX2_isLowestPair_0 (by decide) ?_
  refine lv_istore_n (lv' := [(3, .int 0), (0, .ref m0), (1, .int x1), (2, .int x2)]) hx hb dX2_isLowestPair_1 rfl hl (by decide) rfl (fun ls hl => ?_)
  refine w_2 _ _ _  () (fun x3_341 H locs ls hP hD hS hl h => ?_) N _  _ _ _ hP hD hS (lv_sub hl [1, 2, 3, 0] rfl) h
  refine lv_aload_n hx hb dX2_isLowestPair_28 rfl (lv_at hl 0 rfl) ?_
  refine va_get (D := G.1) (ci := 2) (v := .ref m4) (C := RX2) (T := TX2) (N := 6) hx hb hts hinX2 hown hK.1 hP 0 rfl rfl 3 (by decide) lk21 (fun _ h9 => h9) rfl dX2_isLowestPair_29 ?_
  refine lv_iload_n hx hb dX2_isLowestPair_32 rfl (lv_at hl 2 rfl) ?_
  refine wiald h hx hb hK hP 4 rfl dX2_isLowestPair_33 (fun v_342 h => ?_)
  refine lv_iload_n hx hb dX2_isLowestPair_34 rfl (lv_at hl 1 rfl) ?_
  obtain ⟨u_343, hc_344, h⟩ := bd_inv h
  refine wafter_i (wr := (w_M G m0 m1 m2 m3 m4 m5 m_x m_y m_d m_t m_v m_n)) (w2 := (w_M G m0 m1 m2 m3 m4 m5 m_x m_y m_d m_t m_v m_n)) (va_runSN (As := [.int x1]) (rest := [.int v_342]) ⟨hx, hb, hml, hown, hts⟩ (kX4_bit (l := l) (G := G)   x1 N u_343 hc_344 _) ⟨va_cnB 1 hts gX2_isLowestPair_X4_bit_n40 rfl rfl rfl (hK.2 (.methodLinkNest RX2 40 yX4_bit RX4) (by simp [wNest])) (hts (.initialized RX4) (by decide +kernel)) (by decide +kernel) ⟨Nat.le_of_ble_eq_true rfl, Nat.le_of_ble_eq_true rfl⟩, hts (.static yX4_bit) (by decide +kernel), trivial⟩ (wPreS hP hD hK [] rfl rfl) rfl rfl hl.1 rfl (lv_room (Nat.le_of_ble_eq_true rfl)) dX2_isLowestPair_35 ⟨Nat.zero_le _, Nat.zero_le _⟩) hP hD hS hA [] [0, 1, 2, 3, 4, 5] [0, 1, 2, 3, 4, 5] rfl rfl rfl (by decide) rfl rfl (fun H locs hP hD hS => ?_)
  refine lv_iconst (v := 1) hx hb dX2_isLowestPair_38 (by decide) ?_
  refine lv_isub hx hb dX2_isLowestPair_39 ?_
  refine lv_iand hx hb dX2_isLowestPair_40 ?_
  refine lv_if_ne (tgt := 48) hx hb dX2_isLowestPair_41 (by decide) (fun c_345 => ?_) (fun c_345 => ?_)
  · have h := iq c_345 h
    refine lv_iconst (v := 0) hx hb dX2_isLowestPair_48 (by decide) ?_
    obtain ⟨hz, h⟩ := zo_inv h
    obtain rfl := Option.some.inj h
    exact wrz hx hb hr hlocks hP hD hS (Nat.le_of_ble_eq_true rfl) (Nat.le_of_ble_eq_true rfl) hz rfl dX2_isLowestPair_49
  · have h := ip c_345 h
    refine lv_iconst (v := 1) hx hb dX2_isLowestPair_44 (by decide) ?_
    refine lv_goto (tgt := 49) hx hb dX2_isLowestPair_45 (by decide) ?_
    obtain ⟨hz, h⟩ := zo_inv h
    obtain rfl := Option.some.inj h
    exact wrz hx hb hr hlocks hP hD hS (Nat.le_of_ble_eq_true rfl) (Nat.le_of_ble_eq_true rfl) hz rfl dX2_isLowestPair_49
