def fX1_isFull (N : Nat) (l_n : Int32) : Option (Int32) := if l_n < 9 then zo 0 (some 0) else zo 1 (some 1)
set_option maxHeartbeats 4000000 in
set_option maxRecDepth 100000 in
theorem kX1_isFull {l : Launch} {G : wG} (l0 l1 l2 l3 : Nat) (l_a : Nat → Int32) (l_b : Nat → Int32) (l_c : Nat → Int32) (l_n : Int32) (N : Nat) (v : Int32) (h : fX1_isFull N l_n = some v) : wCi l G yX1_isFull wsX1_isFull ({ frames := 0, cells := 0, slots := 0, locals := 0 } : Room) [.ref l0] (w_L G l0 l1 l2 l3 l_a l_b l_c l_n) (w_L G l0 l1 l2 l3 l_a l_b l_c l_n) 0 0 v := by
  refine wCi.mk (cc := cX1_isFull) (maxL := 1) (ty := .boolean) (by decide) rfl (Nat.le_of_ble_eq_true rfl) ?_
  intro p e s m below meth c A ls hx hb hml hr hlocks hts hown hK hA hP hD hl
  have hx : p.tables.exec = Jvm.exec := hx
  have hown : s.vm.findClass RX1 = some m.cls := hown
  have hinX1 : ∀ w ∈ wsX10, w ∈ wsX1_isFull := by decide +kernel
  have lk21 := hts (.fieldLink RX1 21 "Chamberwright$Lines" "count" "I") (by decide +kernel)
  have hS : va_S A s.heap s.heap [] := va_S.rf
  have hP : va_P G.1 vwCl (w_L G l0 l1 l2 l3 l_a l_b l_c l_n) s.heap := hP
  have hD : va_D A (w_L G l0 l1 l2 l3 l_a l_b l_c l_n) := hD
  have hl : lv_has ls 1 [(0, .ref l0)] := hl
  obtain ⟨args, hargs⟩ : ∃ z : Array Value, z = ([.ref l0] : List Value).toArray := ⟨_, rfl⟩
  rw [← hargs]
  rw [← hargs] at hts
  rw [fX1_isFull.eq_1] at h
  refine lv_aload_n hx hb dX1_isFull_0 rfl (lv_at hl 0 rfl) ?_
  refine va_get (D := G.1) (ci := 1) (v := .int l_n) (C := RX1) (T := TX1) (N := 4) hx hb hts hinX1 hown hK.1 hP 0 rfl rfl 3 (by decide) lk21 (fun _ h9 => h9) rfl dX1_isFull_1 ?_
  refine lv_bipush (v := 9) hx hb dX1_isFull_4 (by decide) ?_
  refine lv_icmp_lt (tgt := 13) hx hb dX1_isFull_6 (by decide) (fun c_1 => ?_) (fun c_1 => ?_)
  · have h := ip c_1 h
    refine lv_iconst (v := 0) hx hb dX1_isFull_13 (by decide) ?_
    obtain ⟨hz, h⟩ := zo_inv h
    obtain rfl := Option.some.inj h
    exact wrz hx hb hr hlocks hP hD hS (Nat.le_of_ble_eq_true rfl) (Nat.le_of_ble_eq_true rfl) hz rfl dX1_isFull_14
  · have h := iq c_1 h
    refine lv_iconst (v := 1) hx hb dX1_isFull_9 (by decide) ?_
    refine lv_goto (tgt := 14) hx hb dX1_isFull_10 (by decide) ?_
    obtain ⟨hz, h⟩ := zo_inv h
    obtain rfl := Option.some.inj h
    exact wrz hx hb hr hlocks hP hD hS (Nat.le_of_ble_eq_true rfl) (Nat.le_of_ble_eq_true rfl) hz rfl dX1_isFull_14
def fX1_numberOf_b3 (N : Nat) (l_a : Nat → Int32) (l_b : Nat → Int32) (l_c : Nat → Int32) (l_n : Int32) (x1 : Int32) (x2 : Int32) (x3 : Int32) : Nat → Int32 → Option (Int32)
  | 0, _ => none
  | n + 1, x4 => if l_n ≤ x4 then some ((-1)) else rd l_a 9 x4 (fun v_3 => rd l_b 9 x4 (fun v_4 => if (v_3 * x2) = (v_4 * x1) then rd l_a 9 x4 (fun v_6 => rd l_c 9 x4 (fun v_7 => if (v_6 * x3) = (v_7 * x1) then rd l_b 9 x4 (fun v_9 => rd l_c 9 x4 (fun v_10 => if (v_9 * x3) = (v_10 * x2) then some x4 else fX1_numberOf_b3 N l_a l_b l_c l_n x1 x2 x3 n (x4 + 1))) else fX1_numberOf_b3 N l_a l_b l_c l_n x1 x2 x3 n (x4 + 1))) else fX1_numberOf_b3 N l_a l_b l_c l_n x1 x2 x3 n (x4 + 1)))
def fX1_numberOf (N : Nat) (l_a : Nat → Int32) (l_b : Nat → Int32) (l_c : Nat → Int32) (l_n : Int32) (x1 : Int32) (x2 : Int32) (x3 : Int32) : Option (Int32) := fX1_numberOf_b3 N l_a l_b l_c l_n x1 x2 x3 N 0
set_option maxHeartbeats 4000000 in
set_option maxRecDepth 100000 in
theorem kX1_numberOf {l : Launch} {G : wG} (l0 l1 l2 l3 : Nat) (l_a : Nat → Int32) (l_b : Nat → Int32) (l_c : Nat → Int32) (l_n : Int32) (x1 : Int32) (x2 : Int32) (x3 : Int32) (N : Nat) (v : Int32) (h : fX1_numberOf N l_a l_b l_c l_n x1 x2 x3 = some v) : wCi l G yX1_numberOf wsX1_numberOf ({ frames := 0, cells := 0, slots := 0, locals := 0 } : Room) [.ref l0, .int x1, .int x2, .int x3] (w_L G l0 l1 l2 l3 l_a l_b l_c l_n) (w_L G l0 l1 l2 l3 l_a l_b l_c l_n) 0 0 v := by
  refine wCi.mk (cc := cX1_numberOf) (maxL := 5) (ty := .int) (by decide) rfl (Nat.le_of_ble_eq_true rfl) ?_
  intro p e s m below meth c A ls hx hb hml hr hlocks hts hown hK hA hP hD hl
  have hx : p.tables.exec = Jvm.exec := hx
  have hown : s.vm.findClass RX1 = some m.cls := hown
  have hinX1 : ∀ w ∈ wsX10, w ∈ wsX1_numberOf := by decide +kernel
  have lk15 := hts (.fieldLink RX1 15 "Chamberwright$Lines" "bs" "[I") (by decide +kernel)
  have lk18 := hts (.fieldLink RX1 18 "Chamberwright$Lines" "cs" "[I") (by decide +kernel)
  have lk21 := hts (.fieldLink RX1 21 "Chamberwright$Lines" "count" "I") (by decide +kernel)
  have lk9 := hts (.fieldLink RX1 9 "Chamberwright$Lines" "as" "[I") (by decide +kernel)
  have hS : va_S A s.heap s.heap [] := va_S.rf
  have hP : va_P G.1 vwCl (w_L G l0 l1 l2 l3 l_a l_b l_c l_n) s.heap := hP
  have hD : va_D A (w_L G l0 l1 l2 l3 l_a l_b l_c l_n) := hD
  have hl : lv_has ls 5 [(0, .ref l0), (1, .int x1), (2, .int x2), (3, .int x3)] := hl
  obtain ⟨args, hargs⟩ : ∃ z : Array Value, z = ([.ref l0, .int x1, .int x2, .int x3] : List Value).toArray := ⟨_, rfl⟩
  rw [← hargs]
  rw [← hargs] at hts
  have w_3 : ∀ (x1 : Int32) (x2 : Int32) (x3 : Int32)  (_z : Unit), ∀ (n : Nat) (x4 : Int32)  (H : Heap) (locs : List Loc) (ls : Array Slot), va_P G.1 vwCl (w_L G l0 l1 l2 l3 l_a l_b l_c l_n) H → va_D A (w_L G l0 l1 l2 l3 l_a l_b l_c l_n) → va_S A s.heap H locs → lv_has ls 5 [(0, .ref l0), (1, .int x1), (2, .int x2), (3, .int x3), (4, .int x4)] → fX1_numberOf_b3 N l_a l_b l_c l_n x1 x2 x3 n x4 = some v → W p l e ({ frames := 0, cells := 0, slots := 0, locals := 0 } : Room) s m args below meth c H locs 0 0 (wQi G A below args s (w_L G l0 l1 l2 l3 l_a l_b l_c l_n) 0 0 v) (F0 m 3 ls []) := by
    intro x1 x2 x3 _z n
    induction n with
    | zero =>
      intro x4 H locs ls hP hD hS hl h
      rw [fX1_numberOf_b3.eq_1] at h
      cases h
    | succ n ih =>
      intro x4 H locs ls hP hD hS hl h
      rw [fX1_numberOf_b3.eq_2] at h
      refine lv_iload hx hb dX1_numberOf_3 (lv_at hl 4 rfl) ?_
      refine lv_aload_n hx hb dX1_numberOf_5 rfl (lv_at hl 0 rfl) ?_
      refine va_get (D := G.1) (ci := 1) (v := .int l_n) (C := RX1) (T := TX1) (N := 4) hx hb hts hinX1 hown hK.1 hP 0 rfl rfl 3 (by decide) lk21 (fun _ h9 => h9) rfl dX1_numberOf_6 ?_
      refine lv_icmp_ge (tgt := 84) hx hb dX1_numberOf_9 (by decide) (fun c_2 => ?_) (fun c_2 => ?_)
      · have h := ip c_2 h
        refine lv_iconst (v := (-1)) hx hb dX1_numberOf_84 (by decide) ?_
        obtain rfl := Option.some.inj h
        exact wri hx hb hr hlocks hP hD hS (Nat.le_of_ble_eq_true rfl) (Nat.le_of_ble_eq_true rfl) rfl dX1_numberOf_85
      · have h := iq c_2 h
        refine lv_aload_n hx hb dX1_numberOf_12 rfl (lv_at hl 0 rfl) ?_
        refine va_get (D := G.1) (ci := 1) (v := .ref l1) (C := RX1) (T := TX1) (N := 4) hx hb hts hinX1 hown hK.1 hP 0 rfl rfl 0 (by decide) lk9 (fun _ h9 => h9) rfl dX1_numberOf_13 ?_
        refine lv_iload hx hb dX1_numberOf_16 (lv_at hl 4 rfl) ?_
        refine wiald h hx hb hK hP 1 rfl dX1_numberOf_18 (fun v_3 h => ?_)
        refine lv_iload_n hx hb dX1_numberOf_19 rfl (lv_at hl 2 rfl) ?_
        refine lv_imul hx hb dX1_numberOf_20 ?_
        refine lv_aload_n hx hb dX1_numberOf_21 rfl (lv_at hl 0 rfl) ?_
        refine va_get (D := G.1) (ci := 1) (v := .ref l2) (C := RX1) (T := TX1) (N := 4) hx hb hts hinX1 hown hK.1 hP 0 rfl rfl 1 (by decide) lk15 (fun _ h9 => h9) rfl dX1_numberOf_22 ?_
        refine lv_iload hx hb dX1_numberOf_25 (lv_at hl 4 rfl) ?_
        refine wiald h hx hb hK hP 2 rfl dX1_numberOf_27 (fun v_4 h => ?_)
        refine lv_iload_n hx hb dX1_numberOf_28 rfl (lv_at hl 1 rfl) ?_
        refine lv_imul hx hb dX1_numberOf_29 ?_
        refine lv_icmp_ne (tgt := 78) hx hb dX1_numberOf_30 (by decide) (fun c_5 => ?_) (fun c_5 => ?_)
        · have h := iq c_5 h
          refine lv_iinc (v := (x4 + 1)) (lv' := [(4, .int (x4 + 1)), (0, .ref l0), (1, .int x1), (2, .int x2), (3, .int x3)]) hx hb dX1_numberOf_78 hl (k := 4) rfl rfl (by decide) rfl (fun ls hl => ?_)
          refine lv_goto (tgt := 3) hx hb dX1_numberOf_81 (by decide) ?_
          exact ih _ _ _ _ hP hD hS (lv_sub hl [1, 2, 3, 4, 0] rfl) h
        · have h := ip c_5 h
          refine lv_aload_n hx hb dX1_numberOf_33 rfl (lv_at hl 0 rfl) ?_
          refine va_get (D := G.1) (ci := 1) (v := .ref l1) (C := RX1) (T := TX1) (N := 4) hx hb hts hinX1 hown hK.1 hP 0 rfl rfl 0 (by decide) lk9 (fun _ h9 => h9) rfl dX1_numberOf_34 ?_
          refine lv_iload hx hb dX1_numberOf_37 (lv_at hl 4 rfl) ?_
          refine wiald h hx hb hK hP 1 rfl dX1_numberOf_39 (fun v_6 h => ?_)
          refine lv_iload_n hx hb dX1_numberOf_40 rfl (lv_at hl 3 rfl) ?_
          refine lv_imul hx hb dX1_numberOf_41 ?_
          refine lv_aload_n hx hb dX1_numberOf_42 rfl (lv_at hl 0 rfl) ?_
          refine va_get (D := G.1) (ci := 1) (v := .ref l3) (C := RX1) (T := TX1) (N := 4) hx hb hts hinX1 hown hK.1 hP 0 rfl rfl 2 (by decide) lk18 (fun _ h9 => h9) rfl dX1_numberOf_43 ?_
          refine lv_iload hx hb dX1_numberOf_46 (lv_at hl 4 rfl) ?_
          refine wiald h hx hb hK hP 3 rfl dX1_numberOf_48 (fun v_7 h => ?_)
          refine lv_iload_n hx hb dX1_numberOf_49 rfl (lv_at hl 1 rfl) ?_
          refine lv_imul hx hb dX1_numberOf_50 ?_
          refine lv_icmp_ne (tgt := 78) hx hb dX1_numberOf_51 (by decide) (fun c_8 => ?_) (fun c_8 => ?_)
          · have h := iq c_8 h
            refine lv_iinc (v := (x4 + 1)) (lv' := [(4, .int (x4 + 1)), (0, .ref l0), (1, .int x1), (2, .int x2), (3, .int x3)]) hx hb dX1_numberOf_78 hl (k := 4) rfl rfl (by decide) rfl (fun ls hl => ?_)
            refine lv_goto (tgt := 3) hx hb dX1_numberOf_81 (by decide) ?_
            exact ih _ _ _ _ hP hD hS (lv_sub hl [1, 2, 3, 4, 0] rfl) h
          · have h := ip c_8 h
            refine lv_aload_n hx hb dX1_numberOf_54 rfl (lv_at hl 0 rfl) ?_
            refine va_get (D := G.1) (ci := 1) (v := .ref l2) (C := RX1) (T := TX1) (N := 4) hx hb hts hinX1 hown hK.1 hP 0 rfl rfl 1 (by decide) lk15 (fun _ h9 => h9) rfl dX1_numberOf_55 ?_
            refine lv_iload hx hb dX1_numberOf_58 (lv_at hl 4 rfl) ?_
            refine wiald h hx hb hK hP 2 rfl dX1_numberOf_60 (fun v_9 h => ?_)
            refine lv_iload_n hx hb dX1_numberOf_61 rfl (lv_at hl 3 rfl) ?_
            refine lv_imul hx hb dX1_numberOf_62 ?_
            refine lv_aload_n hx hb dX1_numberOf_63 rfl (lv_at hl 0 rfl) ?_
            refine va_get (D := G.1) (ci := 1) (v := .ref l3) (C := RX1) (T := TX1) (N := 4) hx hb hts hinX1 hown hK.1 hP 0 rfl rfl 2 (by decide) lk18 (fun _ h9 => h9) rfl dX1_numberOf_64 ?_
            refine lv_iload hx hb dX1_numberOf_67 (lv_at hl 4 rfl) ?_
            refine wiald h hx hb hK hP 3 rfl dX1_numberOf_69 (fun v_10 h => ?_)
            refine lv_iload_n hx hb dX1_numberOf_70 rfl (lv_at hl 2 rfl) ?_
            refine lv_imul hx hb dX1_numberOf_71 ?_
            refine lv_icmp_ne (tgt := 78) hx hb dX1_numberOf_72 (by decide) (fun c_11 => ?_) (fun c_11 => ?_)
            · have h := iq c_11 h
              refine lv_iinc (v := (x4 + 1)) (lv' := [(4, .int (x4 + 1)), (0, .ref l0), (1, .int x1), (2, .int x2), (3, .int x3)]) hx hb dX1_numberOf_78 hl (k := 4) rfl rfl (by decide) rfl (fun ls hl => ?_)
              refine lv_goto (tgt := 3) hx hb dX1_numberOf_81 (by decide) ?_
              exact ih _ _ _ _ hP hD hS (lv_sub hl [1, 2, 3, 4, 0] rfl) h
            · have h := ip c_11 h
              refine lv_iload hx hb dX1_numberOf_75 (lv_at hl 4 rfl) ?_
              obtain rfl := Option.some.inj h
              exact wri hx hb hr hlocks hP hD hS (Nat.le_of_ble_eq_true rfl) (Nat.le_of_ble_eq_true rfl) rfl dX1_numberOf_77
  rw [fX1_numberOf.eq_1] at h
  refine lv_iconst (v := 0) hx hb dX1_numberOf_0 (by decide) ?_
  refine lv_istore (lv' := [(4, .int 0), (0, .ref l0), (1, .int x1), (2, .int x2), (3, .int x3)]) hx hb dX1_numberOf_1 hl (by decide) rfl (fun ls hl => ?_)
  exact w_3  _ _ _  ()  N _  _ _ _ hP hD hS (lv_sub hl [1, 2, 3, 4, 0] rfl) h
def fX1_append (N : Nat) (l_a : Nat → Int32) (l_b : Nat → Int32) (l_c : Nat → Int32) (l_n : Int32) (x1 : Int32) (x2 : Int32) (x3 : Int32) : Option ((Nat → Int32) × (Nat → Int32) × (Nat → Int32) × Int32) := bd (fX1_isFull N l_n) (fun u_12 => if u_12 = 0 then ck 9 l_n (ck 9 l_n (ck 9 l_n (some ((upd l_a (Int32.toNatClampNeg l_n) x1), (upd l_b (Int32.toNatClampNeg l_n) x2), (upd l_c (Int32.toNatClampNeg l_n) x3), (l_n + 1))))) else some (l_a, l_b, l_c, l_n))
set_option maxHeartbeats 4000000 in
set_option maxRecDepth 100000 in
theorem kX1_append {l : Launch} {G : wG} (l0 l1 l2 l3 : Nat) (l_a : Nat → Int32) (l_b : Nat → Int32) (l_c : Nat → Int32) (l_n : Int32) (x1 : Int32) (x2 : Int32) (x3 : Int32) (N : Nat) (v : (Nat → Int32) × (Nat → Int32) × (Nat → Int32) × Int32) (h : fX1_append N l_a l_b l_c l_n x1 x2 x3 = some v) : wCv l G yX1_append wsX1_append ({ frames := 1, cells := 0, slots := 0, locals := 20 } : Room) [.ref l0, .int x1, .int x2, .int x3] (w_L G l0 l1 l2 l3 l_a l_b l_c l_n) (w_L G l0 l1 l2 l3 v.1 v.2.1 v.2.2.1 v.2.2.2) 0 0 := by
  refine wCv.mk (cc := cX1_append) (maxL := 4) (by decide) rfl (Nat.le_of_ble_eq_true rfl) ?_
  intro p e s m below meth c A ls hx hb hml hr hlocks hts hown hK hA hP hD hl
  have hx : p.tables.exec = Jvm.exec := hx
  have hown : s.vm.findClass RX1 = some m.cls := hown
  have hinX1 : ∀ w ∈ wsX10, w ∈ wsX1_append := by decide +kernel
  have lk15 := hts (.fieldLink RX1 15 "Chamberwright$Lines" "bs" "[I") (by decide +kernel)
  have lk18 := hts (.fieldLink RX1 18 "Chamberwright$Lines" "cs" "[I") (by decide +kernel)
  have lk21 := hts (.fieldLink RX1 21 "Chamberwright$Lines" "count" "I") (by decide +kernel)
  have lk9 := hts (.fieldLink RX1 9 "Chamberwright$Lines" "as" "[I") (by decide +kernel)
  have hS : va_S A s.heap s.heap [] := va_S.rf
  have hP : va_P G.1 vwCl (w_L G l0 l1 l2 l3 l_a l_b l_c l_n) s.heap := hP
  have hD : va_D A (w_L G l0 l1 l2 l3 l_a l_b l_c l_n) := hD
  have hl : lv_has ls 4 [(0, .ref l0), (1, .int x1), (2, .int x2), (3, .int x3)] := hl
  obtain ⟨args, hargs⟩ : ∃ z : Array Value, z = ([.ref l0, .int x1, .int x2, .int x3] : List Value).toArray := ⟨_, rfl⟩
  rw [← hargs]
  rw [← hargs] at hts
  rw [fX1_append.eq_1] at h
  refine lv_aload_n hx hb dX1_append_0 rfl (lv_at hl 0 rfl) ?_
  obtain ⟨u_12, hc_13, h⟩ := bd_inv h
  refine wafter_i (wr := []) (w2 := (w_L G l0 l1 l2 l3 l_a l_b l_c l_n)) (va_runV (As := []) (rest := []) ⟨hx, hb, hml, hown, hts⟩ (kX1_isFull (l := l) (G := G) l0 l1 l2 l3 l_a l_b l_c l_n  N u_12 hc_13 _) (cwV 0 hts gX1_append_X1_isFull rfl rfl rfl (by decide +kernel) ⟨Nat.le_of_ble_eq_true rfl, Nat.le_of_ble_eq_true rfl⟩) (wPreV hP hD hK [0, 1, 2, 3] rfl rfl (ci := 1) (qb := 0) rfl rfl rfl) rfl rfl hl.1 rfl (lv_room (Nat.le_of_ble_eq_true rfl)) dX1_append_1 ⟨Nat.zero_le _, Nat.zero_le _⟩) hP hD hS hA [0, 1, 2, 3] [] [0, 1, 2, 3] rfl rfl rfl (by decide) rfl rfl (fun H locs hP hD hS => ?_)
  refine lv_if_eq (tgt := 8) hx hb dX1_append_4 (by decide) (fun c_14 => ?_) (fun c_14 => ?_)
  · have h := ip c_14 h
    refine lv_aload_n hx hb dX1_append_8 rfl (lv_at hl 0 rfl) ?_
    refine va_get (D := G.1) (ci := 1) (v := .ref l1) (C := RX1) (T := TX1) (N := 4) hx hb hts hinX1 hown hK.1 hP 0 rfl rfl 0 (by decide) lk9 (fun _ h9 => h9) rfl dX1_append_9 ?_
    refine lv_aload_n hx hb dX1_append_12 rfl (lv_at hl 0 rfl) ?_
    refine va_get (D := G.1) (ci := 1) (v := .int l_n) (C := RX1) (T := TX1) (N := 4) hx hb hts hinX1 hown hK.1 hP 0 rfl rfl 3 (by decide) lk21 (fun _ h9 => h9) rfl dX1_append_13 ?_
    refine lv_iload_n hx hb dX1_append_16 rfl (lv_at hl 1 rfl) ?_
    refine wiast h hx hb hK hP hD hS 1 rfl dX1_append_17 (fun H locs hP hD hS h => ?_)
    have hP : va_P G.1 vwCl (w_L G l0 l1 l2 l3 ((upd l_a (Int32.toNatClampNeg l_n) x1)) l_b l_c l_n) H := hP
    have hD : va_D A (w_L G l0 l1 l2 l3 ((upd l_a (Int32.toNatClampNeg l_n) x1)) l_b l_c l_n) := hD
    refine lv_aload_n hx hb dX1_append_18 rfl (lv_at hl 0 rfl) ?_
    refine va_get (D := G.1) (ci := 1) (v := .ref l2) (C := RX1) (T := TX1) (N := 4) hx hb hts hinX1 hown hK.1 hP 0 rfl rfl 1 (by decide) lk15 (fun _ h9 => h9) rfl dX1_append_19 ?_
    refine lv_aload_n hx hb dX1_append_22 rfl (lv_at hl 0 rfl) ?_
    refine va_get (D := G.1) (ci := 1) (v := .int l_n) (C := RX1) (T := TX1) (N := 4) hx hb hts hinX1 hown hK.1 hP 0 rfl rfl 3 (by decide) lk21 (fun _ h9 => h9) rfl dX1_append_23 ?_
    refine lv_iload_n hx hb dX1_append_26 rfl (lv_at hl 2 rfl) ?_
    refine wiast h hx hb hK hP hD hS 2 rfl dX1_append_27 (fun H locs hP hD hS h => ?_)
    have hP : va_P G.1 vwCl (w_L G l0 l1 l2 l3 ((upd l_a (Int32.toNatClampNeg l_n) x1)) ((upd l_b (Int32.toNatClampNeg l_n) x2)) l_c l_n) H := hP
    have hD : va_D A (w_L G l0 l1 l2 l3 ((upd l_a (Int32.toNatClampNeg l_n) x1)) ((upd l_b (Int32.toNatClampNeg l_n) x2)) l_c l_n) := hD
    refine lv_aload_n hx hb dX1_append_28 rfl (lv_at hl 0 rfl) ?_
    refine va_get (D := G.1) (ci := 1) (v := .ref l3) (C := RX1) (T := TX1) (N := 4) hx hb hts hinX1 hown hK.1 hP 0 rfl rfl 2 (by decide) lk18 (fun _ h9 => h9) rfl dX1_append_29 ?_
    refine lv_aload_n hx hb dX1_append_32 rfl (lv_at hl 0 rfl) ?_
    refine va_get (D := G.1) (ci := 1) (v := .int l_n) (C := RX1) (T := TX1) (N := 4) hx hb hts hinX1 hown hK.1 hP 0 rfl rfl 3 (by decide) lk21 (fun _ h9 => h9) rfl dX1_append_33 ?_
    refine lv_iload_n hx hb dX1_append_36 rfl (lv_at hl 3 rfl) ?_
    refine wiast h hx hb hK hP hD hS 3 rfl dX1_append_37 (fun H locs hP hD hS h => ?_)
    have hP : va_P G.1 vwCl (w_L G l0 l1 l2 l3 ((upd l_a (Int32.toNatClampNeg l_n) x1)) ((upd l_b (Int32.toNatClampNeg l_n) x2)) ((upd l_c (Int32.toNatClampNeg l_n) x3)) l_n) H := hP
    have hD : va_D A (w_L G l0 l1 l2 l3 ((upd l_a (Int32.toNatClampNeg l_n) x1)) ((upd l_b (Int32.toNatClampNeg l_n) x2)) ((upd l_c (Int32.toNatClampNeg l_n) x3)) l_n) := hD
    refine lv_aload_n hx hb dX1_append_38 rfl (lv_at hl 0 rfl) ?_
    refine lv_dup hx hb dX1_append_39 rfl ?_
    refine va_get (D := G.1) (ci := 1) (v := .int l_n) (C := RX1) (T := TX1) (N := 4) hx hb hts hinX1 hown hK.1 hP 0 rfl rfl 3 (by decide) lk21 (fun _ h9 => h9) rfl dX1_append_40 ?_
    refine lv_iconst (v := 1) hx hb dX1_append_43 (by decide) ?_
    refine lv_iadd hx hb dX1_append_44 ?_
    refine va_put (D := G.1) (ci := 1) (v := .int (l_n + 1)) (ty := .int) (C := RX1) (T := TX1) (N := 4) hx hb hts hinX1 tyX1 tyX1_ok nmX1 hown hK.1 hP hD hS 0 rfl rfl 3 (by decide) lk21 (fun _ h9 => h9) rfl (by decide +kernel) rfl rfl (Nat.le_of_ble_eq_true rfl) dX1_append_45 (fun H locs hP hD hS => ?_)
    have hP : va_P G.1 vwCl (w_L G l0 l1 l2 l3 ((upd l_a (Int32.toNatClampNeg l_n) x1)) ((upd l_b (Int32.toNatClampNeg l_n) x2)) ((upd l_c (Int32.toNatClampNeg l_n) x3)) ((l_n + 1))) H := hP
    have hD : va_D A (w_L G l0 l1 l2 l3 ((upd l_a (Int32.toNatClampNeg l_n) x1)) ((upd l_b (Int32.toNatClampNeg l_n) x2)) ((upd l_c (Int32.toNatClampNeg l_n) x3)) ((l_n + 1))) := hD
    obtain rfl := Option.some.inj h
    exact wrv hx hb hr hlocks hP hD hS (Nat.le_of_ble_eq_true rfl) (Nat.le_of_ble_eq_true rfl) dX1_append_48
  · have h := iq c_14 h
    obtain rfl := Option.some.inj h
    exact wrv hx hb hr hlocks hP hD hS (Nat.le_of_ble_eq_true rfl) (Nat.le_of_ble_eq_true rfl) dX1_append_7
def fX1_count (N : Nat) (l_n : Int32) : Option (Int32) := some l_n
set_option maxHeartbeats 4000000 in
set_option maxRecDepth 100000 in
theorem kX1_count {l : Launch} {G : wG} (l0 l1 l2 l3 : Nat) (l_a : Nat → Int32) (l_b : Nat → Int32) (l_c : Nat → Int32) (l_n : Int32) (N : Nat) (v : Int32) (h : fX1_count N l_n = some v) : wCi l G yX1_count wsX1_count ({ frames := 0, cells := 0, slots := 0, locals := 0 } : Room) [.ref l0] (w_L G l0 l1 l2 l3 l_a l_b l_c l_n) (w_L G l0 l1 l2 l3 l_a l_b l_c l_n) 0 0 v := by
  refine wCi.mk (cc := cX1_count) (maxL := 1) (ty := .int) (by decide) rfl (Nat.le_of_ble_eq_true rfl) ?_
  intro p e s m below meth c A ls hx hb hml hr hlocks hts hown hK hA hP hD hl
  have hx : p.tables.exec = Jvm.exec := hx
  have hown : s.vm.findClass RX1 = some m.cls := hown
  have hinX1 : ∀ w ∈ wsX10, w ∈ wsX1_count := by decide +kernel
  have lk21 := hts (.fieldLink RX1 21 "Chamberwright$Lines" "count" "I") (by decide +kernel)
  have hS : va_S A s.heap s.heap [] := va_S.rf
  have hP : va_P G.1 vwCl (w_L G l0 l1 l2 l3 l_a l_b l_c l_n) s.heap := hP
  have hD : va_D A (w_L G l0 l1 l2 l3 l_a l_b l_c l_n) := hD
  have hl : lv_has ls 1 [(0, .ref l0)] := hl
  obtain ⟨args, hargs⟩ : ∃ z : Array Value, z = ([.ref l0] : List Value).toArray := ⟨_, rfl⟩
  rw [← hargs]
  rw [← hargs] at hts
  rw [fX1_count.eq_1] at h
  refine lv_aload_n hx hb dX1_count_0 rfl (lv_at hl 0 rfl) ?_
  refine va_get (D := G.1) (ci := 1) (v := .int l_n) (C := RX1) (T := TX1) (N := 4) hx hb hts hinX1 hown hK.1 hP 0 rfl rfl 3 (by decide) lk21 (fun _ h9 => h9) rfl dX1_count_1 ?_
  obtain rfl := Option.some.inj h
  exact wri hx hb hr hlocks hP hD hS (Nat.le_of_ble_eq_true rfl) (Nat.le_of_ble_eq_true rfl) rfl dX1_count_4
def fX1_crossD (N : Nat) (l_a : Nat → Int32) (l_b : Nat → Int32) (x1 : Int32) (x2 : Int32) : Option (Int32) := rd l_a 9 x1 (fun v_15 => rd l_b 9 x2 (fun v_16 => rd l_a 9 x2 (fun v_17 => rd l_b 9 x1 (fun v_18 => some (((v_15 * v_16) - (v_17 * v_18)))))))
set_option maxHeartbeats 4000000 in
set_option maxRecDepth 100000 in
theorem kX1_crossD {l : Launch} {G : wG} (l0 l1 l2 l3 : Nat) (l_a : Nat → Int32) (l_b : Nat → Int32) (l_c : Nat → Int32) (l_n : Int32) (x1 : Int32) (x2 : Int32) (N : Nat) (v : Int32) (h : fX1_crossD N l_a l_b x1 x2 = some v) : wCi l G yX1_crossD wsX1_crossD ({ frames := 0, cells := 0, slots := 0, locals := 0 } : Room) [.ref l0, .int x1, .int x2] (w_L G l0 l1 l2 l3 l_a l_b l_c l_n) (w_L G l0 l1 l2 l3 l_a l_b l_c l_n) 0 0 v := by
  refine wCi.mk (cc := cX1_crossD) (maxL := 3) (ty := .int) (by decide) rfl (Nat.le_of_ble_eq_true rfl) ?_
  intro p e s m below meth c A ls hx hb hml hr hlocks hts hown hK hA hP hD hl
  have hx : p.tables.exec = Jvm.exec := hx
  have hown : s.vm.findClass RX1 = some m.cls := hown
  have hinX1 : ∀ w ∈ wsX10, w ∈ wsX1_crossD := by decide +kernel
  have lk15 := hts (.fieldLink RX1 15 "Chamberwright$Lines" "bs" "[I") (by decide +kernel)
  have lk9 := hts (.fieldLink RX1 9 "Chamberwright$Lines" "as" "[I") (by decide +kernel)
  have hS : va_S A s.heap s.heap [] := va_S.rf
  have hP : va_P G.1 vwCl (w_L G l0 l1 l2 l3 l_a l_b l_c l_n) s.heap := hP
  have hD : va_D A (w_L G l0 l1 l2 l3 l_a l_b l_c l_n) := hD
  have hl : lv_has ls 3 [(0, .ref l0), (1, .int x1), (2, .int x2)] := hl
  obtain ⟨args, hargs⟩ : ∃ z : Array Value, z = ([.ref l0, .int x1, .int x2] : List Value).toArray := ⟨_, rfl⟩
  rw [← hargs]
  rw [← hargs] at hts
  rw [fX1_crossD.eq_1] at h
  refine lv_aload_n hx hb dX1_crossD_0 rfl (lv_at hl 0 rfl) ?_
  refine va_get (D := G.1) (ci := 1) (v := .ref l1) (C := RX1) (T := TX1) (N := 4) hx hb hts hinX1 hown hK.1 hP 0 rfl rfl 0 (by decide) lk9 (fun _ h9 => h9) rfl dX1_crossD_1 ?_
  refine lv_iload_n hx hb dX1_crossD_4 rfl (lv_at hl 1 rfl) ?_
  refine wiald h hx hb hK hP 1 rfl dX1_crossD_5 (fun v_15 h => ?_)
  refine lv_aload_n hx hb dX1_crossD_6 rfl (lv_at hl 0 rfl) ?_
  refine va_get (D := G.1) (ci := 1) (v := .ref l2) (C := RX1) (T := TX1) (N := 4) hx hb hts hinX1 hown hK.1 hP 0 rfl rfl 1 (by decide) lk15 (fun _ h9 => h9) rfl dX1_crossD_7 ?_
  refine lv_iload_n hx hb dX1_crossD_10 rfl (lv_at hl 2 rfl) ?_
  refine wiald h hx hb hK hP 2 rfl dX1_crossD_11 (fun v_16 h => ?_)
  refine lv_imul hx hb dX1_crossD_12 ?_
  refine lv_aload_n hx hb dX1_crossD_13 rfl (lv_at hl 0 rfl) ?_
  refine va_get (D := G.1) (ci := 1) (v := .ref l1) (C := RX1) (T := TX1) (N := 4) hx hb hts hinX1 hown hK.1 hP 0 rfl rfl 0 (by decide) lk9 (fun _ h9 => h9) rfl dX1_crossD_14 ?_
  refine lv_iload_n hx hb dX1_crossD_17 rfl (lv_at hl 2 rfl) ?_
  refine wiald h hx hb hK hP 1 rfl dX1_crossD_18 (fun v_17 h => ?_)
  refine lv_aload_n hx hb dX1_crossD_19 rfl (lv_at hl 0 rfl) ?_
  refine va_get (D := G.1) (ci := 1) (v := .ref l2) (C := RX1) (T := TX1) (N := 4) hx hb hts hinX1 hown hK.1 hP 0 rfl rfl 1 (by decide) lk15 (fun _ h9 => h9) rfl dX1_crossD_20 ?_
  refine lv_iload_n hx hb dX1_crossD_23 rfl (lv_at hl 1 rfl) ?_
  refine wiald h hx hb hK hP 2 rfl dX1_crossD_24 (fun v_18 h => ?_)
  refine lv_imul hx hb dX1_crossD_25 ?_
  refine lv_isub hx hb dX1_crossD_26 ?_
  obtain rfl := Option.some.inj h
  exact wri hx hb hr hlocks hP hD hS (Nat.le_of_ble_eq_true rfl) (Nat.le_of_ble_eq_true rfl) rfl dX1_crossD_27
def fX4_bit (N : Nat) (x0 : Int32) : Option (Int32) := some ((1 <<< (x0 &&& 31)))
set_option maxHeartbeats 4000000 in
set_option maxRecDepth 100000 in
theorem kX4_bit {l : Launch} {G : wG} (x0 : Int32) (N : Nat) (v : Int32) (h : fX4_bit N x0 = some v) : wCi l G yX4_bit wsX4_bit ({ frames := 0, cells := 0, slots := 0, locals := 0 } : Room) [.int x0] [] [] 0 0 v := by
  refine wCi.mk (cc := cX4_bit) (maxL := 1) (ty := .int) (by decide) rfl (Nat.le_of_ble_eq_true rfl) ?_
  intro p e s m below meth c A ls hx hb hml hr hlocks hts hown hK hA hP hD hl
  have hx : p.tables.exec = Jvm.exec := hx
  have hown : s.vm.findClass RX4 = some m.cls := hown
  have hS : va_S A s.heap s.heap [] := va_S.rf
  have hP : va_P G.1 vwCl [] s.heap := hP
  have hD : va_D A [] := hD
  have hl : lv_has ls 1 [(0, .int x0)] := hl
  obtain ⟨args, hargs⟩ : ∃ z : Array Value, z = ([.int x0] : List Value).toArray := ⟨_, rfl⟩
  rw [← hargs]
  rw [← hargs] at hts
  rw [fX4_bit.eq_1] at h
  refine lv_iconst (v := 1) hx hb dX4_bit_0 (by decide) ?_
  refine lv_iload_n hx hb dX4_bit_1 rfl (lv_at hl 0 rfl) ?_
  refine lv_ishl hx hb dX4_bit_2 ?_
  obtain rfl := Option.some.inj h
  exact wri hx hb hr hlocks hP hD hS (Nat.le_of_ble_eq_true rfl) (Nat.le_of_ble_eq_true rfl) rfl dX4_bit_3
def fX1_crossX (N : Nat) (l_b : Nat → Int32) (l_c : Nat → Int32) (x1 : Int32) (x2 : Int32) : Option (Int32) := rd l_c 9 x1 (fun v_19 => rd l_b 9 x2 (fun v_20 => rd l_c 9 x2 (fun v_21 => rd l_b 9 x1 (fun v_22 => some (((v_19 * v_20) - (v_21 * v_22)))))))
set_option maxHeartbeats 4000000 in
set_option maxRecDepth 100000 in
theorem kX1_crossX {l : Launch} {G : wG} (l0 l1 l2 l3 : Nat) (l_a : Nat → Int32) (l_b : Nat → Int32) (l_c : Nat → Int32) (l_n : Int32) (x1 : Int32) (x2 : Int32) (N : Nat) (v : Int32) (h : fX1_crossX N l_b l_c x1 x2 = some v) : wCi l G yX1_crossX wsX1_crossX ({ frames := 0, cells := 0, slots := 0, locals := 0 } : Room) [.ref l0, .int x1, .int x2] (w_L G l0 l1 l2 l3 l_a l_b l_c l_n) (w_L G l0 l1 l2 l3 l_a l_b l_c l_n) 0 0 v := by
  refine wCi.mk (cc := cX1_crossX) (maxL := 3) (ty := .int) (by decide) rfl (Nat.le_of_ble_eq_true rfl) ?_
  intro p e s m below meth c A ls hx hb hml hr hlocks hts hown hK hA hP hD hl
  have hx : p.tables.exec = Jvm.exec := hx
  have hown : s.vm.findClass RX1 = some m.cls := hown
  have hinX1 : ∀ w ∈ wsX10, w ∈ wsX1_crossX := by decide +kernel
  have lk15 := hts (.fieldLink RX1 15 "Chamberwright$Lines" "bs" "[I") (by decide +kernel)
  have lk18 := hts (.fieldLink RX1 18 "Chamberwright$Lines" "cs" "[I") (by decide +kernel)
  have hS : va_S A s.heap s.heap [] := va_S.rf
  have hP : va_P G.1 vwCl (w_L G l0 l1 l2 l3 l_a l_b l_c l_n) s.heap := hP
  have hD : va_D A (w_L G l0 l1 l2 l3 l_a l_b l_c l_n) := hD
  have hl : lv_has ls 3 [(0, .ref l0), (1, .int x1), (2, .int x2)] := hl
  obtain ⟨args, hargs⟩ : ∃ z : Array Value, z = ([.ref l0, .int x1, .int x2] : List Value).toArray := ⟨_, rfl⟩
  rw [← hargs]
  rw [← hargs] at hts
  rw [fX1_crossX.eq_1] at h
  refine lv_aload_n hx hb dX1_crossX_0 rfl (lv_at hl 0 rfl) ?_
  refine va_get (D := G.1) (ci := 1) (v := .ref l3) (C := RX1) (T := TX1) (N := 4) hx hb hts hinX1 hown hK.1 hP 0 rfl rfl 2 (by decide) lk18 (fun _ h9 => h9) rfl dX1_crossX_1 ?_
  refine lv_iload_n hx hb dX1_crossX_4 rfl (lv_at hl 1 rfl) ?_
  refine wiald h hx hb hK hP 3 rfl dX1_crossX_5 (fun v_19 h => ?_)
  refine lv_aload_n hx hb dX1_crossX_6 rfl (lv_at hl 0 rfl) ?_
  refine va_get (D := G.1) (ci := 1) (v := .ref l2) (C := RX1) (T := TX1) (N := 4) hx hb hts hinX1 hown hK.1 hP 0 rfl rfl 1 (by decide) lk15 (fun _ h9 => h9) rfl dX1_crossX_7 ?_
  refine lv_iload_n hx hb dX1_crossX_10 rfl (lv_at hl 2 rfl) ?_
  refine wiald h hx hb hK hP 2 rfl dX1_crossX_11 (fun v_20 h => ?_)
  refine lv_imul hx hb dX1_crossX_12 ?_
  refine lv_aload_n hx hb dX1_crossX_13 rfl (lv_at hl 0 rfl) ?_
  refine va_get (D := G.1) (ci := 1) (v := .ref l3) (C := RX1) (T := TX1) (N := 4) hx hb hts hinX1 hown hK.1 hP 0 rfl rfl 2 (by decide) lk18 (fun _ h9 => h9) rfl dX1_crossX_14 ?_
  refine lv_iload_n hx hb dX1_crossX_17 rfl (lv_at hl 2 rfl) ?_
  refine wiald h hx hb hK hP 3 rfl dX1_crossX_18 (fun v_21 h => ?_)
  refine lv_aload_n hx hb dX1_crossX_19 rfl (lv_at hl 0 rfl) ?_
  refine va_get (D := G.1) (ci := 1) (v := .ref l2) (C := RX1) (T := TX1) (N := 4) hx hb hts hinX1 hown hK.1 hP 0 rfl rfl 1 (by decide) lk15 (fun _ h9 => h9) rfl dX1_crossX_20 ?_
  refine lv_iload_n hx hb dX1_crossX_23 rfl (lv_at hl 1 rfl) ?_
  refine wiald h hx hb hK hP 2 rfl dX1_crossX_24 (fun v_22 h => ?_)
  refine lv_imul hx hb dX1_crossX_25 ?_
  refine lv_isub hx hb dX1_crossX_26 ?_
  obtain rfl := Option.some.inj h
  exact wri hx hb hr hlocks hP hD hS (Nat.le_of_ble_eq_true rfl) (Nat.le_of_ble_eq_true rfl) rfl dX1_crossX_27
def fX1_crossY (N : Nat) (l_a : Nat → Int32) (l_c : Nat → Int32) (x1 : Int32) (x2 : Int32) : Option (Int32) := rd l_a 9 x1 (fun v_23 => rd l_c 9 x2 (fun v_24 => rd l_a 9 x2 (fun v_25 => rd l_c 9 x1 (fun v_26 => some (((v_23 * v_24) - (v_25 * v_26)))))))
set_option maxHeartbeats 4000000 in
set_option maxRecDepth 100000 in
theorem kX1_crossY {l : Launch} {G : wG} (l0 l1 l2 l3 : Nat) (l_a : Nat → Int32) (l_b : Nat → Int32) (l_c : Nat → Int32) (l_n : Int32) (x1 : Int32) (x2 : Int32) (N : Nat) (v : Int32) (h : fX1_crossY N l_a l_c x1 x2 = some v) : wCi l G yX1_crossY wsX1_crossY ({ frames := 0, cells := 0, slots := 0, locals := 0 } : Room) [.ref l0, .int x1, .int x2] (w_L G l0 l1 l2 l3 l_a l_b l_c l_n) (w_L G l0 l1 l2 l3 l_a l_b l_c l_n) 0 0 v := by
  refine wCi.mk (cc := cX1_crossY) (maxL := 3) (ty := .int) (by decide) rfl (Nat.le_of_ble_eq_true rfl) ?_
  intro p e s m below meth c A ls hx hb hml hr hlocks hts hown hK hA hP hD hl
  have hx : p.tables.exec = Jvm.exec := hx
  have hown : s.vm.findClass RX1 = some m.cls := hown
  have hinX1 : ∀ w ∈ wsX10, w ∈ wsX1_crossY := by decide +kernel
  have lk18 := hts (.fieldLink RX1 18 "Chamberwright$Lines" "cs" "[I") (by decide +kernel)
  have lk9 := hts (.fieldLink RX1 9 "Chamberwright$Lines" "as" "[I") (by decide +kernel)
  have hS : va_S A s.heap s.heap [] := va_S.rf
  have hP : va_P G.1 vwCl (w_L G l0 l1 l2 l3 l_a l_b l_c l_n) s.heap := hP
  have hD : va_D A (w_L G l0 l1 l2 l3 l_a l_b l_c l_n) := hD
  have hl : lv_has ls 3 [(0, .ref l0), (1, .int x1), (2, .int x2)] := hl
  obtain ⟨args, hargs⟩ : ∃ z : Array Value, z = ([.ref l0, .int x1, .int x2] : List Value).toArray := ⟨_, rfl⟩
  rw [← hargs]
  rw [← hargs] at hts
  rw [fX1_crossY.eq_1] at h
  refine lv_aload_n hx hb dX1_crossY_0 rfl (lv_at hl 0 rfl) ?_
  refine va_get (D := G.1) (ci := 1) (v := .ref l1) (C := RX1) (T := TX1) (N := 4) hx hb hts hinX1 hown hK.1 hP 0 rfl rfl 0 (by decide) lk9 (fun _ h9 => h9) rfl dX1_crossY_1 ?_
  refine lv_iload_n hx hb dX1_crossY_4 rfl (lv_at hl 1 rfl) ?_
  refine wiald h hx hb hK hP 1 rfl dX1_crossY_5 (fun v_23 h => ?_)
  refine lv_aload_n hx hb dX1_crossY_6 rfl (lv_at hl 0 rfl) ?_
  refine va_get (D := G.1) (ci := 1) (v := .ref l3) (C := RX1) (T := TX1) (N := 4) hx hb hts hinX1 hown hK.1 hP 0 rfl rfl 2 (by decide) lk18 (fun _ h9 => h9) rfl dX1_crossY_7 ?_
  refine lv_iload_n hx hb dX1_crossY_10 rfl (lv_at hl 2 rfl) ?_
  refine wiald h hx hb hK hP 3 rfl dX1_crossY_11 (fun v_24 h => ?_)
  refine lv_imul hx hb dX1_crossY_12 ?_
  refine lv_aload_n hx hb dX1_crossY_13 rfl (lv_at hl 0 rfl) ?_
  refine va_get (D := G.1) (ci := 1) (v := .ref l1) (C := RX1) (T := TX1) (N := 4) hx hb hts hinX1 hown hK.1 hP 0 rfl rfl 0 (by decide) lk9 (fun _ h9 => h9) rfl dX1_crossY_14 ?_
  refine lv_iload_n hx hb dX1_crossY_17 rfl (lv_at hl 2 rfl) ?_
  refine wiald h hx hb hK hP 1 rfl dX1_crossY_18 (fun v_25 h => ?_)
  refine lv_aload_n hx hb dX1_crossY_19 rfl (lv_at hl 0 rfl) ?_
  refine va_get (D := G.1) (ci := 1) (v := .ref l3) (C := RX1) (T := TX1) (N := 4) hx hb hts hinX1 hown hK.1 hP 0 rfl rfl 2 (by decide) lk18 (fun _ h9 => h9) rfl dX1_crossY_20 ?_
  refine lv_iload_n hx hb dX1_crossY_23 rfl (lv_at hl 1 rfl) ?_
  refine wiald h hx hb hK hP 3 rfl dX1_crossY_24 (fun v_26 h => ?_)
  refine lv_imul hx hb dX1_crossY_25 ?_
  refine lv_isub hx hb dX1_crossY_26 ?_
  obtain rfl := Option.some.inj h
  exact wri hx hb hr hlocks hP hD hS (Nat.le_of_ble_eq_true rfl) (Nat.le_of_ble_eq_true rfl) rfl dX1_crossY_27
def fX1_height (N : Nat) (l_a : Nat → Int32) (l_b : Nat → Int32) (l_c : Nat → Int32) (x1 : Int32) (x2 : Int32) (x3 : Int32) (x4 : Int32) : Option (Int32) := rd l_a 9 x1 (fun v_27 => rd l_b 9 x1 (fun v_28 => rd l_c 9 x1 (fun v_29 => some ((((v_27 * x2) + (v_28 * x3)) - (v_29 * x4))))))
set_option maxHeartbeats 4000000 in
set_option maxRecDepth 100000 in
theorem kX1_height {l : Launch} {G : wG} (l0 l1 l2 l3 : Nat) (l_a : Nat → Int32) (l_b : Nat → Int32) (l_c : Nat → Int32) (l_n : Int32) (x1 : Int32) (x2 : Int32) (x3 : Int32) (x4 : Int32) (N : Nat) (v : Int32) (h : fX1_height N l_a l_b l_c x1 x2 x3 x4 = some v) : wCi l G yX1_height wsX1_height ({ frames := 0, cells := 0, slots := 0, locals := 0 } : Room) [.ref l0, .int x1, .int x2, .int x3, .int x4] (w_L G l0 l1 l2 l3 l_a l_b l_c l_n) (w_L G l0 l1 l2 l3 l_a l_b l_c l_n) 0 0 v := by
  refine wCi.mk (cc := cX1_height) (maxL := 5) (ty := .int) (by decide) rfl (Nat.le_of_ble_eq_true rfl) ?_
  intro p e s m below meth c A ls hx hb hml hr hlocks hts hown hK hA hP hD hl
  have hx : p.tables.exec = Jvm.exec := hx
  have hown : s.vm.findClass RX1 = some m.cls := hown
  have hinX1 : ∀ w ∈ wsX10, w ∈ wsX1_height := by decide +kernel
  have lk15 := hts (.fieldLink RX1 15 "Chamberwright$Lines" "bs" "[I") (by decide +kernel)
  have lk18 := hts (.fieldLink RX1 18 "Chamberwright$Lines" "cs" "[I") (by decide +kernel)
  have lk9 := hts (.fieldLink RX1 9 "Chamberwright$Lines" "as" "[I") (by decide +kernel)
  have hS : va_S A s.heap s.heap [] := va_S.rf
  have hP : va_P G.1 vwCl (w_L G l0 l1 l2 l3 l_a l_b l_c l_n) s.heap := hP
  have hD : va_D A (w_L G l0 l1 l2 l3 l_a l_b l_c l_n) := hD
  have hl : lv_has ls 5 [(0, .ref l0), (1, .int x1), (2, .int x2), (3, .int x3), (4, .int x4)] := hl
  obtain ⟨args, hargs⟩ : ∃ z : Array Value, z = ([.ref l0, .int x1, .int x2, .int x3, .int x4] : List Value).toArray := ⟨_, rfl⟩
  rw [← hargs]
  rw [← hargs] at hts
  rw [fX1_height.eq_1] at h
  refine lv_aload_n hx hb dX1_height_0 rfl (lv_at hl 0 rfl) ?_
  refine va_get (D := G.1) (ci := 1) (v := .ref l1) (C := RX1) (T := TX1) (N := 4) hx hb hts hinX1 hown hK.1 hP 0 rfl rfl 0 (by decide) lk9 (fun _ h9 => h9) rfl dX1_height_1 ?_
  refine lv_iload_n hx hb dX1_height_4 rfl (lv_at hl 1 rfl) ?_
  refine wiald h hx hb hK hP 1 rfl dX1_height_5 (fun v_27 h => ?_)
  refine lv_iload_n hx hb dX1_height_6 rfl (lv_at hl 2 rfl) ?_
  refine lv_imul hx hb dX1_height_7 ?_
  refine lv_aload_n hx hb dX1_height_8 rfl (lv_at hl 0 rfl) ?_
  refine va_get (D := G.1) (ci := 1) (v := .ref l2) (C := RX1) (T := TX1) (N := 4) hx hb hts hinX1 hown hK.1 hP 0 rfl rfl 1 (by decide) lk15 (fun _ h9 => h9) rfl dX1_height_9 ?_
  refine lv_iload_n hx hb dX1_height_12 rfl (lv_at hl 1 rfl) ?_
  refine wiald h hx hb hK hP 2 rfl dX1_height_13 (fun v_28 h => ?_)
  refine lv_iload_n hx hb dX1_height_14 rfl (lv_at hl 3 rfl) ?_
  refine lv_imul hx hb dX1_height_15 ?_
  refine lv_iadd hx hb dX1_height_16 ?_
  refine lv_aload_n hx hb dX1_height_17 rfl (lv_at hl 0 rfl) ?_
  refine va_get (D := G.1) (ci := 1) (v := .ref l3) (C := RX1) (T := TX1) (N := 4) hx hb hts hinX1 hown hK.1 hP 0 rfl rfl 2 (by decide) lk18 (fun _ h9 => h9) rfl dX1_height_18 ?_
  refine lv_iload_n hx hb dX1_height_21 rfl (lv_at hl 1 rfl) ?_
  refine wiald h hx hb hK hP 3 rfl dX1_height_22 (fun v_29 h => ?_)
  refine lv_iload hx hb dX1_height_23 (lv_at hl 4 rfl) ?_
  refine lv_imul hx hb dX1_height_25 ?_
  refine lv_isub hx hb dX1_height_26 ?_
  obtain rfl := Option.some.inj h
  exact wri hx hb hr hlocks hP hD hS (Nat.le_of_ble_eq_true rfl) (Nat.le_of_ble_eq_true rfl) rfl dX1_height_27
def fX1_setBelow_b6 (N : Nat) (l_a : Nat → Int32) (l_b : Nat → Int32) (l_c : Nat → Int32) (l_n : Int32) (x1 : Int32) (x2 : Int32) (x3 : Int32) : Nat → Int32 → Int32 → Option (Int32)
  | 0, _, _ => none
  | n + 1, x4, x5 => if l_n ≤ x5 then some x4 else bd (fX1_height N l_a l_b l_c x5 x1 x2 x3) (fun u_31 => if u_31 ≤ 0 then fX1_setBelow_b6 N l_a l_b l_c l_n x1 x2 x3 n x4 (x5 + 1) else bd (fX4_bit N x5) (fun u_34 => fX1_setBelow_b6 N l_a l_b l_c l_n x1 x2 x3 n (x4 ||| u_34) (x5 + 1)))
def fX1_setBelow (N : Nat) (l_a : Nat → Int32) (l_b : Nat → Int32) (l_c : Nat → Int32) (l_n : Int32) (x1 : Int32) (x2 : Int32) (x3 : Int32) : Option (Int32) := fX1_setBelow_b6 N l_a l_b l_c l_n x1 x2 x3 N 0 0
set_option maxHeartbeats 4000000 in
set_option maxRecDepth 100000 in
theorem kX1_setBelow {l : Launch} {G : wG} (l0 l1 l2 l3 : Nat) (l_a : Nat → Int32) (l_b : Nat → Int32) (l_c : Nat → Int32) (l_n : Int32) (x1 : Int32) (x2 : Int32) (x3 : Int32) (N : Nat) (v : Int32) (h : fX1_setBelow N l_a l_b l_c l_n x1 x2 x3 = some v) : wCi l G yX1_setBelow wsX1_setBelow ({ frames := 1, cells := 0, slots := 0, locals := 24 } : Room) [.ref l0, .int x1, .int x2, .int x3] (w_L G l0 l1 l2 l3 l_a l_b l_c l_n) (w_L G l0 l1 l2 l3 l_a l_b l_c l_n) 0 0 v := by
  refine wCi.mk (cc := cX1_setBelow) (maxL := 6) (ty := .int) (by decide) rfl (Nat.le_of_ble_eq_true rfl) ?_
  intro p e s m below meth c A ls hx hb hml hr hlocks hts hown hK hA hP hD hl
  have hx : p.tables.exec = Jvm.exec := hx
  have hown : s.vm.findClass RX1 = some m.cls := hown
  have hinX1 : ∀ w ∈ wsX10, w ∈ wsX1_setBelow := by decide +kernel
  have lk21 := hts (.fieldLink RX1 21 "Chamberwright$Lines" "count" "I") (by decide +kernel)
  have hS : va_S A s.heap s.heap [] := va_S.rf
  have hP : va_P G.1 vwCl (w_L G l0 l1 l2 l3 l_a l_b l_c l_n) s.heap := hP
  have hD : va_D A (w_L G l0 l1 l2 l3 l_a l_b l_c l_n) := hD
  have hl : lv_has ls 6 [(0, .ref l0), (1, .int x1), (2, .int x2), (3, .int x3)] := hl
  obtain ⟨args, hargs⟩ : ∃ z : Array Value, z = ([.ref l0, .int x1, .int x2, .int x3] : List Value).toArray := ⟨_, rfl⟩
  rw [← hargs]
  rw [← hargs] at hts
  have w_6 : ∀ (x1 : Int32) (x2 : Int32) (x3 : Int32)  (_z : Unit), ∀ (n : Nat) (x4 : Int32) (x5 : Int32)  (H : Heap) (locs : List Loc) (ls : Array Slot), va_P G.1 vwCl (w_L G l0 l1 l2 l3 l_a l_b l_c l_n) H → va_D A (w_L G l0 l1 l2 l3 l_a l_b l_c l_n) → va_S A s.heap H locs → lv_has ls 6 [(0, .ref l0), (1, .int x1), (2, .int x2), (3, .int x3), (4, .int x4), (5, .int x5)] → fX1_setBelow_b6 N l_a l_b l_c l_n x1 x2 x3 n x4 x5 = some v → W p l e ({ frames := 1, cells := 0, slots := 0, locals := 24 } : Room) s m args below meth c H locs 0 0 (wQi G A below args s (w_L G l0 l1 l2 l3 l_a l_b l_c l_n) 0 0 v) (F0 m 6 ls []) := by
    intro x1 x2 x3 _z n
    induction n with
    | zero =>
      intro x4 x5 H locs ls hP hD hS hl h
      rw [fX1_setBelow_b6.eq_1] at h
      cases h
    | succ n ih =>
      intro x4 x5 H locs ls hP hD hS hl h
      rw [fX1_setBelow_b6.eq_2] at h
      refine lv_iload hx hb dX1_setBelow_6 (lv_at hl 5 rfl) ?_
      refine lv_aload_n hx hb dX1_setBelow_8 rfl (lv_at hl 0 rfl) ?_
      refine va_get (D := G.1) (ci := 1) (v := .int l_n) (C := RX1) (T := TX1) (N := 4) hx hb hts hinX1 hown hK.1 hP 0 rfl rfl 3 (by decide) lk21 (fun _ h9 => h9) rfl dX1_setBelow_9 ?_
      refine lv_icmp_ge (tgt := 43) hx hb dX1_setBelow_12 (by decide) (fun c_30 => ?_) (fun c_30 => ?_)
      · have h := ip c_30 h
        refine lv_iload hx hb dX1_setBelow_43 (lv_at hl 4 rfl) ?_
        obtain rfl := Option.some.inj h
        exact wri hx hb hr hlocks hP hD hS (Nat.le_of_ble_eq_true rfl) (Nat.le_of_ble_eq_true rfl) rfl dX1_setBelow_45
      · have h := iq c_30 h
        refine lv_aload_n hx hb dX1_setBelow_15 rfl (lv_at hl 0 rfl) ?_
        refine lv_iload hx hb dX1_setBelow_16 (lv_at hl 5 rfl) ?_
        refine lv_iload_n hx hb dX1_setBelow_18 rfl (lv_at hl 1 rfl) ?_
        refine lv_iload_n hx hb dX1_setBelow_19 rfl (lv_at hl 2 rfl) ?_
        refine lv_iload_n hx hb dX1_setBelow_20 rfl (lv_at hl 3 rfl) ?_
        obtain ⟨u_31, hc_32, h⟩ := bd_inv h
        refine wafter_i (wr := []) (w2 := (w_L G l0 l1 l2 l3 l_a l_b l_c l_n)) (va_runV (As := [.int x5, .int x1, .int x2, .int x3]) (rest := []) ⟨hx, hb, hml, hown, hts⟩ (kX1_height (l := l) (G := G) l0 l1 l2 l3 l_a l_b l_c l_n x5 x1 x2 x3 N u_31 hc_32 _) (cwV 4 hts gX1_setBelow_X1_height rfl rfl rfl (by decide +kernel) ⟨Nat.le_of_ble_eq_true rfl, Nat.le_of_ble_eq_true rfl⟩) (wPreV hP hD hK [0, 1, 2, 3] rfl rfl (ci := 1) (qb := 0) rfl rfl rfl) rfl rfl hl.1 rfl (lv_room (Nat.le_of_ble_eq_true rfl)) dX1_setBelow_21 ⟨Nat.zero_le _, Nat.zero_le _⟩) hP hD hS hA [0, 1, 2, 3] [] [0, 1, 2, 3] rfl rfl rfl (by decide) rfl rfl (fun H locs hP hD hS => ?_)
        refine lv_if_le (tgt := 37) hx hb dX1_setBelow_24 (by decide) (fun c_33 => ?_) (fun c_33 => ?_)
        · have h := ip c_33 h
          refine lv_iinc (v := (x5 + 1)) (lv' := [(5, .int (x5 + 1)), (0, .ref l0), (1, .int x1), (2, .int x2), (3, .int x3), (4, .int x4)]) hx hb dX1_setBelow_37 hl (k := 5) rfl rfl (by decide) rfl (fun ls hl => ?_)
          refine lv_goto (tgt := 6) hx hb dX1_setBelow_40 (by decide) ?_
          exact ih _ _ _ _ _ hP hD hS (lv_sub hl [1, 2, 3, 4, 5, 0] rfl) h
        · have h := iq c_33 h
          refine lv_iload hx hb dX1_setBelow_27 (lv_at hl 4 rfl) ?_
          refine lv_iload hx hb dX1_setBelow_29 (lv_at hl 5 rfl) ?_
          obtain ⟨u_34, hc_35, h⟩ := bd_inv h
          refine wafter_i (wr := (w_L G l0 l1 l2 l3 l_a l_b l_c l_n)) (w2 := (w_L G l0 l1 l2 l3 l_a l_b l_c l_n)) (va_runSN (As := [.int x5]) (rest := [.int x4]) ⟨hx, hb, hml, hown, hts⟩ (kX4_bit (l := l) (G := G)   x5 N u_34 hc_35 _) ⟨va_cnB 1 hts gX1_setBelow_X4_bit_n33 rfl rfl rfl (hK.2 (.methodLinkNest RX1 33 yX4_bit RX4) (by simp [wNest])) (hts (.initialized RX4) (by decide +kernel)) (by decide +kernel) ⟨Nat.le_of_ble_eq_true rfl, Nat.le_of_ble_eq_true rfl⟩, hts (.static yX4_bit) (by decide +kernel), trivial⟩ (wPreS hP hD hK [] rfl rfl) rfl rfl hl.1 rfl (lv_room (Nat.le_of_ble_eq_true rfl)) dX1_setBelow_31 ⟨Nat.zero_le _, Nat.zero_le _⟩) hP hD hS hA [] [0, 1, 2, 3] [0, 1, 2, 3] rfl rfl rfl (by decide) rfl rfl (fun H locs hP hD hS => ?_)
          refine lv_ior hx hb dX1_setBelow_34 ?_
          refine lv_istore (lv' := [(4, .int (x4 ||| u_34)), (0, .ref l0), (1, .int x1), (2, .int x2), (3, .int x3), (5, .int x5)]) hx hb dX1_setBelow_35 hl (by decide) rfl (fun ls hl => ?_)
          refine lv_iinc (v := (x5 + 1)) (lv' := [(5, .int (x5 + 1)), (4, .int (x4 ||| u_34)), (0, .ref l0), (1, .int x1), (2, .int x2), (3, .int x3)]) hx hb dX1_setBelow_37 hl (k := 5) rfl rfl (by decide) rfl (fun ls hl => ?_)
          refine lv_goto (tgt := 6) hx hb dX1_setBelow_40 (by decide) ?_
          exact ih _ _ _ _ _ hP hD hS (lv_sub hl [2, 3, 4, 5, 1, 0] rfl) h
  rw [fX1_setBelow.eq_1] at h
  refine lv_iconst (v := 0) hx hb dX1_setBelow_0 (by decide) ?_
  refine lv_istore (lv' := [(4, .int 0), (0, .ref l0), (1, .int x1), (2, .int x2), (3, .int x3)]) hx hb dX1_setBelow_1 hl (by decide) rfl (fun ls hl => ?_)
  refine lv_iconst (v := 0) hx hb dX1_setBelow_3 (by decide) ?_
  refine lv_istore (lv' := [(5, .int 0), (4, .int 0), (0, .ref l0), (1, .int x1), (2, .int x2), (3, .int x3)]) hx hb dX1_setBelow_4 hl (by decide) rfl (fun ls hl => ?_)
  exact w_6  _ _ _  ()  N _ _  _ _ _ hP hD hS (lv_sub hl [2, 3, 4, 5, 1, 0] rfl) h
def fX4_isIn (N : Nat) (x0 : Int32) (x1 : Int32) : Option (Int32) := bd (fX4_bit N x1) (fun u_36 => if (x0 &&& u_36) = 0 then zo 0 (some 0) else zo 1 (some 1))
set_option maxHeartbeats 4000000 in
set_option maxRecDepth 100000 in
theorem kX4_isIn {l : Launch} {G : wG} (x0 : Int32) (x1 : Int32) (N : Nat) (v : Int32) (h : fX4_isIn N x0 x1 = some v) : wCi l G yX4_isIn wsX4_isIn ({ frames := 1, cells := 0, slots := 0, locals := 20 } : Room) [.int x0, .int x1] [] [] 0 0 v := by
  refine wCi.mk (cc := cX4_isIn) (maxL := 2) (ty := .boolean) (by decide) rfl (Nat.le_of_ble_eq_true rfl) ?_
  intro p e s m below meth c A ls hx hb hml hr hlocks hts hown hK hA hP hD hl
  have hx : p.tables.exec = Jvm.exec := hx
  have hown : s.vm.findClass RX4 = some m.cls := hown
  have hS : va_S A s.heap s.heap [] := va_S.rf
  have hP : va_P G.1 vwCl [] s.heap := hP
  have hD : va_D A [] := hD
  have hl : lv_has ls 2 [(0, .int x0), (1, .int x1)] := hl
  obtain ⟨args, hargs⟩ : ∃ z : Array Value, z = ([.int x0, .int x1] : List Value).toArray := ⟨_, rfl⟩
  rw [← hargs]
  rw [← hargs] at hts
  rw [fX4_isIn.eq_1] at h
  refine lv_iload_n hx hb dX4_isIn_0 rfl (lv_at hl 0 rfl) ?_
  refine lv_iload_n hx hb dX4_isIn_1 rfl (lv_at hl 1 rfl) ?_
  obtain ⟨u_36, hc_37, h⟩ := bd_inv h
  refine wafter_i (wr := []) (w2 := []) (va_runS (As := [.int x1]) (rest := [.int x0]) ⟨hx, hb, hml, hown, hts⟩ (kX4_bit (l := l) (G := G)   x1 N u_36 hc_37 _) (va_cwS 1 hts gX4_isIn_X4_bit rfl rfl rfl (by decide +kernel) ⟨Nat.le_of_ble_eq_true rfl, Nat.le_of_ble_eq_true rfl⟩) (wPreS hP hD hK [] rfl rfl) rfl rfl hl.1 rfl (lv_room (Nat.le_of_ble_eq_true rfl)) dX4_isIn_2 ⟨Nat.zero_le _, Nat.zero_le _⟩) hP hD hS hA [] [] [] rfl rfl rfl (by decide) rfl rfl (fun H locs hP hD hS => ?_)
  refine lv_iand hx hb dX4_isIn_5 ?_
  refine lv_if_eq (tgt := 13) hx hb dX4_isIn_6 (by decide) (fun c_38 => ?_) (fun c_38 => ?_)
  · have h := ip c_38 h
    refine lv_iconst (v := 0) hx hb dX4_isIn_13 (by decide) ?_
    obtain ⟨hz, h⟩ := zo_inv h
    obtain rfl := Option.some.inj h
    exact wrz hx hb hr hlocks hP hD hS (Nat.le_of_ble_eq_true rfl) (Nat.le_of_ble_eq_true rfl) hz rfl dX4_isIn_14
  · have h := iq c_38 h
    refine lv_iconst (v := 1) hx hb dX4_isIn_9 (by decide) ?_
    refine lv_goto (tgt := 14) hx hb dX4_isIn_10 (by decide) ?_
    obtain ⟨hz, h⟩ := zo_inv h
    obtain rfl := Option.some.inj h
    exact wrz hx hb hr hlocks hP hD hS (Nat.le_of_ble_eq_true rfl) (Nat.le_of_ble_eq_true rfl) hz rfl dX4_isIn_14
def fX1_b (N : Nat) (l_b : Nat → Int32) (x1 : Int32) : Option (Int32) := rd l_b 9 x1 (fun v_39 => some v_39)
set_option maxHeartbeats 4000000 in
set_option maxRecDepth 100000 in
theorem kX1_b {l : Launch} {G : wG} (l0 l1 l2 l3 : Nat) (l_a : Nat → Int32) (l_b : Nat → Int32) (l_c : Nat → Int32) (l_n : Int32) (x1 : Int32) (N : Nat) (v : Int32) (h : fX1_b N l_b x1 = some v) : wCi l G yX1_b wsX1_b ({ frames := 0, cells := 0, slots := 0, locals := 0 } : Room) [.ref l0, .int x1] (w_L G l0 l1 l2 l3 l_a l_b l_c l_n) (w_L G l0 l1 l2 l3 l_a l_b l_c l_n) 0 0 v := by
  refine wCi.mk (cc := cX1_b) (maxL := 2) (ty := .int) (by decide) rfl (Nat.le_of_ble_eq_true rfl) ?_
  intro p e s m below meth c A ls hx hb hml hr hlocks hts hown hK hA hP hD hl
  have hx : p.tables.exec = Jvm.exec := hx
  have hown : s.vm.findClass RX1 = some m.cls := hown
  have hinX1 : ∀ w ∈ wsX10, w ∈ wsX1_b := by decide +kernel
  have lk15 := hts (.fieldLink RX1 15 "Chamberwright$Lines" "bs" "[I") (by decide +kernel)
  have hS : va_S A s.heap s.heap [] := va_S.rf
  have hP : va_P G.1 vwCl (w_L G l0 l1 l2 l3 l_a l_b l_c l_n) s.heap := hP
  have hD : va_D A (w_L G l0 l1 l2 l3 l_a l_b l_c l_n) := hD
  have hl : lv_has ls 2 [(0, .ref l0), (1, .int x1)] := hl
  obtain ⟨args, hargs⟩ : ∃ z : Array Value, z = ([.ref l0, .int x1] : List Value).toArray := ⟨_, rfl⟩
  rw [← hargs]
  rw [← hargs] at hts
  rw [fX1_b.eq_1] at h
  refine lv_aload_n hx hb dX1_b_0 rfl (lv_at hl 0 rfl) ?_
  refine va_get (D := G.1) (ci := 1) (v := .ref l2) (C := RX1) (T := TX1) (N := 4) hx hb hts hinX1 hown hK.1 hP 0 rfl rfl 1 (by decide) lk15 (fun _ h9 => h9) rfl dX1_b_1 ?_
  refine lv_iload_n hx hb dX1_b_4 rfl (lv_at hl 1 rfl) ?_
  refine wiald h hx hb hK hP 2 rfl dX1_b_5 (fun v_39 h => ?_)
  obtain rfl := Option.some.inj h
  exact wri hx hb hr hlocks hP hD hS (Nat.le_of_ble_eq_true rfl) (Nat.le_of_ble_eq_true rfl) rfl dX1_b_6
def fX1_a (N : Nat) (l_a : Nat → Int32) (x1 : Int32) : Option (Int32) := rd l_a 9 x1 (fun v_40 => some v_40)
set_option maxHeartbeats 4000000 in
set_option maxRecDepth 100000 in
theorem kX1_a {l : Launch} {G : wG} (l0 l1 l2 l3 : Nat) (l_a : Nat → Int32) (l_b : Nat → Int32) (l_c : Nat → Int32) (l_n : Int32) (x1 : Int32) (N : Nat) (v : Int32) (h : fX1_a N l_a x1 = some v) : wCi l G yX1_a wsX1_a ({ frames := 0, cells := 0, slots := 0, locals := 0 } : Room) [.ref l0, .int x1] (w_L G l0 l1 l2 l3 l_a l_b l_c l_n) (w_L G l0 l1 l2 l3 l_a l_b l_c l_n) 0 0 v := by
  refine wCi.mk (cc := cX1_a) (maxL := 2) (ty := .int) (by decide) rfl (Nat.le_of_ble_eq_true rfl) ?_
  intro p e s m below meth c A ls hx hb hml hr hlocks hts hown hK hA hP hD hl
  have hx : p.tables.exec = Jvm.exec := hx
  have hown : s.vm.findClass RX1 = some m.cls := hown
  have hinX1 : ∀ w ∈ wsX10, w ∈ wsX1_a := by decide +kernel
  have lk9 := hts (.fieldLink RX1 9 "Chamberwright$Lines" "as" "[I") (by decide +kernel)
  have hS : va_S A s.heap s.heap [] := va_S.rf
  have hP : va_P G.1 vwCl (w_L G l0 l1 l2 l3 l_a l_b l_c l_n) s.heap := hP
  have hD : va_D A (w_L G l0 l1 l2 l3 l_a l_b l_c l_n) := hD
  have hl : lv_has ls 2 [(0, .ref l0), (1, .int x1)] := hl
  obtain ⟨args, hargs⟩ : ∃ z : Array Value, z = ([.ref l0, .int x1] : List Value).toArray := ⟨_, rfl⟩
  rw [← hargs]
  rw [← hargs] at hts
  rw [fX1_a.eq_1] at h
  refine lv_aload_n hx hb dX1_a_0 rfl (lv_at hl 0 rfl) ?_
  refine va_get (D := G.1) (ci := 1) (v := .ref l1) (C := RX1) (T := TX1) (N := 4) hx hb hts hinX1 hown hK.1 hP 0 rfl rfl 0 (by decide) lk9 (fun _ h9 => h9) rfl dX1_a_1 ?_
  refine lv_iload_n hx hb dX1_a_4 rfl (lv_at hl 1 rfl) ?_
  refine wiald h hx hb hK hP 1 rfl dX1_a_5 (fun v_40 h => ?_)
  obtain rfl := Option.some.inj h
  exact wri hx hb hr hlocks hP hD hS (Nat.le_of_ble_eq_true rfl) (Nat.le_of_ble_eq_true rfl) rfl dX1_a_6
def fX1_c (N : Nat) (l_c : Nat → Int32) (x1 : Int32) : Option (Int32) := rd l_c 9 x1 (fun v_41 => some v_41)
set_option maxHeartbeats 4000000 in
set_option maxRecDepth 100000 in
theorem kX1_c {l : Launch} {G : wG} (l0 l1 l2 l3 : Nat) (l_a : Nat → Int32) (l_b : Nat → Int32) (l_c : Nat → Int32) (l_n : Int32) (x1 : Int32) (N : Nat) (v : Int32) (h : fX1_c N l_c x1 = some v) : wCi l G yX1_c wsX1_c ({ frames := 0, cells := 0, slots := 0, locals := 0 } : Room) [.ref l0, .int x1] (w_L G l0 l1 l2 l3 l_a l_b l_c l_n) (w_L G l0 l1 l2 l3 l_a l_b l_c l_n) 0 0 v := by
  refine wCi.mk (cc := cX1_c) (maxL := 2) (ty := .int) (by decide) rfl (Nat.le_of_ble_eq_true rfl) ?_
  intro p e s m below meth c A ls hx hb hml hr hlocks hts hown hK hA hP hD hl
  have hx : p.tables.exec = Jvm.exec := hx
  have hown : s.vm.findClass RX1 = some m.cls := hown
  have hinX1 : ∀ w ∈ wsX10, w ∈ wsX1_c := by decide +kernel
  have lk18 := hts (.fieldLink RX1 18 "Chamberwright$Lines" "cs" "[I") (by decide +kernel)
  have hS : va_S A s.heap s.heap [] := va_S.rf
  have hP : va_P G.1 vwCl (w_L G l0 l1 l2 l3 l_a l_b l_c l_n) s.heap := hP
  have hD : va_D A (w_L G l0 l1 l2 l3 l_a l_b l_c l_n) := hD
  have hl : lv_has ls 2 [(0, .ref l0), (1, .int x1)] := hl
  obtain ⟨args, hargs⟩ : ∃ z : Array Value, z = ([.ref l0, .int x1] : List Value).toArray := ⟨_, rfl⟩
  rw [← hargs]
  rw [← hargs] at hts
  rw [fX1_c.eq_1] at h
  refine lv_aload_n hx hb dX1_c_0 rfl (lv_at hl 0 rfl) ?_
  refine va_get (D := G.1) (ci := 1) (v := .ref l3) (C := RX1) (T := TX1) (N := 4) hx hb hts hinX1 hown hK.1 hP 0 rfl rfl 2 (by decide) lk18 (fun _ h9 => h9) rfl dX1_c_1 ?_
  refine lv_iload_n hx hb dX1_c_4 rfl (lv_at hl 1 rfl) ?_
  refine wiald h hx hb hK hP 3 rfl dX1_c_5 (fun v_41 h => ?_)
  obtain rfl := Option.some.inj h
  exact wri hx hb hr hlocks hP hD hS (Nat.le_of_ble_eq_true rfl) (Nat.le_of_ble_eq_true rfl) rfl dX1_c_6
def fX1_remove_b4 (N : Nat) : Nat → Int32 → (Nat → Int32) → (Nat → Int32) → (Nat → Int32) → Int32 → Option ((Nat → Int32) × (Nat → Int32) × (Nat → Int32) × Int32)
  | 0, _, _, _, _, _ => none
  | n + 1, x2, l_a, l_b, l_c, l_n => if l_n ≤ x2 then some (l_a, l_b, l_c, (l_n - 1)) else rd l_a 9 x2 (fun v_43 => ck 9 (x2 - 1) (rd l_b 9 x2 (fun v_44 => ck 9 (x2 - 1) (rd l_c 9 x2 (fun v_45 => ck 9 (x2 - 1) (fX1_remove_b4 N n (x2 + 1) ((upd l_a (Int32.toNatClampNeg (x2 - 1)) v_43)) ((upd l_b (Int32.toNatClampNeg (x2 - 1)) v_44)) ((upd l_c (Int32.toNatClampNeg (x2 - 1)) v_45)) l_n))))))
def fX1_remove (N : Nat) (l_a : Nat → Int32) (l_b : Nat → Int32) (l_c : Nat → Int32) (l_n : Int32) (x1 : Int32) : Option ((Nat → Int32) × (Nat → Int32) × (Nat → Int32) × Int32) := fX1_remove_b4 N N (x1 + 1) l_a l_b l_c l_n
set_option maxHeartbeats 4000000 in
set_option maxRecDepth 100000 in
theorem kX1_remove {l : Launch} {G : wG} (l0 l1 l2 l3 : Nat) (l_a : Nat → Int32) (l_b : Nat → Int32) (l_c : Nat → Int32) (l_n : Int32) (x1 : Int32) (N : Nat) (v : (Nat → Int32) × (Nat → Int32) × (Nat → Int32) × Int32) (h : fX1_remove N l_a l_b l_c l_n x1 = some v) : wCv l G yX1_remove wsX1_remove ({ frames := 0, cells := 0, slots := 0, locals := 0 } : Room) [.ref l0, .int x1] (w_L G l0 l1 l2 l3 l_a l_b l_c l_n) (w_L G l0 l1 l2 l3 v.1 v.2.1 v.2.2.1 v.2.2.2) 0 0 := by
  refine wCv.mk (cc := cX1_remove) (maxL := 3) (by decide) rfl (Nat.le_of_ble_eq_true rfl) ?_
  intro p e s m below meth c A ls hx hb hml hr hlocks hts hown hK hA hP hD hl
  have hx : p.tables.exec = Jvm.exec := hx
  have hown : s.vm.findClass RX1 = some m.cls := hown
  have hinX1 : ∀ w ∈ wsX10, w ∈ wsX1_remove := by decide +kernel
  have lk15 := hts (.fieldLink RX1 15 "Chamberwright$Lines" "bs" "[I") (by decide +kernel)
  have lk18 := hts (.fieldLink RX1 18 "Chamberwright$Lines" "cs" "[I") (by decide +kernel)
  have lk21 := hts (.fieldLink RX1 21 "Chamberwright$Lines" "count" "I") (by decide +kernel)
  have lk9 := hts (.fieldLink RX1 9 "Chamberwright$Lines" "as" "[I") (by decide +kernel)
  have hS : va_S A s.heap s.heap [] := va_S.rf
  have hP : va_P G.1 vwCl (w_L G l0 l1 l2 l3 l_a l_b l_c l_n) s.heap := hP
  have hD : va_D A (w_L G l0 l1 l2 l3 l_a l_b l_c l_n) := hD
  have hl : lv_has ls 3 [(0, .ref l0), (1, .int x1)] := hl
  obtain ⟨args, hargs⟩ : ∃ z : Array Value, z = ([.ref l0, .int x1] : List Value).toArray := ⟨_, rfl⟩
  rw [← hargs]
  rw [← hargs] at hts
  have w_4 : ∀   (_z : Unit), ∀ (n : Nat) (x2 : Int32) (l_a : Nat → Int32) (l_b : Nat → Int32) (l_c : Nat → Int32) (l_n : Int32) (H : Heap) (locs : List Loc) (ls : Array Slot), va_P G.1 vwCl (w_L G l0 l1 l2 l3 l_a l_b l_c l_n) H → va_D A (w_L G l0 l1 l2 l3 l_a l_b l_c l_n) → va_S A s.heap H locs → lv_has ls 3 [(0, .ref l0), (2, .int x2)] → fX1_remove_b4 N n x2 l_a l_b l_c l_n = some v → W p l e ({ frames := 0, cells := 0, slots := 0, locals := 0 } : Room) s m args below meth c H locs 0 0 (wQv G A below args s (w_L G l0 l1 l2 l3 v.1 v.2.1 v.2.2.1 v.2.2.2) 0 0) (F0 m 4 ls []) := by
    intro _z n
    induction n with
    | zero =>
      intro x2 l_a l_b l_c l_n H locs ls hP hD hS hl h
      rw [fX1_remove_b4.eq_1] at h
      cases h
    | succ n ih =>
      intro x2 l_a l_b l_c l_n H locs ls hP hD hS hl h
      rw [fX1_remove_b4.eq_2] at h
      refine lv_iload_n hx hb dX1_remove_4 rfl (lv_at hl 1 rfl) ?_
      refine lv_aload_n hx hb dX1_remove_5 rfl (lv_at hl 0 rfl) ?_
      refine va_get (D := G.1) (ci := 1) (v := .int l_n) (C := RX1) (T := TX1) (N := 4) hx hb hts hinX1 hown hK.1 hP 0 rfl rfl 3 (by decide) lk21 (fun _ h9 => h9) rfl dX1_remove_6 ?_
      refine lv_icmp_ge (tgt := 60) hx hb dX1_remove_9 (by decide) (fun c_42 => ?_) (fun c_42 => ?_)
      · have h := ip c_42 h
        refine lv_aload_n hx hb dX1_remove_60 rfl (lv_at hl 0 rfl) ?_
        refine lv_dup hx hb dX1_remove_61 rfl ?_
        refine va_get (D := G.1) (ci := 1) (v := .int l_n) (C := RX1) (T := TX1) (N := 4) hx hb hts hinX1 hown hK.1 hP 0 rfl rfl 3 (by decide) lk21 (fun _ h9 => h9) rfl dX1_remove_62 ?_
        refine lv_iconst (v := 1) hx hb dX1_remove_65 (by decide) ?_
        refine lv_isub hx hb dX1_remove_66 ?_
        refine va_put (D := G.1) (ci := 1) (v := .int (l_n - 1)) (ty := .int) (C := RX1) (T := TX1) (N := 4) hx hb hts hinX1 tyX1 tyX1_ok nmX1 hown hK.1 hP hD hS 0 rfl rfl 3 (by decide) lk21 (fun _ h9 => h9) rfl (by decide +kernel) rfl rfl (Nat.le_of_ble_eq_true rfl) dX1_remove_67 (fun H locs hP hD hS => ?_)
        have hP : va_P G.1 vwCl (w_L G l0 l1 l2 l3 l_a l_b l_c ((l_n - 1))) H := hP
        have hD : va_D A (w_L G l0 l1 l2 l3 l_a l_b l_c ((l_n - 1))) := hD
        obtain rfl := Option.some.inj h
        exact wrv hx hb hr hlocks hP hD hS (Nat.le_of_ble_eq_true rfl) (Nat.le_of_ble_eq_true rfl) dX1_remove_70
      · have h := iq c_42 h
        refine lv_aload_n hx hb dX1_remove_12 rfl (lv_at hl 0 rfl) ?_
        refine va_get (D := G.1) (ci := 1) (v := .ref l1) (C := RX1) (T := TX1) (N := 4) hx hb hts hinX1 hown hK.1 hP 0 rfl rfl 0 (by decide) lk9 (fun _ h9 => h9) rfl dX1_remove_13 ?_
        refine lv_iload_n hx hb dX1_remove_16 rfl (lv_at hl 1 rfl) ?_
        refine lv_iconst (v := 1) hx hb dX1_remove_17 (by decide) ?_
        refine lv_isub hx hb dX1_remove_18 ?_
        refine lv_aload_n hx hb dX1_remove_19 rfl (lv_at hl 0 rfl) ?_
        refine va_get (D := G.1) (ci := 1) (v := .ref l1) (C := RX1) (T := TX1) (N := 4) hx hb hts hinX1 hown hK.1 hP 0 rfl rfl 0 (by decide) lk9 (fun _ h9 => h9) rfl dX1_remove_20 ?_
        refine lv_iload_n hx hb dX1_remove_23 rfl (lv_at hl 1 rfl) ?_
        refine wiald h hx hb hK hP 1 rfl dX1_remove_24 (fun v_43 h => ?_)
        refine wiast h hx hb hK hP hD hS 1 rfl dX1_remove_25 (fun H locs hP hD hS h => ?_)
        have hP : va_P G.1 vwCl (w_L G l0 l1 l2 l3 ((upd l_a (Int32.toNatClampNeg (x2 - 1)) v_43)) l_b l_c l_n) H := hP
        have hD : va_D A (w_L G l0 l1 l2 l3 ((upd l_a (Int32.toNatClampNeg (x2 - 1)) v_43)) l_b l_c l_n) := hD
        refine lv_aload_n hx hb dX1_remove_26 rfl (lv_at hl 0 rfl) ?_
        refine va_get (D := G.1) (ci := 1) (v := .ref l2) (C := RX1) (T := TX1) (N := 4) hx hb hts hinX1 hown hK.1 hP 0 rfl rfl 1 (by decide) lk15 (fun _ h9 => h9) rfl dX1_remove_27 ?_
        refine lv_iload_n hx hb dX1_remove_30 rfl (lv_at hl 1 rfl) ?_
        refine lv_iconst (v := 1) hx hb dX1_remove_31 (by decide) ?_
        refine lv_isub hx hb dX1_remove_32 ?_
        refine lv_aload_n hx hb dX1_remove_33 rfl (lv_at hl 0 rfl) ?_
        refine va_get (D := G.1) (ci := 1) (v := .ref l2) (C := RX1) (T := TX1) (N := 4) hx hb hts hinX1 hown hK.1 hP 0 rfl rfl 1 (by decide) lk15 (fun _ h9 => h9) rfl dX1_remove_34 ?_
        refine lv_iload_n hx hb dX1_remove_37 rfl (lv_at hl 1 rfl) ?_
        refine wiald h hx hb hK hP 2 rfl dX1_remove_38 (fun v_44 h => ?_)
        refine wiast h hx hb hK hP hD hS 2 rfl dX1_remove_39 (fun H locs hP hD hS h => ?_)
        have hP : va_P G.1 vwCl (w_L G l0 l1 l2 l3 ((upd l_a (Int32.toNatClampNeg (x2 - 1)) v_43)) ((upd l_b (Int32.toNatClampNeg (x2 - 1)) v_44)) l_c l_n) H := hP
        have hD : va_D A (w_L G l0 l1 l2 l3 ((upd l_a (Int32.toNatClampNeg (x2 - 1)) v_43)) ((upd l_b (Int32.toNatClampNeg (x2 - 1)) v_44)) l_c l_n) := hD
        refine lv_aload_n hx hb dX1_remove_40 rfl (lv_at hl 0 rfl) ?_
        refine va_get (D := G.1) (ci := 1) (v := .ref l3) (C := RX1) (T := TX1) (N := 4) hx hb hts hinX1 hown hK.1 hP 0 rfl rfl 2 (by decide) lk18 (fun _ h9 => h9) rfl dX1_remove_41 ?_
        refine lv_iload_n hx hb dX1_remove_44 rfl (lv_at hl 1 rfl) ?_
        refine lv_iconst (v := 1) hx hb dX1_remove_45 (by decide) ?_
        refine lv_isub hx hb dX1_remove_46 ?_
        refine lv_aload_n hx hb dX1_remove_47 rfl (lv_at hl 0 rfl) ?_
        refine va_get (D := G.1) (ci := 1) (v := .ref l3) (C := RX1) (T := TX1) (N := 4) hx hb hts hinX1 hown hK.1 hP 0 rfl rfl 2 (by decide) lk18 (fun _ h9 => h9) rfl dX1_remove_48 ?_
        refine lv_iload_n hx hb dX1_remove_51 rfl (lv_at hl 1 rfl) ?_
        refine wiald h hx hb hK hP 3 rfl dX1_remove_52 (fun v_45 h => ?_)
        refine wiast h hx hb hK hP hD hS 3 rfl dX1_remove_53 (fun H locs hP hD hS h => ?_)
        have hP : va_P G.1 vwCl (w_L G l0 l1 l2 l3 ((upd l_a (Int32.toNatClampNeg (x2 - 1)) v_43)) ((upd l_b (Int32.toNatClampNeg (x2 - 1)) v_44)) ((upd l_c (Int32.toNatClampNeg (x2 - 1)) v_45)) l_n) H := hP
        have hD : va_D A (w_L G l0 l1 l2 l3 ((upd l_a (Int32.toNatClampNeg (x2 - 1)) v_43)) ((upd l_b (Int32.toNatClampNeg (x2 - 1)) v_44)) ((upd l_c (Int32.toNatClampNeg (x2 - 1)) v_45)) l_n) := hD
        refine lv_iinc (v := (x2 + 1)) (lv' := [(2, .int (x2 + 1)), (0, .ref l0)]) hx hb dX1_remove_54 hl (k := 1) rfl rfl (by decide) rfl (fun ls hl => ?_)
        refine lv_goto (tgt := 4) hx hb dX1_remove_57 (by decide) ?_
        exact ih _ _ _ _ _ _ _ _ hP hD hS (lv_sub hl [1, 0] rfl) h
  rw [fX1_remove.eq_1] at h
  refine lv_iload_n hx hb dX1_remove_0 rfl (lv_at hl 1 rfl) ?_
  refine lv_iconst (v := 1) hx hb dX1_remove_1 (by decide) ?_
  refine lv_iadd hx hb dX1_remove_2 ?_
  refine lv_istore_n (lv' := [(2, .int (x1 + 1)), (0, .ref l0), (1, .int x1)]) hx hb dX1_remove_3 rfl hl (by decide) rfl (fun ls hl => ?_)
  exact w_4    ()  N _ _ _ _ _ _ _ _ hP hD hS (lv_sub hl [1, 0] rfl) h
def fX1_isCrossedBefore_b26 (N : Nat) (l_a : Nat → Int32) (l_b : Nat → Int32) (l_c : Nat → Int32) (x2 : Int32) (x3 : Int32) (x4 : Int32) (x5 : Int32) : Nat → Int32 → Option (Int32)
  | 0, _ => none
  | n + 1, x6 => if x2 ≤ x6 then zo 0 (some 0) else bd (fX1_height N l_a l_b l_c x6 x3 x4 x5) (fun u_47 => if u_47 = 0 then zo 1 (some 1) else fX1_isCrossedBefore_b26 N l_a l_b l_c x2 x3 x4 x5 n (x6 + 1))
def fX1_isCrossedBefore (N : Nat) (l_a : Nat → Int32) (l_b : Nat → Int32) (l_c : Nat → Int32) (x1 : Int32) (x2 : Int32) : Option (Int32) := bd (fX1_crossX N l_b l_c x1 x2) (fun u_50 => bd (fX1_crossY N l_a l_c x1 x2) (fun u_52 => bd (fX1_crossD N l_a l_b x1 x2) (fun u_54 => fX1_isCrossedBefore_b26 N l_a l_b l_c x2 u_50 u_52 u_54 N 0)))
set_option maxHeartbeats 4000000 in
set_option maxRecDepth 100000 in
theorem kX1_isCrossedBefore {l : Launch} {G : wG} (l0 l1 l2 l3 : Nat) (l_a : Nat → Int32) (l_b : Nat → Int32) (l_c : Nat → Int32) (l_n : Int32) (x1 : Int32) (x2 : Int32) (N : Nat) (v : Int32) (h : fX1_isCrossedBefore N l_a l_b l_c x1 x2 = some v) : wCi l G yX1_isCrossedBefore wsX1_isCrossedBefore ({ frames := 1, cells := 0, slots := 0, locals := 24 } : Room) [.ref l0, .int x1, .int x2] (w_L G l0 l1 l2 l3 l_a l_b l_c l_n) (w_L G l0 l1 l2 l3 l_a l_b l_c l_n) 0 0 v := by
  refine wCi.mk (cc := cX1_isCrossedBefore) (maxL := 7) (ty := .boolean) (by decide) rfl (Nat.le_of_ble_eq_true rfl) ?_
  intro p e s m below meth c A ls hx hb hml hr hlocks hts hown hK hA hP hD hl
  have hx : p.tables.exec = Jvm.exec := hx
  have hown : s.vm.findClass RX1 = some m.cls := hown
  have hS : va_S A s.heap s.heap [] := va_S.rf
  have hP : va_P G.1 vwCl (w_L G l0 l1 l2 l3 l_a l_b l_c l_n) s.heap := hP
  have hD : va_D A (w_L G l0 l1 l2 l3 l_a l_b l_c l_n) := hD
  have hl : lv_has ls 7 [(0, .ref l0), (1, .int x1), (2, .int x2)] := hl
  obtain ⟨args, hargs⟩ : ∃ z : Array Value, z = ([.ref l0, .int x1, .int x2] : List Value).toArray := ⟨_, rfl⟩
  rw [← hargs]
  rw [← hargs] at hts
  have w_26 : ∀ (x2 : Int32) (x3 : Int32) (x4 : Int32) (x5 : Int32)  (_z : Unit), ∀ (n : Nat) (x6 : Int32)  (H : Heap) (locs : List Loc) (ls : Array Slot), va_P G.1 vwCl (w_L G l0 l1 l2 l3 l_a l_b l_c l_n) H → va_D A (w_L G l0 l1 l2 l3 l_a l_b l_c l_n) → va_S A s.heap H locs → lv_has ls 7 [(0, .ref l0), (2, .int x2), (3, .int x3), (4, .int x4), (5, .int x5), (6, .int x6)] → fX1_isCrossedBefore_b26 N l_a l_b l_c x2 x3 x4 x5 n x6 = some v → W p l e ({ frames := 1, cells := 0, slots := 0, locals := 24 } : Room) s m args below meth c H locs 0 0 (wQi G A below args s (w_L G l0 l1 l2 l3 l_a l_b l_c l_n) 0 0 v) (F0 m 26 ls []) := by
    intro x2 x3 x4 x5 _z n
    induction n with
    | zero =>
      intro x6 H locs ls hP hD hS hl h
      rw [fX1_isCrossedBefore_b26.eq_1] at h
      cases h
    | succ n ih =>
      intro x6 H locs ls hP hD hS hl h
      rw [fX1_isCrossedBefore_b26.eq_2] at h
      refine lv_iload hx hb dX1_isCrossedBefore_26 (lv_at hl 5 rfl) ?_
      refine lv_iload_n hx hb dX1_isCrossedBefore_28 rfl (lv_at hl 1 rfl) ?_
      refine lv_icmp_ge (tgt := 54) hx hb dX1_isCrossedBefore_29 (by decide) (fun c_46 => ?_) (fun c_46 => ?_)
      · have h := ip c_46 h
        refine lv_iconst (v := 0) hx hb dX1_isCrossedBefore_54 (by decide) ?_
        obtain ⟨hz, h⟩ := zo_inv h
        obtain rfl := Option.some.inj h
        exact wrz hx hb hr hlocks hP hD hS (Nat.le_of_ble_eq_true rfl) (Nat.le_of_ble_eq_true rfl) hz rfl dX1_isCrossedBefore_55
      · have h := iq c_46 h
        refine lv_aload_n hx hb dX1_isCrossedBefore_32 rfl (lv_at hl 0 rfl) ?_
        refine lv_iload hx hb dX1_isCrossedBefore_33 (lv_at hl 5 rfl) ?_
        refine lv_iload_n hx hb dX1_isCrossedBefore_35 rfl (lv_at hl 2 rfl) ?_
        refine lv_iload hx hb dX1_isCrossedBefore_36 (lv_at hl 3 rfl) ?_
        refine lv_iload hx hb dX1_isCrossedBefore_38 (lv_at hl 4 rfl) ?_
        obtain ⟨u_47, hc_48, h⟩ := bd_inv h
        refine wafter_i (wr := []) (w2 := (w_L G l0 l1 l2 l3 l_a l_b l_c l_n)) (va_runV (As := [.int x6, .int x3, .int x4, .int x5]) (rest := []) ⟨hx, hb, hml, hown, hts⟩ (kX1_height (l := l) (G := G) l0 l1 l2 l3 l_a l_b l_c l_n x6 x3 x4 x5 N u_47 hc_48 _) (cwV 4 hts gX1_isCrossedBefore_X1_height rfl rfl rfl (by decide +kernel) ⟨Nat.le_of_ble_eq_true rfl, Nat.le_of_ble_eq_true rfl⟩) (wPreV hP hD hK [0, 1, 2, 3] rfl rfl (ci := 1) (qb := 0) rfl rfl rfl) rfl rfl hl.1 rfl (lv_room (Nat.le_of_ble_eq_true rfl)) dX1_isCrossedBefore_40 ⟨Nat.zero_le _, Nat.zero_le _⟩) hP hD hS hA [0, 1, 2, 3] [] [0, 1, 2, 3] rfl rfl rfl (by decide) rfl rfl (fun H locs hP hD hS => ?_)
        refine lv_if_ne (tgt := 48) hx hb dX1_isCrossedBefore_43 (by decide) (fun c_49 => ?_) (fun c_49 => ?_)
        · have h := iq c_49 h
          refine lv_iinc (v := (x6 + 1)) (lv' := [(6, .int (x6 + 1)), (0, .ref l0), (2, .int x2), (3, .int x3), (4, .int x4), (5, .int x5)]) hx hb dX1_isCrossedBefore_48 hl (k := 5) rfl rfl (by decide) rfl (fun ls hl => ?_)
          refine lv_goto (tgt := 26) hx hb dX1_isCrossedBefore_51 (by decide) ?_
          exact ih _ _ _ _ hP hD hS (lv_sub hl [1, 2, 3, 4, 5, 0] rfl) h
        · have h := ip c_49 h
          refine lv_iconst (v := 1) hx hb dX1_isCrossedBefore_46 (by decide) ?_
          obtain ⟨hz, h⟩ := zo_inv h
          obtain rfl := Option.some.inj h
          exact wrz hx hb hr hlocks hP hD hS (Nat.le_of_ble_eq_true rfl) (Nat.le_of_ble_eq_true rfl) hz rfl dX1_isCrossedBefore_47
  rw [fX1_isCrossedBefore.eq_1] at h
  refine lv_aload_n hx hb dX1_isCrossedBefore_0 rfl (lv_at hl 0 rfl) ?_
  refine lv_iload_n hx hb dX1_isCrossedBefore_1 rfl (lv_at hl 1 rfl) ?_
  refine lv_iload_n hx hb dX1_isCrossedBefore_2 rfl (lv_at hl 2 rfl) ?_
  obtain ⟨u_50, hc_51, h⟩ := bd_inv h
  refine wafter_i (wr := []) (w2 := (w_L G l0 l1 l2 l3 l_a l_b l_c l_n)) (va_runV (As := [.int x1, .int x2]) (rest := []) ⟨hx, hb, hml, hown, hts⟩ (kX1_crossX (l := l) (G := G) l0 l1 l2 l3 l_a l_b l_c l_n x1 x2 N u_50 hc_51 _) (cwV 2 hts gX1_isCrossedBefore_X1_crossX rfl rfl rfl (by decide +kernel) ⟨Nat.le_of_ble_eq_true rfl, Nat.le_of_ble_eq_true rfl⟩) (wPreV hP hD hK [0, 1, 2, 3] rfl rfl (ci := 1) (qb := 0) rfl rfl rfl) rfl rfl hl.1 rfl (lv_room (Nat.le_of_ble_eq_true rfl)) dX1_isCrossedBefore_3 ⟨Nat.zero_le _, Nat.zero_le _⟩) hP hD hS hA [0, 1, 2, 3] [] [0, 1, 2, 3] rfl rfl rfl (by decide) rfl rfl (fun H locs hP hD hS => ?_)
  refine lv_istore_n (lv' := [(3, .int u_50), (0, .ref l0), (1, .int x1), (2, .int x2)]) hx hb dX1_isCrossedBefore_6 rfl hl (by decide) rfl (fun ls hl => ?_)
  refine lv_aload_n hx hb dX1_isCrossedBefore_7 rfl (lv_at hl 1 rfl) ?_
  refine lv_iload_n hx hb dX1_isCrossedBefore_8 rfl (lv_at hl 2 rfl) ?_
  refine lv_iload_n hx hb dX1_isCrossedBefore_9 rfl (lv_at hl 3 rfl) ?_
  obtain ⟨u_52, hc_53, h⟩ := bd_inv h
  refine wafter_i (wr := []) (w2 := (w_L G l0 l1 l2 l3 l_a l_b l_c l_n)) (va_runV (As := [.int x1, .int x2]) (rest := []) ⟨hx, hb, hml, hown, hts⟩ (kX1_crossY (l := l) (G := G) l0 l1 l2 l3 l_a l_b l_c l_n x1 x2 N u_52 hc_53 _) (cwV 2 hts gX1_isCrossedBefore_X1_crossY rfl rfl rfl (by decide +kernel) ⟨Nat.le_of_ble_eq_true rfl, Nat.le_of_ble_eq_true rfl⟩) (wPreV hP hD hK [0, 1, 2, 3] rfl rfl (ci := 1) (qb := 0) rfl rfl rfl) rfl rfl hl.1 rfl (lv_room (Nat.le_of_ble_eq_true rfl)) dX1_isCrossedBefore_10 ⟨Nat.zero_le _, Nat.zero_le _⟩) hP hD hS hA [0, 1, 2, 3] [] [0, 1, 2, 3] rfl rfl rfl (by decide) rfl rfl (fun H locs hP hD hS => ?_)
  refine lv_istore (lv' := [(4, .int u_52), (3, .int u_50), (0, .ref l0), (1, .int x1), (2, .int x2)]) hx hb dX1_isCrossedBefore_13 hl (by decide) rfl (fun ls hl => ?_)
  refine lv_aload_n hx hb dX1_isCrossedBefore_15 rfl (lv_at hl 2 rfl) ?_
  refine lv_iload_n hx hb dX1_isCrossedBefore_16 rfl (lv_at hl 3 rfl) ?_
  refine lv_iload_n hx hb dX1_isCrossedBefore_17 rfl (lv_at hl 4 rfl) ?_
  obtain ⟨u_54, hc_55, h⟩ := bd_inv h
  refine wafter_i (wr := []) (w2 := (w_L G l0 l1 l2 l3 l_a l_b l_c l_n)) (va_runV (As := [.int x1, .int x2]) (rest := []) ⟨hx, hb, hml, hown, hts⟩ (kX1_crossD (l := l) (G := G) l0 l1 l2 l3 l_a l_b l_c l_n x1 x2 N u_54 hc_55 _) (cwV 2 hts gX1_isCrossedBefore_X1_crossD rfl rfl rfl (by decide +kernel) ⟨Nat.le_of_ble_eq_true rfl, Nat.le_of_ble_eq_true rfl⟩) (wPreV hP hD hK [0, 1, 2, 3] rfl rfl (ci := 1) (qb := 0) rfl rfl rfl) rfl rfl hl.1 rfl (lv_room (Nat.le_of_ble_eq_true rfl)) dX1_isCrossedBefore_18 ⟨Nat.zero_le _, Nat.zero_le _⟩) hP hD hS hA [0, 1, 2, 3] [] [0, 1, 2, 3] rfl rfl rfl (by decide) rfl rfl (fun H locs hP hD hS => ?_)
  refine lv_istore (lv' := [(5, .int u_54), (4, .int u_52), (3, .int u_50), (0, .ref l0), (1, .int x1), (2, .int x2)]) hx hb dX1_isCrossedBefore_21 hl (by decide) rfl (fun ls hl => ?_)
  refine lv_iconst (v := 0) hx hb dX1_isCrossedBefore_23 (by decide) ?_
  refine lv_istore (lv' := [(6, .int 0), (5, .int u_54), (4, .int u_52), (3, .int u_50), (0, .ref l0), (1, .int x1), (2, .int x2)]) hx hb dX1_isCrossedBefore_24 hl (by decide) rfl (fun ls hl => ?_)
  exact w_26  _ _ _ _  ()  N _  _ _ _ hP hD hS (lv_sub hl [4, 6, 3, 2, 1, 0] rfl) h
def fX1_pointsOnLowerOnes_b4 (N : Nat) (l_a : Nat → Int32) (l_b : Nat → Int32) (l_c : Nat → Int32) (x1 : Int32) : Nat → Int32 → Int32 → Option (Int32)
  | 0, _, _ => none
  | n + 1, x2, x3 => if x1 ≤ x3 then some x2 else bd (fX1_crossD N l_a l_b x1 x3) (fun u_57 => if u_57 = 0 then fX1_pointsOnLowerOnes_b4 N l_a l_b l_c x1 n x2 (x3 + 1) else bd (fX1_isCrossedBefore N l_a l_b l_c x1 x3) (fun u_60 => if u_60 = 0 then fX1_pointsOnLowerOnes_b4 N l_a l_b l_c x1 n (x2 + 1) (x3 + 1) else fX1_pointsOnLowerOnes_b4 N l_a l_b l_c x1 n x2 (x3 + 1)))
def fX1_pointsOnLowerOnes (N : Nat) (l_a : Nat → Int32) (l_b : Nat → Int32) (l_c : Nat → Int32) (x1 : Int32) : Option (Int32) := fX1_pointsOnLowerOnes_b4 N l_a l_b l_c x1 N 0 0
set_option maxHeartbeats 4000000 in
set_option maxRecDepth 100000 in
theorem kX1_pointsOnLowerOnes {l : Launch} {G : wG} (l0 l1 l2 l3 : Nat) (l_a : Nat → Int32) (l_b : Nat → Int32) (l_c : Nat → Int32) (l_n : Int32) (x1 : Int32) (N : Nat) (v : Int32) (h : fX1_pointsOnLowerOnes N l_a l_b l_c x1 = some v) : wCi l G yX1_pointsOnLowerOnes wsX1_pointsOnLowerOnes ({ frames := 2, cells := 0, slots := 0, locals := 50 } : Room) [.ref l0, .int x1] (w_L G l0 l1 l2 l3 l_a l_b l_c l_n) (w_L G l0 l1 l2 l3 l_a l_b l_c l_n) 0 0 v := by
  refine wCi.mk (cc := cX1_pointsOnLowerOnes) (maxL := 4) (ty := .int) (by decide) rfl (Nat.le_of_ble_eq_true rfl) ?_
  intro p e s m below meth c A ls hx hb hml hr hlocks hts hown hK hA hP hD hl
  have hx : p.tables.exec = Jvm.exec := hx
  have hown : s.vm.findClass RX1 = some m.cls := hown
  have hS : va_S A s.heap s.heap [] := va_S.rf
  have hP : va_P G.1 vwCl (w_L G l0 l1 l2 l3 l_a l_b l_c l_n) s.heap := hP
  have hD : va_D A (w_L G l0 l1 l2 l3 l_a l_b l_c l_n) := hD
  have hl : lv_has ls 4 [(0, .ref l0), (1, .int x1)] := hl
  obtain ⟨args, hargs⟩ : ∃ z : Array Value, z = ([.ref l0, .int x1] : List Value).toArray := ⟨_, rfl⟩
  rw [← hargs]
  rw [← hargs] at hts
  have w_4 : ∀ (x1 : Int32)  (_z : Unit), ∀ (n : Nat) (x2 : Int32) (x3 : Int32)  (H : Heap) (locs : List Loc) (ls : Array Slot), va_P G.1 vwCl (w_L G l0 l1 l2 l3 l_a l_b l_c l_n) H → va_D A (w_L G l0 l1 l2 l3 l_a l_b l_c l_n) → va_S A s.heap H locs → lv_has ls 4 [(0, .ref l0), (1, .int x1), (2, .int x2), (3, .int x3)] → fX1_pointsOnLowerOnes_b4 N l_a l_b l_c x1 n x2 x3 = some v → W p l e ({ frames := 2, cells := 0, slots := 0, locals := 50 } : Room) s m args below meth c H locs 0 0 (wQi G A below args s (w_L G l0 l1 l2 l3 l_a l_b l_c l_n) 0 0 v) (F0 m 4 ls []) := by
    intro x1 _z n
    induction n with
    | zero =>
      intro x2 x3 H locs ls hP hD hS hl h
      rw [fX1_pointsOnLowerOnes_b4.eq_1] at h
      cases h
    | succ n ih =>
      intro x2 x3 H locs ls hP hD hS hl h
      rw [fX1_pointsOnLowerOnes_b4.eq_2] at h
      refine lv_iload_n hx hb dX1_pointsOnLowerOnes_4 rfl (lv_at hl 3 rfl) ?_
      refine lv_iload_n hx hb dX1_pointsOnLowerOnes_5 rfl (lv_at hl 1 rfl) ?_
      refine lv_icmp_ge (tgt := 36) hx hb dX1_pointsOnLowerOnes_6 (by decide) (fun c_56 => ?_) (fun c_56 => ?_)
      · have h := ip c_56 h
        refine lv_iload_n hx hb dX1_pointsOnLowerOnes_36 rfl (lv_at hl 2 rfl) ?_
        obtain rfl := Option.some.inj h
        exact wri hx hb hr hlocks hP hD hS (Nat.le_of_ble_eq_true rfl) (Nat.le_of_ble_eq_true rfl) rfl dX1_pointsOnLowerOnes_37
      · have h := iq c_56 h
        refine lv_aload_n hx hb dX1_pointsOnLowerOnes_9 rfl (lv_at hl 0 rfl) ?_
        refine lv_iload_n hx hb dX1_pointsOnLowerOnes_10 rfl (lv_at hl 1 rfl) ?_
        refine lv_iload_n hx hb dX1_pointsOnLowerOnes_11 rfl (lv_at hl 3 rfl) ?_
        obtain ⟨u_57, hc_58, h⟩ := bd_inv h
        refine wafter_i (wr := []) (w2 := (w_L G l0 l1 l2 l3 l_a l_b l_c l_n)) (va_runV (As := [.int x1, .int x3]) (rest := []) ⟨hx, hb, hml, hown, hts⟩ (kX1_crossD (l := l) (G := G) l0 l1 l2 l3 l_a l_b l_c l_n x1 x3 N u_57 hc_58 _) (cwV 2 hts gX1_pointsOnLowerOnes_X1_crossD rfl rfl rfl (by decide +kernel) ⟨Nat.le_of_ble_eq_true rfl, Nat.le_of_ble_eq_true rfl⟩) (wPreV hP hD hK [0, 1, 2, 3] rfl rfl (ci := 1) (qb := 0) rfl rfl rfl) rfl rfl hl.1 rfl (lv_room (Nat.le_of_ble_eq_true rfl)) dX1_pointsOnLowerOnes_12 ⟨Nat.zero_le _, Nat.zero_le _⟩) hP hD hS hA [0, 1, 2, 3] [] [0, 1, 2, 3] rfl rfl rfl (by decide) rfl rfl (fun H locs hP hD hS => ?_)
        refine lv_if_eq (tgt := 30) hx hb dX1_pointsOnLowerOnes_15 (by decide) (fun c_59 => ?_) (fun c_59 => ?_)
        · have h := ip c_59 h
          refine lv_iinc (v := (x3 + 1)) (lv' := [(3, .int (x3 + 1)), (0, .ref l0), (1, .int x1), (2, .int x2)]) hx hb dX1_pointsOnLowerOnes_30 hl (k := 3) rfl rfl (by decide) rfl (fun ls hl => ?_)
          refine lv_goto (tgt := 4) hx hb dX1_pointsOnLowerOnes_33 (by decide) ?_
          exact ih _ _ _ _ _ hP hD hS (lv_sub hl [1, 2, 3, 0] rfl) h
        · have h := iq c_59 h
          refine lv_aload_n hx hb dX1_pointsOnLowerOnes_18 rfl (lv_at hl 0 rfl) ?_
          refine lv_iload_n hx hb dX1_pointsOnLowerOnes_19 rfl (lv_at hl 1 rfl) ?_
          refine lv_iload_n hx hb dX1_pointsOnLowerOnes_20 rfl (lv_at hl 3 rfl) ?_
          obtain ⟨u_60, hc_61, h⟩ := bd_inv h
          refine wafter_i (wr := []) (w2 := (w_L G l0 l1 l2 l3 l_a l_b l_c l_n)) (va_runV (As := [.int x1, .int x3]) (rest := []) ⟨hx, hb, hml, hown, hts⟩ (kX1_isCrossedBefore (l := l) (G := G) l0 l1 l2 l3 l_a l_b l_c l_n x1 x3 N u_60 hc_61 _) (cwV 2 hts gX1_pointsOnLowerOnes_X1_isCrossedBefore rfl rfl rfl (by decide +kernel) ⟨Nat.le_of_ble_eq_true rfl, Nat.le_of_ble_eq_true rfl⟩) (wPreV hP hD hK [0, 1, 2, 3] rfl rfl (ci := 1) (qb := 0) rfl rfl rfl) rfl rfl hl.1 rfl (lv_room (Nat.le_of_ble_eq_true rfl)) dX1_pointsOnLowerOnes_21 ⟨Nat.zero_le _, Nat.zero_le _⟩) hP hD hS hA [0, 1, 2, 3] [] [0, 1, 2, 3] rfl rfl rfl (by decide) rfl rfl (fun H locs hP hD hS => ?_)
          refine lv_if_ne (tgt := 30) hx hb dX1_pointsOnLowerOnes_24 (by decide) (fun c_62 => ?_) (fun c_62 => ?_)
          · have h := iq c_62 h
            refine lv_iinc (v := (x3 + 1)) (lv' := [(3, .int (x3 + 1)), (0, .ref l0), (1, .int x1), (2, .int x2)]) hx hb dX1_pointsOnLowerOnes_30 hl (k := 3) rfl rfl (by decide) rfl (fun ls hl => ?_)
            refine lv_goto (tgt := 4) hx hb dX1_pointsOnLowerOnes_33 (by decide) ?_
            exact ih _ _ _ _ _ hP hD hS (lv_sub hl [1, 2, 3, 0] rfl) h
          · have h := ip c_62 h
            refine lv_iinc (v := (x2 + 1)) (lv' := [(2, .int (x2 + 1)), (0, .ref l0), (1, .int x1), (3, .int x3)]) hx hb dX1_pointsOnLowerOnes_27 hl (k := 2) rfl rfl (by decide) rfl (fun ls hl => ?_)
            refine lv_iinc (v := (x3 + 1)) (lv' := [(3, .int (x3 + 1)), (2, .int (x2 + 1)), (0, .ref l0), (1, .int x1)]) hx hb dX1_pointsOnLowerOnes_30 hl (k := 3) rfl rfl (by decide) rfl (fun ls hl => ?_)
            refine lv_goto (tgt := 4) hx hb dX1_pointsOnLowerOnes_33 (by decide) ?_
            exact ih _ _ _ _ _ hP hD hS (lv_sub hl [2, 3, 1, 0] rfl) h
  rw [fX1_pointsOnLowerOnes.eq_1] at h
  refine lv_iconst (v := 0) hx hb dX1_pointsOnLowerOnes_0 (by decide) ?_
  refine lv_istore_n (lv' := [(2, .int 0), (0, .ref l0), (1, .int x1)]) hx hb dX1_pointsOnLowerOnes_1 rfl hl (by decide) rfl (fun ls hl => ?_)
  refine lv_iconst (v := 0) hx hb dX1_pointsOnLowerOnes_2 (by decide) ?_
  refine lv_istore_n (lv' := [(3, .int 0), (2, .int 0), (0, .ref l0), (1, .int x1)]) hx hb dX1_pointsOnLowerOnes_3 rfl hl (by decide) rfl (fun ls hl => ?_)
  exact w_4  _  ()  N _ _  _ _ _ hP hD hS (lv_sub hl [2, 3, 1, 0] rfl) h
def fX1_staysIn_b3 (N : Nat) (l_a : Nat → Int32) (l_b : Nat → Int32) (l_n : Int32) (x1 : Int32) (x2 : Int32) (x3 : Int32) (k_47 : Option (Int32)) : Nat → Int32 → Option (Int32)
  | 0, _ => none
  | n + 1, x4 => if l_n ≤ x4 then zo 1 (some 1) else rd l_a 9 x4 (fun v_64 => rd l_b 9 x4 (fun v_65 => nm ((v_64 * x2) + (v_65 * x3)) (fun x5_66 => bd (fX4_isIn N x1 x4) (fun u_67 => if u_67 = 0 then if x5_66 ≤ 0 then fX1_staysIn_b3 N l_a l_b l_n x1 x2 x3 k_47 n (x4 + 1) else zo 0 (some 0) else if 0 ≤ x5_66 then fX1_staysIn_b3 N l_a l_b l_n x1 x2 x3 k_47 n (x4 + 1) else k_47))))
def fX1_staysIn (N : Nat) (l_a : Nat → Int32) (l_b : Nat → Int32) (l_n : Int32) (x1 : Int32) (x2 : Int32) (x3 : Int32) : Option (Int32) := fX1_staysIn_b3 N l_a l_b l_n x1 x2 x3 (zo 0 (some 0)) N 0
set_option maxHeartbeats 4000000 in
set_option maxRecDepth 100000 in
theorem kX1_staysIn {l : Launch} {G : wG} (l0 l1 l2 l3 : Nat) (l_a : Nat → Int32) (l_b : Nat → Int32) (l_c : Nat → Int32) (l_n : Int32) (x1 : Int32) (x2 : Int32) (x3 : Int32) (N : Nat) (v : Int32) (h : fX1_staysIn N l_a l_b l_n x1 x2 x3 = some v) : wCi l G yX1_staysIn wsX1_staysIn ({ frames := 2, cells := 0, slots := 0, locals := 41 } : Room) [.ref l0, .int x1, .int x2, .int x3] (w_L G l0 l1 l2 l3 l_a l_b l_c l_n) (w_L G l0 l1 l2 l3 l_a l_b l_c l_n) 0 0 v := by
  refine wCi.mk (cc := cX1_staysIn) (maxL := 6) (ty := .boolean) (by decide) rfl (Nat.le_of_ble_eq_true rfl) ?_
  intro p e s m below meth c A ls hx hb hml hr hlocks hts hown hK hA hP hD hl
  have hx : p.tables.exec = Jvm.exec := hx
  have hown : s.vm.findClass RX1 = some m.cls := hown
  have hinX1 : ∀ w ∈ wsX10, w ∈ wsX1_staysIn := by decide +kernel
  have lk15 := hts (.fieldLink RX1 15 "Chamberwright$Lines" "bs" "[I") (by decide +kernel)
  have lk21 := hts (.fieldLink RX1 21 "Chamberwright$Lines" "count" "I") (by decide +kernel)
  have lk9 := hts (.fieldLink RX1 9 "Chamberwright$Lines" "as" "[I") (by decide +kernel)
  have hS : va_S A s.heap s.heap [] := va_S.rf
  have hP : va_P G.1 vwCl (w_L G l0 l1 l2 l3 l_a l_b l_c l_n) s.heap := hP
  have hD : va_D A (w_L G l0 l1 l2 l3 l_a l_b l_c l_n) := hD
  have hl : lv_has ls 6 [(0, .ref l0), (1, .int x1), (2, .int x2), (3, .int x3)] := hl
  obtain ⟨args, hargs⟩ : ∃ z : Array Value, z = ([.ref l0, .int x1, .int x2, .int x3] : List Value).toArray := ⟨_, rfl⟩
  rw [← hargs]
  rw [← hargs] at hts
  have w_3 : ∀ (k_47 : Option (Int32)) (x1 : Int32) (x2 : Int32) (x3 : Int32)  (_z : Unit), (∀  (H : Heap) (locs : List Loc) (ls : Array Slot), va_P G.1 vwCl (w_L G l0 l1 l2 l3 l_a l_b l_c l_n) H → va_D A (w_L G l0 l1 l2 l3 l_a l_b l_c l_n) → va_S A s.heap H locs → lv_has ls 6 [] → k_47 = some v → W p l e ({ frames := 2, cells := 0, slots := 0, locals := 41 } : Room) s m args below meth c H locs 0 0 (wQi G A below args s (w_L G l0 l1 l2 l3 l_a l_b l_c l_n) 0 0 v) (F0 m 47 ls [])) → ∀ (n : Nat) (x4 : Int32)  (H : Heap) (locs : List Loc) (ls : Array Slot), va_P G.1 vwCl (w_L G l0 l1 l2 l3 l_a l_b l_c l_n) H → va_D A (w_L G l0 l1 l2 l3 l_a l_b l_c l_n) → va_S A s.heap H locs → lv_has ls 6 [(0, .ref l0), (1, .int x1), (2, .int x2), (3, .int x3), (4, .int x4)] → fX1_staysIn_b3 N l_a l_b l_n x1 x2 x3 k_47 n x4 = some v → W p l e ({ frames := 2, cells := 0, slots := 0, locals := 41 } : Room) s m args below meth c H locs 0 0 (wQi G A below args s (w_L G l0 l1 l2 l3 l_a l_b l_c l_n) 0 0 v) (F0 m 3 ls []) := by
    intro k_47 x1 x2 x3 _z hk_47 n
    induction n with
    | zero =>
      intro x4 H locs ls hP hD hS hl h
      rw [fX1_staysIn_b3.eq_1] at h
      cases h
    | succ n ih =>
      intro x4 H locs ls hP hD hS hl h
      rw [fX1_staysIn_b3.eq_2] at h
      refine lv_iload hx hb dX1_staysIn_3 (lv_at hl 4 rfl) ?_
      refine lv_aload_n hx hb dX1_staysIn_5 rfl (lv_at hl 0 rfl) ?_
      refine va_get (D := G.1) (ci := 1) (v := .int l_n) (C := RX1) (T := TX1) (N := 4) hx hb hts hinX1 hown hK.1 hP 0 rfl rfl 3 (by decide) lk21 (fun _ h9 => h9) rfl dX1_staysIn_6 ?_
      refine lv_icmp_ge (tgt := 63) hx hb dX1_staysIn_9 (by decide) (fun c_63 => ?_) (fun c_63 => ?_)
      · have h := ip c_63 h
        refine lv_iconst (v := 1) hx hb dX1_staysIn_63 (by decide) ?_
        obtain ⟨hz, h⟩ := zo_inv h
        obtain rfl := Option.some.inj h
        exact wrz hx hb hr hlocks hP hD hS (Nat.le_of_ble_eq_true rfl) (Nat.le_of_ble_eq_true rfl) hz rfl dX1_staysIn_64
      · have h := iq c_63 h
        refine lv_aload_n hx hb dX1_staysIn_12 rfl (lv_at hl 0 rfl) ?_
        refine va_get (D := G.1) (ci := 1) (v := .ref l1) (C := RX1) (T := TX1) (N := 4) hx hb hts hinX1 hown hK.1 hP 0 rfl rfl 0 (by decide) lk9 (fun _ h9 => h9) rfl dX1_staysIn_13 ?_
        refine lv_iload hx hb dX1_staysIn_16 (lv_at hl 4 rfl) ?_
        refine wiald h hx hb hK hP 1 rfl dX1_staysIn_18 (fun v_64 h => ?_)
        refine lv_iload_n hx hb dX1_staysIn_19 rfl (lv_at hl 2 rfl) ?_
        refine lv_imul hx hb dX1_staysIn_20 ?_
        refine lv_aload_n hx hb dX1_staysIn_21 rfl (lv_at hl 0 rfl) ?_
        refine va_get (D := G.1) (ci := 1) (v := .ref l2) (C := RX1) (T := TX1) (N := 4) hx hb hts hinX1 hown hK.1 hP 0 rfl rfl 1 (by decide) lk15 (fun _ h9 => h9) rfl dX1_staysIn_22 ?_
        refine lv_iload hx hb dX1_staysIn_25 (lv_at hl 4 rfl) ?_
        refine wiald h hx hb hK hP 2 rfl dX1_staysIn_27 (fun v_65 h => ?_)
        refine lv_iload_n hx hb dX1_staysIn_28 rfl (lv_at hl 3 rfl) ?_
        refine lv_imul hx hb dX1_staysIn_29 ?_
        refine lv_iadd hx hb dX1_staysIn_30 ?_
        refine wnmi h (fun x5_66 h => ?_)
        refine lv_istore (lv' := [(5, .int x5_66), (0, .ref l0), (1, .int x1), (2, .int x2), (3, .int x3), (4, .int x4)]) hx hb dX1_staysIn_31 hl (by decide) rfl (fun ls hl => ?_)
        refine lv_iload_n hx hb dX1_staysIn_33 rfl (lv_at hl 2 rfl) ?_
        refine lv_iload hx hb dX1_staysIn_34 (lv_at hl 5 rfl) ?_
        obtain ⟨u_67, hc_68, h⟩ := bd_inv h
        refine wafter_i (wr := (w_L G l0 l1 l2 l3 l_a l_b l_c l_n)) (w2 := (w_L G l0 l1 l2 l3 l_a l_b l_c l_n)) (va_runSN (As := [.int x1, .int x4]) (rest := []) ⟨hx, hb, hml, hown, hts⟩ (kX4_isIn (l := l) (G := G)   x1 x4 N u_67 hc_68 _) ⟨va_cnB 2 hts gX1_staysIn_X4_isIn_n55 rfl rfl rfl (hK.2 (.methodLinkNest RX1 55 yX4_isIn RX4) (by simp [wNest])) (hts (.initialized RX4) (by decide +kernel)) (by decide +kernel) ⟨Nat.le_of_ble_eq_true rfl, Nat.le_of_ble_eq_true rfl⟩, hts (.static yX4_isIn) (by decide +kernel), trivial⟩ (wPreS hP hD hK [] rfl rfl) rfl rfl hl.1 rfl (lv_room (Nat.le_of_ble_eq_true rfl)) dX1_staysIn_36 ⟨Nat.zero_le _, Nat.zero_le _⟩) hP hD hS hA [] [0, 1, 2, 3] [0, 1, 2, 3] rfl rfl rfl (by decide) rfl rfl (fun H locs hP hD hS => ?_)
        refine lv_if_eq (tgt := 50) hx hb dX1_staysIn_39 (by decide) (fun c_69 => ?_) (fun c_69 => ?_)
        · have h := ip c_69 h
          refine lv_iload hx hb dX1_staysIn_50 (lv_at hl 0 rfl) ?_
          refine lv_if_le (tgt := 57) hx hb dX1_staysIn_52 (by decide) (fun c_70 => ?_) (fun c_70 => ?_)
          · have h := ip c_70 h
            refine lv_iinc (v := (x4 + 1)) (lv' := [(4, .int (x4 + 1)), (5, .int x5_66), (0, .ref l0), (1, .int x1), (2, .int x2), (3, .int x3)]) hx hb dX1_staysIn_57 hl (k := 5) rfl rfl (by decide) rfl (fun ls hl => ?_)
            refine lv_goto (tgt := 3) hx hb dX1_staysIn_60 (by decide) ?_
            exact ih _ _ _ _ hP hD hS (lv_sub hl [2, 3, 4, 5, 0] rfl) h
          · have h := iq c_70 h
            refine lv_iconst (v := 0) hx hb dX1_staysIn_55 (by decide) ?_
            obtain ⟨hz, h⟩ := zo_inv h
            obtain rfl := Option.some.inj h
            exact wrz hx hb hr hlocks hP hD hS (Nat.le_of_ble_eq_true rfl) (Nat.le_of_ble_eq_true rfl) hz rfl dX1_staysIn_56
        · have h := iq c_69 h
          refine lv_iload hx hb dX1_staysIn_42 (lv_at hl 0 rfl) ?_
          refine lv_if_ge (tgt := 57) hx hb dX1_staysIn_44 (by decide) (fun c_71 => ?_) (fun c_71 => ?_)
          · have h := ip c_71 h
            refine lv_iinc (v := (x4 + 1)) (lv' := [(4, .int (x4 + 1)), (5, .int x5_66), (0, .ref l0), (1, .int x1), (2, .int x2), (3, .int x3)]) hx hb dX1_staysIn_57 hl (k := 5) rfl rfl (by decide) rfl (fun ls hl => ?_)
            refine lv_goto (tgt := 3) hx hb dX1_staysIn_60 (by decide) ?_
            exact ih _ _ _ _ hP hD hS (lv_sub hl [2, 3, 4, 5, 0] rfl) h
          · have h := iq c_71 h
            exact hk_47  _ _ _ hP hD hS (lv_sub hl [] rfl) h
  rw [fX1_staysIn.eq_1] at h
  refine lv_iconst (v := 0) hx hb dX1_staysIn_0 (by decide) ?_
  refine lv_istore (lv' := [(4, .int 0), (0, .ref l0), (1, .int x1), (2, .int x2), (3, .int x3)]) hx hb dX1_staysIn_1 hl (by decide) rfl (fun ls hl => ?_)
  refine w_3 _ _ _ _  () (fun  H locs ls hP hD hS hl h => ?_) N _  _ _ _ hP hD hS (lv_sub hl [1, 2, 3, 4, 0] rfl) h
  refine lv_goto (tgt := 55) hx hb dX1_staysIn_47 (by decide) ?_
  refine lv_iconst (v := 0) hx hb dX1_staysIn_55 (by decide) ?_
  obtain ⟨hz, h⟩ := zo_inv h
  obtain rfl := Option.some.inj h
  exact wrz hx hb hr hlocks hP hD hS (Nat.le_of_ble_eq_true rfl) (Nat.le_of_ble_eq_true rfl) hz rfl dX1_staysIn_56
def fX1_mirrored (N : Nat) (l_a : Nat → Int32) (l_b : Nat → Int32) (l_c : Nat → Int32) (l_n : Int32) (x1 : Int32) (x2 : Int32) : Option (Int32) := rd l_a 9 x2 (fun v_72 => rd l_a 9 x2 (fun v_73 => rd l_b 9 x2 (fun v_74 => rd l_b 9 x2 (fun v_75 => nm ((v_72 * v_73) + (v_74 * v_75)) (fun x3_76 => rd l_a 9 x1 (fun v_77 => rd l_a 9 x2 (fun v_78 => rd l_b 9 x1 (fun v_79 => rd l_b 9 x2 (fun v_80 => nm (2 * ((v_77 * v_78) + (v_79 * v_80))) (fun x4_81 => rd l_a 9 x1 (fun v_82 => rd l_a 9 x2 (fun v_83 => rd l_b 9 x1 (fun v_84 => rd l_b 9 x2 (fun v_85 => rd l_c 9 x1 (fun v_86 => rd l_c 9 x2 (fun v_87 => bd (fX1_numberOf N l_a l_b l_c l_n ((x3_76 * v_82) - (x4_81 * v_83)) ((x3_76 * v_84) - (x4_81 * v_85)) ((x3_76 * v_86) - (x4_81 * v_87))) (fun u_88 => some u_88)))))))))))))))))
set_option maxHeartbeats 4000000 in
set_option maxRecDepth 100000 in
theorem kX1_mirrored {l : Launch} {G : wG} (l0 l1 l2 l3 : Nat) (l_a : Nat → Int32) (l_b : Nat → Int32) (l_c : Nat → Int32) (l_n : Int32) (x1 : Int32) (x2 : Int32) (N : Nat) (v : Int32) (h : fX1_mirrored N l_a l_b l_c l_n x1 x2 = some v) : wCi l G yX1_mirrored wsX1_mirrored ({ frames := 1, cells := 0, slots := 0, locals := 24 } : Room) [.ref l0, .int x1, .int x2] (w_L G l0 l1 l2 l3 l_a l_b l_c l_n) (w_L G l0 l1 l2 l3 l_a l_b l_c l_n) 0 0 v := by
  refine wCi.mk (cc := cX1_mirrored) (maxL := 5) (ty := .int) (by decide) rfl (Nat.le_of_ble_eq_true rfl) ?_
  intro p e s m below meth c A ls hx hb hml hr hlocks hts hown hK hA hP hD hl
  have hx : p.tables.exec = Jvm.exec := hx
  have hown : s.vm.findClass RX1 = some m.cls := hown
  have hinX1 : ∀ w ∈ wsX10, w ∈ wsX1_mirrored := by decide +kernel
  have lk15 := hts (.fieldLink RX1 15 "Chamberwright$Lines" "bs" "[I") (by decide +kernel)
  have lk18 := hts (.fieldLink RX1 18 "Chamberwright$Lines" "cs" "[I") (by decide +kernel)
  have lk9 := hts (.fieldLink RX1 9 "Chamberwright$Lines" "as" "[I") (by decide +kernel)
  have hS : va_S A s.heap s.heap [] := va_S.rf
  have hP : va_P G.1 vwCl (w_L G l0 l1 l2 l3 l_a l_b l_c l_n) s.heap := hP
  have hD : va_D A (w_L G l0 l1 l2 l3 l_a l_b l_c l_n) := hD
  have hl : lv_has ls 5 [(0, .ref l0), (1, .int x1), (2, .int x2)] := hl
  obtain ⟨args, hargs⟩ : ∃ z : Array Value, z = ([.ref l0, .int x1, .int x2] : List Value).toArray := ⟨_, rfl⟩
  rw [← hargs]
  rw [← hargs] at hts
  rw [fX1_mirrored.eq_1] at h
  refine lv_aload_n hx hb dX1_mirrored_0 rfl (lv_at hl 0 rfl) ?_
  refine va_get (D := G.1) (ci := 1) (v := .ref l1) (C := RX1) (T := TX1) (N := 4) hx hb hts hinX1 hown hK.1 hP 0 rfl rfl 0 (by decide) lk9 (fun _ h9 => h9) rfl dX1_mirrored_1 ?_
  refine lv_iload_n hx hb dX1_mirrored_4 rfl (lv_at hl 2 rfl) ?_
  refine wiald h hx hb hK hP 1 rfl dX1_mirrored_5 (fun v_72 h => ?_)
  refine lv_aload_n hx hb dX1_mirrored_6 rfl (lv_at hl 0 rfl) ?_
  refine va_get (D := G.1) (ci := 1) (v := .ref l1) (C := RX1) (T := TX1) (N := 4) hx hb hts hinX1 hown hK.1 hP 0 rfl rfl 0 (by decide) lk9 (fun _ h9 => h9) rfl dX1_mirrored_7 ?_
  refine lv_iload_n hx hb dX1_mirrored_10 rfl (lv_at hl 2 rfl) ?_
  refine wiald h hx hb hK hP 1 rfl dX1_mirrored_11 (fun v_73 h => ?_)
  refine lv_imul hx hb dX1_mirrored_12 ?_
  refine lv_aload_n hx hb dX1_mirrored_13 rfl (lv_at hl 0 rfl) ?_
  refine va_get (D := G.1) (ci := 1) (v := .ref l2) (C := RX1) (T := TX1) (N := 4) hx hb hts hinX1 hown hK.1 hP 0 rfl rfl 1 (by decide) lk15 (fun _ h9 => h9) rfl dX1_mirrored_14 ?_
  refine lv_iload_n hx hb dX1_mirrored_17 rfl (lv_at hl 2 rfl) ?_
  refine wiald h hx hb hK hP 2 rfl dX1_mirrored_18 (fun v_74 h => ?_)
  refine lv_aload_n hx hb dX1_mirrored_19 rfl (lv_at hl 0 rfl) ?_
  refine va_get (D := G.1) (ci := 1) (v := .ref l2) (C := RX1) (T := TX1) (N := 4) hx hb hts hinX1 hown hK.1 hP 0 rfl rfl 1 (by decide) lk15 (fun _ h9 => h9) rfl dX1_mirrored_20 ?_
  refine lv_iload_n hx hb dX1_mirrored_23 rfl (lv_at hl 2 rfl) ?_
  refine wiald h hx hb hK hP 2 rfl dX1_mirrored_24 (fun v_75 h => ?_)
  refine lv_imul hx hb dX1_mirrored_25 ?_
  refine lv_iadd hx hb dX1_mirrored_26 ?_
  refine wnmi h (fun x3_76 h => ?_)
  refine lv_istore_n (lv' := [(3, .int x3_76), (0, .ref l0), (1, .int x1), (2, .int x2)]) hx hb dX1_mirrored_27 rfl hl (by decide) rfl (fun ls hl => ?_)
  refine lv_iconst (v := 2) hx hb dX1_mirrored_28 (by decide) ?_
  refine lv_aload_n hx hb dX1_mirrored_29 rfl (lv_at hl 1 rfl) ?_
  refine va_get (D := G.1) (ci := 1) (v := .ref l1) (C := RX1) (T := TX1) (N := 4) hx hb hts hinX1 hown hK.1 hP 0 rfl rfl 0 (by decide) lk9 (fun _ h9 => h9) rfl dX1_mirrored_30 ?_
  refine lv_iload_n hx hb dX1_mirrored_33 rfl (lv_at hl 2 rfl) ?_
  refine wiald h hx hb hK hP 1 rfl dX1_mirrored_34 (fun v_77 h => ?_)
  refine lv_aload_n hx hb dX1_mirrored_35 rfl (lv_at hl 1 rfl) ?_
  refine va_get (D := G.1) (ci := 1) (v := .ref l1) (C := RX1) (T := TX1) (N := 4) hx hb hts hinX1 hown hK.1 hP 0 rfl rfl 0 (by decide) lk9 (fun _ h9 => h9) rfl dX1_mirrored_36 ?_
  refine lv_iload_n hx hb dX1_mirrored_39 rfl (lv_at hl 3 rfl) ?_
  refine wiald h hx hb hK hP 1 rfl dX1_mirrored_40 (fun v_78 h => ?_)
  refine lv_imul hx hb dX1_mirrored_41 ?_
  refine lv_aload_n hx hb dX1_mirrored_42 rfl (lv_at hl 1 rfl) ?_
  refine va_get (D := G.1) (ci := 1) (v := .ref l2) (C := RX1) (T := TX1) (N := 4) hx hb hts hinX1 hown hK.1 hP 0 rfl rfl 1 (by decide) lk15 (fun _ h9 => h9) rfl dX1_mirrored_43 ?_
  refine lv_iload_n hx hb dX1_mirrored_46 rfl (lv_at hl 2 rfl) ?_
  refine wiald h hx hb hK hP 2 rfl dX1_mirrored_47 (fun v_79 h => ?_)
  refine lv_aload_n hx hb dX1_mirrored_48 rfl (lv_at hl 1 rfl) ?_
  refine va_get (D := G.1) (ci := 1) (v := .ref l2) (C := RX1) (T := TX1) (N := 4) hx hb hts hinX1 hown hK.1 hP 0 rfl rfl 1 (by decide) lk15 (fun _ h9 => h9) rfl dX1_mirrored_49 ?_
  refine lv_iload_n hx hb dX1_mirrored_52 rfl (lv_at hl 3 rfl) ?_
  refine wiald h hx hb hK hP 2 rfl dX1_mirrored_53 (fun v_80 h => ?_)
  refine lv_imul hx hb dX1_mirrored_54 ?_
  refine lv_iadd hx hb dX1_mirrored_55 ?_
  refine lv_imul hx hb dX1_mirrored_56 ?_
  refine wnmi h (fun x4_81 h => ?_)
  refine lv_istore (lv' := [(4, .int x4_81), (3, .int x3_76), (0, .ref l0), (1, .int x1), (2, .int x2)]) hx hb dX1_mirrored_57 hl (by decide) rfl (fun ls hl => ?_)
  refine lv_aload_n hx hb dX1_mirrored_59 rfl (lv_at hl 2 rfl) ?_
  refine lv_iload_n hx hb dX1_mirrored_60 rfl (lv_at hl 1 rfl) ?_
  refine lv_aload_n hx hb dX1_mirrored_61 rfl (lv_at hl 2 rfl) ?_
  refine va_get (D := G.1) (ci := 1) (v := .ref l1) (C := RX1) (T := TX1) (N := 4) hx hb hts hinX1 hown hK.1 hP 0 rfl rfl 0 (by decide) lk9 (fun _ h9 => h9) rfl dX1_mirrored_62 ?_
  refine lv_iload_n hx hb dX1_mirrored_65 rfl (lv_at hl 3 rfl) ?_
  refine wiald h hx hb hK hP 1 rfl dX1_mirrored_66 (fun v_82 h => ?_)
  refine lv_imul hx hb dX1_mirrored_67 ?_
  refine lv_iload hx hb dX1_mirrored_68 (lv_at hl 0 rfl) ?_
  refine lv_aload_n hx hb dX1_mirrored_70 rfl (lv_at hl 2 rfl) ?_
  refine va_get (D := G.1) (ci := 1) (v := .ref l1) (C := RX1) (T := TX1) (N := 4) hx hb hts hinX1 hown hK.1 hP 0 rfl rfl 0 (by decide) lk9 (fun _ h9 => h9) rfl dX1_mirrored_71 ?_
  refine lv_iload_n hx hb dX1_mirrored_74 rfl (lv_at hl 4 rfl) ?_
  refine wiald h hx hb hK hP 1 rfl dX1_mirrored_75 (fun v_83 h => ?_)
  refine lv_imul hx hb dX1_mirrored_76 ?_
  refine lv_isub hx hb dX1_mirrored_77 ?_
  refine lv_iload_n hx hb dX1_mirrored_78 rfl (lv_at hl 1 rfl) ?_
  refine lv_aload_n hx hb dX1_mirrored_79 rfl (lv_at hl 2 rfl) ?_
  refine va_get (D := G.1) (ci := 1) (v := .ref l2) (C := RX1) (T := TX1) (N := 4) hx hb hts hinX1 hown hK.1 hP 0 rfl rfl 1 (by decide) lk15 (fun _ h9 => h9) rfl dX1_mirrored_80 ?_
  refine lv_iload_n hx hb dX1_mirrored_83 rfl (lv_at hl 3 rfl) ?_
  refine wiald h hx hb hK hP 2 rfl dX1_mirrored_84 (fun v_84 h => ?_)
  refine lv_imul hx hb dX1_mirrored_85 ?_
  refine lv_iload hx hb dX1_mirrored_86 (lv_at hl 0 rfl) ?_
  refine lv_aload_n hx hb dX1_mirrored_88 rfl (lv_at hl 2 rfl) ?_
  refine va_get (D := G.1) (ci := 1) (v := .ref l2) (C := RX1) (T := TX1) (N := 4) hx hb hts hinX1 hown hK.1 hP 0 rfl rfl 1 (by decide) lk15 (fun _ h9 => h9) rfl dX1_mirrored_89 ?_
  refine lv_iload_n hx hb dX1_mirrored_92 rfl (lv_at hl 4 rfl) ?_
  refine wiald h hx hb hK hP 2 rfl dX1_mirrored_93 (fun v_85 h => ?_)
  refine lv_imul hx hb dX1_mirrored_94 ?_
  refine lv_isub hx hb dX1_mirrored_95 ?_
  refine lv_iload_n hx hb dX1_mirrored_96 rfl (lv_at hl 1 rfl) ?_
  refine lv_aload_n hx hb dX1_mirrored_97 rfl (lv_at hl 2 rfl) ?_
  refine va_get (D := G.1) (ci := 1) (v := .ref l3) (C := RX1) (T := TX1) (N := 4) hx hb hts hinX1 hown hK.1 hP 0 rfl rfl 2 (by decide) lk18 (fun _ h9 => h9) rfl dX1_mirrored_98 ?_
  refine lv_iload_n hx hb dX1_mirrored_101 rfl (lv_at hl 3 rfl) ?_
  refine wiald h hx hb hK hP 3 rfl dX1_mirrored_102 (fun v_86 h => ?_)
  refine lv_imul hx hb dX1_mirrored_103 ?_
  refine lv_iload hx hb dX1_mirrored_104 (lv_at hl 0 rfl) ?_
  refine lv_aload_n hx hb dX1_mirrored_106 rfl (lv_at hl 2 rfl) ?_
  refine va_get (D := G.1) (ci := 1) (v := .ref l3) (C := RX1) (T := TX1) (N := 4) hx hb hts hinX1 hown hK.1 hP 0 rfl rfl 2 (by decide) lk18 (fun _ h9 => h9) rfl dX1_mirrored_107 ?_
  refine lv_iload_n hx hb dX1_mirrored_110 rfl (lv_at hl 4 rfl) ?_
  refine wiald h hx hb hK hP 3 rfl dX1_mirrored_111 (fun v_87 h => ?_)
  refine lv_imul hx hb dX1_mirrored_112 ?_
  refine lv_isub hx hb dX1_mirrored_113 ?_
  obtain ⟨u_88, hc_89, h⟩ := bd_inv h
  refine wafter_i (wr := []) (w2 := (w_L G l0 l1 l2 l3 l_a l_b l_c l_n)) (va_runV (As := [.int ((x3_76 * v_82) - (x4_81 * v_83)), .int ((x3_76 * v_84) - (x4_81 * v_85)), .int ((x3_76 * v_86) - (x4_81 * v_87))]) (rest := []) ⟨hx, hb, hml, hown, hts⟩ (kX1_numberOf (l := l) (G := G) l0 l1 l2 l3 l_a l_b l_c l_n ((x3_76 * v_82) - (x4_81 * v_83)) ((x3_76 * v_84) - (x4_81 * v_85)) ((x3_76 * v_86) - (x4_81 * v_87)) N u_88 hc_89 _) (cwV 3 hts gX1_mirrored_X1_numberOf rfl rfl rfl (by decide +kernel) ⟨Nat.le_of_ble_eq_true rfl, Nat.le_of_ble_eq_true rfl⟩) (wPreV hP hD hK [0, 1, 2, 3] rfl rfl (ci := 1) (qb := 0) rfl rfl rfl) rfl rfl hl.1 rfl (lv_room (Nat.le_of_ble_eq_true rfl)) dX1_mirrored_114 ⟨Nat.zero_le _, Nat.zero_le _⟩) hP hD hS hA [0, 1, 2, 3] [] [0, 1, 2, 3] rfl rfl rfl (by decide) rfl rfl (fun H locs hP hD hS => ?_)
  obtain rfl := Option.some.inj h
  exact wri hx hb hr hlocks hP hD hS (Nat.le_of_ble_eq_true rfl) (Nat.le_of_ble_eq_true rfl) rfl dX1_mirrored_117
