def fX5_numberOf_b4 (N : Nat) (d_r : Nat → Int32) (x1 : Int32) : Nat → Int32 → Int32 → Option (Int32)
  | 0, _, _ => none
  | n + 1, x2, x3 => if x1 ≤ x3 then some x2 else rd d_r 512 x3 (fun v_817 => if v_817 = 0 then fX5_numberOf_b4 N d_r x1 n (x2 + 0) (x3 + 1) else fX5_numberOf_b4 N d_r x1 n (x2 + 1) (x3 + 1))
def fX5_numberOf (N : Nat) (d_r : Nat → Int32) (x1 : Int32) : Option (Int32) := fX5_numberOf_b4 N d_r x1 N 0 0
set_option maxHeartbeats 4000000 in
set_option maxRecDepth 100000 in
theorem kX5_numberOf {l : Launch} {G : wG} (d0 d1 d2 d3 d4 d5 d6 d7 d8 d9 d10 d11 d12 : Nat) (d_n : Int32) (d_a : Nat → Int32) (d_b : Nat → Int32) (d_c : Nat → Int32) (d_k : Int32) (d_x : Nat → Int32) (d_y : Nat → Int32) (d_d : Nat → Int32) (d_r : Nat → Int32) (d_w : Nat → Int32) (d_e : Int32) (d_1 : Nat → Int32) (d_2 : Nat → Int32) (d_o : Nat → Int32) (d_g : Nat → Int32) (d_ra : Int32) (d_rb : Int32) (d_rc : Int32) (d_t : Int32) (x1 : Int32) (N : Nat) (v : Int32) (h : fX5_numberOf N d_r x1 = some v) : wCi l G yX5_numberOf wsX5_numberOf ({ frames := 0, cells := 0, slots := 0, locals := 0 } : Room) [.ref d0, .int x1] (w_D G d0 d1 d2 d3 d4 d5 d6 d7 d8 d9 d10 d11 d12 d_n d_a d_b d_c d_k d_x d_y d_d d_r d_w d_e d_1 d_2 d_o d_g d_ra d_rb d_rc d_t) (w_D G d0 d1 d2 d3 d4 d5 d6 d7 d8 d9 d10 d11 d12 d_n d_a d_b d_c d_k d_x d_y d_d d_r d_w d_e d_1 d_2 d_o d_g d_ra d_rb d_rc d_t) 0 0 v := by
  refine wCi.mk (cc := cX5_numberOf) (maxL := 4) (ty := .int) (by decide) rfl (Nat.le_of_ble_eq_true rfl) ?_
  intro p e s m below meth c A ls hx hb hml hr hlocks hts hown hK hA hP hD hl
  have hx : p.tables.exec = Jvm.exec := hx
  have hown : s.vm.findClass RX5 = some m.cls := hown
  have hinX5 : ∀ w ∈ wsX50, w ∈ wsX5_numberOf := by decide +kernel
  have lk28 := hts (.fieldLink RX5 28 "ChamberwrightModel" "isRoom" "[Z") (by decide +kernel)
  have hS : va_S A s.heap s.heap [] := va_S.rf
  have hP : va_P G.1 vwCl (w_D G d0 d1 d2 d3 d4 d5 d6 d7 d8 d9 d10 d11 d12 d_n d_a d_b d_c d_k d_x d_y d_d d_r d_w d_e d_1 d_2 d_o d_g d_ra d_rb d_rc d_t) s.heap := hP
  have hD : va_D A (w_D G d0 d1 d2 d3 d4 d5 d6 d7 d8 d9 d10 d11 d12 d_n d_a d_b d_c d_k d_x d_y d_d d_r d_w d_e d_1 d_2 d_o d_g d_ra d_rb d_rc d_t) := hD
  have hl : lv_has ls 4 [(0, .ref d0), (1, .int x1)] := hl
  obtain ⟨args, hargs⟩ : ∃ z : Array Value, z = ([.ref d0, .int x1] : List Value).toArray := ⟨_, rfl⟩
  rw [← hargs]
  rw [← hargs] at hts
  have w_4 : ∀ (x1 : Int32)  (_z : Unit), ∀ (n : Nat) (x2 : Int32) (x3 : Int32)  (H : Heap) (locs : List Loc) (ls : Array Slot), va_P G.1 vwCl (w_D G d0 d1 d2 d3 d4 d5 d6 d7 d8 d9 d10 d11 d12 d_n d_a d_b d_c d_k d_x d_y d_d d_r d_w d_e d_1 d_2 d_o d_g d_ra d_rb d_rc d_t) H → va_D A (w_D G d0 d1 d2 d3 d4 d5 d6 d7 d8 d9 d10 d11 d12 d_n d_a d_b d_c d_k d_x d_y d_d d_r d_w d_e d_1 d_2 d_o d_g d_ra d_rb d_rc d_t) → va_S A s.heap H locs → lv_has ls 4 [(0, .ref d0), (1, .int x1), (2, .int x2), (3, .int x3)] → fX5_numberOf_b4 N d_r x1 n x2 x3 = some v → W p l e ({ frames := 0, cells := 0, slots := 0, locals := 0 } : Room) s m args below meth c H locs 0 0 (wQi G A below args s (w_D G d0 d1 d2 d3 d4 d5 d6 d7 d8 d9 d10 d11 d12 d_n d_a d_b d_c d_k d_x d_y d_d d_r d_w d_e d_1 d_2 d_o d_g d_ra d_rb d_rc d_t) 0 0 v) (F0 m 4 ls []) := by
    intro x1 _z n
    induction n with
    | zero =>
      intro x2 x3 H locs ls hP hD hS hl h
      rw [fX5_numberOf_b4.eq_1] at h
      cases h
    | succ n ih =>
      intro x2 x3 H locs ls hP hD hS hl h
      rw [fX5_numberOf_b4.eq_2] at h
      refine lv_iload_n hx hb dX5_numberOf_4 rfl (lv_at hl 3 rfl) ?_
      refine lv_iload_n hx hb dX5_numberOf_5 rfl (lv_at hl 1 rfl) ?_
      refine lv_icmp_ge (tgt := 32) hx hb dX5_numberOf_6 (by decide) (fun c_816 => ?_) (fun c_816 => ?_)
      · have h := ip c_816 h
        refine lv_iload_n hx hb dX5_numberOf_32 rfl (lv_at hl 2 rfl) ?_
        obtain rfl := Option.some.inj h
        exact wri hx hb hr hlocks hP hD hS (Nat.le_of_ble_eq_true rfl) (Nat.le_of_ble_eq_true rfl) rfl dX5_numberOf_33
      · have h := iq c_816 h
        refine lv_iload_n hx hb dX5_numberOf_9 rfl (lv_at hl 2 rfl) ?_
        refine lv_aload_n hx hb dX5_numberOf_10 rfl (lv_at hl 0 rfl) ?_
        refine va_get (D := G.1) (ci := 5) (v := .ref d7) (C := RX5) (T := TX5) (N := 19) hx hb hts hinX5 hown hK.1 hP 0 rfl rfl 8 (by decide) lk28 (fun _ h9 => h9) rfl dX5_numberOf_11 ?_
        refine lv_iload_n hx hb dX5_numberOf_14 rfl (lv_at hl 3 rfl) ?_
        refine wzald h hx hb hK hP 7 rfl dX5_numberOf_15 (fun v_817 h => ?_)
        refine lv_if_eq (tgt := 23) hx hb dX5_numberOf_16 (by decide) (fun c_818 => ?_) (fun c_818 => ?_)
        · have h := ip c_818 h
          refine lv_iconst (v := 0) hx hb dX5_numberOf_23 (by decide) ?_
          refine lv_iadd hx hb dX5_numberOf_24 ?_
          refine lv_istore_n (lv' := [(2, .int (x2 + 0)), (0, .ref d0), (1, .int x1), (3, .int x3)]) hx hb dX5_numberOf_25 rfl hl (by decide) rfl (fun ls hl => ?_)
          refine lv_iinc (v := (x3 + 1)) (lv' := [(3, .int (x3 + 1)), (2, .int (x2 + 0)), (0, .ref d0), (1, .int x1)]) hx hb dX5_numberOf_26 hl (k := 3) rfl rfl (by decide) rfl (fun ls hl => ?_)
          refine lv_goto (tgt := 4) hx hb dX5_numberOf_29 (by decide) ?_
          exact ih _ _ _ _ _ hP hD hS (lv_sub hl [2, 3, 1, 0] rfl) h
        · have h := iq c_818 h
          refine lv_iconst (v := 1) hx hb dX5_numberOf_19 (by decide) ?_
          refine lv_goto (tgt := 24) hx hb dX5_numberOf_20 (by decide) ?_
          refine lv_iadd hx hb dX5_numberOf_24 ?_
          refine lv_istore_n (lv' := [(2, .int (x2 + 1)), (0, .ref d0), (1, .int x1), (3, .int x3)]) hx hb dX5_numberOf_25 rfl hl (by decide) rfl (fun ls hl => ?_)
          refine lv_iinc (v := (x3 + 1)) (lv' := [(3, .int (x3 + 1)), (2, .int (x2 + 1)), (0, .ref d0), (1, .int x1)]) hx hb dX5_numberOf_26 hl (k := 3) rfl rfl (by decide) rfl (fun ls hl => ?_)
          refine lv_goto (tgt := 4) hx hb dX5_numberOf_29 (by decide) ?_
          exact ih _ _ _ _ _ hP hD hS (lv_sub hl [2, 3, 1, 0] rfl) h
  rw [fX5_numberOf.eq_1] at h
  refine lv_iconst (v := 0) hx hb dX5_numberOf_0 (by decide) ?_
  refine lv_istore_n (lv' := [(2, .int 0), (0, .ref d0), (1, .int x1)]) hx hb dX5_numberOf_1 rfl hl (by decide) rfl (fun ls hl => ?_)
  refine lv_iconst (v := 0) hx hb dX5_numberOf_2 (by decide) ?_
  refine lv_istore_n (lv' := [(3, .int 0), (2, .int 0), (0, .ref d0), (1, .int x1)]) hx hb dX5_numberOf_3 rfl hl (by decide) rfl (fun ls hl => ?_)
  exact w_4  _  ()  N _ _  _ _ _ hP hD hS (lv_sub hl [2, 3, 1, 0] rfl) h
def fX5_roomIs (N : Nat) (d_n : Int32) (d_a : Nat → Int32) (d_b : Nat → Int32) (d_c : Nat → Int32) (d_k : Int32) (d_x : Nat → Int32) (d_y : Nat → Int32) (d_d : Nat → Int32) (d_r : Nat → Int32) (x1 : Int32) : Option (Int32 × Int32 × (Nat → Int32) × (Nat → Int32) × (Nat → Int32) × (Nat → Int32)) := bd (fX5_findRooms N d_n d_a d_b d_c d_k d_x d_y d_d d_r) (fun u_819 => bd (fX5_countRooms N u_819.2.2.2.2) (fun u_821 => bd (fX5_in N x1 0 (u_821 - 1)) (fun u_823 => zo u_823 (some (u_823, u_819.1, u_819.2.1, u_819.2.2.1, u_819.2.2.2.1, u_819.2.2.2.2)))))
set_option maxHeartbeats 4000000 in
set_option maxRecDepth 100000 in
theorem kX5_roomIs {l : Launch} {G : wG} (d0 d1 d2 d3 d4 d5 d6 d7 d8 d9 d10 d11 d12 : Nat) (d_n : Int32) (d_a : Nat → Int32) (d_b : Nat → Int32) (d_c : Nat → Int32) (d_k : Int32) (d_x : Nat → Int32) (d_y : Nat → Int32) (d_d : Nat → Int32) (d_r : Nat → Int32) (d_w : Nat → Int32) (d_e : Int32) (d_1 : Nat → Int32) (d_2 : Nat → Int32) (d_o : Nat → Int32) (d_g : Nat → Int32) (d_ra : Int32) (d_rb : Int32) (d_rc : Int32) (d_t : Int32) (x1 : Int32) (N : Nat) (v : Int32 × Int32 × (Nat → Int32) × (Nat → Int32) × (Nat → Int32) × (Nat → Int32)) (h : fX5_roomIs N d_n d_a d_b d_c d_k d_x d_y d_d d_r x1 = some v) : wCi l G yX5_roomIs wsX5_roomIs ({ frames := 4, cells := 0, slots := 0, locals := 99 } : Room) [.ref d0, .int x1] (w_D G d0 d1 d2 d3 d4 d5 d6 d7 d8 d9 d10 d11 d12 d_n d_a d_b d_c d_k d_x d_y d_d d_r d_w d_e d_1 d_2 d_o d_g d_ra d_rb d_rc d_t) (w_D G d0 d1 d2 d3 d4 d5 d6 d7 d8 d9 d10 d11 d12 d_n d_a d_b d_c v.2.1 v.2.2.1 v.2.2.2.1 v.2.2.2.2.1 v.2.2.2.2.2 d_w d_e d_1 d_2 d_o d_g d_ra d_rb d_rc d_t) 0 0 v.1 := by
  refine wCi.mk (cc := cX5_roomIs) (maxL := 2) (ty := .boolean) (by decide) rfl (Nat.le_of_ble_eq_true rfl) ?_
  intro p e s m below meth c A ls hx hb hml hr hlocks hts hown hK hA hP hD hl
  have hx : p.tables.exec = Jvm.exec := hx
  have hown : s.vm.findClass RX5 = some m.cls := hown
  have hS : va_S A s.heap s.heap [] := va_S.rf
  have hP : va_P G.1 vwCl (w_D G d0 d1 d2 d3 d4 d5 d6 d7 d8 d9 d10 d11 d12 d_n d_a d_b d_c d_k d_x d_y d_d d_r d_w d_e d_1 d_2 d_o d_g d_ra d_rb d_rc d_t) s.heap := hP
  have hD : va_D A (w_D G d0 d1 d2 d3 d4 d5 d6 d7 d8 d9 d10 d11 d12 d_n d_a d_b d_c d_k d_x d_y d_d d_r d_w d_e d_1 d_2 d_o d_g d_ra d_rb d_rc d_t) := hD
  have hl : lv_has ls 2 [(0, .ref d0), (1, .int x1)] := hl
  obtain ⟨args, hargs⟩ : ∃ z : Array Value, z = ([.ref d0, .int x1] : List Value).toArray := ⟨_, rfl⟩
  rw [← hargs]
  rw [← hargs] at hts
  rw [fX5_roomIs.eq_1] at h
  refine lv_aload_n hx hb dX5_roomIs_0 rfl (lv_at hl 0 rfl) ?_
  obtain ⟨u_819, hc_820, h⟩ := bd_inv h
  refine wafter_v (wr := []) (w2 := (w_D G d0 d1 d2 d3 d4 d5 d6 d7 d8 d9 d10 d11 d12 d_n d_a d_b d_c u_819.1 u_819.2.1 u_819.2.2.1 u_819.2.2.2.1 u_819.2.2.2.2 d_w d_e d_1 d_2 d_o d_g d_ra d_rb d_rc d_t)) (va_runV (As := []) (rest := []) ⟨hx, hb, hml, hown, hts⟩ (kX5_findRooms (l := l) (G := G) d0 d1 d2 d3 d4 d5 d6 d7 d8 d9 d10 d11 d12 d_n d_a d_b d_c d_k d_x d_y d_d d_r d_w d_e d_1 d_2 d_o d_g d_ra d_rb d_rc d_t  N u_819 hc_820 _) (cwV 0 hts gX5_roomIs_X5_findRooms rfl rfl rfl (by decide +kernel) ⟨Nat.le_of_ble_eq_true rfl, Nat.le_of_ble_eq_true rfl⟩) (wPreV hP hD hK [0, 1, 2, 3, 4, 5, 6, 7, 8, 9, 10, 11, 12] rfl rfl (ci := 5) (qb := 0) rfl rfl rfl) rfl rfl hl.1 rfl (lv_room (Nat.le_of_ble_eq_true rfl)) dX5_roomIs_1 ⟨Nat.zero_le _, Nat.zero_le _⟩) hP hD hS hA [0, 1, 2, 3, 4, 5, 6, 7, 8, 9, 10, 11, 12] [] [0, 1, 2, 3, 4, 5, 6, 7, 8, 9, 10, 11, 12] rfl rfl rfl (by decide) rfl rfl (fun H locs hP hD hS => ?_)
  refine lv_iload_n hx hb dX5_roomIs_4 rfl (lv_at hl 1 rfl) ?_
  refine lv_iconst (v := 0) hx hb dX5_roomIs_5 (by decide) ?_
  refine lv_aload_n hx hb dX5_roomIs_6 rfl (lv_at hl 0 rfl) ?_
  obtain ⟨u_821, hc_822, h⟩ := bd_inv h
  refine wafter_i (wr := []) (w2 := (w_D G d0 d1 d2 d3 d4 d5 d6 d7 d8 d9 d10 d11 d12 d_n d_a d_b d_c u_819.1 u_819.2.1 u_819.2.2.1 u_819.2.2.2.1 u_819.2.2.2.2 d_w d_e d_1 d_2 d_o d_g d_ra d_rb d_rc d_t)) (va_runV (As := []) (rest := [.int 0, .int x1]) ⟨hx, hb, hml, hown, hts⟩ (kX5_countRooms (l := l) (G := G) d0 d1 d2 d3 d4 d5 d6 d7 d8 d9 d10 d11 d12 d_n d_a d_b d_c u_819.1 u_819.2.1 u_819.2.2.1 u_819.2.2.2.1 u_819.2.2.2.2 d_w d_e d_1 d_2 d_o d_g d_ra d_rb d_rc d_t  N u_821 hc_822 _) (cwV 0 hts gX5_roomIs_X5_countRooms rfl rfl rfl (by decide +kernel) ⟨Nat.le_of_ble_eq_true rfl, Nat.le_of_ble_eq_true rfl⟩) (wPreV hP hD hK [0, 1, 2, 3, 4, 5, 6, 7, 8, 9, 10, 11, 12] rfl rfl (ci := 5) (qb := 0) rfl rfl rfl) rfl rfl hl.1 rfl (lv_room (Nat.le_of_ble_eq_true rfl)) dX5_roomIs_7 ⟨Nat.zero_le _, Nat.zero_le _⟩) hP hD hS hA [0, 1, 2, 3, 4, 5, 6, 7, 8, 9, 10, 11, 12] [] [0, 1, 2, 3, 4, 5, 6, 7, 8, 9, 10, 11, 12] rfl rfl rfl (by decide) rfl rfl (fun H locs hP hD hS => ?_)
  refine lv_iconst (v := 1) hx hb dX5_roomIs_10 (by decide) ?_
  refine lv_isub hx hb dX5_roomIs_11 ?_
  obtain ⟨u_823, hc_824, h⟩ := bd_inv h
  refine wafter_i (wr := (w_D G d0 d1 d2 d3 d4 d5 d6 d7 d8 d9 d10 d11 d12 d_n d_a d_b d_c u_819.1 u_819.2.1 u_819.2.2.1 u_819.2.2.2.1 u_819.2.2.2.2 d_w d_e d_1 d_2 d_o d_g d_ra d_rb d_rc d_t)) (w2 := (w_D G d0 d1 d2 d3 d4 d5 d6 d7 d8 d9 d10 d11 d12 d_n d_a d_b d_c u_819.1 u_819.2.1 u_819.2.2.1 u_819.2.2.2.1 u_819.2.2.2.2 d_w d_e d_1 d_2 d_o d_g d_ra d_rb d_rc d_t)) (va_runS (As := [.int x1, .int 0, .int (u_821 - 1)]) (rest := []) ⟨hx, hb, hml, hown, hts⟩ (kX5_in (l := l) (G := G)   x1 0 (u_821 - 1) N u_823 hc_824 _) (va_cwS 3 hts gX5_roomIs_X5_in rfl rfl rfl (by decide +kernel) ⟨Nat.le_of_ble_eq_true rfl, Nat.le_of_ble_eq_true rfl⟩) (wPreS hP hD hK [] rfl rfl) rfl rfl hl.1 rfl (lv_room (Nat.le_of_ble_eq_true rfl)) dX5_roomIs_12 ⟨Nat.zero_le _, Nat.zero_le _⟩) hP hD hS hA [] [0, 1, 2, 3, 4, 5, 6, 7, 8, 9, 10, 11, 12] [0, 1, 2, 3, 4, 5, 6, 7, 8, 9, 10, 11, 12] rfl rfl rfl (by decide) rfl rfl (fun H locs hP hD hS => ?_)
  obtain ⟨hz, h⟩ := zo_inv h
  obtain rfl := Option.some.inj h
  exact wrz hx hb hr hlocks hP hD hS (Nat.le_of_ble_eq_true rfl) (Nat.le_of_ble_eq_true rfl) hz rfl dX5_roomIs_15
def fX5_goesOn_b6 (N : Nat) (d_n : Int32) (d_a : Nat → Int32) (d_b : Nat → Int32) (x1 : Int32) (x2 : Int32) (x3 : Int32) : Nat → Int32 → Int32 → Option (Int32)
  | 0, _, _ => none
  | n + 1, x4, x5 => if d_n ≤ x5 then zo x4 (some x4) else rd d_a 9 x5 (fun v_826 => rd d_b 9 x5 (fun v_827 => nm ((v_826 * x2) + (v_827 * x3)) (fun x6_828 => if ((x1 >>> (x5 &&& 31)) &&& 1) = 1 then if x6_828 < 0 then fX5_goesOn_b6 N d_n d_a d_b x1 x2 x3 n (x4 &&& 0) (x5 + 1) else fX5_goesOn_b6 N d_n d_a d_b x1 x2 x3 n (x4 &&& 1) (x5 + 1) else if 0 < x6_828 then fX5_goesOn_b6 N d_n d_a d_b x1 x2 x3 n (x4 &&& 0) (x5 + 1) else fX5_goesOn_b6 N d_n d_a d_b x1 x2 x3 n (x4 &&& 1) (x5 + 1))))
def fX5_goesOn (N : Nat) (d_n : Int32) (d_a : Nat → Int32) (d_b : Nat → Int32) (x1 : Int32) (x2 : Int32) (x3 : Int32) : Option (Int32) := fX5_goesOn_b6 N d_n d_a d_b x1 x2 x3 N 1 0
set_option maxHeartbeats 4000000 in
set_option maxRecDepth 100000 in
theorem kX5_goesOn {l : Launch} {G : wG} (d0 d1 d2 d3 d4 d5 d6 d7 d8 d9 d10 d11 d12 : Nat) (d_n : Int32) (d_a : Nat → Int32) (d_b : Nat → Int32) (d_c : Nat → Int32) (d_k : Int32) (d_x : Nat → Int32) (d_y : Nat → Int32) (d_d : Nat → Int32) (d_r : Nat → Int32) (d_w : Nat → Int32) (d_e : Int32) (d_1 : Nat → Int32) (d_2 : Nat → Int32) (d_o : Nat → Int32) (d_g : Nat → Int32) (d_ra : Int32) (d_rb : Int32) (d_rc : Int32) (d_t : Int32) (x1 : Int32) (x2 : Int32) (x3 : Int32) (N : Nat) (v : Int32) (h : fX5_goesOn N d_n d_a d_b x1 x2 x3 = some v) : wCi l G yX5_goesOn wsX5_goesOn ({ frames := 0, cells := 0, slots := 0, locals := 0 } : Room) [.ref d0, .int x1, .int x2, .int x3] (w_D G d0 d1 d2 d3 d4 d5 d6 d7 d8 d9 d10 d11 d12 d_n d_a d_b d_c d_k d_x d_y d_d d_r d_w d_e d_1 d_2 d_o d_g d_ra d_rb d_rc d_t) (w_D G d0 d1 d2 d3 d4 d5 d6 d7 d8 d9 d10 d11 d12 d_n d_a d_b d_c d_k d_x d_y d_d d_r d_w d_e d_1 d_2 d_o d_g d_ra d_rb d_rc d_t) 0 0 v := by
  refine wCi.mk (cc := cX5_goesOn) (maxL := 7) (ty := .boolean) (by decide) rfl (Nat.le_of_ble_eq_true rfl) ?_
  intro p e s m below meth c A ls hx hb hml hr hlocks hts hown hK hA hP hD hl
  have hx : p.tables.exec = Jvm.exec := hx
  have hown : s.vm.findClass RX5 = some m.cls := hown
  have hinX5 : ∀ w ∈ wsX50, w ∈ wsX5_goesOn := by decide +kernel
  have lk13 := hts (.fieldLink RX5 13 "ChamberwrightModel" "lb" "[I") (by decide +kernel)
  have lk51 := hts (.fieldLink RX5 51 "ChamberwrightModel" "lines" "I") (by decide +kernel)
  have lk7 := hts (.fieldLink RX5 7 "ChamberwrightModel" "la" "[I") (by decide +kernel)
  have hS : va_S A s.heap s.heap [] := va_S.rf
  have hP : va_P G.1 vwCl (w_D G d0 d1 d2 d3 d4 d5 d6 d7 d8 d9 d10 d11 d12 d_n d_a d_b d_c d_k d_x d_y d_d d_r d_w d_e d_1 d_2 d_o d_g d_ra d_rb d_rc d_t) s.heap := hP
  have hD : va_D A (w_D G d0 d1 d2 d3 d4 d5 d6 d7 d8 d9 d10 d11 d12 d_n d_a d_b d_c d_k d_x d_y d_d d_r d_w d_e d_1 d_2 d_o d_g d_ra d_rb d_rc d_t) := hD
  have hl : lv_has ls 7 [(0, .ref d0), (1, .int x1), (2, .int x2), (3, .int x3)] := hl
  obtain ⟨args, hargs⟩ : ∃ z : Array Value, z = ([.ref d0, .int x1, .int x2, .int x3] : List Value).toArray := ⟨_, rfl⟩
  rw [← hargs]
  rw [← hargs] at hts
  have w_6 : ∀ (x1 : Int32) (x2 : Int32) (x3 : Int32)  (_z : Unit), ∀ (n : Nat) (x4 : Int32) (x5 : Int32)  (H : Heap) (locs : List Loc) (ls : Array Slot), va_P G.1 vwCl (w_D G d0 d1 d2 d3 d4 d5 d6 d7 d8 d9 d10 d11 d12 d_n d_a d_b d_c d_k d_x d_y d_d d_r d_w d_e d_1 d_2 d_o d_g d_ra d_rb d_rc d_t) H → va_D A (w_D G d0 d1 d2 d3 d4 d5 d6 d7 d8 d9 d10 d11 d12 d_n d_a d_b d_c d_k d_x d_y d_d d_r d_w d_e d_1 d_2 d_o d_g d_ra d_rb d_rc d_t) → va_S A s.heap H locs → lv_has ls 7 [(0, .ref d0), (1, .int x1), (2, .int x2), (3, .int x3), (4, .int x4), (5, .int x5)] → fX5_goesOn_b6 N d_n d_a d_b x1 x2 x3 n x4 x5 = some v → W p l e ({ frames := 0, cells := 0, slots := 0, locals := 0 } : Room) s m args below meth c H locs 0 0 (wQi G A below args s (w_D G d0 d1 d2 d3 d4 d5 d6 d7 d8 d9 d10 d11 d12 d_n d_a d_b d_c d_k d_x d_y d_d d_r d_w d_e d_1 d_2 d_o d_g d_ra d_rb d_rc d_t) 0 0 v) (F0 m 6 ls []) := by
    intro x1 x2 x3 _z n
    induction n with
    | zero =>
      intro x4 x5 H locs ls hP hD hS hl h
      rw [fX5_goesOn_b6.eq_1] at h
      cases h
    | succ n ih =>
      intro x4 x5 H locs ls hP hD hS hl h
      rw [fX5_goesOn_b6.eq_2] at h
      refine lv_iload hx hb dX5_goesOn_6 (lv_at hl 5 rfl) ?_
      refine lv_aload_n hx hb dX5_goesOn_8 rfl (lv_at hl 0 rfl) ?_
      refine va_get (D := G.1) (ci := 5) (v := .int d_n) (C := RX5) (T := TX5) (N := 19) hx hb hts hinX5 hown hK.1 hP 0 rfl rfl 0 (by decide) lk51 (fun _ h9 => h9) rfl dX5_goesOn_9 ?_
      refine lv_icmp_ge (tgt := 80) hx hb dX5_goesOn_12 (by decide) (fun c_825 => ?_) (fun c_825 => ?_)
      · have h := ip c_825 h
        refine lv_iload hx hb dX5_goesOn_80 (lv_at hl 4 rfl) ?_
        obtain ⟨hz, h⟩ := zo_inv h
        obtain rfl := Option.some.inj h
        exact wrz hx hb hr hlocks hP hD hS (Nat.le_of_ble_eq_true rfl) (Nat.le_of_ble_eq_true rfl) hz rfl dX5_goesOn_82
      · have h := iq c_825 h
        refine lv_aload_n hx hb dX5_goesOn_15 rfl (lv_at hl 0 rfl) ?_
        refine va_get (D := G.1) (ci := 5) (v := .ref d1) (C := RX5) (T := TX5) (N := 19) hx hb hts hinX5 hown hK.1 hP 0 rfl rfl 1 (by decide) lk7 (fun _ h9 => h9) rfl dX5_goesOn_16 ?_
        refine lv_iload hx hb dX5_goesOn_19 (lv_at hl 5 rfl) ?_
        refine wiald h hx hb hK hP 1 rfl dX5_goesOn_21 (fun v_826 h => ?_)
        refine lv_iload_n hx hb dX5_goesOn_22 rfl (lv_at hl 2 rfl) ?_
        refine lv_imul hx hb dX5_goesOn_23 ?_
        refine lv_aload_n hx hb dX5_goesOn_24 rfl (lv_at hl 0 rfl) ?_
        refine va_get (D := G.1) (ci := 5) (v := .ref d2) (C := RX5) (T := TX5) (N := 19) hx hb hts hinX5 hown hK.1 hP 0 rfl rfl 2 (by decide) lk13 (fun _ h9 => h9) rfl dX5_goesOn_25 ?_
        refine lv_iload hx hb dX5_goesOn_28 (lv_at hl 5 rfl) ?_
        refine wiald h hx hb hK hP 2 rfl dX5_goesOn_30 (fun v_827 h => ?_)
        refine lv_iload_n hx hb dX5_goesOn_31 rfl (lv_at hl 3 rfl) ?_
        refine lv_imul hx hb dX5_goesOn_32 ?_
        refine lv_iadd hx hb dX5_goesOn_33 ?_
        refine wnmi h (fun x6_828 h => ?_)
        refine lv_istore (lv' := [(6, .int x6_828), (0, .ref d0), (1, .int x1), (2, .int x2), (3, .int x3), (4, .int x4), (5, .int x5)]) hx hb dX5_goesOn_34 hl (by decide) rfl (fun ls hl => ?_)
        refine lv_iload hx hb dX5_goesOn_36 (lv_at hl 5 rfl) ?_
        refine lv_iload_n hx hb dX5_goesOn_38 rfl (lv_at hl 2 rfl) ?_
        refine lv_iload hx hb dX5_goesOn_39 (lv_at hl 6 rfl) ?_
        refine lv_ishr hx hb dX5_goesOn_41 ?_
        refine lv_iconst (v := 1) hx hb dX5_goesOn_42 (by decide) ?_
        refine lv_iand hx hb dX5_goesOn_43 ?_
        refine lv_iconst (v := 1) hx hb dX5_goesOn_44 (by decide) ?_
        refine lv_icmp_ne (tgt := 61) hx hb dX5_goesOn_45 (by decide) (fun c_829 => ?_) (fun c_829 => ?_)
        · have h := iq c_829 h
          refine lv_iload hx hb dX5_goesOn_61 (lv_at hl 0 rfl) ?_
          refine lv_if_gt (tgt := 70) hx hb dX5_goesOn_63 (by decide) (fun c_830 => ?_) (fun c_830 => ?_)
          · have h := ip c_830 h
            refine lv_iconst (v := 0) hx hb dX5_goesOn_70 (by decide) ?_
            refine lv_iand hx hb dX5_goesOn_71 ?_
            refine lv_istore (lv' := [(4, .int (x4 &&& 0)), (6, .int x6_828), (0, .ref d0), (1, .int x1), (2, .int x2), (3, .int x3), (5, .int x5)]) hx hb dX5_goesOn_72 hl (by decide) rfl (fun ls hl => ?_)
            refine lv_iinc (v := (x5 + 1)) (lv' := [(5, .int (x5 + 1)), (4, .int (x4 &&& 0)), (6, .int x6_828), (0, .ref d0), (1, .int x1), (2, .int x2), (3, .int x3)]) hx hb dX5_goesOn_74 hl (k := 6) rfl rfl (by decide) rfl (fun ls hl => ?_)
            refine lv_goto (tgt := 6) hx hb dX5_goesOn_77 (by decide) ?_
            exact ih _ _ _ _ _ hP hD hS (lv_sub hl [3, 4, 5, 6, 1, 0] rfl) h
          · have h := iq c_830 h
            refine lv_iconst (v := 1) hx hb dX5_goesOn_66 (by decide) ?_
            refine lv_goto (tgt := 71) hx hb dX5_goesOn_67 (by decide) ?_
            refine lv_iand hx hb dX5_goesOn_71 ?_
            refine lv_istore (lv' := [(4, .int (x4 &&& 1)), (6, .int x6_828), (0, .ref d0), (1, .int x1), (2, .int x2), (3, .int x3), (5, .int x5)]) hx hb dX5_goesOn_72 hl (by decide) rfl (fun ls hl => ?_)
            refine lv_iinc (v := (x5 + 1)) (lv' := [(5, .int (x5 + 1)), (4, .int (x4 &&& 1)), (6, .int x6_828), (0, .ref d0), (1, .int x1), (2, .int x2), (3, .int x3)]) hx hb dX5_goesOn_74 hl (k := 6) rfl rfl (by decide) rfl (fun ls hl => ?_)
            refine lv_goto (tgt := 6) hx hb dX5_goesOn_77 (by decide) ?_
            exact ih _ _ _ _ _ hP hD hS (lv_sub hl [3, 4, 5, 6, 1, 0] rfl) h
        · have h := ip c_829 h
          refine lv_iload hx hb dX5_goesOn_48 (lv_at hl 0 rfl) ?_
          refine lv_if_lt (tgt := 57) hx hb dX5_goesOn_50 (by decide) (fun c_831 => ?_) (fun c_831 => ?_)
          · have h := ip c_831 h
            refine lv_iconst (v := 0) hx hb dX5_goesOn_57 (by decide) ?_
            refine lv_goto (tgt := 71) hx hb dX5_goesOn_58 (by decide) ?_
            refine lv_iand hx hb dX5_goesOn_71 ?_
            refine lv_istore (lv' := [(4, .int (x4 &&& 0)), (6, .int x6_828), (0, .ref d0), (1, .int x1), (2, .int x2), (3, .int x3), (5, .int x5)]) hx hb dX5_goesOn_72 hl (by decide) rfl (fun ls hl => ?_)
            refine lv_iinc (v := (x5 + 1)) (lv' := [(5, .int (x5 + 1)), (4, .int (x4 &&& 0)), (6, .int x6_828), (0, .ref d0), (1, .int x1), (2, .int x2), (3, .int x3)]) hx hb dX5_goesOn_74 hl (k := 6) rfl rfl (by decide) rfl (fun ls hl => ?_)
            refine lv_goto (tgt := 6) hx hb dX5_goesOn_77 (by decide) ?_
            exact ih _ _ _ _ _ hP hD hS (lv_sub hl [3, 4, 5, 6, 1, 0] rfl) h
          · have h := iq c_831 h
            refine lv_iconst (v := 1) hx hb dX5_goesOn_53 (by decide) ?_
            refine lv_goto (tgt := 71) hx hb dX5_goesOn_54 (by decide) ?_
            refine lv_iand hx hb dX5_goesOn_71 ?_
            refine lv_istore (lv' := [(4, .int (x4 &&& 1)), (6, .int x6_828), (0, .ref d0), (1, .int x1), (2, .int x2), (3, .int x3), (5, .int x5)]) hx hb dX5_goesOn_72 hl (by decide) rfl (fun ls hl => ?_)
            refine lv_iinc (v := (x5 + 1)) (lv' := [(5, .int (x5 + 1)), (4, .int (x4 &&& 1)), (6, .int x6_828), (0, .ref d0), (1, .int x1), (2, .int x2), (3, .int x3)]) hx hb dX5_goesOn_74 hl (k := 6) rfl rfl (by decide) rfl (fun ls hl => ?_)
            refine lv_goto (tgt := 6) hx hb dX5_goesOn_77 (by decide) ?_
            exact ih _ _ _ _ _ hP hD hS (lv_sub hl [3, 4, 5, 6, 1, 0] rfl) h
  rw [fX5_goesOn.eq_1] at h
  refine lv_iconst (v := 1) hx hb dX5_goesOn_0 (by decide) ?_
  refine lv_istore (lv' := [(4, .int 1), (0, .ref d0), (1, .int x1), (2, .int x2), (3, .int x3)]) hx hb dX5_goesOn_1 hl (by decide) rfl (fun ls hl => ?_)
  refine lv_iconst (v := 0) hx hb dX5_goesOn_3 (by decide) ?_
  refine lv_istore (lv' := [(5, .int 0), (4, .int 1), (0, .ref d0), (1, .int x1), (2, .int x2), (3, .int x3)]) hx hb dX5_goesOn_4 hl (by decide) rfl (fun ls hl => ?_)
  exact w_6  _ _ _  ()  N _ _  _ _ _ hP hD hS (lv_sub hl [2, 3, 4, 5, 1, 0] rfl) h
def fX5_isBounded_b15 (N : Nat) (d_n : Int32) (d_a : Nat → Int32) (d_b : Nat → Int32) (x1 : Int32) : Nat → Int32 → Int32 → Option (Int32)
  | 0, _, _ => none
  | n + 1, x2, x3 => if d_n ≤ x3 then zo x2 (some x2) else rd d_b 9 x3 (fun v_833 => rd d_a 9 x3 (fun v_834 => bd (fX5_goesOn N d_n d_a d_b x1 (-v_833) v_834) (fun u_835 => if u_835 = 0 then rd d_b 9 x3 (fun v_838 => rd d_a 9 x3 (fun v_839 => bd (fX5_goesOn N d_n d_a d_b x1 v_838 (-v_839)) (fun u_840 => if u_840 = 0 then fX5_isBounded_b15 N d_n d_a d_b x1 n (x2 &&& 1) (x3 + 1) else fX5_isBounded_b15 N d_n d_a d_b x1 n (x2 &&& 0) (x3 + 1)))) else fX5_isBounded_b15 N d_n d_a d_b x1 n (x2 &&& 0) (x3 + 1))))
def fX5_isBounded (N : Nat) (d_n : Int32) (d_a : Nat → Int32) (d_b : Nat → Int32) (x1 : Int32) : Option (Int32) := if d_n ≤ 0 then fX5_isBounded_b15 N d_n d_a d_b x1 N 0 0 else fX5_isBounded_b15 N d_n d_a d_b x1 N 1 0
set_option maxHeartbeats 4000000 in
set_option maxRecDepth 100000 in
theorem kX5_isBounded {l : Launch} {G : wG} (d0 d1 d2 d3 d4 d5 d6 d7 d8 d9 d10 d11 d12 : Nat) (d_n : Int32) (d_a : Nat → Int32) (d_b : Nat → Int32) (d_c : Nat → Int32) (d_k : Int32) (d_x : Nat → Int32) (d_y : Nat → Int32) (d_d : Nat → Int32) (d_r : Nat → Int32) (d_w : Nat → Int32) (d_e : Int32) (d_1 : Nat → Int32) (d_2 : Nat → Int32) (d_o : Nat → Int32) (d_g : Nat → Int32) (d_ra : Int32) (d_rb : Int32) (d_rc : Int32) (d_t : Int32) (x1 : Int32) (N : Nat) (v : Int32) (h : fX5_isBounded N d_n d_a d_b x1 = some v) : wCi l G yX5_isBounded wsX5_isBounded ({ frames := 1, cells := 0, slots := 0, locals := 26 } : Room) [.ref d0, .int x1] (w_D G d0 d1 d2 d3 d4 d5 d6 d7 d8 d9 d10 d11 d12 d_n d_a d_b d_c d_k d_x d_y d_d d_r d_w d_e d_1 d_2 d_o d_g d_ra d_rb d_rc d_t) (w_D G d0 d1 d2 d3 d4 d5 d6 d7 d8 d9 d10 d11 d12 d_n d_a d_b d_c d_k d_x d_y d_d d_r d_w d_e d_1 d_2 d_o d_g d_ra d_rb d_rc d_t) 0 0 v := by
  refine wCi.mk (cc := cX5_isBounded) (maxL := 4) (ty := .boolean) (by decide) rfl (Nat.le_of_ble_eq_true rfl) ?_
  intro p e s m below meth c A ls hx hb hml hr hlocks hts hown hK hA hP hD hl
  have hx : p.tables.exec = Jvm.exec := hx
  have hown : s.vm.findClass RX5 = some m.cls := hown
  have hinX5 : ∀ w ∈ wsX50, w ∈ wsX5_isBounded := by decide +kernel
  have lk13 := hts (.fieldLink RX5 13 "ChamberwrightModel" "lb" "[I") (by decide +kernel)
  have lk51 := hts (.fieldLink RX5 51 "ChamberwrightModel" "lines" "I") (by decide +kernel)
  have lk7 := hts (.fieldLink RX5 7 "ChamberwrightModel" "la" "[I") (by decide +kernel)
  have hS : va_S A s.heap s.heap [] := va_S.rf
  have hP : va_P G.1 vwCl (w_D G d0 d1 d2 d3 d4 d5 d6 d7 d8 d9 d10 d11 d12 d_n d_a d_b d_c d_k d_x d_y d_d d_r d_w d_e d_1 d_2 d_o d_g d_ra d_rb d_rc d_t) s.heap := hP
  have hD : va_D A (w_D G d0 d1 d2 d3 d4 d5 d6 d7 d8 d9 d10 d11 d12 d_n d_a d_b d_c d_k d_x d_y d_d d_r d_w d_e d_1 d_2 d_o d_g d_ra d_rb d_rc d_t) := hD
  have hl : lv_has ls 4 [(0, .ref d0), (1, .int x1)] := hl
  obtain ⟨args, hargs⟩ : ∃ z : Array Value, z = ([.ref d0, .int x1] : List Value).toArray := ⟨_, rfl⟩
  rw [← hargs]
  rw [← hargs] at hts
  have w_15 : ∀ (x1 : Int32)  (_z : Unit), ∀ (n : Nat) (x2 : Int32) (x3 : Int32)  (H : Heap) (locs : List Loc) (ls : Array Slot), va_P G.1 vwCl (w_D G d0 d1 d2 d3 d4 d5 d6 d7 d8 d9 d10 d11 d12 d_n d_a d_b d_c d_k d_x d_y d_d d_r d_w d_e d_1 d_2 d_o d_g d_ra d_rb d_rc d_t) H → va_D A (w_D G d0 d1 d2 d3 d4 d5 d6 d7 d8 d9 d10 d11 d12 d_n d_a d_b d_c d_k d_x d_y d_d d_r d_w d_e d_1 d_2 d_o d_g d_ra d_rb d_rc d_t) → va_S A s.heap H locs → lv_has ls 4 [(0, .ref d0), (1, .int x1), (2, .int x2), (3, .int x3)] → fX5_isBounded_b15 N d_n d_a d_b x1 n x2 x3 = some v → W p l e ({ frames := 1, cells := 0, slots := 0, locals := 26 } : Room) s m args below meth c H locs 0 0 (wQi G A below args s (w_D G d0 d1 d2 d3 d4 d5 d6 d7 d8 d9 d10 d11 d12 d_n d_a d_b d_c d_k d_x d_y d_d d_r d_w d_e d_1 d_2 d_o d_g d_ra d_rb d_rc d_t) 0 0 v) (F0 m 15 ls []) := by
    intro x1 _z n
    induction n with
    | zero =>
      intro x2 x3 H locs ls hP hD hS hl h
      rw [fX5_isBounded_b15.eq_1] at h
      cases h
    | succ n ih =>
      intro x2 x3 H locs ls hP hD hS hl h
      rw [fX5_isBounded_b15.eq_2] at h
      refine lv_iload_n hx hb dX5_isBounded_15 rfl (lv_at hl 3 rfl) ?_
      refine lv_aload_n hx hb dX5_isBounded_16 rfl (lv_at hl 0 rfl) ?_
      refine va_get (D := G.1) (ci := 5) (v := .int d_n) (C := RX5) (T := TX5) (N := 19) hx hb hts hinX5 hown hK.1 hP 0 rfl rfl 0 (by decide) lk51 (fun _ h9 => h9) rfl dX5_isBounded_17 ?_
      refine lv_icmp_ge (tgt := 79) hx hb dX5_isBounded_20 (by decide) (fun c_832 => ?_) (fun c_832 => ?_)
      · have h := ip c_832 h
        refine lv_iload_n hx hb dX5_isBounded_79 rfl (lv_at hl 2 rfl) ?_
        obtain ⟨hz, h⟩ := zo_inv h
        obtain rfl := Option.some.inj h
        exact wrz hx hb hr hlocks hP hD hS (Nat.le_of_ble_eq_true rfl) (Nat.le_of_ble_eq_true rfl) hz rfl dX5_isBounded_80
      · have h := iq c_832 h
        refine lv_iload_n hx hb dX5_isBounded_23 rfl (lv_at hl 2 rfl) ?_
        refine lv_aload_n hx hb dX5_isBounded_24 rfl (lv_at hl 0 rfl) ?_
        refine lv_iload_n hx hb dX5_isBounded_25 rfl (lv_at hl 1 rfl) ?_
        refine lv_aload_n hx hb dX5_isBounded_26 rfl (lv_at hl 0 rfl) ?_
        refine va_get (D := G.1) (ci := 5) (v := .ref d2) (C := RX5) (T := TX5) (N := 19) hx hb hts hinX5 hown hK.1 hP 0 rfl rfl 2 (by decide) lk13 (fun _ h9 => h9) rfl dX5_isBounded_27 ?_
        refine lv_iload_n hx hb dX5_isBounded_30 rfl (lv_at hl 3 rfl) ?_
        refine wiald h hx hb hK hP 2 rfl dX5_isBounded_31 (fun v_833 h => ?_)
        refine lv_ineg hx hb dX5_isBounded_32 ?_
        refine lv_aload_n hx hb dX5_isBounded_33 rfl (lv_at hl 0 rfl) ?_
        refine va_get (D := G.1) (ci := 5) (v := .ref d1) (C := RX5) (T := TX5) (N := 19) hx hb hts hinX5 hown hK.1 hP 0 rfl rfl 1 (by decide) lk7 (fun _ h9 => h9) rfl dX5_isBounded_34 ?_
        refine lv_iload_n hx hb dX5_isBounded_37 rfl (lv_at hl 3 rfl) ?_
        refine wiald h hx hb hK hP 1 rfl dX5_isBounded_38 (fun v_834 h => ?_)
        obtain ⟨u_835, hc_836, h⟩ := bd_inv h
        refine wafter_i (wr := []) (w2 := (w_D G d0 d1 d2 d3 d4 d5 d6 d7 d8 d9 d10 d11 d12 d_n d_a d_b d_c d_k d_x d_y d_d d_r d_w d_e d_1 d_2 d_o d_g d_ra d_rb d_rc d_t)) (va_runV (As := [.int x1, .int (-v_833), .int v_834]) (rest := [.int x2]) ⟨hx, hb, hml, hown, hts⟩ (kX5_goesOn (l := l) (G := G) d0 d1 d2 d3 d4 d5 d6 d7 d8 d9 d10 d11 d12 d_n d_a d_b d_c d_k d_x d_y d_d d_r d_w d_e d_1 d_2 d_o d_g d_ra d_rb d_rc d_t x1 (-v_833) v_834 N u_835 hc_836 _) (cwV 3 hts gX5_isBounded_X5_goesOn rfl rfl rfl (by decide +kernel) ⟨Nat.le_of_ble_eq_true rfl, Nat.le_of_ble_eq_true rfl⟩) (wPreV hP hD hK [0, 1, 2, 3, 4, 5, 6, 7, 8, 9, 10, 11, 12] rfl rfl (ci := 5) (qb := 0) rfl rfl rfl) rfl rfl hl.1 rfl (lv_room (Nat.le_of_ble_eq_true rfl)) dX5_isBounded_39 ⟨Nat.zero_le _, Nat.zero_le _⟩) hP hD hS hA [0, 1, 2, 3, 4, 5, 6, 7, 8, 9, 10, 11, 12] [] [0, 1, 2, 3, 4, 5, 6, 7, 8, 9, 10, 11, 12] rfl rfl rfl (by decide) rfl rfl (fun H locs hP hD hS => ?_)
        refine lv_if_ne (tgt := 70) hx hb dX5_isBounded_42 (by decide) (fun c_837 => ?_) (fun c_837 => ?_)
        · have h := iq c_837 h
          refine lv_iconst (v := 0) hx hb dX5_isBounded_70 (by decide) ?_
          refine lv_iand hx hb dX5_isBounded_71 ?_
          refine lv_istore_n (lv' := [(2, .int (x2 &&& 0)), (0, .ref d0), (1, .int x1), (3, .int x3)]) hx hb dX5_isBounded_72 rfl hl (by decide) rfl (fun ls hl => ?_)
          refine lv_iinc (v := (x3 + 1)) (lv' := [(3, .int (x3 + 1)), (2, .int (x2 &&& 0)), (0, .ref d0), (1, .int x1)]) hx hb dX5_isBounded_73 hl (k := 3) rfl rfl (by decide) rfl (fun ls hl => ?_)
          refine lv_goto (tgt := 15) hx hb dX5_isBounded_76 (by decide) ?_
          exact ih _ _ _ _ _ hP hD hS (lv_sub hl [2, 3, 1, 0] rfl) h
        · have h := ip c_837 h
          refine lv_aload_n hx hb dX5_isBounded_45 rfl (lv_at hl 0 rfl) ?_
          refine lv_iload_n hx hb dX5_isBounded_46 rfl (lv_at hl 1 rfl) ?_
          refine lv_aload_n hx hb dX5_isBounded_47 rfl (lv_at hl 0 rfl) ?_
          refine va_get (D := G.1) (ci := 5) (v := .ref d2) (C := RX5) (T := TX5) (N := 19) hx hb hts hinX5 hown hK.1 hP 0 rfl rfl 2 (by decide) lk13 (fun _ h9 => h9) rfl dX5_isBounded_48 ?_
          refine lv_iload_n hx hb dX5_isBounded_51 rfl (lv_at hl 3 rfl) ?_
          refine wiald h hx hb hK hP 2 rfl dX5_isBounded_52 (fun v_838 h => ?_)
          refine lv_aload_n hx hb dX5_isBounded_53 rfl (lv_at hl 0 rfl) ?_
          refine va_get (D := G.1) (ci := 5) (v := .ref d1) (C := RX5) (T := TX5) (N := 19) hx hb hts hinX5 hown hK.1 hP 0 rfl rfl 1 (by decide) lk7 (fun _ h9 => h9) rfl dX5_isBounded_54 ?_
          refine lv_iload_n hx hb dX5_isBounded_57 rfl (lv_at hl 3 rfl) ?_
          refine wiald h hx hb hK hP 1 rfl dX5_isBounded_58 (fun v_839 h => ?_)
          refine lv_ineg hx hb dX5_isBounded_59 ?_
          obtain ⟨u_840, hc_841, h⟩ := bd_inv h
          refine wafter_i (wr := []) (w2 := (w_D G d0 d1 d2 d3 d4 d5 d6 d7 d8 d9 d10 d11 d12 d_n d_a d_b d_c d_k d_x d_y d_d d_r d_w d_e d_1 d_2 d_o d_g d_ra d_rb d_rc d_t)) (va_runV (As := [.int x1, .int v_838, .int (-v_839)]) (rest := [.int x2]) ⟨hx, hb, hml, hown, hts⟩ (kX5_goesOn (l := l) (G := G) d0 d1 d2 d3 d4 d5 d6 d7 d8 d9 d10 d11 d12 d_n d_a d_b d_c d_k d_x d_y d_d d_r d_w d_e d_1 d_2 d_o d_g d_ra d_rb d_rc d_t x1 v_838 (-v_839) N u_840 hc_841 _) (cwV 3 hts gX5_isBounded_X5_goesOn rfl rfl rfl (by decide +kernel) ⟨Nat.le_of_ble_eq_true rfl, Nat.le_of_ble_eq_true rfl⟩) (wPreV hP hD hK [0, 1, 2, 3, 4, 5, 6, 7, 8, 9, 10, 11, 12] rfl rfl (ci := 5) (qb := 0) rfl rfl rfl) rfl rfl hl.1 rfl (lv_room (Nat.le_of_ble_eq_true rfl)) dX5_isBounded_60 ⟨Nat.zero_le _, Nat.zero_le _⟩) hP hD hS hA [0, 1, 2, 3, 4, 5, 6, 7, 8, 9, 10, 11, 12] [] [0, 1, 2, 3, 4, 5, 6, 7, 8, 9, 10, 11, 12] rfl rfl rfl (by decide) rfl rfl (fun H locs hP hD hS => ?_)
          refine lv_if_ne (tgt := 70) hx hb dX5_isBounded_63 (by decide) (fun c_842 => ?_) (fun c_842 => ?_)
          · have h := iq c_842 h
            refine lv_iconst (v := 0) hx hb dX5_isBounded_70 (by decide) ?_
            refine lv_iand hx hb dX5_isBounded_71 ?_
            refine lv_istore_n (lv' := [(2, .int (x2 &&& 0)), (0, .ref d0), (1, .int x1), (3, .int x3)]) hx hb dX5_isBounded_72 rfl hl (by decide) rfl (fun ls hl => ?_)
            refine lv_iinc (v := (x3 + 1)) (lv' := [(3, .int (x3 + 1)), (2, .int (x2 &&& 0)), (0, .ref d0), (1, .int x1)]) hx hb dX5_isBounded_73 hl (k := 3) rfl rfl (by decide) rfl (fun ls hl => ?_)
            refine lv_goto (tgt := 15) hx hb dX5_isBounded_76 (by decide) ?_
            exact ih _ _ _ _ _ hP hD hS (lv_sub hl [2, 3, 1, 0] rfl) h
          · have h := ip c_842 h
            refine lv_iconst (v := 1) hx hb dX5_isBounded_66 (by decide) ?_
            refine lv_goto (tgt := 71) hx hb dX5_isBounded_67 (by decide) ?_
            refine lv_iand hx hb dX5_isBounded_71 ?_
            refine lv_istore_n (lv' := [(2, .int (x2 &&& 1)), (0, .ref d0), (1, .int x1), (3, .int x3)]) hx hb dX5_isBounded_72 rfl hl (by decide) rfl (fun ls hl => ?_)
            refine lv_iinc (v := (x3 + 1)) (lv' := [(3, .int (x3 + 1)), (2, .int (x2 &&& 1)), (0, .ref d0), (1, .int x1)]) hx hb dX5_isBounded_73 hl (k := 3) rfl rfl (by decide) rfl (fun ls hl => ?_)
            refine lv_goto (tgt := 15) hx hb dX5_isBounded_76 (by decide) ?_
            exact ih _ _ _ _ _ hP hD hS (lv_sub hl [2, 3, 1, 0] rfl) h
  rw [fX5_isBounded.eq_1] at h
  refine lv_aload_n hx hb dX5_isBounded_0 rfl (lv_at hl 0 rfl) ?_
  refine va_get (D := G.1) (ci := 5) (v := .int d_n) (C := RX5) (T := TX5) (N := 19) hx hb hts hinX5 hown hK.1 hP 0 rfl rfl 0 (by decide) lk51 (fun _ h9 => h9) rfl dX5_isBounded_1 ?_
  refine lv_if_le (tgt := 11) hx hb dX5_isBounded_4 (by decide) (fun c_843 => ?_) (fun c_843 => ?_)
  · have h := ip c_843 h
    refine lv_iconst (v := 0) hx hb dX5_isBounded_11 (by decide) ?_
    refine lv_istore_n (lv' := [(2, .int 0), (0, .ref d0), (1, .int x1)]) hx hb dX5_isBounded_12 rfl hl (by decide) rfl (fun ls hl => ?_)
    refine lv_iconst (v := 0) hx hb dX5_isBounded_13 (by decide) ?_
    refine lv_istore_n (lv' := [(3, .int 0), (2, .int 0), (0, .ref d0), (1, .int x1)]) hx hb dX5_isBounded_14 rfl hl (by decide) rfl (fun ls hl => ?_)
    exact w_15  _  ()  N _ _  _ _ _ hP hD hS (lv_sub hl [2, 3, 1, 0] rfl) h
  · have h := iq c_843 h
    refine lv_iconst (v := 1) hx hb dX5_isBounded_7 (by decide) ?_
    refine lv_goto (tgt := 12) hx hb dX5_isBounded_8 (by decide) ?_
    refine lv_istore_n (lv' := [(2, .int 1), (0, .ref d0), (1, .int x1)]) hx hb dX5_isBounded_12 rfl hl (by decide) rfl (fun ls hl => ?_)
    refine lv_iconst (v := 0) hx hb dX5_isBounded_13 (by decide) ?_
    refine lv_istore_n (lv' := [(3, .int 0), (2, .int 1), (0, .ref d0), (1, .int x1)]) hx hb dX5_isBounded_14 rfl hl (by decide) rfl (fun ls hl => ?_)
    exact w_15  _  ()  N _ _  _ _ _ hP hD hS (lv_sub hl [2, 3, 1, 0] rfl) h
def fX5_isCorner_b5 (N : Nat) (d_n : Int32) (d_a : Nat → Int32) (d_b : Nat → Int32) (d_c : Nat → Int32) (d_x : Nat → Int32) (d_y : Nat → Int32) (d_d : Nat → Int32) (x1 : Int32) (x2 : Int32) : Nat → Int32 → Int32 → Option (Int32)
  | 0, _, _ => none
  | n + 1, x3, x4 => if d_n ≤ x4 then zo x3 (some x3) else if ((x1 >>> (x4 &&& 31)) &&& 1) = 1 then bd (fX5_side N d_a d_b d_c d_x d_y d_d x4 x2) (fun u_849 => if u_849 < 0 then fX5_isCorner_b5 N d_n d_a d_b d_c d_x d_y d_d x1 x2 n (x3 &&& 0) (x4 + 1) else fX5_isCorner_b5 N d_n d_a d_b d_c d_x d_y d_d x1 x2 n (x3 &&& 1) (x4 + 1)) else bd (fX5_side N d_a d_b d_c d_x d_y d_d x4 x2) (fun u_846 => if 0 < u_846 then fX5_isCorner_b5 N d_n d_a d_b d_c d_x d_y d_d x1 x2 n (x3 &&& 0) (x4 + 1) else fX5_isCorner_b5 N d_n d_a d_b d_c d_x d_y d_d x1 x2 n (x3 &&& 1) (x4 + 1))
def fX5_isCorner (N : Nat) (d_n : Int32) (d_a : Nat → Int32) (d_b : Nat → Int32) (d_c : Nat → Int32) (d_x : Nat → Int32) (d_y : Nat → Int32) (d_d : Nat → Int32) (x1 : Int32) (x2 : Int32) : Option (Int32) := fX5_isCorner_b5 N d_n d_a d_b d_c d_x d_y d_d x1 x2 N 1 0
set_option maxHeartbeats 4000000 in
set_option maxRecDepth 100000 in
theorem kX5_isCorner {l : Launch} {G : wG} (d0 d1 d2 d3 d4 d5 d6 d7 d8 d9 d10 d11 d12 : Nat) (d_n : Int32) (d_a : Nat → Int32) (d_b : Nat → Int32) (d_c : Nat → Int32) (d_k : Int32) (d_x : Nat → Int32) (d_y : Nat → Int32) (d_d : Nat → Int32) (d_r : Nat → Int32) (d_w : Nat → Int32) (d_e : Int32) (d_1 : Nat → Int32) (d_2 : Nat → Int32) (d_o : Nat → Int32) (d_g : Nat → Int32) (d_ra : Int32) (d_rb : Int32) (d_rc : Int32) (d_t : Int32) (x1 : Int32) (x2 : Int32) (N : Nat) (v : Int32) (h : fX5_isCorner N d_n d_a d_b d_c d_x d_y d_d x1 x2 = some v) : wCi l G yX5_isCorner wsX5_isCorner ({ frames := 2, cells := 0, slots := 0, locals := 42 } : Room) [.ref d0, .int x1, .int x2] (w_D G d0 d1 d2 d3 d4 d5 d6 d7 d8 d9 d10 d11 d12 d_n d_a d_b d_c d_k d_x d_y d_d d_r d_w d_e d_1 d_2 d_o d_g d_ra d_rb d_rc d_t) (w_D G d0 d1 d2 d3 d4 d5 d6 d7 d8 d9 d10 d11 d12 d_n d_a d_b d_c d_k d_x d_y d_d d_r d_w d_e d_1 d_2 d_o d_g d_ra d_rb d_rc d_t) 0 0 v := by
  refine wCi.mk (cc := cX5_isCorner) (maxL := 5) (ty := .boolean) (by decide) rfl (Nat.le_of_ble_eq_true rfl) ?_
  intro p e s m below meth c A ls hx hb hml hr hlocks hts hown hK hA hP hD hl
  have hx : p.tables.exec = Jvm.exec := hx
  have hown : s.vm.findClass RX5 = some m.cls := hown
  have hinX5 : ∀ w ∈ wsX50, w ∈ wsX5_isCorner := by decide +kernel
  have lk51 := hts (.fieldLink RX5 51 "ChamberwrightModel" "lines" "I") (by decide +kernel)
  have hS : va_S A s.heap s.heap [] := va_S.rf
  have hP : va_P G.1 vwCl (w_D G d0 d1 d2 d3 d4 d5 d6 d7 d8 d9 d10 d11 d12 d_n d_a d_b d_c d_k d_x d_y d_d d_r d_w d_e d_1 d_2 d_o d_g d_ra d_rb d_rc d_t) s.heap := hP
  have hD : va_D A (w_D G d0 d1 d2 d3 d4 d5 d6 d7 d8 d9 d10 d11 d12 d_n d_a d_b d_c d_k d_x d_y d_d d_r d_w d_e d_1 d_2 d_o d_g d_ra d_rb d_rc d_t) := hD
  have hl : lv_has ls 5 [(0, .ref d0), (1, .int x1), (2, .int x2)] := hl
  obtain ⟨args, hargs⟩ : ∃ z : Array Value, z = ([.ref d0, .int x1, .int x2] : List Value).toArray := ⟨_, rfl⟩
  rw [← hargs]
  rw [← hargs] at hts
  have w_5 : ∀ (x1 : Int32) (x2 : Int32)  (_z : Unit), ∀ (n : Nat) (x3 : Int32) (x4 : Int32)  (H : Heap) (locs : List Loc) (ls : Array Slot), va_P G.1 vwCl (w_D G d0 d1 d2 d3 d4 d5 d6 d7 d8 d9 d10 d11 d12 d_n d_a d_b d_c d_k d_x d_y d_d d_r d_w d_e d_1 d_2 d_o d_g d_ra d_rb d_rc d_t) H → va_D A (w_D G d0 d1 d2 d3 d4 d5 d6 d7 d8 d9 d10 d11 d12 d_n d_a d_b d_c d_k d_x d_y d_d d_r d_w d_e d_1 d_2 d_o d_g d_ra d_rb d_rc d_t) → va_S A s.heap H locs → lv_has ls 5 [(0, .ref d0), (1, .int x1), (2, .int x2), (3, .int x3), (4, .int x4)] → fX5_isCorner_b5 N d_n d_a d_b d_c d_x d_y d_d x1 x2 n x3 x4 = some v → W p l e ({ frames := 2, cells := 0, slots := 0, locals := 42 } : Room) s m args below meth c H locs 0 0 (wQi G A below args s (w_D G d0 d1 d2 d3 d4 d5 d6 d7 d8 d9 d10 d11 d12 d_n d_a d_b d_c d_k d_x d_y d_d d_r d_w d_e d_1 d_2 d_o d_g d_ra d_rb d_rc d_t) 0 0 v) (F0 m 5 ls []) := by
    intro x1 x2 _z n
    induction n with
    | zero =>
      intro x3 x4 H locs ls hP hD hS hl h
      rw [fX5_isCorner_b5.eq_1] at h
      cases h
    | succ n ih =>
      intro x3 x4 H locs ls hP hD hS hl h
      rw [fX5_isCorner_b5.eq_2] at h
      refine lv_iload hx hb dX5_isCorner_5 (lv_at hl 4 rfl) ?_
      refine lv_aload_n hx hb dX5_isCorner_7 rfl (lv_at hl 0 rfl) ?_
      refine va_get (D := G.1) (ci := 5) (v := .int d_n) (C := RX5) (T := TX5) (N := 19) hx hb hts hinX5 hown hK.1 hP 0 rfl rfl 0 (by decide) lk51 (fun _ h9 => h9) rfl dX5_isCorner_8 ?_
      refine lv_icmp_ge (tgt := 66) hx hb dX5_isCorner_11 (by decide) (fun c_844 => ?_) (fun c_844 => ?_)
      · have h := ip c_844 h
        refine lv_iload_n hx hb dX5_isCorner_66 rfl (lv_at hl 3 rfl) ?_
        obtain ⟨hz, h⟩ := zo_inv h
        obtain rfl := Option.some.inj h
        exact wrz hx hb hr hlocks hP hD hS (Nat.le_of_ble_eq_true rfl) (Nat.le_of_ble_eq_true rfl) hz rfl dX5_isCorner_67
      · have h := iq c_844 h
        refine lv_iload_n hx hb dX5_isCorner_14 rfl (lv_at hl 3 rfl) ?_
        refine lv_iload_n hx hb dX5_isCorner_15 rfl (lv_at hl 1 rfl) ?_
        refine lv_iload hx hb dX5_isCorner_16 (lv_at hl 4 rfl) ?_
        refine lv_ishr hx hb dX5_isCorner_18 ?_
        refine lv_iconst (v := 1) hx hb dX5_isCorner_19 (by decide) ?_
        refine lv_iand hx hb dX5_isCorner_20 ?_
        refine lv_iconst (v := 1) hx hb dX5_isCorner_21 (by decide) ?_
        refine lv_icmp_ne (tgt := 43) hx hb dX5_isCorner_22 (by decide) (fun c_845 => ?_) (fun c_845 => ?_)
        · have h := iq c_845 h
          refine lv_aload_n hx hb dX5_isCorner_43 rfl (lv_at hl 0 rfl) ?_
          refine lv_iload hx hb dX5_isCorner_44 (lv_at hl 4 rfl) ?_
          refine lv_iload_n hx hb dX5_isCorner_46 rfl (lv_at hl 2 rfl) ?_
          obtain ⟨u_846, hc_847, h⟩ := bd_inv h
          refine wafter_i (wr := []) (w2 := (w_D G d0 d1 d2 d3 d4 d5 d6 d7 d8 d9 d10 d11 d12 d_n d_a d_b d_c d_k d_x d_y d_d d_r d_w d_e d_1 d_2 d_o d_g d_ra d_rb d_rc d_t)) (va_runV (As := [.int x4, .int x2]) (rest := [.int x3]) ⟨hx, hb, hml, hown, hts⟩ (kX5_side (l := l) (G := G) d0 d1 d2 d3 d4 d5 d6 d7 d8 d9 d10 d11 d12 d_n d_a d_b d_c d_k d_x d_y d_d d_r d_w d_e d_1 d_2 d_o d_g d_ra d_rb d_rc d_t x4 x2 N u_846 hc_847 _) (cwV 2 hts gX5_isCorner_X5_side rfl rfl rfl (by decide +kernel) ⟨Nat.le_of_ble_eq_true rfl, Nat.le_of_ble_eq_true rfl⟩) (wPreV hP hD hK [0, 1, 2, 3, 4, 5, 6, 7, 8, 9, 10, 11, 12] rfl rfl (ci := 5) (qb := 0) rfl rfl rfl) rfl rfl hl.1 rfl (lv_room (Nat.le_of_ble_eq_true rfl)) dX5_isCorner_47 ⟨Nat.zero_le _, Nat.zero_le _⟩) hP hD hS hA [0, 1, 2, 3, 4, 5, 6, 7, 8, 9, 10, 11, 12] [] [0, 1, 2, 3, 4, 5, 6, 7, 8, 9, 10, 11, 12] rfl rfl rfl (by decide) rfl rfl (fun H locs hP hD hS => ?_)
          refine lv_if_gt (tgt := 57) hx hb dX5_isCorner_50 (by decide) (fun c_848 => ?_) (fun c_848 => ?_)
          · have h := ip c_848 h
            refine lv_iconst (v := 0) hx hb dX5_isCorner_57 (by decide) ?_
            refine lv_iand hx hb dX5_isCorner_58 ?_
            refine lv_istore_n (lv' := [(3, .int (x3 &&& 0)), (0, .ref d0), (1, .int x1), (2, .int x2), (4, .int x4)]) hx hb dX5_isCorner_59 rfl hl (by decide) rfl (fun ls hl => ?_)
            refine lv_iinc (v := (x4 + 1)) (lv' := [(4, .int (x4 + 1)), (3, .int (x3 &&& 0)), (0, .ref d0), (1, .int x1), (2, .int x2)]) hx hb dX5_isCorner_60 hl (k := 4) rfl rfl (by decide) rfl (fun ls hl => ?_)
            refine lv_goto (tgt := 5) hx hb dX5_isCorner_63 (by decide) ?_
            exact ih _ _ _ _ _ hP hD hS (lv_sub hl [2, 3, 4, 1, 0] rfl) h
          · have h := iq c_848 h
            refine lv_iconst (v := 1) hx hb dX5_isCorner_53 (by decide) ?_
            refine lv_goto (tgt := 58) hx hb dX5_isCorner_54 (by decide) ?_
            refine lv_iand hx hb dX5_isCorner_58 ?_
            refine lv_istore_n (lv' := [(3, .int (x3 &&& 1)), (0, .ref d0), (1, .int x1), (2, .int x2), (4, .int x4)]) hx hb dX5_isCorner_59 rfl hl (by decide) rfl (fun ls hl => ?_)
            refine lv_iinc (v := (x4 + 1)) (lv' := [(4, .int (x4 + 1)), (3, .int (x3 &&& 1)), (0, .ref d0), (1, .int x1), (2, .int x2)]) hx hb dX5_isCorner_60 hl (k := 4) rfl rfl (by decide) rfl (fun ls hl => ?_)
            refine lv_goto (tgt := 5) hx hb dX5_isCorner_63 (by decide) ?_
            exact ih _ _ _ _ _ hP hD hS (lv_sub hl [2, 3, 4, 1, 0] rfl) h
        · have h := ip c_845 h
          refine lv_aload_n hx hb dX5_isCorner_25 rfl (lv_at hl 0 rfl) ?_
          refine lv_iload hx hb dX5_isCorner_26 (lv_at hl 4 rfl) ?_
          refine lv_iload_n hx hb dX5_isCorner_28 rfl (lv_at hl 2 rfl) ?_
          obtain ⟨u_849, hc_850, h⟩ := bd_inv h
          refine wafter_i (wr := []) (w2 := (w_D G d0 d1 d2 d3 d4 d5 d6 d7 d8 d9 d10 d11 d12 d_n d_a d_b d_c d_k d_x d_y d_d d_r d_w d_e d_1 d_2 d_o d_g d_ra d_rb d_rc d_t)) (va_runV (As := [.int x4, .int x2]) (rest := [.int x3]) ⟨hx, hb, hml, hown, hts⟩ (kX5_side (l := l) (G := G) d0 d1 d2 d3 d4 d5 d6 d7 d8 d9 d10 d11 d12 d_n d_a d_b d_c d_k d_x d_y d_d d_r d_w d_e d_1 d_2 d_o d_g d_ra d_rb d_rc d_t x4 x2 N u_849 hc_850 _) (cwV 2 hts gX5_isCorner_X5_side rfl rfl rfl (by decide +kernel) ⟨Nat.le_of_ble_eq_true rfl, Nat.le_of_ble_eq_true rfl⟩) (wPreV hP hD hK [0, 1, 2, 3, 4, 5, 6, 7, 8, 9, 10, 11, 12] rfl rfl (ci := 5) (qb := 0) rfl rfl rfl) rfl rfl hl.1 rfl (lv_room (Nat.le_of_ble_eq_true rfl)) dX5_isCorner_29 ⟨Nat.zero_le _, Nat.zero_le _⟩) hP hD hS hA [0, 1, 2, 3, 4, 5, 6, 7, 8, 9, 10, 11, 12] [] [0, 1, 2, 3, 4, 5, 6, 7, 8, 9, 10, 11, 12] rfl rfl rfl (by decide) rfl rfl (fun H locs hP hD hS => ?_)
          refine lv_if_lt (tgt := 39) hx hb dX5_isCorner_32 (by decide) (fun c_851 => ?_) (fun c_851 => ?_)
          · have h := ip c_851 h
            refine lv_iconst (v := 0) hx hb dX5_isCorner_39 (by decide) ?_
            refine lv_goto (tgt := 58) hx hb dX5_isCorner_40 (by decide) ?_
            refine lv_iand hx hb dX5_isCorner_58 ?_
            refine lv_istore_n (lv' := [(3, .int (x3 &&& 0)), (0, .ref d0), (1, .int x1), (2, .int x2), (4, .int x4)]) hx hb dX5_isCorner_59 rfl hl (by decide) rfl (fun ls hl => ?_)
            refine lv_iinc (v := (x4 + 1)) (lv' := [(4, .int (x4 + 1)), (3, .int (x3 &&& 0)), (0, .ref d0), (1, .int x1), (2, .int x2)]) hx hb dX5_isCorner_60 hl (k := 4) rfl rfl (by decide) rfl (fun ls hl => ?_)
            refine lv_goto (tgt := 5) hx hb dX5_isCorner_63 (by decide) ?_
            exact ih _ _ _ _ _ hP hD hS (lv_sub hl [2, 3, 4, 1, 0] rfl) h
          · have h := iq c_851 h
            refine lv_iconst (v := 1) hx hb dX5_isCorner_35 (by decide) ?_
            refine lv_goto (tgt := 58) hx hb dX5_isCorner_36 (by decide) ?_
            refine lv_iand hx hb dX5_isCorner_58 ?_
            refine lv_istore_n (lv' := [(3, .int (x3 &&& 1)), (0, .ref d0), (1, .int x1), (2, .int x2), (4, .int x4)]) hx hb dX5_isCorner_59 rfl hl (by decide) rfl (fun ls hl => ?_)
            refine lv_iinc (v := (x4 + 1)) (lv' := [(4, .int (x4 + 1)), (3, .int (x3 &&& 1)), (0, .ref d0), (1, .int x1), (2, .int x2)]) hx hb dX5_isCorner_60 hl (k := 4) rfl rfl (by decide) rfl (fun ls hl => ?_)
            refine lv_goto (tgt := 5) hx hb dX5_isCorner_63 (by decide) ?_
            exact ih _ _ _ _ _ hP hD hS (lv_sub hl [2, 3, 4, 1, 0] rfl) h
  rw [fX5_isCorner.eq_1] at h
  refine lv_iconst (v := 1) hx hb dX5_isCorner_0 (by decide) ?_
  refine lv_istore_n (lv' := [(3, .int 1), (0, .ref d0), (1, .int x1), (2, .int x2)]) hx hb dX5_isCorner_1 rfl hl (by decide) rfl (fun ls hl => ?_)
  refine lv_iconst (v := 0) hx hb dX5_isCorner_2 (by decide) ?_
  refine lv_istore (lv' := [(4, .int 0), (3, .int 1), (0, .ref d0), (1, .int x1), (2, .int x2)]) hx hb dX5_isCorner_3 hl (by decide) rfl (fun ls hl => ?_)
  exact w_5  _ _  ()  N _ _  _ _ _ hP hD hS (lv_sub hl [2, 3, 4, 1, 0] rfl) h
def fX5_rooms (N : Nat) (d_n : Int32) (d_a : Nat → Int32) (d_b : Nat → Int32) (d_c : Nat → Int32) (d_k : Int32) (d_x : Nat → Int32) (d_y : Nat → Int32) (d_d : Nat → Int32) (d_r : Nat → Int32) (d_t : Int32) : Option (Int32 × Int32 × (Nat → Int32) × (Nat → Int32) × (Nat → Int32) × (Nat → Int32) × Int32) := bd (fX5_findRooms N d_n d_a d_b d_c d_k d_x d_y d_d d_r) (fun u_852 => bd (fX5_countRooms N u_852.2.2.2.2) (fun u_854 => some (u_854, u_852.1, u_852.2.1, u_852.2.2.1, u_852.2.2.2.1, u_852.2.2.2.2, 0)))
set_option maxHeartbeats 4000000 in
set_option maxRecDepth 100000 in
theorem kX5_rooms {l : Launch} {G : wG} (d0 d1 d2 d3 d4 d5 d6 d7 d8 d9 d10 d11 d12 : Nat) (d_n : Int32) (d_a : Nat → Int32) (d_b : Nat → Int32) (d_c : Nat → Int32) (d_k : Int32) (d_x : Nat → Int32) (d_y : Nat → Int32) (d_d : Nat → Int32) (d_r : Nat → Int32) (d_w : Nat → Int32) (d_e : Int32) (d_1 : Nat → Int32) (d_2 : Nat → Int32) (d_o : Nat → Int32) (d_g : Nat → Int32) (d_ra : Int32) (d_rb : Int32) (d_rc : Int32) (d_t : Int32) (N : Nat) (v : Int32 × Int32 × (Nat → Int32) × (Nat → Int32) × (Nat → Int32) × (Nat → Int32) × Int32) (h : fX5_rooms N d_n d_a d_b d_c d_k d_x d_y d_d d_r d_t = some v) : wCi l G yX5_rooms wsX5_rooms ({ frames := 4, cells := 0, slots := 0, locals := 99 } : Room) [.ref d0] (w_D G d0 d1 d2 d3 d4 d5 d6 d7 d8 d9 d10 d11 d12 d_n d_a d_b d_c d_k d_x d_y d_d d_r d_w d_e d_1 d_2 d_o d_g d_ra d_rb d_rc d_t) (w_D G d0 d1 d2 d3 d4 d5 d6 d7 d8 d9 d10 d11 d12 d_n d_a d_b d_c v.2.1 v.2.2.1 v.2.2.2.1 v.2.2.2.2.1 v.2.2.2.2.2.1 d_w d_e d_1 d_2 d_o d_g d_ra d_rb d_rc v.2.2.2.2.2.2) 0 0 v.1 := by
  refine wCi.mk (cc := cX5_rooms) (maxL := 1) (ty := .int) (by decide) rfl (Nat.le_of_ble_eq_true rfl) ?_
  intro p e s m below meth c A ls hx hb hml hr hlocks hts hown hK hA hP hD hl
  have hx : p.tables.exec = Jvm.exec := hx
  have hown : s.vm.findClass RX5 = some m.cls := hown
  have hinX5 : ∀ w ∈ wsX50, w ∈ wsX5_rooms := by decide +kernel
  have lk47 := hts (.fieldLink RX5 47 "ChamberwrightModel" "thrown" "I") (by decide +kernel)
  have hS : va_S A s.heap s.heap [] := va_S.rf
  have hP : va_P G.1 vwCl (w_D G d0 d1 d2 d3 d4 d5 d6 d7 d8 d9 d10 d11 d12 d_n d_a d_b d_c d_k d_x d_y d_d d_r d_w d_e d_1 d_2 d_o d_g d_ra d_rb d_rc d_t) s.heap := hP
  have hD : va_D A (w_D G d0 d1 d2 d3 d4 d5 d6 d7 d8 d9 d10 d11 d12 d_n d_a d_b d_c d_k d_x d_y d_d d_r d_w d_e d_1 d_2 d_o d_g d_ra d_rb d_rc d_t) := hD
  have hl : lv_has ls 1 [(0, .ref d0)] := hl
  obtain ⟨args, hargs⟩ : ∃ z : Array Value, z = ([.ref d0] : List Value).toArray := ⟨_, rfl⟩
  rw [← hargs]
  rw [← hargs] at hts
  rw [fX5_rooms.eq_1] at h
  refine lv_aload_n hx hb dX5_rooms_0 rfl (lv_at hl 0 rfl) ?_
  refine lv_iconst (v := 0) hx hb dX5_rooms_1 (by decide) ?_
  refine va_put (D := G.1) (ci := 5) (v := .int 0) (ty := .int) (C := RX5) (T := TX5) (N := 19) hx hb hts hinX5 tyX5 tyX5_ok nmX5 hown hK.1 hP hD hS 0 rfl rfl 18 (by decide) lk47 (fun _ h9 => h9) rfl (by decide +kernel) rfl rfl (Nat.le_of_ble_eq_true rfl) dX5_rooms_2 (fun H locs hP hD hS => ?_)
  have hP : va_P G.1 vwCl (w_D G d0 d1 d2 d3 d4 d5 d6 d7 d8 d9 d10 d11 d12 d_n d_a d_b d_c d_k d_x d_y d_d d_r d_w d_e d_1 d_2 d_o d_g d_ra d_rb d_rc 0) H := hP
  have hD : va_D A (w_D G d0 d1 d2 d3 d4 d5 d6 d7 d8 d9 d10 d11 d12 d_n d_a d_b d_c d_k d_x d_y d_d d_r d_w d_e d_1 d_2 d_o d_g d_ra d_rb d_rc 0) := hD
  refine lv_aload_n hx hb dX5_rooms_5 rfl (lv_at hl 0 rfl) ?_
  obtain ⟨u_852, hc_853, h⟩ := bd_inv h
  refine wafter_v (wr := []) (w2 := (w_D G d0 d1 d2 d3 d4 d5 d6 d7 d8 d9 d10 d11 d12 d_n d_a d_b d_c u_852.1 u_852.2.1 u_852.2.2.1 u_852.2.2.2.1 u_852.2.2.2.2 d_w d_e d_1 d_2 d_o d_g d_ra d_rb d_rc 0)) (va_runV (As := []) (rest := []) ⟨hx, hb, hml, hown, hts⟩ (kX5_findRooms (l := l) (G := G) d0 d1 d2 d3 d4 d5 d6 d7 d8 d9 d10 d11 d12 d_n d_a d_b d_c d_k d_x d_y d_d d_r d_w d_e d_1 d_2 d_o d_g d_ra d_rb d_rc 0  N u_852 hc_853 _) (cwV 0 hts gX5_rooms_X5_findRooms rfl rfl rfl (by decide +kernel) ⟨Nat.le_of_ble_eq_true rfl, Nat.le_of_ble_eq_true rfl⟩) (wPreV hP hD hK [0, 1, 2, 3, 4, 5, 6, 7, 8, 9, 10, 11, 12] rfl rfl (ci := 5) (qb := 0) rfl rfl rfl) rfl rfl hl.1 rfl (lv_room (Nat.le_of_ble_eq_true rfl)) dX5_rooms_6 ⟨Nat.zero_le _, Nat.zero_le _⟩) hP hD hS hA [0, 1, 2, 3, 4, 5, 6, 7, 8, 9, 10, 11, 12] [] [0, 1, 2, 3, 4, 5, 6, 7, 8, 9, 10, 11, 12] rfl rfl rfl (by decide) rfl rfl (fun H locs hP hD hS => ?_)
  refine lv_aload_n hx hb dX5_rooms_9 rfl (lv_at hl 0 rfl) ?_
  obtain ⟨u_854, hc_855, h⟩ := bd_inv h
  refine wafter_i (wr := []) (w2 := (w_D G d0 d1 d2 d3 d4 d5 d6 d7 d8 d9 d10 d11 d12 d_n d_a d_b d_c u_852.1 u_852.2.1 u_852.2.2.1 u_852.2.2.2.1 u_852.2.2.2.2 d_w d_e d_1 d_2 d_o d_g d_ra d_rb d_rc 0)) (va_runV (As := []) (rest := []) ⟨hx, hb, hml, hown, hts⟩ (kX5_countRooms (l := l) (G := G) d0 d1 d2 d3 d4 d5 d6 d7 d8 d9 d10 d11 d12 d_n d_a d_b d_c u_852.1 u_852.2.1 u_852.2.2.1 u_852.2.2.2.1 u_852.2.2.2.2 d_w d_e d_1 d_2 d_o d_g d_ra d_rb d_rc 0  N u_854 hc_855 _) (cwV 0 hts gX5_rooms_X5_countRooms rfl rfl rfl (by decide +kernel) ⟨Nat.le_of_ble_eq_true rfl, Nat.le_of_ble_eq_true rfl⟩) (wPreV hP hD hK [0, 1, 2, 3, 4, 5, 6, 7, 8, 9, 10, 11, 12] rfl rfl (ci := 5) (qb := 0) rfl rfl rfl) rfl rfl hl.1 rfl (lv_room (Nat.le_of_ble_eq_true rfl)) dX5_rooms_10 ⟨Nat.zero_le _, Nat.zero_le _⟩) hP hD hS hA [0, 1, 2, 3, 4, 5, 6, 7, 8, 9, 10, 11, 12] [] [0, 1, 2, 3, 4, 5, 6, 7, 8, 9, 10, 11, 12] rfl rfl rfl (by decide) rfl rfl (fun H locs hP hD hS => ?_)
  obtain rfl := Option.some.inj h
  exact wri hx hb hr hlocks hP hD hS (Nat.le_of_ble_eq_true rfl) (Nat.le_of_ble_eq_true rfl) rfl dX5_rooms_13
def fX5_bounded_b13 (N : Nat) (d_n : Int32) (d_a : Nat → Int32) (d_b : Nat → Int32) (d_k : Int32) (d_x : Nat → Int32) (d_y : Nat → Int32) (d_d : Nat → Int32) (d_r : Nat → Int32) (d_t : Int32) : Nat → Int32 → Int32 → Option (Int32 × Int32 × (Nat → Int32) × (Nat → Int32) × (Nat → Int32) × (Nat → Int32) × Int32)
  | 0, _, _ => none
  | n + 1, x1, x2 => if 512 ≤ x2 then some (x1, d_k, d_x, d_y, d_d, d_r, d_t) else rd d_r 512 x2 (fun v_857 => if v_857 = 0 then fX5_bounded_b13 N d_n d_a d_b d_k d_x d_y d_d d_r d_t n (x1 + 0) (x2 + 1) else bd (fX5_isBounded N d_n d_a d_b x2) (fun u_859 => if u_859 = 0 then fX5_bounded_b13 N d_n d_a d_b d_k d_x d_y d_d d_r d_t n (x1 + 0) (x2 + 1) else fX5_bounded_b13 N d_n d_a d_b d_k d_x d_y d_d d_r d_t n (x1 + 1) (x2 + 1)))
def fX5_bounded (N : Nat) (d_n : Int32) (d_a : Nat → Int32) (d_b : Nat → Int32) (d_c : Nat → Int32) (d_k : Int32) (d_x : Nat → Int32) (d_y : Nat → Int32) (d_d : Nat → Int32) (d_r : Nat → Int32) (d_t : Int32) : Option (Int32 × Int32 × (Nat → Int32) × (Nat → Int32) × (Nat → Int32) × (Nat → Int32) × Int32) := bd (fX5_findRooms N d_n d_a d_b d_c d_k d_x d_y d_d d_r) (fun u_862 => fX5_bounded_b13 N d_n d_a d_b u_862.1 u_862.2.1 u_862.2.2.1 u_862.2.2.2.1 u_862.2.2.2.2 0 N 0 0)
set_option maxHeartbeats 4000000 in
set_option maxRecDepth 100000 in
theorem kX5_bounded {l : Launch} {G : wG} (d0 d1 d2 d3 d4 d5 d6 d7 d8 d9 d10 d11 d12 : Nat) (d_n : Int32) (d_a : Nat → Int32) (d_b : Nat → Int32) (d_c : Nat → Int32) (d_k : Int32) (d_x : Nat → Int32) (d_y : Nat → Int32) (d_d : Nat → Int32) (d_r : Nat → Int32) (d_w : Nat → Int32) (d_e : Int32) (d_1 : Nat → Int32) (d_2 : Nat → Int32) (d_o : Nat → Int32) (d_g : Nat → Int32) (d_ra : Int32) (d_rb : Int32) (d_rc : Int32) (d_t : Int32) (N : Nat) (v : Int32 × Int32 × (Nat → Int32) × (Nat → Int32) × (Nat → Int32) × (Nat → Int32) × Int32) (h : fX5_bounded N d_n d_a d_b d_c d_k d_x d_y d_d d_r d_t = some v) : wCi l G yX5_bounded wsX5_bounded ({ frames := 4, cells := 0, slots := 0, locals := 99 } : Room) [.ref d0] (w_D G d0 d1 d2 d3 d4 d5 d6 d7 d8 d9 d10 d11 d12 d_n d_a d_b d_c d_k d_x d_y d_d d_r d_w d_e d_1 d_2 d_o d_g d_ra d_rb d_rc d_t) (w_D G d0 d1 d2 d3 d4 d5 d6 d7 d8 d9 d10 d11 d12 d_n d_a d_b d_c v.2.1 v.2.2.1 v.2.2.2.1 v.2.2.2.2.1 v.2.2.2.2.2.1 d_w d_e d_1 d_2 d_o d_g d_ra d_rb d_rc v.2.2.2.2.2.2) 0 0 v.1 := by
  refine wCi.mk (cc := cX5_bounded) (maxL := 3) (ty := .int) (by decide) rfl (Nat.le_of_ble_eq_true rfl) ?_
  intro p e s m below meth c A ls hx hb hml hr hlocks hts hown hK hA hP hD hl
  have hx : p.tables.exec = Jvm.exec := hx
  have hown : s.vm.findClass RX5 = some m.cls := hown
  have hinX5 : ∀ w ∈ wsX50, w ∈ wsX5_bounded := by decide +kernel
  have lk28 := hts (.fieldLink RX5 28 "ChamberwrightModel" "isRoom" "[Z") (by decide +kernel)
  have lk47 := hts (.fieldLink RX5 47 "ChamberwrightModel" "thrown" "I") (by decide +kernel)
  have hS : va_S A s.heap s.heap [] := va_S.rf
  have hP : va_P G.1 vwCl (w_D G d0 d1 d2 d3 d4 d5 d6 d7 d8 d9 d10 d11 d12 d_n d_a d_b d_c d_k d_x d_y d_d d_r d_w d_e d_1 d_2 d_o d_g d_ra d_rb d_rc d_t) s.heap := hP
  have hD : va_D A (w_D G d0 d1 d2 d3 d4 d5 d6 d7 d8 d9 d10 d11 d12 d_n d_a d_b d_c d_k d_x d_y d_d d_r d_w d_e d_1 d_2 d_o d_g d_ra d_rb d_rc d_t) := hD
  have hl : lv_has ls 3 [(0, .ref d0)] := hl
  obtain ⟨args, hargs⟩ : ∃ z : Array Value, z = ([.ref d0] : List Value).toArray := ⟨_, rfl⟩
  rw [← hargs]
  rw [← hargs] at hts
  have w_13 : ∀  (d_k : Int32) (d_x : Nat → Int32) (d_y : Nat → Int32) (d_d : Nat → Int32) (d_r : Nat → Int32) (d_t : Int32) (_z : Unit), ∀ (n : Nat) (x1 : Int32) (x2 : Int32)  (H : Heap) (locs : List Loc) (ls : Array Slot), va_P G.1 vwCl (w_D G d0 d1 d2 d3 d4 d5 d6 d7 d8 d9 d10 d11 d12 d_n d_a d_b d_c d_k d_x d_y d_d d_r d_w d_e d_1 d_2 d_o d_g d_ra d_rb d_rc d_t) H → va_D A (w_D G d0 d1 d2 d3 d4 d5 d6 d7 d8 d9 d10 d11 d12 d_n d_a d_b d_c d_k d_x d_y d_d d_r d_w d_e d_1 d_2 d_o d_g d_ra d_rb d_rc d_t) → va_S A s.heap H locs → lv_has ls 3 [(0, .ref d0), (1, .int x1), (2, .int x2)] → fX5_bounded_b13 N d_n d_a d_b d_k d_x d_y d_d d_r d_t n x1 x2 = some v → W p l e ({ frames := 4, cells := 0, slots := 0, locals := 99 } : Room) s m args below meth c H locs 0 0 (wQi G A below args s (w_D G d0 d1 d2 d3 d4 d5 d6 d7 d8 d9 d10 d11 d12 d_n d_a d_b d_c v.2.1 v.2.2.1 v.2.2.2.1 v.2.2.2.2.1 v.2.2.2.2.2.1 d_w d_e d_1 d_2 d_o d_g d_ra d_rb d_rc v.2.2.2.2.2.2) 0 0 v.1) (F0 m 13 ls []) := by
    intro d_k d_x d_y d_d d_r d_t _z n
    induction n with
    | zero =>
      intro x1 x2 H locs ls hP hD hS hl h
      rw [fX5_bounded_b13.eq_1] at h
      cases h
    | succ n ih =>
      intro x1 x2 H locs ls hP hD hS hl h
      rw [fX5_bounded_b13.eq_2] at h
      refine lv_iload_n hx hb dX5_bounded_13 rfl (lv_at hl 2 rfl) ?_
      refine lv_sipush (v := 512) hx hb dX5_bounded_14 (by decide) ?_
      refine lv_icmp_ge (tgt := 51) hx hb dX5_bounded_17 (by decide) (fun c_856 => ?_) (fun c_856 => ?_)
      · have h := ip c_856 h
        refine lv_iload_n hx hb dX5_bounded_51 rfl (lv_at hl 1 rfl) ?_
        obtain rfl := Option.some.inj h
        exact wri hx hb hr hlocks hP hD hS (Nat.le_of_ble_eq_true rfl) (Nat.le_of_ble_eq_true rfl) rfl dX5_bounded_52
      · have h := iq c_856 h
        refine lv_iload_n hx hb dX5_bounded_20 rfl (lv_at hl 1 rfl) ?_
        refine lv_aload_n hx hb dX5_bounded_21 rfl (lv_at hl 0 rfl) ?_
        refine va_get (D := G.1) (ci := 5) (v := .ref d7) (C := RX5) (T := TX5) (N := 19) hx hb hts hinX5 hown hK.1 hP 0 rfl rfl 8 (by decide) lk28 (fun _ h9 => h9) rfl dX5_bounded_22 ?_
        refine lv_iload_n hx hb dX5_bounded_25 rfl (lv_at hl 2 rfl) ?_
        refine wzald h hx hb hK hP 7 rfl dX5_bounded_26 (fun v_857 h => ?_)
        refine lv_if_eq (tgt := 42) hx hb dX5_bounded_27 (by decide) (fun c_858 => ?_) (fun c_858 => ?_)
        · have h := ip c_858 h
          refine lv_iconst (v := 0) hx hb dX5_bounded_42 (by decide) ?_
          refine lv_iadd hx hb dX5_bounded_43 ?_
          refine lv_istore_n (lv' := [(1, .int (x1 + 0)), (0, .ref d0), (2, .int x2)]) hx hb dX5_bounded_44 rfl hl (by decide) rfl (fun ls hl => ?_)
          refine lv_iinc (v := (x2 + 1)) (lv' := [(2, .int (x2 + 1)), (1, .int (x1 + 0)), (0, .ref d0)]) hx hb dX5_bounded_45 hl (k := 2) rfl rfl (by decide) rfl (fun ls hl => ?_)
          refine lv_goto (tgt := 13) hx hb dX5_bounded_48 (by decide) ?_
          exact ih _ _ _ _ _ hP hD hS (lv_sub hl [2, 1, 0] rfl) h
        · have h := iq c_858 h
          refine lv_aload_n hx hb dX5_bounded_30 rfl (lv_at hl 0 rfl) ?_
          refine lv_iload_n hx hb dX5_bounded_31 rfl (lv_at hl 2 rfl) ?_
          obtain ⟨u_859, hc_860, h⟩ := bd_inv h
          refine wafter_i (wr := []) (w2 := (w_D G d0 d1 d2 d3 d4 d5 d6 d7 d8 d9 d10 d11 d12 d_n d_a d_b d_c d_k d_x d_y d_d d_r d_w d_e d_1 d_2 d_o d_g d_ra d_rb d_rc d_t)) (va_runV (As := [.int x2]) (rest := [.int x1]) ⟨hx, hb, hml, hown, hts⟩ (kX5_isBounded (l := l) (G := G) d0 d1 d2 d3 d4 d5 d6 d7 d8 d9 d10 d11 d12 d_n d_a d_b d_c d_k d_x d_y d_d d_r d_w d_e d_1 d_2 d_o d_g d_ra d_rb d_rc d_t x2 N u_859 hc_860 _) (cwV 1 hts gX5_bounded_X5_isBounded rfl rfl rfl (by decide +kernel) ⟨Nat.le_of_ble_eq_true rfl, Nat.le_of_ble_eq_true rfl⟩) (wPreV hP hD hK [0, 1, 2, 3, 4, 5, 6, 7, 8, 9, 10, 11, 12] rfl rfl (ci := 5) (qb := 0) rfl rfl rfl) rfl rfl hl.1 rfl (lv_room (Nat.le_of_ble_eq_true rfl)) dX5_bounded_32 ⟨Nat.zero_le _, Nat.zero_le _⟩) hP hD hS hA [0, 1, 2, 3, 4, 5, 6, 7, 8, 9, 10, 11, 12] [] [0, 1, 2, 3, 4, 5, 6, 7, 8, 9, 10, 11, 12] rfl rfl rfl (by decide) rfl rfl (fun H locs hP hD hS => ?_)
          refine lv_if_eq (tgt := 42) hx hb dX5_bounded_35 (by decide) (fun c_861 => ?_) (fun c_861 => ?_)
          · have h := ip c_861 h
            refine lv_iconst (v := 0) hx hb dX5_bounded_42 (by decide) ?_
            refine lv_iadd hx hb dX5_bounded_43 ?_
            refine lv_istore_n (lv' := [(1, .int (x1 + 0)), (0, .ref d0), (2, .int x2)]) hx hb dX5_bounded_44 rfl hl (by decide) rfl (fun ls hl => ?_)
            refine lv_iinc (v := (x2 + 1)) (lv' := [(2, .int (x2 + 1)), (1, .int (x1 + 0)), (0, .ref d0)]) hx hb dX5_bounded_45 hl (k := 2) rfl rfl (by decide) rfl (fun ls hl => ?_)
            refine lv_goto (tgt := 13) hx hb dX5_bounded_48 (by decide) ?_
            exact ih _ _ _ _ _ hP hD hS (lv_sub hl [2, 1, 0] rfl) h
          · have h := iq c_861 h
            refine lv_iconst (v := 1) hx hb dX5_bounded_38 (by decide) ?_
            refine lv_goto (tgt := 43) hx hb dX5_bounded_39 (by decide) ?_
            refine lv_iadd hx hb dX5_bounded_43 ?_
            refine lv_istore_n (lv' := [(1, .int (x1 + 1)), (0, .ref d0), (2, .int x2)]) hx hb dX5_bounded_44 rfl hl (by decide) rfl (fun ls hl => ?_)
            refine lv_iinc (v := (x2 + 1)) (lv' := [(2, .int (x2 + 1)), (1, .int (x1 + 1)), (0, .ref d0)]) hx hb dX5_bounded_45 hl (k := 2) rfl rfl (by decide) rfl (fun ls hl => ?_)
            refine lv_goto (tgt := 13) hx hb dX5_bounded_48 (by decide) ?_
            exact ih _ _ _ _ _ hP hD hS (lv_sub hl [2, 1, 0] rfl) h
  rw [fX5_bounded.eq_1] at h
  refine lv_aload_n hx hb dX5_bounded_0 rfl (lv_at hl 0 rfl) ?_
  refine lv_iconst (v := 0) hx hb dX5_bounded_1 (by decide) ?_
  refine va_put (D := G.1) (ci := 5) (v := .int 0) (ty := .int) (C := RX5) (T := TX5) (N := 19) hx hb hts hinX5 tyX5 tyX5_ok nmX5 hown hK.1 hP hD hS 0 rfl rfl 18 (by decide) lk47 (fun _ h9 => h9) rfl (by decide +kernel) rfl rfl (Nat.le_of_ble_eq_true rfl) dX5_bounded_2 (fun H locs hP hD hS => ?_)
  have hP : va_P G.1 vwCl (w_D G d0 d1 d2 d3 d4 d5 d6 d7 d8 d9 d10 d11 d12 d_n d_a d_b d_c d_k d_x d_y d_d d_r d_w d_e d_1 d_2 d_o d_g d_ra d_rb d_rc 0) H := hP
  have hD : va_D A (w_D G d0 d1 d2 d3 d4 d5 d6 d7 d8 d9 d10 d11 d12 d_n d_a d_b d_c d_k d_x d_y d_d d_r d_w d_e d_1 d_2 d_o d_g d_ra d_rb d_rc 0) := hD
  refine lv_aload_n hx hb dX5_bounded_5 rfl (lv_at hl 0 rfl) ?_
  obtain ⟨u_862, hc_863, h⟩ := bd_inv h
  refine wafter_v (wr := []) (w2 := (w_D G d0 d1 d2 d3 d4 d5 d6 d7 d8 d9 d10 d11 d12 d_n d_a d_b d_c u_862.1 u_862.2.1 u_862.2.2.1 u_862.2.2.2.1 u_862.2.2.2.2 d_w d_e d_1 d_2 d_o d_g d_ra d_rb d_rc 0)) (va_runV (As := []) (rest := []) ⟨hx, hb, hml, hown, hts⟩ (kX5_findRooms (l := l) (G := G) d0 d1 d2 d3 d4 d5 d6 d7 d8 d9 d10 d11 d12 d_n d_a d_b d_c d_k d_x d_y d_d d_r d_w d_e d_1 d_2 d_o d_g d_ra d_rb d_rc 0  N u_862 hc_863 _) (cwV 0 hts gX5_bounded_X5_findRooms rfl rfl rfl (by decide +kernel) ⟨Nat.le_of_ble_eq_true rfl, Nat.le_of_ble_eq_true rfl⟩) (wPreV hP hD hK [0, 1, 2, 3, 4, 5, 6, 7, 8, 9, 10, 11, 12] rfl rfl (ci := 5) (qb := 0) rfl rfl rfl) rfl rfl hl.1 rfl (lv_room (Nat.le_of_ble_eq_true rfl)) dX5_bounded_6 ⟨Nat.zero_le _, Nat.zero_le _⟩) hP hD hS hA [0, 1, 2, 3, 4, 5, 6, 7, 8, 9, 10, 11, 12] [] [0, 1, 2, 3, 4, 5, 6, 7, 8, 9, 10, 11, 12] rfl rfl rfl (by decide) rfl rfl (fun H locs hP hD hS => ?_)
  refine lv_iconst (v := 0) hx hb dX5_bounded_9 (by decide) ?_
  refine lv_istore_n (lv' := [(1, .int 0), (0, .ref d0)]) hx hb dX5_bounded_10 rfl hl (by decide) rfl (fun ls hl => ?_)
  refine lv_iconst (v := 0) hx hb dX5_bounded_11 (by decide) ?_
  refine lv_istore_n (lv' := [(2, .int 0), (1, .int 0), (0, .ref d0)]) hx hb dX5_bounded_12 rfl hl (by decide) rfl (fun ls hl => ?_)
  exact w_13   _ _ _ _ _ _ ()  N _ _  _ _ _ hP hD hS (lv_sub hl [2, 1, 0] rfl) h
def fX5_room_b70 (N : Nat) (d_n : Int32) (d_r : Nat → Int32) (x3 : Int32) (k_112 : Int32 → Option (Int32 × Int32 × (Nat → Int32) × (Nat → Int32) × (Nat → Int32) × (Nat → Int32) × Int32)) : Nat → Int32 → Int32 → Option (Int32 × Int32 × (Nat → Int32) × (Nat → Int32) × (Nat → Int32) × (Nat → Int32) × Int32)
  | 0, _, _ => none
  | n + 1, x4, x5 => if d_n ≤ x5 then k_112 x4 else rd d_r 512 (x3 ^^^ (1 <<< (x5 &&& 31))) (fun v_865 => if v_865 = 0 then fX5_room_b70 N d_n d_r x3 k_112 n (x4 ||| 0) (x5 + 1) else nm (x4 ||| (1 <<< (x5 &&& 31))) (fun x4_867 => fX5_room_b70 N d_n d_r x3 k_112 n x4_867 (x5 + 1)))
def fX5_room_b118 (N : Nat) (d_n : Int32) (d_a : Nat → Int32) (d_b : Nat → Int32) (d_c : Nat → Int32) (d_k : Int32) (d_x : Nat → Int32) (d_y : Nat → Int32) (d_d : Nat → Int32) (x3 : Int32) (k_153 : Int32 → Option (Int32 × Int32 × (Nat → Int32) × (Nat → Int32) × (Nat → Int32) × (Nat → Int32) × Int32)) : Nat → Int32 → Int32 → Option (Int32 × Int32 × (Nat → Int32) × (Nat → Int32) × (Nat → Int32) × (Nat → Int32) × Int32)
  | 0, _, _ => none
  | n + 1, x5, x6 => if d_k ≤ x6 then k_153 x5 else bd (fX5_isCorner N d_n d_a d_b d_c d_x d_y d_d x3 x6) (fun u_869 => if u_869 = 0 then fX5_room_b118 N d_n d_a d_b d_c d_k d_x d_y d_d x3 k_153 n (x5 + 0) (x6 + 1) else fX5_room_b118 N d_n d_a d_b d_c d_k d_x d_y d_d x3 k_153 n (x5 + 1) (x6 + 1))
def fX5_room (N : Nat) (d_n : Int32) (d_a : Nat → Int32) (d_b : Nat → Int32) (d_c : Nat → Int32) (d_k : Int32) (d_x : Nat → Int32) (d_y : Nat → Int32) (d_d : Nat → Int32) (d_r : Nat → Int32) (d_t : Int32) (x1 : Int32) (x2 : Int32) : Option (Int32 × Int32 × (Nat → Int32) × (Nat → Int32) × (Nat → Int32) × (Nat → Int32) × Int32) := bd (fX5_roomIs N d_n d_a d_b d_c d_k d_x d_y d_d d_r x1) (fun u_872 => bd (fX5_fails N d_t u_872.1 1) (fun u_874 => if u_874.1 = 0 then bd (fX5_setOf N u_872.2.2.2.2.2 x1) (fun u_877 => bd (fX5_in N x2 0 3) (fun u_879 => bd (fX5_fails N u_874.2 u_879 2) (fun u_881 => if u_881.1 = 0 then if 2 ≤ x2 then fX5_room_b70 N d_n u_872.2.2.2.2.2 u_877 (fun (x4_885 : Int32) => fX5_room_b118 N d_n d_a d_b d_c u_872.2.1 u_872.2.2.1 u_872.2.2.2.1 u_872.2.2.2.2.1 u_877 (fun (x5_886 : Int32) => if x2 = 2 then some (x4_885, u_872.2.1, u_872.2.2.1, u_872.2.2.2.1, u_872.2.2.2.2.1, u_872.2.2.2.2.2, u_881.2) else some (x5_886, u_872.2.1, u_872.2.2.1, u_872.2.2.2.1, u_872.2.2.2.2.1, u_872.2.2.2.2.2, u_881.2)) N 0 0) N 0 0 else if x2 = 0 then some (u_877, u_872.2.1, u_872.2.2.1, u_872.2.2.2.1, u_872.2.2.2.2.1, u_872.2.2.2.2.2, u_881.2) else bd (fX5_isBounded N d_n d_a d_b u_877) (fun u_889 => if u_889 = 0 then some (0, u_872.2.1, u_872.2.2.1, u_872.2.2.2.1, u_872.2.2.2.2.1, u_872.2.2.2.2.2, u_881.2) else some (1, u_872.2.1, u_872.2.2.1, u_872.2.2.2.1, u_872.2.2.2.2.1, u_872.2.2.2.2.2, u_881.2)) else some (0, u_872.2.1, u_872.2.2.1, u_872.2.2.2.1, u_872.2.2.2.2.1, u_872.2.2.2.2.2, u_881.2)))) else some (0, u_872.2.1, u_872.2.2.1, u_872.2.2.2.1, u_872.2.2.2.2.1, u_872.2.2.2.2.2, u_874.2)))
set_option maxHeartbeats 4000000 in
set_option maxRecDepth 100000 in
theorem kX5_room {l : Launch} {G : wG} (d0 d1 d2 d3 d4 d5 d6 d7 d8 d9 d10 d11 d12 : Nat) (d_n : Int32) (d_a : Nat → Int32) (d_b : Nat → Int32) (d_c : Nat → Int32) (d_k : Int32) (d_x : Nat → Int32) (d_y : Nat → Int32) (d_d : Nat → Int32) (d_r : Nat → Int32) (d_w : Nat → Int32) (d_e : Int32) (d_1 : Nat → Int32) (d_2 : Nat → Int32) (d_o : Nat → Int32) (d_g : Nat → Int32) (d_ra : Int32) (d_rb : Int32) (d_rc : Int32) (d_t : Int32) (x1 : Int32) (x2 : Int32) (N : Nat) (v : Int32 × Int32 × (Nat → Int32) × (Nat → Int32) × (Nat → Int32) × (Nat → Int32) × Int32) (h : fX5_room N d_n d_a d_b d_c d_k d_x d_y d_d d_r d_t x1 x2 = some v) : wCi l G yX5_room wsX5_room ({ frames := 5, cells := 0, slots := 0, locals := 120 } : Room) [.ref d0, .int x1, .int x2] (w_D G d0 d1 d2 d3 d4 d5 d6 d7 d8 d9 d10 d11 d12 d_n d_a d_b d_c d_k d_x d_y d_d d_r d_w d_e d_1 d_2 d_o d_g d_ra d_rb d_rc d_t) (w_D G d0 d1 d2 d3 d4 d5 d6 d7 d8 d9 d10 d11 d12 d_n d_a d_b d_c v.2.1 v.2.2.1 v.2.2.2.1 v.2.2.2.2.1 v.2.2.2.2.2.1 d_w d_e d_1 d_2 d_o d_g d_ra d_rb d_rc v.2.2.2.2.2.2) 0 0 v.1 := by
  refine wCi.mk (cc := cX5_room) (maxL := 7) (ty := .int) (by decide) rfl (Nat.le_of_ble_eq_true rfl) ?_
  intro p e s m below meth c A ls hx hb hml hr hlocks hts hown hK hA hP hD hl
  have hx : p.tables.exec = Jvm.exec := hx
  have hown : s.vm.findClass RX5 = some m.cls := hown
  have hinX5 : ∀ w ∈ wsX50, w ∈ wsX5_room := by decide +kernel
  have lk28 := hts (.fieldLink RX5 28 "ChamberwrightModel" "isRoom" "[Z") (by decide +kernel)
  have lk51 := hts (.fieldLink RX5 51 "ChamberwrightModel" "lines" "I") (by decide +kernel)
  have lk78 := hts (.fieldLink RX5 78 "ChamberwrightModel" "meets" "I") (by decide +kernel)
  have hS : va_S A s.heap s.heap [] := va_S.rf
  have hP : va_P G.1 vwCl (w_D G d0 d1 d2 d3 d4 d5 d6 d7 d8 d9 d10 d11 d12 d_n d_a d_b d_c d_k d_x d_y d_d d_r d_w d_e d_1 d_2 d_o d_g d_ra d_rb d_rc d_t) s.heap := hP
  have hD : va_D A (w_D G d0 d1 d2 d3 d4 d5 d6 d7 d8 d9 d10 d11 d12 d_n d_a d_b d_c d_k d_x d_y d_d d_r d_w d_e d_1 d_2 d_o d_g d_ra d_rb d_rc d_t) := hD
  have hl : lv_has ls 7 [(0, .ref d0), (1, .int x1), (2, .int x2)] := hl
  obtain ⟨args, hargs⟩ : ∃ z : Array Value, z = ([.ref d0, .int x1, .int x2] : List Value).toArray := ⟨_, rfl⟩
  rw [← hargs]
  rw [← hargs] at hts
  have w_70 : ∀ (k_112 : Int32 → Option (Int32 × Int32 × (Nat → Int32) × (Nat → Int32) × (Nat → Int32) × (Nat → Int32) × Int32)) (x2 : Int32) (x3 : Int32) (d_k : Int32) (d_x : Nat → Int32) (d_y : Nat → Int32) (d_d : Nat → Int32) (d_r : Nat → Int32) (d_t : Int32) (_z : Unit), (∀ (y4 : Int32) (H : Heap) (locs : List Loc) (ls : Array Slot), va_P G.1 vwCl (w_D G d0 d1 d2 d3 d4 d5 d6 d7 d8 d9 d10 d11 d12 d_n d_a d_b d_c d_k d_x d_y d_d d_r d_w d_e d_1 d_2 d_o d_g d_ra d_rb d_rc d_t) H → va_D A (w_D G d0 d1 d2 d3 d4 d5 d6 d7 d8 d9 d10 d11 d12 d_n d_a d_b d_c d_k d_x d_y d_d d_r d_w d_e d_1 d_2 d_o d_g d_ra d_rb d_rc d_t) → va_S A s.heap H locs → lv_has ls 7 [(0, .ref d0), (2, .int x2), (3, .int x3), (4, .int y4)] → k_112 y4 = some v → W p l e ({ frames := 5, cells := 0, slots := 0, locals := 120 } : Room) s m args below meth c H locs 0 0 (wQi G A below args s (w_D G d0 d1 d2 d3 d4 d5 d6 d7 d8 d9 d10 d11 d12 d_n d_a d_b d_c v.2.1 v.2.2.1 v.2.2.2.1 v.2.2.2.2.1 v.2.2.2.2.2.1 d_w d_e d_1 d_2 d_o d_g d_ra d_rb d_rc v.2.2.2.2.2.2) 0 0 v.1) (F0 m 112 ls [])) → ∀ (n : Nat) (x4 : Int32) (x5 : Int32)  (H : Heap) (locs : List Loc) (ls : Array Slot), va_P G.1 vwCl (w_D G d0 d1 d2 d3 d4 d5 d6 d7 d8 d9 d10 d11 d12 d_n d_a d_b d_c d_k d_x d_y d_d d_r d_w d_e d_1 d_2 d_o d_g d_ra d_rb d_rc d_t) H → va_D A (w_D G d0 d1 d2 d3 d4 d5 d6 d7 d8 d9 d10 d11 d12 d_n d_a d_b d_c d_k d_x d_y d_d d_r d_w d_e d_1 d_2 d_o d_g d_ra d_rb d_rc d_t) → va_S A s.heap H locs → lv_has ls 7 [(0, .ref d0), (2, .int x2), (3, .int x3), (4, .int x4), (5, .int x5)] → fX5_room_b70 N d_n d_r x3 k_112 n x4 x5 = some v → W p l e ({ frames := 5, cells := 0, slots := 0, locals := 120 } : Room) s m args below meth c H locs 0 0 (wQi G A below args s (w_D G d0 d1 d2 d3 d4 d5 d6 d7 d8 d9 d10 d11 d12 d_n d_a d_b d_c v.2.1 v.2.2.1 v.2.2.2.1 v.2.2.2.2.1 v.2.2.2.2.2.1 d_w d_e d_1 d_2 d_o d_g d_ra d_rb d_rc v.2.2.2.2.2.2) 0 0 v.1) (F0 m 70 ls []) := by
    intro k_112 x2 x3 d_k d_x d_y d_d d_r d_t _z hk_112 n
    induction n with
    | zero =>
      intro x4 x5 H locs ls hP hD hS hl h
      rw [fX5_room_b70.eq_1] at h
      cases h
    | succ n ih =>
      intro x4 x5 H locs ls hP hD hS hl h
      rw [fX5_room_b70.eq_2] at h
      refine lv_iload hx hb dX5_room_70 (lv_at hl 4 rfl) ?_
      refine lv_aload_n hx hb dX5_room_72 rfl (lv_at hl 0 rfl) ?_
      refine va_get (D := G.1) (ci := 5) (v := .int d_n) (C := RX5) (T := TX5) (N := 19) hx hb hts hinX5 hown hK.1 hP 0 rfl rfl 0 (by decide) lk51 (fun _ h9 => h9) rfl dX5_room_73 ?_
      refine lv_icmp_ge (tgt := 112) hx hb dX5_room_76 (by decide) (fun c_864 => ?_) (fun c_864 => ?_)
      · have h := ip c_864 h
        exact hk_112 _ _ _ _ hP hD hS (lv_sub hl [0, 1, 2, 3] rfl) h
      · have h := iq c_864 h
        refine lv_iload hx hb dX5_room_79 (lv_at hl 3 rfl) ?_
        refine lv_aload_n hx hb dX5_room_81 rfl (lv_at hl 0 rfl) ?_
        refine va_get (D := G.1) (ci := 5) (v := .ref d7) (C := RX5) (T := TX5) (N := 19) hx hb hts hinX5 hown hK.1 hP 0 rfl rfl 8 (by decide) lk28 (fun _ h9 => h9) rfl dX5_room_82 ?_
        refine lv_iload_n hx hb dX5_room_85 rfl (lv_at hl 2 rfl) ?_
        refine lv_iconst (v := 1) hx hb dX5_room_86 (by decide) ?_
        refine lv_iload hx hb dX5_room_87 (lv_at hl 4 rfl) ?_
        refine lv_ishl hx hb dX5_room_89 ?_
        refine lv_ixor hx hb dX5_room_90 ?_
        refine wzald h hx hb hK hP 7 rfl dX5_room_91 (fun v_865 h => ?_)
        refine lv_if_eq (tgt := 102) hx hb dX5_room_92 (by decide) (fun c_866 => ?_) (fun c_866 => ?_)
        · have h := ip c_866 h
          refine lv_iconst (v := 0) hx hb dX5_room_102 (by decide) ?_
          refine lv_ior hx hb dX5_room_103 ?_
          refine lv_istore (lv' := [(4, .int (x4 ||| 0)), (0, .ref d0), (2, .int x2), (3, .int x3), (5, .int x5)]) hx hb dX5_room_104 hl (by decide) rfl (fun ls hl => ?_)
          refine lv_iinc (v := (x5 + 1)) (lv' := [(5, .int (x5 + 1)), (4, .int (x4 ||| 0)), (0, .ref d0), (2, .int x2), (3, .int x3)]) hx hb dX5_room_106 hl (k := 4) rfl rfl (by decide) rfl (fun ls hl => ?_)
          refine lv_goto (tgt := 70) hx hb dX5_room_109 (by decide) ?_
          exact ih _ _ _ _ _ hP hD hS (lv_sub hl [2, 3, 4, 1, 0] rfl) h
        · have h := iq c_866 h
          refine lv_iconst (v := 1) hx hb dX5_room_95 (by decide) ?_
          refine lv_iload hx hb dX5_room_96 (lv_at hl 4 rfl) ?_
          refine lv_ishl hx hb dX5_room_98 ?_
          refine lv_goto (tgt := 103) hx hb dX5_room_99 (by decide) ?_
          refine lv_ior hx hb dX5_room_103 ?_
          refine wnmi h (fun x4_867 h => ?_)
          refine lv_istore (lv' := [(4, .int x4_867), (0, .ref d0), (2, .int x2), (3, .int x3), (5, .int x5)]) hx hb dX5_room_104 hl (by decide) rfl (fun ls hl => ?_)
          refine lv_iinc (v := (x5 + 1)) (lv' := [(5, .int (x5 + 1)), (4, .int x4_867), (0, .ref d0), (2, .int x2), (3, .int x3)]) hx hb dX5_room_106 hl (k := 4) rfl rfl (by decide) rfl (fun ls hl => ?_)
          refine lv_goto (tgt := 70) hx hb dX5_room_109 (by decide) ?_
          exact ih _ _ _ _ _ hP hD hS (lv_sub hl [2, 3, 4, 1, 0] rfl) h
  have w_118 : ∀ (k_153 : Int32 → Option (Int32 × Int32 × (Nat → Int32) × (Nat → Int32) × (Nat → Int32) × (Nat → Int32) × Int32)) (x2 : Int32) (x3 : Int32) (x4 : Int32) (d_k : Int32) (d_x : Nat → Int32) (d_y : Nat → Int32) (d_d : Nat → Int32) (d_r : Nat → Int32) (d_t : Int32) (_z : Unit), (∀ (y5 : Int32) (H : Heap) (locs : List Loc) (ls : Array Slot), va_P G.1 vwCl (w_D G d0 d1 d2 d3 d4 d5 d6 d7 d8 d9 d10 d11 d12 d_n d_a d_b d_c d_k d_x d_y d_d d_r d_w d_e d_1 d_2 d_o d_g d_ra d_rb d_rc d_t) H → va_D A (w_D G d0 d1 d2 d3 d4 d5 d6 d7 d8 d9 d10 d11 d12 d_n d_a d_b d_c d_k d_x d_y d_d d_r d_w d_e d_1 d_2 d_o d_g d_ra d_rb d_rc d_t) → va_S A s.heap H locs → lv_has ls 7 [(2, .int x2), (4, .int x4), (5, .int y5)] → k_153 y5 = some v → W p l e ({ frames := 5, cells := 0, slots := 0, locals := 120 } : Room) s m args below meth c H locs 0 0 (wQi G A below args s (w_D G d0 d1 d2 d3 d4 d5 d6 d7 d8 d9 d10 d11 d12 d_n d_a d_b d_c v.2.1 v.2.2.1 v.2.2.2.1 v.2.2.2.2.1 v.2.2.2.2.2.1 d_w d_e d_1 d_2 d_o d_g d_ra d_rb d_rc v.2.2.2.2.2.2) 0 0 v.1) (F0 m 153 ls [])) → ∀ (n : Nat) (x5 : Int32) (x6 : Int32)  (H : Heap) (locs : List Loc) (ls : Array Slot), va_P G.1 vwCl (w_D G d0 d1 d2 d3 d4 d5 d6 d7 d8 d9 d10 d11 d12 d_n d_a d_b d_c d_k d_x d_y d_d d_r d_w d_e d_1 d_2 d_o d_g d_ra d_rb d_rc d_t) H → va_D A (w_D G d0 d1 d2 d3 d4 d5 d6 d7 d8 d9 d10 d11 d12 d_n d_a d_b d_c d_k d_x d_y d_d d_r d_w d_e d_1 d_2 d_o d_g d_ra d_rb d_rc d_t) → va_S A s.heap H locs → lv_has ls 7 [(0, .ref d0), (2, .int x2), (3, .int x3), (4, .int x4), (5, .int x5), (6, .int x6)] → fX5_room_b118 N d_n d_a d_b d_c d_k d_x d_y d_d x3 k_153 n x5 x6 = some v → W p l e ({ frames := 5, cells := 0, slots := 0, locals := 120 } : Room) s m args below meth c H locs 0 0 (wQi G A below args s (w_D G d0 d1 d2 d3 d4 d5 d6 d7 d8 d9 d10 d11 d12 d_n d_a d_b d_c v.2.1 v.2.2.1 v.2.2.2.1 v.2.2.2.2.1 v.2.2.2.2.2.1 d_w d_e d_1 d_2 d_o d_g d_ra d_rb d_rc v.2.2.2.2.2.2) 0 0 v.1) (F0 m 118 ls []) := by
    intro k_153 x2 x3 x4 d_k d_x d_y d_d d_r d_t _z hk_153 n
    induction n with
    | zero =>
      intro x5 x6 H locs ls hP hD hS hl h
      rw [fX5_room_b118.eq_1] at h
      cases h
    | succ n ih =>
      intro x5 x6 H locs ls hP hD hS hl h
      rw [fX5_room_b118.eq_2] at h
      refine lv_iload hx hb dX5_room_118 (lv_at hl 5 rfl) ?_
      refine lv_aload_n hx hb dX5_room_120 rfl (lv_at hl 0 rfl) ?_
      refine va_get (D := G.1) (ci := 5) (v := .int d_k) (C := RX5) (T := TX5) (N := 19) hx hb hts hinX5 hown hK.1 hP 0 rfl rfl 4 (by decide) lk78 (fun _ h9 => h9) rfl dX5_room_121 ?_
      refine lv_icmp_ge (tgt := 153) hx hb dX5_room_124 (by decide) (fun c_868 => ?_) (fun c_868 => ?_)
      · have h := ip c_868 h
        exact hk_153 _ _ _ _ hP hD hS (lv_sub hl [1, 3, 4] rfl) h
      · have h := iq c_868 h
        refine lv_iload hx hb dX5_room_127 (lv_at hl 4 rfl) ?_
        refine lv_aload_n hx hb dX5_room_129 rfl (lv_at hl 0 rfl) ?_
        refine lv_iload_n hx hb dX5_room_130 rfl (lv_at hl 2 rfl) ?_
        refine lv_iload hx hb dX5_room_131 (lv_at hl 5 rfl) ?_
        obtain ⟨u_869, hc_870, h⟩ := bd_inv h
        refine wafter_i (wr := []) (w2 := (w_D G d0 d1 d2 d3 d4 d5 d6 d7 d8 d9 d10 d11 d12 d_n d_a d_b d_c d_k d_x d_y d_d d_r d_w d_e d_1 d_2 d_o d_g d_ra d_rb d_rc d_t)) (va_runV (As := [.int x3, .int x6]) (rest := [.int x5]) ⟨hx, hb, hml, hown, hts⟩ (kX5_isCorner (l := l) (G := G) d0 d1 d2 d3 d4 d5 d6 d7 d8 d9 d10 d11 d12 d_n d_a d_b d_c d_k d_x d_y d_d d_r d_w d_e d_1 d_2 d_o d_g d_ra d_rb d_rc d_t x3 x6 N u_869 hc_870 _) (cwV 2 hts gX5_room_X5_isCorner rfl rfl rfl (by decide +kernel) ⟨Nat.le_of_ble_eq_true rfl, Nat.le_of_ble_eq_true rfl⟩) (wPreV hP hD hK [0, 1, 2, 3, 4, 5, 6, 7, 8, 9, 10, 11, 12] rfl rfl (ci := 5) (qb := 0) rfl rfl rfl) rfl rfl hl.1 rfl (lv_room (Nat.le_of_ble_eq_true rfl)) dX5_room_133 ⟨Nat.zero_le _, Nat.zero_le _⟩) hP hD hS hA [0, 1, 2, 3, 4, 5, 6, 7, 8, 9, 10, 11, 12] [] [0, 1, 2, 3, 4, 5, 6, 7, 8, 9, 10, 11, 12] rfl rfl rfl (by decide) rfl rfl (fun H locs hP hD hS => ?_)
        refine lv_if_eq (tgt := 143) hx hb dX5_room_136 (by decide) (fun c_871 => ?_) (fun c_871 => ?_)
        · have h := ip c_871 h
          refine lv_iconst (v := 0) hx hb dX5_room_143 (by decide) ?_
          refine lv_iadd hx hb dX5_room_144 ?_
          refine lv_istore (lv' := [(5, .int (x5 + 0)), (0, .ref d0), (2, .int x2), (3, .int x3), (4, .int x4), (6, .int x6)]) hx hb dX5_room_145 hl (by decide) rfl (fun ls hl => ?_)
          refine lv_iinc (v := (x6 + 1)) (lv' := [(6, .int (x6 + 1)), (5, .int (x5 + 0)), (0, .ref d0), (2, .int x2), (3, .int x3), (4, .int x4)]) hx hb dX5_room_147 hl (k := 5) rfl rfl (by decide) rfl (fun ls hl => ?_)
          refine lv_goto (tgt := 118) hx hb dX5_room_150 (by decide) ?_
          exact ih _ _ _ _ _ hP hD hS (lv_sub hl [2, 3, 4, 5, 1, 0] rfl) h
        · have h := iq c_871 h
          refine lv_iconst (v := 1) hx hb dX5_room_139 (by decide) ?_
          refine lv_goto (tgt := 144) hx hb dX5_room_140 (by decide) ?_
          refine lv_iadd hx hb dX5_room_144 ?_
          refine lv_istore (lv' := [(5, .int (x5 + 1)), (0, .ref d0), (2, .int x2), (3, .int x3), (4, .int x4), (6, .int x6)]) hx hb dX5_room_145 hl (by decide) rfl (fun ls hl => ?_)
          refine lv_iinc (v := (x6 + 1)) (lv' := [(6, .int (x6 + 1)), (5, .int (x5 + 1)), (0, .ref d0), (2, .int x2), (3, .int x3), (4, .int x4)]) hx hb dX5_room_147 hl (k := 5) rfl rfl (by decide) rfl (fun ls hl => ?_)
          refine lv_goto (tgt := 118) hx hb dX5_room_150 (by decide) ?_
          exact ih _ _ _ _ _ hP hD hS (lv_sub hl [2, 3, 4, 5, 1, 0] rfl) h
  rw [fX5_room.eq_1] at h
  refine lv_aload_n hx hb dX5_room_0 rfl (lv_at hl 0 rfl) ?_
  refine lv_aload_n hx hb dX5_room_1 rfl (lv_at hl 0 rfl) ?_
  refine lv_iload_n hx hb dX5_room_2 rfl (lv_at hl 1 rfl) ?_
  obtain ⟨u_872, hc_873, h⟩ := bd_inv h
  refine wafter_i (wr := []) (w2 := (w_D G d0 d1 d2 d3 d4 d5 d6 d7 d8 d9 d10 d11 d12 d_n d_a d_b d_c u_872.2.1 u_872.2.2.1 u_872.2.2.2.1 u_872.2.2.2.2.1 u_872.2.2.2.2.2 d_w d_e d_1 d_2 d_o d_g d_ra d_rb d_rc d_t)) (va_runV (As := [.int x1]) (rest := [.ref d0]) ⟨hx, hb, hml, hown, hts⟩ (kX5_roomIs (l := l) (G := G) d0 d1 d2 d3 d4 d5 d6 d7 d8 d9 d10 d11 d12 d_n d_a d_b d_c d_k d_x d_y d_d d_r d_w d_e d_1 d_2 d_o d_g d_ra d_rb d_rc d_t x1 N u_872 hc_873 _) (cwV 1 hts gX5_room_X5_roomIs rfl rfl rfl (by decide +kernel) ⟨Nat.le_of_ble_eq_true rfl, Nat.le_of_ble_eq_true rfl⟩) (wPreV hP hD hK [0, 1, 2, 3, 4, 5, 6, 7, 8, 9, 10, 11, 12] rfl rfl (ci := 5) (qb := 0) rfl rfl rfl) rfl rfl hl.1 rfl (lv_room (Nat.le_of_ble_eq_true rfl)) dX5_room_3 ⟨Nat.zero_le _, Nat.zero_le _⟩) hP hD hS hA [0, 1, 2, 3, 4, 5, 6, 7, 8, 9, 10, 11, 12] [] [0, 1, 2, 3, 4, 5, 6, 7, 8, 9, 10, 11, 12] rfl rfl rfl (by decide) rfl rfl (fun H locs hP hD hS => ?_)
  refine lv_iconst (v := 1) hx hb dX5_room_6 (by decide) ?_
  obtain ⟨u_874, hc_875, h⟩ := bd_inv h
  refine wafter_i (wr := []) (w2 := (w_D G d0 d1 d2 d3 d4 d5 d6 d7 d8 d9 d10 d11 d12 d_n d_a d_b d_c u_872.2.1 u_872.2.2.1 u_872.2.2.2.1 u_872.2.2.2.2.1 u_872.2.2.2.2.2 d_w d_e d_1 d_2 d_o d_g d_ra d_rb d_rc u_874.2)) (va_runV (As := [.int u_872.1, .int 1]) (rest := []) ⟨hx, hb, hml, hown, hts⟩ (kX5_fails (l := l) (G := G) d0 d1 d2 d3 d4 d5 d6 d7 d8 d9 d10 d11 d12 d_n d_a d_b d_c u_872.2.1 u_872.2.2.1 u_872.2.2.2.1 u_872.2.2.2.2.1 u_872.2.2.2.2.2 d_w d_e d_1 d_2 d_o d_g d_ra d_rb d_rc d_t u_872.1 1 N u_874 hc_875 _) (cwV 2 hts gX5_room_X5_fails rfl rfl rfl (by decide +kernel) ⟨Nat.le_of_ble_eq_true rfl, Nat.le_of_ble_eq_true rfl⟩) (wPreV hP hD hK [0, 1, 2, 3, 4, 5, 6, 7, 8, 9, 10, 11, 12] rfl rfl (ci := 5) (qb := 0) rfl rfl rfl) rfl rfl hl.1 rfl (lv_room (Nat.le_of_ble_eq_true rfl)) dX5_room_7 ⟨Nat.zero_le _, Nat.zero_le _⟩) hP hD hS hA [0, 1, 2, 3, 4, 5, 6, 7, 8, 9, 10, 11, 12] [] [0, 1, 2, 3, 4, 5, 6, 7, 8, 9, 10, 11, 12] rfl rfl rfl (by decide) rfl rfl (fun H locs hP hD hS => ?_)
  refine lv_if_eq (tgt := 15) hx hb dX5_room_10 (by decide) (fun c_876 => ?_) (fun c_876 => ?_)
  · have h := ip c_876 h
    refine lv_aload_n hx hb dX5_room_15 rfl (lv_at hl 0 rfl) ?_
    refine lv_iload_n hx hb dX5_room_16 rfl (lv_at hl 1 rfl) ?_
    obtain ⟨u_877, hc_878, h⟩ := bd_inv h
    refine wafter_i (wr := []) (w2 := (w_D G d0 d1 d2 d3 d4 d5 d6 d7 d8 d9 d10 d11 d12 d_n d_a d_b d_c u_872.2.1 u_872.2.2.1 u_872.2.2.2.1 u_872.2.2.2.2.1 u_872.2.2.2.2.2 d_w d_e d_1 d_2 d_o d_g d_ra d_rb d_rc u_874.2)) (va_runV (As := [.int x1]) (rest := []) ⟨hx, hb, hml, hown, hts⟩ (kX5_setOf (l := l) (G := G) d0 d1 d2 d3 d4 d5 d6 d7 d8 d9 d10 d11 d12 d_n d_a d_b d_c u_872.2.1 u_872.2.2.1 u_872.2.2.2.1 u_872.2.2.2.2.1 u_872.2.2.2.2.2 d_w d_e d_1 d_2 d_o d_g d_ra d_rb d_rc u_874.2 x1 N u_877 hc_878 _) (cwV 1 hts gX5_room_X5_setOf rfl rfl rfl (by decide +kernel) ⟨Nat.le_of_ble_eq_true rfl, Nat.le_of_ble_eq_true rfl⟩) (wPreV hP hD hK [0, 1, 2, 3, 4, 5, 6, 7, 8, 9, 10, 11, 12] rfl rfl (ci := 5) (qb := 0) rfl rfl rfl) rfl rfl hl.1 rfl (lv_room (Nat.le_of_ble_eq_true rfl)) dX5_room_17 ⟨Nat.zero_le _, Nat.zero_le _⟩) hP hD hS hA [0, 1, 2, 3, 4, 5, 6, 7, 8, 9, 10, 11, 12] [] [0, 1, 2, 3, 4, 5, 6, 7, 8, 9, 10, 11, 12] rfl rfl rfl (by decide) rfl rfl (fun H locs hP hD hS => ?_)
    refine lv_istore_n (lv' := [(3, .int u_877), (0, .ref d0), (1, .int x1), (2, .int x2)]) hx hb dX5_room_20 rfl hl (by decide) rfl (fun ls hl => ?_)
    refine lv_aload_n hx hb dX5_room_21 rfl (lv_at hl 1 rfl) ?_
    refine lv_iload_n hx hb dX5_room_22 rfl (lv_at hl 3 rfl) ?_
    refine lv_iconst (v := 0) hx hb dX5_room_23 (by decide) ?_
    refine lv_iconst (v := 3) hx hb dX5_room_24 (by decide) ?_
    obtain ⟨u_879, hc_880, h⟩ := bd_inv h
    refine wafter_i (wr := (w_D G d0 d1 d2 d3 d4 d5 d6 d7 d8 d9 d10 d11 d12 d_n d_a d_b d_c u_872.2.1 u_872.2.2.1 u_872.2.2.2.1 u_872.2.2.2.2.1 u_872.2.2.2.2.2 d_w d_e d_1 d_2 d_o d_g d_ra d_rb d_rc u_874.2)) (w2 := (w_D G d0 d1 d2 d3 d4 d5 d6 d7 d8 d9 d10 d11 d12 d_n d_a d_b d_c u_872.2.1 u_872.2.2.1 u_872.2.2.2.1 u_872.2.2.2.2.1 u_872.2.2.2.2.2 d_w d_e d_1 d_2 d_o d_g d_ra d_rb d_rc u_874.2)) (va_runS (As := [.int x2, .int 0, .int 3]) (rest := [.ref d0]) ⟨hx, hb, hml, hown, hts⟩ (kX5_in (l := l) (G := G)   x2 0 3 N u_879 hc_880 _) (va_cwS 3 hts gX5_room_X5_in rfl rfl rfl (by decide +kernel) ⟨Nat.le_of_ble_eq_true rfl, Nat.le_of_ble_eq_true rfl⟩) (wPreS hP hD hK [] rfl rfl) rfl rfl hl.1 rfl (lv_room (Nat.le_of_ble_eq_true rfl)) dX5_room_25 ⟨Nat.zero_le _, Nat.zero_le _⟩) hP hD hS hA [] [0, 1, 2, 3, 4, 5, 6, 7, 8, 9, 10, 11, 12] [0, 1, 2, 3, 4, 5, 6, 7, 8, 9, 10, 11, 12] rfl rfl rfl (by decide) rfl rfl (fun H locs hP hD hS => ?_)
    refine lv_iconst (v := 2) hx hb dX5_room_28 (by decide) ?_
    obtain ⟨u_881, hc_882, h⟩ := bd_inv h
    refine wafter_i (wr := []) (w2 := (w_D G d0 d1 d2 d3 d4 d5 d6 d7 d8 d9 d10 d11 d12 d_n d_a d_b d_c u_872.2.1 u_872.2.2.1 u_872.2.2.2.1 u_872.2.2.2.2.1 u_872.2.2.2.2.2 d_w d_e d_1 d_2 d_o d_g d_ra d_rb d_rc u_881.2)) (va_runV (As := [.int u_879, .int 2]) (rest := []) ⟨hx, hb, hml, hown, hts⟩ (kX5_fails (l := l) (G := G) d0 d1 d2 d3 d4 d5 d6 d7 d8 d9 d10 d11 d12 d_n d_a d_b d_c u_872.2.1 u_872.2.2.1 u_872.2.2.2.1 u_872.2.2.2.2.1 u_872.2.2.2.2.2 d_w d_e d_1 d_2 d_o d_g d_ra d_rb d_rc u_874.2 u_879 2 N u_881 hc_882 _) (cwV 2 hts gX5_room_X5_fails rfl rfl rfl (by decide +kernel) ⟨Nat.le_of_ble_eq_true rfl, Nat.le_of_ble_eq_true rfl⟩) (wPreV hP hD hK [0, 1, 2, 3, 4, 5, 6, 7, 8, 9, 10, 11, 12] rfl rfl (ci := 5) (qb := 0) rfl rfl rfl) rfl rfl hl.1 rfl (lv_room (Nat.le_of_ble_eq_true rfl)) dX5_room_29 ⟨Nat.zero_le _, Nat.zero_le _⟩) hP hD hS hA [0, 1, 2, 3, 4, 5, 6, 7, 8, 9, 10, 11, 12] [] [0, 1, 2, 3, 4, 5, 6, 7, 8, 9, 10, 11, 12] rfl rfl rfl (by decide) rfl rfl (fun H locs hP hD hS => ?_)
    refine lv_if_eq (tgt := 37) hx hb dX5_room_32 (by decide) (fun c_883 => ?_) (fun c_883 => ?_)
    · have h := ip c_883 h
      refine lv_iload_n hx hb dX5_room_37 rfl (lv_at hl 3 rfl) ?_
      refine lv_iconst (v := 2) hx hb dX5_room_38 (by decide) ?_
      refine lv_icmp_ge (tgt := 64) hx hb dX5_room_39 (by decide) (fun c_884 => ?_) (fun c_884 => ?_)
      · have h := ip c_884 h
        refine lv_iconst (v := 0) hx hb dX5_room_64 (by decide) ?_
        refine lv_istore (lv' := [(4, .int 0), (3, .int u_877), (0, .ref d0), (1, .int x1), (2, .int x2)]) hx hb dX5_room_65 hl (by decide) rfl (fun ls hl => ?_)
        refine lv_iconst (v := 0) hx hb dX5_room_67 (by decide) ?_
        refine lv_istore (lv' := [(5, .int 0), (4, .int 0), (3, .int u_877), (0, .ref d0), (1, .int x1), (2, .int x2)]) hx hb dX5_room_68 hl (by decide) rfl (fun ls hl => ?_)
        refine w_70 _ _ _ _ _ _ _ _ _ () (fun x4_885 H locs ls hP hD hS hl h => ?_) N _ _  _ _ _ hP hD hS (lv_sub hl [3, 5, 2, 1, 0] rfl) h
        refine lv_iconst (v := 0) hx hb dX5_room_112 (by decide) ?_
        refine lv_istore (lv' := [(5, .int 0), (0, .ref d0), (2, .int x2), (3, .int u_877), (4, .int x4_885)]) hx hb dX5_room_113 hl (by decide) rfl (fun ls hl => ?_)
        refine lv_iconst (v := 0) hx hb dX5_room_115 (by decide) ?_
        refine lv_istore (lv' := [(6, .int 0), (5, .int 0), (0, .ref d0), (2, .int x2), (3, .int u_877), (4, .int x4_885)]) hx hb dX5_room_116 hl (by decide) rfl (fun ls hl => ?_)
        refine w_118 _ _ _ _ _ _ _ _ _ _ () (fun x5_886 H locs ls hP hD hS hl h => ?_) N _ _  _ _ _ hP hD hS (lv_sub hl [2, 3, 4, 5, 1, 0] rfl) h
        refine lv_iload_n hx hb dX5_room_153 rfl (lv_at hl 0 rfl) ?_
        refine lv_iconst (v := 2) hx hb dX5_room_154 (by decide) ?_
        refine lv_icmp_ne (tgt := 163) hx hb dX5_room_155 (by decide) (fun c_887 => ?_) (fun c_887 => ?_)
        · have h := iq c_887 h
          refine lv_iload hx hb dX5_room_163 (lv_at hl 2 rfl) ?_
          obtain rfl := Option.some.inj h
          exact wri hx hb hr hlocks hP hD hS (Nat.le_of_ble_eq_true rfl) (Nat.le_of_ble_eq_true rfl) rfl dX5_room_165
        · have h := ip c_887 h
          refine lv_iload hx hb dX5_room_158 (lv_at hl 1 rfl) ?_
          refine lv_goto (tgt := 165) hx hb dX5_room_160 (by decide) ?_
          obtain rfl := Option.some.inj h
          exact wri hx hb hr hlocks hP hD hS (Nat.le_of_ble_eq_true rfl) (Nat.le_of_ble_eq_true rfl) rfl dX5_room_165
      · have h := iq c_884 h
        refine lv_iload_n hx hb dX5_room_42 rfl (lv_at hl 3 rfl) ?_
        refine lv_if_ne (tgt := 50) hx hb dX5_room_43 (by decide) (fun c_888 => ?_) (fun c_888 => ?_)
        · have h := iq c_888 h
          refine lv_aload_n hx hb dX5_room_50 rfl (lv_at hl 1 rfl) ?_
          refine lv_iload_n hx hb dX5_room_51 rfl (lv_at hl 0 rfl) ?_
          obtain ⟨u_889, hc_890, h⟩ := bd_inv h
          refine wafter_i (wr := []) (w2 := (w_D G d0 d1 d2 d3 d4 d5 d6 d7 d8 d9 d10 d11 d12 d_n d_a d_b d_c u_872.2.1 u_872.2.2.1 u_872.2.2.2.1 u_872.2.2.2.2.1 u_872.2.2.2.2.2 d_w d_e d_1 d_2 d_o d_g d_ra d_rb d_rc u_881.2)) (va_runV (As := [.int u_877]) (rest := []) ⟨hx, hb, hml, hown, hts⟩ (kX5_isBounded (l := l) (G := G) d0 d1 d2 d3 d4 d5 d6 d7 d8 d9 d10 d11 d12 d_n d_a d_b d_c u_872.2.1 u_872.2.2.1 u_872.2.2.2.1 u_872.2.2.2.2.1 u_872.2.2.2.2.2 d_w d_e d_1 d_2 d_o d_g d_ra d_rb d_rc u_881.2 u_877 N u_889 hc_890 _) (cwV 1 hts gX5_room_X5_isBounded rfl rfl rfl (by decide +kernel) ⟨Nat.le_of_ble_eq_true rfl, Nat.le_of_ble_eq_true rfl⟩) (wPreV hP hD hK [0, 1, 2, 3, 4, 5, 6, 7, 8, 9, 10, 11, 12] rfl rfl (ci := 5) (qb := 0) rfl rfl rfl) rfl rfl hl.1 rfl (lv_room (Nat.le_of_ble_eq_true rfl)) dX5_room_52 ⟨Nat.zero_le _, Nat.zero_le _⟩) hP hD hS hA [0, 1, 2, 3, 4, 5, 6, 7, 8, 9, 10, 11, 12] [] [0, 1, 2, 3, 4, 5, 6, 7, 8, 9, 10, 11, 12] rfl rfl rfl (by decide) rfl rfl (fun H locs hP hD hS => ?_)
          refine lv_if_eq (tgt := 62) hx hb dX5_room_55 (by decide) (fun c_891 => ?_) (fun c_891 => ?_)
          · have h := ip c_891 h
            refine lv_iconst (v := 0) hx hb dX5_room_62 (by decide) ?_
            obtain rfl := Option.some.inj h
            exact wri hx hb hr hlocks hP hD hS (Nat.le_of_ble_eq_true rfl) (Nat.le_of_ble_eq_true rfl) rfl dX5_room_63
          · have h := iq c_891 h
            refine lv_iconst (v := 1) hx hb dX5_room_58 (by decide) ?_
            refine lv_goto (tgt := 63) hx hb dX5_room_59 (by decide) ?_
            obtain rfl := Option.some.inj h
            exact wri hx hb hr hlocks hP hD hS (Nat.le_of_ble_eq_true rfl) (Nat.le_of_ble_eq_true rfl) rfl dX5_room_63
        · have h := ip c_888 h
          refine lv_iload_n hx hb dX5_room_46 rfl (lv_at hl 0 rfl) ?_
          refine lv_goto (tgt := 63) hx hb dX5_room_47 (by decide) ?_
          obtain rfl := Option.some.inj h
          exact wri hx hb hr hlocks hP hD hS (Nat.le_of_ble_eq_true rfl) (Nat.le_of_ble_eq_true rfl) rfl dX5_room_63
    · have h := iq c_883 h
      refine lv_iconst (v := 0) hx hb dX5_room_35 (by decide) ?_
      obtain rfl := Option.some.inj h
      exact wri hx hb hr hlocks hP hD hS (Nat.le_of_ble_eq_true rfl) (Nat.le_of_ble_eq_true rfl) rfl dX5_room_36
  · have h := iq c_876 h
    refine lv_iconst (v := 0) hx hb dX5_room_13 (by decide) ?_
    obtain rfl := Option.some.inj h
    exact wri hx hb hr hlocks hP hD hS (Nat.le_of_ble_eq_true rfl) (Nat.le_of_ble_eq_true rfl) rfl dX5_room_14
def fX5_roomOf (N : Nat) (d_n : Int32) (d_a : Nat → Int32) (d_b : Nat → Int32) (d_c : Nat → Int32) (d_k : Int32) (d_x : Nat → Int32) (d_y : Nat → Int32) (d_d : Nat → Int32) (d_r : Nat → Int32) (d_t : Int32) (x1 : Int32) : Option (Int32 × Int32 × (Nat → Int32) × (Nat → Int32) × (Nat → Int32) × (Nat → Int32) × Int32) := bd (fX5_in N x1 0 511) (fun u_892 => bd (fX5_fails N d_t u_892 1) (fun u_894 => if u_894.1 = 0 then bd (fX5_findRooms N d_n d_a d_b d_c d_k d_x d_y d_d d_r) (fun u_897 => rd u_897.2.2.2.2 512 x1 (fun v_899 => if v_899 = 0 then some ((-1), u_897.1, u_897.2.1, u_897.2.2.1, u_897.2.2.2.1, u_897.2.2.2.2, u_894.2) else bd (fX5_numberOf N u_897.2.2.2.2 x1) (fun u_901 => some (u_901, u_897.1, u_897.2.1, u_897.2.2.1, u_897.2.2.2.1, u_897.2.2.2.2, u_894.2)))) else some (0, d_k, d_x, d_y, d_d, d_r, u_894.2)))
set_option maxHeartbeats 4000000 in
set_option maxRecDepth 100000 in
theorem kX5_roomOf {l : Launch} {G : wG} (d0 d1 d2 d3 d4 d5 d6 d7 d8 d9 d10 d11 d12 : Nat) (d_n : Int32) (d_a : Nat → Int32) (d_b : Nat → Int32) (d_c : Nat → Int32) (d_k : Int32) (d_x : Nat → Int32) (d_y : Nat → Int32) (d_d : Nat → Int32) (d_r : Nat → Int32) (d_w : Nat → Int32) (d_e : Int32) (d_1 : Nat → Int32) (d_2 : Nat → Int32) (d_o : Nat → Int32) (d_g : Nat → Int32) (d_ra : Int32) (d_rb : Int32) (d_rc : Int32) (d_t : Int32) (x1 : Int32) (N : Nat) (v : Int32 × Int32 × (Nat → Int32) × (Nat → Int32) × (Nat → Int32) × (Nat → Int32) × Int32) (h : fX5_roomOf N d_n d_a d_b d_c d_k d_x d_y d_d d_r d_t x1 = some v) : wCi l G yX5_roomOf wsX5_roomOf ({ frames := 4, cells := 0, slots := 0, locals := 99 } : Room) [.ref d0, .int x1] (w_D G d0 d1 d2 d3 d4 d5 d6 d7 d8 d9 d10 d11 d12 d_n d_a d_b d_c d_k d_x d_y d_d d_r d_w d_e d_1 d_2 d_o d_g d_ra d_rb d_rc d_t) (w_D G d0 d1 d2 d3 d4 d5 d6 d7 d8 d9 d10 d11 d12 d_n d_a d_b d_c v.2.1 v.2.2.1 v.2.2.2.1 v.2.2.2.2.1 v.2.2.2.2.2.1 d_w d_e d_1 d_2 d_o d_g d_ra d_rb d_rc v.2.2.2.2.2.2) 0 0 v.1 := by
  refine wCi.mk (cc := cX5_roomOf) (maxL := 2) (ty := .int) (by decide) rfl (Nat.le_of_ble_eq_true rfl) ?_
  intro p e s m below meth c A ls hx hb hml hr hlocks hts hown hK hA hP hD hl
  have hx : p.tables.exec = Jvm.exec := hx
  have hown : s.vm.findClass RX5 = some m.cls := hown
  have hinX5 : ∀ w ∈ wsX50, w ∈ wsX5_roomOf := by decide +kernel
  have lk28 := hts (.fieldLink RX5 28 "ChamberwrightModel" "isRoom" "[Z") (by decide +kernel)
  have hS : va_S A s.heap s.heap [] := va_S.rf
  have hP : va_P G.1 vwCl (w_D G d0 d1 d2 d3 d4 d5 d6 d7 d8 d9 d10 d11 d12 d_n d_a d_b d_c d_k d_x d_y d_d d_r d_w d_e d_1 d_2 d_o d_g d_ra d_rb d_rc d_t) s.heap := hP
  have hD : va_D A (w_D G d0 d1 d2 d3 d4 d5 d6 d7 d8 d9 d10 d11 d12 d_n d_a d_b d_c d_k d_x d_y d_d d_r d_w d_e d_1 d_2 d_o d_g d_ra d_rb d_rc d_t) := hD
  have hl : lv_has ls 2 [(0, .ref d0), (1, .int x1)] := hl
  obtain ⟨args, hargs⟩ : ∃ z : Array Value, z = ([.ref d0, .int x1] : List Value).toArray := ⟨_, rfl⟩
  rw [← hargs]
  rw [← hargs] at hts
  rw [fX5_roomOf.eq_1] at h
  refine lv_aload_n hx hb dX5_roomOf_0 rfl (lv_at hl 0 rfl) ?_
  refine lv_iload_n hx hb dX5_roomOf_1 rfl (lv_at hl 1 rfl) ?_
  refine lv_iconst (v := 0) hx hb dX5_roomOf_2 (by decide) ?_
  refine lv_sipush (v := 511) hx hb dX5_roomOf_3 (by decide) ?_
  obtain ⟨u_892, hc_893, h⟩ := bd_inv h
  refine wafter_i (wr := (w_D G d0 d1 d2 d3 d4 d5 d6 d7 d8 d9 d10 d11 d12 d_n d_a d_b d_c d_k d_x d_y d_d d_r d_w d_e d_1 d_2 d_o d_g d_ra d_rb d_rc d_t)) (w2 := (w_D G d0 d1 d2 d3 d4 d5 d6 d7 d8 d9 d10 d11 d12 d_n d_a d_b d_c d_k d_x d_y d_d d_r d_w d_e d_1 d_2 d_o d_g d_ra d_rb d_rc d_t)) (va_runS (As := [.int x1, .int 0, .int 511]) (rest := [.ref d0]) ⟨hx, hb, hml, hown, hts⟩ (kX5_in (l := l) (G := G)   x1 0 511 N u_892 hc_893 _) (va_cwS 3 hts gX5_roomOf_X5_in rfl rfl rfl (by decide +kernel) ⟨Nat.le_of_ble_eq_true rfl, Nat.le_of_ble_eq_true rfl⟩) (wPreS hP hD hK [] rfl rfl) rfl rfl hl.1 rfl (lv_room (Nat.le_of_ble_eq_true rfl)) dX5_roomOf_6 ⟨Nat.zero_le _, Nat.zero_le _⟩) hP hD hS hA [] [0, 1, 2, 3, 4, 5, 6, 7, 8, 9, 10, 11, 12] [0, 1, 2, 3, 4, 5, 6, 7, 8, 9, 10, 11, 12] rfl rfl rfl (by decide) rfl rfl (fun H locs hP hD hS => ?_)
  refine lv_iconst (v := 1) hx hb dX5_roomOf_9 (by decide) ?_
  obtain ⟨u_894, hc_895, h⟩ := bd_inv h
  refine wafter_i (wr := []) (w2 := (w_D G d0 d1 d2 d3 d4 d5 d6 d7 d8 d9 d10 d11 d12 d_n d_a d_b d_c d_k d_x d_y d_d d_r d_w d_e d_1 d_2 d_o d_g d_ra d_rb d_rc u_894.2)) (va_runV (As := [.int u_892, .int 1]) (rest := []) ⟨hx, hb, hml, hown, hts⟩ (kX5_fails (l := l) (G := G) d0 d1 d2 d3 d4 d5 d6 d7 d8 d9 d10 d11 d12 d_n d_a d_b d_c d_k d_x d_y d_d d_r d_w d_e d_1 d_2 d_o d_g d_ra d_rb d_rc d_t u_892 1 N u_894 hc_895 _) (cwV 2 hts gX5_roomOf_X5_fails rfl rfl rfl (by decide +kernel) ⟨Nat.le_of_ble_eq_true rfl, Nat.le_of_ble_eq_true rfl⟩) (wPreV hP hD hK [0, 1, 2, 3, 4, 5, 6, 7, 8, 9, 10, 11, 12] rfl rfl (ci := 5) (qb := 0) rfl rfl rfl) rfl rfl hl.1 rfl (lv_room (Nat.le_of_ble_eq_true rfl)) dX5_roomOf_10 ⟨Nat.zero_le _, Nat.zero_le _⟩) hP hD hS hA [0, 1, 2, 3, 4, 5, 6, 7, 8, 9, 10, 11, 12] [] [0, 1, 2, 3, 4, 5, 6, 7, 8, 9, 10, 11, 12] rfl rfl rfl (by decide) rfl rfl (fun H locs hP hD hS => ?_)
  refine lv_if_eq (tgt := 18) hx hb dX5_roomOf_13 (by decide) (fun c_896 => ?_) (fun c_896 => ?_)
  · have h := ip c_896 h
    refine lv_aload_n hx hb dX5_roomOf_18 rfl (lv_at hl 0 rfl) ?_
    obtain ⟨u_897, hc_898, h⟩ := bd_inv h
    refine wafter_v (wr := []) (w2 := (w_D G d0 d1 d2 d3 d4 d5 d6 d7 d8 d9 d10 d11 d12 d_n d_a d_b d_c u_897.1 u_897.2.1 u_897.2.2.1 u_897.2.2.2.1 u_897.2.2.2.2 d_w d_e d_1 d_2 d_o d_g d_ra d_rb d_rc u_894.2)) (va_runV (As := []) (rest := []) ⟨hx, hb, hml, hown, hts⟩ (kX5_findRooms (l := l) (G := G) d0 d1 d2 d3 d4 d5 d6 d7 d8 d9 d10 d11 d12 d_n d_a d_b d_c d_k d_x d_y d_d d_r d_w d_e d_1 d_2 d_o d_g d_ra d_rb d_rc u_894.2  N u_897 hc_898 _) (cwV 0 hts gX5_roomOf_X5_findRooms rfl rfl rfl (by decide +kernel) ⟨Nat.le_of_ble_eq_true rfl, Nat.le_of_ble_eq_true rfl⟩) (wPreV hP hD hK [0, 1, 2, 3, 4, 5, 6, 7, 8, 9, 10, 11, 12] rfl rfl (ci := 5) (qb := 0) rfl rfl rfl) rfl rfl hl.1 rfl (lv_room (Nat.le_of_ble_eq_true rfl)) dX5_roomOf_19 ⟨Nat.zero_le _, Nat.zero_le _⟩) hP hD hS hA [0, 1, 2, 3, 4, 5, 6, 7, 8, 9, 10, 11, 12] [] [0, 1, 2, 3, 4, 5, 6, 7, 8, 9, 10, 11, 12] rfl rfl rfl (by decide) rfl rfl (fun H locs hP hD hS => ?_)
    refine lv_aload_n hx hb dX5_roomOf_22 rfl (lv_at hl 0 rfl) ?_
    refine va_get (D := G.1) (ci := 5) (v := .ref d7) (C := RX5) (T := TX5) (N := 19) hx hb hts hinX5 hown hK.1 hP 0 rfl rfl 8 (by decide) lk28 (fun _ h9 => h9) rfl dX5_roomOf_23 ?_
    refine lv_iload_n hx hb dX5_roomOf_26 rfl (lv_at hl 1 rfl) ?_
    refine wzald h hx hb hK hP 7 rfl dX5_roomOf_27 (fun v_899 h => ?_)
    refine lv_if_eq (tgt := 39) hx hb dX5_roomOf_28 (by decide) (fun c_900 => ?_) (fun c_900 => ?_)
    · have h := ip c_900 h
      refine lv_iconst (v := (-1)) hx hb dX5_roomOf_39 (by decide) ?_
      obtain rfl := Option.some.inj h
      exact wri hx hb hr hlocks hP hD hS (Nat.le_of_ble_eq_true rfl) (Nat.le_of_ble_eq_true rfl) rfl dX5_roomOf_40
    · have h := iq c_900 h
      refine lv_aload_n hx hb dX5_roomOf_31 rfl (lv_at hl 0 rfl) ?_
      refine lv_iload_n hx hb dX5_roomOf_32 rfl (lv_at hl 1 rfl) ?_
      obtain ⟨u_901, hc_902, h⟩ := bd_inv h
      refine wafter_i (wr := []) (w2 := (w_D G d0 d1 d2 d3 d4 d5 d6 d7 d8 d9 d10 d11 d12 d_n d_a d_b d_c u_897.1 u_897.2.1 u_897.2.2.1 u_897.2.2.2.1 u_897.2.2.2.2 d_w d_e d_1 d_2 d_o d_g d_ra d_rb d_rc u_894.2)) (va_runV (As := [.int x1]) (rest := []) ⟨hx, hb, hml, hown, hts⟩ (kX5_numberOf (l := l) (G := G) d0 d1 d2 d3 d4 d5 d6 d7 d8 d9 d10 d11 d12 d_n d_a d_b d_c u_897.1 u_897.2.1 u_897.2.2.1 u_897.2.2.2.1 u_897.2.2.2.2 d_w d_e d_1 d_2 d_o d_g d_ra d_rb d_rc u_894.2 x1 N u_901 hc_902 _) (cwV 1 hts gX5_roomOf_X5_numberOf rfl rfl rfl (by decide +kernel) ⟨Nat.le_of_ble_eq_true rfl, Nat.le_of_ble_eq_true rfl⟩) (wPreV hP hD hK [0, 1, 2, 3, 4, 5, 6, 7, 8, 9, 10, 11, 12] rfl rfl (ci := 5) (qb := 0) rfl rfl rfl) rfl rfl hl.1 rfl (lv_room (Nat.le_of_ble_eq_true rfl)) dX5_roomOf_33 ⟨Nat.zero_le _, Nat.zero_le _⟩) hP hD hS hA [0, 1, 2, 3, 4, 5, 6, 7, 8, 9, 10, 11, 12] [] [0, 1, 2, 3, 4, 5, 6, 7, 8, 9, 10, 11, 12] rfl rfl rfl (by decide) rfl rfl (fun H locs hP hD hS => ?_)
      refine lv_goto (tgt := 40) hx hb dX5_roomOf_36 (by decide) ?_
      obtain rfl := Option.some.inj h
      exact wri hx hb hr hlocks hP hD hS (Nat.le_of_ble_eq_true rfl) (Nat.le_of_ble_eq_true rfl) rfl dX5_roomOf_40
  · have h := iq c_896 h
    refine lv_iconst (v := 0) hx hb dX5_roomOf_16 (by decide) ?_
    obtain rfl := Option.some.inj h
    exact wri hx hb hr hlocks hP hD hS (Nat.le_of_ble_eq_true rfl) (Nat.le_of_ble_eq_true rfl) rfl dX5_roomOf_17
def fX5_corner_b46 (N : Nat) (d_n : Int32) (d_a : Nat → Int32) (d_b : Nat → Int32) (d_c : Nat → Int32) (d_k : Int32) (d_x : Nat → Int32) (d_y : Nat → Int32) (d_d : Nat → Int32) (d_r : Nat → Int32) (d_t : Int32) (x3 : Int32) : Nat → Int32 → Int32 → Option (Int32 × Int32 × (Nat → Int32) × (Nat → Int32) × (Nat → Int32) × (Nat → Int32) × Int32)
  | 0, _, _ => none
  | n + 1, x4, x5 => if d_k ≤ x5 then some ((-1), d_k, d_x, d_y, d_d, d_r, d_t) else bd (fX5_isCorner N d_n d_a d_b d_c d_x d_y d_d x3 x5) (fun u_904 => if u_904 = 0 then fX5_corner_b46 N d_n d_a d_b d_c d_k d_x d_y d_d d_r d_t x3 n x4 (x5 + 1) else if x4 = 0 then some (x5, d_k, d_x, d_y, d_d, d_r, d_t) else fX5_corner_b46 N d_n d_a d_b d_c d_k d_x d_y d_d d_r d_t x3 n (x4 + (-1)) (x5 + 1))
def fX5_corner_b31 (N : Nat) (d_n : Int32) (d_a : Nat → Int32) (d_b : Nat → Int32) (d_c : Nat → Int32) (d_k : Int32) (d_x : Nat → Int32) (d_y : Nat → Int32) (d_d : Nat → Int32) (d_r : Nat → Int32) (x2 : Int32) (x3 : Int32) (d_t : Int32) (s1 : Int32) : Option (Int32 × Int32 × (Nat → Int32) × (Nat → Int32) × (Nat → Int32) × (Nat → Int32) × Int32) := bd (fX5_fails N d_t s1 1) (fun u_908 => if u_908.1 = 0 then fX5_corner_b46 N d_n d_a d_b d_c d_k d_x d_y d_d d_r u_908.2 x3 N x2 0 else some (0, d_k, d_x, d_y, d_d, d_r, u_908.2))
def fX5_corner (N : Nat) (d_n : Int32) (d_a : Nat → Int32) (d_b : Nat → Int32) (d_c : Nat → Int32) (d_k : Int32) (d_x : Nat → Int32) (d_y : Nat → Int32) (d_d : Nat → Int32) (d_r : Nat → Int32) (d_t : Int32) (x1 : Int32) (x2 : Int32) : Option (Int32 × Int32 × (Nat → Int32) × (Nat → Int32) × (Nat → Int32) × (Nat → Int32) × Int32) := bd (fX5_roomIs N d_n d_a d_b d_c d_k d_x d_y d_d d_r x1) (fun u_911 => bd (fX5_fails N d_t u_911.1 1) (fun u_913 => if u_913.1 = 0 then bd (fX5_setOf N u_911.2.2.2.2.2 x1) (fun u_916 => if x2 < 0 then fX5_corner_b31 N d_n d_a d_b d_c u_911.2.1 u_911.2.2.1 u_911.2.2.2.1 u_911.2.2.2.2.1 u_911.2.2.2.2.2 x2 u_916 u_913.2 0 else fX5_corner_b31 N d_n d_a d_b d_c u_911.2.1 u_911.2.2.1 u_911.2.2.2.1 u_911.2.2.2.2.1 u_911.2.2.2.2.2 x2 u_916 u_913.2 1) else some (0, u_911.2.1, u_911.2.2.1, u_911.2.2.2.1, u_911.2.2.2.2.1, u_911.2.2.2.2.2, u_913.2)))
set_option maxHeartbeats 4000000 in
set_option maxRecDepth 100000 in
theorem kX5_corner {l : Launch} {G : wG} (d0 d1 d2 d3 d4 d5 d6 d7 d8 d9 d10 d11 d12 : Nat) (d_n : Int32) (d_a : Nat → Int32) (d_b : Nat → Int32) (d_c : Nat → Int32) (d_k : Int32) (d_x : Nat → Int32) (d_y : Nat → Int32) (d_d : Nat → Int32) (d_r : Nat → Int32) (d_w : Nat → Int32) (d_e : Int32) (d_1 : Nat → Int32) (d_2 : Nat → Int32) (d_o : Nat → Int32) (d_g : Nat → Int32) (d_ra : Int32) (d_rb : Int32) (d_rc : Int32) (d_t : Int32) (x1 : Int32) (x2 : Int32) (N : Nat) (v : Int32 × Int32 × (Nat → Int32) × (Nat → Int32) × (Nat → Int32) × (Nat → Int32) × Int32) (h : fX5_corner N d_n d_a d_b d_c d_k d_x d_y d_d d_r d_t x1 x2 = some v) : wCi l G yX5_corner wsX5_corner ({ frames := 5, cells := 0, slots := 0, locals := 120 } : Room) [.ref d0, .int x1, .int x2] (w_D G d0 d1 d2 d3 d4 d5 d6 d7 d8 d9 d10 d11 d12 d_n d_a d_b d_c d_k d_x d_y d_d d_r d_w d_e d_1 d_2 d_o d_g d_ra d_rb d_rc d_t) (w_D G d0 d1 d2 d3 d4 d5 d6 d7 d8 d9 d10 d11 d12 d_n d_a d_b d_c v.2.1 v.2.2.1 v.2.2.2.1 v.2.2.2.2.1 v.2.2.2.2.2.1 d_w d_e d_1 d_2 d_o d_g d_ra d_rb d_rc v.2.2.2.2.2.2) 0 0 v.1 := by
  refine wCi.mk (cc := cX5_corner) (maxL := 6) (ty := .int) (by decide) rfl (Nat.le_of_ble_eq_true rfl) ?_
  intro p e s m below meth c A ls hx hb hml hr hlocks hts hown hK hA hP hD hl
  have hx : p.tables.exec = Jvm.exec := hx
  have hown : s.vm.findClass RX5 = some m.cls := hown
  have hinX5 : ∀ w ∈ wsX50, w ∈ wsX5_corner := by decide +kernel
  have lk78 := hts (.fieldLink RX5 78 "ChamberwrightModel" "meets" "I") (by decide +kernel)
  have hS : va_S A s.heap s.heap [] := va_S.rf
  have hP : va_P G.1 vwCl (w_D G d0 d1 d2 d3 d4 d5 d6 d7 d8 d9 d10 d11 d12 d_n d_a d_b d_c d_k d_x d_y d_d d_r d_w d_e d_1 d_2 d_o d_g d_ra d_rb d_rc d_t) s.heap := hP
  have hD : va_D A (w_D G d0 d1 d2 d3 d4 d5 d6 d7 d8 d9 d10 d11 d12 d_n d_a d_b d_c d_k d_x d_y d_d d_r d_w d_e d_1 d_2 d_o d_g d_ra d_rb d_rc d_t) := hD
  have hl : lv_has ls 6 [(0, .ref d0), (1, .int x1), (2, .int x2)] := hl
  obtain ⟨args, hargs⟩ : ∃ z : Array Value, z = ([.ref d0, .int x1, .int x2] : List Value).toArray := ⟨_, rfl⟩
  rw [← hargs]
  rw [← hargs] at hts
  have w_46 : ∀ (x3 : Int32) (d_k : Int32) (d_x : Nat → Int32) (d_y : Nat → Int32) (d_d : Nat → Int32) (d_r : Nat → Int32) (d_t : Int32) (_z : Unit), ∀ (n : Nat) (x4 : Int32) (x5 : Int32)  (H : Heap) (locs : List Loc) (ls : Array Slot), va_P G.1 vwCl (w_D G d0 d1 d2 d3 d4 d5 d6 d7 d8 d9 d10 d11 d12 d_n d_a d_b d_c d_k d_x d_y d_d d_r d_w d_e d_1 d_2 d_o d_g d_ra d_rb d_rc d_t) H → va_D A (w_D G d0 d1 d2 d3 d4 d5 d6 d7 d8 d9 d10 d11 d12 d_n d_a d_b d_c d_k d_x d_y d_d d_r d_w d_e d_1 d_2 d_o d_g d_ra d_rb d_rc d_t) → va_S A s.heap H locs → lv_has ls 6 [(0, .ref d0), (3, .int x3), (4, .int x4), (5, .int x5)] → fX5_corner_b46 N d_n d_a d_b d_c d_k d_x d_y d_d d_r d_t x3 n x4 x5 = some v → W p l e ({ frames := 5, cells := 0, slots := 0, locals := 120 } : Room) s m args below meth c H locs 0 0 (wQi G A below args s (w_D G d0 d1 d2 d3 d4 d5 d6 d7 d8 d9 d10 d11 d12 d_n d_a d_b d_c v.2.1 v.2.2.1 v.2.2.2.1 v.2.2.2.2.1 v.2.2.2.2.2.1 d_w d_e d_1 d_2 d_o d_g d_ra d_rb d_rc v.2.2.2.2.2.2) 0 0 v.1) (F0 m 46 ls []) := by
    intro x3 d_k d_x d_y d_d d_r d_t _z n
    induction n with
    | zero =>
      intro x4 x5 H locs ls hP hD hS hl h
      rw [fX5_corner_b46.eq_1] at h
      cases h
    | succ n ih =>
      intro x4 x5 H locs ls hP hD hS hl h
      rw [fX5_corner_b46.eq_2] at h
      refine lv_iload hx hb dX5_corner_46 (lv_at hl 3 rfl) ?_
      refine lv_aload_n hx hb dX5_corner_48 rfl (lv_at hl 0 rfl) ?_
      refine va_get (D := G.1) (ci := 5) (v := .int d_k) (C := RX5) (T := TX5) (N := 19) hx hb hts hinX5 hown hK.1 hP 0 rfl rfl 4 (by decide) lk78 (fun _ h9 => h9) rfl dX5_corner_49 ?_
      refine lv_icmp_ge (tgt := 82) hx hb dX5_corner_52 (by decide) (fun c_903 => ?_) (fun c_903 => ?_)
      · have h := ip c_903 h
        refine lv_iconst (v := (-1)) hx hb dX5_corner_82 (by decide) ?_
        obtain rfl := Option.some.inj h
        exact wri hx hb hr hlocks hP hD hS (Nat.le_of_ble_eq_true rfl) (Nat.le_of_ble_eq_true rfl) rfl dX5_corner_83
      · have h := iq c_903 h
        refine lv_aload_n hx hb dX5_corner_55 rfl (lv_at hl 0 rfl) ?_
        refine lv_iload_n hx hb dX5_corner_56 rfl (lv_at hl 1 rfl) ?_
        refine lv_iload hx hb dX5_corner_57 (lv_at hl 3 rfl) ?_
        obtain ⟨u_904, hc_905, h⟩ := bd_inv h
        refine wafter_i (wr := []) (w2 := (w_D G d0 d1 d2 d3 d4 d5 d6 d7 d8 d9 d10 d11 d12 d_n d_a d_b d_c d_k d_x d_y d_d d_r d_w d_e d_1 d_2 d_o d_g d_ra d_rb d_rc d_t)) (va_runV (As := [.int x3, .int x5]) (rest := []) ⟨hx, hb, hml, hown, hts⟩ (kX5_isCorner (l := l) (G := G) d0 d1 d2 d3 d4 d5 d6 d7 d8 d9 d10 d11 d12 d_n d_a d_b d_c d_k d_x d_y d_d d_r d_w d_e d_1 d_2 d_o d_g d_ra d_rb d_rc d_t x3 x5 N u_904 hc_905 _) (cwV 2 hts gX5_corner_X5_isCorner rfl rfl rfl (by decide +kernel) ⟨Nat.le_of_ble_eq_true rfl, Nat.le_of_ble_eq_true rfl⟩) (wPreV hP hD hK [0, 1, 2, 3, 4, 5, 6, 7, 8, 9, 10, 11, 12] rfl rfl (ci := 5) (qb := 0) rfl rfl rfl) rfl rfl hl.1 rfl (lv_room (Nat.le_of_ble_eq_true rfl)) dX5_corner_59 ⟨Nat.zero_le _, Nat.zero_le _⟩) hP hD hS hA [0, 1, 2, 3, 4, 5, 6, 7, 8, 9, 10, 11, 12] [] [0, 1, 2, 3, 4, 5, 6, 7, 8, 9, 10, 11, 12] rfl rfl rfl (by decide) rfl rfl (fun H locs hP hD hS => ?_)
        refine lv_if_eq (tgt := 76) hx hb dX5_corner_62 (by decide) (fun c_906 => ?_) (fun c_906 => ?_)
        · have h := ip c_906 h
          refine lv_iinc (v := (x5 + 1)) (lv' := [(5, .int (x5 + 1)), (0, .ref d0), (3, .int x3), (4, .int x4)]) hx hb dX5_corner_76 hl (k := 3) rfl rfl (by decide) rfl (fun ls hl => ?_)
          refine lv_goto (tgt := 46) hx hb dX5_corner_79 (by decide) ?_
          exact ih _ _ _ _ _ hP hD hS (lv_sub hl [1, 2, 3, 0] rfl) h
        · have h := iq c_906 h
          refine lv_iload hx hb dX5_corner_65 (lv_at hl 2 rfl) ?_
          refine lv_if_ne (tgt := 73) hx hb dX5_corner_67 (by decide) (fun c_907 => ?_) (fun c_907 => ?_)
          · have h := iq c_907 h
            refine lv_iinc (v := (x4 + (-1))) (lv' := [(4, .int (x4 + (-1))), (0, .ref d0), (3, .int x3), (5, .int x5)]) hx hb dX5_corner_73 hl (k := 2) rfl rfl (by decide) rfl (fun ls hl => ?_)
            refine lv_iinc (v := (x5 + 1)) (lv' := [(5, .int (x5 + 1)), (4, .int (x4 + (-1))), (0, .ref d0), (3, .int x3)]) hx hb dX5_corner_76 hl (k := 3) rfl rfl (by decide) rfl (fun ls hl => ?_)
            refine lv_goto (tgt := 46) hx hb dX5_corner_79 (by decide) ?_
            exact ih _ _ _ _ _ hP hD hS (lv_sub hl [2, 3, 1, 0] rfl) h
          · have h := ip c_907 h
            refine lv_iload hx hb dX5_corner_70 (lv_at hl 3 rfl) ?_
            obtain rfl := Option.some.inj h
            exact wri hx hb hr hlocks hP hD hS (Nat.le_of_ble_eq_true rfl) (Nat.le_of_ble_eq_true rfl) rfl dX5_corner_72
  have w_31 : ∀ (x2 : Int32) (x3 : Int32) (d_k : Int32) (d_x : Nat → Int32) (d_y : Nat → Int32) (d_d : Nat → Int32) (d_r : Nat → Int32) (d_t : Int32) (s1 : Int32) (H : Heap) (locs : List Loc) (ls : Array Slot), va_P G.1 vwCl (w_D G d0 d1 d2 d3 d4 d5 d6 d7 d8 d9 d10 d11 d12 d_n d_a d_b d_c d_k d_x d_y d_d d_r d_w d_e d_1 d_2 d_o d_g d_ra d_rb d_rc d_t) H → va_D A (w_D G d0 d1 d2 d3 d4 d5 d6 d7 d8 d9 d10 d11 d12 d_n d_a d_b d_c d_k d_x d_y d_d d_r d_w d_e d_1 d_2 d_o d_g d_ra d_rb d_rc d_t) → va_S A s.heap H locs → lv_has ls 6 [(0, .ref d0), (2, .int x2), (3, .int x3)] → fX5_corner_b31 N d_n d_a d_b d_c d_k d_x d_y d_d d_r x2 x3 d_t s1 = some v → W p l e ({ frames := 5, cells := 0, slots := 0, locals := 120 } : Room) s m args below meth c H locs 0 0 (wQi G A below args s (w_D G d0 d1 d2 d3 d4 d5 d6 d7 d8 d9 d10 d11 d12 d_n d_a d_b d_c v.2.1 v.2.2.1 v.2.2.2.1 v.2.2.2.2.1 v.2.2.2.2.2.1 d_w d_e d_1 d_2 d_o d_g d_ra d_rb d_rc v.2.2.2.2.2.2) 0 0 v.1) (F0 m 31 ls [.int s1, .ref d0]) := by
    intro x2 x3 d_k d_x d_y d_d d_r d_t s1 H locs ls hP hD hS hl h
    rw [fX5_corner_b31.eq_1] at h
    refine lv_iconst (v := 1) hx hb dX5_corner_31 (by decide) ?_
    obtain ⟨u_908, hc_909, h⟩ := bd_inv h
    refine wafter_i (wr := []) (w2 := (w_D G d0 d1 d2 d3 d4 d5 d6 d7 d8 d9 d10 d11 d12 d_n d_a d_b d_c d_k d_x d_y d_d d_r d_w d_e d_1 d_2 d_o d_g d_ra d_rb d_rc u_908.2)) (va_runV (As := [.int s1, .int 1]) (rest := []) ⟨hx, hb, hml, hown, hts⟩ (kX5_fails (l := l) (G := G) d0 d1 d2 d3 d4 d5 d6 d7 d8 d9 d10 d11 d12 d_n d_a d_b d_c d_k d_x d_y d_d d_r d_w d_e d_1 d_2 d_o d_g d_ra d_rb d_rc d_t s1 1 N u_908 hc_909 _) (cwV 2 hts gX5_corner_X5_fails rfl rfl rfl (by decide +kernel) ⟨Nat.le_of_ble_eq_true rfl, Nat.le_of_ble_eq_true rfl⟩) (wPreV hP hD hK [0, 1, 2, 3, 4, 5, 6, 7, 8, 9, 10, 11, 12] rfl rfl (ci := 5) (qb := 0) rfl rfl rfl) rfl rfl hl.1 rfl (lv_room (Nat.le_of_ble_eq_true rfl)) dX5_corner_32 ⟨Nat.zero_le _, Nat.zero_le _⟩) hP hD hS hA [0, 1, 2, 3, 4, 5, 6, 7, 8, 9, 10, 11, 12] [] [0, 1, 2, 3, 4, 5, 6, 7, 8, 9, 10, 11, 12] rfl rfl rfl (by decide) rfl rfl (fun H locs hP hD hS => ?_)
    refine lv_if_eq (tgt := 40) hx hb dX5_corner_35 (by decide) (fun c_910 => ?_) (fun c_910 => ?_)
    · have h := ip c_910 h
      refine lv_iload_n hx hb dX5_corner_40 rfl (lv_at hl 1 rfl) ?_
      refine lv_istore (lv' := [(4, .int x2), (0, .ref d0), (2, .int x2), (3, .int x3)]) hx hb dX5_corner_41 hl (by decide) rfl (fun ls hl => ?_)
      refine lv_iconst (v := 0) hx hb dX5_corner_43 (by decide) ?_
      refine lv_istore (lv' := [(5, .int 0), (4, .int x2), (0, .ref d0), (2, .int x2), (3, .int x3)]) hx hb dX5_corner_44 hl (by decide) rfl (fun ls hl => ?_)
      exact w_46  _ _ _ _ _ _ _ ()  N _ _  _ _ _ hP hD hS (lv_sub hl [2, 4, 1, 0] rfl) h
    · have h := iq c_910 h
      refine lv_iconst (v := 0) hx hb dX5_corner_38 (by decide) ?_
      obtain rfl := Option.some.inj h
      exact wri hx hb hr hlocks hP hD hS (Nat.le_of_ble_eq_true rfl) (Nat.le_of_ble_eq_true rfl) rfl dX5_corner_39
  rw [fX5_corner.eq_1] at h
  refine lv_aload_n hx hb dX5_corner_0 rfl (lv_at hl 0 rfl) ?_
  refine lv_aload_n hx hb dX5_corner_1 rfl (lv_at hl 0 rfl) ?_
  refine lv_iload_n hx hb dX5_corner_2 rfl (lv_at hl 1 rfl) ?_
  obtain ⟨u_911, hc_912, h⟩ := bd_inv h
  refine wafter_i (wr := []) (w2 := (w_D G d0 d1 d2 d3 d4 d5 d6 d7 d8 d9 d10 d11 d12 d_n d_a d_b d_c u_911.2.1 u_911.2.2.1 u_911.2.2.2.1 u_911.2.2.2.2.1 u_911.2.2.2.2.2 d_w d_e d_1 d_2 d_o d_g d_ra d_rb d_rc d_t)) (va_runV (As := [.int x1]) (rest := [.ref d0]) ⟨hx, hb, hml, hown, hts⟩ (kX5_roomIs (l := l) (G := G) d0 d1 d2 d3 d4 d5 d6 d7 d8 d9 d10 d11 d12 d_n d_a d_b d_c d_k d_x d_y d_d d_r d_w d_e d_1 d_2 d_o d_g d_ra d_rb d_rc d_t x1 N u_911 hc_912 _) (cwV 1 hts gX5_corner_X5_roomIs rfl rfl rfl (by decide +kernel) ⟨Nat.le_of_ble_eq_true rfl, Nat.le_of_ble_eq_true rfl⟩) (wPreV hP hD hK [0, 1, 2, 3, 4, 5, 6, 7, 8, 9, 10, 11, 12] rfl rfl (ci := 5) (qb := 0) rfl rfl rfl) rfl rfl hl.1 rfl (lv_room (Nat.le_of_ble_eq_true rfl)) dX5_corner_3 ⟨Nat.zero_le _, Nat.zero_le _⟩) hP hD hS hA [0, 1, 2, 3, 4, 5, 6, 7, 8, 9, 10, 11, 12] [] [0, 1, 2, 3, 4, 5, 6, 7, 8, 9, 10, 11, 12] rfl rfl rfl (by decide) rfl rfl (fun H locs hP hD hS => ?_)
  refine lv_iconst (v := 1) hx hb dX5_corner_6 (by decide) ?_
  obtain ⟨u_913, hc_914, h⟩ := bd_inv h
  refine wafter_i (wr := []) (w2 := (w_D G d0 d1 d2 d3 d4 d5 d6 d7 d8 d9 d10 d11 d12 d_n d_a d_b d_c u_911.2.1 u_911.2.2.1 u_911.2.2.2.1 u_911.2.2.2.2.1 u_911.2.2.2.2.2 d_w d_e d_1 d_2 d_o d_g d_ra d_rb d_rc u_913.2)) (va_runV (As := [.int u_911.1, .int 1]) (rest := []) ⟨hx, hb, hml, hown, hts⟩ (kX5_fails (l := l) (G := G) d0 d1 d2 d3 d4 d5 d6 d7 d8 d9 d10 d11 d12 d_n d_a d_b d_c u_911.2.1 u_911.2.2.1 u_911.2.2.2.1 u_911.2.2.2.2.1 u_911.2.2.2.2.2 d_w d_e d_1 d_2 d_o d_g d_ra d_rb d_rc d_t u_911.1 1 N u_913 hc_914 _) (cwV 2 hts gX5_corner_X5_fails rfl rfl rfl (by decide +kernel) ⟨Nat.le_of_ble_eq_true rfl, Nat.le_of_ble_eq_true rfl⟩) (wPreV hP hD hK [0, 1, 2, 3, 4, 5, 6, 7, 8, 9, 10, 11, 12] rfl rfl (ci := 5) (qb := 0) rfl rfl rfl) rfl rfl hl.1 rfl (lv_room (Nat.le_of_ble_eq_true rfl)) dX5_corner_7 ⟨Nat.zero_le _, Nat.zero_le _⟩) hP hD hS hA [0, 1, 2, 3, 4, 5, 6, 7, 8, 9, 10, 11, 12] [] [0, 1, 2, 3, 4, 5, 6, 7, 8, 9, 10, 11, 12] rfl rfl rfl (by decide) rfl rfl (fun H locs hP hD hS => ?_)
  refine lv_if_eq (tgt := 15) hx hb dX5_corner_10 (by decide) (fun c_915 => ?_) (fun c_915 => ?_)
  · have h := ip c_915 h
    refine lv_aload_n hx hb dX5_corner_15 rfl (lv_at hl 0 rfl) ?_
    refine lv_iload_n hx hb dX5_corner_16 rfl (lv_at hl 1 rfl) ?_
    obtain ⟨u_916, hc_917, h⟩ := bd_inv h
    refine wafter_i (wr := []) (w2 := (w_D G d0 d1 d2 d3 d4 d5 d6 d7 d8 d9 d10 d11 d12 d_n d_a d_b d_c u_911.2.1 u_911.2.2.1 u_911.2.2.2.1 u_911.2.2.2.2.1 u_911.2.2.2.2.2 d_w d_e d_1 d_2 d_o d_g d_ra d_rb d_rc u_913.2)) (va_runV (As := [.int x1]) (rest := []) ⟨hx, hb, hml, hown, hts⟩ (kX5_setOf (l := l) (G := G) d0 d1 d2 d3 d4 d5 d6 d7 d8 d9 d10 d11 d12 d_n d_a d_b d_c u_911.2.1 u_911.2.2.1 u_911.2.2.2.1 u_911.2.2.2.2.1 u_911.2.2.2.2.2 d_w d_e d_1 d_2 d_o d_g d_ra d_rb d_rc u_913.2 x1 N u_916 hc_917 _) (cwV 1 hts gX5_corner_X5_setOf rfl rfl rfl (by decide +kernel) ⟨Nat.le_of_ble_eq_true rfl, Nat.le_of_ble_eq_true rfl⟩) (wPreV hP hD hK [0, 1, 2, 3, 4, 5, 6, 7, 8, 9, 10, 11, 12] rfl rfl (ci := 5) (qb := 0) rfl rfl rfl) rfl rfl hl.1 rfl (lv_room (Nat.le_of_ble_eq_true rfl)) dX5_corner_17 ⟨Nat.zero_le _, Nat.zero_le _⟩) hP hD hS hA [0, 1, 2, 3, 4, 5, 6, 7, 8, 9, 10, 11, 12] [] [0, 1, 2, 3, 4, 5, 6, 7, 8, 9, 10, 11, 12] rfl rfl rfl (by decide) rfl rfl (fun H locs hP hD hS => ?_)
    refine lv_istore_n (lv' := [(3, .int u_916), (0, .ref d0), (1, .int x1), (2, .int x2)]) hx hb dX5_corner_20 rfl hl (by decide) rfl (fun ls hl => ?_)
    refine lv_aload_n hx hb dX5_corner_21 rfl (lv_at hl 1 rfl) ?_
    refine lv_iload_n hx hb dX5_corner_22 rfl (lv_at hl 3 rfl) ?_
    refine lv_if_lt (tgt := 30) hx hb dX5_corner_23 (by decide) (fun c_918 => ?_) (fun c_918 => ?_)
    · have h := ip c_918 h
      refine lv_iconst (v := 0) hx hb dX5_corner_30 (by decide) ?_
      exact w_31  _ _ _ _ _ _ _ _ _ _ _ _  hP hD hS (lv_sub hl [1, 3, 0] rfl) h
    · have h := iq c_918 h
      refine lv_iconst (v := 1) hx hb dX5_corner_26 (by decide) ?_
      refine lv_goto (tgt := 31) hx hb dX5_corner_27 (by decide) ?_
      exact w_31  _ _ _ _ _ _ _ _ _ _ _ _  hP hD hS (lv_sub hl [1, 3, 0] rfl) h
  · have h := iq c_915 h
    refine lv_iconst (v := 0) hx hb dX5_corner_13 (by decide) ?_
    obtain rfl := Option.some.inj h
    exact wri hx hb hr hlocks hP hD hS (Nat.le_of_ble_eq_true rfl) (Nat.le_of_ble_eq_true rfl) rfl dX5_corner_14
def fX5_findWays_b75 (N : Nat) (x3 : Int32) (x4 : Int32) (d_w : Nat → Int32) (s0 : Int32) (k_27 : Int32 → (Nat → Int32) → Option ((Nat → Int32))) : Option ((Nat → Int32)) := rd d_w 512 x3 (fun v_919 => if s0 = 0 then ck 512 x3 (k_27 (x4 + 1) ((upd d_w (Int32.toNatClampNeg x3) (v_919 + 0)))) else rd d_w 512 (x3 ^^^ (1 <<< (x4 &&& 31))) (fun v_921 => ck 512 x3 (k_27 (x4 + 1) ((upd d_w (Int32.toNatClampNeg x3) (v_919 + v_921))))))
def fX5_findWays_b27 (N : Nat) (d_n : Int32) (d_r : Nat → Int32) (x1 : Int32) (x2 : Int32) (x3 : Int32) (k_112 : (Nat → Int32) → Option ((Nat → Int32))) : Nat → Int32 → (Nat → Int32) → Option ((Nat → Int32))
  | 0, _, _ => none
  | n + 1, x4, d_w => if d_n ≤ x4 then k_112 d_w else if (x3 &&& (x2 ^^^ (-1))) = 0 then if ((x3 >>> (x4 &&& 31)) &&& 1) = 1 then rd d_r 512 ((x1 ^^^ x3) ^^^ (1 <<< (x4 &&& 31))) (fun v_927 => if v_927 = 0 then fX5_findWays_b75 N x3 x4 d_w 0 (fun (x4_929 : Int32) (d_w_930 : Nat → Int32) => fX5_findWays_b27 N d_n d_r x1 x2 x3 k_112 n x4_929 d_w_930) else fX5_findWays_b75 N x3 x4 d_w 1 (fun (x4_931 : Int32) (d_w_932 : Nat → Int32) => fX5_findWays_b27 N d_n d_r x1 x2 x3 k_112 n x4_931 d_w_932)) else fX5_findWays_b75 N x3 x4 d_w 0 (fun (x4_925 : Int32) (d_w_926 : Nat → Int32) => fX5_findWays_b27 N d_n d_r x1 x2 x3 k_112 n x4_925 d_w_926) else k_112 d_w
def fX5_findWays_b2 (N : Nat) (d_n : Int32) (d_r : Nat → Int32) (x1 : Int32) (x2 : Int32) : Nat → Int32 → (Nat → Int32) → Option ((Nat → Int32))
  | 0, _, _ => none
  | n + 1, x3, d_w => if 512 ≤ x3 then some d_w else if x3 = 0 then ck 512 x3 (fX5_findWays_b27 N d_n d_r x1 x2 x3 (fun (d_w_936 : Nat → Int32) => fX5_findWays_b2 N d_n d_r x1 x2 n (x3 + 1) d_w_936) N 0 ((upd d_w (Int32.toNatClampNeg x3) 1))) else ck 512 x3 (fX5_findWays_b27 N d_n d_r x1 x2 x3 (fun (d_w_935 : Nat → Int32) => fX5_findWays_b2 N d_n d_r x1 x2 n (x3 + 1) d_w_935) N 0 ((upd d_w (Int32.toNatClampNeg x3) 0)))
def fX5_findWays (N : Nat) (d_n : Int32) (d_r : Nat → Int32) (d_w : Nat → Int32) (x1 : Int32) (x2 : Int32) : Option ((Nat → Int32)) := fX5_findWays_b2 N d_n d_r x1 x2 N 0 d_w
set_option maxHeartbeats 4000000 in
set_option maxRecDepth 100000 in
theorem kX5_findWays {l : Launch} {G : wG} (d0 d1 d2 d3 d4 d5 d6 d7 d8 d9 d10 d11 d12 : Nat) (d_n : Int32) (d_a : Nat → Int32) (d_b : Nat → Int32) (d_c : Nat → Int32) (d_k : Int32) (d_x : Nat → Int32) (d_y : Nat → Int32) (d_d : Nat → Int32) (d_r : Nat → Int32) (d_w : Nat → Int32) (d_e : Int32) (d_1 : Nat → Int32) (d_2 : Nat → Int32) (d_o : Nat → Int32) (d_g : Nat → Int32) (d_ra : Int32) (d_rb : Int32) (d_rc : Int32) (d_t : Int32) (x1 : Int32) (x2 : Int32) (N : Nat) (v : (Nat → Int32)) (h : fX5_findWays N d_n d_r d_w x1 x2 = some v) : wCv l G yX5_findWays wsX5_findWays ({ frames := 0, cells := 0, slots := 0, locals := 0 } : Room) [.ref d0, .int x1, .int x2] (w_D G d0 d1 d2 d3 d4 d5 d6 d7 d8 d9 d10 d11 d12 d_n d_a d_b d_c d_k d_x d_y d_d d_r d_w d_e d_1 d_2 d_o d_g d_ra d_rb d_rc d_t) (w_D G d0 d1 d2 d3 d4 d5 d6 d7 d8 d9 d10 d11 d12 d_n d_a d_b d_c d_k d_x d_y d_d d_r v d_e d_1 d_2 d_o d_g d_ra d_rb d_rc d_t) 0 0 := by
  refine wCv.mk (cc := cX5_findWays) (maxL := 6) (by decide) rfl (Nat.le_of_ble_eq_true rfl) ?_
  intro p e s m below meth c A ls hx hb hml hr hlocks hts hown hK hA hP hD hl
  have hx : p.tables.exec = Jvm.exec := hx
  have hown : s.vm.findClass RX5 = some m.cls := hown
  have hinX5 : ∀ w ∈ wsX50, w ∈ wsX5_findWays := by decide +kernel
  have lk28 := hts (.fieldLink RX5 28 "ChamberwrightModel" "isRoom" "[Z") (by decide +kernel)
  have lk32 := hts (.fieldLink RX5 32 "ChamberwrightModel" "ways" "[I") (by decide +kernel)
  have lk51 := hts (.fieldLink RX5 51 "ChamberwrightModel" "lines" "I") (by decide +kernel)
  have hS : va_S A s.heap s.heap [] := va_S.rf
  have hP : va_P G.1 vwCl (w_D G d0 d1 d2 d3 d4 d5 d6 d7 d8 d9 d10 d11 d12 d_n d_a d_b d_c d_k d_x d_y d_d d_r d_w d_e d_1 d_2 d_o d_g d_ra d_rb d_rc d_t) s.heap := hP
  have hD : va_D A (w_D G d0 d1 d2 d3 d4 d5 d6 d7 d8 d9 d10 d11 d12 d_n d_a d_b d_c d_k d_x d_y d_d d_r d_w d_e d_1 d_2 d_o d_g d_ra d_rb d_rc d_t) := hD
  have hl : lv_has ls 6 [(0, .ref d0), (1, .int x1), (2, .int x2)] := hl
  obtain ⟨args, hargs⟩ : ∃ z : Array Value, z = ([.ref d0, .int x1, .int x2] : List Value).toArray := ⟨_, rfl⟩
  rw [← hargs]
  rw [← hargs] at hts
  have w_75 : ∀ (k_27 : Int32 → (Nat → Int32) → Option ((Nat → Int32))) (x1 : Int32) (x2 : Int32) (x3 : Int32) (x4 : Int32) (d_w : Nat → Int32) (s0 : Int32) (H : Heap) (locs : List Loc) (ls : Array Slot), (∀ (y4 : Int32) (yd_w : Nat → Int32) (H : Heap) (locs : List Loc) (ls : Array Slot), va_P G.1 vwCl (w_D G d0 d1 d2 d3 d4 d5 d6 d7 d8 d9 d10 d11 d12 d_n d_a d_b d_c d_k d_x d_y d_d d_r yd_w d_e d_1 d_2 d_o d_g d_ra d_rb d_rc d_t) H → va_D A (w_D G d0 d1 d2 d3 d4 d5 d6 d7 d8 d9 d10 d11 d12 d_n d_a d_b d_c d_k d_x d_y d_d d_r yd_w d_e d_1 d_2 d_o d_g d_ra d_rb d_rc d_t) → va_S A s.heap H locs → lv_has ls 6 [(0, .ref d0), (1, .int x1), (2, .int x2), (3, .int x3), (4, .int y4)] → k_27 y4 yd_w = some v → W p l e ({ frames := 0, cells := 0, slots := 0, locals := 0 } : Room) s m args below meth c H locs 0 0 (wQv G A below args s (w_D G d0 d1 d2 d3 d4 d5 d6 d7 d8 d9 d10 d11 d12 d_n d_a d_b d_c d_k d_x d_y d_d d_r v d_e d_1 d_2 d_o d_g d_ra d_rb d_rc d_t) 0 0) (F0 m 27 ls [])) → va_P G.1 vwCl (w_D G d0 d1 d2 d3 d4 d5 d6 d7 d8 d9 d10 d11 d12 d_n d_a d_b d_c d_k d_x d_y d_d d_r d_w d_e d_1 d_2 d_o d_g d_ra d_rb d_rc d_t) H → va_D A (w_D G d0 d1 d2 d3 d4 d5 d6 d7 d8 d9 d10 d11 d12 d_n d_a d_b d_c d_k d_x d_y d_d d_r d_w d_e d_1 d_2 d_o d_g d_ra d_rb d_rc d_t) → va_S A s.heap H locs → lv_has ls 6 [(0, .ref d0), (1, .int x1), (2, .int x2), (3, .int x3), (4, .int x4)] → fX5_findWays_b75 N x3 x4 d_w s0 k_27 = some v → W p l e ({ frames := 0, cells := 0, slots := 0, locals := 0 } : Room) s m args below meth c H locs 0 0 (wQv G A below args s (w_D G d0 d1 d2 d3 d4 d5 d6 d7 d8 d9 d10 d11 d12 d_n d_a d_b d_c d_k d_x d_y d_d d_r v d_e d_1 d_2 d_o d_g d_ra d_rb d_rc d_t) 0 0) (F0 m 75 ls [.int s0]) := by
    intro k_27 x1 x2 x3 x4 d_w s0 H locs ls hk_27 hP hD hS hl h
    rw [fX5_findWays_b75.eq_1] at h
    refine lv_istore (lv' := [(5, .int s0), (0, .ref d0), (1, .int x1), (2, .int x2), (3, .int x3), (4, .int x4)]) hx hb dX5_findWays_75 hl (by decide) rfl (fun ls hl => ?_)
    refine lv_aload_n hx hb dX5_findWays_77 rfl (lv_at hl 1 rfl) ?_
    refine va_get (D := G.1) (ci := 5) (v := .ref d8) (C := RX5) (T := TX5) (N := 19) hx hb hts hinX5 hown hK.1 hP 0 rfl rfl 9 (by decide) lk32 (fun _ h9 => h9) rfl dX5_findWays_78 ?_
    refine lv_iload_n hx hb dX5_findWays_81 rfl (lv_at hl 4 rfl) ?_
    refine lv_dup2_11 hx hb dX5_findWays_82 rfl rfl ?_
    refine wiald h hx hb hK hP 8 rfl dX5_findWays_83 (fun v_919 h => ?_)
    refine lv_iload hx hb dX5_findWays_84 (lv_at hl 0 rfl) ?_
    refine lv_if_eq (tgt := 103) hx hb dX5_findWays_86 (by decide) (fun c_920 => ?_) (fun c_920 => ?_)
    · have h := ip c_920 h
      refine lv_iconst (v := 0) hx hb dX5_findWays_103 (by decide) ?_
      refine lv_iadd hx hb dX5_findWays_104 ?_
      refine wiast h hx hb hK hP hD hS 8 rfl dX5_findWays_105 (fun H locs hP hD hS h => ?_)
      have hP : va_P G.1 vwCl (w_D G d0 d1 d2 d3 d4 d5 d6 d7 d8 d9 d10 d11 d12 d_n d_a d_b d_c d_k d_x d_y d_d d_r ((upd d_w (Int32.toNatClampNeg x3) (v_919 + 0))) d_e d_1 d_2 d_o d_g d_ra d_rb d_rc d_t) H := hP
      have hD : va_D A (w_D G d0 d1 d2 d3 d4 d5 d6 d7 d8 d9 d10 d11 d12 d_n d_a d_b d_c d_k d_x d_y d_d d_r ((upd d_w (Int32.toNatClampNeg x3) (v_919 + 0))) d_e d_1 d_2 d_o d_g d_ra d_rb d_rc d_t) := hD
      refine lv_iinc (v := (x4 + 1)) (lv' := [(4, .int (x4 + 1)), (5, .int s0), (0, .ref d0), (1, .int x1), (2, .int x2), (3, .int x3)]) hx hb dX5_findWays_106 hl (k := 5) rfl rfl (by decide) rfl (fun ls hl => ?_)
      refine lv_goto (tgt := 27) hx hb dX5_findWays_109 (by decide) ?_
      exact hk_27 _ _ _ _ _ hP hD hS (lv_sub hl [2, 3, 4, 5, 0] rfl) h
    · have h := iq c_920 h
      refine lv_aload_n hx hb dX5_findWays_89 rfl (lv_at hl 1 rfl) ?_
      refine va_get (D := G.1) (ci := 5) (v := .ref d8) (C := RX5) (T := TX5) (N := 19) hx hb hts hinX5 hown hK.1 hP 0 rfl rfl 9 (by decide) lk32 (fun _ h9 => h9) rfl dX5_findWays_90 ?_
      refine lv_iload_n hx hb dX5_findWays_93 rfl (lv_at hl 4 rfl) ?_
      refine lv_iconst (v := 1) hx hb dX5_findWays_94 (by decide) ?_
      refine lv_iload hx hb dX5_findWays_95 (lv_at hl 5 rfl) ?_
      refine lv_ishl hx hb dX5_findWays_97 ?_
      refine lv_ixor hx hb dX5_findWays_98 ?_
      refine wiald h hx hb hK hP 8 rfl dX5_findWays_99 (fun v_921 h => ?_)
      refine lv_goto (tgt := 104) hx hb dX5_findWays_100 (by decide) ?_
      refine lv_iadd hx hb dX5_findWays_104 ?_
      refine wiast h hx hb hK hP hD hS 8 rfl dX5_findWays_105 (fun H locs hP hD hS h => ?_)
      have hP : va_P G.1 vwCl (w_D G d0 d1 d2 d3 d4 d5 d6 d7 d8 d9 d10 d11 d12 d_n d_a d_b d_c d_k d_x d_y d_d d_r ((upd d_w (Int32.toNatClampNeg x3) (v_919 + v_921))) d_e d_1 d_2 d_o d_g d_ra d_rb d_rc d_t) H := hP
      have hD : va_D A (w_D G d0 d1 d2 d3 d4 d5 d6 d7 d8 d9 d10 d11 d12 d_n d_a d_b d_c d_k d_x d_y d_d d_r ((upd d_w (Int32.toNatClampNeg x3) (v_919 + v_921))) d_e d_1 d_2 d_o d_g d_ra d_rb d_rc d_t) := hD
      refine lv_iinc (v := (x4 + 1)) (lv' := [(4, .int (x4 + 1)), (5, .int s0), (0, .ref d0), (1, .int x1), (2, .int x2), (3, .int x3)]) hx hb dX5_findWays_106 hl (k := 5) rfl rfl (by decide) rfl (fun ls hl => ?_)
      refine lv_goto (tgt := 27) hx hb dX5_findWays_109 (by decide) ?_
      exact hk_27 _ _ _ _ _ hP hD hS (lv_sub hl [2, 3, 4, 5, 0] rfl) h
  have w_27 : ∀ (k_112 : (Nat → Int32) → Option ((Nat → Int32))) (x1 : Int32) (x2 : Int32) (x3 : Int32)  (_z : Unit), (∀ (yd_w : Nat → Int32) (H : Heap) (locs : List Loc) (ls : Array Slot), va_P G.1 vwCl (w_D G d0 d1 d2 d3 d4 d5 d6 d7 d8 d9 d10 d11 d12 d_n d_a d_b d_c d_k d_x d_y d_d d_r yd_w d_e d_1 d_2 d_o d_g d_ra d_rb d_rc d_t) H → va_D A (w_D G d0 d1 d2 d3 d4 d5 d6 d7 d8 d9 d10 d11 d12 d_n d_a d_b d_c d_k d_x d_y d_d d_r yd_w d_e d_1 d_2 d_o d_g d_ra d_rb d_rc d_t) → va_S A s.heap H locs → lv_has ls 6 [(0, .ref d0), (1, .int x1), (2, .int x2), (3, .int x3)] → k_112 yd_w = some v → W p l e ({ frames := 0, cells := 0, slots := 0, locals := 0 } : Room) s m args below meth c H locs 0 0 (wQv G A below args s (w_D G d0 d1 d2 d3 d4 d5 d6 d7 d8 d9 d10 d11 d12 d_n d_a d_b d_c d_k d_x d_y d_d d_r v d_e d_1 d_2 d_o d_g d_ra d_rb d_rc d_t) 0 0) (F0 m 112 ls [])) → ∀ (n : Nat) (x4 : Int32) (d_w : Nat → Int32) (H : Heap) (locs : List Loc) (ls : Array Slot), va_P G.1 vwCl (w_D G d0 d1 d2 d3 d4 d5 d6 d7 d8 d9 d10 d11 d12 d_n d_a d_b d_c d_k d_x d_y d_d d_r d_w d_e d_1 d_2 d_o d_g d_ra d_rb d_rc d_t) H → va_D A (w_D G d0 d1 d2 d3 d4 d5 d6 d7 d8 d9 d10 d11 d12 d_n d_a d_b d_c d_k d_x d_y d_d d_r d_w d_e d_1 d_2 d_o d_g d_ra d_rb d_rc d_t) → va_S A s.heap H locs → lv_has ls 6 [(0, .ref d0), (1, .int x1), (2, .int x2), (3, .int x3), (4, .int x4)] → fX5_findWays_b27 N d_n d_r x1 x2 x3 k_112 n x4 d_w = some v → W p l e ({ frames := 0, cells := 0, slots := 0, locals := 0 } : Room) s m args below meth c H locs 0 0 (wQv G A below args s (w_D G d0 d1 d2 d3 d4 d5 d6 d7 d8 d9 d10 d11 d12 d_n d_a d_b d_c d_k d_x d_y d_d d_r v d_e d_1 d_2 d_o d_g d_ra d_rb d_rc d_t) 0 0) (F0 m 27 ls []) := by
    intro k_112 x1 x2 x3 _z hk_112 n
    induction n with
    | zero =>
      intro x4 d_w H locs ls hP hD hS hl h
      rw [fX5_findWays_b27.eq_1] at h
      cases h
    | succ n ih =>
      intro x4 d_w H locs ls hP hD hS hl h
      rw [fX5_findWays_b27.eq_2] at h
      refine lv_iload hx hb dX5_findWays_27 (lv_at hl 4 rfl) ?_
      refine lv_aload_n hx hb dX5_findWays_29 rfl (lv_at hl 0 rfl) ?_
      refine va_get (D := G.1) (ci := 5) (v := .int d_n) (C := RX5) (T := TX5) (N := 19) hx hb hts hinX5 hown hK.1 hP 0 rfl rfl 0 (by decide) lk51 (fun _ h9 => h9) rfl dX5_findWays_30 ?_
      refine lv_icmp_ge (tgt := 112) hx hb dX5_findWays_33 (by decide) (fun c_922 => ?_) (fun c_922 => ?_)
      · have h := ip c_922 h
        exact hk_112 _ _ _ _ hP hD hS (lv_sub hl [0, 1, 2, 3] rfl) h
      · have h := iq c_922 h
        refine lv_iload_n hx hb dX5_findWays_36 rfl (lv_at hl 3 rfl) ?_
        refine lv_iload_n hx hb dX5_findWays_37 rfl (lv_at hl 2 rfl) ?_
        refine lv_iconst (v := (-1)) hx hb dX5_findWays_38 (by decide) ?_
        refine lv_ixor hx hb dX5_findWays_39 ?_
        refine lv_iand hx hb dX5_findWays_40 ?_
        refine lv_if_ne (tgt := 112) hx hb dX5_findWays_41 (by decide) (fun c_923 => ?_) (fun c_923 => ?_)
        · have h := iq c_923 h
          exact hk_112 _ _ _ _ hP hD hS (lv_sub hl [0, 1, 2, 3] rfl) h
        · have h := ip c_923 h
          refine lv_iload_n hx hb dX5_findWays_44 rfl (lv_at hl 3 rfl) ?_
          refine lv_iload hx hb dX5_findWays_45 (lv_at hl 4 rfl) ?_
          refine lv_ishr hx hb dX5_findWays_47 ?_
          refine lv_iconst (v := 1) hx hb dX5_findWays_48 (by decide) ?_
          refine lv_iand hx hb dX5_findWays_49 ?_
          refine lv_iconst (v := 1) hx hb dX5_findWays_50 (by decide) ?_
          refine lv_icmp_ne (tgt := 74) hx hb dX5_findWays_51 (by decide) (fun c_924 => ?_) (fun c_924 => ?_)
          · have h := iq c_924 h
            refine lv_iconst (v := 0) hx hb dX5_findWays_74 (by decide) ?_
            refine w_75 _ _ _ _ _ _ _ _ _ _ (fun x4_925 d_w_926 H locs ls hP hD hS hl h => ?_) hP hD hS (lv_sub hl [0, 1, 2, 3, 4] rfl) h
            exact ih _ _ _ _ _ hP hD hS (lv_sub hl [0, 1, 2, 3, 4] rfl) h
          · have h := ip c_924 h
            refine lv_aload_n hx hb dX5_findWays_54 rfl (lv_at hl 0 rfl) ?_
            refine va_get (D := G.1) (ci := 5) (v := .ref d7) (C := RX5) (T := TX5) (N := 19) hx hb hts hinX5 hown hK.1 hP 0 rfl rfl 8 (by decide) lk28 (fun _ h9 => h9) rfl dX5_findWays_55 ?_
            refine lv_iload_n hx hb dX5_findWays_58 rfl (lv_at hl 1 rfl) ?_
            refine lv_iload_n hx hb dX5_findWays_59 rfl (lv_at hl 3 rfl) ?_
            refine lv_ixor hx hb dX5_findWays_60 ?_
            refine lv_iconst (v := 1) hx hb dX5_findWays_61 (by decide) ?_
            refine lv_iload hx hb dX5_findWays_62 (lv_at hl 4 rfl) ?_
            refine lv_ishl hx hb dX5_findWays_64 ?_
            refine lv_ixor hx hb dX5_findWays_65 ?_
            refine wzald h hx hb hK hP 7 rfl dX5_findWays_66 (fun v_927 h => ?_)
            refine lv_if_eq (tgt := 74) hx hb dX5_findWays_67 (by decide) (fun c_928 => ?_) (fun c_928 => ?_)
            · have h := ip c_928 h
              refine lv_iconst (v := 0) hx hb dX5_findWays_74 (by decide) ?_
              refine w_75 _ _ _ _ _ _ _ _ _ _ (fun x4_929 d_w_930 H locs ls hP hD hS hl h => ?_) hP hD hS (lv_sub hl [0, 1, 2, 3, 4] rfl) h
              exact ih _ _ _ _ _ hP hD hS (lv_sub hl [0, 1, 2, 3, 4] rfl) h
            · have h := iq c_928 h
              refine lv_iconst (v := 1) hx hb dX5_findWays_70 (by decide) ?_
              refine lv_goto (tgt := 75) hx hb dX5_findWays_71 (by decide) ?_
              refine w_75 _ _ _ _ _ _ _ _ _ _ (fun x4_931 d_w_932 H locs ls hP hD hS hl h => ?_) hP hD hS (lv_sub hl [0, 1, 2, 3, 4] rfl) h
              exact ih _ _ _ _ _ hP hD hS (lv_sub hl [0, 1, 2, 3, 4] rfl) h
  have w_2 : ∀ (x1 : Int32) (x2 : Int32)  (_z : Unit), ∀ (n : Nat) (x3 : Int32) (d_w : Nat → Int32) (H : Heap) (locs : List Loc) (ls : Array Slot), va_P G.1 vwCl (w_D G d0 d1 d2 d3 d4 d5 d6 d7 d8 d9 d10 d11 d12 d_n d_a d_b d_c d_k d_x d_y d_d d_r d_w d_e d_1 d_2 d_o d_g d_ra d_rb d_rc d_t) H → va_D A (w_D G d0 d1 d2 d3 d4 d5 d6 d7 d8 d9 d10 d11 d12 d_n d_a d_b d_c d_k d_x d_y d_d d_r d_w d_e d_1 d_2 d_o d_g d_ra d_rb d_rc d_t) → va_S A s.heap H locs → lv_has ls 6 [(0, .ref d0), (1, .int x1), (2, .int x2), (3, .int x3)] → fX5_findWays_b2 N d_n d_r x1 x2 n x3 d_w = some v → W p l e ({ frames := 0, cells := 0, slots := 0, locals := 0 } : Room) s m args below meth c H locs 0 0 (wQv G A below args s (w_D G d0 d1 d2 d3 d4 d5 d6 d7 d8 d9 d10 d11 d12 d_n d_a d_b d_c d_k d_x d_y d_d d_r v d_e d_1 d_2 d_o d_g d_ra d_rb d_rc d_t) 0 0) (F0 m 2 ls []) := by
    intro x1 x2 _z n
    induction n with
    | zero =>
      intro x3 d_w H locs ls hP hD hS hl h
      rw [fX5_findWays_b2.eq_1] at h
      cases h
    | succ n ih =>
      intro x3 d_w H locs ls hP hD hS hl h
      rw [fX5_findWays_b2.eq_2] at h
      refine lv_iload_n hx hb dX5_findWays_2 rfl (lv_at hl 3 rfl) ?_
      refine lv_sipush (v := 512) hx hb dX5_findWays_3 (by decide) ?_
      refine lv_icmp_ge (tgt := 118) hx hb dX5_findWays_6 (by decide) (fun c_933 => ?_) (fun c_933 => ?_)
      · have h := ip c_933 h
        obtain rfl := Option.some.inj h
        exact wrv hx hb hr hlocks hP hD hS (Nat.le_of_ble_eq_true rfl) (Nat.le_of_ble_eq_true rfl) dX5_findWays_118
      · have h := iq c_933 h
        refine lv_aload_n hx hb dX5_findWays_9 rfl (lv_at hl 0 rfl) ?_
        refine va_get (D := G.1) (ci := 5) (v := .ref d8) (C := RX5) (T := TX5) (N := 19) hx hb hts hinX5 hown hK.1 hP 0 rfl rfl 9 (by decide) lk32 (fun _ h9 => h9) rfl dX5_findWays_10 ?_
        refine lv_iload_n hx hb dX5_findWays_13 rfl (lv_at hl 3 rfl) ?_
        refine lv_iload_n hx hb dX5_findWays_14 rfl (lv_at hl 3 rfl) ?_
        refine lv_if_ne (tgt := 22) hx hb dX5_findWays_15 (by decide) (fun c_934 => ?_) (fun c_934 => ?_)
        · have h := iq c_934 h
          refine lv_iconst (v := 0) hx hb dX5_findWays_22 (by decide) ?_
          refine wiast h hx hb hK hP hD hS 8 rfl dX5_findWays_23 (fun H locs hP hD hS h => ?_)
          have hP : va_P G.1 vwCl (w_D G d0 d1 d2 d3 d4 d5 d6 d7 d8 d9 d10 d11 d12 d_n d_a d_b d_c d_k d_x d_y d_d d_r ((upd d_w (Int32.toNatClampNeg x3) 0)) d_e d_1 d_2 d_o d_g d_ra d_rb d_rc d_t) H := hP
          have hD : va_D A (w_D G d0 d1 d2 d3 d4 d5 d6 d7 d8 d9 d10 d11 d12 d_n d_a d_b d_c d_k d_x d_y d_d d_r ((upd d_w (Int32.toNatClampNeg x3) 0)) d_e d_1 d_2 d_o d_g d_ra d_rb d_rc d_t) := hD
          refine lv_iconst (v := 0) hx hb dX5_findWays_24 (by decide) ?_
          refine lv_istore (lv' := [(4, .int 0), (0, .ref d0), (1, .int x1), (2, .int x2), (3, .int x3)]) hx hb dX5_findWays_25 hl (by decide) rfl (fun ls hl => ?_)
          refine w_27 _ _ _ _  () (fun d_w_935 H locs ls hP hD hS hl h => ?_) N _ _ _ _ _ hP hD hS (lv_sub hl [1, 2, 3, 4, 0] rfl) h
          refine lv_iinc (v := (x3 + 1)) (lv' := [(3, .int (x3 + 1)), (0, .ref d0), (1, .int x1), (2, .int x2)]) hx hb dX5_findWays_112 hl (k := 3) rfl rfl (by decide) rfl (fun ls hl => ?_)
          refine lv_goto (tgt := 2) hx hb dX5_findWays_115 (by decide) ?_
          exact ih _ _ _ _ _ hP hD hS (lv_sub hl [1, 2, 3, 0] rfl) h
        · have h := ip c_934 h
          refine lv_iconst (v := 1) hx hb dX5_findWays_18 (by decide) ?_
          refine lv_goto (tgt := 23) hx hb dX5_findWays_19 (by decide) ?_
          refine wiast h hx hb hK hP hD hS 8 rfl dX5_findWays_23 (fun H locs hP hD hS h => ?_)
          have hP : va_P G.1 vwCl (w_D G d0 d1 d2 d3 d4 d5 d6 d7 d8 d9 d10 d11 d12 d_n d_a d_b d_c d_k d_x d_y d_d d_r ((upd d_w (Int32.toNatClampNeg x3) 1)) d_e d_1 d_2 d_o d_g d_ra d_rb d_rc d_t) H := hP
          have hD : va_D A (w_D G d0 d1 d2 d3 d4 d5 d6 d7 d8 d9 d10 d11 d12 d_n d_a d_b d_c d_k d_x d_y d_d d_r ((upd d_w (Int32.toNatClampNeg x3) 1)) d_e d_1 d_2 d_o d_g d_ra d_rb d_rc d_t) := hD
          refine lv_iconst (v := 0) hx hb dX5_findWays_24 (by decide) ?_
          refine lv_istore (lv' := [(4, .int 0), (0, .ref d0), (1, .int x1), (2, .int x2), (3, .int x3)]) hx hb dX5_findWays_25 hl (by decide) rfl (fun ls hl => ?_)
          refine w_27 _ _ _ _  () (fun d_w_936 H locs ls hP hD hS hl h => ?_) N _ _ _ _ _ hP hD hS (lv_sub hl [1, 2, 3, 4, 0] rfl) h
          refine lv_iinc (v := (x3 + 1)) (lv' := [(3, .int (x3 + 1)), (0, .ref d0), (1, .int x1), (2, .int x2)]) hx hb dX5_findWays_112 hl (k := 3) rfl rfl (by decide) rfl (fun ls hl => ?_)
          refine lv_goto (tgt := 2) hx hb dX5_findWays_115 (by decide) ?_
          exact ih _ _ _ _ _ hP hD hS (lv_sub hl [1, 2, 3, 0] rfl) h
  rw [fX5_findWays.eq_1] at h
  refine lv_iconst (v := 0) hx hb dX5_findWays_0 (by decide) ?_
  refine lv_istore_n (lv' := [(3, .int 0), (0, .ref d0), (1, .int x1), (2, .int x2)]) hx hb dX5_findWays_1 rfl hl (by decide) rfl (fun ls hl => ?_)
  exact w_2  _ _  ()  N _ _ _ _ _ hP hD hS (lv_sub hl [1, 2, 3, 0] rfl) h
def fX5_galleries_b22 (N : Nat) (d_n : Int32) (d_k : Int32) (d_x : Nat → Int32) (d_y : Nat → Int32) (d_d : Nat → Int32) (d_r : Nat → Int32) (x1 : Int32) (x2 : Int32) (d_w : Nat → Int32) (d_t : Int32) (s1 : Int32) : Option (Int32 × Int32 × (Nat → Int32) × (Nat → Int32) × (Nat → Int32) × (Nat → Int32) × (Nat → Int32) × Int32) := bd (fX5_fails N d_t s1 1) (fun u_937 => if u_937.1 = 0 then bd (fX5_setOf N d_r x1) (fun u_940 => bd (fX5_setOf N d_r x2) (fun u_942 => bd (fX5_findWays N d_n d_r d_w u_942 (u_940 ^^^ u_942)) (fun u_944 => rd u_944 512 (u_940 ^^^ u_942) (fun v_946 => some (v_946, d_k, d_x, d_y, d_d, d_r, u_944, u_937.2))))) else some (0, d_k, d_x, d_y, d_d, d_r, d_w, u_937.2))
def fX5_galleries (N : Nat) (d_n : Int32) (d_a : Nat → Int32) (d_b : Nat → Int32) (d_c : Nat → Int32) (d_k : Int32) (d_x : Nat → Int32) (d_y : Nat → Int32) (d_d : Nat → Int32) (d_r : Nat → Int32) (d_w : Nat → Int32) (d_t : Int32) (x1 : Int32) (x2 : Int32) : Option (Int32 × Int32 × (Nat → Int32) × (Nat → Int32) × (Nat → Int32) × (Nat → Int32) × (Nat → Int32) × Int32) := bd (fX5_roomIs N d_n d_a d_b d_c d_k d_x d_y d_d d_r x1) (fun u_947 => if u_947.1 = 0 then fX5_galleries_b22 N d_n u_947.2.1 u_947.2.2.1 u_947.2.2.2.1 u_947.2.2.2.2.1 u_947.2.2.2.2.2 x1 x2 d_w d_t 0 else bd (fX5_roomIs N d_n d_a d_b d_c u_947.2.1 u_947.2.2.1 u_947.2.2.2.1 u_947.2.2.2.2.1 u_947.2.2.2.2.2 x2) (fun u_950 => if u_950.1 = 0 then fX5_galleries_b22 N d_n u_950.2.1 u_950.2.2.1 u_950.2.2.2.1 u_950.2.2.2.2.1 u_950.2.2.2.2.2 x1 x2 d_w d_t 0 else fX5_galleries_b22 N d_n u_950.2.1 u_950.2.2.1 u_950.2.2.2.1 u_950.2.2.2.2.1 u_950.2.2.2.2.2 x1 x2 d_w d_t 1))
set_option maxHeartbeats 4000000 in
set_option maxRecDepth 100000 in
theorem kX5_galleries {l : Launch} {G : wG} (d0 d1 d2 d3 d4 d5 d6 d7 d8 d9 d10 d11 d12 : Nat) (d_n : Int32) (d_a : Nat → Int32) (d_b : Nat → Int32) (d_c : Nat → Int32) (d_k : Int32) (d_x : Nat → Int32) (d_y : Nat → Int32) (d_d : Nat → Int32) (d_r : Nat → Int32) (d_w : Nat → Int32) (d_e : Int32) (d_1 : Nat → Int32) (d_2 : Nat → Int32) (d_o : Nat → Int32) (d_g : Nat → Int32) (d_ra : Int32) (d_rb : Int32) (d_rc : Int32) (d_t : Int32) (x1 : Int32) (x2 : Int32) (N : Nat) (v : Int32 × Int32 × (Nat → Int32) × (Nat → Int32) × (Nat → Int32) × (Nat → Int32) × (Nat → Int32) × Int32) (h : fX5_galleries N d_n d_a d_b d_c d_k d_x d_y d_d d_r d_w d_t x1 x2 = some v) : wCi l G yX5_galleries wsX5_galleries ({ frames := 5, cells := 0, slots := 0, locals := 120 } : Room) [.ref d0, .int x1, .int x2] (w_D G d0 d1 d2 d3 d4 d5 d6 d7 d8 d9 d10 d11 d12 d_n d_a d_b d_c d_k d_x d_y d_d d_r d_w d_e d_1 d_2 d_o d_g d_ra d_rb d_rc d_t) (w_D G d0 d1 d2 d3 d4 d5 d6 d7 d8 d9 d10 d11 d12 d_n d_a d_b d_c v.2.1 v.2.2.1 v.2.2.2.1 v.2.2.2.2.1 v.2.2.2.2.2.1 v.2.2.2.2.2.2.1 d_e d_1 d_2 d_o d_g d_ra d_rb d_rc v.2.2.2.2.2.2.2) 0 0 v.1 := by
  refine wCi.mk (cc := cX5_galleries) (maxL := 5) (ty := .int) (by decide) rfl (Nat.le_of_ble_eq_true rfl) ?_
  intro p e s m below meth c A ls hx hb hml hr hlocks hts hown hK hA hP hD hl
  have hx : p.tables.exec = Jvm.exec := hx
  have hown : s.vm.findClass RX5 = some m.cls := hown
  have hinX5 : ∀ w ∈ wsX50, w ∈ wsX5_galleries := by decide +kernel
  have lk32 := hts (.fieldLink RX5 32 "ChamberwrightModel" "ways" "[I") (by decide +kernel)
  have hS : va_S A s.heap s.heap [] := va_S.rf
  have hP : va_P G.1 vwCl (w_D G d0 d1 d2 d3 d4 d5 d6 d7 d8 d9 d10 d11 d12 d_n d_a d_b d_c d_k d_x d_y d_d d_r d_w d_e d_1 d_2 d_o d_g d_ra d_rb d_rc d_t) s.heap := hP
  have hD : va_D A (w_D G d0 d1 d2 d3 d4 d5 d6 d7 d8 d9 d10 d11 d12 d_n d_a d_b d_c d_k d_x d_y d_d d_r d_w d_e d_1 d_2 d_o d_g d_ra d_rb d_rc d_t) := hD
  have hl : lv_has ls 5 [(0, .ref d0), (1, .int x1), (2, .int x2)] := hl
  obtain ⟨args, hargs⟩ : ∃ z : Array Value, z = ([.ref d0, .int x1, .int x2] : List Value).toArray := ⟨_, rfl⟩
  rw [← hargs]
  rw [← hargs] at hts
  have w_22 : ∀ (x1 : Int32) (x2 : Int32) (d_k : Int32) (d_x : Nat → Int32) (d_y : Nat → Int32) (d_d : Nat → Int32) (d_r : Nat → Int32) (d_w : Nat → Int32) (d_t : Int32) (s1 : Int32) (H : Heap) (locs : List Loc) (ls : Array Slot), va_P G.1 vwCl (w_D G d0 d1 d2 d3 d4 d5 d6 d7 d8 d9 d10 d11 d12 d_n d_a d_b d_c d_k d_x d_y d_d d_r d_w d_e d_1 d_2 d_o d_g d_ra d_rb d_rc d_t) H → va_D A (w_D G d0 d1 d2 d3 d4 d5 d6 d7 d8 d9 d10 d11 d12 d_n d_a d_b d_c d_k d_x d_y d_d d_r d_w d_e d_1 d_2 d_o d_g d_ra d_rb d_rc d_t) → va_S A s.heap H locs → lv_has ls 5 [(0, .ref d0), (1, .int x1), (2, .int x2)] → fX5_galleries_b22 N d_n d_k d_x d_y d_d d_r x1 x2 d_w d_t s1 = some v → W p l e ({ frames := 5, cells := 0, slots := 0, locals := 120 } : Room) s m args below meth c H locs 0 0 (wQi G A below args s (w_D G d0 d1 d2 d3 d4 d5 d6 d7 d8 d9 d10 d11 d12 d_n d_a d_b d_c v.2.1 v.2.2.1 v.2.2.2.1 v.2.2.2.2.1 v.2.2.2.2.2.1 v.2.2.2.2.2.2.1 d_e d_1 d_2 d_o d_g d_ra d_rb d_rc v.2.2.2.2.2.2.2) 0 0 v.1) (F0 m 22 ls [.int s1, .ref d0]) := by
    intro x1 x2 d_k d_x d_y d_d d_r d_w d_t s1 H locs ls hP hD hS hl h
    rw [fX5_galleries_b22.eq_1] at h
    refine lv_iconst (v := 1) hx hb dX5_galleries_22 (by decide) ?_
    obtain ⟨u_937, hc_938, h⟩ := bd_inv h
    refine wafter_i (wr := []) (w2 := (w_D G d0 d1 d2 d3 d4 d5 d6 d7 d8 d9 d10 d11 d12 d_n d_a d_b d_c d_k d_x d_y d_d d_r d_w d_e d_1 d_2 d_o d_g d_ra d_rb d_rc u_937.2)) (va_runV (As := [.int s1, .int 1]) (rest := []) ⟨hx, hb, hml, hown, hts⟩ (kX5_fails (l := l) (G := G) d0 d1 d2 d3 d4 d5 d6 d7 d8 d9 d10 d11 d12 d_n d_a d_b d_c d_k d_x d_y d_d d_r d_w d_e d_1 d_2 d_o d_g d_ra d_rb d_rc d_t s1 1 N u_937 hc_938 _) (cwV 2 hts gX5_galleries_X5_fails rfl rfl rfl (by decide +kernel) ⟨Nat.le_of_ble_eq_true rfl, Nat.le_of_ble_eq_true rfl⟩) (wPreV hP hD hK [0, 1, 2, 3, 4, 5, 6, 7, 8, 9, 10, 11, 12] rfl rfl (ci := 5) (qb := 0) rfl rfl rfl) rfl rfl hl.1 rfl (lv_room (Nat.le_of_ble_eq_true rfl)) dX5_galleries_23 ⟨Nat.zero_le _, Nat.zero_le _⟩) hP hD hS hA [0, 1, 2, 3, 4, 5, 6, 7, 8, 9, 10, 11, 12] [] [0, 1, 2, 3, 4, 5, 6, 7, 8, 9, 10, 11, 12] rfl rfl rfl (by decide) rfl rfl (fun H locs hP hD hS => ?_)
    refine lv_if_eq (tgt := 31) hx hb dX5_galleries_26 (by decide) (fun c_939 => ?_) (fun c_939 => ?_)
    · have h := ip c_939 h
      refine lv_aload_n hx hb dX5_galleries_31 rfl (lv_at hl 0 rfl) ?_
      refine lv_iload_n hx hb dX5_galleries_32 rfl (lv_at hl 1 rfl) ?_
      obtain ⟨u_940, hc_941, h⟩ := bd_inv h
      refine wafter_i (wr := []) (w2 := (w_D G d0 d1 d2 d3 d4 d5 d6 d7 d8 d9 d10 d11 d12 d_n d_a d_b d_c d_k d_x d_y d_d d_r d_w d_e d_1 d_2 d_o d_g d_ra d_rb d_rc u_937.2)) (va_runV (As := [.int x1]) (rest := []) ⟨hx, hb, hml, hown, hts⟩ (kX5_setOf (l := l) (G := G) d0 d1 d2 d3 d4 d5 d6 d7 d8 d9 d10 d11 d12 d_n d_a d_b d_c d_k d_x d_y d_d d_r d_w d_e d_1 d_2 d_o d_g d_ra d_rb d_rc u_937.2 x1 N u_940 hc_941 _) (cwV 1 hts gX5_galleries_X5_setOf rfl rfl rfl (by decide +kernel) ⟨Nat.le_of_ble_eq_true rfl, Nat.le_of_ble_eq_true rfl⟩) (wPreV hP hD hK [0, 1, 2, 3, 4, 5, 6, 7, 8, 9, 10, 11, 12] rfl rfl (ci := 5) (qb := 0) rfl rfl rfl) rfl rfl hl.1 rfl (lv_room (Nat.le_of_ble_eq_true rfl)) dX5_galleries_33 ⟨Nat.zero_le _, Nat.zero_le _⟩) hP hD hS hA [0, 1, 2, 3, 4, 5, 6, 7, 8, 9, 10, 11, 12] [] [0, 1, 2, 3, 4, 5, 6, 7, 8, 9, 10, 11, 12] rfl rfl rfl (by decide) rfl rfl (fun H locs hP hD hS => ?_)
      refine lv_istore_n (lv' := [(3, .int u_940), (0, .ref d0), (1, .int x1), (2, .int x2)]) hx hb dX5_galleries_36 rfl hl (by decide) rfl (fun ls hl => ?_)
      refine lv_aload_n hx hb dX5_galleries_37 rfl (lv_at hl 1 rfl) ?_
      refine lv_iload_n hx hb dX5_galleries_38 rfl (lv_at hl 3 rfl) ?_
      obtain ⟨u_942, hc_943, h⟩ := bd_inv h
      refine wafter_i (wr := []) (w2 := (w_D G d0 d1 d2 d3 d4 d5 d6 d7 d8 d9 d10 d11 d12 d_n d_a d_b d_c d_k d_x d_y d_d d_r d_w d_e d_1 d_2 d_o d_g d_ra d_rb d_rc u_937.2)) (va_runV (As := [.int x2]) (rest := []) ⟨hx, hb, hml, hown, hts⟩ (kX5_setOf (l := l) (G := G) d0 d1 d2 d3 d4 d5 d6 d7 d8 d9 d10 d11 d12 d_n d_a d_b d_c d_k d_x d_y d_d d_r d_w d_e d_1 d_2 d_o d_g d_ra d_rb d_rc u_937.2 x2 N u_942 hc_943 _) (cwV 1 hts gX5_galleries_X5_setOf rfl rfl rfl (by decide +kernel) ⟨Nat.le_of_ble_eq_true rfl, Nat.le_of_ble_eq_true rfl⟩) (wPreV hP hD hK [0, 1, 2, 3, 4, 5, 6, 7, 8, 9, 10, 11, 12] rfl rfl (ci := 5) (qb := 0) rfl rfl rfl) rfl rfl hl.1 rfl (lv_room (Nat.le_of_ble_eq_true rfl)) dX5_galleries_39 ⟨Nat.zero_le _, Nat.zero_le _⟩) hP hD hS hA [0, 1, 2, 3, 4, 5, 6, 7, 8, 9, 10, 11, 12] [] [0, 1, 2, 3, 4, 5, 6, 7, 8, 9, 10, 11, 12] rfl rfl rfl (by decide) rfl rfl (fun H locs hP hD hS => ?_)
      refine lv_istore (lv' := [(4, .int u_942), (3, .int u_940), (0, .ref d0), (1, .int x1), (2, .int x2)]) hx hb dX5_galleries_42 hl (by decide) rfl (fun ls hl => ?_)
      refine lv_aload_n hx hb dX5_galleries_44 rfl (lv_at hl 2 rfl) ?_
      refine lv_iload hx hb dX5_galleries_45 (lv_at hl 0 rfl) ?_
      refine lv_iload_n hx hb dX5_galleries_47 rfl (lv_at hl 1 rfl) ?_
      refine lv_iload hx hb dX5_galleries_48 (lv_at hl 0 rfl) ?_
      refine lv_ixor hx hb dX5_galleries_50 ?_
      obtain ⟨u_944, hc_945, h⟩ := bd_inv h
      refine wafter_v (wr := []) (w2 := (w_D G d0 d1 d2 d3 d4 d5 d6 d7 d8 d9 d10 d11 d12 d_n d_a d_b d_c d_k d_x d_y d_d d_r u_944 d_e d_1 d_2 d_o d_g d_ra d_rb d_rc u_937.2)) (va_runV (As := [.int u_942, .int (u_940 ^^^ u_942)]) (rest := []) ⟨hx, hb, hml, hown, hts⟩ (kX5_findWays (l := l) (G := G) d0 d1 d2 d3 d4 d5 d6 d7 d8 d9 d10 d11 d12 d_n d_a d_b d_c d_k d_x d_y d_d d_r d_w d_e d_1 d_2 d_o d_g d_ra d_rb d_rc u_937.2 u_942 (u_940 ^^^ u_942) N u_944 hc_945 _) (cwV 2 hts gX5_galleries_X5_findWays rfl rfl rfl (by decide +kernel) ⟨Nat.le_of_ble_eq_true rfl, Nat.le_of_ble_eq_true rfl⟩) (wPreV hP hD hK [0, 1, 2, 3, 4, 5, 6, 7, 8, 9, 10, 11, 12] rfl rfl (ci := 5) (qb := 0) rfl rfl rfl) rfl rfl hl.1 rfl (lv_room (Nat.le_of_ble_eq_true rfl)) dX5_galleries_51 ⟨Nat.zero_le _, Nat.zero_le _⟩) hP hD hS hA [0, 1, 2, 3, 4, 5, 6, 7, 8, 9, 10, 11, 12] [] [0, 1, 2, 3, 4, 5, 6, 7, 8, 9, 10, 11, 12] rfl rfl rfl (by decide) rfl rfl (fun H locs hP hD hS => ?_)
      refine lv_aload_n hx hb dX5_galleries_54 rfl (lv_at hl 2 rfl) ?_
      refine va_get (D := G.1) (ci := 5) (v := .ref d8) (C := RX5) (T := TX5) (N := 19) hx hb hts hinX5 hown hK.1 hP 0 rfl rfl 9 (by decide) lk32 (fun _ h9 => h9) rfl dX5_galleries_55 ?_
      refine lv_iload_n hx hb dX5_galleries_58 rfl (lv_at hl 1 rfl) ?_
      refine lv_iload hx hb dX5_galleries_59 (lv_at hl 0 rfl) ?_
      refine lv_ixor hx hb dX5_galleries_61 ?_
      refine wiald h hx hb hK hP 8 rfl dX5_galleries_62 (fun v_946 h => ?_)
      obtain rfl := Option.some.inj h
      exact wri hx hb hr hlocks hP hD hS (Nat.le_of_ble_eq_true rfl) (Nat.le_of_ble_eq_true rfl) rfl dX5_galleries_63
    · have h := iq c_939 h
      refine lv_iconst (v := 0) hx hb dX5_galleries_29 (by decide) ?_
      obtain rfl := Option.some.inj h
      exact wri hx hb hr hlocks hP hD hS (Nat.le_of_ble_eq_true rfl) (Nat.le_of_ble_eq_true rfl) rfl dX5_galleries_30
  rw [fX5_galleries.eq_1] at h
  refine lv_aload_n hx hb dX5_galleries_0 rfl (lv_at hl 0 rfl) ?_
  refine lv_aload_n hx hb dX5_galleries_1 rfl (lv_at hl 0 rfl) ?_
  refine lv_iload_n hx hb dX5_galleries_2 rfl (lv_at hl 1 rfl) ?_
  obtain ⟨u_947, hc_948, h⟩ := bd_inv h
  refine wafter_i (wr := []) (w2 := (w_D G d0 d1 d2 d3 d4 d5 d6 d7 d8 d9 d10 d11 d12 d_n d_a d_b d_c u_947.2.1 u_947.2.2.1 u_947.2.2.2.1 u_947.2.2.2.2.1 u_947.2.2.2.2.2 d_w d_e d_1 d_2 d_o d_g d_ra d_rb d_rc d_t)) (va_runV (As := [.int x1]) (rest := [.ref d0]) ⟨hx, hb, hml, hown, hts⟩ (kX5_roomIs (l := l) (G := G) d0 d1 d2 d3 d4 d5 d6 d7 d8 d9 d10 d11 d12 d_n d_a d_b d_c d_k d_x d_y d_d d_r d_w d_e d_1 d_2 d_o d_g d_ra d_rb d_rc d_t x1 N u_947 hc_948 _) (cwV 1 hts gX5_galleries_X5_roomIs rfl rfl rfl (by decide +kernel) ⟨Nat.le_of_ble_eq_true rfl, Nat.le_of_ble_eq_true rfl⟩) (wPreV hP hD hK [0, 1, 2, 3, 4, 5, 6, 7, 8, 9, 10, 11, 12] rfl rfl (ci := 5) (qb := 0) rfl rfl rfl) rfl rfl hl.1 rfl (lv_room (Nat.le_of_ble_eq_true rfl)) dX5_galleries_3 ⟨Nat.zero_le _, Nat.zero_le _⟩) hP hD hS hA [0, 1, 2, 3, 4, 5, 6, 7, 8, 9, 10, 11, 12] [] [0, 1, 2, 3, 4, 5, 6, 7, 8, 9, 10, 11, 12] rfl rfl rfl (by decide) rfl rfl (fun H locs hP hD hS => ?_)
  refine lv_if_eq (tgt := 21) hx hb dX5_galleries_6 (by decide) (fun c_949 => ?_) (fun c_949 => ?_)
  · have h := ip c_949 h
    refine lv_iconst (v := 0) hx hb dX5_galleries_21 (by decide) ?_
    exact w_22  _ _ _ _ _ _ _ _ _ _ _ _ _  hP hD hS (lv_sub hl [0, 1, 2] rfl) h
  · have h := iq c_949 h
    refine lv_aload_n hx hb dX5_galleries_9 rfl (lv_at hl 0 rfl) ?_
    refine lv_iload_n hx hb dX5_galleries_10 rfl (lv_at hl 2 rfl) ?_
    obtain ⟨u_950, hc_951, h⟩ := bd_inv h
    refine wafter_i (wr := []) (w2 := (w_D G d0 d1 d2 d3 d4 d5 d6 d7 d8 d9 d10 d11 d12 d_n d_a d_b d_c u_950.2.1 u_950.2.2.1 u_950.2.2.2.1 u_950.2.2.2.2.1 u_950.2.2.2.2.2 d_w d_e d_1 d_2 d_o d_g d_ra d_rb d_rc d_t)) (va_runV (As := [.int x2]) (rest := [.ref d0]) ⟨hx, hb, hml, hown, hts⟩ (kX5_roomIs (l := l) (G := G) d0 d1 d2 d3 d4 d5 d6 d7 d8 d9 d10 d11 d12 d_n d_a d_b d_c u_947.2.1 u_947.2.2.1 u_947.2.2.2.1 u_947.2.2.2.2.1 u_947.2.2.2.2.2 d_w d_e d_1 d_2 d_o d_g d_ra d_rb d_rc d_t x2 N u_950 hc_951 _) (cwV 1 hts gX5_galleries_X5_roomIs rfl rfl rfl (by decide +kernel) ⟨Nat.le_of_ble_eq_true rfl, Nat.le_of_ble_eq_true rfl⟩) (wPreV hP hD hK [0, 1, 2, 3, 4, 5, 6, 7, 8, 9, 10, 11, 12] rfl rfl (ci := 5) (qb := 0) rfl rfl rfl) rfl rfl hl.1 rfl (lv_room (Nat.le_of_ble_eq_true rfl)) dX5_galleries_11 ⟨Nat.zero_le _, Nat.zero_le _⟩) hP hD hS hA [0, 1, 2, 3, 4, 5, 6, 7, 8, 9, 10, 11, 12] [] [0, 1, 2, 3, 4, 5, 6, 7, 8, 9, 10, 11, 12] rfl rfl rfl (by decide) rfl rfl (fun H locs hP hD hS => ?_)
    refine lv_if_eq (tgt := 21) hx hb dX5_galleries_14 (by decide) (fun c_952 => ?_) (fun c_952 => ?_)
    · have h := ip c_952 h
      refine lv_iconst (v := 0) hx hb dX5_galleries_21 (by decide) ?_
      exact w_22  _ _ _ _ _ _ _ _ _ _ _ _ _  hP hD hS (lv_sub hl [0, 1, 2] rfl) h
    · have h := iq c_952 h
      refine lv_iconst (v := 1) hx hb dX5_galleries_17 (by decide) ?_
      refine lv_goto (tgt := 22) hx hb dX5_galleries_18 (by decide) ?_
      exact w_22  _ _ _ _ _ _ _ _ _ _ _ _ _  hP hD hS (lv_sub hl [0, 1, 2] rfl) h
def fX5_gallery_b152 (N : Nat) (x7 : Int32) (x8 : Int32) (s0 : Int32) (k_95 : Int32 → Int32 → Option (Int32 × Int32 × (Nat → Int32) × (Nat → Int32) × (Nat → Int32) × (Nat → Int32) × (Nat → Int32) × Int32)) : Option (Int32 × Int32 × (Nat → Int32) × (Nat → Int32) × (Nat → Int32) × (Nat → Int32) × (Nat → Int32) × Int32) := if s0 = 0 then k_95 x7 (x8 + (-1)) else k_95 x8 (x8 + (-1))
def fX5_gallery_b95 (N : Nat) (d_r : Nat → Int32) (d_w : Nat → Int32) (x4 : Int32) (x5 : Int32) (k_174 : Int32 → Option (Int32 × Int32 × (Nat → Int32) × (Nat → Int32) × (Nat → Int32) × (Nat → Int32) × (Nat → Int32) × Int32)) : Nat → Int32 → Int32 → Option (Int32 × Int32 × (Nat → Int32) × (Nat → Int32) × (Nat → Int32) × (Nat → Int32) × (Nat → Int32) × Int32)
  | 0, _, _ => none
  | n + 1, x7, x8 => if x8 < 0 then k_174 x7 else if (((x4 ^^^ x5) >>> (x8 &&& 31)) &&& 1) = 1 then rd d_r 512 (x4 ^^^ (1 <<< (x8 &&& 31))) (fun v_958 => if v_958 = 0 then fX5_gallery_b152 N x7 x8 0 (fun (x7_960 : Int32) (x8_961 : Int32) => fX5_gallery_b95 N d_r d_w x4 x5 k_174 n x7_960 x8_961) else rd d_w 512 ((x4 ^^^ x5) ^^^ (1 <<< (x8 &&& 31))) (fun v_962 => if v_962 ≤ 0 then fX5_gallery_b152 N x7 x8 0 (fun (x7_964 : Int32) (x8_965 : Int32) => fX5_gallery_b95 N d_r d_w x4 x5 k_174 n x7_964 x8_965) else fX5_gallery_b152 N x7 x8 1 (fun (x7_966 : Int32) (x8_967 : Int32) => fX5_gallery_b95 N d_r d_w x4 x5 k_174 n x7_966 x8_967))) else fX5_gallery_b152 N x7 x8 0 (fun (x7_956 : Int32) (x8_957 : Int32) => fX5_gallery_b95 N d_r d_w x4 x5 k_174 n x7_956 x8_957)
def fX5_gallery_b78 (N : Nat) (d_n : Int32) (d_k : Int32) (d_x : Nat → Int32) (d_y : Nat → Int32) (d_d : Nat → Int32) (d_r : Nat → Int32) (d_w : Nat → Int32) (d_t : Int32) (x3 : Int32) (x5 : Int32) (k_197 : Int32 → Option (Int32 × Int32 × (Nat → Int32) × (Nat → Int32) × (Nat → Int32) × (Nat → Int32) × (Nat → Int32) × Int32)) : Nat → Int32 → Int32 → Option (Int32 × Int32 × (Nat → Int32) × (Nat → Int32) × (Nat → Int32) × (Nat → Int32) × (Nat → Int32) × Int32)
  | 0, _, _ => none
  | n + 1, x4, x6 => if x3 ≤ x6 then k_197 x4 else fX5_gallery_b95 N d_r d_w x4 x5 (fun (x7_969 : Int32) => if x7_969 = (-1) then some ((-1), d_k, d_x, d_y, d_d, d_r, d_w, d_t) else nm (x4 ^^^ (1 <<< (x7_969 &&& 31))) (fun x4_971 => fX5_gallery_b78 N d_n d_k d_x d_y d_d d_r d_w d_t x3 x5 k_197 n x4_971 (x6 + 1))) N (-1) (d_n - 1)
def fX5_gallery_b55 (N : Nat) (d_n : Int32) (d_k : Int32) (d_x : Nat → Int32) (d_y : Nat → Int32) (d_d : Nat → Int32) (d_r : Nat → Int32) (x3 : Int32) (x5 : Int32) (x4 : Int32) (d_w : Nat → Int32) (d_t : Int32) (s1 : Int32) : Option (Int32 × Int32 × (Nat → Int32) × (Nat → Int32) × (Nat → Int32) × (Nat → Int32) × (Nat → Int32) × Int32) := bd (fX5_fails N d_t s1 1) (fun u_972 => if u_972.1 = 0 then bd (fX5_findWays N d_n d_r d_w x5 (x4 ^^^ x5)) (fun u_975 => fX5_gallery_b78 N d_n d_k d_x d_y d_d d_r u_975 u_972.2 x3 x5 (fun (x4_977 : Int32) => bd (fX5_numberOf N d_r x4_977) (fun u_978 => some (u_978, d_k, d_x, d_y, d_d, d_r, u_975, u_972.2))) N x4 0) else some (0, d_k, d_x, d_y, d_d, d_r, d_w, u_972.2))
def fX5_gallery_b22 (N : Nat) (d_n : Int32) (d_k : Int32) (d_x : Nat → Int32) (d_y : Nat → Int32) (d_d : Nat → Int32) (d_r : Nat → Int32) (x1 : Int32) (x2 : Int32) (x3 : Int32) (d_w : Nat → Int32) (d_t : Int32) (s1 : Int32) : Option (Int32 × Int32 × (Nat → Int32) × (Nat → Int32) × (Nat → Int32) × (Nat → Int32) × (Nat → Int32) × Int32) := bd (fX5_fails N d_t s1 1) (fun u_980 => if u_980.1 = 0 then bd (fX5_setOf N d_r x1) (fun u_983 => bd (fX5_setOf N d_r x2) (fun u_985 => if x3 < 0 then fX5_gallery_b55 N d_n d_k d_x d_y d_d d_r x3 u_985 u_983 d_w u_980.2 0 else fX5_gallery_b55 N d_n d_k d_x d_y d_d d_r x3 u_985 u_983 d_w u_980.2 1)) else some (0, d_k, d_x, d_y, d_d, d_r, d_w, u_980.2))
def fX5_gallery (N : Nat) (d_n : Int32) (d_a : Nat → Int32) (d_b : Nat → Int32) (d_c : Nat → Int32) (d_k : Int32) (d_x : Nat → Int32) (d_y : Nat → Int32) (d_d : Nat → Int32) (d_r : Nat → Int32) (d_w : Nat → Int32) (d_t : Int32) (x1 : Int32) (x2 : Int32) (x3 : Int32) : Option (Int32 × Int32 × (Nat → Int32) × (Nat → Int32) × (Nat → Int32) × (Nat → Int32) × (Nat → Int32) × Int32) := bd (fX5_roomIs N d_n d_a d_b d_c d_k d_x d_y d_d d_r x1) (fun u_988 => if u_988.1 = 0 then fX5_gallery_b22 N d_n u_988.2.1 u_988.2.2.1 u_988.2.2.2.1 u_988.2.2.2.2.1 u_988.2.2.2.2.2 x1 x2 x3 d_w d_t 0 else bd (fX5_roomIs N d_n d_a d_b d_c u_988.2.1 u_988.2.2.1 u_988.2.2.2.1 u_988.2.2.2.2.1 u_988.2.2.2.2.2 x2) (fun u_991 => if u_991.1 = 0 then fX5_gallery_b22 N d_n u_991.2.1 u_991.2.2.1 u_991.2.2.2.1 u_991.2.2.2.2.1 u_991.2.2.2.2.2 x1 x2 x3 d_w d_t 0 else fX5_gallery_b22 N d_n u_991.2.1 u_991.2.2.1 u_991.2.2.2.1 u_991.2.2.2.2.1 u_991.2.2.2.2.2 x1 x2 x3 d_w d_t 1))
set_option maxHeartbeats 4000000 in
set_option maxRecDepth 100000 in
theorem kX5_gallery {l : Launch} {G : wG} (d0 d1 d2 d3 d4 d5 d6 d7 d8 d9 d10 d11 d12 : Nat) (d_n : Int32) (d_a : Nat → Int32) (d_b : Nat → Int32) (d_c : Nat → Int32) (d_k : Int32) (d_x : Nat → Int32) (d_y : Nat → Int32) (d_d : Nat → Int32) (d_r : Nat → Int32) (d_w : Nat → Int32) (d_e : Int32) (d_1 : Nat → Int32) (d_2 : Nat → Int32) (d_o : Nat → Int32) (d_g : Nat → Int32) (d_ra : Int32) (d_rb : Int32) (d_rc : Int32) (d_t : Int32) (x1 : Int32) (x2 : Int32) (x3 : Int32) (N : Nat) (v : Int32 × Int32 × (Nat → Int32) × (Nat → Int32) × (Nat → Int32) × (Nat → Int32) × (Nat → Int32) × Int32) (h : fX5_gallery N d_n d_a d_b d_c d_k d_x d_y d_d d_r d_w d_t x1 x2 x3 = some v) : wCi l G yX5_gallery wsX5_gallery ({ frames := 5, cells := 0, slots := 0, locals := 120 } : Room) [.ref d0, .int x1, .int x2, .int x3] (w_D G d0 d1 d2 d3 d4 d5 d6 d7 d8 d9 d10 d11 d12 d_n d_a d_b d_c d_k d_x d_y d_d d_r d_w d_e d_1 d_2 d_o d_g d_ra d_rb d_rc d_t) (w_D G d0 d1 d2 d3 d4 d5 d6 d7 d8 d9 d10 d11 d12 d_n d_a d_b d_c v.2.1 v.2.2.1 v.2.2.2.1 v.2.2.2.2.1 v.2.2.2.2.2.1 v.2.2.2.2.2.2.1 d_e d_1 d_2 d_o d_g d_ra d_rb d_rc v.2.2.2.2.2.2.2) 0 0 v.1 := by
  refine wCi.mk (cc := cX5_gallery) (maxL := 10) (ty := .int) (by decide) rfl (Nat.le_of_ble_eq_true rfl) ?_
  intro p e s m below meth c A ls hx hb hml hr hlocks hts hown hK hA hP hD hl
  have hx : p.tables.exec = Jvm.exec := hx
  have hown : s.vm.findClass RX5 = some m.cls := hown
  have hinX5 : ∀ w ∈ wsX50, w ∈ wsX5_gallery := by decide +kernel
  have lk28 := hts (.fieldLink RX5 28 "ChamberwrightModel" "isRoom" "[Z") (by decide +kernel)
  have lk32 := hts (.fieldLink RX5 32 "ChamberwrightModel" "ways" "[I") (by decide +kernel)
  have lk51 := hts (.fieldLink RX5 51 "ChamberwrightModel" "lines" "I") (by decide +kernel)
  have hS : va_S A s.heap s.heap [] := va_S.rf
  have hP : va_P G.1 vwCl (w_D G d0 d1 d2 d3 d4 d5 d6 d7 d8 d9 d10 d11 d12 d_n d_a d_b d_c d_k d_x d_y d_d d_r d_w d_e d_1 d_2 d_o d_g d_ra d_rb d_rc d_t) s.heap := hP
  have hD : va_D A (w_D G d0 d1 d2 d3 d4 d5 d6 d7 d8 d9 d10 d11 d12 d_n d_a d_b d_c d_k d_x d_y d_d d_r d_w d_e d_1 d_2 d_o d_g d_ra d_rb d_rc d_t) := hD
  have hl : lv_has ls 10 [(0, .ref d0), (1, .int x1), (2, .int x2), (3, .int x3)] := hl
  obtain ⟨args, hargs⟩ : ∃ z : Array Value, z = ([.ref d0, .int x1, .int x2, .int x3] : List Value).toArray := ⟨_, rfl⟩
  rw [← hargs]
  rw [← hargs] at hts
  have w_152 : ∀ (k_95 : Int32 → Int32 → Option (Int32 × Int32 × (Nat → Int32) × (Nat → Int32) × (Nat → Int32) × (Nat → Int32) × (Nat → Int32) × Int32)) (x3 : Int32) (x4 : Int32) (x5 : Int32) (x6 : Int32) (x7 : Int32) (x8 : Int32) (d_k : Int32) (d_x : Nat → Int32) (d_y : Nat → Int32) (d_d : Nat → Int32) (d_r : Nat → Int32) (d_w : Nat → Int32) (d_t : Int32) (s0 : Int32) (H : Heap) (locs : List Loc) (ls : Array Slot), (∀ (y7 : Int32) (y8 : Int32) (H : Heap) (locs : List Loc) (ls : Array Slot), va_P G.1 vwCl (w_D G d0 d1 d2 d3 d4 d5 d6 d7 d8 d9 d10 d11 d12 d_n d_a d_b d_c d_k d_x d_y d_d d_r d_w d_e d_1 d_2 d_o d_g d_ra d_rb d_rc d_t) H → va_D A (w_D G d0 d1 d2 d3 d4 d5 d6 d7 d8 d9 d10 d11 d12 d_n d_a d_b d_c d_k d_x d_y d_d d_r d_w d_e d_1 d_2 d_o d_g d_ra d_rb d_rc d_t) → va_S A s.heap H locs → lv_has ls 10 [(0, .ref d0), (3, .int x3), (4, .int x4), (5, .int x5), (6, .int x6), (7, .int y7), (8, .int y8)] → k_95 y7 y8 = some v → W p l e ({ frames := 5, cells := 0, slots := 0, locals := 120 } : Room) s m args below meth c H locs 0 0 (wQi G A below args s (w_D G d0 d1 d2 d3 d4 d5 d6 d7 d8 d9 d10 d11 d12 d_n d_a d_b d_c v.2.1 v.2.2.1 v.2.2.2.1 v.2.2.2.2.1 v.2.2.2.2.2.1 v.2.2.2.2.2.2.1 d_e d_1 d_2 d_o d_g d_ra d_rb d_rc v.2.2.2.2.2.2.2) 0 0 v.1) (F0 m 95 ls [])) → va_P G.1 vwCl (w_D G d0 d1 d2 d3 d4 d5 d6 d7 d8 d9 d10 d11 d12 d_n d_a d_b d_c d_k d_x d_y d_d d_r d_w d_e d_1 d_2 d_o d_g d_ra d_rb d_rc d_t) H → va_D A (w_D G d0 d1 d2 d3 d4 d5 d6 d7 d8 d9 d10 d11 d12 d_n d_a d_b d_c d_k d_x d_y d_d d_r d_w d_e d_1 d_2 d_o d_g d_ra d_rb d_rc d_t) → va_S A s.heap H locs → lv_has ls 10 [(0, .ref d0), (3, .int x3), (4, .int x4), (5, .int x5), (6, .int x6), (7, .int x7), (8, .int x8)] → fX5_gallery_b152 N x7 x8 s0 k_95 = some v → W p l e ({ frames := 5, cells := 0, slots := 0, locals := 120 } : Room) s m args below meth c H locs 0 0 (wQi G A below args s (w_D G d0 d1 d2 d3 d4 d5 d6 d7 d8 d9 d10 d11 d12 d_n d_a d_b d_c v.2.1 v.2.2.1 v.2.2.2.1 v.2.2.2.2.1 v.2.2.2.2.2.1 v.2.2.2.2.2.2.1 d_e d_1 d_2 d_o d_g d_ra d_rb d_rc v.2.2.2.2.2.2.2) 0 0 v.1) (F0 m 152 ls [.int s0]) := by
    intro k_95 x3 x4 x5 x6 x7 x8 d_k d_x d_y d_d d_r d_w d_t s0 H locs ls hk_95 hP hD hS hl h
    rw [fX5_gallery_b152.eq_1] at h
    refine lv_istore (lv' := [(9, .int s0), (0, .ref d0), (3, .int x3), (4, .int x4), (5, .int x5), (6, .int x6), (7, .int x7), (8, .int x8)]) hx hb dX5_gallery_152 hl (by decide) rfl (fun ls hl => ?_)
    refine lv_iload hx hb dX5_gallery_154 (lv_at hl 0 rfl) ?_
    refine lv_if_eq (tgt := 164) hx hb dX5_gallery_156 (by decide) (fun c_953 => ?_) (fun c_953 => ?_)
    · have h := ip c_953 h
      refine lv_iload hx hb dX5_gallery_164 (lv_at hl 6 rfl) ?_
      refine lv_istore (lv' := [(7, .int x7), (9, .int s0), (0, .ref d0), (3, .int x3), (4, .int x4), (5, .int x5), (6, .int x6), (8, .int x8)]) hx hb dX5_gallery_166 hl (by decide) rfl (fun ls hl => ?_)
      refine lv_iinc (v := (x8 + (-1))) (lv' := [(8, .int (x8 + (-1))), (7, .int x7), (9, .int s0), (0, .ref d0), (3, .int x3), (4, .int x4), (5, .int x5), (6, .int x6)]) hx hb dX5_gallery_168 hl (k := 7) rfl rfl (by decide) rfl (fun ls hl => ?_)
      refine lv_goto (tgt := 95) hx hb dX5_gallery_171 (by decide) ?_
      exact hk_95 _ _ _ _ _ hP hD hS (lv_sub hl [3, 4, 5, 6, 7, 1, 0] rfl) h
    · have h := iq c_953 h
      refine lv_iload hx hb dX5_gallery_159 (lv_at hl 7 rfl) ?_
      refine lv_goto (tgt := 166) hx hb dX5_gallery_161 (by decide) ?_
      refine lv_istore (lv' := [(7, .int x8), (9, .int s0), (0, .ref d0), (3, .int x3), (4, .int x4), (5, .int x5), (6, .int x6), (8, .int x8)]) hx hb dX5_gallery_166 hl (by decide) rfl (fun ls hl => ?_)
      refine lv_iinc (v := (x8 + (-1))) (lv' := [(8, .int (x8 + (-1))), (7, .int x8), (9, .int s0), (0, .ref d0), (3, .int x3), (4, .int x4), (5, .int x5), (6, .int x6)]) hx hb dX5_gallery_168 hl (k := 7) rfl rfl (by decide) rfl (fun ls hl => ?_)
      refine lv_goto (tgt := 95) hx hb dX5_gallery_171 (by decide) ?_
      exact hk_95 _ _ _ _ _ hP hD hS (lv_sub hl [3, 4, 5, 6, 7, 1, 0] rfl) h
  have w_95 : ∀ (k_174 : Int32 → Option (Int32 × Int32 × (Nat → Int32) × (Nat → Int32) × (Nat → Int32) × (Nat → Int32) × (Nat → Int32) × Int32)) (x3 : Int32) (x4 : Int32) (x5 : Int32) (x6 : Int32) (d_k : Int32) (d_x : Nat → Int32) (d_y : Nat → Int32) (d_d : Nat → Int32) (d_r : Nat → Int32) (d_w : Nat → Int32) (d_t : Int32) (_z : Unit), (∀ (y7 : Int32) (H : Heap) (locs : List Loc) (ls : Array Slot), va_P G.1 vwCl (w_D G d0 d1 d2 d3 d4 d5 d6 d7 d8 d9 d10 d11 d12 d_n d_a d_b d_c d_k d_x d_y d_d d_r d_w d_e d_1 d_2 d_o d_g d_ra d_rb d_rc d_t) H → va_D A (w_D G d0 d1 d2 d3 d4 d5 d6 d7 d8 d9 d10 d11 d12 d_n d_a d_b d_c d_k d_x d_y d_d d_r d_w d_e d_1 d_2 d_o d_g d_ra d_rb d_rc d_t) → va_S A s.heap H locs → lv_has ls 10 [(0, .ref d0), (3, .int x3), (4, .int x4), (5, .int x5), (6, .int x6), (7, .int y7)] → k_174 y7 = some v → W p l e ({ frames := 5, cells := 0, slots := 0, locals := 120 } : Room) s m args below meth c H locs 0 0 (wQi G A below args s (w_D G d0 d1 d2 d3 d4 d5 d6 d7 d8 d9 d10 d11 d12 d_n d_a d_b d_c v.2.1 v.2.2.1 v.2.2.2.1 v.2.2.2.2.1 v.2.2.2.2.2.1 v.2.2.2.2.2.2.1 d_e d_1 d_2 d_o d_g d_ra d_rb d_rc v.2.2.2.2.2.2.2) 0 0 v.1) (F0 m 174 ls [])) → ∀ (n : Nat) (x7 : Int32) (x8 : Int32)  (H : Heap) (locs : List Loc) (ls : Array Slot), va_P G.1 vwCl (w_D G d0 d1 d2 d3 d4 d5 d6 d7 d8 d9 d10 d11 d12 d_n d_a d_b d_c d_k d_x d_y d_d d_r d_w d_e d_1 d_2 d_o d_g d_ra d_rb d_rc d_t) H → va_D A (w_D G d0 d1 d2 d3 d4 d5 d6 d7 d8 d9 d10 d11 d12 d_n d_a d_b d_c d_k d_x d_y d_d d_r d_w d_e d_1 d_2 d_o d_g d_ra d_rb d_rc d_t) → va_S A s.heap H locs → lv_has ls 10 [(0, .ref d0), (3, .int x3), (4, .int x4), (5, .int x5), (6, .int x6), (7, .int x7), (8, .int x8)] → fX5_gallery_b95 N d_r d_w x4 x5 k_174 n x7 x8 = some v → W p l e ({ frames := 5, cells := 0, slots := 0, locals := 120 } : Room) s m args below meth c H locs 0 0 (wQi G A below args s (w_D G d0 d1 d2 d3 d4 d5 d6 d7 d8 d9 d10 d11 d12 d_n d_a d_b d_c v.2.1 v.2.2.1 v.2.2.2.1 v.2.2.2.2.1 v.2.2.2.2.2.1 v.2.2.2.2.2.2.1 d_e d_1 d_2 d_o d_g d_ra d_rb d_rc v.2.2.2.2.2.2.2) 0 0 v.1) (F0 m 95 ls []) := by
    intro k_174 x3 x4 x5 x6 d_k d_x d_y d_d d_r d_w d_t _z hk_174 n
    induction n with
    | zero =>
      intro x7 x8 H locs ls hP hD hS hl h
      rw [fX5_gallery_b95.eq_1] at h
      cases h
    | succ n ih =>
      intro x7 x8 H locs ls hP hD hS hl h
      rw [fX5_gallery_b95.eq_2] at h
      refine lv_iload hx hb dX5_gallery_95 (lv_at hl 6 rfl) ?_
      refine lv_if_lt (tgt := 174) hx hb dX5_gallery_97 (by decide) (fun c_954 => ?_) (fun c_954 => ?_)
      · have h := ip c_954 h
        exact hk_174 _ _ _ _ hP hD hS (lv_sub hl [0, 1, 2, 3, 4, 5] rfl) h
      · have h := iq c_954 h
        refine lv_iload hx hb dX5_gallery_100 (lv_at hl 2 rfl) ?_
        refine lv_iload hx hb dX5_gallery_102 (lv_at hl 3 rfl) ?_
        refine lv_ixor hx hb dX5_gallery_104 ?_
        refine lv_iload hx hb dX5_gallery_105 (lv_at hl 6 rfl) ?_
        refine lv_ishr hx hb dX5_gallery_107 ?_
        refine lv_iconst (v := 1) hx hb dX5_gallery_108 (by decide) ?_
        refine lv_iand hx hb dX5_gallery_109 ?_
        refine lv_iconst (v := 1) hx hb dX5_gallery_110 (by decide) ?_
        refine lv_icmp_ne (tgt := 151) hx hb dX5_gallery_111 (by decide) (fun c_955 => ?_) (fun c_955 => ?_)
        · have h := iq c_955 h
          refine lv_iconst (v := 0) hx hb dX5_gallery_151 (by decide) ?_
          refine w_152 _ _ _ _ _ _ _ _ _ _ _ _ _ _ _ _ _ _ (fun x7_956 x8_957 H locs ls hP hD hS hl h => ?_) hP hD hS (lv_sub hl [0, 1, 2, 3, 4, 5, 6] rfl) h
          exact ih _ _ _ _ _ hP hD hS (lv_sub hl [0, 1, 2, 3, 4, 5, 6] rfl) h
        · have h := ip c_955 h
          refine lv_aload_n hx hb dX5_gallery_114 rfl (lv_at hl 0 rfl) ?_
          refine va_get (D := G.1) (ci := 5) (v := .ref d7) (C := RX5) (T := TX5) (N := 19) hx hb hts hinX5 hown hK.1 hP 0 rfl rfl 8 (by decide) lk28 (fun _ h9 => h9) rfl dX5_gallery_115 ?_
          refine lv_iload hx hb dX5_gallery_118 (lv_at hl 2 rfl) ?_
          refine lv_iconst (v := 1) hx hb dX5_gallery_120 (by decide) ?_
          refine lv_iload hx hb dX5_gallery_121 (lv_at hl 6 rfl) ?_
          refine lv_ishl hx hb dX5_gallery_123 ?_
          refine lv_ixor hx hb dX5_gallery_124 ?_
          refine wzald h hx hb hK hP 7 rfl dX5_gallery_125 (fun v_958 h => ?_)
          refine lv_if_eq (tgt := 151) hx hb dX5_gallery_126 (by decide) (fun c_959 => ?_) (fun c_959 => ?_)
          · have h := ip c_959 h
            refine lv_iconst (v := 0) hx hb dX5_gallery_151 (by decide) ?_
            refine w_152 _ _ _ _ _ _ _ _ _ _ _ _ _ _ _ _ _ _ (fun x7_960 x8_961 H locs ls hP hD hS hl h => ?_) hP hD hS (lv_sub hl [0, 1, 2, 3, 4, 5, 6] rfl) h
            exact ih _ _ _ _ _ hP hD hS (lv_sub hl [0, 1, 2, 3, 4, 5, 6] rfl) h
          · have h := iq c_959 h
            refine lv_aload_n hx hb dX5_gallery_129 rfl (lv_at hl 0 rfl) ?_
            refine va_get (D := G.1) (ci := 5) (v := .ref d8) (C := RX5) (T := TX5) (N := 19) hx hb hts hinX5 hown hK.1 hP 0 rfl rfl 9 (by decide) lk32 (fun _ h9 => h9) rfl dX5_gallery_130 ?_
            refine lv_iload hx hb dX5_gallery_133 (lv_at hl 2 rfl) ?_
            refine lv_iload hx hb dX5_gallery_135 (lv_at hl 3 rfl) ?_
            refine lv_ixor hx hb dX5_gallery_137 ?_
            refine lv_iconst (v := 1) hx hb dX5_gallery_138 (by decide) ?_
            refine lv_iload hx hb dX5_gallery_139 (lv_at hl 6 rfl) ?_
            refine lv_ishl hx hb dX5_gallery_141 ?_
            refine lv_ixor hx hb dX5_gallery_142 ?_
            refine wiald h hx hb hK hP 8 rfl dX5_gallery_143 (fun v_962 h => ?_)
            refine lv_if_le (tgt := 151) hx hb dX5_gallery_144 (by decide) (fun c_963 => ?_) (fun c_963 => ?_)
            · have h := ip c_963 h
              refine lv_iconst (v := 0) hx hb dX5_gallery_151 (by decide) ?_
              refine w_152 _ _ _ _ _ _ _ _ _ _ _ _ _ _ _ _ _ _ (fun x7_964 x8_965 H locs ls hP hD hS hl h => ?_) hP hD hS (lv_sub hl [0, 1, 2, 3, 4, 5, 6] rfl) h
              exact ih _ _ _ _ _ hP hD hS (lv_sub hl [0, 1, 2, 3, 4, 5, 6] rfl) h
            · have h := iq c_963 h
              refine lv_iconst (v := 1) hx hb dX5_gallery_147 (by decide) ?_
              refine lv_goto (tgt := 152) hx hb dX5_gallery_148 (by decide) ?_
              refine w_152 _ _ _ _ _ _ _ _ _ _ _ _ _ _ _ _ _ _ (fun x7_966 x8_967 H locs ls hP hD hS hl h => ?_) hP hD hS (lv_sub hl [0, 1, 2, 3, 4, 5, 6] rfl) h
              exact ih _ _ _ _ _ hP hD hS (lv_sub hl [0, 1, 2, 3, 4, 5, 6] rfl) h
  have w_78 : ∀ (k_197 : Int32 → Option (Int32 × Int32 × (Nat → Int32) × (Nat → Int32) × (Nat → Int32) × (Nat → Int32) × (Nat → Int32) × Int32)) (x3 : Int32) (x5 : Int32) (d_k : Int32) (d_x : Nat → Int32) (d_y : Nat → Int32) (d_d : Nat → Int32) (d_r : Nat → Int32) (d_w : Nat → Int32) (d_t : Int32) (_z : Unit), (∀ (y4 : Int32) (H : Heap) (locs : List Loc) (ls : Array Slot), va_P G.1 vwCl (w_D G d0 d1 d2 d3 d4 d5 d6 d7 d8 d9 d10 d11 d12 d_n d_a d_b d_c d_k d_x d_y d_d d_r d_w d_e d_1 d_2 d_o d_g d_ra d_rb d_rc d_t) H → va_D A (w_D G d0 d1 d2 d3 d4 d5 d6 d7 d8 d9 d10 d11 d12 d_n d_a d_b d_c d_k d_x d_y d_d d_r d_w d_e d_1 d_2 d_o d_g d_ra d_rb d_rc d_t) → va_S A s.heap H locs → lv_has ls 10 [(0, .ref d0), (4, .int y4)] → k_197 y4 = some v → W p l e ({ frames := 5, cells := 0, slots := 0, locals := 120 } : Room) s m args below meth c H locs 0 0 (wQi G A below args s (w_D G d0 d1 d2 d3 d4 d5 d6 d7 d8 d9 d10 d11 d12 d_n d_a d_b d_c v.2.1 v.2.2.1 v.2.2.2.1 v.2.2.2.2.1 v.2.2.2.2.2.1 v.2.2.2.2.2.2.1 d_e d_1 d_2 d_o d_g d_ra d_rb d_rc v.2.2.2.2.2.2.2) 0 0 v.1) (F0 m 197 ls [])) → ∀ (n : Nat) (x4 : Int32) (x6 : Int32)  (H : Heap) (locs : List Loc) (ls : Array Slot), va_P G.1 vwCl (w_D G d0 d1 d2 d3 d4 d5 d6 d7 d8 d9 d10 d11 d12 d_n d_a d_b d_c d_k d_x d_y d_d d_r d_w d_e d_1 d_2 d_o d_g d_ra d_rb d_rc d_t) H → va_D A (w_D G d0 d1 d2 d3 d4 d5 d6 d7 d8 d9 d10 d11 d12 d_n d_a d_b d_c d_k d_x d_y d_d d_r d_w d_e d_1 d_2 d_o d_g d_ra d_rb d_rc d_t) → va_S A s.heap H locs → lv_has ls 10 [(0, .ref d0), (3, .int x3), (4, .int x4), (5, .int x5), (6, .int x6)] → fX5_gallery_b78 N d_n d_k d_x d_y d_d d_r d_w d_t x3 x5 k_197 n x4 x6 = some v → W p l e ({ frames := 5, cells := 0, slots := 0, locals := 120 } : Room) s m args below meth c H locs 0 0 (wQi G A below args s (w_D G d0 d1 d2 d3 d4 d5 d6 d7 d8 d9 d10 d11 d12 d_n d_a d_b d_c v.2.1 v.2.2.1 v.2.2.2.1 v.2.2.2.2.1 v.2.2.2.2.2.1 v.2.2.2.2.2.2.1 d_e d_1 d_2 d_o d_g d_ra d_rb d_rc v.2.2.2.2.2.2.2) 0 0 v.1) (F0 m 78 ls []) := by
    intro k_197 x3 x5 d_k d_x d_y d_d d_r d_w d_t _z hk_197 n
    induction n with
    | zero =>
      intro x4 x6 H locs ls hP hD hS hl h
      rw [fX5_gallery_b78.eq_1] at h
      cases h
    | succ n ih =>
      intro x4 x6 H locs ls hP hD hS hl h
      rw [fX5_gallery_b78.eq_2] at h
      refine lv_iload hx hb dX5_gallery_78 (lv_at hl 4 rfl) ?_
      refine lv_iload_n hx hb dX5_gallery_80 rfl (lv_at hl 1 rfl) ?_
      refine lv_icmp_ge (tgt := 197) hx hb dX5_gallery_81 (by decide) (fun c_968 => ?_) (fun c_968 => ?_)
      · have h := ip c_968 h
        exact hk_197 _ _ _ _ hP hD hS (lv_sub hl [0, 2] rfl) h
      · have h := iq c_968 h
        refine lv_iconst (v := (-1)) hx hb dX5_gallery_84 (by decide) ?_
        refine lv_istore (lv' := [(7, .int (-1)), (0, .ref d0), (3, .int x3), (4, .int x4), (5, .int x5), (6, .int x6)]) hx hb dX5_gallery_85 hl (by decide) rfl (fun ls hl => ?_)
        refine lv_aload_n hx hb dX5_gallery_87 rfl (lv_at hl 1 rfl) ?_
        refine va_get (D := G.1) (ci := 5) (v := .int d_n) (C := RX5) (T := TX5) (N := 19) hx hb hts hinX5 hown hK.1 hP 0 rfl rfl 0 (by decide) lk51 (fun _ h9 => h9) rfl dX5_gallery_88 ?_
        refine lv_iconst (v := 1) hx hb dX5_gallery_91 (by decide) ?_
        refine lv_isub hx hb dX5_gallery_92 ?_
        refine lv_istore (lv' := [(8, .int (d_n - 1)), (7, .int (-1)), (0, .ref d0), (3, .int x3), (4, .int x4), (5, .int x5), (6, .int x6)]) hx hb dX5_gallery_93 hl (by decide) rfl (fun ls hl => ?_)
        refine w_95 _ _ _ _ _ _ _ _ _ _ _ _ () (fun x7_969 H locs ls hP hD hS hl h => ?_) N _ _  _ _ _ hP hD hS (lv_sub hl [2, 3, 4, 5, 6, 1, 0] rfl) h
        refine lv_iload hx hb dX5_gallery_174 (lv_at hl 5 rfl) ?_
        refine lv_iconst (v := (-1)) hx hb dX5_gallery_176 (by decide) ?_
        refine lv_icmp_ne (tgt := 182) hx hb dX5_gallery_177 (by decide) (fun c_970 => ?_) (fun c_970 => ?_)
        · have h := iq c_970 h
          refine lv_iload hx hb dX5_gallery_182 (lv_at hl 2 rfl) ?_
          refine lv_iconst (v := 1) hx hb dX5_gallery_184 (by decide) ?_
          refine lv_iload hx hb dX5_gallery_185 (lv_at hl 5 rfl) ?_
          refine lv_ishl hx hb dX5_gallery_187 ?_
          refine lv_ixor hx hb dX5_gallery_188 ?_
          refine wnmi h (fun x4_971 h => ?_)
          refine lv_istore (lv' := [(4, .int x4_971), (0, .ref d0), (3, .int x3), (5, .int x5), (6, .int x6), (7, .int x7_969)]) hx hb dX5_gallery_189 hl (by decide) rfl (fun ls hl => ?_)
          refine lv_iinc (v := (x6 + 1)) (lv' := [(6, .int (x6 + 1)), (4, .int x4_971), (0, .ref d0), (3, .int x3), (5, .int x5), (7, .int x7_969)]) hx hb dX5_gallery_191 hl (k := 4) rfl rfl (by decide) rfl (fun ls hl => ?_)
          refine lv_goto (tgt := 78) hx hb dX5_gallery_194 (by decide) ?_
          exact ih _ _ _ _ _ hP hD hS (lv_sub hl [2, 3, 1, 4, 0] rfl) h
        · have h := ip c_970 h
          refine lv_iconst (v := (-1)) hx hb dX5_gallery_180 (by decide) ?_
          obtain rfl := Option.some.inj h
          exact wri hx hb hr hlocks hP hD hS (Nat.le_of_ble_eq_true rfl) (Nat.le_of_ble_eq_true rfl) rfl dX5_gallery_181
  have w_55 : ∀ (x3 : Int32) (x4 : Int32) (x5 : Int32) (d_k : Int32) (d_x : Nat → Int32) (d_y : Nat → Int32) (d_d : Nat → Int32) (d_r : Nat → Int32) (d_w : Nat → Int32) (d_t : Int32) (s1 : Int32) (H : Heap) (locs : List Loc) (ls : Array Slot), va_P G.1 vwCl (w_D G d0 d1 d2 d3 d4 d5 d6 d7 d8 d9 d10 d11 d12 d_n d_a d_b d_c d_k d_x d_y d_d d_r d_w d_e d_1 d_2 d_o d_g d_ra d_rb d_rc d_t) H → va_D A (w_D G d0 d1 d2 d3 d4 d5 d6 d7 d8 d9 d10 d11 d12 d_n d_a d_b d_c d_k d_x d_y d_d d_r d_w d_e d_1 d_2 d_o d_g d_ra d_rb d_rc d_t) → va_S A s.heap H locs → lv_has ls 10 [(0, .ref d0), (3, .int x3), (4, .int x4), (5, .int x5)] → fX5_gallery_b55 N d_n d_k d_x d_y d_d d_r x3 x5 x4 d_w d_t s1 = some v → W p l e ({ frames := 5, cells := 0, slots := 0, locals := 120 } : Room) s m args below meth c H locs 0 0 (wQi G A below args s (w_D G d0 d1 d2 d3 d4 d5 d6 d7 d8 d9 d10 d11 d12 d_n d_a d_b d_c v.2.1 v.2.2.1 v.2.2.2.1 v.2.2.2.2.1 v.2.2.2.2.2.1 v.2.2.2.2.2.2.1 d_e d_1 d_2 d_o d_g d_ra d_rb d_rc v.2.2.2.2.2.2.2) 0 0 v.1) (F0 m 55 ls [.int s1, .ref d0]) := by
    intro x3 x4 x5 d_k d_x d_y d_d d_r d_w d_t s1 H locs ls hP hD hS hl h
    rw [fX5_gallery_b55.eq_1] at h
    refine lv_iconst (v := 1) hx hb dX5_gallery_55 (by decide) ?_
    obtain ⟨u_972, hc_973, h⟩ := bd_inv h
    refine wafter_i (wr := []) (w2 := (w_D G d0 d1 d2 d3 d4 d5 d6 d7 d8 d9 d10 d11 d12 d_n d_a d_b d_c d_k d_x d_y d_d d_r d_w d_e d_1 d_2 d_o d_g d_ra d_rb d_rc u_972.2)) (va_runV (As := [.int s1, .int 1]) (rest := []) ⟨hx, hb, hml, hown, hts⟩ (kX5_fails (l := l) (G := G) d0 d1 d2 d3 d4 d5 d6 d7 d8 d9 d10 d11 d12 d_n d_a d_b d_c d_k d_x d_y d_d d_r d_w d_e d_1 d_2 d_o d_g d_ra d_rb d_rc d_t s1 1 N u_972 hc_973 _) (cwV 2 hts gX5_gallery_X5_fails rfl rfl rfl (by decide +kernel) ⟨Nat.le_of_ble_eq_true rfl, Nat.le_of_ble_eq_true rfl⟩) (wPreV hP hD hK [0, 1, 2, 3, 4, 5, 6, 7, 8, 9, 10, 11, 12] rfl rfl (ci := 5) (qb := 0) rfl rfl rfl) rfl rfl hl.1 rfl (lv_room (Nat.le_of_ble_eq_true rfl)) dX5_gallery_56 ⟨Nat.zero_le _, Nat.zero_le _⟩) hP hD hS hA [0, 1, 2, 3, 4, 5, 6, 7, 8, 9, 10, 11, 12] [] [0, 1, 2, 3, 4, 5, 6, 7, 8, 9, 10, 11, 12] rfl rfl rfl (by decide) rfl rfl (fun H locs hP hD hS => ?_)
    refine lv_if_eq (tgt := 64) hx hb dX5_gallery_59 (by decide) (fun c_974 => ?_) (fun c_974 => ?_)
    · have h := ip c_974 h
      refine lv_aload_n hx hb dX5_gallery_64 rfl (lv_at hl 0 rfl) ?_
      refine lv_iload hx hb dX5_gallery_65 (lv_at hl 3 rfl) ?_
      refine lv_iload hx hb dX5_gallery_67 (lv_at hl 2 rfl) ?_
      refine lv_iload hx hb dX5_gallery_69 (lv_at hl 3 rfl) ?_
      refine lv_ixor hx hb dX5_gallery_71 ?_
      obtain ⟨u_975, hc_976, h⟩ := bd_inv h
      refine wafter_v (wr := []) (w2 := (w_D G d0 d1 d2 d3 d4 d5 d6 d7 d8 d9 d10 d11 d12 d_n d_a d_b d_c d_k d_x d_y d_d d_r u_975 d_e d_1 d_2 d_o d_g d_ra d_rb d_rc u_972.2)) (va_runV (As := [.int x5, .int (x4 ^^^ x5)]) (rest := []) ⟨hx, hb, hml, hown, hts⟩ (kX5_findWays (l := l) (G := G) d0 d1 d2 d3 d4 d5 d6 d7 d8 d9 d10 d11 d12 d_n d_a d_b d_c d_k d_x d_y d_d d_r d_w d_e d_1 d_2 d_o d_g d_ra d_rb d_rc u_972.2 x5 (x4 ^^^ x5) N u_975 hc_976 _) (cwV 2 hts gX5_gallery_X5_findWays rfl rfl rfl (by decide +kernel) ⟨Nat.le_of_ble_eq_true rfl, Nat.le_of_ble_eq_true rfl⟩) (wPreV hP hD hK [0, 1, 2, 3, 4, 5, 6, 7, 8, 9, 10, 11, 12] rfl rfl (ci := 5) (qb := 0) rfl rfl rfl) rfl rfl hl.1 rfl (lv_room (Nat.le_of_ble_eq_true rfl)) dX5_gallery_72 ⟨Nat.zero_le _, Nat.zero_le _⟩) hP hD hS hA [0, 1, 2, 3, 4, 5, 6, 7, 8, 9, 10, 11, 12] [] [0, 1, 2, 3, 4, 5, 6, 7, 8, 9, 10, 11, 12] rfl rfl rfl (by decide) rfl rfl (fun H locs hP hD hS => ?_)
      refine lv_iconst (v := 0) hx hb dX5_gallery_75 (by decide) ?_
      refine lv_istore (lv' := [(6, .int 0), (0, .ref d0), (3, .int x3), (4, .int x4), (5, .int x5)]) hx hb dX5_gallery_76 hl (by decide) rfl (fun ls hl => ?_)
      refine w_78 _ _ _ _ _ _ _ _ _ _ () (fun x4_977 H locs ls hP hD hS hl h => ?_) N _ _  _ _ _ hP hD hS (lv_sub hl [1, 2, 3, 4, 0] rfl) h
      refine lv_aload_n hx hb dX5_gallery_197 rfl (lv_at hl 0 rfl) ?_
      refine lv_iload hx hb dX5_gallery_198 (lv_at hl 1 rfl) ?_
      obtain ⟨u_978, hc_979, h⟩ := bd_inv h
      refine wafter_i (wr := []) (w2 := (w_D G d0 d1 d2 d3 d4 d5 d6 d7 d8 d9 d10 d11 d12 d_n d_a d_b d_c d_k d_x d_y d_d d_r u_975 d_e d_1 d_2 d_o d_g d_ra d_rb d_rc u_972.2)) (va_runV (As := [.int x4_977]) (rest := []) ⟨hx, hb, hml, hown, hts⟩ (kX5_numberOf (l := l) (G := G) d0 d1 d2 d3 d4 d5 d6 d7 d8 d9 d10 d11 d12 d_n d_a d_b d_c d_k d_x d_y d_d d_r u_975 d_e d_1 d_2 d_o d_g d_ra d_rb d_rc u_972.2 x4_977 N u_978 hc_979 _) (cwV 1 hts gX5_gallery_X5_numberOf rfl rfl rfl (by decide +kernel) ⟨Nat.le_of_ble_eq_true rfl, Nat.le_of_ble_eq_true rfl⟩) (wPreV hP hD hK [0, 1, 2, 3, 4, 5, 6, 7, 8, 9, 10, 11, 12] rfl rfl (ci := 5) (qb := 0) rfl rfl rfl) rfl rfl hl.1 rfl (lv_room (Nat.le_of_ble_eq_true rfl)) dX5_gallery_200 ⟨Nat.zero_le _, Nat.zero_le _⟩) hP hD hS hA [0, 1, 2, 3, 4, 5, 6, 7, 8, 9, 10, 11, 12] [] [0, 1, 2, 3, 4, 5, 6, 7, 8, 9, 10, 11, 12] rfl rfl rfl (by decide) rfl rfl (fun H locs hP hD hS => ?_)
      obtain rfl := Option.some.inj h
      exact wri hx hb hr hlocks hP hD hS (Nat.le_of_ble_eq_true rfl) (Nat.le_of_ble_eq_true rfl) rfl dX5_gallery_203
    · have h := iq c_974 h
      refine lv_iconst (v := 0) hx hb dX5_gallery_62 (by decide) ?_
      obtain rfl := Option.some.inj h
      exact wri hx hb hr hlocks hP hD hS (Nat.le_of_ble_eq_true rfl) (Nat.le_of_ble_eq_true rfl) rfl dX5_gallery_63
  have w_22 : ∀ (x1 : Int32) (x2 : Int32) (x3 : Int32) (d_k : Int32) (d_x : Nat → Int32) (d_y : Nat → Int32) (d_d : Nat → Int32) (d_r : Nat → Int32) (d_w : Nat → Int32) (d_t : Int32) (s1 : Int32) (H : Heap) (locs : List Loc) (ls : Array Slot), va_P G.1 vwCl (w_D G d0 d1 d2 d3 d4 d5 d6 d7 d8 d9 d10 d11 d12 d_n d_a d_b d_c d_k d_x d_y d_d d_r d_w d_e d_1 d_2 d_o d_g d_ra d_rb d_rc d_t) H → va_D A (w_D G d0 d1 d2 d3 d4 d5 d6 d7 d8 d9 d10 d11 d12 d_n d_a d_b d_c d_k d_x d_y d_d d_r d_w d_e d_1 d_2 d_o d_g d_ra d_rb d_rc d_t) → va_S A s.heap H locs → lv_has ls 10 [(0, .ref d0), (1, .int x1), (2, .int x2), (3, .int x3)] → fX5_gallery_b22 N d_n d_k d_x d_y d_d d_r x1 x2 x3 d_w d_t s1 = some v → W p l e ({ frames := 5, cells := 0, slots := 0, locals := 120 } : Room) s m args below meth c H locs 0 0 (wQi G A below args s (w_D G d0 d1 d2 d3 d4 d5 d6 d7 d8 d9 d10 d11 d12 d_n d_a d_b d_c v.2.1 v.2.2.1 v.2.2.2.1 v.2.2.2.2.1 v.2.2.2.2.2.1 v.2.2.2.2.2.2.1 d_e d_1 d_2 d_o d_g d_ra d_rb d_rc v.2.2.2.2.2.2.2) 0 0 v.1) (F0 m 22 ls [.int s1, .ref d0]) := by
    intro x1 x2 x3 d_k d_x d_y d_d d_r d_w d_t s1 H locs ls hP hD hS hl h
    rw [fX5_gallery_b22.eq_1] at h
    refine lv_iconst (v := 1) hx hb dX5_gallery_22 (by decide) ?_
    obtain ⟨u_980, hc_981, h⟩ := bd_inv h
    refine wafter_i (wr := []) (w2 := (w_D G d0 d1 d2 d3 d4 d5 d6 d7 d8 d9 d10 d11 d12 d_n d_a d_b d_c d_k d_x d_y d_d d_r d_w d_e d_1 d_2 d_o d_g d_ra d_rb d_rc u_980.2)) (va_runV (As := [.int s1, .int 1]) (rest := []) ⟨hx, hb, hml, hown, hts⟩ (kX5_fails (l := l) (G := G) d0 d1 d2 d3 d4 d5 d6 d7 d8 d9 d10 d11 d12 d_n d_a d_b d_c d_k d_x d_y d_d d_r d_w d_e d_1 d_2 d_o d_g d_ra d_rb d_rc d_t s1 1 N u_980 hc_981 _) (cwV 2 hts gX5_gallery_X5_fails rfl rfl rfl (by decide +kernel) ⟨Nat.le_of_ble_eq_true rfl, Nat.le_of_ble_eq_true rfl⟩) (wPreV hP hD hK [0, 1, 2, 3, 4, 5, 6, 7, 8, 9, 10, 11, 12] rfl rfl (ci := 5) (qb := 0) rfl rfl rfl) rfl rfl hl.1 rfl (lv_room (Nat.le_of_ble_eq_true rfl)) dX5_gallery_23 ⟨Nat.zero_le _, Nat.zero_le _⟩) hP hD hS hA [0, 1, 2, 3, 4, 5, 6, 7, 8, 9, 10, 11, 12] [] [0, 1, 2, 3, 4, 5, 6, 7, 8, 9, 10, 11, 12] rfl rfl rfl (by decide) rfl rfl (fun H locs hP hD hS => ?_)
    refine lv_if_eq (tgt := 31) hx hb dX5_gallery_26 (by decide) (fun c_982 => ?_) (fun c_982 => ?_)
    · have h := ip c_982 h
      refine lv_aload_n hx hb dX5_gallery_31 rfl (lv_at hl 0 rfl) ?_
      refine lv_iload_n hx hb dX5_gallery_32 rfl (lv_at hl 1 rfl) ?_
      obtain ⟨u_983, hc_984, h⟩ := bd_inv h
      refine wafter_i (wr := []) (w2 := (w_D G d0 d1 d2 d3 d4 d5 d6 d7 d8 d9 d10 d11 d12 d_n d_a d_b d_c d_k d_x d_y d_d d_r d_w d_e d_1 d_2 d_o d_g d_ra d_rb d_rc u_980.2)) (va_runV (As := [.int x1]) (rest := []) ⟨hx, hb, hml, hown, hts⟩ (kX5_setOf (l := l) (G := G) d0 d1 d2 d3 d4 d5 d6 d7 d8 d9 d10 d11 d12 d_n d_a d_b d_c d_k d_x d_y d_d d_r d_w d_e d_1 d_2 d_o d_g d_ra d_rb d_rc u_980.2 x1 N u_983 hc_984 _) (cwV 1 hts gX5_gallery_X5_setOf rfl rfl rfl (by decide +kernel) ⟨Nat.le_of_ble_eq_true rfl, Nat.le_of_ble_eq_true rfl⟩) (wPreV hP hD hK [0, 1, 2, 3, 4, 5, 6, 7, 8, 9, 10, 11, 12] rfl rfl (ci := 5) (qb := 0) rfl rfl rfl) rfl rfl hl.1 rfl (lv_room (Nat.le_of_ble_eq_true rfl)) dX5_gallery_33 ⟨Nat.zero_le _, Nat.zero_le _⟩) hP hD hS hA [0, 1, 2, 3, 4, 5, 6, 7, 8, 9, 10, 11, 12] [] [0, 1, 2, 3, 4, 5, 6, 7, 8, 9, 10, 11, 12] rfl rfl rfl (by decide) rfl rfl (fun H locs hP hD hS => ?_)
      refine lv_istore (lv' := [(4, .int u_983), (0, .ref d0), (1, .int x1), (2, .int x2), (3, .int x3)]) hx hb dX5_gallery_36 hl (by decide) rfl (fun ls hl => ?_)
      refine lv_aload_n hx hb dX5_gallery_38 rfl (lv_at hl 1 rfl) ?_
      refine lv_iload_n hx hb dX5_gallery_39 rfl (lv_at hl 3 rfl) ?_
      obtain ⟨u_985, hc_986, h⟩ := bd_inv h
      refine wafter_i (wr := []) (w2 := (w_D G d0 d1 d2 d3 d4 d5 d6 d7 d8 d9 d10 d11 d12 d_n d_a d_b d_c d_k d_x d_y d_d d_r d_w d_e d_1 d_2 d_o d_g d_ra d_rb d_rc u_980.2)) (va_runV (As := [.int x2]) (rest := []) ⟨hx, hb, hml, hown, hts⟩ (kX5_setOf (l := l) (G := G) d0 d1 d2 d3 d4 d5 d6 d7 d8 d9 d10 d11 d12 d_n d_a d_b d_c d_k d_x d_y d_d d_r d_w d_e d_1 d_2 d_o d_g d_ra d_rb d_rc u_980.2 x2 N u_985 hc_986 _) (cwV 1 hts gX5_gallery_X5_setOf rfl rfl rfl (by decide +kernel) ⟨Nat.le_of_ble_eq_true rfl, Nat.le_of_ble_eq_true rfl⟩) (wPreV hP hD hK [0, 1, 2, 3, 4, 5, 6, 7, 8, 9, 10, 11, 12] rfl rfl (ci := 5) (qb := 0) rfl rfl rfl) rfl rfl hl.1 rfl (lv_room (Nat.le_of_ble_eq_true rfl)) dX5_gallery_40 ⟨Nat.zero_le _, Nat.zero_le _⟩) hP hD hS hA [0, 1, 2, 3, 4, 5, 6, 7, 8, 9, 10, 11, 12] [] [0, 1, 2, 3, 4, 5, 6, 7, 8, 9, 10, 11, 12] rfl rfl rfl (by decide) rfl rfl (fun H locs hP hD hS => ?_)
      refine lv_istore (lv' := [(5, .int u_985), (4, .int u_983), (0, .ref d0), (1, .int x1), (2, .int x2), (3, .int x3)]) hx hb dX5_gallery_43 hl (by decide) rfl (fun ls hl => ?_)
      refine lv_aload_n hx hb dX5_gallery_45 rfl (lv_at hl 2 rfl) ?_
      refine lv_iload_n hx hb dX5_gallery_46 rfl (lv_at hl 5 rfl) ?_
      refine lv_if_lt (tgt := 54) hx hb dX5_gallery_47 (by decide) (fun c_987 => ?_) (fun c_987 => ?_)
      · have h := ip c_987 h
        refine lv_iconst (v := 0) hx hb dX5_gallery_54 (by decide) ?_
        exact w_55  _ _ _ _ _ _ _ _ _ _ _ _ _ _  hP hD hS (lv_sub hl [2, 5, 1, 0] rfl) h
      · have h := iq c_987 h
        refine lv_iconst (v := 1) hx hb dX5_gallery_50 (by decide) ?_
        refine lv_goto (tgt := 55) hx hb dX5_gallery_51 (by decide) ?_
        exact w_55  _ _ _ _ _ _ _ _ _ _ _ _ _ _  hP hD hS (lv_sub hl [2, 5, 1, 0] rfl) h
    · have h := iq c_982 h
      refine lv_iconst (v := 0) hx hb dX5_gallery_29 (by decide) ?_
      obtain rfl := Option.some.inj h
      exact wri hx hb hr hlocks hP hD hS (Nat.le_of_ble_eq_true rfl) (Nat.le_of_ble_eq_true rfl) rfl dX5_gallery_30
  rw [fX5_gallery.eq_1] at h
  refine lv_aload_n hx hb dX5_gallery_0 rfl (lv_at hl 0 rfl) ?_
  refine lv_aload_n hx hb dX5_gallery_1 rfl (lv_at hl 0 rfl) ?_
  refine lv_iload_n hx hb dX5_gallery_2 rfl (lv_at hl 1 rfl) ?_
  obtain ⟨u_988, hc_989, h⟩ := bd_inv h
  refine wafter_i (wr := []) (w2 := (w_D G d0 d1 d2 d3 d4 d5 d6 d7 d8 d9 d10 d11 d12 d_n d_a d_b d_c u_988.2.1 u_988.2.2.1 u_988.2.2.2.1 u_988.2.2.2.2.1 u_988.2.2.2.2.2 d_w d_e d_1 d_2 d_o d_g d_ra d_rb d_rc d_t)) (va_runV (As := [.int x1]) (rest := [.ref d0]) ⟨hx, hb, hml, hown, hts⟩ (kX5_roomIs (l := l) (G := G) d0 d1 d2 d3 d4 d5 d6 d7 d8 d9 d10 d11 d12 d_n d_a d_b d_c d_k d_x d_y d_d d_r d_w d_e d_1 d_2 d_o d_g d_ra d_rb d_rc d_t x1 N u_988 hc_989 _) (cwV 1 hts gX5_gallery_X5_roomIs rfl rfl rfl (by decide +kernel) ⟨Nat.le_of_ble_eq_true rfl, Nat.le_of_ble_eq_true rfl⟩) (wPreV hP hD hK [0, 1, 2, 3, 4, 5, 6, 7, 8, 9, 10, 11, 12] rfl rfl (ci := 5) (qb := 0) rfl rfl rfl) rfl rfl hl.1 rfl (lv_room (Nat.le_of_ble_eq_true rfl)) dX5_gallery_3 ⟨Nat.zero_le _, Nat.zero_le _⟩) hP hD hS hA [0, 1, 2, 3, 4, 5, 6, 7, 8, 9, 10, 11, 12] [] [0, 1, 2, 3, 4, 5, 6, 7, 8, 9, 10, 11, 12] rfl rfl rfl (by decide) rfl rfl (fun H locs hP hD hS => ?_)
  refine lv_if_eq (tgt := 21) hx hb dX5_gallery_6 (by decide) (fun c_990 => ?_) (fun c_990 => ?_)
  · have h := ip c_990 h
    refine lv_iconst (v := 0) hx hb dX5_gallery_21 (by decide) ?_
    exact w_22  _ _ _ _ _ _ _ _ _ _ _ _ _ _  hP hD hS (lv_sub hl [0, 1, 2, 3] rfl) h
  · have h := iq c_990 h
    refine lv_aload_n hx hb dX5_gallery_9 rfl (lv_at hl 0 rfl) ?_
    refine lv_iload_n hx hb dX5_gallery_10 rfl (lv_at hl 2 rfl) ?_
    obtain ⟨u_991, hc_992, h⟩ := bd_inv h
    refine wafter_i (wr := []) (w2 := (w_D G d0 d1 d2 d3 d4 d5 d6 d7 d8 d9 d10 d11 d12 d_n d_a d_b d_c u_991.2.1 u_991.2.2.1 u_991.2.2.2.1 u_991.2.2.2.2.1 u_991.2.2.2.2.2 d_w d_e d_1 d_2 d_o d_g d_ra d_rb d_rc d_t)) (va_runV (As := [.int x2]) (rest := [.ref d0]) ⟨hx, hb, hml, hown, hts⟩ (kX5_roomIs (l := l) (G := G) d0 d1 d2 d3 d4 d5 d6 d7 d8 d9 d10 d11 d12 d_n d_a d_b d_c u_988.2.1 u_988.2.2.1 u_988.2.2.2.1 u_988.2.2.2.2.1 u_988.2.2.2.2.2 d_w d_e d_1 d_2 d_o d_g d_ra d_rb d_rc d_t x2 N u_991 hc_992 _) (cwV 1 hts gX5_gallery_X5_roomIs rfl rfl rfl (by decide +kernel) ⟨Nat.le_of_ble_eq_true rfl, Nat.le_of_ble_eq_true rfl⟩) (wPreV hP hD hK [0, 1, 2, 3, 4, 5, 6, 7, 8, 9, 10, 11, 12] rfl rfl (ci := 5) (qb := 0) rfl rfl rfl) rfl rfl hl.1 rfl (lv_room (Nat.le_of_ble_eq_true rfl)) dX5_gallery_11 ⟨Nat.zero_le _, Nat.zero_le _⟩) hP hD hS hA [0, 1, 2, 3, 4, 5, 6, 7, 8, 9, 10, 11, 12] [] [0, 1, 2, 3, 4, 5, 6, 7, 8, 9, 10, 11, 12] rfl rfl rfl (by decide) rfl rfl (fun H locs hP hD hS => ?_)
    refine lv_if_eq (tgt := 21) hx hb dX5_gallery_14 (by decide) (fun c_993 => ?_) (fun c_993 => ?_)
    · have h := ip c_993 h
      refine lv_iconst (v := 0) hx hb dX5_gallery_21 (by decide) ?_
      exact w_22  _ _ _ _ _ _ _ _ _ _ _ _ _ _  hP hD hS (lv_sub hl [0, 1, 2, 3] rfl) h
    · have h := iq c_993 h
      refine lv_iconst (v := 1) hx hb dX5_gallery_17 (by decide) ?_
      refine lv_goto (tgt := 22) hx hb dX5_gallery_18 (by decide) ?_
      exact w_22  _ _ _ _ _ _ _ _ _ _ _ _ _ _  hP hD hS (lv_sub hl [0, 1, 2, 3] rfl) h
