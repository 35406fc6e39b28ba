def fX5_size_b4 (N : Nat) : Nat → Int32 → Int32 → Option (Int32)
  | 0, _, _ => none
  | n + 1, x1, x2 => if x2 ≤ 0 then some x1 else fX5_size_b4 N n (x1 + (x2 &&& 1)) (x2 >>> (1 &&& 31))
def fX5_size (N : Nat) (x0 : Int32) : Option (Int32) := fX5_size_b4 N N 0 x0
set_option maxHeartbeats 4000000 in
set_option maxRecDepth 100000 in
theorem kX5_size {l : Launch} {G : wG} (x0 : Int32) (N : Nat) (v : Int32) (h : fX5_size N x0 = some v) : wCi l G yX5_size wsX5_size ({ frames := 0, cells := 0, slots := 0, locals := 0 } : Room) [.int x0] [] [] 0 0 v := by
  refine wCi.mk (cc := cX5_size) (maxL := 3) (ty := .int) (by decide) rfl (Nat.le_of_ble_eq_true rfl) ?_
  intro p e s m below meth c A ls hx hb hml hr hlocks hts hown hK hA hP hD hl
  have hx : p.tables.exec = Jvm.exec := hx
  have hown : s.vm.findClass RX5 = some m.cls := hown
  have hS : va_S A s.heap s.heap [] := va_S.rf
  have hP : va_P G.1 vwCl [] s.heap := hP
  have hD : va_D A [] := hD
  have hl : lv_has ls 3 [(0, .int x0)] := hl
  obtain ⟨args, hargs⟩ : ∃ z : Array Value, z = ([.int x0] : List Value).toArray := ⟨_, rfl⟩
  rw [← hargs]
  rw [← hargs] at hts
  have w_4 : ∀   (_z : Unit), ∀ (n : Nat) (x1 : Int32) (x2 : Int32)  (H : Heap) (locs : List Loc) (ls : Array Slot), va_P G.1 vwCl [] H → va_D A [] → va_S A s.heap H locs → lv_has ls 3 [(1, .int x1), (2, .int x2)] → fX5_size_b4 N n x1 x2 = some v → W p l e ({ frames := 0, cells := 0, slots := 0, locals := 0 } : Room) s m args below meth c H locs 0 0 (wQi G A below args s [] 0 0 v) (F0 m 4 ls []) := by
    intro _z n
    induction n with
    | zero =>
      intro x1 x2 H locs ls hP hD hS hl h
      rw [fX5_size_b4.eq_1] at h
      cases h
    | succ n ih =>
      intro x1 x2 H locs ls hP hD hS hl h
      rw [fX5_size_b4.eq_2] at h
      refine lv_iload_n hx hb dX5_size_4 rfl (lv_at hl 1 rfl) ?_
      refine lv_if_le (tgt := 21) hx hb dX5_size_5 (by decide) (fun c_674 => ?_) (fun c_674 => ?_)
      · have h := ip c_674 h
        refine lv_iload_n hx hb dX5_size_21 rfl (lv_at hl 0 rfl) ?_
        obtain rfl := Option.some.inj h
        exact wri hx hb hr hlocks hP hD hS (Nat.le_of_ble_eq_true rfl) (Nat.le_of_ble_eq_true rfl) rfl dX5_size_22
      · have h := iq c_674 h
        refine lv_iload_n hx hb dX5_size_8 rfl (lv_at hl 0 rfl) ?_
        refine lv_iload_n hx hb dX5_size_9 rfl (lv_at hl 1 rfl) ?_
        refine lv_iconst (v := 1) hx hb dX5_size_10 (by decide) ?_
        refine lv_iand hx hb dX5_size_11 ?_
        refine lv_iadd hx hb dX5_size_12 ?_
        refine lv_istore_n (lv' := [(1, .int (x1 + (x2 &&& 1))), (2, .int x2)]) hx hb dX5_size_13 rfl hl (by decide) rfl (fun ls hl => ?_)
        refine lv_iload_n hx hb dX5_size_14 rfl (lv_at hl 1 rfl) ?_
        refine lv_iconst (v := 1) hx hb dX5_size_15 (by decide) ?_
        refine lv_ishr hx hb dX5_size_16 ?_
        refine lv_istore_n (lv' := [(2, .int (x2 >>> (1 &&& 31))), (1, .int (x1 + (x2 &&& 1)))]) hx hb dX5_size_17 rfl hl (by decide) rfl (fun ls hl => ?_)
        refine lv_goto (tgt := 4) hx hb dX5_size_18 (by decide) ?_
        exact ih _ _ _ _ _ hP hD hS (lv_sub hl [1, 0] rfl) h
  rw [fX5_size.eq_1] at h
  refine lv_iconst (v := 0) hx hb dX5_size_0 (by decide) ?_
  refine lv_istore_n (lv' := [(1, .int 0), (0, .int x0)]) hx hb dX5_size_1 rfl hl (by decide) rfl (fun ls hl => ?_)
  refine lv_iload_n hx hb dX5_size_2 rfl (lv_at hl 1 rfl) ?_
  refine lv_istore_n (lv' := [(2, .int x0), (1, .int 0), (0, .int x0)]) hx hb dX5_size_3 rfl hl (by decide) rfl (fun ls hl => ?_)
  exact w_4    ()  N _ _  _ _ _ hP hD hS (lv_sub hl [1, 0] rfl) h
def fX5_meets (N : Nat) (d_n : Int32) (d_a : Nat → Int32) (d_b : Nat → Int32) (d_c : Nat → Int32) (d_k : Int32) (d_x : Nat → Int32) (d_y : Nat → Int32) (d_d : Nat → Int32) (d_t : Int32) : Option (Int32 × Int32 × (Nat → Int32) × (Nat → Int32) × (Nat → Int32) × Int32) := bd (fX5_findMeets N d_n d_a d_b d_c d_k d_x d_y d_d) (fun u_675 => some (u_675.1, u_675.1, u_675.2.1, u_675.2.2.1, u_675.2.2.2, 0))
set_option maxHeartbeats 4000000 in
set_option maxRecDepth 100000 in
theorem kX5_meets {l : Launch} {G : wG} (d0 d1 d2 d3 d4 d5 d6 d7 d8 d9 d10 d11 d12 : Nat) (d_n : Int32) (d_a : Nat → Int32) (d_b : Nat → Int32) (d_c : Nat → Int32) (d_k : Int32) (d_x : Nat → Int32) (d_y : Nat → Int32) (d_d : Nat → Int32) (d_r : Nat → Int32) (d_w : Nat → Int32) (d_e : Int32) (d_1 : Nat → Int32) (d_2 : Nat → Int32) (d_o : Nat → Int32) (d_g : Nat → Int32) (d_ra : Int32) (d_rb : Int32) (d_rc : Int32) (d_t : Int32) (N : Nat) (v : Int32 × Int32 × (Nat → Int32) × (Nat → Int32) × (Nat → Int32) × Int32) (h : fX5_meets N d_n d_a d_b d_c d_k d_x d_y d_d d_t = some v) : wCi l G yX5_meets wsX5_meets ({ frames := 3, cells := 0, slots := 0, locals := 74 } : Room) [.ref d0] (w_D G d0 d1 d2 d3 d4 d5 d6 d7 d8 d9 d10 d11 d12 d_n d_a d_b d_c d_k d_x d_y d_d d_r d_w d_e d_1 d_2 d_o d_g d_ra d_rb d_rc d_t) (w_D G d0 d1 d2 d3 d4 d5 d6 d7 d8 d9 d10 d11 d12 d_n d_a d_b d_c v.2.1 v.2.2.1 v.2.2.2.1 v.2.2.2.2.1 d_r d_w d_e d_1 d_2 d_o d_g d_ra d_rb d_rc v.2.2.2.2.2) 0 0 v.1 := by
  refine wCi.mk (cc := cX5_meets) (maxL := 1) (ty := .int) (by decide) rfl (Nat.le_of_ble_eq_true rfl) ?_
  intro p e s m below meth c A ls hx hb hml hr hlocks hts hown hK hA hP hD hl
  have hx : p.tables.exec = Jvm.exec := hx
  have hown : s.vm.findClass RX5 = some m.cls := hown
  have hinX5 : ∀ w ∈ wsX50, w ∈ wsX5_meets := by decide +kernel
  have lk47 := hts (.fieldLink RX5 47 "ChamberwrightModel" "thrown" "I") (by decide +kernel)
  have lk78 := hts (.fieldLink RX5 78 "ChamberwrightModel" "meets" "I") (by decide +kernel)
  have hS : va_S A s.heap s.heap [] := va_S.rf
  have hP : va_P G.1 vwCl (w_D G d0 d1 d2 d3 d4 d5 d6 d7 d8 d9 d10 d11 d12 d_n d_a d_b d_c d_k d_x d_y d_d d_r d_w d_e d_1 d_2 d_o d_g d_ra d_rb d_rc d_t) s.heap := hP
  have hD : va_D A (w_D G d0 d1 d2 d3 d4 d5 d6 d7 d8 d9 d10 d11 d12 d_n d_a d_b d_c d_k d_x d_y d_d d_r d_w d_e d_1 d_2 d_o d_g d_ra d_rb d_rc d_t) := hD
  have hl : lv_has ls 1 [(0, .ref d0)] := hl
  obtain ⟨args, hargs⟩ : ∃ z : Array Value, z = ([.ref d0] : List Value).toArray := ⟨_, rfl⟩
  rw [← hargs]
  rw [← hargs] at hts
  rw [fX5_meets.eq_1] at h
  refine lv_aload_n hx hb dX5_meets_0 rfl (lv_at hl 0 rfl) ?_
  refine lv_iconst (v := 0) hx hb dX5_meets_1 (by decide) ?_
  refine va_put (D := G.1) (ci := 5) (v := .int 0) (ty := .int) (C := RX5) (T := TX5) (N := 19) hx hb hts hinX5 tyX5 tyX5_ok nmX5 hown hK.1 hP hD hS 0 rfl rfl 18 (by decide) lk47 (fun _ h9 => h9) rfl (by decide +kernel) rfl rfl (Nat.le_of_ble_eq_true rfl) dX5_meets_2 (fun H locs hP hD hS => ?_)
  have hP : va_P G.1 vwCl (w_D G d0 d1 d2 d3 d4 d5 d6 d7 d8 d9 d10 d11 d12 d_n d_a d_b d_c d_k d_x d_y d_d d_r d_w d_e d_1 d_2 d_o d_g d_ra d_rb d_rc 0) H := hP
  have hD : va_D A (w_D G d0 d1 d2 d3 d4 d5 d6 d7 d8 d9 d10 d11 d12 d_n d_a d_b d_c d_k d_x d_y d_d d_r d_w d_e d_1 d_2 d_o d_g d_ra d_rb d_rc 0) := hD
  refine lv_aload_n hx hb dX5_meets_5 rfl (lv_at hl 0 rfl) ?_
  obtain ⟨u_675, hc_676, h⟩ := bd_inv h
  refine wafter_v (wr := []) (w2 := (w_D G d0 d1 d2 d3 d4 d5 d6 d7 d8 d9 d10 d11 d12 d_n d_a d_b d_c u_675.1 u_675.2.1 u_675.2.2.1 u_675.2.2.2 d_r d_w d_e d_1 d_2 d_o d_g d_ra d_rb d_rc 0)) (va_runV (As := []) (rest := []) ⟨hx, hb, hml, hown, hts⟩ (kX5_findMeets (l := l) (G := G) d0 d1 d2 d3 d4 d5 d6 d7 d8 d9 d10 d11 d12 d_n d_a d_b d_c d_k d_x d_y d_d d_r d_w d_e d_1 d_2 d_o d_g d_ra d_rb d_rc 0  N u_675 hc_676 _) (cwV 0 hts gX5_meets_X5_findMeets rfl rfl rfl (by decide +kernel) ⟨Nat.le_of_ble_eq_true rfl, Nat.le_of_ble_eq_true rfl⟩) (wPreV hP hD hK [0, 1, 2, 3, 4, 5, 6, 7, 8, 9, 10, 11, 12] rfl rfl (ci := 5) (qb := 0) rfl rfl rfl) rfl rfl hl.1 rfl (lv_room (Nat.le_of_ble_eq_true rfl)) dX5_meets_6 ⟨Nat.zero_le _, Nat.zero_le _⟩) hP hD hS hA [0, 1, 2, 3, 4, 5, 6, 7, 8, 9, 10, 11, 12] [] [0, 1, 2, 3, 4, 5, 6, 7, 8, 9, 10, 11, 12] rfl rfl rfl (by decide) rfl rfl (fun H locs hP hD hS => ?_)
  refine lv_aload_n hx hb dX5_meets_9 rfl (lv_at hl 0 rfl) ?_
  refine va_get (D := G.1) (ci := 5) (v := .int u_675.1) (C := RX5) (T := TX5) (N := 19) hx hb hts hinX5 hown hK.1 hP 0 rfl rfl 4 (by decide) lk78 (fun _ h9 => h9) rfl dX5_meets_10 ?_
  obtain rfl := Option.some.inj h
  exact wri hx hb hr hlocks hP hD hS (Nat.le_of_ble_eq_true rfl) (Nat.le_of_ble_eq_true rfl) rfl dX5_meets_13
def fX5_meet (N : Nat) (d_n : Int32) (d_a : Nat → Int32) (d_b : Nat → Int32) (d_c : Nat → Int32) (d_k : Int32) (d_x : Nat → Int32) (d_y : Nat → Int32) (d_d : Nat → Int32) (d_t : Int32) (x1 : Int32) (x2 : Int32) : Option (Int32 × Int32 × (Nat → Int32) × (Nat → Int32) × (Nat → Int32) × Int32) := bd (fX5_findMeets N d_n d_a d_b d_c d_k d_x d_y d_d) (fun u_677 => bd (fX5_in N x1 0 (u_677.1 - 1)) (fun u_679 => bd (fX5_fails N d_t u_679 1) (fun u_681 => if u_681.1 = 0 then bd (fX5_in N x2 0 3) (fun u_684 => bd (fX5_fails N u_681.2 u_684 2) (fun u_686 => if u_686.1 = 0 then if x2 = 0 then rd u_677.2.1 36 x1 (fun v_696 => some (v_696, u_677.1, u_677.2.1, u_677.2.2.1, u_677.2.2.2, u_686.2)) else if x2 = 1 then rd u_677.2.2.1 36 x1 (fun v_695 => some (v_695, u_677.1, u_677.2.1, u_677.2.2.1, u_677.2.2.2, u_686.2)) else if x2 = 2 then rd u_677.2.2.2 36 x1 (fun v_694 => some (v_694, u_677.1, u_677.2.1, u_677.2.2.1, u_677.2.2.2, u_686.2)) else bd (fX5_through N d_n d_a d_b d_c u_677.2.1 u_677.2.2.1 u_677.2.2.2 x1) (fun u_692 => some (u_692, u_677.1, u_677.2.1, u_677.2.2.1, u_677.2.2.2, u_686.2)) else some (0, u_677.1, u_677.2.1, u_677.2.2.1, u_677.2.2.2, u_686.2))) else some (0, u_677.1, u_677.2.1, u_677.2.2.1, u_677.2.2.2, u_681.2))))
set_option maxHeartbeats 4000000 in
set_option maxRecDepth 100000 in
theorem kX5_meet {l : Launch} {G : wG} (d0 d1 d2 d3 d4 d5 d6 d7 d8 d9 d10 d11 d12 : Nat) (d_n : Int32) (d_a : Nat → Int32) (d_b : Nat → Int32) (d_c : Nat → Int32) (d_k : Int32) (d_x : Nat → Int32) (d_y : Nat → Int32) (d_d : Nat → Int32) (d_r : Nat → Int32) (d_w : Nat → Int32) (d_e : Int32) (d_1 : Nat → Int32) (d_2 : Nat → Int32) (d_o : Nat → Int32) (d_g : Nat → Int32) (d_ra : Int32) (d_rb : Int32) (d_rc : Int32) (d_t : Int32) (x1 : Int32) (x2 : Int32) (N : Nat) (v : Int32 × Int32 × (Nat → Int32) × (Nat → Int32) × (Nat → Int32) × Int32) (h : fX5_meet N d_n d_a d_b d_c d_k d_x d_y d_d d_t x1 x2 = some v) : wCi l G yX5_meet wsX5_meet ({ frames := 3, cells := 0, slots := 0, locals := 74 } : Room) [.ref d0, .int x1, .int x2] (w_D G d0 d1 d2 d3 d4 d5 d6 d7 d8 d9 d10 d11 d12 d_n d_a d_b d_c d_k d_x d_y d_d d_r d_w d_e d_1 d_2 d_o d_g d_ra d_rb d_rc d_t) (w_D G d0 d1 d2 d3 d4 d5 d6 d7 d8 d9 d10 d11 d12 d_n d_a d_b d_c v.2.1 v.2.2.1 v.2.2.2.1 v.2.2.2.2.1 d_r d_w d_e d_1 d_2 d_o d_g d_ra d_rb d_rc v.2.2.2.2.2) 0 0 v.1 := by
  refine wCi.mk (cc := cX5_meet) (maxL := 3) (ty := .int) (by decide) rfl (Nat.le_of_ble_eq_true rfl) ?_
  intro p e s m below meth c A ls hx hb hml hr hlocks hts hown hK hA hP hD hl
  have hx : p.tables.exec = Jvm.exec := hx
  have hown : s.vm.findClass RX5 = some m.cls := hown
  have hinX5 : ∀ w ∈ wsX50, w ∈ wsX5_meet := by decide +kernel
  have lk19 := hts (.fieldLink RX5 19 "ChamberwrightModel" "mx" "[I") (by decide +kernel)
  have lk22 := hts (.fieldLink RX5 22 "ChamberwrightModel" "my" "[I") (by decide +kernel)
  have lk25 := hts (.fieldLink RX5 25 "ChamberwrightModel" "md" "[I") (by decide +kernel)
  have lk78 := hts (.fieldLink RX5 78 "ChamberwrightModel" "meets" "I") (by decide +kernel)
  have hS : va_S A s.heap s.heap [] := va_S.rf
  have hP : va_P G.1 vwCl (w_D G d0 d1 d2 d3 d4 d5 d6 d7 d8 d9 d10 d11 d12 d_n d_a d_b d_c d_k d_x d_y d_d d_r d_w d_e d_1 d_2 d_o d_g d_ra d_rb d_rc d_t) s.heap := hP
  have hD : va_D A (w_D G d0 d1 d2 d3 d4 d5 d6 d7 d8 d9 d10 d11 d12 d_n d_a d_b d_c d_k d_x d_y d_d d_r d_w d_e d_1 d_2 d_o d_g d_ra d_rb d_rc d_t) := hD
  have hl : lv_has ls 3 [(0, .ref d0), (1, .int x1), (2, .int x2)] := hl
  obtain ⟨args, hargs⟩ : ∃ z : Array Value, z = ([.ref d0, .int x1, .int x2] : List Value).toArray := ⟨_, rfl⟩
  rw [← hargs]
  rw [← hargs] at hts
  rw [fX5_meet.eq_1] at h
  refine lv_aload_n hx hb dX5_meet_0 rfl (lv_at hl 0 rfl) ?_
  obtain ⟨u_677, hc_678, h⟩ := bd_inv h
  refine wafter_v (wr := []) (w2 := (w_D G d0 d1 d2 d3 d4 d5 d6 d7 d8 d9 d10 d11 d12 d_n d_a d_b d_c u_677.1 u_677.2.1 u_677.2.2.1 u_677.2.2.2 d_r d_w d_e d_1 d_2 d_o d_g d_ra d_rb d_rc d_t)) (va_runV (As := []) (rest := []) ⟨hx, hb, hml, hown, hts⟩ (kX5_findMeets (l := l) (G := G) d0 d1 d2 d3 d4 d5 d6 d7 d8 d9 d10 d11 d12 d_n d_a d_b d_c d_k d_x d_y d_d d_r d_w d_e d_1 d_2 d_o d_g d_ra d_rb d_rc d_t  N u_677 hc_678 _) (cwV 0 hts gX5_meet_X5_findMeets rfl rfl rfl (by decide +kernel) ⟨Nat.le_of_ble_eq_true rfl, Nat.le_of_ble_eq_true rfl⟩) (wPreV hP hD hK [0, 1, 2, 3, 4, 5, 6, 7, 8, 9, 10, 11, 12] rfl rfl (ci := 5) (qb := 0) rfl rfl rfl) rfl rfl hl.1 rfl (lv_room (Nat.le_of_ble_eq_true rfl)) dX5_meet_1 ⟨Nat.zero_le _, Nat.zero_le _⟩) hP hD hS hA [0, 1, 2, 3, 4, 5, 6, 7, 8, 9, 10, 11, 12] [] [0, 1, 2, 3, 4, 5, 6, 7, 8, 9, 10, 11, 12] rfl rfl rfl (by decide) rfl rfl (fun H locs hP hD hS => ?_)
  refine lv_aload_n hx hb dX5_meet_4 rfl (lv_at hl 0 rfl) ?_
  refine lv_iload_n hx hb dX5_meet_5 rfl (lv_at hl 1 rfl) ?_
  refine lv_iconst (v := 0) hx hb dX5_meet_6 (by decide) ?_
  refine lv_aload_n hx hb dX5_meet_7 rfl (lv_at hl 0 rfl) ?_
  refine va_get (D := G.1) (ci := 5) (v := .int u_677.1) (C := RX5) (T := TX5) (N := 19) hx hb hts hinX5 hown hK.1 hP 0 rfl rfl 4 (by decide) lk78 (fun _ h9 => h9) rfl dX5_meet_8 ?_
  refine lv_iconst (v := 1) hx hb dX5_meet_11 (by decide) ?_
  refine lv_isub hx hb dX5_meet_12 ?_
  obtain ⟨u_679, hc_680, h⟩ := bd_inv h
  refine wafter_i (wr := (w_D G d0 d1 d2 d3 d4 d5 d6 d7 d8 d9 d10 d11 d12 d_n d_a d_b d_c u_677.1 u_677.2.1 u_677.2.2.1 u_677.2.2.2 d_r d_w d_e d_1 d_2 d_o d_g d_ra d_rb d_rc d_t)) (w2 := (w_D G d0 d1 d2 d3 d4 d5 d6 d7 d8 d9 d10 d11 d12 d_n d_a d_b d_c u_677.1 u_677.2.1 u_677.2.2.1 u_677.2.2.2 d_r d_w d_e d_1 d_2 d_o d_g d_ra d_rb d_rc d_t)) (va_runS (As := [.int x1, .int 0, .int (u_677.1 - 1)]) (rest := [.ref d0]) ⟨hx, hb, hml, hown, hts⟩ (kX5_in (l := l) (G := G)   x1 0 (u_677.1 - 1) N u_679 hc_680 _) (va_cwS 3 hts gX5_meet_X5_in rfl rfl rfl (by decide +kernel) ⟨Nat.le_of_ble_eq_true rfl, Nat.le_of_ble_eq_true rfl⟩) (wPreS hP hD hK [] rfl rfl) rfl rfl hl.1 rfl (lv_room (Nat.le_of_ble_eq_true rfl)) dX5_meet_13 ⟨Nat.zero_le _, Nat.zero_le _⟩) hP hD hS hA [] [0, 1, 2, 3, 4, 5, 6, 7, 8, 9, 10, 11, 12] [0, 1, 2, 3, 4, 5, 6, 7, 8, 9, 10, 11, 12] rfl rfl rfl (by decide) rfl rfl (fun H locs hP hD hS => ?_)
  refine lv_iconst (v := 1) hx hb dX5_meet_16 (by decide) ?_
  obtain ⟨u_681, hc_682, h⟩ := bd_inv h
  refine wafter_i (wr := []) (w2 := (w_D G d0 d1 d2 d3 d4 d5 d6 d7 d8 d9 d10 d11 d12 d_n d_a d_b d_c u_677.1 u_677.2.1 u_677.2.2.1 u_677.2.2.2 d_r d_w d_e d_1 d_2 d_o d_g d_ra d_rb d_rc u_681.2)) (va_runV (As := [.int u_679, .int 1]) (rest := []) ⟨hx, hb, hml, hown, hts⟩ (kX5_fails (l := l) (G := G) d0 d1 d2 d3 d4 d5 d6 d7 d8 d9 d10 d11 d12 d_n d_a d_b d_c u_677.1 u_677.2.1 u_677.2.2.1 u_677.2.2.2 d_r d_w d_e d_1 d_2 d_o d_g d_ra d_rb d_rc d_t u_679 1 N u_681 hc_682 _) (cwV 2 hts gX5_meet_X5_fails rfl rfl rfl (by decide +kernel) ⟨Nat.le_of_ble_eq_true rfl, Nat.le_of_ble_eq_true rfl⟩) (wPreV hP hD hK [0, 1, 2, 3, 4, 5, 6, 7, 8, 9, 10, 11, 12] rfl rfl (ci := 5) (qb := 0) rfl rfl rfl) rfl rfl hl.1 rfl (lv_room (Nat.le_of_ble_eq_true rfl)) dX5_meet_17 ⟨Nat.zero_le _, Nat.zero_le _⟩) hP hD hS hA [0, 1, 2, 3, 4, 5, 6, 7, 8, 9, 10, 11, 12] [] [0, 1, 2, 3, 4, 5, 6, 7, 8, 9, 10, 11, 12] rfl rfl rfl (by decide) rfl rfl (fun H locs hP hD hS => ?_)
  refine lv_if_eq (tgt := 25) hx hb dX5_meet_20 (by decide) (fun c_683 => ?_) (fun c_683 => ?_)
  · have h := ip c_683 h
    refine lv_aload_n hx hb dX5_meet_25 rfl (lv_at hl 0 rfl) ?_
    refine lv_iload_n hx hb dX5_meet_26 rfl (lv_at hl 2 rfl) ?_
    refine lv_iconst (v := 0) hx hb dX5_meet_27 (by decide) ?_
    refine lv_iconst (v := 3) hx hb dX5_meet_28 (by decide) ?_
    obtain ⟨u_684, hc_685, h⟩ := bd_inv h
    refine wafter_i (wr := (w_D G d0 d1 d2 d3 d4 d5 d6 d7 d8 d9 d10 d11 d12 d_n d_a d_b d_c u_677.1 u_677.2.1 u_677.2.2.1 u_677.2.2.2 d_r d_w d_e d_1 d_2 d_o d_g d_ra d_rb d_rc u_681.2)) (w2 := (w_D G d0 d1 d2 d3 d4 d5 d6 d7 d8 d9 d10 d11 d12 d_n d_a d_b d_c u_677.1 u_677.2.1 u_677.2.2.1 u_677.2.2.2 d_r d_w d_e d_1 d_2 d_o d_g d_ra d_rb d_rc u_681.2)) (va_runS (As := [.int x2, .int 0, .int 3]) (rest := [.ref d0]) ⟨hx, hb, hml, hown, hts⟩ (kX5_in (l := l) (G := G)   x2 0 3 N u_684 hc_685 _) (va_cwS 3 hts gX5_meet_X5_in rfl rfl rfl (by decide +kernel) ⟨Nat.le_of_ble_eq_true rfl, Nat.le_of_ble_eq_true rfl⟩) (wPreS hP hD hK [] rfl rfl) rfl rfl hl.1 rfl (lv_room (Nat.le_of_ble_eq_true rfl)) dX5_meet_29 ⟨Nat.zero_le _, Nat.zero_le _⟩) hP hD hS hA [] [0, 1, 2, 3, 4, 5, 6, 7, 8, 9, 10, 11, 12] [0, 1, 2, 3, 4, 5, 6, 7, 8, 9, 10, 11, 12] rfl rfl rfl (by decide) rfl rfl (fun H locs hP hD hS => ?_)
    refine lv_iconst (v := 2) hx hb dX5_meet_32 (by decide) ?_
    obtain ⟨u_686, hc_687, h⟩ := bd_inv h
    refine wafter_i (wr := []) (w2 := (w_D G d0 d1 d2 d3 d4 d5 d6 d7 d8 d9 d10 d11 d12 d_n d_a d_b d_c u_677.1 u_677.2.1 u_677.2.2.1 u_677.2.2.2 d_r d_w d_e d_1 d_2 d_o d_g d_ra d_rb d_rc u_686.2)) (va_runV (As := [.int u_684, .int 2]) (rest := []) ⟨hx, hb, hml, hown, hts⟩ (kX5_fails (l := l) (G := G) d0 d1 d2 d3 d4 d5 d6 d7 d8 d9 d10 d11 d12 d_n d_a d_b d_c u_677.1 u_677.2.1 u_677.2.2.1 u_677.2.2.2 d_r d_w d_e d_1 d_2 d_o d_g d_ra d_rb d_rc u_681.2 u_684 2 N u_686 hc_687 _) (cwV 2 hts gX5_meet_X5_fails rfl rfl rfl (by decide +kernel) ⟨Nat.le_of_ble_eq_true rfl, Nat.le_of_ble_eq_true rfl⟩) (wPreV hP hD hK [0, 1, 2, 3, 4, 5, 6, 7, 8, 9, 10, 11, 12] rfl rfl (ci := 5) (qb := 0) rfl rfl rfl) rfl rfl hl.1 rfl (lv_room (Nat.le_of_ble_eq_true rfl)) dX5_meet_33 ⟨Nat.zero_le _, Nat.zero_le _⟩) hP hD hS hA [0, 1, 2, 3, 4, 5, 6, 7, 8, 9, 10, 11, 12] [] [0, 1, 2, 3, 4, 5, 6, 7, 8, 9, 10, 11, 12] rfl rfl rfl (by decide) rfl rfl (fun H locs hP hD hS => ?_)
    refine lv_if_eq (tgt := 41) hx hb dX5_meet_36 (by decide) (fun c_688 => ?_) (fun c_688 => ?_)
    · have h := ip c_688 h
      refine lv_iload_n hx hb dX5_meet_41 rfl (lv_at hl 2 rfl) ?_
      refine lv_if_ne (tgt := 54) hx hb dX5_meet_42 (by decide) (fun c_689 => ?_) (fun c_689 => ?_)
      · have h := iq c_689 h
        refine lv_iload_n hx hb dX5_meet_54 rfl (lv_at hl 2 rfl) ?_
        refine lv_iconst (v := 1) hx hb dX5_meet_55 (by decide) ?_
        refine lv_icmp_ne (tgt := 68) hx hb dX5_meet_56 (by decide) (fun c_690 => ?_) (fun c_690 => ?_)
        · have h := iq c_690 h
          refine lv_iload_n hx hb dX5_meet_68 rfl (lv_at hl 2 rfl) ?_
          refine lv_iconst (v := 2) hx hb dX5_meet_69 (by decide) ?_
          refine lv_icmp_ne (tgt := 82) hx hb dX5_meet_70 (by decide) (fun c_691 => ?_) (fun c_691 => ?_)
          · have h := iq c_691 h
            refine lv_aload_n hx hb dX5_meet_82 rfl (lv_at hl 0 rfl) ?_
            refine lv_iload_n hx hb dX5_meet_83 rfl (lv_at hl 1 rfl) ?_
            obtain ⟨u_692, hc_693, h⟩ := bd_inv h
            refine wafter_i (wr := []) (w2 := (w_D G d0 d1 d2 d3 d4 d5 d6 d7 d8 d9 d10 d11 d12 d_n d_a d_b d_c u_677.1 u_677.2.1 u_677.2.2.1 u_677.2.2.2 d_r d_w d_e d_1 d_2 d_o d_g d_ra d_rb d_rc u_686.2)) (va_runV (As := [.int x1]) (rest := []) ⟨hx, hb, hml, hown, hts⟩ (kX5_through (l := l) (G := G) d0 d1 d2 d3 d4 d5 d6 d7 d8 d9 d10 d11 d12 d_n d_a d_b d_c u_677.1 u_677.2.1 u_677.2.2.1 u_677.2.2.2 d_r d_w d_e d_1 d_2 d_o d_g d_ra d_rb d_rc u_686.2 x1 N u_692 hc_693 _) (cwV 1 hts gX5_meet_X5_through rfl rfl rfl (by decide +kernel) ⟨Nat.le_of_ble_eq_true rfl, Nat.le_of_ble_eq_true rfl⟩) (wPreV hP hD hK [0, 1, 2, 3, 4, 5, 6, 7, 8, 9, 10, 11, 12] rfl rfl (ci := 5) (qb := 0) rfl rfl rfl) rfl rfl hl.1 rfl (lv_room (Nat.le_of_ble_eq_true rfl)) dX5_meet_84 ⟨Nat.zero_le _, Nat.zero_le _⟩) hP hD hS hA [0, 1, 2, 3, 4, 5, 6, 7, 8, 9, 10, 11, 12] [] [0, 1, 2, 3, 4, 5, 6, 7, 8, 9, 10, 11, 12] rfl rfl rfl (by decide) rfl rfl (fun H locs hP hD hS => ?_)
            obtain rfl := Option.some.inj h
            exact wri hx hb hr hlocks hP hD hS (Nat.le_of_ble_eq_true rfl) (Nat.le_of_ble_eq_true rfl) rfl dX5_meet_87
          · have h := ip c_691 h
            refine lv_aload_n hx hb dX5_meet_73 rfl (lv_at hl 0 rfl) ?_
            refine va_get (D := G.1) (ci := 5) (v := .ref d6) (C := RX5) (T := TX5) (N := 19) hx hb hts hinX5 hown hK.1 hP 0 rfl rfl 7 (by decide) lk25 (fun _ h9 => h9) rfl dX5_meet_74 ?_
            refine lv_iload_n hx hb dX5_meet_77 rfl (lv_at hl 1 rfl) ?_
            refine wiald h hx hb hK hP 6 rfl dX5_meet_78 (fun v_694 h => ?_)
            refine lv_goto (tgt := 87) hx hb dX5_meet_79 (by decide) ?_
            obtain rfl := Option.some.inj h
            exact wri hx hb hr hlocks hP hD hS (Nat.le_of_ble_eq_true rfl) (Nat.le_of_ble_eq_true rfl) rfl dX5_meet_87
        · have h := ip c_690 h
          refine lv_aload_n hx hb dX5_meet_59 rfl (lv_at hl 0 rfl) ?_
          refine va_get (D := G.1) (ci := 5) (v := .ref d5) (C := RX5) (T := TX5) (N := 19) hx hb hts hinX5 hown hK.1 hP 0 rfl rfl 6 (by decide) lk22 (fun _ h9 => h9) rfl dX5_meet_60 ?_
          refine lv_iload_n hx hb dX5_meet_63 rfl (lv_at hl 1 rfl) ?_
          refine wiald h hx hb hK hP 5 rfl dX5_meet_64 (fun v_695 h => ?_)
          refine lv_goto (tgt := 87) hx hb dX5_meet_65 (by decide) ?_
          obtain rfl := Option.some.inj h
          exact wri hx hb hr hlocks hP hD hS (Nat.le_of_ble_eq_true rfl) (Nat.le_of_ble_eq_true rfl) rfl dX5_meet_87
      · have h := ip c_689 h
        refine lv_aload_n hx hb dX5_meet_45 rfl (lv_at hl 0 rfl) ?_
        refine va_get (D := G.1) (ci := 5) (v := .ref d4) (C := RX5) (T := TX5) (N := 19) hx hb hts hinX5 hown hK.1 hP 0 rfl rfl 5 (by decide) lk19 (fun _ h9 => h9) rfl dX5_meet_46 ?_
        refine lv_iload_n hx hb dX5_meet_49 rfl (lv_at hl 1 rfl) ?_
        refine wiald h hx hb hK hP 4 rfl dX5_meet_50 (fun v_696 h => ?_)
        refine lv_goto (tgt := 87) hx hb dX5_meet_51 (by decide) ?_
        obtain rfl := Option.some.inj h
        exact wri hx hb hr hlocks hP hD hS (Nat.le_of_ble_eq_true rfl) (Nat.le_of_ble_eq_true rfl) rfl dX5_meet_87
    · have h := iq c_688 h
      refine lv_iconst (v := 0) hx hb dX5_meet_39 (by decide) ?_
      obtain rfl := Option.some.inj h
      exact wri hx hb hr hlocks hP hD hS (Nat.le_of_ble_eq_true rfl) (Nat.le_of_ble_eq_true rfl) rfl dX5_meet_40
  · have h := iq c_683 h
    refine lv_iconst (v := 0) hx hb dX5_meet_23 (by decide) ?_
    obtain rfl := Option.some.inj h
    exact wri hx hb hr hlocks hP hD hS (Nat.le_of_ble_eq_true rfl) (Nat.le_of_ble_eq_true rfl) rfl dX5_meet_24
def fX5_polynomial_b24 (N : Nat) (d_n : Int32) (d_a : Nat → Int32) (d_b : Nat → Int32) (d_c : Nat → Int32) (d_k : Int32) (d_x : Nat → Int32) (d_y : Nat → Int32) (d_d : Nat → Int32) (k_51 : Int32 → Option (Int32 × Int32 × (Nat → Int32) × (Nat → Int32) × (Nat → Int32) × Int32)) : Nat → Int32 → Int32 → Option (Int32 × Int32 × (Nat → Int32) × (Nat → Int32) × (Nat → Int32) × Int32)
  | 0, _, _ => none
  | n + 1, x2, x3 => if d_k ≤ x3 then k_51 x2 else bd (fX5_through N d_n d_a d_b d_c d_x d_y d_d x3) (fun u_698 => bd (fX5_size N u_698) (fun u_700 => fX5_polynomial_b24 N d_n d_a d_b d_c d_k d_x d_y d_d k_51 n (x2 + (u_700 - 1)) (x3 + 1)))
def fX5_polynomial (N : Nat) (d_n : Int32) (d_a : Nat → Int32) (d_b : Nat → Int32) (d_c : Nat → Int32) (d_k : Int32) (d_x : Nat → Int32) (d_y : Nat → Int32) (d_d : Nat → Int32) (d_t : Int32) (x1 : Int32) : Option (Int32 × Int32 × (Nat → Int32) × (Nat → Int32) × (Nat → Int32) × Int32) := bd (fX5_in N x1 0 2) (fun u_702 => bd (fX5_fails N d_t u_702 1) (fun u_704 => if u_704.1 = 0 then bd (fX5_findMeets N d_n d_a d_b d_c d_k d_x d_y d_d) (fun u_707 => fX5_polynomial_b24 N d_n d_a d_b d_c u_707.1 u_707.2.1 u_707.2.2.1 u_707.2.2.2 (fun (x2_709 : Int32) => if x1 = 2 then some (1, u_707.1, u_707.2.1, u_707.2.2.1, u_707.2.2.2, u_704.2) else if x1 = 1 then some ((-d_n), u_707.1, u_707.2.1, u_707.2.2.1, u_707.2.2.2, u_704.2) else some (x2_709, u_707.1, u_707.2.1, u_707.2.2.1, u_707.2.2.2, u_704.2)) N 0 0) else some (0, d_k, d_x, d_y, d_d, u_704.2)))
set_option maxHeartbeats 4000000 in
set_option maxRecDepth 100000 in
theorem kX5_polynomial {l : Launch} {G : wG} (d0 d1 d2 d3 d4 d5 d6 d7 d8 d9 d10 d11 d12 : Nat) (d_n : Int32) (d_a : Nat → Int32) (d_b : Nat → Int32) (d_c : Nat → Int32) (d_k : Int32) (d_x : Nat → Int32) (d_y : Nat → Int32) (d_d : Nat → Int32) (d_r : Nat → Int32) (d_w : Nat → Int32) (d_e : Int32) (d_1 : Nat → Int32) (d_2 : Nat → Int32) (d_o : Nat → Int32) (d_g : Nat → Int32) (d_ra : Int32) (d_rb : Int32) (d_rc : Int32) (d_t : Int32) (x1 : Int32) (N : Nat) (v : Int32 × Int32 × (Nat → Int32) × (Nat → Int32) × (Nat → Int32) × Int32) (h : fX5_polynomial N d_n d_a d_b d_c d_k d_x d_y d_d d_t x1 = some v) : wCi l G yX5_polynomial wsX5_polynomial ({ frames := 3, cells := 0, slots := 0, locals := 74 } : Room) [.ref d0, .int x1] (w_D G d0 d1 d2 d3 d4 d5 d6 d7 d8 d9 d10 d11 d12 d_n d_a d_b d_c d_k d_x d_y d_d d_r d_w d_e d_1 d_2 d_o d_g d_ra d_rb d_rc d_t) (w_D G d0 d1 d2 d3 d4 d5 d6 d7 d8 d9 d10 d11 d12 d_n d_a d_b d_c v.2.1 v.2.2.1 v.2.2.2.1 v.2.2.2.2.1 d_r d_w d_e d_1 d_2 d_o d_g d_ra d_rb d_rc v.2.2.2.2.2) 0 0 v.1 := by
  refine wCi.mk (cc := cX5_polynomial) (maxL := 4) (ty := .int) (by decide) rfl (Nat.le_of_ble_eq_true rfl) ?_
  intro p e s m below meth c A ls hx hb hml hr hlocks hts hown hK hA hP hD hl
  have hx : p.tables.exec = Jvm.exec := hx
  have hown : s.vm.findClass RX5 = some m.cls := hown
  have hinX5 : ∀ w ∈ wsX50, w ∈ wsX5_polynomial := by decide +kernel
  have lk51 := hts (.fieldLink RX5 51 "ChamberwrightModel" "lines" "I") (by decide +kernel)
  have lk78 := hts (.fieldLink RX5 78 "ChamberwrightModel" "meets" "I") (by decide +kernel)
  have hS : va_S A s.heap s.heap [] := va_S.rf
  have hP : va_P G.1 vwCl (w_D G d0 d1 d2 d3 d4 d5 d6 d7 d8 d9 d10 d11 d12 d_n d_a d_b d_c d_k d_x d_y d_d d_r d_w d_e d_1 d_2 d_o d_g d_ra d_rb d_rc d_t) s.heap := hP
  have hD : va_D A (w_D G d0 d1 d2 d3 d4 d5 d6 d7 d8 d9 d10 d11 d12 d_n d_a d_b d_c d_k d_x d_y d_d d_r d_w d_e d_1 d_2 d_o d_g d_ra d_rb d_rc d_t) := hD
  have hl : lv_has ls 4 [(0, .ref d0), (1, .int x1)] := hl
  obtain ⟨args, hargs⟩ : ∃ z : Array Value, z = ([.ref d0, .int x1] : List Value).toArray := ⟨_, rfl⟩
  rw [← hargs]
  rw [← hargs] at hts
  have w_24 : ∀ (k_51 : Int32 → Option (Int32 × Int32 × (Nat → Int32) × (Nat → Int32) × (Nat → Int32) × Int32)) (x1 : Int32) (d_k : Int32) (d_x : Nat → Int32) (d_y : Nat → Int32) (d_d : Nat → Int32) (d_t : Int32) (_z : Unit), (∀ (y2 : Int32) (H : Heap) (locs : List Loc) (ls : Array Slot), va_P G.1 vwCl (w_D G d0 d1 d2 d3 d4 d5 d6 d7 d8 d9 d10 d11 d12 d_n d_a d_b d_c d_k d_x d_y d_d d_r d_w d_e d_1 d_2 d_o d_g d_ra d_rb d_rc d_t) H → va_D A (w_D G d0 d1 d2 d3 d4 d5 d6 d7 d8 d9 d10 d11 d12 d_n d_a d_b d_c d_k d_x d_y d_d d_r d_w d_e d_1 d_2 d_o d_g d_ra d_rb d_rc d_t) → va_S A s.heap H locs → lv_has ls 4 [(0, .ref d0), (1, .int x1), (2, .int y2)] → k_51 y2 = some v → W p l e ({ frames := 3, cells := 0, slots := 0, locals := 74 } : Room) s m args below meth c H locs 0 0 (wQi G A below args s (w_D G d0 d1 d2 d3 d4 d5 d6 d7 d8 d9 d10 d11 d12 d_n d_a d_b d_c v.2.1 v.2.2.1 v.2.2.2.1 v.2.2.2.2.1 d_r d_w d_e d_1 d_2 d_o d_g d_ra d_rb d_rc v.2.2.2.2.2) 0 0 v.1) (F0 m 51 ls [])) → ∀ (n : Nat) (x2 : Int32) (x3 : Int32)  (H : Heap) (locs : List Loc) (ls : Array Slot), va_P G.1 vwCl (w_D G d0 d1 d2 d3 d4 d5 d6 d7 d8 d9 d10 d11 d12 d_n d_a d_b d_c d_k d_x d_y d_d d_r d_w d_e d_1 d_2 d_o d_g d_ra d_rb d_rc d_t) H → va_D A (w_D G d0 d1 d2 d3 d4 d5 d6 d7 d8 d9 d10 d11 d12 d_n d_a d_b d_c d_k d_x d_y d_d d_r d_w d_e d_1 d_2 d_o d_g d_ra d_rb d_rc d_t) → va_S A s.heap H locs → lv_has ls 4 [(0, .ref d0), (1, .int x1), (2, .int x2), (3, .int x3)] → fX5_polynomial_b24 N d_n d_a d_b d_c d_k d_x d_y d_d k_51 n x2 x3 = some v → W p l e ({ frames := 3, cells := 0, slots := 0, locals := 74 } : Room) s m args below meth c H locs 0 0 (wQi G A below args s (w_D G d0 d1 d2 d3 d4 d5 d6 d7 d8 d9 d10 d11 d12 d_n d_a d_b d_c v.2.1 v.2.2.1 v.2.2.2.1 v.2.2.2.2.1 d_r d_w d_e d_1 d_2 d_o d_g d_ra d_rb d_rc v.2.2.2.2.2) 0 0 v.1) (F0 m 24 ls []) := by
    intro k_51 x1 d_k d_x d_y d_d d_t _z hk_51 n
    induction n with
    | zero =>
      intro x2 x3 H locs ls hP hD hS hl h
      rw [fX5_polynomial_b24.eq_1] at h
      cases h
    | succ n ih =>
      intro x2 x3 H locs ls hP hD hS hl h
      rw [fX5_polynomial_b24.eq_2] at h
      refine lv_iload_n hx hb dX5_polynomial_24 rfl (lv_at hl 3 rfl) ?_
      refine lv_aload_n hx hb dX5_polynomial_25 rfl (lv_at hl 0 rfl) ?_
      refine va_get (D := G.1) (ci := 5) (v := .int d_k) (C := RX5) (T := TX5) (N := 19) hx hb hts hinX5 hown hK.1 hP 0 rfl rfl 4 (by decide) lk78 (fun _ h9 => h9) rfl dX5_polynomial_26 ?_
      refine lv_icmp_ge (tgt := 51) hx hb dX5_polynomial_29 (by decide) (fun c_697 => ?_) (fun c_697 => ?_)
      · have h := ip c_697 h
        exact hk_51 _ _ _ _ hP hD hS (lv_sub hl [0, 1, 2] rfl) h
      · have h := iq c_697 h
        refine lv_iload_n hx hb dX5_polynomial_32 rfl (lv_at hl 2 rfl) ?_
        refine lv_aload_n hx hb dX5_polynomial_33 rfl (lv_at hl 0 rfl) ?_
        refine lv_iload_n hx hb dX5_polynomial_34 rfl (lv_at hl 3 rfl) ?_
        obtain ⟨u_698, hc_699, h⟩ := bd_inv h
        refine wafter_i (wr := []) (w2 := (w_D G d0 d1 d2 d3 d4 d5 d6 d7 d8 d9 d10 d11 d12 d_n d_a d_b d_c d_k d_x d_y d_d d_r d_w d_e d_1 d_2 d_o d_g d_ra d_rb d_rc d_t)) (va_runV (As := [.int x3]) (rest := [.int x2]) ⟨hx, hb, hml, hown, hts⟩ (kX5_through (l := l) (G := G) d0 d1 d2 d3 d4 d5 d6 d7 d8 d9 d10 d11 d12 d_n d_a d_b d_c d_k d_x d_y d_d d_r d_w d_e d_1 d_2 d_o d_g d_ra d_rb d_rc d_t x3 N u_698 hc_699 _) (cwV 1 hts gX5_polynomial_X5_through rfl rfl rfl (by decide +kernel) ⟨Nat.le_of_ble_eq_true rfl, Nat.le_of_ble_eq_true rfl⟩) (wPreV hP hD hK [0, 1, 2, 3, 4, 5, 6, 7, 8, 9, 10, 11, 12] rfl rfl (ci := 5) (qb := 0) rfl rfl rfl) rfl rfl hl.1 rfl (lv_room (Nat.le_of_ble_eq_true rfl)) dX5_polynomial_35 ⟨Nat.zero_le _, Nat.zero_le _⟩) hP hD hS hA [0, 1, 2, 3, 4, 5, 6, 7, 8, 9, 10, 11, 12] [] [0, 1, 2, 3, 4, 5, 6, 7, 8, 9, 10, 11, 12] rfl rfl rfl (by decide) rfl rfl (fun H locs hP hD hS => ?_)
        obtain ⟨u_700, hc_701, h⟩ := bd_inv h
        refine wafter_i (wr := (w_D G d0 d1 d2 d3 d4 d5 d6 d7 d8 d9 d10 d11 d12 d_n d_a d_b d_c d_k d_x d_y d_d d_r d_w d_e d_1 d_2 d_o d_g d_ra d_rb d_rc d_t)) (w2 := (w_D G d0 d1 d2 d3 d4 d5 d6 d7 d8 d9 d10 d11 d12 d_n d_a d_b d_c d_k d_x d_y d_d d_r d_w d_e d_1 d_2 d_o d_g d_ra d_rb d_rc d_t)) (va_runS (As := [.int u_698]) (rest := [.int x2]) ⟨hx, hb, hml, hown, hts⟩ (kX5_size (l := l) (G := G)   u_698 N u_700 hc_701 _) (va_cwS 1 hts gX5_polynomial_X5_size rfl rfl rfl (by decide +kernel) ⟨Nat.le_of_ble_eq_true rfl, Nat.le_of_ble_eq_true rfl⟩) (wPreS hP hD hK [] rfl rfl) rfl rfl hl.1 rfl (lv_room (Nat.le_of_ble_eq_true rfl)) dX5_polynomial_38 ⟨Nat.zero_le _, Nat.zero_le _⟩) hP hD hS hA [] [0, 1, 2, 3, 4, 5, 6, 7, 8, 9, 10, 11, 12] [0, 1, 2, 3, 4, 5, 6, 7, 8, 9, 10, 11, 12] rfl rfl rfl (by decide) rfl rfl (fun H locs hP hD hS => ?_)
        refine lv_iconst (v := 1) hx hb dX5_polynomial_41 (by decide) ?_
        refine lv_isub hx hb dX5_polynomial_42 ?_
        refine lv_iadd hx hb dX5_polynomial_43 ?_
        refine lv_istore_n (lv' := [(2, .int (x2 + (u_700 - 1))), (0, .ref d0), (1, .int x1), (3, .int x3)]) hx hb dX5_polynomial_44 rfl hl (by decide) rfl (fun ls hl => ?_)
        refine lv_iinc (v := (x3 + 1)) (lv' := [(3, .int (x3 + 1)), (2, .int (x2 + (u_700 - 1))), (0, .ref d0), (1, .int x1)]) hx hb dX5_polynomial_45 hl (k := 3) rfl rfl (by decide) rfl (fun ls hl => ?_)
        refine lv_goto (tgt := 24) hx hb dX5_polynomial_48 (by decide) ?_
        exact ih _ _ _ _ _ hP hD hS (lv_sub hl [2, 3, 1, 0] rfl) h
  rw [fX5_polynomial.eq_1] at h
  refine lv_aload_n hx hb dX5_polynomial_0 rfl (lv_at hl 0 rfl) ?_
  refine lv_iload_n hx hb dX5_polynomial_1 rfl (lv_at hl 1 rfl) ?_
  refine lv_iconst (v := 0) hx hb dX5_polynomial_2 (by decide) ?_
  refine lv_iconst (v := 2) hx hb dX5_polynomial_3 (by decide) ?_
  obtain ⟨u_702, hc_703, h⟩ := bd_inv h
  refine wafter_i (wr := (w_D G d0 d1 d2 d3 d4 d5 d6 d7 d8 d9 d10 d11 d12 d_n d_a d_b d_c d_k d_x d_y d_d d_r d_w d_e d_1 d_2 d_o d_g d_ra d_rb d_rc d_t)) (w2 := (w_D G d0 d1 d2 d3 d4 d5 d6 d7 d8 d9 d10 d11 d12 d_n d_a d_b d_c d_k d_x d_y d_d d_r d_w d_e d_1 d_2 d_o d_g d_ra d_rb d_rc d_t)) (va_runS (As := [.int x1, .int 0, .int 2]) (rest := [.ref d0]) ⟨hx, hb, hml, hown, hts⟩ (kX5_in (l := l) (G := G)   x1 0 2 N u_702 hc_703 _) (va_cwS 3 hts gX5_polynomial_X5_in rfl rfl rfl (by decide +kernel) ⟨Nat.le_of_ble_eq_true rfl, Nat.le_of_ble_eq_true rfl⟩) (wPreS hP hD hK [] rfl rfl) rfl rfl hl.1 rfl (lv_room (Nat.le_of_ble_eq_true rfl)) dX5_polynomial_4 ⟨Nat.zero_le _, Nat.zero_le _⟩) hP hD hS hA [] [0, 1, 2, 3, 4, 5, 6, 7, 8, 9, 10, 11, 12] [0, 1, 2, 3, 4, 5, 6, 7, 8, 9, 10, 11, 12] rfl rfl rfl (by decide) rfl rfl (fun H locs hP hD hS => ?_)
  refine lv_iconst (v := 1) hx hb dX5_polynomial_7 (by decide) ?_
  obtain ⟨u_704, hc_705, h⟩ := bd_inv h
  refine wafter_i (wr := []) (w2 := (w_D G d0 d1 d2 d3 d4 d5 d6 d7 d8 d9 d10 d11 d12 d_n d_a d_b d_c d_k d_x d_y d_d d_r d_w d_e d_1 d_2 d_o d_g d_ra d_rb d_rc u_704.2)) (va_runV (As := [.int u_702, .int 1]) (rest := []) ⟨hx, hb, hml, hown, hts⟩ (kX5_fails (l := l) (G := G) d0 d1 d2 d3 d4 d5 d6 d7 d8 d9 d10 d11 d12 d_n d_a d_b d_c d_k d_x d_y d_d d_r d_w d_e d_1 d_2 d_o d_g d_ra d_rb d_rc d_t u_702 1 N u_704 hc_705 _) (cwV 2 hts gX5_polynomial_X5_fails rfl rfl rfl (by decide +kernel) ⟨Nat.le_of_ble_eq_true rfl, Nat.le_of_ble_eq_true rfl⟩) (wPreV hP hD hK [0, 1, 2, 3, 4, 5, 6, 7, 8, 9, 10, 11, 12] rfl rfl (ci := 5) (qb := 0) rfl rfl rfl) rfl rfl hl.1 rfl (lv_room (Nat.le_of_ble_eq_true rfl)) dX5_polynomial_8 ⟨Nat.zero_le _, Nat.zero_le _⟩) hP hD hS hA [0, 1, 2, 3, 4, 5, 6, 7, 8, 9, 10, 11, 12] [] [0, 1, 2, 3, 4, 5, 6, 7, 8, 9, 10, 11, 12] rfl rfl rfl (by decide) rfl rfl (fun H locs hP hD hS => ?_)
  refine lv_if_eq (tgt := 16) hx hb dX5_polynomial_11 (by decide) (fun c_706 => ?_) (fun c_706 => ?_)
  · have h := ip c_706 h
    refine lv_aload_n hx hb dX5_polynomial_16 rfl (lv_at hl 0 rfl) ?_
    obtain ⟨u_707, hc_708, h⟩ := bd_inv h
    refine wafter_v (wr := []) (w2 := (w_D G d0 d1 d2 d3 d4 d5 d6 d7 d8 d9 d10 d11 d12 d_n d_a d_b d_c u_707.1 u_707.2.1 u_707.2.2.1 u_707.2.2.2 d_r d_w d_e d_1 d_2 d_o d_g d_ra d_rb d_rc u_704.2)) (va_runV (As := []) (rest := []) ⟨hx, hb, hml, hown, hts⟩ (kX5_findMeets (l := l) (G := G) d0 d1 d2 d3 d4 d5 d6 d7 d8 d9 d10 d11 d12 d_n d_a d_b d_c d_k d_x d_y d_d d_r d_w d_e d_1 d_2 d_o d_g d_ra d_rb d_rc u_704.2  N u_707 hc_708 _) (cwV 0 hts gX5_polynomial_X5_findMeets rfl rfl rfl (by decide +kernel) ⟨Nat.le_of_ble_eq_true rfl, Nat.le_of_ble_eq_true rfl⟩) (wPreV hP hD hK [0, 1, 2, 3, 4, 5, 6, 7, 8, 9, 10, 11, 12] rfl rfl (ci := 5) (qb := 0) rfl rfl rfl) rfl rfl hl.1 rfl (lv_room (Nat.le_of_ble_eq_true rfl)) dX5_polynomial_17 ⟨Nat.zero_le _, Nat.zero_le _⟩) hP hD hS hA [0, 1, 2, 3, 4, 5, 6, 7, 8, 9, 10, 11, 12] [] [0, 1, 2, 3, 4, 5, 6, 7, 8, 9, 10, 11, 12] rfl rfl rfl (by decide) rfl rfl (fun H locs hP hD hS => ?_)
    refine lv_iconst (v := 0) hx hb dX5_polynomial_20 (by decide) ?_
    refine lv_istore_n (lv' := [(2, .int 0), (0, .ref d0), (1, .int x1)]) hx hb dX5_polynomial_21 rfl hl (by decide) rfl (fun ls hl => ?_)
    refine lv_iconst (v := 0) hx hb dX5_polynomial_22 (by decide) ?_
    refine lv_istore_n (lv' := [(3, .int 0), (2, .int 0), (0, .ref d0), (1, .int x1)]) hx hb dX5_polynomial_23 rfl hl (by decide) rfl (fun ls hl => ?_)
    refine w_24 _ _ _ _ _ _ _ () (fun x2_709 H locs ls hP hD hS hl h => ?_) N _ _  _ _ _ hP hD hS (lv_sub hl [2, 3, 1, 0] rfl) h
    refine lv_iload_n hx hb dX5_polynomial_51 rfl (lv_at hl 1 rfl) ?_
    refine lv_iconst (v := 2) hx hb dX5_polynomial_52 (by decide) ?_
    refine lv_icmp_ne (tgt := 60) hx hb dX5_polynomial_53 (by decide) (fun c_710 => ?_) (fun c_710 => ?_)
    · have h := iq c_710 h
      refine lv_iload_n hx hb dX5_polynomial_60 rfl (lv_at hl 1 rfl) ?_
      refine lv_iconst (v := 1) hx hb dX5_polynomial_61 (by decide) ?_
      refine lv_icmp_ne (tgt := 73) hx hb dX5_polynomial_62 (by decide) (fun c_711 => ?_) (fun c_711 => ?_)
      · have h := iq c_711 h
        refine lv_iload_n hx hb dX5_polynomial_73 rfl (lv_at hl 2 rfl) ?_
        obtain rfl := Option.some.inj h
        exact wri hx hb hr hlocks hP hD hS (Nat.le_of_ble_eq_true rfl) (Nat.le_of_ble_eq_true rfl) rfl dX5_polynomial_74
      · have h := ip c_711 h
        refine lv_aload_n hx hb dX5_polynomial_65 rfl (lv_at hl 0 rfl) ?_
        refine va_get (D := G.1) (ci := 5) (v := .int d_n) (C := RX5) (T := TX5) (N := 19) hx hb hts hinX5 hown hK.1 hP 0 rfl rfl 0 (by decide) lk51 (fun _ h9 => h9) rfl dX5_polynomial_66 ?_
        refine lv_ineg hx hb dX5_polynomial_69 ?_
        refine lv_goto (tgt := 74) hx hb dX5_polynomial_70 (by decide) ?_
        obtain rfl := Option.some.inj h
        exact wri hx hb hr hlocks hP hD hS (Nat.le_of_ble_eq_true rfl) (Nat.le_of_ble_eq_true rfl) rfl dX5_polynomial_74
    · have h := ip c_710 h
      refine lv_iconst (v := 1) hx hb dX5_polynomial_56 (by decide) ?_
      refine lv_goto (tgt := 74) hx hb dX5_polynomial_57 (by decide) ?_
      obtain rfl := Option.some.inj h
      exact wri hx hb hr hlocks hP hD hS (Nat.le_of_ble_eq_true rfl) (Nat.le_of_ble_eq_true rfl) rfl dX5_polynomial_74
  · have h := iq c_706 h
    refine lv_iconst (v := 0) hx hb dX5_polynomial_14 (by decide) ?_
    obtain rfl := Option.some.inj h
    exact wri hx hb hr hlocks hP hD hS (Nat.le_of_ble_eq_true rfl) (Nat.le_of_ble_eq_true rfl) rfl dX5_polynomial_15
def fX5_polynomialAnew_b42 (N : Nat) (d_n : Int32) (d_a : Nat → Int32) (d_b : Nat → Int32) (d_c : Nat → Int32) (d_k : Int32) (d_x : Nat → Int32) (d_y : Nat → Int32) (d_d : Nat → Int32) (x4 : Int32) (k_96 : Int32 → Option (Int32 × Int32 × (Nat → Int32) × (Nat → Int32) × (Nat → Int32) × Int32)) : Nat → Int32 → Int32 → Option (Int32 × Int32 × (Nat → Int32) × (Nat → Int32) × (Nat → Int32) × Int32)
  | 0, _, _ => none
  | n + 1, x3, x5 => if d_k ≤ x5 then k_96 x3 else bd (fX5_through N d_n d_a d_b d_c d_x d_y d_d x5) (fun u_713 => if ((u_713 >>> (x4 &&& 31)) &&& 1) = 1 then if (u_713 &&& ((1 <<< (x4 &&& 31)) - 1)) = 0 then fX5_polynomialAnew_b42 N d_n d_a d_b d_c d_k d_x d_y d_d x4 k_96 n (x3 + 0) (x5 + 1) else fX5_polynomialAnew_b42 N d_n d_a d_b d_c d_k d_x d_y d_d x4 k_96 n (x3 + 1) (x5 + 1) else fX5_polynomialAnew_b42 N d_n d_a d_b d_c d_k d_x d_y d_d x4 k_96 n (x3 + 0) (x5 + 1))
def fX5_polynomialAnew_b27 (N : Nat) (d_n : Int32) (d_a : Nat → Int32) (d_b : Nat → Int32) (d_c : Nat → Int32) (d_k : Int32) (d_x : Nat → Int32) (d_y : Nat → Int32) (d_d : Nat → Int32) (k_102 : Int32 → Int32 → Option (Int32 × Int32 × (Nat → Int32) × (Nat → Int32) × (Nat → Int32) × Int32)) : Nat → Int32 → Int32 → Int32 → Option (Int32 × Int32 × (Nat → Int32) × (Nat → Int32) × (Nat → Int32) × Int32)
  | 0, _, _, _ => none
  | n + 1, x2, x3, x4 => if d_n ≤ x4 then k_102 x2 x3 else fX5_polynomialAnew_b42 N d_n d_a d_b d_c d_k d_x d_y d_d x4 (fun (x3_718 : Int32) => fX5_polynomialAnew_b27 N d_n d_a d_b d_c d_k d_x d_y d_d k_102 n (x2 + (-1)) x3_718 (x4 + 1)) N x3 0
def fX5_polynomialAnew (N : Nat) (d_n : Int32) (d_a : Nat → Int32) (d_b : Nat → Int32) (d_c : Nat → Int32) (d_k : Int32) (d_x : Nat → Int32) (d_y : Nat → Int32) (d_d : Nat → Int32) (d_t : Int32) (x1 : Int32) : Option (Int32 × Int32 × (Nat → Int32) × (Nat → Int32) × (Nat → Int32) × Int32) := bd (fX5_in N x1 0 2) (fun u_719 => bd (fX5_fails N d_t u_719 1) (fun u_721 => if u_721.1 = 0 then bd (fX5_findMeets N d_n d_a d_b d_c d_k d_x d_y d_d) (fun u_724 => fX5_polynomialAnew_b27 N d_n d_a d_b d_c u_724.1 u_724.2.1 u_724.2.2.1 u_724.2.2.2 (fun (x2_726 : Int32) (x3_727 : Int32) => if x1 = 2 then some (1, u_724.1, u_724.2.1, u_724.2.2.1, u_724.2.2.2, u_721.2) else if x1 = 1 then some (x2_726, u_724.1, u_724.2.1, u_724.2.2.1, u_724.2.2.2, u_721.2) else some (x3_727, u_724.1, u_724.2.1, u_724.2.2.1, u_724.2.2.2, u_721.2)) N 0 0 0) else some (0, d_k, d_x, d_y, d_d, u_721.2)))
set_option maxHeartbeats 4000000 in
set_option maxRecDepth 100000 in
theorem kX5_polynomialAnew {l : Launch} {G : wG} (d0 d1 d2 d3 d4 d5 d6 d7 d8 d9 d10 d11 d12 : Nat) (d_n : Int32) (d_a : Nat → Int32) (d_b : Nat → Int32) (d_c : Nat → Int32) (d_k : Int32) (d_x : Nat → Int32) (d_y : Nat → Int32) (d_d : Nat → Int32) (d_r : Nat → Int32) (d_w : Nat → Int32) (d_e : Int32) (d_1 : Nat → Int32) (d_2 : Nat → Int32) (d_o : Nat → Int32) (d_g : Nat → Int32) (d_ra : Int32) (d_rb : Int32) (d_rc : Int32) (d_t : Int32) (x1 : Int32) (N : Nat) (v : Int32 × Int32 × (Nat → Int32) × (Nat → Int32) × (Nat → Int32) × Int32) (h : fX5_polynomialAnew N d_n d_a d_b d_c d_k d_x d_y d_d d_t x1 = some v) : wCi l G yX5_polynomialAnew wsX5_polynomialAnew ({ frames := 3, cells := 0, slots := 0, locals := 74 } : Room) [.ref d0, .int x1] (w_D G d0 d1 d2 d3 d4 d5 d6 d7 d8 d9 d10 d11 d12 d_n d_a d_b d_c d_k d_x d_y d_d d_r d_w d_e d_1 d_2 d_o d_g d_ra d_rb d_rc d_t) (w_D G d0 d1 d2 d3 d4 d5 d6 d7 d8 d9 d10 d11 d12 d_n d_a d_b d_c v.2.1 v.2.2.1 v.2.2.2.1 v.2.2.2.2.1 d_r d_w d_e d_1 d_2 d_o d_g d_ra d_rb d_rc v.2.2.2.2.2) 0 0 v.1 := by
  refine wCi.mk (cc := cX5_polynomialAnew) (maxL := 7) (ty := .int) (by decide) rfl (Nat.le_of_ble_eq_true rfl) ?_
  intro p e s m below meth c A ls hx hb hml hr hlocks hts hown hK hA hP hD hl
  have hx : p.tables.exec = Jvm.exec := hx
  have hown : s.vm.findClass RX5 = some m.cls := hown
  have hinX5 : ∀ w ∈ wsX50, w ∈ wsX5_polynomialAnew := by decide +kernel
  have lk51 := hts (.fieldLink RX5 51 "ChamberwrightModel" "lines" "I") (by decide +kernel)
  have lk78 := hts (.fieldLink RX5 78 "ChamberwrightModel" "meets" "I") (by decide +kernel)
  have hS : va_S A s.heap s.heap [] := va_S.rf
  have hP : va_P G.1 vwCl (w_D G d0 d1 d2 d3 d4 d5 d6 d7 d8 d9 d10 d11 d12 d_n d_a d_b d_c d_k d_x d_y d_d d_r d_w d_e d_1 d_2 d_o d_g d_ra d_rb d_rc d_t) s.heap := hP
  have hD : va_D A (w_D G d0 d1 d2 d3 d4 d5 d6 d7 d8 d9 d10 d11 d12 d_n d_a d_b d_c d_k d_x d_y d_d d_r d_w d_e d_1 d_2 d_o d_g d_ra d_rb d_rc d_t) := hD
  have hl : lv_has ls 7 [(0, .ref d0), (1, .int x1)] := hl
  obtain ⟨args, hargs⟩ : ∃ z : Array Value, z = ([.ref d0, .int x1] : List Value).toArray := ⟨_, rfl⟩
  rw [← hargs]
  rw [← hargs] at hts
  have w_42 : ∀ (k_96 : Int32 → Option (Int32 × Int32 × (Nat → Int32) × (Nat → Int32) × (Nat → Int32) × Int32)) (x1 : Int32) (x2 : Int32) (x4 : Int32) (d_k : Int32) (d_x : Nat → Int32) (d_y : Nat → Int32) (d_d : Nat → Int32) (d_t : Int32) (_z : Unit), (∀ (y3 : Int32) (H : Heap) (locs : List Loc) (ls : Array Slot), va_P G.1 vwCl (w_D G d0 d1 d2 d3 d4 d5 d6 d7 d8 d9 d10 d11 d12 d_n d_a d_b d_c d_k d_x d_y d_d d_r d_w d_e d_1 d_2 d_o d_g d_ra d_rb d_rc d_t) H → va_D A (w_D G d0 d1 d2 d3 d4 d5 d6 d7 d8 d9 d10 d11 d12 d_n d_a d_b d_c d_k d_x d_y d_d d_r d_w d_e d_1 d_2 d_o d_g d_ra d_rb d_rc d_t) → va_S A s.heap H locs → lv_has ls 7 [(0, .ref d0), (1, .int x1), (2, .int x2), (3, .int y3), (4, .int x4)] → k_96 y3 = some v → W p l e ({ frames := 3, cells := 0, slots := 0, locals := 74 } : Room) s m args below meth c H locs 0 0 (wQi G A below args s (w_D G d0 d1 d2 d3 d4 d5 d6 d7 d8 d9 d10 d11 d12 d_n d_a d_b d_c v.2.1 v.2.2.1 v.2.2.2.1 v.2.2.2.2.1 d_r d_w d_e d_1 d_2 d_o d_g d_ra d_rb d_rc v.2.2.2.2.2) 0 0 v.1) (F0 m 96 ls [])) → ∀ (n : Nat) (x3 : Int32) (x5 : Int32)  (H : Heap) (locs : List Loc) (ls : Array Slot), va_P G.1 vwCl (w_D G d0 d1 d2 d3 d4 d5 d6 d7 d8 d9 d10 d11 d12 d_n d_a d_b d_c d_k d_x d_y d_d d_r d_w d_e d_1 d_2 d_o d_g d_ra d_rb d_rc d_t) H → va_D A (w_D G d0 d1 d2 d3 d4 d5 d6 d7 d8 d9 d10 d11 d12 d_n d_a d_b d_c d_k d_x d_y d_d d_r d_w d_e d_1 d_2 d_o d_g d_ra d_rb d_rc d_t) → va_S A s.heap H locs → lv_has ls 7 [(0, .ref d0), (1, .int x1), (2, .int x2), (3, .int x3), (4, .int x4), (5, .int x5)] → fX5_polynomialAnew_b42 N d_n d_a d_b d_c d_k d_x d_y d_d x4 k_96 n x3 x5 = some v → W p l e ({ frames := 3, cells := 0, slots := 0, locals := 74 } : Room) s m args below meth c H locs 0 0 (wQi G A below args s (w_D G d0 d1 d2 d3 d4 d5 d6 d7 d8 d9 d10 d11 d12 d_n d_a d_b d_c v.2.1 v.2.2.1 v.2.2.2.1 v.2.2.2.2.1 d_r d_w d_e d_1 d_2 d_o d_g d_ra d_rb d_rc v.2.2.2.2.2) 0 0 v.1) (F0 m 42 ls []) := by
    intro k_96 x1 x2 x4 d_k d_x d_y d_d d_t _z hk_96 n
    induction n with
    | zero =>
      intro x3 x5 H locs ls hP hD hS hl h
      rw [fX5_polynomialAnew_b42.eq_1] at h
      cases h
    | succ n ih =>
      intro x3 x5 H locs ls hP hD hS hl h
      rw [fX5_polynomialAnew_b42.eq_2] at h
      refine lv_iload hx hb dX5_polynomialAnew_42 (lv_at hl 5 rfl) ?_
      refine lv_aload_n hx hb dX5_polynomialAnew_44 rfl (lv_at hl 0 rfl) ?_
      refine va_get (D := G.1) (ci := 5) (v := .int d_k) (C := RX5) (T := TX5) (N := 19) hx hb hts hinX5 hown hK.1 hP 0 rfl rfl 4 (by decide) lk78 (fun _ h9 => h9) rfl dX5_polynomialAnew_45 ?_
      refine lv_icmp_ge (tgt := 96) hx hb dX5_polynomialAnew_48 (by decide) (fun c_712 => ?_) (fun c_712 => ?_)
      · have h := ip c_712 h
        exact hk_96 _ _ _ _ hP hD hS (lv_sub hl [0, 1, 2, 3, 4] rfl) h
      · have h := iq c_712 h
        refine lv_aload_n hx hb dX5_polynomialAnew_51 rfl (lv_at hl 0 rfl) ?_
        refine lv_iload hx hb dX5_polynomialAnew_52 (lv_at hl 5 rfl) ?_
        obtain ⟨u_713, hc_714, h⟩ := bd_inv h
        refine wafter_i (wr := []) (w2 := (w_D G d0 d1 d2 d3 d4 d5 d6 d7 d8 d9 d10 d11 d12 d_n d_a d_b d_c d_k d_x d_y d_d d_r d_w d_e d_1 d_2 d_o d_g d_ra d_rb d_rc d_t)) (va_runV (As := [.int x5]) (rest := []) ⟨hx, hb, hml, hown, hts⟩ (kX5_through (l := l) (G := G) d0 d1 d2 d3 d4 d5 d6 d7 d8 d9 d10 d11 d12 d_n d_a d_b d_c d_k d_x d_y d_d d_r d_w d_e d_1 d_2 d_o d_g d_ra d_rb d_rc d_t x5 N u_713 hc_714 _) (cwV 1 hts gX5_polynomialAnew_X5_through rfl rfl rfl (by decide +kernel) ⟨Nat.le_of_ble_eq_true rfl, Nat.le_of_ble_eq_true rfl⟩) (wPreV hP hD hK [0, 1, 2, 3, 4, 5, 6, 7, 8, 9, 10, 11, 12] rfl rfl (ci := 5) (qb := 0) rfl rfl rfl) rfl rfl hl.1 rfl (lv_room (Nat.le_of_ble_eq_true rfl)) dX5_polynomialAnew_54 ⟨Nat.zero_le _, Nat.zero_le _⟩) hP hD hS hA [0, 1, 2, 3, 4, 5, 6, 7, 8, 9, 10, 11, 12] [] [0, 1, 2, 3, 4, 5, 6, 7, 8, 9, 10, 11, 12] rfl rfl rfl (by decide) rfl rfl (fun H locs hP hD hS => ?_)
        refine lv_istore (lv' := [(6, .int u_713), (0, .ref d0), (1, .int x1), (2, .int x2), (3, .int x3), (4, .int x4), (5, .int x5)]) hx hb dX5_polynomialAnew_57 hl (by decide) rfl (fun ls hl => ?_)
        refine lv_iload_n hx hb dX5_polynomialAnew_59 rfl (lv_at hl 4 rfl) ?_
        refine lv_iload hx hb dX5_polynomialAnew_60 (lv_at hl 0 rfl) ?_
        refine lv_iload hx hb dX5_polynomialAnew_62 (lv_at hl 5 rfl) ?_
        refine lv_ishr hx hb dX5_polynomialAnew_64 ?_
        refine lv_iconst (v := 1) hx hb dX5_polynomialAnew_65 (by decide) ?_
        refine lv_iand hx hb dX5_polynomialAnew_66 ?_
        refine lv_iconst (v := 1) hx hb dX5_polynomialAnew_67 (by decide) ?_
        refine lv_icmp_ne (tgt := 87) hx hb dX5_polynomialAnew_68 (by decide) (fun c_715 => ?_) (fun c_715 => ?_)
        · have h := iq c_715 h
          refine lv_iconst (v := 0) hx hb dX5_polynomialAnew_87 (by decide) ?_
          refine lv_iadd hx hb dX5_polynomialAnew_88 ?_
          refine lv_istore_n (lv' := [(3, .int (x3 + 0)), (6, .int u_713), (0, .ref d0), (1, .int x1), (2, .int x2), (4, .int x4), (5, .int x5)]) hx hb dX5_polynomialAnew_89 rfl hl (by decide) rfl (fun ls hl => ?_)
          refine lv_iinc (v := (x5 + 1)) (lv' := [(5, .int (x5 + 1)), (3, .int (x3 + 0)), (6, .int u_713), (0, .ref d0), (1, .int x1), (2, .int x2), (4, .int x4)]) hx hb dX5_polynomialAnew_90 hl (k := 6) rfl rfl (by decide) rfl (fun ls hl => ?_)
          refine lv_goto (tgt := 42) hx hb dX5_polynomialAnew_93 (by decide) ?_
          exact ih _ _ _ _ _ hP hD hS (lv_sub hl [3, 4, 5, 1, 6, 0] rfl) h
        · have h := ip c_715 h
          refine lv_iload hx hb dX5_polynomialAnew_71 (lv_at hl 0 rfl) ?_
          refine lv_iconst (v := 1) hx hb dX5_polynomialAnew_73 (by decide) ?_
          refine lv_iload hx hb dX5_polynomialAnew_74 (lv_at hl 5 rfl) ?_
          refine lv_ishl hx hb dX5_polynomialAnew_76 ?_
          refine lv_iconst (v := 1) hx hb dX5_polynomialAnew_77 (by decide) ?_
          refine lv_isub hx hb dX5_polynomialAnew_78 ?_
          refine lv_iand hx hb dX5_polynomialAnew_79 ?_
          refine lv_if_eq (tgt := 87) hx hb dX5_polynomialAnew_80 (by decide) (fun c_716 => ?_) (fun c_716 => ?_)
          · have h := ip c_716 h
            refine lv_iconst (v := 0) hx hb dX5_polynomialAnew_87 (by decide) ?_
            refine lv_iadd hx hb dX5_polynomialAnew_88 ?_
            refine lv_istore_n (lv' := [(3, .int (x3 + 0)), (6, .int u_713), (0, .ref d0), (1, .int x1), (2, .int x2), (4, .int x4), (5, .int x5)]) hx hb dX5_polynomialAnew_89 rfl hl (by decide) rfl (fun ls hl => ?_)
            refine lv_iinc (v := (x5 + 1)) (lv' := [(5, .int (x5 + 1)), (3, .int (x3 + 0)), (6, .int u_713), (0, .ref d0), (1, .int x1), (2, .int x2), (4, .int x4)]) hx hb dX5_polynomialAnew_90 hl (k := 6) rfl rfl (by decide) rfl (fun ls hl => ?_)
            refine lv_goto (tgt := 42) hx hb dX5_polynomialAnew_93 (by decide) ?_
            exact ih _ _ _ _ _ hP hD hS (lv_sub hl [3, 4, 5, 1, 6, 0] rfl) h
          · have h := iq c_716 h
            refine lv_iconst (v := 1) hx hb dX5_polynomialAnew_83 (by decide) ?_
            refine lv_goto (tgt := 88) hx hb dX5_polynomialAnew_84 (by decide) ?_
            refine lv_iadd hx hb dX5_polynomialAnew_88 ?_
            refine lv_istore_n (lv' := [(3, .int (x3 + 1)), (6, .int u_713), (0, .ref d0), (1, .int x1), (2, .int x2), (4, .int x4), (5, .int x5)]) hx hb dX5_polynomialAnew_89 rfl hl (by decide) rfl (fun ls hl => ?_)
            refine lv_iinc (v := (x5 + 1)) (lv' := [(5, .int (x5 + 1)), (3, .int (x3 + 1)), (6, .int u_713), (0, .ref d0), (1, .int x1), (2, .int x2), (4, .int x4)]) hx hb dX5_polynomialAnew_90 hl (k := 6) rfl rfl (by decide) rfl (fun ls hl => ?_)
            refine lv_goto (tgt := 42) hx hb dX5_polynomialAnew_93 (by decide) ?_
            exact ih _ _ _ _ _ hP hD hS (lv_sub hl [3, 4, 5, 1, 6, 0] rfl) h
  have w_27 : ∀ (k_102 : Int32 → Int32 → Option (Int32 × Int32 × (Nat → Int32) × (Nat → Int32) × (Nat → Int32) × Int32)) (x1 : Int32) (d_k : Int32) (d_x : Nat → Int32) (d_y : Nat → Int32) (d_d : Nat → Int32) (d_t : Int32) (_z : Unit), (∀ (y2 : Int32) (y3 : Int32) (H : Heap) (locs : List Loc) (ls : Array Slot), va_P G.1 vwCl (w_D G d0 d1 d2 d3 d4 d5 d6 d7 d8 d9 d10 d11 d12 d_n d_a d_b d_c d_k d_x d_y d_d d_r d_w d_e d_1 d_2 d_o d_g d_ra d_rb d_rc d_t) H → va_D A (w_D G d0 d1 d2 d3 d4 d5 d6 d7 d8 d9 d10 d11 d12 d_n d_a d_b d_c d_k d_x d_y d_d d_r d_w d_e d_1 d_2 d_o d_g d_ra d_rb d_rc d_t) → va_S A s.heap H locs → lv_has ls 7 [(1, .int x1), (2, .int y2), (3, .int y3)] → k_102 y2 y3 = some v → W p l e ({ frames := 3, cells := 0, slots := 0, locals := 74 } : Room) s m args below meth c H locs 0 0 (wQi G A below args s (w_D G d0 d1 d2 d3 d4 d5 d6 d7 d8 d9 d10 d11 d12 d_n d_a d_b d_c v.2.1 v.2.2.1 v.2.2.2.1 v.2.2.2.2.1 d_r d_w d_e d_1 d_2 d_o d_g d_ra d_rb d_rc v.2.2.2.2.2) 0 0 v.1) (F0 m 102 ls [])) → ∀ (n : Nat) (x2 : Int32) (x3 : Int32) (x4 : Int32)  (H : Heap) (locs : List Loc) (ls : Array Slot), va_P G.1 vwCl (w_D G d0 d1 d2 d3 d4 d5 d6 d7 d8 d9 d10 d11 d12 d_n d_a d_b d_c d_k d_x d_y d_d d_r d_w d_e d_1 d_2 d_o d_g d_ra d_rb d_rc d_t) H → va_D A (w_D G d0 d1 d2 d3 d4 d5 d6 d7 d8 d9 d10 d11 d12 d_n d_a d_b d_c d_k d_x d_y d_d d_r d_w d_e d_1 d_2 d_o d_g d_ra d_rb d_rc d_t) → va_S A s.heap H locs → lv_has ls 7 [(0, .ref d0), (1, .int x1), (2, .int x2), (3, .int x3), (4, .int x4)] → fX5_polynomialAnew_b27 N d_n d_a d_b d_c d_k d_x d_y d_d k_102 n x2 x3 x4 = some v → W p l e ({ frames := 3, cells := 0, slots := 0, locals := 74 } : Room) s m args below meth c H locs 0 0 (wQi G A below args s (w_D G d0 d1 d2 d3 d4 d5 d6 d7 d8 d9 d10 d11 d12 d_n d_a d_b d_c v.2.1 v.2.2.1 v.2.2.2.1 v.2.2.2.2.1 d_r d_w d_e d_1 d_2 d_o d_g d_ra d_rb d_rc v.2.2.2.2.2) 0 0 v.1) (F0 m 27 ls []) := by
    intro k_102 x1 d_k d_x d_y d_d d_t _z hk_102 n
    induction n with
    | zero =>
      intro x2 x3 x4 H locs ls hP hD hS hl h
      rw [fX5_polynomialAnew_b27.eq_1] at h
      cases h
    | succ n ih =>
      intro x2 x3 x4 H locs ls hP hD hS hl h
      rw [fX5_polynomialAnew_b27.eq_2] at h
      refine lv_iload hx hb dX5_polynomialAnew_27 (lv_at hl 4 rfl) ?_
      refine lv_aload_n hx hb dX5_polynomialAnew_29 rfl (lv_at hl 0 rfl) ?_
      refine va_get (D := G.1) (ci := 5) (v := .int d_n) (C := RX5) (T := TX5) (N := 19) hx hb hts hinX5 hown hK.1 hP 0 rfl rfl 0 (by decide) lk51 (fun _ h9 => h9) rfl dX5_polynomialAnew_30 ?_
      refine lv_icmp_ge (tgt := 102) hx hb dX5_polynomialAnew_33 (by decide) (fun c_717 => ?_) (fun c_717 => ?_)
      · have h := ip c_717 h
        exact hk_102 _ _ _ _ _ hP hD hS (lv_sub hl [1, 2, 3] rfl) h
      · have h := iq c_717 h
        refine lv_iinc (v := (x2 + (-1))) (lv' := [(2, .int (x2 + (-1))), (0, .ref d0), (1, .int x1), (3, .int x3), (4, .int x4)]) hx hb dX5_polynomialAnew_36 hl (k := 2) rfl rfl (by decide) rfl (fun ls hl => ?_)
        refine lv_iconst (v := 0) hx hb dX5_polynomialAnew_39 (by decide) ?_
        refine lv_istore (lv' := [(5, .int 0), (2, .int (x2 + (-1))), (0, .ref d0), (1, .int x1), (3, .int x3), (4, .int x4)]) hx hb dX5_polynomialAnew_40 hl (by decide) rfl (fun ls hl => ?_)
        refine w_42 _ _ _ _ _ _ _ _ _ () (fun x3_718 H locs ls hP hD hS hl h => ?_) N _ _  _ _ _ hP hD hS (lv_sub hl [2, 3, 1, 4, 5, 0] rfl) h
        refine lv_iinc (v := (x4 + 1)) (lv' := [(4, .int (x4 + 1)), (0, .ref d0), (1, .int x1), (2, .int (x2 + (-1))), (3, .int x3_718)]) hx hb dX5_polynomialAnew_96 hl (k := 4) rfl rfl (by decide) rfl (fun ls hl => ?_)
        refine lv_goto (tgt := 27) hx hb dX5_polynomialAnew_99 (by decide) ?_
        exact ih _ _ _ _ _ _ hP hD hS (lv_sub hl [1, 2, 3, 4, 0] rfl) h
  rw [fX5_polynomialAnew.eq_1] at h
  refine lv_aload_n hx hb dX5_polynomialAnew_0 rfl (lv_at hl 0 rfl) ?_
  refine lv_iload_n hx hb dX5_polynomialAnew_1 rfl (lv_at hl 1 rfl) ?_
  refine lv_iconst (v := 0) hx hb dX5_polynomialAnew_2 (by decide) ?_
  refine lv_iconst (v := 2) hx hb dX5_polynomialAnew_3 (by decide) ?_
  obtain ⟨u_719, hc_720, h⟩ := bd_inv h
  refine wafter_i (wr := (w_D G d0 d1 d2 d3 d4 d5 d6 d7 d8 d9 d10 d11 d12 d_n d_a d_b d_c d_k d_x d_y d_d d_r d_w d_e d_1 d_2 d_o d_g d_ra d_rb d_rc d_t)) (w2 := (w_D G d0 d1 d2 d3 d4 d5 d6 d7 d8 d9 d10 d11 d12 d_n d_a d_b d_c d_k d_x d_y d_d d_r d_w d_e d_1 d_2 d_o d_g d_ra d_rb d_rc d_t)) (va_runS (As := [.int x1, .int 0, .int 2]) (rest := [.ref d0]) ⟨hx, hb, hml, hown, hts⟩ (kX5_in (l := l) (G := G)   x1 0 2 N u_719 hc_720 _) (va_cwS 3 hts gX5_polynomialAnew_X5_in rfl rfl rfl (by decide +kernel) ⟨Nat.le_of_ble_eq_true rfl, Nat.le_of_ble_eq_true rfl⟩) (wPreS hP hD hK [] rfl rfl) rfl rfl hl.1 rfl (lv_room (Nat.le_of_ble_eq_true rfl)) dX5_polynomialAnew_4 ⟨Nat.zero_le _, Nat.zero_le _⟩) hP hD hS hA [] [0, 1, 2, 3, 4, 5, 6, 7, 8, 9, 10, 11, 12] [0, 1, 2, 3, 4, 5, 6, 7, 8, 9, 10, 11, 12] rfl rfl rfl (by decide) rfl rfl (fun H locs hP hD hS => ?_)
  refine lv_iconst (v := 1) hx hb dX5_polynomialAnew_7 (by decide) ?_
  obtain ⟨u_721, hc_722, h⟩ := bd_inv h
  refine wafter_i (wr := []) (w2 := (w_D G d0 d1 d2 d3 d4 d5 d6 d7 d8 d9 d10 d11 d12 d_n d_a d_b d_c d_k d_x d_y d_d d_r d_w d_e d_1 d_2 d_o d_g d_ra d_rb d_rc u_721.2)) (va_runV (As := [.int u_719, .int 1]) (rest := []) ⟨hx, hb, hml, hown, hts⟩ (kX5_fails (l := l) (G := G) d0 d1 d2 d3 d4 d5 d6 d7 d8 d9 d10 d11 d12 d_n d_a d_b d_c d_k d_x d_y d_d d_r d_w d_e d_1 d_2 d_o d_g d_ra d_rb d_rc d_t u_719 1 N u_721 hc_722 _) (cwV 2 hts gX5_polynomialAnew_X5_fails rfl rfl rfl (by decide +kernel) ⟨Nat.le_of_ble_eq_true rfl, Nat.le_of_ble_eq_true rfl⟩) (wPreV hP hD hK [0, 1, 2, 3, 4, 5, 6, 7, 8, 9, 10, 11, 12] rfl rfl (ci := 5) (qb := 0) rfl rfl rfl) rfl rfl hl.1 rfl (lv_room (Nat.le_of_ble_eq_true rfl)) dX5_polynomialAnew_8 ⟨Nat.zero_le _, Nat.zero_le _⟩) hP hD hS hA [0, 1, 2, 3, 4, 5, 6, 7, 8, 9, 10, 11, 12] [] [0, 1, 2, 3, 4, 5, 6, 7, 8, 9, 10, 11, 12] rfl rfl rfl (by decide) rfl rfl (fun H locs hP hD hS => ?_)
  refine lv_if_eq (tgt := 16) hx hb dX5_polynomialAnew_11 (by decide) (fun c_723 => ?_) (fun c_723 => ?_)
  · have h := ip c_723 h
    refine lv_aload_n hx hb dX5_polynomialAnew_16 rfl (lv_at hl 0 rfl) ?_
    obtain ⟨u_724, hc_725, h⟩ := bd_inv h
    refine wafter_v (wr := []) (w2 := (w_D G d0 d1 d2 d3 d4 d5 d6 d7 d8 d9 d10 d11 d12 d_n d_a d_b d_c u_724.1 u_724.2.1 u_724.2.2.1 u_724.2.2.2 d_r d_w d_e d_1 d_2 d_o d_g d_ra d_rb d_rc u_721.2)) (va_runV (As := []) (rest := []) ⟨hx, hb, hml, hown, hts⟩ (kX5_findMeets (l := l) (G := G) d0 d1 d2 d3 d4 d5 d6 d7 d8 d9 d10 d11 d12 d_n d_a d_b d_c d_k d_x d_y d_d d_r d_w d_e d_1 d_2 d_o d_g d_ra d_rb d_rc u_721.2  N u_724 hc_725 _) (cwV 0 hts gX5_polynomialAnew_X5_findMeets rfl rfl rfl (by decide +kernel) ⟨Nat.le_of_ble_eq_true rfl, Nat.le_of_ble_eq_true rfl⟩) (wPreV hP hD hK [0, 1, 2, 3, 4, 5, 6, 7, 8, 9, 10, 11, 12] rfl rfl (ci := 5) (qb := 0) rfl rfl rfl) rfl rfl hl.1 rfl (lv_room (Nat.le_of_ble_eq_true rfl)) dX5_polynomialAnew_17 ⟨Nat.zero_le _, Nat.zero_le _⟩) hP hD hS hA [0, 1, 2, 3, 4, 5, 6, 7, 8, 9, 10, 11, 12] [] [0, 1, 2, 3, 4, 5, 6, 7, 8, 9, 10, 11, 12] rfl rfl rfl (by decide) rfl rfl (fun H locs hP hD hS => ?_)
    refine lv_iconst (v := 0) hx hb dX5_polynomialAnew_20 (by decide) ?_
    refine lv_istore_n (lv' := [(2, .int 0), (0, .ref d0), (1, .int x1)]) hx hb dX5_polynomialAnew_21 rfl hl (by decide) rfl (fun ls hl => ?_)
    refine lv_iconst (v := 0) hx hb dX5_polynomialAnew_22 (by decide) ?_
    refine lv_istore_n (lv' := [(3, .int 0), (2, .int 0), (0, .ref d0), (1, .int x1)]) hx hb dX5_polynomialAnew_23 rfl hl (by decide) rfl (fun ls hl => ?_)
    refine lv_iconst (v := 0) hx hb dX5_polynomialAnew_24 (by decide) ?_
    refine lv_istore (lv' := [(4, .int 0), (3, .int 0), (2, .int 0), (0, .ref d0), (1, .int x1)]) hx hb dX5_polynomialAnew_25 hl (by decide) rfl (fun ls hl => ?_)
    refine w_27 _ _ _ _ _ _ _ () (fun x2_726 x3_727 H locs ls hP hD hS hl h => ?_) N _ _ _  _ _ _ hP hD hS (lv_sub hl [3, 4, 2, 1, 0] rfl) h
    refine lv_iload_n hx hb dX5_polynomialAnew_102 rfl (lv_at hl 0 rfl) ?_
    refine lv_iconst (v := 2) hx hb dX5_polynomialAnew_103 (by decide) ?_
    refine lv_icmp_ne (tgt := 111) hx hb dX5_polynomialAnew_104 (by decide) (fun c_728 => ?_) (fun c_728 => ?_)
    · have h := iq c_728 h
      refine lv_iload_n hx hb dX5_polynomialAnew_111 rfl (lv_at hl 0 rfl) ?_
      refine lv_iconst (v := 1) hx hb dX5_polynomialAnew_112 (by decide) ?_
      refine lv_icmp_ne (tgt := 120) hx hb dX5_polynomialAnew_113 (by decide) (fun c_729 => ?_) (fun c_729 => ?_)
      · have h := iq c_729 h
        refine lv_iload_n hx hb dX5_polynomialAnew_120 rfl (lv_at hl 2 rfl) ?_
        obtain rfl := Option.some.inj h
        exact wri hx hb hr hlocks hP hD hS (Nat.le_of_ble_eq_true rfl) (Nat.le_of_ble_eq_true rfl) rfl dX5_polynomialAnew_121
      · have h := ip c_729 h
        refine lv_iload_n hx hb dX5_polynomialAnew_116 rfl (lv_at hl 1 rfl) ?_
        refine lv_goto (tgt := 121) hx hb dX5_polynomialAnew_117 (by decide) ?_
        obtain rfl := Option.some.inj h
        exact wri hx hb hr hlocks hP hD hS (Nat.le_of_ble_eq_true rfl) (Nat.le_of_ble_eq_true rfl) rfl dX5_polynomialAnew_121
    · have h := ip c_728 h
      refine lv_iconst (v := 1) hx hb dX5_polynomialAnew_107 (by decide) ?_
      refine lv_goto (tgt := 121) hx hb dX5_polynomialAnew_108 (by decide) ?_
      obtain rfl := Option.some.inj h
      exact wri hx hb hr hlocks hP hD hS (Nat.le_of_ble_eq_true rfl) (Nat.le_of_ble_eq_true rfl) rfl dX5_polynomialAnew_121
  · have h := iq c_723 h
    refine lv_iconst (v := 0) hx hb dX5_polynomialAnew_14 (by decide) ?_
    obtain rfl := Option.some.inj h
    exact wri hx hb hr hlocks hP hD hS (Nat.le_of_ble_eq_true rfl) (Nat.le_of_ble_eq_true rfl) rfl dX5_polynomialAnew_15
def fX5_isPrime_b13 (N : Nat) (x0 : Int32) : Nat → Int32 → Int32 → Option (Int32)
  | 0, _, _ => none
  | n + 1, x1, x2 => if x0 ≤ x2 then zo x1 (some x1) else nz x2 (if (x0 - x0 / x2 * x2) = 0 then fX5_isPrime_b13 N x0 n (x1 &&& 0) (x2 + 1) else fX5_isPrime_b13 N x0 n (x1 &&& 1) (x2 + 1))
def fX5_isPrime (N : Nat) (x0 : Int32) : Option (Int32) := if x0 ≤ 1 then fX5_isPrime_b13 N x0 N 0 2 else fX5_isPrime_b13 N x0 N 1 2
set_option maxHeartbeats 4000000 in
set_option maxRecDepth 100000 in
theorem kX5_isPrime {l : Launch} {G : wG} (x0 : Int32) (N : Nat) (v : Int32) (h : fX5_isPrime N x0 = some v) : wCi l G yX5_isPrime wsX5_isPrime ({ frames := 0, cells := 0, slots := 0, locals := 0 } : Room) [.int x0] [] [] 0 0 v := by
  refine wCi.mk (cc := cX5_isPrime) (maxL := 3) (ty := .boolean) (by decide) rfl (Nat.le_of_ble_eq_true rfl) ?_
  intro p e s m below meth c A ls hx hb hml hr hlocks hts hown hK hA hP hD hl
  have hx : p.tables.exec = Jvm.exec := hx
  have hown : s.vm.findClass RX5 = some m.cls := hown
  have hS : va_S A s.heap s.heap [] := va_S.rf
  have hP : va_P G.1 vwCl [] s.heap := hP
  have hD : va_D A [] := hD
  have hl : lv_has ls 3 [(0, .int x0)] := hl
  obtain ⟨args, hargs⟩ : ∃ z : Array Value, z = ([.int x0] : List Value).toArray := ⟨_, rfl⟩
  rw [← hargs]
  rw [← hargs] at hts
  have w_13 : ∀ (x0 : Int32)  (_z : Unit), ∀ (n : Nat) (x1 : Int32) (x2 : Int32)  (H : Heap) (locs : List Loc) (ls : Array Slot), va_P G.1 vwCl [] H → va_D A [] → va_S A s.heap H locs → lv_has ls 3 [(0, .int x0), (1, .int x1), (2, .int x2)] → fX5_isPrime_b13 N x0 n x1 x2 = some v → W p l e ({ frames := 0, cells := 0, slots := 0, locals := 0 } : Room) s m args below meth c H locs 0 0 (wQi G A below args s [] 0 0 v) (F0 m 13 ls []) := by
    intro x0 _z n
    induction n with
    | zero =>
      intro x1 x2 H locs ls hP hD hS hl h
      rw [fX5_isPrime_b13.eq_1] at h
      cases h
    | succ n ih =>
      intro x1 x2 H locs ls hP hD hS hl h
      rw [fX5_isPrime_b13.eq_2] at h
      refine lv_iload_n hx hb dX5_isPrime_13 rfl (lv_at hl 2 rfl) ?_
      refine lv_iload_n hx hb dX5_isPrime_14 rfl (lv_at hl 0 rfl) ?_
      refine lv_icmp_ge (tgt := 38) hx hb dX5_isPrime_15 (by decide) (fun c_730 => ?_) (fun c_730 => ?_)
      · have h := ip c_730 h
        refine lv_iload_n hx hb dX5_isPrime_38 rfl (lv_at hl 1 rfl) ?_
        obtain ⟨hz, h⟩ := zo_inv h
        obtain rfl := Option.some.inj h
        exact wrz hx hb hr hlocks hP hD hS (Nat.le_of_ble_eq_true rfl) (Nat.le_of_ble_eq_true rfl) hz rfl dX5_isPrime_39
      · have h := iq c_730 h
        refine lv_iload_n hx hb dX5_isPrime_18 rfl (lv_at hl 1 rfl) ?_
        refine lv_iload_n hx hb dX5_isPrime_19 rfl (lv_at hl 0 rfl) ?_
        refine lv_iload_n hx hb dX5_isPrime_20 rfl (lv_at hl 2 rfl) ?_
        obtain ⟨hz, h⟩ := nz_inv h
        refine lv_irem hx hb dX5_isPrime_21 hz ?_
        refine lv_if_eq (tgt := 29) hx hb dX5_isPrime_22 (by decide) (fun c_731 => ?_) (fun c_731 => ?_)
        · have h := ip c_731 h
          refine lv_iconst (v := 0) hx hb dX5_isPrime_29 (by decide) ?_
          refine lv_iand hx hb dX5_isPrime_30 ?_
          refine lv_istore_n (lv' := [(1, .int (x1 &&& 0)), (0, .int x0), (2, .int x2)]) hx hb dX5_isPrime_31 rfl hl (by decide) rfl (fun ls hl => ?_)
          refine lv_iinc (v := (x2 + 1)) (lv' := [(2, .int (x2 + 1)), (1, .int (x1 &&& 0)), (0, .int x0)]) hx hb dX5_isPrime_32 hl (k := 2) rfl rfl (by decide) rfl (fun ls hl => ?_)
          refine lv_goto (tgt := 13) hx hb dX5_isPrime_35 (by decide) ?_
          exact ih _ _ _ _ _ hP hD hS (lv_sub hl [2, 1, 0] rfl) h
        · have h := iq c_731 h
          refine lv_iconst (v := 1) hx hb dX5_isPrime_25 (by decide) ?_
          refine lv_goto (tgt := 30) hx hb dX5_isPrime_26 (by decide) ?_
          refine lv_iand hx hb dX5_isPrime_30 ?_
          refine lv_istore_n (lv' := [(1, .int (x1 &&& 1)), (0, .int x0), (2, .int x2)]) hx hb dX5_isPrime_31 rfl hl (by decide) rfl (fun ls hl => ?_)
          refine lv_iinc (v := (x2 + 1)) (lv' := [(2, .int (x2 + 1)), (1, .int (x1 &&& 1)), (0, .int x0)]) hx hb dX5_isPrime_32 hl (k := 2) rfl rfl (by decide) rfl (fun ls hl => ?_)
          refine lv_goto (tgt := 13) hx hb dX5_isPrime_35 (by decide) ?_
          exact ih _ _ _ _ _ hP hD hS (lv_sub hl [2, 1, 0] rfl) h
  rw [fX5_isPrime.eq_1] at h
  refine lv_iload_n hx hb dX5_isPrime_0 rfl (lv_at hl 0 rfl) ?_
  refine lv_iconst (v := 1) hx hb dX5_isPrime_1 (by decide) ?_
  refine lv_icmp_le (tgt := 9) hx hb dX5_isPrime_2 (by decide) (fun c_732 => ?_) (fun c_732 => ?_)
  · have h := ip c_732 h
    refine lv_iconst (v := 0) hx hb dX5_isPrime_9 (by decide) ?_
    refine lv_istore_n (lv' := [(1, .int 0), (0, .int x0)]) hx hb dX5_isPrime_10 rfl hl (by decide) rfl (fun ls hl => ?_)
    refine lv_iconst (v := 2) hx hb dX5_isPrime_11 (by decide) ?_
    refine lv_istore_n (lv' := [(2, .int 2), (1, .int 0), (0, .int x0)]) hx hb dX5_isPrime_12 rfl hl (by decide) rfl (fun ls hl => ?_)
    exact w_13  _  ()  N _ _  _ _ _ hP hD hS (lv_sub hl [2, 1, 0] rfl) h
  · have h := iq c_732 h
    refine lv_iconst (v := 1) hx hb dX5_isPrime_5 (by decide) ?_
    refine lv_goto (tgt := 10) hx hb dX5_isPrime_6 (by decide) ?_
    refine lv_istore_n (lv' := [(1, .int 1), (0, .int x0)]) hx hb dX5_isPrime_10 rfl hl (by decide) rfl (fun ls hl => ?_)
    refine lv_iconst (v := 2) hx hb dX5_isPrime_11 (by decide) ?_
    refine lv_istore_n (lv' := [(2, .int 2), (1, .int 1), (0, .int x0)]) hx hb dX5_isPrime_12 rfl hl (by decide) rfl (fun ls hl => ?_)
    exact w_13  _  ()  N _ _  _ _ _ hP hD hS (lv_sub hl [2, 1, 0] rfl) h
def fX5_points_b56 (N : Nat) (d_n : Int32) (d_a : Nat → Int32) (d_b : Nat → Int32) (d_c : Nat → Int32) (x1 : Int32) (x3 : Int32) (x4 : Int32) (k_114 : Int32 → Option (Int32 × Int32)) : Nat → Int32 → Int32 → Option (Int32 × Int32)
  | 0, _, _ => none
  | n + 1, x5, x6 => if d_n ≤ x6 then k_114 x5 else rd d_a 9 x6 (fun v_734 => rd d_b 9 x6 (fun v_735 => rd d_c 9 x6 (fun v_736 => nz x1 (if ((((v_734 * x3) + (v_735 * x4)) - v_736) - (((v_734 * x3) + (v_735 * x4)) - v_736) / x1 * x1) = 0 then fX5_points_b56 N d_n d_a d_b d_c x1 x3 x4 k_114 n (x5 &&& 0) (x6 + 1) else fX5_points_b56 N d_n d_a d_b d_c x1 x3 x4 k_114 n (x5 &&& 1) (x6 + 1)))))
def fX5_points_b44 (N : Nat) (d_n : Int32) (d_a : Nat → Int32) (d_b : Nat → Int32) (d_c : Nat → Int32) (x1 : Int32) (x3 : Int32) (k_133 : Int32 → Option (Int32 × Int32)) : Nat → Int32 → Int32 → Option (Int32 × Int32)
  | 0, _, _ => none
  | n + 1, x2, x4 => if x1 ≤ x4 then k_133 x2 else fX5_points_b56 N d_n d_a d_b d_c x1 x3 x4 (fun (x5_739 : Int32) => if x5_739 = 0 then fX5_points_b44 N d_n d_a d_b d_c x1 x3 k_133 n (x2 + 0) (x4 + 1) else fX5_points_b44 N d_n d_a d_b d_c x1 x3 k_133 n (x2 + 1) (x4 + 1)) N 1 0
def fX5_points_b36 (N : Nat) (d_n : Int32) (d_a : Nat → Int32) (d_b : Nat → Int32) (d_c : Nat → Int32) (d_t : Int32) (x1 : Int32) : Nat → Int32 → Int32 → Option (Int32 × Int32)
  | 0, _, _ => none
  | n + 1, x2, x3 => if x1 ≤ x3 then some (x2, d_t) else fX5_points_b44 N d_n d_a d_b d_c x1 x3 (fun (x2_742 : Int32) => fX5_points_b36 N d_n d_a d_b d_c d_t x1 n x2_742 (x3 + 1)) N x2 0
def fX5_points_b23 (N : Nat) (d_n : Int32) (d_a : Nat → Int32) (d_b : Nat → Int32) (d_c : Nat → Int32) (x1 : Int32) (d_t : Int32) (s1 : Int32) : Option (Int32 × Int32) := bd (fX5_fails N d_t s1 1) (fun u_743 => if u_743.1 = 0 then fX5_points_b36 N d_n d_a d_b d_c u_743.2 x1 N 0 0 else some (0, u_743.2))
def fX5_points (N : Nat) (d_n : Int32) (d_a : Nat → Int32) (d_b : Nat → Int32) (d_c : Nat → Int32) (d_t : Int32) (x1 : Int32) : Option (Int32 × Int32) := bd (fX5_in N x1 2 31) (fun u_746 => if u_746 = 0 then fX5_points_b23 N d_n d_a d_b d_c x1 d_t 0 else bd (fX5_isPrime N x1) (fun u_749 => if u_749 = 0 then fX5_points_b23 N d_n d_a d_b d_c x1 d_t 0 else fX5_points_b23 N d_n d_a d_b d_c x1 d_t 1))
set_option maxHeartbeats 4000000 in
set_option maxRecDepth 100000 in
theorem kX5_points {l : Launch} {G : wG} (d0 d1 d2 d3 d4 d5 d6 d7 d8 d9 d10 d11 d12 : Nat) (d_n : Int32) (d_a : Nat → Int32) (d_b : Nat → Int32) (d_c : Nat → Int32) (d_k : Int32) (d_x : Nat → Int32) (d_y : Nat → Int32) (d_d : Nat → Int32) (d_r : Nat → Int32) (d_w : Nat → Int32) (d_e : Int32) (d_1 : Nat → Int32) (d_2 : Nat → Int32) (d_o : Nat → Int32) (d_g : Nat → Int32) (d_ra : Int32) (d_rb : Int32) (d_rc : Int32) (d_t : Int32) (x1 : Int32) (N : Nat) (v : Int32 × Int32) (h : fX5_points N d_n d_a d_b d_c d_t x1 = some v) : wCi l G yX5_points wsX5_points ({ frames := 1, cells := 0, slots := 0, locals := 22 } : Room) [.ref d0, .int x1] (w_D G d0 d1 d2 d3 d4 d5 d6 d7 d8 d9 d10 d11 d12 d_n d_a d_b d_c d_k d_x d_y d_d d_r d_w d_e d_1 d_2 d_o d_g d_ra d_rb d_rc d_t) (w_D G d0 d1 d2 d3 d4 d5 d6 d7 d8 d9 d10 d11 d12 d_n d_a d_b d_c d_k d_x d_y d_d d_r d_w d_e d_1 d_2 d_o d_g d_ra d_rb d_rc v.2) 0 0 v.1 := by
  refine wCi.mk (cc := cX5_points) (maxL := 7) (ty := .int) (by decide) rfl (Nat.le_of_ble_eq_true rfl) ?_
  intro p e s m below meth c A ls hx hb hml hr hlocks hts hown hK hA hP hD hl
  have hx : p.tables.exec = Jvm.exec := hx
  have hown : s.vm.findClass RX5 = some m.cls := hown
  have hinX5 : ∀ w ∈ wsX50, w ∈ wsX5_points := by decide +kernel
  have lk13 := hts (.fieldLink RX5 13 "ChamberwrightModel" "lb" "[I") (by decide +kernel)
  have lk16 := hts (.fieldLink RX5 16 "ChamberwrightModel" "lc" "[I") (by decide +kernel)
  have lk51 := hts (.fieldLink RX5 51 "ChamberwrightModel" "lines" "I") (by decide +kernel)
  have lk7 := hts (.fieldLink RX5 7 "ChamberwrightModel" "la" "[I") (by decide +kernel)
  have hS : va_S A s.heap s.heap [] := va_S.rf
  have hP : va_P G.1 vwCl (w_D G d0 d1 d2 d3 d4 d5 d6 d7 d8 d9 d10 d11 d12 d_n d_a d_b d_c d_k d_x d_y d_d d_r d_w d_e d_1 d_2 d_o d_g d_ra d_rb d_rc d_t) s.heap := hP
  have hD : va_D A (w_D G d0 d1 d2 d3 d4 d5 d6 d7 d8 d9 d10 d11 d12 d_n d_a d_b d_c d_k d_x d_y d_d d_r d_w d_e d_1 d_2 d_o d_g d_ra d_rb d_rc d_t) := hD
  have hl : lv_has ls 7 [(0, .ref d0), (1, .int x1)] := hl
  obtain ⟨args, hargs⟩ : ∃ z : Array Value, z = ([.ref d0, .int x1] : List Value).toArray := ⟨_, rfl⟩
  rw [← hargs]
  rw [← hargs] at hts
  have w_56 : ∀ (k_114 : Int32 → Option (Int32 × Int32)) (x1 : Int32) (x2 : Int32) (x3 : Int32) (x4 : Int32) (d_t : Int32) (_z : Unit), (∀ (y5 : Int32) (H : Heap) (locs : List Loc) (ls : Array Slot), va_P G.1 vwCl (w_D G d0 d1 d2 d3 d4 d5 d6 d7 d8 d9 d10 d11 d12 d_n d_a d_b d_c d_k d_x d_y d_d d_r d_w d_e d_1 d_2 d_o d_g d_ra d_rb d_rc d_t) H → va_D A (w_D G d0 d1 d2 d3 d4 d5 d6 d7 d8 d9 d10 d11 d12 d_n d_a d_b d_c d_k d_x d_y d_d d_r d_w d_e d_1 d_2 d_o d_g d_ra d_rb d_rc d_t) → va_S A s.heap H locs → lv_has ls 7 [(0, .ref d0), (1, .int x1), (2, .int x2), (3, .int x3), (4, .int x4), (5, .int y5)] → k_114 y5 = some v → W p l e ({ frames := 1, cells := 0, slots := 0, locals := 22 } : Room) s m args below meth c H locs 0 0 (wQi G A below args s (w_D G d0 d1 d2 d3 d4 d5 d6 d7 d8 d9 d10 d11 d12 d_n d_a d_b d_c d_k d_x d_y d_d d_r d_w d_e d_1 d_2 d_o d_g d_ra d_rb d_rc v.2) 0 0 v.1) (F0 m 114 ls [])) → ∀ (n : Nat) (x5 : Int32) (x6 : Int32)  (H : Heap) (locs : List Loc) (ls : Array Slot), va_P G.1 vwCl (w_D G d0 d1 d2 d3 d4 d5 d6 d7 d8 d9 d10 d11 d12 d_n d_a d_b d_c d_k d_x d_y d_d d_r d_w d_e d_1 d_2 d_o d_g d_ra d_rb d_rc d_t) H → va_D A (w_D G d0 d1 d2 d3 d4 d5 d6 d7 d8 d9 d10 d11 d12 d_n d_a d_b d_c d_k d_x d_y d_d d_r d_w d_e d_1 d_2 d_o d_g d_ra d_rb d_rc d_t) → va_S A s.heap H locs → lv_has ls 7 [(0, .ref d0), (1, .int x1), (2, .int x2), (3, .int x3), (4, .int x4), (5, .int x5), (6, .int x6)] → fX5_points_b56 N d_n d_a d_b d_c x1 x3 x4 k_114 n x5 x6 = some v → W p l e ({ frames := 1, cells := 0, slots := 0, locals := 22 } : Room) s m args below meth c H locs 0 0 (wQi G A below args s (w_D G d0 d1 d2 d3 d4 d5 d6 d7 d8 d9 d10 d11 d12 d_n d_a d_b d_c d_k d_x d_y d_d d_r d_w d_e d_1 d_2 d_o d_g d_ra d_rb d_rc v.2) 0 0 v.1) (F0 m 56 ls []) := by
    intro k_114 x1 x2 x3 x4 d_t _z hk_114 n
    induction n with
    | zero =>
      intro x5 x6 H locs ls hP hD hS hl h
      rw [fX5_points_b56.eq_1] at h
      cases h
    | succ n ih =>
      intro x5 x6 H locs ls hP hD hS hl h
      rw [fX5_points_b56.eq_2] at h
      refine lv_iload hx hb dX5_points_56 (lv_at hl 6 rfl) ?_
      refine lv_aload_n hx hb dX5_points_58 rfl (lv_at hl 0 rfl) ?_
      refine va_get (D := G.1) (ci := 5) (v := .int d_n) (C := RX5) (T := TX5) (N := 19) hx hb hts hinX5 hown hK.1 hP 0 rfl rfl 0 (by decide) lk51 (fun _ h9 => h9) rfl dX5_points_59 ?_
      refine lv_icmp_ge (tgt := 114) hx hb dX5_points_62 (by decide) (fun c_733 => ?_) (fun c_733 => ?_)
      · have h := ip c_733 h
        exact hk_114 _ _ _ _ hP hD hS (lv_sub hl [0, 1, 2, 3, 4, 5] rfl) h
      · have h := iq c_733 h
        refine lv_iload hx hb dX5_points_65 (lv_at hl 5 rfl) ?_
        refine lv_aload_n hx hb dX5_points_67 rfl (lv_at hl 0 rfl) ?_
        refine va_get (D := G.1) (ci := 5) (v := .ref d1) (C := RX5) (T := TX5) (N := 19) hx hb hts hinX5 hown hK.1 hP 0 rfl rfl 1 (by decide) lk7 (fun _ h9 => h9) rfl dX5_points_68 ?_
        refine lv_iload hx hb dX5_points_71 (lv_at hl 6 rfl) ?_
        refine wiald h hx hb hK hP 1 rfl dX5_points_73 (fun v_734 h => ?_)
        refine lv_iload_n hx hb dX5_points_74 rfl (lv_at hl 3 rfl) ?_
        refine lv_imul hx hb dX5_points_75 ?_
        refine lv_aload_n hx hb dX5_points_76 rfl (lv_at hl 0 rfl) ?_
        refine va_get (D := G.1) (ci := 5) (v := .ref d2) (C := RX5) (T := TX5) (N := 19) hx hb hts hinX5 hown hK.1 hP 0 rfl rfl 2 (by decide) lk13 (fun _ h9 => h9) rfl dX5_points_77 ?_
        refine lv_iload hx hb dX5_points_80 (lv_at hl 6 rfl) ?_
        refine wiald h hx hb hK hP 2 rfl dX5_points_82 (fun v_735 h => ?_)
        refine lv_iload hx hb dX5_points_83 (lv_at hl 4 rfl) ?_
        refine lv_imul hx hb dX5_points_85 ?_
        refine lv_iadd hx hb dX5_points_86 ?_
        refine lv_aload_n hx hb dX5_points_87 rfl (lv_at hl 0 rfl) ?_
        refine va_get (D := G.1) (ci := 5) (v := .ref d3) (C := RX5) (T := TX5) (N := 19) hx hb hts hinX5 hown hK.1 hP 0 rfl rfl 3 (by decide) lk16 (fun _ h9 => h9) rfl dX5_points_88 ?_
        refine lv_iload hx hb dX5_points_91 (lv_at hl 6 rfl) ?_
        refine wiald h hx hb hK hP 3 rfl dX5_points_93 (fun v_736 h => ?_)
        refine lv_isub hx hb dX5_points_94 ?_
        refine lv_iload_n hx hb dX5_points_95 rfl (lv_at hl 1 rfl) ?_
        obtain ⟨hz, h⟩ := nz_inv h
        refine lv_irem hx hb dX5_points_96 hz ?_
        refine lv_if_eq (tgt := 104) hx hb dX5_points_97 (by decide) (fun c_737 => ?_) (fun c_737 => ?_)
        · have h := ip c_737 h
          refine lv_iconst (v := 0) hx hb dX5_points_104 (by decide) ?_
          refine lv_iand hx hb dX5_points_105 ?_
          refine lv_istore (lv' := [(5, .int (x5 &&& 0)), (0, .ref d0), (1, .int x1), (2, .int x2), (3, .int x3), (4, .int x4), (6, .int x6)]) hx hb dX5_points_106 hl (by decide) rfl (fun ls hl => ?_)
          refine lv_iinc (v := (x6 + 1)) (lv' := [(6, .int (x6 + 1)), (5, .int (x5 &&& 0)), (0, .ref d0), (1, .int x1), (2, .int x2), (3, .int x3), (4, .int x4)]) hx hb dX5_points_108 hl (k := 6) rfl rfl (by decide) rfl (fun ls hl => ?_)
          refine lv_goto (tgt := 56) hx hb dX5_points_111 (by decide) ?_
          exact ih _ _ _ _ _ hP hD hS (lv_sub hl [2, 3, 4, 5, 6, 1, 0] rfl) h
        · have h := iq c_737 h
          refine lv_iconst (v := 1) hx hb dX5_points_100 (by decide) ?_
          refine lv_goto (tgt := 105) hx hb dX5_points_101 (by decide) ?_
          refine lv_iand hx hb dX5_points_105 ?_
          refine lv_istore (lv' := [(5, .int (x5 &&& 1)), (0, .ref d0), (1, .int x1), (2, .int x2), (3, .int x3), (4, .int x4), (6, .int x6)]) hx hb dX5_points_106 hl (by decide) rfl (fun ls hl => ?_)
          refine lv_iinc (v := (x6 + 1)) (lv' := [(6, .int (x6 + 1)), (5, .int (x5 &&& 1)), (0, .ref d0), (1, .int x1), (2, .int x2), (3, .int x3), (4, .int x4)]) hx hb dX5_points_108 hl (k := 6) rfl rfl (by decide) rfl (fun ls hl => ?_)
          refine lv_goto (tgt := 56) hx hb dX5_points_111 (by decide) ?_
          exact ih _ _ _ _ _ hP hD hS (lv_sub hl [2, 3, 4, 5, 6, 1, 0] rfl) h
  have w_44 : ∀ (k_133 : Int32 → Option (Int32 × Int32)) (x1 : Int32) (x3 : Int32) (d_t : Int32) (_z : Unit), (∀ (y2 : Int32) (H : Heap) (locs : List Loc) (ls : Array Slot), va_P G.1 vwCl (w_D G d0 d1 d2 d3 d4 d5 d6 d7 d8 d9 d10 d11 d12 d_n d_a d_b d_c d_k d_x d_y d_d d_r d_w d_e d_1 d_2 d_o d_g d_ra d_rb d_rc d_t) H → va_D A (w_D G d0 d1 d2 d3 d4 d5 d6 d7 d8 d9 d10 d11 d12 d_n d_a d_b d_c d_k d_x d_y d_d d_r d_w d_e d_1 d_2 d_o d_g d_ra d_rb d_rc d_t) → va_S A s.heap H locs → lv_has ls 7 [(0, .ref d0), (1, .int x1), (2, .int y2), (3, .int x3)] → k_133 y2 = some v → W p l e ({ frames := 1, cells := 0, slots := 0, locals := 22 } : Room) s m args below meth c H locs 0 0 (wQi G A below args s (w_D G d0 d1 d2 d3 d4 d5 d6 d7 d8 d9 d10 d11 d12 d_n d_a d_b d_c d_k d_x d_y d_d d_r d_w d_e d_1 d_2 d_o d_g d_ra d_rb d_rc v.2) 0 0 v.1) (F0 m 133 ls [])) → ∀ (n : Nat) (x2 : Int32) (x4 : Int32)  (H : Heap) (locs : List Loc) (ls : Array Slot), va_P G.1 vwCl (w_D G d0 d1 d2 d3 d4 d5 d6 d7 d8 d9 d10 d11 d12 d_n d_a d_b d_c d_k d_x d_y d_d d_r d_w d_e d_1 d_2 d_o d_g d_ra d_rb d_rc d_t) H → va_D A (w_D G d0 d1 d2 d3 d4 d5 d6 d7 d8 d9 d10 d11 d12 d_n d_a d_b d_c d_k d_x d_y d_d d_r d_w d_e d_1 d_2 d_o d_g d_ra d_rb d_rc d_t) → va_S A s.heap H locs → lv_has ls 7 [(0, .ref d0), (1, .int x1), (2, .int x2), (3, .int x3), (4, .int x4)] → fX5_points_b44 N d_n d_a d_b d_c x1 x3 k_133 n x2 x4 = some v → W p l e ({ frames := 1, cells := 0, slots := 0, locals := 22 } : Room) s m args below meth c H locs 0 0 (wQi G A below args s (w_D G d0 d1 d2 d3 d4 d5 d6 d7 d8 d9 d10 d11 d12 d_n d_a d_b d_c d_k d_x d_y d_d d_r d_w d_e d_1 d_2 d_o d_g d_ra d_rb d_rc v.2) 0 0 v.1) (F0 m 44 ls []) := by
    intro k_133 x1 x3 d_t _z hk_133 n
    induction n with
    | zero =>
      intro x2 x4 H locs ls hP hD hS hl h
      rw [fX5_points_b44.eq_1] at h
      cases h
    | succ n ih =>
      intro x2 x4 H locs ls hP hD hS hl h
      rw [fX5_points_b44.eq_2] at h
      refine lv_iload hx hb dX5_points_44 (lv_at hl 4 rfl) ?_
      refine lv_iload_n hx hb dX5_points_46 rfl (lv_at hl 1 rfl) ?_
      refine lv_icmp_ge (tgt := 133) hx hb dX5_points_47 (by decide) (fun c_738 => ?_) (fun c_738 => ?_)
      · have h := ip c_738 h
        exact hk_133 _ _ _ _ hP hD hS (lv_sub hl [0, 1, 2, 3] rfl) h
      · have h := iq c_738 h
        refine lv_iconst (v := 1) hx hb dX5_points_50 (by decide) ?_
        refine lv_istore (lv' := [(5, .int 1), (0, .ref d0), (1, .int x1), (2, .int x2), (3, .int x3), (4, .int x4)]) hx hb dX5_points_51 hl (by decide) rfl (fun ls hl => ?_)
        refine lv_iconst (v := 0) hx hb dX5_points_53 (by decide) ?_
        refine lv_istore (lv' := [(6, .int 0), (5, .int 1), (0, .ref d0), (1, .int x1), (2, .int x2), (3, .int x3), (4, .int x4)]) hx hb dX5_points_54 hl (by decide) rfl (fun ls hl => ?_)
        refine w_56 _ _ _ _ _ _ () (fun x5_739 H locs ls hP hD hS hl h => ?_) N _ _  _ _ _ hP hD hS (lv_sub hl [2, 3, 4, 5, 6, 1, 0] rfl) h
        refine lv_iload_n hx hb dX5_points_114 rfl (lv_at hl 2 rfl) ?_
        refine lv_iload hx hb dX5_points_115 (lv_at hl 5 rfl) ?_
        refine lv_if_eq (tgt := 124) hx hb dX5_points_117 (by decide) (fun c_740 => ?_) (fun c_740 => ?_)
        · have h := ip c_740 h
          refine lv_iconst (v := 0) hx hb dX5_points_124 (by decide) ?_
          refine lv_iadd hx hb dX5_points_125 ?_
          refine lv_istore_n (lv' := [(2, .int (x2 + 0)), (0, .ref d0), (1, .int x1), (3, .int x3), (4, .int x4), (5, .int x5_739)]) hx hb dX5_points_126 rfl hl (by decide) rfl (fun ls hl => ?_)
          refine lv_iinc (v := (x4 + 1)) (lv' := [(4, .int (x4 + 1)), (2, .int (x2 + 0)), (0, .ref d0), (1, .int x1), (3, .int x3), (5, .int x5_739)]) hx hb dX5_points_127 hl (k := 4) rfl rfl (by decide) rfl (fun ls hl => ?_)
          refine lv_goto (tgt := 44) hx hb dX5_points_130 (by decide) ?_
          exact ih _ _ _ _ _ hP hD hS (lv_sub hl [2, 3, 1, 4, 0] rfl) h
        · have h := iq c_740 h
          refine lv_iconst (v := 1) hx hb dX5_points_120 (by decide) ?_
          refine lv_goto (tgt := 125) hx hb dX5_points_121 (by decide) ?_
          refine lv_iadd hx hb dX5_points_125 ?_
          refine lv_istore_n (lv' := [(2, .int (x2 + 1)), (0, .ref d0), (1, .int x1), (3, .int x3), (4, .int x4), (5, .int x5_739)]) hx hb dX5_points_126 rfl hl (by decide) rfl (fun ls hl => ?_)
          refine lv_iinc (v := (x4 + 1)) (lv' := [(4, .int (x4 + 1)), (2, .int (x2 + 1)), (0, .ref d0), (1, .int x1), (3, .int x3), (5, .int x5_739)]) hx hb dX5_points_127 hl (k := 4) rfl rfl (by decide) rfl (fun ls hl => ?_)
          refine lv_goto (tgt := 44) hx hb dX5_points_130 (by decide) ?_
          exact ih _ _ _ _ _ hP hD hS (lv_sub hl [2, 3, 1, 4, 0] rfl) h
  have w_36 : ∀ (x1 : Int32) (d_t : Int32) (_z : Unit), ∀ (n : Nat) (x2 : Int32) (x3 : Int32)  (H : Heap) (locs : List Loc) (ls : Array Slot), va_P G.1 vwCl (w_D G d0 d1 d2 d3 d4 d5 d6 d7 d8 d9 d10 d11 d12 d_n d_a d_b d_c d_k d_x d_y d_d d_r d_w d_e d_1 d_2 d_o d_g d_ra d_rb d_rc d_t) H → va_D A (w_D G d0 d1 d2 d3 d4 d5 d6 d7 d8 d9 d10 d11 d12 d_n d_a d_b d_c d_k d_x d_y d_d d_r d_w d_e d_1 d_2 d_o d_g d_ra d_rb d_rc d_t) → va_S A s.heap H locs → lv_has ls 7 [(0, .ref d0), (1, .int x1), (2, .int x2), (3, .int x3)] → fX5_points_b36 N d_n d_a d_b d_c d_t x1 n x2 x3 = some v → W p l e ({ frames := 1, cells := 0, slots := 0, locals := 22 } : Room) s m args below meth c H locs 0 0 (wQi G A below args s (w_D G d0 d1 d2 d3 d4 d5 d6 d7 d8 d9 d10 d11 d12 d_n d_a d_b d_c d_k d_x d_y d_d d_r d_w d_e d_1 d_2 d_o d_g d_ra d_rb d_rc v.2) 0 0 v.1) (F0 m 36 ls []) := by
    intro x1 d_t _z n
    induction n with
    | zero =>
      intro x2 x3 H locs ls hP hD hS hl h
      rw [fX5_points_b36.eq_1] at h
      cases h
    | succ n ih =>
      intro x2 x3 H locs ls hP hD hS hl h
      rw [fX5_points_b36.eq_2] at h
      refine lv_iload_n hx hb dX5_points_36 rfl (lv_at hl 3 rfl) ?_
      refine lv_iload_n hx hb dX5_points_37 rfl (lv_at hl 1 rfl) ?_
      refine lv_icmp_ge (tgt := 139) hx hb dX5_points_38 (by decide) (fun c_741 => ?_) (fun c_741 => ?_)
      · have h := ip c_741 h
        refine lv_iload_n hx hb dX5_points_139 rfl (lv_at hl 2 rfl) ?_
        obtain rfl := Option.some.inj h
        exact wri hx hb hr hlocks hP hD hS (Nat.le_of_ble_eq_true rfl) (Nat.le_of_ble_eq_true rfl) rfl dX5_points_140
      · have h := iq c_741 h
        refine lv_iconst (v := 0) hx hb dX5_points_41 (by decide) ?_
        refine lv_istore (lv' := [(4, .int 0), (0, .ref d0), (1, .int x1), (2, .int x2), (3, .int x3)]) hx hb dX5_points_42 hl (by decide) rfl (fun ls hl => ?_)
        refine w_44 _ _ _ _ () (fun x2_742 H locs ls hP hD hS hl h => ?_) N _ _  _ _ _ hP hD hS (lv_sub hl [1, 2, 3, 4, 0] rfl) h
        refine lv_iinc (v := (x3 + 1)) (lv' := [(3, .int (x3 + 1)), (0, .ref d0), (1, .int x1), (2, .int x2_742)]) hx hb dX5_points_133 hl (k := 3) rfl rfl (by decide) rfl (fun ls hl => ?_)
        refine lv_goto (tgt := 36) hx hb dX5_points_136 (by decide) ?_
        exact ih _ _ _ _ _ hP hD hS (lv_sub hl [1, 2, 3, 0] rfl) h
  have w_23 : ∀ (x1 : Int32) (d_t : Int32) (s1 : Int32) (H : Heap) (locs : List Loc) (ls : Array Slot), va_P G.1 vwCl (w_D G d0 d1 d2 d3 d4 d5 d6 d7 d8 d9 d10 d11 d12 d_n d_a d_b d_c d_k d_x d_y d_d d_r d_w d_e d_1 d_2 d_o d_g d_ra d_rb d_rc d_t) H → va_D A (w_D G d0 d1 d2 d3 d4 d5 d6 d7 d8 d9 d10 d11 d12 d_n d_a d_b d_c d_k d_x d_y d_d d_r d_w d_e d_1 d_2 d_o d_g d_ra d_rb d_rc d_t) → va_S A s.heap H locs → lv_has ls 7 [(0, .ref d0), (1, .int x1)] → fX5_points_b23 N d_n d_a d_b d_c x1 d_t s1 = some v → W p l e ({ frames := 1, cells := 0, slots := 0, locals := 22 } : Room) s m args below meth c H locs 0 0 (wQi G A below args s (w_D G d0 d1 d2 d3 d4 d5 d6 d7 d8 d9 d10 d11 d12 d_n d_a d_b d_c d_k d_x d_y d_d d_r d_w d_e d_1 d_2 d_o d_g d_ra d_rb d_rc v.2) 0 0 v.1) (F0 m 23 ls [.int s1, .ref d0]) := by
    intro x1 d_t s1 H locs ls hP hD hS hl h
    rw [fX5_points_b23.eq_1] at h
    refine lv_iconst (v := 1) hx hb dX5_points_23 (by decide) ?_
    obtain ⟨u_743, hc_744, h⟩ := bd_inv h
    refine wafter_i (wr := []) (w2 := (w_D G d0 d1 d2 d3 d4 d5 d6 d7 d8 d9 d10 d11 d12 d_n d_a d_b d_c d_k d_x d_y d_d d_r d_w d_e d_1 d_2 d_o d_g d_ra d_rb d_rc u_743.2)) (va_runV (As := [.int s1, .int 1]) (rest := []) ⟨hx, hb, hml, hown, hts⟩ (kX5_fails (l := l) (G := G) d0 d1 d2 d3 d4 d5 d6 d7 d8 d9 d10 d11 d12 d_n d_a d_b d_c d_k d_x d_y d_d d_r d_w d_e d_1 d_2 d_o d_g d_ra d_rb d_rc d_t s1 1 N u_743 hc_744 _) (cwV 2 hts gX5_points_X5_fails rfl rfl rfl (by decide +kernel) ⟨Nat.le_of_ble_eq_true rfl, Nat.le_of_ble_eq_true rfl⟩) (wPreV hP hD hK [0, 1, 2, 3, 4, 5, 6, 7, 8, 9, 10, 11, 12] rfl rfl (ci := 5) (qb := 0) rfl rfl rfl) rfl rfl hl.1 rfl (lv_room (Nat.le_of_ble_eq_true rfl)) dX5_points_24 ⟨Nat.zero_le _, Nat.zero_le _⟩) hP hD hS hA [0, 1, 2, 3, 4, 5, 6, 7, 8, 9, 10, 11, 12] [] [0, 1, 2, 3, 4, 5, 6, 7, 8, 9, 10, 11, 12] rfl rfl rfl (by decide) rfl rfl (fun H locs hP hD hS => ?_)
    refine lv_if_eq (tgt := 32) hx hb dX5_points_27 (by decide) (fun c_745 => ?_) (fun c_745 => ?_)
    · have h := ip c_745 h
      refine lv_iconst (v := 0) hx hb dX5_points_32 (by decide) ?_
      refine lv_istore_n (lv' := [(2, .int 0), (0, .ref d0), (1, .int x1)]) hx hb dX5_points_33 rfl hl (by decide) rfl (fun ls hl => ?_)
      refine lv_iconst (v := 0) hx hb dX5_points_34 (by decide) ?_
      refine lv_istore_n (lv' := [(3, .int 0), (2, .int 0), (0, .ref d0), (1, .int x1)]) hx hb dX5_points_35 rfl hl (by decide) rfl (fun ls hl => ?_)
      exact w_36  _ _ ()  N _ _  _ _ _ hP hD hS (lv_sub hl [2, 3, 1, 0] rfl) h
    · have h := iq c_745 h
      refine lv_iconst (v := 0) hx hb dX5_points_30 (by decide) ?_
      obtain rfl := Option.some.inj h
      exact wri hx hb hr hlocks hP hD hS (Nat.le_of_ble_eq_true rfl) (Nat.le_of_ble_eq_true rfl) rfl dX5_points_31
  rw [fX5_points.eq_1] at h
  refine lv_aload_n hx hb dX5_points_0 rfl (lv_at hl 0 rfl) ?_
  refine lv_iload_n hx hb dX5_points_1 rfl (lv_at hl 1 rfl) ?_
  refine lv_iconst (v := 2) hx hb dX5_points_2 (by decide) ?_
  refine lv_bipush (v := 31) hx hb dX5_points_3 (by decide) ?_
  obtain ⟨u_746, hc_747, h⟩ := bd_inv h
  refine wafter_i (wr := (w_D G d0 d1 d2 d3 d4 d5 d6 d7 d8 d9 d10 d11 d12 d_n d_a d_b d_c d_k d_x d_y d_d d_r d_w d_e d_1 d_2 d_o d_g d_ra d_rb d_rc d_t)) (w2 := (w_D G d0 d1 d2 d3 d4 d5 d6 d7 d8 d9 d10 d11 d12 d_n d_a d_b d_c d_k d_x d_y d_d d_r d_w d_e d_1 d_2 d_o d_g d_ra d_rb d_rc d_t)) (va_runS (As := [.int x1, .int 2, .int 31]) (rest := [.ref d0]) ⟨hx, hb, hml, hown, hts⟩ (kX5_in (l := l) (G := G)   x1 2 31 N u_746 hc_747 _) (va_cwS 3 hts gX5_points_X5_in rfl rfl rfl (by decide +kernel) ⟨Nat.le_of_ble_eq_true rfl, Nat.le_of_ble_eq_true rfl⟩) (wPreS hP hD hK [] rfl rfl) rfl rfl hl.1 rfl (lv_room (Nat.le_of_ble_eq_true rfl)) dX5_points_5 ⟨Nat.zero_le _, Nat.zero_le _⟩) hP hD hS hA [] [0, 1, 2, 3, 4, 5, 6, 7, 8, 9, 10, 11, 12] [0, 1, 2, 3, 4, 5, 6, 7, 8, 9, 10, 11, 12] rfl rfl rfl (by decide) rfl rfl (fun H locs hP hD hS => ?_)
  refine lv_if_eq (tgt := 22) hx hb dX5_points_8 (by decide) (fun c_748 => ?_) (fun c_748 => ?_)
  · have h := ip c_748 h
    refine lv_iconst (v := 0) hx hb dX5_points_22 (by decide) ?_
    exact w_23  _ _ _ _ _ _  hP hD hS (lv_sub hl [0, 1] rfl) h
  · have h := iq c_748 h
    refine lv_iload_n hx hb dX5_points_11 rfl (lv_at hl 1 rfl) ?_
    obtain ⟨u_749, hc_750, h⟩ := bd_inv h
    refine wafter_i (wr := (w_D G d0 d1 d2 d3 d4 d5 d6 d7 d8 d9 d10 d11 d12 d_n d_a d_b d_c d_k d_x d_y d_d d_r d_w d_e d_1 d_2 d_o d_g d_ra d_rb d_rc d_t)) (w2 := (w_D G d0 d1 d2 d3 d4 d5 d6 d7 d8 d9 d10 d11 d12 d_n d_a d_b d_c d_k d_x d_y d_d d_r d_w d_e d_1 d_2 d_o d_g d_ra d_rb d_rc d_t)) (va_runS (As := [.int x1]) (rest := [.ref d0]) ⟨hx, hb, hml, hown, hts⟩ (kX5_isPrime (l := l) (G := G)   x1 N u_749 hc_750 _) (va_cwS 1 hts gX5_points_X5_isPrime rfl rfl rfl (by decide +kernel) ⟨Nat.le_of_ble_eq_true rfl, Nat.le_of_ble_eq_true rfl⟩) (wPreS hP hD hK [] rfl rfl) rfl rfl hl.1 rfl (lv_room (Nat.le_of_ble_eq_true rfl)) dX5_points_12 ⟨Nat.zero_le _, Nat.zero_le _⟩) hP hD hS hA [] [0, 1, 2, 3, 4, 5, 6, 7, 8, 9, 10, 11, 12] [0, 1, 2, 3, 4, 5, 6, 7, 8, 9, 10, 11, 12] rfl rfl rfl (by decide) rfl rfl (fun H locs hP hD hS => ?_)
    refine lv_if_eq (tgt := 22) hx hb dX5_points_15 (by decide) (fun c_751 => ?_) (fun c_751 => ?_)
    · have h := ip c_751 h
      refine lv_iconst (v := 0) hx hb dX5_points_22 (by decide) ?_
      exact w_23  _ _ _ _ _ _  hP hD hS (lv_sub hl [0, 1] rfl) h
    · have h := iq c_751 h
      refine lv_iconst (v := 1) hx hb dX5_points_18 (by decide) ?_
      refine lv_goto (tgt := 23) hx hb dX5_points_19 (by decide) ?_
      exact w_23  _ _ _ _ _ _  hP hD hS (lv_sub hl [0, 1] rfl) h
def fX5_along (N : Nat) (d_a : Nat → Int32) (d_b : Nat → Int32) (d_c : Nat → Int32) (d_x : Nat → Int32) (d_y : Nat → Int32) (d_d : Nat → Int32) (x1 : Int32) (x2 : Int32) (x3 : Int32) (x4 : Int32) : Option (Int32) := bd (fX5_side N d_a d_b d_c d_x d_y d_d x1 x2) (fun u_752 => if u_752 = 0 then rd d_b 9 x1 (fun v_755 => rd d_a 9 x3 (fun v_756 => rd d_a 9 x1 (fun v_757 => rd d_b 9 x3 (fun v_758 => bd (fX5_sign N ((v_755 * v_756) - (v_757 * v_758))) (fun u_759 => some ((x4 * u_759))))))) else some u_752)
set_option maxHeartbeats 4000000 in
set_option maxRecDepth 100000 in
theorem kX5_along {l : Launch} {G : wG} (d0 d1 d2 d3 d4 d5 d6 d7 d8 d9 d10 d11 d12 : Nat) (d_n : Int32) (d_a : Nat → Int32) (d_b : Nat → Int32) (d_c : Nat → Int32) (d_k : Int32) (d_x : Nat → Int32) (d_y : Nat → Int32) (d_d : Nat → Int32) (d_r : Nat → Int32) (d_w : Nat → Int32) (d_e : Int32) (d_1 : Nat → Int32) (d_2 : Nat → Int32) (d_o : Nat → Int32) (d_g : Nat → Int32) (d_ra : Int32) (d_rb : Int32) (d_rc : Int32) (d_t : Int32) (x1 : Int32) (x2 : Int32) (x3 : Int32) (x4 : Int32) (N : Nat) (v : Int32) (h : fX5_along N d_a d_b d_c d_x d_y d_d x1 x2 x3 x4 = some v) : wCi l G yX5_along wsX5_along ({ frames := 2, cells := 0, slots := 0, locals := 42 } : Room) [.ref d0, .int x1, .int x2, .int x3, .int x4] (w_D G d0 d1 d2 d3 d4 d5 d6 d7 d8 d9 d10 d11 d12 d_n d_a d_b d_c d_k d_x d_y d_d d_r d_w d_e d_1 d_2 d_o d_g d_ra d_rb d_rc d_t) (w_D G d0 d1 d2 d3 d4 d5 d6 d7 d8 d9 d10 d11 d12 d_n d_a d_b d_c d_k d_x d_y d_d d_r d_w d_e d_1 d_2 d_o d_g d_ra d_rb d_rc d_t) 0 0 v := by
  refine wCi.mk (cc := cX5_along) (maxL := 6) (ty := .int) (by decide) rfl (Nat.le_of_ble_eq_true rfl) ?_
  intro p e s m below meth c A ls hx hb hml hr hlocks hts hown hK hA hP hD hl
  have hx : p.tables.exec = Jvm.exec := hx
  have hown : s.vm.findClass RX5 = some m.cls := hown
  have hinX5 : ∀ w ∈ wsX50, w ∈ wsX5_along := by decide +kernel
  have lk13 := hts (.fieldLink RX5 13 "ChamberwrightModel" "lb" "[I") (by decide +kernel)
  have lk7 := hts (.fieldLink RX5 7 "ChamberwrightModel" "la" "[I") (by decide +kernel)
  have hS : va_S A s.heap s.heap [] := va_S.rf
  have hP : va_P G.1 vwCl (w_D G d0 d1 d2 d3 d4 d5 d6 d7 d8 d9 d10 d11 d12 d_n d_a d_b d_c d_k d_x d_y d_d d_r d_w d_e d_1 d_2 d_o d_g d_ra d_rb d_rc d_t) s.heap := hP
  have hD : va_D A (w_D G d0 d1 d2 d3 d4 d5 d6 d7 d8 d9 d10 d11 d12 d_n d_a d_b d_c d_k d_x d_y d_d d_r d_w d_e d_1 d_2 d_o d_g d_ra d_rb d_rc d_t) := hD
  have hl : lv_has ls 6 [(0, .ref d0), (1, .int x1), (2, .int x2), (3, .int x3), (4, .int x4)] := hl
  obtain ⟨args, hargs⟩ : ∃ z : Array Value, z = ([.ref d0, .int x1, .int x2, .int x3, .int x4] : List Value).toArray := ⟨_, rfl⟩
  rw [← hargs]
  rw [← hargs] at hts
  rw [fX5_along.eq_1] at h
  refine lv_aload_n hx hb dX5_along_0 rfl (lv_at hl 0 rfl) ?_
  refine lv_iload_n hx hb dX5_along_1 rfl (lv_at hl 1 rfl) ?_
  refine lv_iload_n hx hb dX5_along_2 rfl (lv_at hl 2 rfl) ?_
  obtain ⟨u_752, hc_753, h⟩ := bd_inv h
  refine wafter_i (wr := []) (w2 := (w_D G d0 d1 d2 d3 d4 d5 d6 d7 d8 d9 d10 d11 d12 d_n d_a d_b d_c d_k d_x d_y d_d d_r d_w d_e d_1 d_2 d_o d_g d_ra d_rb d_rc d_t)) (va_runV (As := [.int x1, .int x2]) (rest := []) ⟨hx, hb, hml, hown, hts⟩ (kX5_side (l := l) (G := G) d0 d1 d2 d3 d4 d5 d6 d7 d8 d9 d10 d11 d12 d_n d_a d_b d_c d_k d_x d_y d_d d_r d_w d_e d_1 d_2 d_o d_g d_ra d_rb d_rc d_t x1 x2 N u_752 hc_753 _) (cwV 2 hts gX5_along_X5_side rfl rfl rfl (by decide +kernel) ⟨Nat.le_of_ble_eq_true rfl, Nat.le_of_ble_eq_true rfl⟩) (wPreV hP hD hK [0, 1, 2, 3, 4, 5, 6, 7, 8, 9, 10, 11, 12] rfl rfl (ci := 5) (qb := 0) rfl rfl rfl) rfl rfl hl.1 rfl (lv_room (Nat.le_of_ble_eq_true rfl)) dX5_along_3 ⟨Nat.zero_le _, Nat.zero_le _⟩) hP hD hS hA [0, 1, 2, 3, 4, 5, 6, 7, 8, 9, 10, 11, 12] [] [0, 1, 2, 3, 4, 5, 6, 7, 8, 9, 10, 11, 12] rfl rfl rfl (by decide) rfl rfl (fun H locs hP hD hS => ?_)
  refine lv_istore (lv' := [(5, .int u_752), (0, .ref d0), (1, .int x1), (2, .int x2), (3, .int x3), (4, .int x4)]) hx hb dX5_along_6 hl (by decide) rfl (fun ls hl => ?_)
  refine lv_iload hx hb dX5_along_8 (lv_at hl 0 rfl) ?_
  refine lv_if_eq (tgt := 18) hx hb dX5_along_10 (by decide) (fun c_754 => ?_) (fun c_754 => ?_)
  · have h := ip c_754 h
    refine lv_iload hx hb dX5_along_18 (lv_at hl 5 rfl) ?_
    refine lv_aload_n hx hb dX5_along_20 rfl (lv_at hl 1 rfl) ?_
    refine va_get (D := G.1) (ci := 5) (v := .ref d2) (C := RX5) (T := TX5) (N := 19) hx hb hts hinX5 hown hK.1 hP 0 rfl rfl 2 (by decide) lk13 (fun _ h9 => h9) rfl dX5_along_21 ?_
    refine lv_iload_n hx hb dX5_along_24 rfl (lv_at hl 2 rfl) ?_
    refine wiald h hx hb hK hP 2 rfl dX5_along_25 (fun v_755 h => ?_)
    refine lv_aload_n hx hb dX5_along_26 rfl (lv_at hl 1 rfl) ?_
    refine va_get (D := G.1) (ci := 5) (v := .ref d1) (C := RX5) (T := TX5) (N := 19) hx hb hts hinX5 hown hK.1 hP 0 rfl rfl 1 (by decide) lk7 (fun _ h9 => h9) rfl dX5_along_27 ?_
    refine lv_iload_n hx hb dX5_along_30 rfl (lv_at hl 4 rfl) ?_
    refine wiald h hx hb hK hP 1 rfl dX5_along_31 (fun v_756 h => ?_)
    refine lv_imul hx hb dX5_along_32 ?_
    refine lv_aload_n hx hb dX5_along_33 rfl (lv_at hl 1 rfl) ?_
    refine va_get (D := G.1) (ci := 5) (v := .ref d1) (C := RX5) (T := TX5) (N := 19) hx hb hts hinX5 hown hK.1 hP 0 rfl rfl 1 (by decide) lk7 (fun _ h9 => h9) rfl dX5_along_34 ?_
    refine lv_iload_n hx hb dX5_along_37 rfl (lv_at hl 2 rfl) ?_
    refine wiald h hx hb hK hP 1 rfl dX5_along_38 (fun v_757 h => ?_)
    refine lv_aload_n hx hb dX5_along_39 rfl (lv_at hl 1 rfl) ?_
    refine va_get (D := G.1) (ci := 5) (v := .ref d2) (C := RX5) (T := TX5) (N := 19) hx hb hts hinX5 hown hK.1 hP 0 rfl rfl 2 (by decide) lk13 (fun _ h9 => h9) rfl dX5_along_40 ?_
    refine lv_iload_n hx hb dX5_along_43 rfl (lv_at hl 4 rfl) ?_
    refine wiald h hx hb hK hP 2 rfl dX5_along_44 (fun v_758 h => ?_)
    refine lv_imul hx hb dX5_along_45 ?_
    refine lv_isub hx hb dX5_along_46 ?_
    obtain ⟨u_759, hc_760, h⟩ := bd_inv h
    refine wafter_i (wr := (w_D G d0 d1 d2 d3 d4 d5 d6 d7 d8 d9 d10 d11 d12 d_n d_a d_b d_c d_k d_x d_y d_d d_r d_w d_e d_1 d_2 d_o d_g d_ra d_rb d_rc d_t)) (w2 := (w_D G d0 d1 d2 d3 d4 d5 d6 d7 d8 d9 d10 d11 d12 d_n d_a d_b d_c d_k d_x d_y d_d d_r d_w d_e d_1 d_2 d_o d_g d_ra d_rb d_rc d_t)) (va_runS (As := [.int ((v_755 * v_756) - (v_757 * v_758))]) (rest := [.int x4]) ⟨hx, hb, hml, hown, hts⟩ (kX5_sign (l := l) (G := G)   ((v_755 * v_756) - (v_757 * v_758)) N u_759 hc_760 _) (va_cwS 1 hts gX5_along_X5_sign rfl rfl rfl (by decide +kernel) ⟨Nat.le_of_ble_eq_true rfl, Nat.le_of_ble_eq_true rfl⟩) (wPreS hP hD hK [] rfl rfl) rfl rfl hl.1 rfl (lv_room (Nat.le_of_ble_eq_true rfl)) dX5_along_47 ⟨Nat.zero_le _, Nat.zero_le _⟩) hP hD hS hA [] [0, 1, 2, 3, 4, 5, 6, 7, 8, 9, 10, 11, 12] [0, 1, 2, 3, 4, 5, 6, 7, 8, 9, 10, 11, 12] rfl rfl rfl (by decide) rfl rfl (fun H locs hP hD hS => ?_)
    refine lv_imul hx hb dX5_along_50 ?_
    obtain rfl := Option.some.inj h
    exact wri hx hb hr hlocks hP hD hS (Nat.le_of_ble_eq_true rfl) (Nat.le_of_ble_eq_true rfl) rfl dX5_along_51
  · have h := iq c_754 h
    refine lv_iload hx hb dX5_along_13 (lv_at hl 0 rfl) ?_
    refine lv_goto (tgt := 51) hx hb dX5_along_15 (by decide) ?_
    obtain rfl := Option.some.inj h
    exact wri hx hb hr hlocks hP hD hS (Nat.le_of_ble_eq_true rfl) (Nat.le_of_ble_eq_true rfl) rfl dX5_along_51
def fX5_findRooms_b6 (N : Nat) (d_n : Int32) (k_41 : (Nat → Int32) → Option (Int32 × (Nat → Int32) × (Nat → Int32) × (Nat → Int32) × (Nat → Int32))) : Nat → Int32 → (Nat → Int32) → Option (Int32 × (Nat → Int32) × (Nat → Int32) × (Nat → Int32) × (Nat → Int32))
  | 0, _, _ => none
  | n + 1, x1, d_r => if 512 ≤ x1 then k_41 d_r else if x1 = 0 then if d_n = 0 then ck 512 x1 (fX5_findRooms_b6 N d_n k_41 n (x1 + 1) ((upd d_r (Int32.toNatClampNeg x1) (vp_nar .boolean 1)))) else ck 512 x1 (fX5_findRooms_b6 N d_n k_41 n (x1 + 1) ((upd d_r (Int32.toNatClampNeg x1) (vp_nar .boolean 0)))) else ck 512 x1 (fX5_findRooms_b6 N d_n k_41 n (x1 + 1) ((upd d_r (Int32.toNatClampNeg x1) (vp_nar .boolean 0))))
def fX5_findRooms_b83 (N : Nat) (d_n : Int32) (d_a : Nat → Int32) (d_b : Nat → Int32) (d_c : Nat → Int32) (d_x : Nat → Int32) (d_y : Nat → Int32) (d_d : Nat → Int32) (x1 : Int32) (x2 : Int32) (x3 : Int32) (k_129 : Int32 → Option (Int32 × (Nat → Int32) × (Nat → Int32) × (Nat → Int32) × (Nat → Int32))) : Nat → Int32 → Int32 → Option (Int32 × (Nat → Int32) × (Nat → Int32) × (Nat → Int32) × (Nat → Int32))
  | 0, _, _ => none
  | n + 1, x4, x5 => if d_n ≤ x5 then k_129 x4 else if x5 = x2 then fX5_findRooms_b83 N d_n d_a d_b d_c d_x d_y d_d x1 x2 x3 k_129 n (x4 ||| 0) (x5 + 1) else bd (fX5_along N d_a d_b d_c d_x d_y d_d x5 x1 x2 x3) (fun u_766 => if u_766 ≤ 0 then fX5_findRooms_b83 N d_n d_a d_b d_c d_x d_y d_d x1 x2 x3 k_129 n (x4 ||| 0) (x5 + 1) else nm (x4 ||| (1 <<< (x5 &&& 31))) (fun x4_769 => fX5_findRooms_b83 N d_n d_a d_b d_c d_x d_y d_d x1 x2 x3 k_129 n x4_769 (x5 + 1)))
def fX5_findRooms_b63 (N : Nat) (d_n : Int32) (d_a : Nat → Int32) (d_b : Nat → Int32) (d_c : Nat → Int32) (d_x : Nat → Int32) (d_y : Nat → Int32) (d_d : Nat → Int32) (x1 : Int32) (x2 : Int32) (k_155 : (Nat → Int32) → Option (Int32 × (Nat → Int32) × (Nat → Int32) × (Nat → Int32) × (Nat → Int32))) : Nat → Int32 → (Nat → Int32) → Option (Int32 × (Nat → Int32) × (Nat → Int32) × (Nat → Int32) × (Nat → Int32))
  | 0, _, _ => none
  | n + 1, x3, d_r => if 2 ≤ x3 then k_155 d_r else bd (fX5_side N d_a d_b d_c d_x d_y d_d x2 x1) (fun u_771 => if u_771 = 0 then fX5_findRooms_b83 N d_n d_a d_b d_c d_x d_y d_d x1 x2 x3 (fun (x4_774 : Int32) => ck 512 x4_774 (ck 512 (x4_774 ||| (1 <<< (x2 &&& 31))) (fX5_findRooms_b63 N d_n d_a d_b d_c d_x d_y d_d x1 x2 k_155 n (x3 + 2) ((upd ((upd d_r (Int32.toNatClampNeg x4_774) (vp_nar .boolean 1))) (Int32.toNatClampNeg (x4_774 ||| (1 <<< (x2 &&& 31)))) (vp_nar .boolean 1)))))) N 0 0 else k_155 d_r)
def fX5_findRooms_b53 (N : Nat) (d_n : Int32) (d_a : Nat → Int32) (d_b : Nat → Int32) (d_c : Nat → Int32) (d_x : Nat → Int32) (d_y : Nat → Int32) (d_d : Nat → Int32) (x1 : Int32) (k_161 : (Nat → Int32) → Option (Int32 × (Nat → Int32) × (Nat → Int32) × (Nat → Int32) × (Nat → Int32))) : Nat → Int32 → (Nat → Int32) → Option (Int32 × (Nat → Int32) × (Nat → Int32) × (Nat → Int32) × (Nat → Int32))
  | 0, _, _ => none
  | n + 1, x2, d_r => if d_n ≤ x2 then k_161 d_r else fX5_findRooms_b63 N d_n d_a d_b d_c d_x d_y d_d x1 x2 (fun (d_r_776 : Nat → Int32) => fX5_findRooms_b53 N d_n d_a d_b d_c d_x d_y d_d x1 k_161 n (x2 + 1) d_r_776) N (-1) d_r
def fX5_findRooms_b43 (N : Nat) (d_n : Int32) (d_a : Nat → Int32) (d_b : Nat → Int32) (d_c : Nat → Int32) (d_k : Int32) (d_x : Nat → Int32) (d_y : Nat → Int32) (d_d : Nat → Int32) (k_167 : (Nat → Int32) → Option (Int32 × (Nat → Int32) × (Nat → Int32) × (Nat → Int32) × (Nat → Int32))) : Nat → Int32 → (Nat → Int32) → Option (Int32 × (Nat → Int32) × (Nat → Int32) × (Nat → Int32) × (Nat → Int32))
  | 0, _, _ => none
  | n + 1, x1, d_r => if d_k ≤ x1 then k_167 d_r else fX5_findRooms_b53 N d_n d_a d_b d_c d_x d_y d_d x1 (fun (d_r_778 : Nat → Int32) => fX5_findRooms_b43 N d_n d_a d_b d_c d_k d_x d_y d_d k_167 n (x1 + 1) d_r_778) N 0 d_r
def fX5_findRooms_b217 (N : Nat) (d_n : Int32) (d_a : Nat → Int32) (d_b : Nat → Int32) (d_c : Nat → Int32) (x1 : Int32) (x2 : Int32) (k_307 : Int32 → Option (Int32 × (Nat → Int32) × (Nat → Int32) × (Nat → Int32) × (Nat → Int32))) : Nat → Int32 → Int32 → Option (Int32 × (Nat → Int32) × (Nat → Int32) × (Nat → Int32) × (Nat → Int32))
  | 0, _, _ => none
  | n + 1, x3, x4 => if d_n ≤ x4 then k_307 x3 else rd d_a 9 x4 (fun v_780 => rd d_a 9 0 (fun v_781 => rd d_b 9 x4 (fun v_782 => rd d_b 9 0 (fun v_783 => nm ((v_780 * v_781) + (v_782 * v_783)) (fun x5_784 => if x4 = x1 then fX5_findRooms_b217 N d_n d_a d_b d_c x1 x2 k_307 n (x3 ||| 0) (x4 + 1) else rd d_c 9 x1 (fun v_786 => rd d_c 9 x4 (fun v_787 => bd (fX5_sign N x2) (fun u_788 => if (((v_786 * x5_784) - (v_787 * x2)) * u_788) ≤ 0 then fX5_findRooms_b217 N d_n d_a d_b d_c x1 x2 k_307 n (x3 ||| 0) (x4 + 1) else nm (x3 ||| (1 <<< (x4 &&& 31))) (fun x3_791 => fX5_findRooms_b217 N d_n d_a d_b d_c x1 x2 k_307 n x3_791 (x4 + 1))))))))))
def fX5_findRooms_b169 (N : Nat) (d_n : Int32) (d_a : Nat → Int32) (d_b : Nat → Int32) (d_c : Nat → Int32) (d_k : Int32) (d_x : Nat → Int32) (d_y : Nat → Int32) (d_d : Nat → Int32) : Nat → Int32 → (Nat → Int32) → Option (Int32 × (Nat → Int32) × (Nat → Int32) × (Nat → Int32) × (Nat → Int32))
  | 0, _, _ => none
  | n + 1, x1, d_r => if d_n ≤ x1 then some (d_k, d_x, d_y, d_d, d_r) else if d_k = 0 then rd d_a 9 x1 (fun v_794 => rd d_a 9 0 (fun v_795 => rd d_b 9 x1 (fun v_796 => rd d_b 9 0 (fun v_797 => nm ((v_794 * v_795) + (v_796 * v_797)) (fun x2_798 => fX5_findRooms_b217 N d_n d_a d_b d_c x1 x2_798 (fun (x3_799 : Int32) => ck 512 x3_799 (ck 512 (x3_799 ||| (1 <<< (x1 &&& 31))) (fX5_findRooms_b169 N d_n d_a d_b d_c d_k d_x d_y d_d n (x1 + 1) ((upd ((upd d_r (Int32.toNatClampNeg x3_799) (vp_nar .boolean 1))) (Int32.toNatClampNeg (x3_799 ||| (1 <<< (x1 &&& 31)))) (vp_nar .boolean 1)))))) N 0 0))))) else some (d_k, d_x, d_y, d_d, d_r)
def fX5_findRooms (N : Nat) (d_n : Int32) (d_a : Nat → Int32) (d_b : Nat → Int32) (d_c : Nat → Int32) (d_k : Int32) (d_x : Nat → Int32) (d_y : Nat → Int32) (d_d : Nat → Int32) (d_r : Nat → Int32) : Option (Int32 × (Nat → Int32) × (Nat → Int32) × (Nat → Int32) × (Nat → Int32)) := bd (fX5_findMeets N d_n d_a d_b d_c d_k d_x d_y d_d) (fun u_800 => fX5_findRooms_b6 N d_n (fun (d_r_802 : Nat → Int32) => fX5_findRooms_b43 N d_n d_a d_b d_c u_800.1 u_800.2.1 u_800.2.2.1 u_800.2.2.2 (fun (d_r_803 : Nat → Int32) => fX5_findRooms_b169 N d_n d_a d_b d_c u_800.1 u_800.2.1 u_800.2.2.1 u_800.2.2.2 N 0 d_r_803) N 0 d_r_802) N 0 d_r)
set_option maxHeartbeats 4000000 in
set_option maxRecDepth 100000 in
theorem kX5_findRooms {l : Launch} {G : wG} (d0 d1 d2 d3 d4 d5 d6 d7 d8 d9 d10 d11 d12 : Nat) (d_n : Int32) (d_a : Nat → Int32) (d_b : Nat → Int32) (d_c : Nat → Int32) (d_k : Int32) (d_x : Nat → Int32) (d_y : Nat → Int32) (d_d : Nat → Int32) (d_r : Nat → Int32) (d_w : Nat → Int32) (d_e : Int32) (d_1 : Nat → Int32) (d_2 : Nat → Int32) (d_o : Nat → Int32) (d_g : Nat → Int32) (d_ra : Int32) (d_rb : Int32) (d_rc : Int32) (d_t : Int32) (N : Nat) (v : Int32 × (Nat → Int32) × (Nat → Int32) × (Nat → Int32) × (Nat → Int32)) (h : fX5_findRooms N d_n d_a d_b d_c d_k d_x d_y d_d d_r = some v) : wCv l G yX5_findRooms wsX5_findRooms ({ frames := 3, cells := 0, slots := 0, locals := 74 } : Room) [.ref d0] (w_D G d0 d1 d2 d3 d4 d5 d6 d7 d8 d9 d10 d11 d12 d_n d_a d_b d_c d_k d_x d_y d_d d_r d_w d_e d_1 d_2 d_o d_g d_ra d_rb d_rc d_t) (w_D G d0 d1 d2 d3 d4 d5 d6 d7 d8 d9 d10 d11 d12 d_n d_a d_b d_c v.1 v.2.1 v.2.2.1 v.2.2.2.1 v.2.2.2.2 d_w d_e d_1 d_2 d_o d_g d_ra d_rb d_rc d_t) 0 0 := by
  refine wCv.mk (cc := cX5_findRooms) (maxL := 6) (by decide) rfl (Nat.le_of_ble_eq_true rfl) ?_
  intro p e s m below meth c A ls hx hb hml hr hlocks hts hown hK hA hP hD hl
  have hx : p.tables.exec = Jvm.exec := hx
  have hown : s.vm.findClass RX5 = some m.cls := hown
  have hinX5 : ∀ w ∈ wsX50, w ∈ wsX5_findRooms := by decide +kernel
  have lk13 := hts (.fieldLink RX5 13 "ChamberwrightModel" "lb" "[I") (by decide +kernel)
  have lk16 := hts (.fieldLink RX5 16 "ChamberwrightModel" "lc" "[I") (by decide +kernel)
  have lk28 := hts (.fieldLink RX5 28 "ChamberwrightModel" "isRoom" "[Z") (by decide +kernel)
  have lk51 := hts (.fieldLink RX5 51 "ChamberwrightModel" "lines" "I") (by decide +kernel)
  have lk7 := hts (.fieldLink RX5 7 "ChamberwrightModel" "la" "[I") (by decide +kernel)
  have lk78 := hts (.fieldLink RX5 78 "ChamberwrightModel" "meets" "I") (by decide +kernel)
  have hS : va_S A s.heap s.heap [] := va_S.rf
  have hP : va_P G.1 vwCl (w_D G d0 d1 d2 d3 d4 d5 d6 d7 d8 d9 d10 d11 d12 d_n d_a d_b d_c d_k d_x d_y d_d d_r d_w d_e d_1 d_2 d_o d_g d_ra d_rb d_rc d_t) s.heap := hP
  have hD : va_D A (w_D G d0 d1 d2 d3 d4 d5 d6 d7 d8 d9 d10 d11 d12 d_n d_a d_b d_c d_k d_x d_y d_d d_r d_w d_e d_1 d_2 d_o d_g d_ra d_rb d_rc d_t) := hD
  have hl : lv_has ls 6 [(0, .ref d0)] := hl
  obtain ⟨args, hargs⟩ : ∃ z : Array Value, z = ([.ref d0] : List Value).toArray := ⟨_, rfl⟩
  rw [← hargs]
  rw [← hargs] at hts
  have w_6 : ∀ (k_41 : (Nat → Int32) → Option (Int32 × (Nat → Int32) × (Nat → Int32) × (Nat → Int32) × (Nat → Int32)))  (d_k : Int32) (d_x : Nat → Int32) (d_y : Nat → Int32) (d_d : Nat → Int32) (_z : Unit), (∀ (yd_r : Nat → Int32) (H : Heap) (locs : List Loc) (ls : Array Slot), va_P G.1 vwCl (w_D G d0 d1 d2 d3 d4 d5 d6 d7 d8 d9 d10 d11 d12 d_n d_a d_b d_c d_k d_x d_y d_d yd_r d_w d_e d_1 d_2 d_o d_g d_ra d_rb d_rc d_t) H → va_D A (w_D G d0 d1 d2 d3 d4 d5 d6 d7 d8 d9 d10 d11 d12 d_n d_a d_b d_c d_k d_x d_y d_d yd_r d_w d_e d_1 d_2 d_o d_g d_ra d_rb d_rc d_t) → va_S A s.heap H locs → lv_has ls 6 [(0, .ref d0)] → k_41 yd_r = some v → W p l e ({ frames := 3, cells := 0, slots := 0, locals := 74 } : Room) s m args below meth c H locs 0 0 (wQv G A below args s (w_D G d0 d1 d2 d3 d4 d5 d6 d7 d8 d9 d10 d11 d12 d_n d_a d_b d_c v.1 v.2.1 v.2.2.1 v.2.2.2.1 v.2.2.2.2 d_w d_e d_1 d_2 d_o d_g d_ra d_rb d_rc d_t) 0 0) (F0 m 41 ls [])) → ∀ (n : Nat) (x1 : Int32) (d_r : Nat → Int32) (H : Heap) (locs : List Loc) (ls : Array Slot), va_P G.1 vwCl (w_D G d0 d1 d2 d3 d4 d5 d6 d7 d8 d9 d10 d11 d12 d_n d_a d_b d_c d_k d_x d_y d_d d_r d_w d_e d_1 d_2 d_o d_g d_ra d_rb d_rc d_t) H → va_D A (w_D G d0 d1 d2 d3 d4 d5 d6 d7 d8 d9 d10 d11 d12 d_n d_a d_b d_c d_k d_x d_y d_d d_r d_w d_e d_1 d_2 d_o d_g d_ra d_rb d_rc d_t) → va_S A s.heap H locs → lv_has ls 6 [(0, .ref d0), (1, .int x1)] → fX5_findRooms_b6 N d_n k_41 n x1 d_r = some v → W p l e ({ frames := 3, cells := 0, slots := 0, locals := 74 } : Room) s m args below meth c H locs 0 0 (wQv G A below args s (w_D G d0 d1 d2 d3 d4 d5 d6 d7 d8 d9 d10 d11 d12 d_n d_a d_b d_c v.1 v.2.1 v.2.2.1 v.2.2.2.1 v.2.2.2.2 d_w d_e d_1 d_2 d_o d_g d_ra d_rb d_rc d_t) 0 0) (F0 m 6 ls []) := by
    intro k_41 d_k d_x d_y d_d _z hk_41 n
    induction n with
    | zero =>
      intro x1 d_r H locs ls hP hD hS hl h
      rw [fX5_findRooms_b6.eq_1] at h
      cases h
    | succ n ih =>
      intro x1 d_r H locs ls hP hD hS hl h
      rw [fX5_findRooms_b6.eq_2] at h
      refine lv_iload_n hx hb dX5_findRooms_6 rfl (lv_at hl 1 rfl) ?_
      refine lv_sipush (v := 512) hx hb dX5_findRooms_7 (by decide) ?_
      refine lv_icmp_ge (tgt := 41) hx hb dX5_findRooms_10 (by decide) (fun c_761 => ?_) (fun c_761 => ?_)
      · have h := ip c_761 h
        exact hk_41 _ _ _ _ hP hD hS (lv_sub hl [0] rfl) h
      · have h := iq c_761 h
        refine lv_aload_n hx hb dX5_findRooms_13 rfl (lv_at hl 0 rfl) ?_
        refine va_get (D := G.1) (ci := 5) (v := .ref d7) (C := RX5) (T := TX5) (N := 19) hx hb hts hinX5 hown hK.1 hP 0 rfl rfl 8 (by decide) lk28 (fun _ h9 => h9) rfl dX5_findRooms_14 ?_
        refine lv_iload_n hx hb dX5_findRooms_17 rfl (lv_at hl 1 rfl) ?_
        refine lv_iload_n hx hb dX5_findRooms_18 rfl (lv_at hl 1 rfl) ?_
        refine lv_if_ne (tgt := 33) hx hb dX5_findRooms_19 (by decide) (fun c_762 => ?_) (fun c_762 => ?_)
        · have h := iq c_762 h
          refine lv_iconst (v := 0) hx hb dX5_findRooms_33 (by decide) ?_
          refine wzast h hx hb hK hP hD hS 7 rfl dX5_findRooms_34 (fun H locs hP hD hS h => ?_)
          have hP : va_P G.1 vwCl (w_D G d0 d1 d2 d3 d4 d5 d6 d7 d8 d9 d10 d11 d12 d_n d_a d_b d_c d_k d_x d_y d_d ((upd d_r (Int32.toNatClampNeg x1) (vp_nar .boolean 0))) d_w d_e d_1 d_2 d_o d_g d_ra d_rb d_rc d_t) H := hP
          have hD : va_D A (w_D G d0 d1 d2 d3 d4 d5 d6 d7 d8 d9 d10 d11 d12 d_n d_a d_b d_c d_k d_x d_y d_d ((upd d_r (Int32.toNatClampNeg x1) (vp_nar .boolean 0))) d_w d_e d_1 d_2 d_o d_g d_ra d_rb d_rc d_t) := hD
          refine lv_iinc (v := (x1 + 1)) (lv' := [(1, .int (x1 + 1)), (0, .ref d0)]) hx hb dX5_findRooms_35 hl (k := 1) rfl rfl (by decide) rfl (fun ls hl => ?_)
          refine lv_goto (tgt := 6) hx hb dX5_findRooms_38 (by decide) ?_
          exact ih _ _ _ _ _ hP hD hS (lv_sub hl [1, 0] rfl) h
        · have h := ip c_762 h
          refine lv_aload_n hx hb dX5_findRooms_22 rfl (lv_at hl 0 rfl) ?_
          refine va_get (D := G.1) (ci := 5) (v := .int d_n) (C := RX5) (T := TX5) (N := 19) hx hb hts hinX5 hown hK.1 hP 0 rfl rfl 0 (by decide) lk51 (fun _ h9 => h9) rfl dX5_findRooms_23 ?_
          refine lv_if_ne (tgt := 33) hx hb dX5_findRooms_26 (by decide) (fun c_763 => ?_) (fun c_763 => ?_)
          · have h := iq c_763 h
            refine lv_iconst (v := 0) hx hb dX5_findRooms_33 (by decide) ?_
            refine wzast h hx hb hK hP hD hS 7 rfl dX5_findRooms_34 (fun H locs hP hD hS h => ?_)
            have hP : va_P G.1 vwCl (w_D G d0 d1 d2 d3 d4 d5 d6 d7 d8 d9 d10 d11 d12 d_n d_a d_b d_c d_k d_x d_y d_d ((upd d_r (Int32.toNatClampNeg x1) (vp_nar .boolean 0))) d_w d_e d_1 d_2 d_o d_g d_ra d_rb d_rc d_t) H := hP
            have hD : va_D A (w_D G d0 d1 d2 d3 d4 d5 d6 d7 d8 d9 d10 d11 d12 d_n d_a d_b d_c d_k d_x d_y d_d ((upd d_r (Int32.toNatClampNeg x1) (vp_nar .boolean 0))) d_w d_e d_1 d_2 d_o d_g d_ra d_rb d_rc d_t) := hD
            refine lv_iinc (v := (x1 + 1)) (lv' := [(1, .int (x1 + 1)), (0, .ref d0)]) hx hb dX5_findRooms_35 hl (k := 1) rfl rfl (by decide) rfl (fun ls hl => ?_)
            refine lv_goto (tgt := 6) hx hb dX5_findRooms_38 (by decide) ?_
            exact ih _ _ _ _ _ hP hD hS (lv_sub hl [1, 0] rfl) h
          · have h := ip c_763 h
            refine lv_iconst (v := 1) hx hb dX5_findRooms_29 (by decide) ?_
            refine lv_goto (tgt := 34) hx hb dX5_findRooms_30 (by decide) ?_
            refine wzast h hx hb hK hP hD hS 7 rfl dX5_findRooms_34 (fun H locs hP hD hS h => ?_)
            have hP : va_P G.1 vwCl (w_D G d0 d1 d2 d3 d4 d5 d6 d7 d8 d9 d10 d11 d12 d_n d_a d_b d_c d_k d_x d_y d_d ((upd d_r (Int32.toNatClampNeg x1) (vp_nar .boolean 1))) d_w d_e d_1 d_2 d_o d_g d_ra d_rb d_rc d_t) H := hP
            have hD : va_D A (w_D G d0 d1 d2 d3 d4 d5 d6 d7 d8 d9 d10 d11 d12 d_n d_a d_b d_c d_k d_x d_y d_d ((upd d_r (Int32.toNatClampNeg x1) (vp_nar .boolean 1))) d_w d_e d_1 d_2 d_o d_g d_ra d_rb d_rc d_t) := hD
            refine lv_iinc (v := (x1 + 1)) (lv' := [(1, .int (x1 + 1)), (0, .ref d0)]) hx hb dX5_findRooms_35 hl (k := 1) rfl rfl (by decide) rfl (fun ls hl => ?_)
            refine lv_goto (tgt := 6) hx hb dX5_findRooms_38 (by decide) ?_
            exact ih _ _ _ _ _ hP hD hS (lv_sub hl [1, 0] rfl) h
  have w_83 : ∀ (k_129 : Int32 → Option (Int32 × (Nat → Int32) × (Nat → Int32) × (Nat → Int32) × (Nat → Int32))) (x1 : Int32) (x2 : Int32) (x3 : Int32) (d_k : Int32) (d_x : Nat → Int32) (d_y : Nat → Int32) (d_d : Nat → Int32) (d_r : Nat → Int32) (_z : Unit), (∀ (y4 : Int32) (H : Heap) (locs : List Loc) (ls : Array Slot), va_P G.1 vwCl (w_D G d0 d1 d2 d3 d4 d5 d6 d7 d8 d9 d10 d11 d12 d_n d_a d_b d_c d_k d_x d_y d_d d_r d_w d_e d_1 d_2 d_o d_g d_ra d_rb d_rc d_t) H → va_D A (w_D G d0 d1 d2 d3 d4 d5 d6 d7 d8 d9 d10 d11 d12 d_n d_a d_b d_c d_k d_x d_y d_d d_r d_w d_e d_1 d_2 d_o d_g d_ra d_rb d_rc d_t) → va_S A s.heap H locs → lv_has ls 6 [(0, .ref d0), (1, .int x1), (2, .int x2), (3, .int x3), (4, .int y4)] → k_129 y4 = some v → W p l e ({ frames := 3, cells := 0, slots := 0, locals := 74 } : Room) s m args below meth c H locs 0 0 (wQv G A below args s (w_D G d0 d1 d2 d3 d4 d5 d6 d7 d8 d9 d10 d11 d12 d_n d_a d_b d_c v.1 v.2.1 v.2.2.1 v.2.2.2.1 v.2.2.2.2 d_w d_e d_1 d_2 d_o d_g d_ra d_rb d_rc d_t) 0 0) (F0 m 129 ls [])) → ∀ (n : Nat) (x4 : Int32) (x5 : Int32)  (H : Heap) (locs : List Loc) (ls : Array Slot), va_P G.1 vwCl (w_D G d0 d1 d2 d3 d4 d5 d6 d7 d8 d9 d10 d11 d12 d_n d_a d_b d_c d_k d_x d_y d_d d_r d_w d_e d_1 d_2 d_o d_g d_ra d_rb d_rc d_t) H → va_D A (w_D G d0 d1 d2 d3 d4 d5 d6 d7 d8 d9 d10 d11 d12 d_n d_a d_b d_c d_k d_x d_y d_d d_r d_w d_e d_1 d_2 d_o d_g d_ra d_rb d_rc d_t) → va_S A s.heap H locs → lv_has ls 6 [(0, .ref d0), (1, .int x1), (2, .int x2), (3, .int x3), (4, .int x4), (5, .int x5)] → fX5_findRooms_b83 N d_n d_a d_b d_c d_x d_y d_d x1 x2 x3 k_129 n x4 x5 = some v → W p l e ({ frames := 3, cells := 0, slots := 0, locals := 74 } : Room) s m args below meth c H locs 0 0 (wQv G A below args s (w_D G d0 d1 d2 d3 d4 d5 d6 d7 d8 d9 d10 d11 d12 d_n d_a d_b d_c v.1 v.2.1 v.2.2.1 v.2.2.2.1 v.2.2.2.2 d_w d_e d_1 d_2 d_o d_g d_ra d_rb d_rc d_t) 0 0) (F0 m 83 ls []) := by
    intro k_129 x1 x2 x3 d_k d_x d_y d_d d_r _z hk_129 n
    induction n with
    | zero =>
      intro x4 x5 H locs ls hP hD hS hl h
      rw [fX5_findRooms_b83.eq_1] at h
      cases h
    | succ n ih =>
      intro x4 x5 H locs ls hP hD hS hl h
      rw [fX5_findRooms_b83.eq_2] at h
      refine lv_iload hx hb dX5_findRooms_83 (lv_at hl 5 rfl) ?_
      refine lv_aload_n hx hb dX5_findRooms_85 rfl (lv_at hl 0 rfl) ?_
      refine va_get (D := G.1) (ci := 5) (v := .int d_n) (C := RX5) (T := TX5) (N := 19) hx hb hts hinX5 hown hK.1 hP 0 rfl rfl 0 (by decide) lk51 (fun _ h9 => h9) rfl dX5_findRooms_86 ?_
      refine lv_icmp_ge (tgt := 129) hx hb dX5_findRooms_89 (by decide) (fun c_764 => ?_) (fun c_764 => ?_)
      · have h := ip c_764 h
        exact hk_129 _ _ _ _ hP hD hS (lv_sub hl [0, 1, 2, 3, 4] rfl) h
      · have h := iq c_764 h
        refine lv_iload hx hb dX5_findRooms_92 (lv_at hl 4 rfl) ?_
        refine lv_iload hx hb dX5_findRooms_94 (lv_at hl 5 rfl) ?_
        refine lv_iload_n hx hb dX5_findRooms_96 rfl (lv_at hl 2 rfl) ?_
        refine lv_icmp_eq (tgt := 119) hx hb dX5_findRooms_97 (by decide) (fun c_765 => ?_) (fun c_765 => ?_)
        · have h := ip c_765 h
          refine lv_iconst (v := 0) hx hb dX5_findRooms_119 (by decide) ?_
          refine lv_ior hx hb dX5_findRooms_120 ?_
          refine lv_istore (lv' := [(4, .int (x4 ||| 0)), (0, .ref d0), (1, .int x1), (2, .int x2), (3, .int x3), (5, .int x5)]) hx hb dX5_findRooms_121 hl (by decide) rfl (fun ls hl => ?_)
          refine lv_iinc (v := (x5 + 1)) (lv' := [(5, .int (x5 + 1)), (4, .int (x4 ||| 0)), (0, .ref d0), (1, .int x1), (2, .int x2), (3, .int x3)]) hx hb dX5_findRooms_123 hl (k := 5) rfl rfl (by decide) rfl (fun ls hl => ?_)
          refine lv_goto (tgt := 83) hx hb dX5_findRooms_126 (by decide) ?_
          exact ih _ _ _ _ _ hP hD hS (lv_sub hl [2, 3, 4, 5, 1, 0] rfl) h
        · have h := iq c_765 h
          refine lv_aload_n hx hb dX5_findRooms_100 rfl (lv_at hl 0 rfl) ?_
          refine lv_iload hx hb dX5_findRooms_101 (lv_at hl 5 rfl) ?_
          refine lv_iload_n hx hb dX5_findRooms_103 rfl (lv_at hl 1 rfl) ?_
          refine lv_iload_n hx hb dX5_findRooms_104 rfl (lv_at hl 2 rfl) ?_
          refine lv_iload_n hx hb dX5_findRooms_105 rfl (lv_at hl 3 rfl) ?_
          obtain ⟨u_766, hc_767, h⟩ := bd_inv h
          refine wafter_i (wr := []) (w2 := (w_D G d0 d1 d2 d3 d4 d5 d6 d7 d8 d9 d10 d11 d12 d_n d_a d_b d_c d_k d_x d_y d_d d_r d_w d_e d_1 d_2 d_o d_g d_ra d_rb d_rc d_t)) (va_runV (As := [.int x5, .int x1, .int x2, .int x3]) (rest := [.int x4]) ⟨hx, hb, hml, hown, hts⟩ (kX5_along (l := l) (G := G) d0 d1 d2 d3 d4 d5 d6 d7 d8 d9 d10 d11 d12 d_n d_a d_b d_c d_k d_x d_y d_d d_r d_w d_e d_1 d_2 d_o d_g d_ra d_rb d_rc d_t x5 x1 x2 x3 N u_766 hc_767 _) (cwV 4 hts gX5_findRooms_X5_along rfl rfl rfl (by decide +kernel) ⟨Nat.le_of_ble_eq_true rfl, Nat.le_of_ble_eq_true rfl⟩) (wPreV hP hD hK [0, 1, 2, 3, 4, 5, 6, 7, 8, 9, 10, 11, 12] rfl rfl (ci := 5) (qb := 0) rfl rfl rfl) rfl rfl hl.1 rfl (lv_room (Nat.le_of_ble_eq_true rfl)) dX5_findRooms_106 ⟨Nat.zero_le _, Nat.zero_le _⟩) hP hD hS hA [0, 1, 2, 3, 4, 5, 6, 7, 8, 9, 10, 11, 12] [] [0, 1, 2, 3, 4, 5, 6, 7, 8, 9, 10, 11, 12] rfl rfl rfl (by decide) rfl rfl (fun H locs hP hD hS => ?_)
          refine lv_if_le (tgt := 119) hx hb dX5_findRooms_109 (by decide) (fun c_768 => ?_) (fun c_768 => ?_)
          · have h := ip c_768 h
            refine lv_iconst (v := 0) hx hb dX5_findRooms_119 (by decide) ?_
            refine lv_ior hx hb dX5_findRooms_120 ?_
            refine lv_istore (lv' := [(4, .int (x4 ||| 0)), (0, .ref d0), (1, .int x1), (2, .int x2), (3, .int x3), (5, .int x5)]) hx hb dX5_findRooms_121 hl (by decide) rfl (fun ls hl => ?_)
            refine lv_iinc (v := (x5 + 1)) (lv' := [(5, .int (x5 + 1)), (4, .int (x4 ||| 0)), (0, .ref d0), (1, .int x1), (2, .int x2), (3, .int x3)]) hx hb dX5_findRooms_123 hl (k := 5) rfl rfl (by decide) rfl (fun ls hl => ?_)
            refine lv_goto (tgt := 83) hx hb dX5_findRooms_126 (by decide) ?_
            exact ih _ _ _ _ _ hP hD hS (lv_sub hl [2, 3, 4, 5, 1, 0] rfl) h
          · have h := iq c_768 h
            refine lv_iconst (v := 1) hx hb dX5_findRooms_112 (by decide) ?_
            refine lv_iload hx hb dX5_findRooms_113 (lv_at hl 5 rfl) ?_
            refine lv_ishl hx hb dX5_findRooms_115 ?_
            refine lv_goto (tgt := 120) hx hb dX5_findRooms_116 (by decide) ?_
            refine lv_ior hx hb dX5_findRooms_120 ?_
            refine wnmi h (fun x4_769 h => ?_)
            refine lv_istore (lv' := [(4, .int x4_769), (0, .ref d0), (1, .int x1), (2, .int x2), (3, .int x3), (5, .int x5)]) hx hb dX5_findRooms_121 hl (by decide) rfl (fun ls hl => ?_)
            refine lv_iinc (v := (x5 + 1)) (lv' := [(5, .int (x5 + 1)), (4, .int x4_769), (0, .ref d0), (1, .int x1), (2, .int x2), (3, .int x3)]) hx hb dX5_findRooms_123 hl (k := 5) rfl rfl (by decide) rfl (fun ls hl => ?_)
            refine lv_goto (tgt := 83) hx hb dX5_findRooms_126 (by decide) ?_
            exact ih _ _ _ _ _ hP hD hS (lv_sub hl [2, 3, 4, 5, 1, 0] rfl) h
  have w_63 : ∀ (k_155 : (Nat → Int32) → Option (Int32 × (Nat → Int32) × (Nat → Int32) × (Nat → Int32) × (Nat → Int32))) (x1 : Int32) (x2 : Int32) (d_k : Int32) (d_x : Nat → Int32) (d_y : Nat → Int32) (d_d : Nat → Int32) (_z : Unit), (∀ (yd_r : Nat → Int32) (H : Heap) (locs : List Loc) (ls : Array Slot), va_P G.1 vwCl (w_D G d0 d1 d2 d3 d4 d5 d6 d7 d8 d9 d10 d11 d12 d_n d_a d_b d_c d_k d_x d_y d_d yd_r d_w d_e d_1 d_2 d_o d_g d_ra d_rb d_rc d_t) H → va_D A (w_D G d0 d1 d2 d3 d4 d5 d6 d7 d8 d9 d10 d11 d12 d_n d_a d_b d_c d_k d_x d_y d_d yd_r d_w d_e d_1 d_2 d_o d_g d_ra d_rb d_rc d_t) → va_S A s.heap H locs → lv_has ls 6 [(0, .ref d0), (1, .int x1), (2, .int x2)] → k_155 yd_r = some v → W p l e ({ frames := 3, cells := 0, slots := 0, locals := 74 } : Room) s m args below meth c H locs 0 0 (wQv G A below args s (w_D G d0 d1 d2 d3 d4 d5 d6 d7 d8 d9 d10 d11 d12 d_n d_a d_b d_c v.1 v.2.1 v.2.2.1 v.2.2.2.1 v.2.2.2.2 d_w d_e d_1 d_2 d_o d_g d_ra d_rb d_rc d_t) 0 0) (F0 m 155 ls [])) → ∀ (n : Nat) (x3 : Int32) (d_r : Nat → Int32) (H : Heap) (locs : List Loc) (ls : Array Slot), va_P G.1 vwCl (w_D G d0 d1 d2 d3 d4 d5 d6 d7 d8 d9 d10 d11 d12 d_n d_a d_b d_c d_k d_x d_y d_d d_r d_w d_e d_1 d_2 d_o d_g d_ra d_rb d_rc d_t) H → va_D A (w_D G d0 d1 d2 d3 d4 d5 d6 d7 d8 d9 d10 d11 d12 d_n d_a d_b d_c d_k d_x d_y d_d d_r d_w d_e d_1 d_2 d_o d_g d_ra d_rb d_rc d_t) → va_S A s.heap H locs → lv_has ls 6 [(0, .ref d0), (1, .int x1), (2, .int x2), (3, .int x3)] → fX5_findRooms_b63 N d_n d_a d_b d_c d_x d_y d_d x1 x2 k_155 n x3 d_r = some v → W p l e ({ frames := 3, cells := 0, slots := 0, locals := 74 } : Room) s m args below meth c H locs 0 0 (wQv G A below args s (w_D G d0 d1 d2 d3 d4 d5 d6 d7 d8 d9 d10 d11 d12 d_n d_a d_b d_c v.1 v.2.1 v.2.2.1 v.2.2.2.1 v.2.2.2.2 d_w d_e d_1 d_2 d_o d_g d_ra d_rb d_rc d_t) 0 0) (F0 m 63 ls []) := by
    intro k_155 x1 x2 d_k d_x d_y d_d _z hk_155 n
    induction n with
    | zero =>
      intro x3 d_r H locs ls hP hD hS hl h
      rw [fX5_findRooms_b63.eq_1] at h
      cases h
    | succ n ih =>
      intro x3 d_r H locs ls hP hD hS hl h
      rw [fX5_findRooms_b63.eq_2] at h
      refine lv_iload_n hx hb dX5_findRooms_63 rfl (lv_at hl 3 rfl) ?_
      refine lv_iconst (v := 2) hx hb dX5_findRooms_64 (by decide) ?_
      refine lv_icmp_ge (tgt := 155) hx hb dX5_findRooms_65 (by decide) (fun c_770 => ?_) (fun c_770 => ?_)
      · have h := ip c_770 h
        exact hk_155 _ _ _ _ hP hD hS (lv_sub hl [0, 1, 2] rfl) h
      · have h := iq c_770 h
        refine lv_aload_n hx hb dX5_findRooms_68 rfl (lv_at hl 0 rfl) ?_
        refine lv_iload_n hx hb dX5_findRooms_69 rfl (lv_at hl 2 rfl) ?_
        refine lv_iload_n hx hb dX5_findRooms_70 rfl (lv_at hl 1 rfl) ?_
        obtain ⟨u_771, hc_772, h⟩ := bd_inv h
        refine wafter_i (wr := []) (w2 := (w_D G d0 d1 d2 d3 d4 d5 d6 d7 d8 d9 d10 d11 d12 d_n d_a d_b d_c d_k d_x d_y d_d d_r d_w d_e d_1 d_2 d_o d_g d_ra d_rb d_rc d_t)) (va_runV (As := [.int x2, .int x1]) (rest := []) ⟨hx, hb, hml, hown, hts⟩ (kX5_side (l := l) (G := G) d0 d1 d2 d3 d4 d5 d6 d7 d8 d9 d10 d11 d12 d_n d_a d_b d_c d_k d_x d_y d_d d_r d_w d_e d_1 d_2 d_o d_g d_ra d_rb d_rc d_t x2 x1 N u_771 hc_772 _) (cwV 2 hts gX5_findRooms_X5_side rfl rfl rfl (by decide +kernel) ⟨Nat.le_of_ble_eq_true rfl, Nat.le_of_ble_eq_true rfl⟩) (wPreV hP hD hK [0, 1, 2, 3, 4, 5, 6, 7, 8, 9, 10, 11, 12] rfl rfl (ci := 5) (qb := 0) rfl rfl rfl) rfl rfl hl.1 rfl (lv_room (Nat.le_of_ble_eq_true rfl)) dX5_findRooms_71 ⟨Nat.zero_le _, Nat.zero_le _⟩) hP hD hS hA [0, 1, 2, 3, 4, 5, 6, 7, 8, 9, 10, 11, 12] [] [0, 1, 2, 3, 4, 5, 6, 7, 8, 9, 10, 11, 12] rfl rfl rfl (by decide) rfl rfl (fun H locs hP hD hS => ?_)
        refine lv_if_ne (tgt := 155) hx hb dX5_findRooms_74 (by decide) (fun c_773 => ?_) (fun c_773 => ?_)
        · have h := iq c_773 h
          exact hk_155 _ _ _ _ hP hD hS (lv_sub hl [0, 1, 2] rfl) h
        · have h := ip c_773 h
          refine lv_iconst (v := 0) hx hb dX5_findRooms_77 (by decide) ?_
          refine lv_istore (lv' := [(4, .int 0), (0, .ref d0), (1, .int x1), (2, .int x2), (3, .int x3)]) hx hb dX5_findRooms_78 hl (by decide) rfl (fun ls hl => ?_)
          refine lv_iconst (v := 0) hx hb dX5_findRooms_80 (by decide) ?_
          refine lv_istore (lv' := [(5, .int 0), (4, .int 0), (0, .ref d0), (1, .int x1), (2, .int x2), (3, .int x3)]) hx hb dX5_findRooms_81 hl (by decide) rfl (fun ls hl => ?_)
          refine w_83 _ _ _ _ _ _ _ _ _ () (fun x4_774 H locs ls hP hD hS hl h => ?_) N _ _  _ _ _ hP hD hS (lv_sub hl [2, 3, 4, 5, 1, 0] rfl) h
          refine lv_aload_n hx hb dX5_findRooms_129 rfl (lv_at hl 0 rfl) ?_
          refine va_get (D := G.1) (ci := 5) (v := .ref d7) (C := RX5) (T := TX5) (N := 19) hx hb hts hinX5 hown hK.1 hP 0 rfl rfl 8 (by decide) lk28 (fun _ h9 => h9) rfl dX5_findRooms_130 ?_
          refine lv_iload hx hb dX5_findRooms_133 (lv_at hl 4 rfl) ?_
          refine lv_iconst (v := 1) hx hb dX5_findRooms_135 (by decide) ?_
          refine wzast h hx hb hK hP hD hS 7 rfl dX5_findRooms_136 (fun H locs hP hD hS h => ?_)
          have hP : va_P G.1 vwCl (w_D G d0 d1 d2 d3 d4 d5 d6 d7 d8 d9 d10 d11 d12 d_n d_a d_b d_c d_k d_x d_y d_d ((upd d_r (Int32.toNatClampNeg x4_774) (vp_nar .boolean 1))) d_w d_e d_1 d_2 d_o d_g d_ra d_rb d_rc d_t) H := hP
          have hD : va_D A (w_D G d0 d1 d2 d3 d4 d5 d6 d7 d8 d9 d10 d11 d12 d_n d_a d_b d_c d_k d_x d_y d_d ((upd d_r (Int32.toNatClampNeg x4_774) (vp_nar .boolean 1))) d_w d_e d_1 d_2 d_o d_g d_ra d_rb d_rc d_t) := hD
          refine lv_aload_n hx hb dX5_findRooms_137 rfl (lv_at hl 0 rfl) ?_
          refine va_get (D := G.1) (ci := 5) (v := .ref d7) (C := RX5) (T := TX5) (N := 19) hx hb hts hinX5 hown hK.1 hP 0 rfl rfl 8 (by decide) lk28 (fun _ h9 => h9) rfl dX5_findRooms_138 ?_
          refine lv_iload hx hb dX5_findRooms_141 (lv_at hl 4 rfl) ?_
          refine lv_iconst (v := 1) hx hb dX5_findRooms_143 (by decide) ?_
          refine lv_iload_n hx hb dX5_findRooms_144 rfl (lv_at hl 2 rfl) ?_
          refine lv_ishl hx hb dX5_findRooms_145 ?_
          refine lv_ior hx hb dX5_findRooms_146 ?_
          refine lv_iconst (v := 1) hx hb dX5_findRooms_147 (by decide) ?_
          refine wzast h hx hb hK hP hD hS 7 rfl dX5_findRooms_148 (fun H locs hP hD hS h => ?_)
          have hP : va_P G.1 vwCl (w_D G d0 d1 d2 d3 d4 d5 d6 d7 d8 d9 d10 d11 d12 d_n d_a d_b d_c d_k d_x d_y d_d ((upd ((upd d_r (Int32.toNatClampNeg x4_774) (vp_nar .boolean 1))) (Int32.toNatClampNeg (x4_774 ||| (1 <<< (x2 &&& 31)))) (vp_nar .boolean 1))) d_w d_e d_1 d_2 d_o d_g d_ra d_rb d_rc d_t) H := hP
          have hD : va_D A (w_D G d0 d1 d2 d3 d4 d5 d6 d7 d8 d9 d10 d11 d12 d_n d_a d_b d_c d_k d_x d_y d_d ((upd ((upd d_r (Int32.toNatClampNeg x4_774) (vp_nar .boolean 1))) (Int32.toNatClampNeg (x4_774 ||| (1 <<< (x2 &&& 31)))) (vp_nar .boolean 1))) d_w d_e d_1 d_2 d_o d_g d_ra d_rb d_rc d_t) := hD
          refine lv_iinc (v := (x3 + 2)) (lv' := [(3, .int (x3 + 2)), (0, .ref d0), (1, .int x1), (2, .int x2), (4, .int x4_774)]) hx hb dX5_findRooms_149 hl (k := 3) rfl rfl (by decide) rfl (fun ls hl => ?_)
          refine lv_goto (tgt := 63) hx hb dX5_findRooms_152 (by decide) ?_
          exact ih _ _ _ _ _ hP hD hS (lv_sub hl [1, 2, 3, 0] rfl) h
  have w_53 : ∀ (k_161 : (Nat → Int32) → Option (Int32 × (Nat → Int32) × (Nat → Int32) × (Nat → Int32) × (Nat → Int32))) (x1 : Int32) (d_k : Int32) (d_x : Nat → Int32) (d_y : Nat → Int32) (d_d : Nat → Int32) (_z : Unit), (∀ (yd_r : Nat → Int32) (H : Heap) (locs : List Loc) (ls : Array Slot), va_P G.1 vwCl (w_D G d0 d1 d2 d3 d4 d5 d6 d7 d8 d9 d10 d11 d12 d_n d_a d_b d_c d_k d_x d_y d_d yd_r d_w d_e d_1 d_2 d_o d_g d_ra d_rb d_rc d_t) H → va_D A (w_D G d0 d1 d2 d3 d4 d5 d6 d7 d8 d9 d10 d11 d12 d_n d_a d_b d_c d_k d_x d_y d_d yd_r d_w d_e d_1 d_2 d_o d_g d_ra d_rb d_rc d_t) → va_S A s.heap H locs → lv_has ls 6 [(0, .ref d0), (1, .int x1)] → k_161 yd_r = some v → W p l e ({ frames := 3, cells := 0, slots := 0, locals := 74 } : Room) s m args below meth c H locs 0 0 (wQv G A below args s (w_D G d0 d1 d2 d3 d4 d5 d6 d7 d8 d9 d10 d11 d12 d_n d_a d_b d_c v.1 v.2.1 v.2.2.1 v.2.2.2.1 v.2.2.2.2 d_w d_e d_1 d_2 d_o d_g d_ra d_rb d_rc d_t) 0 0) (F0 m 161 ls [])) → ∀ (n : Nat) (x2 : Int32) (d_r : Nat → Int32) (H : Heap) (locs : List Loc) (ls : Array Slot), va_P G.1 vwCl (w_D G d0 d1 d2 d3 d4 d5 d6 d7 d8 d9 d10 d11 d12 d_n d_a d_b d_c d_k d_x d_y d_d d_r d_w d_e d_1 d_2 d_o d_g d_ra d_rb d_rc d_t) H → va_D A (w_D G d0 d1 d2 d3 d4 d5 d6 d7 d8 d9 d10 d11 d12 d_n d_a d_b d_c d_k d_x d_y d_d d_r d_w d_e d_1 d_2 d_o d_g d_ra d_rb d_rc d_t) → va_S A s.heap H locs → lv_has ls 6 [(0, .ref d0), (1, .int x1), (2, .int x2)] → fX5_findRooms_b53 N d_n d_a d_b d_c d_x d_y d_d x1 k_161 n x2 d_r = some v → W p l e ({ frames := 3, cells := 0, slots := 0, locals := 74 } : Room) s m args below meth c H locs 0 0 (wQv G A below args s (w_D G d0 d1 d2 d3 d4 d5 d6 d7 d8 d9 d10 d11 d12 d_n d_a d_b d_c v.1 v.2.1 v.2.2.1 v.2.2.2.1 v.2.2.2.2 d_w d_e d_1 d_2 d_o d_g d_ra d_rb d_rc d_t) 0 0) (F0 m 53 ls []) := by
    intro k_161 x1 d_k d_x d_y d_d _z hk_161 n
    induction n with
    | zero =>
      intro x2 d_r H locs ls hP hD hS hl h
      rw [fX5_findRooms_b53.eq_1] at h
      cases h
    | succ n ih =>
      intro x2 d_r H locs ls hP hD hS hl h
      rw [fX5_findRooms_b53.eq_2] at h
      refine lv_iload_n hx hb dX5_findRooms_53 rfl (lv_at hl 2 rfl) ?_
      refine lv_aload_n hx hb dX5_findRooms_54 rfl (lv_at hl 0 rfl) ?_
      refine va_get (D := G.1) (ci := 5) (v := .int d_n) (C := RX5) (T := TX5) (N := 19) hx hb hts hinX5 hown hK.1 hP 0 rfl rfl 0 (by decide) lk51 (fun _ h9 => h9) rfl dX5_findRooms_55 ?_
      refine lv_icmp_ge (tgt := 161) hx hb dX5_findRooms_58 (by decide) (fun c_775 => ?_) (fun c_775 => ?_)
      · have h := ip c_775 h
        exact hk_161 _ _ _ _ hP hD hS (lv_sub hl [0, 1] rfl) h
      · have h := iq c_775 h
        refine lv_iconst (v := (-1)) hx hb dX5_findRooms_61 (by decide) ?_
        refine lv_istore_n (lv' := [(3, .int (-1)), (0, .ref d0), (1, .int x1), (2, .int x2)]) hx hb dX5_findRooms_62 rfl hl (by decide) rfl (fun ls hl => ?_)
        refine w_63 _ _ _ _ _ _ _ () (fun d_r_776 H locs ls hP hD hS hl h => ?_) N _ _ _ _ _ hP hD hS (lv_sub hl [1, 2, 3, 0] rfl) h
        refine lv_iinc (v := (x2 + 1)) (lv' := [(2, .int (x2 + 1)), (0, .ref d0), (1, .int x1)]) hx hb dX5_findRooms_155 hl (k := 2) rfl rfl (by decide) rfl (fun ls hl => ?_)
        refine lv_goto (tgt := 53) hx hb dX5_findRooms_158 (by decide) ?_
        exact ih _ _ _ _ _ hP hD hS (lv_sub hl [1, 2, 0] rfl) h
  have w_43 : ∀ (k_167 : (Nat → Int32) → Option (Int32 × (Nat → Int32) × (Nat → Int32) × (Nat → Int32) × (Nat → Int32)))  (d_k : Int32) (d_x : Nat → Int32) (d_y : Nat → Int32) (d_d : Nat → Int32) (_z : Unit), (∀ (yd_r : Nat → Int32) (H : Heap) (locs : List Loc) (ls : Array Slot), va_P G.1 vwCl (w_D G d0 d1 d2 d3 d4 d5 d6 d7 d8 d9 d10 d11 d12 d_n d_a d_b d_c d_k d_x d_y d_d yd_r d_w d_e d_1 d_2 d_o d_g d_ra d_rb d_rc d_t) H → va_D A (w_D G d0 d1 d2 d3 d4 d5 d6 d7 d8 d9 d10 d11 d12 d_n d_a d_b d_c d_k d_x d_y d_d yd_r d_w d_e d_1 d_2 d_o d_g d_ra d_rb d_rc d_t) → va_S A s.heap H locs → lv_has ls 6 [(0, .ref d0)] → k_167 yd_r = some v → W p l e ({ frames := 3, cells := 0, slots := 0, locals := 74 } : Room) s m args below meth c H locs 0 0 (wQv G A below args s (w_D G d0 d1 d2 d3 d4 d5 d6 d7 d8 d9 d10 d11 d12 d_n d_a d_b d_c v.1 v.2.1 v.2.2.1 v.2.2.2.1 v.2.2.2.2 d_w d_e d_1 d_2 d_o d_g d_ra d_rb d_rc d_t) 0 0) (F0 m 167 ls [])) → ∀ (n : Nat) (x1 : Int32) (d_r : Nat → Int32) (H : Heap) (locs : List Loc) (ls : Array Slot), va_P G.1 vwCl (w_D G d0 d1 d2 d3 d4 d5 d6 d7 d8 d9 d10 d11 d12 d_n d_a d_b d_c d_k d_x d_y d_d d_r d_w d_e d_1 d_2 d_o d_g d_ra d_rb d_rc d_t) H → va_D A (w_D G d0 d1 d2 d3 d4 d5 d6 d7 d8 d9 d10 d11 d12 d_n d_a d_b d_c d_k d_x d_y d_d d_r d_w d_e d_1 d_2 d_o d_g d_ra d_rb d_rc d_t) → va_S A s.heap H locs → lv_has ls 6 [(0, .ref d0), (1, .int x1)] → fX5_findRooms_b43 N d_n d_a d_b d_c d_k d_x d_y d_d k_167 n x1 d_r = some v → W p l e ({ frames := 3, cells := 0, slots := 0, locals := 74 } : Room) s m args below meth c H locs 0 0 (wQv G A below args s (w_D G d0 d1 d2 d3 d4 d5 d6 d7 d8 d9 d10 d11 d12 d_n d_a d_b d_c v.1 v.2.1 v.2.2.1 v.2.2.2.1 v.2.2.2.2 d_w d_e d_1 d_2 d_o d_g d_ra d_rb d_rc d_t) 0 0) (F0 m 43 ls []) := by
    intro k_167 d_k d_x d_y d_d _z hk_167 n
    induction n with
    | zero =>
      intro x1 d_r H locs ls hP hD hS hl h
      rw [fX5_findRooms_b43.eq_1] at h
      cases h
    | succ n ih =>
      intro x1 d_r H locs ls hP hD hS hl h
      rw [fX5_findRooms_b43.eq_2] at h
      refine lv_iload_n hx hb dX5_findRooms_43 rfl (lv_at hl 1 rfl) ?_
      refine lv_aload_n hx hb dX5_findRooms_44 rfl (lv_at hl 0 rfl) ?_
      refine va_get (D := G.1) (ci := 5) (v := .int d_k) (C := RX5) (T := TX5) (N := 19) hx hb hts hinX5 hown hK.1 hP 0 rfl rfl 4 (by decide) lk78 (fun _ h9 => h9) rfl dX5_findRooms_45 ?_
      refine lv_icmp_ge (tgt := 167) hx hb dX5_findRooms_48 (by decide) (fun c_777 => ?_) (fun c_777 => ?_)
      · have h := ip c_777 h
        exact hk_167 _ _ _ _ hP hD hS (lv_sub hl [0] rfl) h
      · have h := iq c_777 h
        refine lv_iconst (v := 0) hx hb dX5_findRooms_51 (by decide) ?_
        refine lv_istore_n (lv' := [(2, .int 0), (0, .ref d0), (1, .int x1)]) hx hb dX5_findRooms_52 rfl hl (by decide) rfl (fun ls hl => ?_)
        refine w_53 _ _ _ _ _ _ () (fun d_r_778 H locs ls hP hD hS hl h => ?_) N _ _ _ _ _ hP hD hS (lv_sub hl [1, 2, 0] rfl) h
        refine lv_iinc (v := (x1 + 1)) (lv' := [(1, .int (x1 + 1)), (0, .ref d0)]) hx hb dX5_findRooms_161 hl (k := 1) rfl rfl (by decide) rfl (fun ls hl => ?_)
        refine lv_goto (tgt := 43) hx hb dX5_findRooms_164 (by decide) ?_
        exact ih _ _ _ _ _ hP hD hS (lv_sub hl [1, 0] rfl) h
  have w_217 : ∀ (k_307 : Int32 → Option (Int32 × (Nat → Int32) × (Nat → Int32) × (Nat → Int32) × (Nat → Int32))) (x1 : Int32) (x2 : Int32) (d_k : Int32) (d_x : Nat → Int32) (d_y : Nat → Int32) (d_d : Nat → Int32) (d_r : Nat → Int32) (_z : Unit), (∀ (y3 : Int32) (H : Heap) (locs : List Loc) (ls : Array Slot), va_P G.1 vwCl (w_D G d0 d1 d2 d3 d4 d5 d6 d7 d8 d9 d10 d11 d12 d_n d_a d_b d_c d_k d_x d_y d_d d_r d_w d_e d_1 d_2 d_o d_g d_ra d_rb d_rc d_t) H → va_D A (w_D G d0 d1 d2 d3 d4 d5 d6 d7 d8 d9 d10 d11 d12 d_n d_a d_b d_c d_k d_x d_y d_d d_r d_w d_e d_1 d_2 d_o d_g d_ra d_rb d_rc d_t) → va_S A s.heap H locs → lv_has ls 6 [(0, .ref d0), (1, .int x1), (3, .int y3)] → k_307 y3 = some v → W p l e ({ frames := 3, cells := 0, slots := 0, locals := 74 } : Room) s m args below meth c H locs 0 0 (wQv G A below args s (w_D G d0 d1 d2 d3 d4 d5 d6 d7 d8 d9 d10 d11 d12 d_n d_a d_b d_c v.1 v.2.1 v.2.2.1 v.2.2.2.1 v.2.2.2.2 d_w d_e d_1 d_2 d_o d_g d_ra d_rb d_rc d_t) 0 0) (F0 m 307 ls [])) → ∀ (n : Nat) (x3 : Int32) (x4 : Int32)  (H : Heap) (locs : List Loc) (ls : Array Slot), va_P G.1 vwCl (w_D G d0 d1 d2 d3 d4 d5 d6 d7 d8 d9 d10 d11 d12 d_n d_a d_b d_c d_k d_x d_y d_d d_r d_w d_e d_1 d_2 d_o d_g d_ra d_rb d_rc d_t) H → va_D A (w_D G d0 d1 d2 d3 d4 d5 d6 d7 d8 d9 d10 d11 d12 d_n d_a d_b d_c d_k d_x d_y d_d d_r d_w d_e d_1 d_2 d_o d_g d_ra d_rb d_rc d_t) → va_S A s.heap H locs → lv_has ls 6 [(0, .ref d0), (1, .int x1), (2, .int x2), (3, .int x3), (4, .int x4)] → fX5_findRooms_b217 N d_n d_a d_b d_c x1 x2 k_307 n x3 x4 = some v → W p l e ({ frames := 3, cells := 0, slots := 0, locals := 74 } : Room) s m args below meth c H locs 0 0 (wQv G A below args s (w_D G d0 d1 d2 d3 d4 d5 d6 d7 d8 d9 d10 d11 d12 d_n d_a d_b d_c v.1 v.2.1 v.2.2.1 v.2.2.2.1 v.2.2.2.2 d_w d_e d_1 d_2 d_o d_g d_ra d_rb d_rc d_t) 0 0) (F0 m 217 ls []) := by
    intro k_307 x1 x2 d_k d_x d_y d_d d_r _z hk_307 n
    induction n with
    | zero =>
      intro x3 x4 H locs ls hP hD hS hl h
      rw [fX5_findRooms_b217.eq_1] at h
      cases h
    | succ n ih =>
      intro x3 x4 H locs ls hP hD hS hl h
      rw [fX5_findRooms_b217.eq_2] at h
      refine lv_iload hx hb dX5_findRooms_217 (lv_at hl 4 rfl) ?_
      refine lv_aload_n hx hb dX5_findRooms_219 rfl (lv_at hl 0 rfl) ?_
      refine va_get (D := G.1) (ci := 5) (v := .int d_n) (C := RX5) (T := TX5) (N := 19) hx hb hts hinX5 hown hK.1 hP 0 rfl rfl 0 (by decide) lk51 (fun _ h9 => h9) rfl dX5_findRooms_220 ?_
      refine lv_icmp_ge (tgt := 307) hx hb dX5_findRooms_223 (by decide) (fun c_779 => ?_) (fun c_779 => ?_)
      · have h := ip c_779 h
        exact hk_307 _ _ _ _ hP hD hS (lv_sub hl [0, 1, 3] rfl) h
      · have h := iq c_779 h
        refine lv_aload_n hx hb dX5_findRooms_226 rfl (lv_at hl 0 rfl) ?_
        refine va_get (D := G.1) (ci := 5) (v := .ref d1) (C := RX5) (T := TX5) (N := 19) hx hb hts hinX5 hown hK.1 hP 0 rfl rfl 1 (by decide) lk7 (fun _ h9 => h9) rfl dX5_findRooms_227 ?_
        refine lv_iload hx hb dX5_findRooms_230 (lv_at hl 4 rfl) ?_
        refine wiald h hx hb hK hP 1 rfl dX5_findRooms_232 (fun v_780 h => ?_)
        refine lv_aload_n hx hb dX5_findRooms_233 rfl (lv_at hl 0 rfl) ?_
        refine va_get (D := G.1) (ci := 5) (v := .ref d1) (C := RX5) (T := TX5) (N := 19) hx hb hts hinX5 hown hK.1 hP 0 rfl rfl 1 (by decide) lk7 (fun _ h9 => h9) rfl dX5_findRooms_234 ?_
        refine lv_iconst (v := 0) hx hb dX5_findRooms_237 (by decide) ?_
        refine wiald h hx hb hK hP 1 rfl dX5_findRooms_238 (fun v_781 h => ?_)
        refine lv_imul hx hb dX5_findRooms_239 ?_
        refine lv_aload_n hx hb dX5_findRooms_240 rfl (lv_at hl 0 rfl) ?_
        refine va_get (D := G.1) (ci := 5) (v := .ref d2) (C := RX5) (T := TX5) (N := 19) hx hb hts hinX5 hown hK.1 hP 0 rfl rfl 2 (by decide) lk13 (fun _ h9 => h9) rfl dX5_findRooms_241 ?_
        refine lv_iload hx hb dX5_findRooms_244 (lv_at hl 4 rfl) ?_
        refine wiald h hx hb hK hP 2 rfl dX5_findRooms_246 (fun v_782 h => ?_)
        refine lv_aload_n hx hb dX5_findRooms_247 rfl (lv_at hl 0 rfl) ?_
        refine va_get (D := G.1) (ci := 5) (v := .ref d2) (C := RX5) (T := TX5) (N := 19) hx hb hts hinX5 hown hK.1 hP 0 rfl rfl 2 (by decide) lk13 (fun _ h9 => h9) rfl dX5_findRooms_248 ?_
        refine lv_iconst (v := 0) hx hb dX5_findRooms_251 (by decide) ?_
        refine wiald h hx hb hK hP 2 rfl dX5_findRooms_252 (fun v_783 h => ?_)
        refine lv_imul hx hb dX5_findRooms_253 ?_
        refine lv_iadd hx hb dX5_findRooms_254 ?_
        refine wnmi h (fun x5_784 h => ?_)
        refine lv_istore (lv' := [(5, .int x5_784), (0, .ref d0), (1, .int x1), (2, .int x2), (3, .int x3), (4, .int x4)]) hx hb dX5_findRooms_255 hl (by decide) rfl (fun ls hl => ?_)
        refine lv_iload_n hx hb dX5_findRooms_257 rfl (lv_at hl 4 rfl) ?_
        refine lv_iload hx hb dX5_findRooms_258 (lv_at hl 5 rfl) ?_
        refine lv_iload_n hx hb dX5_findRooms_260 rfl (lv_at hl 2 rfl) ?_
        refine lv_icmp_eq (tgt := 298) hx hb dX5_findRooms_261 (by decide) (fun c_785 => ?_) (fun c_785 => ?_)
        · have h := ip c_785 h
          refine lv_iconst (v := 0) hx hb dX5_findRooms_298 (by decide) ?_
          refine lv_ior hx hb dX5_findRooms_299 ?_
          refine lv_istore_n (lv' := [(3, .int (x3 ||| 0)), (5, .int x5_784), (0, .ref d0), (1, .int x1), (2, .int x2), (4, .int x4)]) hx hb dX5_findRooms_300 rfl hl (by decide) rfl (fun ls hl => ?_)
          refine lv_iinc (v := (x4 + 1)) (lv' := [(4, .int (x4 + 1)), (3, .int (x3 ||| 0)), (5, .int x5_784), (0, .ref d0), (1, .int x1), (2, .int x2)]) hx hb dX5_findRooms_301 hl (k := 5) rfl rfl (by decide) rfl (fun ls hl => ?_)
          refine lv_goto (tgt := 217) hx hb dX5_findRooms_304 (by decide) ?_
          exact ih _ _ _ _ _ hP hD hS (lv_sub hl [3, 4, 5, 1, 0] rfl) h
        · have h := iq c_785 h
          refine lv_aload_n hx hb dX5_findRooms_264 rfl (lv_at hl 1 rfl) ?_
          refine va_get (D := G.1) (ci := 5) (v := .ref d3) (C := RX5) (T := TX5) (N := 19) hx hb hts hinX5 hown hK.1 hP 0 rfl rfl 3 (by decide) lk16 (fun _ h9 => h9) rfl dX5_findRooms_265 ?_
          refine lv_iload_n hx hb dX5_findRooms_268 rfl (lv_at hl 2 rfl) ?_
          refine wiald h hx hb hK hP 3 rfl dX5_findRooms_269 (fun v_786 h => ?_)
          refine lv_iload hx hb dX5_findRooms_270 (lv_at hl 0 rfl) ?_
          refine lv_imul hx hb dX5_findRooms_272 ?_
          refine lv_aload_n hx hb dX5_findRooms_273 rfl (lv_at hl 1 rfl) ?_
          refine va_get (D := G.1) (ci := 5) (v := .ref d3) (C := RX5) (T := TX5) (N := 19) hx hb hts hinX5 hown hK.1 hP 0 rfl rfl 3 (by decide) lk16 (fun _ h9 => h9) rfl dX5_findRooms_274 ?_
          refine lv_iload hx hb dX5_findRooms_277 (lv_at hl 5 rfl) ?_
          refine wiald h hx hb hK hP 3 rfl dX5_findRooms_279 (fun v_787 h => ?_)
          refine lv_iload_n hx hb dX5_findRooms_280 rfl (lv_at hl 3 rfl) ?_
          refine lv_imul hx hb dX5_findRooms_281 ?_
          refine lv_isub hx hb dX5_findRooms_282 ?_
          refine lv_iload_n hx hb dX5_findRooms_283 rfl (lv_at hl 3 rfl) ?_
          obtain ⟨u_788, hc_789, h⟩ := bd_inv h
          refine wafter_i (wr := (w_D G d0 d1 d2 d3 d4 d5 d6 d7 d8 d9 d10 d11 d12 d_n d_a d_b d_c d_k d_x d_y d_d d_r d_w d_e d_1 d_2 d_o d_g d_ra d_rb d_rc d_t)) (w2 := (w_D G d0 d1 d2 d3 d4 d5 d6 d7 d8 d9 d10 d11 d12 d_n d_a d_b d_c d_k d_x d_y d_d d_r d_w d_e d_1 d_2 d_o d_g d_ra d_rb d_rc d_t)) (va_runS (As := [.int x2]) (rest := [.int ((v_786 * x5_784) - (v_787 * x2)), .int x3]) ⟨hx, hb, hml, hown, hts⟩ (kX5_sign (l := l) (G := G)   x2 N u_788 hc_789 _) (va_cwS 1 hts gX5_findRooms_X5_sign rfl rfl rfl (by decide +kernel) ⟨Nat.le_of_ble_eq_true rfl, Nat.le_of_ble_eq_true rfl⟩) (wPreS hP hD hK [] rfl rfl) rfl rfl hl.1 rfl (lv_room (Nat.le_of_ble_eq_true rfl)) dX5_findRooms_284 ⟨Nat.zero_le _, Nat.zero_le _⟩) hP hD hS hA [] [0, 1, 2, 3, 4, 5, 6, 7, 8, 9, 10, 11, 12] [0, 1, 2, 3, 4, 5, 6, 7, 8, 9, 10, 11, 12] rfl rfl rfl (by decide) rfl rfl (fun H locs hP hD hS => ?_)
          refine lv_imul hx hb dX5_findRooms_287 ?_
          refine lv_if_le (tgt := 298) hx hb dX5_findRooms_288 (by decide) (fun c_790 => ?_) (fun c_790 => ?_)
          · have h := ip c_790 h
            refine lv_iconst (v := 0) hx hb dX5_findRooms_298 (by decide) ?_
            refine lv_ior hx hb dX5_findRooms_299 ?_
            refine lv_istore_n (lv' := [(3, .int (x3 ||| 0)), (5, .int x5_784), (0, .ref d0), (1, .int x1), (2, .int x2), (4, .int x4)]) hx hb dX5_findRooms_300 rfl hl (by decide) rfl (fun ls hl => ?_)
            refine lv_iinc (v := (x4 + 1)) (lv' := [(4, .int (x4 + 1)), (3, .int (x3 ||| 0)), (5, .int x5_784), (0, .ref d0), (1, .int x1), (2, .int x2)]) hx hb dX5_findRooms_301 hl (k := 5) rfl rfl (by decide) rfl (fun ls hl => ?_)
            refine lv_goto (tgt := 217) hx hb dX5_findRooms_304 (by decide) ?_
            exact ih _ _ _ _ _ hP hD hS (lv_sub hl [3, 4, 5, 1, 0] rfl) h
          · have h := iq c_790 h
            refine lv_iconst (v := 1) hx hb dX5_findRooms_291 (by decide) ?_
            refine lv_iload hx hb dX5_findRooms_292 (lv_at hl 5 rfl) ?_
            refine lv_ishl hx hb dX5_findRooms_294 ?_
            refine lv_goto (tgt := 299) hx hb dX5_findRooms_295 (by decide) ?_
            refine lv_ior hx hb dX5_findRooms_299 ?_
            refine wnmi h (fun x3_791 h => ?_)
            refine lv_istore_n (lv' := [(3, .int x3_791), (5, .int x5_784), (0, .ref d0), (1, .int x1), (2, .int x2), (4, .int x4)]) hx hb dX5_findRooms_300 rfl hl (by decide) rfl (fun ls hl => ?_)
            refine lv_iinc (v := (x4 + 1)) (lv' := [(4, .int (x4 + 1)), (3, .int x3_791), (5, .int x5_784), (0, .ref d0), (1, .int x1), (2, .int x2)]) hx hb dX5_findRooms_301 hl (k := 5) rfl rfl (by decide) rfl (fun ls hl => ?_)
            refine lv_goto (tgt := 217) hx hb dX5_findRooms_304 (by decide) ?_
            exact ih _ _ _ _ _ hP hD hS (lv_sub hl [3, 4, 5, 1, 0] rfl) h
  have w_169 : ∀  (d_k : Int32) (d_x : Nat → Int32) (d_y : Nat → Int32) (d_d : Nat → Int32) (_z : Unit), ∀ (n : Nat) (x1 : Int32) (d_r : Nat → Int32) (H : Heap) (locs : List Loc) (ls : Array Slot), va_P G.1 vwCl (w_D G d0 d1 d2 d3 d4 d5 d6 d7 d8 d9 d10 d11 d12 d_n d_a d_b d_c d_k d_x d_y d_d d_r d_w d_e d_1 d_2 d_o d_g d_ra d_rb d_rc d_t) H → va_D A (w_D G d0 d1 d2 d3 d4 d5 d6 d7 d8 d9 d10 d11 d12 d_n d_a d_b d_c d_k d_x d_y d_d d_r d_w d_e d_1 d_2 d_o d_g d_ra d_rb d_rc d_t) → va_S A s.heap H locs → lv_has ls 6 [(0, .ref d0), (1, .int x1)] → fX5_findRooms_b169 N d_n d_a d_b d_c d_k d_x d_y d_d n x1 d_r = some v → W p l e ({ frames := 3, cells := 0, slots := 0, locals := 74 } : Room) s m args below meth c H locs 0 0 (wQv G A below args s (w_D G d0 d1 d2 d3 d4 d5 d6 d7 d8 d9 d10 d11 d12 d_n d_a d_b d_c v.1 v.2.1 v.2.2.1 v.2.2.2.1 v.2.2.2.2 d_w d_e d_1 d_2 d_o d_g d_ra d_rb d_rc d_t) 0 0) (F0 m 169 ls []) := by
    intro d_k d_x d_y d_d _z n
    induction n with
    | zero =>
      intro x1 d_r H locs ls hP hD hS hl h
      rw [fX5_findRooms_b169.eq_1] at h
      cases h
    | succ n ih =>
      intro x1 d_r H locs ls hP hD hS hl h
      rw [fX5_findRooms_b169.eq_2] at h
      refine lv_iload_n hx hb dX5_findRooms_169 rfl (lv_at hl 1 rfl) ?_
      refine lv_aload_n hx hb dX5_findRooms_170 rfl (lv_at hl 0 rfl) ?_
      refine va_get (D := G.1) (ci := 5) (v := .int d_n) (C := RX5) (T := TX5) (N := 19) hx hb hts hinX5 hown hK.1 hP 0 rfl rfl 0 (by decide) lk51 (fun _ h9 => h9) rfl dX5_findRooms_171 ?_
      refine lv_icmp_ge (tgt := 331) hx hb dX5_findRooms_174 (by decide) (fun c_792 => ?_) (fun c_792 => ?_)
      · have h := ip c_792 h
        obtain rfl := Option.some.inj h
        exact wrv hx hb hr hlocks hP hD hS (Nat.le_of_ble_eq_true rfl) (Nat.le_of_ble_eq_true rfl) dX5_findRooms_331
      · have h := iq c_792 h
        refine lv_aload_n hx hb dX5_findRooms_177 rfl (lv_at hl 0 rfl) ?_
        refine va_get (D := G.1) (ci := 5) (v := .int d_k) (C := RX5) (T := TX5) (N := 19) hx hb hts hinX5 hown hK.1 hP 0 rfl rfl 4 (by decide) lk78 (fun _ h9 => h9) rfl dX5_findRooms_178 ?_
        refine lv_if_ne (tgt := 331) hx hb dX5_findRooms_181 (by decide) (fun c_793 => ?_) (fun c_793 => ?_)
        · have h := iq c_793 h
          obtain rfl := Option.some.inj h
          exact wrv hx hb hr hlocks hP hD hS (Nat.le_of_ble_eq_true rfl) (Nat.le_of_ble_eq_true rfl) dX5_findRooms_331
        · have h := ip c_793 h
          refine lv_aload_n hx hb dX5_findRooms_184 rfl (lv_at hl 0 rfl) ?_
          refine va_get (D := G.1) (ci := 5) (v := .ref d1) (C := RX5) (T := TX5) (N := 19) hx hb hts hinX5 hown hK.1 hP 0 rfl rfl 1 (by decide) lk7 (fun _ h9 => h9) rfl dX5_findRooms_185 ?_
          refine lv_iload_n hx hb dX5_findRooms_188 rfl (lv_at hl 1 rfl) ?_
          refine wiald h hx hb hK hP 1 rfl dX5_findRooms_189 (fun v_794 h => ?_)
          refine lv_aload_n hx hb dX5_findRooms_190 rfl (lv_at hl 0 rfl) ?_
          refine va_get (D := G.1) (ci := 5) (v := .ref d1) (C := RX5) (T := TX5) (N := 19) hx hb hts hinX5 hown hK.1 hP 0 rfl rfl 1 (by decide) lk7 (fun _ h9 => h9) rfl dX5_findRooms_191 ?_
          refine lv_iconst (v := 0) hx hb dX5_findRooms_194 (by decide) ?_
          refine wiald h hx hb hK hP 1 rfl dX5_findRooms_195 (fun v_795 h => ?_)
          refine lv_imul hx hb dX5_findRooms_196 ?_
          refine lv_aload_n hx hb dX5_findRooms_197 rfl (lv_at hl 0 rfl) ?_
          refine va_get (D := G.1) (ci := 5) (v := .ref d2) (C := RX5) (T := TX5) (N := 19) hx hb hts hinX5 hown hK.1 hP 0 rfl rfl 2 (by decide) lk13 (fun _ h9 => h9) rfl dX5_findRooms_198 ?_
          refine lv_iload_n hx hb dX5_findRooms_201 rfl (lv_at hl 1 rfl) ?_
          refine wiald h hx hb hK hP 2 rfl dX5_findRooms_202 (fun v_796 h => ?_)
          refine lv_aload_n hx hb dX5_findRooms_203 rfl (lv_at hl 0 rfl) ?_
          refine va_get (D := G.1) (ci := 5) (v := .ref d2) (C := RX5) (T := TX5) (N := 19) hx hb hts hinX5 hown hK.1 hP 0 rfl rfl 2 (by decide) lk13 (fun _ h9 => h9) rfl dX5_findRooms_204 ?_
          refine lv_iconst (v := 0) hx hb dX5_findRooms_207 (by decide) ?_
          refine wiald h hx hb hK hP 2 rfl dX5_findRooms_208 (fun v_797 h => ?_)
          refine lv_imul hx hb dX5_findRooms_209 ?_
          refine lv_iadd hx hb dX5_findRooms_210 ?_
          refine wnmi h (fun x2_798 h => ?_)
          refine lv_istore_n (lv' := [(2, .int x2_798), (0, .ref d0), (1, .int x1)]) hx hb dX5_findRooms_211 rfl hl (by decide) rfl (fun ls hl => ?_)
          refine lv_iconst (v := 0) hx hb dX5_findRooms_212 (by decide) ?_
          refine lv_istore_n (lv' := [(3, .int 0), (2, .int x2_798), (0, .ref d0), (1, .int x1)]) hx hb dX5_findRooms_213 rfl hl (by decide) rfl (fun ls hl => ?_)
          refine lv_iconst (v := 0) hx hb dX5_findRooms_214 (by decide) ?_
          refine lv_istore (lv' := [(4, .int 0), (3, .int 0), (2, .int x2_798), (0, .ref d0), (1, .int x1)]) hx hb dX5_findRooms_215 hl (by decide) rfl (fun ls hl => ?_)
          refine w_217 _ _ _ _ _ _ _ _ () (fun x3_799 H locs ls hP hD hS hl h => ?_) N _ _  _ _ _ hP hD hS (lv_sub hl [3, 4, 2, 1, 0] rfl) h
          refine lv_aload_n hx hb dX5_findRooms_307 rfl (lv_at hl 0 rfl) ?_
          refine va_get (D := G.1) (ci := 5) (v := .ref d7) (C := RX5) (T := TX5) (N := 19) hx hb hts hinX5 hown hK.1 hP 0 rfl rfl 8 (by decide) lk28 (fun _ h9 => h9) rfl dX5_findRooms_308 ?_
          refine lv_iload_n hx hb dX5_findRooms_311 rfl (lv_at hl 2 rfl) ?_
          refine lv_iconst (v := 1) hx hb dX5_findRooms_312 (by decide) ?_
          refine wzast h hx hb hK hP hD hS 7 rfl dX5_findRooms_313 (fun H locs hP hD hS h => ?_)
          have hP : va_P G.1 vwCl (w_D G d0 d1 d2 d3 d4 d5 d6 d7 d8 d9 d10 d11 d12 d_n d_a d_b d_c d_k d_x d_y d_d ((upd d_r (Int32.toNatClampNeg x3_799) (vp_nar .boolean 1))) d_w d_e d_1 d_2 d_o d_g d_ra d_rb d_rc d_t) H := hP
          have hD : va_D A (w_D G d0 d1 d2 d3 d4 d5 d6 d7 d8 d9 d10 d11 d12 d_n d_a d_b d_c d_k d_x d_y d_d ((upd d_r (Int32.toNatClampNeg x3_799) (vp_nar .boolean 1))) d_w d_e d_1 d_2 d_o d_g d_ra d_rb d_rc d_t) := hD
          refine lv_aload_n hx hb dX5_findRooms_314 rfl (lv_at hl 0 rfl) ?_
          refine va_get (D := G.1) (ci := 5) (v := .ref d7) (C := RX5) (T := TX5) (N := 19) hx hb hts hinX5 hown hK.1 hP 0 rfl rfl 8 (by decide) lk28 (fun _ h9 => h9) rfl dX5_findRooms_315 ?_
          refine lv_iload_n hx hb dX5_findRooms_318 rfl (lv_at hl 2 rfl) ?_
          refine lv_iconst (v := 1) hx hb dX5_findRooms_319 (by decide) ?_
          refine lv_iload_n hx hb dX5_findRooms_320 rfl (lv_at hl 1 rfl) ?_
          refine lv_ishl hx hb dX5_findRooms_321 ?_
          refine lv_ior hx hb dX5_findRooms_322 ?_
          refine lv_iconst (v := 1) hx hb dX5_findRooms_323 (by decide) ?_
          refine wzast h hx hb hK hP hD hS 7 rfl dX5_findRooms_324 (fun H locs hP hD hS h => ?_)
          have hP : va_P G.1 vwCl (w_D G d0 d1 d2 d3 d4 d5 d6 d7 d8 d9 d10 d11 d12 d_n d_a d_b d_c d_k d_x d_y d_d ((upd ((upd d_r (Int32.toNatClampNeg x3_799) (vp_nar .boolean 1))) (Int32.toNatClampNeg (x3_799 ||| (1 <<< (x1 &&& 31)))) (vp_nar .boolean 1))) d_w d_e d_1 d_2 d_o d_g d_ra d_rb d_rc d_t) H := hP
          have hD : va_D A (w_D G d0 d1 d2 d3 d4 d5 d6 d7 d8 d9 d10 d11 d12 d_n d_a d_b d_c d_k d_x d_y d_d ((upd ((upd d_r (Int32.toNatClampNeg x3_799) (vp_nar .boolean 1))) (Int32.toNatClampNeg (x3_799 ||| (1 <<< (x1 &&& 31)))) (vp_nar .boolean 1))) d_w d_e d_1 d_2 d_o d_g d_ra d_rb d_rc d_t) := hD
          refine lv_iinc (v := (x1 + 1)) (lv' := [(1, .int (x1 + 1)), (0, .ref d0), (3, .int x3_799)]) hx hb dX5_findRooms_325 hl (k := 1) rfl rfl (by decide) rfl (fun ls hl => ?_)
          refine lv_goto (tgt := 169) hx hb dX5_findRooms_328 (by decide) ?_
          exact ih _ _ _ _ _ hP hD hS (lv_sub hl [1, 0] rfl) h
  rw [fX5_findRooms.eq_1] at h
  refine lv_aload_n hx hb dX5_findRooms_0 rfl (lv_at hl 0 rfl) ?_
  obtain ⟨u_800, hc_801, h⟩ := bd_inv h
  refine wafter_v (wr := []) (w2 := (w_D G d0 d1 d2 d3 d4 d5 d6 d7 d8 d9 d10 d11 d12 d_n d_a d_b d_c u_800.1 u_800.2.1 u_800.2.2.1 u_800.2.2.2 d_r d_w d_e d_1 d_2 d_o d_g d_ra d_rb d_rc d_t)) (va_runV (As := []) (rest := []) ⟨hx, hb, hml, hown, hts⟩ (kX5_findMeets (l := l) (G := G) d0 d1 d2 d3 d4 d5 d6 d7 d8 d9 d10 d11 d12 d_n d_a d_b d_c d_k d_x d_y d_d d_r d_w d_e d_1 d_2 d_o d_g d_ra d_rb d_rc d_t  N u_800 hc_801 _) (cwV 0 hts gX5_findRooms_X5_findMeets rfl rfl rfl (by decide +kernel) ⟨Nat.le_of_ble_eq_true rfl, Nat.le_of_ble_eq_true rfl⟩) (wPreV hP hD hK [0, 1, 2, 3, 4, 5, 6, 7, 8, 9, 10, 11, 12] rfl rfl (ci := 5) (qb := 0) rfl rfl rfl) rfl rfl hl.1 rfl (lv_room (Nat.le_of_ble_eq_true rfl)) dX5_findRooms_1 ⟨Nat.zero_le _, Nat.zero_le _⟩) hP hD hS hA [0, 1, 2, 3, 4, 5, 6, 7, 8, 9, 10, 11, 12] [] [0, 1, 2, 3, 4, 5, 6, 7, 8, 9, 10, 11, 12] rfl rfl rfl (by decide) rfl rfl (fun H locs hP hD hS => ?_)
  refine lv_iconst (v := 0) hx hb dX5_findRooms_4 (by decide) ?_
  refine lv_istore_n (lv' := [(1, .int 0), (0, .ref d0)]) hx hb dX5_findRooms_5 rfl hl (by decide) rfl (fun ls hl => ?_)
  refine w_6 _  _ _ _ _ () (fun d_r_802 H locs ls hP hD hS hl h => ?_) N _ _ _ _ _ hP hD hS (lv_sub hl [1, 0] rfl) h
  refine lv_iconst (v := 0) hx hb dX5_findRooms_41 (by decide) ?_
  refine lv_istore_n (lv' := [(1, .int 0), (0, .ref d0)]) hx hb dX5_findRooms_42 rfl hl (by decide) rfl (fun ls hl => ?_)
  refine w_43 _  _ _ _ _ () (fun d_r_803 H locs ls hP hD hS hl h => ?_) N _ _ _ _ _ hP hD hS (lv_sub hl [1, 0] rfl) h
  refine lv_iconst (v := 0) hx hb dX5_findRooms_167 (by decide) ?_
  refine lv_istore_n (lv' := [(1, .int 0), (0, .ref d0)]) hx hb dX5_findRooms_168 rfl hl (by decide) rfl (fun ls hl => ?_)
  exact w_169   _ _ _ _ ()  N _ _ _ _ _ hP hD hS (lv_sub hl [1, 0] rfl) h
def fX5_countRooms_b4 (N : Nat) (d_r : Nat → Int32) : Nat → Int32 → Int32 → Option (Int32)
  | 0, _, _ => none
  | n + 1, x1, x2 => if 512 ≤ x2 then some x1 else rd d_r 512 x2 (fun v_805 => if v_805 = 0 then fX5_countRooms_b4 N d_r n (x1 + 0) (x2 + 1) else fX5_countRooms_b4 N d_r n (x1 + 1) (x2 + 1))
def fX5_countRooms (N : Nat) (d_r : Nat → Int32) : Option (Int32) := fX5_countRooms_b4 N d_r N 0 0
set_option maxHeartbeats 4000000 in
set_option maxRecDepth 100000 in
theorem kX5_countRooms {l : Launch} {G : wG} (d0 d1 d2 d3 d4 d5 d6 d7 d8 d9 d10 d11 d12 : Nat) (d_n : Int32) (d_a : Nat → Int32) (d_b : Nat → Int32) (d_c : Nat → Int32) (d_k : Int32) (d_x : Nat → Int32) (d_y : Nat → Int32) (d_d : Nat → Int32) (d_r : Nat → Int32) (d_w : Nat → Int32) (d_e : Int32) (d_1 : Nat → Int32) (d_2 : Nat → Int32) (d_o : Nat → Int32) (d_g : Nat → Int32) (d_ra : Int32) (d_rb : Int32) (d_rc : Int32) (d_t : Int32) (N : Nat) (v : Int32) (h : fX5_countRooms N d_r = some v) : wCi l G yX5_countRooms wsX5_countRooms ({ frames := 0, cells := 0, slots := 0, locals := 0 } : Room) [.ref d0] (w_D G d0 d1 d2 d3 d4 d5 d6 d7 d8 d9 d10 d11 d12 d_n d_a d_b d_c d_k d_x d_y d_d d_r d_w d_e d_1 d_2 d_o d_g d_ra d_rb d_rc d_t) (w_D G d0 d1 d2 d3 d4 d5 d6 d7 d8 d9 d10 d11 d12 d_n d_a d_b d_c d_k d_x d_y d_d d_r d_w d_e d_1 d_2 d_o d_g d_ra d_rb d_rc d_t) 0 0 v := by
  refine wCi.mk (cc := cX5_countRooms) (maxL := 3) (ty := .int) (by decide) rfl (Nat.le_of_ble_eq_true rfl) ?_
  intro p e s m below meth c A ls hx hb hml hr hlocks hts hown hK hA hP hD hl
  have hx : p.tables.exec = Jvm.exec := hx
  have hown : s.vm.findClass RX5 = some m.cls := hown
  have hinX5 : ∀ w ∈ wsX50, w ∈ wsX5_countRooms := by decide +kernel
  have lk28 := hts (.fieldLink RX5 28 "ChamberwrightModel" "isRoom" "[Z") (by decide +kernel)
  have hS : va_S A s.heap s.heap [] := va_S.rf
  have hP : va_P G.1 vwCl (w_D G d0 d1 d2 d3 d4 d5 d6 d7 d8 d9 d10 d11 d12 d_n d_a d_b d_c d_k d_x d_y d_d d_r d_w d_e d_1 d_2 d_o d_g d_ra d_rb d_rc d_t) s.heap := hP
  have hD : va_D A (w_D G d0 d1 d2 d3 d4 d5 d6 d7 d8 d9 d10 d11 d12 d_n d_a d_b d_c d_k d_x d_y d_d d_r d_w d_e d_1 d_2 d_o d_g d_ra d_rb d_rc d_t) := hD
  have hl : lv_has ls 3 [(0, .ref d0)] := hl
  obtain ⟨args, hargs⟩ : ∃ z : Array Value, z = ([.ref d0] : List Value).toArray := ⟨_, rfl⟩
  rw [← hargs]
  rw [← hargs] at hts
  have w_4 : ∀   (_z : Unit), ∀ (n : Nat) (x1 : Int32) (x2 : Int32)  (H : Heap) (locs : List Loc) (ls : Array Slot), va_P G.1 vwCl (w_D G d0 d1 d2 d3 d4 d5 d6 d7 d8 d9 d10 d11 d12 d_n d_a d_b d_c d_k d_x d_y d_d d_r d_w d_e d_1 d_2 d_o d_g d_ra d_rb d_rc d_t) H → va_D A (w_D G d0 d1 d2 d3 d4 d5 d6 d7 d8 d9 d10 d11 d12 d_n d_a d_b d_c d_k d_x d_y d_d d_r d_w d_e d_1 d_2 d_o d_g d_ra d_rb d_rc d_t) → va_S A s.heap H locs → lv_has ls 3 [(0, .ref d0), (1, .int x1), (2, .int x2)] → fX5_countRooms_b4 N d_r n x1 x2 = some v → W p l e ({ frames := 0, cells := 0, slots := 0, locals := 0 } : Room) s m args below meth c H locs 0 0 (wQi G A below args s (w_D G d0 d1 d2 d3 d4 d5 d6 d7 d8 d9 d10 d11 d12 d_n d_a d_b d_c d_k d_x d_y d_d d_r d_w d_e d_1 d_2 d_o d_g d_ra d_rb d_rc d_t) 0 0 v) (F0 m 4 ls []) := by
    intro _z n
    induction n with
    | zero =>
      intro x1 x2 H locs ls hP hD hS hl h
      rw [fX5_countRooms_b4.eq_1] at h
      cases h
    | succ n ih =>
      intro x1 x2 H locs ls hP hD hS hl h
      rw [fX5_countRooms_b4.eq_2] at h
      refine lv_iload_n hx hb dX5_countRooms_4 rfl (lv_at hl 2 rfl) ?_
      refine lv_sipush (v := 512) hx hb dX5_countRooms_5 (by decide) ?_
      refine lv_icmp_ge (tgt := 34) hx hb dX5_countRooms_8 (by decide) (fun c_804 => ?_) (fun c_804 => ?_)
      · have h := ip c_804 h
        refine lv_iload_n hx hb dX5_countRooms_34 rfl (lv_at hl 1 rfl) ?_
        obtain rfl := Option.some.inj h
        exact wri hx hb hr hlocks hP hD hS (Nat.le_of_ble_eq_true rfl) (Nat.le_of_ble_eq_true rfl) rfl dX5_countRooms_35
      · have h := iq c_804 h
        refine lv_iload_n hx hb dX5_countRooms_11 rfl (lv_at hl 1 rfl) ?_
        refine lv_aload_n hx hb dX5_countRooms_12 rfl (lv_at hl 0 rfl) ?_
        refine va_get (D := G.1) (ci := 5) (v := .ref d7) (C := RX5) (T := TX5) (N := 19) hx hb hts hinX5 hown hK.1 hP 0 rfl rfl 8 (by decide) lk28 (fun _ h9 => h9) rfl dX5_countRooms_13 ?_
        refine lv_iload_n hx hb dX5_countRooms_16 rfl (lv_at hl 2 rfl) ?_
        refine wzald h hx hb hK hP 7 rfl dX5_countRooms_17 (fun v_805 h => ?_)
        refine lv_if_eq (tgt := 25) hx hb dX5_countRooms_18 (by decide) (fun c_806 => ?_) (fun c_806 => ?_)
        · have h := ip c_806 h
          refine lv_iconst (v := 0) hx hb dX5_countRooms_25 (by decide) ?_
          refine lv_iadd hx hb dX5_countRooms_26 ?_
          refine lv_istore_n (lv' := [(1, .int (x1 + 0)), (0, .ref d0), (2, .int x2)]) hx hb dX5_countRooms_27 rfl hl (by decide) rfl (fun ls hl => ?_)
          refine lv_iinc (v := (x2 + 1)) (lv' := [(2, .int (x2 + 1)), (1, .int (x1 + 0)), (0, .ref d0)]) hx hb dX5_countRooms_28 hl (k := 2) rfl rfl (by decide) rfl (fun ls hl => ?_)
          refine lv_goto (tgt := 4) hx hb dX5_countRooms_31 (by decide) ?_
          exact ih _ _ _ _ _ hP hD hS (lv_sub hl [2, 1, 0] rfl) h
        · have h := iq c_806 h
          refine lv_iconst (v := 1) hx hb dX5_countRooms_21 (by decide) ?_
          refine lv_goto (tgt := 26) hx hb dX5_countRooms_22 (by decide) ?_
          refine lv_iadd hx hb dX5_countRooms_26 ?_
          refine lv_istore_n (lv' := [(1, .int (x1 + 1)), (0, .ref d0), (2, .int x2)]) hx hb dX5_countRooms_27 rfl hl (by decide) rfl (fun ls hl => ?_)
          refine lv_iinc (v := (x2 + 1)) (lv' := [(2, .int (x2 + 1)), (1, .int (x1 + 1)), (0, .ref d0)]) hx hb dX5_countRooms_28 hl (k := 2) rfl rfl (by decide) rfl (fun ls hl => ?_)
          refine lv_goto (tgt := 4) hx hb dX5_countRooms_31 (by decide) ?_
          exact ih _ _ _ _ _ hP hD hS (lv_sub hl [2, 1, 0] rfl) h
  rw [fX5_countRooms.eq_1] at h
  refine lv_iconst (v := 0) hx hb dX5_countRooms_0 (by decide) ?_
  refine lv_istore_n (lv' := [(1, .int 0), (0, .ref d0)]) hx hb dX5_countRooms_1 rfl hl (by decide) rfl (fun ls hl => ?_)
  refine lv_iconst (v := 0) hx hb dX5_countRooms_2 (by decide) ?_
  refine lv_istore_n (lv' := [(2, .int 0), (1, .int 0), (0, .ref d0)]) hx hb dX5_countRooms_3 rfl hl (by decide) rfl (fun ls hl => ?_)
  exact w_4    ()  N _ _  _ _ _ hP hD hS (lv_sub hl [2, 1, 0] rfl) h
def fX5_setOf_b17 (N : Nat) (d_r : Nat → Int32) (x2 : Int32) (x3 : Int32) (k_4 : Int32 → Int32 → Option (Int32)) : Option (Int32) := rd d_r 512 x3 (fun v_807 => if v_807 = 0 then k_4 (x2 - 0) (x3 + 1) else k_4 (x2 - 1) (x3 + 1))
def fX5_setOf_b4 (N : Nat) (d_r : Nat → Int32) : Nat → Int32 → Int32 → Option (Int32)
  | 0, _, _ => none
  | n + 1, x2, x3 => rd d_r 512 x3 (fun v_809 => if v_809 = 0 then fX5_setOf_b17 N d_r x2 x3 (fun (x2_811 : Int32) (x3_812 : Int32) => fX5_setOf_b4 N d_r n x2_811 x3_812) else if x2 ≤ 0 then some x3 else fX5_setOf_b17 N d_r x2 x3 (fun (x2_814 : Int32) (x3_815 : Int32) => fX5_setOf_b4 N d_r n x2_814 x3_815))
def fX5_setOf (N : Nat) (d_r : Nat → Int32) (x1 : Int32) : Option (Int32) := fX5_setOf_b4 N d_r N x1 0
set_option maxHeartbeats 4000000 in
set_option maxRecDepth 100000 in
theorem kX5_setOf {l : Launch} {G : wG} (d0 d1 d2 d3 d4 d5 d6 d7 d8 d9 d10 d11 d12 : Nat) (d_n : Int32) (d_a : Nat → Int32) (d_b : Nat → Int32) (d_c : Nat → Int32) (d_k : Int32) (d_x : Nat → Int32) (d_y : Nat → Int32) (d_d : Nat → Int32) (d_r : Nat → Int32) (d_w : Nat → Int32) (d_e : Int32) (d_1 : Nat → Int32) (d_2 : Nat → Int32) (d_o : Nat → Int32) (d_g : Nat → Int32) (d_ra : Int32) (d_rb : Int32) (d_rc : Int32) (d_t : Int32) (x1 : Int32) (N : Nat) (v : Int32) (h : fX5_setOf N d_r x1 = some v) : wCi l G yX5_setOf wsX5_setOf ({ frames := 0, cells := 0, slots := 0, locals := 0 } : Room) [.ref d0, .int x1] (w_D G d0 d1 d2 d3 d4 d5 d6 d7 d8 d9 d10 d11 d12 d_n d_a d_b d_c d_k d_x d_y d_d d_r d_w d_e d_1 d_2 d_o d_g d_ra d_rb d_rc d_t) (w_D G d0 d1 d2 d3 d4 d5 d6 d7 d8 d9 d10 d11 d12 d_n d_a d_b d_c d_k d_x d_y d_d d_r d_w d_e d_1 d_2 d_o d_g d_ra d_rb d_rc d_t) 0 0 v := by
  refine wCi.mk (cc := cX5_setOf) (maxL := 4) (ty := .int) (by decide) rfl (Nat.le_of_ble_eq_true rfl) ?_
  intro p e s m below meth c A ls hx hb hml hr hlocks hts hown hK hA hP hD hl
  have hx : p.tables.exec = Jvm.exec := hx
  have hown : s.vm.findClass RX5 = some m.cls := hown
  have hinX5 : ∀ w ∈ wsX50, w ∈ wsX5_setOf := by decide +kernel
  have lk28 := hts (.fieldLink RX5 28 "ChamberwrightModel" "isRoom" "[Z") (by decide +kernel)
  have hS : va_S A s.heap s.heap [] := va_S.rf
  have hP : va_P G.1 vwCl (w_D G d0 d1 d2 d3 d4 d5 d6 d7 d8 d9 d10 d11 d12 d_n d_a d_b d_c d_k d_x d_y d_d d_r d_w d_e d_1 d_2 d_o d_g d_ra d_rb d_rc d_t) s.heap := hP
  have hD : va_D A (w_D G d0 d1 d2 d3 d4 d5 d6 d7 d8 d9 d10 d11 d12 d_n d_a d_b d_c d_k d_x d_y d_d d_r d_w d_e d_1 d_2 d_o d_g d_ra d_rb d_rc d_t) := hD
  have hl : lv_has ls 4 [(0, .ref d0), (1, .int x1)] := hl
  obtain ⟨args, hargs⟩ : ∃ z : Array Value, z = ([.ref d0, .int x1] : List Value).toArray := ⟨_, rfl⟩
  rw [← hargs]
  rw [← hargs] at hts
  have w_17 : ∀ (k_4 : Int32 → Int32 → Option (Int32)) (x2 : Int32) (x3 : Int32)   (H : Heap) (locs : List Loc) (ls : Array Slot), (∀ (y2 : Int32) (y3 : Int32) (H : Heap) (locs : List Loc) (ls : Array Slot), va_P G.1 vwCl (w_D G d0 d1 d2 d3 d4 d5 d6 d7 d8 d9 d10 d11 d12 d_n d_a d_b d_c d_k d_x d_y d_d d_r d_w d_e d_1 d_2 d_o d_g d_ra d_rb d_rc d_t) H → va_D A (w_D G d0 d1 d2 d3 d4 d5 d6 d7 d8 d9 d10 d11 d12 d_n d_a d_b d_c d_k d_x d_y d_d d_r d_w d_e d_1 d_2 d_o d_g d_ra d_rb d_rc d_t) → va_S A s.heap H locs → lv_has ls 4 [(0, .ref d0), (2, .int y2), (3, .int y3)] → k_4 y2 y3 = some v → W p l e ({ frames := 0, cells := 0, slots := 0, locals := 0 } : Room) s m args below meth c H locs 0 0 (wQi G A below args s (w_D G d0 d1 d2 d3 d4 d5 d6 d7 d8 d9 d10 d11 d12 d_n d_a d_b d_c d_k d_x d_y d_d d_r d_w d_e d_1 d_2 d_o d_g d_ra d_rb d_rc d_t) 0 0 v) (F0 m 4 ls [])) → va_P G.1 vwCl (w_D G d0 d1 d2 d3 d4 d5 d6 d7 d8 d9 d10 d11 d12 d_n d_a d_b d_c d_k d_x d_y d_d d_r d_w d_e d_1 d_2 d_o d_g d_ra d_rb d_rc d_t) H → va_D A (w_D G d0 d1 d2 d3 d4 d5 d6 d7 d8 d9 d10 d11 d12 d_n d_a d_b d_c d_k d_x d_y d_d d_r d_w d_e d_1 d_2 d_o d_g d_ra d_rb d_rc d_t) → va_S A s.heap H locs → lv_has ls 4 [(0, .ref d0), (2, .int x2), (3, .int x3)] → fX5_setOf_b17 N d_r x2 x3 k_4 = some v → W p l e ({ frames := 0, cells := 0, slots := 0, locals := 0 } : Room) s m args below meth c H locs 0 0 (wQi G A below args s (w_D G d0 d1 d2 d3 d4 d5 d6 d7 d8 d9 d10 d11 d12 d_n d_a d_b d_c d_k d_x d_y d_d d_r d_w d_e d_1 d_2 d_o d_g d_ra d_rb d_rc d_t) 0 0 v) (F0 m 17 ls []) := by
    intro k_4 x2 x3 H locs ls hk_4 hP hD hS hl h
    rw [fX5_setOf_b17.eq_1] at h
    refine lv_iload_n hx hb dX5_setOf_17 rfl (lv_at hl 1 rfl) ?_
    refine lv_aload_n hx hb dX5_setOf_18 rfl (lv_at hl 0 rfl) ?_
    refine va_get (D := G.1) (ci := 5) (v := .ref d7) (C := RX5) (T := TX5) (N := 19) hx hb hts hinX5 hown hK.1 hP 0 rfl rfl 8 (by decide) lk28 (fun _ h9 => h9) rfl dX5_setOf_19 ?_
    refine lv_iload_n hx hb dX5_setOf_22 rfl (lv_at hl 2 rfl) ?_
    refine wzald h hx hb hK hP 7 rfl dX5_setOf_23 (fun v_807 h => ?_)
    refine lv_if_eq (tgt := 31) hx hb dX5_setOf_24 (by decide) (fun c_808 => ?_) (fun c_808 => ?_)
    · have h := ip c_808 h
      refine lv_iconst (v := 0) hx hb dX5_setOf_31 (by decide) ?_
      refine lv_isub hx hb dX5_setOf_32 ?_
      refine lv_istore_n (lv' := [(2, .int (x2 - 0)), (0, .ref d0), (3, .int x3)]) hx hb dX5_setOf_33 rfl hl (by decide) rfl (fun ls hl => ?_)
      refine lv_iinc (v := (x3 + 1)) (lv' := [(3, .int (x3 + 1)), (2, .int (x2 - 0)), (0, .ref d0)]) hx hb dX5_setOf_34 hl (k := 2) rfl rfl (by decide) rfl (fun ls hl => ?_)
      refine lv_goto (tgt := 4) hx hb dX5_setOf_37 (by decide) ?_
      exact hk_4 _ _ _ _ _ hP hD hS (lv_sub hl [2, 1, 0] rfl) h
    · have h := iq c_808 h
      refine lv_iconst (v := 1) hx hb dX5_setOf_27 (by decide) ?_
      refine lv_goto (tgt := 32) hx hb dX5_setOf_28 (by decide) ?_
      refine lv_isub hx hb dX5_setOf_32 ?_
      refine lv_istore_n (lv' := [(2, .int (x2 - 1)), (0, .ref d0), (3, .int x3)]) hx hb dX5_setOf_33 rfl hl (by decide) rfl (fun ls hl => ?_)
      refine lv_iinc (v := (x3 + 1)) (lv' := [(3, .int (x3 + 1)), (2, .int (x2 - 1)), (0, .ref d0)]) hx hb dX5_setOf_34 hl (k := 2) rfl rfl (by decide) rfl (fun ls hl => ?_)
      refine lv_goto (tgt := 4) hx hb dX5_setOf_37 (by decide) ?_
      exact hk_4 _ _ _ _ _ hP hD hS (lv_sub hl [2, 1, 0] rfl) h
  have w_4 : ∀   (_z : Unit), ∀ (n : Nat) (x2 : Int32) (x3 : Int32)  (H : Heap) (locs : List Loc) (ls : Array Slot), va_P G.1 vwCl (w_D G d0 d1 d2 d3 d4 d5 d6 d7 d8 d9 d10 d11 d12 d_n d_a d_b d_c d_k d_x d_y d_d d_r d_w d_e d_1 d_2 d_o d_g d_ra d_rb d_rc d_t) H → va_D A (w_D G d0 d1 d2 d3 d4 d5 d6 d7 d8 d9 d10 d11 d12 d_n d_a d_b d_c d_k d_x d_y d_d d_r d_w d_e d_1 d_2 d_o d_g d_ra d_rb d_rc d_t) → va_S A s.heap H locs → lv_has ls 4 [(0, .ref d0), (2, .int x2), (3, .int x3)] → fX5_setOf_b4 N d_r n x2 x3 = some v → W p l e ({ frames := 0, cells := 0, slots := 0, locals := 0 } : Room) s m args below meth c H locs 0 0 (wQi G A below args s (w_D G d0 d1 d2 d3 d4 d5 d6 d7 d8 d9 d10 d11 d12 d_n d_a d_b d_c d_k d_x d_y d_d d_r d_w d_e d_1 d_2 d_o d_g d_ra d_rb d_rc d_t) 0 0 v) (F0 m 4 ls []) := by
    intro _z n
    induction n with
    | zero =>
      intro x2 x3 H locs ls hP hD hS hl h
      rw [fX5_setOf_b4.eq_1] at h
      cases h
    | succ n ih =>
      intro x2 x3 H locs ls hP hD hS hl h
      rw [fX5_setOf_b4.eq_2] at h
      refine lv_aload_n hx hb dX5_setOf_4 rfl (lv_at hl 0 rfl) ?_
      refine va_get (D := G.1) (ci := 5) (v := .ref d7) (C := RX5) (T := TX5) (N := 19) hx hb hts hinX5 hown hK.1 hP 0 rfl rfl 8 (by decide) lk28 (fun _ h9 => h9) rfl dX5_setOf_5 ?_
      refine lv_iload_n hx hb dX5_setOf_8 rfl (lv_at hl 2 rfl) ?_
      refine wzald h hx hb hK hP 7 rfl dX5_setOf_9 (fun v_809 h => ?_)
      refine lv_if_eq (tgt := 17) hx hb dX5_setOf_10 (by decide) (fun c_810 => ?_) (fun c_810 => ?_)
      · have h := ip c_810 h
        refine w_17 _ _ _   _ _ _ (fun x2_811 x3_812 H locs ls hP hD hS hl h => ?_) hP hD hS (lv_sub hl [0, 1, 2] rfl) h
        exact ih _ _ _ _ _ hP hD hS (lv_sub hl [0, 1, 2] rfl) h
      · have h := iq c_810 h
        refine lv_iload_n hx hb dX5_setOf_13 rfl (lv_at hl 1 rfl) ?_
        refine lv_if_le (tgt := 40) hx hb dX5_setOf_14 (by decide) (fun c_813 => ?_) (fun c_813 => ?_)
        · have h := ip c_813 h
          refine lv_iload_n hx hb dX5_setOf_40 rfl (lv_at hl 2 rfl) ?_
          obtain rfl := Option.some.inj h
          exact wri hx hb hr hlocks hP hD hS (Nat.le_of_ble_eq_true rfl) (Nat.le_of_ble_eq_true rfl) rfl dX5_setOf_41
        · have h := iq c_813 h
          refine w_17 _ _ _   _ _ _ (fun x2_814 x3_815 H locs ls hP hD hS hl h => ?_) hP hD hS (lv_sub hl [0, 1, 2] rfl) h
          exact ih _ _ _ _ _ hP hD hS (lv_sub hl [0, 1, 2] rfl) h
  rw [fX5_setOf.eq_1] at h
  refine lv_iload_n hx hb dX5_setOf_0 rfl (lv_at hl 1 rfl) ?_
  refine lv_istore_n (lv' := [(2, .int x1), (0, .ref d0), (1, .int x1)]) hx hb dX5_setOf_1 rfl hl (by decide) rfl (fun ls hl => ?_)
  refine lv_iconst (v := 0) hx hb dX5_setOf_2 (by decide) ?_
  refine lv_istore_n (lv' := [(3, .int 0), (2, .int x1), (0, .ref d0), (1, .int x1)]) hx hb dX5_setOf_3 rfl hl (by decide) rfl (fun ls hl => ?_)
  exact w_4    ()  N _ _  _ _ _ hP hD hS (lv_sub hl [2, 1, 0] rfl) h
