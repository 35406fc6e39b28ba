def fX5_colourings_b21 (N : Nat) (x1 : Int32) (k_37 : Int32 → Option (Int32 × (Nat → Int32) × Int32)) : Nat → Int32 → Int32 → Option (Int32 × (Nat → Int32) × Int32)
  | 0, _, _ => none
  | n + 1, x2, x3 => if 6 ≤ x3 then k_37 x2 else fX5_colourings_b21 N x1 k_37 n (x2 * x1) (x3 + 1)
def fX5_colourings_b55 (N : Nat) (x1 : Int32) (k_85 : (Nat → Int32) → Option (Int32 × (Nat → Int32) × Int32)) : Nat → Int32 → Int32 → (Nat → Int32) → Option (Int32 × (Nat → Int32) × Int32)
  | 0, _, _, _ => none
  | n + 1, x5, x6, d_o => if 6 ≤ x6 then k_85 d_o else nz x1 (ck 6 x6 (nz x1 (fX5_colourings_b55 N x1 k_85 n (x5 / x1) (x6 + 1) ((upd d_o (Int32.toNatClampNeg x6) (x5 - x5 / x1 * x1))))))
def fX5_colourings_b91 (N : Nat) (d_e : Int32) (d_1 : Nat → Int32) (d_2 : Nat → Int32) (d_o : Nat → Int32) (k_143 : Int32 → Option (Int32 × (Nat → Int32) × Int32)) : Nat → Int32 → Int32 → Option (Int32 × (Nat → Int32) × Int32)
  | 0, _, _ => none
  | n + 1, x6, x7 => if d_e ≤ x7 then k_143 x6 else rd d_1 15 x7 (fun v_1179 => rd d_o 6 v_1179 (fun v_1180 => rd d_2 15 x7 (fun v_1181 => rd d_o 6 v_1181 (fun v_1182 => if v_1180 = v_1182 then fX5_colourings_b91 N d_e d_1 d_2 d_o k_143 n (x6 &&& 0) (x7 + 1) else fX5_colourings_b91 N d_e d_1 d_2 d_o k_143 n (x6 &&& 1) (x7 + 1)))))
def fX5_colourings_b42 (N : Nat) (d_e : Int32) (d_1 : Nat → Int32) (d_2 : Nat → Int32) (d_t : Int32) (x1 : Int32) (x2 : Int32) : Nat → Int32 → Int32 → (Nat → Int32) → Option (Int32 × (Nat → Int32) × Int32)
  | 0, _, _, _ => none
  | n + 1, x3, x4, d_o => if x2 ≤ x4 then some (x3, d_o, d_t) else fX5_colourings_b55 N x1 (fun (d_o_1185 : Nat → Int32) => fX5_colourings_b91 N d_e d_1 d_2 d_o_1185 (fun (x6_1186 : Int32) => if x6_1186 = 0 then fX5_colourings_b42 N d_e d_1 d_2 d_t x1 x2 n (x3 + 0) (x4 + 1) d_o_1185 else fX5_colourings_b42 N d_e d_1 d_2 d_t x1 x2 n (x3 + 1) (x4 + 1) d_o_1185) N 1 0) N x4 0 d_o
def fX5_colourings (N : Nat) (d_e : Int32) (d_1 : Nat → Int32) (d_2 : Nat → Int32) (d_o : Nat → Int32) (d_t : Int32) (x1 : Int32) : Option (Int32 × (Nat → Int32) × Int32) := bd (fX5_in N x1 0 6) (fun u_1188 => bd (fX5_fails N d_t u_1188 1) (fun u_1190 => if u_1190.1 = 0 then fX5_colourings_b21 N x1 (fun (x2_1193 : Int32) => fX5_colourings_b42 N d_e d_1 d_2 u_1190.2 x1 x2_1193 N 0 0 d_o) N 1 0 else some (0, d_o, u_1190.2)))
set_option maxHeartbeats 4000000 in
set_option maxRecDepth 100000 in
theorem kX5_colourings {l : Launch} {G : wG} (d0 d1 d2 d3 d4 d5 d6 d7 d8 d9 d10 d11 d12 : Nat) (d_n : Int32) (d_a : Nat → Int32) (d_b : Nat → Int32) (d_c : Nat → Int32) (d_k : Int32) (d_x : Nat → Int32) (d_y : Nat → Int32) (d_d : Nat → Int32) (d_r : Nat → Int32) (d_w : Nat → Int32) (d_e : Int32) (d_1 : Nat → Int32) (d_2 : Nat → Int32) (d_o : Nat → Int32) (d_g : Nat → Int32) (d_ra : Int32) (d_rb : Int32) (d_rc : Int32) (d_t : Int32) (x1 : Int32) (N : Nat) (v : Int32 × (Nat → Int32) × Int32) (h : fX5_colourings N d_e d_1 d_2 d_o d_t x1 = some v) : wCi l G yX5_colourings wsX5_colourings ({ frames := 1, cells := 0, slots := 0, locals := 22 } : Room) [.ref d0, .int x1] (w_D G d0 d1 d2 d3 d4 d5 d6 d7 d8 d9 d10 d11 d12 d_n d_a d_b d_c d_k d_x d_y d_d d_r d_w d_e d_1 d_2 d_o d_g d_ra d_rb d_rc d_t) (w_D G d0 d1 d2 d3 d4 d5 d6 d7 d8 d9 d10 d11 d12 d_n d_a d_b d_c d_k d_x d_y d_d d_r d_w d_e d_1 d_2 v.2.1 d_g d_ra d_rb d_rc v.2.2) 0 0 v.1 := by
  refine wCi.mk (cc := cX5_colourings) (maxL := 8) (ty := .int) (by decide) rfl (Nat.le_of_ble_eq_true rfl) ?_
  intro p e s m below meth c A ls hx hb hml hr hlocks hts hown hK hA hP hD hl
  have hx : p.tables.exec = Jvm.exec := hx
  have hown : s.vm.findClass RX5 = some m.cls := hown
  have hinX5 : ∀ w ∈ wsX50, w ∈ wsX5_colourings := by decide +kernel
  have lk153 := hts (.fieldLink RX5 153 "ChamberwrightModel" "edges" "I") (by decide +kernel)
  have lk35 := hts (.fieldLink RX5 35 "ChamberwrightModel" "one" "[I") (by decide +kernel)
  have lk38 := hts (.fieldLink RX5 38 "ChamberwrightModel" "two" "[I") (by decide +kernel)
  have lk41 := hts (.fieldLink RX5 41 "ChamberwrightModel" "colour" "[I") (by decide +kernel)
  have hS : va_S A s.heap s.heap [] := va_S.rf
  have hP : va_P G.1 vwCl (w_D G d0 d1 d2 d3 d4 d5 d6 d7 d8 d9 d10 d11 d12 d_n d_a d_b d_c d_k d_x d_y d_d d_r d_w d_e d_1 d_2 d_o d_g d_ra d_rb d_rc d_t) s.heap := hP
  have hD : va_D A (w_D G d0 d1 d2 d3 d4 d5 d6 d7 d8 d9 d10 d11 d12 d_n d_a d_b d_c d_k d_x d_y d_d d_r d_w d_e d_1 d_2 d_o d_g d_ra d_rb d_rc d_t) := hD
  have hl : lv_has ls 8 [(0, .ref d0), (1, .int x1)] := hl
  obtain ⟨args, hargs⟩ : ∃ z : Array Value, z = ([.ref d0, .int x1] : List Value).toArray := ⟨_, rfl⟩
  rw [← hargs]
  rw [← hargs] at hts
  have w_21 : ∀ (k_37 : Int32 → Option (Int32 × (Nat → Int32) × Int32)) (x1 : Int32) (d_o : Nat → Int32) (d_t : Int32) (_z : Unit), (∀ (y2 : Int32) (H : Heap) (locs : List Loc) (ls : Array Slot), va_P G.1 vwCl (w_D G d0 d1 d2 d3 d4 d5 d6 d7 d8 d9 d10 d11 d12 d_n d_a d_b d_c d_k d_x d_y d_d d_r d_w d_e d_1 d_2 d_o d_g d_ra d_rb d_rc d_t) H → va_D A (w_D G d0 d1 d2 d3 d4 d5 d6 d7 d8 d9 d10 d11 d12 d_n d_a d_b d_c d_k d_x d_y d_d d_r d_w d_e d_1 d_2 d_o d_g d_ra d_rb d_rc d_t) → va_S A s.heap H locs → lv_has ls 8 [(0, .ref d0), (1, .int x1), (2, .int y2)] → k_37 y2 = some v → W p l e ({ frames := 1, cells := 0, slots := 0, locals := 22 } : Room) s m args below meth c H locs 0 0 (wQi G A below args s (w_D G d0 d1 d2 d3 d4 d5 d6 d7 d8 d9 d10 d11 d12 d_n d_a d_b d_c d_k d_x d_y d_d d_r d_w d_e d_1 d_2 v.2.1 d_g d_ra d_rb d_rc v.2.2) 0 0 v.1) (F0 m 37 ls [])) → ∀ (n : Nat) (x2 : Int32) (x3 : Int32)  (H : Heap) (locs : List Loc) (ls : Array Slot), va_P G.1 vwCl (w_D G d0 d1 d2 d3 d4 d5 d6 d7 d8 d9 d10 d11 d12 d_n d_a d_b d_c d_k d_x d_y d_d d_r d_w d_e d_1 d_2 d_o d_g d_ra d_rb d_rc d_t) H → va_D A (w_D G d0 d1 d2 d3 d4 d5 d6 d7 d8 d9 d10 d11 d12 d_n d_a d_b d_c d_k d_x d_y d_d d_r d_w d_e d_1 d_2 d_o d_g d_ra d_rb d_rc d_t) → va_S A s.heap H locs → lv_has ls 8 [(0, .ref d0), (1, .int x1), (2, .int x2), (3, .int x3)] → fX5_colourings_b21 N x1 k_37 n x2 x3 = some v → W p l e ({ frames := 1, cells := 0, slots := 0, locals := 22 } : Room) s m args below meth c H locs 0 0 (wQi G A below args s (w_D G d0 d1 d2 d3 d4 d5 d6 d7 d8 d9 d10 d11 d12 d_n d_a d_b d_c d_k d_x d_y d_d d_r d_w d_e d_1 d_2 v.2.1 d_g d_ra d_rb d_rc v.2.2) 0 0 v.1) (F0 m 21 ls []) := by
    intro k_37 x1 d_o d_t _z hk_37 n
    induction n with
    | zero =>
      intro x2 x3 H locs ls hP hD hS hl h
      rw [fX5_colourings_b21.eq_1] at h
      cases h
    | succ n ih =>
      intro x2 x3 H locs ls hP hD hS hl h
      rw [fX5_colourings_b21.eq_2] at h
      refine lv_iload_n hx hb dX5_colourings_21 rfl (lv_at hl 3 rfl) ?_
      refine lv_bipush (v := 6) hx hb dX5_colourings_22 (by decide) ?_
      refine lv_icmp_ge (tgt := 37) hx hb dX5_colourings_24 (by decide) (fun c_1176 => ?_) (fun c_1176 => ?_)
      · have h := ip c_1176 h
        exact hk_37 _ _ _ _ hP hD hS (lv_sub hl [0, 1, 2] rfl) h
      · have h := iq c_1176 h
        refine lv_iload_n hx hb dX5_colourings_27 rfl (lv_at hl 2 rfl) ?_
        refine lv_iload_n hx hb dX5_colourings_28 rfl (lv_at hl 1 rfl) ?_
        refine lv_imul hx hb dX5_colourings_29 ?_
        refine lv_istore_n (lv' := [(2, .int (x2 * x1)), (0, .ref d0), (1, .int x1), (3, .int x3)]) hx hb dX5_colourings_30 rfl hl (by decide) rfl (fun ls hl => ?_)
        refine lv_iinc (v := (x3 + 1)) (lv' := [(3, .int (x3 + 1)), (2, .int (x2 * x1)), (0, .ref d0), (1, .int x1)]) hx hb dX5_colourings_31 hl (k := 3) rfl rfl (by decide) rfl (fun ls hl => ?_)
        refine lv_goto (tgt := 21) hx hb dX5_colourings_34 (by decide) ?_
        exact ih _ _ _ _ _ hP hD hS (lv_sub hl [2, 3, 1, 0] rfl) h
  have w_55 : ∀ (k_85 : (Nat → Int32) → Option (Int32 × (Nat → Int32) × Int32)) (x1 : Int32) (x2 : Int32) (x3 : Int32) (x4 : Int32) (d_t : Int32) (_z : Unit), (∀ (yd_o : Nat → Int32) (H : Heap) (locs : List Loc) (ls : Array Slot), va_P G.1 vwCl (w_D G d0 d1 d2 d3 d4 d5 d6 d7 d8 d9 d10 d11 d12 d_n d_a d_b d_c d_k d_x d_y d_d d_r d_w d_e d_1 d_2 yd_o d_g d_ra d_rb d_rc d_t) H → va_D A (w_D G d0 d1 d2 d3 d4 d5 d6 d7 d8 d9 d10 d11 d12 d_n d_a d_b d_c d_k d_x d_y d_d d_r d_w d_e d_1 d_2 yd_o d_g d_ra d_rb d_rc d_t) → va_S A s.heap H locs → lv_has ls 8 [(0, .ref d0), (1, .int x1), (2, .int x2), (3, .int x3), (4, .int x4)] → k_85 yd_o = some v → W p l e ({ frames := 1, cells := 0, slots := 0, locals := 22 } : Room) s m args below meth c H locs 0 0 (wQi G A below args s (w_D G d0 d1 d2 d3 d4 d5 d6 d7 d8 d9 d10 d11 d12 d_n d_a d_b d_c d_k d_x d_y d_d d_r d_w d_e d_1 d_2 v.2.1 d_g d_ra d_rb d_rc v.2.2) 0 0 v.1) (F0 m 85 ls [])) → ∀ (n : Nat) (x5 : Int32) (x6 : Int32) (d_o : Nat → Int32) (H : Heap) (locs : List Loc) (ls : Array Slot), va_P G.1 vwCl (w_D G d0 d1 d2 d3 d4 d5 d6 d7 d8 d9 d10 d11 d12 d_n d_a d_b d_c d_k d_x d_y d_d d_r d_w d_e d_1 d_2 d_o d_g d_ra d_rb d_rc d_t) H → va_D A (w_D G d0 d1 d2 d3 d4 d5 d6 d7 d8 d9 d10 d11 d12 d_n d_a d_b d_c d_k d_x d_y d_d d_r d_w d_e d_1 d_2 d_o d_g d_ra d_rb d_rc d_t) → va_S A s.heap H locs → lv_has ls 8 [(0, .ref d0), (1, .int x1), (2, .int x2), (3, .int x3), (4, .int x4), (5, .int x5), (6, .int x6)] → fX5_colourings_b55 N x1 k_85 n x5 x6 d_o = some v → W p l e ({ frames := 1, cells := 0, slots := 0, locals := 22 } : Room) s m args below meth c H locs 0 0 (wQi G A below args s (w_D G d0 d1 d2 d3 d4 d5 d6 d7 d8 d9 d10 d11 d12 d_n d_a d_b d_c d_k d_x d_y d_d d_r d_w d_e d_1 d_2 v.2.1 d_g d_ra d_rb d_rc v.2.2) 0 0 v.1) (F0 m 55 ls []) := by
    intro k_85 x1 x2 x3 x4 d_t _z hk_85 n
    induction n with
    | zero =>
      intro x5 x6 d_o H locs ls hP hD hS hl h
      rw [fX5_colourings_b55.eq_1] at h
      cases h
    | succ n ih =>
      intro x5 x6 d_o H locs ls hP hD hS hl h
      rw [fX5_colourings_b55.eq_2] at h
      refine lv_iload hx hb dX5_colourings_55 (lv_at hl 6 rfl) ?_
      refine lv_bipush (v := 6) hx hb dX5_colourings_57 (by decide) ?_
      refine lv_icmp_ge (tgt := 85) hx hb dX5_colourings_59 (by decide) (fun c_1177 => ?_) (fun c_1177 => ?_)
      · have h := ip c_1177 h
        exact hk_85 _ _ _ _ hP hD hS (lv_sub hl [0, 1, 2, 3, 4] rfl) h
      · have h := iq c_1177 h
        refine lv_aload_n hx hb dX5_colourings_62 rfl (lv_at hl 0 rfl) ?_
        refine va_get (D := G.1) (ci := 5) (v := .ref d11) (C := RX5) (T := TX5) (N := 19) hx hb hts hinX5 hown hK.1 hP 0 rfl rfl 13 (by decide) lk41 (fun _ h9 => h9) rfl dX5_colourings_63 ?_
        refine lv_iload hx hb dX5_colourings_66 (lv_at hl 6 rfl) ?_
        refine lv_iload hx hb dX5_colourings_68 (lv_at hl 5 rfl) ?_
        refine lv_iload_n hx hb dX5_colourings_70 rfl (lv_at hl 1 rfl) ?_
        obtain ⟨hz, h⟩ := nz_inv h
        refine lv_irem hx hb dX5_colourings_71 hz ?_
        refine wiast h hx hb hK hP hD hS 11 rfl dX5_colourings_72 (fun H locs hP hD hS h => ?_)
        have hP : va_P G.1 vwCl (w_D G d0 d1 d2 d3 d4 d5 d6 d7 d8 d9 d10 d11 d12 d_n d_a d_b d_c d_k d_x d_y d_d d_r d_w d_e d_1 d_2 ((upd d_o (Int32.toNatClampNeg x6) (x5 - x5 / x1 * x1))) d_g d_ra d_rb d_rc d_t) H := hP
        have hD : va_D A (w_D G d0 d1 d2 d3 d4 d5 d6 d7 d8 d9 d10 d11 d12 d_n d_a d_b d_c d_k d_x d_y d_d d_r d_w d_e d_1 d_2 ((upd d_o (Int32.toNatClampNeg x6) (x5 - x5 / x1 * x1))) d_g d_ra d_rb d_rc d_t) := hD
        refine lv_iload hx hb dX5_colourings_73 (lv_at hl 5 rfl) ?_
        refine lv_iload_n hx hb dX5_colourings_75 rfl (lv_at hl 1 rfl) ?_
        obtain ⟨hz, h⟩ := nz_inv h
        refine lv_idiv hx hb dX5_colourings_76 hz ?_
        refine lv_istore (lv' := [(5, .int (x5 / x1)), (0, .ref d0), (1, .int x1), (2, .int x2), (3, .int x3), (4, .int x4), (6, .int x6)]) hx hb dX5_colourings_77 hl (by decide) rfl (fun ls hl => ?_)
        refine lv_iinc (v := (x6 + 1)) (lv' := [(6, .int (x6 + 1)), (5, .int (x5 / x1)), (0, .ref d0), (1, .int x1), (2, .int x2), (3, .int x3), (4, .int x4)]) hx hb dX5_colourings_79 hl (k := 6) rfl rfl (by decide) rfl (fun ls hl => ?_)
        refine lv_goto (tgt := 55) hx hb dX5_colourings_82 (by decide) ?_
        exact ih _ _ _ _ _ _ hP hD hS (lv_sub hl [2, 3, 4, 5, 6, 1, 0] rfl) h
  have w_91 : ∀ (k_143 : Int32 → Option (Int32 × (Nat → Int32) × Int32)) (x1 : Int32) (x2 : Int32) (x3 : Int32) (x4 : Int32) (d_o : Nat → Int32) (d_t : Int32) (_z : Unit), (∀ (y6 : Int32) (H : Heap) (locs : List Loc) (ls : Array Slot), va_P G.1 vwCl (w_D G d0 d1 d2 d3 d4 d5 d6 d7 d8 d9 d10 d11 d12 d_n d_a d_b d_c d_k d_x d_y d_d d_r d_w d_e d_1 d_2 d_o d_g d_ra d_rb d_rc d_t) H → va_D A (w_D G d0 d1 d2 d3 d4 d5 d6 d7 d8 d9 d10 d11 d12 d_n d_a d_b d_c d_k d_x d_y d_d d_r d_w d_e d_1 d_2 d_o d_g d_ra d_rb d_rc d_t) → va_S A s.heap H locs → lv_has ls 8 [(0, .ref d0), (1, .int x1), (2, .int x2), (3, .int x3), (4, .int x4), (6, .int y6)] → k_143 y6 = some v → W p l e ({ frames := 1, cells := 0, slots := 0, locals := 22 } : Room) s m args below meth c H locs 0 0 (wQi G A below args s (w_D G d0 d1 d2 d3 d4 d5 d6 d7 d8 d9 d10 d11 d12 d_n d_a d_b d_c d_k d_x d_y d_d d_r d_w d_e d_1 d_2 v.2.1 d_g d_ra d_rb d_rc v.2.2) 0 0 v.1) (F0 m 143 ls [])) → ∀ (n : Nat) (x6 : Int32) (x7 : Int32)  (H : Heap) (locs : List Loc) (ls : Array Slot), va_P G.1 vwCl (w_D G d0 d1 d2 d3 d4 d5 d6 d7 d8 d9 d10 d11 d12 d_n d_a d_b d_c d_k d_x d_y d_d d_r d_w d_e d_1 d_2 d_o d_g d_ra d_rb d_rc d_t) H → va_D A (w_D G d0 d1 d2 d3 d4 d5 d6 d7 d8 d9 d10 d11 d12 d_n d_a d_b d_c d_k d_x d_y d_d d_r d_w d_e d_1 d_2 d_o d_g d_ra d_rb d_rc d_t) → va_S A s.heap H locs → lv_has ls 8 [(0, .ref d0), (1, .int x1), (2, .int x2), (3, .int x3), (4, .int x4), (6, .int x6), (7, .int x7)] → fX5_colourings_b91 N d_e d_1 d_2 d_o k_143 n x6 x7 = some v → W p l e ({ frames := 1, cells := 0, slots := 0, locals := 22 } : Room) s m args below meth c H locs 0 0 (wQi G A below args s (w_D G d0 d1 d2 d3 d4 d5 d6 d7 d8 d9 d10 d11 d12 d_n d_a d_b d_c d_k d_x d_y d_d d_r d_w d_e d_1 d_2 v.2.1 d_g d_ra d_rb d_rc v.2.2) 0 0 v.1) (F0 m 91 ls []) := by
    intro k_143 x1 x2 x3 x4 d_o d_t _z hk_143 n
    induction n with
    | zero =>
      intro x6 x7 H locs ls hP hD hS hl h
      rw [fX5_colourings_b91.eq_1] at h
      cases h
    | succ n ih =>
      intro x6 x7 H locs ls hP hD hS hl h
      rw [fX5_colourings_b91.eq_2] at h
      refine lv_iload hx hb dX5_colourings_91 (lv_at hl 6 rfl) ?_
      refine lv_aload_n hx hb dX5_colourings_93 rfl (lv_at hl 0 rfl) ?_
      refine va_get (D := G.1) (ci := 5) (v := .int d_e) (C := RX5) (T := TX5) (N := 19) hx hb hts hinX5 hown hK.1 hP 0 rfl rfl 10 (by decide) lk153 (fun _ h9 => h9) rfl dX5_colourings_94 ?_
      refine lv_icmp_ge (tgt := 143) hx hb dX5_colourings_97 (by decide) (fun c_1178 => ?_) (fun c_1178 => ?_)
      · have h := ip c_1178 h
        exact hk_143 _ _ _ _ hP hD hS (lv_sub hl [0, 1, 2, 3, 4, 5] rfl) h
      · have h := iq c_1178 h
        refine lv_iload hx hb dX5_colourings_100 (lv_at hl 5 rfl) ?_
        refine lv_aload_n hx hb dX5_colourings_102 rfl (lv_at hl 0 rfl) ?_
        refine va_get (D := G.1) (ci := 5) (v := .ref d11) (C := RX5) (T := TX5) (N := 19) hx hb hts hinX5 hown hK.1 hP 0 rfl rfl 13 (by decide) lk41 (fun _ h9 => h9) rfl dX5_colourings_103 ?_
        refine lv_aload_n hx hb dX5_colourings_106 rfl (lv_at hl 0 rfl) ?_
        refine va_get (D := G.1) (ci := 5) (v := .ref d9) (C := RX5) (T := TX5) (N := 19) hx hb hts hinX5 hown hK.1 hP 0 rfl rfl 11 (by decide) lk35 (fun _ h9 => h9) rfl dX5_colourings_107 ?_
        refine lv_iload hx hb dX5_colourings_110 (lv_at hl 6 rfl) ?_
        refine wiald h hx hb hK hP 9 rfl dX5_colourings_112 (fun v_1179 h => ?_)
        refine wiald h hx hb hK hP 11 rfl dX5_colourings_113 (fun v_1180 h => ?_)
        refine lv_aload_n hx hb dX5_colourings_114 rfl (lv_at hl 0 rfl) ?_
        refine va_get (D := G.1) (ci := 5) (v := .ref d11) (C := RX5) (T := TX5) (N := 19) hx hb hts hinX5 hown hK.1 hP 0 rfl rfl 13 (by decide) lk41 (fun _ h9 => h9) rfl dX5_colourings_115 ?_
        refine lv_aload_n hx hb dX5_colourings_118 rfl (lv_at hl 0 rfl) ?_
        refine va_get (D := G.1) (ci := 5) (v := .ref d10) (C := RX5) (T := TX5) (N := 19) hx hb hts hinX5 hown hK.1 hP 0 rfl rfl 12 (by decide) lk38 (fun _ h9 => h9) rfl dX5_colourings_119 ?_
        refine lv_iload hx hb dX5_colourings_122 (lv_at hl 6 rfl) ?_
        refine wiald h hx hb hK hP 10 rfl dX5_colourings_124 (fun v_1181 h => ?_)
        refine wiald h hx hb hK hP 11 rfl dX5_colourings_125 (fun v_1182 h => ?_)
        refine lv_icmp_eq (tgt := 133) hx hb dX5_colourings_126 (by decide) (fun c_1183 => ?_) (fun c_1183 => ?_)
        · have h := ip c_1183 h
          refine lv_iconst (v := 0) hx hb dX5_colourings_133 (by decide) ?_
          refine lv_iand hx hb dX5_colourings_134 ?_
          refine lv_istore (lv' := [(6, .int (x6 &&& 0)), (0, .ref d0), (1, .int x1), (2, .int x2), (3, .int x3), (4, .int x4), (7, .int x7)]) hx hb dX5_colourings_135 hl (by decide) rfl (fun ls hl => ?_)
          refine lv_iinc (v := (x7 + 1)) (lv' := [(7, .int (x7 + 1)), (6, .int (x6 &&& 0)), (0, .ref d0), (1, .int x1), (2, .int x2), (3, .int x3), (4, .int x4)]) hx hb dX5_colourings_137 hl (k := 6) rfl rfl (by decide) rfl (fun ls hl => ?_)
          refine lv_goto (tgt := 91) hx hb dX5_colourings_140 (by decide) ?_
          exact ih _ _ _ _ _ hP hD hS (lv_sub hl [2, 3, 4, 5, 6, 1, 0] rfl) h
        · have h := iq c_1183 h
          refine lv_iconst (v := 1) hx hb dX5_colourings_129 (by decide) ?_
          refine lv_goto (tgt := 134) hx hb dX5_colourings_130 (by decide) ?_
          refine lv_iand hx hb dX5_colourings_134 ?_
          refine lv_istore (lv' := [(6, .int (x6 &&& 1)), (0, .ref d0), (1, .int x1), (2, .int x2), (3, .int x3), (4, .int x4), (7, .int x7)]) hx hb dX5_colourings_135 hl (by decide) rfl (fun ls hl => ?_)
          refine lv_iinc (v := (x7 + 1)) (lv' := [(7, .int (x7 + 1)), (6, .int (x6 &&& 1)), (0, .ref d0), (1, .int x1), (2, .int x2), (3, .int x3), (4, .int x4)]) hx hb dX5_colourings_137 hl (k := 6) rfl rfl (by decide) rfl (fun ls hl => ?_)
          refine lv_goto (tgt := 91) hx hb dX5_colourings_140 (by decide) ?_
          exact ih _ _ _ _ _ hP hD hS (lv_sub hl [2, 3, 4, 5, 6, 1, 0] rfl) h
  have w_42 : ∀ (x1 : Int32) (x2 : Int32) (d_t : Int32) (_z : Unit), ∀ (n : Nat) (x3 : Int32) (x4 : Int32) (d_o : Nat → Int32) (H : Heap) (locs : List Loc) (ls : Array Slot), va_P G.1 vwCl (w_D G d0 d1 d2 d3 d4 d5 d6 d7 d8 d9 d10 d11 d12 d_n d_a d_b d_c d_k d_x d_y d_d d_r d_w d_e d_1 d_2 d_o d_g d_ra d_rb d_rc d_t) H → va_D A (w_D G d0 d1 d2 d3 d4 d5 d6 d7 d8 d9 d10 d11 d12 d_n d_a d_b d_c d_k d_x d_y d_d d_r d_w d_e d_1 d_2 d_o d_g d_ra d_rb d_rc d_t) → va_S A s.heap H locs → lv_has ls 8 [(0, .ref d0), (1, .int x1), (2, .int x2), (3, .int x3), (4, .int x4)] → fX5_colourings_b42 N d_e d_1 d_2 d_t x1 x2 n x3 x4 d_o = some v → W p l e ({ frames := 1, cells := 0, slots := 0, locals := 22 } : Room) s m args below meth c H locs 0 0 (wQi G A below args s (w_D G d0 d1 d2 d3 d4 d5 d6 d7 d8 d9 d10 d11 d12 d_n d_a d_b d_c d_k d_x d_y d_d d_r d_w d_e d_1 d_2 v.2.1 d_g d_ra d_rb d_rc v.2.2) 0 0 v.1) (F0 m 42 ls []) := by
    intro x1 x2 d_t _z n
    induction n with
    | zero =>
      intro x3 x4 d_o H locs ls hP hD hS hl h
      rw [fX5_colourings_b42.eq_1] at h
      cases h
    | succ n ih =>
      intro x3 x4 d_o H locs ls hP hD hS hl h
      rw [fX5_colourings_b42.eq_2] at h
      refine lv_iload hx hb dX5_colourings_42 (lv_at hl 4 rfl) ?_
      refine lv_iload_n hx hb dX5_colourings_44 rfl (lv_at hl 2 rfl) ?_
      refine lv_icmp_ge (tgt := 162) hx hb dX5_colourings_45 (by decide) (fun c_1184 => ?_) (fun c_1184 => ?_)
      · have h := ip c_1184 h
        refine lv_iload_n hx hb dX5_colourings_162 rfl (lv_at hl 3 rfl) ?_
        obtain rfl := Option.some.inj h
        exact wri hx hb hr hlocks hP hD hS (Nat.le_of_ble_eq_true rfl) (Nat.le_of_ble_eq_true rfl) rfl dX5_colourings_163
      · have h := iq c_1184 h
        refine lv_iload hx hb dX5_colourings_48 (lv_at hl 4 rfl) ?_
        refine lv_istore (lv' := [(5, .int x4), (0, .ref d0), (1, .int x1), (2, .int x2), (3, .int x3), (4, .int x4)]) hx hb dX5_colourings_50 hl (by decide) rfl (fun ls hl => ?_)
        refine lv_iconst (v := 0) hx hb dX5_colourings_52 (by decide) ?_
        refine lv_istore (lv' := [(6, .int 0), (5, .int x4), (0, .ref d0), (1, .int x1), (2, .int x2), (3, .int x3), (4, .int x4)]) hx hb dX5_colourings_53 hl (by decide) rfl (fun ls hl => ?_)
        refine w_55 _ _ _ _ _ _ () (fun d_o_1185 H locs ls hP hD hS hl h => ?_) N _ _ _ _ _ _ hP hD hS (lv_sub hl [2, 3, 4, 5, 6, 1, 0] rfl) h
        refine lv_iconst (v := 1) hx hb dX5_colourings_85 (by decide) ?_
        refine lv_istore (lv' := [(6, .int 1), (0, .ref d0), (1, .int x1), (2, .int x2), (3, .int x3), (4, .int x4)]) hx hb dX5_colourings_86 hl (by decide) rfl (fun ls hl => ?_)
        refine lv_iconst (v := 0) hx hb dX5_colourings_88 (by decide) ?_
        refine lv_istore (lv' := [(7, .int 0), (6, .int 1), (0, .ref d0), (1, .int x1), (2, .int x2), (3, .int x3), (4, .int x4)]) hx hb dX5_colourings_89 hl (by decide) rfl (fun ls hl => ?_)
        refine w_91 _ _ _ _ _ _ _ () (fun x6_1186 H locs ls hP hD hS hl h => ?_) N _ _  _ _ _ hP hD hS (lv_sub hl [2, 3, 4, 5, 6, 1, 0] rfl) h
        refine lv_iload_n hx hb dX5_colourings_143 rfl (lv_at hl 3 rfl) ?_
        refine lv_iload hx hb dX5_colourings_144 (lv_at hl 5 rfl) ?_
        refine lv_if_eq (tgt := 153) hx hb dX5_colourings_146 (by decide) (fun c_1187 => ?_) (fun c_1187 => ?_)
        · have h := ip c_1187 h
          refine lv_iconst (v := 0) hx hb dX5_colourings_153 (by decide) ?_
          refine lv_iadd hx hb dX5_colourings_154 ?_
          refine lv_istore_n (lv' := [(3, .int (x3 + 0)), (0, .ref d0), (1, .int x1), (2, .int x2), (4, .int x4), (6, .int x6_1186)]) hx hb dX5_colourings_155 rfl hl (by decide) rfl (fun ls hl => ?_)
          refine lv_iinc (v := (x4 + 1)) (lv' := [(4, .int (x4 + 1)), (3, .int (x3 + 0)), (0, .ref d0), (1, .int x1), (2, .int x2), (6, .int x6_1186)]) hx hb dX5_colourings_156 hl (k := 4) rfl rfl (by decide) rfl (fun ls hl => ?_)
          refine lv_goto (tgt := 42) hx hb dX5_colourings_159 (by decide) ?_
          exact ih _ _ _ _ _ _ hP hD hS (lv_sub hl [2, 3, 4, 1, 0] rfl) h
        · have h := iq c_1187 h
          refine lv_iconst (v := 1) hx hb dX5_colourings_149 (by decide) ?_
          refine lv_goto (tgt := 154) hx hb dX5_colourings_150 (by decide) ?_
          refine lv_iadd hx hb dX5_colourings_154 ?_
          refine lv_istore_n (lv' := [(3, .int (x3 + 1)), (0, .ref d0), (1, .int x1), (2, .int x2), (4, .int x4), (6, .int x6_1186)]) hx hb dX5_colourings_155 rfl hl (by decide) rfl (fun ls hl => ?_)
          refine lv_iinc (v := (x4 + 1)) (lv' := [(4, .int (x4 + 1)), (3, .int (x3 + 1)), (0, .ref d0), (1, .int x1), (2, .int x2), (6, .int x6_1186)]) hx hb dX5_colourings_156 hl (k := 4) rfl rfl (by decide) rfl (fun ls hl => ?_)
          refine lv_goto (tgt := 42) hx hb dX5_colourings_159 (by decide) ?_
          exact ih _ _ _ _ _ _ hP hD hS (lv_sub hl [2, 3, 4, 1, 0] rfl) h
  rw [fX5_colourings.eq_1] at h
  refine lv_aload_n hx hb dX5_colourings_0 rfl (lv_at hl 0 rfl) ?_
  refine lv_iload_n hx hb dX5_colourings_1 rfl (lv_at hl 1 rfl) ?_
  refine lv_iconst (v := 0) hx hb dX5_colourings_2 (by decide) ?_
  refine lv_bipush (v := 6) hx hb dX5_colourings_3 (by decide) ?_
  obtain ⟨u_1188, hc_1189, h⟩ := bd_inv h
  refine wafter_i (wr := (w_D G d0 d1 d2 d3 d4 d5 d6 d7 d8 d9 d10 d11 d12 d_n d_a d_b d_c d_k d_x d_y d_d d_r d_w d_e d_1 d_2 d_o d_g d_ra d_rb d_rc d_t)) (w2 := (w_D G d0 d1 d2 d3 d4 d5 d6 d7 d8 d9 d10 d11 d12 d_n d_a d_b d_c d_k d_x d_y d_d d_r d_w d_e d_1 d_2 d_o d_g d_ra d_rb d_rc d_t)) (va_runS (As := [.int x1, .int 0, .int 6]) (rest := [.ref d0]) ⟨hx, hb, hml, hown, hts⟩ (kX5_in (l := l) (G := G)   x1 0 6 N u_1188 hc_1189 _) (va_cwS 3 hts gX5_colourings_X5_in rfl rfl rfl (by decide +kernel) ⟨Nat.le_of_ble_eq_true rfl, Nat.le_of_ble_eq_true rfl⟩) (wPreS hP hD hK [] rfl rfl) rfl rfl hl.1 rfl (lv_room (Nat.le_of_ble_eq_true rfl)) dX5_colourings_5 ⟨Nat.zero_le _, Nat.zero_le _⟩) hP hD hS hA [] [0, 1, 2, 3, 4, 5, 6, 7, 8, 9, 10, 11, 12] [0, 1, 2, 3, 4, 5, 6, 7, 8, 9, 10, 11, 12] rfl rfl rfl (by decide) rfl rfl (fun H locs hP hD hS => ?_)
  refine lv_iconst (v := 1) hx hb dX5_colourings_8 (by decide) ?_
  obtain ⟨u_1190, hc_1191, h⟩ := bd_inv h
  refine wafter_i (wr := []) (w2 := (w_D G d0 d1 d2 d3 d4 d5 d6 d7 d8 d9 d10 d11 d12 d_n d_a d_b d_c d_k d_x d_y d_d d_r d_w d_e d_1 d_2 d_o d_g d_ra d_rb d_rc u_1190.2)) (va_runV (As := [.int u_1188, .int 1]) (rest := []) ⟨hx, hb, hml, hown, hts⟩ (kX5_fails (l := l) (G := G) d0 d1 d2 d3 d4 d5 d6 d7 d8 d9 d10 d11 d12 d_n d_a d_b d_c d_k d_x d_y d_d d_r d_w d_e d_1 d_2 d_o d_g d_ra d_rb d_rc d_t u_1188 1 N u_1190 hc_1191 _) (cwV 2 hts gX5_colourings_X5_fails rfl rfl rfl (by decide +kernel) ⟨Nat.le_of_ble_eq_true rfl, Nat.le_of_ble_eq_true rfl⟩) (wPreV hP hD hK [0, 1, 2, 3, 4, 5, 6, 7, 8, 9, 10, 11, 12] rfl rfl (ci := 5) (qb := 0) rfl rfl rfl) rfl rfl hl.1 rfl (lv_room (Nat.le_of_ble_eq_true rfl)) dX5_colourings_9 ⟨Nat.zero_le _, Nat.zero_le _⟩) hP hD hS hA [0, 1, 2, 3, 4, 5, 6, 7, 8, 9, 10, 11, 12] [] [0, 1, 2, 3, 4, 5, 6, 7, 8, 9, 10, 11, 12] rfl rfl rfl (by decide) rfl rfl (fun H locs hP hD hS => ?_)
  refine lv_if_eq (tgt := 17) hx hb dX5_colourings_12 (by decide) (fun c_1192 => ?_) (fun c_1192 => ?_)
  · have h := ip c_1192 h
    refine lv_iconst (v := 1) hx hb dX5_colourings_17 (by decide) ?_
    refine lv_istore_n (lv' := [(2, .int 1), (0, .ref d0), (1, .int x1)]) hx hb dX5_colourings_18 rfl hl (by decide) rfl (fun ls hl => ?_)
    refine lv_iconst (v := 0) hx hb dX5_colourings_19 (by decide) ?_
    refine lv_istore_n (lv' := [(3, .int 0), (2, .int 1), (0, .ref d0), (1, .int x1)]) hx hb dX5_colourings_20 rfl hl (by decide) rfl (fun ls hl => ?_)
    refine w_21 _ _ _ _ () (fun x2_1193 H locs ls hP hD hS hl h => ?_) N _ _  _ _ _ hP hD hS (lv_sub hl [2, 3, 1, 0] rfl) h
    refine lv_iconst (v := 0) hx hb dX5_colourings_37 (by decide) ?_
    refine lv_istore_n (lv' := [(3, .int 0), (0, .ref d0), (1, .int x1), (2, .int x2_1193)]) hx hb dX5_colourings_38 rfl hl (by decide) rfl (fun ls hl => ?_)
    refine lv_iconst (v := 0) hx hb dX5_colourings_39 (by decide) ?_
    refine lv_istore (lv' := [(4, .int 0), (3, .int 0), (0, .ref d0), (1, .int x1), (2, .int x2_1193)]) hx hb dX5_colourings_40 hl (by decide) rfl (fun ls hl => ?_)
    exact w_42  _ _ _ ()  N _ _ _ _ _ _ hP hD hS (lv_sub hl [2, 3, 4, 1, 0] rfl) h
  · have h := iq c_1192 h
    refine lv_iconst (v := 0) hx hb dX5_colourings_15 (by decide) ?_
    obtain rfl := Option.some.inj h
    exact wri hx hb hr hlocks hP hD hS (Nat.le_of_ble_eq_true rfl) (Nat.le_of_ble_eq_true rfl) rfl dX5_colourings_16
def fX5_sum_b17 (N : Nat) (k_39 : (Nat → Int32) → Option (Int32 × (Nat → Int32))) : Nat → Int32 → (Nat → Int32) → Option (Int32 × (Nat → Int32))
  | 0, _, _ => none
  | n + 1, x4, d_g => if 6 ≤ x4 then k_39 d_g else ck 6 x4 (fX5_sum_b17 N k_39 n (x4 + 1) ((upd d_g (Int32.toNatClampNeg x4) x4)))
def fX5_sum_b121 (N : Nat) (x7 : Int32) (x8 : Int32) (k_165 : (Nat → Int32) → Option (Int32 × (Nat → Int32))) : Nat → Int32 → (Nat → Int32) → Option (Int32 × (Nat → Int32))
  | 0, _, _ => none
  | n + 1, x9, d_g => if 6 ≤ x9 then k_165 d_g else rd d_g 6 x9 (fun v_1196 => if v_1196 = x7 then ck 6 x9 (fX5_sum_b121 N x7 x8 k_165 n (x9 + 1) ((upd d_g (Int32.toNatClampNeg x9) x8))) else rd d_g 6 x9 (fun v_1198 => ck 6 x9 (fX5_sum_b121 N x7 x8 k_165 n (x9 + 1) ((upd d_g (Int32.toNatClampNeg x9) v_1198)))))
def fX5_sum_b49 (N : Nat) (d_e : Int32) (d_1 : Nat → Int32) (d_2 : Nat → Int32) (x3 : Int32) (k_171 : Int32 → Int32 → (Nat → Int32) → Option (Int32 × (Nat → Int32))) : Nat → Int32 → Int32 → Int32 → (Nat → Int32) → Option (Int32 × (Nat → Int32))
  | 0, _, _, _, _ => none
  | n + 1, x4, x5, x6, d_g => if d_e ≤ x6 then k_171 x4 x5 d_g else if ((x3 >>> (x6 &&& 31)) &&& 1) = 1 then rd d_1 15 x6 (fun v_1201 => rd d_g 6 v_1201 (fun v_1202 => rd d_2 15 x6 (fun v_1203 => rd d_g 6 v_1203 (fun v_1204 => if v_1202 = v_1204 then fX5_sum_b121 N v_1202 v_1204 (fun (d_g_1207 : Nat → Int32) => fX5_sum_b49 N d_e d_1 d_2 x3 k_171 n (-x4) (x5 - 0) (x6 + 1) d_g_1207) N 0 d_g else fX5_sum_b121 N v_1202 v_1204 (fun (d_g_1206 : Nat → Int32) => fX5_sum_b49 N d_e d_1 d_2 x3 k_171 n (-x4) (x5 - 1) (x6 + 1) d_g_1206) N 0 d_g)))) else fX5_sum_b49 N d_e d_1 d_2 x3 k_171 n x4 x5 (x6 + 1) d_g
def fX5_sum_b174 (N : Nat) (x1 : Int32) (x5 : Int32) (k_193 : Int32 → Option (Int32 × (Nat → Int32))) : Nat → Int32 → Int32 → Option (Int32 × (Nat → Int32))
  | 0, _, _ => none
  | n + 1, x4, x6 => if x5 ≤ x6 then k_193 x4 else fX5_sum_b174 N x1 x5 k_193 n (x4 * x1) (x6 + 1)
def fX5_sum_b4 (N : Nat) (d_e : Int32) (d_1 : Nat → Int32) (d_2 : Nat → Int32) (x1 : Int32) : Nat → Int32 → Int32 → (Nat → Int32) → Option (Int32 × (Nat → Int32))
  | 0, _, _, _ => none
  | n + 1, x2, x3, d_g => if (1 <<< (d_e &&& 31)) ≤ x3 then some (x2, d_g) else fX5_sum_b17 N (fun (d_g_1210 : Nat → Int32) => fX5_sum_b49 N d_e d_1 d_2 x3 (fun (x4_1211 : Int32) (x5_1212 : Int32) (d_g_1213 : Nat → Int32) => fX5_sum_b174 N x1 x5_1212 (fun (x4_1214 : Int32) => fX5_sum_b4 N d_e d_1 d_2 x1 n (x2 + x4_1214) (x3 + 1) d_g_1213) N x4_1211 0) N 1 6 0 d_g_1210) N 0 d_g
def fX5_sum (N : Nat) (d_e : Int32) (d_1 : Nat → Int32) (d_2 : Nat → Int32) (d_g : Nat → Int32) (x1 : Int32) : Option (Int32 × (Nat → Int32)) := fX5_sum_b4 N d_e d_1 d_2 x1 N 0 0 d_g
set_option maxHeartbeats 4000000 in
set_option maxRecDepth 100000 in
theorem kX5_sum {l : Launch} {G : wG} (d0 d1 d2 d3 d4 d5 d6 d7 d8 d9 d10 d11 d12 : Nat) (d_n : Int32) (d_a : Nat → Int32) (d_b : Nat → Int32) (d_c : Nat → Int32) (d_k : Int32) (d_x : Nat → Int32) (d_y : Nat → Int32) (d_d : Nat → Int32) (d_r : Nat → Int32) (d_w : Nat → Int32) (d_e : Int32) (d_1 : Nat → Int32) (d_2 : Nat → Int32) (d_o : Nat → Int32) (d_g : Nat → Int32) (d_ra : Int32) (d_rb : Int32) (d_rc : Int32) (d_t : Int32) (x1 : Int32) (N : Nat) (v : Int32 × (Nat → Int32)) (h : fX5_sum N d_e d_1 d_2 d_g x1 = some v) : wCi l G yX5_sum wsX5_sum ({ frames := 0, cells := 0, slots := 0, locals := 0 } : Room) [.ref d0, .int x1] (w_D G d0 d1 d2 d3 d4 d5 d6 d7 d8 d9 d10 d11 d12 d_n d_a d_b d_c d_k d_x d_y d_d d_r d_w d_e d_1 d_2 d_o d_g d_ra d_rb d_rc d_t) (w_D G d0 d1 d2 d3 d4 d5 d6 d7 d8 d9 d10 d11 d12 d_n d_a d_b d_c d_k d_x d_y d_d d_r d_w d_e d_1 d_2 d_o v.2 d_ra d_rb d_rc d_t) 0 0 v.1 := by
  refine wCi.mk (cc := cX5_sum) (maxL := 10) (ty := .int) (by decide) rfl (Nat.le_of_ble_eq_true rfl) ?_
  intro p e s m below meth c A ls hx hb hml hr hlocks hts hown hK hA hP hD hl
  have hx : p.tables.exec = Jvm.exec := hx
  have hown : s.vm.findClass RX5 = some m.cls := hown
  have hinX5 : ∀ w ∈ wsX50, w ∈ wsX5_sum := by decide +kernel
  have lk153 := hts (.fieldLink RX5 153 "ChamberwrightModel" "edges" "I") (by decide +kernel)
  have lk35 := hts (.fieldLink RX5 35 "ChamberwrightModel" "one" "[I") (by decide +kernel)
  have lk38 := hts (.fieldLink RX5 38 "ChamberwrightModel" "two" "[I") (by decide +kernel)
  have lk44 := hts (.fieldLink RX5 44 "ChamberwrightModel" "group" "[I") (by decide +kernel)
  have hS : va_S A s.heap s.heap [] := va_S.rf
  have hP : va_P G.1 vwCl (w_D G d0 d1 d2 d3 d4 d5 d6 d7 d8 d9 d10 d11 d12 d_n d_a d_b d_c d_k d_x d_y d_d d_r d_w d_e d_1 d_2 d_o d_g d_ra d_rb d_rc d_t) s.heap := hP
  have hD : va_D A (w_D G d0 d1 d2 d3 d4 d5 d6 d7 d8 d9 d10 d11 d12 d_n d_a d_b d_c d_k d_x d_y d_d d_r d_w d_e d_1 d_2 d_o d_g d_ra d_rb d_rc d_t) := hD
  have hl : lv_has ls 10 [(0, .ref d0), (1, .int x1)] := hl
  obtain ⟨args, hargs⟩ : ∃ z : Array Value, z = ([.ref d0, .int x1] : List Value).toArray := ⟨_, rfl⟩
  rw [← hargs]
  rw [← hargs] at hts
  have w_17 : ∀ (k_39 : (Nat → Int32) → Option (Int32 × (Nat → Int32))) (x1 : Int32) (x2 : Int32) (x3 : Int32)  (_z : Unit), (∀ (yd_g : Nat → Int32) (H : Heap) (locs : List Loc) (ls : Array Slot), va_P G.1 vwCl (w_D G d0 d1 d2 d3 d4 d5 d6 d7 d8 d9 d10 d11 d12 d_n d_a d_b d_c d_k d_x d_y d_d d_r d_w d_e d_1 d_2 d_o yd_g d_ra d_rb d_rc d_t) H → va_D A (w_D G d0 d1 d2 d3 d4 d5 d6 d7 d8 d9 d10 d11 d12 d_n d_a d_b d_c d_k d_x d_y d_d d_r d_w d_e d_1 d_2 d_o yd_g d_ra d_rb d_rc d_t) → va_S A s.heap H locs → lv_has ls 10 [(0, .ref d0), (1, .int x1), (2, .int x2), (3, .int x3)] → k_39 yd_g = some v → W p l e ({ frames := 0, cells := 0, slots := 0, locals := 0 } : Room) s m args below meth c H locs 0 0 (wQi G A below args s (w_D G d0 d1 d2 d3 d4 d5 d6 d7 d8 d9 d10 d11 d12 d_n d_a d_b d_c d_k d_x d_y d_d d_r d_w d_e d_1 d_2 d_o v.2 d_ra d_rb d_rc d_t) 0 0 v.1) (F0 m 39 ls [])) → ∀ (n : Nat) (x4 : Int32) (d_g : Nat → Int32) (H : Heap) (locs : List Loc) (ls : Array Slot), va_P G.1 vwCl (w_D G d0 d1 d2 d3 d4 d5 d6 d7 d8 d9 d10 d11 d12 d_n d_a d_b d_c d_k d_x d_y d_d d_r d_w d_e d_1 d_2 d_o d_g d_ra d_rb d_rc d_t) H → va_D A (w_D G d0 d1 d2 d3 d4 d5 d6 d7 d8 d9 d10 d11 d12 d_n d_a d_b d_c d_k d_x d_y d_d d_r d_w d_e d_1 d_2 d_o d_g d_ra d_rb d_rc d_t) → va_S A s.heap H locs → lv_has ls 10 [(0, .ref d0), (1, .int x1), (2, .int x2), (3, .int x3), (4, .int x4)] → fX5_sum_b17 N k_39 n x4 d_g = some v → W p l e ({ frames := 0, cells := 0, slots := 0, locals := 0 } : Room) s m args below meth c H locs 0 0 (wQi G A below args s (w_D G d0 d1 d2 d3 d4 d5 d6 d7 d8 d9 d10 d11 d12 d_n d_a d_b d_c d_k d_x d_y d_d d_r d_w d_e d_1 d_2 d_o v.2 d_ra d_rb d_rc d_t) 0 0 v.1) (F0 m 17 ls []) := by
    intro k_39 x1 x2 x3 _z hk_39 n
    induction n with
    | zero =>
      intro x4 d_g H locs ls hP hD hS hl h
      rw [fX5_sum_b17.eq_1] at h
      cases h
    | succ n ih =>
      intro x4 d_g H locs ls hP hD hS hl h
      rw [fX5_sum_b17.eq_2] at h
      refine lv_iload hx hb dX5_sum_17 (lv_at hl 4 rfl) ?_
      refine lv_bipush (v := 6) hx hb dX5_sum_19 (by decide) ?_
      refine lv_icmp_ge (tgt := 39) hx hb dX5_sum_21 (by decide) (fun c_1194 => ?_) (fun c_1194 => ?_)
      · have h := ip c_1194 h
        exact hk_39 _ _ _ _ hP hD hS (lv_sub hl [0, 1, 2, 3] rfl) h
      · have h := iq c_1194 h
        refine lv_aload_n hx hb dX5_sum_24 rfl (lv_at hl 0 rfl) ?_
        refine va_get (D := G.1) (ci := 5) (v := .ref d12) (C := RX5) (T := TX5) (N := 19) hx hb hts hinX5 hown hK.1 hP 0 rfl rfl 14 (by decide) lk44 (fun _ h9 => h9) rfl dX5_sum_25 ?_
        refine lv_iload hx hb dX5_sum_28 (lv_at hl 4 rfl) ?_
        refine lv_iload hx hb dX5_sum_30 (lv_at hl 4 rfl) ?_
        refine wiast h hx hb hK hP hD hS 12 rfl dX5_sum_32 (fun H locs hP hD hS h => ?_)
        have hP : va_P G.1 vwCl (w_D G d0 d1 d2 d3 d4 d5 d6 d7 d8 d9 d10 d11 d12 d_n d_a d_b d_c d_k d_x d_y d_d d_r d_w d_e d_1 d_2 d_o ((upd d_g (Int32.toNatClampNeg x4) x4)) d_ra d_rb d_rc d_t) H := hP
        have hD : va_D A (w_D G d0 d1 d2 d3 d4 d5 d6 d7 d8 d9 d10 d11 d12 d_n d_a d_b d_c d_k d_x d_y d_d d_r d_w d_e d_1 d_2 d_o ((upd d_g (Int32.toNatClampNeg x4) x4)) d_ra d_rb d_rc d_t) := hD
        refine lv_iinc (v := (x4 + 1)) (lv' := [(4, .int (x4 + 1)), (0, .ref d0), (1, .int x1), (2, .int x2), (3, .int x3)]) hx hb dX5_sum_33 hl (k := 4) rfl rfl (by decide) rfl (fun ls hl => ?_)
        refine lv_goto (tgt := 17) hx hb dX5_sum_36 (by decide) ?_
        exact ih _ _ _ _ _ hP hD hS (lv_sub hl [1, 2, 3, 4, 0] rfl) h
  have w_121 : ∀ (k_165 : (Nat → Int32) → Option (Int32 × (Nat → Int32))) (x1 : Int32) (x2 : Int32) (x3 : Int32) (x4 : Int32) (x5 : Int32) (x6 : Int32) (x7 : Int32) (x8 : Int32)  (_z : Unit), (∀ (yd_g : Nat → Int32) (H : Heap) (locs : List Loc) (ls : Array Slot), va_P G.1 vwCl (w_D G d0 d1 d2 d3 d4 d5 d6 d7 d8 d9 d10 d11 d12 d_n d_a d_b d_c d_k d_x d_y d_d d_r d_w d_e d_1 d_2 d_o yd_g d_ra d_rb d_rc d_t) H → va_D A (w_D G d0 d1 d2 d3 d4 d5 d6 d7 d8 d9 d10 d11 d12 d_n d_a d_b d_c d_k d_x d_y d_d d_r d_w d_e d_1 d_2 d_o yd_g d_ra d_rb d_rc d_t) → va_S A s.heap H locs → lv_has ls 10 [(0, .ref d0), (1, .int x1), (2, .int x2), (3, .int x3), (4, .int x4), (5, .int x5), (6, .int x6)] → k_165 yd_g = some v → W p l e ({ frames := 0, cells := 0, slots := 0, locals := 0 } : Room) s m args below meth c H locs 0 0 (wQi G A below args s (w_D G d0 d1 d2 d3 d4 d5 d6 d7 d8 d9 d10 d11 d12 d_n d_a d_b d_c d_k d_x d_y d_d d_r d_w d_e d_1 d_2 d_o v.2 d_ra d_rb d_rc d_t) 0 0 v.1) (F0 m 165 ls [])) → ∀ (n : Nat) (x9 : Int32) (d_g : Nat → Int32) (H : Heap) (locs : List Loc) (ls : Array Slot), va_P G.1 vwCl (w_D G d0 d1 d2 d3 d4 d5 d6 d7 d8 d9 d10 d11 d12 d_n d_a d_b d_c d_k d_x d_y d_d d_r d_w d_e d_1 d_2 d_o d_g d_ra d_rb d_rc d_t) H → va_D A (w_D G d0 d1 d2 d3 d4 d5 d6 d7 d8 d9 d10 d11 d12 d_n d_a d_b d_c d_k d_x d_y d_d d_r d_w d_e d_1 d_2 d_o d_g d_ra d_rb d_rc d_t) → va_S A s.heap H locs → lv_has ls 10 [(0, .ref d0), (1, .int x1), (2, .int x2), (3, .int x3), (4, .int x4), (5, .int x5), (6, .int x6), (7, .int x7), (8, .int x8), (9, .int x9)] → fX5_sum_b121 N x7 x8 k_165 n x9 d_g = some v → W p l e ({ frames := 0, cells := 0, slots := 0, locals := 0 } : Room) s m args below meth c H locs 0 0 (wQi G A below args s (w_D G d0 d1 d2 d3 d4 d5 d6 d7 d8 d9 d10 d11 d12 d_n d_a d_b d_c d_k d_x d_y d_d d_r d_w d_e d_1 d_2 d_o v.2 d_ra d_rb d_rc d_t) 0 0 v.1) (F0 m 121 ls []) := by
    intro k_165 x1 x2 x3 x4 x5 x6 x7 x8 _z hk_165 n
    induction n with
    | zero =>
      intro x9 d_g H locs ls hP hD hS hl h
      rw [fX5_sum_b121.eq_1] at h
      cases h
    | succ n ih =>
      intro x9 d_g H locs ls hP hD hS hl h
      rw [fX5_sum_b121.eq_2] at h
      refine lv_iload hx hb dX5_sum_121 (lv_at hl 9 rfl) ?_
      refine lv_bipush (v := 6) hx hb dX5_sum_123 (by decide) ?_
      refine lv_icmp_ge (tgt := 165) hx hb dX5_sum_125 (by decide) (fun c_1195 => ?_) (fun c_1195 => ?_)
      · have h := ip c_1195 h
        exact hk_165 _ _ _ _ hP hD hS (lv_sub hl [0, 1, 2, 3, 4, 5, 6] rfl) h
      · have h := iq c_1195 h
        refine lv_aload_n hx hb dX5_sum_128 rfl (lv_at hl 0 rfl) ?_
        refine va_get (D := G.1) (ci := 5) (v := .ref d12) (C := RX5) (T := TX5) (N := 19) hx hb hts hinX5 hown hK.1 hP 0 rfl rfl 14 (by decide) lk44 (fun _ h9 => h9) rfl dX5_sum_129 ?_
        refine lv_iload hx hb dX5_sum_132 (lv_at hl 9 rfl) ?_
        refine lv_aload_n hx hb dX5_sum_134 rfl (lv_at hl 0 rfl) ?_
        refine va_get (D := G.1) (ci := 5) (v := .ref d12) (C := RX5) (T := TX5) (N := 19) hx hb hts hinX5 hown hK.1 hP 0 rfl rfl 14 (by decide) lk44 (fun _ h9 => h9) rfl dX5_sum_135 ?_
        refine lv_iload hx hb dX5_sum_138 (lv_at hl 9 rfl) ?_
        refine wiald h hx hb hK hP 12 rfl dX5_sum_140 (fun v_1196 h => ?_)
        refine lv_iload hx hb dX5_sum_141 (lv_at hl 7 rfl) ?_
        refine lv_icmp_ne (tgt := 151) hx hb dX5_sum_143 (by decide) (fun c_1197 => ?_) (fun c_1197 => ?_)
        · have h := iq c_1197 h
          refine lv_aload_n hx hb dX5_sum_151 rfl (lv_at hl 0 rfl) ?_
          refine va_get (D := G.1) (ci := 5) (v := .ref d12) (C := RX5) (T := TX5) (N := 19) hx hb hts hinX5 hown hK.1 hP 0 rfl rfl 14 (by decide) lk44 (fun _ h9 => h9) rfl dX5_sum_152 ?_
          refine lv_iload hx hb dX5_sum_155 (lv_at hl 9 rfl) ?_
          refine wiald h hx hb hK hP 12 rfl dX5_sum_157 (fun v_1198 h => ?_)
          refine wiast h hx hb hK hP hD hS 12 rfl dX5_sum_158 (fun H locs hP hD hS h => ?_)
          have hP : va_P G.1 vwCl (w_D G d0 d1 d2 d3 d4 d5 d6 d7 d8 d9 d10 d11 d12 d_n d_a d_b d_c d_k d_x d_y d_d d_r d_w d_e d_1 d_2 d_o ((upd d_g (Int32.toNatClampNeg x9) v_1198)) d_ra d_rb d_rc d_t) H := hP
          have hD : va_D A (w_D G d0 d1 d2 d3 d4 d5 d6 d7 d8 d9 d10 d11 d12 d_n d_a d_b d_c d_k d_x d_y d_d d_r d_w d_e d_1 d_2 d_o ((upd d_g (Int32.toNatClampNeg x9) v_1198)) d_ra d_rb d_rc d_t) := hD
          refine lv_iinc (v := (x9 + 1)) (lv' := [(9, .int (x9 + 1)), (0, .ref d0), (1, .int x1), (2, .int x2), (3, .int x3), (4, .int x4), (5, .int x5), (6, .int x6), (7, .int x7), (8, .int x8)]) hx hb dX5_sum_159 hl (k := 9) rfl rfl (by decide) rfl (fun ls hl => ?_)
          refine lv_goto (tgt := 121) hx hb dX5_sum_162 (by decide) ?_
          exact ih _ _ _ _ _ hP hD hS (lv_sub hl [1, 2, 3, 4, 5, 6, 7, 8, 9, 0] rfl) h
        · have h := ip c_1197 h
          refine lv_iload hx hb dX5_sum_146 (lv_at hl 8 rfl) ?_
          refine lv_goto (tgt := 158) hx hb dX5_sum_148 (by decide) ?_
          refine wiast h hx hb hK hP hD hS 12 rfl dX5_sum_158 (fun H locs hP hD hS h => ?_)
          have hP : va_P G.1 vwCl (w_D G d0 d1 d2 d3 d4 d5 d6 d7 d8 d9 d10 d11 d12 d_n d_a d_b d_c d_k d_x d_y d_d d_r d_w d_e d_1 d_2 d_o ((upd d_g (Int32.toNatClampNeg x9) x8)) d_ra d_rb d_rc d_t) H := hP
          have hD : va_D A (w_D G d0 d1 d2 d3 d4 d5 d6 d7 d8 d9 d10 d11 d12 d_n d_a d_b d_c d_k d_x d_y d_d d_r d_w d_e d_1 d_2 d_o ((upd d_g (Int32.toNatClampNeg x9) x8)) d_ra d_rb d_rc d_t) := hD
          refine lv_iinc (v := (x9 + 1)) (lv' := [(9, .int (x9 + 1)), (0, .ref d0), (1, .int x1), (2, .int x2), (3, .int x3), (4, .int x4), (5, .int x5), (6, .int x6), (7, .int x7), (8, .int x8)]) hx hb dX5_sum_159 hl (k := 9) rfl rfl (by decide) rfl (fun ls hl => ?_)
          refine lv_goto (tgt := 121) hx hb dX5_sum_162 (by decide) ?_
          exact ih _ _ _ _ _ hP hD hS (lv_sub hl [1, 2, 3, 4, 5, 6, 7, 8, 9, 0] rfl) h
  have w_49 : ∀ (k_171 : Int32 → Int32 → (Nat → Int32) → Option (Int32 × (Nat → Int32))) (x1 : Int32) (x2 : Int32) (x3 : Int32)  (_z : Unit), (∀ (y4 : Int32) (y5 : Int32) (yd_g : Nat → Int32) (H : Heap) (locs : List Loc) (ls : Array Slot), va_P G.1 vwCl (w_D G d0 d1 d2 d3 d4 d5 d6 d7 d8 d9 d10 d11 d12 d_n d_a d_b d_c d_k d_x d_y d_d d_r d_w d_e d_1 d_2 d_o yd_g d_ra d_rb d_rc d_t) H → va_D A (w_D G d0 d1 d2 d3 d4 d5 d6 d7 d8 d9 d10 d11 d12 d_n d_a d_b d_c d_k d_x d_y d_d d_r d_w d_e d_1 d_2 d_o yd_g d_ra d_rb d_rc d_t) → va_S A s.heap H locs → lv_has ls 10 [(0, .ref d0), (1, .int x1), (2, .int x2), (3, .int x3), (4, .int y4), (5, .int y5)] → k_171 y4 y5 yd_g = some v → W p l e ({ frames := 0, cells := 0, slots := 0, locals := 0 } : Room) s m args below meth c H locs 0 0 (wQi G A below args s (w_D G d0 d1 d2 d3 d4 d5 d6 d7 d8 d9 d10 d11 d12 d_n d_a d_b d_c d_k d_x d_y d_d d_r d_w d_e d_1 d_2 d_o v.2 d_ra d_rb d_rc d_t) 0 0 v.1) (F0 m 171 ls [])) → ∀ (n : Nat) (x4 : Int32) (x5 : Int32) (x6 : Int32) (d_g : Nat → Int32) (H : Heap) (locs : List Loc) (ls : Array Slot), va_P G.1 vwCl (w_D G d0 d1 d2 d3 d4 d5 d6 d7 d8 d9 d10 d11 d12 d_n d_a d_b d_c d_k d_x d_y d_d d_r d_w d_e d_1 d_2 d_o d_g d_ra d_rb d_rc d_t) H → va_D A (w_D G d0 d1 d2 d3 d4 d5 d6 d7 d8 d9 d10 d11 d12 d_n d_a d_b d_c d_k d_x d_y d_d d_r d_w d_e d_1 d_2 d_o d_g d_ra d_rb d_rc d_t) → va_S A s.heap H locs → lv_has ls 10 [(0, .ref d0), (1, .int x1), (2, .int x2), (3, .int x3), (4, .int x4), (5, .int x5), (6, .int x6)] → fX5_sum_b49 N d_e d_1 d_2 x3 k_171 n x4 x5 x6 d_g = some v → W p l e ({ frames := 0, cells := 0, slots := 0, locals := 0 } : Room) s m args below meth c H locs 0 0 (wQi G A below args s (w_D G d0 d1 d2 d3 d4 d5 d6 d7 d8 d9 d10 d11 d12 d_n d_a d_b d_c d_k d_x d_y d_d d_r d_w d_e d_1 d_2 d_o v.2 d_ra d_rb d_rc d_t) 0 0 v.1) (F0 m 49 ls []) := by
    intro k_171 x1 x2 x3 _z hk_171 n
    induction n with
    | zero =>
      intro x4 x5 x6 d_g H locs ls hP hD hS hl h
      rw [fX5_sum_b49.eq_1] at h
      cases h
    | succ n ih =>
      intro x4 x5 x6 d_g H locs ls hP hD hS hl h
      rw [fX5_sum_b49.eq_2] at h
      refine lv_iload hx hb dX5_sum_49 (lv_at hl 6 rfl) ?_
      refine lv_aload_n hx hb dX5_sum_51 rfl (lv_at hl 0 rfl) ?_
      refine va_get (D := G.1) (ci := 5) (v := .int d_e) (C := RX5) (T := TX5) (N := 19) hx hb hts hinX5 hown hK.1 hP 0 rfl rfl 10 (by decide) lk153 (fun _ h9 => h9) rfl dX5_sum_52 ?_
      refine lv_icmp_ge (tgt := 171) hx hb dX5_sum_55 (by decide) (fun c_1199 => ?_) (fun c_1199 => ?_)
      · have h := ip c_1199 h
        exact hk_171 _ _ _ _ _ _ hP hD hS (lv_sub hl [0, 1, 2, 3, 4, 5] rfl) h
      · have h := iq c_1199 h
        refine lv_iload_n hx hb dX5_sum_58 rfl (lv_at hl 3 rfl) ?_
        refine lv_iload hx hb dX5_sum_59 (lv_at hl 6 rfl) ?_
        refine lv_ishr hx hb dX5_sum_61 ?_
        refine lv_iconst (v := 1) hx hb dX5_sum_62 (by decide) ?_
        refine lv_iand hx hb dX5_sum_63 ?_
        refine lv_iconst (v := 1) hx hb dX5_sum_64 (by decide) ?_
        refine lv_icmp_ne (tgt := 165) hx hb dX5_sum_65 (by decide) (fun c_1200 => ?_) (fun c_1200 => ?_)
        · have h := iq c_1200 h
          refine lv_iinc (v := (x6 + 1)) (lv' := [(6, .int (x6 + 1)), (0, .ref d0), (1, .int x1), (2, .int x2), (3, .int x3), (4, .int x4), (5, .int x5)]) hx hb dX5_sum_165 hl (k := 6) rfl rfl (by decide) rfl (fun ls hl => ?_)
          refine lv_goto (tgt := 49) hx hb dX5_sum_168 (by decide) ?_
          exact ih _ _ _ _ _ _ _ hP hD hS (lv_sub hl [1, 2, 3, 4, 5, 6, 0] rfl) h
        · have h := ip c_1200 h
          refine lv_aload_n hx hb dX5_sum_68 rfl (lv_at hl 0 rfl) ?_
          refine va_get (D := G.1) (ci := 5) (v := .ref d12) (C := RX5) (T := TX5) (N := 19) hx hb hts hinX5 hown hK.1 hP 0 rfl rfl 14 (by decide) lk44 (fun _ h9 => h9) rfl dX5_sum_69 ?_
          refine lv_aload_n hx hb dX5_sum_72 rfl (lv_at hl 0 rfl) ?_
          refine va_get (D := G.1) (ci := 5) (v := .ref d9) (C := RX5) (T := TX5) (N := 19) hx hb hts hinX5 hown hK.1 hP 0 rfl rfl 11 (by decide) lk35 (fun _ h9 => h9) rfl dX5_sum_73 ?_
          refine lv_iload hx hb dX5_sum_76 (lv_at hl 6 rfl) ?_
          refine wiald h hx hb hK hP 9 rfl dX5_sum_78 (fun v_1201 h => ?_)
          refine wiald h hx hb hK hP 12 rfl dX5_sum_79 (fun v_1202 h => ?_)
          refine lv_istore (lv' := [(7, .int v_1202), (0, .ref d0), (1, .int x1), (2, .int x2), (3, .int x3), (4, .int x4), (5, .int x5), (6, .int x6)]) hx hb dX5_sum_80 hl (by decide) rfl (fun ls hl => ?_)
          refine lv_aload_n hx hb dX5_sum_82 rfl (lv_at hl 1 rfl) ?_
          refine va_get (D := G.1) (ci := 5) (v := .ref d12) (C := RX5) (T := TX5) (N := 19) hx hb hts hinX5 hown hK.1 hP 0 rfl rfl 14 (by decide) lk44 (fun _ h9 => h9) rfl dX5_sum_83 ?_
          refine lv_aload_n hx hb dX5_sum_86 rfl (lv_at hl 1 rfl) ?_
          refine va_get (D := G.1) (ci := 5) (v := .ref d10) (C := RX5) (T := TX5) (N := 19) hx hb hts hinX5 hown hK.1 hP 0 rfl rfl 12 (by decide) lk38 (fun _ h9 => h9) rfl dX5_sum_87 ?_
          refine lv_iload hx hb dX5_sum_90 (lv_at hl 7 rfl) ?_
          refine wiald h hx hb hK hP 10 rfl dX5_sum_92 (fun v_1203 h => ?_)
          refine wiald h hx hb hK hP 12 rfl dX5_sum_93 (fun v_1204 h => ?_)
          refine lv_istore (lv' := [(8, .int v_1204), (7, .int v_1202), (0, .ref d0), (1, .int x1), (2, .int x2), (3, .int x3), (4, .int x4), (5, .int x5), (6, .int x6)]) hx hb dX5_sum_94 hl (by decide) rfl (fun ls hl => ?_)
          refine lv_iload hx hb dX5_sum_96 (lv_at hl 7 rfl) ?_
          refine lv_iload hx hb dX5_sum_98 (lv_at hl 1 rfl) ?_
          refine lv_iload hx hb dX5_sum_100 (lv_at hl 0 rfl) ?_
          refine lv_icmp_ne (tgt := 109) hx hb dX5_sum_102 (by decide) (fun c_1205 => ?_) (fun c_1205 => ?_)
          · have h := iq c_1205 h
            refine lv_iconst (v := 1) hx hb dX5_sum_109 (by decide) ?_
            refine lv_isub hx hb dX5_sum_110 ?_
            refine lv_istore (lv' := [(5, .int (x5 - 1)), (8, .int v_1204), (7, .int v_1202), (0, .ref d0), (1, .int x1), (2, .int x2), (3, .int x3), (4, .int x4), (6, .int x6)]) hx hb dX5_sum_111 hl (by decide) rfl (fun ls hl => ?_)
            refine lv_iload hx hb dX5_sum_113 (lv_at hl 7 rfl) ?_
            refine lv_ineg hx hb dX5_sum_115 ?_
            refine lv_istore (lv' := [(4, .int (-x4)), (5, .int (x5 - 1)), (8, .int v_1204), (7, .int v_1202), (0, .ref d0), (1, .int x1), (2, .int x2), (3, .int x3), (6, .int x6)]) hx hb dX5_sum_116 hl (by decide) rfl (fun ls hl => ?_)
            refine lv_iconst (v := 0) hx hb dX5_sum_118 (by decide) ?_
            refine lv_istore (lv' := [(9, .int 0), (4, .int (-x4)), (5, .int (x5 - 1)), (8, .int v_1204), (7, .int v_1202), (0, .ref d0), (1, .int x1), (2, .int x2), (3, .int x3), (6, .int x6)]) hx hb dX5_sum_119 hl (by decide) rfl (fun ls hl => ?_)
            refine w_121 _ _ _ _ _ _ _ _ _  () (fun d_g_1206 H locs ls hP hD hS hl h => ?_) N _ _ _ _ _ hP hD hS (lv_sub hl [5, 6, 7, 8, 1, 2, 9, 4, 3, 0] rfl) h
            refine lv_iinc (v := (x6 + 1)) (lv' := [(6, .int (x6 + 1)), (0, .ref d0), (1, .int x1), (2, .int x2), (3, .int x3), (4, .int (-x4)), (5, .int (x5 - 1))]) hx hb dX5_sum_165 hl (k := 6) rfl rfl (by decide) rfl (fun ls hl => ?_)
            refine lv_goto (tgt := 49) hx hb dX5_sum_168 (by decide) ?_
            exact ih _ _ _ _ _ _ _ hP hD hS (lv_sub hl [1, 2, 3, 4, 5, 6, 0] rfl) h
          · have h := ip c_1205 h
            refine lv_iconst (v := 0) hx hb dX5_sum_105 (by decide) ?_
            refine lv_goto (tgt := 110) hx hb dX5_sum_106 (by decide) ?_
            refine lv_isub hx hb dX5_sum_110 ?_
            refine lv_istore (lv' := [(5, .int (x5 - 0)), (8, .int v_1204), (7, .int v_1202), (0, .ref d0), (1, .int x1), (2, .int x2), (3, .int x3), (4, .int x4), (6, .int x6)]) hx hb dX5_sum_111 hl (by decide) rfl (fun ls hl => ?_)
            refine lv_iload hx hb dX5_sum_113 (lv_at hl 7 rfl) ?_
            refine lv_ineg hx hb dX5_sum_115 ?_
            refine lv_istore (lv' := [(4, .int (-x4)), (5, .int (x5 - 0)), (8, .int v_1204), (7, .int v_1202), (0, .ref d0), (1, .int x1), (2, .int x2), (3, .int x3), (6, .int x6)]) hx hb dX5_sum_116 hl (by decide) rfl (fun ls hl => ?_)
            refine lv_iconst (v := 0) hx hb dX5_sum_118 (by decide) ?_
            refine lv_istore (lv' := [(9, .int 0), (4, .int (-x4)), (5, .int (x5 - 0)), (8, .int v_1204), (7, .int v_1202), (0, .ref d0), (1, .int x1), (2, .int x2), (3, .int x3), (6, .int x6)]) hx hb dX5_sum_119 hl (by decide) rfl (fun ls hl => ?_)
            refine w_121 _ _ _ _ _ _ _ _ _  () (fun d_g_1207 H locs ls hP hD hS hl h => ?_) N _ _ _ _ _ hP hD hS (lv_sub hl [5, 6, 7, 8, 1, 2, 9, 4, 3, 0] rfl) h
            refine lv_iinc (v := (x6 + 1)) (lv' := [(6, .int (x6 + 1)), (0, .ref d0), (1, .int x1), (2, .int x2), (3, .int x3), (4, .int (-x4)), (5, .int (x5 - 0))]) hx hb dX5_sum_165 hl (k := 6) rfl rfl (by decide) rfl (fun ls hl => ?_)
            refine lv_goto (tgt := 49) hx hb dX5_sum_168 (by decide) ?_
            exact ih _ _ _ _ _ _ _ hP hD hS (lv_sub hl [1, 2, 3, 4, 5, 6, 0] rfl) h
  have w_174 : ∀ (k_193 : Int32 → Option (Int32 × (Nat → Int32))) (x1 : Int32) (x2 : Int32) (x3 : Int32) (x5 : Int32) (d_g : Nat → Int32) (_z : Unit), (∀ (y4 : Int32) (H : Heap) (locs : List Loc) (ls : Array Slot), va_P G.1 vwCl (w_D G d0 d1 d2 d3 d4 d5 d6 d7 d8 d9 d10 d11 d12 d_n d_a d_b d_c d_k d_x d_y d_d d_r d_w d_e d_1 d_2 d_o d_g d_ra d_rb d_rc d_t) H → va_D A (w_D G d0 d1 d2 d3 d4 d5 d6 d7 d8 d9 d10 d11 d12 d_n d_a d_b d_c d_k d_x d_y d_d d_r d_w d_e d_1 d_2 d_o d_g d_ra d_rb d_rc d_t) → va_S A s.heap H locs → lv_has ls 10 [(0, .ref d0), (1, .int x1), (2, .int x2), (3, .int x3), (4, .int y4)] → k_193 y4 = some v → W p l e ({ frames := 0, cells := 0, slots := 0, locals := 0 } : Room) s m args below meth c H locs 0 0 (wQi G A below args s (w_D G d0 d1 d2 d3 d4 d5 d6 d7 d8 d9 d10 d11 d12 d_n d_a d_b d_c d_k d_x d_y d_d d_r d_w d_e d_1 d_2 d_o v.2 d_ra d_rb d_rc d_t) 0 0 v.1) (F0 m 193 ls [])) → ∀ (n : Nat) (x4 : Int32) (x6 : Int32)  (H : Heap) (locs : List Loc) (ls : Array Slot), va_P G.1 vwCl (w_D G d0 d1 d2 d3 d4 d5 d6 d7 d8 d9 d10 d11 d12 d_n d_a d_b d_c d_k d_x d_y d_d d_r d_w d_e d_1 d_2 d_o d_g d_ra d_rb d_rc d_t) H → va_D A (w_D G d0 d1 d2 d3 d4 d5 d6 d7 d8 d9 d10 d11 d12 d_n d_a d_b d_c d_k d_x d_y d_d d_r d_w d_e d_1 d_2 d_o d_g d_ra d_rb d_rc d_t) → va_S A s.heap H locs → lv_has ls 10 [(0, .ref d0), (1, .int x1), (2, .int x2), (3, .int x3), (4, .int x4), (5, .int x5), (6, .int x6)] → fX5_sum_b174 N x1 x5 k_193 n x4 x6 = some v → W p l e ({ frames := 0, cells := 0, slots := 0, locals := 0 } : Room) s m args below meth c H locs 0 0 (wQi G A below args s (w_D G d0 d1 d2 d3 d4 d5 d6 d7 d8 d9 d10 d11 d12 d_n d_a d_b d_c d_k d_x d_y d_d d_r d_w d_e d_1 d_2 d_o v.2 d_ra d_rb d_rc d_t) 0 0 v.1) (F0 m 174 ls []) := by
    intro k_193 x1 x2 x3 x5 d_g _z hk_193 n
    induction n with
    | zero =>
      intro x4 x6 H locs ls hP hD hS hl h
      rw [fX5_sum_b174.eq_1] at h
      cases h
    | succ n ih =>
      intro x4 x6 H locs ls hP hD hS hl h
      rw [fX5_sum_b174.eq_2] at h
      refine lv_iload hx hb dX5_sum_174 (lv_at hl 6 rfl) ?_
      refine lv_iload hx hb dX5_sum_176 (lv_at hl 5 rfl) ?_
      refine lv_icmp_ge (tgt := 193) hx hb dX5_sum_178 (by decide) (fun c_1208 => ?_) (fun c_1208 => ?_)
      · have h := ip c_1208 h
        exact hk_193 _ _ _ _ hP hD hS (lv_sub hl [0, 1, 2, 3, 4] rfl) h
      · have h := iq c_1208 h
        refine lv_iload hx hb dX5_sum_181 (lv_at hl 4 rfl) ?_
        refine lv_iload_n hx hb dX5_sum_183 rfl (lv_at hl 1 rfl) ?_
        refine lv_imul hx hb dX5_sum_184 ?_
        refine lv_istore (lv' := [(4, .int (x4 * x1)), (0, .ref d0), (1, .int x1), (2, .int x2), (3, .int x3), (5, .int x5), (6, .int x6)]) hx hb dX5_sum_185 hl (by decide) rfl (fun ls hl => ?_)
        refine lv_iinc (v := (x6 + 1)) (lv' := [(6, .int (x6 + 1)), (4, .int (x4 * x1)), (0, .ref d0), (1, .int x1), (2, .int x2), (3, .int x3), (5, .int x5)]) hx hb dX5_sum_187 hl (k := 6) rfl rfl (by decide) rfl (fun ls hl => ?_)
        refine lv_goto (tgt := 174) hx hb dX5_sum_190 (by decide) ?_
        exact ih _ _ _ _ _ hP hD hS (lv_sub hl [2, 3, 4, 5, 1, 6, 0] rfl) h
  have w_4 : ∀ (x1 : Int32)  (_z : Unit), ∀ (n : Nat) (x2 : Int32) (x3 : Int32) (d_g : Nat → Int32) (H : Heap) (locs : List Loc) (ls : Array Slot), va_P G.1 vwCl (w_D G d0 d1 d2 d3 d4 d5 d6 d7 d8 d9 d10 d11 d12 d_n d_a d_b d_c d_k d_x d_y d_d d_r d_w d_e d_1 d_2 d_o d_g d_ra d_rb d_rc d_t) H → va_D A (w_D G d0 d1 d2 d3 d4 d5 d6 d7 d8 d9 d10 d11 d12 d_n d_a d_b d_c d_k d_x d_y d_d d_r d_w d_e d_1 d_2 d_o d_g d_ra d_rb d_rc d_t) → va_S A s.heap H locs → lv_has ls 10 [(0, .ref d0), (1, .int x1), (2, .int x2), (3, .int x3)] → fX5_sum_b4 N d_e d_1 d_2 x1 n x2 x3 d_g = some v → W p l e ({ frames := 0, cells := 0, slots := 0, locals := 0 } : Room) s m args below meth c H locs 0 0 (wQi G A below args s (w_D G d0 d1 d2 d3 d4 d5 d6 d7 d8 d9 d10 d11 d12 d_n d_a d_b d_c d_k d_x d_y d_d d_r d_w d_e d_1 d_2 d_o v.2 d_ra d_rb d_rc d_t) 0 0 v.1) (F0 m 4 ls []) := by
    intro x1 _z n
    induction n with
    | zero =>
      intro x2 x3 d_g H locs ls hP hD hS hl h
      rw [fX5_sum_b4.eq_1] at h
      cases h
    | succ n ih =>
      intro x2 x3 d_g H locs ls hP hD hS hl h
      rw [fX5_sum_b4.eq_2] at h
      refine lv_iload_n hx hb dX5_sum_4 rfl (lv_at hl 3 rfl) ?_
      refine lv_iconst (v := 1) hx hb dX5_sum_5 (by decide) ?_
      refine lv_aload_n hx hb dX5_sum_6 rfl (lv_at hl 0 rfl) ?_
      refine va_get (D := G.1) (ci := 5) (v := .int d_e) (C := RX5) (T := TX5) (N := 19) hx hb hts hinX5 hown hK.1 hP 0 rfl rfl 10 (by decide) lk153 (fun _ h9 => h9) rfl dX5_sum_7 ?_
      refine lv_ishl hx hb dX5_sum_10 ?_
      refine lv_icmp_ge (tgt := 204) hx hb dX5_sum_11 (by decide) (fun c_1209 => ?_) (fun c_1209 => ?_)
      · have h := ip c_1209 h
        refine lv_iload_n hx hb dX5_sum_204 rfl (lv_at hl 2 rfl) ?_
        obtain rfl := Option.some.inj h
        exact wri hx hb hr hlocks hP hD hS (Nat.le_of_ble_eq_true rfl) (Nat.le_of_ble_eq_true rfl) rfl dX5_sum_205
      · have h := iq c_1209 h
        refine lv_iconst (v := 0) hx hb dX5_sum_14 (by decide) ?_
        refine lv_istore (lv' := [(4, .int 0), (0, .ref d0), (1, .int x1), (2, .int x2), (3, .int x3)]) hx hb dX5_sum_15 hl (by decide) rfl (fun ls hl => ?_)
        refine w_17 _ _ _ _  () (fun d_g_1210 H locs ls hP hD hS hl h => ?_) N _ _ _ _ _ hP hD hS (lv_sub hl [1, 2, 3, 4, 0] rfl) h
        refine lv_iconst (v := 1) hx hb dX5_sum_39 (by decide) ?_
        refine lv_istore (lv' := [(4, .int 1), (0, .ref d0), (1, .int x1), (2, .int x2), (3, .int x3)]) hx hb dX5_sum_40 hl (by decide) rfl (fun ls hl => ?_)
        refine lv_bipush (v := 6) hx hb dX5_sum_42 (by decide) ?_
        refine lv_istore (lv' := [(5, .int 6), (4, .int 1), (0, .ref d0), (1, .int x1), (2, .int x2), (3, .int x3)]) hx hb dX5_sum_44 hl (by decide) rfl (fun ls hl => ?_)
        refine lv_iconst (v := 0) hx hb dX5_sum_46 (by decide) ?_
        refine lv_istore (lv' := [(6, .int 0), (5, .int 6), (4, .int 1), (0, .ref d0), (1, .int x1), (2, .int x2), (3, .int x3)]) hx hb dX5_sum_47 hl (by decide) rfl (fun ls hl => ?_)
        refine w_49 _ _ _ _  () (fun x4_1211 x5_1212 d_g_1213 H locs ls hP hD hS hl h => ?_) N _ _ _ _ _ _ _ hP hD hS (lv_sub hl [3, 4, 5, 6, 2, 1, 0] rfl) h
        refine lv_iconst (v := 0) hx hb dX5_sum_171 (by decide) ?_
        refine lv_istore (lv' := [(6, .int 0), (0, .ref d0), (1, .int x1), (2, .int x2), (3, .int x3), (4, .int x4_1211), (5, .int x5_1212)]) hx hb dX5_sum_172 hl (by decide) rfl (fun ls hl => ?_)
        refine w_174 _ _ _ _ _ _ () (fun x4_1214 H locs ls hP hD hS hl h => ?_) N _ _  _ _ _ hP hD hS (lv_sub hl [1, 2, 3, 4, 5, 6, 0] rfl) h
        refine lv_iload_n hx hb dX5_sum_193 rfl (lv_at hl 2 rfl) ?_
        refine lv_iload hx hb dX5_sum_194 (lv_at hl 4 rfl) ?_
        refine lv_iadd hx hb dX5_sum_196 ?_
        refine lv_istore_n (lv' := [(2, .int (x2 + x4_1214)), (0, .ref d0), (1, .int x1), (3, .int x3), (4, .int x4_1214)]) hx hb dX5_sum_197 rfl hl (by decide) rfl (fun ls hl => ?_)
        refine lv_iinc (v := (x3 + 1)) (lv' := [(3, .int (x3 + 1)), (2, .int (x2 + x4_1214)), (0, .ref d0), (1, .int x1), (4, .int x4_1214)]) hx hb dX5_sum_198 hl (k := 3) rfl rfl (by decide) rfl (fun ls hl => ?_)
        refine lv_goto (tgt := 4) hx hb dX5_sum_201 (by decide) ?_
        exact ih _ _ _ _ _ _ hP hD hS (lv_sub hl [2, 3, 1, 0] rfl) h
  rw [fX5_sum.eq_1] at h
  refine lv_iconst (v := 0) hx hb dX5_sum_0 (by decide) ?_
  refine lv_istore_n (lv' := [(2, .int 0), (0, .ref d0), (1, .int x1)]) hx hb dX5_sum_1 rfl hl (by decide) rfl (fun ls hl => ?_)
  refine lv_iconst (v := 0) hx hb dX5_sum_2 (by decide) ?_
  refine lv_istore_n (lv' := [(3, .int 0), (2, .int 0), (0, .ref d0), (1, .int x1)]) hx hb dX5_sum_3 rfl hl (by decide) rfl (fun ls hl => ?_)
  exact w_4  _  ()  N _ _ _ _ _ _ hP hD hS (lv_sub hl [2, 3, 1, 0] rfl) h
def fX5_colouringsAnew (N : Nat) (d_e : Int32) (d_1 : Nat → Int32) (d_2 : Nat → Int32) (d_g : Nat → Int32) (d_t : Int32) (x1 : Int32) : Option (Int32 × (Nat → Int32) × Int32) := bd (fX5_in N x1 0 6) (fun u_1215 => bd (fX5_fails N d_t u_1215 1) (fun u_1217 => if u_1217.1 = 0 then bd (fX5_sum N d_e d_1 d_2 d_g x1) (fun u_1220 => some (u_1220.1, u_1220.2, u_1217.2)) else some (0, d_g, u_1217.2)))
set_option maxHeartbeats 4000000 in
set_option maxRecDepth 100000 in
theorem kX5_colouringsAnew {l : Launch} {G : wG} (d0 d1 d2 d3 d4 d5 d6 d7 d8 d9 d10 d11 d12 : Nat) (d_n : Int32) (d_a : Nat → Int32) (d_b : Nat → Int32) (d_c : Nat → Int32) (d_k : Int32) (d_x : Nat → Int32) (d_y : Nat → Int32) (d_d : Nat → Int32) (d_r : Nat → Int32) (d_w : Nat → Int32) (d_e : Int32) (d_1 : Nat → Int32) (d_2 : Nat → Int32) (d_o : Nat → Int32) (d_g : Nat → Int32) (d_ra : Int32) (d_rb : Int32) (d_rc : Int32) (d_t : Int32) (x1 : Int32) (N : Nat) (v : Int32 × (Nat → Int32) × Int32) (h : fX5_colouringsAnew N d_e d_1 d_2 d_g d_t x1 = some v) : wCi l G yX5_colouringsAnew wsX5_colouringsAnew ({ frames := 1, cells := 0, slots := 0, locals := 29 } : Room) [.ref d0, .int x1] (w_D G d0 d1 d2 d3 d4 d5 d6 d7 d8 d9 d10 d11 d12 d_n d_a d_b d_c d_k d_x d_y d_d d_r d_w d_e d_1 d_2 d_o d_g d_ra d_rb d_rc d_t) (w_D G d0 d1 d2 d3 d4 d5 d6 d7 d8 d9 d10 d11 d12 d_n d_a d_b d_c d_k d_x d_y d_d d_r d_w d_e d_1 d_2 d_o v.2.1 d_ra d_rb d_rc v.2.2) 0 0 v.1 := by
  refine wCi.mk (cc := cX5_colouringsAnew) (maxL := 2) (ty := .int) (by decide) rfl (Nat.le_of_ble_eq_true rfl) ?_
  intro p e s m below meth c A ls hx hb hml hr hlocks hts hown hK hA hP hD hl
  have hx : p.tables.exec = Jvm.exec := hx
  have hown : s.vm.findClass RX5 = some m.cls := hown
  have hS : va_S A s.heap s.heap [] := va_S.rf
  have hP : va_P G.1 vwCl (w_D G d0 d1 d2 d3 d4 d5 d6 d7 d8 d9 d10 d11 d12 d_n d_a d_b d_c d_k d_x d_y d_d d_r d_w d_e d_1 d_2 d_o d_g d_ra d_rb d_rc d_t) s.heap := hP
  have hD : va_D A (w_D G d0 d1 d2 d3 d4 d5 d6 d7 d8 d9 d10 d11 d12 d_n d_a d_b d_c d_k d_x d_y d_d d_r d_w d_e d_1 d_2 d_o d_g d_ra d_rb d_rc d_t) := hD
  have hl : lv_has ls 2 [(0, .ref d0), (1, .int x1)] := hl
  obtain ⟨args, hargs⟩ : ∃ z : Array Value, z = ([.ref d0, .int x1] : List Value).toArray := ⟨_, rfl⟩
  rw [← hargs]
  rw [← hargs] at hts
  rw [fX5_colouringsAnew.eq_1] at h
  refine lv_aload_n hx hb dX5_colouringsAnew_0 rfl (lv_at hl 0 rfl) ?_
  refine lv_iload_n hx hb dX5_colouringsAnew_1 rfl (lv_at hl 1 rfl) ?_
  refine lv_iconst (v := 0) hx hb dX5_colouringsAnew_2 (by decide) ?_
  refine lv_bipush (v := 6) hx hb dX5_colouringsAnew_3 (by decide) ?_
  obtain ⟨u_1215, hc_1216, h⟩ := bd_inv h
  refine wafter_i (wr := (w_D G d0 d1 d2 d3 d4 d5 d6 d7 d8 d9 d10 d11 d12 d_n d_a d_b d_c d_k d_x d_y d_d d_r d_w d_e d_1 d_2 d_o d_g d_ra d_rb d_rc d_t)) (w2 := (w_D G d0 d1 d2 d3 d4 d5 d6 d7 d8 d9 d10 d11 d12 d_n d_a d_b d_c d_k d_x d_y d_d d_r d_w d_e d_1 d_2 d_o d_g d_ra d_rb d_rc d_t)) (va_runS (As := [.int x1, .int 0, .int 6]) (rest := [.ref d0]) ⟨hx, hb, hml, hown, hts⟩ (kX5_in (l := l) (G := G)   x1 0 6 N u_1215 hc_1216 _) (va_cwS 3 hts gX5_colouringsAnew_X5_in rfl rfl rfl (by decide +kernel) ⟨Nat.le_of_ble_eq_true rfl, Nat.le_of_ble_eq_true rfl⟩) (wPreS hP hD hK [] rfl rfl) rfl rfl hl.1 rfl (lv_room (Nat.le_of_ble_eq_true rfl)) dX5_colouringsAnew_5 ⟨Nat.zero_le _, Nat.zero_le _⟩) hP hD hS hA [] [0, 1, 2, 3, 4, 5, 6, 7, 8, 9, 10, 11, 12] [0, 1, 2, 3, 4, 5, 6, 7, 8, 9, 10, 11, 12] rfl rfl rfl (by decide) rfl rfl (fun H locs hP hD hS => ?_)
  refine lv_iconst (v := 1) hx hb dX5_colouringsAnew_8 (by decide) ?_
  obtain ⟨u_1217, hc_1218, h⟩ := bd_inv h
  refine wafter_i (wr := []) (w2 := (w_D G d0 d1 d2 d3 d4 d5 d6 d7 d8 d9 d10 d11 d12 d_n d_a d_b d_c d_k d_x d_y d_d d_r d_w d_e d_1 d_2 d_o d_g d_ra d_rb d_rc u_1217.2)) (va_runV (As := [.int u_1215, .int 1]) (rest := []) ⟨hx, hb, hml, hown, hts⟩ (kX5_fails (l := l) (G := G) d0 d1 d2 d3 d4 d5 d6 d7 d8 d9 d10 d11 d12 d_n d_a d_b d_c d_k d_x d_y d_d d_r d_w d_e d_1 d_2 d_o d_g d_ra d_rb d_rc d_t u_1215 1 N u_1217 hc_1218 _) (cwV 2 hts gX5_colouringsAnew_X5_fails rfl rfl rfl (by decide +kernel) ⟨Nat.le_of_ble_eq_true rfl, Nat.le_of_ble_eq_true rfl⟩) (wPreV hP hD hK [0, 1, 2, 3, 4, 5, 6, 7, 8, 9, 10, 11, 12] rfl rfl (ci := 5) (qb := 0) rfl rfl rfl) rfl rfl hl.1 rfl (lv_room (Nat.le_of_ble_eq_true rfl)) dX5_colouringsAnew_9 ⟨Nat.zero_le _, Nat.zero_le _⟩) hP hD hS hA [0, 1, 2, 3, 4, 5, 6, 7, 8, 9, 10, 11, 12] [] [0, 1, 2, 3, 4, 5, 6, 7, 8, 9, 10, 11, 12] rfl rfl rfl (by decide) rfl rfl (fun H locs hP hD hS => ?_)
  refine lv_if_eq (tgt := 17) hx hb dX5_colouringsAnew_12 (by decide) (fun c_1219 => ?_) (fun c_1219 => ?_)
  · have h := ip c_1219 h
    refine lv_aload_n hx hb dX5_colouringsAnew_17 rfl (lv_at hl 0 rfl) ?_
    refine lv_iload_n hx hb dX5_colouringsAnew_18 rfl (lv_at hl 1 rfl) ?_
    obtain ⟨u_1220, hc_1221, h⟩ := bd_inv h
    refine wafter_i (wr := []) (w2 := (w_D G d0 d1 d2 d3 d4 d5 d6 d7 d8 d9 d10 d11 d12 d_n d_a d_b d_c d_k d_x d_y d_d d_r d_w d_e d_1 d_2 d_o u_1220.2 d_ra d_rb d_rc u_1217.2)) (va_runV (As := [.int x1]) (rest := []) ⟨hx, hb, hml, hown, hts⟩ (kX5_sum (l := l) (G := G) d0 d1 d2 d3 d4 d5 d6 d7 d8 d9 d10 d11 d12 d_n d_a d_b d_c d_k d_x d_y d_d d_r d_w d_e d_1 d_2 d_o d_g d_ra d_rb d_rc u_1217.2 x1 N u_1220 hc_1221 _) (cwV 1 hts gX5_colouringsAnew_X5_sum rfl rfl rfl (by decide +kernel) ⟨Nat.le_of_ble_eq_true rfl, Nat.le_of_ble_eq_true rfl⟩) (wPreV hP hD hK [0, 1, 2, 3, 4, 5, 6, 7, 8, 9, 10, 11, 12] rfl rfl (ci := 5) (qb := 0) rfl rfl rfl) rfl rfl hl.1 rfl (lv_room (Nat.le_of_ble_eq_true rfl)) dX5_colouringsAnew_19 ⟨Nat.zero_le _, Nat.zero_le _⟩) hP hD hS hA [0, 1, 2, 3, 4, 5, 6, 7, 8, 9, 10, 11, 12] [] [0, 1, 2, 3, 4, 5, 6, 7, 8, 9, 10, 11, 12] rfl rfl rfl (by decide) rfl rfl (fun H locs hP hD hS => ?_)
    obtain rfl := Option.some.inj h
    exact wri hx hb hr hlocks hP hD hS (Nat.le_of_ble_eq_true rfl) (Nat.le_of_ble_eq_true rfl) rfl dX5_colouringsAnew_22
  · have h := iq c_1219 h
    refine lv_iconst (v := 0) hx hb dX5_colouringsAnew_15 (by decide) ?_
    obtain rfl := Option.some.inj h
    exact wri hx hb hr hlocks hP hD hS (Nat.le_of_ble_eq_true rfl) (Nat.le_of_ble_eq_true rfl) rfl dX5_colouringsAnew_16
def fX5_directions_b86 (N : Nat) (d_1 : Nat → Int32) (d_2 : Nat → Int32) (x3 : Int32) (x7 : Int32) (x5 : Int32) (x6 : Int32) (s0 : Int32) (k_38 : Int32 → Int32 → Option (Int32 × Int32)) : Option (Int32 × Int32) := if ((x3 >>> (s0 &&& 31)) &&& 1) = 1 then if x7 = 0 then rd d_2 15 x6 (fun v_1224 => nm (x5 ||| (1 <<< (v_1224 &&& 31))) (fun x5_1225 => k_38 x5_1225 (x6 + 1))) else rd d_1 15 x6 (fun v_1226 => nm (x5 ||| (1 <<< (v_1226 &&& 31))) (fun x5_1227 => k_38 x5_1227 (x6 + 1))) else k_38 (x5 ||| 0) (x6 + 1)
def fX5_directions_b62 (N : Nat) (d_1 : Nat → Int32) (d_2 : Nat → Int32) (x3 : Int32) (x5 : Int32) (x6 : Int32) (s0 : Int32) (k_38 : Int32 → Int32 → Option (Int32 × Int32)) : Option (Int32 × Int32) := if s0 = 0 then rd d_1 15 x6 (fun v_1229 => fX5_directions_b86 N d_1 d_2 x3 s0 x5 x6 v_1229 (fun (x5_1230 : Int32) (x6_1231 : Int32) => k_38 x5_1230 x6_1231)) else rd d_2 15 x6 (fun v_1232 => fX5_directions_b86 N d_1 d_2 x3 s0 x5 x6 v_1232 (fun (x5_1233 : Int32) (x6_1234 : Int32) => k_38 x5_1233 x6_1234))
def fX5_directions_b38 (N : Nat) (d_e : Int32) (d_1 : Nat → Int32) (d_2 : Nat → Int32) (x2 : Int32) (x3 : Int32) (k_137 : Int32 → Option (Int32 × Int32)) : Nat → Int32 → Int32 → Option (Int32 × Int32)
  | 0, _, _ => none
  | n + 1, x5, x6 => if d_e ≤ x6 then k_137 x5 else if ((x2 >>> (x6 &&& 31)) &&& 1) = 1 then fX5_directions_b62 N d_1 d_2 x3 x5 x6 1 (fun (x5_1239 : Int32) (x6_1240 : Int32) => fX5_directions_b38 N d_e d_1 d_2 x2 x3 k_137 n x5_1239 x6_1240) else fX5_directions_b62 N d_1 d_2 x3 x5 x6 0 (fun (x5_1237 : Int32) (x6_1238 : Int32) => fX5_directions_b38 N d_e d_1 d_2 x2 x3 k_137 n x5_1237 x6_1238)
def fX5_directions_b25 (N : Nat) (d_e : Int32) (d_1 : Nat → Int32) (d_2 : Nat → Int32) (x2 : Int32) (k_148 : Int32 → Option (Int32 × Int32)) : Nat → Int32 → Int32 → Option (Int32 × Int32)
  | 0, _, _ => none
  | n + 1, x3, x4 => if 6 ≤ x4 then k_148 x3 else fX5_directions_b38 N d_e d_1 d_2 x2 x3 (fun (x5_1242 : Int32) => fX5_directions_b25 N d_e d_1 d_2 x2 k_148 n (x3 &&& x5_1242) (x4 + 1)) N 0 0
def fX5_directions_b9 (N : Nat) (d_e : Int32) (d_1 : Nat → Int32) (d_2 : Nat → Int32) (d_t : Int32) : Nat → Int32 → Int32 → Option (Int32 × Int32)
  | 0, _, _ => none
  | n + 1, x1, x2 => if (1 <<< (d_e &&& 31)) ≤ x2 then some (x1, d_t) else fX5_directions_b25 N d_e d_1 d_2 x2 (fun (x3_1244 : Int32) => if x3_1244 = 0 then fX5_directions_b9 N d_e d_1 d_2 d_t n (x1 + 1) (x2 + 1) else fX5_directions_b9 N d_e d_1 d_2 d_t n (x1 + 0) (x2 + 1)) N 63 0
def fX5_directions (N : Nat) (d_e : Int32) (d_1 : Nat → Int32) (d_2 : Nat → Int32) (d_t : Int32) : Option (Int32 × Int32) := fX5_directions_b9 N d_e d_1 d_2 0 N 0 0
set_option maxHeartbeats 4000000 in
set_option maxRecDepth 100000 in
theorem kX5_directions {l : Launch} {G : wG} (d0 d1 d2 d3 d4 d5 d6 d7 d8 d9 d10 d11 d12 : Nat) (d_n : Int32) (d_a : Nat → Int32) (d_b : Nat → Int32) (d_c : Nat → Int32) (d_k : Int32) (d_x : Nat → Int32) (d_y : Nat → Int32) (d_d : Nat → Int32) (d_r : Nat → Int32) (d_w : Nat → Int32) (d_e : Int32) (d_1 : Nat → Int32) (d_2 : Nat → Int32) (d_o : Nat → Int32) (d_g : Nat → Int32) (d_ra : Int32) (d_rb : Int32) (d_rc : Int32) (d_t : Int32) (N : Nat) (v : Int32 × Int32) (h : fX5_directions N d_e d_1 d_2 d_t = some v) : wCi l G yX5_directions wsX5_directions ({ frames := 0, cells := 0, slots := 0, locals := 0 } : Room) [.ref d0] (w_D G d0 d1 d2 d3 d4 d5 d6 d7 d8 d9 d10 d11 d12 d_n d_a d_b d_c d_k d_x d_y d_d d_r d_w d_e d_1 d_2 d_o d_g d_ra d_rb d_rc d_t) (w_D G d0 d1 d2 d3 d4 d5 d6 d7 d8 d9 d10 d11 d12 d_n d_a d_b d_c d_k d_x d_y d_d d_r d_w d_e d_1 d_2 d_o d_g d_ra d_rb d_rc v.2) 0 0 v.1 := by
  refine wCi.mk (cc := cX5_directions) (maxL := 9) (ty := .int) (by decide) rfl (Nat.le_of_ble_eq_true rfl) ?_
  intro p e s m below meth c A ls hx hb hml hr hlocks hts hown hK hA hP hD hl
  have hx : p.tables.exec = Jvm.exec := hx
  have hown : s.vm.findClass RX5 = some m.cls := hown
  have hinX5 : ∀ w ∈ wsX50, w ∈ wsX5_directions := by decide +kernel
  have lk153 := hts (.fieldLink RX5 153 "ChamberwrightModel" "edges" "I") (by decide +kernel)
  have lk35 := hts (.fieldLink RX5 35 "ChamberwrightModel" "one" "[I") (by decide +kernel)
  have lk38 := hts (.fieldLink RX5 38 "ChamberwrightModel" "two" "[I") (by decide +kernel)
  have lk47 := hts (.fieldLink RX5 47 "ChamberwrightModel" "thrown" "I") (by decide +kernel)
  have hS : va_S A s.heap s.heap [] := va_S.rf
  have hP : va_P G.1 vwCl (w_D G d0 d1 d2 d3 d4 d5 d6 d7 d8 d9 d10 d11 d12 d_n d_a d_b d_c d_k d_x d_y d_d d_r d_w d_e d_1 d_2 d_o d_g d_ra d_rb d_rc d_t) s.heap := hP
  have hD : va_D A (w_D G d0 d1 d2 d3 d4 d5 d6 d7 d8 d9 d10 d11 d12 d_n d_a d_b d_c d_k d_x d_y d_d d_r d_w d_e d_1 d_2 d_o d_g d_ra d_rb d_rc d_t) := hD
  have hl : lv_has ls 9 [(0, .ref d0)] := hl
  obtain ⟨args, hargs⟩ : ∃ z : Array Value, z = ([.ref d0] : List Value).toArray := ⟨_, rfl⟩
  rw [← hargs]
  rw [← hargs] at hts
  have w_86 : ∀ (k_38 : Int32 → Int32 → Option (Int32 × Int32)) (x1 : Int32) (x2 : Int32) (x3 : Int32) (x4 : Int32) (x5 : Int32) (x6 : Int32) (x7 : Int32) (d_t : Int32) (s0 : Int32) (H : Heap) (locs : List Loc) (ls : Array Slot), (∀ (y5 : Int32) (y6 : Int32) (H : Heap) (locs : List Loc) (ls : Array Slot), va_P G.1 vwCl (w_D G d0 d1 d2 d3 d4 d5 d6 d7 d8 d9 d10 d11 d12 d_n d_a d_b d_c d_k d_x d_y d_d d_r d_w d_e d_1 d_2 d_o d_g d_ra d_rb d_rc d_t) H → va_D A (w_D G d0 d1 d2 d3 d4 d5 d6 d7 d8 d9 d10 d11 d12 d_n d_a d_b d_c d_k d_x d_y d_d d_r d_w d_e d_1 d_2 d_o d_g d_ra d_rb d_rc d_t) → va_S A s.heap H locs → lv_has ls 9 [(0, .ref d0), (1, .int x1), (2, .int x2), (3, .int x3), (4, .int x4), (5, .int y5), (6, .int y6)] → k_38 y5 y6 = some v → W p l e ({ frames := 0, cells := 0, slots := 0, locals := 0 } : Room) s m args below meth c H locs 0 0 (wQi G A below args s (w_D G d0 d1 d2 d3 d4 d5 d6 d7 d8 d9 d10 d11 d12 d_n d_a d_b d_c d_k d_x d_y d_d d_r d_w d_e d_1 d_2 d_o d_g d_ra d_rb d_rc v.2) 0 0 v.1) (F0 m 38 ls [])) → va_P G.1 vwCl (w_D G d0 d1 d2 d3 d4 d5 d6 d7 d8 d9 d10 d11 d12 d_n d_a d_b d_c d_k d_x d_y d_d d_r d_w d_e d_1 d_2 d_o d_g d_ra d_rb d_rc d_t) H → va_D A (w_D G d0 d1 d2 d3 d4 d5 d6 d7 d8 d9 d10 d11 d12 d_n d_a d_b d_c d_k d_x d_y d_d d_r d_w d_e d_1 d_2 d_o d_g d_ra d_rb d_rc d_t) → va_S A s.heap H locs → lv_has ls 9 [(0, .ref d0), (1, .int x1), (2, .int x2), (3, .int x3), (4, .int x4), (5, .int x5), (6, .int x6), (7, .int x7)] → fX5_directions_b86 N d_1 d_2 x3 x7 x5 x6 s0 k_38 = some v → W p l e ({ frames := 0, cells := 0, slots := 0, locals := 0 } : Room) s m args below meth c H locs 0 0 (wQi G A below args s (w_D G d0 d1 d2 d3 d4 d5 d6 d7 d8 d9 d10 d11 d12 d_n d_a d_b d_c d_k d_x d_y d_d d_r d_w d_e d_1 d_2 d_o d_g d_ra d_rb d_rc v.2) 0 0 v.1) (F0 m 86 ls [.int s0]) := by
    intro k_38 x1 x2 x3 x4 x5 x6 x7 d_t s0 H locs ls hk_38 hP hD hS hl h
    rw [fX5_directions_b86.eq_1] at h
    refine lv_istore (lv' := [(8, .int s0), (0, .ref d0), (1, .int x1), (2, .int x2), (3, .int x3), (4, .int x4), (5, .int x5), (6, .int x6), (7, .int x7)]) hx hb dX5_directions_86 hl (by decide) rfl (fun ls hl => ?_)
    refine lv_iload hx hb dX5_directions_88 (lv_at hl 6 rfl) ?_
    refine lv_iload_n hx hb dX5_directions_90 rfl (lv_at hl 4 rfl) ?_
    refine lv_iload hx hb dX5_directions_91 (lv_at hl 0 rfl) ?_
    refine lv_ishr hx hb dX5_directions_93 ?_
    refine lv_iconst (v := 1) hx hb dX5_directions_94 (by decide) ?_
    refine lv_iand hx hb dX5_directions_95 ?_
    refine lv_iconst (v := 1) hx hb dX5_directions_96 (by decide) ?_
    refine lv_icmp_ne (tgt := 127) hx hb dX5_directions_97 (by decide) (fun c_1222 => ?_) (fun c_1222 => ?_)
    · have h := iq c_1222 h
      refine lv_iconst (v := 0) hx hb dX5_directions_127 (by decide) ?_
      refine lv_ior hx hb dX5_directions_128 ?_
      refine lv_istore (lv' := [(5, .int (x5 ||| 0)), (8, .int s0), (0, .ref d0), (1, .int x1), (2, .int x2), (3, .int x3), (4, .int x4), (6, .int x6), (7, .int x7)]) hx hb dX5_directions_129 hl (by decide) rfl (fun ls hl => ?_)
      refine lv_iinc (v := (x6 + 1)) (lv' := [(6, .int (x6 + 1)), (5, .int (x5 ||| 0)), (8, .int s0), (0, .ref d0), (1, .int x1), (2, .int x2), (3, .int x3), (4, .int x4), (7, .int x7)]) hx hb dX5_directions_131 hl (k := 7) rfl rfl (by decide) rfl (fun ls hl => ?_)
      refine lv_goto (tgt := 38) hx hb dX5_directions_134 (by decide) ?_
      exact hk_38 _ _ _ _ _ hP hD hS (lv_sub hl [3, 4, 5, 6, 7, 1, 0] rfl) h
    · have h := ip c_1222 h
      refine lv_iconst (v := 1) hx hb dX5_directions_100 (by decide) ?_
      refine lv_iload hx hb dX5_directions_101 (lv_at hl 8 rfl) ?_
      refine lv_if_eq (tgt := 116) hx hb dX5_directions_103 (by decide) (fun c_1223 => ?_) (fun c_1223 => ?_)
      · have h := ip c_1223 h
        refine lv_aload_n hx hb dX5_directions_116 rfl (lv_at hl 1 rfl) ?_
        refine va_get (D := G.1) (ci := 5) (v := .ref d10) (C := RX5) (T := TX5) (N := 19) hx hb hts hinX5 hown hK.1 hP 0 rfl rfl 12 (by decide) lk38 (fun _ h9 => h9) rfl dX5_directions_117 ?_
        refine lv_iload hx hb dX5_directions_120 (lv_at hl 7 rfl) ?_
        refine wiald h hx hb hK hP 10 rfl dX5_directions_122 (fun v_1224 h => ?_)
        refine lv_ishl hx hb dX5_directions_123 ?_
        refine lv_goto (tgt := 128) hx hb dX5_directions_124 (by decide) ?_
        refine lv_ior hx hb dX5_directions_128 ?_
        refine wnmi h (fun x5_1225 h => ?_)
        refine lv_istore (lv' := [(5, .int x5_1225), (8, .int s0), (0, .ref d0), (1, .int x1), (2, .int x2), (3, .int x3), (4, .int x4), (6, .int x6), (7, .int x7)]) hx hb dX5_directions_129 hl (by decide) rfl (fun ls hl => ?_)
        refine lv_iinc (v := (x6 + 1)) (lv' := [(6, .int (x6 + 1)), (5, .int x5_1225), (8, .int s0), (0, .ref d0), (1, .int x1), (2, .int x2), (3, .int x3), (4, .int x4), (7, .int x7)]) hx hb dX5_directions_131 hl (k := 7) rfl rfl (by decide) rfl (fun ls hl => ?_)
        refine lv_goto (tgt := 38) hx hb dX5_directions_134 (by decide) ?_
        exact hk_38 _ _ _ _ _ hP hD hS (lv_sub hl [3, 4, 5, 6, 7, 1, 0] rfl) h
      · have h := iq c_1223 h
        refine lv_aload_n hx hb dX5_directions_106 rfl (lv_at hl 1 rfl) ?_
        refine va_get (D := G.1) (ci := 5) (v := .ref d9) (C := RX5) (T := TX5) (N := 19) hx hb hts hinX5 hown hK.1 hP 0 rfl rfl 11 (by decide) lk35 (fun _ h9 => h9) rfl dX5_directions_107 ?_
        refine lv_iload hx hb dX5_directions_110 (lv_at hl 7 rfl) ?_
        refine wiald h hx hb hK hP 9 rfl dX5_directions_112 (fun v_1226 h => ?_)
        refine lv_goto (tgt := 123) hx hb dX5_directions_113 (by decide) ?_
        refine lv_ishl hx hb dX5_directions_123 ?_
        refine lv_goto (tgt := 128) hx hb dX5_directions_124 (by decide) ?_
        refine lv_ior hx hb dX5_directions_128 ?_
        refine wnmi h (fun x5_1227 h => ?_)
        refine lv_istore (lv' := [(5, .int x5_1227), (8, .int s0), (0, .ref d0), (1, .int x1), (2, .int x2), (3, .int x3), (4, .int x4), (6, .int x6), (7, .int x7)]) hx hb dX5_directions_129 hl (by decide) rfl (fun ls hl => ?_)
        refine lv_iinc (v := (x6 + 1)) (lv' := [(6, .int (x6 + 1)), (5, .int x5_1227), (8, .int s0), (0, .ref d0), (1, .int x1), (2, .int x2), (3, .int x3), (4, .int x4), (7, .int x7)]) hx hb dX5_directions_131 hl (k := 7) rfl rfl (by decide) rfl (fun ls hl => ?_)
        refine lv_goto (tgt := 38) hx hb dX5_directions_134 (by decide) ?_
        exact hk_38 _ _ _ _ _ hP hD hS (lv_sub hl [3, 4, 5, 6, 7, 1, 0] rfl) h
  have w_62 : ∀ (k_38 : Int32 → Int32 → Option (Int32 × Int32)) (x1 : Int32) (x2 : Int32) (x3 : Int32) (x4 : Int32) (x5 : Int32) (x6 : Int32) (d_t : Int32) (s0 : Int32) (H : Heap) (locs : List Loc) (ls : Array Slot), (∀ (y5 : Int32) (y6 : Int32) (H : Heap) (locs : List Loc) (ls : Array Slot), va_P G.1 vwCl (w_D G d0 d1 d2 d3 d4 d5 d6 d7 d8 d9 d10 d11 d12 d_n d_a d_b d_c d_k d_x d_y d_d d_r d_w d_e d_1 d_2 d_o d_g d_ra d_rb d_rc d_t) H → va_D A (w_D G d0 d1 d2 d3 d4 d5 d6 d7 d8 d9 d10 d11 d12 d_n d_a d_b d_c d_k d_x d_y d_d d_r d_w d_e d_1 d_2 d_o d_g d_ra d_rb d_rc d_t) → va_S A s.heap H locs → lv_has ls 9 [(0, .ref d0), (1, .int x1), (2, .int x2), (3, .int x3), (4, .int x4), (5, .int y5), (6, .int y6)] → k_38 y5 y6 = some v → W p l e ({ frames := 0, cells := 0, slots := 0, locals := 0 } : Room) s m args below meth c H locs 0 0 (wQi G A below args s (w_D G d0 d1 d2 d3 d4 d5 d6 d7 d8 d9 d10 d11 d12 d_n d_a d_b d_c d_k d_x d_y d_d d_r d_w d_e d_1 d_2 d_o d_g d_ra d_rb d_rc v.2) 0 0 v.1) (F0 m 38 ls [])) → va_P G.1 vwCl (w_D G d0 d1 d2 d3 d4 d5 d6 d7 d8 d9 d10 d11 d12 d_n d_a d_b d_c d_k d_x d_y d_d d_r d_w d_e d_1 d_2 d_o d_g d_ra d_rb d_rc d_t) H → va_D A (w_D G d0 d1 d2 d3 d4 d5 d6 d7 d8 d9 d10 d11 d12 d_n d_a d_b d_c d_k d_x d_y d_d d_r d_w d_e d_1 d_2 d_o d_g d_ra d_rb d_rc d_t) → va_S A s.heap H locs → lv_has ls 9 [(0, .ref d0), (1, .int x1), (2, .int x2), (3, .int x3), (4, .int x4), (5, .int x5), (6, .int x6)] → fX5_directions_b62 N d_1 d_2 x3 x5 x6 s0 k_38 = some v → W p l e ({ frames := 0, cells := 0, slots := 0, locals := 0 } : Room) s m args below meth c H locs 0 0 (wQi G A below args s (w_D G d0 d1 d2 d3 d4 d5 d6 d7 d8 d9 d10 d11 d12 d_n d_a d_b d_c d_k d_x d_y d_d d_r d_w d_e d_1 d_2 d_o d_g d_ra d_rb d_rc v.2) 0 0 v.1) (F0 m 62 ls [.int s0]) := by
    intro k_38 x1 x2 x3 x4 x5 x6 d_t s0 H locs ls hk_38 hP hD hS hl h
    rw [fX5_directions_b62.eq_1] at h
    refine lv_istore (lv' := [(7, .int s0), (0, .ref d0), (1, .int x1), (2, .int x2), (3, .int x3), (4, .int x4), (5, .int x5), (6, .int x6)]) hx hb dX5_directions_62 hl (by decide) rfl (fun ls hl => ?_)
    refine lv_iload hx hb dX5_directions_64 (lv_at hl 0 rfl) ?_
    refine lv_if_eq (tgt := 79) hx hb dX5_directions_66 (by decide) (fun c_1228 => ?_) (fun c_1228 => ?_)
    · have h := ip c_1228 h
      refine lv_aload_n hx hb dX5_directions_79 rfl (lv_at hl 1 rfl) ?_
      refine va_get (D := G.1) (ci := 5) (v := .ref d9) (C := RX5) (T := TX5) (N := 19) hx hb hts hinX5 hown hK.1 hP 0 rfl rfl 11 (by decide) lk35 (fun _ h9 => h9) rfl dX5_directions_80 ?_
      refine lv_iload hx hb dX5_directions_83 (lv_at hl 7 rfl) ?_
      refine wiald h hx hb hK hP 9 rfl dX5_directions_85 (fun v_1229 h => ?_)
      refine w_86 _ _ _ _ _ _ _ _ _ _ _ _ _ (fun x5_1230 x6_1231 H locs ls hP hD hS hl h => ?_) hP hD hS (lv_sub hl [1, 2, 3, 4, 5, 6, 7, 0] rfl) h
      exact hk_38 _ _ _ _ _ hP hD hS (lv_sub hl [0, 1, 2, 3, 4, 5, 6] rfl) h
    · have h := iq c_1228 h
      refine lv_aload_n hx hb dX5_directions_69 rfl (lv_at hl 1 rfl) ?_
      refine va_get (D := G.1) (ci := 5) (v := .ref d10) (C := RX5) (T := TX5) (N := 19) hx hb hts hinX5 hown hK.1 hP 0 rfl rfl 12 (by decide) lk38 (fun _ h9 => h9) rfl dX5_directions_70 ?_
      refine lv_iload hx hb dX5_directions_73 (lv_at hl 7 rfl) ?_
      refine wiald h hx hb hK hP 10 rfl dX5_directions_75 (fun v_1232 h => ?_)
      refine lv_goto (tgt := 86) hx hb dX5_directions_76 (by decide) ?_
      refine w_86 _ _ _ _ _ _ _ _ _ _ _ _ _ (fun x5_1233 x6_1234 H locs ls hP hD hS hl h => ?_) hP hD hS (lv_sub hl [1, 2, 3, 4, 5, 6, 7, 0] rfl) h
      exact hk_38 _ _ _ _ _ hP hD hS (lv_sub hl [0, 1, 2, 3, 4, 5, 6] rfl) h
  have w_38 : ∀ (k_137 : Int32 → Option (Int32 × Int32)) (x1 : Int32) (x2 : Int32) (x3 : Int32) (x4 : Int32) (d_t : Int32) (_z : Unit), (∀ (y5 : Int32) (H : Heap) (locs : List Loc) (ls : Array Slot), va_P G.1 vwCl (w_D G d0 d1 d2 d3 d4 d5 d6 d7 d8 d9 d10 d11 d12 d_n d_a d_b d_c d_k d_x d_y d_d d_r d_w d_e d_1 d_2 d_o d_g d_ra d_rb d_rc d_t) H → va_D A (w_D G d0 d1 d2 d3 d4 d5 d6 d7 d8 d9 d10 d11 d12 d_n d_a d_b d_c d_k d_x d_y d_d d_r d_w d_e d_1 d_2 d_o d_g d_ra d_rb d_rc d_t) → va_S A s.heap H locs → lv_has ls 9 [(0, .ref d0), (1, .int x1), (2, .int x2), (3, .int x3), (4, .int x4), (5, .int y5)] → k_137 y5 = some v → W p l e ({ frames := 0, cells := 0, slots := 0, locals := 0 } : Room) s m args below meth c H locs 0 0 (wQi G A below args s (w_D G d0 d1 d2 d3 d4 d5 d6 d7 d8 d9 d10 d11 d12 d_n d_a d_b d_c d_k d_x d_y d_d d_r d_w d_e d_1 d_2 d_o d_g d_ra d_rb d_rc v.2) 0 0 v.1) (F0 m 137 ls [])) → ∀ (n : Nat) (x5 : Int32) (x6 : Int32)  (H : Heap) (locs : List Loc) (ls : Array Slot), va_P G.1 vwCl (w_D G d0 d1 d2 d3 d4 d5 d6 d7 d8 d9 d10 d11 d12 d_n d_a d_b d_c d_k d_x d_y d_d d_r d_w d_e d_1 d_2 d_o d_g d_ra d_rb d_rc d_t) H → va_D A (w_D G d0 d1 d2 d3 d4 d5 d6 d7 d8 d9 d10 d11 d12 d_n d_a d_b d_c d_k d_x d_y d_d d_r d_w d_e d_1 d_2 d_o d_g d_ra d_rb d_rc d_t) → va_S A s.heap H locs → lv_has ls 9 [(0, .ref d0), (1, .int x1), (2, .int x2), (3, .int x3), (4, .int x4), (5, .int x5), (6, .int x6)] → fX5_directions_b38 N d_e d_1 d_2 x2 x3 k_137 n x5 x6 = some v → W p l e ({ frames := 0, cells := 0, slots := 0, locals := 0 } : Room) s m args below meth c H locs 0 0 (wQi G A below args s (w_D G d0 d1 d2 d3 d4 d5 d6 d7 d8 d9 d10 d11 d12 d_n d_a d_b d_c d_k d_x d_y d_d d_r d_w d_e d_1 d_2 d_o d_g d_ra d_rb d_rc v.2) 0 0 v.1) (F0 m 38 ls []) := by
    intro k_137 x1 x2 x3 x4 d_t _z hk_137 n
    induction n with
    | zero =>
      intro x5 x6 H locs ls hP hD hS hl h
      rw [fX5_directions_b38.eq_1] at h
      cases h
    | succ n ih =>
      intro x5 x6 H locs ls hP hD hS hl h
      rw [fX5_directions_b38.eq_2] at h
      refine lv_iload hx hb dX5_directions_38 (lv_at hl 6 rfl) ?_
      refine lv_aload_n hx hb dX5_directions_40 rfl (lv_at hl 0 rfl) ?_
      refine va_get (D := G.1) (ci := 5) (v := .int d_e) (C := RX5) (T := TX5) (N := 19) hx hb hts hinX5 hown hK.1 hP 0 rfl rfl 10 (by decide) lk153 (fun _ h9 => h9) rfl dX5_directions_41 ?_
      refine lv_icmp_ge (tgt := 137) hx hb dX5_directions_44 (by decide) (fun c_1235 => ?_) (fun c_1235 => ?_)
      · have h := ip c_1235 h
        exact hk_137 _ _ _ _ hP hD hS (lv_sub hl [0, 1, 2, 3, 4, 5] rfl) h
      · have h := iq c_1235 h
        refine lv_iload_n hx hb dX5_directions_47 rfl (lv_at hl 2 rfl) ?_
        refine lv_iload hx hb dX5_directions_48 (lv_at hl 6 rfl) ?_
        refine lv_ishr hx hb dX5_directions_50 ?_
        refine lv_iconst (v := 1) hx hb dX5_directions_51 (by decide) ?_
        refine lv_iand hx hb dX5_directions_52 ?_
        refine lv_iconst (v := 1) hx hb dX5_directions_53 (by decide) ?_
        refine lv_icmp_ne (tgt := 61) hx hb dX5_directions_54 (by decide) (fun c_1236 => ?_) (fun c_1236 => ?_)
        · have h := iq c_1236 h
          refine lv_iconst (v := 0) hx hb dX5_directions_61 (by decide) ?_
          refine w_62 _ _ _ _ _ _ _ _ _ _ _ _ (fun x5_1237 x6_1238 H locs ls hP hD hS hl h => ?_) hP hD hS (lv_sub hl [0, 1, 2, 3, 4, 5, 6] rfl) h
          exact ih _ _ _ _ _ hP hD hS (lv_sub hl [0, 1, 2, 3, 4, 5, 6] rfl) h
        · have h := ip c_1236 h
          refine lv_iconst (v := 1) hx hb dX5_directions_57 (by decide) ?_
          refine lv_goto (tgt := 62) hx hb dX5_directions_58 (by decide) ?_
          refine w_62 _ _ _ _ _ _ _ _ _ _ _ _ (fun x5_1239 x6_1240 H locs ls hP hD hS hl h => ?_) hP hD hS (lv_sub hl [0, 1, 2, 3, 4, 5, 6] rfl) h
          exact ih _ _ _ _ _ hP hD hS (lv_sub hl [0, 1, 2, 3, 4, 5, 6] rfl) h
  have w_25 : ∀ (k_148 : Int32 → Option (Int32 × Int32)) (x1 : Int32) (x2 : Int32) (d_t : Int32) (_z : Unit), (∀ (y3 : Int32) (H : Heap) (locs : List Loc) (ls : Array Slot), va_P G.1 vwCl (w_D G d0 d1 d2 d3 d4 d5 d6 d7 d8 d9 d10 d11 d12 d_n d_a d_b d_c d_k d_x d_y d_d d_r d_w d_e d_1 d_2 d_o d_g d_ra d_rb d_rc d_t) H → va_D A (w_D G d0 d1 d2 d3 d4 d5 d6 d7 d8 d9 d10 d11 d12 d_n d_a d_b d_c d_k d_x d_y d_d d_r d_w d_e d_1 d_2 d_o d_g d_ra d_rb d_rc d_t) → va_S A s.heap H locs → lv_has ls 9 [(0, .ref d0), (1, .int x1), (2, .int x2), (3, .int y3)] → k_148 y3 = some v → W p l e ({ frames := 0, cells := 0, slots := 0, locals := 0 } : Room) s m args below meth c H locs 0 0 (wQi G A below args s (w_D G d0 d1 d2 d3 d4 d5 d6 d7 d8 d9 d10 d11 d12 d_n d_a d_b d_c d_k d_x d_y d_d d_r d_w d_e d_1 d_2 d_o d_g d_ra d_rb d_rc v.2) 0 0 v.1) (F0 m 148 ls [])) → ∀ (n : Nat) (x3 : Int32) (x4 : Int32)  (H : Heap) (locs : List Loc) (ls : Array Slot), va_P G.1 vwCl (w_D G d0 d1 d2 d3 d4 d5 d6 d7 d8 d9 d10 d11 d12 d_n d_a d_b d_c d_k d_x d_y d_d d_r d_w d_e d_1 d_2 d_o d_g d_ra d_rb d_rc d_t) H → va_D A (w_D G d0 d1 d2 d3 d4 d5 d6 d7 d8 d9 d10 d11 d12 d_n d_a d_b d_c d_k d_x d_y d_d d_r d_w d_e d_1 d_2 d_o d_g d_ra d_rb d_rc d_t) → va_S A s.heap H locs → lv_has ls 9 [(0, .ref d0), (1, .int x1), (2, .int x2), (3, .int x3), (4, .int x4)] → fX5_directions_b25 N d_e d_1 d_2 x2 k_148 n x3 x4 = some v → W p l e ({ frames := 0, cells := 0, slots := 0, locals := 0 } : Room) s m args below meth c H locs 0 0 (wQi G A below args s (w_D G d0 d1 d2 d3 d4 d5 d6 d7 d8 d9 d10 d11 d12 d_n d_a d_b d_c d_k d_x d_y d_d d_r d_w d_e d_1 d_2 d_o d_g d_ra d_rb d_rc v.2) 0 0 v.1) (F0 m 25 ls []) := by
    intro k_148 x1 x2 d_t _z hk_148 n
    induction n with
    | zero =>
      intro x3 x4 H locs ls hP hD hS hl h
      rw [fX5_directions_b25.eq_1] at h
      cases h
    | succ n ih =>
      intro x3 x4 H locs ls hP hD hS hl h
      rw [fX5_directions_b25.eq_2] at h
      refine lv_iload hx hb dX5_directions_25 (lv_at hl 4 rfl) ?_
      refine lv_bipush (v := 6) hx hb dX5_directions_27 (by decide) ?_
      refine lv_icmp_ge (tgt := 148) hx hb dX5_directions_29 (by decide) (fun c_1241 => ?_) (fun c_1241 => ?_)
      · have h := ip c_1241 h
        exact hk_148 _ _ _ _ hP hD hS (lv_sub hl [0, 1, 2, 3] rfl) h
      · have h := iq c_1241 h
        refine lv_iconst (v := 0) hx hb dX5_directions_32 (by decide) ?_
        refine lv_istore (lv' := [(5, .int 0), (0, .ref d0), (1, .int x1), (2, .int x2), (3, .int x3), (4, .int x4)]) hx hb dX5_directions_33 hl (by decide) rfl (fun ls hl => ?_)
        refine lv_iconst (v := 0) hx hb dX5_directions_35 (by decide) ?_
        refine lv_istore (lv' := [(6, .int 0), (5, .int 0), (0, .ref d0), (1, .int x1), (2, .int x2), (3, .int x3), (4, .int x4)]) hx hb dX5_directions_36 hl (by decide) rfl (fun ls hl => ?_)
        refine w_38 _ _ _ _ _ _ () (fun x5_1242 H locs ls hP hD hS hl h => ?_) N _ _  _ _ _ hP hD hS (lv_sub hl [2, 3, 4, 5, 6, 1, 0] rfl) h
        refine lv_iload_n hx hb dX5_directions_137 rfl (lv_at hl 3 rfl) ?_
        refine lv_iload hx hb dX5_directions_138 (lv_at hl 5 rfl) ?_
        refine lv_iand hx hb dX5_directions_140 ?_
        refine lv_istore_n (lv' := [(3, .int (x3 &&& x5_1242)), (0, .ref d0), (1, .int x1), (2, .int x2), (4, .int x4), (5, .int x5_1242)]) hx hb dX5_directions_141 rfl hl (by decide) rfl (fun ls hl => ?_)
        refine lv_iinc (v := (x4 + 1)) (lv' := [(4, .int (x4 + 1)), (3, .int (x3 &&& x5_1242)), (0, .ref d0), (1, .int x1), (2, .int x2), (5, .int x5_1242)]) hx hb dX5_directions_142 hl (k := 4) rfl rfl (by decide) rfl (fun ls hl => ?_)
        refine lv_goto (tgt := 25) hx hb dX5_directions_145 (by decide) ?_
        exact ih _ _ _ _ _ hP hD hS (lv_sub hl [2, 3, 4, 1, 0] rfl) h
  have w_9 : ∀  (d_t : Int32) (_z : Unit), ∀ (n : Nat) (x1 : Int32) (x2 : Int32)  (H : Heap) (locs : List Loc) (ls : Array Slot), va_P G.1 vwCl (w_D G d0 d1 d2 d3 d4 d5 d6 d7 d8 d9 d10 d11 d12 d_n d_a d_b d_c d_k d_x d_y d_d d_r d_w d_e d_1 d_2 d_o d_g d_ra d_rb d_rc d_t) H → va_D A (w_D G d0 d1 d2 d3 d4 d5 d6 d7 d8 d9 d10 d11 d12 d_n d_a d_b d_c d_k d_x d_y d_d d_r d_w d_e d_1 d_2 d_o d_g d_ra d_rb d_rc d_t) → va_S A s.heap H locs → lv_has ls 9 [(0, .ref d0), (1, .int x1), (2, .int x2)] → fX5_directions_b9 N d_e d_1 d_2 d_t n x1 x2 = some v → W p l e ({ frames := 0, cells := 0, slots := 0, locals := 0 } : Room) s m args below meth c H locs 0 0 (wQi G A below args s (w_D G d0 d1 d2 d3 d4 d5 d6 d7 d8 d9 d10 d11 d12 d_n d_a d_b d_c d_k d_x d_y d_d d_r d_w d_e d_1 d_2 d_o d_g d_ra d_rb d_rc v.2) 0 0 v.1) (F0 m 9 ls []) := by
    intro d_t _z n
    induction n with
    | zero =>
      intro x1 x2 H locs ls hP hD hS hl h
      rw [fX5_directions_b9.eq_1] at h
      cases h
    | succ n ih =>
      intro x1 x2 H locs ls hP hD hS hl h
      rw [fX5_directions_b9.eq_2] at h
      refine lv_iload_n hx hb dX5_directions_9 rfl (lv_at hl 2 rfl) ?_
      refine lv_iconst (v := 1) hx hb dX5_directions_10 (by decide) ?_
      refine lv_aload_n hx hb dX5_directions_11 rfl (lv_at hl 0 rfl) ?_
      refine va_get (D := G.1) (ci := 5) (v := .int d_e) (C := RX5) (T := TX5) (N := 19) hx hb hts hinX5 hown hK.1 hP 0 rfl rfl 10 (by decide) lk153 (fun _ h9 => h9) rfl dX5_directions_12 ?_
      refine lv_ishl hx hb dX5_directions_15 ?_
      refine lv_icmp_ge (tgt := 166) hx hb dX5_directions_16 (by decide) (fun c_1243 => ?_) (fun c_1243 => ?_)
      · have h := ip c_1243 h
        refine lv_iload_n hx hb dX5_directions_166 rfl (lv_at hl 1 rfl) ?_
        obtain rfl := Option.some.inj h
        exact wri hx hb hr hlocks hP hD hS (Nat.le_of_ble_eq_true rfl) (Nat.le_of_ble_eq_true rfl) rfl dX5_directions_167
      · have h := iq c_1243 h
        refine lv_bipush (v := 63) hx hb dX5_directions_19 (by decide) ?_
        refine lv_istore_n (lv' := [(3, .int 63), (0, .ref d0), (1, .int x1), (2, .int x2)]) hx hb dX5_directions_21 rfl hl (by decide) rfl (fun ls hl => ?_)
        refine lv_iconst (v := 0) hx hb dX5_directions_22 (by decide) ?_
        refine lv_istore (lv' := [(4, .int 0), (3, .int 63), (0, .ref d0), (1, .int x1), (2, .int x2)]) hx hb dX5_directions_23 hl (by decide) rfl (fun ls hl => ?_)
        refine w_25 _ _ _ _ () (fun x3_1244 H locs ls hP hD hS hl h => ?_) N _ _  _ _ _ hP hD hS (lv_sub hl [2, 3, 4, 1, 0] rfl) h
        refine lv_iload_n hx hb dX5_directions_148 rfl (lv_at hl 1 rfl) ?_
        refine lv_iload_n hx hb dX5_directions_149 rfl (lv_at hl 3 rfl) ?_
        refine lv_if_ne (tgt := 157) hx hb dX5_directions_150 (by decide) (fun c_1245 => ?_) (fun c_1245 => ?_)
        · have h := iq c_1245 h
          refine lv_iconst (v := 0) hx hb dX5_directions_157 (by decide) ?_
          refine lv_iadd hx hb dX5_directions_158 ?_
          refine lv_istore_n (lv' := [(1, .int (x1 + 0)), (0, .ref d0), (2, .int x2), (3, .int x3_1244)]) hx hb dX5_directions_159 rfl hl (by decide) rfl (fun ls hl => ?_)
          refine lv_iinc (v := (x2 + 1)) (lv' := [(2, .int (x2 + 1)), (1, .int (x1 + 0)), (0, .ref d0), (3, .int x3_1244)]) hx hb dX5_directions_160 hl (k := 2) rfl rfl (by decide) rfl (fun ls hl => ?_)
          refine lv_goto (tgt := 9) hx hb dX5_directions_163 (by decide) ?_
          exact ih _ _ _ _ _ hP hD hS (lv_sub hl [2, 1, 0] rfl) h
        · have h := ip c_1245 h
          refine lv_iconst (v := 1) hx hb dX5_directions_153 (by decide) ?_
          refine lv_goto (tgt := 158) hx hb dX5_directions_154 (by decide) ?_
          refine lv_iadd hx hb dX5_directions_158 ?_
          refine lv_istore_n (lv' := [(1, .int (x1 + 1)), (0, .ref d0), (2, .int x2), (3, .int x3_1244)]) hx hb dX5_directions_159 rfl hl (by decide) rfl (fun ls hl => ?_)
          refine lv_iinc (v := (x2 + 1)) (lv' := [(2, .int (x2 + 1)), (1, .int (x1 + 1)), (0, .ref d0), (3, .int x3_1244)]) hx hb dX5_directions_160 hl (k := 2) rfl rfl (by decide) rfl (fun ls hl => ?_)
          refine lv_goto (tgt := 9) hx hb dX5_directions_163 (by decide) ?_
          exact ih _ _ _ _ _ hP hD hS (lv_sub hl [2, 1, 0] rfl) h
  rw [fX5_directions.eq_1] at h
  refine lv_aload_n hx hb dX5_directions_0 rfl (lv_at hl 0 rfl) ?_
  refine lv_iconst (v := 0) hx hb dX5_directions_1 (by decide) ?_
  refine va_put (D := G.1) (ci := 5) (v := .int 0) (ty := .int) (C := RX5) (T := TX5) (N := 19) hx hb hts hinX5 tyX5 tyX5_ok nmX5 hown hK.1 hP hD hS 0 rfl rfl 18 (by decide) lk47 (fun _ h9 => h9) rfl (by decide +kernel) rfl rfl (Nat.le_of_ble_eq_true rfl) dX5_directions_2 (fun H locs hP hD hS => ?_)
  have hP : va_P G.1 vwCl (w_D G d0 d1 d2 d3 d4 d5 d6 d7 d8 d9 d10 d11 d12 d_n d_a d_b d_c d_k d_x d_y d_d d_r d_w d_e d_1 d_2 d_o d_g d_ra d_rb d_rc 0) H := hP
  have hD : va_D A (w_D G d0 d1 d2 d3 d4 d5 d6 d7 d8 d9 d10 d11 d12 d_n d_a d_b d_c d_k d_x d_y d_d d_r d_w d_e d_1 d_2 d_o d_g d_ra d_rb d_rc 0) := hD
  refine lv_iconst (v := 0) hx hb dX5_directions_5 (by decide) ?_
  refine lv_istore_n (lv' := [(1, .int 0), (0, .ref d0)]) hx hb dX5_directions_6 rfl hl (by decide) rfl (fun ls hl => ?_)
  refine lv_iconst (v := 0) hx hb dX5_directions_7 (by decide) ?_
  refine lv_istore_n (lv' := [(2, .int 0), (1, .int 0), (0, .ref d0)]) hx hb dX5_directions_8 rfl hl (by decide) rfl (fun ls hl => ?_)
  exact w_9   _ ()  N _ _  _ _ _ hP hD hS (lv_sub hl [2, 1, 0] rfl) h
def fX5_directionsAnew (N : Nat) (d_e : Int32) (d_1 : Nat → Int32) (d_2 : Nat → Int32) (d_g : Nat → Int32) (d_t : Int32) : Option (Int32 × (Nat → Int32) × Int32) := bd (fX5_sum N d_e d_1 d_2 d_g (-1)) (fun u_1246 => some (u_1246.1, u_1246.2, 0))
set_option maxHeartbeats 4000000 in
set_option maxRecDepth 100000 in
theorem kX5_directionsAnew {l : Launch} {G : wG} (d0 d1 d2 d3 d4 d5 d6 d7 d8 d9 d10 d11 d12 : Nat) (d_n : Int32) (d_a : Nat → Int32) (d_b : Nat → Int32) (d_c : Nat → Int32) (d_k : Int32) (d_x : Nat → Int32) (d_y : Nat → Int32) (d_d : Nat → Int32) (d_r : Nat → Int32) (d_w : Nat → Int32) (d_e : Int32) (d_1 : Nat → Int32) (d_2 : Nat → Int32) (d_o : Nat → Int32) (d_g : Nat → Int32) (d_ra : Int32) (d_rb : Int32) (d_rc : Int32) (d_t : Int32) (N : Nat) (v : Int32 × (Nat → Int32) × Int32) (h : fX5_directionsAnew N d_e d_1 d_2 d_g d_t = some v) : wCi l G yX5_directionsAnew wsX5_directionsAnew ({ frames := 1, cells := 0, slots := 0, locals := 29 } : Room) [.ref d0] (w_D G d0 d1 d2 d3 d4 d5 d6 d7 d8 d9 d10 d11 d12 d_n d_a d_b d_c d_k d_x d_y d_d d_r d_w d_e d_1 d_2 d_o d_g d_ra d_rb d_rc d_t) (w_D G d0 d1 d2 d3 d4 d5 d6 d7 d8 d9 d10 d11 d12 d_n d_a d_b d_c d_k d_x d_y d_d d_r d_w d_e d_1 d_2 d_o v.2.1 d_ra d_rb d_rc v.2.2) 0 0 v.1 := by
  refine wCi.mk (cc := cX5_directionsAnew) (maxL := 1) (ty := .int) (by decide) rfl (Nat.le_of_ble_eq_true rfl) ?_
  intro p e s m below meth c A ls hx hb hml hr hlocks hts hown hK hA hP hD hl
  have hx : p.tables.exec = Jvm.exec := hx
  have hown : s.vm.findClass RX5 = some m.cls := hown
  have hinX5 : ∀ w ∈ wsX50, w ∈ wsX5_directionsAnew := by decide +kernel
  have lk47 := hts (.fieldLink RX5 47 "ChamberwrightModel" "thrown" "I") (by decide +kernel)
  have hS : va_S A s.heap s.heap [] := va_S.rf
  have hP : va_P G.1 vwCl (w_D G d0 d1 d2 d3 d4 d5 d6 d7 d8 d9 d10 d11 d12 d_n d_a d_b d_c d_k d_x d_y d_d d_r d_w d_e d_1 d_2 d_o d_g d_ra d_rb d_rc d_t) s.heap := hP
  have hD : va_D A (w_D G d0 d1 d2 d3 d4 d5 d6 d7 d8 d9 d10 d11 d12 d_n d_a d_b d_c d_k d_x d_y d_d d_r d_w d_e d_1 d_2 d_o d_g d_ra d_rb d_rc d_t) := hD
  have hl : lv_has ls 1 [(0, .ref d0)] := hl
  obtain ⟨args, hargs⟩ : ∃ z : Array Value, z = ([.ref d0] : List Value).toArray := ⟨_, rfl⟩
  rw [← hargs]
  rw [← hargs] at hts
  rw [fX5_directionsAnew.eq_1] at h
  refine lv_aload_n hx hb dX5_directionsAnew_0 rfl (lv_at hl 0 rfl) ?_
  refine lv_iconst (v := 0) hx hb dX5_directionsAnew_1 (by decide) ?_
  refine va_put (D := G.1) (ci := 5) (v := .int 0) (ty := .int) (C := RX5) (T := TX5) (N := 19) hx hb hts hinX5 tyX5 tyX5_ok nmX5 hown hK.1 hP hD hS 0 rfl rfl 18 (by decide) lk47 (fun _ h9 => h9) rfl (by decide +kernel) rfl rfl (Nat.le_of_ble_eq_true rfl) dX5_directionsAnew_2 (fun H locs hP hD hS => ?_)
  have hP : va_P G.1 vwCl (w_D G d0 d1 d2 d3 d4 d5 d6 d7 d8 d9 d10 d11 d12 d_n d_a d_b d_c d_k d_x d_y d_d d_r d_w d_e d_1 d_2 d_o d_g d_ra d_rb d_rc 0) H := hP
  have hD : va_D A (w_D G d0 d1 d2 d3 d4 d5 d6 d7 d8 d9 d10 d11 d12 d_n d_a d_b d_c d_k d_x d_y d_d d_r d_w d_e d_1 d_2 d_o d_g d_ra d_rb d_rc 0) := hD
  refine lv_aload_n hx hb dX5_directionsAnew_5 rfl (lv_at hl 0 rfl) ?_
  refine lv_iconst (v := (-1)) hx hb dX5_directionsAnew_6 (by decide) ?_
  obtain ⟨u_1246, hc_1247, h⟩ := bd_inv h
  refine wafter_i (wr := []) (w2 := (w_D G d0 d1 d2 d3 d4 d5 d6 d7 d8 d9 d10 d11 d12 d_n d_a d_b d_c d_k d_x d_y d_d d_r d_w d_e d_1 d_2 d_o u_1246.2 d_ra d_rb d_rc 0)) (va_runV (As := [.int (-1)]) (rest := []) ⟨hx, hb, hml, hown, hts⟩ (kX5_sum (l := l) (G := G) d0 d1 d2 d3 d4 d5 d6 d7 d8 d9 d10 d11 d12 d_n d_a d_b d_c d_k d_x d_y d_d d_r d_w d_e d_1 d_2 d_o d_g d_ra d_rb d_rc 0 (-1) N u_1246 hc_1247 _) (cwV 1 hts gX5_directionsAnew_X5_sum rfl rfl rfl (by decide +kernel) ⟨Nat.le_of_ble_eq_true rfl, Nat.le_of_ble_eq_true rfl⟩) (wPreV hP hD hK [0, 1, 2, 3, 4, 5, 6, 7, 8, 9, 10, 11, 12] rfl rfl (ci := 5) (qb := 0) rfl rfl rfl) rfl rfl hl.1 rfl (lv_room (Nat.le_of_ble_eq_true rfl)) dX5_directionsAnew_7 ⟨Nat.zero_le _, Nat.zero_le _⟩) hP hD hS hA [0, 1, 2, 3, 4, 5, 6, 7, 8, 9, 10, 11, 12] [] [0, 1, 2, 3, 4, 5, 6, 7, 8, 9, 10, 11, 12] rfl rfl rfl (by decide) rfl rfl (fun H locs hP hD hS => ?_)
  obtain rfl := Option.some.inj h
  exact wri hx hb hr hlocks hP hD hS (Nat.le_of_ble_eq_true rfl) (Nat.le_of_ble_eq_true rfl) rfl dX5_directionsAnew_10
