def fX5_project_b48 (N : Nat) (d_n : Int32) (d_a : Nat → Int32) (d_b : Nat → Int32) (d_c : Nat → Int32) (d_x : Nat → Int32) (d_y : Nat → Int32) (d_d : Nat → Int32) (x2 : Int32) (x3 : Int32) (k_105 : Int32 → Option (Int32 × Int32 × (Nat → Int32) × (Nat → Int32) × (Nat → Int32) × (Nat → Int32) × Int32)) : Nat → Int32 → Int32 → Option (Int32 × Int32 × (Nat → Int32) × (Nat → Int32) × (Nat → Int32) × (Nat → Int32) × Int32)
  | 0, _, _ => none
  | n + 1, x4, x5 => if d_n ≤ x5 then k_105 x4 else bd (fX5_side N d_a d_b d_c d_x d_y d_d x5 x2) (fun u_995 => if 0 < u_995 then nm (x4 ||| (1 <<< (x5 &&& 31))) (fun x4_998 => fX5_project_b48 N d_n d_a d_b d_c d_x d_y d_d x2 x3 k_105 n x4_998 (x5 + 1)) else if u_995 = 0 then if ((x3 >>> (x5 &&& 31)) &&& 1) = 1 then nm (x4 ||| (1 <<< (x5 &&& 31))) (fun x4_1001 => fX5_project_b48 N d_n d_a d_b d_c d_x d_y d_d x2 x3 k_105 n x4_1001 (x5 + 1)) else fX5_project_b48 N d_n d_a d_b d_c d_x d_y d_d x2 x3 k_105 n (x4 ||| 0) (x5 + 1) else fX5_project_b48 N d_n d_a d_b d_c d_x d_y d_d x2 x3 k_105 n (x4 ||| 0) (x5 + 1))
def fX5_project (N : Nat) (d_n : Int32) (d_a : Nat → Int32) (d_b : Nat → Int32) (d_c : Nat → Int32) (d_k : Int32) (d_x : Nat → Int32) (d_y : Nat → Int32) (d_d : Nat → Int32) (d_r : Nat → Int32) (d_t : Int32) (x1 : Int32) (x2 : Int32) : Option (Int32 × Int32 × (Nat → Int32) × (Nat → Int32) × (Nat → Int32) × (Nat → Int32) × Int32) := bd (fX5_roomIs N d_n d_a d_b d_c d_k d_x d_y d_d d_r x1) (fun u_1002 => bd (fX5_fails N d_t u_1002.1 1) (fun u_1004 => if u_1004.1 = 0 then bd (fX5_setOf N u_1002.2.2.2.2.2 x1) (fun u_1007 => bd (fX5_in N x2 0 (u_1002.2.1 - 1)) (fun u_1009 => bd (fX5_fails N u_1004.2 u_1009 1) (fun u_1011 => if u_1011.1 = 0 then fX5_project_b48 N d_n d_a d_b d_c u_1002.2.2.1 u_1002.2.2.2.1 u_1002.2.2.2.2.1 x2 u_1007 (fun (x4_1014 : Int32) => bd (fX5_numberOf N u_1002.2.2.2.2.2 x4_1014) (fun u_1015 => some (u_1015, u_1002.2.1, u_1002.2.2.1, u_1002.2.2.2.1, u_1002.2.2.2.2.1, u_1002.2.2.2.2.2, u_1011.2))) N 0 0 else some (0, u_1002.2.1, u_1002.2.2.1, u_1002.2.2.2.1, u_1002.2.2.2.2.1, u_1002.2.2.2.2.2, u_1011.2)))) else some (0, u_1002.2.1, u_1002.2.2.1, u_1002.2.2.2.1, u_1002.2.2.2.2.1, u_1002.2.2.2.2.2, u_1004.2)))
set_option maxHeartbeats 4000000 in
set_option maxRecDepth 100000 in
theorem kX5_project {l : Launch} {G : wG} (d0 d1 d2 d3 d4 d5 d6 d7 d8 d9 d10 d11 d12 : Nat) (d_n : Int32) (d_a : Nat → Int32) (d_b : Nat → Int32) (d_c : Nat → Int32) (d_k : Int32) (d_x : Nat → Int32) (d_y : Nat → Int32) (d_d : Nat → Int32) (d_r : Nat → Int32) (d_w : Nat → Int32) (d_e : Int32) (d_1 : Nat → Int32) (d_2 : Nat → Int32) (d_o : Nat → Int32) (d_g : Nat → Int32) (d_ra : Int32) (d_rb : Int32) (d_rc : Int32) (d_t : Int32) (x1 : Int32) (x2 : Int32) (N : Nat) (v : Int32 × Int32 × (Nat → Int32) × (Nat → Int32) × (Nat → Int32) × (Nat → Int32) × Int32) (h : fX5_project N d_n d_a d_b d_c d_k d_x d_y d_d d_r d_t x1 x2 = some v) : wCi l G yX5_project wsX5_project ({ frames := 5, cells := 0, slots := 0, locals := 120 } : Room) [.ref d0, .int x1, .int x2] (w_D G d0 d1 d2 d3 d4 d5 d6 d7 d8 d9 d10 d11 d12 d_n d_a d_b d_c d_k d_x d_y d_d d_r d_w d_e d_1 d_2 d_o d_g d_ra d_rb d_rc d_t) (w_D G d0 d1 d2 d3 d4 d5 d6 d7 d8 d9 d10 d11 d12 d_n d_a d_b d_c v.2.1 v.2.2.1 v.2.2.2.1 v.2.2.2.2.1 v.2.2.2.2.2.1 d_w d_e d_1 d_2 d_o d_g d_ra d_rb d_rc v.2.2.2.2.2.2) 0 0 v.1 := by
  refine wCi.mk (cc := cX5_project) (maxL := 7) (ty := .int) (by decide) rfl (Nat.le_of_ble_eq_true rfl) ?_
  intro p e s m below meth c A ls hx hb hml hr hlocks hts hown hK hA hP hD hl
  have hx : p.tables.exec = Jvm.exec := hx
  have hown : s.vm.findClass RX5 = some m.cls := hown
  have hinX5 : ∀ w ∈ wsX50, w ∈ wsX5_project := by decide +kernel
  have lk51 := hts (.fieldLink RX5 51 "ChamberwrightModel" "lines" "I") (by decide +kernel)
  have lk78 := hts (.fieldLink RX5 78 "ChamberwrightModel" "meets" "I") (by decide +kernel)
  have hS : va_S A s.heap s.heap [] := va_S.rf
  have hP : va_P G.1 vwCl (w_D G d0 d1 d2 d3 d4 d5 d6 d7 d8 d9 d10 d11 d12 d_n d_a d_b d_c d_k d_x d_y d_d d_r d_w d_e d_1 d_2 d_o d_g d_ra d_rb d_rc d_t) s.heap := hP
  have hD : va_D A (w_D G d0 d1 d2 d3 d4 d5 d6 d7 d8 d9 d10 d11 d12 d_n d_a d_b d_c d_k d_x d_y d_d d_r d_w d_e d_1 d_2 d_o d_g d_ra d_rb d_rc d_t) := hD
  have hl : lv_has ls 7 [(0, .ref d0), (1, .int x1), (2, .int x2)] := hl
  obtain ⟨args, hargs⟩ : ∃ z : Array Value, z = ([.ref d0, .int x1, .int x2] : List Value).toArray := ⟨_, rfl⟩
  rw [← hargs]
  rw [← hargs] at hts
  have w_48 : ∀ (k_105 : Int32 → Option (Int32 × Int32 × (Nat → Int32) × (Nat → Int32) × (Nat → Int32) × (Nat → Int32) × Int32)) (x2 : Int32) (x3 : Int32) (d_k : Int32) (d_x : Nat → Int32) (d_y : Nat → Int32) (d_d : Nat → Int32) (d_r : Nat → Int32) (d_t : Int32) (_z : Unit), (∀ (y4 : Int32) (H : Heap) (locs : List Loc) (ls : Array Slot), va_P G.1 vwCl (w_D G d0 d1 d2 d3 d4 d5 d6 d7 d8 d9 d10 d11 d12 d_n d_a d_b d_c d_k d_x d_y d_d d_r d_w d_e d_1 d_2 d_o d_g d_ra d_rb d_rc d_t) H → va_D A (w_D G d0 d1 d2 d3 d4 d5 d6 d7 d8 d9 d10 d11 d12 d_n d_a d_b d_c d_k d_x d_y d_d d_r d_w d_e d_1 d_2 d_o d_g d_ra d_rb d_rc d_t) → va_S A s.heap H locs → lv_has ls 7 [(0, .ref d0), (4, .int y4)] → k_105 y4 = some v → W p l e ({ frames := 5, cells := 0, slots := 0, locals := 120 } : Room) s m args below meth c H locs 0 0 (wQi G A below args s (w_D G d0 d1 d2 d3 d4 d5 d6 d7 d8 d9 d10 d11 d12 d_n d_a d_b d_c v.2.1 v.2.2.1 v.2.2.2.1 v.2.2.2.2.1 v.2.2.2.2.2.1 d_w d_e d_1 d_2 d_o d_g d_ra d_rb d_rc v.2.2.2.2.2.2) 0 0 v.1) (F0 m 105 ls [])) → ∀ (n : Nat) (x4 : Int32) (x5 : Int32)  (H : Heap) (locs : List Loc) (ls : Array Slot), va_P G.1 vwCl (w_D G d0 d1 d2 d3 d4 d5 d6 d7 d8 d9 d10 d11 d12 d_n d_a d_b d_c d_k d_x d_y d_d d_r d_w d_e d_1 d_2 d_o d_g d_ra d_rb d_rc d_t) H → va_D A (w_D G d0 d1 d2 d3 d4 d5 d6 d7 d8 d9 d10 d11 d12 d_n d_a d_b d_c d_k d_x d_y d_d d_r d_w d_e d_1 d_2 d_o d_g d_ra d_rb d_rc d_t) → va_S A s.heap H locs → lv_has ls 7 [(0, .ref d0), (2, .int x2), (3, .int x3), (4, .int x4), (5, .int x5)] → fX5_project_b48 N d_n d_a d_b d_c d_x d_y d_d x2 x3 k_105 n x4 x5 = some v → W p l e ({ frames := 5, cells := 0, slots := 0, locals := 120 } : Room) s m args below meth c H locs 0 0 (wQi G A below args s (w_D G d0 d1 d2 d3 d4 d5 d6 d7 d8 d9 d10 d11 d12 d_n d_a d_b d_c v.2.1 v.2.2.1 v.2.2.2.1 v.2.2.2.2.1 v.2.2.2.2.2.1 d_w d_e d_1 d_2 d_o d_g d_ra d_rb d_rc v.2.2.2.2.2.2) 0 0 v.1) (F0 m 48 ls []) := by
    intro k_105 x2 x3 d_k d_x d_y d_d d_r d_t _z hk_105 n
    induction n with
    | zero =>
      intro x4 x5 H locs ls hP hD hS hl h
      rw [fX5_project_b48.eq_1] at h
      cases h
    | succ n ih =>
      intro x4 x5 H locs ls hP hD hS hl h
      rw [fX5_project_b48.eq_2] at h
      refine lv_iload hx hb dX5_project_48 (lv_at hl 4 rfl) ?_
      refine lv_aload_n hx hb dX5_project_50 rfl (lv_at hl 0 rfl) ?_
      refine va_get (D := G.1) (ci := 5) (v := .int d_n) (C := RX5) (T := TX5) (N := 19) hx hb hts hinX5 hown hK.1 hP 0 rfl rfl 0 (by decide) lk51 (fun _ h9 => h9) rfl dX5_project_51 ?_
      refine lv_icmp_ge (tgt := 105) hx hb dX5_project_54 (by decide) (fun c_994 => ?_) (fun c_994 => ?_)
      · have h := ip c_994 h
        exact hk_105 _ _ _ _ hP hD hS (lv_sub hl [0, 3] rfl) h
      · have h := iq c_994 h
        refine lv_aload_n hx hb dX5_project_57 rfl (lv_at hl 0 rfl) ?_
        refine lv_iload hx hb dX5_project_58 (lv_at hl 4 rfl) ?_
        refine lv_iload_n hx hb dX5_project_60 rfl (lv_at hl 1 rfl) ?_
        obtain ⟨u_995, hc_996, h⟩ := bd_inv h
        refine wafter_i (wr := []) (w2 := (w_D G d0 d1 d2 d3 d4 d5 d6 d7 d8 d9 d10 d11 d12 d_n d_a d_b d_c d_k d_x d_y d_d d_r d_w d_e d_1 d_2 d_o d_g d_ra d_rb d_rc d_t)) (va_runV (As := [.int x5, .int x2]) (rest := []) ⟨hx, hb, hml, hown, hts⟩ (kX5_side (l := l) (G := G) d0 d1 d2 d3 d4 d5 d6 d7 d8 d9 d10 d11 d12 d_n d_a d_b d_c d_k d_x d_y d_d d_r d_w d_e d_1 d_2 d_o d_g d_ra d_rb d_rc d_t x5 x2 N u_995 hc_996 _) (cwV 2 hts gX5_project_X5_side rfl rfl rfl (by decide +kernel) ⟨Nat.le_of_ble_eq_true rfl, Nat.le_of_ble_eq_true rfl⟩) (wPreV hP hD hK [0, 1, 2, 3, 4, 5, 6, 7, 8, 9, 10, 11, 12] rfl rfl (ci := 5) (qb := 0) rfl rfl rfl) rfl rfl hl.1 rfl (lv_room (Nat.le_of_ble_eq_true rfl)) dX5_project_61 ⟨Nat.zero_le _, Nat.zero_le _⟩) hP hD hS hA [0, 1, 2, 3, 4, 5, 6, 7, 8, 9, 10, 11, 12] [] [0, 1, 2, 3, 4, 5, 6, 7, 8, 9, 10, 11, 12] rfl rfl rfl (by decide) rfl rfl (fun H locs hP hD hS => ?_)
        refine lv_istore (lv' := [(6, .int u_995), (0, .ref d0), (2, .int x2), (3, .int x3), (4, .int x4), (5, .int x5)]) hx hb dX5_project_64 hl (by decide) rfl (fun ls hl => ?_)
        refine lv_iload hx hb dX5_project_66 (lv_at hl 4 rfl) ?_
        refine lv_iload hx hb dX5_project_68 (lv_at hl 0 rfl) ?_
        refine lv_if_gt (tgt := 88) hx hb dX5_project_70 (by decide) (fun c_997 => ?_) (fun c_997 => ?_)
        · have h := ip c_997 h
          refine lv_iconst (v := 1) hx hb dX5_project_88 (by decide) ?_
          refine lv_iload hx hb dX5_project_89 (lv_at hl 5 rfl) ?_
          refine lv_ishl hx hb dX5_project_91 ?_
          refine lv_goto (tgt := 96) hx hb dX5_project_92 (by decide) ?_
          refine lv_ior hx hb dX5_project_96 ?_
          refine wnmi h (fun x4_998 h => ?_)
          refine lv_istore (lv' := [(4, .int x4_998), (6, .int u_995), (0, .ref d0), (2, .int x2), (3, .int x3), (5, .int x5)]) hx hb dX5_project_97 hl (by decide) rfl (fun ls hl => ?_)
          refine lv_iinc (v := (x5 + 1)) (lv' := [(5, .int (x5 + 1)), (4, .int x4_998), (6, .int u_995), (0, .ref d0), (2, .int x2), (3, .int x3)]) hx hb dX5_project_99 hl (k := 5) rfl rfl (by decide) rfl (fun ls hl => ?_)
          refine lv_goto (tgt := 48) hx hb dX5_project_102 (by decide) ?_
          exact ih _ _ _ _ _ hP hD hS (lv_sub hl [3, 4, 5, 1, 0] rfl) h
        · have h := iq c_997 h
          refine lv_iload hx hb dX5_project_73 (lv_at hl 0 rfl) ?_
          refine lv_if_ne (tgt := 95) hx hb dX5_project_75 (by decide) (fun c_999 => ?_) (fun c_999 => ?_)
          · have h := iq c_999 h
            refine lv_iconst (v := 0) hx hb dX5_project_95 (by decide) ?_
            refine lv_ior hx hb dX5_project_96 ?_
            refine lv_istore (lv' := [(4, .int (x4 ||| 0)), (6, .int u_995), (0, .ref d0), (2, .int x2), (3, .int x3), (5, .int x5)]) hx hb dX5_project_97 hl (by decide) rfl (fun ls hl => ?_)
            refine lv_iinc (v := (x5 + 1)) (lv' := [(5, .int (x5 + 1)), (4, .int (x4 ||| 0)), (6, .int u_995), (0, .ref d0), (2, .int x2), (3, .int x3)]) hx hb dX5_project_99 hl (k := 5) rfl rfl (by decide) rfl (fun ls hl => ?_)
            refine lv_goto (tgt := 48) hx hb dX5_project_102 (by decide) ?_
            exact ih _ _ _ _ _ hP hD hS (lv_sub hl [3, 4, 5, 1, 0] rfl) h
          · have h := ip c_999 h
            refine lv_iload_n hx hb dX5_project_78 rfl (lv_at hl 3 rfl) ?_
            refine lv_iload hx hb dX5_project_79 (lv_at hl 5 rfl) ?_
            refine lv_ishr hx hb dX5_project_81 ?_
            refine lv_iconst (v := 1) hx hb dX5_project_82 (by decide) ?_
            refine lv_iand hx hb dX5_project_83 ?_
            refine lv_iconst (v := 1) hx hb dX5_project_84 (by decide) ?_
            refine lv_icmp_ne (tgt := 95) hx hb dX5_project_85 (by decide) (fun c_1000 => ?_) (fun c_1000 => ?_)
            · have h := iq c_1000 h
              refine lv_iconst (v := 0) hx hb dX5_project_95 (by decide) ?_
              refine lv_ior hx hb dX5_project_96 ?_
              refine lv_istore (lv' := [(4, .int (x4 ||| 0)), (6, .int u_995), (0, .ref d0), (2, .int x2), (3, .int x3), (5, .int x5)]) hx hb dX5_project_97 hl (by decide) rfl (fun ls hl => ?_)
              refine lv_iinc (v := (x5 + 1)) (lv' := [(5, .int (x5 + 1)), (4, .int (x4 ||| 0)), (6, .int u_995), (0, .ref d0), (2, .int x2), (3, .int x3)]) hx hb dX5_project_99 hl (k := 5) rfl rfl (by decide) rfl (fun ls hl => ?_)
              refine lv_goto (tgt := 48) hx hb dX5_project_102 (by decide) ?_
              exact ih _ _ _ _ _ hP hD hS (lv_sub hl [3, 4, 5, 1, 0] rfl) h
            · have h := ip c_1000 h
              refine lv_iconst (v := 1) hx hb dX5_project_88 (by decide) ?_
              refine lv_iload hx hb dX5_project_89 (lv_at hl 5 rfl) ?_
              refine lv_ishl hx hb dX5_project_91 ?_
              refine lv_goto (tgt := 96) hx hb dX5_project_92 (by decide) ?_
              refine lv_ior hx hb dX5_project_96 ?_
              refine wnmi h (fun x4_1001 h => ?_)
              refine lv_istore (lv' := [(4, .int x4_1001), (6, .int u_995), (0, .ref d0), (2, .int x2), (3, .int x3), (5, .int x5)]) hx hb dX5_project_97 hl (by decide) rfl (fun ls hl => ?_)
              refine lv_iinc (v := (x5 + 1)) (lv' := [(5, .int (x5 + 1)), (4, .int x4_1001), (6, .int u_995), (0, .ref d0), (2, .int x2), (3, .int x3)]) hx hb dX5_project_99 hl (k := 5) rfl rfl (by decide) rfl (fun ls hl => ?_)
              refine lv_goto (tgt := 48) hx hb dX5_project_102 (by decide) ?_
              exact ih _ _ _ _ _ hP hD hS (lv_sub hl [3, 4, 5, 1, 0] rfl) h
  rw [fX5_project.eq_1] at h
  refine lv_aload_n hx hb dX5_project_0 rfl (lv_at hl 0 rfl) ?_
  refine lv_aload_n hx hb dX5_project_1 rfl (lv_at hl 0 rfl) ?_
  refine lv_iload_n hx hb dX5_project_2 rfl (lv_at hl 1 rfl) ?_
  obtain ⟨u_1002, hc_1003, h⟩ := bd_inv h
  refine wafter_i (wr := []) (w2 := (w_D G d0 d1 d2 d3 d4 d5 d6 d7 d8 d9 d10 d11 d12 d_n d_a d_b d_c u_1002.2.1 u_1002.2.2.1 u_1002.2.2.2.1 u_1002.2.2.2.2.1 u_1002.2.2.2.2.2 d_w d_e d_1 d_2 d_o d_g d_ra d_rb d_rc d_t)) (va_runV (As := [.int x1]) (rest := [.ref d0]) ⟨hx, hb, hml, hown, hts⟩ (kX5_roomIs (l := l) (G := G) d0 d1 d2 d3 d4 d5 d6 d7 d8 d9 d10 d11 d12 d_n d_a d_b d_c d_k d_x d_y d_d d_r d_w d_e d_1 d_2 d_o d_g d_ra d_rb d_rc d_t x1 N u_1002 hc_1003 _) (cwV 1 hts gX5_project_X5_roomIs rfl rfl rfl (by decide +kernel) ⟨Nat.le_of_ble_eq_true rfl, Nat.le_of_ble_eq_true rfl⟩) (wPreV hP hD hK [0, 1, 2, 3, 4, 5, 6, 7, 8, 9, 10, 11, 12] rfl rfl (ci := 5) (qb := 0) rfl rfl rfl) rfl rfl hl.1 rfl (lv_room (Nat.le_of_ble_eq_true rfl)) dX5_project_3 ⟨Nat.zero_le _, Nat.zero_le _⟩) hP hD hS hA [0, 1, 2, 3, 4, 5, 6, 7, 8, 9, 10, 11, 12] [] [0, 1, 2, 3, 4, 5, 6, 7, 8, 9, 10, 11, 12] rfl rfl rfl (by decide) rfl rfl (fun H locs hP hD hS => ?_)
  refine lv_iconst (v := 1) hx hb dX5_project_6 (by decide) ?_
  obtain ⟨u_1004, hc_1005, h⟩ := bd_inv h
  refine wafter_i (wr := []) (w2 := (w_D G d0 d1 d2 d3 d4 d5 d6 d7 d8 d9 d10 d11 d12 d_n d_a d_b d_c u_1002.2.1 u_1002.2.2.1 u_1002.2.2.2.1 u_1002.2.2.2.2.1 u_1002.2.2.2.2.2 d_w d_e d_1 d_2 d_o d_g d_ra d_rb d_rc u_1004.2)) (va_runV (As := [.int u_1002.1, .int 1]) (rest := []) ⟨hx, hb, hml, hown, hts⟩ (kX5_fails (l := l) (G := G) d0 d1 d2 d3 d4 d5 d6 d7 d8 d9 d10 d11 d12 d_n d_a d_b d_c u_1002.2.1 u_1002.2.2.1 u_1002.2.2.2.1 u_1002.2.2.2.2.1 u_1002.2.2.2.2.2 d_w d_e d_1 d_2 d_o d_g d_ra d_rb d_rc d_t u_1002.1 1 N u_1004 hc_1005 _) (cwV 2 hts gX5_project_X5_fails rfl rfl rfl (by decide +kernel) ⟨Nat.le_of_ble_eq_true rfl, Nat.le_of_ble_eq_true rfl⟩) (wPreV hP hD hK [0, 1, 2, 3, 4, 5, 6, 7, 8, 9, 10, 11, 12] rfl rfl (ci := 5) (qb := 0) rfl rfl rfl) rfl rfl hl.1 rfl (lv_room (Nat.le_of_ble_eq_true rfl)) dX5_project_7 ⟨Nat.zero_le _, Nat.zero_le _⟩) hP hD hS hA [0, 1, 2, 3, 4, 5, 6, 7, 8, 9, 10, 11, 12] [] [0, 1, 2, 3, 4, 5, 6, 7, 8, 9, 10, 11, 12] rfl rfl rfl (by decide) rfl rfl (fun H locs hP hD hS => ?_)
  refine lv_if_eq (tgt := 15) hx hb dX5_project_10 (by decide) (fun c_1006 => ?_) (fun c_1006 => ?_)
  · have h := ip c_1006 h
    refine lv_aload_n hx hb dX5_project_15 rfl (lv_at hl 0 rfl) ?_
    refine lv_iload_n hx hb dX5_project_16 rfl (lv_at hl 1 rfl) ?_
    obtain ⟨u_1007, hc_1008, h⟩ := bd_inv h
    refine wafter_i (wr := []) (w2 := (w_D G d0 d1 d2 d3 d4 d5 d6 d7 d8 d9 d10 d11 d12 d_n d_a d_b d_c u_1002.2.1 u_1002.2.2.1 u_1002.2.2.2.1 u_1002.2.2.2.2.1 u_1002.2.2.2.2.2 d_w d_e d_1 d_2 d_o d_g d_ra d_rb d_rc u_1004.2)) (va_runV (As := [.int x1]) (rest := []) ⟨hx, hb, hml, hown, hts⟩ (kX5_setOf (l := l) (G := G) d0 d1 d2 d3 d4 d5 d6 d7 d8 d9 d10 d11 d12 d_n d_a d_b d_c u_1002.2.1 u_1002.2.2.1 u_1002.2.2.2.1 u_1002.2.2.2.2.1 u_1002.2.2.2.2.2 d_w d_e d_1 d_2 d_o d_g d_ra d_rb d_rc u_1004.2 x1 N u_1007 hc_1008 _) (cwV 1 hts gX5_project_X5_setOf rfl rfl rfl (by decide +kernel) ⟨Nat.le_of_ble_eq_true rfl, Nat.le_of_ble_eq_true rfl⟩) (wPreV hP hD hK [0, 1, 2, 3, 4, 5, 6, 7, 8, 9, 10, 11, 12] rfl rfl (ci := 5) (qb := 0) rfl rfl rfl) rfl rfl hl.1 rfl (lv_room (Nat.le_of_ble_eq_true rfl)) dX5_project_17 ⟨Nat.zero_le _, Nat.zero_le _⟩) hP hD hS hA [0, 1, 2, 3, 4, 5, 6, 7, 8, 9, 10, 11, 12] [] [0, 1, 2, 3, 4, 5, 6, 7, 8, 9, 10, 11, 12] rfl rfl rfl (by decide) rfl rfl (fun H locs hP hD hS => ?_)
    refine lv_istore_n (lv' := [(3, .int u_1007), (0, .ref d0), (1, .int x1), (2, .int x2)]) hx hb dX5_project_20 rfl hl (by decide) rfl (fun ls hl => ?_)
    refine lv_aload_n hx hb dX5_project_21 rfl (lv_at hl 1 rfl) ?_
    refine lv_iload_n hx hb dX5_project_22 rfl (lv_at hl 3 rfl) ?_
    refine lv_iconst (v := 0) hx hb dX5_project_23 (by decide) ?_
    refine lv_aload_n hx hb dX5_project_24 rfl (lv_at hl 1 rfl) ?_
    refine va_get (D := G.1) (ci := 5) (v := .int u_1002.2.1) (C := RX5) (T := TX5) (N := 19) hx hb hts hinX5 hown hK.1 hP 0 rfl rfl 4 (by decide) lk78 (fun _ h9 => h9) rfl dX5_project_25 ?_
    refine lv_iconst (v := 1) hx hb dX5_project_28 (by decide) ?_
    refine lv_isub hx hb dX5_project_29 ?_
    obtain ⟨u_1009, hc_1010, h⟩ := bd_inv h
    refine wafter_i (wr := (w_D G d0 d1 d2 d3 d4 d5 d6 d7 d8 d9 d10 d11 d12 d_n d_a d_b d_c u_1002.2.1 u_1002.2.2.1 u_1002.2.2.2.1 u_1002.2.2.2.2.1 u_1002.2.2.2.2.2 d_w d_e d_1 d_2 d_o d_g d_ra d_rb d_rc u_1004.2)) (w2 := (w_D G d0 d1 d2 d3 d4 d5 d6 d7 d8 d9 d10 d11 d12 d_n d_a d_b d_c u_1002.2.1 u_1002.2.2.1 u_1002.2.2.2.1 u_1002.2.2.2.2.1 u_1002.2.2.2.2.2 d_w d_e d_1 d_2 d_o d_g d_ra d_rb d_rc u_1004.2)) (va_runS (As := [.int x2, .int 0, .int (u_1002.2.1 - 1)]) (rest := [.ref d0]) ⟨hx, hb, hml, hown, hts⟩ (kX5_in (l := l) (G := G)   x2 0 (u_1002.2.1 - 1) N u_1009 hc_1010 _) (va_cwS 3 hts gX5_project_X5_in rfl rfl rfl (by decide +kernel) ⟨Nat.le_of_ble_eq_true rfl, Nat.le_of_ble_eq_true rfl⟩) (wPreS hP hD hK [] rfl rfl) rfl rfl hl.1 rfl (lv_room (Nat.le_of_ble_eq_true rfl)) dX5_project_30 ⟨Nat.zero_le _, Nat.zero_le _⟩) hP hD hS hA [] [0, 1, 2, 3, 4, 5, 6, 7, 8, 9, 10, 11, 12] [0, 1, 2, 3, 4, 5, 6, 7, 8, 9, 10, 11, 12] rfl rfl rfl (by decide) rfl rfl (fun H locs hP hD hS => ?_)
    refine lv_iconst (v := 1) hx hb dX5_project_33 (by decide) ?_
    obtain ⟨u_1011, hc_1012, h⟩ := bd_inv h
    refine wafter_i (wr := []) (w2 := (w_D G d0 d1 d2 d3 d4 d5 d6 d7 d8 d9 d10 d11 d12 d_n d_a d_b d_c u_1002.2.1 u_1002.2.2.1 u_1002.2.2.2.1 u_1002.2.2.2.2.1 u_1002.2.2.2.2.2 d_w d_e d_1 d_2 d_o d_g d_ra d_rb d_rc u_1011.2)) (va_runV (As := [.int u_1009, .int 1]) (rest := []) ⟨hx, hb, hml, hown, hts⟩ (kX5_fails (l := l) (G := G) d0 d1 d2 d3 d4 d5 d6 d7 d8 d9 d10 d11 d12 d_n d_a d_b d_c u_1002.2.1 u_1002.2.2.1 u_1002.2.2.2.1 u_1002.2.2.2.2.1 u_1002.2.2.2.2.2 d_w d_e d_1 d_2 d_o d_g d_ra d_rb d_rc u_1004.2 u_1009 1 N u_1011 hc_1012 _) (cwV 2 hts gX5_project_X5_fails rfl rfl rfl (by decide +kernel) ⟨Nat.le_of_ble_eq_true rfl, Nat.le_of_ble_eq_true rfl⟩) (wPreV hP hD hK [0, 1, 2, 3, 4, 5, 6, 7, 8, 9, 10, 11, 12] rfl rfl (ci := 5) (qb := 0) rfl rfl rfl) rfl rfl hl.1 rfl (lv_room (Nat.le_of_ble_eq_true rfl)) dX5_project_34 ⟨Nat.zero_le _, Nat.zero_le _⟩) hP hD hS hA [0, 1, 2, 3, 4, 5, 6, 7, 8, 9, 10, 11, 12] [] [0, 1, 2, 3, 4, 5, 6, 7, 8, 9, 10, 11, 12] rfl rfl rfl (by decide) rfl rfl (fun H locs hP hD hS => ?_)
    refine lv_if_eq (tgt := 42) hx hb dX5_project_37 (by decide) (fun c_1013 => ?_) (fun c_1013 => ?_)
    · have h := ip c_1013 h
      refine lv_iconst (v := 0) hx hb dX5_project_42 (by decide) ?_
      refine lv_istore (lv' := [(4, .int 0), (3, .int u_1007), (0, .ref d0), (1, .int x1), (2, .int x2)]) hx hb dX5_project_43 hl (by decide) rfl (fun ls hl => ?_)
      refine lv_iconst (v := 0) hx hb dX5_project_45 (by decide) ?_
      refine lv_istore (lv' := [(5, .int 0), (4, .int 0), (3, .int u_1007), (0, .ref d0), (1, .int x1), (2, .int x2)]) hx hb dX5_project_46 hl (by decide) rfl (fun ls hl => ?_)
      refine w_48 _ _ _ _ _ _ _ _ _ () (fun x4_1014 H locs ls hP hD hS hl h => ?_) N _ _  _ _ _ hP hD hS (lv_sub hl [3, 5, 2, 1, 0] rfl) h
      refine lv_aload_n hx hb dX5_project_105 rfl (lv_at hl 0 rfl) ?_
      refine lv_iload hx hb dX5_project_106 (lv_at hl 1 rfl) ?_
      obtain ⟨u_1015, hc_1016, h⟩ := bd_inv h
      refine wafter_i (wr := []) (w2 := (w_D G d0 d1 d2 d3 d4 d5 d6 d7 d8 d9 d10 d11 d12 d_n d_a d_b d_c u_1002.2.1 u_1002.2.2.1 u_1002.2.2.2.1 u_1002.2.2.2.2.1 u_1002.2.2.2.2.2 d_w d_e d_1 d_2 d_o d_g d_ra d_rb d_rc u_1011.2)) (va_runV (As := [.int x4_1014]) (rest := []) ⟨hx, hb, hml, hown, hts⟩ (kX5_numberOf (l := l) (G := G) d0 d1 d2 d3 d4 d5 d6 d7 d8 d9 d10 d11 d12 d_n d_a d_b d_c u_1002.2.1 u_1002.2.2.1 u_1002.2.2.2.1 u_1002.2.2.2.2.1 u_1002.2.2.2.2.2 d_w d_e d_1 d_2 d_o d_g d_ra d_rb d_rc u_1011.2 x4_1014 N u_1015 hc_1016 _) (cwV 1 hts gX5_project_X5_numberOf rfl rfl rfl (by decide +kernel) ⟨Nat.le_of_ble_eq_true rfl, Nat.le_of_ble_eq_true rfl⟩) (wPreV hP hD hK [0, 1, 2, 3, 4, 5, 6, 7, 8, 9, 10, 11, 12] rfl rfl (ci := 5) (qb := 0) rfl rfl rfl) rfl rfl hl.1 rfl (lv_room (Nat.le_of_ble_eq_true rfl)) dX5_project_108 ⟨Nat.zero_le _, Nat.zero_le _⟩) hP hD hS hA [0, 1, 2, 3, 4, 5, 6, 7, 8, 9, 10, 11, 12] [] [0, 1, 2, 3, 4, 5, 6, 7, 8, 9, 10, 11, 12] rfl rfl rfl (by decide) rfl rfl (fun H locs hP hD hS => ?_)
      obtain rfl := Option.some.inj h
      exact wri hx hb hr hlocks hP hD hS (Nat.le_of_ble_eq_true rfl) (Nat.le_of_ble_eq_true rfl) rfl dX5_project_111
    · have h := iq c_1013 h
      refine lv_iconst (v := 0) hx hb dX5_project_40 (by decide) ?_
      obtain rfl := Option.some.inj h
      exact wri hx hb hr hlocks hP hD hS (Nat.le_of_ble_eq_true rfl) (Nat.le_of_ble_eq_true rfl) rfl dX5_project_41
  · have h := iq c_1006 h
    refine lv_iconst (v := 0) hx hb dX5_project_13 (by decide) ?_
    obtain rfl := Option.some.inj h
    exact wri hx hb hr hlocks hP hD hS (Nat.le_of_ble_eq_true rfl) (Nat.le_of_ble_eq_true rfl) rfl dX5_project_14
def fX5_best_b149 (N : Nat) (d_n : Int32) (d_a : Nat → Int32) (d_b : Nat → Int32) (x4 : Int32) (x7 : Int32) (x6 : Int32) (s0 : Int32) (k_88 : Int32 → Int32 → Option (Int32 × Int32 × (Nat → Int32) × (Nat → Int32) × (Nat → Int32) × (Nat → Int32) × Int32)) : Option (Int32 × Int32 × (Nat → Int32) × (Nat → Int32) × (Nat → Int32) × (Nat → Int32) × Int32) := if 0 ≤ x7 then k_88 (s0 &&& 1) (x6 + 1) else rd d_b 9 x6 (fun v_1018 => rd d_a 9 x6 (fun v_1019 => bd (fX5_goesOn N d_n d_a d_b x4 (-v_1018) v_1019) (fun u_1020 => if u_1020 = 0 then k_88 (s0 &&& 1) (x6 + 1) else k_88 (s0 &&& 0) (x6 + 1))))
def fX5_best_b88 (N : Nat) (d_n : Int32) (d_a : Nat → Int32) (d_b : Nat → Int32) (x2 : Int32) (x3 : Int32) (x4 : Int32) (k_192 : Int32 → Option (Int32 × Int32 × (Nat → Int32) × (Nat → Int32) × (Nat → Int32) × (Nat → Int32) × Int32)) : Nat → Int32 → Int32 → Option (Int32 × Int32 × (Nat → Int32) × (Nat → Int32) × (Nat → Int32) × (Nat → Int32) × Int32)
  | 0, _, _ => none
  | n + 1, x5, x6 => if d_n ≤ x6 then k_192 x5 else rd d_b 9 x6 (fun v_1024 => rd d_a 9 x6 (fun v_1025 => nm ((v_1024 * x2) - (v_1025 * x3)) (fun x7_1026 => if x7_1026 ≤ 0 then fX5_best_b149 N d_n d_a d_b x4 x7_1026 x6 x5 (fun (x5_1028 : Int32) (x6_1029 : Int32) => fX5_best_b88 N d_n d_a d_b x2 x3 x4 k_192 n x5_1028 x6_1029) else rd d_b 9 x6 (fun v_1030 => rd d_a 9 x6 (fun v_1031 => bd (fX5_goesOn N d_n d_a d_b x4 v_1030 (-v_1031)) (fun u_1032 => if u_1032 = 0 then fX5_best_b149 N d_n d_a d_b x4 x7_1026 x6 x5 (fun (x5_1035 : Int32) (x6_1036 : Int32) => fX5_best_b88 N d_n d_a d_b x2 x3 x4 k_192 n x5_1035 x6_1036) else fX5_best_b88 N d_n d_a d_b x2 x3 x4 k_192 n (x5 &&& 0) (x6 + 1)))))))
def fX5_best_b296 (N : Nat) (x6 : Int32) (x7 : Int32) (s0 : Int32) (k_198 : Int32 → Int32 → Option (Int32 × Int32 × (Nat → Int32) × (Nat → Int32) × (Nat → Int32) × (Nat → Int32) × Int32)) : Option (Int32 × Int32 × (Nat → Int32) × (Nat → Int32) × (Nat → Int32) × (Nat → Int32) × Int32) := if s0 = 0 then k_198 x6 (x7 + 1) else k_198 x7 (x7 + 1)
def fX5_best_b198 (N : Nat) (d_n : Int32) (d_a : Nat → Int32) (d_b : Nat → Int32) (d_c : Nat → Int32) (d_k : Int32) (d_x : Nat → Int32) (d_y : Nat → Int32) (d_d : Nat → Int32) (d_r : Nat → Int32) (d_t : Int32) (x2 : Int32) (x3 : Int32) (x4 : Int32) (x5 : Int32) : Nat → Int32 → Int32 → Option (Int32 × Int32 × (Nat → Int32) × (Nat → Int32) × (Nat → Int32) × (Nat → Int32) × Int32)
  | 0, _, _ => none
  | n + 1, x6, x7 => if d_k ≤ x7 then some (x6, d_k, d_x, d_y, d_d, d_r, d_t) else if x5 = 0 then some (x6, d_k, d_x, d_y, d_d, d_r, d_t) else bd (fX5_isCorner N d_n d_a d_b d_c d_x d_y d_d x4 x7) (fun u_1040 => if u_1040 = 0 then fX5_best_b198 N d_n d_a d_b d_c d_k d_x d_y d_d d_r d_t x2 x3 x4 x5 n x6 (x7 + 1) else if x6 = (-1) then fX5_best_b296 N x6 x7 1 (fun (x6_1044 : Int32) (x7_1045 : Int32) => fX5_best_b198 N d_n d_a d_b d_c d_k d_x d_y d_d d_r d_t x2 x3 x4 x5 n x6_1044 x7_1045) else rd d_x 36 x7 (fun v_1046 => rd d_y 36 x7 (fun v_1047 => rd d_d 36 x6 (fun v_1048 => rd d_x 36 x6 (fun v_1049 => rd d_y 36 x6 (fun v_1050 => rd d_d 36 x7 (fun v_1051 => if (lg_cmp ((Int32.toInt64 ((x2 * v_1046) + (x3 * v_1047))) * (Int32.toInt64 v_1048)) ((Int32.toInt64 ((x2 * v_1049) + (x3 * v_1050))) * (Int32.toInt64 v_1051))) ≤ 0 then fX5_best_b296 N x6 x7 0 (fun (x6_1053 : Int32) (x7_1054 : Int32) => fX5_best_b198 N d_n d_a d_b d_c d_k d_x d_y d_d d_r d_t x2 x3 x4 x5 n x6_1053 x7_1054) else fX5_best_b296 N x6 x7 1 (fun (x6_1055 : Int32) (x7_1056 : Int32) => fX5_best_b198 N d_n d_a d_b d_c d_k d_x d_y d_d d_r d_t x2 x3 x4 x5 n x6_1055 x7_1056))))))))
def fX5_best_b58 (N : Nat) (d_n : Int32) (d_a : Nat → Int32) (d_b : Nat → Int32) (d_c : Nat → Int32) (d_k : Int32) (d_x : Nat → Int32) (d_y : Nat → Int32) (d_d : Nat → Int32) (d_r : Nat → Int32) (x2 : Int32) (x3 : Int32) (x4 : Int32) (d_t : Int32) (s1 : Int32) : Option (Int32 × Int32 × (Nat → Int32) × (Nat → Int32) × (Nat → Int32) × (Nat → Int32) × Int32) := bd (fX5_fails N d_t s1 2) (fun u_1057 => if u_1057.1 = 0 then bd (fX5_goesOn N d_n d_a d_b x4 x2 x3) (fun u_1060 => if u_1060 = 0 then fX5_best_b88 N d_n d_a d_b x2 x3 x4 (fun (x5_1064 : Int32) => fX5_best_b198 N d_n d_a d_b d_c d_k d_x d_y d_d d_r u_1057.2 x2 x3 x4 x5_1064 N (-1) 0) N 1 0 else fX5_best_b88 N d_n d_a d_b x2 x3 x4 (fun (x5_1063 : Int32) => fX5_best_b198 N d_n d_a d_b d_c d_k d_x d_y d_d d_r u_1057.2 x2 x3 x4 x5_1063 N (-1) 0) N 0 0) else some (0, d_k, d_x, d_y, d_d, d_r, u_1057.2))
def fX5_best (N : Nat) (d_n : Int32) (d_a : Nat → Int32) (d_b : Nat → Int32) (d_c : Nat → Int32) (d_k : Int32) (d_x : Nat → Int32) (d_y : Nat → Int32) (d_d : Nat → Int32) (d_r : Nat → Int32) (d_t : Int32) (x1 : Int32) (x2 : Int32) (x3 : Int32) : Option (Int32 × Int32 × (Nat → Int32) × (Nat → Int32) × (Nat → Int32) × (Nat → Int32) × Int32) := bd (fX5_roomIs N d_n d_a d_b d_c d_k d_x d_y d_d d_r x1) (fun u_1065 => bd (fX5_fails N d_t u_1065.1 1) (fun u_1067 => if u_1067.1 = 0 then bd (fX5_setOf N u_1065.2.2.2.2.2 x1) (fun u_1070 => bd (fX5_in N x2 (-9) 9) (fun u_1072 => if u_1072 = 0 then fX5_best_b58 N d_n d_a d_b d_c u_1065.2.1 u_1065.2.2.1 u_1065.2.2.2.1 u_1065.2.2.2.2.1 u_1065.2.2.2.2.2 x2 x3 u_1070 u_1067.2 0 else bd (fX5_in N x3 (-9) 9) (fun u_1075 => if u_1075 = 0 then fX5_best_b58 N d_n d_a d_b d_c u_1065.2.1 u_1065.2.2.1 u_1065.2.2.2.1 u_1065.2.2.2.2.1 u_1065.2.2.2.2.2 x2 x3 u_1070 u_1067.2 0 else if x2 = 0 then if x3 = 0 then fX5_best_b58 N d_n d_a d_b d_c u_1065.2.1 u_1065.2.2.1 u_1065.2.2.2.1 u_1065.2.2.2.2.1 u_1065.2.2.2.2.2 x2 x3 u_1070 u_1067.2 0 else fX5_best_b58 N d_n d_a d_b d_c u_1065.2.1 u_1065.2.2.1 u_1065.2.2.2.1 u_1065.2.2.2.2.1 u_1065.2.2.2.2.2 x2 x3 u_1070 u_1067.2 1 else fX5_best_b58 N d_n d_a d_b d_c u_1065.2.1 u_1065.2.2.1 u_1065.2.2.2.1 u_1065.2.2.2.2.1 u_1065.2.2.2.2.2 x2 x3 u_1070 u_1067.2 1))) else some (0, u_1065.2.1, u_1065.2.2.1, u_1065.2.2.2.1, u_1065.2.2.2.2.1, u_1065.2.2.2.2.2, u_1067.2)))
set_option maxHeartbeats 4000000 in
set_option maxRecDepth 100000 in
theorem kX5_best {l : Launch} {G : wG} (d0 d1 d2 d3 d4 d5 d6 d7 d8 d9 d10 d11 d12 : Nat) (d_n : Int32) (d_a : Nat → Int32) (d_b : Nat → Int32) (d_c : Nat → Int32) (d_k : Int32) (d_x : Nat → Int32) (d_y : Nat → Int32) (d_d : Nat → Int32) (d_r : Nat → Int32) (d_w : Nat → Int32) (d_e : Int32) (d_1 : Nat → Int32) (d_2 : Nat → Int32) (d_o : Nat → Int32) (d_g : Nat → Int32) (d_ra : Int32) (d_rb : Int32) (d_rc : Int32) (d_t : Int32) (x1 : Int32) (x2 : Int32) (x3 : Int32) (N : Nat) (v : Int32 × Int32 × (Nat → Int32) × (Nat → Int32) × (Nat → Int32) × (Nat → Int32) × Int32) (h : fX5_best N d_n d_a d_b d_c d_k d_x d_y d_d d_r d_t x1 x2 x3 = some v) : wCi l G yX5_best wsX5_best ({ frames := 5, cells := 0, slots := 0, locals := 120 } : Room) [.ref d0, .int x1, .int x2, .int x3] (w_D G d0 d1 d2 d3 d4 d5 d6 d7 d8 d9 d10 d11 d12 d_n d_a d_b d_c d_k d_x d_y d_d d_r d_w d_e d_1 d_2 d_o d_g d_ra d_rb d_rc d_t) (w_D G d0 d1 d2 d3 d4 d5 d6 d7 d8 d9 d10 d11 d12 d_n d_a d_b d_c v.2.1 v.2.2.1 v.2.2.2.1 v.2.2.2.2.1 v.2.2.2.2.2.1 d_w d_e d_1 d_2 d_o d_g d_ra d_rb d_rc v.2.2.2.2.2.2) 0 0 v.1 := by
  refine wCi.mk (cc := cX5_best) (maxL := 9) (ty := .int) (by decide) rfl (Nat.le_of_ble_eq_true rfl) ?_
  intro p e s m below meth c A ls hx hb hml hr hlocks hts hown hK hA hP hD hl
  have hx : p.tables.exec = Jvm.exec := hx
  have hown : s.vm.findClass RX5 = some m.cls := hown
  have hinX5 : ∀ w ∈ wsX50, w ∈ wsX5_best := by decide +kernel
  have lk13 := hts (.fieldLink RX5 13 "ChamberwrightModel" "lb" "[I") (by decide +kernel)
  have lk19 := hts (.fieldLink RX5 19 "ChamberwrightModel" "mx" "[I") (by decide +kernel)
  have lk22 := hts (.fieldLink RX5 22 "ChamberwrightModel" "my" "[I") (by decide +kernel)
  have lk25 := hts (.fieldLink RX5 25 "ChamberwrightModel" "md" "[I") (by decide +kernel)
  have lk51 := hts (.fieldLink RX5 51 "ChamberwrightModel" "lines" "I") (by decide +kernel)
  have lk7 := hts (.fieldLink RX5 7 "ChamberwrightModel" "la" "[I") (by decide +kernel)
  have lk78 := hts (.fieldLink RX5 78 "ChamberwrightModel" "meets" "I") (by decide +kernel)
  have hS : va_S A s.heap s.heap [] := va_S.rf
  have hP : va_P G.1 vwCl (w_D G d0 d1 d2 d3 d4 d5 d6 d7 d8 d9 d10 d11 d12 d_n d_a d_b d_c d_k d_x d_y d_d d_r d_w d_e d_1 d_2 d_o d_g d_ra d_rb d_rc d_t) s.heap := hP
  have hD : va_D A (w_D G d0 d1 d2 d3 d4 d5 d6 d7 d8 d9 d10 d11 d12 d_n d_a d_b d_c d_k d_x d_y d_d d_r d_w d_e d_1 d_2 d_o d_g d_ra d_rb d_rc d_t) := hD
  have hl : lv_has ls 9 [(0, .ref d0), (1, .int x1), (2, .int x2), (3, .int x3)] := hl
  obtain ⟨args, hargs⟩ : ∃ z : Array Value, z = ([.ref d0, .int x1, .int x2, .int x3] : List Value).toArray := ⟨_, rfl⟩
  rw [← hargs]
  rw [← hargs] at hts
  have w_149 : ∀ (k_88 : Int32 → Int32 → Option (Int32 × Int32 × (Nat → Int32) × (Nat → Int32) × (Nat → Int32) × (Nat → Int32) × Int32)) (x2 : Int32) (x3 : Int32) (x4 : Int32) (x6 : Int32) (x7 : Int32) (d_k : Int32) (d_x : Nat → Int32) (d_y : Nat → Int32) (d_d : Nat → Int32) (d_r : Nat → Int32) (d_t : Int32) (s0 : Int32) (H : Heap) (locs : List Loc) (ls : Array Slot), (∀ (y5 : Int32) (y6 : Int32) (H : Heap) (locs : List Loc) (ls : Array Slot), va_P G.1 vwCl (w_D G d0 d1 d2 d3 d4 d5 d6 d7 d8 d9 d10 d11 d12 d_n d_a d_b d_c d_k d_x d_y d_d d_r d_w d_e d_1 d_2 d_o d_g d_ra d_rb d_rc d_t) H → va_D A (w_D G d0 d1 d2 d3 d4 d5 d6 d7 d8 d9 d10 d11 d12 d_n d_a d_b d_c d_k d_x d_y d_d d_r d_w d_e d_1 d_2 d_o d_g d_ra d_rb d_rc d_t) → va_S A s.heap H locs → lv_has ls 9 [(0, .ref d0), (2, .int x2), (3, .int x3), (4, .int x4), (5, .int y5), (6, .int y6)] → k_88 y5 y6 = some v → W p l e ({ frames := 5, cells := 0, slots := 0, locals := 120 } : Room) s m args below meth c H locs 0 0 (wQi G A below args s (w_D G d0 d1 d2 d3 d4 d5 d6 d7 d8 d9 d10 d11 d12 d_n d_a d_b d_c v.2.1 v.2.2.1 v.2.2.2.1 v.2.2.2.2.1 v.2.2.2.2.2.1 d_w d_e d_1 d_2 d_o d_g d_ra d_rb d_rc v.2.2.2.2.2.2) 0 0 v.1) (F0 m 88 ls [])) → va_P G.1 vwCl (w_D G d0 d1 d2 d3 d4 d5 d6 d7 d8 d9 d10 d11 d12 d_n d_a d_b d_c d_k d_x d_y d_d d_r d_w d_e d_1 d_2 d_o d_g d_ra d_rb d_rc d_t) H → va_D A (w_D G d0 d1 d2 d3 d4 d5 d6 d7 d8 d9 d10 d11 d12 d_n d_a d_b d_c d_k d_x d_y d_d d_r d_w d_e d_1 d_2 d_o d_g d_ra d_rb d_rc d_t) → va_S A s.heap H locs → lv_has ls 9 [(0, .ref d0), (2, .int x2), (3, .int x3), (4, .int x4), (6, .int x6), (7, .int x7)] → fX5_best_b149 N d_n d_a d_b x4 x7 x6 s0 k_88 = some v → W p l e ({ frames := 5, cells := 0, slots := 0, locals := 120 } : Room) s m args below meth c H locs 0 0 (wQi G A below args s (w_D G d0 d1 d2 d3 d4 d5 d6 d7 d8 d9 d10 d11 d12 d_n d_a d_b d_c v.2.1 v.2.2.1 v.2.2.2.1 v.2.2.2.2.1 v.2.2.2.2.2.1 d_w d_e d_1 d_2 d_o d_g d_ra d_rb d_rc v.2.2.2.2.2.2) 0 0 v.1) (F0 m 149 ls [.int s0]) := by
    intro k_88 x2 x3 x4 x6 x7 d_k d_x d_y d_d d_r d_t s0 H locs ls hk_88 hP hD hS hl h
    rw [fX5_best_b149.eq_1] at h
    refine lv_iload hx hb dX5_best_149 (lv_at hl 5 rfl) ?_
    refine lv_if_ge (tgt := 178) hx hb dX5_best_151 (by decide) (fun c_1017 => ?_) (fun c_1017 => ?_)
    · have h := ip c_1017 h
      refine lv_iconst (v := 1) hx hb dX5_best_178 (by decide) ?_
      refine lv_goto (tgt := 183) hx hb dX5_best_179 (by decide) ?_
      refine lv_iand hx hb dX5_best_183 ?_
      refine lv_istore (lv' := [(5, .int (s0 &&& 1)), (0, .ref d0), (2, .int x2), (3, .int x3), (4, .int x4), (6, .int x6), (7, .int x7)]) hx hb dX5_best_184 hl (by decide) rfl (fun ls hl => ?_)
      refine lv_iinc (v := (x6 + 1)) (lv' := [(6, .int (x6 + 1)), (5, .int (s0 &&& 1)), (0, .ref d0), (2, .int x2), (3, .int x3), (4, .int x4), (7, .int x7)]) hx hb dX5_best_186 hl (k := 5) rfl rfl (by decide) rfl (fun ls hl => ?_)
      refine lv_goto (tgt := 88) hx hb dX5_best_189 (by decide) ?_
      exact hk_88 _ _ _ _ _ hP hD hS (lv_sub hl [2, 3, 4, 5, 1, 0] rfl) h
    · have h := iq c_1017 h
      refine lv_aload_n hx hb dX5_best_154 rfl (lv_at hl 0 rfl) ?_
      refine lv_iload hx hb dX5_best_155 (lv_at hl 3 rfl) ?_
      refine lv_aload_n hx hb dX5_best_157 rfl (lv_at hl 0 rfl) ?_
      refine va_get (D := G.1) (ci := 5) (v := .ref d2) (C := RX5) (T := TX5) (N := 19) hx hb hts hinX5 hown hK.1 hP 0 rfl rfl 2 (by decide) lk13 (fun _ h9 => h9) rfl dX5_best_158 ?_
      refine lv_iload hx hb dX5_best_161 (lv_at hl 4 rfl) ?_
      refine wiald h hx hb hK hP 2 rfl dX5_best_163 (fun v_1018 h => ?_)
      refine lv_ineg hx hb dX5_best_164 ?_
      refine lv_aload_n hx hb dX5_best_165 rfl (lv_at hl 0 rfl) ?_
      refine va_get (D := G.1) (ci := 5) (v := .ref d1) (C := RX5) (T := TX5) (N := 19) hx hb hts hinX5 hown hK.1 hP 0 rfl rfl 1 (by decide) lk7 (fun _ h9 => h9) rfl dX5_best_166 ?_
      refine lv_iload hx hb dX5_best_169 (lv_at hl 4 rfl) ?_
      refine wiald h hx hb hK hP 1 rfl dX5_best_171 (fun v_1019 h => ?_)
      obtain ⟨u_1020, hc_1021, h⟩ := bd_inv h
      refine wafter_i (wr := []) (w2 := (w_D G d0 d1 d2 d3 d4 d5 d6 d7 d8 d9 d10 d11 d12 d_n d_a d_b d_c d_k d_x d_y d_d d_r d_w d_e d_1 d_2 d_o d_g d_ra d_rb d_rc d_t)) (va_runV (As := [.int x4, .int (-v_1018), .int v_1019]) (rest := [.int s0]) ⟨hx, hb, hml, hown, hts⟩ (kX5_goesOn (l := l) (G := G) d0 d1 d2 d3 d4 d5 d6 d7 d8 d9 d10 d11 d12 d_n d_a d_b d_c d_k d_x d_y d_d d_r d_w d_e d_1 d_2 d_o d_g d_ra d_rb d_rc d_t x4 (-v_1018) v_1019 N u_1020 hc_1021 _) (cwV 3 hts gX5_best_X5_goesOn rfl rfl rfl (by decide +kernel) ⟨Nat.le_of_ble_eq_true rfl, Nat.le_of_ble_eq_true rfl⟩) (wPreV hP hD hK [0, 1, 2, 3, 4, 5, 6, 7, 8, 9, 10, 11, 12] rfl rfl (ci := 5) (qb := 0) rfl rfl rfl) rfl rfl hl.1 rfl (lv_room (Nat.le_of_ble_eq_true rfl)) dX5_best_172 ⟨Nat.zero_le _, Nat.zero_le _⟩) hP hD hS hA [0, 1, 2, 3, 4, 5, 6, 7, 8, 9, 10, 11, 12] [] [0, 1, 2, 3, 4, 5, 6, 7, 8, 9, 10, 11, 12] rfl rfl rfl (by decide) rfl rfl (fun H locs hP hD hS => ?_)
      refine lv_if_ne (tgt := 182) hx hb dX5_best_175 (by decide) (fun c_1022 => ?_) (fun c_1022 => ?_)
      · have h := iq c_1022 h
        refine lv_iconst (v := 0) hx hb dX5_best_182 (by decide) ?_
        refine lv_iand hx hb dX5_best_183 ?_
        refine lv_istore (lv' := [(5, .int (s0 &&& 0)), (0, .ref d0), (2, .int x2), (3, .int x3), (4, .int x4), (6, .int x6), (7, .int x7)]) hx hb dX5_best_184 hl (by decide) rfl (fun ls hl => ?_)
        refine lv_iinc (v := (x6 + 1)) (lv' := [(6, .int (x6 + 1)), (5, .int (s0 &&& 0)), (0, .ref d0), (2, .int x2), (3, .int x3), (4, .int x4), (7, .int x7)]) hx hb dX5_best_186 hl (k := 5) rfl rfl (by decide) rfl (fun ls hl => ?_)
        refine lv_goto (tgt := 88) hx hb dX5_best_189 (by decide) ?_
        exact hk_88 _ _ _ _ _ hP hD hS (lv_sub hl [2, 3, 4, 5, 1, 0] rfl) h
      · have h := ip c_1022 h
        refine lv_iconst (v := 1) hx hb dX5_best_178 (by decide) ?_
        refine lv_goto (tgt := 183) hx hb dX5_best_179 (by decide) ?_
        refine lv_iand hx hb dX5_best_183 ?_
        refine lv_istore (lv' := [(5, .int (s0 &&& 1)), (0, .ref d0), (2, .int x2), (3, .int x3), (4, .int x4), (6, .int x6), (7, .int x7)]) hx hb dX5_best_184 hl (by decide) rfl (fun ls hl => ?_)
        refine lv_iinc (v := (x6 + 1)) (lv' := [(6, .int (x6 + 1)), (5, .int (s0 &&& 1)), (0, .ref d0), (2, .int x2), (3, .int x3), (4, .int x4), (7, .int x7)]) hx hb dX5_best_186 hl (k := 5) rfl rfl (by decide) rfl (fun ls hl => ?_)
        refine lv_goto (tgt := 88) hx hb dX5_best_189 (by decide) ?_
        exact hk_88 _ _ _ _ _ hP hD hS (lv_sub hl [2, 3, 4, 5, 1, 0] rfl) h
  have w_88 : ∀ (k_192 : Int32 → Option (Int32 × Int32 × (Nat → Int32) × (Nat → Int32) × (Nat → Int32) × (Nat → Int32) × Int32)) (x2 : Int32) (x3 : Int32) (x4 : Int32) (d_k : Int32) (d_x : Nat → Int32) (d_y : Nat → Int32) (d_d : Nat → Int32) (d_r : Nat → Int32) (d_t : Int32) (_z : Unit), (∀ (y5 : Int32) (H : Heap) (locs : List Loc) (ls : Array Slot), va_P G.1 vwCl (w_D G d0 d1 d2 d3 d4 d5 d6 d7 d8 d9 d10 d11 d12 d_n d_a d_b d_c d_k d_x d_y d_d d_r d_w d_e d_1 d_2 d_o d_g d_ra d_rb d_rc d_t) H → va_D A (w_D G d0 d1 d2 d3 d4 d5 d6 d7 d8 d9 d10 d11 d12 d_n d_a d_b d_c d_k d_x d_y d_d d_r d_w d_e d_1 d_2 d_o d_g d_ra d_rb d_rc d_t) → va_S A s.heap H locs → lv_has ls 9 [(0, .ref d0), (2, .int x2), (3, .int x3), (4, .int x4), (5, .int y5)] → k_192 y5 = some v → W p l e ({ frames := 5, cells := 0, slots := 0, locals := 120 } : Room) s m args below meth c H locs 0 0 (wQi G A below args s (w_D G d0 d1 d2 d3 d4 d5 d6 d7 d8 d9 d10 d11 d12 d_n d_a d_b d_c v.2.1 v.2.2.1 v.2.2.2.1 v.2.2.2.2.1 v.2.2.2.2.2.1 d_w d_e d_1 d_2 d_o d_g d_ra d_rb d_rc v.2.2.2.2.2.2) 0 0 v.1) (F0 m 192 ls [])) → ∀ (n : Nat) (x5 : Int32) (x6 : Int32)  (H : Heap) (locs : List Loc) (ls : Array Slot), va_P G.1 vwCl (w_D G d0 d1 d2 d3 d4 d5 d6 d7 d8 d9 d10 d11 d12 d_n d_a d_b d_c d_k d_x d_y d_d d_r d_w d_e d_1 d_2 d_o d_g d_ra d_rb d_rc d_t) H → va_D A (w_D G d0 d1 d2 d3 d4 d5 d6 d7 d8 d9 d10 d11 d12 d_n d_a d_b d_c d_k d_x d_y d_d d_r d_w d_e d_1 d_2 d_o d_g d_ra d_rb d_rc d_t) → va_S A s.heap H locs → lv_has ls 9 [(0, .ref d0), (2, .int x2), (3, .int x3), (4, .int x4), (5, .int x5), (6, .int x6)] → fX5_best_b88 N d_n d_a d_b x2 x3 x4 k_192 n x5 x6 = some v → W p l e ({ frames := 5, cells := 0, slots := 0, locals := 120 } : Room) s m args below meth c H locs 0 0 (wQi G A below args s (w_D G d0 d1 d2 d3 d4 d5 d6 d7 d8 d9 d10 d11 d12 d_n d_a d_b d_c v.2.1 v.2.2.1 v.2.2.2.1 v.2.2.2.2.1 v.2.2.2.2.2.1 d_w d_e d_1 d_2 d_o d_g d_ra d_rb d_rc v.2.2.2.2.2.2) 0 0 v.1) (F0 m 88 ls []) := by
    intro k_192 x2 x3 x4 d_k d_x d_y d_d d_r d_t _z hk_192 n
    induction n with
    | zero =>
      intro x5 x6 H locs ls hP hD hS hl h
      rw [fX5_best_b88.eq_1] at h
      cases h
    | succ n ih =>
      intro x5 x6 H locs ls hP hD hS hl h
      rw [fX5_best_b88.eq_2] at h
      refine lv_iload hx hb dX5_best_88 (lv_at hl 5 rfl) ?_
      refine lv_aload_n hx hb dX5_best_90 rfl (lv_at hl 0 rfl) ?_
      refine va_get (D := G.1) (ci := 5) (v := .int d_n) (C := RX5) (T := TX5) (N := 19) hx hb hts hinX5 hown hK.1 hP 0 rfl rfl 0 (by decide) lk51 (fun _ h9 => h9) rfl dX5_best_91 ?_
      refine lv_icmp_ge (tgt := 192) hx hb dX5_best_94 (by decide) (fun c_1023 => ?_) (fun c_1023 => ?_)
      · have h := ip c_1023 h
        exact hk_192 _ _ _ _ hP hD hS (lv_sub hl [0, 1, 2, 3, 4] rfl) h
      · have h := iq c_1023 h
        refine lv_aload_n hx hb dX5_best_97 rfl (lv_at hl 0 rfl) ?_
        refine va_get (D := G.1) (ci := 5) (v := .ref d2) (C := RX5) (T := TX5) (N := 19) hx hb hts hinX5 hown hK.1 hP 0 rfl rfl 2 (by decide) lk13 (fun _ h9 => h9) rfl dX5_best_98 ?_
        refine lv_iload hx hb dX5_best_101 (lv_at hl 5 rfl) ?_
        refine wiald h hx hb hK hP 2 rfl dX5_best_103 (fun v_1024 h => ?_)
        refine lv_iload_n hx hb dX5_best_104 rfl (lv_at hl 1 rfl) ?_
        refine lv_imul hx hb dX5_best_105 ?_
        refine lv_aload_n hx hb dX5_best_106 rfl (lv_at hl 0 rfl) ?_
        refine va_get (D := G.1) (ci := 5) (v := .ref d1) (C := RX5) (T := TX5) (N := 19) hx hb hts hinX5 hown hK.1 hP 0 rfl rfl 1 (by decide) lk7 (fun _ h9 => h9) rfl dX5_best_107 ?_
        refine lv_iload hx hb dX5_best_110 (lv_at hl 5 rfl) ?_
        refine wiald h hx hb hK hP 1 rfl dX5_best_112 (fun v_1025 h => ?_)
        refine lv_iload_n hx hb dX5_best_113 rfl (lv_at hl 2 rfl) ?_
        refine lv_imul hx hb dX5_best_114 ?_
        refine lv_isub hx hb dX5_best_115 ?_
        refine wnmi h (fun x7_1026 h => ?_)
        refine lv_istore (lv' := [(7, .int x7_1026), (0, .ref d0), (2, .int x2), (3, .int x3), (4, .int x4), (5, .int x5), (6, .int x6)]) hx hb dX5_best_116 hl (by decide) rfl (fun ls hl => ?_)
        refine lv_iload hx hb dX5_best_118 (lv_at hl 5 rfl) ?_
        refine lv_iload hx hb dX5_best_120 (lv_at hl 0 rfl) ?_
        refine lv_if_le (tgt := 149) hx hb dX5_best_122 (by decide) (fun c_1027 => ?_) (fun c_1027 => ?_)
        · have h := ip c_1027 h
          refine w_149 _ _ _ _ _ _ _ _ _ _ _ _ _ _ _ _ (fun x5_1028 x6_1029 H locs ls hP hD hS hl h => ?_) hP hD hS (lv_sub hl [1, 2, 3, 4, 6, 0] rfl) h
          exact ih _ _ _ _ _ hP hD hS (lv_sub hl [0, 1, 2, 3, 4, 5] rfl) h
        · have h := iq c_1027 h
          refine lv_aload_n hx hb dX5_best_125 rfl (lv_at hl 1 rfl) ?_
          refine lv_iload hx hb dX5_best_126 (lv_at hl 4 rfl) ?_
          refine lv_aload_n hx hb dX5_best_128 rfl (lv_at hl 1 rfl) ?_
          refine va_get (D := G.1) (ci := 5) (v := .ref d2) (C := RX5) (T := TX5) (N := 19) hx hb hts hinX5 hown hK.1 hP 0 rfl rfl 2 (by decide) lk13 (fun _ h9 => h9) rfl dX5_best_129 ?_
          refine lv_iload hx hb dX5_best_132 (lv_at hl 6 rfl) ?_
          refine wiald h hx hb hK hP 2 rfl dX5_best_134 (fun v_1030 h => ?_)
          refine lv_aload_n hx hb dX5_best_135 rfl (lv_at hl 1 rfl) ?_
          refine va_get (D := G.1) (ci := 5) (v := .ref d1) (C := RX5) (T := TX5) (N := 19) hx hb hts hinX5 hown hK.1 hP 0 rfl rfl 1 (by decide) lk7 (fun _ h9 => h9) rfl dX5_best_136 ?_
          refine lv_iload hx hb dX5_best_139 (lv_at hl 6 rfl) ?_
          refine wiald h hx hb hK hP 1 rfl dX5_best_141 (fun v_1031 h => ?_)
          refine lv_ineg hx hb dX5_best_142 ?_
          obtain ⟨u_1032, hc_1033, h⟩ := bd_inv h
          refine wafter_i (wr := []) (w2 := (w_D G d0 d1 d2 d3 d4 d5 d6 d7 d8 d9 d10 d11 d12 d_n d_a d_b d_c d_k d_x d_y d_d d_r d_w d_e d_1 d_2 d_o d_g d_ra d_rb d_rc d_t)) (va_runV (As := [.int x4, .int v_1030, .int (-v_1031)]) (rest := [.int x5]) ⟨hx, hb, hml, hown, hts⟩ (kX5_goesOn (l := l) (G := G) d0 d1 d2 d3 d4 d5 d6 d7 d8 d9 d10 d11 d12 d_n d_a d_b d_c d_k d_x d_y d_d d_r d_w d_e d_1 d_2 d_o d_g d_ra d_rb d_rc d_t x4 v_1030 (-v_1031) N u_1032 hc_1033 _) (cwV 3 hts gX5_best_X5_goesOn rfl rfl rfl (by decide +kernel) ⟨Nat.le_of_ble_eq_true rfl, Nat.le_of_ble_eq_true rfl⟩) (wPreV hP hD hK [0, 1, 2, 3, 4, 5, 6, 7, 8, 9, 10, 11, 12] rfl rfl (ci := 5) (qb := 0) rfl rfl rfl) rfl rfl hl.1 rfl (lv_room (Nat.le_of_ble_eq_true rfl)) dX5_best_143 ⟨Nat.zero_le _, Nat.zero_le _⟩) hP hD hS hA [0, 1, 2, 3, 4, 5, 6, 7, 8, 9, 10, 11, 12] [] [0, 1, 2, 3, 4, 5, 6, 7, 8, 9, 10, 11, 12] rfl rfl rfl (by decide) rfl rfl (fun H locs hP hD hS => ?_)
          refine lv_if_ne (tgt := 182) hx hb dX5_best_146 (by decide) (fun c_1034 => ?_) (fun c_1034 => ?_)
          · have h := iq c_1034 h
            refine lv_iconst (v := 0) hx hb dX5_best_182 (by decide) ?_
            refine lv_iand hx hb dX5_best_183 ?_
            refine lv_istore (lv' := [(5, .int (x5 &&& 0)), (7, .int x7_1026), (0, .ref d0), (2, .int x2), (3, .int x3), (4, .int x4), (6, .int x6)]) hx hb dX5_best_184 hl (by decide) rfl (fun ls hl => ?_)
            refine lv_iinc (v := (x6 + 1)) (lv' := [(6, .int (x6 + 1)), (5, .int (x5 &&& 0)), (7, .int x7_1026), (0, .ref d0), (2, .int x2), (3, .int x3), (4, .int x4)]) hx hb dX5_best_186 hl (k := 6) rfl rfl (by decide) rfl (fun ls hl => ?_)
            refine lv_goto (tgt := 88) hx hb dX5_best_189 (by decide) ?_
            exact ih _ _ _ _ _ hP hD hS (lv_sub hl [3, 4, 5, 6, 1, 0] rfl) h
          · have h := ip c_1034 h
            refine w_149 _ _ _ _ _ _ _ _ _ _ _ _ _ _ _ _ (fun x5_1035 x6_1036 H locs ls hP hD hS hl h => ?_) hP hD hS (lv_sub hl [1, 2, 3, 4, 6, 0] rfl) h
            exact ih _ _ _ _ _ hP hD hS (lv_sub hl [0, 1, 2, 3, 4, 5] rfl) h
  have w_296 : ∀ (k_198 : Int32 → Int32 → Option (Int32 × Int32 × (Nat → Int32) × (Nat → Int32) × (Nat → Int32) × (Nat → Int32) × Int32)) (x2 : Int32) (x3 : Int32) (x4 : Int32) (x5 : Int32) (x6 : Int32) (x7 : Int32) (d_k : Int32) (d_x : Nat → Int32) (d_y : Nat → Int32) (d_d : Nat → Int32) (d_r : Nat → Int32) (d_t : Int32) (s0 : Int32) (H : Heap) (locs : List Loc) (ls : Array Slot), (∀ (y6 : Int32) (y7 : Int32) (H : Heap) (locs : List Loc) (ls : Array Slot), va_P G.1 vwCl (w_D G d0 d1 d2 d3 d4 d5 d6 d7 d8 d9 d10 d11 d12 d_n d_a d_b d_c d_k d_x d_y d_d d_r d_w d_e d_1 d_2 d_o d_g d_ra d_rb d_rc d_t) H → va_D A (w_D G d0 d1 d2 d3 d4 d5 d6 d7 d8 d9 d10 d11 d12 d_n d_a d_b d_c d_k d_x d_y d_d d_r d_w d_e d_1 d_2 d_o d_g d_ra d_rb d_rc d_t) → va_S A s.heap H locs → lv_has ls 9 [(0, .ref d0), (2, .int x2), (3, .int x3), (4, .int x4), (5, .int x5), (6, .int y6), (7, .int y7)] → k_198 y6 y7 = some v → W p l e ({ frames := 5, cells := 0, slots := 0, locals := 120 } : Room) s m args below meth c H locs 0 0 (wQi G A below args s (w_D G d0 d1 d2 d3 d4 d5 d6 d7 d8 d9 d10 d11 d12 d_n d_a d_b d_c v.2.1 v.2.2.1 v.2.2.2.1 v.2.2.2.2.1 v.2.2.2.2.2.1 d_w d_e d_1 d_2 d_o d_g d_ra d_rb d_rc v.2.2.2.2.2.2) 0 0 v.1) (F0 m 198 ls [])) → va_P G.1 vwCl (w_D G d0 d1 d2 d3 d4 d5 d6 d7 d8 d9 d10 d11 d12 d_n d_a d_b d_c d_k d_x d_y d_d d_r d_w d_e d_1 d_2 d_o d_g d_ra d_rb d_rc d_t) H → va_D A (w_D G d0 d1 d2 d3 d4 d5 d6 d7 d8 d9 d10 d11 d12 d_n d_a d_b d_c d_k d_x d_y d_d d_r d_w d_e d_1 d_2 d_o d_g d_ra d_rb d_rc d_t) → va_S A s.heap H locs → lv_has ls 9 [(0, .ref d0), (2, .int x2), (3, .int x3), (4, .int x4), (5, .int x5), (6, .int x6), (7, .int x7)] → fX5_best_b296 N x6 x7 s0 k_198 = some v → W p l e ({ frames := 5, cells := 0, slots := 0, locals := 120 } : Room) s m args below meth c H locs 0 0 (wQi G A below args s (w_D G d0 d1 d2 d3 d4 d5 d6 d7 d8 d9 d10 d11 d12 d_n d_a d_b d_c v.2.1 v.2.2.1 v.2.2.2.1 v.2.2.2.2.1 v.2.2.2.2.2.1 d_w d_e d_1 d_2 d_o d_g d_ra d_rb d_rc v.2.2.2.2.2.2) 0 0 v.1) (F0 m 296 ls [.int s0]) := by
    intro k_198 x2 x3 x4 x5 x6 x7 d_k d_x d_y d_d d_r d_t s0 H locs ls hk_198 hP hD hS hl h
    rw [fX5_best_b296.eq_1] at h
    refine lv_istore (lv' := [(8, .int s0), (0, .ref d0), (2, .int x2), (3, .int x3), (4, .int x4), (5, .int x5), (6, .int x6), (7, .int x7)]) hx hb dX5_best_296 hl (by decide) rfl (fun ls hl => ?_)
    refine lv_iload hx hb dX5_best_298 (lv_at hl 0 rfl) ?_
    refine lv_if_eq (tgt := 308) hx hb dX5_best_300 (by decide) (fun c_1037 => ?_) (fun c_1037 => ?_)
    · have h := ip c_1037 h
      refine lv_iload hx hb dX5_best_308 (lv_at hl 6 rfl) ?_
      refine lv_istore (lv' := [(6, .int x6), (8, .int s0), (0, .ref d0), (2, .int x2), (3, .int x3), (4, .int x4), (5, .int x5), (7, .int x7)]) hx hb dX5_best_310 hl (by decide) rfl (fun ls hl => ?_)
      refine lv_iinc (v := (x7 + 1)) (lv' := [(7, .int (x7 + 1)), (6, .int x6), (8, .int s0), (0, .ref d0), (2, .int x2), (3, .int x3), (4, .int x4), (5, .int x5)]) hx hb dX5_best_312 hl (k := 7) rfl rfl (by decide) rfl (fun ls hl => ?_)
      refine lv_goto (tgt := 198) hx hb dX5_best_315 (by decide) ?_
      exact hk_198 _ _ _ _ _ hP hD hS (lv_sub hl [3, 4, 5, 6, 7, 1, 0] rfl) h
    · have h := iq c_1037 h
      refine lv_iload hx hb dX5_best_303 (lv_at hl 7 rfl) ?_
      refine lv_goto (tgt := 310) hx hb dX5_best_305 (by decide) ?_
      refine lv_istore (lv' := [(6, .int x7), (8, .int s0), (0, .ref d0), (2, .int x2), (3, .int x3), (4, .int x4), (5, .int x5), (7, .int x7)]) hx hb dX5_best_310 hl (by decide) rfl (fun ls hl => ?_)
      refine lv_iinc (v := (x7 + 1)) (lv' := [(7, .int (x7 + 1)), (6, .int x7), (8, .int s0), (0, .ref d0), (2, .int x2), (3, .int x3), (4, .int x4), (5, .int x5)]) hx hb dX5_best_312 hl (k := 7) rfl rfl (by decide) rfl (fun ls hl => ?_)
      refine lv_goto (tgt := 198) hx hb dX5_best_315 (by decide) ?_
      exact hk_198 _ _ _ _ _ hP hD hS (lv_sub hl [3, 4, 5, 6, 7, 1, 0] rfl) h
  have w_198 : ∀ (x2 : Int32) (x3 : Int32) (x4 : Int32) (x5 : Int32) (d_k : Int32) (d_x : Nat → Int32) (d_y : Nat → Int32) (d_d : Nat → Int32) (d_r : Nat → Int32) (d_t : Int32) (_z : Unit), ∀ (n : Nat) (x6 : Int32) (x7 : Int32)  (H : Heap) (locs : List Loc) (ls : Array Slot), va_P G.1 vwCl (w_D G d0 d1 d2 d3 d4 d5 d6 d7 d8 d9 d10 d11 d12 d_n d_a d_b d_c d_k d_x d_y d_d d_r d_w d_e d_1 d_2 d_o d_g d_ra d_rb d_rc d_t) H → va_D A (w_D G d0 d1 d2 d3 d4 d5 d6 d7 d8 d9 d10 d11 d12 d_n d_a d_b d_c d_k d_x d_y d_d d_r d_w d_e d_1 d_2 d_o d_g d_ra d_rb d_rc d_t) → va_S A s.heap H locs → lv_has ls 9 [(0, .ref d0), (2, .int x2), (3, .int x3), (4, .int x4), (5, .int x5), (6, .int x6), (7, .int x7)] → fX5_best_b198 N d_n d_a d_b d_c d_k d_x d_y d_d d_r d_t x2 x3 x4 x5 n x6 x7 = some v → W p l e ({ frames := 5, cells := 0, slots := 0, locals := 120 } : Room) s m args below meth c H locs 0 0 (wQi G A below args s (w_D G d0 d1 d2 d3 d4 d5 d6 d7 d8 d9 d10 d11 d12 d_n d_a d_b d_c v.2.1 v.2.2.1 v.2.2.2.1 v.2.2.2.2.1 v.2.2.2.2.2.1 d_w d_e d_1 d_2 d_o d_g d_ra d_rb d_rc v.2.2.2.2.2.2) 0 0 v.1) (F0 m 198 ls []) := by
    intro x2 x3 x4 x5 d_k d_x d_y d_d d_r d_t _z n
    induction n with
    | zero =>
      intro x6 x7 H locs ls hP hD hS hl h
      rw [fX5_best_b198.eq_1] at h
      cases h
    | succ n ih =>
      intro x6 x7 H locs ls hP hD hS hl h
      rw [fX5_best_b198.eq_2] at h
      refine lv_iload hx hb dX5_best_198 (lv_at hl 6 rfl) ?_
      refine lv_aload_n hx hb dX5_best_200 rfl (lv_at hl 0 rfl) ?_
      refine va_get (D := G.1) (ci := 5) (v := .int d_k) (C := RX5) (T := TX5) (N := 19) hx hb hts hinX5 hown hK.1 hP 0 rfl rfl 4 (by decide) lk78 (fun _ h9 => h9) rfl dX5_best_201 ?_
      refine lv_icmp_ge (tgt := 318) hx hb dX5_best_204 (by decide) (fun c_1038 => ?_) (fun c_1038 => ?_)
      · have h := ip c_1038 h
        refine lv_iload hx hb dX5_best_318 (lv_at hl 5 rfl) ?_
        obtain rfl := Option.some.inj h
        exact wri hx hb hr hlocks hP hD hS (Nat.le_of_ble_eq_true rfl) (Nat.le_of_ble_eq_true rfl) rfl dX5_best_320
      · have h := iq c_1038 h
        refine lv_iload hx hb dX5_best_207 (lv_at hl 4 rfl) ?_
        refine lv_if_eq (tgt := 318) hx hb dX5_best_209 (by decide) (fun c_1039 => ?_) (fun c_1039 => ?_)
        · have h := ip c_1039 h
          refine lv_iload hx hb dX5_best_318 (lv_at hl 5 rfl) ?_
          obtain rfl := Option.some.inj h
          exact wri hx hb hr hlocks hP hD hS (Nat.le_of_ble_eq_true rfl) (Nat.le_of_ble_eq_true rfl) rfl dX5_best_320
        · have h := iq c_1039 h
          refine lv_aload_n hx hb dX5_best_212 rfl (lv_at hl 0 rfl) ?_
          refine lv_iload hx hb dX5_best_213 (lv_at hl 3 rfl) ?_
          refine lv_iload hx hb dX5_best_215 (lv_at hl 6 rfl) ?_
          obtain ⟨u_1040, hc_1041, h⟩ := bd_inv h
          refine wafter_i (wr := []) (w2 := (w_D G d0 d1 d2 d3 d4 d5 d6 d7 d8 d9 d10 d11 d12 d_n d_a d_b d_c d_k d_x d_y d_d d_r d_w d_e d_1 d_2 d_o d_g d_ra d_rb d_rc d_t)) (va_runV (As := [.int x4, .int x7]) (rest := []) ⟨hx, hb, hml, hown, hts⟩ (kX5_isCorner (l := l) (G := G) d0 d1 d2 d3 d4 d5 d6 d7 d8 d9 d10 d11 d12 d_n d_a d_b d_c d_k d_x d_y d_d d_r d_w d_e d_1 d_2 d_o d_g d_ra d_rb d_rc d_t x4 x7 N u_1040 hc_1041 _) (cwV 2 hts gX5_best_X5_isCorner rfl rfl rfl (by decide +kernel) ⟨Nat.le_of_ble_eq_true rfl, Nat.le_of_ble_eq_true rfl⟩) (wPreV hP hD hK [0, 1, 2, 3, 4, 5, 6, 7, 8, 9, 10, 11, 12] rfl rfl (ci := 5) (qb := 0) rfl rfl rfl) rfl rfl hl.1 rfl (lv_room (Nat.le_of_ble_eq_true rfl)) dX5_best_217 ⟨Nat.zero_le _, Nat.zero_le _⟩) hP hD hS hA [0, 1, 2, 3, 4, 5, 6, 7, 8, 9, 10, 11, 12] [] [0, 1, 2, 3, 4, 5, 6, 7, 8, 9, 10, 11, 12] rfl rfl rfl (by decide) rfl rfl (fun H locs hP hD hS => ?_)
          refine lv_if_eq (tgt := 312) hx hb dX5_best_220 (by decide) (fun c_1042 => ?_) (fun c_1042 => ?_)
          · have h := ip c_1042 h
            refine lv_iinc (v := (x7 + 1)) (lv' := [(7, .int (x7 + 1)), (0, .ref d0), (2, .int x2), (3, .int x3), (4, .int x4), (5, .int x5), (6, .int x6)]) hx hb dX5_best_312 hl (k := 6) rfl rfl (by decide) rfl (fun ls hl => ?_)
            refine lv_goto (tgt := 198) hx hb dX5_best_315 (by decide) ?_
            exact ih _ _ _ _ _ hP hD hS (lv_sub hl [1, 2, 3, 4, 5, 6, 0] rfl) h
          · have h := iq c_1042 h
            refine lv_iload hx hb dX5_best_223 (lv_at hl 5 rfl) ?_
            refine lv_iconst (v := (-1)) hx hb dX5_best_225 (by decide) ?_
            refine lv_icmp_eq (tgt := 291) hx hb dX5_best_226 (by decide) (fun c_1043 => ?_) (fun c_1043 => ?_)
            · have h := ip c_1043 h
              refine lv_iconst (v := 1) hx hb dX5_best_291 (by decide) ?_
              refine lv_goto (tgt := 296) hx hb dX5_best_292 (by decide) ?_
              refine w_296 _ _ _ _ _ _ _ _ _ _ _ _ _ _ _ _ _ (fun x6_1044 x7_1045 H locs ls hP hD hS hl h => ?_) hP hD hS (lv_sub hl [0, 1, 2, 3, 4, 5, 6] rfl) h
              exact ih _ _ _ _ _ hP hD hS (lv_sub hl [0, 1, 2, 3, 4, 5, 6] rfl) h
            · have h := iq c_1043 h
              refine lv_iload_n hx hb dX5_best_229 rfl (lv_at hl 1 rfl) ?_
              refine lv_aload_n hx hb dX5_best_230 rfl (lv_at hl 0 rfl) ?_
              refine va_get (D := G.1) (ci := 5) (v := .ref d4) (C := RX5) (T := TX5) (N := 19) hx hb hts hinX5 hown hK.1 hP 0 rfl rfl 5 (by decide) lk19 (fun _ h9 => h9) rfl dX5_best_231 ?_
              refine lv_iload hx hb dX5_best_234 (lv_at hl 6 rfl) ?_
              refine wiald h hx hb hK hP 4 rfl dX5_best_236 (fun v_1046 h => ?_)
              refine lv_imul hx hb dX5_best_237 ?_
              refine lv_iload_n hx hb dX5_best_238 rfl (lv_at hl 2 rfl) ?_
              refine lv_aload_n hx hb dX5_best_239 rfl (lv_at hl 0 rfl) ?_
              refine va_get (D := G.1) (ci := 5) (v := .ref d5) (C := RX5) (T := TX5) (N := 19) hx hb hts hinX5 hown hK.1 hP 0 rfl rfl 6 (by decide) lk22 (fun _ h9 => h9) rfl dX5_best_240 ?_
              refine lv_iload hx hb dX5_best_243 (lv_at hl 6 rfl) ?_
              refine wiald h hx hb hK hP 5 rfl dX5_best_245 (fun v_1047 h => ?_)
              refine lv_imul hx hb dX5_best_246 ?_
              refine lv_iadd hx hb dX5_best_247 ?_
              refine lv_i2l hx hb dX5_best_248 rfl ?_
              refine lv_aload_n hx hb dX5_best_249 rfl (lv_at hl 0 rfl) ?_
              refine va_get (D := G.1) (ci := 5) (v := .ref d6) (C := RX5) (T := TX5) (N := 19) hx hb hts hinX5 hown hK.1 hP 0 rfl rfl 7 (by decide) lk25 (fun _ h9 => h9) rfl dX5_best_250 ?_
              refine lv_iload hx hb dX5_best_253 (lv_at hl 5 rfl) ?_
              refine wiald h hx hb hK hP 6 rfl dX5_best_255 (fun v_1048 h => ?_)
              refine lv_i2l hx hb dX5_best_256 rfl ?_
              refine lv_lmul hx hb dX5_best_257 ?_
              refine lv_iload_n hx hb dX5_best_258 rfl (lv_at hl 1 rfl) ?_
              refine lv_aload_n hx hb dX5_best_259 rfl (lv_at hl 0 rfl) ?_
              refine va_get (D := G.1) (ci := 5) (v := .ref d4) (C := RX5) (T := TX5) (N := 19) hx hb hts hinX5 hown hK.1 hP 0 rfl rfl 5 (by decide) lk19 (fun _ h9 => h9) rfl dX5_best_260 ?_
              refine lv_iload hx hb dX5_best_263 (lv_at hl 5 rfl) ?_
              refine wiald h hx hb hK hP 4 rfl dX5_best_265 (fun v_1049 h => ?_)
              refine lv_imul hx hb dX5_best_266 ?_
              refine lv_iload_n hx hb dX5_best_267 rfl (lv_at hl 2 rfl) ?_
              refine lv_aload_n hx hb dX5_best_268 rfl (lv_at hl 0 rfl) ?_
              refine va_get (D := G.1) (ci := 5) (v := .ref d5) (C := RX5) (T := TX5) (N := 19) hx hb hts hinX5 hown hK.1 hP 0 rfl rfl 6 (by decide) lk22 (fun _ h9 => h9) rfl dX5_best_269 ?_
              refine lv_iload hx hb dX5_best_272 (lv_at hl 5 rfl) ?_
              refine wiald h hx hb hK hP 5 rfl dX5_best_274 (fun v_1050 h => ?_)
              refine lv_imul hx hb dX5_best_275 ?_
              refine lv_iadd hx hb dX5_best_276 ?_
              refine lv_i2l hx hb dX5_best_277 rfl ?_
              refine lv_aload_n hx hb dX5_best_278 rfl (lv_at hl 0 rfl) ?_
              refine va_get (D := G.1) (ci := 5) (v := .ref d6) (C := RX5) (T := TX5) (N := 19) hx hb hts hinX5 hown hK.1 hP 0 rfl rfl 7 (by decide) lk25 (fun _ h9 => h9) rfl dX5_best_279 ?_
              refine lv_iload hx hb dX5_best_282 (lv_at hl 6 rfl) ?_
              refine wiald h hx hb hK hP 6 rfl dX5_best_284 (fun v_1051 h => ?_)
              refine lv_i2l hx hb dX5_best_285 rfl ?_
              refine lv_lmul hx hb dX5_best_286 ?_
              refine W.lcmp hx hb dX5_best_287 ?_
              refine lv_if_le (tgt := 295) hx hb dX5_best_288 (by decide) (fun c_1052 => ?_) (fun c_1052 => ?_)
              · have h := ip c_1052 h
                refine lv_iconst (v := 0) hx hb dX5_best_295 (by decide) ?_
                refine w_296 _ _ _ _ _ _ _ _ _ _ _ _ _ _ _ _ _ (fun x6_1053 x7_1054 H locs ls hP hD hS hl h => ?_) hP hD hS (lv_sub hl [0, 1, 2, 3, 4, 5, 6] rfl) h
                exact ih _ _ _ _ _ hP hD hS (lv_sub hl [0, 1, 2, 3, 4, 5, 6] rfl) h
              · have h := iq c_1052 h
                refine lv_iconst (v := 1) hx hb dX5_best_291 (by decide) ?_
                refine lv_goto (tgt := 296) hx hb dX5_best_292 (by decide) ?_
                refine w_296 _ _ _ _ _ _ _ _ _ _ _ _ _ _ _ _ _ (fun x6_1055 x7_1056 H locs ls hP hD hS hl h => ?_) hP hD hS (lv_sub hl [0, 1, 2, 3, 4, 5, 6] rfl) h
                exact ih _ _ _ _ _ hP hD hS (lv_sub hl [0, 1, 2, 3, 4, 5, 6] rfl) h
  have w_58 : ∀ (x2 : Int32) (x3 : Int32) (x4 : Int32) (d_k : Int32) (d_x : Nat → Int32) (d_y : Nat → Int32) (d_d : Nat → Int32) (d_r : Nat → Int32) (d_t : Int32) (s1 : Int32) (H : Heap) (locs : List Loc) (ls : Array Slot), va_P G.1 vwCl (w_D G d0 d1 d2 d3 d4 d5 d6 d7 d8 d9 d10 d11 d12 d_n d_a d_b d_c d_k d_x d_y d_d d_r d_w d_e d_1 d_2 d_o d_g d_ra d_rb d_rc d_t) H → va_D A (w_D G d0 d1 d2 d3 d4 d5 d6 d7 d8 d9 d10 d11 d12 d_n d_a d_b d_c d_k d_x d_y d_d d_r d_w d_e d_1 d_2 d_o d_g d_ra d_rb d_rc d_t) → va_S A s.heap H locs → lv_has ls 9 [(0, .ref d0), (2, .int x2), (3, .int x3), (4, .int x4)] → fX5_best_b58 N d_n d_a d_b d_c d_k d_x d_y d_d d_r x2 x3 x4 d_t s1 = some v → W p l e ({ frames := 5, cells := 0, slots := 0, locals := 120 } : Room) s m args below meth c H locs 0 0 (wQi G A below args s (w_D G d0 d1 d2 d3 d4 d5 d6 d7 d8 d9 d10 d11 d12 d_n d_a d_b d_c v.2.1 v.2.2.1 v.2.2.2.1 v.2.2.2.2.1 v.2.2.2.2.2.1 d_w d_e d_1 d_2 d_o d_g d_ra d_rb d_rc v.2.2.2.2.2.2) 0 0 v.1) (F0 m 58 ls [.int s1, .ref d0]) := by
    intro x2 x3 x4 d_k d_x d_y d_d d_r d_t s1 H locs ls hP hD hS hl h
    rw [fX5_best_b58.eq_1] at h
    refine lv_iconst (v := 2) hx hb dX5_best_58 (by decide) ?_
    obtain ⟨u_1057, hc_1058, h⟩ := bd_inv h
    refine wafter_i (wr := []) (w2 := (w_D G d0 d1 d2 d3 d4 d5 d6 d7 d8 d9 d10 d11 d12 d_n d_a d_b d_c d_k d_x d_y d_d d_r d_w d_e d_1 d_2 d_o d_g d_ra d_rb d_rc u_1057.2)) (va_runV (As := [.int s1, .int 2]) (rest := []) ⟨hx, hb, hml, hown, hts⟩ (kX5_fails (l := l) (G := G) d0 d1 d2 d3 d4 d5 d6 d7 d8 d9 d10 d11 d12 d_n d_a d_b d_c d_k d_x d_y d_d d_r d_w d_e d_1 d_2 d_o d_g d_ra d_rb d_rc d_t s1 2 N u_1057 hc_1058 _) (cwV 2 hts gX5_best_X5_fails rfl rfl rfl (by decide +kernel) ⟨Nat.le_of_ble_eq_true rfl, Nat.le_of_ble_eq_true rfl⟩) (wPreV hP hD hK [0, 1, 2, 3, 4, 5, 6, 7, 8, 9, 10, 11, 12] rfl rfl (ci := 5) (qb := 0) rfl rfl rfl) rfl rfl hl.1 rfl (lv_room (Nat.le_of_ble_eq_true rfl)) dX5_best_59 ⟨Nat.zero_le _, Nat.zero_le _⟩) hP hD hS hA [0, 1, 2, 3, 4, 5, 6, 7, 8, 9, 10, 11, 12] [] [0, 1, 2, 3, 4, 5, 6, 7, 8, 9, 10, 11, 12] rfl rfl rfl (by decide) rfl rfl (fun H locs hP hD hS => ?_)
    refine lv_if_eq (tgt := 67) hx hb dX5_best_62 (by decide) (fun c_1059 => ?_) (fun c_1059 => ?_)
    · have h := ip c_1059 h
      refine lv_aload_n hx hb dX5_best_67 rfl (lv_at hl 0 rfl) ?_
      refine lv_iload hx hb dX5_best_68 (lv_at hl 3 rfl) ?_
      refine lv_iload_n hx hb dX5_best_70 rfl (lv_at hl 1 rfl) ?_
      refine lv_iload_n hx hb dX5_best_71 rfl (lv_at hl 2 rfl) ?_
      obtain ⟨u_1060, hc_1061, h⟩ := bd_inv h
      refine wafter_i (wr := []) (w2 := (w_D G d0 d1 d2 d3 d4 d5 d6 d7 d8 d9 d10 d11 d12 d_n d_a d_b d_c d_k d_x d_y d_d d_r d_w d_e d_1 d_2 d_o d_g d_ra d_rb d_rc u_1057.2)) (va_runV (As := [.int x4, .int x2, .int x3]) (rest := []) ⟨hx, hb, hml, hown, hts⟩ (kX5_goesOn (l := l) (G := G) d0 d1 d2 d3 d4 d5 d6 d7 d8 d9 d10 d11 d12 d_n d_a d_b d_c d_k d_x d_y d_d d_r d_w d_e d_1 d_2 d_o d_g d_ra d_rb d_rc u_1057.2 x4 x2 x3 N u_1060 hc_1061 _) (cwV 3 hts gX5_best_X5_goesOn rfl rfl rfl (by decide +kernel) ⟨Nat.le_of_ble_eq_true rfl, Nat.le_of_ble_eq_true rfl⟩) (wPreV hP hD hK [0, 1, 2, 3, 4, 5, 6, 7, 8, 9, 10, 11, 12] rfl rfl (ci := 5) (qb := 0) rfl rfl rfl) rfl rfl hl.1 rfl (lv_room (Nat.le_of_ble_eq_true rfl)) dX5_best_72 ⟨Nat.zero_le _, Nat.zero_le _⟩) hP hD hS hA [0, 1, 2, 3, 4, 5, 6, 7, 8, 9, 10, 11, 12] [] [0, 1, 2, 3, 4, 5, 6, 7, 8, 9, 10, 11, 12] rfl rfl rfl (by decide) rfl rfl (fun H locs hP hD hS => ?_)
      refine lv_if_ne (tgt := 82) hx hb dX5_best_75 (by decide) (fun c_1062 => ?_) (fun c_1062 => ?_)
      · have h := iq c_1062 h
        refine lv_iconst (v := 0) hx hb dX5_best_82 (by decide) ?_
        refine lv_istore (lv' := [(5, .int 0), (0, .ref d0), (2, .int x2), (3, .int x3), (4, .int x4)]) hx hb dX5_best_83 hl (by decide) rfl (fun ls hl => ?_)
        refine lv_iconst (v := 0) hx hb dX5_best_85 (by decide) ?_
        refine lv_istore (lv' := [(6, .int 0), (5, .int 0), (0, .ref d0), (2, .int x2), (3, .int x3), (4, .int x4)]) hx hb dX5_best_86 hl (by decide) rfl (fun ls hl => ?_)
        refine w_88 _ _ _ _ _ _ _ _ _ _ () (fun x5_1063 H locs ls hP hD hS hl h => ?_) N _ _  _ _ _ hP hD hS (lv_sub hl [2, 3, 4, 5, 1, 0] rfl) h
        refine lv_iconst (v := (-1)) hx hb dX5_best_192 (by decide) ?_
        refine lv_istore (lv' := [(6, .int (-1)), (0, .ref d0), (2, .int x2), (3, .int x3), (4, .int x4), (5, .int x5_1063)]) hx hb dX5_best_193 hl (by decide) rfl (fun ls hl => ?_)
        refine lv_iconst (v := 0) hx hb dX5_best_195 (by decide) ?_
        refine lv_istore (lv' := [(7, .int 0), (6, .int (-1)), (0, .ref d0), (2, .int x2), (3, .int x3), (4, .int x4), (5, .int x5_1063)]) hx hb dX5_best_196 hl (by decide) rfl (fun ls hl => ?_)
        exact w_198  _ _ _ _ _ _ _ _ _ _ ()  N _ _  _ _ _ hP hD hS (lv_sub hl [2, 3, 4, 5, 6, 1, 0] rfl) h
      · have h := ip c_1062 h
        refine lv_iconst (v := 1) hx hb dX5_best_78 (by decide) ?_
        refine lv_goto (tgt := 83) hx hb dX5_best_79 (by decide) ?_
        refine lv_istore (lv' := [(5, .int 1), (0, .ref d0), (2, .int x2), (3, .int x3), (4, .int x4)]) hx hb dX5_best_83 hl (by decide) rfl (fun ls hl => ?_)
        refine lv_iconst (v := 0) hx hb dX5_best_85 (by decide) ?_
        refine lv_istore (lv' := [(6, .int 0), (5, .int 1), (0, .ref d0), (2, .int x2), (3, .int x3), (4, .int x4)]) hx hb dX5_best_86 hl (by decide) rfl (fun ls hl => ?_)
        refine w_88 _ _ _ _ _ _ _ _ _ _ () (fun x5_1064 H locs ls hP hD hS hl h => ?_) N _ _  _ _ _ hP hD hS (lv_sub hl [2, 3, 4, 5, 1, 0] rfl) h
        refine lv_iconst (v := (-1)) hx hb dX5_best_192 (by decide) ?_
        refine lv_istore (lv' := [(6, .int (-1)), (0, .ref d0), (2, .int x2), (3, .int x3), (4, .int x4), (5, .int x5_1064)]) hx hb dX5_best_193 hl (by decide) rfl (fun ls hl => ?_)
        refine lv_iconst (v := 0) hx hb dX5_best_195 (by decide) ?_
        refine lv_istore (lv' := [(7, .int 0), (6, .int (-1)), (0, .ref d0), (2, .int x2), (3, .int x3), (4, .int x4), (5, .int x5_1064)]) hx hb dX5_best_196 hl (by decide) rfl (fun ls hl => ?_)
        exact w_198  _ _ _ _ _ _ _ _ _ _ ()  N _ _  _ _ _ hP hD hS (lv_sub hl [2, 3, 4, 5, 6, 1, 0] rfl) h
    · have h := iq c_1059 h
      refine lv_iconst (v := 0) hx hb dX5_best_65 (by decide) ?_
      obtain rfl := Option.some.inj h
      exact wri hx hb hr hlocks hP hD hS (Nat.le_of_ble_eq_true rfl) (Nat.le_of_ble_eq_true rfl) rfl dX5_best_66
  rw [fX5_best.eq_1] at h
  refine lv_aload_n hx hb dX5_best_0 rfl (lv_at hl 0 rfl) ?_
  refine lv_aload_n hx hb dX5_best_1 rfl (lv_at hl 0 rfl) ?_
  refine lv_iload_n hx hb dX5_best_2 rfl (lv_at hl 1 rfl) ?_
  obtain ⟨u_1065, hc_1066, h⟩ := bd_inv h
  refine wafter_i (wr := []) (w2 := (w_D G d0 d1 d2 d3 d4 d5 d6 d7 d8 d9 d10 d11 d12 d_n d_a d_b d_c u_1065.2.1 u_1065.2.2.1 u_1065.2.2.2.1 u_1065.2.2.2.2.1 u_1065.2.2.2.2.2 d_w d_e d_1 d_2 d_o d_g d_ra d_rb d_rc d_t)) (va_runV (As := [.int x1]) (rest := [.ref d0]) ⟨hx, hb, hml, hown, hts⟩ (kX5_roomIs (l := l) (G := G) d0 d1 d2 d3 d4 d5 d6 d7 d8 d9 d10 d11 d12 d_n d_a d_b d_c d_k d_x d_y d_d d_r d_w d_e d_1 d_2 d_o d_g d_ra d_rb d_rc d_t x1 N u_1065 hc_1066 _) (cwV 1 hts gX5_best_X5_roomIs rfl rfl rfl (by decide +kernel) ⟨Nat.le_of_ble_eq_true rfl, Nat.le_of_ble_eq_true rfl⟩) (wPreV hP hD hK [0, 1, 2, 3, 4, 5, 6, 7, 8, 9, 10, 11, 12] rfl rfl (ci := 5) (qb := 0) rfl rfl rfl) rfl rfl hl.1 rfl (lv_room (Nat.le_of_ble_eq_true rfl)) dX5_best_3 ⟨Nat.zero_le _, Nat.zero_le _⟩) hP hD hS hA [0, 1, 2, 3, 4, 5, 6, 7, 8, 9, 10, 11, 12] [] [0, 1, 2, 3, 4, 5, 6, 7, 8, 9, 10, 11, 12] rfl rfl rfl (by decide) rfl rfl (fun H locs hP hD hS => ?_)
  refine lv_iconst (v := 1) hx hb dX5_best_6 (by decide) ?_
  obtain ⟨u_1067, hc_1068, h⟩ := bd_inv h
  refine wafter_i (wr := []) (w2 := (w_D G d0 d1 d2 d3 d4 d5 d6 d7 d8 d9 d10 d11 d12 d_n d_a d_b d_c u_1065.2.1 u_1065.2.2.1 u_1065.2.2.2.1 u_1065.2.2.2.2.1 u_1065.2.2.2.2.2 d_w d_e d_1 d_2 d_o d_g d_ra d_rb d_rc u_1067.2)) (va_runV (As := [.int u_1065.1, .int 1]) (rest := []) ⟨hx, hb, hml, hown, hts⟩ (kX5_fails (l := l) (G := G) d0 d1 d2 d3 d4 d5 d6 d7 d8 d9 d10 d11 d12 d_n d_a d_b d_c u_1065.2.1 u_1065.2.2.1 u_1065.2.2.2.1 u_1065.2.2.2.2.1 u_1065.2.2.2.2.2 d_w d_e d_1 d_2 d_o d_g d_ra d_rb d_rc d_t u_1065.1 1 N u_1067 hc_1068 _) (cwV 2 hts gX5_best_X5_fails rfl rfl rfl (by decide +kernel) ⟨Nat.le_of_ble_eq_true rfl, Nat.le_of_ble_eq_true rfl⟩) (wPreV hP hD hK [0, 1, 2, 3, 4, 5, 6, 7, 8, 9, 10, 11, 12] rfl rfl (ci := 5) (qb := 0) rfl rfl rfl) rfl rfl hl.1 rfl (lv_room (Nat.le_of_ble_eq_true rfl)) dX5_best_7 ⟨Nat.zero_le _, Nat.zero_le _⟩) hP hD hS hA [0, 1, 2, 3, 4, 5, 6, 7, 8, 9, 10, 11, 12] [] [0, 1, 2, 3, 4, 5, 6, 7, 8, 9, 10, 11, 12] rfl rfl rfl (by decide) rfl rfl (fun H locs hP hD hS => ?_)
  refine lv_if_eq (tgt := 15) hx hb dX5_best_10 (by decide) (fun c_1069 => ?_) (fun c_1069 => ?_)
  · have h := ip c_1069 h
    refine lv_aload_n hx hb dX5_best_15 rfl (lv_at hl 0 rfl) ?_
    refine lv_iload_n hx hb dX5_best_16 rfl (lv_at hl 1 rfl) ?_
    obtain ⟨u_1070, hc_1071, h⟩ := bd_inv h
    refine wafter_i (wr := []) (w2 := (w_D G d0 d1 d2 d3 d4 d5 d6 d7 d8 d9 d10 d11 d12 d_n d_a d_b d_c u_1065.2.1 u_1065.2.2.1 u_1065.2.2.2.1 u_1065.2.2.2.2.1 u_1065.2.2.2.2.2 d_w d_e d_1 d_2 d_o d_g d_ra d_rb d_rc u_1067.2)) (va_runV (As := [.int x1]) (rest := []) ⟨hx, hb, hml, hown, hts⟩ (kX5_setOf (l := l) (G := G) d0 d1 d2 d3 d4 d5 d6 d7 d8 d9 d10 d11 d12 d_n d_a d_b d_c u_1065.2.1 u_1065.2.2.1 u_1065.2.2.2.1 u_1065.2.2.2.2.1 u_1065.2.2.2.2.2 d_w d_e d_1 d_2 d_o d_g d_ra d_rb d_rc u_1067.2 x1 N u_1070 hc_1071 _) (cwV 1 hts gX5_best_X5_setOf rfl rfl rfl (by decide +kernel) ⟨Nat.le_of_ble_eq_true rfl, Nat.le_of_ble_eq_true rfl⟩) (wPreV hP hD hK [0, 1, 2, 3, 4, 5, 6, 7, 8, 9, 10, 11, 12] rfl rfl (ci := 5) (qb := 0) rfl rfl rfl) rfl rfl hl.1 rfl (lv_room (Nat.le_of_ble_eq_true rfl)) dX5_best_17 ⟨Nat.zero_le _, Nat.zero_le _⟩) hP hD hS hA [0, 1, 2, 3, 4, 5, 6, 7, 8, 9, 10, 11, 12] [] [0, 1, 2, 3, 4, 5, 6, 7, 8, 9, 10, 11, 12] rfl rfl rfl (by decide) rfl rfl (fun H locs hP hD hS => ?_)
    refine lv_istore (lv' := [(4, .int u_1070), (0, .ref d0), (1, .int x1), (2, .int x2), (3, .int x3)]) hx hb dX5_best_20 hl (by decide) rfl (fun ls hl => ?_)
    refine lv_aload_n hx hb dX5_best_22 rfl (lv_at hl 1 rfl) ?_
    refine lv_iload_n hx hb dX5_best_23 rfl (lv_at hl 3 rfl) ?_
    refine lv_bipush (v := (-9)) hx hb dX5_best_24 (by decide) ?_
    refine lv_bipush (v := 9) hx hb dX5_best_26 (by decide) ?_
    obtain ⟨u_1072, hc_1073, h⟩ := bd_inv h
    refine wafter_i (wr := (w_D G d0 d1 d2 d3 d4 d5 d6 d7 d8 d9 d10 d11 d12 d_n d_a d_b d_c u_1065.2.1 u_1065.2.2.1 u_1065.2.2.2.1 u_1065.2.2.2.2.1 u_1065.2.2.2.2.2 d_w d_e d_1 d_2 d_o d_g d_ra d_rb d_rc u_1067.2)) (w2 := (w_D G d0 d1 d2 d3 d4 d5 d6 d7 d8 d9 d10 d11 d12 d_n d_a d_b d_c u_1065.2.1 u_1065.2.2.1 u_1065.2.2.2.1 u_1065.2.2.2.2.1 u_1065.2.2.2.2.2 d_w d_e d_1 d_2 d_o d_g d_ra d_rb d_rc u_1067.2)) (va_runS (As := [.int x2, .int (-9), .int 9]) (rest := [.ref d0]) ⟨hx, hb, hml, hown, hts⟩ (kX5_in (l := l) (G := G)   x2 (-9) 9 N u_1072 hc_1073 _) (va_cwS 3 hts gX5_best_X5_in rfl rfl rfl (by decide +kernel) ⟨Nat.le_of_ble_eq_true rfl, Nat.le_of_ble_eq_true rfl⟩) (wPreS hP hD hK [] rfl rfl) rfl rfl hl.1 rfl (lv_room (Nat.le_of_ble_eq_true rfl)) dX5_best_28 ⟨Nat.zero_le _, Nat.zero_le _⟩) hP hD hS hA [] [0, 1, 2, 3, 4, 5, 6, 7, 8, 9, 10, 11, 12] [0, 1, 2, 3, 4, 5, 6, 7, 8, 9, 10, 11, 12] rfl rfl rfl (by decide) rfl rfl (fun H locs hP hD hS => ?_)
    refine lv_if_eq (tgt := 57) hx hb dX5_best_31 (by decide) (fun c_1074 => ?_) (fun c_1074 => ?_)
    · have h := ip c_1074 h
      refine lv_iconst (v := 0) hx hb dX5_best_57 (by decide) ?_
      exact w_58  _ _ _ _ _ _ _ _ _ _ _ _ _  hP hD hS (lv_sub hl [1, 3, 4, 0] rfl) h
    · have h := iq c_1074 h
      refine lv_iload_n hx hb dX5_best_34 rfl (lv_at hl 4 rfl) ?_
      refine lv_bipush (v := (-9)) hx hb dX5_best_35 (by decide) ?_
      refine lv_bipush (v := 9) hx hb dX5_best_37 (by decide) ?_
      obtain ⟨u_1075, hc_1076, h⟩ := bd_inv h
      refine wafter_i (wr := (w_D G d0 d1 d2 d3 d4 d5 d6 d7 d8 d9 d10 d11 d12 d_n d_a d_b d_c u_1065.2.1 u_1065.2.2.1 u_1065.2.2.2.1 u_1065.2.2.2.2.1 u_1065.2.2.2.2.2 d_w d_e d_1 d_2 d_o d_g d_ra d_rb d_rc u_1067.2)) (w2 := (w_D G d0 d1 d2 d3 d4 d5 d6 d7 d8 d9 d10 d11 d12 d_n d_a d_b d_c u_1065.2.1 u_1065.2.2.1 u_1065.2.2.2.1 u_1065.2.2.2.2.1 u_1065.2.2.2.2.2 d_w d_e d_1 d_2 d_o d_g d_ra d_rb d_rc u_1067.2)) (va_runS (As := [.int x3, .int (-9), .int 9]) (rest := [.ref d0]) ⟨hx, hb, hml, hown, hts⟩ (kX5_in (l := l) (G := G)   x3 (-9) 9 N u_1075 hc_1076 _) (va_cwS 3 hts gX5_best_X5_in rfl rfl rfl (by decide +kernel) ⟨Nat.le_of_ble_eq_true rfl, Nat.le_of_ble_eq_true rfl⟩) (wPreS hP hD hK [] rfl rfl) rfl rfl hl.1 rfl (lv_room (Nat.le_of_ble_eq_true rfl)) dX5_best_39 ⟨Nat.zero_le _, Nat.zero_le _⟩) hP hD hS hA [] [0, 1, 2, 3, 4, 5, 6, 7, 8, 9, 10, 11, 12] [0, 1, 2, 3, 4, 5, 6, 7, 8, 9, 10, 11, 12] rfl rfl rfl (by decide) rfl rfl (fun H locs hP hD hS => ?_)
      refine lv_if_eq (tgt := 57) hx hb dX5_best_42 (by decide) (fun c_1077 => ?_) (fun c_1077 => ?_)
      · have h := ip c_1077 h
        refine lv_iconst (v := 0) hx hb dX5_best_57 (by decide) ?_
        exact w_58  _ _ _ _ _ _ _ _ _ _ _ _ _  hP hD hS (lv_sub hl [1, 3, 4, 0] rfl) h
      · have h := iq c_1077 h
        refine lv_iload_n hx hb dX5_best_45 rfl (lv_at hl 3 rfl) ?_
        refine lv_if_ne (tgt := 53) hx hb dX5_best_46 (by decide) (fun c_1078 => ?_) (fun c_1078 => ?_)
        · have h := iq c_1078 h
          refine lv_iconst (v := 1) hx hb dX5_best_53 (by decide) ?_
          refine lv_goto (tgt := 58) hx hb dX5_best_54 (by decide) ?_
          exact w_58  _ _ _ _ _ _ _ _ _ _ _ _ _  hP hD hS (lv_sub hl [1, 3, 4, 0] rfl) h
        · have h := ip c_1078 h
          refine lv_iload_n hx hb dX5_best_49 rfl (lv_at hl 4 rfl) ?_
          refine lv_if_eq (tgt := 57) hx hb dX5_best_50 (by decide) (fun c_1079 => ?_) (fun c_1079 => ?_)
          · have h := ip c_1079 h
            refine lv_iconst (v := 0) hx hb dX5_best_57 (by decide) ?_
            exact w_58  _ _ _ _ _ _ _ _ _ _ _ _ _  hP hD hS (lv_sub hl [1, 3, 4, 0] rfl) h
          · have h := iq c_1079 h
            refine lv_iconst (v := 1) hx hb dX5_best_53 (by decide) ?_
            refine lv_goto (tgt := 58) hx hb dX5_best_54 (by decide) ?_
            exact w_58  _ _ _ _ _ _ _ _ _ _ _ _ _  hP hD hS (lv_sub hl [1, 3, 4, 0] rfl) h
  · have h := iq c_1069 h
    refine lv_iconst (v := 0) hx hb dX5_best_13 (by decide) ?_
    obtain rfl := Option.some.inj h
    exact wri hx hb hr hlocks hP hD hS (Nat.le_of_ble_eq_true rfl) (Nat.le_of_ble_eq_true rfl) rfl dX5_best_14
def fX5_reflect (N : Nat) (d_n : Int32) (d_a : Nat → Int32) (d_b : Nat → Int32) (d_c : Nat → Int32) (d_ra : Int32) (d_rb : Int32) (d_rc : Int32) (x1 : Int32) (x2 : Int32) : Option (Int32 × Int32 × Int32 × Int32) := rd d_a 9 x2 (fun v_1080 => rd d_a 9 x2 (fun v_1081 => rd d_b 9 x2 (fun v_1082 => rd d_b 9 x2 (fun v_1083 => nm ((v_1080 * v_1081) + (v_1082 * v_1083)) (fun x3_1084 => rd d_a 9 x2 (fun v_1085 => rd d_a 9 x1 (fun v_1086 => rd d_b 9 x2 (fun v_1087 => rd d_b 9 x1 (fun v_1088 => nm (2 * ((v_1085 * v_1086) + (v_1087 * v_1088))) (fun x4_1089 => rd d_a 9 x1 (fun v_1090 => rd d_a 9 x2 (fun v_1091 => rd d_b 9 x1 (fun v_1092 => rd d_b 9 x2 (fun v_1093 => rd d_c 9 x1 (fun v_1094 => rd d_c 9 x2 (fun v_1095 => bd (fX5_lineOf N d_n d_a d_b d_c ((x3_1084 * v_1090) - (x4_1089 * v_1091)) ((x3_1084 * v_1092) - (x4_1089 * v_1093)) ((x3_1084 * v_1094) - (x4_1089 * v_1095))) (fun u_1096 => some (u_1096, ((x3_1084 * v_1090) - (x4_1089 * v_1091)), ((x3_1084 * v_1092) - (x4_1089 * v_1093)), ((x3_1084 * v_1094) - (x4_1089 * v_1095))))))))))))))))))))
set_option maxHeartbeats 4000000 in
set_option maxRecDepth 100000 in
theorem kX5_reflect {l : Launch} {G : wG} (d0 d1 d2 d3 d4 d5 d6 d7 d8 d9 d10 d11 d12 : Nat) (d_n : Int32) (d_a : Nat → Int32) (d_b : Nat → Int32) (d_c : Nat → Int32) (d_k : Int32) (d_x : Nat → Int32) (d_y : Nat → Int32) (d_d : Nat → Int32) (d_r : Nat → Int32) (d_w : Nat → Int32) (d_e : Int32) (d_1 : Nat → Int32) (d_2 : Nat → Int32) (d_o : Nat → Int32) (d_g : Nat → Int32) (d_ra : Int32) (d_rb : Int32) (d_rc : Int32) (d_t : Int32) (x1 : Int32) (x2 : Int32) (N : Nat) (v : Int32 × Int32 × Int32 × Int32) (h : fX5_reflect N d_n d_a d_b d_c d_ra d_rb d_rc x1 x2 = some v) : wCi l G yX5_reflect wsX5_reflect ({ frames := 2, cells := 0, slots := 0, locals := 49 } : Room) [.ref d0, .int x1, .int x2] (w_D G d0 d1 d2 d3 d4 d5 d6 d7 d8 d9 d10 d11 d12 d_n d_a d_b d_c d_k d_x d_y d_d d_r d_w d_e d_1 d_2 d_o d_g d_ra d_rb d_rc d_t) (w_D G d0 d1 d2 d3 d4 d5 d6 d7 d8 d9 d10 d11 d12 d_n d_a d_b d_c d_k d_x d_y d_d d_r d_w d_e d_1 d_2 d_o d_g v.2.1 v.2.2.1 v.2.2.2 d_t) 0 0 v.1 := by
  refine wCi.mk (cc := cX5_reflect) (maxL := 5) (ty := .int) (by decide) rfl (Nat.le_of_ble_eq_true rfl) ?_
  intro p e s m below meth c A ls hx hb hml hr hlocks hts hown hK hA hP hD hl
  have hx : p.tables.exec = Jvm.exec := hx
  have hown : s.vm.findClass RX5 = some m.cls := hown
  have hinX5 : ∀ w ∈ wsX50, w ∈ wsX5_reflect := by decide +kernel
  have lk13 := hts (.fieldLink RX5 13 "ChamberwrightModel" "lb" "[I") (by decide +kernel)
  have lk138 := hts (.fieldLink RX5 138 "ChamberwrightModel" "ra" "I") (by decide +kernel)
  have lk141 := hts (.fieldLink RX5 141 "ChamberwrightModel" "rb" "I") (by decide +kernel)
  have lk144 := hts (.fieldLink RX5 144 "ChamberwrightModel" "rc" "I") (by decide +kernel)
  have lk16 := hts (.fieldLink RX5 16 "ChamberwrightModel" "lc" "[I") (by decide +kernel)
  have lk7 := hts (.fieldLink RX5 7 "ChamberwrightModel" "la" "[I") (by decide +kernel)
  have hS : va_S A s.heap s.heap [] := va_S.rf
  have hP : va_P G.1 vwCl (w_D G d0 d1 d2 d3 d4 d5 d6 d7 d8 d9 d10 d11 d12 d_n d_a d_b d_c d_k d_x d_y d_d d_r d_w d_e d_1 d_2 d_o d_g d_ra d_rb d_rc d_t) s.heap := hP
  have hD : va_D A (w_D G d0 d1 d2 d3 d4 d5 d6 d7 d8 d9 d10 d11 d12 d_n d_a d_b d_c d_k d_x d_y d_d d_r d_w d_e d_1 d_2 d_o d_g d_ra d_rb d_rc d_t) := hD
  have hl : lv_has ls 5 [(0, .ref d0), (1, .int x1), (2, .int x2)] := hl
  obtain ⟨args, hargs⟩ : ∃ z : Array Value, z = ([.ref d0, .int x1, .int x2] : List Value).toArray := ⟨_, rfl⟩
  rw [← hargs]
  rw [← hargs] at hts
  rw [fX5_reflect.eq_1] at h
  refine lv_aload_n hx hb dX5_reflect_0 rfl (lv_at hl 0 rfl) ?_
  refine va_get (D := G.1) (ci := 5) (v := .ref d1) (C := RX5) (T := TX5) (N := 19) hx hb hts hinX5 hown hK.1 hP 0 rfl rfl 1 (by decide) lk7 (fun _ h9 => h9) rfl dX5_reflect_1 ?_
  refine lv_iload_n hx hb dX5_reflect_4 rfl (lv_at hl 2 rfl) ?_
  refine wiald h hx hb hK hP 1 rfl dX5_reflect_5 (fun v_1080 h => ?_)
  refine lv_aload_n hx hb dX5_reflect_6 rfl (lv_at hl 0 rfl) ?_
  refine va_get (D := G.1) (ci := 5) (v := .ref d1) (C := RX5) (T := TX5) (N := 19) hx hb hts hinX5 hown hK.1 hP 0 rfl rfl 1 (by decide) lk7 (fun _ h9 => h9) rfl dX5_reflect_7 ?_
  refine lv_iload_n hx hb dX5_reflect_10 rfl (lv_at hl 2 rfl) ?_
  refine wiald h hx hb hK hP 1 rfl dX5_reflect_11 (fun v_1081 h => ?_)
  refine lv_imul hx hb dX5_reflect_12 ?_
  refine lv_aload_n hx hb dX5_reflect_13 rfl (lv_at hl 0 rfl) ?_
  refine va_get (D := G.1) (ci := 5) (v := .ref d2) (C := RX5) (T := TX5) (N := 19) hx hb hts hinX5 hown hK.1 hP 0 rfl rfl 2 (by decide) lk13 (fun _ h9 => h9) rfl dX5_reflect_14 ?_
  refine lv_iload_n hx hb dX5_reflect_17 rfl (lv_at hl 2 rfl) ?_
  refine wiald h hx hb hK hP 2 rfl dX5_reflect_18 (fun v_1082 h => ?_)
  refine lv_aload_n hx hb dX5_reflect_19 rfl (lv_at hl 0 rfl) ?_
  refine va_get (D := G.1) (ci := 5) (v := .ref d2) (C := RX5) (T := TX5) (N := 19) hx hb hts hinX5 hown hK.1 hP 0 rfl rfl 2 (by decide) lk13 (fun _ h9 => h9) rfl dX5_reflect_20 ?_
  refine lv_iload_n hx hb dX5_reflect_23 rfl (lv_at hl 2 rfl) ?_
  refine wiald h hx hb hK hP 2 rfl dX5_reflect_24 (fun v_1083 h => ?_)
  refine lv_imul hx hb dX5_reflect_25 ?_
  refine lv_iadd hx hb dX5_reflect_26 ?_
  refine wnmi h (fun x3_1084 h => ?_)
  refine lv_istore_n (lv' := [(3, .int x3_1084), (0, .ref d0), (1, .int x1), (2, .int x2)]) hx hb dX5_reflect_27 rfl hl (by decide) rfl (fun ls hl => ?_)
  refine lv_iconst (v := 2) hx hb dX5_reflect_28 (by decide) ?_
  refine lv_aload_n hx hb dX5_reflect_29 rfl (lv_at hl 1 rfl) ?_
  refine va_get (D := G.1) (ci := 5) (v := .ref d1) (C := RX5) (T := TX5) (N := 19) hx hb hts hinX5 hown hK.1 hP 0 rfl rfl 1 (by decide) lk7 (fun _ h9 => h9) rfl dX5_reflect_30 ?_
  refine lv_iload_n hx hb dX5_reflect_33 rfl (lv_at hl 3 rfl) ?_
  refine wiald h hx hb hK hP 1 rfl dX5_reflect_34 (fun v_1085 h => ?_)
  refine lv_aload_n hx hb dX5_reflect_35 rfl (lv_at hl 1 rfl) ?_
  refine va_get (D := G.1) (ci := 5) (v := .ref d1) (C := RX5) (T := TX5) (N := 19) hx hb hts hinX5 hown hK.1 hP 0 rfl rfl 1 (by decide) lk7 (fun _ h9 => h9) rfl dX5_reflect_36 ?_
  refine lv_iload_n hx hb dX5_reflect_39 rfl (lv_at hl 2 rfl) ?_
  refine wiald h hx hb hK hP 1 rfl dX5_reflect_40 (fun v_1086 h => ?_)
  refine lv_imul hx hb dX5_reflect_41 ?_
  refine lv_aload_n hx hb dX5_reflect_42 rfl (lv_at hl 1 rfl) ?_
  refine va_get (D := G.1) (ci := 5) (v := .ref d2) (C := RX5) (T := TX5) (N := 19) hx hb hts hinX5 hown hK.1 hP 0 rfl rfl 2 (by decide) lk13 (fun _ h9 => h9) rfl dX5_reflect_43 ?_
  refine lv_iload_n hx hb dX5_reflect_46 rfl (lv_at hl 3 rfl) ?_
  refine wiald h hx hb hK hP 2 rfl dX5_reflect_47 (fun v_1087 h => ?_)
  refine lv_aload_n hx hb dX5_reflect_48 rfl (lv_at hl 1 rfl) ?_
  refine va_get (D := G.1) (ci := 5) (v := .ref d2) (C := RX5) (T := TX5) (N := 19) hx hb hts hinX5 hown hK.1 hP 0 rfl rfl 2 (by decide) lk13 (fun _ h9 => h9) rfl dX5_reflect_49 ?_
  refine lv_iload_n hx hb dX5_reflect_52 rfl (lv_at hl 2 rfl) ?_
  refine wiald h hx hb hK hP 2 rfl dX5_reflect_53 (fun v_1088 h => ?_)
  refine lv_imul hx hb dX5_reflect_54 ?_
  refine lv_iadd hx hb dX5_reflect_55 ?_
  refine lv_imul hx hb dX5_reflect_56 ?_
  refine wnmi h (fun x4_1089 h => ?_)
  refine lv_istore (lv' := [(4, .int x4_1089), (3, .int x3_1084), (0, .ref d0), (1, .int x1), (2, .int x2)]) hx hb dX5_reflect_57 hl (by decide) rfl (fun ls hl => ?_)
  refine lv_aload_n hx hb dX5_reflect_59 rfl (lv_at hl 2 rfl) ?_
  refine lv_iload_n hx hb dX5_reflect_60 rfl (lv_at hl 1 rfl) ?_
  refine lv_aload_n hx hb dX5_reflect_61 rfl (lv_at hl 2 rfl) ?_
  refine va_get (D := G.1) (ci := 5) (v := .ref d1) (C := RX5) (T := TX5) (N := 19) hx hb hts hinX5 hown hK.1 hP 0 rfl rfl 1 (by decide) lk7 (fun _ h9 => h9) rfl dX5_reflect_62 ?_
  refine lv_iload_n hx hb dX5_reflect_65 rfl (lv_at hl 3 rfl) ?_
  refine wiald h hx hb hK hP 1 rfl dX5_reflect_66 (fun v_1090 h => ?_)
  refine lv_imul hx hb dX5_reflect_67 ?_
  refine lv_iload hx hb dX5_reflect_68 (lv_at hl 0 rfl) ?_
  refine lv_aload_n hx hb dX5_reflect_70 rfl (lv_at hl 2 rfl) ?_
  refine va_get (D := G.1) (ci := 5) (v := .ref d1) (C := RX5) (T := TX5) (N := 19) hx hb hts hinX5 hown hK.1 hP 0 rfl rfl 1 (by decide) lk7 (fun _ h9 => h9) rfl dX5_reflect_71 ?_
  refine lv_iload_n hx hb dX5_reflect_74 rfl (lv_at hl 4 rfl) ?_
  refine wiald h hx hb hK hP 1 rfl dX5_reflect_75 (fun v_1091 h => ?_)
  refine lv_imul hx hb dX5_reflect_76 ?_
  refine lv_isub hx hb dX5_reflect_77 ?_
  refine va_put (D := G.1) (ci := 5) (v := .int ((x3_1084 * v_1090) - (x4_1089 * v_1091))) (ty := .int) (C := RX5) (T := TX5) (N := 19) hx hb hts hinX5 tyX5 tyX5_ok nmX5 hown hK.1 hP hD hS 0 rfl rfl 15 (by decide) lk138 (fun _ h9 => h9) rfl (by decide +kernel) rfl rfl (Nat.le_of_ble_eq_true rfl) dX5_reflect_78 (fun H locs hP hD hS => ?_)
  have hP : va_P G.1 vwCl (w_D G d0 d1 d2 d3 d4 d5 d6 d7 d8 d9 d10 d11 d12 d_n d_a d_b d_c d_k d_x d_y d_d d_r d_w d_e d_1 d_2 d_o d_g (((x3_1084 * v_1090) - (x4_1089 * v_1091))) d_rb d_rc d_t) H := hP
  have hD : va_D A (w_D G d0 d1 d2 d3 d4 d5 d6 d7 d8 d9 d10 d11 d12 d_n d_a d_b d_c d_k d_x d_y d_d d_r d_w d_e d_1 d_2 d_o d_g (((x3_1084 * v_1090) - (x4_1089 * v_1091))) d_rb d_rc d_t) := hD
  refine lv_aload_n hx hb dX5_reflect_81 rfl (lv_at hl 2 rfl) ?_
  refine lv_iload_n hx hb dX5_reflect_82 rfl (lv_at hl 1 rfl) ?_
  refine lv_aload_n hx hb dX5_reflect_83 rfl (lv_at hl 2 rfl) ?_
  refine va_get (D := G.1) (ci := 5) (v := .ref d2) (C := RX5) (T := TX5) (N := 19) hx hb hts hinX5 hown hK.1 hP 0 rfl rfl 2 (by decide) lk13 (fun _ h9 => h9) rfl dX5_reflect_84 ?_
  refine lv_iload_n hx hb dX5_reflect_87 rfl (lv_at hl 3 rfl) ?_
  refine wiald h hx hb hK hP 2 rfl dX5_reflect_88 (fun v_1092 h => ?_)
  refine lv_imul hx hb dX5_reflect_89 ?_
  refine lv_iload hx hb dX5_reflect_90 (lv_at hl 0 rfl) ?_
  refine lv_aload_n hx hb dX5_reflect_92 rfl (lv_at hl 2 rfl) ?_
  refine va_get (D := G.1) (ci := 5) (v := .ref d2) (C := RX5) (T := TX5) (N := 19) hx hb hts hinX5 hown hK.1 hP 0 rfl rfl 2 (by decide) lk13 (fun _ h9 => h9) rfl dX5_reflect_93 ?_
  refine lv_iload_n hx hb dX5_reflect_96 rfl (lv_at hl 4 rfl) ?_
  refine wiald h hx hb hK hP 2 rfl dX5_reflect_97 (fun v_1093 h => ?_)
  refine lv_imul hx hb dX5_reflect_98 ?_
  refine lv_isub hx hb dX5_reflect_99 ?_
  refine va_put (D := G.1) (ci := 5) (v := .int ((x3_1084 * v_1092) - (x4_1089 * v_1093))) (ty := .int) (C := RX5) (T := TX5) (N := 19) hx hb hts hinX5 tyX5 tyX5_ok nmX5 hown hK.1 hP hD hS 0 rfl rfl 16 (by decide) lk141 (fun _ h9 => h9) rfl (by decide +kernel) rfl rfl (Nat.le_of_ble_eq_true rfl) dX5_reflect_100 (fun H locs hP hD hS => ?_)
  have hP : va_P G.1 vwCl (w_D G d0 d1 d2 d3 d4 d5 d6 d7 d8 d9 d10 d11 d12 d_n d_a d_b d_c d_k d_x d_y d_d d_r d_w d_e d_1 d_2 d_o d_g (((x3_1084 * v_1090) - (x4_1089 * v_1091))) (((x3_1084 * v_1092) - (x4_1089 * v_1093))) d_rc d_t) H := hP
  have hD : va_D A (w_D G d0 d1 d2 d3 d4 d5 d6 d7 d8 d9 d10 d11 d12 d_n d_a d_b d_c d_k d_x d_y d_d d_r d_w d_e d_1 d_2 d_o d_g (((x3_1084 * v_1090) - (x4_1089 * v_1091))) (((x3_1084 * v_1092) - (x4_1089 * v_1093))) d_rc d_t) := hD
  refine lv_aload_n hx hb dX5_reflect_103 rfl (lv_at hl 2 rfl) ?_
  refine lv_iload_n hx hb dX5_reflect_104 rfl (lv_at hl 1 rfl) ?_
  refine lv_aload_n hx hb dX5_reflect_105 rfl (lv_at hl 2 rfl) ?_
  refine va_get (D := G.1) (ci := 5) (v := .ref d3) (C := RX5) (T := TX5) (N := 19) hx hb hts hinX5 hown hK.1 hP 0 rfl rfl 3 (by decide) lk16 (fun _ h9 => h9) rfl dX5_reflect_106 ?_
  refine lv_iload_n hx hb dX5_reflect_109 rfl (lv_at hl 3 rfl) ?_
  refine wiald h hx hb hK hP 3 rfl dX5_reflect_110 (fun v_1094 h => ?_)
  refine lv_imul hx hb dX5_reflect_111 ?_
  refine lv_iload hx hb dX5_reflect_112 (lv_at hl 0 rfl) ?_
  refine lv_aload_n hx hb dX5_reflect_114 rfl (lv_at hl 2 rfl) ?_
  refine va_get (D := G.1) (ci := 5) (v := .ref d3) (C := RX5) (T := TX5) (N := 19) hx hb hts hinX5 hown hK.1 hP 0 rfl rfl 3 (by decide) lk16 (fun _ h9 => h9) rfl dX5_reflect_115 ?_
  refine lv_iload_n hx hb dX5_reflect_118 rfl (lv_at hl 4 rfl) ?_
  refine wiald h hx hb hK hP 3 rfl dX5_reflect_119 (fun v_1095 h => ?_)
  refine lv_imul hx hb dX5_reflect_120 ?_
  refine lv_isub hx hb dX5_reflect_121 ?_
  refine va_put (D := G.1) (ci := 5) (v := .int ((x3_1084 * v_1094) - (x4_1089 * v_1095))) (ty := .int) (C := RX5) (T := TX5) (N := 19) hx hb hts hinX5 tyX5 tyX5_ok nmX5 hown hK.1 hP hD hS 0 rfl rfl 17 (by decide) lk144 (fun _ h9 => h9) rfl (by decide +kernel) rfl rfl (Nat.le_of_ble_eq_true rfl) dX5_reflect_122 (fun H locs hP hD hS => ?_)
  have hP : va_P G.1 vwCl (w_D G d0 d1 d2 d3 d4 d5 d6 d7 d8 d9 d10 d11 d12 d_n d_a d_b d_c d_k d_x d_y d_d d_r d_w d_e d_1 d_2 d_o d_g (((x3_1084 * v_1090) - (x4_1089 * v_1091))) (((x3_1084 * v_1092) - (x4_1089 * v_1093))) (((x3_1084 * v_1094) - (x4_1089 * v_1095))) d_t) H := hP
  have hD : va_D A (w_D G d0 d1 d2 d3 d4 d5 d6 d7 d8 d9 d10 d11 d12 d_n d_a d_b d_c d_k d_x d_y d_d d_r d_w d_e d_1 d_2 d_o d_g (((x3_1084 * v_1090) - (x4_1089 * v_1091))) (((x3_1084 * v_1092) - (x4_1089 * v_1093))) (((x3_1084 * v_1094) - (x4_1089 * v_1095))) d_t) := hD
  refine lv_aload_n hx hb dX5_reflect_125 rfl (lv_at hl 2 rfl) ?_
  refine lv_aload_n hx hb dX5_reflect_126 rfl (lv_at hl 2 rfl) ?_
  refine va_get (D := G.1) (ci := 5) (v := .int ((x3_1084 * v_1090) - (x4_1089 * v_1091))) (C := RX5) (T := TX5) (N := 19) hx hb hts hinX5 hown hK.1 hP 0 rfl rfl 15 (by decide) lk138 (fun _ h9 => h9) rfl dX5_reflect_127 ?_
  refine lv_aload_n hx hb dX5_reflect_130 rfl (lv_at hl 2 rfl) ?_
  refine va_get (D := G.1) (ci := 5) (v := .int ((x3_1084 * v_1092) - (x4_1089 * v_1093))) (C := RX5) (T := TX5) (N := 19) hx hb hts hinX5 hown hK.1 hP 0 rfl rfl 16 (by decide) lk141 (fun _ h9 => h9) rfl dX5_reflect_131 ?_
  refine lv_aload_n hx hb dX5_reflect_134 rfl (lv_at hl 2 rfl) ?_
  refine va_get (D := G.1) (ci := 5) (v := .int ((x3_1084 * v_1094) - (x4_1089 * v_1095))) (C := RX5) (T := TX5) (N := 19) hx hb hts hinX5 hown hK.1 hP 0 rfl rfl 17 (by decide) lk144 (fun _ h9 => h9) rfl dX5_reflect_135 ?_
  obtain ⟨u_1096, hc_1097, h⟩ := bd_inv h
  refine wafter_i (wr := []) (w2 := (w_D G d0 d1 d2 d3 d4 d5 d6 d7 d8 d9 d10 d11 d12 d_n d_a d_b d_c d_k d_x d_y d_d d_r d_w d_e d_1 d_2 d_o d_g (((x3_1084 * v_1090) - (x4_1089 * v_1091))) (((x3_1084 * v_1092) - (x4_1089 * v_1093))) (((x3_1084 * v_1094) - (x4_1089 * v_1095))) d_t)) (va_runV (As := [.int ((x3_1084 * v_1090) - (x4_1089 * v_1091)), .int ((x3_1084 * v_1092) - (x4_1089 * v_1093)), .int ((x3_1084 * v_1094) - (x4_1089 * v_1095))]) (rest := []) ⟨hx, hb, hml, hown, hts⟩ (kX5_lineOf (l := l) (G := G) d0 d1 d2 d3 d4 d5 d6 d7 d8 d9 d10 d11 d12 d_n d_a d_b d_c d_k d_x d_y d_d d_r d_w d_e d_1 d_2 d_o d_g (((x3_1084 * v_1090) - (x4_1089 * v_1091))) (((x3_1084 * v_1092) - (x4_1089 * v_1093))) (((x3_1084 * v_1094) - (x4_1089 * v_1095))) d_t ((x3_1084 * v_1090) - (x4_1089 * v_1091)) ((x3_1084 * v_1092) - (x4_1089 * v_1093)) ((x3_1084 * v_1094) - (x4_1089 * v_1095)) N u_1096 hc_1097 _) (cwV 3 hts gX5_reflect_X5_lineOf rfl rfl rfl (by decide +kernel) ⟨Nat.le_of_ble_eq_true rfl, Nat.le_of_ble_eq_true rfl⟩) (wPreV hP hD hK [0, 1, 2, 3, 4, 5, 6, 7, 8, 9, 10, 11, 12] rfl rfl (ci := 5) (qb := 0) rfl rfl rfl) rfl rfl hl.1 rfl (lv_room (Nat.le_of_ble_eq_true rfl)) dX5_reflect_138 ⟨Nat.zero_le _, Nat.zero_le _⟩) hP hD hS hA [0, 1, 2, 3, 4, 5, 6, 7, 8, 9, 10, 11, 12] [] [0, 1, 2, 3, 4, 5, 6, 7, 8, 9, 10, 11, 12] rfl rfl rfl (by decide) rfl rfl (fun H locs hP hD hS => ?_)
  obtain rfl := Option.some.inj h
  exact wri hx hb hr hlocks hP hD hS (Nat.le_of_ble_eq_true rfl) (Nat.le_of_ble_eq_true rfl) rfl dX5_reflect_141
def fX5_reflected (N : Nat) (d_n : Int32) (d_a : Nat → Int32) (d_b : Nat → Int32) (d_c : Nat → Int32) (d_ra : Int32) (d_rb : Int32) (d_rc : Int32) (d_t : Int32) (x1 : Int32) (x2 : Int32) : Option (Int32 × Int32 × Int32 × Int32 × Int32) := bd (fX5_lineIs N d_n x1) (fun u_1098 => bd (fX5_fails N d_t u_1098 1) (fun u_1100 => if u_1100.1 = 0 then bd (fX5_lineIs N d_n x2) (fun u_1103 => bd (fX5_fails N u_1100.2 u_1103 1) (fun u_1105 => if u_1105.1 = 0 then bd (fX5_reflect N d_n d_a d_b d_c d_ra d_rb d_rc x1 x2) (fun u_1108 => some (u_1108.1, u_1108.2.1, u_1108.2.2.1, u_1108.2.2.2, u_1105.2)) else some (0, d_ra, d_rb, d_rc, u_1105.2))) else some (0, d_ra, d_rb, d_rc, u_1100.2)))
set_option maxHeartbeats 4000000 in
set_option maxRecDepth 100000 in
theorem kX5_reflected {l : Launch} {G : wG} (d0 d1 d2 d3 d4 d5 d6 d7 d8 d9 d10 d11 d12 : Nat) (d_n : Int32) (d_a : Nat → Int32) (d_b : Nat → Int32) (d_c : Nat → Int32) (d_k : Int32) (d_x : Nat → Int32) (d_y : Nat → Int32) (d_d : Nat → Int32) (d_r : Nat → Int32) (d_w : Nat → Int32) (d_e : Int32) (d_1 : Nat → Int32) (d_2 : Nat → Int32) (d_o : Nat → Int32) (d_g : Nat → Int32) (d_ra : Int32) (d_rb : Int32) (d_rc : Int32) (d_t : Int32) (x1 : Int32) (x2 : Int32) (N : Nat) (v : Int32 × Int32 × Int32 × Int32 × Int32) (h : fX5_reflected N d_n d_a d_b d_c d_ra d_rb d_rc d_t x1 x2 = some v) : wCi l G yX5_reflected wsX5_reflected ({ frames := 3, cells := 0, slots := 0, locals := 73 } : Room) [.ref d0, .int x1, .int x2] (w_D G d0 d1 d2 d3 d4 d5 d6 d7 d8 d9 d10 d11 d12 d_n d_a d_b d_c d_k d_x d_y d_d d_r d_w d_e d_1 d_2 d_o d_g d_ra d_rb d_rc d_t) (w_D G d0 d1 d2 d3 d4 d5 d6 d7 d8 d9 d10 d11 d12 d_n d_a d_b d_c d_k d_x d_y d_d d_r d_w d_e d_1 d_2 d_o d_g v.2.1 v.2.2.1 v.2.2.2.1 v.2.2.2.2) 0 0 v.1 := by
  refine wCi.mk (cc := cX5_reflected) (maxL := 3) (ty := .int) (by decide) rfl (Nat.le_of_ble_eq_true rfl) ?_
  intro p e s m below meth c A ls hx hb hml hr hlocks hts hown hK hA hP hD hl
  have hx : p.tables.exec = Jvm.exec := hx
  have hown : s.vm.findClass RX5 = some m.cls := hown
  have hS : va_S A s.heap s.heap [] := va_S.rf
  have hP : va_P G.1 vwCl (w_D G d0 d1 d2 d3 d4 d5 d6 d7 d8 d9 d10 d11 d12 d_n d_a d_b d_c d_k d_x d_y d_d d_r d_w d_e d_1 d_2 d_o d_g d_ra d_rb d_rc d_t) s.heap := hP
  have hD : va_D A (w_D G d0 d1 d2 d3 d4 d5 d6 d7 d8 d9 d10 d11 d12 d_n d_a d_b d_c d_k d_x d_y d_d d_r d_w d_e d_1 d_2 d_o d_g d_ra d_rb d_rc d_t) := hD
  have hl : lv_has ls 3 [(0, .ref d0), (1, .int x1), (2, .int x2)] := hl
  obtain ⟨args, hargs⟩ : ∃ z : Array Value, z = ([.ref d0, .int x1, .int x2] : List Value).toArray := ⟨_, rfl⟩
  rw [← hargs]
  rw [← hargs] at hts
  rw [fX5_reflected.eq_1] at h
  refine lv_aload_n hx hb dX5_reflected_0 rfl (lv_at hl 0 rfl) ?_
  refine lv_aload_n hx hb dX5_reflected_1 rfl (lv_at hl 0 rfl) ?_
  refine lv_iload_n hx hb dX5_reflected_2 rfl (lv_at hl 1 rfl) ?_
  obtain ⟨u_1098, hc_1099, h⟩ := bd_inv h
  refine wafter_i (wr := []) (w2 := (w_D G d0 d1 d2 d3 d4 d5 d6 d7 d8 d9 d10 d11 d12 d_n d_a d_b d_c d_k d_x d_y d_d d_r d_w d_e d_1 d_2 d_o d_g d_ra d_rb d_rc d_t)) (va_runV (As := [.int x1]) (rest := [.ref d0]) ⟨hx, hb, hml, hown, hts⟩ (kX5_lineIs (l := l) (G := G) d0 d1 d2 d3 d4 d5 d6 d7 d8 d9 d10 d11 d12 d_n d_a d_b d_c d_k d_x d_y d_d d_r d_w d_e d_1 d_2 d_o d_g d_ra d_rb d_rc d_t x1 N u_1098 hc_1099 _) (cwV 1 hts gX5_reflected_X5_lineIs rfl rfl rfl (by decide +kernel) ⟨Nat.le_of_ble_eq_true rfl, Nat.le_of_ble_eq_true rfl⟩) (wPreV hP hD hK [0, 1, 2, 3, 4, 5, 6, 7, 8, 9, 10, 11, 12] rfl rfl (ci := 5) (qb := 0) rfl rfl rfl) rfl rfl hl.1 rfl (lv_room (Nat.le_of_ble_eq_true rfl)) dX5_reflected_3 ⟨Nat.zero_le _, Nat.zero_le _⟩) hP hD hS hA [0, 1, 2, 3, 4, 5, 6, 7, 8, 9, 10, 11, 12] [] [0, 1, 2, 3, 4, 5, 6, 7, 8, 9, 10, 11, 12] rfl rfl rfl (by decide) rfl rfl (fun H locs hP hD hS => ?_)
  refine lv_iconst (v := 1) hx hb dX5_reflected_6 (by decide) ?_
  obtain ⟨u_1100, hc_1101, h⟩ := bd_inv h
  refine wafter_i (wr := []) (w2 := (w_D G d0 d1 d2 d3 d4 d5 d6 d7 d8 d9 d10 d11 d12 d_n d_a d_b d_c d_k d_x d_y d_d d_r d_w d_e d_1 d_2 d_o d_g d_ra d_rb d_rc u_1100.2)) (va_runV (As := [.int u_1098, .int 1]) (rest := []) ⟨hx, hb, hml, hown, hts⟩ (kX5_fails (l := l) (G := G) d0 d1 d2 d3 d4 d5 d6 d7 d8 d9 d10 d11 d12 d_n d_a d_b d_c d_k d_x d_y d_d d_r d_w d_e d_1 d_2 d_o d_g d_ra d_rb d_rc d_t u_1098 1 N u_1100 hc_1101 _) (cwV 2 hts gX5_reflected_X5_fails rfl rfl rfl (by decide +kernel) ⟨Nat.le_of_ble_eq_true rfl, Nat.le_of_ble_eq_true rfl⟩) (wPreV hP hD hK [0, 1, 2, 3, 4, 5, 6, 7, 8, 9, 10, 11, 12] rfl rfl (ci := 5) (qb := 0) rfl rfl rfl) rfl rfl hl.1 rfl (lv_room (Nat.le_of_ble_eq_true rfl)) dX5_reflected_7 ⟨Nat.zero_le _, Nat.zero_le _⟩) hP hD hS hA [0, 1, 2, 3, 4, 5, 6, 7, 8, 9, 10, 11, 12] [] [0, 1, 2, 3, 4, 5, 6, 7, 8, 9, 10, 11, 12] rfl rfl rfl (by decide) rfl rfl (fun H locs hP hD hS => ?_)
  refine lv_if_eq (tgt := 15) hx hb dX5_reflected_10 (by decide) (fun c_1102 => ?_) (fun c_1102 => ?_)
  · have h := ip c_1102 h
    refine lv_aload_n hx hb dX5_reflected_15 rfl (lv_at hl 0 rfl) ?_
    refine lv_aload_n hx hb dX5_reflected_16 rfl (lv_at hl 0 rfl) ?_
    refine lv_iload_n hx hb dX5_reflected_17 rfl (lv_at hl 2 rfl) ?_
    obtain ⟨u_1103, hc_1104, h⟩ := bd_inv h
    refine wafter_i (wr := []) (w2 := (w_D G d0 d1 d2 d3 d4 d5 d6 d7 d8 d9 d10 d11 d12 d_n d_a d_b d_c d_k d_x d_y d_d d_r d_w d_e d_1 d_2 d_o d_g d_ra d_rb d_rc u_1100.2)) (va_runV (As := [.int x2]) (rest := [.ref d0]) ⟨hx, hb, hml, hown, hts⟩ (kX5_lineIs (l := l) (G := G) d0 d1 d2 d3 d4 d5 d6 d7 d8 d9 d10 d11 d12 d_n d_a d_b d_c d_k d_x d_y d_d d_r d_w d_e d_1 d_2 d_o d_g d_ra d_rb d_rc u_1100.2 x2 N u_1103 hc_1104 _) (cwV 1 hts gX5_reflected_X5_lineIs rfl rfl rfl (by decide +kernel) ⟨Nat.le_of_ble_eq_true rfl, Nat.le_of_ble_eq_true rfl⟩) (wPreV hP hD hK [0, 1, 2, 3, 4, 5, 6, 7, 8, 9, 10, 11, 12] rfl rfl (ci := 5) (qb := 0) rfl rfl rfl) rfl rfl hl.1 rfl (lv_room (Nat.le_of_ble_eq_true rfl)) dX5_reflected_18 ⟨Nat.zero_le _, Nat.zero_le _⟩) hP hD hS hA [0, 1, 2, 3, 4, 5, 6, 7, 8, 9, 10, 11, 12] [] [0, 1, 2, 3, 4, 5, 6, 7, 8, 9, 10, 11, 12] rfl rfl rfl (by decide) rfl rfl (fun H locs hP hD hS => ?_)
    refine lv_iconst (v := 1) hx hb dX5_reflected_21 (by decide) ?_
    obtain ⟨u_1105, hc_1106, h⟩ := bd_inv h
    refine wafter_i (wr := []) (w2 := (w_D G d0 d1 d2 d3 d4 d5 d6 d7 d8 d9 d10 d11 d12 d_n d_a d_b d_c d_k d_x d_y d_d d_r d_w d_e d_1 d_2 d_o d_g d_ra d_rb d_rc u_1105.2)) (va_runV (As := [.int u_1103, .int 1]) (rest := []) ⟨hx, hb, hml, hown, hts⟩ (kX5_fails (l := l) (G := G) d0 d1 d2 d3 d4 d5 d6 d7 d8 d9 d10 d11 d12 d_n d_a d_b d_c d_k d_x d_y d_d d_r d_w d_e d_1 d_2 d_o d_g d_ra d_rb d_rc u_1100.2 u_1103 1 N u_1105 hc_1106 _) (cwV 2 hts gX5_reflected_X5_fails rfl rfl rfl (by decide +kernel) ⟨Nat.le_of_ble_eq_true rfl, Nat.le_of_ble_eq_true rfl⟩) (wPreV hP hD hK [0, 1, 2, 3, 4, 5, 6, 7, 8, 9, 10, 11, 12] rfl rfl (ci := 5) (qb := 0) rfl rfl rfl) rfl rfl hl.1 rfl (lv_room (Nat.le_of_ble_eq_true rfl)) dX5_reflected_22 ⟨Nat.zero_le _, Nat.zero_le _⟩) hP hD hS hA [0, 1, 2, 3, 4, 5, 6, 7, 8, 9, 10, 11, 12] [] [0, 1, 2, 3, 4, 5, 6, 7, 8, 9, 10, 11, 12] rfl rfl rfl (by decide) rfl rfl (fun H locs hP hD hS => ?_)
    refine lv_if_eq (tgt := 30) hx hb dX5_reflected_25 (by decide) (fun c_1107 => ?_) (fun c_1107 => ?_)
    · have h := ip c_1107 h
      refine lv_aload_n hx hb dX5_reflected_30 rfl (lv_at hl 0 rfl) ?_
      refine lv_iload_n hx hb dX5_reflected_31 rfl (lv_at hl 1 rfl) ?_
      refine lv_iload_n hx hb dX5_reflected_32 rfl (lv_at hl 2 rfl) ?_
      obtain ⟨u_1108, hc_1109, h⟩ := bd_inv h
      refine wafter_i (wr := []) (w2 := (w_D G d0 d1 d2 d3 d4 d5 d6 d7 d8 d9 d10 d11 d12 d_n d_a d_b d_c d_k d_x d_y d_d d_r d_w d_e d_1 d_2 d_o d_g u_1108.2.1 u_1108.2.2.1 u_1108.2.2.2 u_1105.2)) (va_runV (As := [.int x1, .int x2]) (rest := []) ⟨hx, hb, hml, hown, hts⟩ (kX5_reflect (l := l) (G := G) d0 d1 d2 d3 d4 d5 d6 d7 d8 d9 d10 d11 d12 d_n d_a d_b d_c d_k d_x d_y d_d d_r d_w d_e d_1 d_2 d_o d_g d_ra d_rb d_rc u_1105.2 x1 x2 N u_1108 hc_1109 _) (cwV 2 hts gX5_reflected_X5_reflect rfl rfl rfl (by decide +kernel) ⟨Nat.le_of_ble_eq_true rfl, Nat.le_of_ble_eq_true rfl⟩) (wPreV hP hD hK [0, 1, 2, 3, 4, 5, 6, 7, 8, 9, 10, 11, 12] rfl rfl (ci := 5) (qb := 0) rfl rfl rfl) rfl rfl hl.1 rfl (lv_room (Nat.le_of_ble_eq_true rfl)) dX5_reflected_33 ⟨Nat.zero_le _, Nat.zero_le _⟩) hP hD hS hA [0, 1, 2, 3, 4, 5, 6, 7, 8, 9, 10, 11, 12] [] [0, 1, 2, 3, 4, 5, 6, 7, 8, 9, 10, 11, 12] rfl rfl rfl (by decide) rfl rfl (fun H locs hP hD hS => ?_)
      obtain rfl := Option.some.inj h
      exact wri hx hb hr hlocks hP hD hS (Nat.le_of_ble_eq_true rfl) (Nat.le_of_ble_eq_true rfl) rfl dX5_reflected_36
    · have h := iq c_1107 h
      refine lv_iconst (v := 0) hx hb dX5_reflected_28 (by decide) ?_
      obtain rfl := Option.some.inj h
      exact wri hx hb hr hlocks hP hD hS (Nat.le_of_ble_eq_true rfl) (Nat.le_of_ble_eq_true rfl) rfl dX5_reflected_29
  · have h := iq c_1102 h
    refine lv_iconst (v := 0) hx hb dX5_reflected_13 (by decide) ?_
    obtain rfl := Option.some.inj h
    exact wri hx hb hr hlocks hP hD hS (Nat.le_of_ble_eq_true rfl) (Nat.le_of_ble_eq_true rfl) rfl dX5_reflected_14
def fX5_isKaleidoscope_b19 (N : Nat) (d_n : Int32) (d_a : Nat → Int32) (d_b : Nat → Int32) (d_c : Nat → Int32) (x2 : Int32) (k_51 : Int32 → Int32 → Int32 → Int32 → Option (Int32 × Int32 × Int32 × Int32 × Int32)) : Nat → Int32 → Int32 → Int32 → Int32 → Int32 → Option (Int32 × Int32 × Int32 × Int32 × Int32)
  | 0, _, _, _, _, _ => none
  | n + 1, x1, x3, d_ra, d_rb, d_rc => if d_n ≤ x3 then k_51 x1 d_ra d_rb d_rc else bd (fX5_reflect N d_n d_a d_b d_c d_ra d_rb d_rc x2 x3) (fun u_1111 => if u_1111.1 = (-1) then fX5_isKaleidoscope_b19 N d_n d_a d_b d_c x2 k_51 n (x1 &&& 0) (x3 + 1) u_1111.2.1 u_1111.2.2.1 u_1111.2.2.2 else fX5_isKaleidoscope_b19 N d_n d_a d_b d_c x2 k_51 n (x1 &&& 1) (x3 + 1) u_1111.2.1 u_1111.2.2.1 u_1111.2.2.2)
def fX5_isKaleidoscope_b9 (N : Nat) (d_n : Int32) (d_a : Nat → Int32) (d_b : Nat → Int32) (d_c : Nat → Int32) (d_t : Int32) : Nat → Int32 → Int32 → Int32 → Int32 → Int32 → Option (Int32 × Int32 × Int32 × Int32 × Int32)
  | 0, _, _, _, _, _ => none
  | n + 1, x1, x2, d_ra, d_rb, d_rc => if d_n ≤ x2 then zo x1 (some (x1, d_ra, d_rb, d_rc, d_t)) else fX5_isKaleidoscope_b19 N d_n d_a d_b d_c x2 (fun (x1_1115 : Int32) (d_ra_1116 : Int32) (d_rb_1117 : Int32) (d_rc_1118 : Int32) => fX5_isKaleidoscope_b9 N d_n d_a d_b d_c d_t n x1_1115 (x2 + 1) d_ra_1116 d_rb_1117 d_rc_1118) N x1 0 d_ra d_rb d_rc
def fX5_isKaleidoscope (N : Nat) (d_n : Int32) (d_a : Nat → Int32) (d_b : Nat → Int32) (d_c : Nat → Int32) (d_ra : Int32) (d_rb : Int32) (d_rc : Int32) (d_t : Int32) : Option (Int32 × Int32 × Int32 × Int32 × Int32) := fX5_isKaleidoscope_b9 N d_n d_a d_b d_c 0 N 1 0 d_ra d_rb d_rc
set_option maxHeartbeats 4000000 in
set_option maxRecDepth 100000 in
theorem kX5_isKaleidoscope {l : Launch} {G : wG} (d0 d1 d2 d3 d4 d5 d6 d7 d8 d9 d10 d11 d12 : Nat) (d_n : Int32) (d_a : Nat → Int32) (d_b : Nat → Int32) (d_c : Nat → Int32) (d_k : Int32) (d_x : Nat → Int32) (d_y : Nat → Int32) (d_d : Nat → Int32) (d_r : Nat → Int32) (d_w : Nat → Int32) (d_e : Int32) (d_1 : Nat → Int32) (d_2 : Nat → Int32) (d_o : Nat → Int32) (d_g : Nat → Int32) (d_ra : Int32) (d_rb : Int32) (d_rc : Int32) (d_t : Int32) (N : Nat) (v : Int32 × Int32 × Int32 × Int32 × Int32) (h : fX5_isKaleidoscope N d_n d_a d_b d_c d_ra d_rb d_rc d_t = some v) : wCi l G yX5_isKaleidoscope wsX5_isKaleidoscope ({ frames := 3, cells := 0, slots := 0, locals := 73 } : Room) [.ref d0] (w_D G d0 d1 d2 d3 d4 d5 d6 d7 d8 d9 d10 d11 d12 d_n d_a d_b d_c d_k d_x d_y d_d d_r d_w d_e d_1 d_2 d_o d_g d_ra d_rb d_rc d_t) (w_D G d0 d1 d2 d3 d4 d5 d6 d7 d8 d9 d10 d11 d12 d_n d_a d_b d_c d_k d_x d_y d_d d_r d_w d_e d_1 d_2 d_o d_g v.2.1 v.2.2.1 v.2.2.2.1 v.2.2.2.2) 0 0 v.1 := by
  refine wCi.mk (cc := cX5_isKaleidoscope) (maxL := 4) (ty := .boolean) (by decide) rfl (Nat.le_of_ble_eq_true rfl) ?_
  intro p e s m below meth c A ls hx hb hml hr hlocks hts hown hK hA hP hD hl
  have hx : p.tables.exec = Jvm.exec := hx
  have hown : s.vm.findClass RX5 = some m.cls := hown
  have hinX5 : ∀ w ∈ wsX50, w ∈ wsX5_isKaleidoscope := by decide +kernel
  have lk47 := hts (.fieldLink RX5 47 "ChamberwrightModel" "thrown" "I") (by decide +kernel)
  have lk51 := hts (.fieldLink RX5 51 "ChamberwrightModel" "lines" "I") (by decide +kernel)
  have hS : va_S A s.heap s.heap [] := va_S.rf
  have hP : va_P G.1 vwCl (w_D G d0 d1 d2 d3 d4 d5 d6 d7 d8 d9 d10 d11 d12 d_n d_a d_b d_c d_k d_x d_y d_d d_r d_w d_e d_1 d_2 d_o d_g d_ra d_rb d_rc d_t) s.heap := hP
  have hD : va_D A (w_D G d0 d1 d2 d3 d4 d5 d6 d7 d8 d9 d10 d11 d12 d_n d_a d_b d_c d_k d_x d_y d_d d_r d_w d_e d_1 d_2 d_o d_g d_ra d_rb d_rc d_t) := hD
  have hl : lv_has ls 4 [(0, .ref d0)] := hl
  obtain ⟨args, hargs⟩ : ∃ z : Array Value, z = ([.ref d0] : List Value).toArray := ⟨_, rfl⟩
  rw [← hargs]
  rw [← hargs] at hts
  have w_19 : ∀ (k_51 : Int32 → Int32 → Int32 → Int32 → Option (Int32 × Int32 × Int32 × Int32 × Int32)) (x2 : Int32) (d_t : Int32) (_z : Unit), (∀ (y1 : Int32) (yd_ra : Int32) (yd_rb : Int32) (yd_rc : Int32) (H : Heap) (locs : List Loc) (ls : Array Slot), va_P G.1 vwCl (w_D G d0 d1 d2 d3 d4 d5 d6 d7 d8 d9 d10 d11 d12 d_n d_a d_b d_c d_k d_x d_y d_d d_r d_w d_e d_1 d_2 d_o d_g yd_ra yd_rb yd_rc d_t) H → va_D A (w_D G d0 d1 d2 d3 d4 d5 d6 d7 d8 d9 d10 d11 d12 d_n d_a d_b d_c d_k d_x d_y d_d d_r d_w d_e d_1 d_2 d_o d_g yd_ra yd_rb yd_rc d_t) → va_S A s.heap H locs → lv_has ls 4 [(0, .ref d0), (1, .int y1), (2, .int x2)] → k_51 y1 yd_ra yd_rb yd_rc = some v → W p l e ({ frames := 3, cells := 0, slots := 0, locals := 73 } : Room) s m args below meth c H locs 0 0 (wQi G A below args s (w_D G d0 d1 d2 d3 d4 d5 d6 d7 d8 d9 d10 d11 d12 d_n d_a d_b d_c d_k d_x d_y d_d d_r d_w d_e d_1 d_2 d_o d_g v.2.1 v.2.2.1 v.2.2.2.1 v.2.2.2.2) 0 0 v.1) (F0 m 51 ls [])) → ∀ (n : Nat) (x1 : Int32) (x3 : Int32) (d_ra : Int32) (d_rb : Int32) (d_rc : Int32) (H : Heap) (locs : List Loc) (ls : Array Slot), va_P G.1 vwCl (w_D G d0 d1 d2 d3 d4 d5 d6 d7 d8 d9 d10 d11 d12 d_n d_a d_b d_c d_k d_x d_y d_d d_r d_w d_e d_1 d_2 d_o d_g d_ra d_rb d_rc d_t) H → va_D A (w_D G d0 d1 d2 d3 d4 d5 d6 d7 d8 d9 d10 d11 d12 d_n d_a d_b d_c d_k d_x d_y d_d d_r d_w d_e d_1 d_2 d_o d_g d_ra d_rb d_rc d_t) → va_S A s.heap H locs → lv_has ls 4 [(0, .ref d0), (1, .int x1), (2, .int x2), (3, .int x3)] → fX5_isKaleidoscope_b19 N d_n d_a d_b d_c x2 k_51 n x1 x3 d_ra d_rb d_rc = some v → W p l e ({ frames := 3, cells := 0, slots := 0, locals := 73 } : Room) s m args below meth c H locs 0 0 (wQi G A below args s (w_D G d0 d1 d2 d3 d4 d5 d6 d7 d8 d9 d10 d11 d12 d_n d_a d_b d_c d_k d_x d_y d_d d_r d_w d_e d_1 d_2 d_o d_g v.2.1 v.2.2.1 v.2.2.2.1 v.2.2.2.2) 0 0 v.1) (F0 m 19 ls []) := by
    intro k_51 x2 d_t _z hk_51 n
    induction n with
    | zero =>
      intro x1 x3 d_ra d_rb d_rc H locs ls hP hD hS hl h
      rw [fX5_isKaleidoscope_b19.eq_1] at h
      cases h
    | succ n ih =>
      intro x1 x3 d_ra d_rb d_rc H locs ls hP hD hS hl h
      rw [fX5_isKaleidoscope_b19.eq_2] at h
      refine lv_iload_n hx hb dX5_isKaleidoscope_19 rfl (lv_at hl 3 rfl) ?_
      refine lv_aload_n hx hb dX5_isKaleidoscope_20 rfl (lv_at hl 0 rfl) ?_
      refine va_get (D := G.1) (ci := 5) (v := .int d_n) (C := RX5) (T := TX5) (N := 19) hx hb hts hinX5 hown hK.1 hP 0 rfl rfl 0 (by decide) lk51 (fun _ h9 => h9) rfl dX5_isKaleidoscope_21 ?_
      refine lv_icmp_ge (tgt := 51) hx hb dX5_isKaleidoscope_24 (by decide) (fun c_1110 => ?_) (fun c_1110 => ?_)
      · have h := ip c_1110 h
        exact hk_51 _ _ _ _ _ _ _ hP hD hS (lv_sub hl [0, 1, 2] rfl) h
      · have h := iq c_1110 h
        refine lv_iload_n hx hb dX5_isKaleidoscope_27 rfl (lv_at hl 1 rfl) ?_
        refine lv_aload_n hx hb dX5_isKaleidoscope_28 rfl (lv_at hl 0 rfl) ?_
        refine lv_iload_n hx hb dX5_isKaleidoscope_29 rfl (lv_at hl 2 rfl) ?_
        refine lv_iload_n hx hb dX5_isKaleidoscope_30 rfl (lv_at hl 3 rfl) ?_
        obtain ⟨u_1111, hc_1112, h⟩ := bd_inv h
        refine wafter_i (wr := []) (w2 := (w_D G d0 d1 d2 d3 d4 d5 d6 d7 d8 d9 d10 d11 d12 d_n d_a d_b d_c d_k d_x d_y d_d d_r d_w d_e d_1 d_2 d_o d_g u_1111.2.1 u_1111.2.2.1 u_1111.2.2.2 d_t)) (va_runV (As := [.int x2, .int x3]) (rest := [.int x1]) ⟨hx, hb, hml, hown, hts⟩ (kX5_reflect (l := l) (G := G) d0 d1 d2 d3 d4 d5 d6 d7 d8 d9 d10 d11 d12 d_n d_a d_b d_c d_k d_x d_y d_d d_r d_w d_e d_1 d_2 d_o d_g d_ra d_rb d_rc d_t x2 x3 N u_1111 hc_1112 _) (cwV 2 hts gX5_isKaleidoscope_X5_reflect rfl rfl rfl (by decide +kernel) ⟨Nat.le_of_ble_eq_true rfl, Nat.le_of_ble_eq_true rfl⟩) (wPreV hP hD hK [0, 1, 2, 3, 4, 5, 6, 7, 8, 9, 10, 11, 12] rfl rfl (ci := 5) (qb := 0) rfl rfl rfl) rfl rfl hl.1 rfl (lv_room (Nat.le_of_ble_eq_true rfl)) dX5_isKaleidoscope_31 ⟨Nat.zero_le _, Nat.zero_le _⟩) hP hD hS hA [0, 1, 2, 3, 4, 5, 6, 7, 8, 9, 10, 11, 12] [] [0, 1, 2, 3, 4, 5, 6, 7, 8, 9, 10, 11, 12] rfl rfl rfl (by decide) rfl rfl (fun H locs hP hD hS => ?_)
        refine lv_iconst (v := (-1)) hx hb dX5_isKaleidoscope_34 (by decide) ?_
        refine lv_icmp_eq (tgt := 42) hx hb dX5_isKaleidoscope_35 (by decide) (fun c_1113 => ?_) (fun c_1113 => ?_)
        · have h := ip c_1113 h
          refine lv_iconst (v := 0) hx hb dX5_isKaleidoscope_42 (by decide) ?_
          refine lv_iand hx hb dX5_isKaleidoscope_43 ?_
          refine lv_istore_n (lv' := [(1, .int (x1 &&& 0)), (0, .ref d0), (2, .int x2), (3, .int x3)]) hx hb dX5_isKaleidoscope_44 rfl hl (by decide) rfl (fun ls hl => ?_)
          refine lv_iinc (v := (x3 + 1)) (lv' := [(3, .int (x3 + 1)), (1, .int (x1 &&& 0)), (0, .ref d0), (2, .int x2)]) hx hb dX5_isKaleidoscope_45 hl (k := 3) rfl rfl (by decide) rfl (fun ls hl => ?_)
          refine lv_goto (tgt := 19) hx hb dX5_isKaleidoscope_48 (by decide) ?_
          exact ih _ _ _ _ _ _ _ _ hP hD hS (lv_sub hl [2, 1, 3, 0] rfl) h
        · have h := iq c_1113 h
          refine lv_iconst (v := 1) hx hb dX5_isKaleidoscope_38 (by decide) ?_
          refine lv_goto (tgt := 43) hx hb dX5_isKaleidoscope_39 (by decide) ?_
          refine lv_iand hx hb dX5_isKaleidoscope_43 ?_
          refine lv_istore_n (lv' := [(1, .int (x1 &&& 1)), (0, .ref d0), (2, .int x2), (3, .int x3)]) hx hb dX5_isKaleidoscope_44 rfl hl (by decide) rfl (fun ls hl => ?_)
          refine lv_iinc (v := (x3 + 1)) (lv' := [(3, .int (x3 + 1)), (1, .int (x1 &&& 1)), (0, .ref d0), (2, .int x2)]) hx hb dX5_isKaleidoscope_45 hl (k := 3) rfl rfl (by decide) rfl (fun ls hl => ?_)
          refine lv_goto (tgt := 19) hx hb dX5_isKaleidoscope_48 (by decide) ?_
          exact ih _ _ _ _ _ _ _ _ hP hD hS (lv_sub hl [2, 1, 3, 0] rfl) h
  have w_9 : ∀  (d_t : Int32) (_z : Unit), ∀ (n : Nat) (x1 : Int32) (x2 : Int32) (d_ra : Int32) (d_rb : Int32) (d_rc : Int32) (H : Heap) (locs : List Loc) (ls : Array Slot), va_P G.1 vwCl (w_D G d0 d1 d2 d3 d4 d5 d6 d7 d8 d9 d10 d11 d12 d_n d_a d_b d_c d_k d_x d_y d_d d_r d_w d_e d_1 d_2 d_o d_g d_ra d_rb d_rc d_t) H → va_D A (w_D G d0 d1 d2 d3 d4 d5 d6 d7 d8 d9 d10 d11 d12 d_n d_a d_b d_c d_k d_x d_y d_d d_r d_w d_e d_1 d_2 d_o d_g d_ra d_rb d_rc d_t) → va_S A s.heap H locs → lv_has ls 4 [(0, .ref d0), (1, .int x1), (2, .int x2)] → fX5_isKaleidoscope_b9 N d_n d_a d_b d_c d_t n x1 x2 d_ra d_rb d_rc = some v → W p l e ({ frames := 3, cells := 0, slots := 0, locals := 73 } : Room) s m args below meth c H locs 0 0 (wQi G A below args s (w_D G d0 d1 d2 d3 d4 d5 d6 d7 d8 d9 d10 d11 d12 d_n d_a d_b d_c d_k d_x d_y d_d d_r d_w d_e d_1 d_2 d_o d_g v.2.1 v.2.2.1 v.2.2.2.1 v.2.2.2.2) 0 0 v.1) (F0 m 9 ls []) := by
    intro d_t _z n
    induction n with
    | zero =>
      intro x1 x2 d_ra d_rb d_rc H locs ls hP hD hS hl h
      rw [fX5_isKaleidoscope_b9.eq_1] at h
      cases h
    | succ n ih =>
      intro x1 x2 d_ra d_rb d_rc H locs ls hP hD hS hl h
      rw [fX5_isKaleidoscope_b9.eq_2] at h
      refine lv_iload_n hx hb dX5_isKaleidoscope_9 rfl (lv_at hl 2 rfl) ?_
      refine lv_aload_n hx hb dX5_isKaleidoscope_10 rfl (lv_at hl 0 rfl) ?_
      refine va_get (D := G.1) (ci := 5) (v := .int d_n) (C := RX5) (T := TX5) (N := 19) hx hb hts hinX5 hown hK.1 hP 0 rfl rfl 0 (by decide) lk51 (fun _ h9 => h9) rfl dX5_isKaleidoscope_11 ?_
      refine lv_icmp_ge (tgt := 57) hx hb dX5_isKaleidoscope_14 (by decide) (fun c_1114 => ?_) (fun c_1114 => ?_)
      · have h := ip c_1114 h
        refine lv_iload_n hx hb dX5_isKaleidoscope_57 rfl (lv_at hl 1 rfl) ?_
        obtain ⟨hz, h⟩ := zo_inv h
        obtain rfl := Option.some.inj h
        exact wrz hx hb hr hlocks hP hD hS (Nat.le_of_ble_eq_true rfl) (Nat.le_of_ble_eq_true rfl) hz rfl dX5_isKaleidoscope_58
      · have h := iq c_1114 h
        refine lv_iconst (v := 0) hx hb dX5_isKaleidoscope_17 (by decide) ?_
        refine lv_istore_n (lv' := [(3, .int 0), (0, .ref d0), (1, .int x1), (2, .int x2)]) hx hb dX5_isKaleidoscope_18 rfl hl (by decide) rfl (fun ls hl => ?_)
        refine w_19 _ _ _ () (fun x1_1115 d_ra_1116 d_rb_1117 d_rc_1118 H locs ls hP hD hS hl h => ?_) N _ _ _ _ _ _ _ _ hP hD hS (lv_sub hl [1, 2, 3, 0] rfl) h
        refine lv_iinc (v := (x2 + 1)) (lv' := [(2, .int (x2 + 1)), (0, .ref d0), (1, .int x1_1115)]) hx hb dX5_isKaleidoscope_51 hl (k := 2) rfl rfl (by decide) rfl (fun ls hl => ?_)
        refine lv_goto (tgt := 9) hx hb dX5_isKaleidoscope_54 (by decide) ?_
        exact ih _ _ _ _ _ _ _ _ hP hD hS (lv_sub hl [1, 2, 0] rfl) h
  rw [fX5_isKaleidoscope.eq_1] at h
  refine lv_aload_n hx hb dX5_isKaleidoscope_0 rfl (lv_at hl 0 rfl) ?_
  refine lv_iconst (v := 0) hx hb dX5_isKaleidoscope_1 (by decide) ?_
  refine va_put (D := G.1) (ci := 5) (v := .int 0) (ty := .int) (C := RX5) (T := TX5) (N := 19) hx hb hts hinX5 tyX5 tyX5_ok nmX5 hown hK.1 hP hD hS 0 rfl rfl 18 (by decide) lk47 (fun _ h9 => h9) rfl (by decide +kernel) rfl rfl (Nat.le_of_ble_eq_true rfl) dX5_isKaleidoscope_2 (fun H locs hP hD hS => ?_)
  have hP : va_P G.1 vwCl (w_D G d0 d1 d2 d3 d4 d5 d6 d7 d8 d9 d10 d11 d12 d_n d_a d_b d_c d_k d_x d_y d_d d_r d_w d_e d_1 d_2 d_o d_g d_ra d_rb d_rc 0) H := hP
  have hD : va_D A (w_D G d0 d1 d2 d3 d4 d5 d6 d7 d8 d9 d10 d11 d12 d_n d_a d_b d_c d_k d_x d_y d_d d_r d_w d_e d_1 d_2 d_o d_g d_ra d_rb d_rc 0) := hD
  refine lv_iconst (v := 1) hx hb dX5_isKaleidoscope_5 (by decide) ?_
  refine lv_istore_n (lv' := [(1, .int 1), (0, .ref d0)]) hx hb dX5_isKaleidoscope_6 rfl hl (by decide) rfl (fun ls hl => ?_)
  refine lv_iconst (v := 0) hx hb dX5_isKaleidoscope_7 (by decide) ?_
  refine lv_istore_n (lv' := [(2, .int 0), (1, .int 1), (0, .ref d0)]) hx hb dX5_isKaleidoscope_8 rfl hl (by decide) rfl (fun ls hl => ?_)
  exact w_9   _ ()  N _ _ _ _ _ _ _ _ hP hD hS (lv_sub hl [2, 1, 0] rfl) h
def fX5_isPair_b5 (N : Nat) (d_n : Int32) (d_a : Nat → Int32) (d_b : Nat → Int32) (d_c : Nat → Int32) (d_k : Int32) (d_x : Nat → Int32) (d_y : Nat → Int32) (d_d : Nat → Int32) (x1 : Int32) (x2 : Int32) : Nat → Int32 → Int32 → Option (Int32)
  | 0, _, _ => none
  | n + 1, x3, x4 => if d_k ≤ x4 then zo x3 (some x3) else bd (fX5_through N d_n d_a d_b d_c d_x d_y d_d x4) (fun u_1120 => if ((u_1120 >>> (x1 &&& 31)) &&& 1) = 1 then if ((u_1120 >>> (x2 &&& 31)) &&& 1) = 1 then if (u_1120 &&& ((1 <<< (x1 &&& 31)) - 1)) = 0 then fX5_isPair_b5 N d_n d_a d_b d_c d_k d_x d_y d_d x1 x2 n (x3 ||| 1) (x4 + 1) else fX5_isPair_b5 N d_n d_a d_b d_c d_k d_x d_y d_d x1 x2 n (x3 ||| 0) (x4 + 1) else fX5_isPair_b5 N d_n d_a d_b d_c d_k d_x d_y d_d x1 x2 n (x3 ||| 0) (x4 + 1) else fX5_isPair_b5 N d_n d_a d_b d_c d_k d_x d_y d_d x1 x2 n (x3 ||| 0) (x4 + 1))
def fX5_isPair (N : Nat) (d_n : Int32) (d_a : Nat → Int32) (d_b : Nat → Int32) (d_c : Nat → Int32) (d_k : Int32) (d_x : Nat → Int32) (d_y : Nat → Int32) (d_d : Nat → Int32) (x1 : Int32) (x2 : Int32) : Option (Int32) := fX5_isPair_b5 N d_n d_a d_b d_c d_k d_x d_y d_d x1 x2 N 0 0
set_option maxHeartbeats 4000000 in
set_option maxRecDepth 100000 in
theorem kX5_isPair {l : Launch} {G : wG} (d0 d1 d2 d3 d4 d5 d6 d7 d8 d9 d10 d11 d12 : Nat) (d_n : Int32) (d_a : Nat → Int32) (d_b : Nat → Int32) (d_c : Nat → Int32) (d_k : Int32) (d_x : Nat → Int32) (d_y : Nat → Int32) (d_d : Nat → Int32) (d_r : Nat → Int32) (d_w : Nat → Int32) (d_e : Int32) (d_1 : Nat → Int32) (d_2 : Nat → Int32) (d_o : Nat → Int32) (d_g : Nat → Int32) (d_ra : Int32) (d_rb : Int32) (d_rc : Int32) (d_t : Int32) (x1 : Int32) (x2 : Int32) (N : Nat) (v : Int32) (h : fX5_isPair N d_n d_a d_b d_c d_k d_x d_y d_d x1 x2 = some v) : wCi l G yX5_isPair wsX5_isPair ({ frames := 3, cells := 0, slots := 0, locals := 65 } : Room) [.ref d0, .int x1, .int x2] (w_D G d0 d1 d2 d3 d4 d5 d6 d7 d8 d9 d10 d11 d12 d_n d_a d_b d_c d_k d_x d_y d_d d_r d_w d_e d_1 d_2 d_o d_g d_ra d_rb d_rc d_t) (w_D G d0 d1 d2 d3 d4 d5 d6 d7 d8 d9 d10 d11 d12 d_n d_a d_b d_c d_k d_x d_y d_d d_r d_w d_e d_1 d_2 d_o d_g d_ra d_rb d_rc d_t) 0 0 v := by
  refine wCi.mk (cc := cX5_isPair) (maxL := 6) (ty := .boolean) (by decide) rfl (Nat.le_of_ble_eq_true rfl) ?_
  intro p e s m below meth c A ls hx hb hml hr hlocks hts hown hK hA hP hD hl
  have hx : p.tables.exec = Jvm.exec := hx
  have hown : s.vm.findClass RX5 = some m.cls := hown
  have hinX5 : ∀ w ∈ wsX50, w ∈ wsX5_isPair := by decide +kernel
  have lk78 := hts (.fieldLink RX5 78 "ChamberwrightModel" "meets" "I") (by decide +kernel)
  have hS : va_S A s.heap s.heap [] := va_S.rf
  have hP : va_P G.1 vwCl (w_D G d0 d1 d2 d3 d4 d5 d6 d7 d8 d9 d10 d11 d12 d_n d_a d_b d_c d_k d_x d_y d_d d_r d_w d_e d_1 d_2 d_o d_g d_ra d_rb d_rc d_t) s.heap := hP
  have hD : va_D A (w_D G d0 d1 d2 d3 d4 d5 d6 d7 d8 d9 d10 d11 d12 d_n d_a d_b d_c d_k d_x d_y d_d d_r d_w d_e d_1 d_2 d_o d_g d_ra d_rb d_rc d_t) := hD
  have hl : lv_has ls 6 [(0, .ref d0), (1, .int x1), (2, .int x2)] := hl
  obtain ⟨args, hargs⟩ : ∃ z : Array Value, z = ([.ref d0, .int x1, .int x2] : List Value).toArray := ⟨_, rfl⟩
  rw [← hargs]
  rw [← hargs] at hts
  have w_5 : ∀ (x1 : Int32) (x2 : Int32)  (_z : Unit), ∀ (n : Nat) (x3 : Int32) (x4 : Int32)  (H : Heap) (locs : List Loc) (ls : Array Slot), va_P G.1 vwCl (w_D G d0 d1 d2 d3 d4 d5 d6 d7 d8 d9 d10 d11 d12 d_n d_a d_b d_c d_k d_x d_y d_d d_r d_w d_e d_1 d_2 d_o d_g d_ra d_rb d_rc d_t) H → va_D A (w_D G d0 d1 d2 d3 d4 d5 d6 d7 d8 d9 d10 d11 d12 d_n d_a d_b d_c d_k d_x d_y d_d d_r d_w d_e d_1 d_2 d_o d_g d_ra d_rb d_rc d_t) → va_S A s.heap H locs → lv_has ls 6 [(0, .ref d0), (1, .int x1), (2, .int x2), (3, .int x3), (4, .int x4)] → fX5_isPair_b5 N d_n d_a d_b d_c d_k d_x d_y d_d x1 x2 n x3 x4 = some v → W p l e ({ frames := 3, cells := 0, slots := 0, locals := 65 } : Room) s m args below meth c H locs 0 0 (wQi G A below args s (w_D G d0 d1 d2 d3 d4 d5 d6 d7 d8 d9 d10 d11 d12 d_n d_a d_b d_c d_k d_x d_y d_d d_r d_w d_e d_1 d_2 d_o d_g d_ra d_rb d_rc d_t) 0 0 v) (F0 m 5 ls []) := by
    intro x1 x2 _z n
    induction n with
    | zero =>
      intro x3 x4 H locs ls hP hD hS hl h
      rw [fX5_isPair_b5.eq_1] at h
      cases h
    | succ n ih =>
      intro x3 x4 H locs ls hP hD hS hl h
      rw [fX5_isPair_b5.eq_2] at h
      refine lv_iload hx hb dX5_isPair_5 (lv_at hl 4 rfl) ?_
      refine lv_aload_n hx hb dX5_isPair_7 rfl (lv_at hl 0 rfl) ?_
      refine va_get (D := G.1) (ci := 5) (v := .int d_k) (C := RX5) (T := TX5) (N := 19) hx hb hts hinX5 hown hK.1 hP 0 rfl rfl 4 (by decide) lk78 (fun _ h9 => h9) rfl dX5_isPair_8 ?_
      refine lv_icmp_ge (tgt := 67) hx hb dX5_isPair_11 (by decide) (fun c_1119 => ?_) (fun c_1119 => ?_)
      · have h := ip c_1119 h
        refine lv_iload_n hx hb dX5_isPair_67 rfl (lv_at hl 3 rfl) ?_
        obtain ⟨hz, h⟩ := zo_inv h
        obtain rfl := Option.some.inj h
        exact wrz hx hb hr hlocks hP hD hS (Nat.le_of_ble_eq_true rfl) (Nat.le_of_ble_eq_true rfl) hz rfl dX5_isPair_68
      · have h := iq c_1119 h
        refine lv_aload_n hx hb dX5_isPair_14 rfl (lv_at hl 0 rfl) ?_
        refine lv_iload hx hb dX5_isPair_15 (lv_at hl 4 rfl) ?_
        obtain ⟨u_1120, hc_1121, h⟩ := bd_inv h
        refine wafter_i (wr := []) (w2 := (w_D G d0 d1 d2 d3 d4 d5 d6 d7 d8 d9 d10 d11 d12 d_n d_a d_b d_c d_k d_x d_y d_d d_r d_w d_e d_1 d_2 d_o d_g d_ra d_rb d_rc d_t)) (va_runV (As := [.int x4]) (rest := []) ⟨hx, hb, hml, hown, hts⟩ (kX5_through (l := l) (G := G) d0 d1 d2 d3 d4 d5 d6 d7 d8 d9 d10 d11 d12 d_n d_a d_b d_c d_k d_x d_y d_d d_r d_w d_e d_1 d_2 d_o d_g d_ra d_rb d_rc d_t x4 N u_1120 hc_1121 _) (cwV 1 hts gX5_isPair_X5_through rfl rfl rfl (by decide +kernel) ⟨Nat.le_of_ble_eq_true rfl, Nat.le_of_ble_eq_true rfl⟩) (wPreV hP hD hK [0, 1, 2, 3, 4, 5, 6, 7, 8, 9, 10, 11, 12] rfl rfl (ci := 5) (qb := 0) rfl rfl rfl) rfl rfl hl.1 rfl (lv_room (Nat.le_of_ble_eq_true rfl)) dX5_isPair_17 ⟨Nat.zero_le _, Nat.zero_le _⟩) hP hD hS hA [0, 1, 2, 3, 4, 5, 6, 7, 8, 9, 10, 11, 12] [] [0, 1, 2, 3, 4, 5, 6, 7, 8, 9, 10, 11, 12] rfl rfl rfl (by decide) rfl rfl (fun H locs hP hD hS => ?_)
        refine lv_istore (lv' := [(5, .int u_1120), (0, .ref d0), (1, .int x1), (2, .int x2), (3, .int x3), (4, .int x4)]) hx hb dX5_isPair_20 hl (by decide) rfl (fun ls hl => ?_)
        refine lv_iload_n hx hb dX5_isPair_22 rfl (lv_at hl 4 rfl) ?_
        refine lv_iload hx hb dX5_isPair_23 (lv_at hl 0 rfl) ?_
        refine lv_iload_n hx hb dX5_isPair_25 rfl (lv_at hl 2 rfl) ?_
        refine lv_ishr hx hb dX5_isPair_26 ?_
        refine lv_iconst (v := 1) hx hb dX5_isPair_27 (by decide) ?_
        refine lv_iand hx hb dX5_isPair_28 ?_
        refine lv_iconst (v := 1) hx hb dX5_isPair_29 (by decide) ?_
        refine lv_icmp_ne (tgt := 58) hx hb dX5_isPair_30 (by decide) (fun c_1122 => ?_) (fun c_1122 => ?_)
        · have h := iq c_1122 h
          refine lv_iconst (v := 0) hx hb dX5_isPair_58 (by decide) ?_
          refine lv_ior hx hb dX5_isPair_59 ?_
          refine lv_istore_n (lv' := [(3, .int (x3 ||| 0)), (5, .int u_1120), (0, .ref d0), (1, .int x1), (2, .int x2), (4, .int x4)]) hx hb dX5_isPair_60 rfl hl (by decide) rfl (fun ls hl => ?_)
          refine lv_iinc (v := (x4 + 1)) (lv' := [(4, .int (x4 + 1)), (3, .int (x3 ||| 0)), (5, .int u_1120), (0, .ref d0), (1, .int x1), (2, .int x2)]) hx hb dX5_isPair_61 hl (k := 5) rfl rfl (by decide) rfl (fun ls hl => ?_)
          refine lv_goto (tgt := 5) hx hb dX5_isPair_64 (by decide) ?_
          exact ih _ _ _ _ _ hP hD hS (lv_sub hl [3, 4, 5, 1, 0] rfl) h
        · have h := ip c_1122 h
          refine lv_iload hx hb dX5_isPair_33 (lv_at hl 0 rfl) ?_
          refine lv_iload_n hx hb dX5_isPair_35 rfl (lv_at hl 3 rfl) ?_
          refine lv_ishr hx hb dX5_isPair_36 ?_
          refine lv_iconst (v := 1) hx hb dX5_isPair_37 (by decide) ?_
          refine lv_iand hx hb dX5_isPair_38 ?_
          refine lv_iconst (v := 1) hx hb dX5_isPair_39 (by decide) ?_
          refine lv_icmp_ne (tgt := 58) hx hb dX5_isPair_40 (by decide) (fun c_1123 => ?_) (fun c_1123 => ?_)
          · have h := iq c_1123 h
            refine lv_iconst (v := 0) hx hb dX5_isPair_58 (by decide) ?_
            refine lv_ior hx hb dX5_isPair_59 ?_
            refine lv_istore_n (lv' := [(3, .int (x3 ||| 0)), (5, .int u_1120), (0, .ref d0), (1, .int x1), (2, .int x2), (4, .int x4)]) hx hb dX5_isPair_60 rfl hl (by decide) rfl (fun ls hl => ?_)
            refine lv_iinc (v := (x4 + 1)) (lv' := [(4, .int (x4 + 1)), (3, .int (x3 ||| 0)), (5, .int u_1120), (0, .ref d0), (1, .int x1), (2, .int x2)]) hx hb dX5_isPair_61 hl (k := 5) rfl rfl (by decide) rfl (fun ls hl => ?_)
            refine lv_goto (tgt := 5) hx hb dX5_isPair_64 (by decide) ?_
            exact ih _ _ _ _ _ hP hD hS (lv_sub hl [3, 4, 5, 1, 0] rfl) h
          · have h := ip c_1123 h
            refine lv_iload hx hb dX5_isPair_43 (lv_at hl 0 rfl) ?_
            refine lv_iconst (v := 1) hx hb dX5_isPair_45 (by decide) ?_
            refine lv_iload_n hx hb dX5_isPair_46 rfl (lv_at hl 2 rfl) ?_
            refine lv_ishl hx hb dX5_isPair_47 ?_
            refine lv_iconst (v := 1) hx hb dX5_isPair_48 (by decide) ?_
            refine lv_isub hx hb dX5_isPair_49 ?_
            refine lv_iand hx hb dX5_isPair_50 ?_
            refine lv_if_ne (tgt := 58) hx hb dX5_isPair_51 (by decide) (fun c_1124 => ?_) (fun c_1124 => ?_)
            · have h := iq c_1124 h
              refine lv_iconst (v := 0) hx hb dX5_isPair_58 (by decide) ?_
              refine lv_ior hx hb dX5_isPair_59 ?_
              refine lv_istore_n (lv' := [(3, .int (x3 ||| 0)), (5, .int u_1120), (0, .ref d0), (1, .int x1), (2, .int x2), (4, .int x4)]) hx hb dX5_isPair_60 rfl hl (by decide) rfl (fun ls hl => ?_)
              refine lv_iinc (v := (x4 + 1)) (lv' := [(4, .int (x4 + 1)), (3, .int (x3 ||| 0)), (5, .int u_1120), (0, .ref d0), (1, .int x1), (2, .int x2)]) hx hb dX5_isPair_61 hl (k := 5) rfl rfl (by decide) rfl (fun ls hl => ?_)
              refine lv_goto (tgt := 5) hx hb dX5_isPair_64 (by decide) ?_
              exact ih _ _ _ _ _ hP hD hS (lv_sub hl [3, 4, 5, 1, 0] rfl) h
            · have h := ip c_1124 h
              refine lv_iconst (v := 1) hx hb dX5_isPair_54 (by decide) ?_
              refine lv_goto (tgt := 59) hx hb dX5_isPair_55 (by decide) ?_
              refine lv_ior hx hb dX5_isPair_59 ?_
              refine lv_istore_n (lv' := [(3, .int (x3 ||| 1)), (5, .int u_1120), (0, .ref d0), (1, .int x1), (2, .int x2), (4, .int x4)]) hx hb dX5_isPair_60 rfl hl (by decide) rfl (fun ls hl => ?_)
              refine lv_iinc (v := (x4 + 1)) (lv' := [(4, .int (x4 + 1)), (3, .int (x3 ||| 1)), (5, .int u_1120), (0, .ref d0), (1, .int x1), (2, .int x2)]) hx hb dX5_isPair_61 hl (k := 5) rfl rfl (by decide) rfl (fun ls hl => ?_)
              refine lv_goto (tgt := 5) hx hb dX5_isPair_64 (by decide) ?_
              exact ih _ _ _ _ _ hP hD hS (lv_sub hl [3, 4, 5, 1, 0] rfl) h
  rw [fX5_isPair.eq_1] at h
  refine lv_iconst (v := 0) hx hb dX5_isPair_0 (by decide) ?_
  refine lv_istore_n (lv' := [(3, .int 0), (0, .ref d0), (1, .int x1), (2, .int x2)]) hx hb dX5_isPair_1 rfl hl (by decide) rfl (fun ls hl => ?_)
  refine lv_iconst (v := 0) hx hb dX5_isPair_2 (by decide) ?_
  refine lv_istore (lv' := [(4, .int 0), (3, .int 0), (0, .ref d0), (1, .int x1), (2, .int x2)]) hx hb dX5_isPair_3 hl (by decide) rfl (fun ls hl => ?_)
  exact w_5  _ _  ()  N _ _  _ _ _ hP hD hS (lv_sub hl [2, 3, 4, 1, 0] rfl) h
def fX5_pairs_b25 (N : Nat) (d_n : Int32) (d_a : Nat → Int32) (d_b : Nat → Int32) (d_c : Nat → Int32) (d_k : Int32) (d_x : Nat → Int32) (d_y : Nat → Int32) (d_d : Nat → Int32) (x2 : Int32) (k_56 : Int32 → Option (Int32 × Int32 × (Nat → Int32) × (Nat → Int32) × (Nat → Int32) × Int32)) : Nat → Int32 → Int32 → Option (Int32 × Int32 × (Nat → Int32) × (Nat → Int32) × (Nat → Int32) × Int32)
  | 0, _, _ => none
  | n + 1, x1, x3 => if d_n ≤ x3 then k_56 x1 else bd (fX5_isPair N d_n d_a d_b d_c d_k d_x d_y d_d x2 x3) (fun u_1126 => if u_1126 = 0 then fX5_pairs_b25 N d_n d_a d_b d_c d_k d_x d_y d_d x2 k_56 n (x1 + 0) (x3 + 1) else fX5_pairs_b25 N d_n d_a d_b d_c d_k d_x d_y d_d x2 k_56 n (x1 + 1) (x3 + 1))
def fX5_pairs_b13 (N : Nat) (d_n : Int32) (d_a : Nat → Int32) (d_b : Nat → Int32) (d_c : Nat → Int32) (d_k : Int32) (d_x : Nat → Int32) (d_y : Nat → Int32) (d_d : Nat → Int32) (d_t : Int32) : Nat → Int32 → Int32 → Option (Int32 × Int32 × (Nat → Int32) × (Nat → Int32) × (Nat → Int32) × Int32)
  | 0, _, _ => none
  | n + 1, x1, x2 => if d_n ≤ x2 then some (x1, d_k, d_x, d_y, d_d, d_t) else fX5_pairs_b25 N d_n d_a d_b d_c d_k d_x d_y d_d x2 (fun (x1_1130 : Int32) => fX5_pairs_b13 N d_n d_a d_b d_c d_k d_x d_y d_d d_t n x1_1130 (x2 + 1)) N x1 (x2 + 1)
def fX5_pairs (N : Nat) (d_n : Int32) (d_a : Nat → Int32) (d_b : Nat → Int32) (d_c : Nat → Int32) (d_k : Int32) (d_x : Nat → Int32) (d_y : Nat → Int32) (d_d : Nat → Int32) (d_t : Int32) : Option (Int32 × Int32 × (Nat → Int32) × (Nat → Int32) × (Nat → Int32) × Int32) := bd (fX5_findMeets N d_n d_a d_b d_c d_k d_x d_y d_d) (fun u_1131 => fX5_pairs_b13 N d_n d_a d_b d_c u_1131.1 u_1131.2.1 u_1131.2.2.1 u_1131.2.2.2 0 N 0 0)
set_option maxHeartbeats 4000000 in
set_option maxRecDepth 100000 in
theorem kX5_pairs {l : Launch} {G : wG} (d0 d1 d2 d3 d4 d5 d6 d7 d8 d9 d10 d11 d12 : Nat) (d_n : Int32) (d_a : Nat → Int32) (d_b : Nat → Int32) (d_c : Nat → Int32) (d_k : Int32) (d_x : Nat → Int32) (d_y : Nat → Int32) (d_d : Nat → Int32) (d_r : Nat → Int32) (d_w : Nat → Int32) (d_e : Int32) (d_1 : Nat → Int32) (d_2 : Nat → Int32) (d_o : Nat → Int32) (d_g : Nat → Int32) (d_ra : Int32) (d_rb : Int32) (d_rc : Int32) (d_t : Int32) (N : Nat) (v : Int32 × Int32 × (Nat → Int32) × (Nat → Int32) × (Nat → Int32) × Int32) (h : fX5_pairs N d_n d_a d_b d_c d_k d_x d_y d_d d_t = some v) : wCi l G yX5_pairs wsX5_pairs ({ frames := 4, cells := 0, slots := 0, locals := 90 } : Room) [.ref d0] (w_D G d0 d1 d2 d3 d4 d5 d6 d7 d8 d9 d10 d11 d12 d_n d_a d_b d_c d_k d_x d_y d_d d_r d_w d_e d_1 d_2 d_o d_g d_ra d_rb d_rc d_t) (w_D G d0 d1 d2 d3 d4 d5 d6 d7 d8 d9 d10 d11 d12 d_n d_a d_b d_c v.2.1 v.2.2.1 v.2.2.2.1 v.2.2.2.2.1 d_r d_w d_e d_1 d_2 d_o d_g d_ra d_rb d_rc v.2.2.2.2.2) 0 0 v.1 := by
  refine wCi.mk (cc := cX5_pairs) (maxL := 4) (ty := .int) (by decide) rfl (Nat.le_of_ble_eq_true rfl) ?_
  intro p e s m below meth c A ls hx hb hml hr hlocks hts hown hK hA hP hD hl
  have hx : p.tables.exec = Jvm.exec := hx
  have hown : s.vm.findClass RX5 = some m.cls := hown
  have hinX5 : ∀ w ∈ wsX50, w ∈ wsX5_pairs := by decide +kernel
  have lk47 := hts (.fieldLink RX5 47 "ChamberwrightModel" "thrown" "I") (by decide +kernel)
  have lk51 := hts (.fieldLink RX5 51 "ChamberwrightModel" "lines" "I") (by decide +kernel)
  have hS : va_S A s.heap s.heap [] := va_S.rf
  have hP : va_P G.1 vwCl (w_D G d0 d1 d2 d3 d4 d5 d6 d7 d8 d9 d10 d11 d12 d_n d_a d_b d_c d_k d_x d_y d_d d_r d_w d_e d_1 d_2 d_o d_g d_ra d_rb d_rc d_t) s.heap := hP
  have hD : va_D A (w_D G d0 d1 d2 d3 d4 d5 d6 d7 d8 d9 d10 d11 d12 d_n d_a d_b d_c d_k d_x d_y d_d d_r d_w d_e d_1 d_2 d_o d_g d_ra d_rb d_rc d_t) := hD
  have hl : lv_has ls 4 [(0, .ref d0)] := hl
  obtain ⟨args, hargs⟩ : ∃ z : Array Value, z = ([.ref d0] : List Value).toArray := ⟨_, rfl⟩
  rw [← hargs]
  rw [← hargs] at hts
  have w_25 : ∀ (k_56 : Int32 → Option (Int32 × Int32 × (Nat → Int32) × (Nat → Int32) × (Nat → Int32) × Int32)) (x2 : Int32) (d_k : Int32) (d_x : Nat → Int32) (d_y : Nat → Int32) (d_d : Nat → Int32) (d_t : Int32) (_z : Unit), (∀ (y1 : Int32) (H : Heap) (locs : List Loc) (ls : Array Slot), va_P G.1 vwCl (w_D G d0 d1 d2 d3 d4 d5 d6 d7 d8 d9 d10 d11 d12 d_n d_a d_b d_c d_k d_x d_y d_d d_r d_w d_e d_1 d_2 d_o d_g d_ra d_rb d_rc d_t) H → va_D A (w_D G d0 d1 d2 d3 d4 d5 d6 d7 d8 d9 d10 d11 d12 d_n d_a d_b d_c d_k d_x d_y d_d d_r d_w d_e d_1 d_2 d_o d_g d_ra d_rb d_rc d_t) → va_S A s.heap H locs → lv_has ls 4 [(0, .ref d0), (1, .int y1), (2, .int x2)] → k_56 y1 = some v → W p l e ({ frames := 4, cells := 0, slots := 0, locals := 90 } : Room) s m args below meth c H locs 0 0 (wQi G A below args s (w_D G d0 d1 d2 d3 d4 d5 d6 d7 d8 d9 d10 d11 d12 d_n d_a d_b d_c v.2.1 v.2.2.1 v.2.2.2.1 v.2.2.2.2.1 d_r d_w d_e d_1 d_2 d_o d_g d_ra d_rb d_rc v.2.2.2.2.2) 0 0 v.1) (F0 m 56 ls [])) → ∀ (n : Nat) (x1 : Int32) (x3 : Int32)  (H : Heap) (locs : List Loc) (ls : Array Slot), va_P G.1 vwCl (w_D G d0 d1 d2 d3 d4 d5 d6 d7 d8 d9 d10 d11 d12 d_n d_a d_b d_c d_k d_x d_y d_d d_r d_w d_e d_1 d_2 d_o d_g d_ra d_rb d_rc d_t) H → va_D A (w_D G d0 d1 d2 d3 d4 d5 d6 d7 d8 d9 d10 d11 d12 d_n d_a d_b d_c d_k d_x d_y d_d d_r d_w d_e d_1 d_2 d_o d_g d_ra d_rb d_rc d_t) → va_S A s.heap H locs → lv_has ls 4 [(0, .ref d0), (1, .int x1), (2, .int x2), (3, .int x3)] → fX5_pairs_b25 N d_n d_a d_b d_c d_k d_x d_y d_d x2 k_56 n x1 x3 = some v → W p l e ({ frames := 4, cells := 0, slots := 0, locals := 90 } : Room) s m args below meth c H locs 0 0 (wQi G A below args s (w_D G d0 d1 d2 d3 d4 d5 d6 d7 d8 d9 d10 d11 d12 d_n d_a d_b d_c v.2.1 v.2.2.1 v.2.2.2.1 v.2.2.2.2.1 d_r d_w d_e d_1 d_2 d_o d_g d_ra d_rb d_rc v.2.2.2.2.2) 0 0 v.1) (F0 m 25 ls []) := by
    intro k_56 x2 d_k d_x d_y d_d d_t _z hk_56 n
    induction n with
    | zero =>
      intro x1 x3 H locs ls hP hD hS hl h
      rw [fX5_pairs_b25.eq_1] at h
      cases h
    | succ n ih =>
      intro x1 x3 H locs ls hP hD hS hl h
      rw [fX5_pairs_b25.eq_2] at h
      refine lv_iload_n hx hb dX5_pairs_25 rfl (lv_at hl 3 rfl) ?_
      refine lv_aload_n hx hb dX5_pairs_26 rfl (lv_at hl 0 rfl) ?_
      refine va_get (D := G.1) (ci := 5) (v := .int d_n) (C := RX5) (T := TX5) (N := 19) hx hb hts hinX5 hown hK.1 hP 0 rfl rfl 0 (by decide) lk51 (fun _ h9 => h9) rfl dX5_pairs_27 ?_
      refine lv_icmp_ge (tgt := 56) hx hb dX5_pairs_30 (by decide) (fun c_1125 => ?_) (fun c_1125 => ?_)
      · have h := ip c_1125 h
        exact hk_56 _ _ _ _ hP hD hS (lv_sub hl [0, 1, 2] rfl) h
      · have h := iq c_1125 h
        refine lv_iload_n hx hb dX5_pairs_33 rfl (lv_at hl 1 rfl) ?_
        refine lv_aload_n hx hb dX5_pairs_34 rfl (lv_at hl 0 rfl) ?_
        refine lv_iload_n hx hb dX5_pairs_35 rfl (lv_at hl 2 rfl) ?_
        refine lv_iload_n hx hb dX5_pairs_36 rfl (lv_at hl 3 rfl) ?_
        obtain ⟨u_1126, hc_1127, h⟩ := bd_inv h
        refine wafter_i (wr := []) (w2 := (w_D G d0 d1 d2 d3 d4 d5 d6 d7 d8 d9 d10 d11 d12 d_n d_a d_b d_c d_k d_x d_y d_d d_r d_w d_e d_1 d_2 d_o d_g d_ra d_rb d_rc d_t)) (va_runV (As := [.int x2, .int x3]) (rest := [.int x1]) ⟨hx, hb, hml, hown, hts⟩ (kX5_isPair (l := l) (G := G) d0 d1 d2 d3 d4 d5 d6 d7 d8 d9 d10 d11 d12 d_n d_a d_b d_c d_k d_x d_y d_d d_r d_w d_e d_1 d_2 d_o d_g d_ra d_rb d_rc d_t x2 x3 N u_1126 hc_1127 _) (cwV 2 hts gX5_pairs_X5_isPair rfl rfl rfl (by decide +kernel) ⟨Nat.le_of_ble_eq_true rfl, Nat.le_of_ble_eq_true rfl⟩) (wPreV hP hD hK [0, 1, 2, 3, 4, 5, 6, 7, 8, 9, 10, 11, 12] rfl rfl (ci := 5) (qb := 0) rfl rfl rfl) rfl rfl hl.1 rfl (lv_room (Nat.le_of_ble_eq_true rfl)) dX5_pairs_37 ⟨Nat.zero_le _, Nat.zero_le _⟩) hP hD hS hA [0, 1, 2, 3, 4, 5, 6, 7, 8, 9, 10, 11, 12] [] [0, 1, 2, 3, 4, 5, 6, 7, 8, 9, 10, 11, 12] rfl rfl rfl (by decide) rfl rfl (fun H locs hP hD hS => ?_)
        refine lv_if_eq (tgt := 47) hx hb dX5_pairs_40 (by decide) (fun c_1128 => ?_) (fun c_1128 => ?_)
        · have h := ip c_1128 h
          refine lv_iconst (v := 0) hx hb dX5_pairs_47 (by decide) ?_
          refine lv_iadd hx hb dX5_pairs_48 ?_
          refine lv_istore_n (lv' := [(1, .int (x1 + 0)), (0, .ref d0), (2, .int x2), (3, .int x3)]) hx hb dX5_pairs_49 rfl hl (by decide) rfl (fun ls hl => ?_)
          refine lv_iinc (v := (x3 + 1)) (lv' := [(3, .int (x3 + 1)), (1, .int (x1 + 0)), (0, .ref d0), (2, .int x2)]) hx hb dX5_pairs_50 hl (k := 3) rfl rfl (by decide) rfl (fun ls hl => ?_)
          refine lv_goto (tgt := 25) hx hb dX5_pairs_53 (by decide) ?_
          exact ih _ _ _ _ _ hP hD hS (lv_sub hl [2, 1, 3, 0] rfl) h
        · have h := iq c_1128 h
          refine lv_iconst (v := 1) hx hb dX5_pairs_43 (by decide) ?_
          refine lv_goto (tgt := 48) hx hb dX5_pairs_44 (by decide) ?_
          refine lv_iadd hx hb dX5_pairs_48 ?_
          refine lv_istore_n (lv' := [(1, .int (x1 + 1)), (0, .ref d0), (2, .int x2), (3, .int x3)]) hx hb dX5_pairs_49 rfl hl (by decide) rfl (fun ls hl => ?_)
          refine lv_iinc (v := (x3 + 1)) (lv' := [(3, .int (x3 + 1)), (1, .int (x1 + 1)), (0, .ref d0), (2, .int x2)]) hx hb dX5_pairs_50 hl (k := 3) rfl rfl (by decide) rfl (fun ls hl => ?_)
          refine lv_goto (tgt := 25) hx hb dX5_pairs_53 (by decide) ?_
          exact ih _ _ _ _ _ hP hD hS (lv_sub hl [2, 1, 3, 0] rfl) h
  have w_13 : ∀  (d_k : Int32) (d_x : Nat → Int32) (d_y : Nat → Int32) (d_d : Nat → Int32) (d_t : Int32) (_z : Unit), ∀ (n : Nat) (x1 : Int32) (x2 : Int32)  (H : Heap) (locs : List Loc) (ls : Array Slot), va_P G.1 vwCl (w_D G d0 d1 d2 d3 d4 d5 d6 d7 d8 d9 d10 d11 d12 d_n d_a d_b d_c d_k d_x d_y d_d d_r d_w d_e d_1 d_2 d_o d_g d_ra d_rb d_rc d_t) H → va_D A (w_D G d0 d1 d2 d3 d4 d5 d6 d7 d8 d9 d10 d11 d12 d_n d_a d_b d_c d_k d_x d_y d_d d_r d_w d_e d_1 d_2 d_o d_g d_ra d_rb d_rc d_t) → va_S A s.heap H locs → lv_has ls 4 [(0, .ref d0), (1, .int x1), (2, .int x2)] → fX5_pairs_b13 N d_n d_a d_b d_c d_k d_x d_y d_d d_t n x1 x2 = some v → W p l e ({ frames := 4, cells := 0, slots := 0, locals := 90 } : Room) s m args below meth c H locs 0 0 (wQi G A below args s (w_D G d0 d1 d2 d3 d4 d5 d6 d7 d8 d9 d10 d11 d12 d_n d_a d_b d_c v.2.1 v.2.2.1 v.2.2.2.1 v.2.2.2.2.1 d_r d_w d_e d_1 d_2 d_o d_g d_ra d_rb d_rc v.2.2.2.2.2) 0 0 v.1) (F0 m 13 ls []) := by
    intro d_k d_x d_y d_d d_t _z n
    induction n with
    | zero =>
      intro x1 x2 H locs ls hP hD hS hl h
      rw [fX5_pairs_b13.eq_1] at h
      cases h
    | succ n ih =>
      intro x1 x2 H locs ls hP hD hS hl h
      rw [fX5_pairs_b13.eq_2] at h
      refine lv_iload_n hx hb dX5_pairs_13 rfl (lv_at hl 2 rfl) ?_
      refine lv_aload_n hx hb dX5_pairs_14 rfl (lv_at hl 0 rfl) ?_
      refine va_get (D := G.1) (ci := 5) (v := .int d_n) (C := RX5) (T := TX5) (N := 19) hx hb hts hinX5 hown hK.1 hP 0 rfl rfl 0 (by decide) lk51 (fun _ h9 => h9) rfl dX5_pairs_15 ?_
      refine lv_icmp_ge (tgt := 62) hx hb dX5_pairs_18 (by decide) (fun c_1129 => ?_) (fun c_1129 => ?_)
      · have h := ip c_1129 h
        refine lv_iload_n hx hb dX5_pairs_62 rfl (lv_at hl 1 rfl) ?_
        obtain rfl := Option.some.inj h
        exact wri hx hb hr hlocks hP hD hS (Nat.le_of_ble_eq_true rfl) (Nat.le_of_ble_eq_true rfl) rfl dX5_pairs_63
      · have h := iq c_1129 h
        refine lv_iload_n hx hb dX5_pairs_21 rfl (lv_at hl 2 rfl) ?_
        refine lv_iconst (v := 1) hx hb dX5_pairs_22 (by decide) ?_
        refine lv_iadd hx hb dX5_pairs_23 ?_
        refine lv_istore_n (lv' := [(3, .int (x2 + 1)), (0, .ref d0), (1, .int x1), (2, .int x2)]) hx hb dX5_pairs_24 rfl hl (by decide) rfl (fun ls hl => ?_)
        refine w_25 _ _ _ _ _ _ _ () (fun x1_1130 H locs ls hP hD hS hl h => ?_) N _ _  _ _ _ hP hD hS (lv_sub hl [1, 2, 3, 0] rfl) h
        refine lv_iinc (v := (x2 + 1)) (lv' := [(2, .int (x2 + 1)), (0, .ref d0), (1, .int x1_1130)]) hx hb dX5_pairs_56 hl (k := 2) rfl rfl (by decide) rfl (fun ls hl => ?_)
        refine lv_goto (tgt := 13) hx hb dX5_pairs_59 (by decide) ?_
        exact ih _ _ _ _ _ hP hD hS (lv_sub hl [1, 2, 0] rfl) h
  rw [fX5_pairs.eq_1] at h
  refine lv_aload_n hx hb dX5_pairs_0 rfl (lv_at hl 0 rfl) ?_
  refine lv_iconst (v := 0) hx hb dX5_pairs_1 (by decide) ?_
  refine va_put (D := G.1) (ci := 5) (v := .int 0) (ty := .int) (C := RX5) (T := TX5) (N := 19) hx hb hts hinX5 tyX5 tyX5_ok nmX5 hown hK.1 hP hD hS 0 rfl rfl 18 (by decide) lk47 (fun _ h9 => h9) rfl (by decide +kernel) rfl rfl (Nat.le_of_ble_eq_true rfl) dX5_pairs_2 (fun H locs hP hD hS => ?_)
  have hP : va_P G.1 vwCl (w_D G d0 d1 d2 d3 d4 d5 d6 d7 d8 d9 d10 d11 d12 d_n d_a d_b d_c d_k d_x d_y d_d d_r d_w d_e d_1 d_2 d_o d_g d_ra d_rb d_rc 0) H := hP
  have hD : va_D A (w_D G d0 d1 d2 d3 d4 d5 d6 d7 d8 d9 d10 d11 d12 d_n d_a d_b d_c d_k d_x d_y d_d d_r d_w d_e d_1 d_2 d_o d_g d_ra d_rb d_rc 0) := hD
  refine lv_aload_n hx hb dX5_pairs_5 rfl (lv_at hl 0 rfl) ?_
  obtain ⟨u_1131, hc_1132, h⟩ := bd_inv h
  refine wafter_v (wr := []) (w2 := (w_D G d0 d1 d2 d3 d4 d5 d6 d7 d8 d9 d10 d11 d12 d_n d_a d_b d_c u_1131.1 u_1131.2.1 u_1131.2.2.1 u_1131.2.2.2 d_r d_w d_e d_1 d_2 d_o d_g d_ra d_rb d_rc 0)) (va_runV (As := []) (rest := []) ⟨hx, hb, hml, hown, hts⟩ (kX5_findMeets (l := l) (G := G) d0 d1 d2 d3 d4 d5 d6 d7 d8 d9 d10 d11 d12 d_n d_a d_b d_c d_k d_x d_y d_d d_r d_w d_e d_1 d_2 d_o d_g d_ra d_rb d_rc 0  N u_1131 hc_1132 _) (cwV 0 hts gX5_pairs_X5_findMeets rfl rfl rfl (by decide +kernel) ⟨Nat.le_of_ble_eq_true rfl, Nat.le_of_ble_eq_true rfl⟩) (wPreV hP hD hK [0, 1, 2, 3, 4, 5, 6, 7, 8, 9, 10, 11, 12] rfl rfl (ci := 5) (qb := 0) rfl rfl rfl) rfl rfl hl.1 rfl (lv_room (Nat.le_of_ble_eq_true rfl)) dX5_pairs_6 ⟨Nat.zero_le _, Nat.zero_le _⟩) hP hD hS hA [0, 1, 2, 3, 4, 5, 6, 7, 8, 9, 10, 11, 12] [] [0, 1, 2, 3, 4, 5, 6, 7, 8, 9, 10, 11, 12] rfl rfl rfl (by decide) rfl rfl (fun H locs hP hD hS => ?_)
  refine lv_iconst (v := 0) hx hb dX5_pairs_9 (by decide) ?_
  refine lv_istore_n (lv' := [(1, .int 0), (0, .ref d0)]) hx hb dX5_pairs_10 rfl hl (by decide) rfl (fun ls hl => ?_)
  refine lv_iconst (v := 0) hx hb dX5_pairs_11 (by decide) ?_
  refine lv_istore_n (lv' := [(2, .int 0), (1, .int 0), (0, .ref d0)]) hx hb dX5_pairs_12 rfl hl (by decide) rfl (fun ls hl => ?_)
  exact w_13   _ _ _ _ _ ()  N _ _  _ _ _ hP hD hS (lv_sub hl [2, 1, 0] rfl) h
def fX5_pair_b40 (N : Nat) (d_n : Int32) (d_a : Nat → Int32) (d_b : Nat → Int32) (d_c : Nat → Int32) (d_k : Int32) (d_x : Nat → Int32) (d_y : Nat → Int32) (d_d : Nat → Int32) (d_t : Int32) (x3 : Int32) (k_81 : Int32 → Option (Int32 × Int32 × (Nat → Int32) × (Nat → Int32) × (Nat → Int32) × Int32)) : Nat → Int32 → Int32 → Option (Int32 × Int32 × (Nat → Int32) × (Nat → Int32) × (Nat → Int32) × Int32)
  | 0, _, _ => none
  | n + 1, x2, x4 => if d_n ≤ x4 then k_81 x2 else bd (fX5_isPair N d_n d_a d_b d_c d_k d_x d_y d_d x3 x4) (fun u_1134 => if u_1134 = 0 then fX5_pair_b40 N d_n d_a d_b d_c d_k d_x d_y d_d d_t x3 k_81 n x2 (x4 + 1) else if x2 = 0 then some (((1 <<< (x3 &&& 31)) ||| (1 <<< (x4 &&& 31))), d_k, d_x, d_y, d_d, d_t) else fX5_pair_b40 N d_n d_a d_b d_c d_k d_x d_y d_d d_t x3 k_81 n (x2 + (-1)) (x4 + 1))
def fX5_pair_b27 (N : Nat) (d_n : Int32) (d_a : Nat → Int32) (d_b : Nat → Int32) (d_c : Nat → Int32) (d_k : Int32) (d_x : Nat → Int32) (d_y : Nat → Int32) (d_d : Nat → Int32) (d_t : Int32) : Nat → Int32 → Int32 → Option (Int32 × Int32 × (Nat → Int32) × (Nat → Int32) × (Nat → Int32) × Int32)
  | 0, _, _ => none
  | n + 1, x2, x3 => if d_n ≤ x3 then some ((-1), d_k, d_x, d_y, d_d, d_t) else fX5_pair_b40 N d_n d_a d_b d_c d_k d_x d_y d_d d_t x3 (fun (x2_1139 : Int32) => fX5_pair_b27 N d_n d_a d_b d_c d_k d_x d_y d_d d_t n x2_1139 (x3 + 1)) N x2 (x3 + 1)
def fX5_pair_b10 (N : Nat) (d_n : Int32) (d_a : Nat → Int32) (d_b : Nat → Int32) (d_c : Nat → Int32) (x1 : Int32) (d_k : Int32) (d_x : Nat → Int32) (d_y : Nat → Int32) (d_d : Nat → Int32) (d_t : Int32) (s1 : Int32) : Option (Int32 × Int32 × (Nat → Int32) × (Nat → Int32) × (Nat → Int32) × Int32) := bd (fX5_fails N d_t s1 1) (fun u_1140 => if u_1140.1 = 0 then bd (fX5_findMeets N d_n d_a d_b d_c d_k d_x d_y d_d) (fun u_1143 => fX5_pair_b27 N d_n d_a d_b d_c u_1143.1 u_1143.2.1 u_1143.2.2.1 u_1143.2.2.2 u_1140.2 N x1 0) else some (0, d_k, d_x, d_y, d_d, u_1140.2))
def fX5_pair (N : Nat) (d_n : Int32) (d_a : Nat → Int32) (d_b : Nat → Int32) (d_c : Nat → Int32) (d_k : Int32) (d_x : Nat → Int32) (d_y : Nat → Int32) (d_d : Nat → Int32) (d_t : Int32) (x1 : Int32) : Option (Int32 × Int32 × (Nat → Int32) × (Nat → Int32) × (Nat → Int32) × Int32) := if x1 < 0 then fX5_pair_b10 N d_n d_a d_b d_c x1 d_k d_x d_y d_d d_t 0 else fX5_pair_b10 N d_n d_a d_b d_c x1 d_k d_x d_y d_d d_t 1
set_option maxHeartbeats 4000000 in
set_option maxRecDepth 100000 in
theorem kX5_pair {l : Launch} {G : wG} (d0 d1 d2 d3 d4 d5 d6 d7 d8 d9 d10 d11 d12 : Nat) (d_n : Int32) (d_a : Nat → Int32) (d_b : Nat → Int32) (d_c : Nat → Int32) (d_k : Int32) (d_x : Nat → Int32) (d_y : Nat → Int32) (d_d : Nat → Int32) (d_r : Nat → Int32) (d_w : Nat → Int32) (d_e : Int32) (d_1 : Nat → Int32) (d_2 : Nat → Int32) (d_o : Nat → Int32) (d_g : Nat → Int32) (d_ra : Int32) (d_rb : Int32) (d_rc : Int32) (d_t : Int32) (x1 : Int32) (N : Nat) (v : Int32 × Int32 × (Nat → Int32) × (Nat → Int32) × (Nat → Int32) × Int32) (h : fX5_pair N d_n d_a d_b d_c d_k d_x d_y d_d d_t x1 = some v) : wCi l G yX5_pair wsX5_pair ({ frames := 4, cells := 0, slots := 0, locals := 90 } : Room) [.ref d0, .int x1] (w_D G d0 d1 d2 d3 d4 d5 d6 d7 d8 d9 d10 d11 d12 d_n d_a d_b d_c d_k d_x d_y d_d d_r d_w d_e d_1 d_2 d_o d_g d_ra d_rb d_rc d_t) (w_D G d0 d1 d2 d3 d4 d5 d6 d7 d8 d9 d10 d11 d12 d_n d_a d_b d_c v.2.1 v.2.2.1 v.2.2.2.1 v.2.2.2.2.1 d_r d_w d_e d_1 d_2 d_o d_g d_ra d_rb d_rc v.2.2.2.2.2) 0 0 v.1 := by
  refine wCi.mk (cc := cX5_pair) (maxL := 5) (ty := .int) (by decide) rfl (Nat.le_of_ble_eq_true rfl) ?_
  intro p e s m below meth c A ls hx hb hml hr hlocks hts hown hK hA hP hD hl
  have hx : p.tables.exec = Jvm.exec := hx
  have hown : s.vm.findClass RX5 = some m.cls := hown
  have hinX5 : ∀ w ∈ wsX50, w ∈ wsX5_pair := by decide +kernel
  have lk51 := hts (.fieldLink RX5 51 "ChamberwrightModel" "lines" "I") (by decide +kernel)
  have hS : va_S A s.heap s.heap [] := va_S.rf
  have hP : va_P G.1 vwCl (w_D G d0 d1 d2 d3 d4 d5 d6 d7 d8 d9 d10 d11 d12 d_n d_a d_b d_c d_k d_x d_y d_d d_r d_w d_e d_1 d_2 d_o d_g d_ra d_rb d_rc d_t) s.heap := hP
  have hD : va_D A (w_D G d0 d1 d2 d3 d4 d5 d6 d7 d8 d9 d10 d11 d12 d_n d_a d_b d_c d_k d_x d_y d_d d_r d_w d_e d_1 d_2 d_o d_g d_ra d_rb d_rc d_t) := hD
  have hl : lv_has ls 5 [(0, .ref d0), (1, .int x1)] := hl
  obtain ⟨args, hargs⟩ : ∃ z : Array Value, z = ([.ref d0, .int x1] : List Value).toArray := ⟨_, rfl⟩
  rw [← hargs]
  rw [← hargs] at hts
  have w_40 : ∀ (k_81 : Int32 → Option (Int32 × Int32 × (Nat → Int32) × (Nat → Int32) × (Nat → Int32) × Int32)) (x3 : Int32) (d_k : Int32) (d_x : Nat → Int32) (d_y : Nat → Int32) (d_d : Nat → Int32) (d_t : Int32) (_z : Unit), (∀ (y2 : Int32) (H : Heap) (locs : List Loc) (ls : Array Slot), va_P G.1 vwCl (w_D G d0 d1 d2 d3 d4 d5 d6 d7 d8 d9 d10 d11 d12 d_n d_a d_b d_c d_k d_x d_y d_d d_r d_w d_e d_1 d_2 d_o d_g d_ra d_rb d_rc d_t) H → va_D A (w_D G d0 d1 d2 d3 d4 d5 d6 d7 d8 d9 d10 d11 d12 d_n d_a d_b d_c d_k d_x d_y d_d d_r d_w d_e d_1 d_2 d_o d_g d_ra d_rb d_rc d_t) → va_S A s.heap H locs → lv_has ls 5 [(0, .ref d0), (2, .int y2), (3, .int x3)] → k_81 y2 = some v → W p l e ({ frames := 4, cells := 0, slots := 0, locals := 90 } : Room) s m args below meth c H locs 0 0 (wQi G A below args s (w_D G d0 d1 d2 d3 d4 d5 d6 d7 d8 d9 d10 d11 d12 d_n d_a d_b d_c v.2.1 v.2.2.1 v.2.2.2.1 v.2.2.2.2.1 d_r d_w d_e d_1 d_2 d_o d_g d_ra d_rb d_rc v.2.2.2.2.2) 0 0 v.1) (F0 m 81 ls [])) → ∀ (n : Nat) (x2 : Int32) (x4 : Int32)  (H : Heap) (locs : List Loc) (ls : Array Slot), va_P G.1 vwCl (w_D G d0 d1 d2 d3 d4 d5 d6 d7 d8 d9 d10 d11 d12 d_n d_a d_b d_c d_k d_x d_y d_d d_r d_w d_e d_1 d_2 d_o d_g d_ra d_rb d_rc d_t) H → va_D A (w_D G d0 d1 d2 d3 d4 d5 d6 d7 d8 d9 d10 d11 d12 d_n d_a d_b d_c d_k d_x d_y d_d d_r d_w d_e d_1 d_2 d_o d_g d_ra d_rb d_rc d_t) → va_S A s.heap H locs → lv_has ls 5 [(0, .ref d0), (2, .int x2), (3, .int x3), (4, .int x4)] → fX5_pair_b40 N d_n d_a d_b d_c d_k d_x d_y d_d d_t x3 k_81 n x2 x4 = some v → W p l e ({ frames := 4, cells := 0, slots := 0, locals := 90 } : Room) s m args below meth c H locs 0 0 (wQi G A below args s (w_D G d0 d1 d2 d3 d4 d5 d6 d7 d8 d9 d10 d11 d12 d_n d_a d_b d_c v.2.1 v.2.2.1 v.2.2.2.1 v.2.2.2.2.1 d_r d_w d_e d_1 d_2 d_o d_g d_ra d_rb d_rc v.2.2.2.2.2) 0 0 v.1) (F0 m 40 ls []) := by
    intro k_81 x3 d_k d_x d_y d_d d_t _z hk_81 n
    induction n with
    | zero =>
      intro x2 x4 H locs ls hP hD hS hl h
      rw [fX5_pair_b40.eq_1] at h
      cases h
    | succ n ih =>
      intro x2 x4 H locs ls hP hD hS hl h
      rw [fX5_pair_b40.eq_2] at h
      refine lv_iload hx hb dX5_pair_40 (lv_at hl 3 rfl) ?_
      refine lv_aload_n hx hb dX5_pair_42 rfl (lv_at hl 0 rfl) ?_
      refine va_get (D := G.1) (ci := 5) (v := .int d_n) (C := RX5) (T := TX5) (N := 19) hx hb hts hinX5 hown hK.1 hP 0 rfl rfl 0 (by decide) lk51 (fun _ h9 => h9) rfl dX5_pair_43 ?_
      refine lv_icmp_ge (tgt := 81) hx hb dX5_pair_46 (by decide) (fun c_1133 => ?_) (fun c_1133 => ?_)
      · have h := ip c_1133 h
        exact hk_81 _ _ _ _ hP hD hS (lv_sub hl [0, 1, 2] rfl) h
      · have h := iq c_1133 h
        refine lv_aload_n hx hb dX5_pair_49 rfl (lv_at hl 0 rfl) ?_
        refine lv_iload_n hx hb dX5_pair_50 rfl (lv_at hl 2 rfl) ?_
        refine lv_iload hx hb dX5_pair_51 (lv_at hl 3 rfl) ?_
        obtain ⟨u_1134, hc_1135, h⟩ := bd_inv h
        refine wafter_i (wr := []) (w2 := (w_D G d0 d1 d2 d3 d4 d5 d6 d7 d8 d9 d10 d11 d12 d_n d_a d_b d_c d_k d_x d_y d_d d_r d_w d_e d_1 d_2 d_o d_g d_ra d_rb d_rc d_t)) (va_runV (As := [.int x3, .int x4]) (rest := []) ⟨hx, hb, hml, hown, hts⟩ (kX5_isPair (l := l) (G := G) d0 d1 d2 d3 d4 d5 d6 d7 d8 d9 d10 d11 d12 d_n d_a d_b d_c d_k d_x d_y d_d d_r d_w d_e d_1 d_2 d_o d_g d_ra d_rb d_rc d_t x3 x4 N u_1134 hc_1135 _) (cwV 2 hts gX5_pair_X5_isPair rfl rfl rfl (by decide +kernel) ⟨Nat.le_of_ble_eq_true rfl, Nat.le_of_ble_eq_true rfl⟩) (wPreV hP hD hK [0, 1, 2, 3, 4, 5, 6, 7, 8, 9, 10, 11, 12] rfl rfl (ci := 5) (qb := 0) rfl rfl rfl) rfl rfl hl.1 rfl (lv_room (Nat.le_of_ble_eq_true rfl)) dX5_pair_53 ⟨Nat.zero_le _, Nat.zero_le _⟩) hP hD hS hA [0, 1, 2, 3, 4, 5, 6, 7, 8, 9, 10, 11, 12] [] [0, 1, 2, 3, 4, 5, 6, 7, 8, 9, 10, 11, 12] rfl rfl rfl (by decide) rfl rfl (fun H locs hP hD hS => ?_)
        refine lv_if_eq (tgt := 75) hx hb dX5_pair_56 (by decide) (fun c_1136 => ?_) (fun c_1136 => ?_)
        · have h := ip c_1136 h
          refine lv_iinc (v := (x4 + 1)) (lv' := [(4, .int (x4 + 1)), (0, .ref d0), (2, .int x2), (3, .int x3)]) hx hb dX5_pair_75 hl (k := 3) rfl rfl (by decide) rfl (fun ls hl => ?_)
          refine lv_goto (tgt := 40) hx hb dX5_pair_78 (by decide) ?_
          exact ih _ _ _ _ _ hP hD hS (lv_sub hl [1, 2, 3, 0] rfl) h
        · have h := iq c_1136 h
          refine lv_iload_n hx hb dX5_pair_59 rfl (lv_at hl 1 rfl) ?_
          refine lv_if_ne (tgt := 72) hx hb dX5_pair_60 (by decide) (fun c_1137 => ?_) (fun c_1137 => ?_)
          · have h := iq c_1137 h
            refine lv_iinc (v := (x2 + (-1))) (lv' := [(2, .int (x2 + (-1))), (0, .ref d0), (3, .int x3), (4, .int x4)]) hx hb dX5_pair_72 hl (k := 1) rfl rfl (by decide) rfl (fun ls hl => ?_)
            refine lv_iinc (v := (x4 + 1)) (lv' := [(4, .int (x4 + 1)), (2, .int (x2 + (-1))), (0, .ref d0), (3, .int x3)]) hx hb dX5_pair_75 hl (k := 3) rfl rfl (by decide) rfl (fun ls hl => ?_)
            refine lv_goto (tgt := 40) hx hb dX5_pair_78 (by decide) ?_
            exact ih _ _ _ _ _ hP hD hS (lv_sub hl [2, 1, 3, 0] rfl) h
          · have h := ip c_1137 h
            refine lv_iconst (v := 1) hx hb dX5_pair_63 (by decide) ?_
            refine lv_iload_n hx hb dX5_pair_64 rfl (lv_at hl 2 rfl) ?_
            refine lv_ishl hx hb dX5_pair_65 ?_
            refine lv_iconst (v := 1) hx hb dX5_pair_66 (by decide) ?_
            refine lv_iload hx hb dX5_pair_67 (lv_at hl 3 rfl) ?_
            refine lv_ishl hx hb dX5_pair_69 ?_
            refine lv_ior hx hb dX5_pair_70 ?_
            obtain rfl := Option.some.inj h
            exact wri hx hb hr hlocks hP hD hS (Nat.le_of_ble_eq_true rfl) (Nat.le_of_ble_eq_true rfl) rfl dX5_pair_71
  have w_27 : ∀  (d_k : Int32) (d_x : Nat → Int32) (d_y : Nat → Int32) (d_d : Nat → Int32) (d_t : Int32) (_z : Unit), ∀ (n : Nat) (x2 : Int32) (x3 : Int32)  (H : Heap) (locs : List Loc) (ls : Array Slot), va_P G.1 vwCl (w_D G d0 d1 d2 d3 d4 d5 d6 d7 d8 d9 d10 d11 d12 d_n d_a d_b d_c d_k d_x d_y d_d d_r d_w d_e d_1 d_2 d_o d_g d_ra d_rb d_rc d_t) H → va_D A (w_D G d0 d1 d2 d3 d4 d5 d6 d7 d8 d9 d10 d11 d12 d_n d_a d_b d_c d_k d_x d_y d_d d_r d_w d_e d_1 d_2 d_o d_g d_ra d_rb d_rc d_t) → va_S A s.heap H locs → lv_has ls 5 [(0, .ref d0), (2, .int x2), (3, .int x3)] → fX5_pair_b27 N d_n d_a d_b d_c d_k d_x d_y d_d d_t n x2 x3 = some v → W p l e ({ frames := 4, cells := 0, slots := 0, locals := 90 } : Room) s m args below meth c H locs 0 0 (wQi G A below args s (w_D G d0 d1 d2 d3 d4 d5 d6 d7 d8 d9 d10 d11 d12 d_n d_a d_b d_c v.2.1 v.2.2.1 v.2.2.2.1 v.2.2.2.2.1 d_r d_w d_e d_1 d_2 d_o d_g d_ra d_rb d_rc v.2.2.2.2.2) 0 0 v.1) (F0 m 27 ls []) := by
    intro d_k d_x d_y d_d d_t _z n
    induction n with
    | zero =>
      intro x2 x3 H locs ls hP hD hS hl h
      rw [fX5_pair_b27.eq_1] at h
      cases h
    | succ n ih =>
      intro x2 x3 H locs ls hP hD hS hl h
      rw [fX5_pair_b27.eq_2] at h
      refine lv_iload_n hx hb dX5_pair_27 rfl (lv_at hl 2 rfl) ?_
      refine lv_aload_n hx hb dX5_pair_28 rfl (lv_at hl 0 rfl) ?_
      refine va_get (D := G.1) (ci := 5) (v := .int d_n) (C := RX5) (T := TX5) (N := 19) hx hb hts hinX5 hown hK.1 hP 0 rfl rfl 0 (by decide) lk51 (fun _ h9 => h9) rfl dX5_pair_29 ?_
      refine lv_icmp_ge (tgt := 87) hx hb dX5_pair_32 (by decide) (fun c_1138 => ?_) (fun c_1138 => ?_)
      · have h := ip c_1138 h
        refine lv_iconst (v := (-1)) hx hb dX5_pair_87 (by decide) ?_
        obtain rfl := Option.some.inj h
        exact wri hx hb hr hlocks hP hD hS (Nat.le_of_ble_eq_true rfl) (Nat.le_of_ble_eq_true rfl) rfl dX5_pair_88
      · have h := iq c_1138 h
        refine lv_iload_n hx hb dX5_pair_35 rfl (lv_at hl 2 rfl) ?_
        refine lv_iconst (v := 1) hx hb dX5_pair_36 (by decide) ?_
        refine lv_iadd hx hb dX5_pair_37 ?_
        refine lv_istore (lv' := [(4, .int (x3 + 1)), (0, .ref d0), (2, .int x2), (3, .int x3)]) hx hb dX5_pair_38 hl (by decide) rfl (fun ls hl => ?_)
        refine w_40 _ _ _ _ _ _ _ () (fun x2_1139 H locs ls hP hD hS hl h => ?_) N _ _  _ _ _ hP hD hS (lv_sub hl [1, 2, 3, 0] rfl) h
        refine lv_iinc (v := (x3 + 1)) (lv' := [(3, .int (x3 + 1)), (0, .ref d0), (2, .int x2_1139)]) hx hb dX5_pair_81 hl (k := 2) rfl rfl (by decide) rfl (fun ls hl => ?_)
        refine lv_goto (tgt := 27) hx hb dX5_pair_84 (by decide) ?_
        exact ih _ _ _ _ _ hP hD hS (lv_sub hl [1, 2, 0] rfl) h
  have w_10 : ∀ (x1 : Int32) (d_k : Int32) (d_x : Nat → Int32) (d_y : Nat → Int32) (d_d : Nat → Int32) (d_t : Int32) (s1 : Int32) (H : Heap) (locs : List Loc) (ls : Array Slot), va_P G.1 vwCl (w_D G d0 d1 d2 d3 d4 d5 d6 d7 d8 d9 d10 d11 d12 d_n d_a d_b d_c d_k d_x d_y d_d d_r d_w d_e d_1 d_2 d_o d_g d_ra d_rb d_rc d_t) H → va_D A (w_D G d0 d1 d2 d3 d4 d5 d6 d7 d8 d9 d10 d11 d12 d_n d_a d_b d_c d_k d_x d_y d_d d_r d_w d_e d_1 d_2 d_o d_g d_ra d_rb d_rc d_t) → va_S A s.heap H locs → lv_has ls 5 [(0, .ref d0), (1, .int x1)] → fX5_pair_b10 N d_n d_a d_b d_c x1 d_k d_x d_y d_d d_t s1 = some v → W p l e ({ frames := 4, cells := 0, slots := 0, locals := 90 } : Room) s m args below meth c H locs 0 0 (wQi G A below args s (w_D G d0 d1 d2 d3 d4 d5 d6 d7 d8 d9 d10 d11 d12 d_n d_a d_b d_c v.2.1 v.2.2.1 v.2.2.2.1 v.2.2.2.2.1 d_r d_w d_e d_1 d_2 d_o d_g d_ra d_rb d_rc v.2.2.2.2.2) 0 0 v.1) (F0 m 10 ls [.int s1, .ref d0]) := by
    intro x1 d_k d_x d_y d_d d_t s1 H locs ls hP hD hS hl h
    rw [fX5_pair_b10.eq_1] at h
    refine lv_iconst (v := 1) hx hb dX5_pair_10 (by decide) ?_
    obtain ⟨u_1140, hc_1141, h⟩ := bd_inv h
    refine wafter_i (wr := []) (w2 := (w_D G d0 d1 d2 d3 d4 d5 d6 d7 d8 d9 d10 d11 d12 d_n d_a d_b d_c d_k d_x d_y d_d d_r d_w d_e d_1 d_2 d_o d_g d_ra d_rb d_rc u_1140.2)) (va_runV (As := [.int s1, .int 1]) (rest := []) ⟨hx, hb, hml, hown, hts⟩ (kX5_fails (l := l) (G := G) d0 d1 d2 d3 d4 d5 d6 d7 d8 d9 d10 d11 d12 d_n d_a d_b d_c d_k d_x d_y d_d d_r d_w d_e d_1 d_2 d_o d_g d_ra d_rb d_rc d_t s1 1 N u_1140 hc_1141 _) (cwV 2 hts gX5_pair_X5_fails rfl rfl rfl (by decide +kernel) ⟨Nat.le_of_ble_eq_true rfl, Nat.le_of_ble_eq_true rfl⟩) (wPreV hP hD hK [0, 1, 2, 3, 4, 5, 6, 7, 8, 9, 10, 11, 12] rfl rfl (ci := 5) (qb := 0) rfl rfl rfl) rfl rfl hl.1 rfl (lv_room (Nat.le_of_ble_eq_true rfl)) dX5_pair_11 ⟨Nat.zero_le _, Nat.zero_le _⟩) hP hD hS hA [0, 1, 2, 3, 4, 5, 6, 7, 8, 9, 10, 11, 12] [] [0, 1, 2, 3, 4, 5, 6, 7, 8, 9, 10, 11, 12] rfl rfl rfl (by decide) rfl rfl (fun H locs hP hD hS => ?_)
    refine lv_if_eq (tgt := 19) hx hb dX5_pair_14 (by decide) (fun c_1142 => ?_) (fun c_1142 => ?_)
    · have h := ip c_1142 h
      refine lv_aload_n hx hb dX5_pair_19 rfl (lv_at hl 0 rfl) ?_
      obtain ⟨u_1143, hc_1144, h⟩ := bd_inv h
      refine wafter_v (wr := []) (w2 := (w_D G d0 d1 d2 d3 d4 d5 d6 d7 d8 d9 d10 d11 d12 d_n d_a d_b d_c u_1143.1 u_1143.2.1 u_1143.2.2.1 u_1143.2.2.2 d_r d_w d_e d_1 d_2 d_o d_g d_ra d_rb d_rc u_1140.2)) (va_runV (As := []) (rest := []) ⟨hx, hb, hml, hown, hts⟩ (kX5_findMeets (l := l) (G := G) d0 d1 d2 d3 d4 d5 d6 d7 d8 d9 d10 d11 d12 d_n d_a d_b d_c d_k d_x d_y d_d d_r d_w d_e d_1 d_2 d_o d_g d_ra d_rb d_rc u_1140.2  N u_1143 hc_1144 _) (cwV 0 hts gX5_pair_X5_findMeets rfl rfl rfl (by decide +kernel) ⟨Nat.le_of_ble_eq_true rfl, Nat.le_of_ble_eq_true rfl⟩) (wPreV hP hD hK [0, 1, 2, 3, 4, 5, 6, 7, 8, 9, 10, 11, 12] rfl rfl (ci := 5) (qb := 0) rfl rfl rfl) rfl rfl hl.1 rfl (lv_room (Nat.le_of_ble_eq_true rfl)) dX5_pair_20 ⟨Nat.zero_le _, Nat.zero_le _⟩) hP hD hS hA [0, 1, 2, 3, 4, 5, 6, 7, 8, 9, 10, 11, 12] [] [0, 1, 2, 3, 4, 5, 6, 7, 8, 9, 10, 11, 12] rfl rfl rfl (by decide) rfl rfl (fun H locs hP hD hS => ?_)
      refine lv_iload_n hx hb dX5_pair_23 rfl (lv_at hl 1 rfl) ?_
      refine lv_istore_n (lv' := [(2, .int x1), (0, .ref d0), (1, .int x1)]) hx hb dX5_pair_24 rfl hl (by decide) rfl (fun ls hl => ?_)
      refine lv_iconst (v := 0) hx hb dX5_pair_25 (by decide) ?_
      refine lv_istore_n (lv' := [(3, .int 0), (2, .int x1), (0, .ref d0), (1, .int x1)]) hx hb dX5_pair_26 rfl hl (by decide) rfl (fun ls hl => ?_)
      exact w_27   _ _ _ _ _ ()  N _ _  _ _ _ hP hD hS (lv_sub hl [2, 1, 0] rfl) h
    · have h := iq c_1142 h
      refine lv_iconst (v := 0) hx hb dX5_pair_17 (by decide) ?_
      obtain rfl := Option.some.inj h
      exact wri hx hb hr hlocks hP hD hS (Nat.le_of_ble_eq_true rfl) (Nat.le_of_ble_eq_true rfl) rfl dX5_pair_18
  rw [fX5_pair.eq_1] at h
  refine lv_aload_n hx hb dX5_pair_0 rfl (lv_at hl 0 rfl) ?_
  refine lv_iload_n hx hb dX5_pair_1 rfl (lv_at hl 1 rfl) ?_
  refine lv_if_lt (tgt := 9) hx hb dX5_pair_2 (by decide) (fun c_1145 => ?_) (fun c_1145 => ?_)
  · have h := ip c_1145 h
    refine lv_iconst (v := 0) hx hb dX5_pair_9 (by decide) ?_
    exact w_10  _ _ _ _ _ _ _ _ _ _  hP hD hS (lv_sub hl [0, 1] rfl) h
  · have h := iq c_1145 h
    refine lv_iconst (v := 1) hx hb dX5_pair_5 (by decide) ?_
    refine lv_goto (tgt := 10) hx hb dX5_pair_6 (by decide) ?_
    exact w_10  _ _ _ _ _ _ _ _ _ _  hP hD hS (lv_sub hl [0, 1] rfl) h
def fX5_edge_b89 (N : Nat) (d_1 : Nat → Int32) (d_2 : Nat → Int32) (x1 : Int32) (x2 : Int32) (x3 : Int32) (x4 : Int32) (k_58 : Int32 → Int32 → Option (Int32 × Int32 × (Nat → Int32) × (Nat → Int32) × Int32)) : Option (Int32 × Int32 × (Nat → Int32) × (Nat → Int32) × Int32) := rd d_1 15 x4 (fun v_1146 => if v_1146 = x2 then rd d_2 15 x4 (fun v_1148 => if v_1148 = x1 then k_58 x4 (x4 + 1) else k_58 x3 (x4 + 1)) else k_58 x3 (x4 + 1))
def fX5_edge_b58 (N : Nat) (d_e : Int32) (d_1 : Nat → Int32) (d_2 : Nat → Int32) (x1 : Int32) (x2 : Int32) (k_124 : Int32 → Option (Int32 × Int32 × (Nat → Int32) × (Nat → Int32) × Int32)) : Nat → Int32 → Int32 → Option (Int32 × Int32 × (Nat → Int32) × (Nat → Int32) × Int32)
  | 0, _, _ => none
  | n + 1, x3, x4 => if d_e ≤ x4 then k_124 x3 else rd d_1 15 x4 (fun v_1151 => if v_1151 = x1 then rd d_2 15 x4 (fun v_1155 => if v_1155 = x2 then fX5_edge_b58 N d_e d_1 d_2 x1 x2 k_124 n x4 (x4 + 1) else fX5_edge_b89 N d_1 d_2 x1 x2 x3 x4 (fun (x3_1157 : Int32) (x4_1158 : Int32) => fX5_edge_b58 N d_e d_1 d_2 x1 x2 k_124 n x3_1157 x4_1158)) else fX5_edge_b89 N d_1 d_2 x1 x2 x3 x4 (fun (x3_1153 : Int32) (x4_1154 : Int32) => fX5_edge_b58 N d_e d_1 d_2 x1 x2 k_124 n x3_1153 x4_1154))
def fX5_edge_b44 (N : Nat) (x1 : Int32) (x2 : Int32) (d_e : Int32) (d_1 : Nat → Int32) (d_2 : Nat → Int32) (d_t : Int32) (s1 : Int32) : Option (Int32 × Int32 × (Nat → Int32) × (Nat → Int32) × Int32) := bd (fX5_fails N d_t s1 2) (fun u_1159 => if u_1159.1 = 0 then fX5_edge_b58 N d_e d_1 d_2 x1 x2 (fun (x3_1162 : Int32) => if x3_1162 = (-1) then ck 15 d_e (ck 15 d_e (some ((d_e + 1), (d_e + 1), (upd d_1 (Int32.toNatClampNeg d_e) x1), (upd d_2 (Int32.toNatClampNeg d_e) x2), u_1159.2))) else rd d_1 15 (d_e - 1) (fun v_1164 => ck 15 x3_1162 (rd d_2 15 (d_e - 1) (fun v_1165 => ck 15 x3_1162 (some ((d_e - 1), (d_e - 1), (upd d_1 (Int32.toNatClampNeg x3_1162) v_1164), (upd d_2 (Int32.toNatClampNeg x3_1162) v_1165), u_1159.2)))))) N (-1) 0 else some (0, d_e, d_1, d_2, u_1159.2))
def fX5_edge_b24 (N : Nat) (x1 : Int32) (x2 : Int32) (d_e : Int32) (d_1 : Nat → Int32) (d_2 : Nat → Int32) (d_t : Int32) (s1 : Int32) : Option (Int32 × Int32 × (Nat → Int32) × (Nat → Int32) × Int32) := bd (fX5_fails N d_t s1 1) (fun u_1166 => if u_1166.1 = 0 then if x1 = x2 then fX5_edge_b44 N x1 x2 d_e d_1 d_2 u_1166.2 0 else fX5_edge_b44 N x1 x2 d_e d_1 d_2 u_1166.2 1 else some (0, d_e, d_1, d_2, u_1166.2))
def fX5_edge (N : Nat) (d_e : Int32) (d_1 : Nat → Int32) (d_2 : Nat → Int32) (d_t : Int32) (x1 : Int32) (x2 : Int32) : Option (Int32 × Int32 × (Nat → Int32) × (Nat → Int32) × Int32) := bd (fX5_in N x1 0 5) (fun u_1170 => if u_1170 = 0 then fX5_edge_b24 N x1 x2 d_e d_1 d_2 d_t 0 else bd (fX5_in N x2 0 5) (fun u_1173 => if u_1173 = 0 then fX5_edge_b24 N x1 x2 d_e d_1 d_2 d_t 0 else fX5_edge_b24 N x1 x2 d_e d_1 d_2 d_t 1))
set_option maxHeartbeats 4000000 in
set_option maxRecDepth 100000 in
theorem kX5_edge {l : Launch} {G : wG} (d0 d1 d2 d3 d4 d5 d6 d7 d8 d9 d10 d11 d12 : Nat) (d_n : Int32) (d_a : Nat → Int32) (d_b : Nat → Int32) (d_c : Nat → Int32) (d_k : Int32) (d_x : Nat → Int32) (d_y : Nat → Int32) (d_d : Nat → Int32) (d_r : Nat → Int32) (d_w : Nat → Int32) (d_e : Int32) (d_1 : Nat → Int32) (d_2 : Nat → Int32) (d_o : Nat → Int32) (d_g : Nat → Int32) (d_ra : Int32) (d_rb : Int32) (d_rc : Int32) (d_t : Int32) (x1 : Int32) (x2 : Int32) (N : Nat) (v : Int32 × Int32 × (Nat → Int32) × (Nat → Int32) × Int32) (h : fX5_edge N d_e d_1 d_2 d_t x1 x2 = some v) : wCi l G yX5_edge wsX5_edge ({ frames := 1, cells := 0, slots := 0, locals := 22 } : Room) [.ref d0, .int x1, .int x2] (w_D G d0 d1 d2 d3 d4 d5 d6 d7 d8 d9 d10 d11 d12 d_n d_a d_b d_c d_k d_x d_y d_d d_r d_w d_e d_1 d_2 d_o d_g d_ra d_rb d_rc d_t) (w_D G d0 d1 d2 d3 d4 d5 d6 d7 d8 d9 d10 d11 d12 d_n d_a d_b d_c d_k d_x d_y d_d d_r d_w v.2.1 v.2.2.1 v.2.2.2.1 d_o d_g d_ra d_rb d_rc v.2.2.2.2) 0 0 v.1 := by
  refine wCi.mk (cc := cX5_edge) (maxL := 5) (ty := .int) (by decide) rfl (Nat.le_of_ble_eq_true rfl) ?_
  intro p e s m below meth c A ls hx hb hml hr hlocks hts hown hK hA hP hD hl
  have hx : p.tables.exec = Jvm.exec := hx
  have hown : s.vm.findClass RX5 = some m.cls := hown
  have hinX5 : ∀ w ∈ wsX50, w ∈ wsX5_edge := by decide +kernel
  have lk153 := hts (.fieldLink RX5 153 "ChamberwrightModel" "edges" "I") (by decide +kernel)
  have lk35 := hts (.fieldLink RX5 35 "ChamberwrightModel" "one" "[I") (by decide +kernel)
  have lk38 := hts (.fieldLink RX5 38 "ChamberwrightModel" "two" "[I") (by decide +kernel)
  have hS : va_S A s.heap s.heap [] := va_S.rf
  have hP : va_P G.1 vwCl (w_D G d0 d1 d2 d3 d4 d5 d6 d7 d8 d9 d10 d11 d12 d_n d_a d_b d_c d_k d_x d_y d_d d_r d_w d_e d_1 d_2 d_o d_g d_ra d_rb d_rc d_t) s.heap := hP
  have hD : va_D A (w_D G d0 d1 d2 d3 d4 d5 d6 d7 d8 d9 d10 d11 d12 d_n d_a d_b d_c d_k d_x d_y d_d d_r d_w d_e d_1 d_2 d_o d_g d_ra d_rb d_rc d_t) := hD
  have hl : lv_has ls 5 [(0, .ref d0), (1, .int x1), (2, .int x2)] := hl
  obtain ⟨args, hargs⟩ : ∃ z : Array Value, z = ([.ref d0, .int x1, .int x2] : List Value).toArray := ⟨_, rfl⟩
  rw [← hargs]
  rw [← hargs] at hts
  have w_89 : ∀ (k_58 : Int32 → Int32 → Option (Int32 × Int32 × (Nat → Int32) × (Nat → Int32) × Int32)) (x1 : Int32) (x2 : Int32) (x3 : Int32) (x4 : Int32) (d_e : Int32) (d_1 : Nat → Int32) (d_2 : Nat → Int32) (d_t : Int32)  (H : Heap) (locs : List Loc) (ls : Array Slot), (∀ (y3 : Int32) (y4 : Int32) (H : Heap) (locs : List Loc) (ls : Array Slot), va_P G.1 vwCl (w_D G d0 d1 d2 d3 d4 d5 d6 d7 d8 d9 d10 d11 d12 d_n d_a d_b d_c d_k d_x d_y d_d d_r d_w d_e d_1 d_2 d_o d_g d_ra d_rb d_rc d_t) H → va_D A (w_D G d0 d1 d2 d3 d4 d5 d6 d7 d8 d9 d10 d11 d12 d_n d_a d_b d_c d_k d_x d_y d_d d_r d_w d_e d_1 d_2 d_o d_g d_ra d_rb d_rc d_t) → va_S A s.heap H locs → lv_has ls 5 [(0, .ref d0), (1, .int x1), (2, .int x2), (3, .int y3), (4, .int y4)] → k_58 y3 y4 = some v → W p l e ({ frames := 1, cells := 0, slots := 0, locals := 22 } : Room) s m args below meth c H locs 0 0 (wQi G A below args s (w_D G d0 d1 d2 d3 d4 d5 d6 d7 d8 d9 d10 d11 d12 d_n d_a d_b d_c d_k d_x d_y d_d d_r d_w v.2.1 v.2.2.1 v.2.2.2.1 d_o d_g d_ra d_rb d_rc v.2.2.2.2) 0 0 v.1) (F0 m 58 ls [])) → va_P G.1 vwCl (w_D G d0 d1 d2 d3 d4 d5 d6 d7 d8 d9 d10 d11 d12 d_n d_a d_b d_c d_k d_x d_y d_d d_r d_w d_e d_1 d_2 d_o d_g d_ra d_rb d_rc d_t) H → va_D A (w_D G d0 d1 d2 d3 d4 d5 d6 d7 d8 d9 d10 d11 d12 d_n d_a d_b d_c d_k d_x d_y d_d d_r d_w d_e d_1 d_2 d_o d_g d_ra d_rb d_rc d_t) → va_S A s.heap H locs → lv_has ls 5 [(0, .ref d0), (1, .int x1), (2, .int x2), (3, .int x3), (4, .int x4)] → fX5_edge_b89 N d_1 d_2 x1 x2 x3 x4 k_58 = some v → W p l e ({ frames := 1, cells := 0, slots := 0, locals := 22 } : Room) s m args below meth c H locs 0 0 (wQi G A below args s (w_D G d0 d1 d2 d3 d4 d5 d6 d7 d8 d9 d10 d11 d12 d_n d_a d_b d_c d_k d_x d_y d_d d_r d_w v.2.1 v.2.2.1 v.2.2.2.1 d_o d_g d_ra d_rb d_rc v.2.2.2.2) 0 0 v.1) (F0 m 89 ls []) := by
    intro k_58 x1 x2 x3 x4 d_e d_1 d_2 d_t H locs ls hk_58 hP hD hS hl h
    rw [fX5_edge_b89.eq_1] at h
    refine lv_aload_n hx hb dX5_edge_89 rfl (lv_at hl 0 rfl) ?_
    refine va_get (D := G.1) (ci := 5) (v := .ref d9) (C := RX5) (T := TX5) (N := 19) hx hb hts hinX5 hown hK.1 hP 0 rfl rfl 11 (by decide) lk35 (fun _ h9 => h9) rfl dX5_edge_90 ?_
    refine lv_iload hx hb dX5_edge_93 (lv_at hl 4 rfl) ?_
    refine wiald h hx hb hK hP 9 rfl dX5_edge_95 (fun v_1146 h => ?_)
    refine lv_iload_n hx hb dX5_edge_96 rfl (lv_at hl 2 rfl) ?_
    refine lv_icmp_ne (tgt := 116) hx hb dX5_edge_97 (by decide) (fun c_1147 => ?_) (fun c_1147 => ?_)
    · have h := iq c_1147 h
      refine lv_iload_n hx hb dX5_edge_116 rfl (lv_at hl 3 rfl) ?_
      refine lv_istore_n (lv' := [(3, .int x3), (0, .ref d0), (1, .int x1), (2, .int x2), (4, .int x4)]) hx hb dX5_edge_117 rfl hl (by decide) rfl (fun ls hl => ?_)
      refine lv_iinc (v := (x4 + 1)) (lv' := [(4, .int (x4 + 1)), (3, .int x3), (0, .ref d0), (1, .int x1), (2, .int x2)]) hx hb dX5_edge_118 hl (k := 4) rfl rfl (by decide) rfl (fun ls hl => ?_)
      refine lv_goto (tgt := 58) hx hb dX5_edge_121 (by decide) ?_
      exact hk_58 _ _ _ _ _ hP hD hS (lv_sub hl [2, 3, 4, 1, 0] rfl) h
    · have h := ip c_1147 h
      refine lv_aload_n hx hb dX5_edge_100 rfl (lv_at hl 0 rfl) ?_
      refine va_get (D := G.1) (ci := 5) (v := .ref d10) (C := RX5) (T := TX5) (N := 19) hx hb hts hinX5 hown hK.1 hP 0 rfl rfl 12 (by decide) lk38 (fun _ h9 => h9) rfl dX5_edge_101 ?_
      refine lv_iload hx hb dX5_edge_104 (lv_at hl 4 rfl) ?_
      refine wiald h hx hb hK hP 10 rfl dX5_edge_106 (fun v_1148 h => ?_)
      refine lv_iload_n hx hb dX5_edge_107 rfl (lv_at hl 1 rfl) ?_
      refine lv_icmp_ne (tgt := 116) hx hb dX5_edge_108 (by decide) (fun c_1149 => ?_) (fun c_1149 => ?_)
      · have h := iq c_1149 h
        refine lv_iload_n hx hb dX5_edge_116 rfl (lv_at hl 3 rfl) ?_
        refine lv_istore_n (lv' := [(3, .int x3), (0, .ref d0), (1, .int x1), (2, .int x2), (4, .int x4)]) hx hb dX5_edge_117 rfl hl (by decide) rfl (fun ls hl => ?_)
        refine lv_iinc (v := (x4 + 1)) (lv' := [(4, .int (x4 + 1)), (3, .int x3), (0, .ref d0), (1, .int x1), (2, .int x2)]) hx hb dX5_edge_118 hl (k := 4) rfl rfl (by decide) rfl (fun ls hl => ?_)
        refine lv_goto (tgt := 58) hx hb dX5_edge_121 (by decide) ?_
        exact hk_58 _ _ _ _ _ hP hD hS (lv_sub hl [2, 3, 4, 1, 0] rfl) h
      · have h := ip c_1149 h
        refine lv_iload hx hb dX5_edge_111 (lv_at hl 4 rfl) ?_
        refine lv_goto (tgt := 117) hx hb dX5_edge_113 (by decide) ?_
        refine lv_istore_n (lv' := [(3, .int x4), (0, .ref d0), (1, .int x1), (2, .int x2), (4, .int x4)]) hx hb dX5_edge_117 rfl hl (by decide) rfl (fun ls hl => ?_)
        refine lv_iinc (v := (x4 + 1)) (lv' := [(4, .int (x4 + 1)), (3, .int x4), (0, .ref d0), (1, .int x1), (2, .int x2)]) hx hb dX5_edge_118 hl (k := 4) rfl rfl (by decide) rfl (fun ls hl => ?_)
        refine lv_goto (tgt := 58) hx hb dX5_edge_121 (by decide) ?_
        exact hk_58 _ _ _ _ _ hP hD hS (lv_sub hl [2, 3, 4, 1, 0] rfl) h
  have w_58 : ∀ (k_124 : Int32 → Option (Int32 × Int32 × (Nat → Int32) × (Nat → Int32) × Int32)) (x1 : Int32) (x2 : Int32) (d_e : Int32) (d_1 : Nat → Int32) (d_2 : Nat → Int32) (d_t : Int32) (_z : Unit), (∀ (y3 : Int32) (H : Heap) (locs : List Loc) (ls : Array Slot), va_P G.1 vwCl (w_D G d0 d1 d2 d3 d4 d5 d6 d7 d8 d9 d10 d11 d12 d_n d_a d_b d_c d_k d_x d_y d_d d_r d_w d_e d_1 d_2 d_o d_g d_ra d_rb d_rc d_t) H → va_D A (w_D G d0 d1 d2 d3 d4 d5 d6 d7 d8 d9 d10 d11 d12 d_n d_a d_b d_c d_k d_x d_y d_d d_r d_w d_e d_1 d_2 d_o d_g d_ra d_rb d_rc d_t) → va_S A s.heap H locs → lv_has ls 5 [(0, .ref d0), (1, .int x1), (2, .int x2), (3, .int y3)] → k_124 y3 = some v → W p l e ({ frames := 1, cells := 0, slots := 0, locals := 22 } : Room) s m args below meth c H locs 0 0 (wQi G A below args s (w_D G d0 d1 d2 d3 d4 d5 d6 d7 d8 d9 d10 d11 d12 d_n d_a d_b d_c d_k d_x d_y d_d d_r d_w v.2.1 v.2.2.1 v.2.2.2.1 d_o d_g d_ra d_rb d_rc v.2.2.2.2) 0 0 v.1) (F0 m 124 ls [])) → ∀ (n : Nat) (x3 : Int32) (x4 : Int32)  (H : Heap) (locs : List Loc) (ls : Array Slot), va_P G.1 vwCl (w_D G d0 d1 d2 d3 d4 d5 d6 d7 d8 d9 d10 d11 d12 d_n d_a d_b d_c d_k d_x d_y d_d d_r d_w d_e d_1 d_2 d_o d_g d_ra d_rb d_rc d_t) H → va_D A (w_D G d0 d1 d2 d3 d4 d5 d6 d7 d8 d9 d10 d11 d12 d_n d_a d_b d_c d_k d_x d_y d_d d_r d_w d_e d_1 d_2 d_o d_g d_ra d_rb d_rc d_t) → va_S A s.heap H locs → lv_has ls 5 [(0, .ref d0), (1, .int x1), (2, .int x2), (3, .int x3), (4, .int x4)] → fX5_edge_b58 N d_e d_1 d_2 x1 x2 k_124 n x3 x4 = some v → W p l e ({ frames := 1, cells := 0, slots := 0, locals := 22 } : Room) s m args below meth c H locs 0 0 (wQi G A below args s (w_D G d0 d1 d2 d3 d4 d5 d6 d7 d8 d9 d10 d11 d12 d_n d_a d_b d_c d_k d_x d_y d_d d_r d_w v.2.1 v.2.2.1 v.2.2.2.1 d_o d_g d_ra d_rb d_rc v.2.2.2.2) 0 0 v.1) (F0 m 58 ls []) := by
    intro k_124 x1 x2 d_e d_1 d_2 d_t _z hk_124 n
    induction n with
    | zero =>
      intro x3 x4 H locs ls hP hD hS hl h
      rw [fX5_edge_b58.eq_1] at h
      cases h
    | succ n ih =>
      intro x3 x4 H locs ls hP hD hS hl h
      rw [fX5_edge_b58.eq_2] at h
      refine lv_iload hx hb dX5_edge_58 (lv_at hl 4 rfl) ?_
      refine lv_aload_n hx hb dX5_edge_60 rfl (lv_at hl 0 rfl) ?_
      refine va_get (D := G.1) (ci := 5) (v := .int d_e) (C := RX5) (T := TX5) (N := 19) hx hb hts hinX5 hown hK.1 hP 0 rfl rfl 10 (by decide) lk153 (fun _ h9 => h9) rfl dX5_edge_61 ?_
      refine lv_icmp_ge (tgt := 124) hx hb dX5_edge_64 (by decide) (fun c_1150 => ?_) (fun c_1150 => ?_)
      · have h := ip c_1150 h
        exact hk_124 _ _ _ _ hP hD hS (lv_sub hl [0, 1, 2, 3] rfl) h
      · have h := iq c_1150 h
        refine lv_aload_n hx hb dX5_edge_67 rfl (lv_at hl 0 rfl) ?_
        refine va_get (D := G.1) (ci := 5) (v := .ref d9) (C := RX5) (T := TX5) (N := 19) hx hb hts hinX5 hown hK.1 hP 0 rfl rfl 11 (by decide) lk35 (fun _ h9 => h9) rfl dX5_edge_68 ?_
        refine lv_iload hx hb dX5_edge_71 (lv_at hl 4 rfl) ?_
        refine wiald h hx hb hK hP 9 rfl dX5_edge_73 (fun v_1151 h => ?_)
        refine lv_iload_n hx hb dX5_edge_74 rfl (lv_at hl 1 rfl) ?_
        refine lv_icmp_ne (tgt := 89) hx hb dX5_edge_75 (by decide) (fun c_1152 => ?_) (fun c_1152 => ?_)
        · have h := iq c_1152 h
          refine w_89 _ _ _ _ _ _ _ _ _  _ _ _ (fun x3_1153 x4_1154 H locs ls hP hD hS hl h => ?_) hP hD hS (lv_sub hl [0, 1, 2, 3, 4] rfl) h
          exact ih _ _ _ _ _ hP hD hS (lv_sub hl [0, 1, 2, 3, 4] rfl) h
        · have h := ip c_1152 h
          refine lv_aload_n hx hb dX5_edge_78 rfl (lv_at hl 0 rfl) ?_
          refine va_get (D := G.1) (ci := 5) (v := .ref d10) (C := RX5) (T := TX5) (N := 19) hx hb hts hinX5 hown hK.1 hP 0 rfl rfl 12 (by decide) lk38 (fun _ h9 => h9) rfl dX5_edge_79 ?_
          refine lv_iload hx hb dX5_edge_82 (lv_at hl 4 rfl) ?_
          refine wiald h hx hb hK hP 10 rfl dX5_edge_84 (fun v_1155 h => ?_)
          refine lv_iload_n hx hb dX5_edge_85 rfl (lv_at hl 2 rfl) ?_
          refine lv_icmp_eq (tgt := 111) hx hb dX5_edge_86 (by decide) (fun c_1156 => ?_) (fun c_1156 => ?_)
          · have h := ip c_1156 h
            refine lv_iload hx hb dX5_edge_111 (lv_at hl 4 rfl) ?_
            refine lv_goto (tgt := 117) hx hb dX5_edge_113 (by decide) ?_
            refine lv_istore_n (lv' := [(3, .int x4), (0, .ref d0), (1, .int x1), (2, .int x2), (4, .int x4)]) hx hb dX5_edge_117 rfl hl (by decide) rfl (fun ls hl => ?_)
            refine lv_iinc (v := (x4 + 1)) (lv' := [(4, .int (x4 + 1)), (3, .int x4), (0, .ref d0), (1, .int x1), (2, .int x2)]) hx hb dX5_edge_118 hl (k := 4) rfl rfl (by decide) rfl (fun ls hl => ?_)
            refine lv_goto (tgt := 58) hx hb dX5_edge_121 (by decide) ?_
            exact ih _ _ _ _ _ hP hD hS (lv_sub hl [2, 3, 4, 1, 0] rfl) h
          · have h := iq c_1156 h
            refine w_89 _ _ _ _ _ _ _ _ _  _ _ _ (fun x3_1157 x4_1158 H locs ls hP hD hS hl h => ?_) hP hD hS (lv_sub hl [0, 1, 2, 3, 4] rfl) h
            exact ih _ _ _ _ _ hP hD hS (lv_sub hl [0, 1, 2, 3, 4] rfl) h
  have w_44 : ∀ (x1 : Int32) (x2 : Int32) (d_e : Int32) (d_1 : Nat → Int32) (d_2 : Nat → Int32) (d_t : Int32) (s1 : Int32) (H : Heap) (locs : List Loc) (ls : Array Slot), va_P G.1 vwCl (w_D G d0 d1 d2 d3 d4 d5 d6 d7 d8 d9 d10 d11 d12 d_n d_a d_b d_c d_k d_x d_y d_d d_r d_w d_e d_1 d_2 d_o d_g d_ra d_rb d_rc d_t) H → va_D A (w_D G d0 d1 d2 d3 d4 d5 d6 d7 d8 d9 d10 d11 d12 d_n d_a d_b d_c d_k d_x d_y d_d d_r d_w d_e d_1 d_2 d_o d_g d_ra d_rb d_rc d_t) → va_S A s.heap H locs → lv_has ls 5 [(0, .ref d0), (1, .int x1), (2, .int x2)] → fX5_edge_b44 N x1 x2 d_e d_1 d_2 d_t s1 = some v → W p l e ({ frames := 1, cells := 0, slots := 0, locals := 22 } : Room) s m args below meth c H locs 0 0 (wQi G A below args s (w_D G d0 d1 d2 d3 d4 d5 d6 d7 d8 d9 d10 d11 d12 d_n d_a d_b d_c d_k d_x d_y d_d d_r d_w v.2.1 v.2.2.1 v.2.2.2.1 d_o d_g d_ra d_rb d_rc v.2.2.2.2) 0 0 v.1) (F0 m 44 ls [.int s1, .ref d0]) := by
    intro x1 x2 d_e d_1 d_2 d_t s1 H locs ls hP hD hS hl h
    rw [fX5_edge_b44.eq_1] at h
    refine lv_iconst (v := 2) hx hb dX5_edge_44 (by decide) ?_
    obtain ⟨u_1159, hc_1160, h⟩ := bd_inv h
    refine wafter_i (wr := []) (w2 := (w_D G d0 d1 d2 d3 d4 d5 d6 d7 d8 d9 d10 d11 d12 d_n d_a d_b d_c d_k d_x d_y d_d d_r d_w d_e d_1 d_2 d_o d_g d_ra d_rb d_rc u_1159.2)) (va_runV (As := [.int s1, .int 2]) (rest := []) ⟨hx, hb, hml, hown, hts⟩ (kX5_fails (l := l) (G := G) d0 d1 d2 d3 d4 d5 d6 d7 d8 d9 d10 d11 d12 d_n d_a d_b d_c d_k d_x d_y d_d d_r d_w d_e d_1 d_2 d_o d_g d_ra d_rb d_rc d_t s1 2 N u_1159 hc_1160 _) (cwV 2 hts gX5_edge_X5_fails rfl rfl rfl (by decide +kernel) ⟨Nat.le_of_ble_eq_true rfl, Nat.le_of_ble_eq_true rfl⟩) (wPreV hP hD hK [0, 1, 2, 3, 4, 5, 6, 7, 8, 9, 10, 11, 12] rfl rfl (ci := 5) (qb := 0) rfl rfl rfl) rfl rfl hl.1 rfl (lv_room (Nat.le_of_ble_eq_true rfl)) dX5_edge_45 ⟨Nat.zero_le _, Nat.zero_le _⟩) hP hD hS hA [0, 1, 2, 3, 4, 5, 6, 7, 8, 9, 10, 11, 12] [] [0, 1, 2, 3, 4, 5, 6, 7, 8, 9, 10, 11, 12] rfl rfl rfl (by decide) rfl rfl (fun H locs hP hD hS => ?_)
    refine lv_if_eq (tgt := 53) hx hb dX5_edge_48 (by decide) (fun c_1161 => ?_) (fun c_1161 => ?_)
    · have h := ip c_1161 h
      refine lv_iconst (v := (-1)) hx hb dX5_edge_53 (by decide) ?_
      refine lv_istore_n (lv' := [(3, .int (-1)), (0, .ref d0), (1, .int x1), (2, .int x2)]) hx hb dX5_edge_54 rfl hl (by decide) rfl (fun ls hl => ?_)
      refine lv_iconst (v := 0) hx hb dX5_edge_55 (by decide) ?_
      refine lv_istore (lv' := [(4, .int 0), (3, .int (-1)), (0, .ref d0), (1, .int x1), (2, .int x2)]) hx hb dX5_edge_56 hl (by decide) rfl (fun ls hl => ?_)
      refine w_58 _ _ _ _ _ _ _ () (fun x3_1162 H locs ls hP hD hS hl h => ?_) N _ _  _ _ _ hP hD hS (lv_sub hl [2, 3, 4, 1, 0] rfl) h
      refine lv_iload_n hx hb dX5_edge_124 rfl (lv_at hl 3 rfl) ?_
      refine lv_iconst (v := (-1)) hx hb dX5_edge_125 (by decide) ?_
      refine lv_icmp_ne (tgt := 162) hx hb dX5_edge_126 (by decide) (fun c_1163 => ?_) (fun c_1163 => ?_)
      · have h := iq c_1163 h
        refine lv_aload_n hx hb dX5_edge_162 rfl (lv_at hl 0 rfl) ?_
        refine lv_dup hx hb dX5_edge_163 rfl ?_
        refine va_get (D := G.1) (ci := 5) (v := .int d_e) (C := RX5) (T := TX5) (N := 19) hx hb hts hinX5 hown hK.1 hP 0 rfl rfl 10 (by decide) lk153 (fun _ h9 => h9) rfl dX5_edge_164 ?_
        refine lv_iconst (v := 1) hx hb dX5_edge_167 (by decide) ?_
        refine lv_isub hx hb dX5_edge_168 ?_
        refine va_put (D := G.1) (ci := 5) (v := .int (d_e - 1)) (ty := .int) (C := RX5) (T := TX5) (N := 19) hx hb hts hinX5 tyX5 tyX5_ok nmX5 hown hK.1 hP hD hS 0 rfl rfl 10 (by decide) lk153 (fun _ h9 => h9) rfl (by decide +kernel) rfl rfl (Nat.le_of_ble_eq_true rfl) dX5_edge_169 (fun H locs hP hD hS => ?_)
        have hP : va_P G.1 vwCl (w_D G d0 d1 d2 d3 d4 d5 d6 d7 d8 d9 d10 d11 d12 d_n d_a d_b d_c d_k d_x d_y d_d d_r d_w ((d_e - 1)) d_1 d_2 d_o d_g d_ra d_rb d_rc u_1159.2) H := hP
        have hD : va_D A (w_D G d0 d1 d2 d3 d4 d5 d6 d7 d8 d9 d10 d11 d12 d_n d_a d_b d_c d_k d_x d_y d_d d_r d_w ((d_e - 1)) d_1 d_2 d_o d_g d_ra d_rb d_rc u_1159.2) := hD
        refine lv_aload_n hx hb dX5_edge_172 rfl (lv_at hl 0 rfl) ?_
        refine va_get (D := G.1) (ci := 5) (v := .ref d9) (C := RX5) (T := TX5) (N := 19) hx hb hts hinX5 hown hK.1 hP 0 rfl rfl 11 (by decide) lk35 (fun _ h9 => h9) rfl dX5_edge_173 ?_
        refine lv_iload_n hx hb dX5_edge_176 rfl (lv_at hl 3 rfl) ?_
        refine lv_aload_n hx hb dX5_edge_177 rfl (lv_at hl 0 rfl) ?_
        refine va_get (D := G.1) (ci := 5) (v := .ref d9) (C := RX5) (T := TX5) (N := 19) hx hb hts hinX5 hown hK.1 hP 0 rfl rfl 11 (by decide) lk35 (fun _ h9 => h9) rfl dX5_edge_178 ?_
        refine lv_aload_n hx hb dX5_edge_181 rfl (lv_at hl 0 rfl) ?_
        refine va_get (D := G.1) (ci := 5) (v := .int (d_e - 1)) (C := RX5) (T := TX5) (N := 19) hx hb hts hinX5 hown hK.1 hP 0 rfl rfl 10 (by decide) lk153 (fun _ h9 => h9) rfl dX5_edge_182 ?_
        refine wiald h hx hb hK hP 9 rfl dX5_edge_185 (fun v_1164 h => ?_)
        refine wiast h hx hb hK hP hD hS 9 rfl dX5_edge_186 (fun H locs hP hD hS h => ?_)
        have hP : va_P G.1 vwCl (w_D G d0 d1 d2 d3 d4 d5 d6 d7 d8 d9 d10 d11 d12 d_n d_a d_b d_c d_k d_x d_y d_d d_r d_w ((d_e - 1)) ((upd d_1 (Int32.toNatClampNeg x3_1162) v_1164)) d_2 d_o d_g d_ra d_rb d_rc u_1159.2) H := hP
        have hD : va_D A (w_D G d0 d1 d2 d3 d4 d5 d6 d7 d8 d9 d10 d11 d12 d_n d_a d_b d_c d_k d_x d_y d_d d_r d_w ((d_e - 1)) ((upd d_1 (Int32.toNatClampNeg x3_1162) v_1164)) d_2 d_o d_g d_ra d_rb d_rc u_1159.2) := hD
        refine lv_aload_n hx hb dX5_edge_187 rfl (lv_at hl 0 rfl) ?_
        refine va_get (D := G.1) (ci := 5) (v := .ref d10) (C := RX5) (T := TX5) (N := 19) hx hb hts hinX5 hown hK.1 hP 0 rfl rfl 12 (by decide) lk38 (fun _ h9 => h9) rfl dX5_edge_188 ?_
        refine lv_iload_n hx hb dX5_edge_191 rfl (lv_at hl 3 rfl) ?_
        refine lv_aload_n hx hb dX5_edge_192 rfl (lv_at hl 0 rfl) ?_
        refine va_get (D := G.1) (ci := 5) (v := .ref d10) (C := RX5) (T := TX5) (N := 19) hx hb hts hinX5 hown hK.1 hP 0 rfl rfl 12 (by decide) lk38 (fun _ h9 => h9) rfl dX5_edge_193 ?_
        refine lv_aload_n hx hb dX5_edge_196 rfl (lv_at hl 0 rfl) ?_
        refine va_get (D := G.1) (ci := 5) (v := .int (d_e - 1)) (C := RX5) (T := TX5) (N := 19) hx hb hts hinX5 hown hK.1 hP 0 rfl rfl 10 (by decide) lk153 (fun _ h9 => h9) rfl dX5_edge_197 ?_
        refine wiald h hx hb hK hP 10 rfl dX5_edge_200 (fun v_1165 h => ?_)
        refine wiast h hx hb hK hP hD hS 10 rfl dX5_edge_201 (fun H locs hP hD hS h => ?_)
        have hP : va_P G.1 vwCl (w_D G d0 d1 d2 d3 d4 d5 d6 d7 d8 d9 d10 d11 d12 d_n d_a d_b d_c d_k d_x d_y d_d d_r d_w ((d_e - 1)) ((upd d_1 (Int32.toNatClampNeg x3_1162) v_1164)) ((upd d_2 (Int32.toNatClampNeg x3_1162) v_1165)) d_o d_g d_ra d_rb d_rc u_1159.2) H := hP
        have hD : va_D A (w_D G d0 d1 d2 d3 d4 d5 d6 d7 d8 d9 d10 d11 d12 d_n d_a d_b d_c d_k d_x d_y d_d d_r d_w ((d_e - 1)) ((upd d_1 (Int32.toNatClampNeg x3_1162) v_1164)) ((upd d_2 (Int32.toNatClampNeg x3_1162) v_1165)) d_o d_g d_ra d_rb d_rc u_1159.2) := hD
        refine lv_aload_n hx hb dX5_edge_202 rfl (lv_at hl 0 rfl) ?_
        refine va_get (D := G.1) (ci := 5) (v := .int (d_e - 1)) (C := RX5) (T := TX5) (N := 19) hx hb hts hinX5 hown hK.1 hP 0 rfl rfl 10 (by decide) lk153 (fun _ h9 => h9) rfl dX5_edge_203 ?_
        obtain rfl := Option.some.inj h
        exact wri hx hb hr hlocks hP hD hS (Nat.le_of_ble_eq_true rfl) (Nat.le_of_ble_eq_true rfl) rfl dX5_edge_206
      · have h := ip c_1163 h
        refine lv_aload_n hx hb dX5_edge_129 rfl (lv_at hl 0 rfl) ?_
        refine va_get (D := G.1) (ci := 5) (v := .ref d9) (C := RX5) (T := TX5) (N := 19) hx hb hts hinX5 hown hK.1 hP 0 rfl rfl 11 (by decide) lk35 (fun _ h9 => h9) rfl dX5_edge_130 ?_
        refine lv_aload_n hx hb dX5_edge_133 rfl (lv_at hl 0 rfl) ?_
        refine va_get (D := G.1) (ci := 5) (v := .int d_e) (C := RX5) (T := TX5) (N := 19) hx hb hts hinX5 hown hK.1 hP 0 rfl rfl 10 (by decide) lk153 (fun _ h9 => h9) rfl dX5_edge_134 ?_
        refine lv_iload_n hx hb dX5_edge_137 rfl (lv_at hl 1 rfl) ?_
        refine wiast h hx hb hK hP hD hS 9 rfl dX5_edge_138 (fun H locs hP hD hS h => ?_)
        have hP : va_P G.1 vwCl (w_D G d0 d1 d2 d3 d4 d5 d6 d7 d8 d9 d10 d11 d12 d_n d_a d_b d_c d_k d_x d_y d_d d_r d_w d_e ((upd d_1 (Int32.toNatClampNeg d_e) x1)) d_2 d_o d_g d_ra d_rb d_rc u_1159.2) H := hP
        have hD : va_D A (w_D G d0 d1 d2 d3 d4 d5 d6 d7 d8 d9 d10 d11 d12 d_n d_a d_b d_c d_k d_x d_y d_d d_r d_w d_e ((upd d_1 (Int32.toNatClampNeg d_e) x1)) d_2 d_o d_g d_ra d_rb d_rc u_1159.2) := hD
        refine lv_aload_n hx hb dX5_edge_139 rfl (lv_at hl 0 rfl) ?_
        refine va_get (D := G.1) (ci := 5) (v := .ref d10) (C := RX5) (T := TX5) (N := 19) hx hb hts hinX5 hown hK.1 hP 0 rfl rfl 12 (by decide) lk38 (fun _ h9 => h9) rfl dX5_edge_140 ?_
        refine lv_aload_n hx hb dX5_edge_143 rfl (lv_at hl 0 rfl) ?_
        refine va_get (D := G.1) (ci := 5) (v := .int d_e) (C := RX5) (T := TX5) (N := 19) hx hb hts hinX5 hown hK.1 hP 0 rfl rfl 10 (by decide) lk153 (fun _ h9 => h9) rfl dX5_edge_144 ?_
        refine lv_iload_n hx hb dX5_edge_147 rfl (lv_at hl 2 rfl) ?_
        refine wiast h hx hb hK hP hD hS 10 rfl dX5_edge_148 (fun H locs hP hD hS h => ?_)
        have hP : va_P G.1 vwCl (w_D G d0 d1 d2 d3 d4 d5 d6 d7 d8 d9 d10 d11 d12 d_n d_a d_b d_c d_k d_x d_y d_d d_r d_w d_e ((upd d_1 (Int32.toNatClampNeg d_e) x1)) ((upd d_2 (Int32.toNatClampNeg d_e) x2)) d_o d_g d_ra d_rb d_rc u_1159.2) H := hP
        have hD : va_D A (w_D G d0 d1 d2 d3 d4 d5 d6 d7 d8 d9 d10 d11 d12 d_n d_a d_b d_c d_k d_x d_y d_d d_r d_w d_e ((upd d_1 (Int32.toNatClampNeg d_e) x1)) ((upd d_2 (Int32.toNatClampNeg d_e) x2)) d_o d_g d_ra d_rb d_rc u_1159.2) := hD
        refine lv_aload_n hx hb dX5_edge_149 rfl (lv_at hl 0 rfl) ?_
        refine lv_dup hx hb dX5_edge_150 rfl ?_
        refine va_get (D := G.1) (ci := 5) (v := .int d_e) (C := RX5) (T := TX5) (N := 19) hx hb hts hinX5 hown hK.1 hP 0 rfl rfl 10 (by decide) lk153 (fun _ h9 => h9) rfl dX5_edge_151 ?_
        refine lv_iconst (v := 1) hx hb dX5_edge_154 (by decide) ?_
        refine lv_iadd hx hb dX5_edge_155 ?_
        refine va_put (D := G.1) (ci := 5) (v := .int (d_e + 1)) (ty := .int) (C := RX5) (T := TX5) (N := 19) hx hb hts hinX5 tyX5 tyX5_ok nmX5 hown hK.1 hP hD hS 0 rfl rfl 10 (by decide) lk153 (fun _ h9 => h9) rfl (by decide +kernel) rfl rfl (Nat.le_of_ble_eq_true rfl) dX5_edge_156 (fun H locs hP hD hS => ?_)
        have hP : va_P G.1 vwCl (w_D G d0 d1 d2 d3 d4 d5 d6 d7 d8 d9 d10 d11 d12 d_n d_a d_b d_c d_k d_x d_y d_d d_r d_w ((d_e + 1)) ((upd d_1 (Int32.toNatClampNeg d_e) x1)) ((upd d_2 (Int32.toNatClampNeg d_e) x2)) d_o d_g d_ra d_rb d_rc u_1159.2) H := hP
        have hD : va_D A (w_D G d0 d1 d2 d3 d4 d5 d6 d7 d8 d9 d10 d11 d12 d_n d_a d_b d_c d_k d_x d_y d_d d_r d_w ((d_e + 1)) ((upd d_1 (Int32.toNatClampNeg d_e) x1)) ((upd d_2 (Int32.toNatClampNeg d_e) x2)) d_o d_g d_ra d_rb d_rc u_1159.2) := hD
        refine lv_goto (tgt := 202) hx hb dX5_edge_159 (by decide) ?_
        refine lv_aload_n hx hb dX5_edge_202 rfl (lv_at hl 0 rfl) ?_
        refine va_get (D := G.1) (ci := 5) (v := .int (d_e + 1)) (C := RX5) (T := TX5) (N := 19) hx hb hts hinX5 hown hK.1 hP 0 rfl rfl 10 (by decide) lk153 (fun _ h9 => h9) rfl dX5_edge_203 ?_
        obtain rfl := Option.some.inj h
        exact wri hx hb hr hlocks hP hD hS (Nat.le_of_ble_eq_true rfl) (Nat.le_of_ble_eq_true rfl) rfl dX5_edge_206
    · have h := iq c_1161 h
      refine lv_iconst (v := 0) hx hb dX5_edge_51 (by decide) ?_
      obtain rfl := Option.some.inj h
      exact wri hx hb hr hlocks hP hD hS (Nat.le_of_ble_eq_true rfl) (Nat.le_of_ble_eq_true rfl) rfl dX5_edge_52
  have w_24 : ∀ (x1 : Int32) (x2 : Int32) (d_e : Int32) (d_1 : Nat → Int32) (d_2 : Nat → Int32) (d_t : Int32) (s1 : Int32) (H : Heap) (locs : List Loc) (ls : Array Slot), va_P G.1 vwCl (w_D G d0 d1 d2 d3 d4 d5 d6 d7 d8 d9 d10 d11 d12 d_n d_a d_b d_c d_k d_x d_y d_d d_r d_w d_e d_1 d_2 d_o d_g d_ra d_rb d_rc d_t) H → va_D A (w_D G d0 d1 d2 d3 d4 d5 d6 d7 d8 d9 d10 d11 d12 d_n d_a d_b d_c d_k d_x d_y d_d d_r d_w d_e d_1 d_2 d_o d_g d_ra d_rb d_rc d_t) → va_S A s.heap H locs → lv_has ls 5 [(0, .ref d0), (1, .int x1), (2, .int x2)] → fX5_edge_b24 N x1 x2 d_e d_1 d_2 d_t s1 = some v → W p l e ({ frames := 1, cells := 0, slots := 0, locals := 22 } : Room) s m args below meth c H locs 0 0 (wQi G A below args s (w_D G d0 d1 d2 d3 d4 d5 d6 d7 d8 d9 d10 d11 d12 d_n d_a d_b d_c d_k d_x d_y d_d d_r d_w v.2.1 v.2.2.1 v.2.2.2.1 d_o d_g d_ra d_rb d_rc v.2.2.2.2) 0 0 v.1) (F0 m 24 ls [.int s1, .ref d0]) := by
    intro x1 x2 d_e d_1 d_2 d_t s1 H locs ls hP hD hS hl h
    rw [fX5_edge_b24.eq_1] at h
    refine lv_iconst (v := 1) hx hb dX5_edge_24 (by decide) ?_
    obtain ⟨u_1166, hc_1167, h⟩ := bd_inv h
    refine wafter_i (wr := []) (w2 := (w_D G d0 d1 d2 d3 d4 d5 d6 d7 d8 d9 d10 d11 d12 d_n d_a d_b d_c d_k d_x d_y d_d d_r d_w d_e d_1 d_2 d_o d_g d_ra d_rb d_rc u_1166.2)) (va_runV (As := [.int s1, .int 1]) (rest := []) ⟨hx, hb, hml, hown, hts⟩ (kX5_fails (l := l) (G := G) d0 d1 d2 d3 d4 d5 d6 d7 d8 d9 d10 d11 d12 d_n d_a d_b d_c d_k d_x d_y d_d d_r d_w d_e d_1 d_2 d_o d_g d_ra d_rb d_rc d_t s1 1 N u_1166 hc_1167 _) (cwV 2 hts gX5_edge_X5_fails rfl rfl rfl (by decide +kernel) ⟨Nat.le_of_ble_eq_true rfl, Nat.le_of_ble_eq_true rfl⟩) (wPreV hP hD hK [0, 1, 2, 3, 4, 5, 6, 7, 8, 9, 10, 11, 12] rfl rfl (ci := 5) (qb := 0) rfl rfl rfl) rfl rfl hl.1 rfl (lv_room (Nat.le_of_ble_eq_true rfl)) dX5_edge_25 ⟨Nat.zero_le _, Nat.zero_le _⟩) hP hD hS hA [0, 1, 2, 3, 4, 5, 6, 7, 8, 9, 10, 11, 12] [] [0, 1, 2, 3, 4, 5, 6, 7, 8, 9, 10, 11, 12] rfl rfl rfl (by decide) rfl rfl (fun H locs hP hD hS => ?_)
    refine lv_if_eq (tgt := 33) hx hb dX5_edge_28 (by decide) (fun c_1168 => ?_) (fun c_1168 => ?_)
    · have h := ip c_1168 h
      refine lv_aload_n hx hb dX5_edge_33 rfl (lv_at hl 0 rfl) ?_
      refine lv_iload_n hx hb dX5_edge_34 rfl (lv_at hl 1 rfl) ?_
      refine lv_iload_n hx hb dX5_edge_35 rfl (lv_at hl 2 rfl) ?_
      refine lv_icmp_eq (tgt := 43) hx hb dX5_edge_36 (by decide) (fun c_1169 => ?_) (fun c_1169 => ?_)
      · have h := ip c_1169 h
        refine lv_iconst (v := 0) hx hb dX5_edge_43 (by decide) ?_
        exact w_44  _ _ _ _ _ _ _ _ _ _  hP hD hS (lv_sub hl [0, 1, 2] rfl) h
      · have h := iq c_1169 h
        refine lv_iconst (v := 1) hx hb dX5_edge_39 (by decide) ?_
        refine lv_goto (tgt := 44) hx hb dX5_edge_40 (by decide) ?_
        exact w_44  _ _ _ _ _ _ _ _ _ _  hP hD hS (lv_sub hl [0, 1, 2] rfl) h
    · have h := iq c_1168 h
      refine lv_iconst (v := 0) hx hb dX5_edge_31 (by decide) ?_
      obtain rfl := Option.some.inj h
      exact wri hx hb hr hlocks hP hD hS (Nat.le_of_ble_eq_true rfl) (Nat.le_of_ble_eq_true rfl) rfl dX5_edge_32
  rw [fX5_edge.eq_1] at h
  refine lv_aload_n hx hb dX5_edge_0 rfl (lv_at hl 0 rfl) ?_
  refine lv_iload_n hx hb dX5_edge_1 rfl (lv_at hl 1 rfl) ?_
  refine lv_iconst (v := 0) hx hb dX5_edge_2 (by decide) ?_
  refine lv_iconst (v := 5) hx hb dX5_edge_3 (by decide) ?_
  obtain ⟨u_1170, hc_1171, h⟩ := bd_inv h
  refine wafter_i (wr := (w_D G d0 d1 d2 d3 d4 d5 d6 d7 d8 d9 d10 d11 d12 d_n d_a d_b d_c d_k d_x d_y d_d d_r d_w d_e d_1 d_2 d_o d_g d_ra d_rb d_rc d_t)) (w2 := (w_D G d0 d1 d2 d3 d4 d5 d6 d7 d8 d9 d10 d11 d12 d_n d_a d_b d_c d_k d_x d_y d_d d_r d_w d_e d_1 d_2 d_o d_g d_ra d_rb d_rc d_t)) (va_runS (As := [.int x1, .int 0, .int 5]) (rest := [.ref d0]) ⟨hx, hb, hml, hown, hts⟩ (kX5_in (l := l) (G := G)   x1 0 5 N u_1170 hc_1171 _) (va_cwS 3 hts gX5_edge_X5_in rfl rfl rfl (by decide +kernel) ⟨Nat.le_of_ble_eq_true rfl, Nat.le_of_ble_eq_true rfl⟩) (wPreS hP hD hK [] rfl rfl) rfl rfl hl.1 rfl (lv_room (Nat.le_of_ble_eq_true rfl)) dX5_edge_4 ⟨Nat.zero_le _, Nat.zero_le _⟩) hP hD hS hA [] [0, 1, 2, 3, 4, 5, 6, 7, 8, 9, 10, 11, 12] [0, 1, 2, 3, 4, 5, 6, 7, 8, 9, 10, 11, 12] rfl rfl rfl (by decide) rfl rfl (fun H locs hP hD hS => ?_)
  refine lv_if_eq (tgt := 23) hx hb dX5_edge_7 (by decide) (fun c_1172 => ?_) (fun c_1172 => ?_)
  · have h := ip c_1172 h
    refine lv_iconst (v := 0) hx hb dX5_edge_23 (by decide) ?_
    exact w_24  _ _ _ _ _ _ _ _ _ _  hP hD hS (lv_sub hl [0, 1, 2] rfl) h
  · have h := iq c_1172 h
    refine lv_iload_n hx hb dX5_edge_10 rfl (lv_at hl 2 rfl) ?_
    refine lv_iconst (v := 0) hx hb dX5_edge_11 (by decide) ?_
    refine lv_iconst (v := 5) hx hb dX5_edge_12 (by decide) ?_
    obtain ⟨u_1173, hc_1174, h⟩ := bd_inv h
    refine wafter_i (wr := (w_D G d0 d1 d2 d3 d4 d5 d6 d7 d8 d9 d10 d11 d12 d_n d_a d_b d_c d_k d_x d_y d_d d_r d_w d_e d_1 d_2 d_o d_g d_ra d_rb d_rc d_t)) (w2 := (w_D G d0 d1 d2 d3 d4 d5 d6 d7 d8 d9 d10 d11 d12 d_n d_a d_b d_c d_k d_x d_y d_d d_r d_w d_e d_1 d_2 d_o d_g d_ra d_rb d_rc d_t)) (va_runS (As := [.int x2, .int 0, .int 5]) (rest := [.ref d0]) ⟨hx, hb, hml, hown, hts⟩ (kX5_in (l := l) (G := G)   x2 0 5 N u_1173 hc_1174 _) (va_cwS 3 hts gX5_edge_X5_in rfl rfl rfl (by decide +kernel) ⟨Nat.le_of_ble_eq_true rfl, Nat.le_of_ble_eq_true rfl⟩) (wPreS hP hD hK [] rfl rfl) rfl rfl hl.1 rfl (lv_room (Nat.le_of_ble_eq_true rfl)) dX5_edge_13 ⟨Nat.zero_le _, Nat.zero_le _⟩) hP hD hS hA [] [0, 1, 2, 3, 4, 5, 6, 7, 8, 9, 10, 11, 12] [0, 1, 2, 3, 4, 5, 6, 7, 8, 9, 10, 11, 12] rfl rfl rfl (by decide) rfl rfl (fun H locs hP hD hS => ?_)
    refine lv_if_eq (tgt := 23) hx hb dX5_edge_16 (by decide) (fun c_1175 => ?_) (fun c_1175 => ?_)
    · have h := ip c_1175 h
      refine lv_iconst (v := 0) hx hb dX5_edge_23 (by decide) ?_
      exact w_24  _ _ _ _ _ _ _ _ _ _  hP hD hS (lv_sub hl [0, 1, 2] rfl) h
    · have h := iq c_1175 h
      refine lv_iconst (v := 1) hx hb dX5_edge_19 (by decide) ?_
      refine lv_goto (tgt := 24) hx hb dX5_edge_20 (by decide) ?_
      exact w_24  _ _ _ _ _ _ _ _ _ _  hP hD hS (lv_sub hl [0, 1, 2] rfl) h
