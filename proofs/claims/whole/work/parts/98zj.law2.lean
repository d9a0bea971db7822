/-! THE LAW, second: the loop; from the entry -/
section LAW2
variable {nm : String} {L : Nat} {xs : Nat → Int} {m : ZM} {st0 : ST} {i : Int}
def QLa : ZQ := fun r _ _ => r = (0, 1)
abbrev LaE (nm : String) (L : Nat) (xs : Nat → Int) (pc : Nat) (ls st : List ZV) (m : ZM) : Prop := EvX (some (L, xs)) 41 (M_La nm) 0 0 pc ls st kdF m QLa
theorem La_step (h : JI kdF m st0) (hi_q : 0 ≤ i ∧ i + 6 ≤ L) (hL : L ≤ 3072) (hx : ∀ n, zin32 (xs n)) (K : ∀ m2_q st2_q, JI kdF m2_q st2_q → LaE nm L xs 1592 (LSt i) [] m2_q) : LaE nm L xs 27 (LSt i) [] m := by
  refine EvX.aload_n (v := (4, 0)) (i := 0) (show decode code 27 = .ok (.aload_n 0, 1) by decide +kernel) rfl (Or.inr (Or.inr (Or.inl rfl))) ?_
  refine EvX.iload_n (x := i) (i := 3) (show decode code 28 = .ok (.iload_n 3, 1) by decide +kernel) rfl ?_
  refine EvX.sload (show decode code 29 = .ok (.iaload, 1) by decide +kernel) ⟨by omega, by omega⟩ ?_
  refine EvX.bipush (n := 63) (show decode code 30 = .ok (.bipush 63, 2) by decide +kernel) ⟨by decide, by decide⟩ (by decide) ?_
  refine EvX.iand (show decode code 32 = .ok (.iand, 1) by decide +kernel) ?_
  generalize zand (xs i.toNat) 63 = x
  refine EvX.tsw (M := M_La nm) (pc := 33) (dflt := 1559) (lo := 0) (hi := 42) (offs := #[187, 250, 273, 286, 329, 382, 425, 478, 491, 524, 557, 620, 663, 686, 699, 722, 745, 798, 831, 854, 877, 910, 943, 976, 990, 1023, 1057, 1081, 1104, 1137, 1190, 1233, 1276, 1309, 1332, 1365, 1388, 1411, 1424, 1447, 1500, 1513, 1536]) (len := 187) (n := 43) (df := 1592) (tgt := fun k => match k with | 0 => 220 | 1 => 283 | 2 => 306 | 3 => 319 | 4 => 362 | 5 => 415 | 6 => 458 | 7 => 511 | 8 => 524 | 9 => 557 | 10 => 590 | 11 => 653 | 12 => 696 | 13 => 719 | 14 => 732 | 15 => 755 | 16 => 778 | 17 => 831 | 18 => 864 | 19 => 887 | 20 => 910 | 21 => 943 | 22 => 976 | 23 => 1009 | 24 => 1023 | 25 => 1056 | 26 => 1090 | 27 => 1114 | 28 => 1137 | 29 => 1170 | 30 => 1223 | 31 => 1266 | 32 => 1309 | 33 => 1342 | 34 => 1365 | 35 => 1398 | 36 => 1421 | 37 => 1444 | 38 => 1457 | 39 => 1480 | 40 => 1533 | 41 => 1546 | 42 => 1569 | _ => 1592) (show decode code 33 = .ok (.tableswitch 1559 0 42 #[187, 250, 273, 286, 329, 382, 425, 478, 491, 524, 557, 620, 663, 686, 699, 722, 745, 798, 831, 854, 877, 910, 943, 976, 990, 1023, 1057, 1081, 1104, 1137, 1190, 1233, 1276, 1309, 1332, 1365, 1388, 1411, 1424, 1447, 1500, 1513, 1536], 187) by decide +kernel) (by decide) (by decide) (by decide) (fun _ => K m st0 h) (fun hc_q => ?_)
  rcases (show x = 0 ∨ x = 1 ∨ x = 2 ∨ x = 3 ∨ x = 4 ∨ x = 5 ∨ x = 6 ∨ x = 7 ∨ x = 8 ∨ x = 9 ∨ x = 10 ∨ x = 11 ∨ x = 12 ∨ x = 13 ∨ x = 14 ∨ x = 15 ∨ x = 16 ∨ x = 17 ∨ x = 18 ∨ x = 19 ∨ x = 20 ∨ x = 21 ∨ x = 22 ∨ x = 23 ∨ x = 24 ∨ x = 25 ∨ x = 26 ∨ x = 27 ∨ x = 28 ∨ x = 29 ∨ x = 30 ∨ x = 31 ∨ x = 32 ∨ x = 33 ∨ x = 34 ∨ x = 35 ∨ x = 36 ∨ x = 37 ∨ x = 38 ∨ x = 39 ∨ x = 40 ∨ x = 41 ∨ x = 42 by omega) with e | e | e | e | e | e | e | e | e | e | e | e | e | e | e | e | e | e | e | e | e | e | e | e | e | e | e | e | e | e | e | e | e | e | e | e | e | e | e | e | e | e | e
  · rw [show (x - 0).toNat = 0 by omega]
    exact La_feed h hi_q hL hx K
  · rw [show (x - 0).toNat = 1 by omega]
    exact La_end h hi_q hL hx K
  · rw [show (x - 0).toNat = 2 by omega]
    exact La_tell h hi_q hL hx K
  · rw [show (x - 0).toNat = 3 by omega]
    exact La_weigh h hi_q hL hx K
  · rw [show (x - 0).toNat = 4 by omega]
    exact La_decide h hi_q hL hx K
  · rw [show (x - 0).toNat = 5 by omega]
    exact La_parity h hi_q hL hx K
  · rw [show (x - 0).toNat = 6 by omega]
    exact La_exchange h hi_q hL hx K
  · rw [show (x - 0).toNat = 7 by omega]
    exact La_swap h hi_q hL hx K
  · rw [show (x - 0).toNat = 8 by omega]
    exact La_drop h hi_q hL hx K
  · rw [show (x - 0).toNat = 9 by omega]
    exact La_copy h hi_q hL hx K
  · rw [show (x - 0).toNat = 10 by omega]
    exact La_box h hi_q hL hx K
  · rw [show (x - 0).toNat = 11 by omega]
    exact La_mix h hi_q hL hx K
  · rw [show (x - 0).toNat = 12 by omega]
    exact La_draw h hi_q hL hx K
  · rw [show (x - 0).toNat = 13 by omega]
    exact La_undo h hi_q hL hx K
  · rw [show (x - 0).toNat = 14 by omega]
    exact La_keep h hi_q hL hx K
  · rw [show (x - 0).toNat = 15 by omega]
    exact La_back h hi_q hL hx K
  · rw [show (x - 0).toNat = 16 by omega]
    exact La_wins h hi_q hL hx K
  · rw [show (x - 0).toNat = 17 by omega]
    exact La_weight h hi_q hL hx K
  · rw [show (x - 0).toNat = 18 by omega]
    exact La_worth h hi_q hL hx K
  · rw [show (x - 0).toNat = 19 by omega]
    exact La_sure h hi_q hL hx K
  · rw [show (x - 0).toNat = 20 by omega]
    exact La_play h hi_q hL hx K
  · rw [show (x - 0).toNat = 21 by omega]
    exact La_hangs h hi_q hL hx K
  · rw [show (x - 0).toNat = 22 by omega]
    exact La_reply h hi_q hL hx K
  · rw [show (x - 0).toNat = 23 by omega]
    exact La_bests h hi_q hL hx K
  · rw [show (x - 0).toNat = 24 by omega]
    exact La_best h hi_q hL hx K
  · rw [show (x - 0).toNat = 25 by omega]
    exact La_lost h hi_q hL hx K
  · rw [show (x - 0).toNat = 26 by omega]
    exact La_mean h hi_q hL hx K
  · rw [show (x - 0).toNat = 27 by omega]
    exact La_talk h hi_q hL hx K
  · rw [show (x - 0).toNat = 28 by omega]
    exact La_without h hi_q hL hx K
  · rw [show (x - 0).toNat = 29 by omega]
    exact La_lesser h hi_q hL hx K
  · rw [show (x - 0).toNat = 30 by omega]
    exact La_same h hi_q hL hx K
  · rw [show (x - 0).toNat = 31 by omega]
    exact La_climb h hi_q hL hx K
  · rw [show (x - 0).toNat = 32 by omega]
    exact La_cut h hi_q hL hx K
  · rw [show (x - 0).toNat = 33 by omega]
    exact La_parts h hi_q hL hx K
  · rw [show (x - 0).toNat = 34 by omega]
    exact La_sign h hi_q hL hx K
  · rw [show (x - 0).toNat = 35 by omega]
    exact La_bias h hi_q hL hx K
  · rw [show (x - 0).toNat = 36 by omega]
    exact La_twice h hi_q hL hx K
  · rw [show (x - 0).toNat = 37 by omega]
    exact La_product h hi_q hL hx K
  · rw [show (x - 0).toNat = 38 by omega]
    exact La_boxed h hi_q hL hx K
  · rw [show (x - 0).toNat = 39 by omega]
    exact La_marginal h hi_q hL hx K
  · rw [show (x - 0).toNat = 40 by omega]
    exact La_symmetries h hi_q hL hx K
  · rw [show (x - 0).toNat = 41 by omega]
    exact La_letter h hi_q hL hx K
  · rw [show (x - 0).toNat = 42 by omega]
    exact La_count h hi_q hL hx K
theorem La_loop (hL : L ≤ 3072) (hx : ∀ n, zin32 (xs n)) : ∀ (n : Nat) (i : Int) (m : ZM) (st0 : ST), (L : Int) - i ≤ n → 0 ≤ i → i ≤ 4000 → JI kdF m st0 → LaE nm L xs 18 (LSt i) [] m := by
  intro n
  induction n with
  | zero =>
    intro i m st0 hn h0 h1 h
    refine EvX.iload_n (x := i) (i := 3) (show decode code 18 = .ok (.iload_n 3, 1) by decide +kernel) rfl ?_
    refine EvX.aload_n (v := (4, 0)) (i := 0) (show decode code 19 = .ok (.aload_n 0, 1) by decide +kernel) rfl (Or.inr (Or.inr (Or.inl rfl))) ?_
    refine EvX.slen (show decode code 20 = .ok (.arraylength, 1) by decide +kernel) ?_
    refine EvX.bipush (n := 6) (show decode code 21 = .ok (.bipush 6, 2) by decide +kernel) ⟨by decide, by decide⟩ (by decide) ?_
    refine EvX.isub (show decode code 23 = .ok (.isub, 1) by decide +kernel) ?_
    rw [iw_s (x := (L : Int) - 6) (by omega) (by omega)]
    refine EvX.icmp_gt (off := 1574) (tgt := 1598) (show decode code 24 = .ok (.if_icmp .gt 1574, 3) by decide +kernel) (by decide) (fun _ => ?_) (fun z => absurd (by omega) z)
    refine EvX.iconst (n := 1) (show decode code 1598 = .ok (.iconst 1, 1) by decide +kernel) ⟨by decide, by decide⟩ ?_
    exact EvX.ret (r := (0, 1)) (show decode code 1599 = .ok (.ireturn, 1) by decide +kernel) ⟨rfl, by decide, by decide⟩ rfl
  | succ n ih =>
    intro i m st0 hn h0 h1 h
    refine EvX.iload_n (x := i) (i := 3) (show decode code 18 = .ok (.iload_n 3, 1) by decide +kernel) rfl ?_
    refine EvX.aload_n (v := (4, 0)) (i := 0) (show decode code 19 = .ok (.aload_n 0, 1) by decide +kernel) rfl (Or.inr (Or.inr (Or.inl rfl))) ?_
    refine EvX.slen (show decode code 20 = .ok (.arraylength, 1) by decide +kernel) ?_
    refine EvX.bipush (n := 6) (show decode code 21 = .ok (.bipush 6, 2) by decide +kernel) ⟨by decide, by decide⟩ (by decide) ?_
    refine EvX.isub (show decode code 23 = .ok (.isub, 1) by decide +kernel) ?_
    rw [iw_s (x := (L : Int) - 6) (by omega) (by omega)]
    refine EvX.icmp_gt (off := 1574) (tgt := 1598) (show decode code 24 = .ok (.if_icmp .gt 1574, 3) by decide +kernel) (by decide) (fun _ => ?_) (fun z => ?_)
    · refine EvX.iconst (n := 1) (show decode code 1598 = .ok (.iconst 1, 1) by decide +kernel) ⟨by decide, by decide⟩ ?_
      exact EvX.ret (r := (0, 1)) (show decode code 1599 = .ok (.ireturn, 1) by decide +kernel) ⟨rfl, by decide, by decide⟩ rfl
    · refine La_step h ⟨h0, by omega⟩ hL hx (fun m2_q st2_q J2 => ?_)
      refine EvX.iinc (i := 3) (n := 6) (x := i) (show decode code 1592 = .ok (.iinc 3 6, 3) by decide +kernel) rfl (show 3 < 4 by decide) ?_
      rw [iw_s (x := i + 6) (by omega) (by omega)]
      refine EvX.goto (off := -1577) (tgt := 18) (show decode code 1595 = .ok (.goto (-1577), 3) by decide +kernel) (by decide) ?_
      exact ih (i + 6) m2_q st2_q (by omega) (by omega) (by omega) J2
def st00 : ST := (fun _ => 0, fun _ _ => 0, 0, fun _ _ => 0, 0, fun _ => 0, 0)
theorem JI_0 {m m' : ZM} (hA : AI kdF m (fun _ => 0) (fun _ _ => 0) 0 (fun _ _ => 0) 0 (fun _ => 0) 0) (f : ∀ c, c < 78 → m' c = m c) (hM_q : MS kdF m' ∧ (∀ i, m' 79 i = 0) ∧ (∀ i, m' 84 i = 0) ∧ m' 78 6 = 0 ∧ m' 78 8 = 0) : JI kdF m' st00 := by
  refine ⟨hA.lo f, ⟨hM_q.1, fun i _ _ => hM_q.2.1 i, ⟨hM_q.2.2.2.1, fun k j k0_q k1_q => absurd k1_q (show ¬ k < 0 by omega)⟩, ⟨fun k k0_q k1_q => ?_, fun k j k0_q k1_q b => absurd b (sbit_0 ⟨k0_q, by omega⟩)⟩, hM_q.2.2.2.2, fun j j0 j1 => absurd j1 (show ¬ j < 0 by omega)⟩, fun h => absurd h (by decide), fun k k0_q k1_q => absurd k1_q (show ¬ k < 0 by omega), fun k k0_q k1_q b => absurd b (sbit_0 ⟨k0_q, by omega⟩)⟩
  rw [hM_q.2.2.1 k]
  exact (zb_f (sbit_0 ⟨k0_q, by omega⟩)).symm
/-- from the entry -/
theorem La_entry (hL : L ≤ 3072) (hx : ∀ n, zin32 (xs n)) {m0_q : ZM} : EvX (some (L, xs)) 41 (M_La nm) 95 80739 0 [(4, 0), zJ, zJ, zJ] [] (kT 0) m0_q QLa := by
  refine EvX.newc (M := M_La nm) (pc := 0) (mc := 94) (ms := 80729) (n := 0) (c := 7) (N := 10) (show decode code 0 = .ok (.new 7, 3) by decide +kernel) (nw_Law_7 rfl) rfl (by decide) rfl ?_
  refine EvX.dup (show decode code 3 = .ok (.dup, 1) by decide +kernel) (by decide) ?_
  refine EvX.callI (M := M_La nm) (pc := 4) (mc := 17) (ms := 38901) (as := []) (a := 0) (st := [(2, 0)]) (show decode code 4 = .ok (.invokespecial 9, 3) by decide +kernel) l_Law_9 k_Ap_init i_Ap_init rfl a_Ap_init (by decide) (Nat.le_of_ble_eq_true rfl) (by decide) c_Ap_init (fun r kd1 m1_q w => ?_)
  obtain ⟨rfl, rfl, hA⟩ := w
  show EvX (some (L, xs)) 41 (M_La nm) 17 38901 7 [(4, 0), zJ, zJ, zJ] [(2, 0)] (kT 78) m1_q QLa
  refine EvX.astore_n (i := 1) (show decode code 7 = .ok (.astore_n 1, 1) by decide +kernel) (Or.inl rfl) (show 1 < 4 by decide) ?_
  show EvX (some (L, xs)) 41 (M_La nm) 17 38901 8 [(4, 0), (2, 0), zJ, zJ] [] (kT 78) m1_q QLa
  refine EvX.newc (M := M_La nm) (pc := 8) (mc := 16) (ms := 38875) (n := 78) (c := 8) (N := 26) (show decode code 8 = .ok (.new 10, 3) by decide +kernel) (nw_Law_10 rfl) rfl (by decide) rfl ?_
  refine EvX.dup (show decode code 11 = .ok (.dup, 1) by decide +kernel) (by decide) ?_
  refine EvX.callI (M := M_La nm) (pc := 12) (mc := 0) (ms := 0) (as := []) (a := 78) (st := [(2, 78)]) (show decode code 12 = .ok (.invokespecial 12, 3) by decide +kernel) l_Law_12 k_Mo_init i_Mo_init rfl a_Mo_init (by decide) (Nat.le_of_ble_eq_true rfl) (by decide) (c_Mo_init (d := 39)) (fun r kd1 m2_q w => ?_)
  obtain ⟨rfl, rfl, hM_q, f⟩ := w
  have J : JI kdF m2_q st00 := JI_0 hA (fun c hc_q => by rw [f c hc_q]; funext j; exact zrow_ne (by omega)) ⟨hM_q.1, hM_q.2.1, hM_q.2.2.1, by rw [hM_q.2.2.2.1]; exact zrow_self, by rw [hM_q.2.2.2.2]; exact zrow_self⟩
  show EvX (some (L, xs)) 41 (M_La nm) 0 0 15 [(4, 0), (2, 0), zJ, zJ] [(2, 78)] kdF m2_q QLa
  refine EvX.astore_n (i := 2) (show decode code 15 = .ok (.astore_n 2, 1) by decide +kernel) (Or.inl rfl) (show 2 < 4 by decide) ?_
  show EvX (some (L, xs)) 41 (M_La nm) 0 0 16 [(4, 0), (2, 0), (2, 78), zJ] [] kdF m2_q QLa
  refine EvX.iconst (n := 0) (show decode code 16 = .ok (.iconst 0, 1) by decide +kernel) ⟨by decide, by decide⟩ ?_
  refine EvX.istore_n (i := 3) (show decode code 17 = .ok (.istore_n 3, 1) by decide +kernel) (show 3 < 4 by decide) ?_
  exact La_loop hL hx L 0 m2_q st00 (by omega) (by decide) (by decide) J
end LAW2
