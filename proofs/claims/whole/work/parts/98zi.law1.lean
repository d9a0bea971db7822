/-! THE LAW, first: a call on both -/
abbrev M_La (nm : String) : ZMeth := (⟨"ApartGamesLaw", nm, "([I)Z"⟩, code, 4, some .boolean)
def LSt (i : Int) : List ZV := [(4, 0), (2, 0), (2, 78), (0, i)]
section LAW
variable {nm : String} {L : Nat} {xs : Nat → Int} {m : ZM} {st0 : ST} {Q : ZQ} {i : Int}
theorem La_arg {d : Nat} {pc j p2_q : Nat} {st : List ZV} {kd : ZK} (hp : pc + 5 = p2_q) (hd_q : decode code pc = .ok (.aload_n 0, 1) ∧ decode code (pc + 1) = .ok (.iload_n 3, 1) ∧ decode code (pc + 2) = .ok (.iconst j, 1) ∧ decode code (pc + 3) = .ok (.iadd, 1) ∧ decode code (pc + 4) = .ok (.iaload, 1)) (hj : j ≤ 5) (hi_q : 0 ≤ i ∧ i + 6 ≤ L) (hL : L ≤ 3072) (kk : EvX (some (L, xs)) d (M_La nm) 0 0 p2_q (LSt i) ((0, xs (i + j).toNat) :: st) kd m Q) : EvX (some (L, xs)) d (M_La nm) 0 0 pc (LSt i) st kd m Q := by
  subst hp
  refine EvX.aload_n (v := (4, 0)) (i := 0) hd_q.1 rfl (Or.inr (Or.inr (Or.inl rfl))) ?_
  refine EvX.iload_n (x := i) (i := 3) hd_q.2.1 rfl ?_
  refine EvX.iconst hd_q.2.2.1 ⟨by omega, by omega⟩ ?_
  refine EvX.iadd hd_q.2.2.2.1 ?_
  rw [iw_s (x := i + (j : Int)) (by omega) (by omega)]
  exact EvX.sload hd_q.2.2.2.2 ⟨by omega, by omega⟩ kk
theorem zcmp_0 {x y : Int} (h : x = y) : zcmp x y = 0 := by
  unfold zcmp
  rw [if_neg (by omega), if_pos h]
theorem La_feed (h : JI kdF m st0) (hi_q : 0 ≤ i ∧ i + 6 ≤ L) (hL : L ≤ 3072) (hx : ∀ n, zin32 (xs n)) (K : ∀ m2_q st2_q, JI kdF m2_q st2_q → EvX (some (L, xs)) 41 (M_La nm) 0 0 1592 (LSt i) [] kdF m2_q Q) : EvX (some (L, xs)) 41 (M_La nm) 0 0 220 (LSt i) [] kdF m Q := by
  refine EvX.aload_n (v := (2, 0)) (i := 1) (show decode code 220 = .ok (.aload_n 1, 1) by decide +kernel) rfl (Or.inl rfl) ?_
  show EvX (some (L, xs)) 41 (M_La nm) 0 0 221 (LSt i) [(2, 0)] kdF m Q
  refine La_arg (pc := 221) (j := 1) (p2_q := 226) rfl (by decide +kernel) (by decide) hi_q hL ?_
  refine La_arg (pc := 226) (j := 2) (p2_q := 231) rfl (by decide +kernel) (by decide) hi_q hL ?_
  refine La_arg (pc := 231) (j := 3) (p2_q := 236) rfl (by decide +kernel) (by decide) hi_q hL ?_
  refine La_arg (pc := 236) (j := 4) (p2_q := 241) rfl (by decide +kernel) (by decide) hi_q hL ?_
  refine La_arg (pc := 241) (j := 5) (p2_q := 246) rfl (by decide +kernel) (by decide) hi_q hL ?_
  refine EvX.callV (M := M_La nm) (pc := 246) (c := 7) (mc := 0) (ms := 0) (a := 0) (as := [(0, xs (i + 1).toNat), (0, xs (i + 2).toNat), (0, xs (i + 3).toNat), (0, xs (i + 4).toNat), (0, xs (i + 5).toNat)]) (st := []) (show decode code 246 = .ok (.invokevirtual 13, 3) by decide +kernel) l_Law_13 k_Ap_feed v_Ap_feed a_Ap_feed (by decide) (Nat.le_of_ble_eq_true rfl) rfl ⟨by decide, rfl⟩ (pr_feed h) (fun r kd1 m1_q w => ?_)
  obtain ⟨r1_q, rfl, hk, w⟩ := w
  subst kd1
  show EvX (some (L, xs)) 41 (M_La nm) 0 0 249 (LSt i) [(0, r1_q)] kdF m1_q Q
  refine EvX.aload_n (v := (2, 78)) (i := 2) (show decode code 249 = .ok (.aload_n 2, 1) by decide +kernel) rfl (Or.inl rfl) ?_
  show EvX (some (L, xs)) 41 (M_La nm) 0 0 250 (LSt i) [(2, 78), (0, r1_q)] kdF m1_q Q
  refine La_arg (pc := 250) (j := 1) (p2_q := 255) rfl (by decide +kernel) (by decide) hi_q hL ?_
  refine La_arg (pc := 255) (j := 2) (p2_q := 260) rfl (by decide +kernel) (by decide) hi_q hL ?_
  refine La_arg (pc := 260) (j := 3) (p2_q := 265) rfl (by decide +kernel) (by decide) hi_q hL ?_
  refine La_arg (pc := 265) (j := 4) (p2_q := 270) rfl (by decide +kernel) (by decide) hi_q hL ?_
  refine La_arg (pc := 270) (j := 5) (p2_q := 275) rfl (by decide +kernel) (by decide) hi_q hL ?_
  refine EvX.callV (M := M_La nm) (pc := 275) (c := 8) (mc := 0) (ms := 0) (a := 78) (as := [(0, xs (i + 1).toNat), (0, xs (i + 2).toNat), (0, xs (i + 3).toNat), (0, xs (i + 4).toNat), (0, xs (i + 5).toNat)]) (st := [(0, r1_q)]) (show decode code 275 = .ok (.invokevirtual 17, 3) by decide +kernel) l_Law_17 k_Mo_feed v_Mo_feed a_Mo_feed (by decide) (Nat.le_of_ble_eq_true rfl) rfl ⟨by decide, rfl⟩ w (fun r kd1 m2_q w2_q => ?_)
  obtain ⟨r2, rfl, hk, e, st2_q, J2⟩ := w2_q
  subst kd1
  show EvX (some (L, xs)) 41 (M_La nm) 0 0 278 (LSt i) [(0, r2), (0, r1_q)] kdF m2_q Q
  refine EvX.icmp_eq (off := 1314) (tgt := 1592) (show decode code 278 = .ok (.if_icmp .eq 1314, 3) by decide +kernel) (by decide) (fun _ => K m2_q st2_q J2) (fun z => absurd e z)
theorem La_end (h : JI kdF m st0) (hi_q : 0 ≤ i ∧ i + 6 ≤ L) (hL : L ≤ 3072) (hx : ∀ n, zin32 (xs n)) (K : ∀ m2_q st2_q, JI kdF m2_q st2_q → EvX (some (L, xs)) 41 (M_La nm) 0 0 1592 (LSt i) [] kdF m2_q Q) : EvX (some (L, xs)) 41 (M_La nm) 0 0 283 (LSt i) [] kdF m Q := by
  refine EvX.aload_n (v := (2, 0)) (i := 1) (show decode code 283 = .ok (.aload_n 1, 1) by decide +kernel) rfl (Or.inl rfl) ?_
  show EvX (some (L, xs)) 41 (M_La nm) 0 0 284 (LSt i) [(2, 0)] kdF m Q
  refine La_arg (pc := 284) (j := 1) (p2_q := 289) rfl (by decide +kernel) (by decide) hi_q hL ?_
  refine EvX.callV (M := M_La nm) (pc := 289) (c := 7) (mc := 0) (ms := 0) (a := 0) (as := [(0, xs (i + 1).toNat)]) (st := []) (show decode code 289 = .ok (.invokevirtual 18, 3) by decide +kernel) l_Law_18 k_Ap_end v_Ap_end a_Ap_end (by decide) (Nat.le_of_ble_eq_true rfl) rfl ⟨by decide, rfl⟩ (pr_end h) (fun r kd1 m1_q w => ?_)
  obtain ⟨r1_q, rfl, hk, w⟩ := w
  subst kd1
  show EvX (some (L, xs)) 41 (M_La nm) 0 0 292 (LSt i) [(0, r1_q)] kdF m1_q Q
  refine EvX.aload_n (v := (2, 78)) (i := 2) (show decode code 292 = .ok (.aload_n 2, 1) by decide +kernel) rfl (Or.inl rfl) ?_
  show EvX (some (L, xs)) 41 (M_La nm) 0 0 293 (LSt i) [(2, 78), (0, r1_q)] kdF m1_q Q
  refine La_arg (pc := 293) (j := 1) (p2_q := 298) rfl (by decide +kernel) (by decide) hi_q hL ?_
  refine EvX.callV (M := M_La nm) (pc := 298) (c := 8) (mc := 0) (ms := 0) (a := 78) (as := [(0, xs (i + 1).toNat)]) (st := [(0, r1_q)]) (show decode code 298 = .ok (.invokevirtual 22, 3) by decide +kernel) l_Law_22 k_Mo_end v_Mo_end a_Mo_end (by decide) (Nat.le_of_ble_eq_true rfl) rfl ⟨by decide, rfl⟩ w (fun r kd1 m2_q w2_q => ?_)
  obtain ⟨r2, rfl, hk, e, st2_q, J2⟩ := w2_q
  subst kd1
  show EvX (some (L, xs)) 41 (M_La nm) 0 0 301 (LSt i) [(0, r2), (0, r1_q)] kdF m2_q Q
  refine EvX.icmp_eq (off := 1291) (tgt := 1592) (show decode code 301 = .ok (.if_icmp .eq 1291, 3) by decide +kernel) (by decide) (fun _ => K m2_q st2_q J2) (fun z => absurd e z)
theorem La_tell (h : JI kdF m st0) (hi_q : 0 ≤ i ∧ i + 6 ≤ L) (hL : L ≤ 3072) (hx : ∀ n, zin32 (xs n)) (K : ∀ m2_q st2_q, JI kdF m2_q st2_q → EvX (some (L, xs)) 41 (M_La nm) 0 0 1592 (LSt i) [] kdF m2_q Q) : EvX (some (L, xs)) 41 (M_La nm) 0 0 306 (LSt i) [] kdF m Q := by
  refine EvX.aload_n (v := (2, 0)) (i := 1) (show decode code 306 = .ok (.aload_n 1, 1) by decide +kernel) rfl (Or.inl rfl) ?_
  show EvX (some (L, xs)) 41 (M_La nm) 0 0 307 (LSt i) [(2, 0)] kdF m Q
  refine EvX.callV (M := M_La nm) (pc := 307) (c := 7) (mc := 0) (ms := 0) (a := 0) (as := []) (st := []) (show decode code 307 = .ok (.invokevirtual 23, 3) by decide +kernel) l_Law_23 k_Ap_tell v_Ap_tell a_Ap_tell (by decide) (Nat.le_of_ble_eq_true rfl) rfl ⟨by decide, rfl⟩ (pr_tell h) (fun r kd1 m1_q w => ?_)
  obtain ⟨r1_q, rfl, hk, w⟩ := w
  subst kd1
  show EvX (some (L, xs)) 41 (M_La nm) 0 0 310 (LSt i) [(0, r1_q)] kdF m1_q Q
  refine EvX.aload_n (v := (2, 78)) (i := 2) (show decode code 310 = .ok (.aload_n 2, 1) by decide +kernel) rfl (Or.inl rfl) ?_
  show EvX (some (L, xs)) 41 (M_La nm) 0 0 311 (LSt i) [(2, 78), (0, r1_q)] kdF m1_q Q
  refine EvX.callV (M := M_La nm) (pc := 311) (c := 8) (mc := 0) (ms := 0) (a := 78) (as := []) (st := [(0, r1_q)]) (show decode code 311 = .ok (.invokevirtual 27, 3) by decide +kernel) l_Law_27 k_Mo_tell v_Mo_tell a_Mo_tell (by decide) (Nat.le_of_ble_eq_true rfl) rfl ⟨by decide, rfl⟩ w (fun r kd1 m2_q w2_q => ?_)
  obtain ⟨r2, rfl, hk, e, st2_q, J2⟩ := w2_q
  subst kd1
  show EvX (some (L, xs)) 41 (M_La nm) 0 0 314 (LSt i) [(0, r2), (0, r1_q)] kdF m2_q Q
  refine EvX.icmp_eq (off := 1278) (tgt := 1592) (show decode code 314 = .ok (.if_icmp .eq 1278, 3) by decide +kernel) (by decide) (fun _ => K m2_q st2_q J2) (fun z => absurd e z)
theorem La_weigh (h : JI kdF m st0) (hi_q : 0 ≤ i ∧ i + 6 ≤ L) (hL : L ≤ 3072) (hx : ∀ n, zin32 (xs n)) (K : ∀ m2_q st2_q, JI kdF m2_q st2_q → EvX (some (L, xs)) 41 (M_La nm) 0 0 1592 (LSt i) [] kdF m2_q Q) : EvX (some (L, xs)) 41 (M_La nm) 0 0 319 (LSt i) [] kdF m Q := by
  refine EvX.aload_n (v := (2, 0)) (i := 1) (show decode code 319 = .ok (.aload_n 1, 1) by decide +kernel) rfl (Or.inl rfl) ?_
  show EvX (some (L, xs)) 41 (M_La nm) 0 0 320 (LSt i) [(2, 0)] kdF m Q
  refine La_arg (pc := 320) (j := 1) (p2_q := 325) rfl (by decide +kernel) (by decide) hi_q hL ?_
  refine La_arg (pc := 325) (j := 2) (p2_q := 330) rfl (by decide +kernel) (by decide) hi_q hL ?_
  refine La_arg (pc := 330) (j := 3) (p2_q := 335) rfl (by decide +kernel) (by decide) hi_q hL ?_
  refine EvX.callV (M := M_La nm) (pc := 335) (c := 7) (mc := 0) (ms := 0) (a := 0) (as := [(0, xs (i + 1).toNat), (0, xs (i + 2).toNat), (0, xs (i + 3).toNat)]) (st := []) (show decode code 335 = .ok (.invokevirtual 28, 3) by decide +kernel) l_Law_28 k_Ap_weigh v_Ap_weigh a_Ap_weigh (by decide) (Nat.le_of_ble_eq_true rfl) rfl ⟨by decide, rfl⟩ (pr_weigh h) (fun r kd1 m1_q w => ?_)
  obtain ⟨r1_q, rfl, hk, w⟩ := w
  subst kd1
  show EvX (some (L, xs)) 41 (M_La nm) 0 0 338 (LSt i) [(0, r1_q)] kdF m1_q Q
  refine EvX.aload_n (v := (2, 78)) (i := 2) (show decode code 338 = .ok (.aload_n 2, 1) by decide +kernel) rfl (Or.inl rfl) ?_
  show EvX (some (L, xs)) 41 (M_La nm) 0 0 339 (LSt i) [(2, 78), (0, r1_q)] kdF m1_q Q
  refine La_arg (pc := 339) (j := 1) (p2_q := 344) rfl (by decide +kernel) (by decide) hi_q hL ?_
  refine La_arg (pc := 344) (j := 2) (p2_q := 349) rfl (by decide +kernel) (by decide) hi_q hL ?_
  refine La_arg (pc := 349) (j := 3) (p2_q := 354) rfl (by decide +kernel) (by decide) hi_q hL ?_
  refine EvX.callV (M := M_La nm) (pc := 354) (c := 8) (mc := 0) (ms := 0) (a := 78) (as := [(0, xs (i + 1).toNat), (0, xs (i + 2).toNat), (0, xs (i + 3).toNat)]) (st := [(0, r1_q)]) (show decode code 354 = .ok (.invokevirtual 32, 3) by decide +kernel) l_Law_32 k_Mo_weigh v_Mo_weigh a_Mo_weigh (by decide) (Nat.le_of_ble_eq_true rfl) rfl ⟨by decide, rfl⟩ w (fun r kd1 m2_q w2_q => ?_)
  obtain ⟨r2, rfl, hk, e, st2_q, J2⟩ := w2_q
  subst kd1
  show EvX (some (L, xs)) 41 (M_La nm) 0 0 357 (LSt i) [(0, r2), (0, r1_q)] kdF m2_q Q
  refine EvX.icmp_eq (off := 1235) (tgt := 1592) (show decode code 357 = .ok (.if_icmp .eq 1235, 3) by decide +kernel) (by decide) (fun _ => K m2_q st2_q J2) (fun z => absurd e z)
theorem La_decide (h : JI kdF m st0) (hi_q : 0 ≤ i ∧ i + 6 ≤ L) (hL : L ≤ 3072) (hx : ∀ n, zin32 (xs n)) (K : ∀ m2_q st2_q, JI kdF m2_q st2_q → EvX (some (L, xs)) 41 (M_La nm) 0 0 1592 (LSt i) [] kdF m2_q Q) : EvX (some (L, xs)) 41 (M_La nm) 0 0 362 (LSt i) [] kdF m Q := by
  refine EvX.aload_n (v := (2, 0)) (i := 1) (show decode code 362 = .ok (.aload_n 1, 1) by decide +kernel) rfl (Or.inl rfl) ?_
  show EvX (some (L, xs)) 41 (M_La nm) 0 0 363 (LSt i) [(2, 0)] kdF m Q
  refine La_arg (pc := 363) (j := 1) (p2_q := 368) rfl (by decide +kernel) (by decide) hi_q hL ?_
  refine La_arg (pc := 368) (j := 2) (p2_q := 373) rfl (by decide +kernel) (by decide) hi_q hL ?_
  refine La_arg (pc := 373) (j := 3) (p2_q := 378) rfl (by decide +kernel) (by decide) hi_q hL ?_
  refine La_arg (pc := 378) (j := 4) (p2_q := 383) rfl (by decide +kernel) (by decide) hi_q hL ?_
  refine EvX.callV (M := M_La nm) (pc := 383) (c := 7) (mc := 0) (ms := 0) (a := 0) (as := [(0, xs (i + 1).toNat), (0, xs (i + 2).toNat), (0, xs (i + 3).toNat), (0, xs (i + 4).toNat)]) (st := []) (show decode code 383 = .ok (.invokevirtual 33, 3) by decide +kernel) l_Law_33 k_Ap_decide v_Ap_decide a_Ap_decide (by decide) (Nat.le_of_ble_eq_true rfl) rfl ⟨by decide, rfl⟩ (pr_decide h) (fun r kd1 m1_q w => ?_)
  obtain ⟨r1_q, rfl, hk, w⟩ := w
  subst kd1
  show EvX (some (L, xs)) 41 (M_La nm) 0 0 386 (LSt i) [(0, r1_q)] kdF m1_q Q
  refine EvX.aload_n (v := (2, 78)) (i := 2) (show decode code 386 = .ok (.aload_n 2, 1) by decide +kernel) rfl (Or.inl rfl) ?_
  show EvX (some (L, xs)) 41 (M_La nm) 0 0 387 (LSt i) [(2, 78), (0, r1_q)] kdF m1_q Q
  refine La_arg (pc := 387) (j := 1) (p2_q := 392) rfl (by decide +kernel) (by decide) hi_q hL ?_
  refine La_arg (pc := 392) (j := 2) (p2_q := 397) rfl (by decide +kernel) (by decide) hi_q hL ?_
  refine La_arg (pc := 397) (j := 3) (p2_q := 402) rfl (by decide +kernel) (by decide) hi_q hL ?_
  refine La_arg (pc := 402) (j := 4) (p2_q := 407) rfl (by decide +kernel) (by decide) hi_q hL ?_
  refine EvX.callV (M := M_La nm) (pc := 407) (c := 8) (mc := 0) (ms := 0) (a := 78) (as := [(0, xs (i + 1).toNat), (0, xs (i + 2).toNat), (0, xs (i + 3).toNat), (0, xs (i + 4).toNat)]) (st := [(0, r1_q)]) (show decode code 407 = .ok (.invokevirtual 37, 3) by decide +kernel) l_Law_37 k_Mo_decide v_Mo_decide a_Mo_decide (by decide) (Nat.le_of_ble_eq_true rfl) rfl ⟨by decide, rfl⟩ w (fun r kd1 m2_q w2_q => ?_)
  obtain ⟨r2, rfl, hk, e, st2_q, J2⟩ := w2_q
  subst kd1
  show EvX (some (L, xs)) 41 (M_La nm) 0 0 410 (LSt i) [(0, r2), (0, r1_q)] kdF m2_q Q
  refine EvX.icmp_eq (off := 1182) (tgt := 1592) (show decode code 410 = .ok (.if_icmp .eq 1182, 3) by decide +kernel) (by decide) (fun _ => K m2_q st2_q J2) (fun z => absurd e z)
theorem La_parity (h : JI kdF m st0) (hi_q : 0 ≤ i ∧ i + 6 ≤ L) (hL : L ≤ 3072) (hx : ∀ n, zin32 (xs n)) (K : ∀ m2_q st2_q, JI kdF m2_q st2_q → EvX (some (L, xs)) 41 (M_La nm) 0 0 1592 (LSt i) [] kdF m2_q Q) : EvX (some (L, xs)) 41 (M_La nm) 0 0 415 (LSt i) [] kdF m Q := by
  refine EvX.aload_n (v := (2, 0)) (i := 1) (show decode code 415 = .ok (.aload_n 1, 1) by decide +kernel) rfl (Or.inl rfl) ?_
  show EvX (some (L, xs)) 41 (M_La nm) 0 0 416 (LSt i) [(2, 0)] kdF m Q
  refine La_arg (pc := 416) (j := 1) (p2_q := 421) rfl (by decide +kernel) (by decide) hi_q hL ?_
  refine La_arg (pc := 421) (j := 2) (p2_q := 426) rfl (by decide +kernel) (by decide) hi_q hL ?_
  refine La_arg (pc := 426) (j := 3) (p2_q := 431) rfl (by decide +kernel) (by decide) hi_q hL ?_
  refine EvX.callV (M := M_La nm) (pc := 431) (c := 7) (mc := 0) (ms := 0) (a := 0) (as := [(0, xs (i + 1).toNat), (0, xs (i + 2).toNat), (0, xs (i + 3).toNat)]) (st := []) (show decode code 431 = .ok (.invokevirtual 38, 3) by decide +kernel) l_Law_38 k_Ap_parity v_Ap_parity a_Ap_parity (by decide) (Nat.le_of_ble_eq_true rfl) rfl ⟨by decide, rfl⟩ (pr_parity h) (fun r kd1 m1_q w => ?_)
  obtain ⟨r1_q, rfl, hk, w⟩ := w
  subst kd1
  show EvX (some (L, xs)) 41 (M_La nm) 0 0 434 (LSt i) [(0, r1_q)] kdF m1_q Q
  refine EvX.aload_n (v := (2, 78)) (i := 2) (show decode code 434 = .ok (.aload_n 2, 1) by decide +kernel) rfl (Or.inl rfl) ?_
  show EvX (some (L, xs)) 41 (M_La nm) 0 0 435 (LSt i) [(2, 78), (0, r1_q)] kdF m1_q Q
  refine La_arg (pc := 435) (j := 1) (p2_q := 440) rfl (by decide +kernel) (by decide) hi_q hL ?_
  refine La_arg (pc := 440) (j := 2) (p2_q := 445) rfl (by decide +kernel) (by decide) hi_q hL ?_
  refine La_arg (pc := 445) (j := 3) (p2_q := 450) rfl (by decide +kernel) (by decide) hi_q hL ?_
  refine EvX.callV (M := M_La nm) (pc := 450) (c := 8) (mc := 0) (ms := 0) (a := 78) (as := [(0, xs (i + 1).toNat), (0, xs (i + 2).toNat), (0, xs (i + 3).toNat)]) (st := [(0, r1_q)]) (show decode code 450 = .ok (.invokevirtual 41, 3) by decide +kernel) l_Law_41 k_Mo_parity v_Mo_parity a_Mo_parity (by decide) (Nat.le_of_ble_eq_true rfl) rfl ⟨by decide, rfl⟩ w (fun r kd1 m2_q w2_q => ?_)
  obtain ⟨r2, rfl, hk, e, st2_q, J2⟩ := w2_q
  subst kd1
  show EvX (some (L, xs)) 41 (M_La nm) 0 0 453 (LSt i) [(0, r2), (0, r1_q)] kdF m2_q Q
  refine EvX.icmp_eq (off := 1139) (tgt := 1592) (show decode code 453 = .ok (.if_icmp .eq 1139, 3) by decide +kernel) (by decide) (fun _ => K m2_q st2_q J2) (fun z => absurd e z)
theorem La_exchange (h : JI kdF m st0) (hi_q : 0 ≤ i ∧ i + 6 ≤ L) (hL : L ≤ 3072) (hx : ∀ n, zin32 (xs n)) (K : ∀ m2_q st2_q, JI kdF m2_q st2_q → EvX (some (L, xs)) 41 (M_La nm) 0 0 1592 (LSt i) [] kdF m2_q Q) : EvX (some (L, xs)) 41 (M_La nm) 0 0 458 (LSt i) [] kdF m Q := by
  refine EvX.aload_n (v := (2, 0)) (i := 1) (show decode code 458 = .ok (.aload_n 1, 1) by decide +kernel) rfl (Or.inl rfl) ?_
  show EvX (some (L, xs)) 41 (M_La nm) 0 0 459 (LSt i) [(2, 0)] kdF m Q
  refine La_arg (pc := 459) (j := 1) (p2_q := 464) rfl (by decide +kernel) (by decide) hi_q hL ?_
  refine La_arg (pc := 464) (j := 2) (p2_q := 469) rfl (by decide +kernel) (by decide) hi_q hL ?_
  refine La_arg (pc := 469) (j := 3) (p2_q := 474) rfl (by decide +kernel) (by decide) hi_q hL ?_
  refine La_arg (pc := 474) (j := 4) (p2_q := 479) rfl (by decide +kernel) (by decide) hi_q hL ?_
  refine EvX.callV (M := M_La nm) (pc := 479) (c := 7) (mc := 0) (ms := 0) (a := 0) (as := [(0, xs (i + 1).toNat), (0, xs (i + 2).toNat), (0, xs (i + 3).toNat), (0, xs (i + 4).toNat)]) (st := []) (show decode code 479 = .ok (.invokevirtual 42, 3) by decide +kernel) l_Law_42 k_Ap_exchange v_Ap_exchange a_Ap_exchange (by decide) (Nat.le_of_ble_eq_true rfl) rfl ⟨by decide, rfl⟩ (pr_exchange h) (fun r kd1 m1_q w => ?_)
  obtain ⟨r1_q, rfl, hk, w⟩ := w
  subst kd1
  show EvX (some (L, xs)) 41 (M_La nm) 0 0 482 (LSt i) [(0, r1_q)] kdF m1_q Q
  refine EvX.aload_n (v := (2, 78)) (i := 2) (show decode code 482 = .ok (.aload_n 2, 1) by decide +kernel) rfl (Or.inl rfl) ?_
  show EvX (some (L, xs)) 41 (M_La nm) 0 0 483 (LSt i) [(2, 78), (0, r1_q)] kdF m1_q Q
  refine La_arg (pc := 483) (j := 1) (p2_q := 488) rfl (by decide +kernel) (by decide) hi_q hL ?_
  refine La_arg (pc := 488) (j := 2) (p2_q := 493) rfl (by decide +kernel) (by decide) hi_q hL ?_
  refine La_arg (pc := 493) (j := 3) (p2_q := 498) rfl (by decide +kernel) (by decide) hi_q hL ?_
  refine La_arg (pc := 498) (j := 4) (p2_q := 503) rfl (by decide +kernel) (by decide) hi_q hL ?_
  refine EvX.callV (M := M_La nm) (pc := 503) (c := 8) (mc := 0) (ms := 0) (a := 78) (as := [(0, xs (i + 1).toNat), (0, xs (i + 2).toNat), (0, xs (i + 3).toNat), (0, xs (i + 4).toNat)]) (st := [(0, r1_q)]) (show decode code 503 = .ok (.invokevirtual 45, 3) by decide +kernel) l_Law_45 k_Mo_exchange v_Mo_exchange a_Mo_exchange (by decide) (Nat.le_of_ble_eq_true rfl) rfl ⟨by decide, rfl⟩ w (fun r kd1 m2_q w2_q => ?_)
  obtain ⟨r2, rfl, hk, e, st2_q, J2⟩ := w2_q
  subst kd1
  show EvX (some (L, xs)) 41 (M_La nm) 0 0 506 (LSt i) [(0, r2), (0, r1_q)] kdF m2_q Q
  refine EvX.icmp_eq (off := 1086) (tgt := 1592) (show decode code 506 = .ok (.if_icmp .eq 1086, 3) by decide +kernel) (by decide) (fun _ => K m2_q st2_q J2) (fun z => absurd e z)
theorem La_swap (h : JI kdF m st0) (hi_q : 0 ≤ i ∧ i + 6 ≤ L) (hL : L ≤ 3072) (hx : ∀ n, zin32 (xs n)) (K : ∀ m2_q st2_q, JI kdF m2_q st2_q → EvX (some (L, xs)) 41 (M_La nm) 0 0 1592 (LSt i) [] kdF m2_q Q) : EvX (some (L, xs)) 41 (M_La nm) 0 0 511 (LSt i) [] kdF m Q := by
  refine EvX.aload_n (v := (2, 0)) (i := 1) (show decode code 511 = .ok (.aload_n 1, 1) by decide +kernel) rfl (Or.inl rfl) ?_
  show EvX (some (L, xs)) 41 (M_La nm) 0 0 512 (LSt i) [(2, 0)] kdF m Q
  refine EvX.callV (M := M_La nm) (pc := 512) (c := 7) (mc := 0) (ms := 0) (a := 0) (as := []) (st := []) (show decode code 512 = .ok (.invokevirtual 46, 3) by decide +kernel) l_Law_46 k_Ap_swap v_Ap_swap a_Ap_swap (by decide) (Nat.le_of_ble_eq_true rfl) rfl ⟨by decide, rfl⟩ (pr_swap h) (fun r kd1 m1_q w => ?_)
  obtain ⟨r1_q, rfl, hk, w⟩ := w
  subst kd1
  show EvX (some (L, xs)) 41 (M_La nm) 0 0 515 (LSt i) [(0, r1_q)] kdF m1_q Q
  refine EvX.aload_n (v := (2, 78)) (i := 2) (show decode code 515 = .ok (.aload_n 2, 1) by decide +kernel) rfl (Or.inl rfl) ?_
  show EvX (some (L, xs)) 41 (M_La nm) 0 0 516 (LSt i) [(2, 78), (0, r1_q)] kdF m1_q Q
  refine EvX.callV (M := M_La nm) (pc := 516) (c := 8) (mc := 0) (ms := 0) (a := 78) (as := []) (st := [(0, r1_q)]) (show decode code 516 = .ok (.invokevirtual 49, 3) by decide +kernel) l_Law_49 k_Mo_swap v_Mo_swap a_Mo_swap (by decide) (Nat.le_of_ble_eq_true rfl) rfl ⟨by decide, rfl⟩ w (fun r kd1 m2_q w2_q => ?_)
  obtain ⟨r2, rfl, hk, e, st2_q, J2⟩ := w2_q
  subst kd1
  show EvX (some (L, xs)) 41 (M_La nm) 0 0 519 (LSt i) [(0, r2), (0, r1_q)] kdF m2_q Q
  refine EvX.icmp_eq (off := 1073) (tgt := 1592) (show decode code 519 = .ok (.if_icmp .eq 1073, 3) by decide +kernel) (by decide) (fun _ => K m2_q st2_q J2) (fun z => absurd e z)
theorem La_drop (h : JI kdF m st0) (hi_q : 0 ≤ i ∧ i + 6 ≤ L) (hL : L ≤ 3072) (hx : ∀ n, zin32 (xs n)) (K : ∀ m2_q st2_q, JI kdF m2_q st2_q → EvX (some (L, xs)) 41 (M_La nm) 0 0 1592 (LSt i) [] kdF m2_q Q) : EvX (some (L, xs)) 41 (M_La nm) 0 0 524 (LSt i) [] kdF m Q := by
  refine EvX.aload_n (v := (2, 0)) (i := 1) (show decode code 524 = .ok (.aload_n 1, 1) by decide +kernel) rfl (Or.inl rfl) ?_
  show EvX (some (L, xs)) 41 (M_La nm) 0 0 525 (LSt i) [(2, 0)] kdF m Q
  refine La_arg (pc := 525) (j := 1) (p2_q := 530) rfl (by decide +kernel) (by decide) hi_q hL ?_
  refine La_arg (pc := 530) (j := 2) (p2_q := 535) rfl (by decide +kernel) (by decide) hi_q hL ?_
  refine EvX.callV (M := M_La nm) (pc := 535) (c := 7) (mc := 0) (ms := 0) (a := 0) (as := [(0, xs (i + 1).toNat), (0, xs (i + 2).toNat)]) (st := []) (show decode code 535 = .ok (.invokevirtual 50, 3) by decide +kernel) l_Law_50 k_Ap_drop v_Ap_drop a_Ap_drop (by decide) (Nat.le_of_ble_eq_true rfl) rfl ⟨by decide, rfl⟩ (pr_drop h) (fun r kd1 m1_q w => ?_)
  obtain ⟨r1_q, rfl, hk, w⟩ := w
  subst kd1
  show EvX (some (L, xs)) 41 (M_La nm) 0 0 538 (LSt i) [(0, r1_q)] kdF m1_q Q
  refine EvX.aload_n (v := (2, 78)) (i := 2) (show decode code 538 = .ok (.aload_n 2, 1) by decide +kernel) rfl (Or.inl rfl) ?_
  show EvX (some (L, xs)) 41 (M_La nm) 0 0 539 (LSt i) [(2, 78), (0, r1_q)] kdF m1_q Q
  refine La_arg (pc := 539) (j := 1) (p2_q := 544) rfl (by decide +kernel) (by decide) hi_q hL ?_
  refine La_arg (pc := 544) (j := 2) (p2_q := 549) rfl (by decide +kernel) (by decide) hi_q hL ?_
  refine EvX.callV (M := M_La nm) (pc := 549) (c := 8) (mc := 0) (ms := 0) (a := 78) (as := [(0, xs (i + 1).toNat), (0, xs (i + 2).toNat)]) (st := [(0, r1_q)]) (show decode code 549 = .ok (.invokevirtual 54, 3) by decide +kernel) l_Law_54 k_Mo_drop v_Mo_drop a_Mo_drop (by decide) (Nat.le_of_ble_eq_true rfl) rfl ⟨by decide, rfl⟩ w (fun r kd1 m2_q w2_q => ?_)
  obtain ⟨r2, rfl, hk, e, st2_q, J2⟩ := w2_q
  subst kd1
  show EvX (some (L, xs)) 41 (M_La nm) 0 0 552 (LSt i) [(0, r2), (0, r1_q)] kdF m2_q Q
  refine EvX.icmp_eq (off := 1040) (tgt := 1592) (show decode code 552 = .ok (.if_icmp .eq 1040, 3) by decide +kernel) (by decide) (fun _ => K m2_q st2_q J2) (fun z => absurd e z)
theorem La_copy (h : JI kdF m st0) (hi_q : 0 ≤ i ∧ i + 6 ≤ L) (hL : L ≤ 3072) (hx : ∀ n, zin32 (xs n)) (K : ∀ m2_q st2_q, JI kdF m2_q st2_q → EvX (some (L, xs)) 41 (M_La nm) 0 0 1592 (LSt i) [] kdF m2_q Q) : EvX (some (L, xs)) 41 (M_La nm) 0 0 557 (LSt i) [] kdF m Q := by
  refine EvX.aload_n (v := (2, 0)) (i := 1) (show decode code 557 = .ok (.aload_n 1, 1) by decide +kernel) rfl (Or.inl rfl) ?_
  show EvX (some (L, xs)) 41 (M_La nm) 0 0 558 (LSt i) [(2, 0)] kdF m Q
  refine La_arg (pc := 558) (j := 1) (p2_q := 563) rfl (by decide +kernel) (by decide) hi_q hL ?_
  refine La_arg (pc := 563) (j := 2) (p2_q := 568) rfl (by decide +kernel) (by decide) hi_q hL ?_
  refine EvX.callV (M := M_La nm) (pc := 568) (c := 7) (mc := 0) (ms := 0) (a := 0) (as := [(0, xs (i + 1).toNat), (0, xs (i + 2).toNat)]) (st := []) (show decode code 568 = .ok (.invokevirtual 55, 3) by decide +kernel) l_Law_55 k_Ap_copy v_Ap_copy a_Ap_copy (by decide) (Nat.le_of_ble_eq_true rfl) rfl ⟨by decide, rfl⟩ (pr_copy h) (fun r kd1 m1_q w => ?_)
  obtain ⟨r1_q, rfl, hk, w⟩ := w
  subst kd1
  show EvX (some (L, xs)) 41 (M_La nm) 0 0 571 (LSt i) [(0, r1_q)] kdF m1_q Q
  refine EvX.aload_n (v := (2, 78)) (i := 2) (show decode code 571 = .ok (.aload_n 2, 1) by decide +kernel) rfl (Or.inl rfl) ?_
  show EvX (some (L, xs)) 41 (M_La nm) 0 0 572 (LSt i) [(2, 78), (0, r1_q)] kdF m1_q Q
  refine La_arg (pc := 572) (j := 1) (p2_q := 577) rfl (by decide +kernel) (by decide) hi_q hL ?_
  refine La_arg (pc := 577) (j := 2) (p2_q := 582) rfl (by decide +kernel) (by decide) hi_q hL ?_
  refine EvX.callV (M := M_La nm) (pc := 582) (c := 8) (mc := 0) (ms := 0) (a := 78) (as := [(0, xs (i + 1).toNat), (0, xs (i + 2).toNat)]) (st := [(0, r1_q)]) (show decode code 582 = .ok (.invokevirtual 58, 3) by decide +kernel) l_Law_58 k_Mo_copy v_Mo_copy a_Mo_copy (by decide) (Nat.le_of_ble_eq_true rfl) rfl ⟨by decide, rfl⟩ w (fun r kd1 m2_q w2_q => ?_)
  obtain ⟨r2, rfl, hk, e, st2_q, J2⟩ := w2_q
  subst kd1
  show EvX (some (L, xs)) 41 (M_La nm) 0 0 585 (LSt i) [(0, r2), (0, r1_q)] kdF m2_q Q
  refine EvX.icmp_eq (off := 1007) (tgt := 1592) (show decode code 585 = .ok (.if_icmp .eq 1007, 3) by decide +kernel) (by decide) (fun _ => K m2_q st2_q J2) (fun z => absurd e z)
theorem La_box (h : JI kdF m st0) (hi_q : 0 ≤ i ∧ i + 6 ≤ L) (hL : L ≤ 3072) (hx : ∀ n, zin32 (xs n)) (K : ∀ m2_q st2_q, JI kdF m2_q st2_q → EvX (some (L, xs)) 41 (M_La nm) 0 0 1592 (LSt i) [] kdF m2_q Q) : EvX (some (L, xs)) 41 (M_La nm) 0 0 590 (LSt i) [] kdF m Q := by
  refine EvX.aload_n (v := (2, 0)) (i := 1) (show decode code 590 = .ok (.aload_n 1, 1) by decide +kernel) rfl (Or.inl rfl) ?_
  show EvX (some (L, xs)) 41 (M_La nm) 0 0 591 (LSt i) [(2, 0)] kdF m Q
  refine La_arg (pc := 591) (j := 1) (p2_q := 596) rfl (by decide +kernel) (by decide) hi_q hL ?_
  refine La_arg (pc := 596) (j := 2) (p2_q := 601) rfl (by decide +kernel) (by decide) hi_q hL ?_
  refine La_arg (pc := 601) (j := 3) (p2_q := 606) rfl (by decide +kernel) (by decide) hi_q hL ?_
  refine La_arg (pc := 606) (j := 4) (p2_q := 611) rfl (by decide +kernel) (by decide) hi_q hL ?_
  refine La_arg (pc := 611) (j := 5) (p2_q := 616) rfl (by decide +kernel) (by decide) hi_q hL ?_
  refine EvX.callV (M := M_La nm) (pc := 616) (c := 7) (mc := 0) (ms := 0) (a := 0) (as := [(0, xs (i + 1).toNat), (0, xs (i + 2).toNat), (0, xs (i + 3).toNat), (0, xs (i + 4).toNat), (0, xs (i + 5).toNat)]) (st := []) (show decode code 616 = .ok (.invokevirtual 59, 3) by decide +kernel) l_Law_59 k_Ap_box v_Ap_box a_Ap_box (by decide) (Nat.le_of_ble_eq_true rfl) rfl ⟨by decide, rfl⟩ (pr_box h) (fun r kd1 m1_q w => ?_)
  obtain ⟨r1_q, rfl, hk, w⟩ := w
  subst kd1
  show EvX (some (L, xs)) 41 (M_La nm) 0 0 619 (LSt i) [(0, r1_q)] kdF m1_q Q
  refine EvX.aload_n (v := (2, 78)) (i := 2) (show decode code 619 = .ok (.aload_n 2, 1) by decide +kernel) rfl (Or.inl rfl) ?_
  show EvX (some (L, xs)) 41 (M_La nm) 0 0 620 (LSt i) [(2, 78), (0, r1_q)] kdF m1_q Q
  refine La_arg (pc := 620) (j := 1) (p2_q := 625) rfl (by decide +kernel) (by decide) hi_q hL ?_
  refine La_arg (pc := 625) (j := 2) (p2_q := 630) rfl (by decide +kernel) (by decide) hi_q hL ?_
  refine La_arg (pc := 630) (j := 3) (p2_q := 635) rfl (by decide +kernel) (by decide) hi_q hL ?_
  refine La_arg (pc := 635) (j := 4) (p2_q := 640) rfl (by decide +kernel) (by decide) hi_q hL ?_
  refine La_arg (pc := 640) (j := 5) (p2_q := 645) rfl (by decide +kernel) (by decide) hi_q hL ?_
  refine EvX.callV (M := M_La nm) (pc := 645) (c := 8) (mc := 0) (ms := 0) (a := 78) (as := [(0, xs (i + 1).toNat), (0, xs (i + 2).toNat), (0, xs (i + 3).toNat), (0, xs (i + 4).toNat), (0, xs (i + 5).toNat)]) (st := [(0, r1_q)]) (show decode code 645 = .ok (.invokevirtual 62, 3) by decide +kernel) l_Law_62 k_Mo_box v_Mo_box a_Mo_box (by decide) (Nat.le_of_ble_eq_true rfl) rfl ⟨by decide, rfl⟩ w (fun r kd1 m2_q w2_q => ?_)
  obtain ⟨r2, rfl, hk, e, st2_q, J2⟩ := w2_q
  subst kd1
  show EvX (some (L, xs)) 41 (M_La nm) 0 0 648 (LSt i) [(0, r2), (0, r1_q)] kdF m2_q Q
  refine EvX.icmp_eq (off := 944) (tgt := 1592) (show decode code 648 = .ok (.if_icmp .eq 944, 3) by decide +kernel) (by decide) (fun _ => K m2_q st2_q J2) (fun z => absurd e z)
theorem La_mix (h : JI kdF m st0) (hi_q : 0 ≤ i ∧ i + 6 ≤ L) (hL : L ≤ 3072) (hx : ∀ n, zin32 (xs n)) (K : ∀ m2_q st2_q, JI kdF m2_q st2_q → EvX (some (L, xs)) 41 (M_La nm) 0 0 1592 (LSt i) [] kdF m2_q Q) : EvX (some (L, xs)) 41 (M_La nm) 0 0 653 (LSt i) [] kdF m Q := by
  refine EvX.aload_n (v := (2, 0)) (i := 1) (show decode code 653 = .ok (.aload_n 1, 1) by decide +kernel) rfl (Or.inl rfl) ?_
  show EvX (some (L, xs)) 41 (M_La nm) 0 0 654 (LSt i) [(2, 0)] kdF m Q
  refine La_arg (pc := 654) (j := 1) (p2_q := 659) rfl (by decide +kernel) (by decide) hi_q hL ?_
  refine La_arg (pc := 659) (j := 2) (p2_q := 664) rfl (by decide +kernel) (by decide) hi_q hL ?_
  refine La_arg (pc := 664) (j := 3) (p2_q := 669) rfl (by decide +kernel) (by decide) hi_q hL ?_
  refine EvX.callV (M := M_La nm) (pc := 669) (c := 7) (mc := 0) (ms := 0) (a := 0) (as := [(0, xs (i + 1).toNat), (0, xs (i + 2).toNat), (0, xs (i + 3).toNat)]) (st := []) (show decode code 669 = .ok (.invokevirtual 63, 3) by decide +kernel) l_Law_63 k_Ap_mix v_Ap_mix a_Ap_mix (by decide) (Nat.le_of_ble_eq_true rfl) rfl ⟨by decide, rfl⟩ (pr_mix h (hx _) (hx _)) (fun r kd1 m1_q w => ?_)
  obtain ⟨r1_q, rfl, hk, w⟩ := w
  subst kd1
  show EvX (some (L, xs)) 41 (M_La nm) 0 0 672 (LSt i) [(0, r1_q)] kdF m1_q Q
  refine EvX.aload_n (v := (2, 78)) (i := 2) (show decode code 672 = .ok (.aload_n 2, 1) by decide +kernel) rfl (Or.inl rfl) ?_
  show EvX (some (L, xs)) 41 (M_La nm) 0 0 673 (LSt i) [(2, 78), (0, r1_q)] kdF m1_q Q
  refine La_arg (pc := 673) (j := 1) (p2_q := 678) rfl (by decide +kernel) (by decide) hi_q hL ?_
  refine La_arg (pc := 678) (j := 2) (p2_q := 683) rfl (by decide +kernel) (by decide) hi_q hL ?_
  refine La_arg (pc := 683) (j := 3) (p2_q := 688) rfl (by decide +kernel) (by decide) hi_q hL ?_
  refine EvX.callV (M := M_La nm) (pc := 688) (c := 8) (mc := 0) (ms := 0) (a := 78) (as := [(0, xs (i + 1).toNat), (0, xs (i + 2).toNat), (0, xs (i + 3).toNat)]) (st := [(0, r1_q)]) (show decode code 688 = .ok (.invokevirtual 66, 3) by decide +kernel) l_Law_66 k_Mo_mix v_Mo_mix a_Mo_mix (by decide) (Nat.le_of_ble_eq_true rfl) rfl ⟨by decide, rfl⟩ w (fun r kd1 m2_q w2_q => ?_)
  obtain ⟨r2, rfl, hk, e, st2_q, J2⟩ := w2_q
  subst kd1
  show EvX (some (L, xs)) 41 (M_La nm) 0 0 691 (LSt i) [(0, r2), (0, r1_q)] kdF m2_q Q
  refine EvX.icmp_eq (off := 901) (tgt := 1592) (show decode code 691 = .ok (.if_icmp .eq 901, 3) by decide +kernel) (by decide) (fun _ => K m2_q st2_q J2) (fun z => absurd e z)
theorem La_draw (h : JI kdF m st0) (hi_q : 0 ≤ i ∧ i + 6 ≤ L) (hL : L ≤ 3072) (hx : ∀ n, zin32 (xs n)) (K : ∀ m2_q st2_q, JI kdF m2_q st2_q → EvX (some (L, xs)) 41 (M_La nm) 0 0 1592 (LSt i) [] kdF m2_q Q) : EvX (some (L, xs)) 41 (M_La nm) 0 0 696 (LSt i) [] kdF m Q := by
  refine EvX.aload_n (v := (2, 0)) (i := 1) (show decode code 696 = .ok (.aload_n 1, 1) by decide +kernel) rfl (Or.inl rfl) ?_
  show EvX (some (L, xs)) 41 (M_La nm) 0 0 697 (LSt i) [(2, 0)] kdF m Q
  refine La_arg (pc := 697) (j := 1) (p2_q := 702) rfl (by decide +kernel) (by decide) hi_q hL ?_
  refine EvX.callV (M := M_La nm) (pc := 702) (c := 7) (mc := 0) (ms := 0) (a := 0) (as := [(0, xs (i + 1).toNat)]) (st := []) (show decode code 702 = .ok (.invokevirtual 67, 3) by decide +kernel) l_Law_67 k_Ap_draw v_Ap_draw a_Ap_draw (by decide) (Nat.le_of_ble_eq_true rfl) rfl ⟨by decide, rfl⟩ (pr_draw h) (fun r kd1 m1_q w => ?_)
  obtain ⟨r1_q, rfl, hk, w⟩ := w
  subst kd1
  show EvX (some (L, xs)) 41 (M_La nm) 0 0 705 (LSt i) [(0, r1_q)] kdF m1_q Q
  refine EvX.aload_n (v := (2, 78)) (i := 2) (show decode code 705 = .ok (.aload_n 2, 1) by decide +kernel) rfl (Or.inl rfl) ?_
  show EvX (some (L, xs)) 41 (M_La nm) 0 0 706 (LSt i) [(2, 78), (0, r1_q)] kdF m1_q Q
  refine La_arg (pc := 706) (j := 1) (p2_q := 711) rfl (by decide +kernel) (by decide) hi_q hL ?_
  refine EvX.callV (M := M_La nm) (pc := 711) (c := 8) (mc := 0) (ms := 0) (a := 78) (as := [(0, xs (i + 1).toNat)]) (st := [(0, r1_q)]) (show decode code 711 = .ok (.invokevirtual 70, 3) by decide +kernel) l_Law_70 k_Mo_draw v_Mo_draw a_Mo_draw (by decide) (Nat.le_of_ble_eq_true rfl) rfl ⟨by decide, rfl⟩ w (fun r kd1 m2_q w2_q => ?_)
  obtain ⟨r2, rfl, hk, e, st2_q, J2⟩ := w2_q
  subst kd1
  show EvX (some (L, xs)) 41 (M_La nm) 0 0 714 (LSt i) [(0, r2), (0, r1_q)] kdF m2_q Q
  refine EvX.icmp_eq (off := 878) (tgt := 1592) (show decode code 714 = .ok (.if_icmp .eq 878, 3) by decide +kernel) (by decide) (fun _ => K m2_q st2_q J2) (fun z => absurd e z)
theorem La_undo (h : JI kdF m st0) (hi_q : 0 ≤ i ∧ i + 6 ≤ L) (hL : L ≤ 3072) (hx : ∀ n, zin32 (xs n)) (K : ∀ m2_q st2_q, JI kdF m2_q st2_q → EvX (some (L, xs)) 41 (M_La nm) 0 0 1592 (LSt i) [] kdF m2_q Q) : EvX (some (L, xs)) 41 (M_La nm) 0 0 719 (LSt i) [] kdF m Q := by
  refine EvX.aload_n (v := (2, 0)) (i := 1) (show decode code 719 = .ok (.aload_n 1, 1) by decide +kernel) rfl (Or.inl rfl) ?_
  show EvX (some (L, xs)) 41 (M_La nm) 0 0 720 (LSt i) [(2, 0)] kdF m Q
  refine EvX.callV (M := M_La nm) (pc := 720) (c := 7) (mc := 0) (ms := 0) (a := 0) (as := []) (st := []) (show decode code 720 = .ok (.invokevirtual 71, 3) by decide +kernel) l_Law_71 k_Ap_undo v_Ap_undo a_Ap_undo (by decide) (Nat.le_of_ble_eq_true rfl) rfl ⟨by decide, rfl⟩ (pr_undo h) (fun r kd1 m1_q w => ?_)
  obtain ⟨r1_q, rfl, hk, w⟩ := w
  subst kd1
  show EvX (some (L, xs)) 41 (M_La nm) 0 0 723 (LSt i) [(0, r1_q)] kdF m1_q Q
  refine EvX.aload_n (v := (2, 78)) (i := 2) (show decode code 723 = .ok (.aload_n 2, 1) by decide +kernel) rfl (Or.inl rfl) ?_
  show EvX (some (L, xs)) 41 (M_La nm) 0 0 724 (LSt i) [(2, 78), (0, r1_q)] kdF m1_q Q
  refine EvX.callV (M := M_La nm) (pc := 724) (c := 8) (mc := 0) (ms := 0) (a := 78) (as := []) (st := [(0, r1_q)]) (show decode code 724 = .ok (.invokevirtual 74, 3) by decide +kernel) l_Law_74 k_Mo_undo v_Mo_undo a_Mo_undo (by decide) (Nat.le_of_ble_eq_true rfl) rfl ⟨by decide, rfl⟩ w (fun r kd1 m2_q w2_q => ?_)
  obtain ⟨r2, rfl, hk, e, st2_q, J2⟩ := w2_q
  subst kd1
  show EvX (some (L, xs)) 41 (M_La nm) 0 0 727 (LSt i) [(0, r2), (0, r1_q)] kdF m2_q Q
  refine EvX.icmp_eq (off := 865) (tgt := 1592) (show decode code 727 = .ok (.if_icmp .eq 865, 3) by decide +kernel) (by decide) (fun _ => K m2_q st2_q J2) (fun z => absurd e z)
theorem La_keep (h : JI kdF m st0) (hi_q : 0 ≤ i ∧ i + 6 ≤ L) (hL : L ≤ 3072) (hx : ∀ n, zin32 (xs n)) (K : ∀ m2_q st2_q, JI kdF m2_q st2_q → EvX (some (L, xs)) 41 (M_La nm) 0 0 1592 (LSt i) [] kdF m2_q Q) : EvX (some (L, xs)) 41 (M_La nm) 0 0 732 (LSt i) [] kdF m Q := by
  refine EvX.aload_n (v := (2, 0)) (i := 1) (show decode code 732 = .ok (.aload_n 1, 1) by decide +kernel) rfl (Or.inl rfl) ?_
  show EvX (some (L, xs)) 41 (M_La nm) 0 0 733 (LSt i) [(2, 0)] kdF m Q
  refine La_arg (pc := 733) (j := 1) (p2_q := 738) rfl (by decide +kernel) (by decide) hi_q hL ?_
  refine EvX.callV (M := M_La nm) (pc := 738) (c := 7) (mc := 0) (ms := 0) (a := 0) (as := [(0, xs (i + 1).toNat)]) (st := []) (show decode code 738 = .ok (.invokevirtual 75, 3) by decide +kernel) l_Law_75 k_Ap_keep v_Ap_keep a_Ap_keep (by decide) (Nat.le_of_ble_eq_true rfl) rfl ⟨by decide, rfl⟩ (pr_keep h) (fun r kd1 m1_q w => ?_)
  obtain ⟨r1_q, rfl, hk, w⟩ := w
  subst kd1
  show EvX (some (L, xs)) 41 (M_La nm) 0 0 741 (LSt i) [(0, r1_q)] kdF m1_q Q
  refine EvX.aload_n (v := (2, 78)) (i := 2) (show decode code 741 = .ok (.aload_n 2, 1) by decide +kernel) rfl (Or.inl rfl) ?_
  show EvX (some (L, xs)) 41 (M_La nm) 0 0 742 (LSt i) [(2, 78), (0, r1_q)] kdF m1_q Q
  refine La_arg (pc := 742) (j := 1) (p2_q := 747) rfl (by decide +kernel) (by decide) hi_q hL ?_
  refine EvX.callV (M := M_La nm) (pc := 747) (c := 8) (mc := 0) (ms := 0) (a := 78) (as := [(0, xs (i + 1).toNat)]) (st := [(0, r1_q)]) (show decode code 747 = .ok (.invokevirtual 78, 3) by decide +kernel) l_Law_78 k_Mo_keep v_Mo_keep a_Mo_keep (by decide) (Nat.le_of_ble_eq_true rfl) rfl ⟨by decide, rfl⟩ w (fun r kd1 m2_q w2_q => ?_)
  obtain ⟨r2, rfl, hk, e, st2_q, J2⟩ := w2_q
  subst kd1
  show EvX (some (L, xs)) 41 (M_La nm) 0 0 750 (LSt i) [(0, r2), (0, r1_q)] kdF m2_q Q
  refine EvX.icmp_eq (off := 842) (tgt := 1592) (show decode code 750 = .ok (.if_icmp .eq 842, 3) by decide +kernel) (by decide) (fun _ => K m2_q st2_q J2) (fun z => absurd e z)
theorem La_back (h : JI kdF m st0) (hi_q : 0 ≤ i ∧ i + 6 ≤ L) (hL : L ≤ 3072) (hx : ∀ n, zin32 (xs n)) (K : ∀ m2_q st2_q, JI kdF m2_q st2_q → EvX (some (L, xs)) 41 (M_La nm) 0 0 1592 (LSt i) [] kdF m2_q Q) : EvX (some (L, xs)) 41 (M_La nm) 0 0 755 (LSt i) [] kdF m Q := by
  refine EvX.aload_n (v := (2, 0)) (i := 1) (show decode code 755 = .ok (.aload_n 1, 1) by decide +kernel) rfl (Or.inl rfl) ?_
  show EvX (some (L, xs)) 41 (M_La nm) 0 0 756 (LSt i) [(2, 0)] kdF m Q
  refine La_arg (pc := 756) (j := 1) (p2_q := 761) rfl (by decide +kernel) (by decide) hi_q hL ?_
  refine EvX.callV (M := M_La nm) (pc := 761) (c := 7) (mc := 0) (ms := 0) (a := 0) (as := [(0, xs (i + 1).toNat)]) (st := []) (show decode code 761 = .ok (.invokevirtual 79, 3) by decide +kernel) l_Law_79 k_Ap_back v_Ap_back a_Ap_back (by decide) (Nat.le_of_ble_eq_true rfl) rfl ⟨by decide, rfl⟩ (pr_back h) (fun r kd1 m1_q w => ?_)
  obtain ⟨r1_q, rfl, hk, w⟩ := w
  subst kd1
  show EvX (some (L, xs)) 41 (M_La nm) 0 0 764 (LSt i) [(0, r1_q)] kdF m1_q Q
  refine EvX.aload_n (v := (2, 78)) (i := 2) (show decode code 764 = .ok (.aload_n 2, 1) by decide +kernel) rfl (Or.inl rfl) ?_
  show EvX (some (L, xs)) 41 (M_La nm) 0 0 765 (LSt i) [(2, 78), (0, r1_q)] kdF m1_q Q
  refine La_arg (pc := 765) (j := 1) (p2_q := 770) rfl (by decide +kernel) (by decide) hi_q hL ?_
  refine EvX.callV (M := M_La nm) (pc := 770) (c := 8) (mc := 0) (ms := 0) (a := 78) (as := [(0, xs (i + 1).toNat)]) (st := [(0, r1_q)]) (show decode code 770 = .ok (.invokevirtual 82, 3) by decide +kernel) l_Law_82 k_Mo_back v_Mo_back a_Mo_back (by decide) (Nat.le_of_ble_eq_true rfl) rfl ⟨by decide, rfl⟩ w (fun r kd1 m2_q w2_q => ?_)
  obtain ⟨r2, rfl, hk, e, st2_q, J2⟩ := w2_q
  subst kd1
  show EvX (some (L, xs)) 41 (M_La nm) 0 0 773 (LSt i) [(0, r2), (0, r1_q)] kdF m2_q Q
  refine EvX.icmp_eq (off := 819) (tgt := 1592) (show decode code 773 = .ok (.if_icmp .eq 819, 3) by decide +kernel) (by decide) (fun _ => K m2_q st2_q J2) (fun z => absurd e z)
theorem La_wins (h : JI kdF m st0) (hi_q : 0 ≤ i ∧ i + 6 ≤ L) (hL : L ≤ 3072) (hx : ∀ n, zin32 (xs n)) (K : ∀ m2_q st2_q, JI kdF m2_q st2_q → EvX (some (L, xs)) 41 (M_La nm) 0 0 1592 (LSt i) [] kdF m2_q Q) : EvX (some (L, xs)) 41 (M_La nm) 0 0 778 (LSt i) [] kdF m Q := by
  refine EvX.aload_n (v := (2, 0)) (i := 1) (show decode code 778 = .ok (.aload_n 1, 1) by decide +kernel) rfl (Or.inl rfl) ?_
  show EvX (some (L, xs)) 41 (M_La nm) 0 0 779 (LSt i) [(2, 0)] kdF m Q
  refine La_arg (pc := 779) (j := 1) (p2_q := 784) rfl (by decide +kernel) (by decide) hi_q hL ?_
  refine La_arg (pc := 784) (j := 2) (p2_q := 789) rfl (by decide +kernel) (by decide) hi_q hL ?_
  refine La_arg (pc := 789) (j := 3) (p2_q := 794) rfl (by decide +kernel) (by decide) hi_q hL ?_
  refine La_arg (pc := 794) (j := 4) (p2_q := 799) rfl (by decide +kernel) (by decide) hi_q hL ?_
  refine EvX.callV (M := M_La nm) (pc := 799) (c := 7) (mc := 0) (ms := 0) (a := 0) (as := [(0, xs (i + 1).toNat), (0, xs (i + 2).toNat), (0, xs (i + 3).toNat), (0, xs (i + 4).toNat)]) (st := []) (show decode code 799 = .ok (.invokevirtual 83, 3) by decide +kernel) l_Law_83 k_Ap_wins v_Ap_wins a_Ap_wins (by decide) (Nat.le_of_ble_eq_true rfl) rfl ⟨by decide, rfl⟩ (pr_wins h) (fun r kd1 m1_q w => ?_)
  obtain ⟨r1_q, rfl, hk, w⟩ := w
  subst kd1
  show EvX (some (L, xs)) 41 (M_La nm) 0 0 802 (LSt i) [(0, r1_q)] kdF m1_q Q
  refine EvX.aload_n (v := (2, 78)) (i := 2) (show decode code 802 = .ok (.aload_n 2, 1) by decide +kernel) rfl (Or.inl rfl) ?_
  show EvX (some (L, xs)) 41 (M_La nm) 0 0 803 (LSt i) [(2, 78), (0, r1_q)] kdF m1_q Q
  refine La_arg (pc := 803) (j := 1) (p2_q := 808) rfl (by decide +kernel) (by decide) hi_q hL ?_
  refine La_arg (pc := 808) (j := 2) (p2_q := 813) rfl (by decide +kernel) (by decide) hi_q hL ?_
  refine La_arg (pc := 813) (j := 3) (p2_q := 818) rfl (by decide +kernel) (by decide) hi_q hL ?_
  refine La_arg (pc := 818) (j := 4) (p2_q := 823) rfl (by decide +kernel) (by decide) hi_q hL ?_
  refine EvX.callV (M := M_La nm) (pc := 823) (c := 8) (mc := 0) (ms := 0) (a := 78) (as := [(0, xs (i + 1).toNat), (0, xs (i + 2).toNat), (0, xs (i + 3).toNat), (0, xs (i + 4).toNat)]) (st := [(0, r1_q)]) (show decode code 823 = .ok (.invokevirtual 86, 3) by decide +kernel) l_Law_86 k_Mo_wins v_Mo_wins a_Mo_wins (by decide) (Nat.le_of_ble_eq_true rfl) rfl ⟨by decide, rfl⟩ w (fun r kd1 m2_q w2_q => ?_)
  obtain ⟨r2, rfl, hk, e, st2_q, J2⟩ := w2_q
  subst kd1
  show EvX (some (L, xs)) 41 (M_La nm) 0 0 826 (LSt i) [(0, r2), (0, r1_q)] kdF m2_q Q
  refine EvX.icmp_eq (off := 766) (tgt := 1592) (show decode code 826 = .ok (.if_icmp .eq 766, 3) by decide +kernel) (by decide) (fun _ => K m2_q st2_q J2) (fun z => absurd e z)
theorem La_weight (h : JI kdF m st0) (hi_q : 0 ≤ i ∧ i + 6 ≤ L) (hL : L ≤ 3072) (hx : ∀ n, zin32 (xs n)) (K : ∀ m2_q st2_q, JI kdF m2_q st2_q → EvX (some (L, xs)) 41 (M_La nm) 0 0 1592 (LSt i) [] kdF m2_q Q) : EvX (some (L, xs)) 41 (M_La nm) 0 0 831 (LSt i) [] kdF m Q := by
  refine EvX.aload_n (v := (2, 0)) (i := 1) (show decode code 831 = .ok (.aload_n 1, 1) by decide +kernel) rfl (Or.inl rfl) ?_
  show EvX (some (L, xs)) 41 (M_La nm) 0 0 832 (LSt i) [(2, 0)] kdF m Q
  refine La_arg (pc := 832) (j := 1) (p2_q := 837) rfl (by decide +kernel) (by decide) hi_q hL ?_
  refine La_arg (pc := 837) (j := 2) (p2_q := 842) rfl (by decide +kernel) (by decide) hi_q hL ?_
  refine EvX.callV (M := M_La nm) (pc := 842) (c := 7) (mc := 0) (ms := 0) (a := 0) (as := [(0, xs (i + 1).toNat), (0, xs (i + 2).toNat)]) (st := []) (show decode code 842 = .ok (.invokevirtual 87, 3) by decide +kernel) l_Law_87 k_Ap_weight v_Ap_weight a_Ap_weight (by decide) (Nat.le_of_ble_eq_true rfl) rfl ⟨by decide, rfl⟩ (pr_weight h) (fun r kd1 m1_q w => ?_)
  obtain ⟨r1_q, rfl, hk, w⟩ := w
  subst kd1
  show EvX (some (L, xs)) 41 (M_La nm) 0 0 845 (LSt i) [(0, r1_q)] kdF m1_q Q
  refine EvX.aload_n (v := (2, 78)) (i := 2) (show decode code 845 = .ok (.aload_n 2, 1) by decide +kernel) rfl (Or.inl rfl) ?_
  show EvX (some (L, xs)) 41 (M_La nm) 0 0 846 (LSt i) [(2, 78), (0, r1_q)] kdF m1_q Q
  refine La_arg (pc := 846) (j := 1) (p2_q := 851) rfl (by decide +kernel) (by decide) hi_q hL ?_
  refine La_arg (pc := 851) (j := 2) (p2_q := 856) rfl (by decide +kernel) (by decide) hi_q hL ?_
  refine EvX.callV (M := M_La nm) (pc := 856) (c := 8) (mc := 0) (ms := 0) (a := 78) (as := [(0, xs (i + 1).toNat), (0, xs (i + 2).toNat)]) (st := [(0, r1_q)]) (show decode code 856 = .ok (.invokevirtual 90, 3) by decide +kernel) l_Law_90 k_Mo_weight v_Mo_weight a_Mo_weight (by decide) (Nat.le_of_ble_eq_true rfl) rfl ⟨by decide, rfl⟩ w (fun r kd1 m2_q w2_q => ?_)
  obtain ⟨r2, rfl, hk, e, st2_q, J2⟩ := w2_q
  subst kd1
  show EvX (some (L, xs)) 41 (M_La nm) 0 0 859 (LSt i) [(0, r2), (0, r1_q)] kdF m2_q Q
  refine EvX.icmp_eq (off := 733) (tgt := 1592) (show decode code 859 = .ok (.if_icmp .eq 733, 3) by decide +kernel) (by decide) (fun _ => K m2_q st2_q J2) (fun z => absurd e z)
theorem La_worth (h : JI kdF m st0) (hi_q : 0 ≤ i ∧ i + 6 ≤ L) (hL : L ≤ 3072) (hx : ∀ n, zin32 (xs n)) (K : ∀ m2_q st2_q, JI kdF m2_q st2_q → EvX (some (L, xs)) 41 (M_La nm) 0 0 1592 (LSt i) [] kdF m2_q Q) : EvX (some (L, xs)) 41 (M_La nm) 0 0 864 (LSt i) [] kdF m Q := by
  refine EvX.aload_n (v := (2, 0)) (i := 1) (show decode code 864 = .ok (.aload_n 1, 1) by decide +kernel) rfl (Or.inl rfl) ?_
  show EvX (some (L, xs)) 41 (M_La nm) 0 0 865 (LSt i) [(2, 0)] kdF m Q
  refine La_arg (pc := 865) (j := 1) (p2_q := 870) rfl (by decide +kernel) (by decide) hi_q hL ?_
  refine EvX.callV (M := M_La nm) (pc := 870) (c := 7) (mc := 0) (ms := 0) (a := 0) (as := [(0, xs (i + 1).toNat)]) (st := []) (show decode code 870 = .ok (.invokevirtual 91, 3) by decide +kernel) l_Law_91 k_Ap_worth v_Ap_worth a_Ap_worth (by decide) (Nat.le_of_ble_eq_true rfl) rfl ⟨by decide, rfl⟩ (pr_worth h) (fun r kd1 m1_q w => ?_)
  obtain ⟨r1_q, rfl, hk, w⟩ := w
  subst kd1
  show EvX (some (L, xs)) 41 (M_La nm) 0 0 873 (LSt i) [(0, r1_q)] kdF m1_q Q
  refine EvX.aload_n (v := (2, 78)) (i := 2) (show decode code 873 = .ok (.aload_n 2, 1) by decide +kernel) rfl (Or.inl rfl) ?_
  show EvX (some (L, xs)) 41 (M_La nm) 0 0 874 (LSt i) [(2, 78), (0, r1_q)] kdF m1_q Q
  refine La_arg (pc := 874) (j := 1) (p2_q := 879) rfl (by decide +kernel) (by decide) hi_q hL ?_
  refine EvX.callV (M := M_La nm) (pc := 879) (c := 8) (mc := 0) (ms := 0) (a := 78) (as := [(0, xs (i + 1).toNat)]) (st := [(0, r1_q)]) (show decode code 879 = .ok (.invokevirtual 94, 3) by decide +kernel) l_Law_94 k_Mo_worth v_Mo_worth a_Mo_worth (by decide) (Nat.le_of_ble_eq_true rfl) rfl ⟨by decide, rfl⟩ w (fun r kd1 m2_q w2_q => ?_)
  obtain ⟨r2, rfl, hk, e, st2_q, J2⟩ := w2_q
  subst kd1
  show EvX (some (L, xs)) 41 (M_La nm) 0 0 882 (LSt i) [(0, r2), (0, r1_q)] kdF m2_q Q
  refine EvX.icmp_eq (off := 710) (tgt := 1592) (show decode code 882 = .ok (.if_icmp .eq 710, 3) by decide +kernel) (by decide) (fun _ => K m2_q st2_q J2) (fun z => absurd e z)
theorem La_sure (h : JI kdF m st0) (hi_q : 0 ≤ i ∧ i + 6 ≤ L) (hL : L ≤ 3072) (hx : ∀ n, zin32 (xs n)) (K : ∀ m2_q st2_q, JI kdF m2_q st2_q → EvX (some (L, xs)) 41 (M_La nm) 0 0 1592 (LSt i) [] kdF m2_q Q) : EvX (some (L, xs)) 41 (M_La nm) 0 0 887 (LSt i) [] kdF m Q := by
  refine EvX.aload_n (v := (2, 0)) (i := 1) (show decode code 887 = .ok (.aload_n 1, 1) by decide +kernel) rfl (Or.inl rfl) ?_
  show EvX (some (L, xs)) 41 (M_La nm) 0 0 888 (LSt i) [(2, 0)] kdF m Q
  refine La_arg (pc := 888) (j := 1) (p2_q := 893) rfl (by decide +kernel) (by decide) hi_q hL ?_
  refine EvX.callV (M := M_La nm) (pc := 893) (c := 7) (mc := 0) (ms := 0) (a := 0) (as := [(0, xs (i + 1).toNat)]) (st := []) (show decode code 893 = .ok (.invokevirtual 95, 3) by decide +kernel) l_Law_95 k_Ap_sure v_Ap_sure a_Ap_sure (by decide) (Nat.le_of_ble_eq_true rfl) rfl ⟨by decide, rfl⟩ (pr_sure h) (fun r kd1 m1_q w => ?_)
  obtain ⟨r1_q, rfl, hk, w⟩ := w
  subst kd1
  show EvX (some (L, xs)) 41 (M_La nm) 0 0 896 (LSt i) [(0, r1_q)] kdF m1_q Q
  refine EvX.aload_n (v := (2, 78)) (i := 2) (show decode code 896 = .ok (.aload_n 2, 1) by decide +kernel) rfl (Or.inl rfl) ?_
  show EvX (some (L, xs)) 41 (M_La nm) 0 0 897 (LSt i) [(2, 78), (0, r1_q)] kdF m1_q Q
  refine La_arg (pc := 897) (j := 1) (p2_q := 902) rfl (by decide +kernel) (by decide) hi_q hL ?_
  refine EvX.callV (M := M_La nm) (pc := 902) (c := 8) (mc := 0) (ms := 0) (a := 78) (as := [(0, xs (i + 1).toNat)]) (st := [(0, r1_q)]) (show decode code 902 = .ok (.invokevirtual 98, 3) by decide +kernel) l_Law_98 k_Mo_sure v_Mo_sure a_Mo_sure (by decide) (Nat.le_of_ble_eq_true rfl) rfl ⟨by decide, rfl⟩ w (fun r kd1 m2_q w2_q => ?_)
  obtain ⟨r2, rfl, hk, e, st2_q, J2⟩ := w2_q
  subst kd1
  show EvX (some (L, xs)) 41 (M_La nm) 0 0 905 (LSt i) [(0, r2), (0, r1_q)] kdF m2_q Q
  refine EvX.icmp_eq (off := 687) (tgt := 1592) (show decode code 905 = .ok (.if_icmp .eq 687, 3) by decide +kernel) (by decide) (fun _ => K m2_q st2_q J2) (fun z => absurd e z)
theorem La_play (h : JI kdF m st0) (hi_q : 0 ≤ i ∧ i + 6 ≤ L) (hL : L ≤ 3072) (hx : ∀ n, zin32 (xs n)) (K : ∀ m2_q st2_q, JI kdF m2_q st2_q → EvX (some (L, xs)) 41 (M_La nm) 0 0 1592 (LSt i) [] kdF m2_q Q) : EvX (some (L, xs)) 41 (M_La nm) 0 0 910 (LSt i) [] kdF m Q := by
  refine EvX.aload_n (v := (2, 0)) (i := 1) (show decode code 910 = .ok (.aload_n 1, 1) by decide +kernel) rfl (Or.inl rfl) ?_
  show EvX (some (L, xs)) 41 (M_La nm) 0 0 911 (LSt i) [(2, 0)] kdF m Q
  refine La_arg (pc := 911) (j := 1) (p2_q := 916) rfl (by decide +kernel) (by decide) hi_q hL ?_
  refine La_arg (pc := 916) (j := 2) (p2_q := 921) rfl (by decide +kernel) (by decide) hi_q hL ?_
  refine EvX.callV (M := M_La nm) (pc := 921) (c := 7) (mc := 0) (ms := 0) (a := 0) (as := [(0, xs (i + 1).toNat), (0, xs (i + 2).toNat)]) (st := []) (show decode code 921 = .ok (.invokevirtual 99, 3) by decide +kernel) l_Law_99 k_Ap_play v_Ap_play a_Ap_play (by decide) (Nat.le_of_ble_eq_true rfl) rfl ⟨by decide, rfl⟩ (pr_play h (hx _) (hx _)) (fun r kd1 m1_q w => ?_)
  obtain ⟨r1_q, rfl, hk, w⟩ := w
  subst kd1
  show EvX (some (L, xs)) 41 (M_La nm) 0 0 924 (LSt i) [(0, r1_q)] kdF m1_q Q
  refine EvX.aload_n (v := (2, 78)) (i := 2) (show decode code 924 = .ok (.aload_n 2, 1) by decide +kernel) rfl (Or.inl rfl) ?_
  show EvX (some (L, xs)) 41 (M_La nm) 0 0 925 (LSt i) [(2, 78), (0, r1_q)] kdF m1_q Q
  refine La_arg (pc := 925) (j := 1) (p2_q := 930) rfl (by decide +kernel) (by decide) hi_q hL ?_
  refine La_arg (pc := 930) (j := 2) (p2_q := 935) rfl (by decide +kernel) (by decide) hi_q hL ?_
  refine EvX.callV (M := M_La nm) (pc := 935) (c := 8) (mc := 0) (ms := 0) (a := 78) (as := [(0, xs (i + 1).toNat), (0, xs (i + 2).toNat)]) (st := [(0, r1_q)]) (show decode code 935 = .ok (.invokevirtual 102, 3) by decide +kernel) l_Law_102 k_Mo_play v_Mo_play a_Mo_play (by decide) (Nat.le_of_ble_eq_true rfl) rfl ⟨by decide, rfl⟩ w (fun r kd1 m2_q w2_q => ?_)
  obtain ⟨r2, rfl, hk, e, st2_q, J2⟩ := w2_q
  subst kd1
  show EvX (some (L, xs)) 41 (M_La nm) 0 0 938 (LSt i) [(0, r2), (0, r1_q)] kdF m2_q Q
  refine EvX.icmp_eq (off := 654) (tgt := 1592) (show decode code 938 = .ok (.if_icmp .eq 654, 3) by decide +kernel) (by decide) (fun _ => K m2_q st2_q J2) (fun z => absurd e z)
theorem La_hangs (h : JI kdF m st0) (hi_q : 0 ≤ i ∧ i + 6 ≤ L) (hL : L ≤ 3072) (hx : ∀ n, zin32 (xs n)) (K : ∀ m2_q st2_q, JI kdF m2_q st2_q → EvX (some (L, xs)) 41 (M_La nm) 0 0 1592 (LSt i) [] kdF m2_q Q) : EvX (some (L, xs)) 41 (M_La nm) 0 0 943 (LSt i) [] kdF m Q := by
  refine EvX.aload_n (v := (2, 0)) (i := 1) (show decode code 943 = .ok (.aload_n 1, 1) by decide +kernel) rfl (Or.inl rfl) ?_
  show EvX (some (L, xs)) 41 (M_La nm) 0 0 944 (LSt i) [(2, 0)] kdF m Q
  refine La_arg (pc := 944) (j := 1) (p2_q := 949) rfl (by decide +kernel) (by decide) hi_q hL ?_
  refine La_arg (pc := 949) (j := 2) (p2_q := 954) rfl (by decide +kernel) (by decide) hi_q hL ?_
  refine EvX.callV (M := M_La nm) (pc := 954) (c := 7) (mc := 0) (ms := 0) (a := 0) (as := [(0, xs (i + 1).toNat), (0, xs (i + 2).toNat)]) (st := []) (show decode code 954 = .ok (.invokevirtual 103, 3) by decide +kernel) l_Law_103 k_Ap_hangs v_Ap_hangs a_Ap_hangs (by decide) (Nat.le_of_ble_eq_true rfl) rfl ⟨by decide, rfl⟩ (pr_hangs h (hx _)) (fun r kd1 m1_q w => ?_)
  obtain ⟨r1_q, rfl, hk, w⟩ := w
  subst kd1
  show EvX (some (L, xs)) 41 (M_La nm) 0 0 957 (LSt i) [(0, r1_q)] kdF m1_q Q
  refine EvX.aload_n (v := (2, 78)) (i := 2) (show decode code 957 = .ok (.aload_n 2, 1) by decide +kernel) rfl (Or.inl rfl) ?_
  show EvX (some (L, xs)) 41 (M_La nm) 0 0 958 (LSt i) [(2, 78), (0, r1_q)] kdF m1_q Q
  refine La_arg (pc := 958) (j := 1) (p2_q := 963) rfl (by decide +kernel) (by decide) hi_q hL ?_
  refine La_arg (pc := 963) (j := 2) (p2_q := 968) rfl (by decide +kernel) (by decide) hi_q hL ?_
  refine EvX.callV (M := M_La nm) (pc := 968) (c := 8) (mc := 0) (ms := 0) (a := 78) (as := [(0, xs (i + 1).toNat), (0, xs (i + 2).toNat)]) (st := [(0, r1_q)]) (show decode code 968 = .ok (.invokevirtual 106, 3) by decide +kernel) l_Law_106 k_Mo_hangs v_Mo_hangs a_Mo_hangs (by decide) (Nat.le_of_ble_eq_true rfl) rfl ⟨by decide, rfl⟩ w (fun r kd1 m2_q w2_q => ?_)
  obtain ⟨r2, rfl, hk, e, st2_q, J2⟩ := w2_q
  subst kd1
  show EvX (some (L, xs)) 41 (M_La nm) 0 0 971 (LSt i) [(0, r2), (0, r1_q)] kdF m2_q Q
  refine EvX.icmp_eq (off := 621) (tgt := 1592) (show decode code 971 = .ok (.if_icmp .eq 621, 3) by decide +kernel) (by decide) (fun _ => K m2_q st2_q J2) (fun z => absurd e z)
theorem La_reply (h : JI kdF m st0) (hi_q : 0 ≤ i ∧ i + 6 ≤ L) (hL : L ≤ 3072) (hx : ∀ n, zin32 (xs n)) (K : ∀ m2_q st2_q, JI kdF m2_q st2_q → EvX (some (L, xs)) 41 (M_La nm) 0 0 1592 (LSt i) [] kdF m2_q Q) : EvX (some (L, xs)) 41 (M_La nm) 0 0 976 (LSt i) [] kdF m Q := by
  refine EvX.aload_n (v := (2, 0)) (i := 1) (show decode code 976 = .ok (.aload_n 1, 1) by decide +kernel) rfl (Or.inl rfl) ?_
  show EvX (some (L, xs)) 41 (M_La nm) 0 0 977 (LSt i) [(2, 0)] kdF m Q
  refine La_arg (pc := 977) (j := 1) (p2_q := 982) rfl (by decide +kernel) (by decide) hi_q hL ?_
  refine La_arg (pc := 982) (j := 2) (p2_q := 987) rfl (by decide +kernel) (by decide) hi_q hL ?_
  refine EvX.callV (M := M_La nm) (pc := 987) (c := 7) (mc := 0) (ms := 0) (a := 0) (as := [(0, xs (i + 1).toNat), (0, xs (i + 2).toNat)]) (st := []) (show decode code 987 = .ok (.invokevirtual 107, 3) by decide +kernel) l_Law_107 k_Ap_reply v_Ap_reply a_Ap_reply (by decide) (Nat.le_of_ble_eq_true rfl) rfl ⟨by decide, rfl⟩ (pr_reply h (hx _)) (fun r kd1 m1_q w => ?_)
  obtain ⟨r1_q, rfl, hk, w⟩ := w
  subst kd1
  show EvX (some (L, xs)) 41 (M_La nm) 0 0 990 (LSt i) [(0, r1_q)] kdF m1_q Q
  refine EvX.aload_n (v := (2, 78)) (i := 2) (show decode code 990 = .ok (.aload_n 2, 1) by decide +kernel) rfl (Or.inl rfl) ?_
  show EvX (some (L, xs)) 41 (M_La nm) 0 0 991 (LSt i) [(2, 78), (0, r1_q)] kdF m1_q Q
  refine La_arg (pc := 991) (j := 1) (p2_q := 996) rfl (by decide +kernel) (by decide) hi_q hL ?_
  refine La_arg (pc := 996) (j := 2) (p2_q := 1001) rfl (by decide +kernel) (by decide) hi_q hL ?_
  refine EvX.callV (M := M_La nm) (pc := 1001) (c := 8) (mc := 0) (ms := 0) (a := 78) (as := [(0, xs (i + 1).toNat), (0, xs (i + 2).toNat)]) (st := [(0, r1_q)]) (show decode code 1001 = .ok (.invokevirtual 110, 3) by decide +kernel) l_Law_110 k_Mo_reply v_Mo_reply a_Mo_reply (by decide) (Nat.le_of_ble_eq_true rfl) rfl ⟨by decide, rfl⟩ w (fun r kd1 m2_q w2_q => ?_)
  obtain ⟨r2, rfl, hk, e, st2_q, J2⟩ := w2_q
  subst kd1
  show EvX (some (L, xs)) 41 (M_La nm) 0 0 1004 (LSt i) [(0, r2), (0, r1_q)] kdF m2_q Q
  refine EvX.icmp_eq (off := 588) (tgt := 1592) (show decode code 1004 = .ok (.if_icmp .eq 588, 3) by decide +kernel) (by decide) (fun _ => K m2_q st2_q J2) (fun z => absurd e z)
theorem La_bests (h : JI kdF m st0) (hi_q : 0 ≤ i ∧ i + 6 ≤ L) (hL : L ≤ 3072) (hx : ∀ n, zin32 (xs n)) (K : ∀ m2_q st2_q, JI kdF m2_q st2_q → EvX (some (L, xs)) 41 (M_La nm) 0 0 1592 (LSt i) [] kdF m2_q Q) : EvX (some (L, xs)) 41 (M_La nm) 0 0 1009 (LSt i) [] kdF m Q := by
  refine EvX.aload_n (v := (2, 0)) (i := 1) (show decode code 1009 = .ok (.aload_n 1, 1) by decide +kernel) rfl (Or.inl rfl) ?_
  show EvX (some (L, xs)) 41 (M_La nm) 0 0 1010 (LSt i) [(2, 0)] kdF m Q
  refine EvX.callV (M := M_La nm) (pc := 1010) (c := 7) (mc := 0) (ms := 0) (a := 0) (as := []) (st := []) (show decode code 1010 = .ok (.invokevirtual 111, 3) by decide +kernel) l_Law_111 k_Ap_bests v_Ap_bests a_Ap_bests (by decide) (Nat.le_of_ble_eq_true rfl) rfl ⟨by decide, rfl⟩ (pr_bests h) (fun r kd1 m1_q w => ?_)
  obtain ⟨r1_q, rfl, hk, w⟩ := w
  subst kd1
  show EvX (some (L, xs)) 41 (M_La nm) 0 0 1013 (LSt i) [(1, r1_q)] kdF m1_q Q
  refine EvX.aload_n (v := (2, 78)) (i := 2) (show decode code 1013 = .ok (.aload_n 2, 1) by decide +kernel) rfl (Or.inl rfl) ?_
  show EvX (some (L, xs)) 41 (M_La nm) 0 0 1014 (LSt i) [(2, 78), (1, r1_q)] kdF m1_q Q
  refine EvX.callV (M := M_La nm) (pc := 1014) (c := 8) (mc := 0) (ms := 0) (a := 78) (as := []) (st := [(1, r1_q)]) (show decode code 1014 = .ok (.invokevirtual 115, 3) by decide +kernel) l_Law_115 k_Mo_bests v_Mo_bests a_Mo_bests (by decide) (Nat.le_of_ble_eq_true rfl) rfl ⟨by decide, rfl⟩ w (fun r kd1 m2_q w2_q => ?_)
  obtain ⟨r2, rfl, hk, e, st2_q, J2⟩ := w2_q
  subst kd1
  show EvX (some (L, xs)) 41 (M_La nm) 0 0 1017 (LSt i) [(1, r2), (1, r1_q)] kdF m2_q Q
  refine EvX.lcmp (show decode code 1017 = .ok (.lcmp, 1) by decide +kernel) ?_
  refine EvX.if_eq (off := 574) (tgt := 1592) (show decode code 1018 = .ok (.ifCond .eq 574, 3) by decide +kernel) (by decide) (fun _ => K m2_q st2_q J2) (fun z => absurd (zcmp_0 e) z)
theorem La_best (h : JI kdF m st0) (hi_q : 0 ≤ i ∧ i + 6 ≤ L) (hL : L ≤ 3072) (hx : ∀ n, zin32 (xs n)) (K : ∀ m2_q st2_q, JI kdF m2_q st2_q → EvX (some (L, xs)) 41 (M_La nm) 0 0 1592 (LSt i) [] kdF m2_q Q) : EvX (some (L, xs)) 41 (M_La nm) 0 0 1023 (LSt i) [] kdF m Q := by
  refine EvX.aload_n (v := (2, 0)) (i := 1) (show decode code 1023 = .ok (.aload_n 1, 1) by decide +kernel) rfl (Or.inl rfl) ?_
  show EvX (some (L, xs)) 41 (M_La nm) 0 0 1024 (LSt i) [(2, 0)] kdF m Q
  refine La_arg (pc := 1024) (j := 1) (p2_q := 1029) rfl (by decide +kernel) (by decide) hi_q hL ?_
  refine La_arg (pc := 1029) (j := 2) (p2_q := 1034) rfl (by decide +kernel) (by decide) hi_q hL ?_
  refine EvX.callV (M := M_La nm) (pc := 1034) (c := 7) (mc := 0) (ms := 0) (a := 0) (as := [(0, xs (i + 1).toNat), (0, xs (i + 2).toNat)]) (st := []) (show decode code 1034 = .ok (.invokevirtual 116, 3) by decide +kernel) l_Law_116 k_Ap_best v_Ap_best a_Ap_best (by decide) (Nat.le_of_ble_eq_true rfl) rfl ⟨by decide, rfl⟩ (pr_best h (hx _)) (fun r kd1 m1_q w => ?_)
  obtain ⟨r1_q, rfl, hk, w⟩ := w
  subst kd1
  show EvX (some (L, xs)) 41 (M_La nm) 0 0 1037 (LSt i) [(0, r1_q)] kdF m1_q Q
  refine EvX.aload_n (v := (2, 78)) (i := 2) (show decode code 1037 = .ok (.aload_n 2, 1) by decide +kernel) rfl (Or.inl rfl) ?_
  show EvX (some (L, xs)) 41 (M_La nm) 0 0 1038 (LSt i) [(2, 78), (0, r1_q)] kdF m1_q Q
  refine La_arg (pc := 1038) (j := 1) (p2_q := 1043) rfl (by decide +kernel) (by decide) hi_q hL ?_
  refine La_arg (pc := 1043) (j := 2) (p2_q := 1048) rfl (by decide +kernel) (by decide) hi_q hL ?_
  refine EvX.callV (M := M_La nm) (pc := 1048) (c := 8) (mc := 0) (ms := 0) (a := 78) (as := [(0, xs (i + 1).toNat), (0, xs (i + 2).toNat)]) (st := [(0, r1_q)]) (show decode code 1048 = .ok (.invokevirtual 119, 3) by decide +kernel) l_Law_119 k_Mo_best v_Mo_best a_Mo_best (by decide) (Nat.le_of_ble_eq_true rfl) rfl ⟨by decide, rfl⟩ w (fun r kd1 m2_q w2_q => ?_)
  obtain ⟨r2, rfl, hk, e, st2_q, J2⟩ := w2_q
  subst kd1
  show EvX (some (L, xs)) 41 (M_La nm) 0 0 1051 (LSt i) [(0, r2), (0, r1_q)] kdF m2_q Q
  refine EvX.icmp_eq (off := 541) (tgt := 1592) (show decode code 1051 = .ok (.if_icmp .eq 541, 3) by decide +kernel) (by decide) (fun _ => K m2_q st2_q J2) (fun z => absurd e z)
theorem La_lost (h : JI kdF m st0) (hi_q : 0 ≤ i ∧ i + 6 ≤ L) (hL : L ≤ 3072) (hx : ∀ n, zin32 (xs n)) (K : ∀ m2_q st2_q, JI kdF m2_q st2_q → EvX (some (L, xs)) 41 (M_La nm) 0 0 1592 (LSt i) [] kdF m2_q Q) : EvX (some (L, xs)) 41 (M_La nm) 0 0 1056 (LSt i) [] kdF m Q := by
  refine EvX.aload_n (v := (2, 0)) (i := 1) (show decode code 1056 = .ok (.aload_n 1, 1) by decide +kernel) rfl (Or.inl rfl) ?_
  show EvX (some (L, xs)) 41 (M_La nm) 0 0 1057 (LSt i) [(2, 0)] kdF m Q
  refine La_arg (pc := 1057) (j := 1) (p2_q := 1062) rfl (by decide +kernel) (by decide) hi_q hL ?_
  refine La_arg (pc := 1062) (j := 2) (p2_q := 1067) rfl (by decide +kernel) (by decide) hi_q hL ?_
  refine EvX.callV (M := M_La nm) (pc := 1067) (c := 7) (mc := 0) (ms := 0) (a := 0) (as := [(0, xs (i + 1).toNat), (0, xs (i + 2).toNat)]) (st := []) (show decode code 1067 = .ok (.invokevirtual 120, 3) by decide +kernel) l_Law_120 k_Ap_lost v_Ap_lost a_Ap_lost (by decide) (Nat.le_of_ble_eq_true rfl) rfl ⟨by decide, rfl⟩ (pr_lost h) (fun r kd1 m1_q w => ?_)
  obtain ⟨r1_q, rfl, hk, w⟩ := w
  subst kd1
  show EvX (some (L, xs)) 41 (M_La nm) 0 0 1070 (LSt i) [(1, r1_q)] kdF m1_q Q
  refine EvX.aload_n (v := (2, 78)) (i := 2) (show decode code 1070 = .ok (.aload_n 2, 1) by decide +kernel) rfl (Or.inl rfl) ?_
  show EvX (some (L, xs)) 41 (M_La nm) 0 0 1071 (LSt i) [(2, 78), (1, r1_q)] kdF m1_q Q
  refine La_arg (pc := 1071) (j := 1) (p2_q := 1076) rfl (by decide +kernel) (by decide) hi_q hL ?_
  refine La_arg (pc := 1076) (j := 2) (p2_q := 1081) rfl (by decide +kernel) (by decide) hi_q hL ?_
  refine EvX.callV (M := M_La nm) (pc := 1081) (c := 8) (mc := 0) (ms := 0) (a := 78) (as := [(0, xs (i + 1).toNat), (0, xs (i + 2).toNat)]) (st := [(1, r1_q)]) (show decode code 1081 = .ok (.invokevirtual 124, 3) by decide +kernel) l_Law_124 k_Mo_lost v_Mo_lost a_Mo_lost (by decide) (Nat.le_of_ble_eq_true rfl) rfl ⟨by decide, rfl⟩ w (fun r kd1 m2_q w2_q => ?_)
  obtain ⟨r2, rfl, hk, e, st2_q, J2⟩ := w2_q
  subst kd1
  show EvX (some (L, xs)) 41 (M_La nm) 0 0 1084 (LSt i) [(1, r2), (1, r1_q)] kdF m2_q Q
  refine EvX.lcmp (show decode code 1084 = .ok (.lcmp, 1) by decide +kernel) ?_
  refine EvX.if_eq (off := 507) (tgt := 1592) (show decode code 1085 = .ok (.ifCond .eq 507, 3) by decide +kernel) (by decide) (fun _ => K m2_q st2_q J2) (fun z => absurd (zcmp_0 e) z)
theorem La_mean (h : JI kdF m st0) (hi_q : 0 ≤ i ∧ i + 6 ≤ L) (hL : L ≤ 3072) (hx : ∀ n, zin32 (xs n)) (K : ∀ m2_q st2_q, JI kdF m2_q st2_q → EvX (some (L, xs)) 41 (M_La nm) 0 0 1592 (LSt i) [] kdF m2_q Q) : EvX (some (L, xs)) 41 (M_La nm) 0 0 1090 (LSt i) [] kdF m Q := by
  refine EvX.aload_n (v := (2, 0)) (i := 1) (show decode code 1090 = .ok (.aload_n 1, 1) by decide +kernel) rfl (Or.inl rfl) ?_
  show EvX (some (L, xs)) 41 (M_La nm) 0 0 1091 (LSt i) [(2, 0)] kdF m Q
  refine La_arg (pc := 1091) (j := 1) (p2_q := 1096) rfl (by decide +kernel) (by decide) hi_q hL ?_
  refine EvX.callV (M := M_La nm) (pc := 1096) (c := 7) (mc := 0) (ms := 0) (a := 0) (as := [(0, xs (i + 1).toNat)]) (st := []) (show decode code 1096 = .ok (.invokevirtual 125, 3) by decide +kernel) l_Law_125 k_Ap_mean v_Ap_mean a_Ap_mean (by decide) (Nat.le_of_ble_eq_true rfl) rfl ⟨by decide, rfl⟩ (pr_mean h) (fun r kd1 m1_q w => ?_)
  obtain ⟨r1_q, rfl, hk, w⟩ := w
  subst kd1
  show EvX (some (L, xs)) 41 (M_La nm) 0 0 1099 (LSt i) [(1, r1_q)] kdF m1_q Q
  refine EvX.aload_n (v := (2, 78)) (i := 2) (show decode code 1099 = .ok (.aload_n 2, 1) by decide +kernel) rfl (Or.inl rfl) ?_
  show EvX (some (L, xs)) 41 (M_La nm) 0 0 1100 (LSt i) [(2, 78), (1, r1_q)] kdF m1_q Q
  refine La_arg (pc := 1100) (j := 1) (p2_q := 1105) rfl (by decide +kernel) (by decide) hi_q hL ?_
  refine EvX.callV (M := M_La nm) (pc := 1105) (c := 8) (mc := 0) (ms := 0) (a := 78) (as := [(0, xs (i + 1).toNat)]) (st := [(1, r1_q)]) (show decode code 1105 = .ok (.invokevirtual 129, 3) by decide +kernel) l_Law_129 k_Mo_mean v_Mo_mean a_Mo_mean (by decide) (Nat.le_of_ble_eq_true rfl) rfl ⟨by decide, rfl⟩ w (fun r kd1 m2_q w2_q => ?_)
  obtain ⟨r2, rfl, hk, e, st2_q, J2⟩ := w2_q
  subst kd1
  show EvX (some (L, xs)) 41 (M_La nm) 0 0 1108 (LSt i) [(1, r2), (1, r1_q)] kdF m2_q Q
  refine EvX.lcmp (show decode code 1108 = .ok (.lcmp, 1) by decide +kernel) ?_
  refine EvX.if_eq (off := 483) (tgt := 1592) (show decode code 1109 = .ok (.ifCond .eq 483, 3) by decide +kernel) (by decide) (fun _ => K m2_q st2_q J2) (fun z => absurd (zcmp_0 e) z)
theorem La_talk (h : JI kdF m st0) (hi_q : 0 ≤ i ∧ i + 6 ≤ L) (hL : L ≤ 3072) (hx : ∀ n, zin32 (xs n)) (K : ∀ m2_q st2_q, JI kdF m2_q st2_q → EvX (some (L, xs)) 41 (M_La nm) 0 0 1592 (LSt i) [] kdF m2_q Q) : EvX (some (L, xs)) 41 (M_La nm) 0 0 1114 (LSt i) [] kdF m Q := by
  refine EvX.aload_n (v := (2, 0)) (i := 1) (show decode code 1114 = .ok (.aload_n 1, 1) by decide +kernel) rfl (Or.inl rfl) ?_
  show EvX (some (L, xs)) 41 (M_La nm) 0 0 1115 (LSt i) [(2, 0)] kdF m Q
  refine La_arg (pc := 1115) (j := 1) (p2_q := 1120) rfl (by decide +kernel) (by decide) hi_q hL ?_
  refine EvX.callV (M := M_La nm) (pc := 1120) (c := 7) (mc := 0) (ms := 0) (a := 0) (as := [(0, xs (i + 1).toNat)]) (st := []) (show decode code 1120 = .ok (.invokevirtual 130, 3) by decide +kernel) l_Law_130 k_Ap_talk v_Ap_talk a_Ap_talk (by decide) (Nat.le_of_ble_eq_true rfl) rfl ⟨by decide, rfl⟩ (pr_talk h) (fun r kd1 m1_q w => ?_)
  obtain ⟨r1_q, rfl, hk, w⟩ := w
  subst kd1
  show EvX (some (L, xs)) 41 (M_La nm) 0 0 1123 (LSt i) [(0, r1_q)] kdF m1_q Q
  refine EvX.aload_n (v := (2, 78)) (i := 2) (show decode code 1123 = .ok (.aload_n 2, 1) by decide +kernel) rfl (Or.inl rfl) ?_
  show EvX (some (L, xs)) 41 (M_La nm) 0 0 1124 (LSt i) [(2, 78), (0, r1_q)] kdF m1_q Q
  refine La_arg (pc := 1124) (j := 1) (p2_q := 1129) rfl (by decide +kernel) (by decide) hi_q hL ?_
  refine EvX.callV (M := M_La nm) (pc := 1129) (c := 8) (mc := 0) (ms := 0) (a := 78) (as := [(0, xs (i + 1).toNat)]) (st := [(0, r1_q)]) (show decode code 1129 = .ok (.invokevirtual 133, 3) by decide +kernel) l_Law_133 k_Mo_talk v_Mo_talk a_Mo_talk (by decide) (Nat.le_of_ble_eq_true rfl) rfl ⟨by decide, rfl⟩ w (fun r kd1 m2_q w2_q => ?_)
  obtain ⟨r2, rfl, hk, e, st2_q, J2⟩ := w2_q
  subst kd1
  show EvX (some (L, xs)) 41 (M_La nm) 0 0 1132 (LSt i) [(0, r2), (0, r1_q)] kdF m2_q Q
  refine EvX.icmp_eq (off := 460) (tgt := 1592) (show decode code 1132 = .ok (.if_icmp .eq 460, 3) by decide +kernel) (by decide) (fun _ => K m2_q st2_q J2) (fun z => absurd e z)
theorem La_without (h : JI kdF m st0) (hi_q : 0 ≤ i ∧ i + 6 ≤ L) (hL : L ≤ 3072) (hx : ∀ n, zin32 (xs n)) (K : ∀ m2_q st2_q, JI kdF m2_q st2_q → EvX (some (L, xs)) 41 (M_La nm) 0 0 1592 (LSt i) [] kdF m2_q Q) : EvX (some (L, xs)) 41 (M_La nm) 0 0 1137 (LSt i) [] kdF m Q := by
  refine EvX.aload_n (v := (2, 0)) (i := 1) (show decode code 1137 = .ok (.aload_n 1, 1) by decide +kernel) rfl (Or.inl rfl) ?_
  show EvX (some (L, xs)) 41 (M_La nm) 0 0 1138 (LSt i) [(2, 0)] kdF m Q
  refine La_arg (pc := 1138) (j := 1) (p2_q := 1143) rfl (by decide +kernel) (by decide) hi_q hL ?_
  refine La_arg (pc := 1143) (j := 2) (p2_q := 1148) rfl (by decide +kernel) (by decide) hi_q hL ?_
  refine EvX.callV (M := M_La nm) (pc := 1148) (c := 7) (mc := 0) (ms := 0) (a := 0) (as := [(0, xs (i + 1).toNat), (0, xs (i + 2).toNat)]) (st := []) (show decode code 1148 = .ok (.invokevirtual 134, 3) by decide +kernel) l_Law_134 k_Ap_without v_Ap_without a_Ap_without (by decide) (Nat.le_of_ble_eq_true rfl) rfl ⟨by decide, rfl⟩ (pr_without h) (fun r kd1 m1_q w => ?_)
  obtain ⟨r1_q, rfl, hk, w⟩ := w
  subst kd1
  show EvX (some (L, xs)) 41 (M_La nm) 0 0 1151 (LSt i) [(0, r1_q)] kdF m1_q Q
  refine EvX.aload_n (v := (2, 78)) (i := 2) (show decode code 1151 = .ok (.aload_n 2, 1) by decide +kernel) rfl (Or.inl rfl) ?_
  show EvX (some (L, xs)) 41 (M_La nm) 0 0 1152 (LSt i) [(2, 78), (0, r1_q)] kdF m1_q Q
  refine La_arg (pc := 1152) (j := 1) (p2_q := 1157) rfl (by decide +kernel) (by decide) hi_q hL ?_
  refine La_arg (pc := 1157) (j := 2) (p2_q := 1162) rfl (by decide +kernel) (by decide) hi_q hL ?_
  refine EvX.callV (M := M_La nm) (pc := 1162) (c := 8) (mc := 0) (ms := 0) (a := 78) (as := [(0, xs (i + 1).toNat), (0, xs (i + 2).toNat)]) (st := [(0, r1_q)]) (show decode code 1162 = .ok (.invokevirtual 137, 3) by decide +kernel) l_Law_137 k_Mo_without v_Mo_without a_Mo_without (by decide) (Nat.le_of_ble_eq_true rfl) rfl ⟨by decide, rfl⟩ w (fun r kd1 m2_q w2_q => ?_)
  obtain ⟨r2, rfl, hk, e, st2_q, J2⟩ := w2_q
  subst kd1
  show EvX (some (L, xs)) 41 (M_La nm) 0 0 1165 (LSt i) [(0, r2), (0, r1_q)] kdF m2_q Q
  refine EvX.icmp_eq (off := 427) (tgt := 1592) (show decode code 1165 = .ok (.if_icmp .eq 427, 3) by decide +kernel) (by decide) (fun _ => K m2_q st2_q J2) (fun z => absurd e z)
theorem La_lesser (h : JI kdF m st0) (hi_q : 0 ≤ i ∧ i + 6 ≤ L) (hL : L ≤ 3072) (hx : ∀ n, zin32 (xs n)) (K : ∀ m2_q st2_q, JI kdF m2_q st2_q → EvX (some (L, xs)) 41 (M_La nm) 0 0 1592 (LSt i) [] kdF m2_q Q) : EvX (some (L, xs)) 41 (M_La nm) 0 0 1170 (LSt i) [] kdF m Q := by
  refine EvX.aload_n (v := (2, 0)) (i := 1) (show decode code 1170 = .ok (.aload_n 1, 1) by decide +kernel) rfl (Or.inl rfl) ?_
  show EvX (some (L, xs)) 41 (M_La nm) 0 0 1171 (LSt i) [(2, 0)] kdF m Q
  refine La_arg (pc := 1171) (j := 1) (p2_q := 1176) rfl (by decide +kernel) (by decide) hi_q hL ?_
  refine La_arg (pc := 1176) (j := 2) (p2_q := 1181) rfl (by decide +kernel) (by decide) hi_q hL ?_
  refine La_arg (pc := 1181) (j := 3) (p2_q := 1186) rfl (by decide +kernel) (by decide) hi_q hL ?_
  refine La_arg (pc := 1186) (j := 4) (p2_q := 1191) rfl (by decide +kernel) (by decide) hi_q hL ?_
  refine EvX.callV (M := M_La nm) (pc := 1191) (c := 7) (mc := 0) (ms := 0) (a := 0) (as := [(0, xs (i + 1).toNat), (0, xs (i + 2).toNat), (0, xs (i + 3).toNat), (0, xs (i + 4).toNat)]) (st := []) (show decode code 1191 = .ok (.invokevirtual 138, 3) by decide +kernel) l_Law_138 k_Ap_lesser v_Ap_lesser a_Ap_lesser (by decide) (Nat.le_of_ble_eq_true rfl) rfl ⟨by decide, rfl⟩ (pr_lesser h) (fun r kd1 m1_q w => ?_)
  obtain ⟨r1_q, rfl, hk, w⟩ := w
  subst kd1
  show EvX (some (L, xs)) 41 (M_La nm) 0 0 1194 (LSt i) [(0, r1_q)] kdF m1_q Q
  refine EvX.aload_n (v := (2, 78)) (i := 2) (show decode code 1194 = .ok (.aload_n 2, 1) by decide +kernel) rfl (Or.inl rfl) ?_
  show EvX (some (L, xs)) 41 (M_La nm) 0 0 1195 (LSt i) [(2, 78), (0, r1_q)] kdF m1_q Q
  refine La_arg (pc := 1195) (j := 1) (p2_q := 1200) rfl (by decide +kernel) (by decide) hi_q hL ?_
  refine La_arg (pc := 1200) (j := 2) (p2_q := 1205) rfl (by decide +kernel) (by decide) hi_q hL ?_
  refine La_arg (pc := 1205) (j := 3) (p2_q := 1210) rfl (by decide +kernel) (by decide) hi_q hL ?_
  refine La_arg (pc := 1210) (j := 4) (p2_q := 1215) rfl (by decide +kernel) (by decide) hi_q hL ?_
  refine EvX.callV (M := M_La nm) (pc := 1215) (c := 8) (mc := 0) (ms := 0) (a := 78) (as := [(0, xs (i + 1).toNat), (0, xs (i + 2).toNat), (0, xs (i + 3).toNat), (0, xs (i + 4).toNat)]) (st := [(0, r1_q)]) (show decode code 1215 = .ok (.invokevirtual 141, 3) by decide +kernel) l_Law_141 k_Mo_lesser v_Mo_lesser a_Mo_lesser (by decide) (Nat.le_of_ble_eq_true rfl) rfl ⟨by decide, rfl⟩ w (fun r kd1 m2_q w2_q => ?_)
  obtain ⟨r2, rfl, hk, e, st2_q, J2⟩ := w2_q
  subst kd1
  show EvX (some (L, xs)) 41 (M_La nm) 0 0 1218 (LSt i) [(0, r2), (0, r1_q)] kdF m2_q Q
  refine EvX.icmp_eq (off := 374) (tgt := 1592) (show decode code 1218 = .ok (.if_icmp .eq 374, 3) by decide +kernel) (by decide) (fun _ => K m2_q st2_q J2) (fun z => absurd e z)
theorem La_same (h : JI kdF m st0) (hi_q : 0 ≤ i ∧ i + 6 ≤ L) (hL : L ≤ 3072) (hx : ∀ n, zin32 (xs n)) (K : ∀ m2_q st2_q, JI kdF m2_q st2_q → EvX (some (L, xs)) 41 (M_La nm) 0 0 1592 (LSt i) [] kdF m2_q Q) : EvX (some (L, xs)) 41 (M_La nm) 0 0 1223 (LSt i) [] kdF m Q := by
  refine EvX.aload_n (v := (2, 0)) (i := 1) (show decode code 1223 = .ok (.aload_n 1, 1) by decide +kernel) rfl (Or.inl rfl) ?_
  show EvX (some (L, xs)) 41 (M_La nm) 0 0 1224 (LSt i) [(2, 0)] kdF m Q
  refine La_arg (pc := 1224) (j := 1) (p2_q := 1229) rfl (by decide +kernel) (by decide) hi_q hL ?_
  refine La_arg (pc := 1229) (j := 2) (p2_q := 1234) rfl (by decide +kernel) (by decide) hi_q hL ?_
  refine La_arg (pc := 1234) (j := 3) (p2_q := 1239) rfl (by decide +kernel) (by decide) hi_q hL ?_
  refine EvX.callV (M := M_La nm) (pc := 1239) (c := 7) (mc := 0) (ms := 0) (a := 0) (as := [(0, xs (i + 1).toNat), (0, xs (i + 2).toNat), (0, xs (i + 3).toNat)]) (st := []) (show decode code 1239 = .ok (.invokevirtual 142, 3) by decide +kernel) l_Law_142 k_Ap_same v_Ap_same a_Ap_same (by decide) (Nat.le_of_ble_eq_true rfl) rfl ⟨by decide, rfl⟩ (pr_same h) (fun r kd1 m1_q w => ?_)
  obtain ⟨r1_q, rfl, hk, w⟩ := w
  subst kd1
  show EvX (some (L, xs)) 41 (M_La nm) 0 0 1242 (LSt i) [(0, r1_q)] kdF m1_q Q
  refine EvX.aload_n (v := (2, 78)) (i := 2) (show decode code 1242 = .ok (.aload_n 2, 1) by decide +kernel) rfl (Or.inl rfl) ?_
  show EvX (some (L, xs)) 41 (M_La nm) 0 0 1243 (LSt i) [(2, 78), (0, r1_q)] kdF m1_q Q
  refine La_arg (pc := 1243) (j := 1) (p2_q := 1248) rfl (by decide +kernel) (by decide) hi_q hL ?_
  refine La_arg (pc := 1248) (j := 2) (p2_q := 1253) rfl (by decide +kernel) (by decide) hi_q hL ?_
  refine La_arg (pc := 1253) (j := 3) (p2_q := 1258) rfl (by decide +kernel) (by decide) hi_q hL ?_
  refine EvX.callV (M := M_La nm) (pc := 1258) (c := 8) (mc := 0) (ms := 0) (a := 78) (as := [(0, xs (i + 1).toNat), (0, xs (i + 2).toNat), (0, xs (i + 3).toNat)]) (st := [(0, r1_q)]) (show decode code 1258 = .ok (.invokevirtual 145, 3) by decide +kernel) l_Law_145 k_Mo_same v_Mo_same a_Mo_same (by decide) (Nat.le_of_ble_eq_true rfl) rfl ⟨by decide, rfl⟩ w (fun r kd1 m2_q w2_q => ?_)
  obtain ⟨r2, rfl, hk, e, st2_q, J2⟩ := w2_q
  subst kd1
  show EvX (some (L, xs)) 41 (M_La nm) 0 0 1261 (LSt i) [(0, r2), (0, r1_q)] kdF m2_q Q
  refine EvX.icmp_eq (off := 331) (tgt := 1592) (show decode code 1261 = .ok (.if_icmp .eq 331, 3) by decide +kernel) (by decide) (fun _ => K m2_q st2_q J2) (fun z => absurd e z)
theorem La_climb (h : JI kdF m st0) (hi_q : 0 ≤ i ∧ i + 6 ≤ L) (hL : L ≤ 3072) (hx : ∀ n, zin32 (xs n)) (K : ∀ m2_q st2_q, JI kdF m2_q st2_q → EvX (some (L, xs)) 41 (M_La nm) 0 0 1592 (LSt i) [] kdF m2_q Q) : EvX (some (L, xs)) 41 (M_La nm) 0 0 1266 (LSt i) [] kdF m Q := by
  refine EvX.aload_n (v := (2, 0)) (i := 1) (show decode code 1266 = .ok (.aload_n 1, 1) by decide +kernel) rfl (Or.inl rfl) ?_
  show EvX (some (L, xs)) 41 (M_La nm) 0 0 1267 (LSt i) [(2, 0)] kdF m Q
  refine La_arg (pc := 1267) (j := 1) (p2_q := 1272) rfl (by decide +kernel) (by decide) hi_q hL ?_
  refine La_arg (pc := 1272) (j := 2) (p2_q := 1277) rfl (by decide +kernel) (by decide) hi_q hL ?_
  refine La_arg (pc := 1277) (j := 3) (p2_q := 1282) rfl (by decide +kernel) (by decide) hi_q hL ?_
  refine EvX.callV (M := M_La nm) (pc := 1282) (c := 7) (mc := 0) (ms := 0) (a := 0) (as := [(0, xs (i + 1).toNat), (0, xs (i + 2).toNat), (0, xs (i + 3).toNat)]) (st := []) (show decode code 1282 = .ok (.invokevirtual 146, 3) by decide +kernel) l_Law_146 k_Ap_climb v_Ap_climb a_Ap_climb (by decide) (Nat.le_of_ble_eq_true rfl) rfl ⟨by decide, rfl⟩ (pr_climb h (hx _) (hx _)) (fun r kd1 m1_q w => ?_)
  obtain ⟨r1_q, rfl, hk, w⟩ := w
  subst kd1
  show EvX (some (L, xs)) 41 (M_La nm) 0 0 1285 (LSt i) [(0, r1_q)] kdF m1_q Q
  refine EvX.aload_n (v := (2, 78)) (i := 2) (show decode code 1285 = .ok (.aload_n 2, 1) by decide +kernel) rfl (Or.inl rfl) ?_
  show EvX (some (L, xs)) 41 (M_La nm) 0 0 1286 (LSt i) [(2, 78), (0, r1_q)] kdF m1_q Q
  refine La_arg (pc := 1286) (j := 1) (p2_q := 1291) rfl (by decide +kernel) (by decide) hi_q hL ?_
  refine La_arg (pc := 1291) (j := 2) (p2_q := 1296) rfl (by decide +kernel) (by decide) hi_q hL ?_
  refine La_arg (pc := 1296) (j := 3) (p2_q := 1301) rfl (by decide +kernel) (by decide) hi_q hL ?_
  refine EvX.callV (M := M_La nm) (pc := 1301) (c := 8) (mc := 0) (ms := 0) (a := 78) (as := [(0, xs (i + 1).toNat), (0, xs (i + 2).toNat), (0, xs (i + 3).toNat)]) (st := [(0, r1_q)]) (show decode code 1301 = .ok (.invokevirtual 149, 3) by decide +kernel) l_Law_149 k_Mo_climb v_Mo_climb a_Mo_climb (by decide) (Nat.le_of_ble_eq_true rfl) rfl ⟨by decide, rfl⟩ w (fun r kd1 m2_q w2_q => ?_)
  obtain ⟨r2, rfl, hk, e, st2_q, J2⟩ := w2_q
  subst kd1
  show EvX (some (L, xs)) 41 (M_La nm) 0 0 1304 (LSt i) [(0, r2), (0, r1_q)] kdF m2_q Q
  refine EvX.icmp_eq (off := 288) (tgt := 1592) (show decode code 1304 = .ok (.if_icmp .eq 288, 3) by decide +kernel) (by decide) (fun _ => K m2_q st2_q J2) (fun z => absurd e z)
theorem La_cut (h : JI kdF m st0) (hi_q : 0 ≤ i ∧ i + 6 ≤ L) (hL : L ≤ 3072) (hx : ∀ n, zin32 (xs n)) (K : ∀ m2_q st2_q, JI kdF m2_q st2_q → EvX (some (L, xs)) 41 (M_La nm) 0 0 1592 (LSt i) [] kdF m2_q Q) : EvX (some (L, xs)) 41 (M_La nm) 0 0 1309 (LSt i) [] kdF m Q := by
  refine EvX.aload_n (v := (2, 0)) (i := 1) (show decode code 1309 = .ok (.aload_n 1, 1) by decide +kernel) rfl (Or.inl rfl) ?_
  show EvX (some (L, xs)) 41 (M_La nm) 0 0 1310 (LSt i) [(2, 0)] kdF m Q
  refine La_arg (pc := 1310) (j := 1) (p2_q := 1315) rfl (by decide +kernel) (by decide) hi_q hL ?_
  refine La_arg (pc := 1315) (j := 2) (p2_q := 1320) rfl (by decide +kernel) (by decide) hi_q hL ?_
  refine EvX.callV (M := M_La nm) (pc := 1320) (c := 7) (mc := 0) (ms := 0) (a := 0) (as := [(0, xs (i + 1).toNat), (0, xs (i + 2).toNat)]) (st := []) (show decode code 1320 = .ok (.invokevirtual 150, 3) by decide +kernel) l_Law_150 k_Ap_cut v_Ap_cut a_Ap_cut (by decide) (Nat.le_of_ble_eq_true rfl) rfl ⟨by decide, rfl⟩ (pr_cut h) (fun r kd1 m1_q w => ?_)
  obtain ⟨r1_q, rfl, hk, w⟩ := w
  subst kd1
  show EvX (some (L, xs)) 41 (M_La nm) 0 0 1323 (LSt i) [(0, r1_q)] kdF m1_q Q
  refine EvX.aload_n (v := (2, 78)) (i := 2) (show decode code 1323 = .ok (.aload_n 2, 1) by decide +kernel) rfl (Or.inl rfl) ?_
  show EvX (some (L, xs)) 41 (M_La nm) 0 0 1324 (LSt i) [(2, 78), (0, r1_q)] kdF m1_q Q
  refine La_arg (pc := 1324) (j := 1) (p2_q := 1329) rfl (by decide +kernel) (by decide) hi_q hL ?_
  refine La_arg (pc := 1329) (j := 2) (p2_q := 1334) rfl (by decide +kernel) (by decide) hi_q hL ?_
  refine EvX.callV (M := M_La nm) (pc := 1334) (c := 8) (mc := 0) (ms := 0) (a := 78) (as := [(0, xs (i + 1).toNat), (0, xs (i + 2).toNat)]) (st := [(0, r1_q)]) (show decode code 1334 = .ok (.invokevirtual 153, 3) by decide +kernel) l_Law_153 k_Mo_cut v_Mo_cut a_Mo_cut (by decide) (Nat.le_of_ble_eq_true rfl) rfl ⟨by decide, rfl⟩ w (fun r kd1 m2_q w2_q => ?_)
  obtain ⟨r2, rfl, hk, e, st2_q, J2⟩ := w2_q
  subst kd1
  show EvX (some (L, xs)) 41 (M_La nm) 0 0 1337 (LSt i) [(0, r2), (0, r1_q)] kdF m2_q Q
  refine EvX.icmp_eq (off := 255) (tgt := 1592) (show decode code 1337 = .ok (.if_icmp .eq 255, 3) by decide +kernel) (by decide) (fun _ => K m2_q st2_q J2) (fun z => absurd e z)
theorem La_parts (h : JI kdF m st0) (hi_q : 0 ≤ i ∧ i + 6 ≤ L) (hL : L ≤ 3072) (hx : ∀ n, zin32 (xs n)) (K : ∀ m2_q st2_q, JI kdF m2_q st2_q → EvX (some (L, xs)) 41 (M_La nm) 0 0 1592 (LSt i) [] kdF m2_q Q) : EvX (some (L, xs)) 41 (M_La nm) 0 0 1342 (LSt i) [] kdF m Q := by
  refine EvX.aload_n (v := (2, 0)) (i := 1) (show decode code 1342 = .ok (.aload_n 1, 1) by decide +kernel) rfl (Or.inl rfl) ?_
  show EvX (some (L, xs)) 41 (M_La nm) 0 0 1343 (LSt i) [(2, 0)] kdF m Q
  refine La_arg (pc := 1343) (j := 1) (p2_q := 1348) rfl (by decide +kernel) (by decide) hi_q hL ?_
  refine EvX.callV (M := M_La nm) (pc := 1348) (c := 7) (mc := 0) (ms := 0) (a := 0) (as := [(0, xs (i + 1).toNat)]) (st := []) (show decode code 1348 = .ok (.invokevirtual 154, 3) by decide +kernel) l_Law_154 k_Ap_parts v_Ap_parts a_Ap_parts (by decide) (Nat.le_of_ble_eq_true rfl) rfl ⟨by decide, rfl⟩ (pr_parts h) (fun r kd1 m1_q w => ?_)
  obtain ⟨r1_q, rfl, hk, w⟩ := w
  subst kd1
  show EvX (some (L, xs)) 41 (M_La nm) 0 0 1351 (LSt i) [(0, r1_q)] kdF m1_q Q
  refine EvX.aload_n (v := (2, 78)) (i := 2) (show decode code 1351 = .ok (.aload_n 2, 1) by decide +kernel) rfl (Or.inl rfl) ?_
  show EvX (some (L, xs)) 41 (M_La nm) 0 0 1352 (LSt i) [(2, 78), (0, r1_q)] kdF m1_q Q
  refine La_arg (pc := 1352) (j := 1) (p2_q := 1357) rfl (by decide +kernel) (by decide) hi_q hL ?_
  refine EvX.callV (M := M_La nm) (pc := 1357) (c := 8) (mc := 0) (ms := 0) (a := 78) (as := [(0, xs (i + 1).toNat)]) (st := [(0, r1_q)]) (show decode code 1357 = .ok (.invokevirtual 157, 3) by decide +kernel) l_Law_157 k_Mo_parts v_Mo_parts a_Mo_parts (by decide) (Nat.le_of_ble_eq_true rfl) rfl ⟨by decide, rfl⟩ w (fun r kd1 m2_q w2_q => ?_)
  obtain ⟨r2, rfl, hk, e, st2_q, J2⟩ := w2_q
  subst kd1
  show EvX (some (L, xs)) 41 (M_La nm) 0 0 1360 (LSt i) [(0, r2), (0, r1_q)] kdF m2_q Q
  refine EvX.icmp_eq (off := 232) (tgt := 1592) (show decode code 1360 = .ok (.if_icmp .eq 232, 3) by decide +kernel) (by decide) (fun _ => K m2_q st2_q J2) (fun z => absurd e z)
theorem La_sign (h : JI kdF m st0) (hi_q : 0 ≤ i ∧ i + 6 ≤ L) (hL : L ≤ 3072) (hx : ∀ n, zin32 (xs n)) (K : ∀ m2_q st2_q, JI kdF m2_q st2_q → EvX (some (L, xs)) 41 (M_La nm) 0 0 1592 (LSt i) [] kdF m2_q Q) : EvX (some (L, xs)) 41 (M_La nm) 0 0 1365 (LSt i) [] kdF m Q := by
  refine EvX.aload_n (v := (2, 0)) (i := 1) (show decode code 1365 = .ok (.aload_n 1, 1) by decide +kernel) rfl (Or.inl rfl) ?_
  show EvX (some (L, xs)) 41 (M_La nm) 0 0 1366 (LSt i) [(2, 0)] kdF m Q
  refine La_arg (pc := 1366) (j := 1) (p2_q := 1371) rfl (by decide +kernel) (by decide) hi_q hL ?_
  refine La_arg (pc := 1371) (j := 2) (p2_q := 1376) rfl (by decide +kernel) (by decide) hi_q hL ?_
  refine EvX.callV (M := M_La nm) (pc := 1376) (c := 7) (mc := 0) (ms := 0) (a := 0) (as := [(0, xs (i + 1).toNat), (0, xs (i + 2).toNat)]) (st := []) (show decode code 1376 = .ok (.invokevirtual 158, 3) by decide +kernel) l_Law_158 k_Ap_sign v_Ap_sign a_Ap_sign (by decide) (Nat.le_of_ble_eq_true rfl) rfl ⟨by decide, rfl⟩ (pr_sign h) (fun r kd1 m1_q w => ?_)
  obtain ⟨r1_q, rfl, hk, w⟩ := w
  subst kd1
  show EvX (some (L, xs)) 41 (M_La nm) 0 0 1379 (LSt i) [(0, r1_q)] kdF m1_q Q
  refine EvX.aload_n (v := (2, 78)) (i := 2) (show decode code 1379 = .ok (.aload_n 2, 1) by decide +kernel) rfl (Or.inl rfl) ?_
  show EvX (some (L, xs)) 41 (M_La nm) 0 0 1380 (LSt i) [(2, 78), (0, r1_q)] kdF m1_q Q
  refine La_arg (pc := 1380) (j := 1) (p2_q := 1385) rfl (by decide +kernel) (by decide) hi_q hL ?_
  refine La_arg (pc := 1385) (j := 2) (p2_q := 1390) rfl (by decide +kernel) (by decide) hi_q hL ?_
  refine EvX.callV (M := M_La nm) (pc := 1390) (c := 8) (mc := 0) (ms := 0) (a := 78) (as := [(0, xs (i + 1).toNat), (0, xs (i + 2).toNat)]) (st := [(0, r1_q)]) (show decode code 1390 = .ok (.invokevirtual 161, 3) by decide +kernel) l_Law_161 k_Mo_sign_2 v_Mo_sign_2 a_Mo_sign_2 (by decide) (Nat.le_of_ble_eq_true rfl) rfl ⟨by decide, rfl⟩ w (fun r kd1 m2_q w2_q => ?_)
  obtain ⟨r2, rfl, hk, e, st2_q, J2⟩ := w2_q
  subst kd1
  show EvX (some (L, xs)) 41 (M_La nm) 0 0 1393 (LSt i) [(0, r2), (0, r1_q)] kdF m2_q Q
  refine EvX.icmp_eq (off := 199) (tgt := 1592) (show decode code 1393 = .ok (.if_icmp .eq 199, 3) by decide +kernel) (by decide) (fun _ => K m2_q st2_q J2) (fun z => absurd e z)
theorem La_bias (h : JI kdF m st0) (hi_q : 0 ≤ i ∧ i + 6 ≤ L) (hL : L ≤ 3072) (hx : ∀ n, zin32 (xs n)) (K : ∀ m2_q st2_q, JI kdF m2_q st2_q → EvX (some (L, xs)) 41 (M_La nm) 0 0 1592 (LSt i) [] kdF m2_q Q) : EvX (some (L, xs)) 41 (M_La nm) 0 0 1398 (LSt i) [] kdF m Q := by
  refine EvX.aload_n (v := (2, 0)) (i := 1) (show decode code 1398 = .ok (.aload_n 1, 1) by decide +kernel) rfl (Or.inl rfl) ?_
  show EvX (some (L, xs)) 41 (M_La nm) 0 0 1399 (LSt i) [(2, 0)] kdF m Q
  refine La_arg (pc := 1399) (j := 1) (p2_q := 1404) rfl (by decide +kernel) (by decide) hi_q hL ?_
  refine EvX.callV (M := M_La nm) (pc := 1404) (c := 7) (mc := 0) (ms := 0) (a := 0) (as := [(0, xs (i + 1).toNat)]) (st := []) (show decode code 1404 = .ok (.invokevirtual 162, 3) by decide +kernel) l_Law_162 k_Ap_bias v_Ap_bias a_Ap_bias (by decide) (Nat.le_of_ble_eq_true rfl) rfl ⟨by decide, rfl⟩ (pr_bias h) (fun r kd1 m1_q w => ?_)
  obtain ⟨r1_q, rfl, hk, w⟩ := w
  subst kd1
  show EvX (some (L, xs)) 41 (M_La nm) 0 0 1407 (LSt i) [(0, r1_q)] kdF m1_q Q
  refine EvX.aload_n (v := (2, 78)) (i := 2) (show decode code 1407 = .ok (.aload_n 2, 1) by decide +kernel) rfl (Or.inl rfl) ?_
  show EvX (some (L, xs)) 41 (M_La nm) 0 0 1408 (LSt i) [(2, 78), (0, r1_q)] kdF m1_q Q
  refine La_arg (pc := 1408) (j := 1) (p2_q := 1413) rfl (by decide +kernel) (by decide) hi_q hL ?_
  refine EvX.callV (M := M_La nm) (pc := 1413) (c := 8) (mc := 0) (ms := 0) (a := 78) (as := [(0, xs (i + 1).toNat)]) (st := [(0, r1_q)]) (show decode code 1413 = .ok (.invokevirtual 165, 3) by decide +kernel) l_Law_165 k_Mo_bias v_Mo_bias a_Mo_bias (by decide) (Nat.le_of_ble_eq_true rfl) rfl ⟨by decide, rfl⟩ w (fun r kd1 m2_q w2_q => ?_)
  obtain ⟨r2, rfl, hk, e, st2_q, J2⟩ := w2_q
  subst kd1
  show EvX (some (L, xs)) 41 (M_La nm) 0 0 1416 (LSt i) [(0, r2), (0, r1_q)] kdF m2_q Q
  refine EvX.icmp_eq (off := 176) (tgt := 1592) (show decode code 1416 = .ok (.if_icmp .eq 176, 3) by decide +kernel) (by decide) (fun _ => K m2_q st2_q J2) (fun z => absurd e z)
theorem La_twice (h : JI kdF m st0) (hi_q : 0 ≤ i ∧ i + 6 ≤ L) (hL : L ≤ 3072) (hx : ∀ n, zin32 (xs n)) (K : ∀ m2_q st2_q, JI kdF m2_q st2_q → EvX (some (L, xs)) 41 (M_La nm) 0 0 1592 (LSt i) [] kdF m2_q Q) : EvX (some (L, xs)) 41 (M_La nm) 0 0 1421 (LSt i) [] kdF m Q := by
  refine EvX.aload_n (v := (2, 0)) (i := 1) (show decode code 1421 = .ok (.aload_n 1, 1) by decide +kernel) rfl (Or.inl rfl) ?_
  show EvX (some (L, xs)) 41 (M_La nm) 0 0 1422 (LSt i) [(2, 0)] kdF m Q
  refine La_arg (pc := 1422) (j := 1) (p2_q := 1427) rfl (by decide +kernel) (by decide) hi_q hL ?_
  refine EvX.callV (M := M_La nm) (pc := 1427) (c := 7) (mc := 0) (ms := 0) (a := 0) (as := [(0, xs (i + 1).toNat)]) (st := []) (show decode code 1427 = .ok (.invokevirtual 166, 3) by decide +kernel) l_Law_166 k_Ap_twice v_Ap_twice a_Ap_twice (by decide) (Nat.le_of_ble_eq_true rfl) rfl ⟨by decide, rfl⟩ (pr_twice h) (fun r kd1 m1_q w => ?_)
  obtain ⟨r1_q, rfl, hk, w⟩ := w
  subst kd1
  show EvX (some (L, xs)) 41 (M_La nm) 0 0 1430 (LSt i) [(0, r1_q)] kdF m1_q Q
  refine EvX.aload_n (v := (2, 78)) (i := 2) (show decode code 1430 = .ok (.aload_n 2, 1) by decide +kernel) rfl (Or.inl rfl) ?_
  show EvX (some (L, xs)) 41 (M_La nm) 0 0 1431 (LSt i) [(2, 78), (0, r1_q)] kdF m1_q Q
  refine La_arg (pc := 1431) (j := 1) (p2_q := 1436) rfl (by decide +kernel) (by decide) hi_q hL ?_
  refine EvX.callV (M := M_La nm) (pc := 1436) (c := 8) (mc := 0) (ms := 0) (a := 78) (as := [(0, xs (i + 1).toNat)]) (st := [(0, r1_q)]) (show decode code 1436 = .ok (.invokevirtual 169, 3) by decide +kernel) l_Law_169 k_Mo_twice v_Mo_twice a_Mo_twice (by decide) (Nat.le_of_ble_eq_true rfl) rfl ⟨by decide, rfl⟩ w (fun r kd1 m2_q w2_q => ?_)
  obtain ⟨r2, rfl, hk, e, st2_q, J2⟩ := w2_q
  subst kd1
  show EvX (some (L, xs)) 41 (M_La nm) 0 0 1439 (LSt i) [(0, r2), (0, r1_q)] kdF m2_q Q
  refine EvX.icmp_eq (off := 153) (tgt := 1592) (show decode code 1439 = .ok (.if_icmp .eq 153, 3) by decide +kernel) (by decide) (fun _ => K m2_q st2_q J2) (fun z => absurd e z)
theorem La_product (h : JI kdF m st0) (hi_q : 0 ≤ i ∧ i + 6 ≤ L) (hL : L ≤ 3072) (hx : ∀ n, zin32 (xs n)) (K : ∀ m2_q st2_q, JI kdF m2_q st2_q → EvX (some (L, xs)) 41 (M_La nm) 0 0 1592 (LSt i) [] kdF m2_q Q) : EvX (some (L, xs)) 41 (M_La nm) 0 0 1444 (LSt i) [] kdF m Q := by
  refine EvX.aload_n (v := (2, 0)) (i := 1) (show decode code 1444 = .ok (.aload_n 1, 1) by decide +kernel) rfl (Or.inl rfl) ?_
  show EvX (some (L, xs)) 41 (M_La nm) 0 0 1445 (LSt i) [(2, 0)] kdF m Q
  refine EvX.callV (M := M_La nm) (pc := 1445) (c := 7) (mc := 0) (ms := 0) (a := 0) (as := []) (st := []) (show decode code 1445 = .ok (.invokevirtual 170, 3) by decide +kernel) l_Law_170 k_Ap_product v_Ap_product a_Ap_product (by decide) (Nat.le_of_ble_eq_true rfl) rfl ⟨by decide, rfl⟩ (pr_product h) (fun r kd1 m1_q w => ?_)
  obtain ⟨r1_q, rfl, hk, w⟩ := w
  subst kd1
  show EvX (some (L, xs)) 41 (M_La nm) 0 0 1448 (LSt i) [(0, r1_q)] kdF m1_q Q
  refine EvX.aload_n (v := (2, 78)) (i := 2) (show decode code 1448 = .ok (.aload_n 2, 1) by decide +kernel) rfl (Or.inl rfl) ?_
  show EvX (some (L, xs)) 41 (M_La nm) 0 0 1449 (LSt i) [(2, 78), (0, r1_q)] kdF m1_q Q
  refine EvX.callV (M := M_La nm) (pc := 1449) (c := 8) (mc := 0) (ms := 0) (a := 78) (as := []) (st := [(0, r1_q)]) (show decode code 1449 = .ok (.invokevirtual 173, 3) by decide +kernel) l_Law_173 k_Mo_product v_Mo_product a_Mo_product (by decide) (Nat.le_of_ble_eq_true rfl) rfl ⟨by decide, rfl⟩ w (fun r kd1 m2_q w2_q => ?_)
  obtain ⟨r2, rfl, hk, e, st2_q, J2⟩ := w2_q
  subst kd1
  show EvX (some (L, xs)) 41 (M_La nm) 0 0 1452 (LSt i) [(0, r2), (0, r1_q)] kdF m2_q Q
  refine EvX.icmp_eq (off := 140) (tgt := 1592) (show decode code 1452 = .ok (.if_icmp .eq 140, 3) by decide +kernel) (by decide) (fun _ => K m2_q st2_q J2) (fun z => absurd e z)
theorem La_boxed (h : JI kdF m st0) (hi_q : 0 ≤ i ∧ i + 6 ≤ L) (hL : L ≤ 3072) (hx : ∀ n, zin32 (xs n)) (K : ∀ m2_q st2_q, JI kdF m2_q st2_q → EvX (some (L, xs)) 41 (M_La nm) 0 0 1592 (LSt i) [] kdF m2_q Q) : EvX (some (L, xs)) 41 (M_La nm) 0 0 1457 (LSt i) [] kdF m Q := by
  refine EvX.aload_n (v := (2, 0)) (i := 1) (show decode code 1457 = .ok (.aload_n 1, 1) by decide +kernel) rfl (Or.inl rfl) ?_
  show EvX (some (L, xs)) 41 (M_La nm) 0 0 1458 (LSt i) [(2, 0)] kdF m Q
  refine La_arg (pc := 1458) (j := 1) (p2_q := 1463) rfl (by decide +kernel) (by decide) hi_q hL ?_
  refine EvX.callV (M := M_La nm) (pc := 1463) (c := 7) (mc := 0) (ms := 0) (a := 0) (as := [(0, xs (i + 1).toNat)]) (st := []) (show decode code 1463 = .ok (.invokevirtual 174, 3) by decide +kernel) l_Law_174 k_Ap_boxed v_Ap_boxed a_Ap_boxed (by decide) (Nat.le_of_ble_eq_true rfl) rfl ⟨by decide, rfl⟩ (pr_boxed h) (fun r kd1 m1_q w => ?_)
  obtain ⟨r1_q, rfl, hk, w⟩ := w
  subst kd1
  show EvX (some (L, xs)) 41 (M_La nm) 0 0 1466 (LSt i) [(0, r1_q)] kdF m1_q Q
  refine EvX.aload_n (v := (2, 78)) (i := 2) (show decode code 1466 = .ok (.aload_n 2, 1) by decide +kernel) rfl (Or.inl rfl) ?_
  show EvX (some (L, xs)) 41 (M_La nm) 0 0 1467 (LSt i) [(2, 78), (0, r1_q)] kdF m1_q Q
  refine La_arg (pc := 1467) (j := 1) (p2_q := 1472) rfl (by decide +kernel) (by decide) hi_q hL ?_
  refine EvX.callV (M := M_La nm) (pc := 1472) (c := 8) (mc := 0) (ms := 0) (a := 78) (as := [(0, xs (i + 1).toNat)]) (st := [(0, r1_q)]) (show decode code 1472 = .ok (.invokevirtual 177, 3) by decide +kernel) l_Law_177 k_Mo_boxed v_Mo_boxed a_Mo_boxed (by decide) (Nat.le_of_ble_eq_true rfl) rfl ⟨by decide, rfl⟩ w (fun r kd1 m2_q w2_q => ?_)
  obtain ⟨r2, rfl, hk, e, st2_q, J2⟩ := w2_q
  subst kd1
  show EvX (some (L, xs)) 41 (M_La nm) 0 0 1475 (LSt i) [(0, r2), (0, r1_q)] kdF m2_q Q
  refine EvX.icmp_eq (off := 117) (tgt := 1592) (show decode code 1475 = .ok (.if_icmp .eq 117, 3) by decide +kernel) (by decide) (fun _ => K m2_q st2_q J2) (fun z => absurd e z)
theorem La_marginal (h : JI kdF m st0) (hi_q : 0 ≤ i ∧ i + 6 ≤ L) (hL : L ≤ 3072) (hx : ∀ n, zin32 (xs n)) (K : ∀ m2_q st2_q, JI kdF m2_q st2_q → EvX (some (L, xs)) 41 (M_La nm) 0 0 1592 (LSt i) [] kdF m2_q Q) : EvX (some (L, xs)) 41 (M_La nm) 0 0 1480 (LSt i) [] kdF m Q := by
  refine EvX.aload_n (v := (2, 0)) (i := 1) (show decode code 1480 = .ok (.aload_n 1, 1) by decide +kernel) rfl (Or.inl rfl) ?_
  show EvX (some (L, xs)) 41 (M_La nm) 0 0 1481 (LSt i) [(2, 0)] kdF m Q
  refine La_arg (pc := 1481) (j := 1) (p2_q := 1486) rfl (by decide +kernel) (by decide) hi_q hL ?_
  refine La_arg (pc := 1486) (j := 2) (p2_q := 1491) rfl (by decide +kernel) (by decide) hi_q hL ?_
  refine La_arg (pc := 1491) (j := 3) (p2_q := 1496) rfl (by decide +kernel) (by decide) hi_q hL ?_
  refine La_arg (pc := 1496) (j := 4) (p2_q := 1501) rfl (by decide +kernel) (by decide) hi_q hL ?_
  refine EvX.callV (M := M_La nm) (pc := 1501) (c := 7) (mc := 0) (ms := 0) (a := 0) (as := [(0, xs (i + 1).toNat), (0, xs (i + 2).toNat), (0, xs (i + 3).toNat), (0, xs (i + 4).toNat)]) (st := []) (show decode code 1501 = .ok (.invokevirtual 178, 3) by decide +kernel) l_Law_178 k_Ap_marginal v_Ap_marginal a_Ap_marginal (by decide) (Nat.le_of_ble_eq_true rfl) rfl ⟨by decide, rfl⟩ (pr_marginal h) (fun r kd1 m1_q w => ?_)
  obtain ⟨r1_q, rfl, hk, w⟩ := w
  subst kd1
  show EvX (some (L, xs)) 41 (M_La nm) 0 0 1504 (LSt i) [(0, r1_q)] kdF m1_q Q
  refine EvX.aload_n (v := (2, 78)) (i := 2) (show decode code 1504 = .ok (.aload_n 2, 1) by decide +kernel) rfl (Or.inl rfl) ?_
  show EvX (some (L, xs)) 41 (M_La nm) 0 0 1505 (LSt i) [(2, 78), (0, r1_q)] kdF m1_q Q
  refine La_arg (pc := 1505) (j := 1) (p2_q := 1510) rfl (by decide +kernel) (by decide) hi_q hL ?_
  refine La_arg (pc := 1510) (j := 2) (p2_q := 1515) rfl (by decide +kernel) (by decide) hi_q hL ?_
  refine La_arg (pc := 1515) (j := 3) (p2_q := 1520) rfl (by decide +kernel) (by decide) hi_q hL ?_
  refine La_arg (pc := 1520) (j := 4) (p2_q := 1525) rfl (by decide +kernel) (by decide) hi_q hL ?_
  refine EvX.callV (M := M_La nm) (pc := 1525) (c := 8) (mc := 0) (ms := 0) (a := 78) (as := [(0, xs (i + 1).toNat), (0, xs (i + 2).toNat), (0, xs (i + 3).toNat), (0, xs (i + 4).toNat)]) (st := [(0, r1_q)]) (show decode code 1525 = .ok (.invokevirtual 181, 3) by decide +kernel) l_Law_181 k_Mo_marginal v_Mo_marginal a_Mo_marginal (by decide) (Nat.le_of_ble_eq_true rfl) rfl ⟨by decide, rfl⟩ w (fun r kd1 m2_q w2_q => ?_)
  obtain ⟨r2, rfl, hk, e, st2_q, J2⟩ := w2_q
  subst kd1
  show EvX (some (L, xs)) 41 (M_La nm) 0 0 1528 (LSt i) [(0, r2), (0, r1_q)] kdF m2_q Q
  refine EvX.icmp_eq (off := 64) (tgt := 1592) (show decode code 1528 = .ok (.if_icmp .eq 64, 3) by decide +kernel) (by decide) (fun _ => K m2_q st2_q J2) (fun z => absurd e z)
theorem La_symmetries (h : JI kdF m st0) (hi_q : 0 ≤ i ∧ i + 6 ≤ L) (hL : L ≤ 3072) (hx : ∀ n, zin32 (xs n)) (K : ∀ m2_q st2_q, JI kdF m2_q st2_q → EvX (some (L, xs)) 41 (M_La nm) 0 0 1592 (LSt i) [] kdF m2_q Q) : EvX (some (L, xs)) 41 (M_La nm) 0 0 1533 (LSt i) [] kdF m Q := by
  refine EvX.aload_n (v := (2, 0)) (i := 1) (show decode code 1533 = .ok (.aload_n 1, 1) by decide +kernel) rfl (Or.inl rfl) ?_
  show EvX (some (L, xs)) 41 (M_La nm) 0 0 1534 (LSt i) [(2, 0)] kdF m Q
  refine EvX.callV (M := M_La nm) (pc := 1534) (c := 7) (mc := 0) (ms := 0) (a := 0) (as := []) (st := []) (show decode code 1534 = .ok (.invokevirtual 182, 3) by decide +kernel) l_Law_182 k_Ap_symmetries v_Ap_symmetries a_Ap_symmetries (by decide) (Nat.le_of_ble_eq_true rfl) rfl ⟨by decide, rfl⟩ (pr_symmetries h) (fun r kd1 m1_q w => ?_)
  obtain ⟨r1_q, rfl, hk, w⟩ := w
  subst kd1
  show EvX (some (L, xs)) 41 (M_La nm) 0 0 1537 (LSt i) [(0, r1_q)] kdF m1_q Q
  refine EvX.aload_n (v := (2, 78)) (i := 2) (show decode code 1537 = .ok (.aload_n 2, 1) by decide +kernel) rfl (Or.inl rfl) ?_
  show EvX (some (L, xs)) 41 (M_La nm) 0 0 1538 (LSt i) [(2, 78), (0, r1_q)] kdF m1_q Q
  refine EvX.callV (M := M_La nm) (pc := 1538) (c := 8) (mc := 0) (ms := 0) (a := 78) (as := []) (st := [(0, r1_q)]) (show decode code 1538 = .ok (.invokevirtual 185, 3) by decide +kernel) l_Law_185 k_Mo_symmetries v_Mo_symmetries a_Mo_symmetries (by decide) (Nat.le_of_ble_eq_true rfl) rfl ⟨by decide, rfl⟩ w (fun r kd1 m2_q w2_q => ?_)
  obtain ⟨r2, rfl, hk, e, st2_q, J2⟩ := w2_q
  subst kd1
  show EvX (some (L, xs)) 41 (M_La nm) 0 0 1541 (LSt i) [(0, r2), (0, r1_q)] kdF m2_q Q
  refine EvX.icmp_eq (off := 51) (tgt := 1592) (show decode code 1541 = .ok (.if_icmp .eq 51, 3) by decide +kernel) (by decide) (fun _ => K m2_q st2_q J2) (fun z => absurd e z)
theorem La_letter (h : JI kdF m st0) (hi_q : 0 ≤ i ∧ i + 6 ≤ L) (hL : L ≤ 3072) (hx : ∀ n, zin32 (xs n)) (K : ∀ m2_q st2_q, JI kdF m2_q st2_q → EvX (some (L, xs)) 41 (M_La nm) 0 0 1592 (LSt i) [] kdF m2_q Q) : EvX (some (L, xs)) 41 (M_La nm) 0 0 1546 (LSt i) [] kdF m Q := by
  refine EvX.aload_n (v := (2, 0)) (i := 1) (show decode code 1546 = .ok (.aload_n 1, 1) by decide +kernel) rfl (Or.inl rfl) ?_
  show EvX (some (L, xs)) 41 (M_La nm) 0 0 1547 (LSt i) [(2, 0)] kdF m Q
  refine La_arg (pc := 1547) (j := 1) (p2_q := 1552) rfl (by decide +kernel) (by decide) hi_q hL ?_
  refine EvX.callV (M := M_La nm) (pc := 1552) (c := 7) (mc := 0) (ms := 0) (a := 0) (as := [(0, xs (i + 1).toNat)]) (st := []) (show decode code 1552 = .ok (.invokevirtual 186, 3) by decide +kernel) l_Law_186 k_Ap_letter v_Ap_letter a_Ap_letter (by decide) (Nat.le_of_ble_eq_true rfl) rfl ⟨by decide, rfl⟩ (pr_letter h) (fun r kd1 m1_q w => ?_)
  obtain ⟨r1_q, rfl, hk, w⟩ := w
  subst kd1
  show EvX (some (L, xs)) 41 (M_La nm) 0 0 1555 (LSt i) [(0, r1_q)] kdF m1_q Q
  refine EvX.aload_n (v := (2, 78)) (i := 2) (show decode code 1555 = .ok (.aload_n 2, 1) by decide +kernel) rfl (Or.inl rfl) ?_
  show EvX (some (L, xs)) 41 (M_La nm) 0 0 1556 (LSt i) [(2, 78), (0, r1_q)] kdF m1_q Q
  refine La_arg (pc := 1556) (j := 1) (p2_q := 1561) rfl (by decide +kernel) (by decide) hi_q hL ?_
  refine EvX.callV (M := M_La nm) (pc := 1561) (c := 8) (mc := 0) (ms := 0) (a := 78) (as := [(0, xs (i + 1).toNat)]) (st := [(0, r1_q)]) (show decode code 1561 = .ok (.invokevirtual 189, 3) by decide +kernel) l_Law_189 k_Mo_letter v_Mo_letter a_Mo_letter (by decide) (Nat.le_of_ble_eq_true rfl) rfl ⟨by decide, rfl⟩ w (fun r kd1 m2_q w2_q => ?_)
  obtain ⟨r2, rfl, hk, e, st2_q, J2⟩ := w2_q
  subst kd1
  show EvX (some (L, xs)) 41 (M_La nm) 0 0 1564 (LSt i) [(0, r2), (0, r1_q)] kdF m2_q Q
  refine EvX.icmp_eq (off := 28) (tgt := 1592) (show decode code 1564 = .ok (.if_icmp .eq 28, 3) by decide +kernel) (by decide) (fun _ => K m2_q st2_q J2) (fun z => absurd e z)
theorem La_count (h : JI kdF m st0) (hi_q : 0 ≤ i ∧ i + 6 ≤ L) (hL : L ≤ 3072) (hx : ∀ n, zin32 (xs n)) (K : ∀ m2_q st2_q, JI kdF m2_q st2_q → EvX (some (L, xs)) 41 (M_La nm) 0 0 1592 (LSt i) [] kdF m2_q Q) : EvX (some (L, xs)) 41 (M_La nm) 0 0 1569 (LSt i) [] kdF m Q := by
  refine EvX.aload_n (v := (2, 0)) (i := 1) (show decode code 1569 = .ok (.aload_n 1, 1) by decide +kernel) rfl (Or.inl rfl) ?_
  show EvX (some (L, xs)) 41 (M_La nm) 0 0 1570 (LSt i) [(2, 0)] kdF m Q
  refine La_arg (pc := 1570) (j := 1) (p2_q := 1575) rfl (by decide +kernel) (by decide) hi_q hL ?_
  refine EvX.callV (M := M_La nm) (pc := 1575) (c := 7) (mc := 0) (ms := 0) (a := 0) (as := [(0, xs (i + 1).toNat)]) (st := []) (show decode code 1575 = .ok (.invokevirtual 190, 3) by decide +kernel) l_Law_190 k_Ap_count v_Ap_count a_Ap_count (by decide) (Nat.le_of_ble_eq_true rfl) rfl ⟨by decide, rfl⟩ (pr_count h) (fun r kd1 m1_q w => ?_)
  obtain ⟨r1_q, rfl, hk, w⟩ := w
  subst kd1
  show EvX (some (L, xs)) 41 (M_La nm) 0 0 1578 (LSt i) [(0, r1_q)] kdF m1_q Q
  refine EvX.aload_n (v := (2, 78)) (i := 2) (show decode code 1578 = .ok (.aload_n 2, 1) by decide +kernel) rfl (Or.inl rfl) ?_
  show EvX (some (L, xs)) 41 (M_La nm) 0 0 1579 (LSt i) [(2, 78), (0, r1_q)] kdF m1_q Q
  refine La_arg (pc := 1579) (j := 1) (p2_q := 1584) rfl (by decide +kernel) (by decide) hi_q hL ?_
  refine EvX.callV (M := M_La nm) (pc := 1584) (c := 8) (mc := 0) (ms := 0) (a := 78) (as := [(0, xs (i + 1).toNat)]) (st := [(0, r1_q)]) (show decode code 1584 = .ok (.invokevirtual 193, 3) by decide +kernel) l_Law_193 k_Mo_count v_Mo_count a_Mo_count (by decide) (Nat.le_of_ble_eq_true rfl) rfl ⟨by decide, rfl⟩ w (fun r kd1 m2_q w2_q => ?_)
  obtain ⟨r2, rfl, hk, e, st2_q, J2⟩ := w2_q
  subst kd1
  show EvX (some (L, xs)) 41 (M_La nm) 0 0 1587 (LSt i) [(0, r2), (0, r1_q)] kdF m2_q Q
  refine EvX.icmp_eq (off := 5) (tgt := 1592) (show decode code 1587 = .ok (.if_icmp .eq 5, 3) by decide +kernel) (by decide) (fun _ => K m2_q st2_q J2) (fun z => absurd e z)
end LAW
