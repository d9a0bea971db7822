/-! TREES of ApartGamesModel, 5: by program -/
set_option maxRecDepth 20000 in
set_option maxHeartbeats 1000000 in
theorem T_Mo_writesFours_0 {d : Nat} {kd : ZK} {m : ZM} {q : ZM → Prop} {v0 v1 : Int} (h : (Ev (d + 1) M_Mo_writesFours 0 0 2 [(2, v0), (0, v1), (0, 0), zJ, zJ] [] kd m (zqV kd q))) : Ev (d + 1) M_Mo_writesFours 0 0 0 [(2, v0), (0, v1), zJ, zJ, zJ] [] kd m (zqV kd q) := by
  refine EvX.blk (pc' := 2) [(.iconst 0, 0, 0), (.istore_n 2, 0, 0)] (by decide +kernel) trivial ?_
  show Ev (d + 1) M_Mo_writesFours 0 0 2 [(2, v0), (0, v1), (0, 0), zJ, zJ] [] kd m (zqV kd q)
  exact h
theorem S_Mo_writesFours {d : Nat} {kd : ZK} {m : ZM} {q : ZM → Prop} {v0 v1 : Int} (h : (Ev (d + 1) M_Mo_writesFours 0 0 2 [(2, v0), (0, v1), (0, 0), zJ, zJ] [] kd m (zqV kd q))) : CtV (d + 1) M_Mo_writesFours [(2, v0), (0, v1)] kd m q :=
  Ct.start k_Mo_writesFours (Nat.le_of_ble_eq_true rfl) ⟨0, Or.inl ⟨rfl, rfl⟩⟩ (T_Mo_writesFours_0 h)
set_option maxRecDepth 20000 in
set_option maxHeartbeats 1000000 in
theorem T_Mo_writesFours_2 {d : Nat} {kd : ZK} {m : ZM} {q : ZM → Prop} {v0 v1 v2 : Int} (h : ((400 ≤ v2 → q m) ∧ (¬ 400 ≤ v2 → (zobj kd v0 8 ∧ ((v1 = 0 → (Ev (d + 1) M_Mo_writesFours 0 0 25 [(2, v0), (0, v1), (0, v2), zJ, zJ] [(0, 29), (2, m v0 0)] kd m (zqV kd q))) ∧ (¬ v1 = 0 → (Ev (d + 1) M_Mo_writesFours 0 0 25 [(2, v0), (0, v1), (0, v2), zJ, zJ] [(0, 429), (2, m v0 0)] kd m (zqV kd q)))))))) : Ev (d + 1) M_Mo_writesFours 0 0 2 [(2, v0), (0, v1), (0, v2), zJ, zJ] [] kd m (zqV kd q) := by
  refine EvX.blk (pc' := 6) [(.iload_n 2, 0, 0), (.sipush 400, 0, 0)] (by decide +kernel) trivial ?_
  show Ev (d + 1) M_Mo_writesFours 0 0 6 [(2, v0), (0, v1), (0, v2), zJ, zJ] [(0, 400), (0, v2)] kd m (zqV kd q)
  refine EvX.icmp_ge (off := 100) (tgt := 106) (by decide +kernel) (by decide) (fun hc => ?_) (fun hc => ?_)
  · have h := h.1 hc
    exact EvX.ret (r := zJ) (by decide +kernel) rfl ⟨rfl, rfl, h⟩
  · have h := h.2 hc
    obtain ⟨o1, h⟩ := h
    refine EvX.blk (pc' := 14) [(.aload_n 0, 0, 0), (.getfield 9, 8, 0), (.iload_n 1, 0, 0)] (by decide +kernel) ⟨g_Mo_9, trivial⟩ ⟨o1, ?_⟩
    show Ev (d + 1) M_Mo_writesFours 0 0 14 [(2, v0), (0, v1), (0, v2), zJ, zJ] [(0, v1), (2, m v0 0)] kd m (zqV kd q)
    refine EvX.if_eq (off := 9) (tgt := 23) (by decide +kernel) (by decide) (fun hc => ?_) (fun hc => ?_)
    · have h := h.1 hc
      refine EvX.blk (pc' := 25) [(.bipush 29, 0, 0)] (by decide +kernel) trivial ?_
      show Ev (d + 1) M_Mo_writesFours 0 0 25 [(2, v0), (0, v1), (0, v2), zJ, zJ] [(0, 29), (2, m v0 0)] kd m (zqV kd q)
      exact h
    · have h := h.2 hc
      refine EvX.blk (pc' := 20) [(.sipush 429, 0, 0)] (by decide +kernel) trivial ?_
      show Ev (d + 1) M_Mo_writesFours 0 0 20 [(2, v0), (0, v1), (0, v2), zJ, zJ] [(0, 429), (2, m v0 0)] kd m (zqV kd q)
      refine EvX.goto (off := 5) (tgt := 25) (by decide +kernel) (by decide) ?_
      exact h
set_option maxRecDepth 20000 in
set_option maxHeartbeats 1000000 in
theorem T_Mo_writesFours_25 {d : Nat} {kd : ZK} {m : ZM} {q : ZM → Prop} {v0 v1 v2 s0 s1 : Int} (h : (zIn kd s0 0 (iw (s1 + v2)) ∧ (((m s0 (iw (s1 + v2))) ≠ 0 → ((v1 = 0 → (Ev (d + 1) M_Mo_writesFours 0 0 56 [(2, v0), (0, v1), (0, v2), (0, m s0 (iw (s1 + v2))), (0, iw (Int.tdiv v2 16))] [(3, 9), (2, v0)] kd m (zqV kd q))) ∧ (¬ v1 = 0 → (Ev (d + 1) M_Mo_writesFours 0 0 56 [(2, v0), (0, v1), (0, v2), (0, m s0 (iw (s1 + v2))), (0, iw (Int.tdiv v2 16))] [(3, 10), (2, v0)] kd m (zqV kd q))))) ∧ (¬ (m s0 (iw (s1 + v2))) ≠ 0 → (Ev (d + 1) M_Mo_writesFours 0 0 2 [(2, v0), (0, v1), (0, iw (v2 + 1)), zJ, zJ] [] kd m (zqV kd q)))))) : Ev (d + 1) M_Mo_writesFours 0 0 25 [(2, v0), (0, v1), (0, v2), zJ, zJ] [(0, s1), (2, s0)] kd m (zqV kd q) := by
  obtain ⟨o1, h⟩ := h
  refine EvX.blk (pc' := 30) [(.iload_n 2, 0, 0), (.iadd, 0, 0), (.iaload, 0, 0), (.istore_n 3, 0, 0), (.iload_n 3, 0, 0)] (by decide +kernel) trivial ⟨o1, ?_⟩
  show Ev (d + 1) M_Mo_writesFours 0 0 30 [(2, v0), (0, v1), (0, v2), (0, m s0 (iw (s1 + v2))), zJ] [(0, m s0 (iw (s1 + v2)))] kd m (zqV kd q)
  refine EvX.if_ne (off := 6) (tgt := 36) (by decide +kernel) (by decide) (fun hc => ?_) (fun hc => ?_)
  · have h := h.1 hc
    refine EvX.blk (pc' := 44) [(.iload_n 2, 0, 0), (.bipush 16, 0, 0), (.idiv, 0, 0), (.istore 4, 0, 0), (.aload_n 0, 0, 0), (.iload_n 1, 0, 0)] (by decide +kernel) trivial ⟨by decide, ?_⟩
    show Ev (d + 1) M_Mo_writesFours 0 0 44 [(2, v0), (0, v1), (0, v2), (0, m s0 (iw (s1 + v2))), (0, iw (Int.tdiv v2 16))] [(0, v1), (2, v0)] kd m (zqV kd q)
    refine EvX.if_eq (off := 9) (tgt := 53) (by decide +kernel) (by decide) (fun hc => ?_) (fun hc => ?_)
    · have h := h.1 hc
      refine EvX.blk (pc' := 56) [(.ldc_w 396, 1, 9)] (by decide +kernel) ⟨z_Mo_396, trivial⟩ ?_
      show Ev (d + 1) M_Mo_writesFours 0 0 56 [(2, v0), (0, v1), (0, v2), (0, m s0 (iw (s1 + v2))), (0, iw (Int.tdiv v2 16))] [(3, 9), (2, v0)] kd m (zqV kd q)
      exact h
    · have h := h.2 hc
      refine EvX.blk (pc' := 50) [(.ldc_w 394, 1, 10)] (by decide +kernel) ⟨z_Mo_394, trivial⟩ ?_
      show Ev (d + 1) M_Mo_writesFours 0 0 50 [(2, v0), (0, v1), (0, v2), (0, m s0 (iw (s1 + v2))), (0, iw (Int.tdiv v2 16))] [(3, 10), (2, v0)] kd m (zqV kd q)
      refine EvX.goto (off := 6) (tgt := 56) (by decide +kernel) (by decide) ?_
      exact h
  · have h := h.2 hc
    refine EvX.goto (off := 67) (tgt := 100) (by decide +kernel) (by decide) ?_
    refine EvX.blk (pc' := 103) [(.iinc 2 1, 0, 0)] (by decide +kernel) trivial ?_
    show Ev (d + 1) M_Mo_writesFours 0 0 103 [(2, v0), (0, v1), (0, iw (v2 + 1)), (0, m s0 (iw (s1 + v2))), zJ] [] kd m (zqV kd q)
    refine EvX.goto (off := (-101)) (tgt := 2) (by decide +kernel) (by decide) ?_
    exact EvX.weak (ls2 := [(2, v0), (0, v1), (0, iw (v2 + 1)), zJ, zJ]) (zwk_of ⟨Or.inr rfl, Or.inr rfl, Or.inr rfl, Or.inl rfl, Or.inl rfl, trivial⟩) h
set_option maxRecDepth 20000 in
set_option maxHeartbeats 1000000 in
theorem T_Mo_writesFours_56 {d : Nat} {kd : ZK} {m : ZM} {q : ZM → Prop} {v0 v1 v2 v3 v4 s0 s1 : Int} (h : (zobj kd s0 8 ∧ ∃ q1, CtV d M_Mo_writesWord [(2, s0), (3, s1)] kd m q1 ∧ ∀ m3, q1 m3 → (zobj kd v0 8 ∧ ∃ q4, CtV d M_Mo_writesNumber [(2, v0), (0, iw (Int.tdiv v4 5))] kd m3 q4 ∧ ∀ m6, q4 m6 → (zobj kd v0 8 ∧ ∃ q7, CtV d M_Mo_writesNumber [(2, v0), (0, Int.tmod v4 5)] kd m6 q7 ∧ ∀ m9, q7 m9 → (zobj kd v0 8 ∧ ∃ q10, CtV d M_Mo_writesNumber [(2, v0), (0, Int.tmod (iw (Int.tdiv v2 4)) 4)] kd m9 q10 ∧ ∀ m12, q10 m12 → (zobj kd v0 8 ∧ ∃ q13, CtV d M_Mo_writesNumber [(2, v0), (0, Int.tmod v2 4)] kd m12 q13 ∧ ∀ m15, q13 m15 → ((v1 = 0 → (Ev (d + 1) M_Mo_writesFours 0 0 2 [(2, v0), (0, v1), (0, iw (v2 + 1)), zJ, zJ] [] kd m15 (zqV kd q))) ∧ (¬ v1 = 0 → (zobj kd v0 8 ∧ ∃ q16, CtV d M_Mo_writesNumber [(2, v0), (0, v3)] kd m15 q16 ∧ ∀ m18, q16 m18 → (Ev (d + 1) M_Mo_writesFours 0 0 2 [(2, v0), (0, v1), (0, iw (v2 + 1)), zJ, zJ] [] kd m18 (zqV kd q))))))))))) : Ev (d + 1) M_Mo_writesFours 0 0 56 [(2, v0), (0, v1), (0, v2), (0, v3), (0, v4)] [(3, s1), (2, s0)] kd m (zqV kd q) := by
  obtain ⟨ov, h⟩ := h
  obtain ⟨q1, hq, h⟩ := h
  refine EvX.callV (c := 8) (mc := 0) (ms := 0) (as := [(3, s1)]) (st := []) (by decide +kernel) l_Mo_398 k_Mo_writesWord v_Mo_writesWord a_Mo_writesWord (by decide) (Nat.le_of_ble_eq_true rfl) rfl ov hq (fun r kd1 m3 hr => ?_)
  obtain ⟨rfl, hk, hr⟩ := hr
  subst kd1
  have h := h m3 hr
  show Ev (d + 1) M_Mo_writesFours 0 0 59 [(2, v0), (0, v1), (0, v2), (0, v3), (0, v4)] [] kd m3 (zqV kd q)
  refine EvX.blk (pc' := 64) [(.aload_n 0, 0, 0), (.iload 4, 0, 0), (.iconst 5, 0, 0), (.idiv, 0, 0)] (by decide +kernel) trivial ⟨by decide, ?_⟩
  show Ev (d + 1) M_Mo_writesFours 0 0 64 [(2, v0), (0, v1), (0, v2), (0, v3), (0, v4)] [(0, iw (Int.tdiv v4 5)), (2, v0)] kd m3 (zqV kd q)
  obtain ⟨ov, h⟩ := h
  obtain ⟨q4, hq, h⟩ := h
  refine EvX.callV (c := 8) (mc := 0) (ms := 0) (as := [(0, iw (Int.tdiv v4 5))]) (st := []) (by decide +kernel) l_Mo_402 k_Mo_writesNumber v_Mo_writesNumber a_Mo_writesNumber (by decide) (Nat.le_of_ble_eq_true rfl) rfl ov hq (fun r kd1 m6 hr => ?_)
  obtain ⟨rfl, hk, hr⟩ := hr
  subst kd1
  have h := h m6 hr
  show Ev (d + 1) M_Mo_writesFours 0 0 67 [(2, v0), (0, v1), (0, v2), (0, v3), (0, v4)] [] kd m6 (zqV kd q)
  refine EvX.blk (pc' := 72) [(.aload_n 0, 0, 0), (.iload 4, 0, 0), (.iconst 5, 0, 0), (.irem, 0, 0)] (by decide +kernel) trivial ⟨by decide, ?_⟩
  show Ev (d + 1) M_Mo_writesFours 0 0 72 [(2, v0), (0, v1), (0, v2), (0, v3), (0, v4)] [(0, Int.tmod v4 5), (2, v0)] kd m6 (zqV kd q)
  obtain ⟨ov, h⟩ := h
  obtain ⟨q7, hq, h⟩ := h
  refine EvX.callV (c := 8) (mc := 0) (ms := 0) (as := [(0, Int.tmod v4 5)]) (st := []) (by decide +kernel) l_Mo_402 k_Mo_writesNumber v_Mo_writesNumber a_Mo_writesNumber (by decide) (Nat.le_of_ble_eq_true rfl) rfl ov hq (fun r kd1 m9 hr => ?_)
  obtain ⟨rfl, hk, hr⟩ := hr
  subst kd1
  have h := h m9 hr
  show Ev (d + 1) M_Mo_writesFours 0 0 75 [(2, v0), (0, v1), (0, v2), (0, v3), (0, v4)] [] kd m9 (zqV kd q)
  refine EvX.blk (pc' := 81) [(.aload_n 0, 0, 0), (.iload_n 2, 0, 0), (.iconst 4, 0, 0), (.idiv, 0, 0), (.iconst 4, 0, 0), (.irem, 0, 0)] (by decide +kernel) trivial ⟨by decide, by decide, ?_⟩
  show Ev (d + 1) M_Mo_writesFours 0 0 81 [(2, v0), (0, v1), (0, v2), (0, v3), (0, v4)] [(0, Int.tmod (iw (Int.tdiv v2 4)) 4), (2, v0)] kd m9 (zqV kd q)
  obtain ⟨ov, h⟩ := h
  obtain ⟨q10, hq, h⟩ := h
  refine EvX.callV (c := 8) (mc := 0) (ms := 0) (as := [(0, Int.tmod (iw (Int.tdiv v2 4)) 4)]) (st := []) (by decide +kernel) l_Mo_402 k_Mo_writesNumber v_Mo_writesNumber a_Mo_writesNumber (by decide) (Nat.le_of_ble_eq_true rfl) rfl ov hq (fun r kd1 m12 hr => ?_)
  obtain ⟨rfl, hk, hr⟩ := hr
  subst kd1
  have h := h m12 hr
  show Ev (d + 1) M_Mo_writesFours 0 0 84 [(2, v0), (0, v1), (0, v2), (0, v3), (0, v4)] [] kd m12 (zqV kd q)
  refine EvX.blk (pc' := 88) [(.aload_n 0, 0, 0), (.iload_n 2, 0, 0), (.iconst 4, 0, 0), (.irem, 0, 0)] (by decide +kernel) trivial ⟨by decide, ?_⟩
  show Ev (d + 1) M_Mo_writesFours 0 0 88 [(2, v0), (0, v1), (0, v2), (0, v3), (0, v4)] [(0, Int.tmod v2 4), (2, v0)] kd m12 (zqV kd q)
  obtain ⟨ov, h⟩ := h
  obtain ⟨q13, hq, h⟩ := h
  refine EvX.callV (c := 8) (mc := 0) (ms := 0) (as := [(0, Int.tmod v2 4)]) (st := []) (by decide +kernel) l_Mo_402 k_Mo_writesNumber v_Mo_writesNumber a_Mo_writesNumber (by decide) (Nat.le_of_ble_eq_true rfl) rfl ov hq (fun r kd1 m15 hr => ?_)
  obtain ⟨rfl, hk, hr⟩ := hr
  subst kd1
  have h := h m15 hr
  show Ev (d + 1) M_Mo_writesFours 0 0 91 [(2, v0), (0, v1), (0, v2), (0, v3), (0, v4)] [] kd m15 (zqV kd q)
  refine EvX.blk (pc' := 92) [(.iload_n 1, 0, 0)] (by decide +kernel) trivial ?_
  show Ev (d + 1) M_Mo_writesFours 0 0 92 [(2, v0), (0, v1), (0, v2), (0, v3), (0, v4)] [(0, v1)] kd m15 (zqV kd q)
  refine EvX.if_eq (off := 8) (tgt := 100) (by decide +kernel) (by decide) (fun hc => ?_) (fun hc => ?_)
  · have h := h.1 hc
    refine EvX.blk (pc' := 103) [(.iinc 2 1, 0, 0)] (by decide +kernel) trivial ?_
    show Ev (d + 1) M_Mo_writesFours 0 0 103 [(2, v0), (0, v1), (0, iw (v2 + 1)), (0, v3), (0, v4)] [] kd m15 (zqV kd q)
    refine EvX.goto (off := (-101)) (tgt := 2) (by decide +kernel) (by decide) ?_
    exact EvX.weak (ls2 := [(2, v0), (0, v1), (0, iw (v2 + 1)), zJ, zJ]) (zwk_of ⟨Or.inr rfl, Or.inr rfl, Or.inr rfl, Or.inl rfl, Or.inl rfl, trivial⟩) h
  · have h := h.2 hc
    refine EvX.blk (pc' := 97) [(.aload_n 0, 0, 0), (.iload_n 3, 0, 0)] (by decide +kernel) trivial ?_
    show Ev (d + 1) M_Mo_writesFours 0 0 97 [(2, v0), (0, v1), (0, v2), (0, v3), (0, v4)] [(0, v3), (2, v0)] kd m15 (zqV kd q)
    obtain ⟨ov, h⟩ := h
    obtain ⟨q16, hq, h⟩ := h
    refine EvX.callV (c := 8) (mc := 0) (ms := 0) (as := [(0, v3)]) (st := []) (by decide +kernel) l_Mo_402 k_Mo_writesNumber v_Mo_writesNumber a_Mo_writesNumber (by decide) (Nat.le_of_ble_eq_true rfl) rfl ov hq (fun r kd1 m18 hr => ?_)
    obtain ⟨rfl, hk, hr⟩ := hr
    subst kd1
    have h := h m18 hr
    show Ev (d + 1) M_Mo_writesFours 0 0 100 [(2, v0), (0, v1), (0, v2), (0, v3), (0, v4)] [] kd m18 (zqV kd q)
    refine EvX.blk (pc' := 103) [(.iinc 2 1, 0, 0)] (by decide +kernel) trivial ?_
    show Ev (d + 1) M_Mo_writesFours 0 0 103 [(2, v0), (0, v1), (0, iw (v2 + 1)), (0, v3), (0, v4)] [] kd m18 (zqV kd q)
    refine EvX.goto (off := (-101)) (tgt := 2) (by decide +kernel) (by decide) ?_
    exact EvX.weak (ls2 := [(2, v0), (0, v1), (0, iw (v2 + 1)), zJ, zJ]) (zwk_of ⟨Or.inr rfl, Or.inr rfl, Or.inr rfl, Or.inl rfl, Or.inl rfl, trivial⟩) h
set_option maxRecDepth 20000 in
set_option maxHeartbeats 1000000 in
theorem T_Mo_writesAll_0 {d : Nat} {kd : ZK} {m : ZM} {q : ZM → Prop} {v0 : Int} (h : (zobj kd v0 8 ∧ ∃ q1, CtV d M_Mo_writesWord [(2, v0), (3, 0)] kd m q1 ∧ ∀ m3, q1 m3 → (Ev (d + 1) M_Mo_writesAll 0 0 8 [(2, v0), (0, 0), zJ] [] kd m3 (zqV kd q)))) : Ev (d + 1) M_Mo_writesAll 0 0 0 [(2, v0), zJ, zJ] [] kd m (zqV kd q) := by
  refine EvX.blk (pc' := 3) [(.aload_n 0, 0, 0), (.ldc 151, 1, 0)] (by decide +kernel) ⟨z_Mo_151, trivial⟩ ?_
  show Ev (d + 1) M_Mo_writesAll 0 0 3 [(2, v0), zJ, zJ] [(3, 0), (2, v0)] kd m (zqV kd q)
  obtain ⟨ov, h⟩ := h
  obtain ⟨q1, hq, h⟩ := h
  refine EvX.callV (c := 8) (mc := 0) (ms := 0) (as := [(3, 0)]) (st := []) (by decide +kernel) l_Mo_398 k_Mo_writesWord v_Mo_writesWord a_Mo_writesWord (by decide) (Nat.le_of_ble_eq_true rfl) rfl ov hq (fun r kd1 m3 hr => ?_)
  obtain ⟨rfl, hk, hr⟩ := hr
  subst kd1
  have h := h m3 hr
  show Ev (d + 1) M_Mo_writesAll 0 0 6 [(2, v0), zJ, zJ] [] kd m3 (zqV kd q)
  refine EvX.blk (pc' := 8) [(.iconst 0, 0, 0), (.istore_n 1, 0, 0)] (by decide +kernel) trivial ?_
  show Ev (d + 1) M_Mo_writesAll 0 0 8 [(2, v0), (0, 0), zJ] [] kd m3 (zqV kd q)
  exact h
theorem S_Mo_writesAll {d : Nat} {kd : ZK} {m : ZM} {q : ZM → Prop} {v0 : Int} (h : (zobj kd v0 8 ∧ ∃ q1, CtV d M_Mo_writesWord [(2, v0), (3, 0)] kd m q1 ∧ ∀ m3, q1 m3 → (Ev (d + 1) M_Mo_writesAll 0 0 8 [(2, v0), (0, 0), zJ] [] kd m3 (zqV kd q)))) : CtV (d + 1) M_Mo_writesAll [(2, v0)] kd m q :=
  Ct.start k_Mo_writesAll (Nat.le_of_ble_eq_true rfl) ⟨0, Or.inl ⟨rfl, rfl⟩⟩ (T_Mo_writesAll_0 h)
set_option maxRecDepth 20000 in
set_option maxHeartbeats 1000000 in
theorem T_Mo_writesAll_8 {d : Nat} {kd : ZK} {m : ZM} {q : ZM → Prop} {v0 v1 : Int} (h : ((4 ≤ v1 → (Ev (d + 1) M_Mo_writesAll 0 0 31 [(2, v0), (0, 0), zJ] [] kd m (zqV kd q))) ∧ (¬ 4 ≤ v1 → (zobj kd v0 8 ∧ zIn kd (m v0 0) 0 v1 ∧ (zobj kd v0 8 ∧ ∃ q1, CtV d M_Mo_writesNumber [(2, v0), (0, m (m v0 0) v1)] kd m q1 ∧ ∀ m3, q1 m3 → (Ev (d + 1) M_Mo_writesAll 0 0 8 [(2, v0), (0, iw (v1 + 1)), zJ] [] kd m3 (zqV kd q))))))) : Ev (d + 1) M_Mo_writesAll 0 0 8 [(2, v0), (0, v1), zJ] [] kd m (zqV kd q) := by
  refine EvX.blk (pc' := 10) [(.iload_n 1, 0, 0), (.iconst 4, 0, 0)] (by decide +kernel) trivial ?_
  show Ev (d + 1) M_Mo_writesAll 0 0 10 [(2, v0), (0, v1), zJ] [(0, 4), (0, v1)] kd m (zqV kd q)
  refine EvX.icmp_ge (off := 19) (tgt := 29) (by decide +kernel) (by decide) (fun hc => ?_) (fun hc => ?_)
  · have h := h.1 hc
    refine EvX.blk (pc' := 31) [(.iconst 0, 0, 0), (.istore_n 1, 0, 0)] (by decide +kernel) trivial ?_
    show Ev (d + 1) M_Mo_writesAll 0 0 31 [(2, v0), (0, 0), zJ] [] kd m (zqV kd q)
    exact h
  · have h := h.2 hc
    obtain ⟨o1, o2, h⟩ := h
    refine EvX.blk (pc' := 20) [(.aload_n 0, 0, 0), (.aload_n 0, 0, 0), (.getfield 9, 8, 0), (.iload_n 1, 0, 0), (.iaload, 0, 0)] (by decide +kernel) ⟨g_Mo_9, trivial⟩ ⟨o1, o2, ?_⟩
    show Ev (d + 1) M_Mo_writesAll 0 0 20 [(2, v0), (0, v1), zJ] [(0, m (m v0 0) v1), (2, v0)] kd m (zqV kd q)
    obtain ⟨ov, h⟩ := h
    obtain ⟨q1, hq, h⟩ := h
    refine EvX.callV (c := 8) (mc := 0) (ms := 0) (as := [(0, m (m v0 0) v1)]) (st := []) (by decide +kernel) l_Mo_402 k_Mo_writesNumber v_Mo_writesNumber a_Mo_writesNumber (by decide) (Nat.le_of_ble_eq_true rfl) rfl ov hq (fun r kd1 m3 hr => ?_)
    obtain ⟨rfl, hk, hr⟩ := hr
    subst kd1
    have h := h m3 hr
    show Ev (d + 1) M_Mo_writesAll 0 0 23 [(2, v0), (0, v1), zJ] [] kd m3 (zqV kd q)
    refine EvX.blk (pc' := 26) [(.iinc 1 1, 0, 0)] (by decide +kernel) trivial ?_
    show Ev (d + 1) M_Mo_writesAll 0 0 26 [(2, v0), (0, iw (v1 + 1)), zJ] [] kd m3 (zqV kd q)
    refine EvX.goto (off := (-18)) (tgt := 8) (by decide +kernel) (by decide) ?_
    exact h
set_option maxRecDepth 20000 in
set_option maxHeartbeats 1000000 in
theorem T_Mo_writesAll_31 {d : Nat} {kd : ZK} {m : ZM} {q : ZM → Prop} {v0 v1 : Int} (h : (zobj kd v0 8 ∧ ∃ q1, CtI d M_Mo_questions [(2, v0), (0, 0)] kd m q1 ∧ ∀ x2 m3, q1 x2 m3 → ((x2 ≤ v1 → (zobj kd v0 8 ∧ ∃ q4, CtV d M_Mo_writesFours [(2, v0), (0, 0)] kd m3 q4 ∧ ∀ m6, q4 m6 → (zobj kd v0 8 ∧ ∃ q7, CtV d M_Mo_writesFours [(2, v0), (0, 1)] kd m6 q7 ∧ ∀ m9, q7 m9 → q m9))) ∧ (¬ x2 ≤ v1 → (Ev (d + 1) M_Mo_writesAll 0 0 42 [(2, v0), (0, v1), (0, 0)] [] kd m3 (zqV kd q)))))) : Ev (d + 1) M_Mo_writesAll 0 0 31 [(2, v0), (0, v1), zJ] [] kd m (zqV kd q) := by
  refine EvX.blk (pc' := 34) [(.iload_n 1, 0, 0), (.aload_n 0, 0, 0), (.iconst 0, 0, 0)] (by decide +kernel) trivial ?_
  show Ev (d + 1) M_Mo_writesAll 0 0 34 [(2, v0), (0, v1), zJ] [(0, 0), (2, v0), (0, v1)] kd m (zqV kd q)
  obtain ⟨ov, h⟩ := h
  obtain ⟨q1, hq, h⟩ := h
  refine EvX.callV (c := 8) (mc := 0) (ms := 0) (as := [(0, 0)]) (st := [(0, v1)]) (by decide +kernel) l_Mo_163 k_Mo_questions v_Mo_questions a_Mo_questions (by decide) (Nat.le_of_ble_eq_true rfl) rfl ov hq (fun r kd1 m3 hr => ?_)
  obtain ⟨x2, rfl, hk, hr⟩ := hr
  subst kd1
  have h := h x2 m3 hr
  show Ev (d + 1) M_Mo_writesAll 0 0 37 [(2, v0), (0, v1), zJ] [(0, x2), (0, v1)] kd m3 (zqV kd q)
  refine EvX.icmp_ge (off := 66) (tgt := 103) (by decide +kernel) (by decide) (fun hc => ?_) (fun hc => ?_)
  · have h := h.1 hc
    refine EvX.blk (pc' := 105) [(.aload_n 0, 0, 0), (.iconst 0, 0, 0)] (by decide +kernel) trivial ?_
    show Ev (d + 1) M_Mo_writesAll 0 0 105 [(2, v0), (0, v1), zJ] [(0, 0), (2, v0)] kd m3 (zqV kd q)
    obtain ⟨ov, h⟩ := h
    obtain ⟨q4, hq, h⟩ := h
    refine EvX.callV (c := 8) (mc := 0) (ms := 0) (as := [(0, 0)]) (st := []) (by decide +kernel) l_Mo_407 k_Mo_writesFours v_Mo_writesFours a_Mo_writesFours (by decide) (Nat.le_of_ble_eq_true rfl) rfl ov hq (fun r kd1 m6 hr => ?_)
    obtain ⟨rfl, hk, hr⟩ := hr
    subst kd1
    have h := h m6 hr
    show Ev (d + 1) M_Mo_writesAll 0 0 108 [(2, v0), (0, v1), zJ] [] kd m6 (zqV kd q)
    refine EvX.blk (pc' := 110) [(.aload_n 0, 0, 0), (.iconst 1, 0, 0)] (by decide +kernel) trivial ?_
    show Ev (d + 1) M_Mo_writesAll 0 0 110 [(2, v0), (0, v1), zJ] [(0, 1), (2, v0)] kd m6 (zqV kd q)
    obtain ⟨ov, h⟩ := h
    obtain ⟨q7, hq, h⟩ := h
    refine EvX.callV (c := 8) (mc := 0) (ms := 0) (as := [(0, 1)]) (st := []) (by decide +kernel) l_Mo_407 k_Mo_writesFours v_Mo_writesFours a_Mo_writesFours (by decide) (Nat.le_of_ble_eq_true rfl) rfl ov hq (fun r kd1 m9 hr => ?_)
    obtain ⟨rfl, hk, hr⟩ := hr
    subst kd1
    have h := h m9 hr
    show Ev (d + 1) M_Mo_writesAll 0 0 113 [(2, v0), (0, v1), zJ] [] kd m9 (zqV kd q)
    exact EvX.ret (r := zJ) (by decide +kernel) rfl ⟨rfl, rfl, h⟩
  · have h := h.2 hc
    refine EvX.blk (pc' := 42) [(.iconst 0, 0, 0), (.istore_n 2, 0, 0)] (by decide +kernel) trivial ?_
    show Ev (d + 1) M_Mo_writesAll 0 0 42 [(2, v0), (0, v1), (0, 0)] [] kd m3 (zqV kd q)
    exact h
set_option maxRecDepth 20000 in
set_option maxHeartbeats 1000000 in
theorem T_Mo_writesAll_42 {d : Nat} {kd : ZK} {m : ZM} {q : ZM → Prop} {v0 v1 v2 : Int} (h : (zobj kd v0 8 ∧ ∃ q1, CtI d M_Mo_questions [(2, v0), (0, 1)] kd m q1 ∧ ∀ x2 m3, q1 x2 m3 → ((x2 ≤ v2 → (Ev (d + 1) M_Mo_writesAll 0 0 31 [(2, v0), (0, iw (v1 + 1)), zJ] [] kd m3 (zqV kd q))) ∧ (¬ x2 ≤ v2 → (zobj kd v0 8 ∧ ∃ q4, CtI d M_Mo_weightOf [(2, v0), (0, v1), (0, v2)] kd m3 q4 ∧ ∀ x5 m6, q4 x5 m6 → ((x5 ≠ 1 → (zobj kd v0 8 ∧ ∃ q7, CtV d M_Mo_writesWord [(2, v0), (3, 8)] kd m6 q7 ∧ ∀ m9, q7 m9 → (zobj kd v0 8 ∧ ∃ q10, CtV d M_Mo_writesNumber [(2, v0), (0, v1)] kd m9 q10 ∧ ∀ m12, q10 m12 → (zobj kd v0 8 ∧ ∃ q13, CtV d M_Mo_writesNumber [(2, v0), (0, v2)] kd m12 q13 ∧ ∀ m15, q13 m15 → (zobj kd v0 8 ∧ ∃ q16, CtI d M_Mo_weightOf [(2, v0), (0, v1), (0, v2)] kd m15 q16 ∧ ∀ x17 m18, q16 x17 m18 → (zobj kd v0 8 ∧ ∃ q19, CtV d M_Mo_writesNumber [(2, v0), (0, x17)] kd m18 q19 ∧ ∀ m21, q19 m21 → (Ev (d + 1) M_Mo_writesAll 0 0 42 [(2, v0), (0, v1), (0, iw (v2 + 1))] [] kd m21 (zqV kd q)))))))) ∧ (¬ x5 ≠ 1 → (Ev (d + 1) M_Mo_writesAll 0 0 42 [(2, v0), (0, v1), (0, iw (v2 + 1))] [] kd m6 (zqV kd q))))))))) : Ev (d + 1) M_Mo_writesAll 0 0 42 [(2, v0), (0, v1), (0, v2)] [] kd m (zqV kd q) := by
  refine EvX.blk (pc' := 45) [(.iload_n 2, 0, 0), (.aload_n 0, 0, 0), (.iconst 1, 0, 0)] (by decide +kernel) trivial ?_
  show Ev (d + 1) M_Mo_writesAll 0 0 45 [(2, v0), (0, v1), (0, v2)] [(0, 1), (2, v0), (0, v2)] kd m (zqV kd q)
  obtain ⟨ov, h⟩ := h
  obtain ⟨q1, hq, h⟩ := h
  refine EvX.callV (c := 8) (mc := 0) (ms := 0) (as := [(0, 1)]) (st := [(0, v2)]) (by decide +kernel) l_Mo_163 k_Mo_questions v_Mo_questions a_Mo_questions (by decide) (Nat.le_of_ble_eq_true rfl) rfl ov hq (fun r kd1 m3 hr => ?_)
  obtain ⟨x2, rfl, hk, hr⟩ := hr
  subst kd1
  have h := h x2 m3 hr
  show Ev (d + 1) M_Mo_writesAll 0 0 48 [(2, v0), (0, v1), (0, v2)] [(0, x2), (0, v2)] kd m3 (zqV kd q)
  refine EvX.icmp_ge (off := 49) (tgt := 97) (by decide +kernel) (by decide) (fun hc => ?_) (fun hc => ?_)
  · have h := h.1 hc
    refine EvX.blk (pc' := 100) [(.iinc 1 1, 0, 0)] (by decide +kernel) trivial ?_
    show Ev (d + 1) M_Mo_writesAll 0 0 100 [(2, v0), (0, iw (v1 + 1)), (0, v2)] [] kd m3 (zqV kd q)
    refine EvX.goto (off := (-69)) (tgt := 31) (by decide +kernel) (by decide) ?_
    exact EvX.weak (ls2 := [(2, v0), (0, iw (v1 + 1)), zJ]) (zwk_of ⟨Or.inr rfl, Or.inr rfl, Or.inl rfl, trivial⟩) h
  · have h := h.2 hc
    refine EvX.blk (pc' := 54) [(.aload_n 0, 0, 0), (.iload_n 1, 0, 0), (.iload_n 2, 0, 0)] (by decide +kernel) trivial ?_
    show Ev (d + 1) M_Mo_writesAll 0 0 54 [(2, v0), (0, v1), (0, v2)] [(0, v2), (0, v1), (2, v0)] kd m3 (zqV kd q)
    obtain ⟨ov, h⟩ := h
    obtain ⟨q4, hq, h⟩ := h
    refine EvX.callV (c := 8) (mc := 0) (ms := 0) (as := [(0, v1), (0, v2)]) (st := []) (by decide +kernel) l_Mo_180 k_Mo_weightOf v_Mo_weightOf a_Mo_weightOf (by decide) (Nat.le_of_ble_eq_true rfl) rfl ov hq (fun r kd1 m6 hr => ?_)
    obtain ⟨x5, rfl, hk, hr⟩ := hr
    subst kd1
    have h := h x5 m6 hr
    show Ev (d + 1) M_Mo_writesAll 0 0 57 [(2, v0), (0, v1), (0, v2)] [(0, x5)] kd m6 (zqV kd q)
    refine EvX.blk (pc' := 58) [(.iconst 1, 0, 0)] (by decide +kernel) trivial ?_
    show Ev (d + 1) M_Mo_writesAll 0 0 58 [(2, v0), (0, v1), (0, v2)] [(0, 1), (0, x5)] kd m6 (zqV kd q)
    refine EvX.icmp_ne (off := 6) (tgt := 64) (by decide +kernel) (by decide) (fun hc => ?_) (fun hc => ?_)
    · have h := h.1 hc
      refine EvX.blk (pc' := 68) [(.aload_n 0, 0, 0), (.ldc_w 405, 1, 8)] (by decide +kernel) ⟨z_Mo_405, trivial⟩ ?_
      show Ev (d + 1) M_Mo_writesAll 0 0 68 [(2, v0), (0, v1), (0, v2)] [(3, 8), (2, v0)] kd m6 (zqV kd q)
      obtain ⟨ov, h⟩ := h
      obtain ⟨q7, hq, h⟩ := h
      refine EvX.callV (c := 8) (mc := 0) (ms := 0) (as := [(3, 8)]) (st := []) (by decide +kernel) l_Mo_398 k_Mo_writesWord v_Mo_writesWord a_Mo_writesWord (by decide) (Nat.le_of_ble_eq_true rfl) rfl ov hq (fun r kd1 m9 hr => ?_)
      obtain ⟨rfl, hk, hr⟩ := hr
      subst kd1
      have h := h m9 hr
      show Ev (d + 1) M_Mo_writesAll 0 0 71 [(2, v0), (0, v1), (0, v2)] [] kd m9 (zqV kd q)
      refine EvX.blk (pc' := 73) [(.aload_n 0, 0, 0), (.iload_n 1, 0, 0)] (by decide +kernel) trivial ?_
      show Ev (d + 1) M_Mo_writesAll 0 0 73 [(2, v0), (0, v1), (0, v2)] [(0, v1), (2, v0)] kd m9 (zqV kd q)
      obtain ⟨ov, h⟩ := h
      obtain ⟨q10, hq, h⟩ := h
      refine EvX.callV (c := 8) (mc := 0) (ms := 0) (as := [(0, v1)]) (st := []) (by decide +kernel) l_Mo_402 k_Mo_writesNumber v_Mo_writesNumber a_Mo_writesNumber (by decide) (Nat.le_of_ble_eq_true rfl) rfl ov hq (fun r kd1 m12 hr => ?_)
      obtain ⟨rfl, hk, hr⟩ := hr
      subst kd1
      have h := h m12 hr
      show Ev (d + 1) M_Mo_writesAll 0 0 76 [(2, v0), (0, v1), (0, v2)] [] kd m12 (zqV kd q)
      refine EvX.blk (pc' := 78) [(.aload_n 0, 0, 0), (.iload_n 2, 0, 0)] (by decide +kernel) trivial ?_
      show Ev (d + 1) M_Mo_writesAll 0 0 78 [(2, v0), (0, v1), (0, v2)] [(0, v2), (2, v0)] kd m12 (zqV kd q)
      obtain ⟨ov, h⟩ := h
      obtain ⟨q13, hq, h⟩ := h
      refine EvX.callV (c := 8) (mc := 0) (ms := 0) (as := [(0, v2)]) (st := []) (by decide +kernel) l_Mo_402 k_Mo_writesNumber v_Mo_writesNumber a_Mo_writesNumber (by decide) (Nat.le_of_ble_eq_true rfl) rfl ov hq (fun r kd1 m15 hr => ?_)
      obtain ⟨rfl, hk, hr⟩ := hr
      subst kd1
      have h := h m15 hr
      show Ev (d + 1) M_Mo_writesAll 0 0 81 [(2, v0), (0, v1), (0, v2)] [] kd m15 (zqV kd q)
      refine EvX.blk (pc' := 85) [(.aload_n 0, 0, 0), (.aload_n 0, 0, 0), (.iload_n 1, 0, 0), (.iload_n 2, 0, 0)] (by decide +kernel) trivial ?_
      show Ev (d + 1) M_Mo_writesAll 0 0 85 [(2, v0), (0, v1), (0, v2)] [(0, v2), (0, v1), (2, v0), (2, v0)] kd m15 (zqV kd q)
      obtain ⟨ov, h⟩ := h
      obtain ⟨q16, hq, h⟩ := h
      refine EvX.callV (c := 8) (mc := 0) (ms := 0) (as := [(0, v1), (0, v2)]) (st := [(2, v0)]) (by decide +kernel) l_Mo_180 k_Mo_weightOf v_Mo_weightOf a_Mo_weightOf (by decide) (Nat.le_of_ble_eq_true rfl) rfl ov hq (fun r kd1 m18 hr => ?_)
      obtain ⟨x17, rfl, hk, hr⟩ := hr
      subst kd1
      have h := h x17 m18 hr
      show Ev (d + 1) M_Mo_writesAll 0 0 88 [(2, v0), (0, v1), (0, v2)] [(0, x17), (2, v0)] kd m18 (zqV kd q)
      obtain ⟨ov, h⟩ := h
      obtain ⟨q19, hq, h⟩ := h
      refine EvX.callV (c := 8) (mc := 0) (ms := 0) (as := [(0, x17)]) (st := []) (by decide +kernel) l_Mo_402 k_Mo_writesNumber v_Mo_writesNumber a_Mo_writesNumber (by decide) (Nat.le_of_ble_eq_true rfl) rfl ov hq (fun r kd1 m21 hr => ?_)
      obtain ⟨rfl, hk, hr⟩ := hr
      subst kd1
      have h := h m21 hr
      show Ev (d + 1) M_Mo_writesAll 0 0 91 [(2, v0), (0, v1), (0, v2)] [] kd m21 (zqV kd q)
      refine EvX.blk (pc' := 94) [(.iinc 2 1, 0, 0)] (by decide +kernel) trivial ?_
      show Ev (d + 1) M_Mo_writesAll 0 0 94 [(2, v0), (0, v1), (0, iw (v2 + 1))] [] kd m21 (zqV kd q)
      refine EvX.goto (off := (-52)) (tgt := 42) (by decide +kernel) (by decide) ?_
      exact h
    · have h := h.2 hc
      refine EvX.goto (off := 30) (tgt := 91) (by decide +kernel) (by decide) ?_
      refine EvX.blk (pc' := 94) [(.iinc 2 1, 0, 0)] (by decide +kernel) trivial ?_
      show Ev (d + 1) M_Mo_writesAll 0 0 94 [(2, v0), (0, v1), (0, iw (v2 + 1))] [] kd m6 (zqV kd q)
      refine EvX.goto (off := (-52)) (tgt := 42) (by decide +kernel) (by decide) ?_
      exact h
set_option maxRecDepth 20000 in
set_option maxHeartbeats 1000000 in
theorem T_Mo_letter_0 {d : Nat} {kd : ZK} {m : ZM} {q : Int → ZM → Prop} {v0 v1 : Int} (h : (((-1) ≤ v1 → (zobj kd v0 8 ∧ zobj kd v0 8 ∧ (zobj kd v0 8 ∧ ∃ q1, CtI d M_Mo_hasGame [(2, v0)] kd (zup (zup m v0 23 0) v0 24 v1) q1 ∧ ∀ x2 m3, q1 x2 m3 → ((x2 = 0 → (Ev (d + 1) M_Mo_letter 0 0 28 [(2, v0), (0, v1)] [] kd m3 (zqI kd q))) ∧ (¬ x2 = 0 → (zobj kd v0 8 ∧ ∃ q4, CtV d M_Mo_writesAll [(2, v0)] kd m3 q4 ∧ ∀ m6, q4 m6 → (Ev (d + 1) M_Mo_letter 0 0 28 [(2, v0), (0, v1)] [] kd m6 (zqI kd q)))))))) ∧ (¬ (-1) ≤ v1 → q (-1) m))) : Ev (d + 1) M_Mo_letter 0 0 0 [(2, v0), (0, v1)] [] kd m (zqI kd q) := by
  refine EvX.blk (pc' := 2) [(.iload_n 1, 0, 0), (.iconst (-1), 0, 0)] (by decide +kernel) trivial ?_
  show Ev (d + 1) M_Mo_letter 0 0 2 [(2, v0), (0, v1)] [(0, (-1)), (0, v1)] kd m (zqI kd q)
  refine EvX.icmp_ge (off := 5) (tgt := 7) (by decide +kernel) (by decide) (fun hc => ?_) (fun hc => ?_)
  · have h := h.1 hc
    obtain ⟨o1, o2, h⟩ := h
    refine EvX.blk (pc' := 18) [(.aload_n 0, 0, 0), (.iconst 0, 0, 0), (.putfield 382, 8, 23), (.aload_n 0, 0, 0), (.iload_n 1, 0, 0), (.putfield 385, 8, 24), (.aload_n 0, 0, 0)] (by decide +kernel) ⟨⟨g_Mo_382, p_Mo_382⟩, ⟨g_Mo_385, p_Mo_385⟩, trivial⟩ ⟨rfl, o1, rfl, o2, ?_⟩
    show Ev (d + 1) M_Mo_letter 0 0 18 [(2, v0), (0, v1)] [(2, v0)] kd (zup (zup m v0 23 0) v0 24 v1) (zqI kd q)
    obtain ⟨ov, h⟩ := h
    obtain ⟨q1, hq, h⟩ := h
    refine EvX.callV (c := 8) (mc := 0) (ms := 0) (as := []) (st := []) (by decide +kernel) l_Mo_215 k_Mo_hasGame v_Mo_hasGame a_Mo_hasGame (by decide) (Nat.le_of_ble_eq_true rfl) rfl ov hq (fun r kd1 m3 hr => ?_)
    obtain ⟨x2, rfl, hk, hr⟩ := hr
    subst kd1
    have h := h x2 m3 hr
    show Ev (d + 1) M_Mo_letter 0 0 21 [(2, v0), (0, v1)] [(0, x2)] kd m3 (zqI kd q)
    refine EvX.if_eq (off := 7) (tgt := 28) (by decide +kernel) (by decide) (fun hc => ?_) (fun hc => ?_)
    · have h := h.1 hc
      exact h
    · have h := h.2 hc
      refine EvX.blk (pc' := 25) [(.aload_n 0, 0, 0)] (by decide +kernel) trivial ?_
      show Ev (d + 1) M_Mo_letter 0 0 25 [(2, v0), (0, v1)] [(2, v0)] kd m3 (zqI kd q)
      obtain ⟨ov, h⟩ := h
      obtain ⟨q4, hq, h⟩ := h
      refine EvX.callV (c := 8) (mc := 0) (ms := 0) (as := []) (st := []) (by decide +kernel) l_Mo_410 k_Mo_writesAll v_Mo_writesAll a_Mo_writesAll (by decide) (Nat.le_of_ble_eq_true rfl) rfl ov hq (fun r kd1 m6 hr => ?_)
      obtain ⟨rfl, hk, hr⟩ := hr
      subst kd1
      have h := h m6 hr
      show Ev (d + 1) M_Mo_letter 0 0 28 [(2, v0), (0, v1)] [] kd m6 (zqI kd q)
      exact h
  · have h := h.2 hc
    refine EvX.blk (pc' := 6) [(.iconst (-1), 0, 0)] (by decide +kernel) trivial ?_
    show Ev (d + 1) M_Mo_letter 0 0 6 [(2, v0), (0, v1)] [(0, (-1))] kd m (zqI kd q)
    exact EvX.ret (r := (0, (-1))) (by decide +kernel) rfl ⟨_, rfl, rfl, h⟩
theorem S_Mo_letter {d : Nat} {kd : ZK} {m : ZM} {q : Int → ZM → Prop} {v0 v1 : Int} (h : (((-1) ≤ v1 → (zobj kd v0 8 ∧ zobj kd v0 8 ∧ (zobj kd v0 8 ∧ ∃ q1, CtI d M_Mo_hasGame [(2, v0)] kd (zup (zup m v0 23 0) v0 24 v1) q1 ∧ ∀ x2 m3, q1 x2 m3 → ((x2 = 0 → (Ev (d + 1) M_Mo_letter 0 0 28 [(2, v0), (0, v1)] [] kd m3 (zqI kd q))) ∧ (¬ x2 = 0 → (zobj kd v0 8 ∧ ∃ q4, CtV d M_Mo_writesAll [(2, v0)] kd m3 q4 ∧ ∀ m6, q4 m6 → (Ev (d + 1) M_Mo_letter 0 0 28 [(2, v0), (0, v1)] [] kd m6 (zqI kd q)))))))) ∧ (¬ (-1) ≤ v1 → q (-1) m))) : CtI (d + 1) M_Mo_letter [(2, v0), (0, v1)] kd m q :=
  Ct.start k_Mo_letter (Nat.le_of_ble_eq_true rfl) ⟨1, Or.inr (Or.inl ⟨rfl, rfl⟩)⟩ (T_Mo_letter_0 h)
set_option maxRecDepth 20000 in
set_option maxHeartbeats 1000000 in
theorem T_Mo_letter_28 {d : Nat} {kd : ZK} {m : ZM} {q : Int → ZM → Prop} {v0 v1 : Int} (h : ((v1 ≠ (-1) → (zobj kd v0 8 ∧ (((m v0 23) ≤ v1 → q (-2) m) ∧ (¬ (m v0 23) ≤ v1 → (zobj kd v0 8 ∧ q (m v0 25) m))))) ∧ (¬ v1 ≠ (-1) → (zobj kd v0 8 ∧ q (m v0 23) m)))) : Ev (d + 1) M_Mo_letter 0 0 28 [(2, v0), (0, v1)] [] kd m (zqI kd q) := by
  refine EvX.blk (pc' := 30) [(.iload_n 1, 0, 0), (.iconst (-1), 0, 0)] (by decide +kernel) trivial ?_
  show Ev (d + 1) M_Mo_letter 0 0 30 [(2, v0), (0, v1)] [(0, (-1)), (0, v1)] kd m (zqI kd q)
  refine EvX.icmp_ne (off := 10) (tgt := 40) (by decide +kernel) (by decide) (fun hc => ?_) (fun hc => ?_)
  · have h := h.1 hc
    obtain ⟨o1, h⟩ := h
    refine EvX.blk (pc' := 45) [(.iload_n 1, 0, 0), (.aload_n 0, 0, 0), (.getfield 382, 8, 23)] (by decide +kernel) ⟨g_Mo_382, trivial⟩ ⟨o1, ?_⟩
    show Ev (d + 1) M_Mo_letter 0 0 45 [(2, v0), (0, v1)] [(0, m v0 23), (0, v1)] kd m (zqI kd q)
    refine EvX.icmp_ge (off := 10) (tgt := 55) (by decide +kernel) (by decide) (fun hc => ?_) (fun hc => ?_)
    · have h := h.1 hc
      refine EvX.blk (pc' := 57) [(.bipush (-2), 0, 0)] (by decide +kernel) trivial ?_
      show Ev (d + 1) M_Mo_letter 0 0 57 [(2, v0), (0, v1)] [(0, (-2))] kd m (zqI kd q)
      exact EvX.ret (r := (0, (-2))) (by decide +kernel) rfl ⟨_, rfl, rfl, h⟩
    · have h := h.2 hc
      obtain ⟨o1, h⟩ := h
      refine EvX.blk (pc' := 52) [(.aload_n 0, 0, 0), (.getfield 388, 8, 25)] (by decide +kernel) ⟨g_Mo_388, trivial⟩ ⟨o1, ?_⟩
      show Ev (d + 1) M_Mo_letter 0 0 52 [(2, v0), (0, v1)] [(0, m v0 25)] kd m (zqI kd q)
      refine EvX.goto (off := 5) (tgt := 57) (by decide +kernel) (by decide) ?_
      exact EvX.ret (r := (0, m v0 25)) (by decide +kernel) rfl ⟨_, rfl, rfl, h⟩
  · have h := h.2 hc
    obtain ⟨o1, h⟩ := h
    refine EvX.blk (pc' := 37) [(.aload_n 0, 0, 0), (.getfield 382, 8, 23)] (by decide +kernel) ⟨g_Mo_382, trivial⟩ ⟨o1, ?_⟩
    show Ev (d + 1) M_Mo_letter 0 0 37 [(2, v0), (0, v1)] [(0, m v0 23)] kd m (zqI kd q)
    refine EvX.goto (off := 20) (tgt := 57) (by decide +kernel) (by decide) ?_
    exact EvX.ret (r := (0, m v0 23)) (by decide +kernel) rfl ⟨_, rfl, rfl, h⟩
set_option maxRecDepth 20000 in
set_option maxHeartbeats 1000000 in
theorem T_Mo_count_0 {d : Nat} {kd : ZK} {m : ZM} {q : Int → ZM → Prop} {v0 v1 : Int} (h : (((v1 < 0 ∨ 7 < v1) → q (-1) m) ∧ (v1 = 0 → (zobj kd v0 8 ∧ zIn kd (m v0 0) 0 v1 ∧ q (m (m v0 0) v1) m)) ∧ (v1 = 1 → (zobj kd v0 8 ∧ zIn kd (m v0 0) 0 v1 ∧ q (m (m v0 0) v1) m)) ∧ (v1 = 2 → (zobj kd v0 8 ∧ zIn kd (m v0 0) 0 v1 ∧ q (m (m v0 0) v1) m)) ∧ (v1 = 3 → (zobj kd v0 8 ∧ zIn kd (m v0 0) 0 v1 ∧ q (m (m v0 0) v1) m)) ∧ (v1 = 4 → (zobj kd v0 8 ∧ ∃ q1, CtI d M_Mo_winsMany [(2, v0)] kd m q1 ∧ ∀ x2 m3, q1 x2 m3 → q x2 m3)) ∧ (v1 = 5 → (zobj kd v0 8 ∧ q (m v0 6) m)) ∧ (v1 = 6 → (zobj kd v0 8 ∧ q (m v0 8) m)) ∧ (v1 = 7 → (zobj kd v0 8 ∧ zIn kd (m v0 5) 1 0 ∧ (∃ q4, CtI d M_Mo_truth [(0, m (m v0 5) 0)] kd m q4 ∧ ∀ x5 m6, q4 x5 m6 → (zobj kd v0 8 ∧ zIn kd (m6 v0 5) 1 1 ∧ (∃ q7, CtI d M_Mo_truth [(0, m6 (m6 v0 5) 1)] kd m6 q7 ∧ ∀ x8 m9, q7 x8 m9 → q (zor x5 (zshl x8 1)) m9))))))) : Ev (d + 1) M_Mo_count 0 0 0 [(2, v0), (0, v1)] [] kd m (zqI kd q) := by
  refine EvX.blk (pc' := 1) [(.iload_n 1, 0, 0)] (by decide +kernel) trivial ?_
  show Ev (d + 1) M_Mo_count 0 0 1 [(2, v0), (0, v1)] [(0, v1)] kd m (zqI kd q)
  refine EvX.tsw (dflt := 91) (lo := 0) (hi := 7) (offs := #[47, 47, 47, 47, 54, 59, 64, 69]) (len := 47) (n := 8) (df := 92) (tgt := fun k => match k with | 0 => 48 | 1 => 48 | 2 => 48 | 3 => 48 | 4 => 55 | 5 => 60 | 6 => 65 | 7 => 70 | _ => 92) (by decide +kernel) (by decide) (by decide) (by decide) (fun hc => ?_) (fun hc => ?_)
  · have h := h.1 hc
    refine EvX.blk (pc' := 93) [(.iconst (-1), 0, 0)] (by decide +kernel) trivial ?_
    show Ev (d + 1) M_Mo_count 0 0 93 [(2, v0), (0, v1)] [(0, (-1))] kd m (zqI kd q)
    exact EvX.ret (r := (0, (-1))) (by decide +kernel) rfl ⟨_, rfl, rfl, h⟩
  · have h := h.2
    rcases (show v1 = 0 ∨ v1 = 1 ∨ v1 = 2 ∨ v1 = 3 ∨ v1 = 4 ∨ v1 = 5 ∨ v1 = 6 ∨ v1 = 7 by omega) with hk | hk | hk | hk | hk | hk | hk | hk
    · have h := h.1 hk
      have ek : (v1 - 0).toNat = 0 := by omega
      rw [ek]
      show Ev (d + 1) M_Mo_count 0 0 48 [(2, v0), (0, v1)] [] kd m (zqI kd q)
      obtain ⟨o1, o2, h⟩ := h
      refine EvX.blk (pc' := 54) [(.aload_n 0, 0, 0), (.getfield 9, 8, 0), (.iload_n 1, 0, 0), (.iaload, 0, 0)] (by decide +kernel) ⟨g_Mo_9, trivial⟩ ⟨o1, o2, ?_⟩
      show Ev (d + 1) M_Mo_count 0 0 54 [(2, v0), (0, v1)] [(0, m (m v0 0) v1)] kd m (zqI kd q)
      exact EvX.ret (r := (0, m (m v0 0) v1)) (by decide +kernel) rfl ⟨_, rfl, rfl, h⟩
    · have h := h.2.1 hk
      have ek : (v1 - 0).toNat = 1 := by omega
      rw [ek]
      show Ev (d + 1) M_Mo_count 0 0 48 [(2, v0), (0, v1)] [] kd m (zqI kd q)
      obtain ⟨o1, o2, h⟩ := h
      refine EvX.blk (pc' := 54) [(.aload_n 0, 0, 0), (.getfield 9, 8, 0), (.iload_n 1, 0, 0), (.iaload, 0, 0)] (by decide +kernel) ⟨g_Mo_9, trivial⟩ ⟨o1, o2, ?_⟩
      show Ev (d + 1) M_Mo_count 0 0 54 [(2, v0), (0, v1)] [(0, m (m v0 0) v1)] kd m (zqI kd q)
      exact EvX.ret (r := (0, m (m v0 0) v1)) (by decide +kernel) rfl ⟨_, rfl, rfl, h⟩
    · have h := h.2.2.1 hk
      have ek : (v1 - 0).toNat = 2 := by omega
      rw [ek]
      show Ev (d + 1) M_Mo_count 0 0 48 [(2, v0), (0, v1)] [] kd m (zqI kd q)
      obtain ⟨o1, o2, h⟩ := h
      refine EvX.blk (pc' := 54) [(.aload_n 0, 0, 0), (.getfield 9, 8, 0), (.iload_n 1, 0, 0), (.iaload, 0, 0)] (by decide +kernel) ⟨g_Mo_9, trivial⟩ ⟨o1, o2, ?_⟩
      show Ev (d + 1) M_Mo_count 0 0 54 [(2, v0), (0, v1)] [(0, m (m v0 0) v1)] kd m (zqI kd q)
      exact EvX.ret (r := (0, m (m v0 0) v1)) (by decide +kernel) rfl ⟨_, rfl, rfl, h⟩
    · have h := h.2.2.2.1 hk
      have ek : (v1 - 0).toNat = 3 := by omega
      rw [ek]
      show Ev (d + 1) M_Mo_count 0 0 48 [(2, v0), (0, v1)] [] kd m (zqI kd q)
      obtain ⟨o1, o2, h⟩ := h
      refine EvX.blk (pc' := 54) [(.aload_n 0, 0, 0), (.getfield 9, 8, 0), (.iload_n 1, 0, 0), (.iaload, 0, 0)] (by decide +kernel) ⟨g_Mo_9, trivial⟩ ⟨o1, o2, ?_⟩
      show Ev (d + 1) M_Mo_count 0 0 54 [(2, v0), (0, v1)] [(0, m (m v0 0) v1)] kd m (zqI kd q)
      exact EvX.ret (r := (0, m (m v0 0) v1)) (by decide +kernel) rfl ⟨_, rfl, rfl, h⟩
    · have h := h.2.2.2.2.1 hk
      have ek : (v1 - 0).toNat = 4 := by omega
      rw [ek]
      show Ev (d + 1) M_Mo_count 0 0 55 [(2, v0), (0, v1)] [] kd m (zqI kd q)
      refine EvX.blk (pc' := 56) [(.aload_n 0, 0, 0)] (by decide +kernel) trivial ?_
      show Ev (d + 1) M_Mo_count 0 0 56 [(2, v0), (0, v1)] [(2, v0)] kd m (zqI kd q)
      obtain ⟨ov, h⟩ := h
      obtain ⟨q1, hq, h⟩ := h
      refine EvX.callV (c := 8) (mc := 0) (ms := 0) (as := []) (st := []) (by decide +kernel) l_Mo_242 k_Mo_winsMany v_Mo_winsMany a_Mo_winsMany (by decide) (Nat.le_of_ble_eq_true rfl) rfl ov hq (fun r kd1 m3 hr => ?_)
      obtain ⟨x2, rfl, hk, hr⟩ := hr
      subst kd1
      have h := h x2 m3 hr
      show Ev (d + 1) M_Mo_count 0 0 59 [(2, v0), (0, v1)] [(0, x2)] kd m3 (zqI kd q)
      exact EvX.ret (r := (0, x2)) (by decide +kernel) rfl ⟨_, rfl, rfl, h⟩
    · have h := h.2.2.2.2.2.1 hk
      have ek : (v1 - 0).toNat = 5 := by omega
      rw [ek]
      show Ev (d + 1) M_Mo_count 0 0 60 [(2, v0), (0, v1)] [] kd m (zqI kd q)
      obtain ⟨o1, h⟩ := h
      refine EvX.blk (pc' := 64) [(.aload_n 0, 0, 0), (.getfield 160, 8, 6)] (by decide +kernel) ⟨g_Mo_160, trivial⟩ ⟨o1, ?_⟩
      show Ev (d + 1) M_Mo_count 0 0 64 [(2, v0), (0, v1)] [(0, m v0 6)] kd m (zqI kd q)
      exact EvX.ret (r := (0, m v0 6)) (by decide +kernel) rfl ⟨_, rfl, rfl, h⟩
    · have h := h.2.2.2.2.2.2.1 hk
      have ek : (v1 - 0).toNat = 6 := by omega
      rw [ek]
      show Ev (d + 1) M_Mo_count 0 0 65 [(2, v0), (0, v1)] [] kd m (zqI kd q)
      obtain ⟨o1, h⟩ := h
      refine EvX.blk (pc' := 69) [(.aload_n 0, 0, 0), (.getfield 64, 8, 8)] (by decide +kernel) ⟨g_Mo_64, trivial⟩ ⟨o1, ?_⟩
      show Ev (d + 1) M_Mo_count 0 0 69 [(2, v0), (0, v1)] [(0, m v0 8)] kd m (zqI kd q)
      exact EvX.ret (r := (0, m v0 8)) (by decide +kernel) rfl ⟨_, rfl, rfl, h⟩
    · have h := h.2.2.2.2.2.2.2 hk
      have ek : (v1 - 0).toNat = 7 := by omega
      rw [ek]
      show Ev (d + 1) M_Mo_count 0 0 70 [(2, v0), (0, v1)] [] kd m (zqI kd q)
      obtain ⟨o1, o2, h⟩ := h
      refine EvX.blk (pc' := 76) [(.aload_n 0, 0, 0), (.getfield 25, 8, 5), (.iconst 0, 0, 0), (.baload, 1, 0)] (by decide +kernel) ⟨g_Mo_25, trivial⟩ ⟨o1, Or.inl rfl, o2, ?_⟩
      show Ev (d + 1) M_Mo_count 0 0 76 [(2, v0), (0, v1)] [(0, m (m v0 5) 0)] kd m (zqI kd q)
      obtain ⟨q4, hq, h⟩ := h
      refine EvX.callS (mc := 0) (ms := 0) (as := [(0, m (m v0 5) 0)]) (st := []) (by decide +kernel) l_Mo_204 k_Mo_truth s_Mo_truth a_Mo_truth (by decide) (Nat.le_of_ble_eq_true rfl) hq (fun r kd1 m6 hr => ?_)
      obtain ⟨x5, rfl, hk, hr⟩ := hr
      subst kd1
      have h := h x5 m6 hr
      show Ev (d + 1) M_Mo_count 0 0 79 [(2, v0), (0, v1)] [(0, x5)] kd m6 (zqI kd q)
      obtain ⟨o1, o2, h⟩ := h
      refine EvX.blk (pc' := 85) [(.aload_n 0, 0, 0), (.getfield 25, 8, 5), (.iconst 1, 0, 0), (.baload, 1, 0)] (by decide +kernel) ⟨g_Mo_25, trivial⟩ ⟨o1, Or.inl rfl, o2, ?_⟩
      show Ev (d + 1) M_Mo_count 0 0 85 [(2, v0), (0, v1)] [(0, m6 (m6 v0 5) 1), (0, x5)] kd m6 (zqI kd q)
      obtain ⟨q7, hq, h⟩ := h
      refine EvX.callS (mc := 0) (ms := 0) (as := [(0, m6 (m6 v0 5) 1)]) (st := [(0, x5)]) (by decide +kernel) l_Mo_204 k_Mo_truth s_Mo_truth a_Mo_truth (by decide) (Nat.le_of_ble_eq_true rfl) hq (fun r kd1 m9 hr => ?_)
      obtain ⟨x8, rfl, hk, hr⟩ := hr
      subst kd1
      have h := h x8 m9 hr
      show Ev (d + 1) M_Mo_count 0 0 88 [(2, v0), (0, v1)] [(0, x8), (0, x5)] kd m9 (zqI kd q)
      refine EvX.blk (pc' := 91) [(.iconst 1, 0, 0), (.ishl, 0, 0), (.ior, 0, 0)] (by decide +kernel) trivial ?_
      show Ev (d + 1) M_Mo_count 0 0 91 [(2, v0), (0, v1)] [(0, zor x5 (zshl x8 1))] kd m9 (zqI kd q)
      exact EvX.ret (r := (0, zor x5 (zshl x8 1))) (by decide +kernel) rfl ⟨_, rfl, rfl, h⟩
theorem S_Mo_count {d : Nat} {kd : ZK} {m : ZM} {q : Int → ZM → Prop} {v0 v1 : Int} (h : (((v1 < 0 ∨ 7 < v1) → q (-1) m) ∧ (v1 = 0 → (zobj kd v0 8 ∧ zIn kd (m v0 0) 0 v1 ∧ q (m (m v0 0) v1) m)) ∧ (v1 = 1 → (zobj kd v0 8 ∧ zIn kd (m v0 0) 0 v1 ∧ q (m (m v0 0) v1) m)) ∧ (v1 = 2 → (zobj kd v0 8 ∧ zIn kd (m v0 0) 0 v1 ∧ q (m (m v0 0) v1) m)) ∧ (v1 = 3 → (zobj kd v0 8 ∧ zIn kd (m v0 0) 0 v1 ∧ q (m (m v0 0) v1) m)) ∧ (v1 = 4 → (zobj kd v0 8 ∧ ∃ q1, CtI d M_Mo_winsMany [(2, v0)] kd m q1 ∧ ∀ x2 m3, q1 x2 m3 → q x2 m3)) ∧ (v1 = 5 → (zobj kd v0 8 ∧ q (m v0 6) m)) ∧ (v1 = 6 → (zobj kd v0 8 ∧ q (m v0 8) m)) ∧ (v1 = 7 → (zobj kd v0 8 ∧ zIn kd (m v0 5) 1 0 ∧ (∃ q4, CtI d M_Mo_truth [(0, m (m v0 5) 0)] kd m q4 ∧ ∀ x5 m6, q4 x5 m6 → (zobj kd v0 8 ∧ zIn kd (m6 v0 5) 1 1 ∧ (∃ q7, CtI d M_Mo_truth [(0, m6 (m6 v0 5) 1)] kd m6 q7 ∧ ∀ x8 m9, q7 x8 m9 → q (zor x5 (zshl x8 1)) m9))))))) : CtI (d + 1) M_Mo_count [(2, v0), (0, v1)] kd m q :=
  Ct.start k_Mo_count (Nat.le_of_ble_eq_true rfl) ⟨1, Or.inr (Or.inl ⟨rfl, rfl⟩)⟩ (T_Mo_count_0 h)
